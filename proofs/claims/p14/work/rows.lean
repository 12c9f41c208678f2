section
-- ===== PART A: goes FIRST, ahead of the names: the tables' words, and 'selects' of the private methods out of them =====
/-- a private method of a class that the tables say can be made, by its rows of tables_1 -/
def lw_okq (q : MethodName × Nat) : Prop := (q.1.cls ≠ "java/lang/invoke/MethodHandle" ∧ q.1.cls ≠ "java/lang/invoke/VarHandle") ∧ Cond.instantiable q.1.cls q.2 ∈ tables_1 ∧ Cond.privateMethod q.1 ∈ tables_1 ∧ Cond.instanceMethod q.1 ∈ tables_1
theorem lw_p0 : lw_okq (⟨"PackWatch$History", "place", "(I)I"⟩, 3) := ⟨⟨by decide +kernel, by decide +kernel⟩, List.mem_of_getElem? (i := 346) (by decide +kernel), List.mem_of_getElem? (i := 399) (by decide +kernel), List.mem_of_getElem? (i := 400) (by decide +kernel)⟩
theorem lw_p1 : lw_okq (⟨"PackWatch$History", "stateAt", "(I)LPackWatch$State;"⟩, 3) := ⟨⟨by decide +kernel, by decide +kernel⟩, List.mem_of_getElem? (i := 346) (by decide +kernel), List.mem_of_getElem? (i := 403) (by decide +kernel), List.mem_of_getElem? (i := 404) (by decide +kernel)⟩
theorem lw_p2 : lw_okq (⟨"PackWatch$State", "moveBus", "()Z"⟩, 17) := ⟨⟨by decide +kernel, by decide +kernel⟩, List.mem_of_getElem? (i := 27) (by decide +kernel), List.mem_of_getElem? (i := 523) (by decide +kernel), List.mem_of_getElem? (i := 524) (by decide +kernel)⟩
theorem lw_p3 : lw_okq (⟨"PackWatch$State", "areActual", "(I)Z"⟩, 17) := ⟨⟨by decide +kernel, by decide +kernel⟩, List.mem_of_getElem? (i := 27) (by decide +kernel), List.mem_of_getElem? (i := 538) (by decide +kernel), List.mem_of_getElem? (i := 539) (by decide +kernel)⟩
theorem lw_p4 : lw_okq (⟨"PackWatch$State", "orderedBits", "()I"⟩, 17) := ⟨⟨by decide +kernel, by decide +kernel⟩, List.mem_of_getElem? (i := 27) (by decide +kernel), List.mem_of_getElem? (i := 546) (by decide +kernel), List.mem_of_getElem? (i := 547) (by decide +kernel)⟩
theorem lw_p5 : lw_okq (⟨"PackWatch$State", "letCurrent", "()V"⟩, 17) := ⟨⟨by decide +kernel, by decide +kernel⟩, List.mem_of_getElem? (i := 27) (by decide +kernel), List.mem_of_getElem? (i := 554) (by decide +kernel), List.mem_of_getElem? (i := 555) (by decide +kernel)⟩
theorem lw_p6 : lw_okq (⟨"PackWatch$State", "countHeldBack", "(I)V"⟩, 17) := ⟨⟨by decide +kernel, by decide +kernel⟩, List.mem_of_getElem? (i := 27) (by decide +kernel), List.mem_of_getElem? (i := 579) (by decide +kernel), List.mem_of_getElem? (i := 580) (by decide +kernel)⟩
theorem lw_p7 : lw_okq (⟨"PackWatch$State", "passCells", "()V"⟩, 17) := ⟨⟨by decide +kernel, by decide +kernel⟩, List.mem_of_getElem? (i := 27) (by decide +kernel), List.mem_of_getElem? (i := 583) (by decide +kernel), List.mem_of_getElem? (i := 584) (by decide +kernel)⟩
theorem lw_p8 : lw_okq (⟨"PackWatch$Cell", "wear", "(I)V"⟩, 20) := ⟨⟨by decide +kernel, by decide +kernel⟩, List.mem_of_getElem? (i := 157) (by decide +kernel), List.mem_of_getElem? (i := 594) (by decide +kernel), List.mem_of_getElem? (i := 595) (by decide +kernel)⟩
theorem lw_p9 : lw_okq (⟨"PackWatch$State", "balance", "()V"⟩, 17) := ⟨⟨by decide +kernel, by decide +kernel⟩, List.mem_of_getElem? (i := 27) (by decide +kernel), List.mem_of_getElem? (i := 602) (by decide +kernel), List.mem_of_getElem? (i := 603) (by decide +kernel)⟩
theorem lw_p10 : lw_okq (⟨"PackWatch$State", "shuntCells", "()V"⟩, 17) := ⟨⟨by decide +kernel, by decide +kernel⟩, List.mem_of_getElem? (i := 27) (by decide +kernel), List.mem_of_getElem? (i := 606) (by decide +kernel), List.mem_of_getElem? (i := 607) (by decide +kernel)⟩
theorem lw_p11 : lw_okq (⟨"PackWatch$State", "greatestAbove", "(II)I"⟩, 17) := ⟨⟨by decide +kernel, by decide +kernel⟩, List.mem_of_getElem? (i := 27) (by decide +kernel), List.mem_of_getElem? (i := 614) (by decide +kernel), List.mem_of_getElem? (i := 615) (by decide +kernel)⟩
theorem lw_p12 : lw_okq (⟨"PackWatch$State", "shuttle", "(LPackWatch$Cell;LPackWatch$Cell;)V"⟩, 17) := ⟨⟨by decide +kernel, by decide +kernel⟩, List.mem_of_getElem? (i := 27) (by decide +kernel), List.mem_of_getElem? (i := 622) (by decide +kernel), List.mem_of_getElem? (i := 623) (by decide +kernel)⟩
theorem lw_p13 : lw_okq (⟨"PackWatch$State", "measure", "()V"⟩, 17) := ⟨⟨by decide +kernel, by decide +kernel⟩, List.mem_of_getElem? (i := 27) (by decide +kernel), List.mem_of_getElem? (i := 632) (by decide +kernel), List.mem_of_getElem? (i := 633) (by decide +kernel)⟩
theorem lw_p14 : lw_okq (⟨"PackWatch$State", "taper", "()V"⟩, 17) := ⟨⟨by decide +kernel, by decide +kernel⟩, List.mem_of_getElem? (i := 27) (by decide +kernel), List.mem_of_getElem? (i := 651) (by decide +kernel), List.mem_of_getElem? (i := 652) (by decide +kernel)⟩
theorem lw_p15 : lw_okq (⟨"PackWatch$State", "faultsOfCells", "()I"⟩, 17) := ⟨⟨by decide +kernel, by decide +kernel⟩, List.mem_of_getElem? (i := 27) (by decide +kernel), List.mem_of_getElem? (i := 655) (by decide +kernel), List.mem_of_getElem? (i := 656) (by decide +kernel)⟩
def lw_privs_1 : List (MethodName × Nat) := [(⟨"PackWatch$History", "place", "(I)I"⟩, 3), (⟨"PackWatch$History", "stateAt", "(I)LPackWatch$State;"⟩, 3), (⟨"PackWatch$State", "moveBus", "()Z"⟩, 17), (⟨"PackWatch$State", "areActual", "(I)Z"⟩, 17), (⟨"PackWatch$State", "orderedBits", "()I"⟩, 17), (⟨"PackWatch$State", "letCurrent", "()V"⟩, 17), (⟨"PackWatch$State", "countHeldBack", "(I)V"⟩, 17), (⟨"PackWatch$State", "passCells", "()V"⟩, 17), (⟨"PackWatch$Cell", "wear", "(I)V"⟩, 20), (⟨"PackWatch$State", "balance", "()V"⟩, 17), (⟨"PackWatch$State", "shuntCells", "()V"⟩, 17), (⟨"PackWatch$State", "greatestAbove", "(II)I"⟩, 17), (⟨"PackWatch$State", "shuttle", "(LPackWatch$Cell;LPackWatch$Cell;)V"⟩, 17), (⟨"PackWatch$State", "measure", "()V"⟩, 17), (⟨"PackWatch$State", "taper", "()V"⟩, 17), (⟨"PackWatch$State", "faultsOfCells", "()I"⟩, 17)]
theorem lw_r1 : ∀ q ∈ lw_privs_1, lw_okq q := List.forall_mem_cons.mpr ⟨lw_p0, List.forall_mem_cons.mpr ⟨lw_p1, List.forall_mem_cons.mpr ⟨lw_p2, List.forall_mem_cons.mpr ⟨lw_p3, List.forall_mem_cons.mpr ⟨lw_p4, List.forall_mem_cons.mpr ⟨lw_p5, List.forall_mem_cons.mpr ⟨lw_p6, List.forall_mem_cons.mpr ⟨lw_p7, List.forall_mem_cons.mpr ⟨lw_p8, List.forall_mem_cons.mpr ⟨lw_p9, List.forall_mem_cons.mpr ⟨lw_p10, List.forall_mem_cons.mpr ⟨lw_p11, List.forall_mem_cons.mpr ⟨lw_p12, List.forall_mem_cons.mpr ⟨lw_p13, List.forall_mem_cons.mpr ⟨lw_p14, List.forall_mem_cons.mpr ⟨lw_p15, fun _ h => absurd h List.not_mem_nil⟩⟩⟩⟩⟩⟩⟩⟩⟩⟩⟩⟩⟩⟩⟩⟩
theorem lw_p16 : lw_okq (⟨"PackWatch$State", "faultsOfPack", "()I"⟩, 17) := ⟨⟨by decide +kernel, by decide +kernel⟩, List.mem_of_getElem? (i := 27) (by decide +kernel), List.mem_of_getElem? (i := 663) (by decide +kernel), List.mem_of_getElem? (i := 664) (by decide +kernel)⟩
theorem lw_p17 : lw_okq (⟨"PackWatch$State", "spreadOf", "(II)I"⟩, 17) := ⟨⟨by decide +kernel, by decide +kernel⟩, List.mem_of_getElem? (i := 27) (by decide +kernel), List.mem_of_getElem? (i := 676) (by decide +kernel), List.mem_of_getElem? (i := 677) (by decide +kernel)⟩
theorem lw_p18 : lw_okq (⟨"PackWatch$Lines", "place", "(I)I"⟩, 4) := ⟨⟨by decide +kernel, by decide +kernel⟩, List.mem_of_getElem? (i := 102) (by decide +kernel), List.mem_of_getElem? (i := 696) (by decide +kernel), List.mem_of_getElem? (i := 697) (by decide +kernel)⟩
theorem lw_p19 : lw_okq (⟨"PackWatch$State", "keepTrack", "()V"⟩, 17) := ⟨⟨by decide +kernel, by decide +kernel⟩, List.mem_of_getElem? (i := 27) (by decide +kernel), List.mem_of_getElem? (i := 700) (by decide +kernel), List.mem_of_getElem? (i := 701) (by decide +kernel)⟩
theorem lw_p20 : lw_okq (⟨"PackWatch$Turns", "goesOn", "(I)Z"⟩, 3) := ⟨⟨by decide +kernel, by decide +kernel⟩, List.mem_of_getElem? (i := 163) (by decide +kernel), List.mem_of_getElem? (i := 713) (by decide +kernel), List.mem_of_getElem? (i := 714) (by decide +kernel)⟩
theorem lw_p21 : lw_okq (⟨"PackWatch$Turns", "add", "(I)V"⟩, 3) := ⟨⟨by decide +kernel, by decide +kernel⟩, List.mem_of_getElem? (i := 163) (by decide +kernel), List.mem_of_getElem? (i := 717) (by decide +kernel), List.mem_of_getElem? (i := 718) (by decide +kernel)⟩
theorem lw_p22 : lw_okq (⟨"PackWatch$Turns", "countCycles", "()V"⟩, 3) := ⟨⟨by decide +kernel, by decide +kernel⟩, List.mem_of_getElem? (i := 163) (by decide +kernel), List.mem_of_getElem? (i := 721) (by decide +kernel), List.mem_of_getElem? (i := 722) (by decide +kernel)⟩
theorem lw_p23 : lw_okq (⟨"PackWatch$Turns", "way", "(I)I"⟩, 3) := ⟨⟨by decide +kernel, by decide +kernel⟩, List.mem_of_getElem? (i := 163) (by decide +kernel), List.mem_of_getElem? (i := 725) (by decide +kernel), List.mem_of_getElem? (i := 726) (by decide +kernel)⟩
theorem lw_p24 : lw_okq (⟨"PackWatch$State", "obeyRules", "()V"⟩, 17) := ⟨⟨by decide +kernel, by decide +kernel⟩, List.mem_of_getElem? (i := 27) (by decide +kernel), List.mem_of_getElem? (i := 730) (by decide +kernel), List.mem_of_getElem? (i := 731) (by decide +kernel)⟩
theorem lw_p25 : lw_okq (⟨"PackWatch$State", "placeOf", "(I)I"⟩, 17) := ⟨⟨by decide +kernel, by decide +kernel⟩, List.mem_of_getElem? (i := 27) (by decide +kernel), List.mem_of_getElem? (i := 950) (by decide +kernel), List.mem_of_getElem? (i := 951) (by decide +kernel)⟩
theorem lw_p26 : lw_okq (⟨"PackWatch", "planHours", "(II)V"⟩, 7) := ⟨⟨by decide +kernel, by decide +kernel⟩, List.mem_of_getElem? (i := 19) (by decide +kernel), List.mem_of_getElem? (i := 1008) (by decide +kernel), List.mem_of_getElem? (i := 1009) (by decide +kernel)⟩
theorem lw_p27 : lw_okq (⟨"PackWatch", "planOneHour", "(IIJ)V"⟩, 7) := ⟨⟨by decide +kernel, by decide +kernel⟩, List.mem_of_getElem? (i := 19) (by decide +kernel), List.mem_of_getElem? (i := 1016) (by decide +kernel), List.mem_of_getElem? (i := 1017) (by decide +kernel)⟩
theorem lw_p28 : lw_okq (⟨"PackWatch", "bears", "(II)Z"⟩, 7) := ⟨⟨by decide +kernel, by decide +kernel⟩, List.mem_of_getElem? (i := 19) (by decide +kernel), List.mem_of_getElem? (i := 1137) (by decide +kernel), List.mem_of_getElem? (i := 1138) (by decide +kernel)⟩
theorem lw_p29 : lw_okq (⟨"PackWatch", "spreadBehind", "(III)I"⟩, 7) := ⟨⟨by decide +kernel, by decide +kernel⟩, List.mem_of_getElem? (i := 19) (by decide +kernel), List.mem_of_getElem? (i := 1145) (by decide +kernel), List.mem_of_getElem? (i := 1146) (by decide +kernel)⟩
theorem lw_p30 : lw_okq (⟨"PackWatchModel", "its", "(I)I"⟩, 10) := ⟨⟨by decide +kernel, by decide +kernel⟩, List.mem_of_getElem? (i := 1165) (by decide +kernel), List.mem_of_getElem? (i := 1174) (by decide +kernel), List.mem_of_getElem? (i := 1175) (by decide +kernel)⟩
theorem lw_p31 : lw_okq (⟨"PackWatchModel", "keep", "()V"⟩, 10) := ⟨⟨by decide +kernel, by decide +kernel⟩, List.mem_of_getElem? (i := 1165) (by decide +kernel), List.mem_of_getElem? (i := 1226) (by decide +kernel), List.mem_of_getElem? (i := 1227) (by decide +kernel)⟩
def lw_privs_2 : List (MethodName × Nat) := [(⟨"PackWatch$State", "faultsOfPack", "()I"⟩, 17), (⟨"PackWatch$State", "spreadOf", "(II)I"⟩, 17), (⟨"PackWatch$Lines", "place", "(I)I"⟩, 4), (⟨"PackWatch$State", "keepTrack", "()V"⟩, 17), (⟨"PackWatch$Turns", "goesOn", "(I)Z"⟩, 3), (⟨"PackWatch$Turns", "add", "(I)V"⟩, 3), (⟨"PackWatch$Turns", "countCycles", "()V"⟩, 3), (⟨"PackWatch$Turns", "way", "(I)I"⟩, 3), (⟨"PackWatch$State", "obeyRules", "()V"⟩, 17), (⟨"PackWatch$State", "placeOf", "(I)I"⟩, 17), (⟨"PackWatch", "planHours", "(II)V"⟩, 7), (⟨"PackWatch", "planOneHour", "(IIJ)V"⟩, 7), (⟨"PackWatch", "bears", "(II)Z"⟩, 7), (⟨"PackWatch", "spreadBehind", "(III)I"⟩, 7), (⟨"PackWatchModel", "its", "(I)I"⟩, 10), (⟨"PackWatchModel", "keep", "()V"⟩, 10)]
theorem lw_r2 : ∀ q ∈ lw_privs_2, lw_okq q := List.forall_mem_cons.mpr ⟨lw_p16, List.forall_mem_cons.mpr ⟨lw_p17, List.forall_mem_cons.mpr ⟨lw_p18, List.forall_mem_cons.mpr ⟨lw_p19, List.forall_mem_cons.mpr ⟨lw_p20, List.forall_mem_cons.mpr ⟨lw_p21, List.forall_mem_cons.mpr ⟨lw_p22, List.forall_mem_cons.mpr ⟨lw_p23, List.forall_mem_cons.mpr ⟨lw_p24, List.forall_mem_cons.mpr ⟨lw_p25, List.forall_mem_cons.mpr ⟨lw_p26, List.forall_mem_cons.mpr ⟨lw_p27, List.forall_mem_cons.mpr ⟨lw_p28, List.forall_mem_cons.mpr ⟨lw_p29, List.forall_mem_cons.mpr ⟨lw_p30, List.forall_mem_cons.mpr ⟨lw_p31, fun _ h => absurd h List.not_mem_nil⟩⟩⟩⟩⟩⟩⟩⟩⟩⟩⟩⟩⟩⟩⟩⟩
theorem lw_p32 : lw_okq (⟨"PackWatchModel", "let", "(III)V"⟩, 10) := ⟨⟨by decide +kernel, by decide +kernel⟩, List.mem_of_getElem? (i := 1165) (by decide +kernel), List.mem_of_getElem? (i := 1230) (by decide +kernel), List.mem_of_getElem? (i := 1231) (by decide +kernel)⟩
theorem lw_p33 : lw_okq (⟨"PackWatchModel", "chargeAt", "(II)I"⟩, 10) := ⟨⟨by decide +kernel, by decide +kernel⟩, List.mem_of_getElem? (i := 1165) (by decide +kernel), List.mem_of_getElem? (i := 1234) (by decide +kernel), List.mem_of_getElem? (i := 1235) (by decide +kernel)⟩
theorem lw_p34 : lw_okq (⟨"PackWatchModel", "get", "(II)I"⟩, 10) := ⟨⟨by decide +kernel, by decide +kernel⟩, List.mem_of_getElem? (i := 1165) (by decide +kernel), List.mem_of_getElem? (i := 1239) (by decide +kernel), List.mem_of_getElem? (i := 1240) (by decide +kernel)⟩
theorem lw_p35 : lw_okq (⟨"PackWatchModel", "partOf", "(I)I"⟩, 10) := ⟨⟨by decide +kernel, by decide +kernel⟩, List.mem_of_getElem? (i := 1165) (by decide +kernel), List.mem_of_getElem? (i := 1247) (by decide +kernel), List.mem_of_getElem? (i := 1248) (by decide +kernel)⟩
theorem lw_p36 : lw_okq (⟨"PackWatchModel", "partAt", "(II)I"⟩, 10) := ⟨⟨by decide +kernel, by decide +kernel⟩, List.mem_of_getElem? (i := 1165) (by decide +kernel), List.mem_of_getElem? (i := 1251) (by decide +kernel), List.mem_of_getElem? (i := 1252) (by decide +kernel)⟩
theorem lw_p37 : lw_okq (⟨"PackWatchModel", "full", "(I)I"⟩, 10) := ⟨⟨by decide +kernel, by decide +kernel⟩, List.mem_of_getElem? (i := 1165) (by decide +kernel), List.mem_of_getElem? (i := 1256) (by decide +kernel), List.mem_of_getElem? (i := 1257) (by decide +kernel)⟩
theorem lw_p38 : lw_okq (⟨"PackWatchModel", "isCell", "(I)Z"⟩, 10) := ⟨⟨by decide +kernel, by decide +kernel⟩, List.mem_of_getElem? (i := 1165) (by decide +kernel), List.mem_of_getElem? (i := 1264) (by decide +kernel), List.mem_of_getElem? (i := 1265) (by decide +kernel)⟩
theorem lw_p39 : lw_okq (⟨"PackWatchModel", "isSetting", "(II)Z"⟩, 10) := ⟨⟨by decide +kernel, by decide +kernel⟩, List.mem_of_getElem? (i := 1165) (by decide +kernel), List.mem_of_getElem? (i := 1276) (by decide +kernel), List.mem_of_getElem? (i := 1277) (by decide +kernel)⟩
theorem lw_p40 : lw_okq (⟨"PackWatchModel", "canRun", "(II)Z"⟩, 10) := ⟨⟨by decide +kernel, by decide +kernel⟩, List.mem_of_getElem? (i := 1165) (by decide +kernel), List.mem_of_getElem? (i := 1284) (by decide +kernel), List.mem_of_getElem? (i := 1285) (by decide +kernel)⟩
theorem lw_p41 : lw_okq (⟨"PackWatchModel", "secondsNow", "(I)I"⟩, 10) := ⟨⟨by decide +kernel, by decide +kernel⟩, List.mem_of_getElem? (i := 1165) (by decide +kernel), List.mem_of_getElem? (i := 1288) (by decide +kernel), List.mem_of_getElem? (i := 1289) (by decide +kernel)⟩
theorem lw_p42 : lw_okq (⟨"PackWatchModel", "second", "()I"⟩, 10) := ⟨⟨by decide +kernel, by decide +kernel⟩, List.mem_of_getElem? (i := 1165) (by decide +kernel), List.mem_of_getElem? (i := 1292) (by decide +kernel), List.mem_of_getElem? (i := 1293) (by decide +kernel)⟩
theorem lw_p43 : lw_okq (⟨"PackWatchModel", "goBus", "()V"⟩, 10) := ⟨⟨by decide +kernel, by decide +kernel⟩, List.mem_of_getElem? (i := 1165) (by decide +kernel), List.mem_of_getElem? (i := 1296) (by decide +kernel), List.mem_of_getElem? (i := 1297) (by decide +kernel)⟩
theorem lw_p44 : lw_okq (⟨"PackWatchModel", "packCalm", "()I"⟩, 10) := ⟨⟨by decide +kernel, by decide +kernel⟩, List.mem_of_getElem? (i := 1165) (by decide +kernel), List.mem_of_getElem? (i := 1300) (by decide +kernel), List.mem_of_getElem? (i := 1301) (by decide +kernel)⟩
theorem lw_p45 : lw_okq (⟨"PackWatchModel", "calmVolts", "(I)I"⟩, 10) := ⟨⟨by decide +kernel, by decide +kernel⟩, List.mem_of_getElem? (i := 1165) (by decide +kernel), List.mem_of_getElem? (i := 1304) (by decide +kernel), List.mem_of_getElem? (i := 1305) (by decide +kernel)⟩
theorem lw_p46 : lw_okq (⟨"PackWatchModel", "restOf", "(I)I"⟩, 10) := ⟨⟨by decide +kernel, by decide +kernel⟩, List.mem_of_getElem? (i := 1165) (by decide +kernel), List.mem_of_getElem? (i := 1308) (by decide +kernel), List.mem_of_getElem? (i := 1309) (by decide +kernel)⟩
theorem lw_p47 : lw_okq (⟨"PackWatchModel", "isLive", "()Z"⟩, 10) := ⟨⟨by decide +kernel, by decide +kernel⟩, List.mem_of_getElem? (i := 1165) (by decide +kernel), List.mem_of_getElem? (i := 1312) (by decide +kernel), List.mem_of_getElem? (i := 1313) (by decide +kernel)⟩
def lw_privs_3 : List (MethodName × Nat) := [(⟨"PackWatchModel", "let", "(III)V"⟩, 10), (⟨"PackWatchModel", "chargeAt", "(II)I"⟩, 10), (⟨"PackWatchModel", "get", "(II)I"⟩, 10), (⟨"PackWatchModel", "partOf", "(I)I"⟩, 10), (⟨"PackWatchModel", "partAt", "(II)I"⟩, 10), (⟨"PackWatchModel", "full", "(I)I"⟩, 10), (⟨"PackWatchModel", "isCell", "(I)Z"⟩, 10), (⟨"PackWatchModel", "isSetting", "(II)Z"⟩, 10), (⟨"PackWatchModel", "canRun", "(II)Z"⟩, 10), (⟨"PackWatchModel", "secondsNow", "(I)I"⟩, 10), (⟨"PackWatchModel", "second", "()I"⟩, 10), (⟨"PackWatchModel", "goBus", "()V"⟩, 10), (⟨"PackWatchModel", "packCalm", "()I"⟩, 10), (⟨"PackWatchModel", "calmVolts", "(I)I"⟩, 10), (⟨"PackWatchModel", "restOf", "(I)I"⟩, 10), (⟨"PackWatchModel", "isLive", "()Z"⟩, 10)]
theorem lw_r3 : ∀ q ∈ lw_privs_3, lw_okq q := List.forall_mem_cons.mpr ⟨lw_p32, List.forall_mem_cons.mpr ⟨lw_p33, List.forall_mem_cons.mpr ⟨lw_p34, List.forall_mem_cons.mpr ⟨lw_p35, List.forall_mem_cons.mpr ⟨lw_p36, List.forall_mem_cons.mpr ⟨lw_p37, List.forall_mem_cons.mpr ⟨lw_p38, List.forall_mem_cons.mpr ⟨lw_p39, List.forall_mem_cons.mpr ⟨lw_p40, List.forall_mem_cons.mpr ⟨lw_p41, List.forall_mem_cons.mpr ⟨lw_p42, List.forall_mem_cons.mpr ⟨lw_p43, List.forall_mem_cons.mpr ⟨lw_p44, List.forall_mem_cons.mpr ⟨lw_p45, List.forall_mem_cons.mpr ⟨lw_p46, List.forall_mem_cons.mpr ⟨lw_p47, fun _ h => absurd h List.not_mem_nil⟩⟩⟩⟩⟩⟩⟩⟩⟩⟩⟩⟩⟩⟩⟩⟩
theorem lw_p48 : lw_okq (⟨"PackWatchModel", "actual", "()I"⟩, 10) := ⟨⟨by decide +kernel, by decide +kernel⟩, List.mem_of_getElem? (i := 1165) (by decide +kernel), List.mem_of_getElem? (i := 1316) (by decide +kernel), List.mem_of_getElem? (i := 1317) (by decide +kernel)⟩
theorem lw_p49 : lw_okq (⟨"PackWatchModel", "ordered", "()I"⟩, 10) := ⟨⟨by decide +kernel, by decide +kernel⟩, List.mem_of_getElem? (i := 1165) (by decide +kernel), List.mem_of_getElem? (i := 1320) (by decide +kernel), List.mem_of_getElem? (i := 1321) (by decide +kernel)⟩
theorem lw_p50 : lw_okq (⟨"PackWatchModel", "goCurrent", "()V"⟩, 10) := ⟨⟨by decide +kernel, by decide +kernel⟩, List.mem_of_getElem? (i := 1165) (by decide +kernel), List.mem_of_getElem? (i := 1330) (by decide +kernel), List.mem_of_getElem? (i := 1331) (by decide +kernel)⟩
theorem lw_p51 : lw_okq (⟨"PackWatchModel", "limitOf", "(I)I"⟩, 10) := ⟨⟨by decide +kernel, by decide +kernel⟩, List.mem_of_getElem? (i := 1165) (by decide +kernel), List.mem_of_getElem? (i := 1334) (by decide +kernel), List.mem_of_getElem? (i := 1335) (by decide +kernel)⟩
theorem lw_p52 : lw_okq (⟨"PackWatchModel", "limitBy", "(II)I"⟩, 10) := ⟨⟨by decide +kernel, by decide +kernel⟩, List.mem_of_getElem? (i := 1165) (by decide +kernel), List.mem_of_getElem? (i := 1338) (by decide +kernel), List.mem_of_getElem? (i := 1339) (by decide +kernel)⟩
theorem lw_p53 : lw_okq (⟨"PackWatchModel", "tightest", "(I)I"⟩, 10) := ⟨⟨by decide +kernel, by decide +kernel⟩, List.mem_of_getElem? (i := 1165) (by decide +kernel), List.mem_of_getElem? (i := 1348) (by decide +kernel), List.mem_of_getElem? (i := 1349) (by decide +kernel)⟩
theorem lw_p54 : lw_okq (⟨"PackWatchModel", "goCells", "()V"⟩, 10) := ⟨⟨by decide +kernel, by decide +kernel⟩, List.mem_of_getElem? (i := 1165) (by decide +kernel), List.mem_of_getElem? (i := 1352) (by decide +kernel), List.mem_of_getElem? (i := 1353) (by decide +kernel)⟩
theorem lw_p55 : lw_okq (⟨"PackWatchModel", "goWarm", "(I)V"⟩, 10) := ⟨⟨by decide +kernel, by decide +kernel⟩, List.mem_of_getElem? (i := 1165) (by decide +kernel), List.mem_of_getElem? (i := 1356) (by decide +kernel), List.mem_of_getElem? (i := 1357) (by decide +kernel)⟩
theorem lw_p56 : lw_okq (⟨"PackWatchModel", "touch", "(I)V"⟩, 10) := ⟨⟨by decide +kernel, by decide +kernel⟩, List.mem_of_getElem? (i := 1165) (by decide +kernel), List.mem_of_getElem? (i := 1360) (by decide +kernel), List.mem_of_getElem? (i := 1361) (by decide +kernel)⟩
theorem lw_p57 : lw_okq (⟨"PackWatchModel", "goOld", "(I)V"⟩, 10) := ⟨⟨by decide +kernel, by decide +kernel⟩, List.mem_of_getElem? (i := 1165) (by decide +kernel), List.mem_of_getElem? (i := 1364) (by decide +kernel), List.mem_of_getElem? (i := 1365) (by decide +kernel)⟩
theorem lw_p58 : lw_okq (⟨"PackWatchModel", "hold", "(I)V"⟩, 10) := ⟨⟨by decide +kernel, by decide +kernel⟩, List.mem_of_getElem? (i := 1165) (by decide +kernel), List.mem_of_getElem? (i := 1371) (by decide +kernel), List.mem_of_getElem? (i := 1372) (by decide +kernel)⟩
theorem lw_p59 : lw_okq (⟨"PackWatchModel", "goBalance", "()V"⟩, 10) := ⟨⟨by decide +kernel, by decide +kernel⟩, List.mem_of_getElem? (i := 1165) (by decide +kernel), List.mem_of_getElem? (i := 1375) (by decide +kernel), List.mem_of_getElem? (i := 1376) (by decide +kernel)⟩
theorem lw_p60 : lw_okq (⟨"PackWatchModel", "shuntAll", "()V"⟩, 10) := ⟨⟨by decide +kernel, by decide +kernel⟩, List.mem_of_getElem? (i := 1165) (by decide +kernel), List.mem_of_getElem? (i := 1379) (by decide +kernel), List.mem_of_getElem? (i := 1380) (by decide +kernel)⟩
theorem lw_p61 : lw_okq (⟨"PackWatchModel", "leastPart", "()I"⟩, 10) := ⟨⟨by decide +kernel, by decide +kernel⟩, List.mem_of_getElem? (i := 1165) (by decide +kernel), List.mem_of_getElem? (i := 1383) (by decide +kernel), List.mem_of_getElem? (i := 1384) (by decide +kernel)⟩
theorem lw_p62 : lw_okq (⟨"PackWatchModel", "nextShunt", "(I)I"⟩, 10) := ⟨⟨by decide +kernel, by decide +kernel⟩, List.mem_of_getElem? (i := 1165) (by decide +kernel), List.mem_of_getElem? (i := 1387) (by decide +kernel), List.mem_of_getElem? (i := 1388) (by decide +kernel)⟩
theorem lw_p63 : lw_okq (⟨"PackWatchModel", "shuttle", "(I)V"⟩, 10) := ⟨⟨by decide +kernel, by decide +kernel⟩, List.mem_of_getElem? (i := 1165) (by decide +kernel), List.mem_of_getElem? (i := 1391) (by decide +kernel), List.mem_of_getElem? (i := 1392) (by decide +kernel)⟩
def lw_privs_4 : List (MethodName × Nat) := [(⟨"PackWatchModel", "actual", "()I"⟩, 10), (⟨"PackWatchModel", "ordered", "()I"⟩, 10), (⟨"PackWatchModel", "goCurrent", "()V"⟩, 10), (⟨"PackWatchModel", "limitOf", "(I)I"⟩, 10), (⟨"PackWatchModel", "limitBy", "(II)I"⟩, 10), (⟨"PackWatchModel", "tightest", "(I)I"⟩, 10), (⟨"PackWatchModel", "goCells", "()V"⟩, 10), (⟨"PackWatchModel", "goWarm", "(I)V"⟩, 10), (⟨"PackWatchModel", "touch", "(I)V"⟩, 10), (⟨"PackWatchModel", "goOld", "(I)V"⟩, 10), (⟨"PackWatchModel", "hold", "(I)V"⟩, 10), (⟨"PackWatchModel", "goBalance", "()V"⟩, 10), (⟨"PackWatchModel", "shuntAll", "()V"⟩, 10), (⟨"PackWatchModel", "leastPart", "()I"⟩, 10), (⟨"PackWatchModel", "nextShunt", "(I)I"⟩, 10), (⟨"PackWatchModel", "shuttle", "(I)V"⟩, 10)]
theorem lw_r4 : ∀ q ∈ lw_privs_4, lw_okq q := List.forall_mem_cons.mpr ⟨lw_p48, List.forall_mem_cons.mpr ⟨lw_p49, List.forall_mem_cons.mpr ⟨lw_p50, List.forall_mem_cons.mpr ⟨lw_p51, List.forall_mem_cons.mpr ⟨lw_p52, List.forall_mem_cons.mpr ⟨lw_p53, List.forall_mem_cons.mpr ⟨lw_p54, List.forall_mem_cons.mpr ⟨lw_p55, List.forall_mem_cons.mpr ⟨lw_p56, List.forall_mem_cons.mpr ⟨lw_p57, List.forall_mem_cons.mpr ⟨lw_p58, List.forall_mem_cons.mpr ⟨lw_p59, List.forall_mem_cons.mpr ⟨lw_p60, List.forall_mem_cons.mpr ⟨lw_p61, List.forall_mem_cons.mpr ⟨lw_p62, List.forall_mem_cons.mpr ⟨lw_p63, fun _ h => absurd h List.not_mem_nil⟩⟩⟩⟩⟩⟩⟩⟩⟩⟩⟩⟩⟩⟩⟩⟩
theorem lw_p64 : lw_okq (⟨"PackWatchModel", "goMeasure", "()V"⟩, 10) := ⟨⟨by decide +kernel, by decide +kernel⟩, List.mem_of_getElem? (i := 1165) (by decide +kernel), List.mem_of_getElem? (i := 1395) (by decide +kernel), List.mem_of_getElem? (i := 1396) (by decide +kernel)⟩
theorem lw_p65 : lw_okq (⟨"PackWatchModel", "voltsOf", "(I)I"⟩, 10) := ⟨⟨by decide +kernel, by decide +kernel⟩, List.mem_of_getElem? (i := 1165) (by decide +kernel), List.mem_of_getElem? (i := 1399) (by decide +kernel), List.mem_of_getElem? (i := 1400) (by decide +kernel)⟩
theorem lw_p66 : lw_okq (⟨"PackWatchModel", "restNow", "(I)V"⟩, 10) := ⟨⟨by decide +kernel, by decide +kernel⟩, List.mem_of_getElem? (i := 1165) (by decide +kernel), List.mem_of_getElem? (i := 1403) (by decide +kernel), List.mem_of_getElem? (i := 1404) (by decide +kernel)⟩
theorem lw_p67 : lw_okq (⟨"PackWatchModel", "leastBy", "(I)I"⟩, 10) := ⟨⟨by decide +kernel, by decide +kernel⟩, List.mem_of_getElem? (i := 1165) (by decide +kernel), List.mem_of_getElem? (i := 1407) (by decide +kernel), List.mem_of_getElem? (i := 1408) (by decide +kernel)⟩
theorem lw_p68 : lw_okq (⟨"PackWatchModel", "pack", "()I"⟩, 10) := ⟨⟨by decide +kernel, by decide +kernel⟩, List.mem_of_getElem? (i := 1165) (by decide +kernel), List.mem_of_getElem? (i := 1411) (by decide +kernel), List.mem_of_getElem? (i := 1412) (by decide +kernel)⟩
theorem lw_p69 : lw_okq (⟨"PackWatchModel", "goTaper", "()V"⟩, 10) := ⟨⟨by decide +kernel, by decide +kernel⟩, List.mem_of_getElem? (i := 1165) (by decide +kernel), List.mem_of_getElem? (i := 1415) (by decide +kernel), List.mem_of_getElem? (i := 1416) (by decide +kernel)⟩
theorem lw_p70 : lw_okq (⟨"PackWatchModel", "goFaults", "()I"⟩, 10) := ⟨⟨by decide +kernel, by decide +kernel⟩, List.mem_of_getElem? (i := 1165) (by decide +kernel), List.mem_of_getElem? (i := 1419) (by decide +kernel), List.mem_of_getElem? (i := 1420) (by decide +kernel)⟩
theorem lw_p71 : lw_okq (⟨"PackWatchModel", "isSo", "(I)Z"⟩, 10) := ⟨⟨by decide +kernel, by decide +kernel⟩, List.mem_of_getElem? (i := 1165) (by decide +kernel), List.mem_of_getElem? (i := 1423) (by decide +kernel), List.mem_of_getElem? (i := 1424) (by decide +kernel)⟩
theorem lw_p72 : lw_okq (⟨"PackWatchModel", "soBy", "(I)I"⟩, 10) := ⟨⟨by decide +kernel, by decide +kernel⟩, List.mem_of_getElem? (i := 1165) (by decide +kernel), List.mem_of_getElem? (i := 1427) (by decide +kernel), List.mem_of_getElem? (i := 1428) (by decide +kernel)⟩
theorem lw_p73 : lw_okq (⟨"PackWatchModel", "spreadOf", "()I"⟩, 10) := ⟨⟨by decide +kernel, by decide +kernel⟩, List.mem_of_getElem? (i := 1165) (by decide +kernel), List.mem_of_getElem? (i := 1431) (by decide +kernel), List.mem_of_getElem? (i := 1432) (by decide +kernel)⟩
theorem lw_p74 : lw_okq (⟨"PackWatchModel", "writeDown", "(I)V"⟩, 10) := ⟨⟨by decide +kernel, by decide +kernel⟩, List.mem_of_getElem? (i := 1165) (by decide +kernel), List.mem_of_getElem? (i := 1435) (by decide +kernel), List.mem_of_getElem? (i := 1436) (by decide +kernel)⟩
theorem lw_p75 : lw_okq (⟨"PackWatchModel", "goKept", "()V"⟩, 10) := ⟨⟨by decide +kernel, by decide +kernel⟩, List.mem_of_getElem? (i := 1165) (by decide +kernel), List.mem_of_getElem? (i := 1439) (by decide +kernel), List.mem_of_getElem? (i := 1440) (by decide +kernel)⟩
theorem lw_p76 : lw_okq (⟨"PackWatchModel", "goTurn", "(I)V"⟩, 10) := ⟨⟨by decide +kernel, by decide +kernel⟩, List.mem_of_getElem? (i := 1165) (by decide +kernel), List.mem_of_getElem? (i := 1443) (by decide +kernel), List.mem_of_getElem? (i := 1444) (by decide +kernel)⟩
theorem lw_p77 : lw_okq (⟨"PackWatchModel", "turnAt", "(II)I"⟩, 10) := ⟨⟨by decide +kernel, by decide +kernel⟩, List.mem_of_getElem? (i := 1165) (by decide +kernel), List.mem_of_getElem? (i := 1447) (by decide +kernel), List.mem_of_getElem? (i := 1448) (by decide +kernel)⟩
theorem lw_p78 : lw_okq (⟨"PackWatchModel", "dropTurn", "(II)V"⟩, 10) := ⟨⟨by decide +kernel, by decide +kernel⟩, List.mem_of_getElem? (i := 1165) (by decide +kernel), List.mem_of_getElem? (i := 1451) (by decide +kernel), List.mem_of_getElem? (i := 1452) (by decide +kernel)⟩
theorem lw_p79 : lw_okq (⟨"PackWatchModel", "count", "(I)V"⟩, 10) := ⟨⟨by decide +kernel, by decide +kernel⟩, List.mem_of_getElem? (i := 1165) (by decide +kernel), List.mem_of_getElem? (i := 1455) (by decide +kernel), List.mem_of_getElem? (i := 1456) (by decide +kernel)⟩
def lw_privs_5 : List (MethodName × Nat) := [(⟨"PackWatchModel", "goMeasure", "()V"⟩, 10), (⟨"PackWatchModel", "voltsOf", "(I)I"⟩, 10), (⟨"PackWatchModel", "restNow", "(I)V"⟩, 10), (⟨"PackWatchModel", "leastBy", "(I)I"⟩, 10), (⟨"PackWatchModel", "pack", "()I"⟩, 10), (⟨"PackWatchModel", "goTaper", "()V"⟩, 10), (⟨"PackWatchModel", "goFaults", "()I"⟩, 10), (⟨"PackWatchModel", "isSo", "(I)Z"⟩, 10), (⟨"PackWatchModel", "soBy", "(I)I"⟩, 10), (⟨"PackWatchModel", "spreadOf", "()I"⟩, 10), (⟨"PackWatchModel", "writeDown", "(I)V"⟩, 10), (⟨"PackWatchModel", "goKept", "()V"⟩, 10), (⟨"PackWatchModel", "goTurn", "(I)V"⟩, 10), (⟨"PackWatchModel", "turnAt", "(II)I"⟩, 10), (⟨"PackWatchModel", "dropTurn", "(II)V"⟩, 10), (⟨"PackWatchModel", "count", "(I)V"⟩, 10)]
theorem lw_r5 : ∀ q ∈ lw_privs_5, lw_okq q := List.forall_mem_cons.mpr ⟨lw_p64, List.forall_mem_cons.mpr ⟨lw_p65, List.forall_mem_cons.mpr ⟨lw_p66, List.forall_mem_cons.mpr ⟨lw_p67, List.forall_mem_cons.mpr ⟨lw_p68, List.forall_mem_cons.mpr ⟨lw_p69, List.forall_mem_cons.mpr ⟨lw_p70, List.forall_mem_cons.mpr ⟨lw_p71, List.forall_mem_cons.mpr ⟨lw_p72, List.forall_mem_cons.mpr ⟨lw_p73, List.forall_mem_cons.mpr ⟨lw_p74, List.forall_mem_cons.mpr ⟨lw_p75, List.forall_mem_cons.mpr ⟨lw_p76, List.forall_mem_cons.mpr ⟨lw_p77, List.forall_mem_cons.mpr ⟨lw_p78, List.forall_mem_cons.mpr ⟨lw_p79, fun _ h => absurd h List.not_mem_nil⟩⟩⟩⟩⟩⟩⟩⟩⟩⟩⟩⟩⟩⟩⟩⟩
theorem lw_p80 : lw_okq (⟨"PackWatchModel", "goRules", "()V"⟩, 10) := ⟨⟨by decide +kernel, by decide +kernel⟩, List.mem_of_getElem? (i := 1165) (by decide +kernel), List.mem_of_getElem? (i := 1459) (by decide +kernel), List.mem_of_getElem? (i := 1460) (by decide +kernel)⟩
theorem lw_p81 : lw_okq (⟨"PackWatchModel", "clear", "(III)I"⟩, 10) := ⟨⟨by decide +kernel, by decide +kernel⟩, List.mem_of_getElem? (i := 1165) (by decide +kernel), List.mem_of_getElem? (i := 1517) (by decide +kernel), List.mem_of_getElem? (i := 1518) (by decide +kernel)⟩
theorem lw_p82 : lw_okq (⟨"PackWatchModel", "driveLong", "()I"⟩, 10) := ⟨⟨by decide +kernel, by decide +kernel⟩, List.mem_of_getElem? (i := 1165) (by decide +kernel), List.mem_of_getElem? (i := 1529) (by decide +kernel), List.mem_of_getElem? (i := 1530) (by decide +kernel)⟩
theorem lw_p83 : lw_okq (⟨"PackWatchModel", "driveNow", "()I"⟩, 10) := ⟨⟨by decide +kernel, by decide +kernel⟩, List.mem_of_getElem? (i := 1165) (by decide +kernel), List.mem_of_getElem? (i := 1533) (by decide +kernel), List.mem_of_getElem? (i := 1534) (by decide +kernel)⟩
theorem lw_p84 : lw_okq (⟨"PackWatchModel", "ofCell", "(II)I"⟩, 10) := ⟨⟨by decide +kernel, by decide +kernel⟩, List.mem_of_getElem? (i := 1165) (by decide +kernel), List.mem_of_getElem? (i := 1546) (by decide +kernel), List.mem_of_getElem? (i := 1547) (by decide +kernel)⟩
theorem lw_p85 : lw_okq (⟨"PackWatchModel", "goalOf", "()I"⟩, 10) := ⟨⟨by decide +kernel, by decide +kernel⟩, List.mem_of_getElem? (i := 1165) (by decide +kernel), List.mem_of_getElem? (i := 1685) (by decide +kernel), List.mem_of_getElem? (i := 1686) (by decide +kernel)⟩
theorem lw_p86 : lw_okq (⟨"PackWatchModel", "differ", "(I)I"⟩, 10) := ⟨⟨by decide +kernel, by decide +kernel⟩, List.mem_of_getElem? (i := 1165) (by decide +kernel), List.mem_of_getElem? (i := 1700) (by decide +kernel), List.mem_of_getElem? (i := 1701) (by decide +kernel)⟩
theorem lw_p87 : lw_okq (⟨"PackWatchModel", "layPrices", "()V"⟩, 10) := ⟨⟨by decide +kernel, by decide +kernel⟩, List.mem_of_getElem? (i := 1165) (by decide +kernel), List.mem_of_getElem? (i := 1708) (by decide +kernel), List.mem_of_getElem? (i := 1709) (by decide +kernel)⟩
theorem lw_p88 : lw_okq (⟨"PackWatchModel", "takenBy", "(IIII)I"⟩, 10) := ⟨⟨by decide +kernel, by decide +kernel⟩, List.mem_of_getElem? (i := 1165) (by decide +kernel), List.mem_of_getElem? (i := 1715) (by decide +kernel), List.mem_of_getElem? (i := 1716) (by decide +kernel)⟩
theorem lw_p89 : lw_okq (⟨"PackWatchModel", "putAside", "()V"⟩, 10) := ⟨⟨by decide +kernel, by decide +kernel⟩, List.mem_of_getElem? (i := 1165) (by decide +kernel), List.mem_of_getElem? (i := 1727) (by decide +kernel), List.mem_of_getElem? (i := 1728) (by decide +kernel)⟩
theorem lw_p90 : lw_okq (⟨"PackWatchModel", "bringBack", "()V"⟩, 10) := ⟨⟨by decide +kernel, by decide +kernel⟩, List.mem_of_getElem? (i := 1165) (by decide +kernel), List.mem_of_getElem? (i := 1731) (by decide +kernel), List.mem_of_getElem? (i := 1732) (by decide +kernel)⟩
theorem lw_p91 : lw_okq (⟨"PackWatchModel", "goesBy", "(II)Z"⟩, 10) := ⟨⟨by decide +kernel, by decide +kernel⟩, List.mem_of_getElem? (i := 1165) (by decide +kernel), List.mem_of_getElem? (i := 1756) (by decide +kernel), List.mem_of_getElem? (i := 1757) (by decide +kernel)⟩
theorem lw_p92 : lw_okq (⟨"PackWatchModel", "spreadBy", "(III)I"⟩, 10) := ⟨⟨by decide +kernel, by decide +kernel⟩, List.mem_of_getElem? (i := 1165) (by decide +kernel), List.mem_of_getElem? (i := 1768) (by decide +kernel), List.mem_of_getElem? (i := 1769) (by decide +kernel)⟩
theorem lw_p93 : lw_okq (⟨"PackWatchModel", "isAtEnd", "(I)Z"⟩, 10) := ⟨⟨by decide +kernel, by decide +kernel⟩, List.mem_of_getElem? (i := 1165) (by decide +kernel), List.mem_of_getElem? (i := 1776) (by decide +kernel), List.mem_of_getElem? (i := 1777) (by decide +kernel)⟩
def lw_privs_6 : List (MethodName × Nat) := [(⟨"PackWatchModel", "goRules", "()V"⟩, 10), (⟨"PackWatchModel", "clear", "(III)I"⟩, 10), (⟨"PackWatchModel", "driveLong", "()I"⟩, 10), (⟨"PackWatchModel", "driveNow", "()I"⟩, 10), (⟨"PackWatchModel", "ofCell", "(II)I"⟩, 10), (⟨"PackWatchModel", "goalOf", "()I"⟩, 10), (⟨"PackWatchModel", "differ", "(I)I"⟩, 10), (⟨"PackWatchModel", "layPrices", "()V"⟩, 10), (⟨"PackWatchModel", "takenBy", "(IIII)I"⟩, 10), (⟨"PackWatchModel", "putAside", "()V"⟩, 10), (⟨"PackWatchModel", "bringBack", "()V"⟩, 10), (⟨"PackWatchModel", "goesBy", "(II)Z"⟩, 10), (⟨"PackWatchModel", "spreadBy", "(III)I"⟩, 10), (⟨"PackWatchModel", "isAtEnd", "(I)Z"⟩, 10)]
theorem lw_r6 : ∀ q ∈ lw_privs_6, lw_okq q := List.forall_mem_cons.mpr ⟨lw_p80, List.forall_mem_cons.mpr ⟨lw_p81, List.forall_mem_cons.mpr ⟨lw_p82, List.forall_mem_cons.mpr ⟨lw_p83, List.forall_mem_cons.mpr ⟨lw_p84, List.forall_mem_cons.mpr ⟨lw_p85, List.forall_mem_cons.mpr ⟨lw_p86, List.forall_mem_cons.mpr ⟨lw_p87, List.forall_mem_cons.mpr ⟨lw_p88, List.forall_mem_cons.mpr ⟨lw_p89, List.forall_mem_cons.mpr ⟨lw_p90, List.forall_mem_cons.mpr ⟨lw_p91, List.forall_mem_cons.mpr ⟨lw_p92, List.forall_mem_cons.mpr ⟨lw_p93, fun _ h => absurd h List.not_mem_nil⟩⟩⟩⟩⟩⟩⟩⟩⟩⟩⟩⟩⟩⟩
def lw_privs : List (MethodName × Nat) := lw_privs_1 ++ (lw_privs_2 ++ (lw_privs_3 ++ (lw_privs_4 ++ (lw_privs_5 ++ (lw_privs_6)))))
def lw_tbl : List Cond := k2_sels lw_privs ++ tables_1
theorem lw_privs_ok : ∀ q ∈ lw_privs, lw_okq q := by
  show ∀ q ∈ lw_privs_1 ++ (lw_privs_2 ++ (lw_privs_3 ++ (lw_privs_4 ++ (lw_privs_5 ++ (lw_privs_6))))), lw_okq q
  exact List.forall_mem_append.mpr ⟨lw_r1, List.forall_mem_append.mpr ⟨lw_r2, List.forall_mem_append.mpr ⟨lw_r3, List.forall_mem_append.mpr ⟨lw_r4, List.forall_mem_append.mpr ⟨lw_r5, lw_r6⟩⟩⟩⟩⟩
/-- the streams that the claim lets the run draw from -/
abbrev lw_cs : List Choice := [Jvm.Choice.named "NaN.bits"]
theorem lw_bits : nanBits ∈ lw_cs := by first | decide | exact List.mem_cons_self | simp [lw_cs, nanBits]
end
section
-- ===== end of PART A; then your names; then what follows =====
/-! THE CLAIM OUT OF ONE WALK OF THE LAW'S BODY. Your part is whole_start (and what it stands on); all else here is the same for every law, but numbers. -/
def R_law : String := "PackWatchLaw"
def lw_P (b : Addr) (xs : List Int32) (args : Array Value) (s : State) : Prop := args = #[.ref b] ∧ s.IntsAt b xs ∧ xs.length ≤ 3072 ∧ (Jvm.Cond.and given_1 narrow_1).before args s = true
/-- what a walk over the start with the record d0 says of its end, said of the start itself -/
theorem lw_closed {s t : State} {o : Outcome} {d0 : Drawn} {L : List Loc} {k n : Nat} (hd0 : s.drawn.sameBut d0 lw_cs) (hv : ∃ v, o = .returned v) (hW : (s.setDrawn d0).WarmedH t.vm) (hs : (s.setDrawn d0).sameButNew ({ t with vm := s.vm } : State) L k n) : State.butDraws s t lw_cs (fun t1 => Framed s o t1 L k n) := by
  have h2 : t.drawn = d0 := congrArg State.drawn hs.1
  refine ⟨⟨hv, hW, State.sameButNew.setDrawn hs s.drawn⟩, ?_, by decide⟩
  rw [h2]
  exact hd0
def lw_Q (_ : Array Value) (s : State) (o : Outcome) (t : State) : Prop := o = .returned (some (.int 1)) ∧ State.butDraws s t lw_cs (fun t1 => Framed s o t1 [] 600000 7302250)
def lw_Z (below : List Frame) (a : Array Value) (s : State) : State → Prop := fun t => ∃ o, t.status = .running ∧ Ended t below o ∧ lw_Q a s o t
/-- the law's own end, with 1 on the stack, nothing written that was there before, its room as the claim has it; d0: the record of draws at this point (at the entry s.drawn: begin with 'refine W.base ?_' and 'have hd0 := Drawn.sameBut.refl s.drawn lw_cs') -/
theorem lw_ret {p : Program} {l : Launch} {e : Env} {s : State} {m : MethodId} {below : List Frame} {meth : Method} {c : Code} {b : Nat} {d0 : Drawn} (hd0 : s.drawn.sameBut d0 lw_cs) (hx : p.tables.exec = Jvm.exec) (hb : c.code = code) (hr : meth.sig.returnType = ret) (hlocks : meth.locks = false) {pc : Nat} {H : Heap} {ls : Array Slot} (hdg : decode code pc = .ok (.ireturn, 1)) : W p l e room_1 (s.setDrawn d0) m #[Value.ref b] below meth c H [] 600000 7302250 (lw_Z below #[Value.ref b] s) (F0 m pc ls [.int 1]) := by
  intro T hT X
  obtain ⟨fs, hret, hrun, hended, hW, hframe⟩ := X.leave (v := some (.int 1)) (hlocks := hlocks) (fun h => by rw [hr] at h; cases h)
  have hmeth' : T.vm.method? m = some meth := X.method'
  refine ⟨T.setFrames fs, ?_, .returned (some (.int 1)), hrun, hended, rfl, lw_closed hd0 ⟨_, rfl⟩ hW hframe⟩
  jvm_step X.here [X.here.top, hx, hb, hdg, hmeth', hr, ret, narrow_b1]
  (try refine ⟨rfl, ?_⟩); (try refine ⟨rfl, ?_⟩)
  first | (intro acts; rw [hret _ acts rfl rfl rfl]) | rw [hret _ _ rfl rfl rfl]
  exact Steps.refl _
/-- what holds at the law's entry: the machine, the code, the tables' words (any of lw_tbl by 'hts w (by decide +kernel)'), the script of L ints xs at the cell b, what the Statement gives of the start (any of its parts by flat_of_before) -/
def lw_At (p : Program) (s : State) (m : MethodId) (meth : Method) (c : Code) (b L : Nat) (xs : Nat → Int32) : Prop :=
  p.tables.exec = Jvm.exec ∧ c.code = code ∧ meth.sig.returnType = ret ∧ c.maxLocals = 4 ∧ s.vm.findClass R_law = some m.cls ∧ (∀ w ∈ lw_tbl, w.before #[Value.ref b] s = true) ∧ va_X b L xs s s.heap ∧ b < s.heap.size ∧ meth.locks = false ∧ (Jvm.Cond.and given_1 narrow_1).before #[Value.ref b] s = true
end
section
/-! ===== THE PURE MACHINE: bytecode over a heap that is a list; the claim's machine is tied to it once (21, 22), all else is said of it ===== -/
/-- a cell: an array (its kind of array, length, contents) or an object (its class, its fields); a reference is a place of the list; a table that nobody writes is .retAddr and its number -/
abbrev am_O : Type := (Nat × vp_A) ⊕ (Nat × List Value)
/-- the heap, the slots that were made -/
abbrev am_M : Type := List am_O × Nat
abbrev am_L : Type := List (Nat × Value)
abbrev am_C : Type := Nat × am_L × List Value × am_M
/-- a program: code, own class, fields, statics, constants, new, anewarray, calls, natives, answers, tables, field types, locals, finals, constructors, component classes -/
abbrev am_Pg : Type := (Nat → Nat → Option Instr) × (Nat → Nat) × (Nat → Nat → Option (Nat × Nat)) × (Nat → Nat → Option Nat) × (Nat → Nat → Option Value) × (Nat → Nat → Option (Nat × List Value)) × (Nat → Nat → Option Nat) × (Nat → Nat → Option (Nat × Nat × Nat)) × (Nat → Nat → Option Nat) × (Nat → Option FieldType) × (Nat → Option (Nat × (Nat → Int32))) × (Nat → Nat → FieldType) × (Nat → Nat) × (Nat → Nat → Bool) × (Nat → Bool) × (Nat → Nat)
def am_code (P : am_Pg) := P.1
def am_own (P : am_Pg) := P.2.1
def am_fld (P : am_Pg) := P.2.2.1
def am_sta (P : am_Pg) := P.2.2.2.1
def am_con (P : am_Pg) := P.2.2.2.2.1
def am_new (P : am_Pg) := P.2.2.2.2.2.1
def am_anw (P : am_Pg) := P.2.2.2.2.2.2.1
def am_cal (P : am_Pg) := P.2.2.2.2.2.2.2.1
def am_nat (P : am_Pg) := P.2.2.2.2.2.2.2.2.1
def am_ret (P : am_Pg) := P.2.2.2.2.2.2.2.2.2.1
def am_cst (P : am_Pg) := P.2.2.2.2.2.2.2.2.2.2.1
def am_fty (P : am_Pg) := P.2.2.2.2.2.2.2.2.2.2.2.1
def am_mxl (P : am_Pg) := P.2.2.2.2.2.2.2.2.2.2.2.2.1
def am_fin (P : am_Pg) := P.2.2.2.2.2.2.2.2.2.2.2.2.2.1
def am_ini (P : am_Pg) := P.2.2.2.2.2.2.2.2.2.2.2.2.2.2.1
def am_elt (P : am_Pg) := P.2.2.2.2.2.2.2.2.2.2.2.2.2.2.2
def am_lk : am_L → Nat → Option Value
  | [], _ => none
  | q :: r, i => if q.1 = i then some q.2 else am_lk r i
def am_s1 (lv : am_L) (i : Nat) (v : Value) : am_L := (i, v) :: lv.filter (fun q => !(q.1 == i) && !(q.1 + 1 == i && q.2.category == 2))
def am_s2 (lv : am_L) (i : Nat) (v : Value) : am_L := (i, v) :: lv.filter (fun q => !(q.1 == i) && (!(q.1 == i + 1) && !(q.1 + 1 == i && q.2.category == 2)))
def am_ld (w : Nat) (o : Option Value) : Option Value := match w, o with
  | 0, some (.int x) => some (.int x)
  | 1, some (.long x) => some (.long x)
  | 2, some (.float x) => some (.float x)
  | 3, some (.double x) => some (.double x)
  | 4, some (.ref a) => some (.ref a)
  | 4, some (.retAddr a) => some (.retAddr a)
  | _, _ => none
def am_pu (n pc : Nat) (lv : am_L) (st : List Value) (M : am_M) (o : Option Value) : Option am_C := match o with
  | some v => some (pc + n, lv, v :: st, M)
  | none => none
/-- a store: kind of value, place, room for locals -/
def am_so (w n pc i nL : Nat) (lv : am_L) (st : List Value) (M : am_M) : Option am_C := match st with
  | v :: r => match am_ld w (some v) with
    | none => none
    | some _ => if v.category = 2 then (if i + 1 < nL then some (pc + n, am_s2 lv i v, r, M) else none) else if i < nL then some (pc + n, am_s1 lv i v, r, M) else none
  | [] => none
def am_1 (pc : Nat) (lv : am_L) (st : List Value) (M : am_M) (f : Value → Option Value) : Option am_C := match st with
  | x :: r => match f x with
    | some v => some (pc + 1, lv, v :: r, M)
    | none => none
  | [] => none
def am_2 (pc : Nat) (lv : am_L) (st : List Value) (M : am_M) (f : Value → Value → Option Value) : Option am_C := match st with
  | y :: x :: r => match f x y with
    | some v => some (pc + 1, lv, v :: r, M)
    | none => none
  | _ => none
def am_fI (g : Int32 → Int32 → Int32) (x y : Value) : Option Value := match x, y with
  | .int a, .int b => some (.int (g a b))
  | _, _ => none
def am_fID (g : Int32 → Int32 → Int32) (x y : Value) : Option Value := match x, y with
  | .int a, .int b => if b = 0 then none else some (.int (g a b))
  | _, _ => none
def am_fL (g : Int64 → Int64 → Int64) (x y : Value) : Option Value := match x, y with
  | .long a, .long b => some (.long (g a b))
  | _, _ => none
def am_fLD (g : Int64 → Int64 → Int64) (x y : Value) : Option Value := match x, y with
  | .long a, .long b => if b = 0 then none else some (.long (g a b))
  | _, _ => none
def am_fLI (g : Int64 → Int32 → Int64) (x y : Value) : Option Value := match x, y with
  | .long a, .int b => some (.long (g a b))
  | _, _ => none
def am_fF (g : UInt32 → UInt32 → UInt32) (x y : Value) : Option Value := match x, y with
  | .float a, .float b => if (g a b) &&& 0x7fffffff ≤ 0x7f800000 then some (.float (g a b)) else none
  | _, _ => none
def am_fD (g : UInt64 → UInt64 → UInt64) (x y : Value) : Option Value := match x, y with
  | .double a, .double b => if (g a b) &&& 0x7fffffffffffffff ≤ 0x7ff0000000000000 then some (.double (g a b)) else none
  | _, _ => none
def am_tg (pc : Nat) (off : Int) : Option Nat := if 0 ≤ (pc : Int) + off then some ((pc : Int) + off).toNat else none
def am_br (b : Bool) (pc : Nat) (off : Int) (lv : am_L) (r : List Value) (M : am_M) : Option am_C := match am_tg pc off with
  | some t => bif b then some (t, lv, r, M) else some (pc + 3, lv, r, M)
  | none => none
def am_go (pc : Nat) (off : Int) (lv : am_L) (r : List Value) (M : am_M) : Option am_C := match am_tg pc off with
  | some t => some (t, lv, r, M)
  | none => none
def am_c1 (c : ClassFile.Cond) (x : Int32) : Bool := match c with
  | .eq => decide (x = 0)
  | .ne => !decide (x = 0)
  | .lt => decide (x < 0)
  | .ge => decide (0 ≤ x)
  | .gt => decide (0 < x)
  | .le => decide (x ≤ 0)
def am_c2 (c : ClassFile.Cond) (x y : Int32) : Bool := match c with
  | .eq => decide (x = y)
  | .ne => !decide (x = y)
  | .lt => decide (x < y)
  | .ge => decide (y ≤ x)
  | .gt => decide (y < x)
  | .le => decide (x ≤ y)
def am_in (i : Int32) (n : Nat) : Bool := !(decide (i < 0)) && decide (i.toNatClampNeg < n)
/-- does a field of this type take the value as it is? -/
def am_ft (ty : FieldType) (v : Value) : Bool := match ty, v with
  | .int, .int _ => true
  | .boolean, .int x => decide (x = 0) || decide (x = 1)
  | .long, .long _ => true
  | .object _, .ref _ => true
  | .object _, .null => true
  | .array _, .ref _ => true
  | .array _, .null => true
  | _, _ => false
def am_gf (P : am_Pg) (own idx pc : Nat) (lv : am_L) (st : List Value) (M : am_M) : Option am_C := match st with
  | .ref a :: r => match am_fld P own idx, M.1[a]? with
    | some (ci, k), some (.inr (cj, fs)) => if ci = cj then am_pu 3 pc lv r M fs[k]? else none
    | _, _ => none
  | _ => none
def am_pf (P : am_Pg) (mi own idx pc : Nat) (lv : am_L) (st : List Value) (M : am_M) : Option am_C := match st with
  | v :: .ref a :: r => match am_fld P own idx, M.1[a]? with
    | some (ci, k), some (.inr (cj, fs)) => bif decide (ci = cj) && (decide (k < fs.length) && (am_ft (am_fty P ci k) v && (!am_fin P ci k || (am_ini P mi && decide (own = ci))))) then some (pc + 3, lv, r, (M.1.set a (.inr (cj, fs.set k v)), M.2)) else none
    | _, _ => none
  | _ => none
def am_ald (P : am_Pg) (pc : Nat) (lv : am_L) (st : List Value) (M : am_M) : Option am_C := match st with
  | .int i :: .ref a :: r => match M.1[a]? with
    | some (.inl (0, n, .inl f)) => bif am_in i n then some (pc + 1, lv, .int (f i.toNatClampNeg) :: r, M) else none
    | _ => none
  | .int i :: .retAddr a :: r => match am_cst P a with
    | some (n, f) => bif am_in i n then some (pc + 1, lv, .int (f i.toNatClampNeg) :: r, M) else none
    | _ => none
  | _ => none
def am_ast (pc : Nat) (lv : am_L) (st : List Value) (M : am_M) : Option am_C := match st with
  | .int x :: .int i :: .ref a :: r => match M.1[a]? with
    | some (.inl (0, n, .inl f)) => bif am_in i n then some (pc + 1, lv, r, (M.1.set a (.inl (0, n, .inl (upd f i.toNatClampNeg x))), M.2)) else none
    | _ => none
  | _ => none
def am_lald (pc : Nat) (lv : am_L) (st : List Value) (M : am_M) : Option am_C := match st with
  | .int i :: .ref a :: r => match M.1[a]? with
    | some (.inl (1, n, .inr (.inl f))) => bif am_in i n then some (pc + 1, lv, .long (f i.toNatClampNeg) :: r, M) else none
    | _ => none
  | _ => none
def am_last (pc : Nat) (lv : am_L) (st : List Value) (M : am_M) : Option am_C := match st with
  | .long x :: .int i :: .ref a :: r => match M.1[a]? with
    | some (.inl (1, n, .inr (.inl f))) => bif am_in i n then some (pc + 1, lv, r, (M.1.set a (.inl (1, n, .inr (.inl (vp_updL f i.toNatClampNeg x)))), M.2)) else none
    | _ => none
  | _ => none
def am_qald (pc : Nat) (lv : am_L) (st : List Value) (M : am_M) : Option am_C := match st with
  | .int i :: .ref a :: r => match M.1[a]? with
    | some (.inl (t, n, .inr (.inr (.inr (.inr f))))) => bif decide (2 ≤ t ∧ t < 5) && am_in i n then some (pc + 1, lv, va_rf (f i.toNatClampNeg) :: r, M) else none
    | _ => none
  | _ => none
def am_qast (P : am_Pg) (pc : Nat) (lv : am_L) (st : List Value) (M : am_M) : Option am_C := match st with
  | .ref v :: .int i :: .ref a :: r => match M.1[a]?, M.1[v]? with
    | some (.inl (t, n, .inr (.inr (.inr (.inr f))))), some (.inr (cj, _)) => bif decide (2 ≤ t ∧ t < 5) && (decide (am_elt P t = cj) && am_in i n) then some (pc + 1, lv, r, (M.1.set a (.inl (t, n, .inr (.inr (.inr (.inr (va_up f i.toNatClampNeg (some v))))))), M.2)) else none
    | _, _ => none
  | _ => none
def am_len (P : am_Pg) (pc : Nat) (lv : am_L) (st : List Value) (M : am_M) : Option am_C := match st with
  | .ref a :: r => match M.1[a]? with
    | some (.inl (t, n, _)) => if t < 5 then some (pc + 1, lv, .int (Int32.ofNat n) :: r, M) else none
    | _ => none
  | .retAddr a :: r => match am_cst P a with
    | some (n, _) => some (pc + 1, lv, .int (Int32.ofNat n) :: r, M)
    | none => none
  | _ => none
def am_nw (P : am_Pg) (own idx pc : Nat) (lv : am_L) (st : List Value) (M : am_M) : Option am_C := match am_new P own idx with
  | some (ci, fs) => some (pc + 3, lv, .ref M.1.length :: st, (M.1 ++ [.inr (ci, fs)], M.2 + fs.length))
  | none => none
def am_na (at_ : ArrayType) (pc : Nat) (lv : am_L) (st : List Value) (M : am_M) : Option am_C := match at_, st with
  | .int, .int n :: r => bif !(decide (n < 0)) && decide (n.toNatClampNeg ≤ 1000000) then some (pc + 2, lv, .ref M.1.length :: r, (M.1 ++ [.inl (0, n.toNatClampNeg, .inl (fun _ => 0))], M.2 + n.toNatClampNeg)) else none
  | .long, .int n :: r => bif !(decide (n < 0)) && decide (n.toNatClampNeg ≤ 1000000) then some (pc + 2, lv, .ref M.1.length :: r, (M.1 ++ [.inl (1, n.toNatClampNeg, .inr (.inl (fun _ => 0)))], M.2 + n.toNatClampNeg)) else none
  | _, _ => none
def am_nq (P : am_Pg) (own idx pc : Nat) (lv : am_L) (st : List Value) (M : am_M) : Option am_C := match am_anw P own idx, st with
  | some t, .int n :: r => bif !(decide (n < 0)) && decide (n.toNatClampNeg ≤ 1000000) then some (pc + 3, lv, .ref M.1.length :: r, (M.1 ++ [.inl (t, n.toNatClampNeg, .inr (.inr (.inr (.inr (fun _ => none)))))], M.2 + n.toNatClampNeg)) else none
  | _, _ => none
def am_sum (st : List Value) : Nat := (st.map fun v => v.category).sum
/-- the library's own: Object's constructor, arraycopy over ints, a table's clone, the bits of a double, of a float -/
def am_n0 (pc : Nat) (lv : am_L) (st : List Value) (M : am_M) : Option am_C := match st with
  | .ref _ :: r => if am_sum r ≤ 8 then some (pc + 3, lv, r, M) else none
  | _ => none
def am_n1 (pc : Nat) (lv : am_L) (st : List Value) (M : am_M) : Option am_C := match st with
  | .int n :: .int dp :: .ref b :: .int sp :: .ref a :: r => match M.1[a]?, M.1[b]? with
    | some (.inl (0, n0, .inl f)), some (.inl (0, n1, .inl g)) => bif decide (am_sum r ≤ 8) && (!(decide (sp < 0)) && (!(decide (dp < 0)) && (!(decide (n < 0)) && (decide (sp.toNatClampNeg + n.toNatClampNeg ≤ n0) && decide (dp.toNatClampNeg + n.toNatClampNeg ≤ n1))))) then some (pc + 3, lv, r, (M.1.set b (.inl (0, n1, .inl (va_cpy f g sp.toNatClampNeg dp.toNatClampNeg n.toNatClampNeg))), M.2)) else none
    | _, _ => none
  | _ => none
def am_n2 (P : am_Pg) (pc : Nat) (lv : am_L) (st : List Value) (M : am_M) : Option am_C := match st with
  | .retAddr c :: r => match am_cst P c with
    | some (n, f) => if am_sum r ≤ 8 ∧ c ≠ 0 then some (pc + 3, lv, .ref M.1.length :: r, (M.1 ++ [.inl (0, n, .inl f)], M.2 + n)) else none
    | none => none
  | _ => none
def am_n3 (pc : Nat) (lv : am_L) (st : List Value) (M : am_M) : Option am_C := match st with
  | .double b :: r => if am_sum r ≤ 8 then some (pc + 3, lv, .long b.toInt64 :: r, M) else none
  | _ => none
def am_n4 (pc : Nat) (lv : am_L) (st : List Value) (M : am_M) : Option am_C := match st with
  | .float b :: r => if am_sum r ≤ 8 then some (pc + 3, lv, .int b.toInt32 :: r, M) else none
  | _ => none
def am_nt (P : am_Pg) (k pc : Nat) (lv : am_L) (st : List Value) (M : am_M) : Option am_C := match k with
  | 0 => am_n0 pc lv st M
  | 1 => am_n1 pc lv st M
  | 2 => am_n2 P pc lv st M
  | 3 => am_n3 pc lv st M
  | 4 => am_n4 pc lv st M
  | _ => none
def am_ntk (P : am_Pg) (mi : Nat) (ins : Instr) : Option Nat := match ins with
  | .invokespecial i => match am_nat P mi i with
    | some 0 => some 0
    | _ => none
  | .invokestatic i => match am_nat P mi i with
    | some 1 => some 1
    | some 3 => some 3
    | some 4 => some 4
    | _ => none
  | .invokevirtual i => match am_nat P mi i with
    | some 2 => some 2
    | _ => none
  | _ => none
def am_sw (x : Int32) (d lo hi : Int) (offs : Array Int) : Int := if x.toInt < lo ∨ hi < x.toInt then d else (offs[(x.toInt - lo).toNat]?).getD d
def am_swk (x : Int32) (lo hi : Int) (offs : Array Int) : Bool := decide (x.toInt < lo ∨ hi < x.toInt) || (offs[(x.toInt - lo).toNat]?).isSome
/-- one instruction that is no call of ours and no return -/
def am_st (P : am_Pg) (mi : Nat) (ins : Instr) (pc : Nat) (lv : am_L) (st : List Value) (M : am_M) : Option am_C := match ins with
  | .iconst n => some (pc + 1, lv, .int (Int32.ofInt n) :: st, M)
  | .bipush n => some (pc + 2, lv, .int (Int8.ofInt n).toInt32 :: st, M)
  | .sipush n => some (pc + 3, lv, .int (Int16.ofInt n).toInt32 :: st, M)
  | .lconst n => some (pc + 1, lv, .long (Int64.ofNat (n : Nat)) :: st, M)
  | .fconst n => match n with
    | 0 => some (pc + 1, lv, .float 0 :: st, M)
    | 1 => some (pc + 1, lv, .float 0x3f800000 :: st, M)
    | 2 => some (pc + 1, lv, .float 0x40000000 :: st, M)
  | .dconst n => match n with
    | 0 => some (pc + 1, lv, .double 0 :: st, M)
    | 1 => some (pc + 1, lv, .double 0x3ff0000000000000 :: st, M)
  | .ldc i => match am_con P (am_own P mi) i with
    | some (.int v) => some (pc + 2, lv, .int v :: st, M)
    | some (.float v) => some (pc + 2, lv, .float v :: st, M)
    | _ => none
  | .ldc_w i => match am_con P (am_own P mi) i with
    | some (.int v) => some (pc + 3, lv, .int v :: st, M)
    | some (.float v) => some (pc + 3, lv, .float v :: st, M)
    | _ => none
  | .ldc2_w i => match am_con P (am_own P mi) i with
    | some (.long v) => some (pc + 3, lv, .long v :: st, M)
    | some (.double v) => some (pc + 3, lv, .double v :: st, M)
    | _ => none
  | .iload_n k => am_pu 1 pc lv st M (am_ld 0 (am_lk lv k))
  | .lload_n k => am_pu 1 pc lv st M (am_ld 1 (am_lk lv k))
  | .fload_n k => am_pu 1 pc lv st M (am_ld 2 (am_lk lv k))
  | .dload_n k => am_pu 1 pc lv st M (am_ld 3 (am_lk lv k))
  | .aload_n k => am_pu 1 pc lv st M (am_ld 4 (am_lk lv k))
  | .iload i => am_pu 2 pc lv st M (am_ld 0 (am_lk lv i))
  | .lload i => am_pu 2 pc lv st M (am_ld 1 (am_lk lv i))
  | .aload i => am_pu 2 pc lv st M (am_ld 4 (am_lk lv i))
  | .istore_n k => am_so 0 1 pc k (am_mxl P mi) lv st M
  | .lstore_n k => am_so 1 1 pc k (am_mxl P mi) lv st M
  | .fstore_n k => am_so 2 1 pc k (am_mxl P mi) lv st M
  | .dstore_n k => am_so 3 1 pc k (am_mxl P mi) lv st M
  | .astore_n k => am_so 4 1 pc k (am_mxl P mi) lv st M
  | .istore i => am_so 0 2 pc i (am_mxl P mi) lv st M
  | .lstore i => am_so 1 2 pc i (am_mxl P mi) lv st M
  | .astore i => am_so 4 2 pc i (am_mxl P mi) lv st M
  | .iinc i n => match am_lk lv i with
    | some (.int x) => if i < am_mxl P mi then some (pc + 3, am_s1 lv i (.int (x + Int32.ofInt n)), st, M) else none
    | _ => none
  | .iadd => am_2 pc lv st M (am_fI (· + ·))
  | .isub => am_2 pc lv st M (am_fI (· - ·))
  | .imul => am_2 pc lv st M (am_fI (· * ·))
  | .iand => am_2 pc lv st M (am_fI (· &&& ·))
  | .ior => am_2 pc lv st M (am_fI (· ||| ·))
  | .ixor => am_2 pc lv st M (am_fI (· ^^^ ·))
  | .ishl => am_2 pc lv st M (am_fI (fun x y => x <<< (y &&& 31)))
  | .ishr => am_2 pc lv st M (am_fI (fun x y => x >>> (y &&& 31)))
  | .iushr => am_2 pc lv st M (am_fI (fun x y => (x.toUInt32 >>> (y.toUInt32 &&& Int32.toUInt32 31)).toInt32))
  | .idiv => am_2 pc lv st M (am_fID (fun x y => x / y))
  | .irem => am_2 pc lv st M (am_fID (fun x y => x - (x / y) * y))
  | .ineg => am_1 pc lv st M (fun v => match v with | .int x => some (.int (-x)) | _ => none)
  | .ladd => am_2 pc lv st M (am_fL (· + ·))
  | .lsub => am_2 pc lv st M (am_fL (· - ·))
  | .lmul => am_2 pc lv st M (am_fL (· * ·))
  | .land => am_2 pc lv st M (am_fL (· &&& ·))
  | .ldiv => am_2 pc lv st M (am_fLD (fun x y => x / y))
  | .lshl => am_2 pc lv st M (am_fLI (fun x y => x <<< (y.toInt64 &&& 63)))
  | .lshr => am_2 pc lv st M (am_fLI (fun x y => x >>> (y.toInt64 &&& 63)))
  | .lcmp => am_2 pc lv st M (fun x y => match x, y with | .long a, .long b => some (.int (lg_cmp a b)) | _, _ => none)
  | .i2l => am_1 pc lv st M (fun v => match v with | .int x => some (.long x.toInt64) | _ => none)
  | .l2i => am_1 pc lv st M (fun v => match v with | .long x => some (.int x.toInt32) | _ => none)
  | .l2d => am_1 pc lv st M (fun v => match v with | .long x => some (.double (FP.l2d x)) | _ => none)
  | .i2f => am_1 pc lv st M (fun v => match v with | .int x => some (.float (FP.i2f x)) | _ => none)
  | .d2l => am_1 pc lv st M (fun v => match v with | .double x => some (.long (FP.d2l x)) | _ => none)
  | .f2i => am_1 pc lv st M (fun v => match v with | .float x => some (.int (FP.f2i x)) | _ => none)
  | .dadd => am_2 pc lv st M (am_fD FP.dadd)
  | .dsub => am_2 pc lv st M (am_fD FP.dsub)
  | .dmul => am_2 pc lv st M (am_fD FP.dmul)
  | .ddiv => am_2 pc lv st M (am_fD FP.ddiv)
  | .fsub => am_2 pc lv st M (am_fF FP.fsub)
  | .fmul => am_2 pc lv st M (am_fF FP.fmul)
  | .fdiv => am_2 pc lv st M (am_fF FP.fdiv)
  | .dcmp op => am_2 pc lv st M (fun x y => match x, y with | .double a, .double b => some (.int (Op.cmpValue (FP.dcmp a b) op)) | _, _ => none)
  | .fcmp op => am_2 pc lv st M (fun x y => match x, y with | .float a, .float b => some (.int (Op.cmpValue (FP.fcmp a b) op)) | _, _ => none)
  | .dup => match st with
    | v :: r => if v.category = 1 then some (pc + 1, lv, v :: v :: r, M) else none
    | _ => none
  | .pop => match st with
    | v :: r => if v.category = 1 then some (pc + 1, lv, r, M) else none
    | _ => none
  | .pop2 => match st with
    | v :: r => if v.category = 2 then some (pc + 1, lv, r, M) else none
    | _ => none
  | .dup2 => match st with
    | v :: w :: r => if v.category = 1 ∧ w.category = 1 then some (pc + 1, lv, v :: w :: v :: w :: r, M) else none
    | _ => none
  | .dup_x1 => match st with
    | v :: w :: r => if v.category = 1 ∧ w.category = 1 then some (pc + 1, lv, v :: w :: v :: r, M) else none
    | _ => none
  | .ifCond c off => match st with
    | .int x :: r => am_br (am_c1 c x) pc off lv r M
    | _ => none
  | .if_icmp c off => match st with
    | .int y :: .int x :: r => am_br (am_c2 c x y) pc off lv r M
    | _ => none
  | .ifnonnull off => match st with
    | .ref _ :: r => am_go pc off lv r M
    | .null :: r => some (pc + 3, lv, r, M)
    | _ => none
  | .ifnull off => match st with
    | .ref _ :: r => some (pc + 3, lv, r, M)
    | .null :: r => am_go pc off lv r M
    | _ => none
  | .goto off => am_go pc off lv st M
  | .tableswitch d lo hi offs => match st with
    | .int x :: r => bif am_swk x lo hi offs then am_go pc (am_sw x d lo hi offs) lv r M else none
    | _ => none
  | .getfield i => am_gf P (am_own P mi) i pc lv st M
  | .putfield i => am_pf P mi (am_own P mi) i pc lv st M
  | .getstatic i => match am_sta P (am_own P mi) i with
    | some c => some (pc + 3, lv, .retAddr c :: st, M)
    | none => none
  | .iaload => am_ald P pc lv st M
  | .iastore => am_ast pc lv st M
  | .laload => am_lald pc lv st M
  | .lastore => am_last pc lv st M
  | .aaload => am_qald pc lv st M
  | .aastore => am_qast P pc lv st M
  | .arraylength => am_len P pc lv st M
  | .new i => am_nw P (am_own P mi) i pc lv st M
  | .newarray t => am_na t pc lv st M
  | .anewarray i => am_nq P (am_own P mi) i pc lv st M
  | .checkcast _ => match st with
    | .ref a :: r => match M.1[a]? with
      | some (.inl (0, _)) => some (pc + 3, lv, .ref a :: r, M)
      | _ => none
    | _ => none
  | .invokespecial _ => match am_ntk P mi ins with
    | some k => am_nt P k pc lv st M
    | none => none
  | .invokestatic _ => match am_ntk P mi ins with
    | some k => am_nt P k pc lv st M
    | none => none
  | .invokevirtual _ => match am_ntk P mi ins with
    | some k => am_nt P k pc lv st M
    | none => none
  | _ => none
/-- an answer -/
def am_rt (P : am_Pg) (mi : Nat) (ins : Instr) (st : List Value) : Option (Option Value) := match ins, st with
  | .return_, [] => match am_ret P mi with
    | none => some none
    | some _ => none
  | .ireturn, [.int v] => match am_ret P mi with
    | some .int => some (some (.int v))
    | some .boolean => if v = 0 ∨ v = 1 then some (some (.int v)) else none
    | _ => none
  | .lreturn, [.long v] => match am_ret P mi with
    | some .long => some (some (.long v))
    | _ => none
  | .freturn, [.float v] => match am_ret P mi with
    | some .float => some (some (.float v))
    | _ => none
  | .dreturn, [.double v] => match am_ret P mi with
    | some .double => some (some (.double v))
    | _ => none
  | .areturn, [.ref a] => match am_ret P mi with
    | some (.object _) => some (some (.ref a))
    | _ => none
  | _, _ => none
/-- a call of ours: the method, how many of the stack it takes -/
def am_cl (P : am_Pg) (mi : Nat) (ins : Instr) : Option (Nat × Nat) := match ins with
  | .invokestatic i => match am_cal P mi i with
    | some (0, r) => some r
    | _ => none
  | .invokevirtual i => match am_cal P mi i with
    | some (1, r) => some r
    | _ => none
  | .invokespecial i => match am_cal P mi i with
    | some (2, r) => some r
    | _ => none
  | _ => none
def am_rs (as_ : List Value) : Bool := match as_ with
  | .ref _ :: _ => true
  | _ => false
def am_rv (P : am_Pg) (mj : Nat) (as_ : List Value) (M : am_M) : Bool := match as_ with
  | .ref a :: _ => match M.1[a]? with
    | some (.inr (cj, _)) => decide (cj = am_own P mj)
    | _ => false
  | _ => false
/-- the stack of a call: enough on it, little below; the receiver, where there is one, is an object of ours (of the method's class) -/
def am_rc (P : am_Pg) (mi : Nat) (ins : Instr) (mj n : Nat) (st : List Value) (M : am_M) : Bool :=
  decide (n ≤ st.length) && (decide (am_sum (st.drop n) ≤ 8 ∧ am_sum (st.take n) ≤ am_mxl P mj) && (match ins with
  | .invokestatic _ => true
  | .invokespecial _ => am_rs (st.take n).reverse
  | .invokevirtual _ => am_rv P mj (st.take n).reverse M
  | _ => false))
/-- the machine: fuel, method, place, locals, stack, memory; the answer, the memory behind it -/
def am_ev (P : am_Pg) : Nat → Nat → Nat → am_L → List Value → am_M → Option (Option Value × am_M)
  | 0, _, _, _, _, _ => none
  | f + 1, mi, pc, lv, st, M => match am_code P mi pc with
    | none => none
    | some ins => match am_cl P mi ins with
      | some (mj, n) => bif am_rc P mi ins mj n st M then (match am_ev P f mj 0 (lv_args 0 (st.take n).reverse) [] M with
          | some (v, M') => am_ev P f mi (pc + 3) lv (v.toList ++ st.drop n) M'
          | none => none) else none
      | none => match am_rt P mi ins st with
        | some v => some (v, M)
        | none => match am_st P mi ins pc lv st M with
          | some (pc', lv', st', M') => am_ev P f mi pc' lv' st' M'
          | none => none
end
section
/-! ===== what the pure machine's steps are on the claim's machine ===== -/
def am_tr (cs : Nat → Nat) (base : Nat) : Value → Value
  | .ref a => .ref (base + a)
  | .retAddr c => .ref (cs c)
  | .int x => .int x
  | .long x => .long x
  | .float x => .float x
  | .double x => .double x
  | .null => .null
def am_tA (base : Nat) : vp_A → vp_A
  | (n, .inl f) => (n, .inl f)
  | (n, .inr (.inl f)) => (n, .inr (.inl f))
  | (n, .inr (.inr (.inl f))) => (n, .inr (.inr (.inl f)))
  | (n, .inr (.inr (.inr (.inl f)))) => (n, .inr (.inr (.inr (.inl f))))
  | (n, .inr (.inr (.inr (.inr f)))) => (n, .inr (.inr (.inr (.inr (fun i => (f i).map (fun x => base + x))))))
/-- where things are: the classes of arrays, the tables' addresses, where our cells begin -/
abbrev am_Z : Type := (Nat → ClassId) × (Nat → Nat) × Nat
def am_tO (Z : am_Z) : am_O → va_E
  | .inl (t, a) => .inl (Z.1 t, am_tA Z.2.2 a)
  | .inr (ci, fs) => .inr (ci, fs.map (am_tr Z.2.1 Z.2.2))
def am_ws (Z : am_Z) (G : List am_O) : va_W := G.mapIdx (fun i o => (Z.2.2 + i, am_tO Z o))
abbrev am_A (Z : am_Z) : Nat → Prop := fun q => Z.2.2 ≤ q
def am_R (D : va_G) (cl : List vw_C) (Z : am_Z) (M : am_M) (H : Heap) : Prop := va_P D cl (am_ws Z M.1) H ∧ H.size = Z.2.2 + M.1.length
theorem am_ws_get {Z : am_Z} {G : List am_O} {a : Nat} {o : am_O} (h : G[a]? = some o) : (am_ws Z G)[a]? = some (Z.2.2 + a, am_tO Z o) := by
  simp [am_ws, List.getElem?_mapIdx, h]
theorem am_ws_inv {Z : am_Z} {G : List am_O} {k : Nat} {q : Nat × va_E} (h : (am_ws Z G)[k]? = some q) : ∃ o, G[k]? = some o ∧ q = (Z.2.2 + k, am_tO Z o) := by
  simp only [am_ws, List.getElem?_mapIdx, Option.map_eq_some_iff] at h
  obtain ⟨o, h1, h2⟩ := h
  exact ⟨o, h1, h2.symm⟩
theorem am_D (Z : am_Z) (G : List am_O) : va_D (am_A Z) (am_ws Z G) := by
  refine ⟨fun i j p q hi hj h => ?_, fun k q hk => ?_⟩
  · obtain ⟨o, -, rfl⟩ := am_ws_inv hi
    obtain ⟨o', -, rfl⟩ := am_ws_inv hj
    have h : Z.2.2 + i = Z.2.2 + j := h
    omega
  · obtain ⟨o, -, rfl⟩ := am_ws_inv hk
    exact Nat.le_add_right _ _
theorem am_R.set {D : va_G} {cl : List vw_C} {Z : am_Z} {M : am_M} {H H1 : Heap} {a n : Nat} {o o0 : am_O} (h : am_R D cl Z M H) (h0 : M.1[a]? = some o0) (he : va_at D cl (Z.2.2 + a, am_tO Z o) H1) (z : H1.size = H.size) (oq : ∀ q : Nat, q ≠ Z.2.2 + a → H1[q]? = H[q]?) : am_R D cl Z (M.1.set a o, n) H1 := by
  have hl : a < M.1.length := (List.getElem?_eq_some_iff.mp h0).1
  refine ⟨fun k q hk => ?_, by rw [z, h.2, List.length_set]⟩
  obtain ⟨o1, h1, rfl⟩ := am_ws_inv hk
  by_cases hka : k = a
  · subst hka
    rw [List.getElem?_set_self hl] at h1
    cases h1
    exact he
  · rw [List.getElem?_set_ne (Ne.symm hka)] at h1
    have h1 : M.1[k]? = some o1 := h1
    exact (h.1 k _ (am_ws_get h1)).kept (oq _ (by show Z.2.2 + k ≠ _; omega))
theorem am_R.push {D : va_G} {cl : List vw_C} {Z : am_Z} {M : am_M} {H H1 : Heap} {n : Nat} {o : am_O} (h : am_R D cl Z M H) (he : va_at D cl (H.size, am_tO Z o) H1) (z : H1.size = H.size + 1) (oq : ∀ q : Nat, q < H.size → H1[q]? = H[q]?) : am_R D cl Z (M.1 ++ [o], n) H1 := by
  refine ⟨fun k q hk => ?_, by rw [z, h.2, List.length_append]; simp; omega⟩
  obtain ⟨o1, h1, rfl⟩ := am_ws_inv hk
  have h1 : (M.1 ++ [o])[k]? = some o1 := h1
  by_cases hkl : k < M.1.length
  · rw [List.getElem?_append_left hkl] at h1
    exact (h.1 k _ (am_ws_get h1)).kept (oq _ (by show Z.2.2 + k < _; rw [h.2]; omega))
  · rw [List.getElem?_append_right (by omega)] at h1
    have hz : k - M.1.length < 1 := (List.getElem?_eq_some_iff.mp h1).1
    have hk0 : k = M.1.length := by omega
    subst hk0
    rw [Nat.sub_self] at h1
    cases h1
    rw [h.2] at he
    exact he
theorem am_cat (cs : Nat → Nat) (base : Nat) (v : Value) : (am_tr cs base v).category = v.category := by cases v <;> rfl
theorem am_sumT (cs : Nat → Nat) (base : Nat) (st : List Value) : ((st.map (am_tr cs base)).map fun v => v.category).sum = am_sum st := by
  rw [List.map_map]
  unfold am_sum
  congr 1
  apply List.map_congr_left
  intro v _
  exact am_cat cs base v
/-- the locals as the machine has them -/
def am_lt (Z : am_Z) (lv : am_L) : am_L := lv.map (fun q => (q.1, am_tr Z.2.1 Z.2.2 q.2))
theorem am_lkm {lv : am_L} {i : Nat} {v : Value} (h : am_lk lv i = some v) : (i, v) ∈ lv := by
  induction lv with
  | nil => cases h
  | cons q r ih =>
    unfold am_lk at h
    by_cases hq : q.1 = i
    · rw [if_pos hq] at h
      cases h
      subst hq
      exact List.mem_cons_self
    · rw [if_neg hq] at h
      exact List.mem_cons_of_mem _ (ih h)
theorem am_lat {Z : am_Z} {lv : am_L} {ls : Array Slot} {nL i : Nat} {v : Value} (hl : lv_has ls nL (am_lt Z lv)) (h : am_lk lv i = some v) : ls[i]? = some (.val (am_tr Z.2.1 Z.2.2 v)) :=
  hl.2.2 (i, am_tr Z.2.1 Z.2.2 v) (List.mem_map.mpr ⟨(i, v), am_lkm h, rfl⟩)
theorem am_ltf (Z : am_Z) (lv : am_L) (f : Nat → Value → Bool) (hf : ∀ n v, f n (am_tr Z.2.1 Z.2.2 v) = f n v) : (am_lt Z lv).filter (fun q => f q.1 q.2) = am_lt Z (lv.filter (fun q => f q.1 q.2)) := by
  unfold am_lt
  rw [List.filter_map]
  congr 1
  apply List.filter_congr
  intro q _
  exact hf q.1 q.2
theorem am_lt1 (Z : am_Z) (lv : am_L) (i : Nat) (v : Value) : (i, am_tr Z.2.1 Z.2.2 v) :: (am_lt Z lv).filter (fun q => !(q.1 == i) && !(q.1 + 1 == i && q.2.category == 2)) = am_lt Z (am_s1 lv i v) := by
  have h := am_ltf Z lv (fun n v => !(n == i) && !(n + 1 == i && v.category == 2)) (fun n v => by simp only [am_cat])
  rw [h]
  rfl
theorem am_lt2 (Z : am_Z) (lv : am_L) (i : Nat) (v : Value) : (i, am_tr Z.2.1 Z.2.2 v) :: (am_lt Z lv).filter (fun q => !(q.1 == i) && (!(q.1 == i + 1) && !(q.1 + 1 == i && q.2.category == 2))) = am_lt Z (am_s2 lv i v) := by
  have h := am_ltf Z lv (fun n v => !(n == i) && (!(n == i + 1) && !(n + 1 == i && v.category == 2))) (fun n v => by simp only [am_cat])
  rw [h]
  rfl
theorem am_ltA (Z : am_Z) (vs : List Value) : ∀ i, lv_args i (vs.map (am_tr Z.2.1 Z.2.2)) = am_lt Z (lv_args i vs) := by
  induction vs with
  | nil => intro i; rfl
  | cons v r ih =>
    intro i
    show (i, am_tr _ _ v) :: lv_args (if (am_tr Z.2.1 Z.2.2 v).category = 2 then i + 2 else i + 1) _ = _
    rw [am_cat, ih]
    rfl
/-- the program's names: classes, methods, codes, frames and locals of a method, the kit's classes, words, words of nests, array types, statics -/
abbrev am_Nm : Type := (Nat → String) × (Nat → MethodName) × (Nat → ByteArray) × (Nat → Nat) × (Nat → Nat) × List vw_C × List Cond × List Cond × List FieldType × List (String × String × String)
def am_cn (B : am_Nm) := B.1
def am_y (B : am_Nm) := B.2.1
def am_cc (B : am_Nm) := B.2.2.1
def am_rF (B : am_Nm) := B.2.2.2.1
def am_rL (B : am_Nm) := B.2.2.2.2.1
def am_kl (B : am_Nm) := B.2.2.2.2.2.1
def am_W (B : am_Nm) := B.2.2.2.2.2.2.1
def am_N (B : am_Nm) := B.2.2.2.2.2.2.2.1
def am_T (B : am_Nm) := B.2.2.2.2.2.2.2.2.1
def am_S (B : am_Nm) := B.2.2.2.2.2.2.2.2.2
def am_tys (B : am_Nm) (Z : am_Z) : List (ClassId × FieldType) := (am_T B).mapIdx (fun i t => (Z.1 i, t))
theorem am_tyg {B : am_Nm} {Z : am_Z} {t : Nat} {ty : FieldType} (h : (am_T B)[t]? = some ty) : (am_tys B Z)[t]? = some (Z.1 t, ty) := by
  simp [am_tys, List.getElem?_mapIdx, h]
/-- the tables' facts at a method's entry -/
def am_Kc (P : am_Pg) (B : am_Nm) (Z : am_Z) (U : State) (H : Heap) : Prop :=
  (∀ c n f, am_cst P c = some (n, f) → Z.2.1 c < Z.2.2 ∧ Z.2.1 c < H.size ∧ va_X (Z.2.1 c) n f U H ∧ (c ≠ 0 → ∃ cell : Cell, H[Z.2.1 c]? = some cell ∧ U.vm.findClass "[I" = some cell.cls)) ∧
  ∀ k q, (am_S B)[k]? = some q → va_Z q.1 q.2.1 q.2.2 (.ref (Z.2.1 (k + 1))) (am_A Z) U H
theorem am_Kc.moved {P : am_Pg} {B : am_Nm} {Z : am_Z} {u U : State} {H : Heap} (hvm : u.vm.Alike U.vm) (h : am_Kc P B Z u H) : am_Kc P B Z U H := by
  refine ⟨fun c n f hc => ?_, fun k q hq => (h.2 k q hq).moved hvm⟩
  obtain ⟨h1, h2, h3, h4⟩ := h.1 c n f hc
  refine ⟨h1, h2, h3.moved hvm, fun hc0 => ?_⟩
  obtain ⟨cell, h5, h6⟩ := h4 hc0
  exact ⟨cell, h5, by rw [hvm.findClass]; exact h6⟩
theorem am_Kc.kept {P : am_Pg} {B : am_Nm} {Z : am_Z} {U : State} {H H1 : Heap} (h : am_Kc P B Z U H) (hz : H.size ≤ H1.size) (hq : ∀ a : Nat, a < H.size → ¬ am_A Z a → H1[a]? = H[a]?) : am_Kc P B Z U H1 := by
  refine ⟨fun c n f hc => ?_, fun k q hk => (h.2 k q hk).kept hq⟩
  obtain ⟨h1, h2, h3, h4⟩ := h.1 c n f hc
  have e : H1[Z.2.1 c]? = H[Z.2.1 c]? := hq _ h2 (Nat.not_le.mpr h1)
  refine ⟨h1, Nat.lt_of_lt_of_le h2 hz, h3.kept e, fun hc0 => ?_⟩
  obtain ⟨cell, h5, h6⟩ := h4 hc0
  exact ⟨cell, by rw [e]; exact h5, h6⟩
def am_ln : Instr → Nat
  | .bipush _ => 2
  | .sipush _ => 3
  | .ldc _ => 2
  | .ldc_w _ => 3
  | .ldc2_w _ => 3
  | .iload _ => 2
  | .lload _ => 2
  | .aload _ => 2
  | .istore _ => 2
  | .lstore _ => 2
  | .astore _ => 2
  | .iinc _ _ => 3
  | .ifCond _ _ => 3
  | .if_icmp _ _ => 3
  | .ifnonnull _ => 3
  | .ifnull _ => 3
  | .goto _ => 3
  | .tableswitch _ _ _ _ => 0
  | .getfield _ => 3
  | .putfield _ => 3
  | .getstatic _ => 3
  | .new _ => 3
  | .newarray _ => 2
  | .anewarray _ => 3
  | .checkcast _ => 3
  | .invokespecial _ => 3
  | .invokestatic _ => 3
  | .invokevirtual _ => 3
  | _ => 1
/-- the program is what the tables say: code; classes; fields; statics; constants; new; arrays; anewarray, components; casts; natives; calls; words -/
def am_G1 (P : am_Pg) (B : am_Nm) : Prop := ∀ mi pc ins, am_code P mi pc = some ins → ∃ len, decode (am_cc B mi) pc = .ok (ins, len) ∧ (am_ln ins = 0 ∨ len = am_ln ins)
def am_G2 (P : am_Pg) (B : am_Nm) : Prop := ∀ (ci : Nat) (r : vw_C), (am_kl B)[ci]? = some r → am_cn B ci = r.1 ∧ (∀ w ∈ u_ws r.1 r.2.1 r.2.2, w ∈ am_W B) ∧ (∀ k, k < r.2.2 → parseFieldDescriptor (r.2.1 k).2.2.1 = some (am_fty P ci k) ∧ (r.2.1 k).2.2.2 = am_fin P ci k ∧ (r.2.1 k).1 = r.1) ∧ ∀ a, a < r.2.2 → ∀ b, b < r.2.2 → a ≠ b → (r.2.1 a).2.1 ≠ (r.2.1 b).2.1
def am_G3 (P : am_Pg) (B : am_Nm) : Prop := ∀ own i ci k, am_fld P own i = some (ci, k) → ∃ r : vw_C, (am_kl B)[ci]? = some r ∧ k < r.2.2 ∧ (Cond.fieldLink (am_cn B own) i r.1 (r.2.1 k).2.1 (r.2.1 k).2.2.1 ∈ am_W B ∨ (own ≠ ci ∧ ∃ host, Cond.fieldLinkNest (am_cn B own) i r.1 (r.2.1 k).2.1 (r.2.1 k).2.2.1 host ∈ am_N B))
def am_G4 (P : am_Pg) (B : am_Nm) : Prop := ∀ own i c, am_sta P own i = some c → ∃ k q, c = k + 1 ∧ (am_S B)[k]? = some q ∧ (Cond.fieldLink (am_cn B own) i q.1 q.2.1 q.2.2 ∈ am_W B ∨ ∃ host, Cond.fieldLinkNest (am_cn B own) i q.1 q.2.1 q.2.2 host ∈ am_N B)
def am_G5 (P : am_Pg) (B : am_Nm) : Prop := ∀ own i v, am_con P own i = some v → match v with
  | .int x => Cond.constant (am_cn B own) i x ∈ am_W B
  | .long x => Cond.constantLong (am_cn B own) i x ∈ am_W B
  | .float x => Cond.constantFloat (am_cn B own) i x ∈ am_W B
  | .double x => Cond.constantDouble (am_cn B own) i x ∈ am_W B
  | _ => True
def am_G6 (P : am_Pg) (B : am_Nm) : Prop := ∀ own i ci fs, am_new P own i = some (ci, fs) → ∃ r : vw_C, (am_kl B)[ci]? = some r ∧ Cond.classLink (am_cn B own) i r.1 ∈ am_W B ∧ Cond.instantiable r.1 r.2.2 ∈ am_W B ∧ Cond.initialized r.1 ∈ am_W B ∧ fs.length = r.2.2 ∧ ∀ j, j < r.2.2 → defaultValue (am_fty P ci j) = vp_V fs j
def am_G7 (B : am_Nm) : Prop := Cond.arrayClass .int ∈ am_W B ∧ Cond.arrayClass .long ∈ am_W B ∧ (am_T B)[0]? = some .int ∧ (am_T B)[1]? = some .long
def am_G8 (P : am_Pg) (B : am_Nm) : Prop := (∀ own i t, am_anw P own i = some t → 2 ≤ t ∧ t < 5 ∧ ∃ r : vw_C, (am_kl B)[am_elt P t]? = some r ∧ (am_T B)[t]? = some (.object r.1) ∧ Cond.classLink (am_cn B own) i r.1 ∈ am_W B ∧ Cond.arrayOver (.object r.1) ∈ am_N B) ∧ ∀ t, 2 ≤ t → t < 5 → ∃ r : vw_C, (am_kl B)[am_elt P t]? = some r ∧ (am_T B)[t]? = some (.object r.1)
def am_G9 (P : am_Pg) (B : am_Nm) : Prop := ∀ mi pc i, am_code P mi pc = some (.checkcast i) → Cond.classLink (am_cn B (am_own P mi)) i "[I" ∈ am_W B
def am_Ga (P : am_Pg) (B : am_Nm) : Prop := ∀ mi i k, am_nat P mi i = some k → 1 ≤ am_rF B mi ∧ 40 ≤ am_rL B mi ∧ (match k with
  | 0 => Cond.methodLink (am_cn B (am_own P mi)) i objectInit ∈ am_W B ∧ Cond.instanceMethod objectInit ∈ am_W B ∧ Cond.code objectInit ⟨#[0xb1]⟩ 1 none ∈ am_W B
  | 1 => Cond.methodLink (am_cn B (am_own P mi)) i arraycopyName ∈ am_W B ∧ Cond.native arraycopyName ∈ am_W B ∧ Cond.static arraycopyName ∈ am_W B ∧ Cond.initialized "java/lang/System" ∈ am_W B
  | 2 => Cond.methodLink (am_cn B (am_own P mi)) i ⟨"[I", "clone", "()Ljava/lang/Object;"⟩ ∈ am_W B ∧ Cond.sameMethod "[I" "java/lang/Object" "clone" "()Ljava/lang/Object;" ∈ am_W B ∧ Cond.native ⟨"java/lang/Object", "clone", "()Ljava/lang/Object;"⟩ ∈ am_W B ∧ Cond.instanceMethod ⟨"java/lang/Object", "clone", "()Ljava/lang/Object;"⟩ ∈ am_W B ∧ Cond.selects "[I" ⟨"[I", "clone", "()Ljava/lang/Object;"⟩ ⟨"java/lang/Object", "clone", "()Ljava/lang/Object;"⟩ ∈ am_W B ∧ Cond.castable "[I" "java/lang/Cloneable" ∈ am_N B
  | 3 => Cond.methodLink (am_cn B (am_own P mi)) i ⟨"java/lang/Double", "doubleToRawLongBits", "(D)J"⟩ ∈ am_W B ∧ Cond.native ⟨"java/lang/Double", "doubleToRawLongBits", "(D)J"⟩ ∈ am_W B ∧ Cond.static ⟨"java/lang/Double", "doubleToRawLongBits", "(D)J"⟩ ∈ am_W B ∧ Cond.initialized "java/lang/Double" ∈ am_W B
  | 4 => Cond.methodLink (am_cn B (am_own P mi)) i ⟨"java/lang/Float", "floatToRawIntBits", "(F)I"⟩ ∈ am_W B ∧ Cond.native ⟨"java/lang/Float", "floatToRawIntBits", "(F)I"⟩ ∈ am_W B ∧ Cond.static ⟨"java/lang/Float", "floatToRawIntBits", "(F)I"⟩ ∈ am_W B ∧ Cond.initialized "java/lang/Float" ∈ am_W B
  | _ => False)
def am_Gb (P : am_Pg) (B : am_Nm) : Prop := ∀ mi i kd mj n, am_cal P mi i = some (kd, mj, n) → am_rF B mj + 1 ≤ am_rF B mi ∧ 8 + (am_mxl P mj + 11) + am_rL B mj ≤ am_rL B mi ∧ Cond.code (am_y B mj) (am_cc B mj) (am_mxl P mj) (am_ret P mj) ∈ am_W B ∧ Cond.initialized (am_y B mj).cls ∈ am_W B ∧ (am_y B mj).cls = am_cn B (am_own P mj) ∧ plainFor (am_y B mj) = true ∧
  ((am_y B mj).cls ≠ "java/lang/invoke/MethodHandle" ∧ (am_y B mj).cls ≠ "java/lang/invoke/VarHandle" ∧ (parseMethodDescriptor (am_y B mj).desc).map (fun d => d.parameters.length) = some (if kd = 0 then n else n - 1)) ∧
  (Cond.methodLink (am_cn B (am_own P mi)) i (am_y B mj) ∈ am_W B ∨ ∃ host, Cond.methodLinkNest (am_cn B (am_own P mi)) i (am_y B mj) host ∈ am_N B) ∧
  (kd = 0 → Cond.static (am_y B mj) ∈ am_W B) ∧ (kd = 1 → 0 < n ∧ Cond.instanceMethod (am_y B mj) ∈ am_W B ∧ Cond.selects (am_y B mj).cls (am_y B mj) (am_y B mj) ∈ am_W B ∧ ∃ r : vw_C, (am_kl B)[am_own P mj]? = some r) ∧ (kd = 2 → 0 < n ∧ (am_y B mj).name = "<init>" ∧ Cond.instanceMethod (am_y B mj) ∈ am_W B ∧ am_ret P mj = none)
/-- the words of nests, and of casts -/
def am_nw_ : Cond → Bool
  | .fieldLinkNest _ _ _ _ _ _ => true
  | .methodLinkNest _ _ _ _ => true
  | .castable _ _ => true
  | .arrayOver (.object _) => true
  | _ => false
def am_Gc (P : am_Pg) (B : am_Nm) : Prop := (∀ w ∈ am_W B, goodWord w = true) ∧ (∀ w ∈ am_N B, am_nw_ w = true) ∧ ∀ mj, am_ini P mj = true → (am_y B mj).name = "<init>"
def am_Gd (P : am_Pg) (B : am_Nm) : Prop := am_G1 P B ∧ am_G2 P B ∧ am_G3 P B ∧ am_G4 P B ∧ am_G5 P B ∧ am_G6 P B ∧ am_G7 B ∧ am_G8 P B ∧ am_G9 P B ∧ am_Ga P B ∧ am_Gb P B ∧ am_Gc P B
/-- what holds at a method's entry -/
def am_X (P : am_Pg) (B : am_Nm) (D : va_G) (Z : am_Z) (p : Program) (R : Room) (s : State) (m : MethodId) (args : Array Value) (meth : Method) (c : Code) (mi : Nat) : Prop :=
  p.tables.exec = Jvm.exec ∧ c.code = am_cc B mi ∧ c.maxLocals = am_mxl P mi ∧ meth.sig.returnType = am_ret P mi ∧ meth.locks = false ∧ s.vm.findClass (am_cn B (am_own P mi)) = some m.cls ∧ (am_ini P mi = true → meth.name = "<init>") ∧
  (∀ w ∈ am_W B, w.before args s = true) ∧ (∀ w ∈ am_N B, va_Nw w s) ∧ va_K D (am_kl B) (am_tys B Z) s ∧ am_Kc P B Z s s.heap ∧ Z.2.2 ≤ s.heap.size ∧ am_rF B mi ≤ R.frames ∧ am_rL B mi ≤ R.locals
end
section
/-! ===== a step of the pure machine is a step of the claim's machine ===== -/
section AMV
variable {p : Program} {l : Launch} {e : Env} {R : Room} {s : State} {m : MethodId} {args : Array Value} {below : List Frame} {meth : Method} {c : Code} {Q : State → Prop}
variable {P : am_Pg} {B : am_Nm} {D : va_G} {Z : am_Z} {mi : Nat} {k0 n0 : Nat} {pc pc' len : Nat} {lv lv' : am_L} {st st' : List Value} {M M' : am_M}
/-- the claim's machine, wherever it holds this picture, comes to Q -/
def am_V (p : Program) (l : Launch) (e : Env) (R : Room) (s : State) (m : MethodId) (args : Array Value) (below : List Frame) (meth : Method) (c : Code) (Q : State → Prop) (P : am_Pg) (B : am_Nm) (D : va_G) (Z : am_Z) (mi k0 n0 : Nat) (pc : Nat) (lv : am_L) (st : List Value) (M : am_M) : Prop :=
  ∀ (H : Heap) (locs : List Loc) (ls : Array Slot), am_R D (am_kl B) Z M H → va_S (am_A Z) s.heap H locs → lv_has ls (am_mxl P mi) (am_lt Z lv) → k0 ≤ M.1.length → n0 ≤ M.2 →
    W p l e R s m args below meth c H locs (M.1.length - k0) (M.2 - n0) Q (F0 m pc ls (st.map (am_tr Z.2.1 Z.2.2)))
theorem am_pu_inv {n : Nat} {o : Option Value} (h : am_pu n pc lv st M o = some (pc', lv', st', M')) : ∃ v, o = some v ∧ pc' = pc + n ∧ lv' = lv ∧ st' = v :: st ∧ M' = M := by
  unfold am_pu at h
  cases o with
  | none => cases h
  | some v => cases h; exact ⟨v, rfl, rfl, rfl, rfl, rfl⟩
theorem am_2_inv {f : Value → Value → Option Value} (h : am_2 pc lv st M f = some (pc', lv', st', M')) : ∃ x y r v, st = y :: x :: r ∧ f x y = some v ∧ pc' = pc + 1 ∧ lv' = lv ∧ st' = v :: r ∧ M' = M := by
  unfold am_2 at h
  split at h
  · rename_i y x r
    split at h
    · rename_i v hv
      cases h
      exact ⟨x, y, r, v, rfl, hv, rfl, rfl, rfl, rfl⟩
    · cases h
  · cases h
theorem am_1_inv {f : Value → Option Value} (h : am_1 pc lv st M f = some (pc', lv', st', M')) : ∃ x r v, st = x :: r ∧ f x = some v ∧ pc' = pc + 1 ∧ lv' = lv ∧ st' = v :: r ∧ M' = M := by
  unfold am_1 at h
  split at h
  · rename_i x r
    split at h
    · rename_i v hv
      cases h
      exact ⟨x, r, v, rfl, hv, rfl, rfl, rfl, rfl⟩
    · cases h
  · cases h
theorem am_fI_inv {g : Int32 → Int32 → Int32} {x y v : Value} (h : am_fI g x y = some v) : ∃ a b, x = .int a ∧ y = .int b ∧ v = .int (g a b) := by
  unfold am_fI at h
  split at h
  · cases h; exact ⟨_, _, rfl, rfl, rfl⟩
  · cases h
theorem am_fID_inv {g : Int32 → Int32 → Int32} {x y v : Value} (h : am_fID g x y = some v) : ∃ a b, x = .int a ∧ y = .int b ∧ ¬ b = 0 ∧ v = .int (g a b) := by
  unfold am_fID at h
  split at h
  · rename_i a b
    by_cases hb : b = 0
    · rw [if_pos hb] at h; cases h
    · rw [if_neg hb] at h; cases h; exact ⟨_, _, rfl, rfl, hb, rfl⟩
  · cases h
theorem am_fL_inv {g : Int64 → Int64 → Int64} {x y v : Value} (h : am_fL g x y = some v) : ∃ a b, x = .long a ∧ y = .long b ∧ v = .long (g a b) := by
  unfold am_fL at h
  split at h
  · cases h; exact ⟨_, _, rfl, rfl, rfl⟩
  · cases h
theorem am_fLD_inv {g : Int64 → Int64 → Int64} {x y v : Value} (h : am_fLD g x y = some v) : ∃ a b, x = .long a ∧ y = .long b ∧ ¬ b = 0 ∧ v = .long (g a b) := by
  unfold am_fLD at h
  split at h
  · rename_i a b
    by_cases hb : b = 0
    · rw [if_pos hb] at h; cases h
    · rw [if_neg hb] at h; cases h; exact ⟨_, _, rfl, rfl, hb, rfl⟩
  · cases h
theorem am_fLI_inv {g : Int64 → Int32 → Int64} {x y v : Value} (h : am_fLI g x y = some v) : ∃ a b, x = .long a ∧ y = .int b ∧ v = .long (g a b) := by
  unfold am_fLI at h
  split at h
  · cases h; exact ⟨_, _, rfl, rfl, rfl⟩
  · cases h
theorem am_fF_inv {g : UInt32 → UInt32 → UInt32} {x y v : Value} (h : am_fF g x y = some v) : ∃ a b, x = .float a ∧ y = .float b ∧ vf_n32 (g a b) ∧ v = .float (g a b) := by
  unfold am_fF at h
  split at h
  · rename_i a b
    by_cases hb : (g a b) &&& 0x7fffffff ≤ 0x7f800000
    · rw [if_pos hb] at h; cases h; exact ⟨_, _, rfl, rfl, hb, rfl⟩
    · rw [if_neg hb] at h; cases h
  · cases h
theorem am_fD_inv {g : UInt64 → UInt64 → UInt64} {x y v : Value} (h : am_fD g x y = some v) : ∃ a b, x = .double a ∧ y = .double b ∧ vf_n64 (g a b) ∧ v = .double (g a b) := by
  unfold am_fD at h
  split at h
  · rename_i a b
    by_cases hb : (g a b) &&& 0x7fffffffffffffff ≤ 0x7ff0000000000000
    · rw [if_pos hb] at h; cases h; exact ⟨_, _, rfl, rfl, hb, rfl⟩
    · rw [if_neg hb] at h; cases h
  · cases h
theorem am_tg_inv {off : Int} {t : Nat} (h : am_tg pc off = some t) : (pc : Int) + off = (t : Int) := by
  unfold am_tg at h
  by_cases hc : 0 ≤ (pc : Int) + off
  · rw [if_pos hc] at h
    cases h
    omega
  · rw [if_neg hc] at h; cases h
theorem am_in_inv {i : Int32} {n : Nat} (h : am_in i n = true) : vp_in i n := by
  simp only [am_in, Bool.and_eq_true, Bool.not_eq_true', decide_eq_false_iff_not, decide_eq_true_eq] at h
  exact fun q => q.elim h.1 (fun q => by omega)
theorem am_ld_int {o : Option Value} {v : Value} (h : am_ld 0 o = some v) : ∃ x, v = .int x ∧ o = some (.int x) := by
  unfold am_ld at h
  split at h <;> first | (cases h; exact ⟨_, rfl, rfl⟩) | (rename_i q; cases q; done) | (rename_i q _; cases q; done) | (cases h; done) | (rename_i q; exact absurd q (by decide))
theorem am_ld_long {o : Option Value} {v : Value} (h : am_ld 1 o = some v) : ∃ x, v = .long x ∧ o = some (.long x) := by
  unfold am_ld at h
  split at h <;> first | (cases h; exact ⟨_, rfl, rfl⟩) | (rename_i q; cases q; done) | (rename_i q _; cases q; done) | (cases h; done) | (rename_i q; exact absurd q (by decide))
theorem am_ld_float {o : Option Value} {v : Value} (h : am_ld 2 o = some v) : ∃ x, v = .float x ∧ o = some (.float x) := by
  unfold am_ld at h
  split at h <;> first | (cases h; exact ⟨_, rfl, rfl⟩) | (rename_i q; cases q; done) | (rename_i q _; cases q; done) | (cases h; done) | (rename_i q; exact absurd q (by decide))
theorem am_ld_double {o : Option Value} {v : Value} (h : am_ld 3 o = some v) : ∃ x, v = .double x ∧ o = some (.double x) := by
  unfold am_ld at h
  split at h <;> first | (cases h; exact ⟨_, rfl, rfl⟩) | (rename_i q; cases q; done) | (rename_i q _; cases q; done) | (cases h; done) | (rename_i q; exact absurd q (by decide))
theorem am_ld_ref (Z : am_Z) {o : Option Value} {v : Value} (h : am_ld 4 o = some v) : o = some v ∧ v.category = 1 ∧ ∃ a, am_tr Z.2.1 Z.2.2 v = .ref a := by
  unfold am_ld at h
  split at h <;> first | (cases h; exact ⟨rfl, rfl, _, rfl⟩) | (rename_i q; cases q; done) | (rename_i q _; cases q; done) | (cases h; done) | (rename_i q; exact absurd q (by decide))
theorem am_so_inv {w n i nL : Nat} (h : am_so w n pc i nL lv st M = some (pc', lv', st', M')) : ∃ v r, st = v :: r ∧ (∃ u, am_ld w (some v) = some u) ∧ pc' = pc + n ∧ st' = r ∧ M' = M ∧ ((v.category = 2 ∧ i + 1 < nL ∧ lv' = am_s2 lv i v) ∨ (¬ v.category = 2 ∧ i < nL ∧ lv' = am_s1 lv i v)) := by
  unfold am_so at h
  split at h
  · rename_i v r
    split at h
    · cases h
    · rename_i u hu
      by_cases hc : v.category = 2
      · rw [if_pos hc] at h
        by_cases hi : i + 1 < nL
        · rw [if_pos hi] at h
          cases h
          exact ⟨v, _, rfl, ⟨u, hu⟩, rfl, rfl, rfl, Or.inl ⟨hc, hi, rfl⟩⟩
        · rw [if_neg hi] at h; cases h
      · rw [if_neg hc] at h
        by_cases hi : i < nL
        · rw [if_pos hi] at h
          cases h
          exact ⟨v, _, rfl, ⟨u, hu⟩, rfl, rfl, rfl, Or.inr ⟨hc, hi, rfl⟩⟩
        · rw [if_neg hi] at h; cases h
  · cases h
theorem am_br_inv {b : Bool} {off : Int} {r : List Value} (h : am_br b pc off lv r M = some (pc', lv', st', M')) : ∃ t : Nat, (pc : Int) + off = (t : Int) ∧ lv' = lv ∧ st' = r ∧ M' = M ∧ ((b = true ∧ pc' = t) ∨ (b = false ∧ pc' = pc + 3)) := by
  unfold am_br at h
  split at h
  · rename_i t ht
    cases b with
    | true => cases h; exact ⟨_, am_tg_inv ht, rfl, rfl, rfl, Or.inl ⟨rfl, rfl⟩⟩
    | false => cases h; exact ⟨t, am_tg_inv ht, rfl, rfl, rfl, Or.inr ⟨rfl, rfl⟩⟩
  · cases h
theorem am_go_inv {off : Int} {r : List Value} (h : am_go pc off lv r M = some (pc', lv', st', M')) : (pc : Int) + off = (pc' : Int) ∧ lv' = lv ∧ st' = r ∧ M' = M := by
  unfold am_go at h
  split at h
  · rename_i t ht
    cases h
    exact ⟨am_tg_inv ht, rfl, rfl, rfl⟩
  · cases h
theorem am_t_if {op : ClassFile.Cond} {off : Int} (hC : am_X P B D Z p R s m args meth c mi) (hdg : decode (am_cc B mi) pc = .ok (.ifCond op off, 3)) (h : am_st P mi (.ifCond op off) pc lv st M = some (pc', lv', st', M'))
    (hV : am_V p l e R s m args below meth c Q P B D Z mi k0 n0 pc' lv' st' M') : am_V p l e R s m args below meth c Q P B D Z mi k0 n0 pc lv st M := by
  obtain ⟨hx, hb, -⟩ := hC
  unfold am_st at h
  dsimp only at h
  split at h
  · rename_i x r
    obtain ⟨t, ht, rfl, rfl, rfl, hcs⟩ := am_br_inv h
    intro H locs ls hR hS hl hk hn
    have K := hV H locs ls hR hS hl hk hn
    cases op with
    | eq => exact lv_if_eq hx hb hdg ht (fun q => by rcases hcs with ⟨h1, rfl⟩ | ⟨h1, rfl⟩; exact K; simp [am_c1, q] at h1) (fun q => by rcases hcs with ⟨h1, rfl⟩ | ⟨h1, rfl⟩; simp [am_c1, q] at h1; exact K)
    | ne => exact lv_if_ne hx hb hdg ht (fun q => by rcases hcs with ⟨h1, rfl⟩ | ⟨h1, rfl⟩; exact K; simp [am_c1, q] at h1) (fun q => by rcases hcs with ⟨h1, rfl⟩ | ⟨h1, rfl⟩; simp [am_c1, q] at h1; exact K)
    | lt => exact lv_if_lt hx hb hdg ht (fun q => by rcases hcs with ⟨h1, rfl⟩ | ⟨h1, rfl⟩; exact K; simp [am_c1, q] at h1) (fun q => by rcases hcs with ⟨h1, rfl⟩ | ⟨h1, rfl⟩; simp [am_c1, q] at h1; exact K)
    | ge => exact lv_if_ge hx hb hdg ht (fun q => by rcases hcs with ⟨h1, rfl⟩ | ⟨h1, rfl⟩; exact K; simp [am_c1, q] at h1) (fun q => by rcases hcs with ⟨h1, rfl⟩ | ⟨h1, rfl⟩; simp [am_c1, q] at h1; exact K)
    | gt => exact lv_if_gt hx hb hdg ht (fun q => by rcases hcs with ⟨h1, rfl⟩ | ⟨h1, rfl⟩; exact K; simp [am_c1, q] at h1) (fun q => by rcases hcs with ⟨h1, rfl⟩ | ⟨h1, rfl⟩; simp [am_c1, q] at h1; exact K)
    | le => exact lv_if_le hx hb hdg ht (fun q => by rcases hcs with ⟨h1, rfl⟩ | ⟨h1, rfl⟩; exact K; simp [am_c1, q] at h1) (fun q => by rcases hcs with ⟨h1, rfl⟩ | ⟨h1, rfl⟩; simp [am_c1, q] at h1; exact K)
  · cases h
theorem am_t_icmp {op : ClassFile.Cond} {off : Int} (hC : am_X P B D Z p R s m args meth c mi) (hdg : decode (am_cc B mi) pc = .ok (.if_icmp op off, 3)) (h : am_st P mi (.if_icmp op off) pc lv st M = some (pc', lv', st', M'))
    (hV : am_V p l e R s m args below meth c Q P B D Z mi k0 n0 pc' lv' st' M') : am_V p l e R s m args below meth c Q P B D Z mi k0 n0 pc lv st M := by
  obtain ⟨hx, hb, -⟩ := hC
  unfold am_st at h
  dsimp only at h
  split at h
  · rename_i y x r
    obtain ⟨t, ht, rfl, rfl, rfl, hcs⟩ := am_br_inv h
    intro H locs ls hR hS hl hk hn
    have K := hV H locs ls hR hS hl hk hn
    cases op with
    | eq => exact lv_icmp_eq hx hb hdg ht (fun q => by rcases hcs with ⟨h1, rfl⟩ | ⟨h1, rfl⟩; exact K; simp [am_c2, q] at h1) (fun q => by rcases hcs with ⟨h1, rfl⟩ | ⟨h1, rfl⟩; simp [am_c2, q] at h1; exact K)
    | ne => exact lv_icmp_ne hx hb hdg ht (fun q => by rcases hcs with ⟨h1, rfl⟩ | ⟨h1, rfl⟩; exact K; simp [am_c2, q] at h1) (fun q => by rcases hcs with ⟨h1, rfl⟩ | ⟨h1, rfl⟩; simp [am_c2, q] at h1; exact K)
    | lt => exact lv_icmp_lt hx hb hdg ht (fun q => by rcases hcs with ⟨h1, rfl⟩ | ⟨h1, rfl⟩; exact K; simp [am_c2, q] at h1) (fun q => by rcases hcs with ⟨h1, rfl⟩ | ⟨h1, rfl⟩; simp [am_c2, q] at h1; exact K)
    | ge => exact lv_icmp_ge hx hb hdg ht (fun q => by rcases hcs with ⟨h1, rfl⟩ | ⟨h1, rfl⟩; exact K; simp [am_c2, q] at h1) (fun q => by rcases hcs with ⟨h1, rfl⟩ | ⟨h1, rfl⟩; simp [am_c2, q] at h1; exact K)
    | gt => exact lv_icmp_gt hx hb hdg ht (fun q => by rcases hcs with ⟨h1, rfl⟩ | ⟨h1, rfl⟩; exact K; simp [am_c2, q] at h1) (fun q => by rcases hcs with ⟨h1, rfl⟩ | ⟨h1, rfl⟩; simp [am_c2, q] at h1; exact K)
    | le => exact lv_icmp_le hx hb hdg ht (fun q => by rcases hcs with ⟨h1, rfl⟩ | ⟨h1, rfl⟩; exact K; simp [am_c2, q] at h1) (fun q => by rcases hcs with ⟨h1, rfl⟩ | ⟨h1, rfl⟩; simp [am_c2, q] at h1; exact K)
  · cases h
theorem am_t_iconst {n : Int} (hC : am_X P B D Z p R s m args meth c mi) (hdg : decode (am_cc B mi) pc = .ok (.iconst n, 1)) (h : am_st P mi (.iconst n) pc lv st M = some (pc', lv', st', M'))
    (hV : am_V p l e R s m args below meth c Q P B D Z mi k0 n0 pc' lv' st' M') : am_V p l e R s m args below meth c Q P B D Z mi k0 n0 pc lv st M := by
  obtain ⟨hx, hb, -⟩ := hC
  cases h
  exact fun H locs ls hR hS hl hk hn => lv_iconst hx hb hdg rfl (hV H locs ls hR hS hl hk hn)
theorem am_t_bipush {n : Int} (hC : am_X P B D Z p R s m args meth c mi) (hdg : decode (am_cc B mi) pc = .ok (.bipush n, 2)) (h : am_st P mi (.bipush n) pc lv st M = some (pc', lv', st', M'))
    (hV : am_V p l e R s m args below meth c Q P B D Z mi k0 n0 pc' lv' st' M') : am_V p l e R s m args below meth c Q P B D Z mi k0 n0 pc lv st M := by
  obtain ⟨hx, hb, -⟩ := hC
  cases h
  exact fun H locs ls hR hS hl hk hn => lv_bipush hx hb hdg rfl (hV H locs ls hR hS hl hk hn)
theorem am_t_sipush {n : Int} (hC : am_X P B D Z p R s m args meth c mi) (hdg : decode (am_cc B mi) pc = .ok (.sipush n, 3)) (h : am_st P mi (.sipush n) pc lv st M = some (pc', lv', st', M'))
    (hV : am_V p l e R s m args below meth c Q P B D Z mi k0 n0 pc' lv' st' M') : am_V p l e R s m args below meth c Q P B D Z mi k0 n0 pc lv st M := by
  obtain ⟨hx, hb, -⟩ := hC
  cases h
  exact fun H locs ls hR hS hl hk hn => lv_sipush hx hb hdg rfl (hV H locs ls hR hS hl hk hn)
theorem am_t_lconst {n : Fin 2} (hC : am_X P B D Z p R s m args meth c mi) (hdg : decode (am_cc B mi) pc = .ok (.lconst n, 1)) (h : am_st P mi (.lconst n) pc lv st M = some (pc', lv', st', M'))
    (hV : am_V p l e R s m args below meth c Q P B D Z mi k0 n0 pc' lv' st' M') : am_V p l e R s m args below meth c Q P B D Z mi k0 n0 pc lv st M := by
  obtain ⟨hx, hb, -⟩ := hC
  cases h
  exact fun H locs ls hR hS hl hk hn => lv_lconst hx hb hdg rfl (hV H locs ls hR hS hl hk hn)
theorem am_t_fconst0 (hC : am_X P B D Z p R s m args meth c mi) (hdg : decode (am_cc B mi) pc = .ok (.fconst 0, 1)) (h : am_st P mi (.fconst 0) pc lv st M = some (pc', lv', st', M'))
    (hV : am_V p l e R s m args below meth c Q P B D Z mi k0 n0 pc' lv' st' M') : am_V p l e R s m args below meth c Q P B D Z mi k0 n0 pc lv st M := by
  obtain ⟨hx, hb, -⟩ := hC
  cases h
  exact fun H locs ls hR hS hl hk hn => lv_fconst0 hx hb hdg (hV H locs ls hR hS hl hk hn)
theorem am_t_fconst1 (hC : am_X P B D Z p R s m args meth c mi) (hdg : decode (am_cc B mi) pc = .ok (.fconst 1, 1)) (h : am_st P mi (.fconst 1) pc lv st M = some (pc', lv', st', M'))
    (hV : am_V p l e R s m args below meth c Q P B D Z mi k0 n0 pc' lv' st' M') : am_V p l e R s m args below meth c Q P B D Z mi k0 n0 pc lv st M := by
  obtain ⟨hx, hb, -⟩ := hC
  cases h
  exact fun H locs ls hR hS hl hk hn => lv_fconst1 hx hb hdg (hV H locs ls hR hS hl hk hn)
theorem am_t_fconst2 (hC : am_X P B D Z p R s m args meth c mi) (hdg : decode (am_cc B mi) pc = .ok (.fconst 2, 1)) (h : am_st P mi (.fconst 2) pc lv st M = some (pc', lv', st', M'))
    (hV : am_V p l e R s m args below meth c Q P B D Z mi k0 n0 pc' lv' st' M') : am_V p l e R s m args below meth c Q P B D Z mi k0 n0 pc lv st M := by
  obtain ⟨hx, hb, -⟩ := hC
  cases h
  exact fun H locs ls hR hS hl hk hn => lv_fconst2 hx hb hdg (hV H locs ls hR hS hl hk hn)
theorem am_t_dconst0 (hC : am_X P B D Z p R s m args meth c mi) (hdg : decode (am_cc B mi) pc = .ok (.dconst 0, 1)) (h : am_st P mi (.dconst 0) pc lv st M = some (pc', lv', st', M'))
    (hV : am_V p l e R s m args below meth c Q P B D Z mi k0 n0 pc' lv' st' M') : am_V p l e R s m args below meth c Q P B D Z mi k0 n0 pc lv st M := by
  obtain ⟨hx, hb, -⟩ := hC
  cases h
  exact fun H locs ls hR hS hl hk hn => lv_dconst0 hx hb hdg (hV H locs ls hR hS hl hk hn)
theorem am_t_dconst1 (hC : am_X P B D Z p R s m args meth c mi) (hdg : decode (am_cc B mi) pc = .ok (.dconst 1, 1)) (h : am_st P mi (.dconst 1) pc lv st M = some (pc', lv', st', M'))
    (hV : am_V p l e R s m args below meth c Q P B D Z mi k0 n0 pc' lv' st' M') : am_V p l e R s m args below meth c Q P B D Z mi k0 n0 pc lv st M := by
  obtain ⟨hx, hb, -⟩ := hC
  cases h
  exact fun H locs ls hR hS hl hk hn => lv_dconst1 hx hb hdg (hV H locs ls hR hS hl hk hn)
theorem am_t_iload_n {k : Fin 4} (hC : am_X P B D Z p R s m args meth c mi) (hdg : decode (am_cc B mi) pc = .ok (.iload_n k, 1)) (h : am_st P mi (.iload_n k) pc lv st M = some (pc', lv', st', M'))
    (hV : am_V p l e R s m args below meth c Q P B D Z mi k0 n0 pc' lv' st' M') : am_V p l e R s m args below meth c Q P B D Z mi k0 n0 pc lv st M := by
  obtain ⟨hx, hb, -⟩ := hC
  obtain ⟨v, hv, rfl, rfl, rfl, rfl⟩ := am_pu_inv h
  obtain ⟨x, rfl, ho⟩ := am_ld_int hv
  exact fun H locs ls hR hS hl hk hn => lv_iload_n hx hb hdg rfl (am_lat hl ho) (hV H locs ls hR hS hl hk hn)
theorem am_t_lload_n {k : Fin 4} (hC : am_X P B D Z p R s m args meth c mi) (hdg : decode (am_cc B mi) pc = .ok (.lload_n k, 1)) (h : am_st P mi (.lload_n k) pc lv st M = some (pc', lv', st', M'))
    (hV : am_V p l e R s m args below meth c Q P B D Z mi k0 n0 pc' lv' st' M') : am_V p l e R s m args below meth c Q P B D Z mi k0 n0 pc lv st M := by
  obtain ⟨hx, hb, -⟩ := hC
  obtain ⟨v, hv, rfl, rfl, rfl, rfl⟩ := am_pu_inv h
  obtain ⟨x, rfl, ho⟩ := am_ld_long hv
  exact fun H locs ls hR hS hl hk hn => lv_lload_n hx hb hdg rfl (am_lat hl ho) (hV H locs ls hR hS hl hk hn)
theorem am_t_fload_n {k : Fin 4} (hC : am_X P B D Z p R s m args meth c mi) (hdg : decode (am_cc B mi) pc = .ok (.fload_n k, 1)) (h : am_st P mi (.fload_n k) pc lv st M = some (pc', lv', st', M'))
    (hV : am_V p l e R s m args below meth c Q P B D Z mi k0 n0 pc' lv' st' M') : am_V p l e R s m args below meth c Q P B D Z mi k0 n0 pc lv st M := by
  obtain ⟨hx, hb, -⟩ := hC
  obtain ⟨v, hv, rfl, rfl, rfl, rfl⟩ := am_pu_inv h
  obtain ⟨x, rfl, ho⟩ := am_ld_float hv
  exact fun H locs ls hR hS hl hk hn => lv_fload_n hx hb hdg rfl (am_lat hl ho) (hV H locs ls hR hS hl hk hn)
theorem am_t_dload_n {k : Fin 4} (hC : am_X P B D Z p R s m args meth c mi) (hdg : decode (am_cc B mi) pc = .ok (.dload_n k, 1)) (h : am_st P mi (.dload_n k) pc lv st M = some (pc', lv', st', M'))
    (hV : am_V p l e R s m args below meth c Q P B D Z mi k0 n0 pc' lv' st' M') : am_V p l e R s m args below meth c Q P B D Z mi k0 n0 pc lv st M := by
  obtain ⟨hx, hb, -⟩ := hC
  obtain ⟨v, hv, rfl, rfl, rfl, rfl⟩ := am_pu_inv h
  obtain ⟨x, rfl, ho⟩ := am_ld_double hv
  exact fun H locs ls hR hS hl hk hn => lv_dload_n hx hb hdg rfl (am_lat hl ho) (hV H locs ls hR hS hl hk hn)
theorem am_t_iload {i : Nat} (hC : am_X P B D Z p R s m args meth c mi) (hdg : decode (am_cc B mi) pc = .ok (.iload i, 2)) (h : am_st P mi (.iload i) pc lv st M = some (pc', lv', st', M'))
    (hV : am_V p l e R s m args below meth c Q P B D Z mi k0 n0 pc' lv' st' M') : am_V p l e R s m args below meth c Q P B D Z mi k0 n0 pc lv st M := by
  obtain ⟨hx, hb, -⟩ := hC
  obtain ⟨v, hv, rfl, rfl, rfl, rfl⟩ := am_pu_inv h
  obtain ⟨x, rfl, ho⟩ := am_ld_int hv
  exact fun H locs ls hR hS hl hk hn => lv_iload hx hb hdg (am_lat hl ho) (hV H locs ls hR hS hl hk hn)
theorem am_t_lload {i : Nat} (hC : am_X P B D Z p R s m args meth c mi) (hdg : decode (am_cc B mi) pc = .ok (.lload i, 2)) (h : am_st P mi (.lload i) pc lv st M = some (pc', lv', st', M'))
    (hV : am_V p l e R s m args below meth c Q P B D Z mi k0 n0 pc' lv' st' M') : am_V p l e R s m args below meth c Q P B D Z mi k0 n0 pc lv st M := by
  obtain ⟨hx, hb, -⟩ := hC
  obtain ⟨v, hv, rfl, rfl, rfl, rfl⟩ := am_pu_inv h
  obtain ⟨x, rfl, ho⟩ := am_ld_long hv
  exact fun H locs ls hR hS hl hk hn => lv_lload hx hb hdg (am_lat hl ho) (hV H locs ls hR hS hl hk hn)
theorem am_t_aload_n {k : Fin 4} (hC : am_X P B D Z p R s m args meth c mi) (hdg : decode (am_cc B mi) pc = .ok (.aload_n k, 1)) (h : am_st P mi (.aload_n k) pc lv st M = some (pc', lv', st', M'))
    (hV : am_V p l e R s m args below meth c Q P B D Z mi k0 n0 pc' lv' st' M') : am_V p l e R s m args below meth c Q P B D Z mi k0 n0 pc lv st M := by
  obtain ⟨hx, hb, -⟩ := hC
  obtain ⟨v, hv, rfl, rfl, rfl, rfl⟩ := am_pu_inv h
  obtain ⟨ho, -, a, ha⟩ := am_ld_ref Z hv
  intro H locs ls hR hS hl hk hn
  have K := hV H locs ls hR hS hl hk hn
  have hat := am_lat hl ho
  rw [List.map_cons] at K
  rw [ha] at hat K
  exact lv_aload_n hx hb hdg rfl hat K
theorem am_t_aload {i : Nat} (hC : am_X P B D Z p R s m args meth c mi) (hdg : decode (am_cc B mi) pc = .ok (.aload i, 2)) (h : am_st P mi (.aload i) pc lv st M = some (pc', lv', st', M'))
    (hV : am_V p l e R s m args below meth c Q P B D Z mi k0 n0 pc' lv' st' M') : am_V p l e R s m args below meth c Q P B D Z mi k0 n0 pc lv st M := by
  obtain ⟨hx, hb, -⟩ := hC
  obtain ⟨v, hv, rfl, rfl, rfl, rfl⟩ := am_pu_inv h
  obtain ⟨ho, -, a, ha⟩ := am_ld_ref Z hv
  intro H locs ls hR hS hl hk hn
  have K := hV H locs ls hR hS hl hk hn
  have hat := am_lat hl ho
  rw [List.map_cons] at K
  rw [ha] at hat K
  exact lv_aload hx hb hdg hat K
theorem am_t_istore_n {k : Fin 4} (hC : am_X P B D Z p R s m args meth c mi) (hdg : decode (am_cc B mi) pc = .ok (.istore_n k, 1)) (h : am_st P mi (.istore_n k) pc lv st M = some (pc', lv', st', M'))
    (hV : am_V p l e R s m args below meth c Q P B D Z mi k0 n0 pc' lv' st' M') : am_V p l e R s m args below meth c Q P B D Z mi k0 n0 pc lv st M := by
  obtain ⟨hx, hb, -⟩ := hC
  obtain ⟨v, r, rfl, ⟨u, hu⟩, rfl, rfl, rfl, hcs⟩ := am_so_inv h
  obtain ⟨x, rfl, ho⟩ := am_ld_int hu
  cases ho
  rcases hcs with ⟨hc, -, -⟩ | ⟨-, hi, rfl⟩
  · cases hc
  · exact fun H locs ls hR hS hl hk hn => lv_istore_n hx hb hdg rfl hl hi (am_lt1 Z lv (k : Nat) (.int x)) (fun ls' hl' => hV H locs ls' hR hS hl' hk hn)
theorem am_t_istore {i : Nat} (hC : am_X P B D Z p R s m args meth c mi) (hdg : decode (am_cc B mi) pc = .ok (.istore i, 2)) (h : am_st P mi (.istore i) pc lv st M = some (pc', lv', st', M'))
    (hV : am_V p l e R s m args below meth c Q P B D Z mi k0 n0 pc' lv' st' M') : am_V p l e R s m args below meth c Q P B D Z mi k0 n0 pc lv st M := by
  obtain ⟨hx, hb, -⟩ := hC
  obtain ⟨v, r, rfl, ⟨u, hu⟩, rfl, rfl, rfl, hcs⟩ := am_so_inv h
  obtain ⟨x, rfl, ho⟩ := am_ld_int hu
  cases ho
  rcases hcs with ⟨hc, -, -⟩ | ⟨-, hi, rfl⟩
  · cases hc
  · exact fun H locs ls hR hS hl hk hn => lv_istore hx hb hdg hl hi (am_lt1 Z lv i (.int x)) (fun ls' hl' => hV H locs ls' hR hS hl' hk hn)
theorem am_t_lstore_n {k : Fin 4} (hC : am_X P B D Z p R s m args meth c mi) (hdg : decode (am_cc B mi) pc = .ok (.lstore_n k, 1)) (h : am_st P mi (.lstore_n k) pc lv st M = some (pc', lv', st', M'))
    (hV : am_V p l e R s m args below meth c Q P B D Z mi k0 n0 pc' lv' st' M') : am_V p l e R s m args below meth c Q P B D Z mi k0 n0 pc lv st M := by
  obtain ⟨hx, hb, -⟩ := hC
  obtain ⟨v, r, rfl, ⟨u, hu⟩, rfl, rfl, rfl, hcs⟩ := am_so_inv h
  obtain ⟨x, rfl, ho⟩ := am_ld_long hu
  cases ho
  rcases hcs with ⟨-, hi, rfl⟩ | ⟨hc, -, -⟩
  · exact fun H locs ls hR hS hl hk hn => lv_lstore_n hx hb hdg rfl hl hi (am_lt2 Z lv (k : Nat) (.long x)) (fun ls' hl' => hV H locs ls' hR hS hl' hk hn)
  · exact absurd rfl hc
theorem am_t_lstore {i : Nat} (hC : am_X P B D Z p R s m args meth c mi) (hdg : decode (am_cc B mi) pc = .ok (.lstore i, 2)) (h : am_st P mi (.lstore i) pc lv st M = some (pc', lv', st', M'))
    (hV : am_V p l e R s m args below meth c Q P B D Z mi k0 n0 pc' lv' st' M') : am_V p l e R s m args below meth c Q P B D Z mi k0 n0 pc lv st M := by
  obtain ⟨hx, hb, -⟩ := hC
  obtain ⟨v, r, rfl, ⟨u, hu⟩, rfl, rfl, rfl, hcs⟩ := am_so_inv h
  obtain ⟨x, rfl, ho⟩ := am_ld_long hu
  cases ho
  rcases hcs with ⟨-, hi, rfl⟩ | ⟨hc, -, -⟩
  · exact fun H locs ls hR hS hl hk hn => lv_lstore hx hb hdg hl hi (am_lt2 Z lv i (.long x)) (fun ls' hl' => hV H locs ls' hR hS hl' hk hn)
  · exact absurd rfl hc
theorem am_t_fstore_n {k : Fin 4} (hC : am_X P B D Z p R s m args meth c mi) (hdg : decode (am_cc B mi) pc = .ok (.fstore_n k, 1)) (h : am_st P mi (.fstore_n k) pc lv st M = some (pc', lv', st', M'))
    (hV : am_V p l e R s m args below meth c Q P B D Z mi k0 n0 pc' lv' st' M') : am_V p l e R s m args below meth c Q P B D Z mi k0 n0 pc lv st M := by
  obtain ⟨hx, hb, -⟩ := hC
  obtain ⟨v, r, rfl, ⟨u, hu⟩, rfl, rfl, rfl, hcs⟩ := am_so_inv h
  obtain ⟨x, rfl, ho⟩ := am_ld_float hu
  cases ho
  rcases hcs with ⟨hc, -, -⟩ | ⟨-, hi, rfl⟩
  · cases hc
  · exact fun H locs ls hR hS hl hk hn => lv_fstore_n hx hb hdg rfl hl hi (am_lt1 Z lv (k : Nat) (.float x)) (fun ls' hl' => hV H locs ls' hR hS hl' hk hn)
theorem am_t_dstore_n {k : Fin 4} (hC : am_X P B D Z p R s m args meth c mi) (hdg : decode (am_cc B mi) pc = .ok (.dstore_n k, 1)) (h : am_st P mi (.dstore_n k) pc lv st M = some (pc', lv', st', M'))
    (hV : am_V p l e R s m args below meth c Q P B D Z mi k0 n0 pc' lv' st' M') : am_V p l e R s m args below meth c Q P B D Z mi k0 n0 pc lv st M := by
  obtain ⟨hx, hb, -⟩ := hC
  obtain ⟨v, r, rfl, ⟨u, hu⟩, rfl, rfl, rfl, hcs⟩ := am_so_inv h
  obtain ⟨x, rfl, ho⟩ := am_ld_double hu
  cases ho
  rcases hcs with ⟨-, hi, rfl⟩ | ⟨hc, -, -⟩
  · exact fun H locs ls hR hS hl hk hn => lv_dstore_n hx hb hdg rfl hl hi (am_lt2 Z lv (k : Nat) (.double x)) (fun ls' hl' => hV H locs ls' hR hS hl' hk hn)
  · exact absurd rfl hc
theorem am_t_astore_n {k : Fin 4} (hC : am_X P B D Z p R s m args meth c mi) (hdg : decode (am_cc B mi) pc = .ok (.astore_n k, 1)) (h : am_st P mi (.astore_n k) pc lv st M = some (pc', lv', st', M'))
    (hV : am_V p l e R s m args below meth c Q P B D Z mi k0 n0 pc' lv' st' M') : am_V p l e R s m args below meth c Q P B D Z mi k0 n0 pc lv st M := by
  obtain ⟨hx, hb, -⟩ := hC
  obtain ⟨v, r, rfl, ⟨u, hu⟩, rfl, rfl, rfl, hcs⟩ := am_so_inv h
  obtain ⟨ho, hc1, a, ha⟩ := am_ld_ref Z hu
  cases ho
  rcases hcs with ⟨hc, -, -⟩ | ⟨-, hi, rfl⟩
  · omega
  · intro H locs ls hR hS hl hk hn
    have e1 := am_lt1 Z lv (k : Nat) v
    rw [List.map_cons, ha]
    rw [ha] at e1
    exact lv_astore_n hx hb hdg rfl hl hi e1 (fun ls' hl' => hV H locs ls' hR hS hl' hk hn)
theorem am_t_astore {i : Nat} (hC : am_X P B D Z p R s m args meth c mi) (hdg : decode (am_cc B mi) pc = .ok (.astore i, 2)) (h : am_st P mi (.astore i) pc lv st M = some (pc', lv', st', M'))
    (hV : am_V p l e R s m args below meth c Q P B D Z mi k0 n0 pc' lv' st' M') : am_V p l e R s m args below meth c Q P B D Z mi k0 n0 pc lv st M := by
  obtain ⟨hx, hb, -⟩ := hC
  obtain ⟨v, r, rfl, ⟨u, hu⟩, rfl, rfl, rfl, hcs⟩ := am_so_inv h
  obtain ⟨ho, hc1, a, ha⟩ := am_ld_ref Z hu
  cases ho
  rcases hcs with ⟨hc, -, -⟩ | ⟨-, hi, rfl⟩
  · omega
  · intro H locs ls hR hS hl hk hn
    have e1 := am_lt1 Z lv i v
    rw [List.map_cons, ha]
    rw [ha] at e1
    exact lv_astore hx hb hdg hl hi e1 (fun ls' hl' => hV H locs ls' hR hS hl' hk hn)
theorem am_t_iadd (hC : am_X P B D Z p R s m args meth c mi) (hdg : decode (am_cc B mi) pc = .ok (.iadd, 1)) (h : am_st P mi (.iadd) pc lv st M = some (pc', lv', st', M'))
    (hV : am_V p l e R s m args below meth c Q P B D Z mi k0 n0 pc' lv' st' M') : am_V p l e R s m args below meth c Q P B D Z mi k0 n0 pc lv st M := by
  obtain ⟨hx, hb, -⟩ := hC
  obtain ⟨x, y, r, v, rfl, hv, rfl, rfl, rfl, rfl⟩ := am_2_inv h
  obtain ⟨a, b, rfl, rfl, rfl⟩ := am_fI_inv hv
  exact fun H locs ls hR hS hl hk hn => lv_iadd hx hb hdg (hV H locs ls hR hS hl hk hn)
theorem am_t_isub (hC : am_X P B D Z p R s m args meth c mi) (hdg : decode (am_cc B mi) pc = .ok (.isub, 1)) (h : am_st P mi (.isub) pc lv st M = some (pc', lv', st', M'))
    (hV : am_V p l e R s m args below meth c Q P B D Z mi k0 n0 pc' lv' st' M') : am_V p l e R s m args below meth c Q P B D Z mi k0 n0 pc lv st M := by
  obtain ⟨hx, hb, -⟩ := hC
  obtain ⟨x, y, r, v, rfl, hv, rfl, rfl, rfl, rfl⟩ := am_2_inv h
  obtain ⟨a, b, rfl, rfl, rfl⟩ := am_fI_inv hv
  exact fun H locs ls hR hS hl hk hn => lv_isub hx hb hdg (hV H locs ls hR hS hl hk hn)
theorem am_t_imul (hC : am_X P B D Z p R s m args meth c mi) (hdg : decode (am_cc B mi) pc = .ok (.imul, 1)) (h : am_st P mi (.imul) pc lv st M = some (pc', lv', st', M'))
    (hV : am_V p l e R s m args below meth c Q P B D Z mi k0 n0 pc' lv' st' M') : am_V p l e R s m args below meth c Q P B D Z mi k0 n0 pc lv st M := by
  obtain ⟨hx, hb, -⟩ := hC
  obtain ⟨x, y, r, v, rfl, hv, rfl, rfl, rfl, rfl⟩ := am_2_inv h
  obtain ⟨a, b, rfl, rfl, rfl⟩ := am_fI_inv hv
  exact fun H locs ls hR hS hl hk hn => lv_imul hx hb hdg (hV H locs ls hR hS hl hk hn)
theorem am_t_iand (hC : am_X P B D Z p R s m args meth c mi) (hdg : decode (am_cc B mi) pc = .ok (.iand, 1)) (h : am_st P mi (.iand) pc lv st M = some (pc', lv', st', M'))
    (hV : am_V p l e R s m args below meth c Q P B D Z mi k0 n0 pc' lv' st' M') : am_V p l e R s m args below meth c Q P B D Z mi k0 n0 pc lv st M := by
  obtain ⟨hx, hb, -⟩ := hC
  obtain ⟨x, y, r, v, rfl, hv, rfl, rfl, rfl, rfl⟩ := am_2_inv h
  obtain ⟨a, b, rfl, rfl, rfl⟩ := am_fI_inv hv
  exact fun H locs ls hR hS hl hk hn => lv_iand hx hb hdg (hV H locs ls hR hS hl hk hn)
theorem am_t_ior (hC : am_X P B D Z p R s m args meth c mi) (hdg : decode (am_cc B mi) pc = .ok (.ior, 1)) (h : am_st P mi (.ior) pc lv st M = some (pc', lv', st', M'))
    (hV : am_V p l e R s m args below meth c Q P B D Z mi k0 n0 pc' lv' st' M') : am_V p l e R s m args below meth c Q P B D Z mi k0 n0 pc lv st M := by
  obtain ⟨hx, hb, -⟩ := hC
  obtain ⟨x, y, r, v, rfl, hv, rfl, rfl, rfl, rfl⟩ := am_2_inv h
  obtain ⟨a, b, rfl, rfl, rfl⟩ := am_fI_inv hv
  exact fun H locs ls hR hS hl hk hn => lv_ior hx hb hdg (hV H locs ls hR hS hl hk hn)
theorem am_t_ixor (hC : am_X P B D Z p R s m args meth c mi) (hdg : decode (am_cc B mi) pc = .ok (.ixor, 1)) (h : am_st P mi (.ixor) pc lv st M = some (pc', lv', st', M'))
    (hV : am_V p l e R s m args below meth c Q P B D Z mi k0 n0 pc' lv' st' M') : am_V p l e R s m args below meth c Q P B D Z mi k0 n0 pc lv st M := by
  obtain ⟨hx, hb, -⟩ := hC
  obtain ⟨x, y, r, v, rfl, hv, rfl, rfl, rfl, rfl⟩ := am_2_inv h
  obtain ⟨a, b, rfl, rfl, rfl⟩ := am_fI_inv hv
  exact fun H locs ls hR hS hl hk hn => lv_ixor hx hb hdg (hV H locs ls hR hS hl hk hn)
theorem am_t_ishl (hC : am_X P B D Z p R s m args meth c mi) (hdg : decode (am_cc B mi) pc = .ok (.ishl, 1)) (h : am_st P mi (.ishl) pc lv st M = some (pc', lv', st', M'))
    (hV : am_V p l e R s m args below meth c Q P B D Z mi k0 n0 pc' lv' st' M') : am_V p l e R s m args below meth c Q P B D Z mi k0 n0 pc lv st M := by
  obtain ⟨hx, hb, -⟩ := hC
  obtain ⟨x, y, r, v, rfl, hv, rfl, rfl, rfl, rfl⟩ := am_2_inv h
  obtain ⟨a, b, rfl, rfl, rfl⟩ := am_fI_inv hv
  exact fun H locs ls hR hS hl hk hn => lv_ishl hx hb hdg (hV H locs ls hR hS hl hk hn)
theorem am_t_ishr (hC : am_X P B D Z p R s m args meth c mi) (hdg : decode (am_cc B mi) pc = .ok (.ishr, 1)) (h : am_st P mi (.ishr) pc lv st M = some (pc', lv', st', M'))
    (hV : am_V p l e R s m args below meth c Q P B D Z mi k0 n0 pc' lv' st' M') : am_V p l e R s m args below meth c Q P B D Z mi k0 n0 pc lv st M := by
  obtain ⟨hx, hb, -⟩ := hC
  obtain ⟨x, y, r, v, rfl, hv, rfl, rfl, rfl, rfl⟩ := am_2_inv h
  obtain ⟨a, b, rfl, rfl, rfl⟩ := am_fI_inv hv
  exact fun H locs ls hR hS hl hk hn => lv_ishr hx hb hdg (hV H locs ls hR hS hl hk hn)
theorem am_t_iushr (hC : am_X P B D Z p R s m args meth c mi) (hdg : decode (am_cc B mi) pc = .ok (.iushr, 1)) (h : am_st P mi (.iushr) pc lv st M = some (pc', lv', st', M'))
    (hV : am_V p l e R s m args below meth c Q P B D Z mi k0 n0 pc' lv' st' M') : am_V p l e R s m args below meth c Q P B D Z mi k0 n0 pc lv st M := by
  obtain ⟨hx, hb, -⟩ := hC
  obtain ⟨x, y, r, v, rfl, hv, rfl, rfl, rfl, rfl⟩ := am_2_inv h
  obtain ⟨a, b, rfl, rfl, rfl⟩ := am_fI_inv hv
  exact fun H locs ls hR hS hl hk hn => lv_iushr hx hb hdg rfl (hV H locs ls hR hS hl hk hn)
theorem am_t_idiv (hC : am_X P B D Z p R s m args meth c mi) (hdg : decode (am_cc B mi) pc = .ok (.idiv, 1)) (h : am_st P mi (.idiv) pc lv st M = some (pc', lv', st', M'))
    (hV : am_V p l e R s m args below meth c Q P B D Z mi k0 n0 pc' lv' st' M') : am_V p l e R s m args below meth c Q P B D Z mi k0 n0 pc lv st M := by
  obtain ⟨hx, hb, -⟩ := hC
  obtain ⟨x, y, r, v, rfl, hv, rfl, rfl, rfl, rfl⟩ := am_2_inv h
  obtain ⟨a, b, rfl, rfl, hne, rfl⟩ := am_fID_inv hv
  exact fun H locs ls hR hS hl hk hn => lv_idiv hx hb hdg hne (hV H locs ls hR hS hl hk hn)
theorem am_t_irem (hC : am_X P B D Z p R s m args meth c mi) (hdg : decode (am_cc B mi) pc = .ok (.irem, 1)) (h : am_st P mi (.irem) pc lv st M = some (pc', lv', st', M'))
    (hV : am_V p l e R s m args below meth c Q P B D Z mi k0 n0 pc' lv' st' M') : am_V p l e R s m args below meth c Q P B D Z mi k0 n0 pc lv st M := by
  obtain ⟨hx, hb, -⟩ := hC
  obtain ⟨x, y, r, v, rfl, hv, rfl, rfl, rfl, rfl⟩ := am_2_inv h
  obtain ⟨a, b, rfl, rfl, hne, rfl⟩ := am_fID_inv hv
  exact fun H locs ls hR hS hl hk hn => lv_irem hx hb hdg hne (hV H locs ls hR hS hl hk hn)
theorem am_t_ladd (hC : am_X P B D Z p R s m args meth c mi) (hdg : decode (am_cc B mi) pc = .ok (.ladd, 1)) (h : am_st P mi (.ladd) pc lv st M = some (pc', lv', st', M'))
    (hV : am_V p l e R s m args below meth c Q P B D Z mi k0 n0 pc' lv' st' M') : am_V p l e R s m args below meth c Q P B D Z mi k0 n0 pc lv st M := by
  obtain ⟨hx, hb, -⟩ := hC
  obtain ⟨x, y, r, v, rfl, hv, rfl, rfl, rfl, rfl⟩ := am_2_inv h
  obtain ⟨a, b, rfl, rfl, rfl⟩ := am_fL_inv hv
  exact fun H locs ls hR hS hl hk hn => lv_ladd hx hb hdg (hV H locs ls hR hS hl hk hn)
theorem am_t_lsub (hC : am_X P B D Z p R s m args meth c mi) (hdg : decode (am_cc B mi) pc = .ok (.lsub, 1)) (h : am_st P mi (.lsub) pc lv st M = some (pc', lv', st', M'))
    (hV : am_V p l e R s m args below meth c Q P B D Z mi k0 n0 pc' lv' st' M') : am_V p l e R s m args below meth c Q P B D Z mi k0 n0 pc lv st M := by
  obtain ⟨hx, hb, -⟩ := hC
  obtain ⟨x, y, r, v, rfl, hv, rfl, rfl, rfl, rfl⟩ := am_2_inv h
  obtain ⟨a, b, rfl, rfl, rfl⟩ := am_fL_inv hv
  exact fun H locs ls hR hS hl hk hn => lv_lsub hx hb hdg (hV H locs ls hR hS hl hk hn)
theorem am_t_lmul (hC : am_X P B D Z p R s m args meth c mi) (hdg : decode (am_cc B mi) pc = .ok (.lmul, 1)) (h : am_st P mi (.lmul) pc lv st M = some (pc', lv', st', M'))
    (hV : am_V p l e R s m args below meth c Q P B D Z mi k0 n0 pc' lv' st' M') : am_V p l e R s m args below meth c Q P B D Z mi k0 n0 pc lv st M := by
  obtain ⟨hx, hb, -⟩ := hC
  obtain ⟨x, y, r, v, rfl, hv, rfl, rfl, rfl, rfl⟩ := am_2_inv h
  obtain ⟨a, b, rfl, rfl, rfl⟩ := am_fL_inv hv
  exact fun H locs ls hR hS hl hk hn => lv_lmul hx hb hdg (hV H locs ls hR hS hl hk hn)
theorem am_t_land (hC : am_X P B D Z p R s m args meth c mi) (hdg : decode (am_cc B mi) pc = .ok (.land, 1)) (h : am_st P mi (.land) pc lv st M = some (pc', lv', st', M'))
    (hV : am_V p l e R s m args below meth c Q P B D Z mi k0 n0 pc' lv' st' M') : am_V p l e R s m args below meth c Q P B D Z mi k0 n0 pc lv st M := by
  obtain ⟨hx, hb, -⟩ := hC
  obtain ⟨x, y, r, v, rfl, hv, rfl, rfl, rfl, rfl⟩ := am_2_inv h
  obtain ⟨a, b, rfl, rfl, rfl⟩ := am_fL_inv hv
  exact fun H locs ls hR hS hl hk hn => lv_land hx hb hdg (hV H locs ls hR hS hl hk hn)
theorem am_t_ldiv (hC : am_X P B D Z p R s m args meth c mi) (hdg : decode (am_cc B mi) pc = .ok (.ldiv, 1)) (h : am_st P mi (.ldiv) pc lv st M = some (pc', lv', st', M'))
    (hV : am_V p l e R s m args below meth c Q P B D Z mi k0 n0 pc' lv' st' M') : am_V p l e R s m args below meth c Q P B D Z mi k0 n0 pc lv st M := by
  obtain ⟨hx, hb, -⟩ := hC
  obtain ⟨x, y, r, v, rfl, hv, rfl, rfl, rfl, rfl⟩ := am_2_inv h
  obtain ⟨a, b, rfl, rfl, hne, rfl⟩ := am_fLD_inv hv
  exact fun H locs ls hR hS hl hk hn => lv_ldiv hx hb hdg hne (hV H locs ls hR hS hl hk hn)
theorem am_t_lshl (hC : am_X P B D Z p R s m args meth c mi) (hdg : decode (am_cc B mi) pc = .ok (.lshl, 1)) (h : am_st P mi (.lshl) pc lv st M = some (pc', lv', st', M'))
    (hV : am_V p l e R s m args below meth c Q P B D Z mi k0 n0 pc' lv' st' M') : am_V p l e R s m args below meth c Q P B D Z mi k0 n0 pc lv st M := by
  obtain ⟨hx, hb, -⟩ := hC
  obtain ⟨x, y, r, v, rfl, hv, rfl, rfl, rfl, rfl⟩ := am_2_inv h
  obtain ⟨a, b, rfl, rfl, rfl⟩ := am_fLI_inv hv
  exact fun H locs ls hR hS hl hk hn => lv_lshl hx hb hdg rfl (hV H locs ls hR hS hl hk hn)
theorem am_t_lshr (hC : am_X P B D Z p R s m args meth c mi) (hdg : decode (am_cc B mi) pc = .ok (.lshr, 1)) (h : am_st P mi (.lshr) pc lv st M = some (pc', lv', st', M'))
    (hV : am_V p l e R s m args below meth c Q P B D Z mi k0 n0 pc' lv' st' M') : am_V p l e R s m args below meth c Q P B D Z mi k0 n0 pc lv st M := by
  obtain ⟨hx, hb, -⟩ := hC
  obtain ⟨x, y, r, v, rfl, hv, rfl, rfl, rfl, rfl⟩ := am_2_inv h
  obtain ⟨a, b, rfl, rfl, rfl⟩ := am_fLI_inv hv
  exact fun H locs ls hR hS hl hk hn => lv_lshr hx hb hdg rfl (hV H locs ls hR hS hl hk hn)
theorem am_t_dadd (hC : am_X P B D Z p R s m args meth c mi) (hdg : decode (am_cc B mi) pc = .ok (.dadd, 1)) (h : am_st P mi (.dadd) pc lv st M = some (pc', lv', st', M'))
    (hV : am_V p l e R s m args below meth c Q P B D Z mi k0 n0 pc' lv' st' M') : am_V p l e R s m args below meth c Q P B D Z mi k0 n0 pc lv st M := by
  obtain ⟨hx, hb, -⟩ := hC
  obtain ⟨x, y, r, v, rfl, hv, rfl, rfl, rfl, rfl⟩ := am_2_inv h
  obtain ⟨a, b, rfl, rfl, hne, rfl⟩ := am_fD_inv hv
  exact fun H locs ls hR hS hl hk hn => lv_dadd hx hb hdg hne (hV H locs ls hR hS hl hk hn)
theorem am_t_dsub (hC : am_X P B D Z p R s m args meth c mi) (hdg : decode (am_cc B mi) pc = .ok (.dsub, 1)) (h : am_st P mi (.dsub) pc lv st M = some (pc', lv', st', M'))
    (hV : am_V p l e R s m args below meth c Q P B D Z mi k0 n0 pc' lv' st' M') : am_V p l e R s m args below meth c Q P B D Z mi k0 n0 pc lv st M := by
  obtain ⟨hx, hb, -⟩ := hC
  obtain ⟨x, y, r, v, rfl, hv, rfl, rfl, rfl, rfl⟩ := am_2_inv h
  obtain ⟨a, b, rfl, rfl, hne, rfl⟩ := am_fD_inv hv
  exact fun H locs ls hR hS hl hk hn => lv_dsub hx hb hdg hne (hV H locs ls hR hS hl hk hn)
theorem am_t_dmul (hC : am_X P B D Z p R s m args meth c mi) (hdg : decode (am_cc B mi) pc = .ok (.dmul, 1)) (h : am_st P mi (.dmul) pc lv st M = some (pc', lv', st', M'))
    (hV : am_V p l e R s m args below meth c Q P B D Z mi k0 n0 pc' lv' st' M') : am_V p l e R s m args below meth c Q P B D Z mi k0 n0 pc lv st M := by
  obtain ⟨hx, hb, -⟩ := hC
  obtain ⟨x, y, r, v, rfl, hv, rfl, rfl, rfl, rfl⟩ := am_2_inv h
  obtain ⟨a, b, rfl, rfl, hne, rfl⟩ := am_fD_inv hv
  exact fun H locs ls hR hS hl hk hn => lv_dmul hx hb hdg hne (hV H locs ls hR hS hl hk hn)
theorem am_t_ddiv (hC : am_X P B D Z p R s m args meth c mi) (hdg : decode (am_cc B mi) pc = .ok (.ddiv, 1)) (h : am_st P mi (.ddiv) pc lv st M = some (pc', lv', st', M'))
    (hV : am_V p l e R s m args below meth c Q P B D Z mi k0 n0 pc' lv' st' M') : am_V p l e R s m args below meth c Q P B D Z mi k0 n0 pc lv st M := by
  obtain ⟨hx, hb, -⟩ := hC
  obtain ⟨x, y, r, v, rfl, hv, rfl, rfl, rfl, rfl⟩ := am_2_inv h
  obtain ⟨a, b, rfl, rfl, hne, rfl⟩ := am_fD_inv hv
  exact fun H locs ls hR hS hl hk hn => lv_ddiv hx hb hdg hne (hV H locs ls hR hS hl hk hn)
theorem am_t_fsub (hC : am_X P B D Z p R s m args meth c mi) (hdg : decode (am_cc B mi) pc = .ok (.fsub, 1)) (h : am_st P mi (.fsub) pc lv st M = some (pc', lv', st', M'))
    (hV : am_V p l e R s m args below meth c Q P B D Z mi k0 n0 pc' lv' st' M') : am_V p l e R s m args below meth c Q P B D Z mi k0 n0 pc lv st M := by
  obtain ⟨hx, hb, -⟩ := hC
  obtain ⟨x, y, r, v, rfl, hv, rfl, rfl, rfl, rfl⟩ := am_2_inv h
  obtain ⟨a, b, rfl, rfl, hne, rfl⟩ := am_fF_inv hv
  exact fun H locs ls hR hS hl hk hn => lv_fsub hx hb hdg hne (hV H locs ls hR hS hl hk hn)
theorem am_t_fmul (hC : am_X P B D Z p R s m args meth c mi) (hdg : decode (am_cc B mi) pc = .ok (.fmul, 1)) (h : am_st P mi (.fmul) pc lv st M = some (pc', lv', st', M'))
    (hV : am_V p l e R s m args below meth c Q P B D Z mi k0 n0 pc' lv' st' M') : am_V p l e R s m args below meth c Q P B D Z mi k0 n0 pc lv st M := by
  obtain ⟨hx, hb, -⟩ := hC
  obtain ⟨x, y, r, v, rfl, hv, rfl, rfl, rfl, rfl⟩ := am_2_inv h
  obtain ⟨a, b, rfl, rfl, hne, rfl⟩ := am_fF_inv hv
  exact fun H locs ls hR hS hl hk hn => lv_fmul hx hb hdg hne (hV H locs ls hR hS hl hk hn)
theorem am_t_fdiv (hC : am_X P B D Z p R s m args meth c mi) (hdg : decode (am_cc B mi) pc = .ok (.fdiv, 1)) (h : am_st P mi (.fdiv) pc lv st M = some (pc', lv', st', M'))
    (hV : am_V p l e R s m args below meth c Q P B D Z mi k0 n0 pc' lv' st' M') : am_V p l e R s m args below meth c Q P B D Z mi k0 n0 pc lv st M := by
  obtain ⟨hx, hb, -⟩ := hC
  obtain ⟨x, y, r, v, rfl, hv, rfl, rfl, rfl, rfl⟩ := am_2_inv h
  obtain ⟨a, b, rfl, rfl, hne, rfl⟩ := am_fF_inv hv
  exact fun H locs ls hR hS hl hk hn => lv_fdiv hx hb hdg hne (hV H locs ls hR hS hl hk hn)
theorem am_t_lcmp (hC : am_X P B D Z p R s m args meth c mi) (hdg : decode (am_cc B mi) pc = .ok (.lcmp, 1)) (h : am_st P mi (.lcmp) pc lv st M = some (pc', lv', st', M'))
    (hV : am_V p l e R s m args below meth c Q P B D Z mi k0 n0 pc' lv' st' M') : am_V p l e R s m args below meth c Q P B D Z mi k0 n0 pc lv st M := by
  obtain ⟨hx, hb, -⟩ := hC
  obtain ⟨x, y, r, v, rfl, hv, rfl, rfl, rfl, rfl⟩ := am_2_inv h
  split at hv
  · cases hv
    exact fun H locs ls hR hS hl hk hn => W.lcmp hx hb hdg (hV H locs ls hR hS hl hk hn)
  · cases hv
theorem am_t_dcmp {op : CmpOp} (hC : am_X P B D Z p R s m args meth c mi) (hdg : decode (am_cc B mi) pc = .ok (.dcmp op, 1)) (h : am_st P mi (.dcmp op) pc lv st M = some (pc', lv', st', M'))
    (hV : am_V p l e R s m args below meth c Q P B D Z mi k0 n0 pc' lv' st' M') : am_V p l e R s m args below meth c Q P B D Z mi k0 n0 pc lv st M := by
  obtain ⟨hx, hb, -⟩ := hC
  obtain ⟨x, y, r, v, rfl, hv, rfl, rfl, rfl, rfl⟩ := am_2_inv h
  split at hv
  · cases hv
    exact fun H locs ls hR hS hl hk hn => lv_dcmp hx hb hdg (hV H locs ls hR hS hl hk hn)
  · cases hv
theorem am_t_fcmp {op : CmpOp} (hC : am_X P B D Z p R s m args meth c mi) (hdg : decode (am_cc B mi) pc = .ok (.fcmp op, 1)) (h : am_st P mi (.fcmp op) pc lv st M = some (pc', lv', st', M'))
    (hV : am_V p l e R s m args below meth c Q P B D Z mi k0 n0 pc' lv' st' M') : am_V p l e R s m args below meth c Q P B D Z mi k0 n0 pc lv st M := by
  obtain ⟨hx, hb, -⟩ := hC
  obtain ⟨x, y, r, v, rfl, hv, rfl, rfl, rfl, rfl⟩ := am_2_inv h
  split at hv
  · cases hv
    exact fun H locs ls hR hS hl hk hn => lv_fcmp hx hb hdg (hV H locs ls hR hS hl hk hn)
  · cases hv
theorem am_t_ineg (hC : am_X P B D Z p R s m args meth c mi) (hdg : decode (am_cc B mi) pc = .ok (.ineg, 1)) (h : am_st P mi (.ineg) pc lv st M = some (pc', lv', st', M'))
    (hV : am_V p l e R s m args below meth c Q P B D Z mi k0 n0 pc' lv' st' M') : am_V p l e R s m args below meth c Q P B D Z mi k0 n0 pc lv st M := by
  obtain ⟨hx, hb, -⟩ := hC
  obtain ⟨x, r, v, rfl, hv, rfl, rfl, rfl, rfl⟩ := am_1_inv h
  split at hv
  · cases hv
    exact fun H locs ls hR hS hl hk hn => lv_ineg hx hb hdg (hV H locs ls hR hS hl hk hn)
  · cases hv
theorem am_t_i2l (hC : am_X P B D Z p R s m args meth c mi) (hdg : decode (am_cc B mi) pc = .ok (.i2l, 1)) (h : am_st P mi (.i2l) pc lv st M = some (pc', lv', st', M'))
    (hV : am_V p l e R s m args below meth c Q P B D Z mi k0 n0 pc' lv' st' M') : am_V p l e R s m args below meth c Q P B D Z mi k0 n0 pc lv st M := by
  obtain ⟨hx, hb, -⟩ := hC
  obtain ⟨x, r, v, rfl, hv, rfl, rfl, rfl, rfl⟩ := am_1_inv h
  split at hv
  · cases hv
    exact fun H locs ls hR hS hl hk hn => lv_i2l hx hb hdg rfl (hV H locs ls hR hS hl hk hn)
  · cases hv
theorem am_t_l2i (hC : am_X P B D Z p R s m args meth c mi) (hdg : decode (am_cc B mi) pc = .ok (.l2i, 1)) (h : am_st P mi (.l2i) pc lv st M = some (pc', lv', st', M'))
    (hV : am_V p l e R s m args below meth c Q P B D Z mi k0 n0 pc' lv' st' M') : am_V p l e R s m args below meth c Q P B D Z mi k0 n0 pc lv st M := by
  obtain ⟨hx, hb, -⟩ := hC
  obtain ⟨x, r, v, rfl, hv, rfl, rfl, rfl, rfl⟩ := am_1_inv h
  split at hv
  · cases hv
    exact fun H locs ls hR hS hl hk hn => lv_l2i hx hb hdg rfl (hV H locs ls hR hS hl hk hn)
  · cases hv
theorem am_t_l2d (hC : am_X P B D Z p R s m args meth c mi) (hdg : decode (am_cc B mi) pc = .ok (.l2d, 1)) (h : am_st P mi (.l2d) pc lv st M = some (pc', lv', st', M'))
    (hV : am_V p l e R s m args below meth c Q P B D Z mi k0 n0 pc' lv' st' M') : am_V p l e R s m args below meth c Q P B D Z mi k0 n0 pc lv st M := by
  obtain ⟨hx, hb, -⟩ := hC
  obtain ⟨x, r, v, rfl, hv, rfl, rfl, rfl, rfl⟩ := am_1_inv h
  split at hv
  · cases hv
    exact fun H locs ls hR hS hl hk hn => lv_l2d hx hb hdg (hV H locs ls hR hS hl hk hn)
  · cases hv
theorem am_t_i2f (hC : am_X P B D Z p R s m args meth c mi) (hdg : decode (am_cc B mi) pc = .ok (.i2f, 1)) (h : am_st P mi (.i2f) pc lv st M = some (pc', lv', st', M'))
    (hV : am_V p l e R s m args below meth c Q P B D Z mi k0 n0 pc' lv' st' M') : am_V p l e R s m args below meth c Q P B D Z mi k0 n0 pc lv st M := by
  obtain ⟨hx, hb, -⟩ := hC
  obtain ⟨x, r, v, rfl, hv, rfl, rfl, rfl, rfl⟩ := am_1_inv h
  split at hv
  · cases hv
    exact fun H locs ls hR hS hl hk hn => lv_i2f hx hb hdg (hV H locs ls hR hS hl hk hn)
  · cases hv
theorem am_t_d2l (hC : am_X P B D Z p R s m args meth c mi) (hdg : decode (am_cc B mi) pc = .ok (.d2l, 1)) (h : am_st P mi (.d2l) pc lv st M = some (pc', lv', st', M'))
    (hV : am_V p l e R s m args below meth c Q P B D Z mi k0 n0 pc' lv' st' M') : am_V p l e R s m args below meth c Q P B D Z mi k0 n0 pc lv st M := by
  obtain ⟨hx, hb, -⟩ := hC
  obtain ⟨x, r, v, rfl, hv, rfl, rfl, rfl, rfl⟩ := am_1_inv h
  split at hv
  · cases hv
    exact fun H locs ls hR hS hl hk hn => lv_d2l hx hb hdg (hV H locs ls hR hS hl hk hn)
  · cases hv
theorem am_t_f2i (hC : am_X P B D Z p R s m args meth c mi) (hdg : decode (am_cc B mi) pc = .ok (.f2i, 1)) (h : am_st P mi (.f2i) pc lv st M = some (pc', lv', st', M'))
    (hV : am_V p l e R s m args below meth c Q P B D Z mi k0 n0 pc' lv' st' M') : am_V p l e R s m args below meth c Q P B D Z mi k0 n0 pc lv st M := by
  obtain ⟨hx, hb, -⟩ := hC
  obtain ⟨x, r, v, rfl, hv, rfl, rfl, rfl, rfl⟩ := am_1_inv h
  split at hv
  · cases hv
    exact fun H locs ls hR hS hl hk hn => lv_f2i hx hb hdg (hV H locs ls hR hS hl hk hn)
  · cases hv
theorem am_t_iinc {i : Nat} {n : Int} (hC : am_X P B D Z p R s m args meth c mi) (hdg : decode (am_cc B mi) pc = .ok (.iinc i n, 3)) (h : am_st P mi (.iinc i n) pc lv st M = some (pc', lv', st', M'))
    (hV : am_V p l e R s m args below meth c Q P B D Z mi k0 n0 pc' lv' st' M') : am_V p l e R s m args below meth c Q P B D Z mi k0 n0 pc lv st M := by
  obtain ⟨hx, hb, -⟩ := hC
  unfold am_st at h
  dsimp only at h
  split at h
  · rename_i x ho
    by_cases hi : i < am_mxl P mi
    · rw [if_pos hi] at h
      cases h
      intro H locs ls hR hS hl hk hn
      obtain ⟨k, hk'⟩ := List.getElem?_of_mem (List.mem_map.mpr ⟨(i, .int x), am_lkm ho, rfl⟩ : (i, am_tr Z.2.1 Z.2.2 (.int x)) ∈ am_lt Z lv)
      exact lv_iinc hx hb hdg hl (k := k) hk' rfl hi (am_lt1 Z lv i (.int _)) (fun ls' hl' => hV H locs ls' hR hS hl' hk hn)
    · rw [if_neg hi] at h; cases h
  · cases h
theorem am_t_dup (hC : am_X P B D Z p R s m args meth c mi) (hdg : decode (am_cc B mi) pc = .ok (.dup, 1)) (h : am_st P mi (.dup) pc lv st M = some (pc', lv', st', M'))
    (hV : am_V p l e R s m args below meth c Q P B D Z mi k0 n0 pc' lv' st' M') : am_V p l e R s m args below meth c Q P B D Z mi k0 n0 pc lv st M := by
  obtain ⟨hx, hb, -⟩ := hC
  unfold am_st at h
  dsimp only at h
  split at h
  · rename_i v r
    by_cases hc : v.category = 1
    · rw [if_pos hc] at h
      cases h
      exact fun H locs ls hR hS hl hk hn => lv_dup hx hb hdg (by rw [am_cat]; exact hc) (hV H locs ls hR hS hl hk hn)
    · rw [if_neg hc] at h; cases h
  · cases h
theorem am_t_pop (hC : am_X P B D Z p R s m args meth c mi) (hdg : decode (am_cc B mi) pc = .ok (.pop, 1)) (h : am_st P mi (.pop) pc lv st M = some (pc', lv', st', M'))
    (hV : am_V p l e R s m args below meth c Q P B D Z mi k0 n0 pc' lv' st' M') : am_V p l e R s m args below meth c Q P B D Z mi k0 n0 pc lv st M := by
  obtain ⟨hx, hb, -⟩ := hC
  unfold am_st at h
  dsimp only at h
  split at h
  · rename_i v r
    by_cases hc : v.category = 1
    · rw [if_pos hc] at h
      cases h
      exact fun H locs ls hR hS hl hk hn => lv_pop hx hb hdg (by rw [am_cat]; exact hc) (hV H locs ls hR hS hl hk hn)
    · rw [if_neg hc] at h; cases h
  · cases h
theorem am_t_pop2 (hC : am_X P B D Z p R s m args meth c mi) (hdg : decode (am_cc B mi) pc = .ok (.pop2, 1)) (h : am_st P mi (.pop2) pc lv st M = some (pc', lv', st', M'))
    (hV : am_V p l e R s m args below meth c Q P B D Z mi k0 n0 pc' lv' st' M') : am_V p l e R s m args below meth c Q P B D Z mi k0 n0 pc lv st M := by
  obtain ⟨hx, hb, -⟩ := hC
  unfold am_st at h
  dsimp only at h
  split at h
  · rename_i v r
    by_cases hc : v.category = 2
    · rw [if_pos hc] at h
      cases h
      exact fun H locs ls hR hS hl hk hn => lv_pop2_2 hx hb hdg (by rw [am_cat]; exact hc) (hV H locs ls hR hS hl hk hn)
    · rw [if_neg hc] at h; cases h
  · cases h
theorem am_t_dup2 (hC : am_X P B D Z p R s m args meth c mi) (hdg : decode (am_cc B mi) pc = .ok (.dup2, 1)) (h : am_st P mi (.dup2) pc lv st M = some (pc', lv', st', M'))
    (hV : am_V p l e R s m args below meth c Q P B D Z mi k0 n0 pc' lv' st' M') : am_V p l e R s m args below meth c Q P B D Z mi k0 n0 pc lv st M := by
  obtain ⟨hx, hb, -⟩ := hC
  unfold am_st at h
  dsimp only at h
  split at h
  · rename_i v w r
    by_cases hc : v.category = 1 ∧ w.category = 1
    · rw [if_pos hc] at h
      cases h
      exact fun H locs ls hR hS hl hk hn => lv_dup2_11 hx hb hdg (by rw [am_cat]; exact hc.1) (by rw [am_cat]; exact hc.2) (hV H locs ls hR hS hl hk hn)
    · rw [if_neg hc] at h; cases h
  · cases h
theorem am_t_dup_x1 (hC : am_X P B D Z p R s m args meth c mi) (hdg : decode (am_cc B mi) pc = .ok (.dup_x1, 1)) (h : am_st P mi (.dup_x1) pc lv st M = some (pc', lv', st', M'))
    (hV : am_V p l e R s m args below meth c Q P B D Z mi k0 n0 pc' lv' st' M') : am_V p l e R s m args below meth c Q P B D Z mi k0 n0 pc lv st M := by
  obtain ⟨hx, hb, -⟩ := hC
  unfold am_st at h
  dsimp only at h
  split at h
  · rename_i v w r
    by_cases hc : v.category = 1 ∧ w.category = 1
    · rw [if_pos hc] at h
      cases h
      exact fun H locs ls hR hS hl hk hn => lv_dup_x1 hx hb hdg (by rw [am_cat]; exact hc.1) (by rw [am_cat]; exact hc.2) (hV H locs ls hR hS hl hk hn)
    · rw [if_neg hc] at h; cases h
  · cases h
theorem am_t_ifnonnull {off : Int} (hC : am_X P B D Z p R s m args meth c mi) (hdg : decode (am_cc B mi) pc = .ok (.ifnonnull off, 3)) (h : am_st P mi (.ifnonnull off) pc lv st M = some (pc', lv', st', M'))
    (hV : am_V p l e R s m args below meth c Q P B D Z mi k0 n0 pc' lv' st' M') : am_V p l e R s m args below meth c Q P B D Z mi k0 n0 pc lv st M := by
  obtain ⟨hx, hb, -⟩ := hC
  unfold am_st at h
  dsimp only at h
  split at h
  · obtain ⟨ht, rfl, rfl, rfl⟩ := am_go_inv h
    exact fun H locs ls hR hS hl hk hn => lv_ifnonnull hx hb hdg ht (hV H locs ls hR hS hl hk hn)
  · cases h
    exact fun H locs ls hR hS hl hk hn => lv_ifnonnullN hx hb hdg (hV H locs ls hR hS hl hk hn)
  · cases h
theorem am_t_ifnull {off : Int} (hC : am_X P B D Z p R s m args meth c mi) (hdg : decode (am_cc B mi) pc = .ok (.ifnull off, 3)) (h : am_st P mi (.ifnull off) pc lv st M = some (pc', lv', st', M'))
    (hV : am_V p l e R s m args below meth c Q P B D Z mi k0 n0 pc' lv' st' M') : am_V p l e R s m args below meth c Q P B D Z mi k0 n0 pc lv st M := by
  obtain ⟨hx, hb, -⟩ := hC
  unfold am_st at h
  dsimp only at h
  split at h
  · cases h
    exact fun H locs ls hR hS hl hk hn => lv_ifnull hx hb hdg (hV H locs ls hR hS hl hk hn)
  · obtain ⟨ht, rfl, rfl, rfl⟩ := am_go_inv h
    exact fun H locs ls hR hS hl hk hn => lv_ifnullN hx hb hdg ht (hV H locs ls hR hS hl hk hn)
  · cases h
theorem am_t_goto {off : Int} (hC : am_X P B D Z p R s m args meth c mi) (hdg : decode (am_cc B mi) pc = .ok (.goto off, 3)) (h : am_st P mi (.goto off) pc lv st M = some (pc', lv', st', M'))
    (hV : am_V p l e R s m args below meth c Q P B D Z mi k0 n0 pc' lv' st' M') : am_V p l e R s m args below meth c Q P B D Z mi k0 n0 pc lv st M := by
  obtain ⟨hx, hb, -⟩ := hC
  obtain ⟨ht, rfl, rfl, rfl⟩ := am_go_inv h
  exact fun H locs ls hR hS hl hk hn => lv_goto hx hb hdg ht (hV H locs ls hR hS hl hk hn)
theorem am_t_tableswitch {d lo hi : Int} {offs : Array Int} (hC : am_X P B D Z p R s m args meth c mi) (hdg : decode (am_cc B mi) pc = .ok (.tableswitch d lo hi offs, len)) (h : am_st P mi (.tableswitch d lo hi offs) pc lv st M = some (pc', lv', st', M'))
    (hV : am_V p l e R s m args below meth c Q P B D Z mi k0 n0 pc' lv' st' M') : am_V p l e R s m args below meth c Q P B D Z mi k0 n0 pc lv st M := by
  obtain ⟨hx, hb, -⟩ := hC
  unfold am_st at h
  dsimp only at h
  split at h
  · rename_i x r
    cases hk0 : am_swk x lo hi offs with
    | false => rw [hk0] at h; cases h
    | true =>
      rw [hk0] at h
      obtain ⟨ht, rfl, rfl, rfl⟩ := am_go_inv h
      intro H locs ls hR hS hl hk hn
      have K := hV H locs ls hR hS hl hk hn
      unfold am_sw at ht
      by_cases hc : x.toInt < lo ∨ hi < x.toInt
      · rw [if_pos hc] at ht
        exact lv_tableOut hx hb hdg hc ht K
      · rw [if_neg hc] at ht
        have h3 : (offs[(x.toInt - lo).toNat]?).isSome = true := by
          simp only [am_swk, hc, decide_false, Bool.false_or] at hk0
          exact hk0
        obtain ⟨o, ho⟩ := Option.isSome_iff_exists.mp h3
        rw [ho] at ht
        exact lv_tableIn hx hb hdg (fun q => hc (Or.inl q)) (fun q => hc (Or.inr q)) ho ht K
  · cases h
end AMV
end
section
/-! ===== the steps that read and write the heap ===== -/
section AMH
variable {p : Program} {l : Launch} {e : Env} {R : Room} {s : State} {m : MethodId} {args : Array Value} {below : List Frame} {meth : Method} {c : Code} {Q : State → Prop}
variable {P : am_Pg} {B : am_Nm} {D : va_G} {Z : am_Z} {mi : Nat} {k0 n0 : Nat} {pc pc' len : Nat} {lv lv' : am_L} {st st' : List Value} {M M' : am_M}
theorem am_ft_ok (cs : Nat → Nat) (base : Nat) {ty : FieldType} {v : Value} (h : am_ft ty v = true) : narrow ty (am_tr cs base v) = am_tr cs base v ∧ fits ty (am_tr cs base v) = true := by
  unfold am_ft at h
  split at h
  · exact ⟨rfl, rfl⟩
  · rename_i x
    simp only [Bool.or_eq_true, decide_eq_true_eq] at h
    rcases h with rfl | rfl
    · exact ⟨rfl, show fits .boolean (.int 0) = true by decide⟩
    · exact ⟨rfl, show fits .boolean (.int 1) = true by decide⟩
  · exact ⟨rfl, rfl⟩
  · exact ⟨rfl, rfl⟩
  · exact ⟨rfl, rfl⟩
  · exact ⟨rfl, rfl⟩
  · exact ⟨rfl, rfl⟩
  · cases h
theorem am_at_i (cA : ClassId) (n : Nat) (f : Nat → Int32) (k : Nat) (x : Int32) : (vp_cell cA (n, .inl f)).setSlot k (.int x) = vp_cell cA (n, .inl (upd f k x)) := by
  rw [vp_cell_i, vp_cell_i, arrV_store]
  congr 1
  funext q
  by_cases hq : q = k
  · subst hq
    simp [updV, upd]
  · simp [updV, upd, hq]
theorem am_at_l (cA : ClassId) (n : Nat) (f : Nat → Int64) (k : Nat) (x : Int64) : (vp_cell cA (n, .inr (.inl f))).setSlot k (.long x) = vp_cell cA (n, .inr (.inl (vp_updL f k x))) := by
  rw [vp_cell_l, vp_cell_l, arrV_store]
  congr 1
  funext q
  by_cases hq : q = k
  · subst hq
    simp [updV, vp_updL]
  · simp [updV, vp_updL, hq]
theorem am_at_q (cA : ClassId) (n : Nat) (f : Nat → Option Nat) (k v : Nat) : (vp_cell cA (n, .inr (.inr (.inr (.inr f))))).setSlot k (.ref v) = vp_cell cA (n, .inr (.inr (.inr (.inr (va_up f k (some v)))))) := by
  rw [vp_cell_q, vp_cell_q, arrV_store]
  congr 1
  funext q
  by_cases hq : q = k
  · subst hq
    simp [updV, va_up, va_rf]
  · simp [updV, va_up, hq]
theorem am_S_push {A : Nat → Prop} {H0 H H1 : Heap} {locs : List Loc} (h : va_S A H0 H locs) (z : H1.size = H.size + 1) (oq : ∀ q : Nat, q < H.size → H1[q]? = H[q]?) : va_S A H0 H1 locs :=
  ⟨Nat.le_trans h.1 (by omega), fun x h1 h2 => (oq x (Nat.lt_of_lt_of_le h1 h.1)).trans (h.2.1 x h1 h2), h.2.2⟩
theorem am_t_getfield {i : Nat} (G : am_Gd P B) (hC : am_X P B D Z p R s m args meth c mi) (hdg : decode (am_cc B mi) pc = .ok (.getfield i, 3)) (h : am_st P mi (.getfield i) pc lv st M = some (pc', lv', st', M'))
    (hV : am_V p l e R s m args below meth c Q P B D Z mi k0 n0 pc' lv' st' M') : am_V p l e R s m args below meth c Q P B D Z mi k0 n0 pc lv st M := by
  obtain ⟨hx, hb, hml, hr, hlk, hown, hin0, hts, hNw, hK, -⟩ := hC
  obtain ⟨-, G2, G3, -⟩ := G
  unfold am_st am_gf at h
  dsimp only at h
  split at h
  · rename_i a r
    split at h
    · rename_i ci k cj fs hf ho
      by_cases hc : ci = cj
      · subst hc
        rw [if_pos rfl] at h
        obtain ⟨v, hv, rfl, rfl, rfl, rfl⟩ := am_pu_inv h
        obtain ⟨q, hq, hkN, hln⟩ := G3 _ _ _ _ hf
        obtain ⟨-, g2, g3, -⟩ := G2 _ _ hq
        have hsame : ∀ x, s.fieldFound? (q.2.1 k).1 (q.2.1 k).2.1 (q.2.1 k).2.2.1 = some x → s.fieldFound? q.1 (q.2.1 k).2.1 (q.2.1 k).2.2.1 = some x := by
          intro x hx'
          rw [(g3 k hkN).2.2] at hx'
          exact hx'
        intro H locs ls hR hS hl hk hn
        have K := hV H locs ls hR hS hl hk hn
        have he := am_ws_get (Z := Z) ho
        have hv' : (fs.map (am_tr Z.2.1 Z.2.2))[k]? = some (am_tr Z.2.1 Z.2.2 v) := by rw [List.getElem?_map, hv]; rfl
        rcases hln with hw | ⟨-, host, hw⟩
        · exact va_get (D := D) (C := q.1) (T := q.2.1) (N := q.2.2) hx hb hts g2 hown hK hR.1 a he hq k hkN (hts _ hw) hsame hv' hdg K
        · exact va_getN (D := D) (C := q.1) (T := q.2.1) (N := q.2.2) hx hb hts g2 hown hK hR.1 a he hq k hkN (va_Nw.use rfl (hNw _ hw)) hsame hv' hdg K
      · rw [if_neg hc] at h; cases h
    · cases h
  · cases h
theorem am_t_putfield {i : Nat} (G : am_Gd P B) (hC : am_X P B D Z p R s m args meth c mi) (hdg : decode (am_cc B mi) pc = .ok (.putfield i, 3)) (h : am_st P mi (.putfield i) pc lv st M = some (pc', lv', st', M'))
    (hV : am_V p l e R s m args below meth c Q P B D Z mi k0 n0 pc' lv' st' M') : am_V p l e R s m args below meth c Q P B D Z mi k0 n0 pc lv st M := by
  obtain ⟨hx, hb, hml, hr, hlk, hown, hin0, hts, hNw, hK, -⟩ := hC
  obtain ⟨-, G2, G3, -⟩ := G
  unfold am_st am_pf at h
  dsimp only at h
  split at h
  · rename_i v a r
    split at h
    · rename_i ci k cj fs hf ho
      generalize hbq : (decide (ci = cj) && (decide (k < fs.length) && (am_ft (am_fty P ci k) v && (!am_fin P ci k || (am_ini P mi && decide (am_own P mi = ci)))))) = bq at h
      cases bq with
      | false => cases h
      | true =>
        cases h
        simp only [Bool.and_eq_true, decide_eq_true_eq] at hbq
        obtain ⟨rfl, hkl, hft, hfn⟩ := hbq
        obtain ⟨q, hq, hkN, hln⟩ := G3 _ _ _ _ hf
        obtain ⟨gcn, g2, g3, gnm⟩ := G2 _ _ hq
        obtain ⟨gp, gf, gd⟩ := g3 k hkN
        obtain ⟨hnr, hfit⟩ := am_ft_ok Z.2.1 Z.2.2 hft
        have hty : ∀ j, j < q.2.2 → parseFieldDescriptor (q.2.1 j).2.2.1 = some (am_fty P ci j) := fun j hj => (g3 j hj).1
        intro H locs ls hR hS hl hk hn
        have he := am_ws_get (Z := Z) ho
        have hap := va_apart (own := am_cn B (am_own P mi)) hts g2 (am_fty P ci) hty gnm hK hq
        obtain ⟨q', h1, cell, q1, q2, q3, q4⟩ := hR.1 a _ he
        have hqq : q' = q := Option.some.inj (h1.symm.trans hq)
        subst hqq
        obtain ⟨hSl, hfc, kC, hkC, hkind⟩ := hK.1 ci _ hq
        obtain ⟨cf, kf, fi, f, hi, hsl⟩ := hSl k hkN
        have hst := (u_facts hfc hkC (u_lays hts g2 hkN) hi).1
        have hlay := hts _ (g2 _ (u_in_lay hkN))
        have hi' : s.fieldFound? q'.1 (q'.2.1 k).2.1 (q'.2.1 k).2.2.1 = some (cf, kf, fi, f) := by rw [gd] at hi; exact hi
        have hlm : k < (fs.map (am_tr Z.2.1 Z.2.2)).length := by rw [List.length_map]; exact hkl
        have fin : ∀ H' : Heap, H'[Z.2.2 + a]? = some (cell.setSlot f.slot (am_tr Z.2.1 Z.2.2 v)) → H'.size = H.size → (∀ q : Nat, q ≠ Z.2.2 + a → H'[q]? = H[q]?) → W p l e R s m args below meth c H' (locs ++ [⟨Z.2.2 + a, f.slot⟩]) (M.1.length - k0) (M.2 - n0) Q (F0 m (pc + 3) ls (st'.map (am_tr Z.2.1 Z.2.2))) := by
          intro H' e1 e2 e3
          rw [hsl] at e1 ⊢
          have hR' : am_R D (am_kl B) Z (M.1.set a (.inr (ci, fs.set k v)), M.2) H' := by
            refine hR.set ho ?_ e2 e3
            show va_at D (am_kl B) (Z.2.2 + a, .inr (ci, (fs.set k v).map (am_tr Z.2.1 Z.2.2))) H'
            rw [List.map_set]
            exact ⟨_, hq, t_OB.to (V := updV (vp_V (fs.map (am_tr Z.2.1 Z.2.2))) k (am_tr Z.2.1 Z.2.2 v)) ⟨_, e1, q2, q3, t_set q4 hap hkN _⟩ (fun j _ => vp_updV_set hlm _ j)⟩
          have K := hV H' _ ls hR' (hS.put (k := (D.2 ci) k) e2 e3 (Nat.le_add_right _ _)) hl (by rw [List.length_set]; exact hk) hn
          rw [List.length_set] at K
          exact K
        cases hfb : am_fin P ci k with
        | false =>
          unfold u_lay at hlay
          rw [if_neg (by rw [gf, hfb]; decide)] at hlay
          have h6 := u_store hfc hkC hkind hlay hi gp hnr hfit
          rcases hln with hw | ⟨-, host, hw⟩
          · exact W.putK hx hb (f := f) ⟨hown, hts _ hw, ⟨_, _, _, hi'⟩, hst⟩ (by rw [q2]; exact h6) q1 q3 (by rw [hsl]; exact k2_hasslot (q4 k hkN)) rfl rfl hdg fin
          · exact va_WputK hx hb (f := f) hown (va_Nw.use rfl (hNw _ hw)) hi' hst (by rw [q2]; exact h6) q1 q3 (by rw [hsl]; exact k2_hasslot (q4 k hkN)) rfl rfl hdg fin
        | true =>
          rw [hfb] at hfn
          simp only [Bool.not_true, Bool.false_or, Bool.and_eq_true, decide_eq_true_eq] at hfn
          obtain ⟨hin1, hoc⟩ := hfn
          unfold u_lay at hlay
          rw [if_pos (by rw [gf, hfb])] at hlay
          have h6 := u_fits hfc hkC hkind (Or.inr hlay) hi gp hnr hfit
          have hcl : s.vm.findClass q'.1 = some m.cls := by rw [← gcn, ← hoc]; exact hown
          have hcf : m.cls = cf := by
            rw [gd] at hlay
            exact laid_decl hcl hlay hi'
          rcases hln with hw | ⟨hne, -⟩
          · exact W.putFinK hx hb hown (hts _ hw) hi' hst hcf (hin0 hin1) (by rw [q2]; exact h6) q1 q3 (by rw [hsl]; exact k2_hasslot (q4 k hkN)) rfl rfl hdg fin
          · exact absurd hoc hne
    · cases h
  · cases h
theorem am_t_getstatic {i : Nat} (G : am_Gd P B) (hC : am_X P B D Z p R s m args meth c mi) (hdg : decode (am_cc B mi) pc = .ok (.getstatic i, 3)) (h : am_st P mi (.getstatic i) pc lv st M = some (pc', lv', st', M'))
    (hV : am_V p l e R s m args below meth c Q P B D Z mi k0 n0 pc' lv' st' M') : am_V p l e R s m args below meth c Q P B D Z mi k0 n0 pc lv st M := by
  obtain ⟨hx, hb, hml, hr, hlk, hown, hin0, hts, hNw, hK, hKc, -⟩ := hC
  obtain ⟨-, -, -, G4, -⟩ := G
  unfold am_st at h
  dsimp only at h
  split at h
  · rename_i cn hcn
    cases h
    obtain ⟨k, q, rfl, hq, hln⟩ := G4 _ _ _ hcn
    intro H locs ls hR hS hl hk hn
    have K := hV H locs ls hR hS hl hk hn
    rcases hln with hw | ⟨host, hw⟩
    · exact va_gets hx hb (hKc.2 k q hq) hS hown (hts _ hw) (fun _ h9 => h9) hdg K
    · exact va_getsN hx hb (hKc.2 k q hq) hS hown (va_Nw.use rfl (hNw _ hw)) (fun _ h9 => h9) hdg K
  · cases h
theorem am_t_ldc {i : Nat} (G : am_Gd P B) (hC : am_X P B D Z p R s m args meth c mi) (hdg : decode (am_cc B mi) pc = .ok (.ldc i, 2)) (h : am_st P mi (.ldc i) pc lv st M = some (pc', lv', st', M'))
    (hV : am_V p l e R s m args below meth c Q P B D Z mi k0 n0 pc' lv' st' M') : am_V p l e R s m args below meth c Q P B D Z mi k0 n0 pc lv st M := by
  obtain ⟨hx, hb, hml, hr, hlk, hown, hin0, hts, -⟩ := hC
  obtain ⟨-, -, -, -, G5, -⟩ := G
  unfold am_st at h
  dsimp only at h
  split at h
  · rename_i v hv
    cases h
    exact fun H locs ls hR hS hl hk hn => lv_ldc hx hb hown (hts _ (G5 _ _ _ hv)) hdg (hV H locs ls hR hS hl hk hn)
  · rename_i v hv
    cases h
    exact fun H locs ls hR hS hl hk hn => lv_ldcf hx hb hown (hts _ (G5 _ _ _ hv)) hdg (hV H locs ls hR hS hl hk hn)
  · cases h
/-- a float by its wide number -/
theorem am_ldcwf {cc : ByteArray} {H : Heap} {locs : List Loc} {cells slots : Nat} {ls : Array Slot} {rest : List Value} (hexec : p.tables.exec = Jvm.exec) (hb : c.code = cc) {own : String} {index : Nat} {v : UInt32} (hown : s.vm.findClass own = some m.cls) (hconst : (Jvm.Cond.constantFloat own index v).before args s = true) (hdg : decode cc pc = .ok (.ldc_w index, 3)) (k : W p l e R s m args below meth c H locs cells slots Q (F0 m (pc + 3) ls (.float v :: rest))) : W p l e R s m args below meth c H locs cells slots Q (F0 m pc ls rest) := by
  intro T hT X
  obtain ⟨t, a, b⟩ := k T hT X
  refine ⟨t, ?_, b⟩
  obtain ⟨kc, cf, q1, q2, q3⟩ := Cond.constantFloat_spec hown hconst
  obtain ⟨kc', q4, q5⟩ := X.warmed.alike.2.2 _ _ q1
  have hd : decode c.code (F0 m pc ls rest).pc = .ok (.ldc_w index, 3) := by rw [hb]; exact hdg
  jvm_step X.here [hexec, hd, ldc_w.wp_float (s := T) (f := F0 m pc ls rest) X.here.top q4 (by rw [q5]; exact q2) q3]
  exact a
theorem am_t_ldc_w {i : Nat} (G : am_Gd P B) (hC : am_X P B D Z p R s m args meth c mi) (hdg : decode (am_cc B mi) pc = .ok (.ldc_w i, 3)) (h : am_st P mi (.ldc_w i) pc lv st M = some (pc', lv', st', M'))
    (hV : am_V p l e R s m args below meth c Q P B D Z mi k0 n0 pc' lv' st' M') : am_V p l e R s m args below meth c Q P B D Z mi k0 n0 pc lv st M := by
  obtain ⟨hx, hb, hml, hr, hlk, hown, hin0, hts, -⟩ := hC
  obtain ⟨-, -, -, -, G5, -⟩ := G
  unfold am_st at h
  dsimp only at h
  split at h
  · rename_i v hv
    cases h
    exact fun H locs ls hR hS hl hk hn => lv_ldcw hx hb hown (hts _ (G5 _ _ _ hv)) hdg (hV H locs ls hR hS hl hk hn)
  · rename_i v hv
    cases h
    exact fun H locs ls hR hS hl hk hn => am_ldcwf hx hb hown (hts _ (G5 _ _ _ hv)) hdg (hV H locs ls hR hS hl hk hn)
  · cases h
theorem am_t_ldc2_w {i : Nat} (G : am_Gd P B) (hC : am_X P B D Z p R s m args meth c mi) (hdg : decode (am_cc B mi) pc = .ok (.ldc2_w i, 3)) (h : am_st P mi (.ldc2_w i) pc lv st M = some (pc', lv', st', M'))
    (hV : am_V p l e R s m args below meth c Q P B D Z mi k0 n0 pc' lv' st' M') : am_V p l e R s m args below meth c Q P B D Z mi k0 n0 pc lv st M := by
  obtain ⟨hx, hb, hml, hr, hlk, hown, hin0, hts, -⟩ := hC
  obtain ⟨-, -, -, -, G5, -⟩ := G
  unfold am_st at h
  dsimp only at h
  split at h
  · rename_i v hv
    cases h
    exact fun H locs ls hR hS hl hk hn => lv_ldc2 hx hb hown (hts _ (G5 _ _ _ hv)) hdg (hV H locs ls hR hS hl hk hn)
  · rename_i v hv
    cases h
    exact fun H locs ls hR hS hl hk hn => lv_ldc2d hx hb hown (hts _ (G5 _ _ _ hv)) hdg (hV H locs ls hR hS hl hk hn)
  · cases h
theorem am_t_iaload (G : am_Gd P B) (hC : am_X P B D Z p R s m args meth c mi) (hdg : decode (am_cc B mi) pc = .ok (.iaload, 1)) (h : am_st P mi .iaload pc lv st M = some (pc', lv', st', M'))
    (hV : am_V p l e R s m args below meth c Q P B D Z mi k0 n0 pc' lv' st' M') : am_V p l e R s m args below meth c Q P B D Z mi k0 n0 pc lv st M := by
  obtain ⟨hx, hb, hml, hr, hlk, hown, hin0, hts, hNw, hK, hKc, -⟩ := hC
  obtain ⟨-, -, -, -, -, -, G7, -⟩ := G
  unfold am_st am_ald at h
  dsimp only at h
  split at h
  · rename_i i a r
    split at h
    · rename_i n f ho
      cases hi : am_in i n with
      | false => rw [hi] at h; cases h
      | true =>
        rw [hi] at h
        cases h
        exact fun H locs ls hR hS hl hk hn => va_iald hx hb hK hR.1 a 0 (am_ws_get ho) (am_tyg G7.2.2.1) (am_in_inv hi) hdg (hV H locs ls hR hS hl hk hn)
    · cases h
  · rename_i i a r
    split at h
    · rename_i n f hc
      cases hi : am_in i n with
      | false => rw [hi] at h; cases h
      | true =>
        rw [hi] at h
        cases h
        obtain ⟨c1, c2, c3, -⟩ := hKc.1 _ _ _ hc
        exact fun H locs ls hR hS hl hk hn => va_sld hx hb c3 c2 (Nat.not_le.mpr c1) hS (am_in_inv hi) hdg (hV H locs ls hR hS hl hk hn)
    · cases h
  · cases h
theorem am_t_iastore (G : am_Gd P B) (hC : am_X P B D Z p R s m args meth c mi) (hdg : decode (am_cc B mi) pc = .ok (.iastore, 1)) (h : am_st P mi .iastore pc lv st M = some (pc', lv', st', M'))
    (hV : am_V p l e R s m args below meth c Q P B D Z mi k0 n0 pc' lv' st' M') : am_V p l e R s m args below meth c Q P B D Z mi k0 n0 pc lv st M := by
  obtain ⟨hx, hb, hml, hr, hlk, hown, hin0, hts, hNw, hK, hKc, -⟩ := hC
  obtain ⟨-, -, -, -, -, -, G7, -⟩ := G
  unfold am_st am_ast at h
  dsimp only at h
  split at h
  · rename_i x i a r
    split at h
    · rename_i n f ho
      cases hi : am_in i n with
      | false => rw [hi] at h; cases h
      | true =>
        rw [hi] at h
        cases h
        intro H locs ls hR hS hl hk hn
        have hat := hR.1 a _ (am_ws_get ho)
        refine W.iast hx hb hat ((hK.2 0 _ (am_tyg G7.2.2.1)).1 n (fun j => .int (f j))) (fun q => by cases q) (by show ¬ (i < 0 ∨ (arrV _ _ _).slots.size ≤ _); rw [arrV_size]; exact am_in_inv hi) rfl rfl hdg fun H1 e1 z oq => ?_
        have hR' : am_R D (am_kl B) Z (M.1.set a (.inl (0, n, .inl (upd f i.toNatClampNeg x))), M.2) H1 := by
          refine hR.set ho ?_ z oq
          exact e1.trans (congrArg some (am_at_i _ _ _ _ _))
        have K := hV H1 _ ls hR' (hS.put (k := i.toNatClampNeg) z oq (Nat.le_add_right _ _)) hl (by rw [List.length_set]; exact hk) hn
        rw [List.length_set] at K
        exact K
    · cases h
  · cases h
theorem am_t_laload (G : am_Gd P B) (hC : am_X P B D Z p R s m args meth c mi) (hdg : decode (am_cc B mi) pc = .ok (.laload, 1)) (h : am_st P mi .laload pc lv st M = some (pc', lv', st', M'))
    (hV : am_V p l e R s m args below meth c Q P B D Z mi k0 n0 pc' lv' st' M') : am_V p l e R s m args below meth c Q P B D Z mi k0 n0 pc lv st M := by
  obtain ⟨hx, hb, hml, hr, hlk, hown, hin0, hts, hNw, hK, hKc, -⟩ := hC
  obtain ⟨-, -, -, -, -, -, G7, -⟩ := G
  unfold am_st am_lald at h
  dsimp only at h
  split at h
  · rename_i i a r
    split at h
    · rename_i n f ho
      cases hi : am_in i n with
      | false => rw [hi] at h; cases h
      | true =>
        rw [hi] at h
        cases h
        exact fun H locs ls hR hS hl hk hn => va_lald hx hb hK hR.1 a 1 (am_ws_get ho) (am_tyg G7.2.2.2) (am_in_inv hi) hdg (hV H locs ls hR hS hl hk hn)
    · cases h
  · cases h
theorem am_t_lastore (G : am_Gd P B) (hC : am_X P B D Z p R s m args meth c mi) (hdg : decode (am_cc B mi) pc = .ok (.lastore, 1)) (h : am_st P mi .lastore pc lv st M = some (pc', lv', st', M'))
    (hV : am_V p l e R s m args below meth c Q P B D Z mi k0 n0 pc' lv' st' M') : am_V p l e R s m args below meth c Q P B D Z mi k0 n0 pc lv st M := by
  obtain ⟨hx, hb, hml, hr, hlk, hown, hin0, hts, hNw, hK, hKc, -⟩ := hC
  obtain ⟨-, -, -, -, -, -, G7, -⟩ := G
  unfold am_st am_last at h
  dsimp only at h
  split at h
  · rename_i x i a r
    split at h
    · rename_i n f ho
      cases hi : am_in i n with
      | false => rw [hi] at h; cases h
      | true =>
        rw [hi] at h
        cases h
        intro H locs ls hR hS hl hk hn
        have hat := hR.1 a _ (am_ws_get ho)
        refine W.last hx hb hat ((hK.2 1 _ (am_tyg G7.2.2.2)).1 n (fun j => .long (f j))) (fun q => by cases q) (by show ¬ (i < 0 ∨ (arrV _ _ _).slots.size ≤ _); rw [arrV_size]; exact am_in_inv hi) rfl rfl hdg fun H1 e1 z oq => ?_
        have hR' : am_R D (am_kl B) Z (M.1.set a (.inl (1, n, .inr (.inl (vp_updL f i.toNatClampNeg x)))), M.2) H1 := by
          refine hR.set ho ?_ z oq
          exact e1.trans (congrArg some (am_at_l _ _ _ _ _))
        have K := hV H1 _ ls hR' (hS.put (k := i.toNatClampNeg) z oq (Nat.le_add_right _ _)) hl (by rw [List.length_set]; exact hk) hn
        rw [List.length_set] at K
        exact K
    · cases h
  · cases h
theorem am_t_aaload (G : am_Gd P B) (hC : am_X P B D Z p R s m args meth c mi) (hdg : decode (am_cc B mi) pc = .ok (.aaload, 1)) (h : am_st P mi .aaload pc lv st M = some (pc', lv', st', M'))
    (hV : am_V p l e R s m args below meth c Q P B D Z mi k0 n0 pc' lv' st' M') : am_V p l e R s m args below meth c Q P B D Z mi k0 n0 pc lv st M := by
  obtain ⟨hx, hb, hml, hr, hlk, hown, hin0, hts, hNw, hK, hKc, -⟩ := hC
  obtain ⟨-, -, -, -, -, -, -, G8, -⟩ := G
  unfold am_st am_qald at h
  dsimp only at h
  split at h
  · rename_i i a r
    split at h
    · rename_i t n f ho
      cases hi : (decide (2 ≤ t ∧ t < 5) && am_in i n) with
      | false => rw [hi] at h; cases h
      | true =>
        rw [hi] at h
        cases h
        simp only [Bool.and_eq_true, decide_eq_true_eq] at hi
        obtain ⟨q, hq, hqt⟩ := G8.2 t hi.1.1 hi.1.2
        intro H locs ls hR hS hl hk hn
        have K := hV H locs ls hR hS hl hk hn
        refine va_aldq (C := q.1) hx hb hK hR.1 a t (am_ws_get ho) (am_tyg hqt) (am_in_inv hi.2) hdg ?_
        rw [List.map_cons] at K
        show W p l e R s m args below meth c H locs (M.1.length - k0) (M.2 - n0) Q (F0 m (pc + 1) ls (va_rf ((f i.toNatClampNeg).map (fun x => Z.2.2 + x)) :: r.map (am_tr Z.2.1 Z.2.2)))
        cases hfv : f i.toNatClampNeg with
        | none => rw [hfv] at K; exact K
        | some v => rw [hfv] at K; exact K
    · cases h
  · cases h
theorem am_t_aastore (G : am_Gd P B) (hC : am_X P B D Z p R s m args meth c mi) (hdg : decode (am_cc B mi) pc = .ok (.aastore, 1)) (h : am_st P mi .aastore pc lv st M = some (pc', lv', st', M'))
    (hV : am_V p l e R s m args below meth c Q P B D Z mi k0 n0 pc' lv' st' M') : am_V p l e R s m args below meth c Q P B D Z mi k0 n0 pc lv st M := by
  obtain ⟨hx, hb, hml, hr, hlk, hown, hin0, hts, hNw, hK, hKc, -⟩ := hC
  obtain ⟨-, -, -, -, -, -, -, G8, -⟩ := G
  unfold am_st am_qast at h
  dsimp only at h
  split at h
  · rename_i v i a r
    split at h
    · rename_i t n f cj vs ho hov
      cases hi : (decide (2 ≤ t ∧ t < 5) && (decide (am_elt P t = cj) && am_in i n)) with
      | false => rw [hi] at h; cases h
      | true =>
        rw [hi] at h
        cases h
        simp only [Bool.and_eq_true, decide_eq_true_eq] at hi
        obtain ⟨ht, hel, hin⟩ := hi
        obtain ⟨q, hq, hqt⟩ := G8.2 t ht.1 ht.2
        rw [hel] at hq
        intro H locs ls hR hS hl hk hn
        have hlt : i.toNatClampNeg < n := Nat.not_le.mp fun q => am_in_inv hin (Or.inr q)
        have h0 : ¬ i < 0 := fun q => am_in_inv hin (Or.inl q)
        obtain ⟨r', hr', cellV, g1, g2, g3, -⟩ := hR.1 v _ (am_ws_get hov)
        have hat := hR.1 a _ (am_ws_get ho)
        have hcls := (hK.1 cj q hq).2
        obtain ⟨kA, comp, k1, k2, k3, -⟩ := (hK.2 t _ (am_tyg hqt)).2
        have hcomp : comp = D.1 cj := Option.some.inj (k3.symm.trans hcls.1)
        subst hcomp
        obtain ⟨kC, hkC, -⟩ := hcls.2
        refine W.aast hx hb hat (fun q h => by cases h) (fun h => by cases h) k1 k2 rfl hkC ⟨h0, by show _ < (arrV _ _ _).slots.size; rw [arrV_size]; exact hlt⟩ g1 (fun q h => by rw [g3] at h; cases h) (by rw [g2]; exact hkC) (by rw [g2]; exact va_assign hcls) rfl rfl hdg fun H1 e1 z oq => ?_
        have hR' : am_R D (am_kl B) Z (M.1.set a (.inl (t, n, .inr (.inr (.inr (.inr (va_up f i.toNatClampNeg (some v))))))), M.2) H1 := by
          refine hR.set ho ?_ z oq
          refine e1.trans (congrArg some ((am_at_q _ _ _ _ _).trans ?_))
          show vp_cell _ _ = vp_cell _ (n, .inr (.inr (.inr (.inr (fun i_1 => (va_up f i.toNatClampNeg (some v) i_1).map (fun x => Z.2.2 + x))))))
          have e9 : va_up (fun i => (f i).map (fun x => Z.2.2 + x)) i.toNatClampNeg (some (Z.2.2 + v)) = fun i_1 => (va_up f i.toNatClampNeg (some v) i_1).map (fun x => Z.2.2 + x) := by
            funext j
            by_cases hj : j = i.toNatClampNeg
            · subst hj; simp [va_up]
            · simp [va_up, hj]
          exact congrArg (fun f => vp_cell (Z.1 t) (n, .inr (.inr (.inr (.inr f))))) e9
        have K := hV H1 _ ls hR' (hS.put (k := i.toNatClampNeg) z oq (Nat.le_add_right _ _)) hl (by rw [List.length_set]; exact hk) hn
        rw [List.length_set] at K
        exact K
    · cases h
  · cases h
theorem am_t_arraylength (G : am_Gd P B) (hC : am_X P B D Z p R s m args meth c mi) (hdg : decode (am_cc B mi) pc = .ok (.arraylength, 1)) (h : am_st P mi .arraylength pc lv st M = some (pc', lv', st', M'))
    (hV : am_V p l e R s m args below meth c Q P B D Z mi k0 n0 pc' lv' st' M') : am_V p l e R s m args below meth c Q P B D Z mi k0 n0 pc lv st M := by
  obtain ⟨hx, hb, hml, hr, hlk, hown, hin0, hts, hNw, hK, hKc, -⟩ := hC
  obtain ⟨-, -, -, -, -, -, G7, G8, -⟩ := G
  unfold am_st am_len at h
  dsimp only at h
  split at h
  · rename_i a r
    split at h
    · rename_i t n x ho
      by_cases ht : t < 5
      · rw [if_pos ht] at h
        cases h
        have hty : ∃ ty, (am_T B)[t]? = some ty := by
          by_cases h2 : 2 ≤ t
          · obtain ⟨q, -, hq⟩ := G8.2 t h2 ht
            exact ⟨_, hq⟩
          · rcases (show t = 0 ∨ t = 1 by omega) with rfl | rfl
            · exact ⟨_, G7.2.2.1⟩
            · exact ⟨_, G7.2.2.2⟩
        obtain ⟨ty, hty⟩ := hty
        have hsz : ∀ y : (Nat → Int32) ⊕ (Nat → Int64) ⊕ (Nat → UInt32) ⊕ (Nat → UInt64) ⊕ (Nat → Option Nat), (am_tA Z.2.2 (n, y)).1 = n := by
          intro y
          rcases y with f | f | f | f | f <;> rfl
        intro H locs ls hR hS hl hk hn
        exact va_alen (D := D) hx hb hK hR.1 a t (am_ws_get ho) (am_tyg hty) (by rw [hsz]) hdg (hV H locs ls hR hS hl hk hn)
      · rw [if_neg ht] at h; cases h
    · cases h
  · rename_i a r
    split at h
    · rename_i n f hc
      cases h
      obtain ⟨c1, c2, c3, -⟩ := hKc.1 _ _ _ hc
      exact fun H locs ls hR hS hl hk hn => va_slen hx hb c3 c2 (Nat.not_le.mpr c1) hS hdg (hV H locs ls hR hS hl hk hn)
    · cases h
  · cases h
theorem am_t_new {i : Nat} (G : am_Gd P B) (hC : am_X P B D Z p R s m args meth c mi) (hdg : decode (am_cc B mi) pc = .ok (.new i, 3)) (h : am_st P mi (.new i) pc lv st M = some (pc', lv', st', M')) (hrc : M'.1.length - k0 ≤ R.cells) (hrs : M'.2 - n0 ≤ R.slots)
    (hV : am_V p l e R s m args below meth c Q P B D Z mi k0 n0 pc' lv' st' M') : am_V p l e R s m args below meth c Q P B D Z mi k0 n0 pc lv st M := by
  obtain ⟨hx, hb, hml, hr, hlk, hown, hin0, hts, hNw, hK, hKc, -⟩ := hC
  obtain ⟨-, G2, -, -, -, G6, -⟩ := G
  unfold am_st am_nw at h
  dsimp only at h
  split at h
  · rename_i ci fs hnw
    cases h
    obtain ⟨q, hq, w1, w2, w3, hfl, hdf⟩ := G6 _ _ _ _ hnw
    obtain ⟨-, g2, g3, -⟩ := G2 _ _ hq
    have hKn := hK.1 ci _ hq
    intro H locs ls hR hS hl hk hn
    have e0 : (M.1 ++ [(.inr (ci, fs) : am_O)]).length - k0 = M.1.length - k0 + 1 := by rw [List.length_append]; simp; omega
    have e9 : M.2 + fs.length - n0 = M.2 - n0 + q.2.2 := by omega
    refine W.newcK hx hb hown (hts _ w1) (hts _ w2) (hts _ w3) rfl hdg (by rw [← e0]; exact hrc) (by rw [← e9]; exact hrs) hKn.2.1 rfl fun H1 kC hkC e1 z1 o1 => ?_
    have hR' : am_R D (am_kl B) Z (M.1 ++ [.inr (ci, fs)], M.2 + fs.length) H1 := by
      refine hR.push ?_ z1 o1
      refine ⟨_, hq, (u_born (am_fty P ci) hts g2 hKn hkC e1 (fun j hj => (g3 j hj).1)).to (fun j hj => ?_)⟩
      have hd := hdf j hj
      have hj' : j < fs.length := by rw [hfl]; exact hj
      have e2 : vp_V (fs.map (am_tr Z.2.1 Z.2.2)) j = am_tr Z.2.1 Z.2.2 (vp_V fs j) := by
        simp [vp_V, hj']
      rw [e2, ← hd]
      cases am_fty P ci j <;> rfl
    have K := hV H1 _ ls hR' (am_S_push hS z1 o1) hl (by rw [List.length_append]; simp; omega) (by show n0 ≤ M.2 + fs.length; omega)
    rw [show (F0 m (pc + 3) ls (((.ref M.1.length : Value) :: st).map (am_tr Z.2.1 Z.2.2))) = F0 m (pc + 3) ls (.ref H.size :: st.map (am_tr Z.2.1 Z.2.2)) by rw [hR.2]; rfl] at K
    have K := (show W p l e R s m args below meth c H1 locs ((M.1 ++ [(.inr (ci, fs) : am_O)]).length - k0) (M.2 + fs.length - n0) Q _ from K)
    rw [e0, e9] at K
    exact K
  · cases h
theorem am_t_newarray {at_ : ArrayType} (G : am_Gd P B) (hC : am_X P B D Z p R s m args meth c mi) (hdg : decode (am_cc B mi) pc = .ok (.newarray at_, 2)) (h : am_st P mi (.newarray at_) pc lv st M = some (pc', lv', st', M')) (hrc : M'.1.length - k0 ≤ R.cells) (hrs : M'.2 - n0 ≤ R.slots)
    (hV : am_V p l e R s m args below meth c Q P B D Z mi k0 n0 pc' lv' st' M') : am_V p l e R s m args below meth c Q P B D Z mi k0 n0 pc lv st M := by
  obtain ⟨hx, hb, hml, hr, hlk, hown, hin0, hts, hNw, hK, hKc, -⟩ := hC
  obtain ⟨-, -, -, -, -, -, G7, -⟩ := G
  unfold am_st am_na at h
  dsimp only at h
  split at h
  · rename_i n r
    cases hi : (!(decide (n < 0)) && decide (n.toNatClampNeg ≤ 1000000)) with
    | false => rw [hi] at h; cases h
    | true =>
      rw [hi] at h
      cases h
      simp only [Bool.and_eq_true, Bool.not_eq_true', decide_eq_false_iff_not, decide_eq_true_eq] at hi
      intro H locs ls hR hS hl hk hn
      have e0 : (M.1 ++ [(.inl (0, n.toNatClampNeg, .inl (fun _ => 0)) : am_O)]).length - k0 = M.1.length - k0 + 1 := by rw [List.length_append]; simp; omega
      have e9 : M.2 + n.toNatClampNeg - n0 = M.2 - n0 + n.toNatClampNeg := by omega
      refine va_newaK (atype := .int) hx hb (hts _ G7.1) rfl hdg rfl hi.1 rfl (by show n.toNatClampNeg * 4 ≤ _; omega) (by rw [← e0]; exact hrc) (by rw [← e9]; exact hrs) rfl fun H1 cA e1 z1 o1 hAr hNm => ?_
      have hcA : cA = Z.1 0 := Option.some.inj (hNm.symm.trans (hK.2 0 _ (am_tyg G7.2.2.1)).2)
      have hR' : am_R D (am_kl B) Z (M.1 ++ [.inl (0, n.toNatClampNeg, .inl (fun _ => 0))], M.2 + n.toNatClampNeg) H1 := by
        refine hR.push ?_ z1 o1
        rw [hcA] at e1
        exact e1
      have K := hV H1 _ ls hR' (am_S_push hS z1 o1) hl (by rw [List.length_append]; simp; omega) (by show n0 ≤ M.2 + n.toNatClampNeg; omega)
      rw [show (F0 m (pc + 2) ls (((.ref M.1.length : Value) :: r).map (am_tr Z.2.1 Z.2.2))) = F0 m (pc + 2) ls (.ref H.size :: r.map (am_tr Z.2.1 Z.2.2)) by rw [hR.2]; rfl] at K
      have K := (show W p l e R s m args below meth c H1 locs ((M.1 ++ [(.inl (0, n.toNatClampNeg, .inl (fun _ => 0)) : am_O)]).length - k0) (M.2 + n.toNatClampNeg - n0) Q _ from K)
      rw [e0, e9] at K
      exact K
  · rename_i n r
    cases hi : (!(decide (n < 0)) && decide (n.toNatClampNeg ≤ 1000000)) with
    | false => rw [hi] at h; cases h
    | true =>
      rw [hi] at h
      cases h
      simp only [Bool.and_eq_true, Bool.not_eq_true', decide_eq_false_iff_not, decide_eq_true_eq] at hi
      intro H locs ls hR hS hl hk hn
      have e0 : (M.1 ++ [(.inl (1, n.toNatClampNeg, .inr (.inl (fun _ => 0))) : am_O)]).length - k0 = M.1.length - k0 + 1 := by rw [List.length_append]; simp; omega
      have e9 : M.2 + n.toNatClampNeg - n0 = M.2 - n0 + n.toNatClampNeg := by omega
      refine va_newaK (atype := .long) hx hb (hts _ G7.2.1) rfl hdg rfl hi.1 rfl (by show n.toNatClampNeg * 8 ≤ _; omega) (by rw [← e0]; exact hrc) (by rw [← e9]; exact hrs) rfl fun H1 cA e1 z1 o1 hAr hNm => ?_
      have hcA : cA = Z.1 1 := Option.some.inj (hNm.symm.trans (hK.2 1 _ (am_tyg G7.2.2.2)).2)
      have hR' : am_R D (am_kl B) Z (M.1 ++ [.inl (1, n.toNatClampNeg, .inr (.inl (fun _ => 0)))], M.2 + n.toNatClampNeg) H1 := by
        refine hR.push ?_ z1 o1
        rw [hcA] at e1
        exact e1
      have K := hV H1 _ ls hR' (am_S_push hS z1 o1) hl (by rw [List.length_append]; simp; omega) (by show n0 ≤ M.2 + n.toNatClampNeg; omega)
      rw [show (F0 m (pc + 2) ls (((.ref M.1.length : Value) :: r).map (am_tr Z.2.1 Z.2.2))) = F0 m (pc + 2) ls (.ref H.size :: r.map (am_tr Z.2.1 Z.2.2)) by rw [hR.2]; rfl] at K
      have K := (show W p l e R s m args below meth c H1 locs ((M.1 ++ [(.inl (1, n.toNatClampNeg, .inr (.inl (fun _ => 0))) : am_O)]).length - k0) (M.2 + n.toNatClampNeg - n0) Q _ from K)
      rw [e0, e9] at K
      exact K
  · cases h
theorem am_t_anewarray {i : Nat} (G : am_Gd P B) (hC : am_X P B D Z p R s m args meth c mi) (hdg : decode (am_cc B mi) pc = .ok (.anewarray i, 3)) (h : am_st P mi (.anewarray i) pc lv st M = some (pc', lv', st', M')) (hrc : M'.1.length - k0 ≤ R.cells) (hrs : M'.2 - n0 ≤ R.slots)
    (hV : am_V p l e R s m args below meth c Q P B D Z mi k0 n0 pc' lv' st' M') : am_V p l e R s m args below meth c Q P B D Z mi k0 n0 pc lv st M := by
  obtain ⟨hx, hb, hml, hr, hlk, hown, hin0, hts, hNw, hK, hKc, -⟩ := hC
  obtain ⟨-, -, -, -, -, -, -, G8, -⟩ := G
  unfold am_st am_nq at h
  dsimp only at h
  split at h
  · rename_i t n r hnq
    cases hi : (!(decide (n < 0)) && decide (n.toNatClampNeg ≤ 1000000)) with
    | false => rw [hi] at h; cases h
    | true =>
      rw [hi] at h
      cases h
      simp only [Bool.and_eq_true, Bool.not_eq_true', decide_eq_false_iff_not, decide_eq_true_eq] at hi
      obtain ⟨t1, t2, q, hq, hqt, w1, w2⟩ := G8.1 _ _ _ hnq
      intro H locs ls hR hS hl hk hn
      have e0 : (M.1 ++ [(.inl (t, n.toNatClampNeg, .inr (.inr (.inr (.inr (fun _ => none))))) : am_O)]).length - k0 = M.1.length - k0 + 1 := by rw [List.length_append]; simp; omega
      have e9 : M.2 + n.toNatClampNeg - n0 = M.2 - n0 + n.toNatClampNeg := by omega
      refine W.anew hx hb hown (hts _ w1) (va_AO.use (hNw _ w2)) rfl hdg rfl hi.1 (by show n.toNatClampNeg * 4 ≤ _; omega) (by rw [← e0]; exact hrc) (by rw [← e9]; exact hrs) fun cA kA comp f1 f2 f3 f4 => ?_
      generalize hH1 : H.push ({ cls := cA, slots := Array.replicate n.toNatClampNeg .null, vm := .none } : Cell) = H1
      have z1 : H1.size = H.size + 1 := by rw [← hH1, Array.size_push]
      have e1 : H1[H.size]? = some (arrV cA n.toNatClampNeg (fun _ => .null)) := by rw [← hH1, Array.getElem?_push_size, ← arrV_new]
      have o1 : ∀ q : Nat, q < H.size → H1[q]? = H[q]? := fun q hq => by rw [← hH1, Array.getElem?_push, if_neg (Nat.ne_of_lt hq)]
      obtain ⟨kA', comp', k1, k2, k3, k4⟩ := (hK.2 t _ (am_tyg hqt)).2
      have hcA : cA = Z.1 t := Option.some.inj (f1.symm.trans k4)
      have hR' : am_R D (am_kl B) Z (M.1 ++ [.inl (t, n.toNatClampNeg, .inr (.inr (.inr (.inr (fun _ => none)))))], M.2 + n.toNatClampNeg) H1 := by
        refine hR.push ?_ z1 o1
        rw [hcA] at e1
        exact e1
      have K := hV H1 _ ls hR' (am_S_push hS z1 o1) hl (by rw [List.length_append]; simp; omega) (by show n0 ≤ M.2 + n.toNatClampNeg; omega)
      rw [show (F0 m (pc + 3) ls (((.ref M.1.length : Value) :: r).map (am_tr Z.2.1 Z.2.2))) = F0 m (pc + 3) ls (.ref H.size :: r.map (am_tr Z.2.1 Z.2.2)) by rw [hR.2]; rfl] at K
      have K := (show W p l e R s m args below meth c H1 locs ((M.1 ++ [(.inl (t, n.toNatClampNeg, .inr (.inr (.inr (.inr (fun _ => none))))) : am_O)]).length - k0) (M.2 + n.toNatClampNeg - n0) Q _ from K)
      rw [e0, e9] at K
      exact K
  · cases h
theorem am_t_checkcast {i : Nat} (G : am_Gd P B) (hcd : am_code P mi pc = some (.checkcast i)) (hC : am_X P B D Z p R s m args meth c mi) (hdg : decode (am_cc B mi) pc = .ok (.checkcast i, 3)) (h : am_st P mi (.checkcast i) pc lv st M = some (pc', lv', st', M'))
    (hV : am_V p l e R s m args below meth c Q P B D Z mi k0 n0 pc' lv' st' M') : am_V p l e R s m args below meth c Q P B D Z mi k0 n0 pc lv st M := by
  obtain ⟨hx, hb, hml, hr, hlk, hown, hin0, hts, hNw, hK, hKc, -⟩ := hC
  obtain ⟨-, -, -, -, -, -, G7, -, G9, -⟩ := G
  unfold am_st at h
  dsimp only at h
  split at h
  · rename_i a r
    split at h
    · rename_i x ho
      cases h
      intro H locs ls hR hS hl hk hn
      exact va_castA hx hb hown (hts _ (G9 _ _ _ hcd)) hR.1 a (am_ws_get ho) (hK.2 0 _ (am_tyg G7.2.2.1)).2 hdg (hV H locs ls hR hS hl hk hn)
    · cases h
  · cases h
end AMH
end
section
/-! ===== the library's own steps ===== -/
section AMN
variable {p : Program} {l : Launch} {e : Env} {R : Room} {s : State} {m : MethodId} {args : Array Value} {below : List Frame} {meth : Method} {c : Code} {Q : State → Prop}
variable {P : am_Pg} {B : am_Nm} {D : va_G} {Z : am_Z} {mi : Nat} {k0 n0 : Nat} {pc pc' len : Nat} {lv lv' : am_L} {st st' : List Value} {M M' : am_M}
theorem am_t_n0 {i : Nat} (G : am_Gd P B) (hnt : am_nat P mi i = some 0) (hC : am_X P B D Z p R s m args meth c mi) (hdg : decode (am_cc B mi) pc = .ok (.invokespecial i, 3)) (h : am_nt P 0 pc lv st M = some (pc', lv', st', M'))
    (hV : am_V p l e R s m args below meth c Q P B D Z mi k0 n0 pc' lv' st' M') : am_V p l e R s m args below meth c Q P B D Z mi k0 n0 pc lv st M := by
  obtain ⟨hx, hb, hml, hr, hlk, hown, hin0, hts, hNw, hK, hKc, hbs, hrF, hrL⟩ := hC
  obtain ⟨-, -, -, -, -, -, -, -, -, Ga, -⟩ := G
  obtain ⟨g1, g2, w1, w2, w3⟩ := Ga _ _ _ hnt
  replace h : am_n0 pc lv st M = some (pc', lv', st', M') := h
  unfold am_n0 at h
  split at h
  · rename_i a r
    by_cases hc : am_sum r ≤ 8
    · rw [if_pos hc] at h
      cases h
      intro H locs ls hR hS hl hk hn
      have K := hV H locs ls hR hS hl hk hn
      exact W.objInit hx hb hown (hts _ w1) (hts _ w2) (hts _ w3) rfl (by rw [hml]; exact hl.1) rfl hdg (Nat.le_trans g1 hrF) (by rw [am_sumT]; show 2 * 0 + am_sum st' + 12 ≤ R.locals; omega) K
    · rw [if_neg hc] at h; cases h
  · cases h
theorem am_t_n3 {i : Nat} (G : am_Gd P B) (hnt : am_nat P mi i = some 3) (hC : am_X P B D Z p R s m args meth c mi) (hdg : decode (am_cc B mi) pc = .ok (.invokestatic i, 3)) (h : am_nt P 3 pc lv st M = some (pc', lv', st', M'))
    (hV : am_V p l e R s m args below meth c Q P B D Z mi k0 n0 pc' lv' st' M') : am_V p l e R s m args below meth c Q P B D Z mi k0 n0 pc lv st M := by
  obtain ⟨hx, hb, hml, hr, hlk, hown, hin0, hts, hNw, hK, hKc, hbs, hrF, hrL⟩ := hC
  obtain ⟨-, -, -, -, -, -, -, -, -, Ga, -⟩ := G
  obtain ⟨g1, g2, w1, w2, w3, w4⟩ := Ga _ _ _ hnt
  replace h : am_n3 pc lv st M = some (pc', lv', st', M') := h
  unfold am_n3 at h
  split at h
  · rename_i b r
    by_cases hc : am_sum r ≤ 8
    · rw [if_pos hc] at h
      cases h
      intro H locs ls hR hS hl hk hn
      have K := hV H locs ls hR hS hl hk hn
      exact vn_d2l hx hb (hml.trans hl.1.symm) hown (hts _ w1) (hts _ w2) (hts _ w3) (hts _ w4) (Nat.le_trans g1 hrF) (by rw [am_sumT]; omega) hdg K
    · rw [if_neg hc] at h; cases h
  · cases h
theorem am_t_n4 {i : Nat} (G : am_Gd P B) (hnt : am_nat P mi i = some 4) (hC : am_X P B D Z p R s m args meth c mi) (hdg : decode (am_cc B mi) pc = .ok (.invokestatic i, 3)) (h : am_nt P 4 pc lv st M = some (pc', lv', st', M'))
    (hV : am_V p l e R s m args below meth c Q P B D Z mi k0 n0 pc' lv' st' M') : am_V p l e R s m args below meth c Q P B D Z mi k0 n0 pc lv st M := by
  obtain ⟨hx, hb, hml, hr, hlk, hown, hin0, hts, hNw, hK, hKc, hbs, hrF, hrL⟩ := hC
  obtain ⟨-, -, -, -, -, -, -, -, -, Ga, -⟩ := G
  obtain ⟨g1, g2, w1, w2, w3, w4⟩ := Ga _ _ _ hnt
  replace h : am_n4 pc lv st M = some (pc', lv', st', M') := h
  unfold am_n4 at h
  split at h
  · rename_i b r
    by_cases hc : am_sum r ≤ 8
    · rw [if_pos hc] at h
      cases h
      intro H locs ls hR hS hl hk hn
      have K := hV H locs ls hR hS hl hk hn
      exact vn_f2i hx hb (hml.trans hl.1.symm) hown (hts _ w1) (hts _ w2) (hts _ w3) (hts _ w4) (Nat.le_trans g1 hrF) (by rw [am_sumT]; omega) hdg K
    · rw [if_neg hc] at h; cases h
  · cases h
theorem am_nn {z : Int32} (hz : ¬ z < 0) : z.toInt = (z.toNatClampNeg : Int) := by
  have hz0 : (0 : Int) ≤ z.toInt := by
    have := Int32.not_lt.mp hz
    simpa using Int32.le_iff_toInt_le.mp this
  show z.toInt = ((z.toInt.toNat : Nat) : Int)
  omega
theorem am_t_n1 {i : Nat} (G : am_Gd P B) (hnt : am_nat P mi i = some 1) (hC : am_X P B D Z p R s m args meth c mi) (hdg : decode (am_cc B mi) pc = .ok (.invokestatic i, 3)) (h : am_nt P 1 pc lv st M = some (pc', lv', st', M'))
    (hV : am_V p l e R s m args below meth c Q P B D Z mi k0 n0 pc' lv' st' M') : am_V p l e R s m args below meth c Q P B D Z mi k0 n0 pc lv st M := by
  obtain ⟨hx, hb, hml, hr, hlk, hown, hin0, hts, hNw, hK, hKc, hbs, hrF, hrL⟩ := hC
  obtain ⟨-, -, -, -, -, -, G7, -, -, Ga, -⟩ := G
  obtain ⟨g1, g2, w1, w2, w3, w4⟩ := Ga _ _ _ hnt
  replace h : am_n1 pc lv st M = some (pc', lv', st', M') := h
  unfold am_n1 at h
  split at h
  · rename_i n dp b sp a r
    split at h
    · rename_i nA f nB g hoA hoB
      generalize hbq : (decide (am_sum r ≤ 8) && (!(decide (sp < 0)) && (!(decide (dp < 0)) && (!(decide (n < 0)) && (decide (sp.toNatClampNeg + n.toNatClampNeg ≤ nA) && decide (dp.toNatClampNeg + n.toNatClampNeg ≤ nB)))))) = bq at h
      cases bq with
      | false => cases h
      | true =>
        cases h
        simp only [Bool.and_eq_true, Bool.not_eq_true', decide_eq_false_iff_not, decide_eq_true_eq] at hbq
        obtain ⟨hsm, h1, h2, h3, h4, h5⟩ := hbq
        intro H locs ls hR hS hl hk hn T hT X
        have hcA : H[Z.2.2 + a]? = some (vp_cell (Z.1 0) (nA, .inl f)) := hR.1 a _ (am_ws_get hoA)
        have hcB : H[Z.2.2 + b]? = some (vp_cell (Z.1 0) (nB, .inl g)) := hR.1 b _ (am_ws_get hoB)
        obtain ⟨-, kA, hkA, cmA, hkkA⟩ := (hK.2 0 _ (am_tyg G7.2.2.1)).1 nA (fun j => .int (f j))
        have hnw : nativeFrameWords "java/lang/System" "arraycopy" 5 ≤ 20 := by decide
        obtain ⟨vm', X', step⟩ := X.arraycopy hx hown (hts _ w1) (hts _ w2) (hts _ w3) (hts _ w4) (src := Z.2.2 + a) (dst := Z.2.2 + b) (cs := vp_cell (Z.1 0) (nA, .inl f)) (cd := vp_cell (Z.1 0) (nB, .inl g)) (srcPos := sp) (destPos := dp) (n := n) (by rw [hT]; exact hcA) (by rw [hT]; exact hcB)
          (fun _ h => by cases h) (fun _ h => by cases h) (fun h => by cases h) (fun h => by cases h) hkA hkA hkkA hkkA rfl h1 h2 h3
          (by rw [am_nn h1, am_nn h3]; show ¬ _ > ((arrV (Z.1 0) nA (fun j => .int (f j))).slots.size : Int); rw [arrV_size]; omega)
          (by rw [am_nn h2, am_nn h3]; show ¬ _ > ((arrV (Z.1 0) nB (fun j => .int (g j))).slots.size : Int); rw [arrV_size]; omega)
          (fun vm₁ _ i hi => by
            have e : (vp_cell (Z.1 0) (nA, .inl f)).slots.getD (sp.toNatClampNeg + i) .null = .int (f (sp.toNatClampNeg + i)) := by
              show (arrV (Z.1 0) nA (fun j => .int (f j))).slots.getD _ _ = _
              rw [Array.getD_eq_getD_getElem?, arrV_read _ _ (by omega)]
              rfl
            refine ⟨?_, ?_⟩
            · rw [e]; rfl
            · rw [e]; exact trivial)
          (g := F0 m pc ls (.int n :: .int dp :: .ref (Z.2.2 + b) :: .int sp :: .ref (Z.2.2 + a) :: st'.map (am_tr Z.2.1 Z.2.2))) rfl (by rw [hml]; exact hl.1) (rest := st'.map (am_tr Z.2.1 Z.2.2)) rfl (by rw [hb]; exact hdg) (Nat.le_trans g1 hrF) (by rw [am_sumT]; show 2 * 0 + am_sum st' + _ ≤ R.locals; omega)
        have e1 : copied (vp_cell (Z.1 0) (nA, .inl f)) (vp_cell (Z.1 0) (nB, .inl g)) sp dp n = vp_cell (Z.1 0) (nB, .inl (va_cpy f g sp.toNatClampNeg dp.toNatClampNeg n.toNatClampNeg)) := va_copied (fun z => .int z) (Z.1 0) (Z.1 0) f g h4
        rw [e1] at X' step
        have hlB : Z.2.2 + b < H.size := (Array.getElem?_eq_some_iff.mp hcB).1
        generalize hH1 : H.setIfInBounds (Z.2.2 + b) (vp_cell (Z.1 0) (nB, .inl (va_cpy f g sp.toNatClampNeg dp.toNatClampNeg n.toNatClampNeg))) = H1
        have hheap : ((T.setVm vm').setCell (Z.2.2 + b) (vp_cell (Z.1 0) (nB, .inl (va_cpy f g sp.toNatClampNeg dp.toNatClampNeg n.toNatClampNeg)))).heap = H1 := by rw [← hH1, ← hT]; rfl
        have eb : H1[Z.2.2 + b]? = some (vp_cell (Z.1 0) (nB, .inl (va_cpy f g sp.toNatClampNeg dp.toNatClampNeg n.toNatClampNeg))) := by rw [← hH1]; simp [Array.getElem?_setIfInBounds, hlB]
        have oq : ∀ q : Nat, q ≠ Z.2.2 + b → H1[q]? = H[q]? := fun q hq => by rw [← hH1]; simp [Array.getElem?_setIfInBounds, Ne.symm hq]
        have z1 : H1.size = H.size := by rw [← hH1]; simp
        have hR' : am_R D (am_kl B) Z (M.1.set b (.inl (0, nB, .inl (va_cpy f g sp.toNatClampNeg dp.toNatClampNeg n.toNatClampNeg))), M.2) H1 := hR.set hoB eb z1 oq
        have hS' : va_S (am_A Z) s.heap H1 (locs ++ ((vp_cell (Z.1 0) (nA, .inl f)).stretch sp.toNatClampNeg n.toNatClampNeg).zipIdx.map fun q => ⟨Z.2.2 + b, dp.toNatClampNeg + q.2⟩) := by
          refine ⟨by rw [z1]; exact hS.1, fun q q1 q2 => ?_, fun q hq => ?_⟩
          · rw [oq q (fun e => q2 (by rw [e]; exact Nat.le_add_right _ _))]
            exact hS.2.1 q q1 q2
          · rcases List.mem_append.mp hq with h | h
            · exact hS.2.2 q h
            · obtain ⟨z, -, hz⟩ := List.mem_map.mp h
              rw [← hz]
              exact Nat.le_add_right _ _
        have K := hV H1 _ ls hR' hS' hl (by rw [List.length_set]; exact hk) hn
        rw [List.length_set] at K
        obtain ⟨t, a1, b1⟩ := K _ hheap X'
        exact ⟨t, step t a1, b1⟩
    · cases h
  · cases h
theorem am_t_n2 {i : Nat} (G : am_Gd P B) (hnt : am_nat P mi i = some 2) (hC : am_X P B D Z p R s m args meth c mi) (hdg : decode (am_cc B mi) pc = .ok (.invokevirtual i, 3)) (h : am_nt P 2 pc lv st M = some (pc', lv', st', M')) (hrc : M'.1.length - k0 ≤ R.cells) (hrs : M'.2 - n0 ≤ R.slots)
    (hV : am_V p l e R s m args below meth c Q P B D Z mi k0 n0 pc' lv' st' M') : am_V p l e R s m args below meth c Q P B D Z mi k0 n0 pc lv st M := by
  obtain ⟨hx, hb, hml, hr, hlk, hown, hin0, hts, hNw, hK, hKc, hbs, hrF, hrL⟩ := hC
  obtain ⟨-, -, -, -, -, -, G7, -, -, Ga, -⟩ := G
  obtain ⟨g1, g2, w1, w2, w3, w4, w5, w6⟩ := Ga _ _ _ hnt
  replace h : am_n2 P pc lv st M = some (pc', lv', st', M') := h
  unfold am_n2 at h
  split at h
  · rename_i cn r
    split at h
    · rename_i n f hcf
      by_cases hc : am_sum r ≤ 8 ∧ cn ≠ 0
      · rw [if_pos hc] at h
        cases h
        obtain ⟨c1, c2, ⟨scr, d1, d2, d3, d4, d5⟩, c4⟩ := hKc.1 _ _ _ hcf
        obtain ⟨cell, d6, d7⟩ := c4 hc.2
        cases d1.symm.trans d6
        have hcA : scr.cls = Z.1 0 := Option.some.inj (d7.symm.trans (hK.2 0 _ (am_tyg G7.2.2.1)).2)
        have hsl : ({ cls := scr.cls, slots := scr.slots } : Cell) = vp_cell (Z.1 0) (n, .inl f) := by
          rw [vp_cell_i, hcA]
          unfold arrV
          congr 1
          apply Array.ext
          · rw [d4]; simp
          · intro j h1 h2
            have h3 := d5 j (by rw [← d4]; exact h1)
            rw [Array.getElem?_eq_getElem h1] at h3
            rw [Option.some.inj h3]
            simp
        obtain ⟨f0, f1, f2, f3, f4⟩ := Cond.castable_spec (va_Nw.use (A := args) rfl (hNw _ w6))
        cases d7.symm.trans f2
        intro H locs ls hR hS hl hk hn T hT X
        have e0 : (M.1 ++ [(.inl (0, n, .inl f) : am_O)]).length - k0 = M.1.length - k0 + 1 := by rw [List.length_append]; simp; omega
        have e9 : M.2 + n - n0 = M.2 - n0 + n := by omega
        have hcellT : T.heap[Z.2.1 cn]? = some scr := by rw [hT, hS.2.1 _ c2 (Nat.not_le.mpr c1)]; exact d1
        obtain ⟨hvs, kS, hkS, compS, hkindS⟩ := d2
        obtain ⟨-, kT, hkT, compT, hkindT⟩ := State.isArrayOf_alike X.warmed.alike (show s.isArrayOf scr .int from ⟨hvs, kS, hkS, compS, hkindS⟩)
        obtain ⟨vm', X', step⟩ := X.cloneArray hx hown (hts _ w1) (hts _ w2) (hts _ w3) (hts _ w4) (hts _ w5) (a := Z.2.1 cn) (cell := scr) hcellT hvs d3 d7 f3 f4
          (fun i v hv => by
            have hi : i < n := by
              have := (Array.getElem?_eq_some_iff.mp hv).1
              omega
            have e5 := d5 i hi
            rw [hv] at e5
            cases e5
            simp [State.fitsSlot, State.slotType?, hkT, hkindT]
            rfl)
          (g := F0 m pc ls (.ref (Z.2.1 cn) :: r.map (am_tr Z.2.1 Z.2.2))) rfl (by rw [hml]; exact hl.1) rfl (by rw [hb]; exact hdg) (Nat.le_trans g1 hrF) (by rw [am_sumT]; show 2 * 0 + am_sum r + 14 ≤ R.locals; omega) (by rw [← e0]; exact hrc) (by rw [d4, ← e9]; exact hrs) (hloader := Vm.clonesLoader_of_array hkS hkindS)
        rw [hsl, d4] at X'
        rw [hsl] at step
        generalize hH1 : H.push (vp_cell (Z.1 0) (n, .inl f)) = H1
        have z1 : H1.size = H.size + 1 := by rw [← hH1, Array.size_push]
        have e1 : H1[H.size]? = some (vp_cell (Z.1 0) (n, .inl f)) := by rw [← hH1, Array.getElem?_push_size]
        have o1 : ∀ q : Nat, q < H.size → H1[q]? = H[q]? := fun q hq => by rw [← hH1, Array.getElem?_push, if_neg (Nat.ne_of_lt hq)]
        have hR' : am_R D (am_kl B) Z (M.1 ++ [.inl (0, n, .inl f)], M.2 + n) H1 := hR.push e1 z1 o1
        have K := hV H1 _ ls hR' (am_S_push hS z1 o1) hl (by rw [List.length_append]; simp; omega) (by show n0 ≤ M.2 + n; omega)
        rw [show (F0 m (pc + 3) ls (((.ref M.1.length : Value) :: r).map (am_tr Z.2.1 Z.2.2))) = F0 m (pc + 3) ls (.ref T.heap.size :: r.map (am_tr Z.2.1 Z.2.2)) by rw [hT, hR.2]; rfl] at K
        have K := (show W p l e R s m args below meth c H1 locs ((M.1 ++ [(.inl (0, n, .inl f) : am_O)]).length - k0) (M.2 + n - n0) Q _ from K)
        rw [e0, e9] at K
        obtain ⟨t, a1, b1⟩ := K _ (by rw [← hH1, ← hT]; rfl) X'
        exact ⟨t, step t a1, b1⟩
      · rw [if_neg hc] at h; cases h
    · cases h
  · cases h
theorem am_t_invokespecial {i : Nat} (G : am_Gd P B) (hC : am_X P B D Z p R s m args meth c mi) (hdg : decode (am_cc B mi) pc = .ok (.invokespecial i, 3)) (h : am_st P mi (.invokespecial i) pc lv st M = some (pc', lv', st', M'))
    (hV : am_V p l e R s m args below meth c Q P B D Z mi k0 n0 pc' lv' st' M') : am_V p l e R s m args below meth c Q P B D Z mi k0 n0 pc lv st M := by
  unfold am_st at h
  dsimp only at h
  split at h
  · rename_i k hk
    unfold am_ntk at hk
    dsimp only at hk
    split at hk
    · rename_i hn
      cases hk
      exact am_t_n0 G hn hC hdg h hV
    · cases hk
  · cases h
theorem am_t_invokestatic {i : Nat} (G : am_Gd P B) (hC : am_X P B D Z p R s m args meth c mi) (hdg : decode (am_cc B mi) pc = .ok (.invokestatic i, 3)) (h : am_st P mi (.invokestatic i) pc lv st M = some (pc', lv', st', M'))
    (hV : am_V p l e R s m args below meth c Q P B D Z mi k0 n0 pc' lv' st' M') : am_V p l e R s m args below meth c Q P B D Z mi k0 n0 pc lv st M := by
  unfold am_st at h
  dsimp only at h
  split at h
  · rename_i k hk
    unfold am_ntk at hk
    dsimp only at hk
    split at hk
    · rename_i hn
      cases hk
      exact am_t_n1 G hn hC hdg h hV
    · rename_i hn
      cases hk
      exact am_t_n3 G hn hC hdg h hV
    · rename_i hn
      cases hk
      exact am_t_n4 G hn hC hdg h hV
    · cases hk
  · cases h
theorem am_t_invokevirtual {i : Nat} (G : am_Gd P B) (hC : am_X P B D Z p R s m args meth c mi) (hdg : decode (am_cc B mi) pc = .ok (.invokevirtual i, 3)) (h : am_st P mi (.invokevirtual i) pc lv st M = some (pc', lv', st', M')) (hrc : M'.1.length - k0 ≤ R.cells) (hrs : M'.2 - n0 ≤ R.slots)
    (hV : am_V p l e R s m args below meth c Q P B D Z mi k0 n0 pc' lv' st' M') : am_V p l e R s m args below meth c Q P B D Z mi k0 n0 pc lv st M := by
  unfold am_st at h
  dsimp only at h
  split at h
  · rename_i k hk
    unfold am_ntk at hk
    dsimp only at hk
    split at hk
    · rename_i hn
      cases hk
      exact am_t_n2 G hn hC hdg h hrc hrs hV
    · cases hk
  · cases h
end AMN
end
section
/-! ===== the pure machine's answers are the claim's machine's ===== -/
section AMS
variable {p : Program} {l : Launch} {e : Env} {R : Room} {s : State} {m : MethodId} {args : Array Value} {below : List Frame} {meth : Method} {c : Code} {Q : State → Prop}
variable {P : am_Pg} {B : am_Nm} {D : va_G} {Z : am_Z} {mi : Nat} {k0 n0 : Nat} {pc pc' len : Nat} {lv lv' : am_L} {st st' : List Value} {M M' : am_M}
theorem am_lq {cc : ByteArray} {ins : Instr} {n : Nat} (hl : am_ln ins = 0 ∨ len = am_ln ins) (hd : decode cc pc = .ok (ins, len)) (hn : am_ln ins = n + 1) : decode cc pc = .ok (ins, n + 1) := by
  rcases hl with h | h
  · omega
  · rw [← hn, ← h]; exact hd
set_option maxHeartbeats 4000000 in
theorem am_step {ins : Instr} (G : am_Gd P B) (hcd : am_code P mi pc = some ins) (hC : am_X P B D Z p R s m args meth c mi) (h : am_st P mi ins pc lv st M = some (pc', lv', st', M')) (hrc : M'.1.length - k0 ≤ R.cells) (hrs : M'.2 - n0 ≤ R.slots)
    (hV : am_V p l e R s m args below meth c Q P B D Z mi k0 n0 pc' lv' st' M') : am_V p l e R s m args below meth c Q P B D Z mi k0 n0 pc lv st M := by
  obtain ⟨len, hdg, hlen⟩ := G.1 mi pc ins hcd
  cases ins with
  | iconst n => exact am_t_iconst hC (am_lq hlen hdg rfl) h hV
  | bipush n => exact am_t_bipush hC (am_lq hlen hdg rfl) h hV
  | sipush n => exact am_t_sipush hC (am_lq hlen hdg rfl) h hV
  | lconst n => exact am_t_lconst hC (am_lq hlen hdg rfl) h hV
  | iload_n k => exact am_t_iload_n hC (am_lq hlen hdg rfl) h hV
  | lload_n k => exact am_t_lload_n hC (am_lq hlen hdg rfl) h hV
  | fload_n k => exact am_t_fload_n hC (am_lq hlen hdg rfl) h hV
  | dload_n k => exact am_t_dload_n hC (am_lq hlen hdg rfl) h hV
  | aload_n k => exact am_t_aload_n hC (am_lq hlen hdg rfl) h hV
  | iload i => exact am_t_iload hC (am_lq hlen hdg rfl) h hV
  | lload i => exact am_t_lload hC (am_lq hlen hdg rfl) h hV
  | aload i => exact am_t_aload hC (am_lq hlen hdg rfl) h hV
  | istore_n k => exact am_t_istore_n hC (am_lq hlen hdg rfl) h hV
  | lstore_n k => exact am_t_lstore_n hC (am_lq hlen hdg rfl) h hV
  | fstore_n k => exact am_t_fstore_n hC (am_lq hlen hdg rfl) h hV
  | dstore_n k => exact am_t_dstore_n hC (am_lq hlen hdg rfl) h hV
  | astore_n k => exact am_t_astore_n hC (am_lq hlen hdg rfl) h hV
  | istore i => exact am_t_istore hC (am_lq hlen hdg rfl) h hV
  | lstore i => exact am_t_lstore hC (am_lq hlen hdg rfl) h hV
  | astore i => exact am_t_astore hC (am_lq hlen hdg rfl) h hV
  | iinc i n => exact am_t_iinc hC (am_lq hlen hdg rfl) h hV
  | iadd => exact am_t_iadd hC (am_lq hlen hdg rfl) h hV
  | isub => exact am_t_isub hC (am_lq hlen hdg rfl) h hV
  | imul => exact am_t_imul hC (am_lq hlen hdg rfl) h hV
  | iand => exact am_t_iand hC (am_lq hlen hdg rfl) h hV
  | ior => exact am_t_ior hC (am_lq hlen hdg rfl) h hV
  | ixor => exact am_t_ixor hC (am_lq hlen hdg rfl) h hV
  | ishl => exact am_t_ishl hC (am_lq hlen hdg rfl) h hV
  | ishr => exact am_t_ishr hC (am_lq hlen hdg rfl) h hV
  | iushr => exact am_t_iushr hC (am_lq hlen hdg rfl) h hV
  | idiv => exact am_t_idiv hC (am_lq hlen hdg rfl) h hV
  | irem => exact am_t_irem hC (am_lq hlen hdg rfl) h hV
  | ineg => exact am_t_ineg hC (am_lq hlen hdg rfl) h hV
  | ladd => exact am_t_ladd hC (am_lq hlen hdg rfl) h hV
  | lsub => exact am_t_lsub hC (am_lq hlen hdg rfl) h hV
  | lmul => exact am_t_lmul hC (am_lq hlen hdg rfl) h hV
  | land => exact am_t_land hC (am_lq hlen hdg rfl) h hV
  | ldiv => exact am_t_ldiv hC (am_lq hlen hdg rfl) h hV
  | lshl => exact am_t_lshl hC (am_lq hlen hdg rfl) h hV
  | lshr => exact am_t_lshr hC (am_lq hlen hdg rfl) h hV
  | lcmp => exact am_t_lcmp hC (am_lq hlen hdg rfl) h hV
  | i2l => exact am_t_i2l hC (am_lq hlen hdg rfl) h hV
  | l2i => exact am_t_l2i hC (am_lq hlen hdg rfl) h hV
  | l2d => exact am_t_l2d hC (am_lq hlen hdg rfl) h hV
  | i2f => exact am_t_i2f hC (am_lq hlen hdg rfl) h hV
  | d2l => exact am_t_d2l hC (am_lq hlen hdg rfl) h hV
  | f2i => exact am_t_f2i hC (am_lq hlen hdg rfl) h hV
  | dadd => exact am_t_dadd hC (am_lq hlen hdg rfl) h hV
  | dsub => exact am_t_dsub hC (am_lq hlen hdg rfl) h hV
  | dmul => exact am_t_dmul hC (am_lq hlen hdg rfl) h hV
  | ddiv => exact am_t_ddiv hC (am_lq hlen hdg rfl) h hV
  | fsub => exact am_t_fsub hC (am_lq hlen hdg rfl) h hV
  | fmul => exact am_t_fmul hC (am_lq hlen hdg rfl) h hV
  | fdiv => exact am_t_fdiv hC (am_lq hlen hdg rfl) h hV
  | dcmp o => exact am_t_dcmp hC (am_lq hlen hdg rfl) h hV
  | fcmp o => exact am_t_fcmp hC (am_lq hlen hdg rfl) h hV
  | dup => exact am_t_dup hC (am_lq hlen hdg rfl) h hV
  | pop => exact am_t_pop hC (am_lq hlen hdg rfl) h hV
  | pop2 => exact am_t_pop2 hC (am_lq hlen hdg rfl) h hV
  | dup2 => exact am_t_dup2 hC (am_lq hlen hdg rfl) h hV
  | dup_x1 => exact am_t_dup_x1 hC (am_lq hlen hdg rfl) h hV
  | ifnonnull o => exact am_t_ifnonnull hC (am_lq hlen hdg rfl) h hV
  | ifnull o => exact am_t_ifnull hC (am_lq hlen hdg rfl) h hV
  | goto o => exact am_t_goto hC (am_lq hlen hdg rfl) h hV
  | ifCond o q => exact am_t_if hC (am_lq hlen hdg rfl) h hV
  | if_icmp o q => exact am_t_icmp hC (am_lq hlen hdg rfl) h hV
  | tableswitch a b o q => exact am_t_tableswitch hC hdg h hV
  | getfield i => exact am_t_getfield G hC (am_lq hlen hdg rfl) h hV
  | putfield i => exact am_t_putfield G hC (am_lq hlen hdg rfl) h hV
  | getstatic i => exact am_t_getstatic G hC (am_lq hlen hdg rfl) h hV
  | ldc i => exact am_t_ldc G hC (am_lq hlen hdg rfl) h hV
  | ldc_w i => exact am_t_ldc_w G hC (am_lq hlen hdg rfl) h hV
  | ldc2_w i => exact am_t_ldc2_w G hC (am_lq hlen hdg rfl) h hV
  | iaload => exact am_t_iaload G hC (am_lq hlen hdg rfl) h hV
  | iastore => exact am_t_iastore G hC (am_lq hlen hdg rfl) h hV
  | laload => exact am_t_laload G hC (am_lq hlen hdg rfl) h hV
  | lastore => exact am_t_lastore G hC (am_lq hlen hdg rfl) h hV
  | aaload => exact am_t_aaload G hC (am_lq hlen hdg rfl) h hV
  | aastore => exact am_t_aastore G hC (am_lq hlen hdg rfl) h hV
  | arraylength => exact am_t_arraylength G hC (am_lq hlen hdg rfl) h hV
  | invokespecial i => exact am_t_invokespecial G hC (am_lq hlen hdg rfl) h hV
  | invokestatic i => exact am_t_invokestatic G hC (am_lq hlen hdg rfl) h hV
  | new i => exact am_t_new G hC (am_lq hlen hdg rfl) h hrc hrs hV
  | newarray i => exact am_t_newarray G hC (am_lq hlen hdg rfl) h hrc hrs hV
  | anewarray i => exact am_t_anewarray G hC (am_lq hlen hdg rfl) h hrc hrs hV
  | invokevirtual i => exact am_t_invokevirtual G hC (am_lq hlen hdg rfl) h hrc hrs hV
  | checkcast i => exact am_t_checkcast G hcd hC (am_lq hlen hdg rfl) h hV
  | fconst n =>
    match n, hdg, hlen, h with
    | 0, hdg, hlen, h => exact am_t_fconst0 hC (am_lq hlen hdg rfl) h hV
    | 1, hdg, hlen, h => exact am_t_fconst1 hC (am_lq hlen hdg rfl) h hV
    | 2, hdg, hlen, h => exact am_t_fconst2 hC (am_lq hlen hdg rfl) h hV
  | dconst n =>
    match n, hdg, hlen, h with
    | 0, hdg, hlen, h => exact am_t_dconst0 hC (am_lq hlen hdg rfl) h hV
    | 1, hdg, hlen, h => exact am_t_dconst1 hC (am_lq hlen hdg rfl) h hV
  | _ => exact absurd h (by simp [am_st])
theorem am_bif {α : Type} {b : Bool} {x : Option α} {y : α} (h : (bif b then x else none) = some y) : b = true ∧ x = some y := by
  cases b with
  | false => cases h
  | true => exact ⟨rfl, h⟩
theorem am_mono_nt {k : Nat} (h : am_nt P k pc lv st M = some (pc', lv', st', M')) : M.1.length ≤ M'.1.length ∧ M.2 ≤ M'.2 := by
  match k, h with
  | 0, h =>
    simp only [am_nt, am_n0] at h
    (repeat' (split at h)) <;> first | (cases h; done) | (cases h; exact ⟨Nat.le_refl _, Nat.le_refl _⟩)
  | 1, h =>
    simp only [am_nt, am_n1] at h
    (repeat' (split at h)) <;> first | (cases h; done) | (obtain ⟨-, h⟩ := am_bif h; cases h; exact ⟨by simp, Nat.le_refl _⟩)
  | 2, h =>
    simp only [am_nt, am_n2] at h
    (repeat' (split at h)) <;> first | (cases h; done) | (cases h; exact ⟨by simp, Nat.le_add_right _ _⟩)
  | 3, h =>
    simp only [am_nt, am_n3] at h
    (repeat' (split at h)) <;> first | (cases h; done) | (cases h; exact ⟨Nat.le_refl _, Nat.le_refl _⟩)
  | 4, h =>
    simp only [am_nt, am_n4] at h
    (repeat' (split at h)) <;> first | (cases h; done) | (cases h; exact ⟨Nat.le_refl _, Nat.le_refl _⟩)
  | n + 5, h => exact absurd h (by simp [am_nt])
set_option maxHeartbeats 4000000 in
/-- what is made stays -/
theorem am_mono_st {ins : Instr} (h : am_st P mi ins pc lv st M = some (pc', lv', st', M')) : M.1.length ≤ M'.1.length ∧ M.2 ≤ M'.2 := by
  cases ins with
  | iconst n => cases h; exact ⟨Nat.le_refl _, Nat.le_refl _⟩
  | bipush n => cases h; exact ⟨Nat.le_refl _, Nat.le_refl _⟩
  | sipush n => cases h; exact ⟨Nat.le_refl _, Nat.le_refl _⟩
  | lconst n => cases h; exact ⟨Nat.le_refl _, Nat.le_refl _⟩
  | iload_n k => obtain ⟨v, -, -, -, -, rfl⟩ := am_pu_inv h; exact ⟨Nat.le_refl _, Nat.le_refl _⟩
  | lload_n k => obtain ⟨v, -, -, -, -, rfl⟩ := am_pu_inv h; exact ⟨Nat.le_refl _, Nat.le_refl _⟩
  | fload_n k => obtain ⟨v, -, -, -, -, rfl⟩ := am_pu_inv h; exact ⟨Nat.le_refl _, Nat.le_refl _⟩
  | dload_n k => obtain ⟨v, -, -, -, -, rfl⟩ := am_pu_inv h; exact ⟨Nat.le_refl _, Nat.le_refl _⟩
  | aload_n k => obtain ⟨v, -, -, -, -, rfl⟩ := am_pu_inv h; exact ⟨Nat.le_refl _, Nat.le_refl _⟩
  | iload i => obtain ⟨v, -, -, -, -, rfl⟩ := am_pu_inv h; exact ⟨Nat.le_refl _, Nat.le_refl _⟩
  | lload i => obtain ⟨v, -, -, -, -, rfl⟩ := am_pu_inv h; exact ⟨Nat.le_refl _, Nat.le_refl _⟩
  | aload i => obtain ⟨v, -, -, -, -, rfl⟩ := am_pu_inv h; exact ⟨Nat.le_refl _, Nat.le_refl _⟩
  | istore_n k => obtain ⟨v, r, -, -, -, -, rfl, -⟩ := am_so_inv h; exact ⟨Nat.le_refl _, Nat.le_refl _⟩
  | lstore_n k => obtain ⟨v, r, -, -, -, -, rfl, -⟩ := am_so_inv h; exact ⟨Nat.le_refl _, Nat.le_refl _⟩
  | fstore_n k => obtain ⟨v, r, -, -, -, -, rfl, -⟩ := am_so_inv h; exact ⟨Nat.le_refl _, Nat.le_refl _⟩
  | dstore_n k => obtain ⟨v, r, -, -, -, -, rfl, -⟩ := am_so_inv h; exact ⟨Nat.le_refl _, Nat.le_refl _⟩
  | astore_n k => obtain ⟨v, r, -, -, -, -, rfl, -⟩ := am_so_inv h; exact ⟨Nat.le_refl _, Nat.le_refl _⟩
  | istore i => obtain ⟨v, r, -, -, -, -, rfl, -⟩ := am_so_inv h; exact ⟨Nat.le_refl _, Nat.le_refl _⟩
  | lstore i => obtain ⟨v, r, -, -, -, -, rfl, -⟩ := am_so_inv h; exact ⟨Nat.le_refl _, Nat.le_refl _⟩
  | astore i => obtain ⟨v, r, -, -, -, -, rfl, -⟩ := am_so_inv h; exact ⟨Nat.le_refl _, Nat.le_refl _⟩
  | iadd => obtain ⟨x, y, r, v, -, -, -, -, -, rfl⟩ := am_2_inv h; exact ⟨Nat.le_refl _, Nat.le_refl _⟩
  | isub => obtain ⟨x, y, r, v, -, -, -, -, -, rfl⟩ := am_2_inv h; exact ⟨Nat.le_refl _, Nat.le_refl _⟩
  | imul => obtain ⟨x, y, r, v, -, -, -, -, -, rfl⟩ := am_2_inv h; exact ⟨Nat.le_refl _, Nat.le_refl _⟩
  | iand => obtain ⟨x, y, r, v, -, -, -, -, -, rfl⟩ := am_2_inv h; exact ⟨Nat.le_refl _, Nat.le_refl _⟩
  | ior => obtain ⟨x, y, r, v, -, -, -, -, -, rfl⟩ := am_2_inv h; exact ⟨Nat.le_refl _, Nat.le_refl _⟩
  | ixor => obtain ⟨x, y, r, v, -, -, -, -, -, rfl⟩ := am_2_inv h; exact ⟨Nat.le_refl _, Nat.le_refl _⟩
  | ishl => obtain ⟨x, y, r, v, -, -, -, -, -, rfl⟩ := am_2_inv h; exact ⟨Nat.le_refl _, Nat.le_refl _⟩
  | ishr => obtain ⟨x, y, r, v, -, -, -, -, -, rfl⟩ := am_2_inv h; exact ⟨Nat.le_refl _, Nat.le_refl _⟩
  | iushr => obtain ⟨x, y, r, v, -, -, -, -, -, rfl⟩ := am_2_inv h; exact ⟨Nat.le_refl _, Nat.le_refl _⟩
  | idiv => obtain ⟨x, y, r, v, -, -, -, -, -, rfl⟩ := am_2_inv h; exact ⟨Nat.le_refl _, Nat.le_refl _⟩
  | irem => obtain ⟨x, y, r, v, -, -, -, -, -, rfl⟩ := am_2_inv h; exact ⟨Nat.le_refl _, Nat.le_refl _⟩
  | ladd => obtain ⟨x, y, r, v, -, -, -, -, -, rfl⟩ := am_2_inv h; exact ⟨Nat.le_refl _, Nat.le_refl _⟩
  | lsub => obtain ⟨x, y, r, v, -, -, -, -, -, rfl⟩ := am_2_inv h; exact ⟨Nat.le_refl _, Nat.le_refl _⟩
  | lmul => obtain ⟨x, y, r, v, -, -, -, -, -, rfl⟩ := am_2_inv h; exact ⟨Nat.le_refl _, Nat.le_refl _⟩
  | land => obtain ⟨x, y, r, v, -, -, -, -, -, rfl⟩ := am_2_inv h; exact ⟨Nat.le_refl _, Nat.le_refl _⟩
  | ldiv => obtain ⟨x, y, r, v, -, -, -, -, -, rfl⟩ := am_2_inv h; exact ⟨Nat.le_refl _, Nat.le_refl _⟩
  | lshl => obtain ⟨x, y, r, v, -, -, -, -, -, rfl⟩ := am_2_inv h; exact ⟨Nat.le_refl _, Nat.le_refl _⟩
  | lshr => obtain ⟨x, y, r, v, -, -, -, -, -, rfl⟩ := am_2_inv h; exact ⟨Nat.le_refl _, Nat.le_refl _⟩
  | lcmp => obtain ⟨x, y, r, v, -, -, -, -, -, rfl⟩ := am_2_inv h; exact ⟨Nat.le_refl _, Nat.le_refl _⟩
  | dadd => obtain ⟨x, y, r, v, -, -, -, -, -, rfl⟩ := am_2_inv h; exact ⟨Nat.le_refl _, Nat.le_refl _⟩
  | dsub => obtain ⟨x, y, r, v, -, -, -, -, -, rfl⟩ := am_2_inv h; exact ⟨Nat.le_refl _, Nat.le_refl _⟩
  | dmul => obtain ⟨x, y, r, v, -, -, -, -, -, rfl⟩ := am_2_inv h; exact ⟨Nat.le_refl _, Nat.le_refl _⟩
  | ddiv => obtain ⟨x, y, r, v, -, -, -, -, -, rfl⟩ := am_2_inv h; exact ⟨Nat.le_refl _, Nat.le_refl _⟩
  | fsub => obtain ⟨x, y, r, v, -, -, -, -, -, rfl⟩ := am_2_inv h; exact ⟨Nat.le_refl _, Nat.le_refl _⟩
  | fmul => obtain ⟨x, y, r, v, -, -, -, -, -, rfl⟩ := am_2_inv h; exact ⟨Nat.le_refl _, Nat.le_refl _⟩
  | fdiv => obtain ⟨x, y, r, v, -, -, -, -, -, rfl⟩ := am_2_inv h; exact ⟨Nat.le_refl _, Nat.le_refl _⟩
  | dcmp o => obtain ⟨x, y, r, v, -, -, -, -, -, rfl⟩ := am_2_inv h; exact ⟨Nat.le_refl _, Nat.le_refl _⟩
  | fcmp o => obtain ⟨x, y, r, v, -, -, -, -, -, rfl⟩ := am_2_inv h; exact ⟨Nat.le_refl _, Nat.le_refl _⟩
  | ineg => obtain ⟨x, r, v, -, -, -, -, -, rfl⟩ := am_1_inv h; exact ⟨Nat.le_refl _, Nat.le_refl _⟩
  | i2l => obtain ⟨x, r, v, -, -, -, -, -, rfl⟩ := am_1_inv h; exact ⟨Nat.le_refl _, Nat.le_refl _⟩
  | l2i => obtain ⟨x, r, v, -, -, -, -, -, rfl⟩ := am_1_inv h; exact ⟨Nat.le_refl _, Nat.le_refl _⟩
  | l2d => obtain ⟨x, r, v, -, -, -, -, -, rfl⟩ := am_1_inv h; exact ⟨Nat.le_refl _, Nat.le_refl _⟩
  | i2f => obtain ⟨x, r, v, -, -, -, -, -, rfl⟩ := am_1_inv h; exact ⟨Nat.le_refl _, Nat.le_refl _⟩
  | d2l => obtain ⟨x, r, v, -, -, -, -, -, rfl⟩ := am_1_inv h; exact ⟨Nat.le_refl _, Nat.le_refl _⟩
  | f2i => obtain ⟨x, r, v, -, -, -, -, -, rfl⟩ := am_1_inv h; exact ⟨Nat.le_refl _, Nat.le_refl _⟩
  | goto o => obtain ⟨-, -, -, rfl⟩ := am_go_inv h; exact ⟨Nat.le_refl _, Nat.le_refl _⟩
  | fconst n => (simp only [am_st] at h; repeat' (split at h)) <;> first | (cases h; done) | (cases h; exact ⟨Nat.le_refl _, Nat.le_refl _⟩) | (obtain ⟨t, -, -, -, rfl, -⟩ := am_br_inv h; exact ⟨Nat.le_refl _, Nat.le_refl _⟩) | (obtain ⟨-, -, -, rfl⟩ := am_go_inv h; exact ⟨Nat.le_refl _, Nat.le_refl _⟩)
  | dconst n => (simp only [am_st] at h; repeat' (split at h)) <;> first | (cases h; done) | (cases h; exact ⟨Nat.le_refl _, Nat.le_refl _⟩) | (obtain ⟨t, -, -, -, rfl, -⟩ := am_br_inv h; exact ⟨Nat.le_refl _, Nat.le_refl _⟩) | (obtain ⟨-, -, -, rfl⟩ := am_go_inv h; exact ⟨Nat.le_refl _, Nat.le_refl _⟩)
  | ldc i => (simp only [am_st] at h; repeat' (split at h)) <;> first | (cases h; done) | (cases h; exact ⟨Nat.le_refl _, Nat.le_refl _⟩) | (obtain ⟨t, -, -, -, rfl, -⟩ := am_br_inv h; exact ⟨Nat.le_refl _, Nat.le_refl _⟩) | (obtain ⟨-, -, -, rfl⟩ := am_go_inv h; exact ⟨Nat.le_refl _, Nat.le_refl _⟩)
  | ldc_w i => (simp only [am_st] at h; repeat' (split at h)) <;> first | (cases h; done) | (cases h; exact ⟨Nat.le_refl _, Nat.le_refl _⟩) | (obtain ⟨t, -, -, -, rfl, -⟩ := am_br_inv h; exact ⟨Nat.le_refl _, Nat.le_refl _⟩) | (obtain ⟨-, -, -, rfl⟩ := am_go_inv h; exact ⟨Nat.le_refl _, Nat.le_refl _⟩)
  | ldc2_w i => (simp only [am_st] at h; repeat' (split at h)) <;> first | (cases h; done) | (cases h; exact ⟨Nat.le_refl _, Nat.le_refl _⟩) | (obtain ⟨t, -, -, -, rfl, -⟩ := am_br_inv h; exact ⟨Nat.le_refl _, Nat.le_refl _⟩) | (obtain ⟨-, -, -, rfl⟩ := am_go_inv h; exact ⟨Nat.le_refl _, Nat.le_refl _⟩)
  | iinc i n => (simp only [am_st] at h; repeat' (split at h)) <;> first | (cases h; done) | (cases h; exact ⟨Nat.le_refl _, Nat.le_refl _⟩) | (obtain ⟨t, -, -, -, rfl, -⟩ := am_br_inv h; exact ⟨Nat.le_refl _, Nat.le_refl _⟩) | (obtain ⟨-, -, -, rfl⟩ := am_go_inv h; exact ⟨Nat.le_refl _, Nat.le_refl _⟩)
  | dup => (simp only [am_st] at h; repeat' (split at h)) <;> first | (cases h; done) | (cases h; exact ⟨Nat.le_refl _, Nat.le_refl _⟩) | (obtain ⟨t, -, -, -, rfl, -⟩ := am_br_inv h; exact ⟨Nat.le_refl _, Nat.le_refl _⟩) | (obtain ⟨-, -, -, rfl⟩ := am_go_inv h; exact ⟨Nat.le_refl _, Nat.le_refl _⟩)
  | pop => (simp only [am_st] at h; repeat' (split at h)) <;> first | (cases h; done) | (cases h; exact ⟨Nat.le_refl _, Nat.le_refl _⟩) | (obtain ⟨t, -, -, -, rfl, -⟩ := am_br_inv h; exact ⟨Nat.le_refl _, Nat.le_refl _⟩) | (obtain ⟨-, -, -, rfl⟩ := am_go_inv h; exact ⟨Nat.le_refl _, Nat.le_refl _⟩)
  | pop2 => (simp only [am_st] at h; repeat' (split at h)) <;> first | (cases h; done) | (cases h; exact ⟨Nat.le_refl _, Nat.le_refl _⟩) | (obtain ⟨t, -, -, -, rfl, -⟩ := am_br_inv h; exact ⟨Nat.le_refl _, Nat.le_refl _⟩) | (obtain ⟨-, -, -, rfl⟩ := am_go_inv h; exact ⟨Nat.le_refl _, Nat.le_refl _⟩)
  | dup2 => (simp only [am_st] at h; repeat' (split at h)) <;> first | (cases h; done) | (cases h; exact ⟨Nat.le_refl _, Nat.le_refl _⟩) | (obtain ⟨t, -, -, -, rfl, -⟩ := am_br_inv h; exact ⟨Nat.le_refl _, Nat.le_refl _⟩) | (obtain ⟨-, -, -, rfl⟩ := am_go_inv h; exact ⟨Nat.le_refl _, Nat.le_refl _⟩)
  | dup_x1 => (simp only [am_st] at h; repeat' (split at h)) <;> first | (cases h; done) | (cases h; exact ⟨Nat.le_refl _, Nat.le_refl _⟩) | (obtain ⟨t, -, -, -, rfl, -⟩ := am_br_inv h; exact ⟨Nat.le_refl _, Nat.le_refl _⟩) | (obtain ⟨-, -, -, rfl⟩ := am_go_inv h; exact ⟨Nat.le_refl _, Nat.le_refl _⟩)
  | ifCond o q => (simp only [am_st] at h; repeat' (split at h)) <;> first | (cases h; done) | (cases h; exact ⟨Nat.le_refl _, Nat.le_refl _⟩) | (obtain ⟨t, -, -, -, rfl, -⟩ := am_br_inv h; exact ⟨Nat.le_refl _, Nat.le_refl _⟩) | (obtain ⟨-, -, -, rfl⟩ := am_go_inv h; exact ⟨Nat.le_refl _, Nat.le_refl _⟩)
  | if_icmp o q => (simp only [am_st] at h; repeat' (split at h)) <;> first | (cases h; done) | (cases h; exact ⟨Nat.le_refl _, Nat.le_refl _⟩) | (obtain ⟨t, -, -, -, rfl, -⟩ := am_br_inv h; exact ⟨Nat.le_refl _, Nat.le_refl _⟩) | (obtain ⟨-, -, -, rfl⟩ := am_go_inv h; exact ⟨Nat.le_refl _, Nat.le_refl _⟩)
  | ifnonnull o => (simp only [am_st] at h; repeat' (split at h)) <;> first | (cases h; done) | (cases h; exact ⟨Nat.le_refl _, Nat.le_refl _⟩) | (obtain ⟨t, -, -, -, rfl, -⟩ := am_br_inv h; exact ⟨Nat.le_refl _, Nat.le_refl _⟩) | (obtain ⟨-, -, -, rfl⟩ := am_go_inv h; exact ⟨Nat.le_refl _, Nat.le_refl _⟩)
  | ifnull o => (simp only [am_st] at h; repeat' (split at h)) <;> first | (cases h; done) | (cases h; exact ⟨Nat.le_refl _, Nat.le_refl _⟩) | (obtain ⟨t, -, -, -, rfl, -⟩ := am_br_inv h; exact ⟨Nat.le_refl _, Nat.le_refl _⟩) | (obtain ⟨-, -, -, rfl⟩ := am_go_inv h; exact ⟨Nat.le_refl _, Nat.le_refl _⟩)
  | getstatic i => (simp only [am_st] at h; repeat' (split at h)) <;> first | (cases h; done) | (cases h; exact ⟨Nat.le_refl _, Nat.le_refl _⟩) | (obtain ⟨t, -, -, -, rfl, -⟩ := am_br_inv h; exact ⟨Nat.le_refl _, Nat.le_refl _⟩) | (obtain ⟨-, -, -, rfl⟩ := am_go_inv h; exact ⟨Nat.le_refl _, Nat.le_refl _⟩)
  | checkcast i => (simp only [am_st] at h; repeat' (split at h)) <;> first | (cases h; done) | (cases h; exact ⟨Nat.le_refl _, Nat.le_refl _⟩) | (obtain ⟨t, -, -, -, rfl, -⟩ := am_br_inv h; exact ⟨Nat.le_refl _, Nat.le_refl _⟩) | (obtain ⟨-, -, -, rfl⟩ := am_go_inv h; exact ⟨Nat.le_refl _, Nat.le_refl _⟩)
  | tableswitch a b o q =>
    simp only [am_st] at h
    split at h
    · cases hk : am_swk _ b o q <;> rw [hk] at h
      · cases h
      · obtain ⟨-, -, -, rfl⟩ := am_go_inv h; exact ⟨Nat.le_refl _, Nat.le_refl _⟩
    · cases h
  | getfield i =>
    simp only [am_st, am_gf] at h
    (repeat' (split at h)) <;> first | (obtain ⟨v, -, -, -, -, rfl⟩ := am_pu_inv h; exact ⟨Nat.le_refl _, Nat.le_refl _⟩) | cases h
  | putfield i =>
    simp only [am_st, am_pf] at h
    (repeat' (split at h)) <;> first | (cases h; done) | (obtain ⟨-, h⟩ := am_bif h; cases h; exact ⟨by simp, by first | exact Nat.le_refl _ | exact Nat.le_add_right _ _⟩)
  | iaload =>
    simp only [am_st, am_ald] at h
    (repeat' (split at h)) <;> first | (cases h; done) | (obtain ⟨-, h⟩ := am_bif h; cases h; exact ⟨by simp, by first | exact Nat.le_refl _ | exact Nat.le_add_right _ _⟩)
  | iastore =>
    simp only [am_st, am_ast] at h
    (repeat' (split at h)) <;> first | (cases h; done) | (obtain ⟨-, h⟩ := am_bif h; cases h; exact ⟨by simp, by first | exact Nat.le_refl _ | exact Nat.le_add_right _ _⟩)
  | laload =>
    simp only [am_st, am_lald] at h
    (repeat' (split at h)) <;> first | (cases h; done) | (obtain ⟨-, h⟩ := am_bif h; cases h; exact ⟨by simp, by first | exact Nat.le_refl _ | exact Nat.le_add_right _ _⟩)
  | lastore =>
    simp only [am_st, am_last] at h
    (repeat' (split at h)) <;> first | (cases h; done) | (obtain ⟨-, h⟩ := am_bif h; cases h; exact ⟨by simp, by first | exact Nat.le_refl _ | exact Nat.le_add_right _ _⟩)
  | aaload =>
    simp only [am_st, am_qald] at h
    (repeat' (split at h)) <;> first | (cases h; done) | (obtain ⟨-, h⟩ := am_bif h; cases h; exact ⟨by simp, by first | exact Nat.le_refl _ | exact Nat.le_add_right _ _⟩)
  | aastore =>
    simp only [am_st, am_qast] at h
    (repeat' (split at h)) <;> first | (cases h; done) | (obtain ⟨-, h⟩ := am_bif h; cases h; exact ⟨by simp, by first | exact Nat.le_refl _ | exact Nat.le_add_right _ _⟩)
  | newarray i =>
    simp only [am_st, am_na] at h
    (repeat' (split at h)) <;> first | (cases h; done) | (obtain ⟨-, h⟩ := am_bif h; cases h; exact ⟨by simp, by first | exact Nat.le_refl _ | exact Nat.le_add_right _ _⟩)
  | anewarray i =>
    simp only [am_st, am_nq] at h
    (repeat' (split at h)) <;> first | (cases h; done) | (obtain ⟨-, h⟩ := am_bif h; cases h; exact ⟨by simp, by first | exact Nat.le_refl _ | exact Nat.le_add_right _ _⟩)
  | arraylength =>
    simp only [am_st, am_len] at h
    (repeat' (split at h)) <;> first | (cases h; done) | (cases h; exact ⟨Nat.le_refl _, Nat.le_refl _⟩)
  | new i =>
    simp only [am_st, am_nw] at h
    (repeat' (split at h)) <;> first | (cases h; done) | (cases h; exact ⟨by simp, Nat.le_add_right _ _⟩)
  | invokespecial i =>
    simp only [am_st] at h
    split at h
    · exact am_mono_nt h
    · cases h
  | invokestatic i =>
    simp only [am_st] at h
    split at h
    · exact am_mono_nt h
    · cases h
  | invokevirtual i =>
    simp only [am_st] at h
    split at h
    · exact am_mono_nt h
    · cases h
  | _ => exact absurd h (by simp [am_st])
/-- and so of the whole machine -/
theorem am_mono : ∀ (f mi pc : Nat) (lv : am_L) (st : List Value) (M : am_M) (v : Option Value) (M' : am_M), am_ev P f mi pc lv st M = some (v, M') → M.1.length ≤ M'.1.length ∧ M.2 ≤ M'.2 := by
  intro f
  induction f with
  | zero => intro mi pc lv st M v M' h; cases h
  | succ f ih =>
    intro mi pc lv st M v M' h
    unfold am_ev at h
    split at h
    · cases h
    · rename_i ins hc
      split at h
      · rename_i mj n hcl
        cases hr : am_rc P mi ins mj n st M with
        | false => rw [hr] at h; cases h
        | true =>
          rw [hr] at h
          replace h : (match am_ev P f mj 0 (lv_args 0 (st.take n).reverse) [] M with
            | some (v, M') => am_ev P f mi (pc + 3) lv (v.toList ++ st.drop n) M'
            | none => none) = some (v, M') := h
          split at h
          · rename_i v1 M1 h1
            have a := ih _ _ _ _ _ _ _ h1
            have b := ih _ _ _ _ _ _ _ h
            exact ⟨Nat.le_trans a.1 b.1, Nat.le_trans a.2 b.2⟩
          · cases h
      · split at h
        · cases h; exact ⟨Nat.le_refl _, Nat.le_refl _⟩
        · split at h
          · rename_i pc1 lv1 st1 M1 h1
            have a := am_mono_st h1
            have b := ih _ _ _ _ _ _ _ h
            exact ⟨Nat.le_trans a.1 b.1, Nat.le_trans a.2 b.2⟩
          · cases h
end AMS
end
section
/-! ===== the pure machine's run is a run of the claim's machine ===== -/
section AME
variable {p : Program} {l : Launch} {e : Env} {R : Room} {s : State} {m : MethodId} {args : Array Value} {below : List Frame} {meth : Method} {c : Code} {Q : State → Prop}
variable {P : am_Pg} {B : am_Nm} {D : va_G} {Z : am_Z} {mi : Nat} {k0 n0 : Nat} {pc pc' len : Nat} {lv lv' : am_L} {st st' : List Value} {M M' : am_M}
/-- a world before a call, behind it -/
def am_Pc (P : am_Pg) (B : am_Nm) (D : va_G) (Z : am_Z) (as_ : List Value) (M : am_M) : Array Value → State → Prop :=
  va_Pc (as_.map (am_tr Z.2.1 Z.2.2)) (fun U => am_R D (am_kl B) Z M U.heap ∧ va_K D (am_kl B) (am_tys B Z) U ∧ (∀ w ∈ am_N B, va_Nw w U) ∧ am_Kc P B Z U U.heap)
def am_Qc (B : am_Nm) (D : va_G) (Z : am_Z) (v : Option Value) (M : am_M) : Array Value → State → Outcome → State → Prop :=
  fun _ st oc t => (oc = .returned (v.map (am_tr Z.2.1 Z.2.2)) ∧ am_R D (am_kl B) Z M t.heap) ∧ va_F (am_A Z) st t
theorem am_Nw_same {w : Cond} (hw : am_nw_ w = true) {u U : State} (h : u.vm = U.vm) (hZ : va_Nw w u) : va_Nw w U := by
  cases w <;> first | (cases hw; done) | exact va_Nw.same rfl h hZ | (rename_i ty; cases ty <;> first | (cases hw; done) | exact va_AO.moved (h ▸ Vm.Alike.refl _) hZ)
theorem am_Nw_warm {w : Cond} (hw : am_nw_ w = true) {s U : State} (hW : s.WarmedH U.vm) (hZ : va_Nw w s) : va_Nw w U := by
  cases w <;> first | (cases hw; done) | exact va_Nw.warmF hW hZ | exact va_Nw.warmM hW hZ | exact va_Nw.warmC hW hZ | (rename_i ty; cases ty <;> first | (cases hw; done) | exact va_AO.moved hW.alike hZ)
theorem am_Pc_blind (G : am_Gd P B) (as_ : List Value) (M : am_M) : FrameBlind (am_Pc P B D Z as_ M) := by
  intro a U g mk h
  obtain ⟨h1, h2, h3, h4, h5⟩ := h
  exact ⟨h1, h2, va_K.moved (u := U) (U := U.calling g mk a) (Vm.Alike.refl U.vm) h3, fun w hw => am_Nw_same (u := U) (U := U.calling g mk a) (G.2.2.2.2.2.2.2.2.2.2.2.2.1 w hw) rfl (h4 w hw), am_Kc.moved (u := U) (U := U.calling g mk a) (Vm.Alike.refl U.vm) h5⟩
theorem am_Pc_here (G : am_Gd P B) (hC : am_X P B D Z p R s m args meth c mi) {as_ : List Value} {H : Heap} {locs : List Loc} (hR : am_R D (am_kl B) Z M H) (hS : va_S (am_A Z) s.heap H locs) :
    ∀ U : State, U.heap = H → s.WarmedH U.vm → am_Pc P B D Z as_ M (as_.map (am_tr Z.2.1 Z.2.2)).toArray U := by
  obtain ⟨-, -, -, -, -, -, -, -, hNw, hK, hKc, -⟩ := hC
  intro U hU hW
  refine ⟨rfl, by rw [hU]; exact hR, va_K.moved hW.alike hK, fun w hw => am_Nw_warm (G.2.2.2.2.2.2.2.2.2.2.2.2.1 w hw) hW (hNw w hw), ?_⟩
  rw [hU]
  exact (hKc.moved hW.alike).kept hS.1 (fun a h1 h2 => hS.2.1 a h1 h2)
/-- a method's end -/
theorem am_end {ins : Instr} {v : Option Value} {H : Heap} {locs : List Loc} {cells slots : Nat} {ls : Array Slot} {Qc : Array Value → State → Outcome → State → Prop} {free : Addr → Prop} (G : am_Gd P B) (hx : p.tables.exec = Jvm.exec) (hb : c.code = am_cc B mi) (hr : meth.sig.returnType = am_ret P mi) (hlk : meth.locks = false)
    (hcd : am_code P mi pc = some ins) (h : am_rt P mi ins st = some v) (hq : ∀ t : State, t.heap = H → s.WarmedH t.vm → Qc args s (.returned (v.map (am_tr Z.2.1 Z.2.2))) t) (hf : ∀ q ∈ locs, free q.base) :
    W p l e R s m args below meth c H locs cells slots (MQ below Qc args s cells slots free) (F0 m pc ls (st.map (am_tr Z.2.1 Z.2.2))) := by
  obtain ⟨len, hdg, hlen⟩ := G.1 mi pc ins hcd
  unfold am_rt at h
  split at h
  · split at h
    · rename_i hn
      cases h
      exact W.vret hx hb (hr.trans hn) hq hf (am_lq hlen hdg rfl) hlk
    · cases h
  · split at h
    · rename_i hn
      cases h
      exact W.iret hx hb (hr.trans hn) hq hf (am_lq hlen hdg rfl) hlk
    · rename_i x _ hn
      by_cases hc : x = 0 ∨ x = 1
      · rw [if_pos hc] at h
        cases h
        exact W.zret hx hb (hr.trans hn) (by rcases hc with rfl | rfl <;> rfl) hq hf (am_lq hlen hdg rfl) hlk
      · rw [if_neg hc] at h; cases h
    · cases h
  · split at h
    · rename_i hn
      cases h
      exact W.lret hx hb (hr.trans hn) hq hf (am_lq hlen hdg rfl) hlk
    · cases h
  · split at h
    · rename_i hn
      cases h
      exact W.fret hx hb (hr.trans hn) hq hf (am_lq hlen hdg rfl) hlk
    · cases h
  · split at h
    · rename_i hn
      cases h
      exact W.dret hx hb (hr.trans hn) hq hf (am_lq hlen hdg rfl) hlk
    · cases h
  · split at h
    · rename_i hn
      cases h
      exact W.aret hx hb (hr.trans hn) (Or.inl ⟨_, rfl⟩) (Or.inr ⟨_, rfl⟩) hq hf (am_lq hlen hdg rfl) hlk
    · cases h
  · cases h
/-- how a run ends: with this answer, in this memory -/
def am_E (p : Program) (l : Launch) (e : Env) (R : Room) (s : State) (m : MethodId) (args : Array Value) (below : List Frame) (meth : Method) (c : Code) (Q : State → Prop) (P : am_Pg) (B : am_Nm) (D : va_G) (Z : am_Z) (mi k0 n0 : Nat) (v : Option Value) (M : am_M) : Prop :=
  ∀ (H : Heap) (locs : List Loc) (ls : Array Slot) (pc : Nat) (ins : Instr) (st : List Value), am_code P mi pc = some ins → am_rt P mi ins st = some v → am_R D (am_kl B) Z M H → va_S (am_A Z) s.heap H locs →
    W p l e R s m args below meth c H locs (M.1.length - k0) (M.2 - n0) Q (F0 m pc ls (st.map (am_tr Z.2.1 Z.2.2)))
/-- the sum of the words on a stack -/
theorem am_sl_len (Z : am_Z) (vs : List Value) : (lg_sl (vs.map (am_tr Z.2.1 Z.2.2))).length = am_sum vs := by
  induction vs with
  | nil => rfl
  | cons v r ih =>
    have e : lg_sl ((v :: r).map (am_tr Z.2.1 Z.2.2)) = (if (am_tr Z.2.1 Z.2.2 v).category = 2 then [.val (am_tr Z.2.1 Z.2.2 v), .second] else [.val (am_tr Z.2.1 Z.2.2 v)]) ++ lg_sl (r.map (am_tr Z.2.1 Z.2.2)) := rfl
    rw [e, List.length_append, ih]
    have e2 : am_sum (v :: r) = v.category + am_sum r := by simp [am_sum]
    rw [e2, am_cat]
    rcases lv_cat v with h | h
    · rw [h]; rfl
    · rw [h]; rfl
theorem am_sum_rev (vs : List Value) : am_sum vs.reverse = am_sum vs := by
  unfold am_sum
  rw [List.map_reverse, List.sum_reverse]
/-- a contract out of a body, by the method's own name -/
theorem am_ofW {y : MethodName} {ws ws' : List Cond} {rm : Room} {Pc : Array Value → State → Prop} {Qc : Array Value → State → Outcome → State → Prop} {mc ms : Nat} {free : Addr → Prop} {cc : ByteArray} {maxL : Nat} {ret : Option FieldType}
    (hy : plainFor y = true) (hw : ws = Cond.code y cc maxL ret :: ws')
    (body : ∀ p e s m args below meth c s₁, BodyLoose p l y (headSpec ws rm) cc maxL ret e s m args below meth c s₁ → c.maxLocals = maxL → Pc args s →
      W p l e (headSpec ws rm).room s m args below meth c s.heap [] 0 0 (MQ below Qc args s mc ms free) (entryFrame m args maxL)) : Met l y ws rm Pc Qc mc ms free := by
  refine MetFree.of_bodySF (code := cc) (maxLocals := maxL) (ret := ret) hy ?_ ?_
  · intro args s m h hn
    obtain ⟨meth, c, h1, h2, h3, h4, h5, h6, -, -⟩ := Cond.code_spec hn (atoms_spec (ws := ws) h _ (by rw [hw]; exact List.mem_cons_self))
    exact ⟨meth, c, h1, h2, h3, h4, h5, h6⟩
  · intro p e s m args below meth c s₁ Bd hml hP _
    have hh0 : s₁.heap = s.heap := by rw [Bd.state]; rfl
    obtain ⟨t, a1, o, b1, b2, b3⟩ := body p e s m args below meth c s₁ Bd hml hP s₁ hh0 (Stand.of_body Bd)
    exact ⟨t, o, a1, b1, b2, ⟨b3.1, b3.2⟩⟩
/-- the contract of a method, out of its run -/
theorem am_met (G : am_Gd P B) (l : Launch) (D : va_G) (Z : am_Z) {f mj kd i n : Nat} (hcal : am_cal P mi i = some (kd, mj, n)) {as_ : List Value} {v : Option Value}
    (ih : ∀ {p : Program} {e : Env} {R : Room} {s : State} {m : MethodId} {args : Array Value} {below : List Frame} {meth : Method} {c : Code} {Q : State → Prop}, am_X P B D Z p R s m args meth c mj → M'.1.length - M.1.length ≤ R.cells → M'.2 - M.2 ≤ R.slots → am_E p l e R s m args below meth c Q P B D Z mj M.1.length M.2 v M' → am_V p l e R s m args below meth c Q P B D Z mj M.1.length M.2 0 (lv_args 0 as_) [] M)
    (hfit : am_sum as_ ≤ am_mxl P mj) :
    Met l (am_y B mj) (Cond.code (am_y B mj) (am_cc B mj) (am_mxl P mj) (am_ret P mj) :: am_W B) ({ frames := am_rF B mj, cells := M'.1.length - M.1.length, slots := M'.2 - M.2, locals := am_rL B mj }) (am_Pc P B D Z as_ M) (am_Qc B D Z v M') (M'.1.length - M.1.length) (M'.2 - M.2) (am_A Z) := by
  obtain ⟨-, -, -, -, gcls, gpl, -⟩ := G.2.2.2.2.2.2.2.2.2.2.1 _ _ _ _ _ hcal
  refine am_ofW (cc := am_cc B mj) (maxL := am_mxl P mj) (ret := am_ret P mj) gpl rfl ?_
  intro p e s m args below meth c s₁ Bd hml hv
  obtain ⟨rfl, hR, hK, hN, hKc⟩ := hv
  have hts := atoms_spec (ws := Cond.code (am_y B mj) (am_cc B mj) (am_mxl P mj) (am_ret P mj) :: am_W B) Bd.pre
  have hX : am_X P B D Z p ({ frames := am_rF B mj, cells := M'.1.length - M.1.length, slots := M'.2 - M.2, locals := am_rL B mj } : Room) s m (as_.map (am_tr Z.2.1 Z.2.2)).toArray meth c mj :=
    ⟨Bd.exec, Bd.bytes, hml, Bd.returns, Bd.notSynchronized, gcls ▸ findClass_of_methodNamed Bd.named, fun h => (name_of_methodNamed Bd.named Bd.method).1.trans (G.2.2.2.2.2.2.2.2.2.2.2.2.2 mj h), fun w hw => hts w (List.mem_cons_of_mem _ hw), hN, hK, hKc, by rw [hR.2]; exact Nat.le_add_right _ _, Nat.le_refl _, Nat.le_refl _⟩
  have hl := lv_entry (as_.map (am_tr Z.2.1 Z.2.2)) (n := am_mxl P mj) (by rw [am_sl_len]; exact hfit)
  rw [lg_entry_eq]
  generalize (lg_sl (as_.map (am_tr Z.2.1 Z.2.2)) ++ List.replicate (am_mxl P mj - (lg_sl (as_.map (am_tr Z.2.1 Z.2.2))).length) Slot.unset).toArray = ls at hl ⊢
  rw [am_ltA] at hl
  have K := ih (p := p) (e := e) (below := below) (Q := MQ below (am_Qc B D Z v M') (as_.map (am_tr Z.2.1 Z.2.2)).toArray s (M'.1.length - M.1.length) (M'.2 - M.2) (am_A Z)) hX (Nat.le_refl _) (Nat.le_refl _)
    (fun H locs ls pc ins st hcd hrt hR' hS' => am_end G Bd.exec Bd.bytes Bd.returns Bd.notSynchronized hcd hrt (fun t ht hW => ⟨⟨rfl, by rw [ht]; exact hR'⟩, hS'.F ht⟩) hS'.2.2)
    s.heap [] ls hR va_S.rf hl (Nat.le_refl _) (Nat.le_refl _)
  rw [Nat.sub_self, Nat.sub_self] at K
  exact K
/-- behind a call -/
theorem am_back {H : Heap} {locs : List Loc} {ls : Array Slot} {st0 rest : List Value} {v : Option Value} {a : Array Value}
    (hr : va_Run p l e R s m args below meth c H locs (M.1.length - k0) (M.2 - n0) (M'.1.length - M.1.length) (M'.2 - M.2) (F0 m pc ls st0) (rest.map (am_tr Z.2.1 Z.2.2)) (am_Qc B D Z v M' a) (am_A Z)) (hS : va_S (am_A Z) s.heap H locs) (hk : k0 ≤ M.1.length) (hn : n0 ≤ M.2) (h1 : M.1.length ≤ M'.1.length) (h2 : M.2 ≤ M'.2)
    (hl : lv_has ls (am_mxl P mi) (am_lt Z lv)) (hV : am_V p l e R s m args below meth c Q P B D Z mi k0 n0 (pc + 3) lv (v.toList ++ rest) M') :
    W p l e R s m args below meth c H locs (M.1.length - k0) (M.2 - n0) Q (F0 m pc ls st0) := by
  intro T hT X
  obtain ⟨v', s₀, t, T', L, h0, X', hL, e1, e2, ⟨⟨hv, hR⟩, hz, hkp⟩, go⟩ := hr T hT X
  cases hv
  rw [h0] at hz hkp
  rw [← e1] at hz hkp hR
  have hS' : va_S (am_A Z) s.heap T'.heap (locs ++ L) := ⟨Nat.le_trans hS.1 hz, fun q q1 q2 => (hkp q (Nat.lt_of_lt_of_le q1 hS.1) q2).trans (hS.2.1 q q1 q2), fun q hq => (List.mem_append.mp hq).elim (hS.2.2 q) (hL q)⟩
  have K := hV T'.heap (locs ++ L) ls hR hS' hl (Nat.le_trans hk h1) (Nat.le_trans hn h2)
  rw [show M'.1.length - k0 = M.1.length - k0 + (M'.1.length - M.1.length) by omega, show M'.2 - n0 = M.2 - n0 + (M'.2 - M.2) by omega] at K
  rw [show (v.toList ++ rest).map (am_tr Z.2.1 Z.2.2) = (v.map (am_tr Z.2.1 Z.2.2)).toList ++ rest.map (am_tr Z.2.1 Z.2.2) by cases v <;> simp] at K
  obtain ⟨t2, a1, b1⟩ := K T' rfl X'
  exact ⟨t2, go t2 a1, b1⟩
set_option maxHeartbeats 4000000 in
/-- THE PURE MACHINE'S RUN IS A RUN OF THE CLAIM'S MACHINE -/
theorem am_ev_sound (G : am_Gd P B) (l : Launch) (D : va_G) (Z : am_Z) : ∀ (f mi pc : Nat) (lv : am_L) (st : List Value) (M : am_M) (v : Option Value) (M' : am_M), am_ev P f mi pc lv st M = some (v, M') →
    ∀ {p : Program} {e : Env} {R : Room} {s : State} {m : MethodId} {args : Array Value} {below : List Frame} {meth : Method} {c : Code} {Q : State → Prop} {k0 n0 : Nat}, am_X P B D Z p R s m args meth c mi → M'.1.length - k0 ≤ R.cells → M'.2 - n0 ≤ R.slots →
    am_E p l e R s m args below meth c Q P B D Z mi k0 n0 v M' → am_V p l e R s m args below meth c Q P B D Z mi k0 n0 pc lv st M := by
  intro f
  induction f with
  | zero => intro mi pc lv st M v M' h; cases h
  | succ f ih =>
    intro mi pc lv st M v M' h p e R s m args below meth c Q k0 n0 hX hrc hrs hE
    unfold am_ev at h
    split at h
    · cases h
    · rename_i ins hcd
      split at h
      · rename_i mj n hcl
        obtain ⟨hrcv, h⟩ := am_bif h
        split at h
        · rename_i v1 M1 h1
          have mo1 := am_mono _ _ _ _ _ _ _ _ h1
          have mo2 := am_mono _ _ _ _ _ _ _ _ h
          have hV2 := ih _ _ _ _ _ _ _ h (below := below) hX hrc hrs hE
          obtain ⟨len, hdg, hlen⟩ := G.1 mi pc ins hcd
          have hX' := hX
          obtain ⟨hx, hb, hml, hr, hlk, hown, hin0, hts, hNw, hK, hKc, hbs, hrF, hrL⟩ := hX'
          simp only [am_rc, Bool.and_eq_true, decide_eq_true_eq] at hrcv
          obtain ⟨hn, ⟨hs8, hfit⟩, hrcv⟩ := hrcv
          have hsum : am_sum (st.take n).reverse ≤ am_mxl P mj := by rw [am_sum_rev]; exact hfit
          have hlenA : (st.take n).reverse.length = n := by rw [List.length_reverse, List.length_take]; omega
          have hsp : ∀ as_ : List Value, as_ = (st.take n).reverse → st = as_.reverse ++ st.drop n := fun as_ he => by rw [he, List.reverse_reverse, List.take_append_drop]
          generalize hg : (st.take n).reverse = as_ at h1 hsum hlenA hrcv
          have hst := hsp as_ hg.symm
          generalize hrest : st.drop n = rest at hst h hV2 hs8
          have hfc : M.1.length - k0 + (M1.1.length - M.1.length) ≤ R.cells ∧ M.2 - n0 + (M1.2 - M.2) ≤ R.slots → True := fun _ => trivial
          intro H locs ls hR hS hl hk hn0
          have hfR : M.1.length - k0 + (M1.1.length - M.1.length) ≤ R.cells ∧ M.2 - n0 + (M1.2 - M.2) ≤ R.slots := by omega
          have hpre := am_Pc_here (as_ := as_) G hX hR hS
          have hSfix : CallFix p m c (am_cc B mi) (am_mxl P mi) s args (am_W B) (am_cn B (am_own P mi)) := ⟨hx, hb, hml, hown, hts⟩
          have hW8 : 2 * (F0 m pc ls (st.map (am_tr Z.2.1 Z.2.2))).monitorRoom + ((rest.map (am_tr Z.2.1 Z.2.2)).map fun v => v.category).sum ≤ 8 := by
            rw [am_sumT]
            show 2 * 0 + am_sum rest ≤ 8
            omega
          unfold am_cl at hcl
          split at hcl
          · rename_i i
            split at hcl
            · rename_i r hcal
              cases hcl
              have hM := am_met (mi := mi) G l D Z (f := f) hcal (as_ := as_) (v := v1) (M := M) (M' := M1) (fun hXj a b hEj => ih _ _ _ _ _ _ _ h1 hXj a b hEj) hsum
              obtain ⟨g1, g2, gc, gi, gcls, gpl, gd, gl, gs, -⟩ := G.2.2.2.2.2.2.2.2.2.2.1 _ _ _ _ _ hcal
              have hinit : (Cond.initialized (am_y B mj).cls).before args s = true := hts _ gi
              have hGd : GoodIn (am_W B) (Cond.code (am_y B mj) (am_cc B mj) (am_mxl P mj) (am_ret P mj) :: am_W B) := fun w hw => by
                rcases List.mem_cons.mp hw with rfl | hw
                · exact ⟨gc, good_of_word (G.2.2.2.2.2.2.2.2.2.2.2.1 _ gc)⟩
                · exact ⟨hw, good_of_word (G.2.2.2.2.2.2.2.2.2.2.2.1 _ hw)⟩
              have hRm : am_rF B mj + 1 ≤ R.frames ∧ 8 + (am_mxl P mj + 11) + am_rL B mj ≤ R.locals := by omega
              have hstk : (F0 m pc ls (st.map (am_tr Z.2.1 Z.2.2))).stack = (as_.map (am_tr Z.2.1 Z.2.2)).reverse ++ rest.map (am_tr Z.2.1 Z.2.2) := by
                show st.map _ = _
                rw [hst, List.map_append, List.map_reverse]
              have gd' : (am_y B mj).cls ≠ "java/lang/invoke/MethodHandle" ∧ (am_y B mj).cls ≠ "java/lang/invoke/VarHandle" ∧ (parseMethodDescriptor (am_y B mj).desc).map (fun d => d.parameters.length) = some n := gd
              rcases gl with hw | ⟨host, hw⟩
              · exact am_back (va_runS hSfix hM ⟨callB_of n hts hGd rfl rfl rfl hinit (hts _ hw) gd' hRm, hts _ (gs rfl)⟩ ⟨am_Pc_blind G as_ M, hpre⟩ rfl (by rw [List.length_map]; exact hlenA) hl.1 hstk hW8 (am_lq hlen hdg rfl) hfR) hS hk hn0 mo1.1 mo1.2 hl hV2
              · exact am_back (va_runSN hSfix hM ⟨va_cnB n hts hGd rfl rfl rfl (hNw _ hw) hinit gd' hRm, hts _ (gs rfl), trivial⟩ ⟨am_Pc_blind G as_ M, hpre⟩ rfl (by rw [List.length_map]; exact hlenA) hl.1 hstk hW8 (am_lq hlen hdg rfl) hfR) hS hk hn0 mo1.1 mo1.2 hl hV2
            · cases hcl
          · rename_i i
            split at hcl
            · rename_i r hcal
              cases hcl
              have hM := am_met (mi := mi) G l D Z (f := f) hcal (as_ := as_) (v := v1) (M := M) (M' := M1) (fun hXj a b hEj => ih _ _ _ _ _ _ _ h1 hXj a b hEj) hsum
              obtain ⟨g1, g2, gc, gi, gcls, gpl, gd, gl, -, gs, -⟩ := G.2.2.2.2.2.2.2.2.2.2.1 _ _ _ _ _ hcal
              obtain ⟨gn, gs1, gs2, q, gq⟩ := gs rfl
              have hinit : (Cond.initialized (am_y B mj).cls).before args s = true := hts _ gi
              have hGd : GoodIn (am_W B) (Cond.code (am_y B mj) (am_cc B mj) (am_mxl P mj) (am_ret P mj) :: am_W B) := fun w hw => by
                rcases List.mem_cons.mp hw with rfl | hw
                · exact ⟨gc, good_of_word (G.2.2.2.2.2.2.2.2.2.2.2.1 _ gc)⟩
                · exact ⟨hw, good_of_word (G.2.2.2.2.2.2.2.2.2.2.2.1 _ hw)⟩
              have hRm : am_rF B mj + 1 ≤ R.frames ∧ 8 + (am_mxl P mj + 11) + am_rL B mj ≤ R.locals := by omega
              replace hrcv : am_rv P mj as_ M = true := hrcv
              unfold am_rv at hrcv
              split at hrcv
              · rename_i a as0
                split at hrcv
                · rename_i cj fs ho
                  have hcj : cj = am_own P mj := of_decide_eq_true hrcv
                  subst hcj
                  have hstk : (F0 m pc ls (st.map (am_tr Z.2.1 Z.2.2))).stack = (as0.map (am_tr Z.2.1 Z.2.2)).reverse ++ .ref (Z.2.2 + a) :: rest.map (am_tr Z.2.1 Z.2.2) := by
                    show st.map _ = _
                    rw [hst, List.map_append, List.map_reverse, List.map_cons, List.reverse_cons, List.append_assoc]
                    rfl
                  have gd' : (am_y B mj).cls ≠ "java/lang/invoke/MethodHandle" ∧ (am_y B mj).cls ≠ "java/lang/invoke/VarHandle" ∧ (parseMethodDescriptor (am_y B mj).desc).map (fun d => d.parameters.length) = some (n - 1) := gd
                  have hla : (as0.map (am_tr Z.2.1 Z.2.2)).length = n - 1 := by rw [List.length_map]; rw [List.length_cons] at hlenA; omega
                  have hrcvr := va_recv hK hR.1 gq (am_ws_get (Z := Z) ho)
                  have hcC : q.1 = (am_y B mj).cls := by rw [gcls]; exact (G.2.1 _ _ gq).1.symm
                  rw [hcC] at hrcvr
                  rcases gl with hw | ⟨host, hw⟩
                  · exact am_back (va_runV hSfix hM ⟨callB_of (n - 1) hts hGd rfl rfl rfl hinit (hts _ hw) gd' hRm, hts _ gs1, hts _ gs2⟩ ⟨am_Pc_blind G _ M, hrcvr, hpre⟩ rfl hla hl.1 hstk hW8 (am_lq hlen hdg rfl) hfR) hS hk hn0 mo1.1 mo1.2 hl hV2
                  · exact am_back (va_runVN hSfix hM ⟨va_cnB (n - 1) hts hGd rfl rfl rfl (hNw _ hw) hinit gd' hRm, hts _ gs1, hts _ gs2⟩ ⟨am_Pc_blind G _ M, hrcvr, hpre⟩ rfl hla hl.1 hstk hW8 (am_lq hlen hdg rfl) hfR) hS hk hn0 mo1.1 mo1.2 hl hV2
                · cases hrcv
              · cases hrcv
            · cases hcl
          · rename_i i
            split at hcl
            · rename_i r hcal
              cases hcl
              have hM := am_met (mi := mi) G l D Z (f := f) hcal (as_ := as_) (v := v1) (M := M) (M' := M1) (fun hXj a b hEj => ih _ _ _ _ _ _ _ h1 hXj a b hEj) hsum
              obtain ⟨g1, g2, gc, gi, gcls, gpl, gd, gl, -, -, gs⟩ := G.2.2.2.2.2.2.2.2.2.2.1 _ _ _ _ _ hcal
              obtain ⟨gn, gs1, gs2, gs3⟩ := gs rfl
              have hinit : (Cond.initialized (am_y B mj).cls).before args s = true := hts _ gi
              have hGd : GoodIn (am_W B) (Cond.code (am_y B mj) (am_cc B mj) (am_mxl P mj) (am_ret P mj) :: am_W B) := fun w hw => by
                rcases List.mem_cons.mp hw with rfl | hw
                · exact ⟨gc, good_of_word (G.2.2.2.2.2.2.2.2.2.2.2.1 _ gc)⟩
                · exact ⟨hw, good_of_word (G.2.2.2.2.2.2.2.2.2.2.2.1 _ hw)⟩
              have hRm : am_rF B mj + 1 ≤ R.frames ∧ 8 + (am_mxl P mj + 11) + am_rL B mj ≤ R.locals := by omega
              rw [gs3] at hM hGd
              replace hrcv : am_rs as_ = true := hrcv
              unfold am_rs at hrcv
              split at hrcv
              · rename_i a as0
                have hstk : (F0 m pc ls (st.map (am_tr Z.2.1 Z.2.2))).stack = (as0.map (am_tr Z.2.1 Z.2.2)).reverse ++ .ref (Z.2.2 + a) :: rest.map (am_tr Z.2.1 Z.2.2) := by
                  show st.map _ = _
                  rw [hst, List.map_append, List.map_reverse, List.map_cons, List.reverse_cons, List.append_assoc]
                  rfl
                have gd' : (am_y B mj).cls ≠ "java/lang/invoke/MethodHandle" ∧ (am_y B mj).cls ≠ "java/lang/invoke/VarHandle" ∧ (parseMethodDescriptor (am_y B mj).desc).map (fun d => d.parameters.length) = some (n - 1) := gd
                have hla : (as0.map (am_tr Z.2.1 Z.2.2)).length = n - 1 := by rw [List.length_map]; rw [List.length_cons] at hlenA; omega
                rcases gl with hw | ⟨host, hw⟩
                · exact am_back (va_runI hSfix hM ⟨callB_of (n - 1) hts hGd rfl rfl rfl hinit (hts _ hw) gd' hRm, gs1, hts _ gs2⟩ ⟨am_Pc_blind G _ M, hpre⟩ rfl hla hl.1 hstk hW8 (am_lq hlen hdg rfl) hfR) hS hk hn0 mo1.1 mo1.2 hl hV2
                · exact am_back (va_runIN hSfix hM ⟨va_cnB (n - 1) hts hGd rfl rfl rfl (hNw _ hw) hinit gd' hRm, gs1, hts _ gs2⟩ ⟨am_Pc_blind G _ M, hpre⟩ rfl hla hl.1 hstk hW8 (am_lq hlen hdg rfl) hfR) hS hk hn0 mo1.1 mo1.2 hl hV2
              · cases hrcv
            · cases hcl
          · cases hcl
        · cases h
      · split at h
        · rename_i v1 hrt
          cases h
          intro H locs ls hR hS hl hk hn
          exact hE H locs ls pc ins st hcd hrt hR hS
        · split at h
          · rename_i pc1 lv1 st1 M1 h1
            have mo2 := am_mono _ _ _ _ _ _ _ _ h
            exact am_step G hcd hX h1 (by omega) (by omega) (ih _ _ _ _ _ _ _ h hX hrc hrs hE)
          · cases h
end AME
end
section
/-! ===== printed by wip/gen/prog.py out of the claim's own files: the program as data ===== -/
def am_fd {α : Type} : List (Nat × α) → Nat → Option α
  | [], _ => none
  | q :: r, k => bif Nat.beq q.1 k then some q.2 else am_fd r k
theorem am_fdm {α : Type} {l : List (Nat × α)} {k : Nat} {v : α} (h : am_fd l k = some v) : (k, v) ∈ l := by
  induction l with
  | nil => cases h
  | cons q r ih =>
    unfold am_fd at h
    cases hb : Nat.beq q.1 k with
    | true =>
      rw [hb] at h
      have hk := Nat.eq_of_beq_eq_true hb
      cases h
      subst hk
      exact List.mem_cons_self
    | false =>
      rw [hb] at h
      exact List.mem_cons_of_mem _ (ih h)
/-- two levels, 18 each -/
def am_g2 {α : Type} (l : List (List α)) (d : α) (k : Nat) : α := (l.getD (k / 18) []).getD (k % 18) d
theorem am_g2m {α : Type} (l : List (List α)) (d : α) (k : Nat) : am_g2 l d k = d ∨ ∃ r ∈ l, am_g2 l d k ∈ r := by
  unfold am_g2
  rw [List.getD_eq_getElem?_getD, List.getD_eq_getElem?_getD]
  cases h1 : l[k / 18]? with
  | none => simp
  | some r =>
    simp only [Option.getD_some]
    cases h2 : r[k % 18]? with
    | none => simp
    | some x => exact Or.inr ⟨r, List.mem_of_getElem? h1, by simpa using List.mem_of_getElem? h2⟩
/-- PackWatchLaw.law([I)Z -/
def pw_t0 : List (Nat × Instr) := [(0, .new 7), (3, .dup), (4, .invokespecial 9), (7, .astore_n 1), (8, .new 10), (11, .dup), (12, .invokespecial 12), (15, .astore_n 2), (16, .iconst 0), (17, .istore_n 3), (18, .iload_n 3), (19, .aload_n 0), (20, .arraylength), (21, .bipush 6), (23, .isub), (24, .if_icmp .gt 2012), (27, .aload_n 0), (28, .iload_n 3), (29, .iaload), (30, .bipush 127), (32, .iand), (33, .tableswitch 1997 0 67 #[287, 330, 363, 396, 429, 452, 465, 478, 501, 534, 567, 580, 613, 636, 669, 748, 761, 774, 787, 800, 823, 846, 879, 912, 945, 978, 1011, 1044, 1067, 1080, 1103, 1136, 1159, 1202, 1225, 1238, 1251, 1264, 1287, 1310, 1353, 1386, 1399, 1422, 1445, 1468, 1491, 1514, 1527, 1550, 1573, 1606, 1639, 1662, 1675, 1688, 1721, 1764, 1787, 1800, 1823, 1856, 1889, 1912, 1935, 1958, 1971, 1984]), (320, .aload_n 1), (321, .aload_n 0), (322, .iload_n 3), (323, .iconst 1), (324, .iadd), (325, .iaload), (326, .aload_n 0), (327, .iload_n 3), (328, .iconst 2), (329, .iadd), (330, .iaload), (331, .aload_n 0), (332, .iload_n 3), (333, .iconst 3), (334, .iadd), (335, .iaload), (336, .invokevirtual 13), (339, .pop), (340, .aload_n 2), (341, .aload_n 0), (342, .iload_n 3), (343, .iconst 1), (344, .iadd), (345, .iaload), (346, .aload_n 0), (347, .iload_n 3), (348, .iconst 2), (349, .iadd), (350, .iaload), (351, .aload_n 0), (352, .iload_n 3), (353, .iconst 3), (354, .iadd), (355, .iaload), (356, .invokevirtual 17), (359, .pop), (360, .goto 1670), (363, .aload_n 1), (364, .aload_n 0), (365, .iload_n 3), (366, .iconst 1), (367, .iadd), (368, .iaload), (369, .aload_n 0), (370, .iload_n 3), (371, .iconst 2), (372, .iadd), (373, .iaload), (374, .invokevirtual 18), (377, .pop), (378, .aload_n 2), (379, .aload_n 0), (380, .iload_n 3), (381, .iconst 1), (382, .iadd), (383, .iaload), (384, .aload_n 0), (385, .iload_n 3), (386, .iconst 2), (387, .iadd), (388, .iaload), (389, .invokevirtual 22), (392, .pop), (393, .goto 1637), (396, .aload_n 1), (397, .aload_n 0), (398, .iload_n 3), (399, .iconst 1), (400, .iadd), (401, .iaload), (402, .aload_n 0), (403, .iload_n 3), (404, .iconst 2), (405, .iadd), (406, .iaload), (407, .invokevirtual 23), (410, .pop), (411, .aload_n 2), (412, .aload_n 0), (413, .iload_n 3), (414, .iconst 1), (415, .iadd), (416, .iaload), (417, .aload_n 0), (418, .iload_n 3), (419, .iconst 2), (420, .iadd), (421, .iaload), (422, .invokevirtual 26), (425, .pop), (426, .goto 1604), (429, .aload_n 1), (430, .aload_n 0), (431, .iload_n 3), (432, .iconst 1), (433, .iadd), (434, .iaload), (435, .aload_n 0), (436, .iload_n 3), (437, .iconst 2), (438, .iadd), (439, .iaload), (440, .invokevirtual 27), (443, .pop), (444, .aload_n 2), (445, .aload_n 0), (446, .iload_n 3), (447, .iconst 1), (448, .iadd), (449, .iaload), (450, .aload_n 0), (451, .iload_n 3), (452, .iconst 2), (453, .iadd), (454, .iaload), (455, .invokevirtual 30), (458, .pop), (459, .goto 1571), (462, .aload_n 1), (463, .aload_n 0), (464, .iload_n 3), (465, .iconst 1), (466, .iadd), (467, .iaload), (468, .invokevirtual 31), (471, .pop), (472, .aload_n 2), (473, .aload_n 0), (474, .iload_n 3), (475, .iconst 1), (476, .iadd), (477, .iaload), (478, .invokevirtual 35), (481, .pop), (482, .goto 1548), (485, .aload_n 1), (486, .invokevirtual 36), (489, .pop), (490, .aload_n 2), (491, .invokevirtual 40), (494, .pop), (495, .goto 1535), (498, .aload_n 1), (499, .invokevirtual 41), (502, .pop), (503, .aload_n 2), (504, .invokevirtual 44), (507, .pop), (508, .goto 1522), (511, .aload_n 1), (512, .aload_n 0), (513, .iload_n 3), (514, .iconst 1), (515, .iadd), (516, .iaload), (517, .invokevirtual 45), (520, .pop), (521, .aload_n 2), (522, .aload_n 0), (523, .iload_n 3), (524, .iconst 1), (525, .iadd), (526, .iaload), (527, .invokevirtual 49), (530, .pop), (531, .goto 1499), (534, .aload_n 1), (535, .aload_n 0), (536, .iload_n 3), (537, .iconst 1), (538, .iadd), (539, .iaload), (540, .aload_n 0), (541, .iload_n 3), (542, .iconst 2), (543, .iadd), (544, .iaload), (545, .invokevirtual 50), (548, .pop), (549, .aload_n 2), (550, .aload_n 0), (551, .iload_n 3), (552, .iconst 1), (553, .iadd), (554, .iaload), (555, .aload_n 0), (556, .iload_n 3), (557, .iconst 2), (558, .iadd), (559, .iaload), (560, .invokevirtual 53), (563, .pop), (564, .goto 1466), (567, .aload_n 1), (568, .aload_n 0), (569, .iload_n 3), (570, .iconst 1), (571, .iadd), (572, .iaload), (573, .aload_n 0), (574, .iload_n 3), (575, .iconst 2), (576, .iadd), (577, .iaload), (578, .invokevirtual 54), (581, .pop), (582, .aload_n 2), (583, .aload_n 0), (584, .iload_n 3), (585, .iconst 1), (586, .iadd), (587, .iaload), (588, .aload_n 0), (589, .iload_n 3), (590, .iconst 2), (591, .iadd), (592, .iaload), (593, .invokevirtual 58), (596, .pop), (597, .goto 1433), (600, .aload_n 1), (601, .invokevirtual 59), (604, .pop), (605, .aload_n 2), (606, .invokevirtual 63), (609, .pop), (610, .goto 1420), (613, .aload_n 1), (614, .aload_n 0), (615, .iload_n 3), (616, .iconst 1), (617, .iadd), (618, .iaload), (619, .aload_n 0), (620, .iload_n 3), (621, .iconst 2), (622, .iadd), (623, .iaload), (624, .invokevirtual 64), (627, .pop), (628, .aload_n 2), (629, .aload_n 0), (630, .iload_n 3), (631, .iconst 1), (632, .iadd), (633, .iaload), (634, .aload_n 0), (635, .iload_n 3), (636, .iconst 2), (637, .iadd), (638, .iaload), (639, .invokevirtual 67), (642, .pop), (643, .goto 1387), (646, .aload_n 1), (647, .aload_n 0), (648, .iload_n 3), (649, .iconst 1), (650, .iadd), (651, .iaload), (652, .invokevirtual 68), (655, .aload_n 2), (656, .aload_n 0), (657, .iload_n 3), (658, .iconst 1), (659, .iadd), (660, .iaload), (661, .invokevirtual 71), (664, .if_icmp .eq 1366), (667, .iconst 0), (668, .ireturn), (669, .aload_n 1), (670, .aload_n 0), (671, .iload_n 3), (672, .iconst 1), (673, .iadd), (674, .iaload), (675, .aload_n 0), (676, .iload_n 3), (677, .iconst 2), (678, .iadd), (679, .iaload), (680, .invokevirtual 72), (683, .pop), (684, .aload_n 2), (685, .aload_n 0), (686, .iload_n 3), (687, .iconst 1), (688, .iadd), (689, .iaload), (690, .aload_n 0), (691, .iload_n 3), (692, .iconst 2), (693, .iadd), (694, .iaload), (695, .invokevirtual 75), (698, .pop), (699, .goto 1331), (702, .aload_n 1), (703, .aload_n 0), (704, .iload_n 3), (705, .iconst 1), (706, .iadd), (707, .iaload), (708, .aload_n 0), (709, .iload_n 3), (710, .iconst 2), (711, .iadd), (712, .iaload), (713, .ifCond .eq 7), (716, .iconst 1), (717, .goto 4), (720, .iconst 0), (721, .aload_n 0), (722, .iload_n 3), (723, .iconst 3), (724, .iadd), (725, .iaload), (726, .aload_n 0), (727, .iload_n 3), (728, .iconst 4), (729, .iadd), (730, .iaload), (731, .aload_n 0), (732, .iload_n 3), (733, .iconst 5), (734, .iadd), (735, .iaload), (736, .invokevirtual 76), (739, .pop), (740, .aload_n 2), (741, .aload_n 0), (742, .iload_n 3), (743, .iconst 1), (744, .iadd), (745, .iaload), (746, .aload_n 0), (747, .iload_n 3), (748, .iconst 2), (749, .iadd), (750, .iaload), (751, .ifCond .eq 7), (754, .iconst 1), (755, .goto 4), (758, .iconst 0), (759, .aload_n 0), (760, .iload_n 3), (761, .iconst 3), (762, .iadd), (763, .iaload), (764, .aload_n 0), (765, .iload_n 3), (766, .iconst 4), (767, .iadd), (768, .iaload), (769, .aload_n 0), (770, .iload_n 3), (771, .iconst 5), (772, .iadd), (773, .iaload), (774, .invokevirtual 80), (777, .pop), (778, .goto 1252), (781, .aload_n 1), (782, .invokevirtual 81), (785, .pop), (786, .aload_n 2), (787, .invokevirtual 84), (790, .pop), (791, .goto 1239), (794, .aload_n 1), (795, .invokevirtual 85), (798, .pop), (799, .aload_n 2), (800, .invokevirtual 88), (803, .pop), (804, .goto 1226), (807, .aload_n 1), (808, .invokevirtual 89), (811, .pop), (812, .aload_n 2), (813, .invokevirtual 92), (816, .pop), (817, .goto 1213), (820, .aload_n 1), (821, .invokevirtual 93), (824, .pop), (825, .aload_n 2), (826, .invokevirtual 96), (829, .pop), (830, .goto 1200), (833, .aload_n 1), (834, .aload_n 0), (835, .iload_n 3), (836, .iconst 1), (837, .iadd), (838, .iaload), (839, .invokevirtual 97), (842, .pop), (843, .aload_n 2), (844, .aload_n 0), (845, .iload_n 3), (846, .iconst 1), (847, .iadd), (848, .iaload), (849, .invokevirtual 100), (852, .pop), (853, .goto 1177), (856, .aload_n 1), (857, .aload_n 0), (858, .iload_n 3), (859, .iconst 1), (860, .iadd), (861, .iaload), (862, .invokevirtual 101), (865, .pop), (866, .aload_n 2), (867, .aload_n 0), (868, .iload_n 3), (869, .iconst 1), (870, .iadd), (871, .iaload), (872, .invokevirtual 104), (875, .pop), (876, .goto 1154), (879, .aload_n 1), (880, .aload_n 0), (881, .iload_n 3), (882, .iconst 1), (883, .iadd), (884, .iaload), (885, .aload_n 0), (886, .iload_n 3), (887, .iconst 2), (888, .iadd), (889, .iaload), (890, .invokevirtual 105), (893, .pop), (894, .aload_n 2), (895, .aload_n 0), (896, .iload_n 3), (897, .iconst 1), (898, .iadd), (899, .iaload), (900, .aload_n 0), (901, .iload_n 3), (902, .iconst 2), (903, .iadd), (904, .iaload), (905, .invokevirtual 108), (908, .pop), (909, .goto 1121), (912, .aload_n 1), (913, .aload_n 0), (914, .iload_n 3), (915, .iconst 1), (916, .iadd), (917, .iaload), (918, .aload_n 0), (919, .iload_n 3), (920, .iconst 2), (921, .iadd), (922, .iaload), (923, .invokevirtual 109), (926, .pop), (927, .aload_n 2), (928, .aload_n 0), (929, .iload_n 3), (930, .iconst 1), (931, .iadd), (932, .iaload), (933, .aload_n 0), (934, .iload_n 3), (935, .iconst 2), (936, .iadd), (937, .iaload), (938, .invokevirtual 112), (941, .pop), (942, .goto 1088), (945, .aload_n 1), (946, .aload_n 0), (947, .iload_n 3), (948, .iconst 1), (949, .iadd), (950, .iaload), (951, .aload_n 0), (952, .iload_n 3), (953, .iconst 2), (954, .iadd), (955, .iaload), (956, .invokevirtual 113), (959, .pop), (960, .aload_n 2), (961, .aload_n 0), (962, .iload_n 3), (963, .iconst 1), (964, .iadd), (965, .iaload), (966, .aload_n 0), (967, .iload_n 3), (968, .iconst 2), (969, .iadd), (970, .iaload), (971, .invokevirtual 116), (974, .pop), (975, .goto 1055), (978, .aload_n 1), (979, .aload_n 0), (980, .iload_n 3), (981, .iconst 1), (982, .iadd), (983, .iaload), (984, .aload_n 0), (985, .iload_n 3), (986, .iconst 2), (987, .iadd), (988, .iaload), (989, .invokevirtual 117), (992, .pop), (993, .aload_n 2), (994, .aload_n 0), (995, .iload_n 3), (996, .iconst 1), (997, .iadd), (998, .iaload), (999, .aload_n 0), (1000, .iload_n 3), (1001, .iconst 2), (1002, .iadd), (1003, .iaload), (1004, .invokevirtual 120), (1007, .pop), (1008, .goto 1022), (1011, .aload_n 1), (1012, .aload_n 0), (1013, .iload_n 3), (1014, .iconst 1), (1015, .iadd), (1016, .iaload), (1017, .aload_n 0), (1018, .iload_n 3), (1019, .iconst 2), (1020, .iadd), (1021, .iaload), (1022, .invokevirtual 121), (1025, .pop), (1026, .aload_n 2), (1027, .aload_n 0), (1028, .iload_n 3), (1029, .iconst 1), (1030, .iadd), (1031, .iaload), (1032, .aload_n 0), (1033, .iload_n 3), (1034, .iconst 2), (1035, .iadd), (1036, .iaload), (1037, .invokevirtual 124), (1040, .pop), (1041, .goto 989), (1044, .aload_n 1), (1045, .aload_n 0), (1046, .iload_n 3), (1047, .iconst 1), (1048, .iadd), (1049, .iaload), (1050, .aload_n 0), (1051, .iload_n 3), (1052, .iconst 2), (1053, .iadd), (1054, .iaload), (1055, .invokevirtual 125), (1058, .pop), (1059, .aload_n 2), (1060, .aload_n 0), (1061, .iload_n 3), (1062, .iconst 1), (1063, .iadd), (1064, .iaload), (1065, .aload_n 0), (1066, .iload_n 3), (1067, .iconst 2), (1068, .iadd), (1069, .iaload), (1070, .invokevirtual 128), (1073, .pop), (1074, .goto 956), (1077, .aload_n 1), (1078, .aload_n 0), (1079, .iload_n 3), (1080, .iconst 1), (1081, .iadd), (1082, .iaload), (1083, .invokevirtual 129), (1086, .pop), (1087, .aload_n 2), (1088, .aload_n 0), (1089, .iload_n 3), (1090, .iconst 1), (1091, .iadd), (1092, .iaload), (1093, .invokevirtual 132), (1096, .pop), (1097, .goto 933), (1100, .aload_n 1), (1101, .invokevirtual 133), (1104, .pop), (1105, .aload_n 2), (1106, .invokevirtual 136), (1109, .pop), (1110, .goto 920), (1113, .aload_n 1), (1114, .aload_n 0), (1115, .iload_n 3), (1116, .iconst 1), (1117, .iadd), (1118, .iaload), (1119, .invokevirtual 137), (1122, .pop), (1123, .aload_n 2), (1124, .aload_n 0), (1125, .iload_n 3), (1126, .iconst 1), (1127, .iadd), (1128, .iaload), (1129, .invokevirtual 140), (1132, .pop), (1133, .goto 897), (1136, .aload_n 1), (1137, .aload_n 0), (1138, .iload_n 3), (1139, .iconst 1), (1140, .iadd), (1141, .iaload), (1142, .aload_n 0), (1143, .iload_n 3), (1144, .iconst 2), (1145, .iadd), (1146, .iaload), (1147, .invokevirtual 141), (1150, .pop), (1151, .aload_n 2), (1152, .aload_n 0), (1153, .iload_n 3), (1154, .iconst 1), (1155, .iadd), (1156, .iaload), (1157, .aload_n 0), (1158, .iload_n 3), (1159, .iconst 2), (1160, .iadd), (1161, .iaload), (1162, .invokevirtual 144), (1165, .pop), (1166, .goto 864), (1169, .aload_n 1), (1170, .aload_n 0), (1171, .iload_n 3), (1172, .iconst 1), (1173, .iadd), (1174, .iaload), (1175, .invokevirtual 145), (1178, .pop), (1179, .aload_n 2), (1180, .aload_n 0), (1181, .iload_n 3), (1182, .iconst 1), (1183, .iadd), (1184, .iaload), (1185, .invokevirtual 148), (1188, .pop), (1189, .goto 841), (1192, .aload_n 1), (1193, .aload_n 0), (1194, .iload_n 3), (1195, .iconst 1), (1196, .iadd), (1197, .iaload), (1198, .aload_n 0), (1199, .iload_n 3), (1200, .iconst 2), (1201, .iadd), (1202, .iaload), (1203, .aload_n 0), (1204, .iload_n 3), (1205, .iconst 3), (1206, .iadd), (1207, .iaload), (1208, .invokevirtual 149), (1211, .pop), (1212, .aload_n 2), (1213, .aload_n 0), (1214, .iload_n 3), (1215, .iconst 1), (1216, .iadd), (1217, .iaload), (1218, .aload_n 0), (1219, .iload_n 3), (1220, .iconst 2), (1221, .iadd), (1222, .iaload), (1223, .aload_n 0), (1224, .iload_n 3), (1225, .iconst 3), (1226, .iadd), (1227, .iaload), (1228, .invokevirtual 152), (1231, .pop), (1232, .goto 798), (1235, .aload_n 1), (1236, .aload_n 0), (1237, .iload_n 3), (1238, .iconst 1), (1239, .iadd), (1240, .iaload), (1241, .invokevirtual 153), (1244, .pop), (1245, .aload_n 2), (1246, .aload_n 0), (1247, .iload_n 3), (1248, .iconst 1), (1249, .iadd), (1250, .iaload), (1251, .invokevirtual 156), (1254, .pop), (1255, .goto 775), (1258, .aload_n 1), (1259, .invokevirtual 157), (1262, .pop), (1263, .aload_n 2), (1264, .invokevirtual 160), (1267, .pop), (1268, .goto 762), (1271, .aload_n 1), (1272, .invokevirtual 161), (1275, .pop), (1276, .aload_n 2), (1277, .invokevirtual 164), (1280, .pop), (1281, .goto 749), (1284, .aload_n 1), (1285, .invokevirtual 165), (1288, .pop), (1289, .aload_n 2), (1290, .invokevirtual 168), (1293, .pop), (1294, .goto 736), (1297, .aload_n 1), (1298, .aload_n 0), (1299, .iload_n 3), (1300, .iconst 1), (1301, .iadd), (1302, .iaload), (1303, .invokevirtual 169), (1306, .pop), (1307, .aload_n 2), (1308, .aload_n 0), (1309, .iload_n 3), (1310, .iconst 1), (1311, .iadd), (1312, .iaload), (1313, .invokevirtual 172), (1316, .pop), (1317, .goto 713), (1320, .aload_n 1), (1321, .aload_n 0), (1322, .iload_n 3), (1323, .iconst 1), (1324, .iadd), (1325, .iaload), (1326, .invokevirtual 173), (1329, .pop), (1330, .aload_n 2), (1331, .aload_n 0), (1332, .iload_n 3), (1333, .iconst 1), (1334, .iadd), (1335, .iaload), (1336, .invokevirtual 176), (1339, .pop), (1340, .goto 690), (1343, .aload_n 1), (1344, .aload_n 0), (1345, .iload_n 3), (1346, .iconst 1), (1347, .iadd), (1348, .iaload), (1349, .aload_n 0), (1350, .iload_n 3), (1351, .iconst 2), (1352, .iadd), (1353, .iaload), (1354, .aload_n 0), (1355, .iload_n 3), (1356, .iconst 3), (1357, .iadd), (1358, .iaload), (1359, .invokevirtual 177), (1362, .pop), (1363, .aload_n 2), (1364, .aload_n 0), (1365, .iload_n 3), (1366, .iconst 1), (1367, .iadd), (1368, .iaload), (1369, .aload_n 0), (1370, .iload_n 3), (1371, .iconst 2), (1372, .iadd), (1373, .iaload), (1374, .aload_n 0), (1375, .iload_n 3), (1376, .iconst 3), (1377, .iadd), (1378, .iaload), (1379, .invokevirtual 180), (1382, .pop), (1383, .goto 647), (1386, .aload_n 1), (1387, .aload_n 0), (1388, .iload_n 3), (1389, .iconst 1), (1390, .iadd), (1391, .iaload), (1392, .aload_n 0), (1393, .iload_n 3), (1394, .iconst 2), (1395, .iadd), (1396, .iaload), (1397, .invokevirtual 181), (1400, .pop), (1401, .aload_n 2), (1402, .aload_n 0), (1403, .iload_n 3), (1404, .iconst 1), (1405, .iadd), (1406, .iaload), (1407, .aload_n 0), (1408, .iload_n 3), (1409, .iconst 2), (1410, .iadd), (1411, .iaload), (1412, .invokevirtual 184), (1415, .pop), (1416, .goto 614), (1419, .aload_n 1), (1420, .invokevirtual 185), (1423, .pop), (1424, .aload_n 2), (1425, .invokevirtual 188), (1428, .pop), (1429, .goto 601), (1432, .aload_n 1), (1433, .aload_n 0), (1434, .iload_n 3), (1435, .iconst 1), (1436, .iadd), (1437, .iaload), (1438, .invokevirtual 189), (1441, .pop), (1442, .aload_n 2), (1443, .aload_n 0), (1444, .iload_n 3), (1445, .iconst 1), (1446, .iadd), (1447, .iaload), (1448, .invokevirtual 192), (1451, .pop), (1452, .goto 578), (1455, .aload_n 1), (1456, .aload_n 0), (1457, .iload_n 3), (1458, .iconst 1), (1459, .iadd), (1460, .iaload), (1461, .invokevirtual 193), (1464, .pop), (1465, .aload_n 2), (1466, .aload_n 0), (1467, .iload_n 3), (1468, .iconst 1), (1469, .iadd), (1470, .iaload), (1471, .invokevirtual 196), (1474, .pop), (1475, .goto 555), (1478, .aload_n 1), (1479, .aload_n 0), (1480, .iload_n 3), (1481, .iconst 1), (1482, .iadd), (1483, .iaload), (1484, .invokevirtual 197), (1487, .pop), (1488, .aload_n 2), (1489, .aload_n 0), (1490, .iload_n 3), (1491, .iconst 1), (1492, .iadd), (1493, .iaload), (1494, .invokevirtual 200), (1497, .pop), (1498, .goto 532), (1501, .aload_n 1), (1502, .aload_n 0), (1503, .iload_n 3), (1504, .iconst 1), (1505, .iadd), (1506, .iaload), (1507, .invokevirtual 201), (1510, .pop), (1511, .aload_n 2), (1512, .aload_n 0), (1513, .iload_n 3), (1514, .iconst 1), (1515, .iadd), (1516, .iaload), (1517, .invokevirtual 204), (1520, .pop), (1521, .goto 509), (1524, .aload_n 1), (1525, .aload_n 0), (1526, .iload_n 3), (1527, .iconst 1), (1528, .iadd), (1529, .iaload), (1530, .invokevirtual 205), (1533, .pop), (1534, .aload_n 2), (1535, .aload_n 0), (1536, .iload_n 3), (1537, .iconst 1), (1538, .iadd), (1539, .iaload), (1540, .invokevirtual 208), (1543, .pop), (1544, .goto 486), (1547, .aload_n 1), (1548, .invokevirtual 209), (1551, .pop), (1552, .aload_n 2), (1553, .invokevirtual 212), (1556, .pop), (1557, .goto 473), (1560, .aload_n 1), (1561, .aload_n 0), (1562, .iload_n 3), (1563, .iconst 1), (1564, .iadd), (1565, .iaload), (1566, .invokevirtual 213), (1569, .pop), (1570, .aload_n 2), (1571, .aload_n 0), (1572, .iload_n 3), (1573, .iconst 1), (1574, .iadd), (1575, .iaload), (1576, .invokevirtual 216), (1579, .pop), (1580, .goto 450), (1583, .aload_n 1), (1584, .aload_n 0), (1585, .iload_n 3), (1586, .iconst 1), (1587, .iadd), (1588, .iaload), (1589, .invokevirtual 217), (1592, .pop), (1593, .aload_n 2), (1594, .aload_n 0), (1595, .iload_n 3), (1596, .iconst 1), (1597, .iadd), (1598, .iaload), (1599, .invokevirtual 220), (1602, .pop), (1603, .goto 427), (1606, .aload_n 1), (1607, .aload_n 0), (1608, .iload_n 3), (1609, .iconst 1), (1610, .iadd), (1611, .iaload), (1612, .aload_n 0), (1613, .iload_n 3), (1614, .iconst 2), (1615, .iadd), (1616, .iaload), (1617, .invokevirtual 221), (1620, .pop), (1621, .aload_n 2), (1622, .aload_n 0), (1623, .iload_n 3), (1624, .iconst 1), (1625, .iadd), (1626, .iaload), (1627, .aload_n 0), (1628, .iload_n 3), (1629, .iconst 2), (1630, .iadd), (1631, .iaload), (1632, .invokevirtual 224), (1635, .pop), (1636, .goto 394), (1639, .aload_n 1), (1640, .aload_n 0), (1641, .iload_n 3), (1642, .iconst 1), (1643, .iadd), (1644, .iaload), (1645, .aload_n 0), (1646, .iload_n 3), (1647, .iconst 2), (1648, .iadd), (1649, .iaload), (1650, .invokevirtual 225), (1653, .pop), (1654, .aload_n 2), (1655, .aload_n 0), (1656, .iload_n 3), (1657, .iconst 1), (1658, .iadd), (1659, .iaload), (1660, .aload_n 0), (1661, .iload_n 3), (1662, .iconst 2), (1663, .iadd), (1664, .iaload), (1665, .invokevirtual 228), (1668, .pop), (1669, .goto 361), (1672, .aload_n 1), (1673, .aload_n 0), (1674, .iload_n 3), (1675, .iconst 1), (1676, .iadd), (1677, .iaload), (1678, .invokevirtual 229), (1681, .pop), (1682, .aload_n 2), (1683, .aload_n 0), (1684, .iload_n 3), (1685, .iconst 1), (1686, .iadd), (1687, .iaload), (1688, .invokevirtual 232), (1691, .pop), (1692, .goto 338), (1695, .aload_n 1), (1696, .invokevirtual 233), (1699, .pop2), (1700, .aload_n 2), (1701, .invokevirtual 237), (1704, .pop2), (1705, .goto 325), (1708, .aload_n 1), (1709, .invokevirtual 238), (1712, .pop), (1713, .aload_n 2), (1714, .invokevirtual 241), (1717, .pop), (1718, .goto 312), (1721, .aload_n 1), (1722, .aload_n 0), (1723, .iload_n 3), (1724, .iconst 1), (1725, .iadd), (1726, .iaload), (1727, .aload_n 0), (1728, .iload_n 3), (1729, .iconst 2), (1730, .iadd), (1731, .iaload), (1732, .invokevirtual 242), (1735, .pop), (1736, .aload_n 2), (1737, .aload_n 0), (1738, .iload_n 3), (1739, .iconst 1), (1740, .iadd), (1741, .iaload), (1742, .aload_n 0), (1743, .iload_n 3), (1744, .iconst 2), (1745, .iadd), (1746, .iaload), (1747, .invokevirtual 245), (1750, .pop), (1751, .goto 279), (1754, .aload_n 1), (1755, .aload_n 0), (1756, .iload_n 3), (1757, .iconst 1), (1758, .iadd), (1759, .iaload), (1760, .aload_n 0), (1761, .iload_n 3), (1762, .iconst 2), (1763, .iadd), (1764, .iaload), (1765, .aload_n 0), (1766, .iload_n 3), (1767, .iconst 3), (1768, .iadd), (1769, .iaload), (1770, .invokevirtual 246), (1773, .pop), (1774, .aload_n 2), (1775, .aload_n 0), (1776, .iload_n 3), (1777, .iconst 1), (1778, .iadd), (1779, .iaload), (1780, .aload_n 0), (1781, .iload_n 3), (1782, .iconst 2), (1783, .iadd), (1784, .iaload), (1785, .aload_n 0), (1786, .iload_n 3), (1787, .iconst 3), (1788, .iadd), (1789, .iaload), (1790, .invokevirtual 249), (1793, .pop), (1794, .goto 236), (1797, .aload_n 1), (1798, .aload_n 0), (1799, .iload_n 3), (1800, .iconst 1), (1801, .iadd), (1802, .iaload), (1803, .invokevirtual 250), (1806, .pop), (1807, .aload_n 2), (1808, .aload_n 0), (1809, .iload_n 3), (1810, .iconst 1), (1811, .iadd), (1812, .iaload), (1813, .invokevirtual 253), (1816, .pop), (1817, .goto 213), (1820, .aload_n 1), (1821, .invokevirtual 254), (1824, .pop), (1825, .aload_n 2), (1826, .invokevirtual 257), (1829, .pop), (1830, .goto 200), (1833, .aload_n 1), (1834, .aload_n 0), (1835, .iload_n 3), (1836, .iconst 1), (1837, .iadd), (1838, .iaload), (1839, .invokevirtual 258), (1842, .pop), (1843, .aload_n 2), (1844, .aload_n 0), (1845, .iload_n 3), (1846, .iconst 1), (1847, .iadd), (1848, .iaload), (1849, .invokevirtual 261), (1852, .pop), (1853, .goto 177), (1856, .aload_n 1), (1857, .aload_n 0), (1858, .iload_n 3), (1859, .iconst 1), (1860, .iadd), (1861, .iaload), (1862, .aload_n 0), (1863, .iload_n 3), (1864, .iconst 2), (1865, .iadd), (1866, .iaload), (1867, .invokevirtual 262), (1870, .pop), (1871, .aload_n 2), (1872, .aload_n 0), (1873, .iload_n 3), (1874, .iconst 1), (1875, .iadd), (1876, .iaload), (1877, .aload_n 0), (1878, .iload_n 3), (1879, .iconst 2), (1880, .iadd), (1881, .iaload), (1882, .invokevirtual 265), (1885, .pop), (1886, .goto 144), (1889, .aload_n 1), (1890, .aload_n 0), (1891, .iload_n 3), (1892, .iconst 1), (1893, .iadd), (1894, .iaload), (1895, .aload_n 0), (1896, .iload_n 3), (1897, .iconst 2), (1898, .iadd), (1899, .iaload), (1900, .invokevirtual 266), (1903, .pop), (1904, .aload_n 2), (1905, .aload_n 0), (1906, .iload_n 3), (1907, .iconst 1), (1908, .iadd), (1909, .iaload), (1910, .aload_n 0), (1911, .iload_n 3), (1912, .iconst 2), (1913, .iadd), (1914, .iaload), (1915, .invokevirtual 269), (1918, .pop), (1919, .goto 111), (1922, .aload_n 1), (1923, .aload_n 0), (1924, .iload_n 3), (1925, .iconst 1), (1926, .iadd), (1927, .iaload), (1928, .invokevirtual 270), (1931, .pop), (1932, .aload_n 2), (1933, .aload_n 0), (1934, .iload_n 3), (1935, .iconst 1), (1936, .iadd), (1937, .iaload), (1938, .invokevirtual 273), (1941, .pop), (1942, .goto 88), (1945, .aload_n 1), (1946, .aload_n 0), (1947, .iload_n 3), (1948, .iconst 1), (1949, .iadd), (1950, .iaload), (1951, .invokevirtual 274), (1954, .pop), (1955, .aload_n 2), (1956, .aload_n 0), (1957, .iload_n 3), (1958, .iconst 1), (1959, .iadd), (1960, .iaload), (1961, .invokevirtual 277), (1964, .pop), (1965, .goto 65), (1968, .aload_n 1), (1969, .aload_n 0), (1970, .iload_n 3), (1971, .iconst 1), (1972, .iadd), (1973, .iaload), (1974, .invokevirtual 278), (1977, .pop), (1978, .aload_n 2), (1979, .aload_n 0), (1980, .iload_n 3), (1981, .iconst 1), (1982, .iadd), (1983, .iaload), (1984, .invokevirtual 281), (1987, .pop), (1988, .goto 42), (1991, .aload_n 1), (1992, .invokevirtual 282), (1995, .pop), (1996, .aload_n 2), (1997, .invokevirtual 285), (2000, .pop), (2001, .goto 29), (2004, .aload_n 1), (2005, .invokevirtual 286), (2008, .pop), (2009, .aload_n 2), (2010, .invokevirtual 289), (2013, .pop), (2014, .goto 16), (2017, .aload_n 1), (2018, .invokevirtual 290), (2021, .pop), (2022, .aload_n 2), (2023, .invokevirtual 293), (2026, .pop), (2027, .goto 3), (2030, .iinc 3 6), (2033, .goto (-2015)), (2036, .iconst 1), (2037, .ireturn)]
/-- PackWatch$Cell.<init>()V -/
def pw_t1 : List (Nat × Instr) := [(0, .aload_n 0), (1, .invokespecial 3), (4, .aload_n 0), (5, .new 9), (8, .dup), (9, .invokespecial 11), (12, .putfield 12), (15, .return_)]
/-- PackWatch$Cell.begin(IIII)V -/
def pw_t2 : List (Nat × Instr) := [(0, .aload_n 0), (1, .iload_n 1), (2, .putfield 18), (5, .aload_n 0), (6, .iload_n 1), (7, .putfield 22), (10, .aload_n 0), (11, .iload_n 3), (12, .putfield 25), (15, .aload_n 0), (16, .iload 4), (18, .putfield 28), (21, .aload_n 0), (22, .iload_n 2), (23, .iload_n 1), (24, .invokestatic 31), (27, .invokevirtual 35), (30, .aload_n 0), (31, .aload_n 0), (32, .getfield 39), (35, .putfield 42), (38, .aload_n 0), (39, .iconst 0), (40, .putfield 45), (43, .aload_n 0), (44, .iconst 0), (45, .putfield 48), (48, .aload_n 0), (49, .iconst 0), (50, .putfield 51), (53, .aload_n 0), (54, .iconst 0), (55, .putfield 55), (58, .aload_n 0), (59, .iconst 0), (60, .putfield 58), (63, .aload_n 0), (64, .iconst 0), (65, .putfield 61), (68, .aload_n 0), (69, .ldc 64), (71, .putfield 65), (74, .aload_n 0), (75, .iconst (-1)), (76, .putfield 68), (79, .aload_n 0), (80, .iconst 0), (81, .putfield 71), (84, .aload_n 0), (85, .iconst (-1)), (86, .putfield 74), (89, .aload_n 0), (90, .iconst 0), (91, .putfield 77), (94, .aload_n 0), (95, .getfield 12), (98, .aload_n 0), (99, .getfield 80), (102, .invokevirtual 83), (105, .return_)]
/-- PackWatch$Cell.become(LPackWatch$Cell;)V -/
def pw_t3 : List (Nat × Instr) := [(0, .aload_n 0), (1, .aload_n 1), (2, .getfield 18), (5, .putfield 18), (8, .aload_n 0), (9, .aload_n 1), (10, .getfield 22), (13, .putfield 22), (16, .aload_n 0), (17, .aload_n 1), (18, .getfield 39), (21, .putfield 39), (24, .aload_n 0), (25, .aload_n 1), (26, .getfield 80), (29, .putfield 80), (32, .aload_n 0), (33, .aload_n 1), (34, .getfield 86), (37, .putfield 86), (40, .aload_n 0), (41, .aload_n 1), (42, .getfield 25), (45, .putfield 25), (48, .aload_n 0), (49, .aload_n 1), (50, .getfield 28), (53, .putfield 28), (56, .aload_n 0), (57, .aload_n 1), (58, .getfield 45), (61, .putfield 45), (64, .aload_n 0), (65, .aload_n 1), (66, .getfield 42), (69, .putfield 42), (72, .aload_n 0), (73, .aload_n 1), (74, .getfield 48), (77, .putfield 48), (80, .aload_n 0), (81, .aload_n 1), (82, .getfield 51), (85, .putfield 51), (88, .aload_n 0), (89, .aload_n 1), (90, .getfield 55), (93, .putfield 55), (96, .aload_n 0), (97, .aload_n 1), (98, .getfield 58), (101, .putfield 58), (104, .aload_n 0), (105, .aload_n 1), (106, .getfield 61), (109, .putfield 61), (112, .aload_n 0), (113, .aload_n 1), (114, .getfield 65), (117, .putfield 65), (120, .aload_n 0), (121, .aload_n 1), (122, .getfield 68), (125, .putfield 68), (128, .aload_n 0), (129, .aload_n 1), (130, .getfield 71), (133, .putfield 71), (136, .aload_n 0), (137, .aload_n 1), (138, .getfield 74), (141, .putfield 74), (144, .aload_n 0), (145, .aload_n 1), (146, .getfield 77), (149, .putfield 77), (152, .aload_n 0), (153, .getfield 12), (156, .aload_n 1), (157, .getfield 12), (160, .invokevirtual 89), (163, .return_)]
/-- PackWatch$Cell.full()I -/
def pw_t4 : List (Nat × Instr) := [(0, .aload_n 0), (1, .getfield 18), (4, .sipush 3600), (7, .imul), (8, .ireturn)]
/-- PackWatch$Cell.putCharge(I)V -/
def pw_t5 : List (Nat × Instr) := [(0, .aload_n 0), (1, .iload_n 1), (2, .iconst 0), (3, .aload_n 0), (4, .invokevirtual 93), (7, .invokestatic 97), (10, .putfield 39), (13, .aload_n 0), (14, .aload_n 0), (15, .getfield 39), (18, .aload_n 0), (19, .invokevirtual 93), (22, .invokestatic 101), (25, .putfield 80), (28, .aload_n 0), (29, .aload_n 0), (30, .getfield 80), (33, .invokestatic 104), (36, .putfield 86), (39, .return_)]
/-- PackWatch$Cell.putReckoned(I)V -/
def pw_t6 : List (Nat × Instr) := [(0, .aload_n 0), (1, .iload_n 1), (2, .iconst 0), (3, .aload_n 0), (4, .invokevirtual 93), (7, .invokestatic 97), (10, .putfield 42), (13, .return_)]
/-- PackWatch$Cell.reckonedPart()I -/
def pw_t7 : List (Nat × Instr) := [(0, .aload_n 0), (1, .getfield 42), (4, .aload_n 0), (5, .invokevirtual 93), (8, .invokestatic 101), (11, .ireturn)]
/-- PackWatch$Cell.voltsAt(I)I -/
def pw_t8 : List (Nat × Instr) := [(0, .aload_n 0), (1, .getfield 86), (4, .aload_n 0), (5, .getfield 45), (8, .iadd), (9, .iload_n 1), (10, .aload_n 0), (11, .getfield 25), (14, .imul), (15, .sipush 1000), (18, .invokestatic 108), (21, .iadd), (22, .ireturn)]
/-- PackWatch$Cell.ownLimit(ILPackWatch$Told;)I -/
def pw_t9 : List (Nat × Instr) := [(0, .aload_n 2), (1, .getfield 113), (4, .astore_n 3), (5, .iload_n 1), (6, .ifCond .ne 15), (9, .aload_n 0), (10, .getfield 28), (13, .aload_n 3), (14, .iconst 3), (15, .iaload), (16, .if_icmp .ge 5), (19, .iconst 0), (20, .ireturn), (21, .aload_n 0), (22, .getfield 86), (25, .aload_n 0), (26, .getfield 45), (29, .iadd), (30, .istore 4), (32, .iload_n 1), (33, .ifCond .ne 12), (36, .aload_n 3), (37, .iconst 0), (38, .iaload), (39, .iload 4), (41, .isub), (42, .goto 9), (45, .iload 4), (47, .aload_n 3), (48, .iconst 1), (49, .iaload), (50, .isub), (51, .aload_n 3), (52, .iconst 5), (53, .iaload), (54, .imul), (55, .istore 5), (57, .aload_n 3), (58, .iconst 2), (59, .iaload), (60, .aload_n 0), (61, .getfield 28), (64, .isub), (65, .sipush 500), (68, .imul), (69, .istore 6), (71, .aload_n 2), (72, .aload_n 0), (73, .getfield 28), (76, .invokevirtual 119), (79, .istore 7), (81, .iconst 0), (82, .iload 7), (84, .iload 5), (86, .iload 6), (88, .invokestatic 122), (91, .invokestatic 122), (94, .invokestatic 125), (97, .ireturn)]
/-- PackWatch$Cell.pass(ILPackWatch$Told;)V -/
def pw_t10 : List (Nat × Instr) := [(0, .aload_n 2), (1, .getfield 113), (4, .astore_n 3), (5, .aload_n 0), (6, .getfield 39), (9, .iload_n 1), (10, .iadd), (11, .aload_n 3), (12, .bipush 27), (14, .iaload), (15, .isub), (16, .iconst 0), (17, .aload_n 0), (18, .invokevirtual 93), (21, .invokestatic 97), (24, .istore 4), (26, .iload_n 1), (27, .sipush 1000), (30, .idiv), (31, .istore 5), (33, .aload_n 0), (34, .dup), (35, .getfield 28), (38, .iload 5), (40, .iload 5), (42, .imul), (43, .aload_n 0), (44, .getfield 25), (47, .imul), (48, .sipush 500), (51, .idiv), (52, .iadd), (53, .putfield 28), (56, .aload_n 0), (57, .dup), (58, .getfield 28), (61, .aload_n 3), (62, .bipush 6), (64, .iaload), (65, .aload_n 0), (66, .getfield 28), (69, .isub), (70, .bipush 32), (72, .idiv), (73, .iadd), (74, .putfield 28), (77, .aload_n 0), (78, .dup), (79, .getfield 45), (82, .iload_n 1), (83, .aload_n 3), (84, .bipush 25), (86, .iaload), (87, .imul), (88, .sipush 1000), (91, .idiv), (92, .aload_n 0), (93, .getfield 45), (96, .isub), (97, .bipush 8), (99, .idiv), (100, .iadd), (101, .putfield 45), (104, .aload_n 0), (105, .dup), (106, .getfield 48), (109, .iload_n 1), (110, .invokestatic 128), (113, .iadd), (114, .putfield 48), (117, .aload_n 0), (118, .aload_n 3), (119, .bipush 24), (121, .iaload), (122, .invokevirtual 131), (125, .aload_n 0), (126, .iload 4), (128, .invokevirtual 35), (131, .aload_n 0), (132, .aload_n 0), (133, .getfield 42), (136, .iload_n 1), (137, .iadd), (138, .aload_n 3), (139, .bipush 18), (141, .iaload), (142, .iadd), (143, .invokevirtual 134), (146, .return_)]
/-- PackWatch$Cell.wear(I)V -/
def pw_t11 : List (Nat × Instr) := [(0, .iload_n 1), (1, .sipush 3600), (4, .imul), (5, .istore_n 2), (6, .iload_n 2), (7, .ifCond .le 11), (10, .aload_n 0), (11, .getfield 48), (14, .iload_n 2), (15, .if_icmp .ge 4), (18, .return_), (19, .aload_n 0), (20, .bipush 100), (22, .aload_n 0), (23, .getfield 18), (26, .aload_n 0), (27, .getfield 48), (30, .iload_n 2), (31, .idiv), (32, .isub), (33, .invokestatic 125), (36, .putfield 18), (39, .aload_n 0), (40, .aload_n 0), (41, .getfield 48), (44, .iload_n 2), (45, .irem), (46, .putfield 48), (49, .aload_n 0), (50, .aload_n 0), (51, .getfield 42), (54, .invokevirtual 134), (57, .return_)]
/-- PackWatch$Cell.giveShunt(I)I -/
def pw_t12 : List (Nat × Instr) := [(0, .iload_n 1), (1, .aload_n 0), (2, .getfield 39), (5, .invokestatic 122), (8, .istore_n 2), (9, .aload_n 0), (10, .aload_n 0), (11, .getfield 39), (14, .iload_n 2), (15, .isub), (16, .invokevirtual 35), (19, .aload_n 0), (20, .aload_n 0), (21, .getfield 42), (24, .iload_n 1), (25, .isub), (26, .invokevirtual 134), (29, .iload_n 2), (30, .ireturn)]
/-- PackWatch$Cell.takeOrGive(I)V -/
def pw_t13 : List (Nat × Instr) := [(0, .aload_n 0), (1, .aload_n 0), (2, .getfield 39), (5, .iload_n 1), (6, .iadd), (7, .invokevirtual 35), (10, .aload_n 0), (11, .aload_n 0), (12, .getfield 42), (15, .iload_n 1), (16, .iadd), (17, .invokevirtual 134), (20, .return_)]
/-- PackWatch$Cell.measure(II)V -/
def pw_t14 : List (Nat × Instr) := [(0, .aload_n 0), (1, .iload_n 1), (2, .invokevirtual 137), (5, .istore_n 3), (6, .iload_n 1), (7, .iload_n 2), (8, .isub), (9, .istore 4), (11, .aload_n 0), (12, .getfield 51), (15, .ifCond .eq 31), (18, .iload 4), (20, .invokestatic 128), (23, .sipush 1000), (26, .if_icmp .lt 20), (29, .aload_n 0), (30, .iload_n 3), (31, .aload_n 0), (32, .getfield 55), (35, .isub), (36, .sipush 1000), (39, .imul), (40, .iload 4), (42, .idiv), (43, .putfield 65), (46, .aload_n 0), (47, .iload_n 3), (48, .putfield 55), (51, .aload_n 0), (52, .dup), (53, .getfield 71), (56, .iload_n 1), (57, .iadd), (58, .putfield 71), (61, .return_)]
/-- PackWatch$Cell.reckonAtRest()V -/
def pw_t15 : List (Nat × Instr) := [(0, .aload_n 0), (1, .iconst 0), (2, .invokevirtual 137), (5, .invokestatic 140), (8, .istore_n 1), (9, .iload_n 1), (10, .aload_n 0), (11, .getfield 74), (14, .isub), (15, .invokestatic 128), (18, .istore_n 2), (19, .aload_n 0), (20, .iload_n 1), (21, .aload_n 0), (22, .getfield 18), (25, .invokestatic 31), (28, .invokevirtual 134), (31, .aload_n 0), (32, .getfield 74), (35, .iconst (-1)), (36, .if_icmp .eq 33), (39, .iload_n 2), (40, .bipush 100), (42, .if_icmp .lt 27), (45, .aload_n 0), (46, .aload_n 0), (47, .getfield 71), (50, .invokestatic 128), (53, .i2l), (54, .ldc2_w 143), (57, .lmul), (58, .iload_n 2), (59, .i2l), (60, .ldc2_w 145), (63, .lmul), (64, .ldiv), (65, .l2i), (66, .putfield 68), (69, .aload_n 0), (70, .iload_n 1), (71, .putfield 74), (74, .aload_n 0), (75, .iconst 0), (76, .putfield 71), (79, .return_)]
/-- PackWatch$Cell.keepTrack(I)V -/
def pw_t16 : List (Nat × Instr) := [(0, .aload_n 0), (1, .iload_n 1), (2, .invokevirtual 137), (5, .istore_n 2), (6, .aload_n 0), (7, .aload_n 0), (8, .getfield 51), (11, .ifCond .eq 14), (14, .aload_n 0), (15, .getfield 58), (18, .iload_n 2), (19, .invokestatic 125), (22, .goto 4), (25, .iload_n 2), (26, .putfield 58), (29, .aload_n 0), (30, .aload_n 0), (31, .getfield 51), (34, .ifCond .eq 14), (37, .aload_n 0), (38, .getfield 61), (41, .iload_n 2), (42, .invokestatic 122), (45, .goto 4), (48, .iload_n 2), (49, .putfield 61), (52, .aload_n 0), (53, .iconst 1), (54, .putfield 51), (57, .aload_n 0), (58, .getfield 12), (61, .aload_n 0), (62, .getfield 80), (65, .invokevirtual 147), (68, .return_)]
/-- PackWatch$Cell.warningBits(ILPackWatch$Told;I)I -/
def pw_t17 : List (Nat × Instr) := [(0, .aload_n 0), (1, .iload_n 1), (2, .invokevirtual 137), (5, .istore 4), (7, .iload 4), (9, .aload_n 2), (10, .getfield 113), (13, .iconst 0), (14, .iaload), (15, .iload_n 3), (16, .isub), (17, .if_icmp .le 7), (20, .iconst 1), (21, .goto 4), (24, .iconst 0), (25, .istore 5), (27, .iload 5), (29, .iload 4), (31, .aload_n 2), (32, .getfield 113), (35, .iconst 1), (36, .iaload), (37, .iload_n 3), (38, .iadd), (39, .if_icmp .ge 7), (42, .iconst 2), (43, .goto 4), (46, .iconst 0), (47, .ior), (48, .istore 5), (50, .iload 5), (52, .aload_n 0), (53, .getfield 28), (56, .aload_n 2), (57, .getfield 113), (60, .iconst 2), (61, .iaload), (62, .iload_n 3), (63, .isub), (64, .if_icmp .le 7), (67, .iconst 4), (68, .goto 4), (71, .iconst 0), (72, .ior), (73, .istore 5), (75, .iload 5), (77, .aload_n 0), (78, .getfield 28), (81, .aload_n 2), (82, .getfield 113), (85, .iconst 3), (86, .iaload), (87, .iload_n 3), (88, .iadd), (89, .if_icmp .ge 8), (92, .bipush 8), (94, .goto 4), (97, .iconst 0), (98, .ior), (99, .istore 5), (101, .iload 5), (103, .ireturn)]
/-- PackWatch$Cell.tellWhat(II)I -/
def pw_t18 : List (Nat × Instr) := [(0, .iload_n 1), (1, .tableswitch 232 0 18 #[91, 96, 101, 106, 111, 116, 121, 127, 132, 137, 142, 167, 183, 199, 204, 212, 217, 222, 227]), (92, .aload_n 0), (93, .getfield 18), (96, .ireturn), (97, .aload_n 0), (98, .getfield 39), (101, .ireturn), (102, .aload_n 0), (103, .getfield 25), (106, .ireturn), (107, .aload_n 0), (108, .getfield 28), (111, .ireturn), (112, .aload_n 0), (113, .getfield 80), (116, .ireturn), (117, .aload_n 0), (118, .getfield 86), (121, .ireturn), (122, .aload_n 0), (123, .iload_n 2), (124, .invokevirtual 137), (127, .ireturn), (128, .aload_n 0), (129, .invokevirtual 150), (132, .ireturn), (133, .aload_n 0), (134, .getfield 42), (137, .ireturn), (138, .aload_n 0), (139, .getfield 48), (142, .ireturn), (143, .aload_n 0), (144, .getfield 22), (147, .ifCond .gt 7), (150, .iconst (-1)), (151, .goto 16), (154, .aload_n 0), (155, .getfield 18), (158, .sipush 1000), (161, .imul), (162, .aload_n 0), (163, .getfield 22), (166, .idiv), (167, .ireturn), (168, .aload_n 0), (169, .getfield 51), (172, .ifCond .eq 10), (175, .aload_n 0), (176, .getfield 58), (179, .goto 4), (182, .iconst (-1)), (183, .ireturn), (184, .aload_n 0), (185, .getfield 51), (188, .ifCond .eq 10), (191, .aload_n 0), (192, .getfield 61), (195, .goto 4), (198, .iconst (-1)), (199, .ireturn), (200, .aload_n 0), (201, .getfield 45), (204, .ireturn), (205, .aload_n 0), (206, .getfield 12), (209, .getfield 153), (212, .ireturn), (213, .aload_n 0), (214, .getfield 65), (217, .ireturn), (218, .aload_n 0), (219, .getfield 68), (222, .ireturn), (223, .aload_n 0), (224, .getfield 71), (227, .ireturn), (228, .aload_n 0), (229, .getfield 77), (232, .ireturn), (233, .ldc 156), (235, .ireturn)]
/-- PackWatch$History.<init>()V -/
def pw_t19 : List (Nat × Instr) := [(0, .aload_n 0), (1, .invokespecial 3), (4, .aload_n 0), (5, .bipush 20), (7, .anewarray 9), (10, .putfield 11), (13, .return_)]
/-- PackWatch$History.keep(LPackWatch$State;)V -/
def pw_t20 : List (Nat × Instr) := [(0, .aload_n 0), (1, .getfield 17), (4, .bipush 20), (6, .if_icmp .ne 22), (9, .aload_n 0), (10, .aload_n 0), (11, .iconst 1), (12, .invokevirtual 21), (15, .putfield 25), (18, .aload_n 0), (19, .dup), (20, .getfield 17), (23, .iconst 1), (24, .isub), (25, .putfield 17), (28, .aload_n 0), (29, .aload_n 0), (30, .aload_n 0), (31, .getfield 17), (34, .invokevirtual 21), (37, .invokevirtual 28), (40, .aload_n 1), (41, .invokevirtual 32), (44, .aload_n 0), (45, .dup), (46, .getfield 17), (49, .iconst 1), (50, .iadd), (51, .putfield 17), (54, .return_)]
/-- PackWatch$History.takeBackInto(LPackWatch$State;)V -/
def pw_t21 : List (Nat × Instr) := [(0, .aload_n 0), (1, .dup), (2, .getfield 17), (5, .iconst 1), (6, .isub), (7, .putfield 17), (10, .aload_n 1), (11, .aload_n 0), (12, .aload_n 0), (13, .aload_n 0), (14, .getfield 17), (17, .invokevirtual 21), (20, .invokevirtual 28), (23, .invokevirtual 32), (26, .return_)]
/-- PackWatch$History.become(LPackWatch$History;)V -/
def pw_t22 : List (Nat × Instr) := [(0, .aload_n 0), (1, .iconst 0), (2, .putfield 25), (5, .aload_n 0), (6, .aload_n 1), (7, .getfield 17), (10, .putfield 17), (13, .iconst 0), (14, .istore_n 2), (15, .iload_n 2), (16, .aload_n 0), (17, .getfield 17), (20, .if_icmp .ge 26), (23, .aload_n 0), (24, .iload_n 2), (25, .invokevirtual 28), (28, .aload_n 1), (29, .aload_n 1), (30, .iload_n 2), (31, .invokevirtual 21), (34, .invokevirtual 28), (37, .invokevirtual 32), (40, .iinc 2 1), (43, .goto (-28)), (46, .return_)]
/-- PackWatch$History.place(I)I -/
def pw_t23 : List (Nat × Instr) := [(0, .aload_n 0), (1, .getfield 25), (4, .iload_n 1), (5, .iadd), (6, .bipush 20), (8, .irem), (9, .ireturn)]
/-- PackWatch$History.stateAt(I)LPackWatch$State; -/
def pw_t24 : List (Nat × Instr) := [(0, .aload_n 0), (1, .getfield 11), (4, .iload_n 1), (5, .aaload), (6, .ifnonnull 16), (9, .aload_n 0), (10, .getfield 11), (13, .iload_n 1), (14, .new 9), (17, .dup), (18, .invokespecial 36), (21, .aastore), (22, .aload_n 0), (23, .getfield 11), (26, .iload_n 1), (27, .aaload), (28, .areturn)]
/-- PackWatch$Lines.<init>(I)V -/
def pw_t25 : List (Nat × Instr) := [(0, .aload_n 0), (1, .invokespecial 1), (4, .aload_n 0), (5, .iload_n 1), (6, .iconst 1), (7, .if_icmp .ge 7), (10, .iconst 1), (11, .goto 4), (14, .iload_n 1), (15, .putfield 7), (18, .aload_n 0), (19, .aload_n 0), (20, .getfield 7), (23, .iconst 3), (24, .imul), (25, .newarray .int), (27, .putfield 13), (30, .return_)]
/-- PackWatch$Lines.become(LPackWatch$Lines;)V -/
def pw_t26 : List (Nat × Instr) := [(0, .aload_n 1), (1, .getfield 13), (4, .iconst 0), (5, .aload_n 0), (6, .getfield 13), (9, .iconst 0), (10, .aload_n 0), (11, .getfield 13), (14, .arraylength), (15, .aload_n 1), (16, .getfield 13), (19, .arraylength), (20, .invokestatic 17), (23, .invokestatic 23), (26, .aload_n 0), (27, .aload_n 1), (28, .getfield 29), (31, .putfield 29), (34, .aload_n 0), (35, .aload_n 1), (36, .getfield 32), (39, .putfield 32), (42, .return_)]
/-- PackWatch$Lines.add(III)V -/
def pw_t27 : List (Nat × Instr) := [(0, .aload_n 0), (1, .aload_n 0), (2, .getfield 32), (5, .invokevirtual 35), (8, .iconst 3), (9, .imul), (10, .istore 4), (12, .aload_n 0), (13, .getfield 13), (16, .iload 4), (18, .iload_n 1), (19, .iastore), (20, .aload_n 0), (21, .getfield 13), (24, .iload 4), (26, .iconst 1), (27, .iadd), (28, .iload_n 2), (29, .iastore), (30, .aload_n 0), (31, .getfield 13), (34, .iload 4), (36, .iconst 2), (37, .iadd), (38, .iload_n 3), (39, .iastore), (40, .aload_n 0), (41, .getfield 32), (44, .aload_n 0), (45, .getfield 7), (48, .if_icmp .ge 16), (51, .aload_n 0), (52, .dup), (53, .getfield 32), (56, .iconst 1), (57, .iadd), (58, .putfield 32), (61, .goto 12), (64, .aload_n 0), (65, .aload_n 0), (66, .iconst 1), (67, .invokevirtual 35), (70, .putfield 29), (73, .return_)]
/-- PackWatch$Lines.tellLine(IIII)I -/
def pw_t28 : List (Nat × Instr) := [(0, .iload_n 1), (1, .iconst 0), (2, .aload_n 0), (3, .getfield 32), (6, .iconst 1), (7, .isub), (8, .invokestatic 39), (11, .ifCond .eq 14), (14, .iload_n 2), (15, .iconst 0), (16, .iload_n 3), (17, .iconst 1), (18, .isub), (19, .invokestatic 39), (22, .ifCond .ne 6), (25, .iload 4), (27, .ireturn), (28, .aload_n 0), (29, .getfield 13), (32, .aload_n 0), (33, .iload_n 1), (34, .invokevirtual 35), (37, .iconst 3), (38, .imul), (39, .iload_n 2), (40, .iadd), (41, .iaload), (42, .ireturn)]
/-- PackWatch$Lines.place(I)I -/
def pw_t29 : List (Nat × Instr) := [(0, .aload_n 0), (1, .getfield 29), (4, .iload_n 1), (5, .iadd), (6, .istore_n 2), (7, .iload_n 2), (8, .aload_n 0), (9, .getfield 7), (12, .if_icmp .lt 12), (15, .iload_n 2), (16, .aload_n 0), (17, .getfield 7), (20, .isub), (21, .goto 4), (24, .iload_n 2), (25, .ireturn)]
/-- PackWatch$Mark.<init>()V -/
def pw_t30 : List (Nat × Instr) := [(0, .aload_n 0), (1, .invokespecial 3), (4, .aload_n 0), (5, .bipush 16), (7, .newarray .int), (9, .putfield 9), (12, .aload_n 0), (13, .bipush 16), (15, .newarray .int), (17, .putfield 15), (20, .return_)]
/-- PackWatch$Mark.become(LPackWatch$Mark;)V -/
def pw_t31 : List (Nat × Instr) := [(0, .aload_n 1), (1, .getfield 9), (4, .iconst 0), (5, .aload_n 0), (6, .getfield 9), (9, .iconst 0), (10, .bipush 16), (12, .invokestatic 18), (15, .aload_n 1), (16, .getfield 15), (19, .iconst 0), (20, .aload_n 0), (21, .getfield 15), (24, .iconst 0), (25, .bipush 16), (27, .invokestatic 18), (30, .aload_n 0), (31, .aload_n 1), (32, .getfield 24), (35, .putfield 24), (38, .aload_n 0), (39, .aload_n 1), (40, .getfield 28), (43, .putfield 28), (46, .return_)]
/-- PackWatch$State.<init>()V -/
def pw_t32 : List (Nat × Instr) := [(0, .aload_n 0), (1, .invokespecial 3), (4, .aload_n 0), (5, .bipush 16), (7, .anewarray 9), (10, .putfield 11), (13, .aload_n 0), (14, .new 17), (17, .dup), (18, .invokespecial 19), (21, .putfield 20), (24, .aload_n 0), (25, .new 24), (28, .dup), (29, .invokespecial 26), (32, .putfield 27), (35, .aload_n 0), (36, .iconst 3), (37, .anewarray 31), (40, .putfield 33), (43, .aload_n 0), (44, .new 37), (47, .dup), (48, .bipush 32), (50, .invokespecial 39), (53, .putfield 42), (56, .iconst 0), (57, .istore_n 1), (58, .iload_n 1), (59, .bipush 16), (61, .if_icmp .ge 22), (64, .aload_n 0), (65, .getfield 11), (68, .iload_n 1), (69, .new 9), (72, .dup), (73, .invokespecial 46), (76, .aastore), (77, .iinc 1 1), (80, .goto (-22)), (83, .iconst 0), (84, .istore_n 1), (85, .iload_n 1), (86, .iconst 3), (87, .if_icmp .ge 22), (90, .aload_n 0), (91, .getfield 33), (94, .iload_n 1), (95, .new 31), (98, .dup), (99, .invokespecial 47), (102, .aastore), (103, .iinc 1 1), (106, .goto (-21)), (109, .aload_n 0), (110, .getstatic 48), (113, .bipush 6), (115, .iaload), (116, .putfield 52), (119, .return_)]
/-- PackWatch$State.become(LPackWatch$State;)V -/
def pw_t33 : List (Nat × Instr) := [(0, .iconst 0), (1, .istore_n 2), (2, .iload_n 2), (3, .aload_n 1), (4, .getfield 56), (7, .if_icmp .ge 24), (10, .aload_n 0), (11, .getfield 11), (14, .iload_n 2), (15, .aaload), (16, .aload_n 1), (17, .getfield 11), (20, .iload_n 2), (21, .aaload), (22, .invokevirtual 59), (25, .iinc 2 1), (28, .goto (-26)), (31, .iconst 0), (32, .istore_n 2), (33, .iload_n 2), (34, .iconst 3), (35, .if_icmp .ge 24), (38, .aload_n 0), (39, .getfield 33), (42, .iload_n 2), (43, .aaload), (44, .aload_n 1), (45, .getfield 33), (48, .iload_n 2), (49, .aaload), (50, .invokevirtual 63), (53, .iinc 2 1), (56, .goto (-23)), (59, .aload_n 0), (60, .getfield 20), (63, .aload_n 1), (64, .getfield 20), (67, .invokevirtual 66), (70, .aload_n 0), (71, .getfield 27), (74, .aload_n 1), (75, .getfield 27), (78, .invokevirtual 69), (81, .aload_n 0), (82, .getfield 42), (85, .aload_n 1), (86, .getfield 42), (89, .invokevirtual 72), (92, .aload_n 0), (93, .aload_n 1), (94, .getfield 56), (97, .putfield 56), (100, .aload_n 0), (101, .aload_n 1), (102, .getfield 75), (105, .putfield 75), (108, .aload_n 0), (109, .aload_n 1), (110, .getfield 78), (113, .putfield 78), (116, .aload_n 0), (117, .aload_n 1), (118, .getfield 81), (121, .putfield 81), (124, .aload_n 0), (125, .aload_n 1), (126, .getfield 84), (129, .putfield 84), (132, .aload_n 0), (133, .aload_n 1), (134, .getfield 87), (137, .putfield 87), (140, .aload_n 0), (141, .aload_n 1), (142, .getfield 52), (145, .putfield 52), (148, .aload_n 0), (149, .aload_n 1), (150, .getfield 90), (153, .putfield 90), (156, .aload_n 0), (157, .aload_n 1), (158, .getfield 93), (161, .putfield 93), (164, .aload_n 0), (165, .aload_n 1), (166, .getfield 96), (169, .putfield 96), (172, .aload_n 0), (173, .aload_n 1), (174, .getfield 99), (177, .putfield 99), (180, .aload_n 0), (181, .aload_n 1), (182, .getfield 102), (185, .putfield 102), (188, .return_)]
/-- PackWatch$State.hasCell(I)Z -/
def pw_t34 : List (Nat × Instr) := [(0, .iload_n 1), (1, .iconst 0), (2, .aload_n 0), (3, .getfield 56), (6, .iconst 1), (7, .isub), (8, .invokestatic 105), (11, .ireturn)]
/-- PackWatch$State.addCell(III)I -/
def pw_t35 : List (Nat × Instr) := [(0, .aload_n 0), (1, .getfield 11), (4, .aload_n 0), (5, .getfield 56), (8, .aaload), (9, .iload_n 1), (10, .iload_n 2), (11, .iload_n 3), (12, .aload_n 0), (13, .getfield 20), (16, .getfield 109), (19, .bipush 6), (21, .iaload), (22, .invokevirtual 112), (25, .aload_n 0), (26, .dup), (27, .getfield 56), (30, .iconst 1), (31, .iadd), (32, .putfield 56), (35, .aload_n 0), (36, .getfield 56), (39, .iconst 1), (40, .isub), (41, .ireturn)]
/-- PackWatch$State.layMark(I)V -/
def pw_t36 : List (Nat × Instr) := [(0, .aload_n 0), (1, .getfield 33), (4, .iload_n 1), (5, .aaload), (6, .astore_n 2), (7, .iconst 0), (8, .istore_n 3), (9, .iload_n 3), (10, .aload_n 0), (11, .getfield 56), (14, .if_icmp .ge 39), (17, .aload_n 2), (18, .getfield 116), (21, .iload_n 3), (22, .aload_n 0), (23, .getfield 11), (26, .iload_n 3), (27, .aaload), (28, .getfield 119), (31, .iastore), (32, .aload_n 2), (33, .getfield 122), (36, .iload_n 3), (37, .aload_n 0), (38, .getfield 11), (41, .iload_n 3), (42, .aaload), (43, .getfield 125), (46, .iastore), (47, .iinc 3 1), (50, .goto (-41)), (53, .aload_n 2), (54, .aload_n 0), (55, .getfield 56), (58, .putfield 128), (61, .aload_n 2), (62, .aload_n 0), (63, .getfield 75), (66, .putfield 129), (69, .return_)]
/-- PackWatch$State.couldReset(I)Z -/
def pw_t37 : List (Nat × Instr) := [(0, .iload_n 1), (1, .iconst 0), (2, .bipush 10), (4, .invokestatic 105), (7, .ifCond .eq 17), (10, .aload_n 0), (11, .getfield 27), (14, .getfield 130), (17, .iconst 1), (18, .iload_n 1), (19, .ishl), (20, .iand), (21, .ifCond .ne 5), (24, .iconst 0), (25, .ireturn), (26, .aload_n 0), (27, .getfield 78), (30, .ifCond .ne 34), (33, .aload_n 0), (34, .getfield 75), (37, .aload_n 0), (38, .getfield 27), (41, .getfield 133), (44, .iload_n 1), (45, .iaload), (46, .isub), (47, .aload_n 0), (48, .getfield 20), (51, .getfield 109), (54, .bipush 21), (56, .iaload), (57, .if_icmp .lt 7), (60, .iconst 1), (61, .goto 4), (64, .iconst 0), (65, .ireturn)]
/-- PackWatch$State.packAt(I)I -/
def pw_t38 : List (Nat × Instr) := [(0, .iconst 0), (1, .istore_n 2), (2, .iconst 0), (3, .istore_n 3), (4, .iload_n 3), (5, .aload_n 0), (6, .getfield 56), (9, .if_icmp .ge 22), (12, .iload_n 2), (13, .aload_n 0), (14, .getfield 11), (17, .iload_n 3), (18, .aaload), (19, .iload_n 1), (20, .invokevirtual 136), (23, .iadd), (24, .istore_n 2), (25, .iinc 3 1), (28, .goto (-24)), (31, .iload_n 2), (32, .ireturn)]
/-- PackWatch$State.leastPart()I -/
def pw_t39 : List (Nat × Instr) := [(0, .sipush 1000), (3, .istore_n 1), (4, .iconst 0), (5, .istore_n 2), (6, .iload_n 2), (7, .aload_n 0), (8, .getfield 56), (11, .if_icmp .ge 23), (14, .iload_n 1), (15, .aload_n 0), (16, .getfield 11), (19, .iload_n 2), (20, .aaload), (21, .getfield 119), (24, .invokestatic 140), (27, .istore_n 1), (28, .iinc 2 1), (31, .goto (-25)), (34, .iload_n 1), (35, .ireturn)]
/-- PackWatch$State.partSpread()I -/
def pw_t40 : List (Nat × Instr) := [(0, .aload_n 0), (1, .getfield 56), (4, .ifCond .ne 7), (7, .iconst (-1)), (8, .goto 12), (11, .aload_n 0), (12, .iconst 0), (13, .aload_n 0), (14, .getfield 56), (17, .invokevirtual 146), (20, .ireturn)]
/-- PackWatch$State.spreadOf(II)I -/
def pw_t41 : List (Nat × Instr) := [(0, .sipush 1000), (3, .istore_n 3), (4, .iconst 0), (5, .istore 4), (7, .iload_n 1), (8, .istore 5), (10, .iload 5), (12, .iload_n 2), (13, .if_icmp .ge 41), (16, .iload_n 3), (17, .aload_n 0), (18, .getfield 11), (21, .iload 5), (23, .aaload), (24, .getfield 119), (27, .invokestatic 140), (30, .istore_n 3), (31, .iload 4), (33, .aload_n 0), (34, .getfield 11), (37, .iload 5), (39, .aaload), (40, .getfield 119), (43, .invokestatic 149), (46, .istore 4), (48, .iinc 5 1), (51, .goto (-41)), (54, .iload 4), (56, .iload_n 3), (57, .isub), (58, .ireturn)]
/-- PackWatch$State.allCharge()J -/
def pw_t42 : List (Nat × Instr) := [(0, .lconst 0), (1, .lstore_n 1), (2, .iconst 0), (3, .istore_n 3), (4, .iload_n 3), (5, .aload_n 0), (6, .getfield 56), (9, .if_icmp .ge 22), (12, .lload_n 1), (13, .aload_n 0), (14, .getfield 11), (17, .iload_n 3), (18, .aaload), (19, .getfield 152), (22, .i2l), (23, .ladd), (24, .lstore_n 1), (25, .iinc 3 1), (28, .goto (-24)), (31, .lload_n 1), (32, .lreturn)]
/-- PackWatch$State.allFull()J -/
def pw_t43 : List (Nat × Instr) := [(0, .lconst 0), (1, .lstore_n 1), (2, .iconst 0), (3, .istore_n 3), (4, .iload_n 3), (5, .aload_n 0), (6, .getfield 56), (9, .if_icmp .ge 22), (12, .lload_n 1), (13, .aload_n 0), (14, .getfield 11), (17, .iload_n 3), (18, .aaload), (19, .invokevirtual 155), (22, .i2l), (23, .ladd), (24, .lstore_n 1), (25, .iinc 3 1), (28, .goto (-24)), (31, .lload_n 1), (32, .lreturn)]
/-- PackWatch$State.goalPart()I -/
def pw_t44 : List (Nat × Instr) := [(0, .aload_n 0), (1, .invokevirtual 159), (4, .lstore_n 1), (5, .lload_n 1), (6, .lconst 0), (7, .lcmp), (8, .ifCond .gt 7), (11, .iconst (-1)), (12, .goto 14), (15, .aload_n 0), (16, .invokevirtual 163), (19, .ldc2_w 166), (22, .lmul), (23, .lload_n 1), (24, .ldiv), (25, .l2i), (26, .ireturn)]
/-- PackWatch$State.chargeApart(I)I -/
def pw_t45 : List (Nat × Instr) := [(0, .iconst 0), (1, .istore_n 2), (2, .iconst 0), (3, .istore_n 3), (4, .iload_n 3), (5, .aload_n 0), (6, .getfield 56), (9, .if_icmp .ge 42), (12, .iload_n 2), (13, .iload_n 1), (14, .iload_n 3), (15, .ishr), (16, .iconst 1), (17, .iand), (18, .ifCond .eq 15), (21, .aload_n 0), (22, .getfield 11), (25, .iload_n 3), (26, .aaload), (27, .getfield 152), (30, .goto 13), (33, .aload_n 0), (34, .getfield 11), (37, .iload_n 3), (38, .aaload), (39, .getfield 152), (42, .ineg), (43, .iadd), (44, .istore_n 2), (45, .iinc 3 1), (48, .goto (-44)), (51, .iload_n 2), (52, .ireturn)]
/-- PackWatch$State.rankedCell(I)I -/
def pw_t46 : List (Nat × Instr) := [(0, .iconst 0), (1, .istore_n 2), (2, .iload_n 2), (3, .aload_n 0), (4, .getfield 56), (7, .if_icmp .ge 20), (10, .aload_n 0), (11, .iload_n 2), (12, .invokevirtual 168), (15, .iload_n 1), (16, .if_icmp .ne 5), (19, .iload_n 2), (20, .ireturn), (21, .iinc 2 1), (24, .goto (-22)), (27, .iconst (-1)), (28, .ireturn)]
/-- PackWatch$State.placeOf(I)I -/
def pw_t47 : List (Nat × Instr) := [(0, .iconst 0), (1, .istore_n 2), (2, .aload_n 0), (3, .getfield 11), (6, .iload_n 1), (7, .aaload), (8, .getfield 119), (11, .istore_n 3), (12, .iconst 0), (13, .istore 4), (15, .iload 4), (17, .aload_n 0), (18, .getfield 56), (21, .if_icmp .ge 63), (24, .aload_n 0), (25, .getfield 11), (28, .iload 4), (30, .aaload), (31, .getfield 119), (34, .iload_n 3), (35, .if_icmp .ne 13), (38, .iload 4), (40, .iload_n 1), (41, .if_icmp .ge 7), (44, .iconst 1), (45, .goto 4), (48, .iconst 0), (49, .istore 5), (51, .iload_n 2), (52, .iload 5), (54, .ifCond .ne 17), (57, .aload_n 0), (58, .getfield 11), (61, .iload 4), (63, .aaload), (64, .getfield 119), (67, .iload_n 3), (68, .if_icmp .le 7), (71, .iconst 1), (72, .goto 4), (75, .iconst 0), (76, .iadd), (77, .istore_n 2), (78, .iinc 4 1), (81, .goto (-66)), (84, .iload_n 2), (85, .ireturn)]
/-- PackWatch$State.middlePart()I -/
def pw_t48 : List (Nat × Instr) := [(0, .aload_n 0), (1, .aload_n 0), (2, .getfield 56), (5, .iconst 2), (6, .idiv), (7, .invokevirtual 171), (10, .istore_n 1), (11, .iload_n 1), (12, .iconst (-1)), (13, .if_icmp .ne 7), (16, .iconst (-1)), (17, .goto 12), (20, .aload_n 0), (21, .getfield 11), (24, .iload_n 1), (25, .aaload), (26, .getfield 119), (29, .ireturn)]
/-- PackWatch$State.hasEnded(I)Z -/
def pw_t49 : List (Nat × Instr) := [(0, .iconst 0), (1, .istore_n 2), (2, .iload_n 2), (3, .aload_n 0), (4, .getfield 56), (7, .if_icmp .ge 40), (10, .aload_n 0), (11, .getfield 11), (14, .iload_n 2), (15, .aaload), (16, .getfield 152), (19, .iload_n 1), (20, .ifCond .ne 15), (23, .aload_n 0), (24, .getfield 11), (27, .iload_n 2), (28, .aaload), (29, .invokevirtual 155), (32, .goto 4), (35, .iconst 0), (36, .if_icmp .ne 5), (39, .iconst 1), (40, .ireturn), (41, .iinc 2 1), (44, .goto (-42)), (47, .iconst 0), (48, .ireturn)]
/-- PackWatch$State.limitOf(I)I -/
def pw_t50 : List (Nat × Instr) := [(0, .aload_n 0), (1, .getfield 20), (4, .getfield 109), (7, .iconst 4), (8, .iaload), (9, .istore_n 2), (10, .aload_n 0), (11, .iload_n 1), (12, .invokevirtual 174), (15, .istore_n 3), (16, .iload_n 3), (17, .iconst (-1)), (18, .if_icmp .ne 7), (21, .iload_n 2), (22, .goto 21), (25, .iload_n 2), (26, .aload_n 0), (27, .getfield 11), (30, .iload_n 3), (31, .aaload), (32, .iload_n 1), (33, .aload_n 0), (34, .getfield 20), (37, .invokevirtual 177), (40, .invokestatic 140), (43, .ireturn)]
/-- PackWatch$State.worstCell(I)I -/
def pw_t51 : List (Nat × Instr) := [(0, .iconst (-1)), (1, .istore_n 2), (2, .ldc 181), (4, .istore_n 3), (5, .iconst 0), (6, .istore 4), (8, .iload 4), (10, .aload_n 0), (11, .getfield 56), (14, .if_icmp .ge 43), (17, .aload_n 0), (18, .getfield 11), (21, .iload 4), (23, .aaload), (24, .iload_n 1), (25, .aload_n 0), (26, .getfield 20), (29, .invokevirtual 177), (32, .istore 5), (34, .iload_n 2), (35, .iconst (-1)), (36, .if_icmp .eq 9), (39, .iload 5), (41, .iload_n 3), (42, .if_icmp .ge 9), (45, .iload 4), (47, .istore_n 2), (48, .iload 5), (50, .istore_n 3), (51, .iinc 4 1), (54, .goto (-46)), (57, .iload_n 2), (58, .ireturn)]
/-- PackWatch$State.orderedBits()I -/
def pw_t52 : List (Nat × Instr) := [(0, .aload_n 0), (1, .getfield 78), (4, .ifCond .ne 5), (7, .iconst 0), (8, .ireturn), (9, .aload_n 0), (10, .getfield 78), (13, .iconst 1), (14, .if_icmp .ne 7), (17, .iconst 3), (18, .goto 4), (21, .iconst 5), (22, .ireturn)]
/-- PackWatch$State.actualBits()I -/
def pw_t53 : List (Nat × Instr) := [(0, .aload_n 0), (1, .invokevirtual 182), (4, .istore_n 1), (5, .iconst 0), (6, .istore_n 2), (7, .iload_n 2), (8, .aload_n 0), (9, .getfield 20), (12, .getfield 185), (15, .arraylength), (16, .if_icmp .ge 52), (19, .aload_n 0), (20, .getfield 20), (23, .getfield 185), (26, .iload_n 2), (27, .iaload), (28, .iconst 1), (29, .if_icmp .ne 12), (32, .iload_n 1), (33, .iconst 1), (34, .iload_n 2), (35, .ishl), (36, .ior), (37, .istore_n 1), (38, .goto 24), (41, .aload_n 0), (42, .getfield 20), (45, .getfield 185), (48, .iload_n 2), (49, .iaload), (50, .iconst 2), (51, .if_icmp .ne 11), (54, .iload_n 1), (55, .iconst 1), (56, .iload_n 2), (57, .ishl), (58, .iconst (-1)), (59, .ixor), (60, .iand), (61, .istore_n 1), (62, .iinc 2 1), (65, .goto (-58)), (68, .iload_n 1), (69, .ireturn)]
/-- PackWatch$State.areActual(I)Z -/
def pw_t54 : List (Nat × Instr) := [(0, .aload_n 0), (1, .invokevirtual 188), (4, .iload_n 1), (5, .iand), (6, .iload_n 1), (7, .if_icmp .ne 7), (10, .iconst 1), (11, .goto 4), (14, .iconst 0), (15, .ireturn)]
/-- PackWatch$State.passSeconds(I)I -/
def pw_t55 : List (Nat × Instr) := [(0, .iconst 0), (1, .istore_n 2), (2, .iconst 0), (3, .istore_n 3), (4, .iload_n 3), (5, .iload_n 1), (6, .if_icmp .ge 16), (9, .iload_n 2), (10, .aload_n 0), (11, .invokevirtual 191), (14, .iadd), (15, .istore_n 2), (16, .iinc 3 1), (19, .goto (-15)), (22, .iload_n 2), (23, .ireturn)]
/-- PackWatch$State.passDrive()I -/
def pw_t56 : List (Nat × Instr) := [(0, .iconst 0), (1, .istore_n 1), (2, .iconst 0), (3, .istore_n 2), (4, .iload_n 2), (5, .aload_n 0), (6, .getfield 20), (9, .getfield 194), (12, .if_icmp .ge 77), (15, .aload_n 0), (16, .getfield 20), (19, .getfield 109), (22, .bipush 20), (24, .aload_n 0), (25, .getfield 20), (28, .getfield 197), (31, .iload_n 2), (32, .iconst 2), (33, .imul), (34, .iaload), (35, .iastore), (36, .aload_n 0), (37, .getfield 20), (40, .getfield 197), (43, .iload_n 2), (44, .iconst 2), (45, .imul), (46, .iconst 1), (47, .iadd), (48, .iaload), (49, .sipush 9999), (52, .aload_n 0), (53, .getfield 75), (56, .isub), (57, .invokestatic 140), (60, .istore_n 3), (61, .iconst 0), (62, .istore 4), (64, .iload 4), (66, .iload_n 3), (67, .if_icmp .ge 16), (70, .iload_n 1), (71, .aload_n 0), (72, .invokevirtual 191), (75, .iadd), (76, .istore_n 1), (77, .iinc 4 1), (80, .goto (-16)), (83, .iinc 2 1), (86, .goto (-82)), (89, .iload_n 1), (90, .ireturn)]
/-- PackWatch$State.passSecond()I -/
def pw_t57 : List (Nat × Instr) := [(0, .aload_n 0), (1, .aload_n 0), (2, .getfield 75), (5, .iconst 1), (6, .iadd), (7, .sipush 9999), (10, .invokestatic 140), (13, .putfield 75), (16, .aload_n 0), (17, .invokevirtual 200), (20, .ifCond .eq 8), (23, .bipush 32), (25, .goto 4), (28, .iconst 0), (29, .istore_n 1), (30, .aload_n 0), (31, .invokevirtual 204), (34, .aload_n 0), (35, .invokevirtual 207), (38, .aload_n 0), (39, .invokevirtual 210), (42, .aload_n 0), (43, .dup), (44, .getfield 52), (47, .aload_n 0), (48, .getfield 20), (51, .getfield 109), (54, .bipush 6), (56, .iaload), (57, .aload_n 0), (58, .getfield 52), (61, .isub), (62, .bipush 16), (64, .idiv), (65, .iadd), (66, .putfield 52), (69, .aload_n 0), (70, .invokevirtual 213), (73, .aload_n 0), (74, .getfield 27), (77, .iload_n 1), (78, .aload_n 0), (79, .invokevirtual 216), (82, .ior), (83, .aload_n 0), (84, .invokevirtual 219), (87, .ior), (88, .aload_n 0), (89, .getfield 75), (92, .invokevirtual 222), (95, .istore_n 2), (96, .aload_n 0), (97, .getfield 27), (100, .getfield 130), (103, .ifCond .eq 8), (106, .aload_n 0), (107, .iconst 0), (108, .putfield 78), (111, .aload_n 0), (112, .invokevirtual 225), (115, .aload_n 0), (116, .invokevirtual 228), (119, .aload_n 0), (120, .aload_n 0), (121, .getfield 84), (124, .putfield 87), (127, .iload_n 2), (128, .ireturn)]
/-- PackWatch$State.moveBus()Z -/
def pw_t58 : List (Nat × Instr) := [(0, .aload_n 0), (1, .getfield 81), (4, .istore_n 1), (5, .aload_n 0), (6, .iconst 0), (7, .invokevirtual 231), (10, .istore_n 2), (11, .aload_n 0), (12, .iconst 5), (13, .invokevirtual 234), (16, .ifCond .eq 11), (19, .aload_n 0), (20, .iload_n 2), (21, .putfield 81), (24, .goto 66), (27, .aload_n 0), (28, .iconst 3), (29, .invokevirtual 234), (32, .ifCond .eq 46), (35, .iload_n 2), (36, .aload_n 0), (37, .getfield 81), (40, .isub), (41, .iconst 0), (42, .invokestatic 149), (45, .iconst 3), (46, .iadd), (47, .iconst 4), (48, .idiv), (49, .istore_n 3), (50, .aload_n 0), (51, .aload_n 0), (52, .getfield 81), (55, .iload_n 3), (56, .iadd), (57, .aload_n 0), (58, .getfield 20), (61, .getfield 109), (64, .bipush 7), (66, .iaload), (67, .isub), (68, .iconst 0), (69, .invokestatic 149), (72, .putfield 81), (75, .goto 15), (78, .aload_n 0), (79, .aload_n 0), (80, .getfield 81), (83, .iconst 2), (84, .invokestatic 238), (87, .putfield 81), (90, .aload_n 0), (91, .getfield 78), (94, .iconst 1), (95, .if_icmp .eq 5), (98, .iconst 0), (99, .ireturn), (100, .aload_n 0), (101, .getfield 81), (104, .sipush 1000), (107, .imul), (108, .sipush 950), (111, .iload_n 2), (112, .imul), (113, .if_icmp .lt 10), (116, .aload_n 0), (117, .iconst 2), (118, .putfield 78), (121, .iconst 0), (122, .ireturn), (123, .aload_n 0), (124, .getfield 81), (127, .iload_n 1), (128, .isub), (129, .aload_n 0), (130, .getfield 20), (133, .getfield 109), (136, .bipush 8), (138, .iaload), (139, .if_icmp .ge 7), (142, .iconst 1), (143, .goto 4), (146, .iconst 0), (147, .ireturn)]
/-- PackWatch$State.letCurrent()V -/
def pw_t59 : List (Nat × Instr) := [(0, .aload_n 0), (1, .iconst 0), (2, .putfield 84), (5, .aload_n 0), (6, .iconst 5), (7, .invokevirtual 234), (10, .ifCond .ne 4), (13, .return_), (14, .aload_n 0), (15, .getfield 20), (18, .getfield 109), (21, .bipush 20), (23, .iaload), (24, .istore_n 1), (25, .iload_n 1), (26, .ifCond .ge 7), (29, .iconst 1), (30, .goto 4), (33, .iconst 0), (34, .istore_n 2), (35, .aload_n 0), (36, .iload_n 2), (37, .invokevirtual 241), (40, .istore_n 3), (41, .aload_n 0), (42, .iload_n 1), (43, .iload_n 3), (44, .ineg), (45, .iload_n 3), (46, .invokestatic 244), (49, .putfield 84), (52, .aload_n 0), (53, .getfield 84), (56, .iload_n 1), (57, .if_icmp .eq 8), (60, .aload_n 0), (61, .iload_n 2), (62, .invokevirtual 248), (65, .return_)]
/-- PackWatch$State.countHeldBack(I)V -/
def pw_t60 : List (Nat × Instr) := [(0, .aload_n 0), (1, .iload_n 1), (2, .invokevirtual 174), (5, .istore_n 2), (6, .iload_n 2), (7, .iconst (-1)), (8, .if_icmp .eq 44), (11, .aload_n 0), (12, .getfield 11), (15, .iload_n 2), (16, .aaload), (17, .iload_n 1), (18, .aload_n 0), (19, .getfield 20), (22, .invokevirtual 177), (25, .aload_n 0), (26, .getfield 20), (29, .getfield 109), (32, .iconst 4), (33, .iaload), (34, .if_icmp .gt 18), (37, .aload_n 0), (38, .getfield 11), (41, .iload_n 2), (42, .aaload), (43, .dup), (44, .getfield 251), (47, .iconst 1), (48, .iadd), (49, .putfield 251), (52, .return_)]
/-- PackWatch$State.passCells()V -/
def pw_t61 : List (Nat × Instr) := [(0, .iconst 0), (1, .istore_n 1), (2, .iload_n 1), (3, .aload_n 0), (4, .getfield 56), (7, .if_icmp .ge 26), (10, .aload_n 0), (11, .getfield 11), (14, .iload_n 1), (15, .aaload), (16, .aload_n 0), (17, .getfield 84), (20, .aload_n 0), (21, .getfield 20), (24, .invokevirtual 254), (27, .iinc 1 1), (30, .goto (-28)), (33, .iconst 0), (34, .istore_n 1), (35, .iload_n 1), (36, .iconst 1), (37, .iadd), (38, .aload_n 0), (39, .getfield 56), (42, .if_icmp .ge 78), (45, .aload_n 0), (46, .getfield 11), (49, .iload_n 1), (50, .iconst 1), (51, .iadd), (52, .aaload), (53, .getfield 258), (56, .aload_n 0), (57, .getfield 11), (60, .iload_n 1), (61, .aaload), (62, .getfield 258), (65, .isub), (66, .aload_n 0), (67, .getfield 20), (70, .getfield 109), (73, .bipush 22), (75, .iaload), (76, .imul), (77, .sipush 256), (80, .idiv), (81, .istore_n 2), (82, .aload_n 0), (83, .getfield 11), (86, .iload_n 1), (87, .aaload), (88, .dup), (89, .getfield 258), (92, .iload_n 2), (93, .iadd), (94, .putfield 258), (97, .aload_n 0), (98, .getfield 11), (101, .iload_n 1), (102, .iconst 1), (103, .iadd), (104, .aaload), (105, .dup), (106, .getfield 258), (109, .iload_n 2), (110, .isub), (111, .putfield 258), (114, .iinc 1 1), (117, .goto (-82)), (120, .return_)]
/-- PackWatch$State.balance()V -/
def pw_t62 : List (Nat × Instr) := [(0, .aload_n 0), (1, .iconst 0), (2, .putfield 102), (5, .aload_n 0), (6, .getfield 27), (9, .getfield 130), (12, .ifCond .eq 4), (15, .return_), (16, .aload_n 0), (17, .getfield 20), (20, .getfield 109), (23, .bipush 11), (25, .iaload), (26, .iconst 1), (27, .if_icmp .ne 10), (30, .aload_n 0), (31, .invokevirtual 261), (34, .goto 67), (37, .aload_n 0), (38, .getfield 20), (41, .getfield 109), (44, .bipush 11), (46, .iaload), (47, .iconst 2), (48, .if_icmp .ne 53), (51, .aload_n 0), (52, .getfield 75), (55, .iconst 2), (56, .irem), (57, .iconst 1), (58, .if_icmp .ne 7), (61, .iconst 0), (62, .goto 4), (65, .iconst 1), (66, .istore_n 1), (67, .iload_n 1), (68, .iconst 1), (69, .iadd), (70, .aload_n 0), (71, .getfield 56), (74, .if_icmp .ge 27), (77, .aload_n 0), (78, .aload_n 0), (79, .getfield 11), (82, .iload_n 1), (83, .aaload), (84, .aload_n 0), (85, .getfield 11), (88, .iload_n 1), (89, .iconst 1), (90, .iadd), (91, .aaload), (92, .invokevirtual 264), (95, .iinc 1 2), (98, .goto (-31)), (101, .return_)]
/-- PackWatch$State.shuntCells()V -/
def pw_t63 : List (Nat × Instr) := [(0, .aload_n 0), (1, .getfield 52), (4, .aload_n 0), (5, .getfield 20), (8, .getfield 109), (11, .iconst 2), (12, .iaload), (13, .if_icmp .lt 7), (16, .iconst 0), (17, .goto 13), (20, .aload_n 0), (21, .getfield 20), (24, .getfield 109), (27, .bipush 13), (29, .iaload), (30, .istore_n 1), (31, .aload_n 0), (32, .invokevirtual 268), (35, .aload_n 0), (36, .getfield 20), (39, .getfield 109), (42, .bipush 14), (44, .iaload), (45, .iadd), (46, .istore_n 2), (47, .iconst 0), (48, .istore_n 3), (49, .iload_n 3), (50, .iload_n 1), (51, .if_icmp .ge 42), (54, .aload_n 0), (55, .iload_n 2), (56, .aload_n 0), (57, .getfield 102), (60, .invokevirtual 271), (63, .istore 4), (65, .iload 4), (67, .iconst (-1)), (68, .if_icmp .ne 6), (71, .goto 22), (74, .aload_n 0), (75, .dup), (76, .getfield 102), (79, .iconst 1), (80, .iload 4), (82, .ishl), (83, .ior), (84, .putfield 102), (87, .iinc 3 1), (90, .goto (-41)), (93, .iconst 0), (94, .istore_n 3), (95, .iload_n 3), (96, .aload_n 0), (97, .getfield 56), (100, .if_icmp .ge 58), (103, .aload_n 0), (104, .getfield 102), (107, .iload_n 3), (108, .ishr), (109, .iconst 1), (110, .iand), (111, .ifCond .eq 41), (114, .aload_n 0), (115, .dup), (116, .getfield 93), (119, .aload_n 0), (120, .getfield 11), (123, .iload_n 3), (124, .aaload), (125, .aload_n 0), (126, .getfield 20), (129, .getfield 109), (132, .bipush 12), (134, .iaload), (135, .invokevirtual 274), (138, .iadd), (139, .putfield 93), (142, .aload_n 0), (143, .dup), (144, .getfield 52), (147, .iconst 3), (148, .iadd), (149, .putfield 52), (152, .iinc 3 1), (155, .goto (-60)), (158, .return_)]
/-- PackWatch$State.greatestAbove(II)I -/
def pw_t64 : List (Nat × Instr) := [(0, .iconst (-1)), (1, .istore_n 3), (2, .iload_n 1), (3, .istore 4), (5, .iconst 0), (6, .istore 5), (8, .iload 5), (10, .aload_n 0), (11, .getfield 56), (14, .if_icmp .ge 48), (17, .iload_n 2), (18, .iload 5), (20, .ishr), (21, .iconst 1), (22, .iand), (23, .ifCond .ne 33), (26, .aload_n 0), (27, .getfield 11), (30, .iload 5), (32, .aaload), (33, .getfield 119), (36, .iload 4), (38, .if_icmp .le 18), (41, .iload 5), (43, .istore_n 3), (44, .aload_n 0), (45, .getfield 11), (48, .iload 5), (50, .aaload), (51, .getfield 119), (54, .istore 4), (56, .iinc 5 1), (59, .goto (-51)), (62, .iload_n 3), (63, .ireturn)]
/-- PackWatch$State.shuttle(LPackWatch$Cell;LPackWatch$Cell;)V -/
def pw_t65 : List (Nat × Instr) := [(0, .aload_n 1), (1, .getfield 119), (4, .aload_n 2), (5, .getfield 119), (8, .isub), (9, .invokestatic 277), (12, .aload_n 0), (13, .getfield 20), (16, .getfield 109), (19, .bipush 14), (21, .iaload), (22, .if_icmp .gt 4), (25, .return_), (26, .aload_n 1), (27, .getfield 119), (30, .aload_n 2), (31, .getfield 119), (34, .if_icmp .le 7), (37, .aload_n 1), (38, .goto 4), (41, .aload_n 2), (42, .astore_n 3), (43, .aload_n 1), (44, .getfield 119), (47, .aload_n 2), (48, .getfield 119), (51, .if_icmp .le 7), (54, .aload_n 2), (55, .goto 4), (58, .aload_n 1), (59, .astore 4), (61, .aload_n 0), (62, .getfield 20), (65, .getfield 109), (68, .bipush 15), (70, .iaload), (71, .aload_n 3), (72, .getfield 152), (75, .invokestatic 140), (78, .istore 5), (80, .iload 5), (82, .aload_n 0), (83, .getfield 20), (86, .getfield 109), (89, .bipush 16), (91, .iaload), (92, .imul), (93, .bipush 100), (95, .idiv), (96, .aload 4), (98, .invokevirtual 155), (101, .aload 4), (103, .getfield 152), (106, .isub), (107, .invokestatic 140), (110, .istore 6), (112, .aload_n 3), (113, .iload 5), (115, .ineg), (116, .invokevirtual 280), (119, .aload 4), (121, .iload 6), (123, .invokevirtual 280), (126, .aload_n 0), (127, .dup), (128, .getfield 96), (131, .iload 5), (133, .iadd), (134, .putfield 96), (137, .aload_n 0), (138, .dup), (139, .getfield 99), (142, .iload 5), (144, .iload 6), (146, .isub), (147, .iadd), (148, .putfield 99), (151, .return_)]
/-- PackWatch$State.measure()V -/
def pw_t66 : List (Nat × Instr) := [(0, .aload_n 0), (1, .aload_n 0), (2, .getfield 84), (5, .ifCond .ne 12), (8, .aload_n 0), (9, .getfield 90), (12, .iconst 1), (13, .iadd), (14, .goto 4), (17, .iconst 0), (18, .putfield 90), (21, .aload_n 0), (22, .getfield 90), (25, .aload_n 0), (26, .getfield 20), (29, .getfield 109), (32, .bipush 19), (34, .iaload), (35, .if_icmp .ne 7), (38, .iconst 1), (39, .goto 4), (42, .iconst 0), (43, .istore_n 1), (44, .iconst 0), (45, .istore_n 2), (46, .iload_n 2), (47, .aload_n 0), (48, .getfield 56), (51, .if_icmp .ge 39), (54, .aload_n 0), (55, .getfield 11), (58, .iload_n 2), (59, .aaload), (60, .aload_n 0), (61, .getfield 84), (64, .aload_n 0), (65, .getfield 87), (68, .invokevirtual 283), (71, .iload_n 1), (72, .ifCond .eq 12), (75, .aload_n 0), (76, .getfield 11), (79, .iload_n 2), (80, .aaload), (81, .invokevirtual 286), (84, .iinc 2 1), (87, .goto (-41)), (90, .aload_n 0), (91, .iconst 5), (92, .invokevirtual 234), (95, .ifCond .eq 15), (98, .aload_n 0), (99, .aload_n 0), (100, .aload_n 0), (101, .getfield 84), (104, .invokevirtual 231), (107, .putfield 81), (110, .aload_n 0), (111, .getfield 78), (114, .iconst 2), (115, .if_icmp .ne 7), (118, .aload_n 0), (119, .invokevirtual 289), (122, .return_)]
/-- PackWatch$State.taper()V -/
def pw_t67 : List (Nat × Instr) := [(0, .aload_n 0), (1, .getfield 20), (4, .getfield 109), (7, .bipush 23), (9, .iaload), (10, .istore_n 1), (11, .aload_n 0), (12, .getfield 20), (15, .getfield 109), (18, .bipush 20), (20, .iaload), (21, .istore_n 2), (22, .iload_n 1), (23, .ifCond .le 7), (26, .iload_n 2), (27, .ifCond .gt 4), (30, .return_), (31, .iconst 0), (32, .istore_n 3), (33, .iload_n 3), (34, .aload_n 0), (35, .getfield 56), (38, .if_icmp .ge 59), (41, .aload_n 0), (42, .getfield 11), (45, .iload_n 3), (46, .aaload), (47, .aload_n 0), (48, .getfield 84), (51, .invokevirtual 136), (54, .iload_n 1), (55, .if_icmp .lt 36), (58, .iload_n 2), (59, .bipush 9), (61, .imul), (62, .bipush 10), (64, .idiv), (65, .istore 4), (67, .aload_n 0), (68, .getfield 20), (71, .getfield 109), (74, .bipush 20), (76, .iload 4), (78, .bipush 100), (80, .if_icmp .ge 7), (83, .iconst 0), (84, .goto 5), (87, .iload 4), (89, .iastore), (90, .return_), (91, .iinc 3 1), (94, .goto (-61)), (97, .return_)]
/-- PackWatch$State.faultsOfCells()I -/
def pw_t68 : List (Nat × Instr) := [(0, .aload_n 0), (1, .getfield 20), (4, .getfield 109), (7, .astore_n 1), (8, .iconst (-1)), (9, .istore_n 2), (10, .iconst (-1)), (11, .istore_n 3), (12, .iconst (-1)), (13, .istore 4), (15, .iconst (-1)), (16, .istore 5), (18, .aload_n 0), (19, .getfield 56), (22, .iconst 1), (23, .isub), (24, .istore 6), (26, .iload 6), (28, .ifCond .lt 108), (31, .aload_n 0), (32, .getfield 11), (35, .iload 6), (37, .aaload), (38, .aload_n 0), (39, .getfield 84), (42, .invokevirtual 136), (45, .istore 7), (47, .aload_n 0), (48, .getfield 11), (51, .iload 6), (53, .aaload), (54, .getfield 258), (57, .istore 8), (59, .iload 7), (61, .aload_n 1), (62, .iconst 0), (63, .iaload), (64, .if_icmp .le 8), (67, .iload 6), (69, .goto 4), (72, .iload_n 2), (73, .istore_n 2), (74, .iload 7), (76, .aload_n 1), (77, .iconst 1), (78, .iaload), (79, .if_icmp .ge 8), (82, .iload 6), (84, .goto 4), (87, .iload_n 3), (88, .istore_n 3), (89, .iload 8), (91, .aload_n 1), (92, .iconst 2), (93, .iaload), (94, .if_icmp .le 8), (97, .iload 6), (99, .goto 5), (102, .iload 4), (104, .istore 4), (106, .aload_n 0), (107, .getfield 84), (110, .ifCond .le 16), (113, .iload 8), (115, .aload_n 1), (116, .iconst 3), (117, .iaload), (118, .if_icmp .ge 8), (121, .iload 6), (123, .goto 5), (126, .iload 5), (128, .istore 5), (130, .iinc 6 (-1)), (133, .goto (-107)), (136, .iload_n 2), (137, .iconst (-1)), (138, .if_icmp .eq 15), (141, .aload_n 0), (142, .getfield 27), (145, .iconst 0), (146, .iload_n 2), (147, .invokevirtual 292), (150, .goto 4), (153, .iconst 0), (154, .istore 6), (156, .iload 6), (158, .iload_n 3), (159, .iconst (-1)), (160, .if_icmp .eq 15), (163, .aload_n 0), (164, .getfield 27), (167, .iconst 1), (168, .iload_n 3), (169, .invokevirtual 292), (172, .goto 4), (175, .iconst 0), (176, .ior), (177, .istore 6), (179, .iload 6), (181, .iload 4), (183, .iconst (-1)), (184, .if_icmp .ne 13), (187, .aload_n 0), (188, .getfield 52), (191, .aload_n 1), (192, .iconst 2), (193, .iaload), (194, .if_icmp .le 16), (197, .aload_n 0), (198, .getfield 27), (201, .iconst 2), (202, .iload 4), (204, .invokevirtual 292), (207, .goto 4), (210, .iconst 0), (211, .ior), (212, .istore 6), (214, .iload 6), (216, .iload 5), (218, .iconst (-1)), (219, .if_icmp .eq 16), (222, .aload_n 0), (223, .getfield 27), (226, .iconst 3), (227, .iload 5), (229, .invokevirtual 292), (232, .goto 4), (235, .iconst 0), (236, .ior), (237, .istore 6), (239, .iload 6), (241, .ireturn)]
/-- PackWatch$State.faultsOfPack()I -/
def pw_t69 : List (Nat × Instr) := [(0, .aload_n 0), (1, .getfield 20), (4, .getfield 109), (7, .astore_n 1), (8, .aload_n 0), (9, .getfield 78), (12, .iconst 2), (13, .if_icmp .ne 20), (16, .aload_n 1), (17, .bipush 20), (19, .iaload), (20, .invokestatic 277), (23, .aload_n 1), (24, .iconst 4), (25, .iaload), (26, .if_icmp .le 7), (29, .iconst 1), (30, .goto 4), (33, .iconst 0), (34, .istore_n 2), (35, .iload_n 2), (36, .ifCond .eq 8), (39, .bipush 16), (41, .goto 4), (44, .iconst 0), (45, .istore_n 3), (46, .iload_n 3), (47, .aload_n 0), (48, .getfield 27), (51, .aload_n 1), (52, .bipush 9), (54, .iaload), (55, .aload_n 1), (56, .bipush 10), (58, .iaload), (59, .if_icmp .ge 7), (62, .iconst 1), (63, .goto 4), (66, .iconst 0), (67, .invokevirtual 295), (70, .ior), (71, .istore_n 3), (72, .iload_n 3), (73, .aload_n 0), (74, .invokevirtual 299), (77, .aload_n 1), (78, .bipush 17), (80, .iaload), (81, .if_icmp .le 9), (84, .sipush 128), (87, .goto 4), (90, .iconst 0), (91, .ior), (92, .istore_n 3), (93, .iload_n 3), (94, .aload_n 0), (95, .getfield 27), (98, .aload_n 0), (99, .invokevirtual 188), (102, .aload_n 0), (103, .invokevirtual 182), (106, .if_icmp .eq 7), (109, .iconst 1), (110, .goto 4), (113, .iconst 0), (114, .invokevirtual 302), (117, .ior), (118, .istore_n 3), (119, .iload_n 3), (120, .aload_n 0), (121, .getfield 27), (124, .aload_n 1), (125, .bipush 28), (127, .iaload), (128, .invokevirtual 305), (131, .ior), (132, .istore_n 3), (133, .iload_n 3), (134, .aload_n 1), (135, .bipush 29), (137, .iaload), (138, .ifCond .ne 9), (141, .sipush 1024), (144, .goto 4), (147, .iconst 0), (148, .ior), (149, .istore_n 3), (150, .iload_n 3), (151, .ireturn)]
/-- PackWatch$State.keepTrack()V -/
def pw_t70 : List (Nat × Instr) := [(0, .aload_n 0), (1, .getfield 42), (4, .aload_n 0), (5, .getfield 84), (8, .aload_n 0), (9, .aload_n 0), (10, .getfield 84), (13, .invokevirtual 231), (16, .aload_n 0), (17, .invokevirtual 299), (20, .invokevirtual 308), (23, .iconst 0), (24, .istore_n 1), (25, .iload_n 1), (26, .aload_n 0), (27, .getfield 56), (30, .if_icmp .ge 22), (33, .aload_n 0), (34, .getfield 11), (37, .iload_n 1), (38, .aaload), (39, .aload_n 0), (40, .getfield 84), (43, .invokevirtual 312), (46, .iinc 1 1), (49, .goto (-24)), (52, .return_)]
/-- PackWatch$State.obeyRules()V -/
def pw_t71 : List (Nat × Instr) := [(0, .aload_n 0), (1, .getfield 20), (4, .getfield 314), (7, .astore_n 1), (8, .iconst 0), (9, .istore_n 2), (10, .iload_n 2), (11, .aload_n 0), (12, .getfield 20), (15, .getfield 317), (18, .if_icmp .ge 73), (21, .iload_n 2), (22, .iconst 5), (23, .imul), (24, .istore_n 3), (25, .aload_n 0), (26, .aload_n 1), (27, .iload_n 3), (28, .iaload), (29, .invokevirtual 320), (32, .istore 4), (34, .aload_n 1), (35, .iload_n 3), (36, .iconst 2), (37, .iadd), (38, .iaload), (39, .istore 5), (41, .aload_n 1), (42, .iload_n 3), (43, .iconst 1), (44, .iadd), (45, .iaload), (46, .iconst 1), (47, .if_icmp .ne 13), (50, .iload 4), (52, .iload 5), (54, .if_icmp .le 31), (57, .goto 10), (60, .iload 4), (62, .iload 5), (64, .if_icmp .ge 21), (67, .aload_n 0), (68, .getfield 20), (71, .getfield 109), (74, .aload_n 1), (75, .iload_n 3), (76, .iconst 3), (77, .iadd), (78, .iaload), (79, .aload_n 1), (80, .iload_n 3), (81, .iconst 4), (82, .iadd), (83, .iaload), (84, .iastore), (85, .iinc 2 1), (88, .goto (-78)), (91, .return_)]
/-- PackWatch$State.tell(I)I -/
def pw_t72 : List (Nat × Instr) := [(0, .iload_n 1), (1, .tableswitch 172 0 15 #[79, 84, 89, 94, 103, 108, 116, 121, 126, 131, 136, 141, 146, 154, 159, 164]), (80, .aload_n 0), (81, .getfield 56), (84, .ireturn), (85, .aload_n 0), (86, .getfield 78), (89, .ireturn), (90, .aload_n 0), (91, .getfield 81), (94, .ireturn), (95, .aload_n 0), (96, .aload_n 0), (97, .getfield 84), (100, .invokevirtual 231), (103, .ireturn), (104, .aload_n 0), (105, .getfield 84), (108, .ireturn), (109, .aload_n 0), (110, .getfield 27), (113, .getfield 130), (116, .ireturn), (117, .aload_n 0), (118, .getfield 75), (121, .ireturn), (122, .aload_n 0), (123, .getfield 52), (126, .ireturn), (127, .aload_n 0), (128, .getfield 90), (131, .ireturn), (132, .aload_n 0), (133, .getfield 93), (136, .ireturn), (137, .aload_n 0), (138, .getfield 96), (141, .ireturn), (142, .aload_n 0), (143, .getfield 99), (146, .ireturn), (147, .aload_n 0), (148, .getfield 20), (151, .getfield 194), (154, .ireturn), (155, .aload_n 0), (156, .getfield 102), (159, .ireturn), (160, .aload_n 0), (161, .invokevirtual 188), (164, .ireturn), (165, .aload_n 0), (166, .getfield 20), (169, .getfield 323), (172, .ireturn), (173, .ldc_w 326), (176, .ireturn)]
/-- PackWatch$State.tellOf(II)I -/
def pw_t73 : List (Nat × Instr) := [(0, .aload_n 0), (1, .iload_n 1), (2, .invokevirtual 327), (5, .ifCond .eq 20), (8, .aload_n 0), (9, .getfield 11), (12, .iload_n 1), (13, .aaload), (14, .iload_n 2), (15, .aload_n 0), (16, .getfield 84), (19, .invokevirtual 330), (22, .goto 6), (25, .ldc_w 326), (28, .ireturn)]
/-- PackWatch$State.tellModule(III)I -/
def pw_t74 : List (Nat × Instr) := [(0, .iconst 0), (1, .istore 4), (3, .sipush (-400)), (6, .istore 5), (8, .iload_n 1), (9, .istore 6), (11, .iload 6), (13, .iload_n 2), (14, .if_icmp .ge 64), (17, .iload 4), (19, .aload_n 0), (20, .getfield 11), (23, .iload 6), (25, .aaload), (26, .aload_n 0), (27, .getfield 84), (30, .invokevirtual 136), (33, .iadd), (34, .istore 4), (36, .iload 6), (38, .iload_n 1), (39, .if_icmp .ne 16), (42, .aload_n 0), (43, .getfield 11), (46, .iload 6), (48, .aaload), (49, .getfield 258), (52, .goto 18), (55, .iload 5), (57, .aload_n 0), (58, .getfield 11), (61, .iload 6), (63, .aaload), (64, .getfield 258), (67, .invokestatic 149), (70, .istore 5), (72, .iinc 6 1), (75, .goto (-64)), (78, .iload_n 3), (79, .tableswitch 46 0 3 #[29, 32, 35, 42]), (108, .iload 4), (110, .ireturn), (111, .iload 5), (113, .ireturn), (114, .aload_n 0), (115, .iload_n 1), (116, .iload_n 2), (117, .invokevirtual 146), (120, .ireturn), (121, .iload_n 2), (122, .iload_n 1), (123, .isub), (124, .ireturn), (125, .ldc_w 326), (128, .ireturn)]
/-- PackWatch$Told.<init>()V -/
def pw_t75 : List (Nat × Instr) := [(0, .aload_n 0), (1, .invokespecial 3), (4, .aload_n 0), (5, .getstatic 9), (8, .invokevirtual 13), (11, .checkcast 14), (14, .putfield 18), (17, .aload_n 0), (18, .iconst 3), (19, .newarray .int), (21, .putfield 23), (24, .aload_n 0), (25, .bipush 24), (27, .newarray .int), (29, .putfield 26), (32, .aload_n 0), (33, .bipush 12), (35, .newarray .int), (37, .putfield 29), (40, .aload_n 0), (41, .bipush 48), (43, .newarray .int), (45, .putfield 32), (48, .aload_n 0), (49, .bipush 40), (51, .newarray .int), (53, .putfield 35), (56, .return_)]
/-- PackWatch$Told.become(LPackWatch$Told;)V -/
def pw_t76 : List (Nat × Instr) := [(0, .aload_n 1), (1, .getfield 18), (4, .iconst 0), (5, .aload_n 0), (6, .getfield 18), (9, .iconst 0), (10, .bipush 30), (12, .invokestatic 38), (15, .aload_n 1), (16, .getfield 23), (19, .iconst 0), (20, .aload_n 0), (21, .getfield 23), (24, .iconst 0), (25, .aload_n 0), (26, .getfield 23), (29, .arraylength), (30, .invokestatic 38), (33, .aload_n 1), (34, .getfield 26), (37, .iconst 0), (38, .aload_n 0), (39, .getfield 26), (42, .iconst 0), (43, .aload_n 0), (44, .getfield 26), (47, .arraylength), (48, .invokestatic 38), (51, .aload_n 1), (52, .getfield 29), (55, .iconst 0), (56, .aload_n 0), (57, .getfield 29), (60, .iconst 0), (61, .aload_n 0), (62, .getfield 29), (65, .arraylength), (66, .invokestatic 38), (69, .aload_n 1), (70, .getfield 32), (73, .iconst 0), (74, .aload_n 0), (75, .getfield 32), (78, .iconst 0), (79, .aload_n 0), (80, .getfield 32), (83, .arraylength), (84, .invokestatic 38), (87, .aload_n 1), (88, .getfield 35), (91, .iconst 0), (92, .aload_n 0), (93, .getfield 35), (96, .iconst 0), (97, .aload_n 0), (98, .getfield 35), (101, .arraylength), (102, .invokestatic 38), (105, .aload_n 0), (106, .aload_n 1), (107, .getfield 44), (110, .putfield 44), (113, .aload_n 0), (114, .aload_n 1), (115, .getfield 48), (118, .putfield 48), (121, .aload_n 0), (122, .aload_n 1), (123, .getfield 51), (126, .putfield 51), (129, .return_)]
/-- PackWatch$Told.bearsZone(I)Z -/
def pw_t77 : List (Nat × Instr) := [(0, .aload_n 0), (1, .getfield 44), (4, .bipush 6), (6, .if_icmp .lt 5), (9, .iconst 0), (10, .ireturn), (11, .aload_n 0), (12, .getfield 44), (15, .ifCond .eq 20), (18, .iload_n 1), (19, .aload_n 0), (20, .getfield 29), (23, .aload_n 0), (24, .getfield 44), (27, .iconst 2), (28, .imul), (29, .iconst 2), (30, .isub), (31, .iaload), (32, .if_icmp .le 7), (35, .iconst 1), (36, .goto 4), (39, .iconst 0), (40, .ireturn)]
/-- PackWatch$Told.addZone(II)I -/
def pw_t78 : List (Nat × Instr) := [(0, .aload_n 0), (1, .getfield 29), (4, .aload_n 0), (5, .getfield 44), (8, .iconst 2), (9, .imul), (10, .iload_n 1), (11, .iastore), (12, .aload_n 0), (13, .getfield 29), (16, .aload_n 0), (17, .getfield 44), (20, .iconst 2), (21, .imul), (22, .iconst 1), (23, .iadd), (24, .iload_n 2), (25, .iastore), (26, .aload_n 0), (27, .dup), (28, .getfield 44), (31, .iconst 1), (32, .iadd), (33, .putfield 44), (36, .aload_n 0), (37, .getfield 44), (40, .ireturn)]
/-- PackWatch$Told.zoneCurrent(I)I -/
def pw_t79 : List (Nat × Instr) := [(0, .ldc 54), (2, .istore_n 2), (3, .iconst 0), (4, .istore_n 3), (5, .iload_n 3), (6, .aload_n 0), (7, .getfield 44), (10, .if_icmp .ge 32), (13, .iload_n 1), (14, .aload_n 0), (15, .getfield 29), (18, .iload_n 3), (19, .iconst 2), (20, .imul), (21, .iaload), (22, .if_icmp .lt 14), (25, .aload_n 0), (26, .getfield 29), (29, .iload_n 3), (30, .iconst 2), (31, .imul), (32, .iconst 1), (33, .iadd), (34, .iaload), (35, .istore_n 2), (36, .iinc 3 1), (39, .goto (-34)), (42, .iload_n 2), (43, .ireturn)]
/-- PackWatch$Told.bearsPiece()Z -/
def pw_t80 : List (Nat × Instr) := [(0, .aload_n 0), (1, .getfield 48), (4, .bipush 24), (6, .if_icmp .ge 7), (9, .iconst 1), (10, .goto 4), (13, .iconst 0), (14, .ireturn)]
/-- PackWatch$Told.addPiece(II)I -/
def pw_t81 : List (Nat × Instr) := [(0, .aload_n 0), (1, .getfield 32), (4, .aload_n 0), (5, .getfield 48), (8, .iconst 2), (9, .imul), (10, .iload_n 1), (11, .iastore), (12, .aload_n 0), (13, .getfield 32), (16, .aload_n 0), (17, .getfield 48), (20, .iconst 2), (21, .imul), (22, .iconst 1), (23, .iadd), (24, .iload_n 2), (25, .iastore), (26, .aload_n 0), (27, .dup), (28, .getfield 48), (31, .iconst 1), (32, .iadd), (33, .putfield 48), (36, .aload_n 0), (37, .getfield 48), (40, .ireturn)]
/-- PackWatch$Told.pieceSeconds()I -/
def pw_t82 : List (Nat × Instr) := [(0, .iconst 0), (1, .istore_n 1), (2, .iconst 0), (3, .istore_n 2), (4, .iload_n 2), (5, .aload_n 0), (6, .getfield 48), (9, .if_icmp .ge 22), (12, .iload_n 1), (13, .aload_n 0), (14, .getfield 32), (17, .iload_n 2), (18, .iconst 2), (19, .imul), (20, .iconst 1), (21, .iadd), (22, .iaload), (23, .iadd), (24, .istore_n 1), (25, .iinc 2 1), (28, .goto (-24)), (31, .iload_n 1), (32, .ireturn)]
/-- PackWatch$Told.bearsRule()Z -/
def pw_t83 : List (Nat × Instr) := [(0, .aload_n 0), (1, .getfield 51), (4, .bipush 8), (6, .if_icmp .ge 7), (9, .iconst 1), (10, .goto 4), (13, .iconst 0), (14, .ireturn)]
/-- PackWatch$Told.addRule(IIIII)I -/
def pw_t84 : List (Nat × Instr) := [(0, .aload_n 0), (1, .getfield 51), (4, .iconst 5), (5, .imul), (6, .istore 6), (8, .aload_n 0), (9, .getfield 35), (12, .iload 6), (14, .iload_n 1), (15, .iastore), (16, .aload_n 0), (17, .getfield 35), (20, .iload 6), (22, .iconst 1), (23, .iadd), (24, .iload_n 2), (25, .iastore), (26, .aload_n 0), (27, .getfield 35), (30, .iload 6), (32, .iconst 2), (33, .iadd), (34, .iload_n 3), (35, .iastore), (36, .aload_n 0), (37, .getfield 35), (40, .iload 6), (42, .iconst 3), (43, .iadd), (44, .iload 4), (46, .iastore), (47, .aload_n 0), (48, .getfield 35), (51, .iload 6), (53, .iconst 4), (54, .iadd), (55, .iload 5), (57, .iastore), (58, .aload_n 0), (59, .dup), (60, .getfield 51), (63, .iconst 1), (64, .iadd), (65, .putfield 51), (68, .aload_n 0), (69, .getfield 51), (72, .ireturn)]
/-- PackWatch$Turns.<init>()V -/
def pw_t85 : List (Nat × Instr) := [(0, .aload_n 0), (1, .invokespecial 1), (4, .aload_n 0), (5, .bipush 32), (7, .newarray .int), (9, .putfield 9), (12, .aload_n 0), (13, .bipush 11), (15, .newarray .int), (17, .putfield 13), (20, .return_)]
/-- PackWatch$Turns.begin(I)V -/
def pw_t86 : List (Nat × Instr) := [(0, .aload_n 0), (1, .getfield 13), (4, .iconst 0), (5, .invokestatic 16), (8, .aload_n 0), (9, .getfield 9), (12, .iconst 0), (13, .iload_n 1), (14, .iastore), (15, .aload_n 0), (16, .iconst 1), (17, .putfield 22), (20, .return_)]
/-- PackWatch$Turns.become(LPackWatch$Turns;)V -/
def pw_t87 : List (Nat × Instr) := [(0, .aload_n 1), (1, .getfield 9), (4, .iconst 0), (5, .aload_n 0), (6, .getfield 9), (9, .iconst 0), (10, .bipush 32), (12, .invokestatic 26), (15, .aload_n 1), (16, .getfield 13), (19, .iconst 0), (20, .aload_n 0), (21, .getfield 13), (24, .iconst 0), (25, .bipush 11), (27, .invokestatic 26), (30, .aload_n 0), (31, .aload_n 1), (32, .getfield 22), (35, .putfield 22), (38, .return_)]
/-- PackWatch$Turns.follow(I)V -/
def pw_t88 : List (Nat × Instr) := [(0, .aload_n 0), (1, .getfield 22), (4, .ifCond .eq 18), (7, .iload_n 1), (8, .aload_n 0), (9, .getfield 9), (12, .aload_n 0), (13, .getfield 22), (16, .iconst 1), (17, .isub), (18, .iaload), (19, .if_icmp .ne 4), (22, .return_), (23, .aload_n 0), (24, .iload_n 1), (25, .invokevirtual 32), (28, .ifCond .eq 18), (31, .aload_n 0), (32, .getfield 9), (35, .aload_n 0), (36, .getfield 22), (39, .iconst 1), (40, .isub), (41, .iload_n 1), (42, .iastore), (43, .goto 8), (46, .aload_n 0), (47, .iload_n 1), (48, .invokevirtual 36), (51, .aload_n 0), (52, .invokevirtual 40), (55, .return_)]
/-- PackWatch$Turns.goesOn(I)Z -/
def pw_t89 : List (Nat × Instr) := [(0, .aload_n 0), (1, .getfield 22), (4, .iconst 2), (5, .if_icmp .ge 5), (8, .iconst 0), (9, .ireturn), (10, .aload_n 0), (11, .getfield 9), (14, .aload_n 0), (15, .getfield 22), (18, .iconst 1), (19, .isub), (20, .iaload), (21, .istore_n 2), (22, .iload_n 2), (23, .aload_n 0), (24, .getfield 9), (27, .aload_n 0), (28, .getfield 22), (31, .iconst 2), (32, .isub), (33, .iaload), (34, .if_icmp .le 7), (37, .iconst 1), (38, .goto 4), (41, .iconst 0), (42, .iload_n 1), (43, .iload_n 2), (44, .if_icmp .le 7), (47, .iconst 1), (48, .goto 4), (51, .iconst 0), (52, .if_icmp .ne 7), (55, .iconst 1), (56, .goto 4), (59, .iconst 0), (60, .ireturn)]
/-- PackWatch$Turns.add(I)V -/
def pw_t90 : List (Nat × Instr) := [(0, .aload_n 0), (1, .getfield 22), (4, .bipush 32), (6, .if_icmp .ne 28), (9, .aload_n 0), (10, .getfield 9), (13, .iconst 1), (14, .aload_n 0), (15, .getfield 9), (18, .iconst 0), (19, .bipush 31), (21, .invokestatic 26), (24, .aload_n 0), (25, .dup), (26, .getfield 22), (29, .iconst 1), (30, .isub), (31, .putfield 22), (34, .aload_n 0), (35, .getfield 9), (38, .aload_n 0), (39, .getfield 22), (42, .iload_n 1), (43, .iastore), (44, .aload_n 0), (45, .dup), (46, .getfield 22), (49, .iconst 1), (50, .iadd), (51, .putfield 22), (54, .return_)]
/-- PackWatch$Turns.countCycles()V -/
def pw_t91 : List (Nat × Instr) := [(0, .aload_n 0), (1, .getfield 22), (4, .iconst 4), (5, .if_icmp .lt 96), (8, .aload_n 0), (9, .aload_n 0), (10, .getfield 22), (13, .iconst 3), (14, .isub), (15, .invokevirtual 43), (18, .istore_n 1), (19, .iload_n 1), (20, .aload_n 0), (21, .aload_n 0), (22, .getfield 22), (25, .iconst 4), (26, .isub), (27, .invokevirtual 43), (30, .if_icmp .gt 17), (33, .iload_n 1), (34, .aload_n 0), (35, .aload_n 0), (36, .getfield 22), (39, .iconst 2), (40, .isub), (41, .invokevirtual 43), (44, .if_icmp .le 4), (47, .return_), (48, .aload_n 0), (49, .getfield 13), (52, .iload_n 1), (53, .bipush 100), (55, .idiv), (56, .bipush 10), (58, .invokestatic 47), (61, .dup2), (62, .iaload), (63, .iconst 1), (64, .iadd), (65, .iastore), (66, .aload_n 0), (67, .getfield 9), (70, .aload_n 0), (71, .getfield 22), (74, .iconst 3), (75, .isub), (76, .aload_n 0), (77, .getfield 9), (80, .aload_n 0), (81, .getfield 22), (84, .iconst 1), (85, .isub), (86, .iaload), (87, .iastore), (88, .aload_n 0), (89, .dup), (90, .getfield 22), (93, .iconst 2), (94, .isub), (95, .putfield 22), (98, .goto (-98)), (101, .return_)]
/-- PackWatch$Turns.way(I)I -/
def pw_t92 : List (Nat × Instr) := [(0, .aload_n 0), (1, .getfield 9), (4, .iload_n 1), (5, .iconst 1), (6, .iadd), (7, .iaload), (8, .aload_n 0), (9, .getfield 9), (12, .iload_n 1), (13, .iaload), (14, .isub), (15, .istore_n 2), (16, .iload_n 2), (17, .ifCond .ge 8), (20, .iload_n 2), (21, .ineg), (22, .goto 4), (25, .iload_n 2), (26, .ireturn)]
/-- PackWatch$Watch.<init>()V -/
def pw_t93 : List (Nat × Instr) := [(0, .aload_n 0), (1, .invokespecial 3), (4, .aload_n 0), (5, .bipush 11), (7, .newarray .int), (9, .putfield 9), (12, .aload_n 0), (13, .iconst 4), (14, .newarray .int), (16, .putfield 15), (19, .aload_n 0), (20, .new 18), (23, .dup), (24, .bipush 24), (26, .invokespecial 20), (29, .putfield 23), (32, .aload_n 0), (33, .getfield 9), (36, .iconst (-1)), (37, .invokestatic 27), (40, .aload_n 0), (41, .getfield 15), (44, .iconst (-1)), (45, .invokestatic 27), (48, .return_)]
/-- PackWatch$Watch.become(LPackWatch$Watch;)V -/
def pw_t94 : List (Nat × Instr) := [(0, .aload_n 1), (1, .getfield 9), (4, .iconst 0), (5, .aload_n 0), (6, .getfield 9), (9, .iconst 0), (10, .bipush 11), (12, .invokestatic 33), (15, .aload_n 1), (16, .getfield 15), (19, .iconst 0), (20, .aload_n 0), (21, .getfield 15), (24, .iconst 0), (25, .aload_n 0), (26, .getfield 15), (29, .arraylength), (30, .invokestatic 33), (33, .aload_n 0), (34, .getfield 23), (37, .aload_n 1), (38, .getfield 23), (41, .invokevirtual 39), (44, .aload_n 0), (45, .aload_n 1), (46, .getfield 43), (49, .putfield 43), (52, .aload_n 0), (53, .aload_n 1), (54, .getfield 47), (57, .putfield 47), (60, .aload_n 0), (61, .aload_n 1), (62, .getfield 50), (65, .putfield 50), (68, .aload_n 0), (69, .aload_n 1), (70, .getfield 53), (73, .putfield 53), (76, .return_)]
/-- PackWatch$Watch.blame(II)I -/
def pw_t95 : List (Nat × Instr) := [(0, .aload_n 0), (1, .getfield 15), (4, .iload_n 1), (5, .iload_n 2), (6, .iastore), (7, .iconst 1), (8, .iload_n 1), (9, .ishl), (10, .ireturn)]
/-- PackWatch$Watch.leakBit(Z)I -/
def pw_t96 : List (Nat × Instr) := [(0, .aload_n 0), (1, .iload_n 1), (2, .ifCond .eq 16), (5, .aload_n 0), (6, .getfield 50), (9, .iconst 1), (10, .iadd), (11, .iconst 3), (12, .invokestatic 57), (15, .goto 4), (18, .iconst 0), (19, .putfield 50), (22, .aload_n 0), (23, .getfield 50), (26, .iconst 3), (27, .if_icmp .ne 8), (30, .bipush 64), (32, .goto 4), (35, .iconst 0), (36, .ireturn)]
/-- PackWatch$Watch.weldBit(Z)I -/
def pw_t97 : List (Nat × Instr) := [(0, .iload_n 1), (1, .ifCond .eq 14), (4, .aload_n 0), (5, .getfield 53), (8, .ifCond .eq 7), (11, .iconst 1), (12, .goto 4), (15, .iconst 0), (16, .istore_n 2), (17, .aload_n 0), (18, .iload_n 1), (19, .putfield 53), (22, .iload_n 2), (23, .ifCond .eq 9), (26, .sipush 256), (29, .goto 4), (32, .iconst 0), (33, .ireturn)]
/-- PackWatch$Watch.silentBit(I)I -/
def pw_t98 : List (Nat × Instr) := [(0, .aload_n 0), (1, .dup), (2, .getfield 47), (5, .iconst 1), (6, .iadd), (7, .putfield 47), (10, .iload_n 1), (11, .ifCond .eq 17), (14, .aload_n 0), (15, .getfield 47), (18, .iload_n 1), (19, .if_icmp .le 9), (22, .sipush 512), (25, .goto 4), (28, .iconst 0), (29, .ireturn)]
/-- PackWatch$Watch.latch(II)I -/
def pw_t99 : List (Nat × Instr) := [(0, .iconst 0), (1, .istore_n 3), (2, .iconst 0), (3, .istore 4), (5, .iload 4), (7, .bipush 11), (9, .if_icmp .ge 65), (12, .iconst 1), (13, .iload 4), (15, .ishl), (16, .istore 5), (18, .iload_n 1), (19, .iload 5), (21, .iand), (22, .ifCond .eq 46), (25, .aload_n 0), (26, .getfield 9), (29, .iload 4), (31, .iload_n 2), (32, .iastore), (33, .aload_n 0), (34, .getfield 43), (37, .iload 5), (39, .iand), (40, .ifCond .ne 28), (43, .aload_n 0), (44, .dup), (45, .getfield 43), (48, .iload 5), (50, .ior), (51, .putfield 43), (54, .aload_n 0), (55, .getfield 23), (58, .iload_n 2), (59, .iload 4), (61, .iconst 0), (62, .invokevirtual 63), (65, .iinc 3 1), (68, .iinc 4 1), (71, .goto (-66)), (74, .iload_n 3), (75, .ireturn)]
/-- PackWatch.<init>()V -/
def pw_t100 : List (Nat × Instr) := [(0, .aload_n 0), (1, .invokespecial 3), (4, .aload_n 0), (5, .new 9), (8, .dup), (9, .invokespecial 11), (12, .putfield 12), (15, .aload_n 0), (16, .new 9), (19, .dup), (20, .invokespecial 11), (23, .putfield 16), (26, .aload_n 0), (27, .new 9), (30, .dup), (31, .invokespecial 11), (34, .putfield 19), (37, .aload_n 0), (38, .new 22), (41, .dup), (42, .invokespecial 24), (45, .putfield 25), (48, .aload_n 0), (49, .new 22), (52, .dup), (53, .invokespecial 24), (56, .putfield 29), (59, .aload_n 0), (60, .sipush 325), (63, .newarray .long), (65, .putfield 32), (68, .aload_n 0), (69, .sipush 325), (72, .newarray .long), (74, .putfield 36), (77, .return_)]
/-- PackWatch.cell(III)I -/
def pw_t101 : List (Nat × Instr) := [(0, .iload_n 1), (1, .bipush 100), (3, .sipush 9999), (6, .invokestatic 39), (9, .ifCond .eq 28), (12, .iload_n 2), (13, .iconst 0), (14, .sipush 1000), (17, .invokestatic 39), (20, .ifCond .eq 17), (23, .iload_n 3), (24, .iconst 0), (25, .bipush 99), (27, .invokestatic 39), (30, .ifCond .eq 7), (33, .iconst 1), (34, .goto 4), (37, .iconst 0), (38, .istore 4), (40, .iload 4), (42, .ifCond .eq 15), (45, .aload_n 0), (46, .getfield 12), (49, .getfield 43), (52, .bipush 16), (54, .if_icmp .lt 5), (57, .iconst (-1)), (58, .ireturn), (59, .aload_n 0), (60, .getfield 25), (63, .aload_n 0), (64, .getfield 12), (67, .invokevirtual 47), (70, .aload_n 0), (71, .getfield 12), (74, .iload_n 1), (75, .iload_n 2), (76, .iload_n 3), (77, .invokevirtual 51), (80, .ireturn)]
/-- PackWatch.charge(II)Z -/
def pw_t102 : List (Nat × Instr) := [(0, .aload_n 0), (1, .getfield 12), (4, .iload_n 1), (5, .invokevirtual 55), (8, .ifCond .eq 23), (11, .iload_n 2), (12, .iconst 0), (13, .aload_n 0), (14, .getfield 12), (17, .getfield 59), (20, .iload_n 1), (21, .aaload), (22, .invokevirtual 63), (25, .invokestatic 39), (28, .ifCond .ne 5), (31, .iconst 0), (32, .ireturn), (33, .aload_n 0), (34, .getfield 25), (37, .aload_n 0), (38, .getfield 12), (41, .invokevirtual 47), (44, .aload_n 0), (45, .getfield 12), (48, .getfield 59), (51, .iload_n 1), (52, .aaload), (53, .iload_n 2), (54, .invokevirtual 69), (57, .iconst 1), (58, .ireturn)]
/-- PackWatch.warm(II)Z -/
def pw_t103 : List (Nat × Instr) := [(0, .aload_n 0), (1, .getfield 12), (4, .iload_n 1), (5, .invokevirtual 55), (8, .ifCond .eq 16), (11, .iload_n 2), (12, .sipush (-400)), (15, .sipush 1200), (18, .invokestatic 39), (21, .ifCond .ne 5), (24, .iconst 0), (25, .ireturn), (26, .aload_n 0), (27, .getfield 25), (30, .aload_n 0), (31, .getfield 12), (34, .invokevirtual 47), (37, .aload_n 0), (38, .getfield 12), (41, .getfield 59), (44, .iload_n 1), (45, .aaload), (46, .iload_n 2), (47, .putfield 73), (50, .iconst 1), (51, .ireturn)]
/-- PackWatch.set(II)Z -/
def pw_t104 : List (Nat × Instr) := [(0, .iload_n 1), (1, .iload_n 2), (2, .invokestatic 76), (5, .ifCond .ne 5), (8, .iconst 0), (9, .ireturn), (10, .aload_n 0), (11, .getfield 25), (14, .aload_n 0), (15, .getfield 12), (18, .invokevirtual 47), (21, .aload_n 0), (22, .getfield 12), (25, .getfield 80), (28, .getfield 84), (31, .iload_n 1), (32, .iload_n 2), (33, .iastore), (34, .iconst 1), (35, .ireturn)]
/-- PackWatch.run(I)I -/
def pw_t105 : List (Nat × Instr) := [(0, .iload_n 1), (1, .iconst 1), (2, .sipush 300), (5, .invokestatic 39), (8, .ifCond .eq 18), (11, .aload_n 0), (12, .getfield 12), (15, .getfield 90), (18, .iload_n 1), (19, .iadd), (20, .sipush 9999), (23, .if_icmp .le 5), (26, .iconst (-1)), (27, .ireturn), (28, .aload_n 0), (29, .getfield 25), (32, .aload_n 0), (33, .getfield 12), (36, .invokevirtual 47), (39, .aload_n 0), (40, .getfield 12), (43, .iload_n 1), (44, .invokevirtual 93), (47, .ireturn)]
/-- PackWatch.close()Z -/
def pw_t106 : List (Nat × Instr) := [(0, .aload_n 0), (1, .getfield 12), (4, .getfield 97), (7, .ifCond .ne 26), (10, .aload_n 0), (11, .getfield 12), (14, .getfield 100), (17, .getfield 104), (20, .ifCond .ne 13), (23, .aload_n 0), (24, .getfield 12), (27, .getfield 43), (30, .ifCond .ne 5), (33, .iconst 0), (34, .ireturn), (35, .aload_n 0), (36, .getfield 25), (39, .aload_n 0), (40, .getfield 12), (43, .invokevirtual 47), (46, .aload_n 0), (47, .getfield 12), (50, .iconst 1), (51, .putfield 97), (54, .iconst 1), (55, .ireturn)]
/-- PackWatch.open()Z -/
def pw_t107 : List (Nat × Instr) := [(0, .aload_n 0), (1, .getfield 12), (4, .getfield 97), (7, .ifCond .ne 5), (10, .iconst 0), (11, .ireturn), (12, .aload_n 0), (13, .getfield 25), (16, .aload_n 0), (17, .getfield 12), (20, .invokevirtual 47), (23, .aload_n 0), (24, .getfield 12), (27, .iconst 0), (28, .putfield 97), (31, .aload_n 0), (32, .getfield 12), (35, .iconst 0), (36, .putfield 109), (39, .iconst 1), (40, .ireturn)]
/-- PackWatch.reset(I)Z -/
def pw_t108 : List (Nat × Instr) := [(0, .aload_n 0), (1, .getfield 12), (4, .iload_n 1), (5, .invokevirtual 112), (8, .ifCond .ne 5), (11, .iconst 0), (12, .ireturn), (13, .aload_n 0), (14, .getfield 25), (17, .aload_n 0), (18, .getfield 12), (21, .invokevirtual 47), (24, .aload_n 0), (25, .getfield 12), (28, .getfield 100), (31, .dup), (32, .getfield 104), (35, .iconst 1), (36, .iload_n 1), (37, .ishl), (38, .iconst (-1)), (39, .ixor), (40, .iand), (41, .putfield 104), (44, .iconst 1), (45, .ireturn)]
/-- PackWatch.stuck(II)Z -/
def pw_t109 : List (Nat × Instr) := [(0, .iload_n 1), (1, .iconst 0), (2, .iconst 2), (3, .invokestatic 39), (6, .ifCond .eq 12), (9, .iload_n 2), (10, .iconst 0), (11, .iconst 2), (12, .invokestatic 39), (15, .ifCond .ne 5), (18, .iconst 0), (19, .ireturn), (20, .aload_n 0), (21, .getfield 25), (24, .aload_n 0), (25, .getfield 12), (28, .invokevirtual 47), (31, .aload_n 0), (32, .getfield 12), (35, .getfield 80), (38, .getfield 115), (41, .iload_n 1), (42, .iload_n 2), (43, .iastore), (44, .iconst 1), (45, .ireturn)]
/-- PackWatch.zone(II)I -/
def pw_t110 : List (Nat × Instr) := [(0, .iload_n 1), (1, .sipush (-400)), (4, .sipush 1200), (7, .invokestatic 39), (10, .ifCond .eq 17), (13, .iload_n 2), (14, .iconst 0), (15, .ldc 118), (17, .invokestatic 39), (20, .ifCond .eq 7), (23, .iconst 1), (24, .goto 4), (27, .iconst 0), (28, .istore_n 3), (29, .iload_n 3), (30, .ifCond .eq 17), (33, .aload_n 0), (34, .getfield 12), (37, .getfield 80), (40, .iload_n 1), (41, .invokevirtual 119), (44, .ifCond .ne 5), (47, .iconst (-1)), (48, .ireturn), (49, .aload_n 0), (50, .getfield 25), (53, .aload_n 0), (54, .getfield 12), (57, .invokevirtual 47), (60, .aload_n 0), (61, .getfield 12), (64, .getfield 80), (67, .iload_n 1), (68, .iload_n 2), (69, .invokevirtual 122), (72, .ireturn)]
/-- PackWatch.hear()I -/
def pw_t111 : List (Nat × Instr) := [(0, .aload_n 0), (1, .getfield 25), (4, .aload_n 0), (5, .getfield 12), (8, .invokevirtual 47), (11, .aload_n 0), (12, .getfield 12), (15, .getfield 100), (18, .getfield 126), (21, .istore_n 1), (22, .aload_n 0), (23, .getfield 12), (26, .getfield 100), (29, .iconst 0), (30, .putfield 126), (33, .iload_n 1), (34, .ireturn)]
/-- PackWatch.price(II)Z -/
def pw_t112 : List (Nat × Instr) := [(0, .iload_n 1), (1, .iconst 0), (2, .bipush 23), (4, .invokestatic 39), (7, .ifCond .eq 14), (10, .iload_n 2), (11, .iconst 0), (12, .sipush 999), (15, .invokestatic 39), (18, .ifCond .ne 5), (21, .iconst 0), (22, .ireturn), (23, .aload_n 0), (24, .getfield 25), (27, .aload_n 0), (28, .getfield 12), (31, .invokevirtual 47), (34, .aload_n 0), (35, .getfield 12), (38, .getfield 80), (41, .getfield 129), (44, .iload_n 1), (45, .iload_n 2), (46, .iastore), (47, .iconst 1), (48, .ireturn)]
/-- PackWatch.mark(I)Z -/
def pw_t113 : List (Nat × Instr) := [(0, .iload_n 1), (1, .iconst 0), (2, .iconst 2), (3, .invokestatic 39), (6, .ifCond .ne 5), (9, .iconst 0), (10, .ireturn), (11, .aload_n 0), (12, .getfield 25), (15, .aload_n 0), (16, .getfield 12), (19, .invokevirtual 47), (22, .aload_n 0), (23, .getfield 12), (26, .iload_n 1), (27, .invokevirtual 132), (30, .iconst 1), (31, .ireturn)]
/-- PackWatch.piece(II)I -/
def pw_t114 : List (Nat × Instr) := [(0, .bipush 20), (2, .iload_n 1), (3, .invokestatic 76), (6, .ifCond .eq 26), (9, .iload_n 2), (10, .iconst 1), (11, .bipush 99), (13, .invokestatic 39), (16, .ifCond .eq 16), (19, .aload_n 0), (20, .getfield 12), (23, .getfield 80), (26, .invokevirtual 135), (29, .ifCond .ne 5), (32, .iconst (-1)), (33, .ireturn), (34, .aload_n 0), (35, .getfield 25), (38, .aload_n 0), (39, .getfield 12), (42, .invokevirtual 47), (45, .aload_n 0), (46, .getfield 12), (49, .getfield 80), (52, .iload_n 1), (53, .iload_n 2), (54, .invokevirtual 139), (57, .ireturn)]
/-- PackWatch.rule(IZIII)I -/
def pw_t115 : List (Nat × Instr) := [(0, .iload_n 1), (1, .iconst 0), (2, .bipush 13), (4, .invokestatic 39), (7, .ifCond .eq 26), (10, .iload 4), (12, .iload 5), (14, .invokestatic 76), (17, .ifCond .eq 16), (20, .aload_n 0), (21, .getfield 12), (24, .getfield 80), (27, .invokevirtual 142), (30, .ifCond .ne 5), (33, .iconst (-1)), (34, .ireturn), (35, .aload_n 0), (36, .getfield 25), (39, .aload_n 0), (40, .getfield 12), (43, .invokevirtual 47), (46, .aload_n 0), (47, .getfield 12), (50, .getfield 80), (53, .iload_n 1), (54, .iload_n 2), (55, .ifCond .eq 7), (58, .iconst 1), (59, .goto 4), (62, .iconst 0), (63, .iload_n 3), (64, .iload 4), (66, .iload 5), (68, .invokevirtual 145), (71, .ireturn)]
/-- PackWatch.unrule()I -/
def pw_t116 : List (Nat × Instr) := [(0, .aload_n 0), (1, .getfield 25), (4, .aload_n 0), (5, .getfield 12), (8, .invokevirtual 47), (11, .aload_n 0), (12, .getfield 12), (15, .getfield 80), (18, .getfield 149), (21, .istore_n 1), (22, .aload_n 0), (23, .getfield 12), (26, .getfield 80), (29, .iconst 0), (30, .putfield 149), (33, .iload_n 1), (34, .ireturn)]
/-- PackWatch.wipe()I -/
def pw_t117 : List (Nat × Instr) := [(0, .aload_n 0), (1, .getfield 25), (4, .aload_n 0), (5, .getfield 12), (8, .invokevirtual 47), (11, .aload_n 0), (12, .getfield 12), (15, .getfield 80), (18, .getfield 152), (21, .istore_n 1), (22, .aload_n 0), (23, .getfield 12), (26, .getfield 80), (29, .iconst 0), (30, .putfield 152), (33, .iload_n 1), (34, .ireturn)]
/-- PackWatch.drive()I -/
def pw_t118 : List (Nat × Instr) := [(0, .aload_n 0), (1, .getfield 12), (4, .getfield 80), (7, .getfield 152), (10, .ifCond .eq 27), (13, .aload_n 0), (14, .getfield 12), (17, .getfield 90), (20, .aload_n 0), (21, .getfield 12), (24, .getfield 80), (27, .invokevirtual 155), (30, .iadd), (31, .sipush 9999), (34, .if_icmp .le 5), (37, .iconst (-1)), (38, .ireturn), (39, .aload_n 0), (40, .getfield 25), (43, .aload_n 0), (44, .getfield 12), (47, .invokevirtual 47), (50, .aload_n 0), (51, .getfield 12), (54, .invokevirtual 158), (57, .ireturn)]
/-- PackWatch.undo()I -/
def pw_t119 : List (Nat × Instr) := [(0, .aload_n 0), (1, .getfield 25), (4, .getfield 161), (7, .ifCond .ne 5), (10, .iconst (-1)), (11, .ireturn), (12, .aload_n 0), (13, .getfield 25), (16, .aload_n 0), (17, .getfield 12), (20, .invokevirtual 162), (23, .aload_n 0), (24, .getfield 25), (27, .getfield 161), (30, .ireturn)]
/-- PackWatch.image()I -/
def pw_t120 : List (Nat × Instr) := [(0, .aload_n 0), (1, .getfield 16), (4, .aload_n 0), (5, .getfield 12), (8, .invokevirtual 165), (11, .aload_n 0), (12, .getfield 29), (15, .aload_n 0), (16, .getfield 25), (19, .invokevirtual 168), (22, .aload_n 0), (23, .getfield 12), (26, .getfield 90), (29, .ireturn)]
/-- PackWatch.back()I -/
def pw_t121 : List (Nat × Instr) := [(0, .aload_n 0), (1, .getfield 12), (4, .aload_n 0), (5, .getfield 16), (8, .invokevirtual 165), (11, .aload_n 0), (12, .getfield 25), (15, .aload_n 0), (16, .getfield 29), (19, .invokevirtual 168), (22, .aload_n 0), (23, .getfield 12), (26, .getfield 90), (29, .ireturn)]
/-- PackWatch.is(I)I -/
def pw_t122 : List (Nat × Instr) := [(0, .aload_n 0), (1, .getfield 12), (4, .iload_n 1), (5, .invokevirtual 171), (8, .ireturn)]
/-- PackWatch.setting(I)I -/
def pw_t123 : List (Nat × Instr) := [(0, .iload_n 1), (1, .iconst 0), (2, .bipush 29), (4, .invokestatic 39), (7, .ifCond .eq 18), (10, .aload_n 0), (11, .getfield 12), (14, .getfield 80), (17, .getfield 84), (20, .iload_n 1), (21, .iaload), (22, .goto 5), (25, .ldc 174), (27, .ireturn)]
/-- PackWatch.of(II)I -/
def pw_t124 : List (Nat × Instr) := [(0, .aload_n 0), (1, .getfield 12), (4, .iload_n 1), (5, .iload_n 2), (6, .invokevirtual 175), (9, .ireturn)]
/-- PackWatch.ruleOf(II)I -/
def pw_t125 : List (Nat × Instr) := [(0, .iload_n 1), (1, .iconst (-1)), (2, .if_icmp .ne 14), (5, .aload_n 0), (6, .getfield 12), (9, .getfield 80), (12, .getfield 149), (15, .ireturn), (16, .iload_n 1), (17, .iconst 0), (18, .aload_n 0), (19, .getfield 12), (22, .getfield 80), (25, .getfield 149), (28, .iconst 1), (29, .isub), (30, .invokestatic 39), (33, .ifCond .eq 12), (36, .iload_n 2), (37, .iconst 0), (38, .iconst 4), (39, .invokestatic 39), (42, .ifCond .ne 6), (45, .ldc 174), (47, .ireturn), (48, .aload_n 0), (49, .getfield 12), (52, .getfield 80), (55, .getfield 178), (58, .iload_n 1), (59, .iconst 5), (60, .imul), (61, .iload_n 2), (62, .iadd), (63, .iaload), (64, .ireturn)]
/-- PackWatch.module(II)I -/
def pw_t126 : List (Nat × Instr) := [(0, .iload_n 1), (1, .iconst 0), (2, .iconst 3), (3, .invokestatic 39), (6, .ifCond .eq 12), (9, .iload_n 2), (10, .iconst 0), (11, .iconst 3), (12, .invokestatic 39), (15, .ifCond .ne 6), (18, .ldc 174), (20, .ireturn), (21, .iload_n 1), (22, .iconst 4), (23, .imul), (24, .istore_n 3), (25, .iload_n 3), (26, .iconst 4), (27, .iadd), (28, .aload_n 0), (29, .getfield 12), (32, .getfield 43), (35, .invokestatic 181), (38, .istore 4), (40, .iload_n 3), (41, .iload 4), (43, .if_icmp .lt 8), (46, .ldc 174), (48, .goto 14), (51, .aload_n 0), (52, .getfield 12), (55, .iload_n 3), (56, .iload 4), (58, .iload_n 2), (59, .invokevirtual 186), (62, .ireturn)]
/-- PackWatch.zoneOf(II)I -/
def pw_t127 : List (Nat × Instr) := [(0, .iload_n 1), (1, .iconst 0), (2, .aload_n 0), (3, .getfield 12), (6, .getfield 80), (9, .getfield 189), (12, .iconst 1), (13, .isub), (14, .invokestatic 39), (17, .ifCond .eq 12), (20, .iload_n 2), (21, .iconst 0), (22, .iconst 1), (23, .invokestatic 39), (26, .ifCond .ne 6), (29, .ldc 174), (31, .ireturn), (32, .aload_n 0), (33, .getfield 12), (36, .getfield 80), (39, .getfield 192), (42, .iload_n 1), (43, .iconst 2), (44, .imul), (45, .iload_n 2), (46, .iadd), (47, .iaload), (48, .ireturn)]
/-- PackWatch.cycles(II)I -/
def pw_t128 : List (Nat × Instr) := [(0, .aload_n 0), (1, .getfield 12), (4, .iload_n 1), (5, .invokevirtual 55), (8, .ifCond .eq 33), (11, .iload_n 2), (12, .iconst 0), (13, .bipush 10), (15, .invokestatic 39), (18, .ifCond .eq 23), (21, .aload_n 0), (22, .getfield 12), (25, .getfield 59), (28, .iload_n 1), (29, .aaload), (30, .getfield 195), (33, .getfield 199), (36, .iload_n 2), (37, .iaload), (38, .goto 4), (41, .iconst (-1)), (42, .ireturn)]
/-- PackWatch.turn(II)I -/
def pw_t129 : List (Nat × Instr) := [(0, .aload_n 0), (1, .getfield 12), (4, .iload_n 1), (5, .invokevirtual 55), (8, .ifCond .ne 5), (11, .iconst (-1)), (12, .ireturn), (13, .aload_n 0), (14, .getfield 12), (17, .getfield 59), (20, .iload_n 1), (21, .aaload), (22, .getfield 195), (25, .astore_n 3), (26, .iload_n 2), (27, .iconst 0), (28, .aload_n 3), (29, .getfield 204), (32, .iconst 1), (33, .isub), (34, .invokestatic 39), (37, .ifCond .eq 12), (40, .aload_n 3), (41, .getfield 205), (44, .iload_n 2), (45, .iaload), (46, .goto 4), (49, .iconst (-1)), (50, .ireturn)]
/-- PackWatch.stuckAs(I)I -/
def pw_t130 : List (Nat × Instr) := [(0, .iload_n 1), (1, .iconst 0), (2, .iconst 2), (3, .invokestatic 39), (6, .ifCond .eq 18), (9, .aload_n 0), (10, .getfield 12), (13, .getfield 80), (16, .getfield 115), (19, .iload_n 1), (20, .iaload), (21, .goto 4), (24, .iconst (-1)), (25, .ireturn)]
/-- PackWatch.warnings()I -/
def pw_t131 : List (Nat × Instr) := [(0, .iconst 0), (1, .istore_n 1), (2, .aload_n 0), (3, .getfield 12), (6, .getfield 80), (9, .getfield 84), (12, .bipush 26), (14, .iaload), (15, .istore_n 2), (16, .iconst 0), (17, .istore_n 3), (18, .iload_n 3), (19, .aload_n 0), (20, .getfield 12), (23, .getfield 43), (26, .if_icmp .ge 39), (29, .iload_n 1), (30, .aload_n 0), (31, .getfield 12), (34, .getfield 59), (37, .iload_n 3), (38, .aaload), (39, .aload_n 0), (40, .getfield 12), (43, .getfield 109), (46, .aload_n 0), (47, .getfield 12), (50, .getfield 80), (53, .iload_n 2), (54, .invokevirtual 208), (57, .ior), (58, .istore_n 1), (59, .iinc 3 1), (62, .goto (-44)), (65, .aload_n 0), (66, .getfield 12), (69, .getfield 43), (72, .ifCond .le 32), (75, .aload_n 0), (76, .getfield 12), (79, .invokevirtual 212), (82, .aload_n 0), (83, .getfield 12), (86, .getfield 80), (89, .getfield 84), (92, .bipush 17), (94, .iaload), (95, .iload_n 2), (96, .isub), (97, .if_icmp .le 7), (100, .iconst 1), (101, .goto 4), (104, .iconst 0), (105, .istore_n 3), (106, .iload_n 3), (107, .ifCond .eq 11), (110, .iload_n 1), (111, .sipush 128), (114, .ior), (115, .goto 4), (118, .iload_n 1), (119, .ireturn)]
/-- PackWatch.need(I)I -/
def pw_t132 : List (Nat × Instr) := [(0, .aload_n 0), (1, .getfield 12), (4, .getfield 80), (7, .getfield 84), (10, .bipush 12), (12, .iaload), (13, .istore_n 2), (14, .aload_n 0), (15, .getfield 12), (18, .iload_n 1), (19, .invokevirtual 55), (22, .ifCond .eq 7), (25, .iload_n 2), (26, .ifCond .gt 5), (29, .iconst (-1)), (30, .ireturn), (31, .aload_n 0), (32, .getfield 12), (35, .getfield 59), (38, .iload_n 1), (39, .aaload), (40, .getfield 215), (43, .aload_n 0), (44, .getfield 12), (47, .invokevirtual 218), (50, .aload_n 0), (51, .getfield 12), (54, .getfield 59), (57, .iload_n 1), (58, .aaload), (59, .getfield 221), (62, .invokestatic 224), (65, .isub), (66, .istore_n 3), (67, .iload_n 3), (68, .ifCond .gt 7), (71, .iconst 0), (72, .goto 10), (75, .iload_n 3), (76, .iload_n 2), (77, .iadd), (78, .iconst 1), (79, .isub), (80, .iload_n 2), (81, .idiv), (82, .ireturn)]
/-- PackWatch.trace(II)I -/
def pw_t133 : List (Nat × Instr) := [(0, .iload_n 1), (1, .iconst (-1)), (2, .if_icmp .ne 16), (5, .aload_n 0), (6, .getfield 12), (9, .getfield 227), (12, .getfield 231), (15, .goto 18), (18, .aload_n 0), (19, .getfield 12), (22, .getfield 227), (25, .iload_n 1), (26, .iload_n 2), (27, .iconst 3), (28, .ldc 174), (30, .invokevirtual 234), (33, .ireturn)]
/-- PackWatch.culprit(I)I -/
def pw_t134 : List (Nat × Instr) := [(0, .iload_n 1), (1, .iconst 0), (2, .iconst 3), (3, .invokestatic 39), (6, .ifCond .eq 18), (9, .aload_n 0), (10, .getfield 12), (13, .getfield 100), (16, .getfield 238), (19, .iload_n 1), (20, .iaload), (21, .goto 4), (24, .iconst (-1)), (25, .ireturn)]
/-- PackWatch.since(III)I -/
def pw_t135 : List (Nat × Instr) := [(0, .iload_n 1), (1, .iconst 0), (2, .iconst 2), (3, .invokestatic 39), (6, .ifCond .eq 30), (9, .aload_n 0), (10, .getfield 12), (13, .iload_n 2), (14, .invokevirtual 55), (17, .ifCond .eq 19), (20, .iload_n 2), (21, .aload_n 0), (22, .getfield 12), (25, .getfield 241), (28, .iload_n 1), (29, .aaload), (30, .getfield 245), (33, .if_icmp .lt 6), (36, .ldc 174), (38, .ireturn), (39, .aload_n 0), (40, .getfield 12), (43, .getfield 241), (46, .iload_n 1), (47, .aaload), (48, .astore 4), (50, .iload_n 3), (51, .tableswitch 93 0 3 #[29, 37, 58, 79]), (80, .aload 4), (82, .getfield 248), (85, .iload_n 2), (86, .iaload), (87, .ireturn), (88, .aload_n 0), (89, .getfield 12), (92, .getfield 59), (95, .iload_n 2), (96, .aaload), (97, .getfield 251), (100, .aload 4), (102, .getfield 248), (105, .iload_n 2), (106, .iaload), (107, .isub), (108, .ireturn), (109, .aload_n 0), (110, .getfield 12), (113, .getfield 59), (116, .iload_n 2), (117, .aaload), (118, .getfield 254), (121, .aload 4), (123, .getfield 257), (126, .iload_n 2), (127, .iaload), (128, .isub), (129, .ireturn), (130, .aload_n 0), (131, .getfield 12), (134, .getfield 90), (137, .aload 4), (139, .getfield 260), (142, .isub), (143, .ireturn), (144, .ldc 174), (146, .ireturn)]
/-- PackWatch.rank(I)I -/
def pw_t136 : List (Nat × Instr) := [(0, .aload_n 0), (1, .getfield 12), (4, .iload_n 1), (5, .invokevirtual 261), (8, .ireturn)]
/-- PackWatch.middle()I -/
def pw_t137 : List (Nat × Instr) := [(0, .aload_n 0), (1, .getfield 12), (4, .invokevirtual 264), (7, .ireturn)]
/-- PackWatch.scatter()I -/
def pw_t138 : List (Nat × Instr) := [(0, .aload_n 0), (1, .getfield 12), (4, .getfield 43), (7, .ifCond .ne 5), (10, .iconst (-1)), (11, .ireturn), (12, .aload_n 0), (13, .getfield 12), (16, .invokevirtual 264), (19, .istore_n 1), (20, .iconst 0), (21, .istore_n 2), (22, .iconst 0), (23, .istore_n 3), (24, .iload_n 3), (25, .aload_n 0), (26, .getfield 12), (29, .getfield 43), (32, .if_icmp .ge 29), (35, .iload_n 2), (36, .aload_n 0), (37, .getfield 12), (40, .getfield 59), (43, .iload_n 3), (44, .aaload), (45, .getfield 251), (48, .iload_n 1), (49, .isub), (50, .invokestatic 267), (53, .iadd), (54, .istore_n 2), (55, .iinc 3 1), (58, .goto (-34)), (61, .iload_n 2), (62, .ireturn)]
/-- PackWatch.goal()I -/
def pw_t139 : List (Nat × Instr) := [(0, .aload_n 0), (1, .getfield 12), (4, .invokevirtual 270), (7, .ireturn)]
/-- PackWatch.flow(I)I -/
def pw_t140 : List (Nat × Instr) := [(0, .iload_n 1), (1, .iconst 0), (2, .aload_n 0), (3, .getfield 12), (6, .getfield 43), (9, .iconst 2), (10, .isub), (11, .invokestatic 39), (14, .ifCond .ne 6), (17, .ldc 174), (19, .ireturn), (20, .aload_n 0), (21, .getfield 12), (24, .invokevirtual 270), (27, .istore_n 2), (28, .iconst 0), (29, .istore_n 3), (30, .iconst 0), (31, .istore 4), (33, .iload 4), (35, .iload_n 1), (36, .if_icmp .gt 43), (39, .iload_n 3), (40, .aload_n 0), (41, .getfield 12), (44, .getfield 59), (47, .iload 4), (49, .aaload), (50, .getfield 215), (53, .iload_n 2), (54, .aload_n 0), (55, .getfield 12), (58, .getfield 59), (61, .iload 4), (63, .aaload), (64, .getfield 221), (67, .invokestatic 224), (70, .isub), (71, .iadd), (72, .istore_n 3), (73, .iinc 4 1), (76, .goto (-43)), (79, .iload_n 3), (80, .ireturn)]
/-- PackWatch.halves(I)I -/
def pw_t141 : List (Nat × Instr) := [(0, .aload_n 0), (1, .getfield 12), (4, .getfield 43), (7, .istore_n 2), (8, .iload_n 2), (9, .ifCond .eq 24), (12, .iload_n 2), (13, .bipush 8), (15, .if_icmp .gt 18), (18, .iload_n 2), (19, .iconst 2), (20, .irem), (21, .ifCond .ne 12), (24, .iload_n 1), (25, .iconst 0), (26, .iconst 1), (27, .invokestatic 39), (30, .ifCond .ne 5), (33, .iconst (-1)), (34, .ireturn), (35, .iconst (-1)), (36, .istore_n 3), (37, .ldc_w 273), (40, .istore 4), (42, .iconst 1), (43, .istore 5), (45, .iload 5), (47, .iconst 1), (48, .iload_n 2), (49, .ishl), (50, .if_icmp .ge 48), (53, .aload_n 0), (54, .getfield 12), (57, .iload 5), (59, .invokevirtual 274), (62, .invokestatic 267), (65, .istore 6), (67, .iload 5), (69, .invokestatic 277), (72, .iload_n 2), (73, .iconst 2), (74, .idiv), (75, .if_icmp .ne 17), (78, .iload 6), (80, .iload 4), (82, .if_icmp .ge 10), (85, .iload 6), (87, .istore 4), (89, .iload 5), (91, .istore_n 3), (92, .iinc 5 2), (95, .goto (-50)), (98, .iload_n 1), (99, .ifCond .ne 7), (102, .iload_n 3), (103, .goto 5), (106, .iload 4), (108, .ireturn)]
/-- PackWatch.cheapest(III)I -/
def pw_t142 : List (Nat × Instr) := [(0, .iload_n 1), (1, .iconst 0), (2, .bipush 24), (4, .invokestatic 39), (7, .ifCond .eq 22), (10, .iload_n 2), (11, .iconst 1), (12, .bipush 12), (14, .invokestatic 39), (17, .ifCond .eq 12), (20, .iload_n 3), (21, .iconst 0), (22, .iconst 1), (23, .invokestatic 39), (26, .ifCond .ne 5), (29, .iconst (-1)), (30, .ireturn), (31, .aload_n 0), (32, .iload_n 1), (33, .iload_n 2), (34, .invokevirtual 282), (37, .ldc2_w 286), (40, .lstore 4), (42, .iconst 0), (43, .istore 6), (45, .iload 6), (47, .iload_n 2), (48, .if_icmp .gt 42), (51, .iload_n 1), (52, .bipush 13), (54, .imul), (55, .iload 6), (57, .iadd), (58, .istore 7), (60, .lload 4), (62, .aload_n 0), (63, .getfield 32), (66, .iload 7), (68, .laload), (69, .aload_n 0), (70, .getfield 36), (73, .iload 7), (75, .laload), (76, .invokestatic 288), (79, .invokestatic 288), (82, .lstore 4), (84, .iinc 6 1), (87, .goto (-42)), (90, .lload 4), (92, .ldc2_w 286), (95, .lcmp), (96, .ifCond .lt 5), (99, .iconst (-1)), (100, .ireturn), (101, .iload_n 3), (102, .ifCond .ne 12), (105, .lload 4), (107, .bipush 24), (109, .lshr), (110, .l2i), (111, .goto 10), (114, .lload 4), (116, .ldc2_w 291), (119, .land), (120, .l2i), (121, .ireturn)]
/-- PackWatch.hours(II)I -/
def pw_t143 : List (Nat × Instr) := [(0, .iload_n 1), (1, .iconst 0), (2, .sipush 1000), (5, .invokestatic 39), (8, .ifCond .eq 13), (11, .iload_n 2), (12, .iconst 1), (13, .ldc 118), (15, .invokestatic 39), (18, .ifCond .ne 5), (21, .iconst (-1)), (22, .ireturn), (23, .iconst 0), (24, .istore_n 3), (25, .iconst 0), (26, .istore 4), (28, .iload 4), (30, .aload_n 0), (31, .getfield 12), (34, .getfield 43), (37, .if_icmp .ge 41), (40, .aload_n 0), (41, .getfield 12), (44, .getfield 59), (47, .iload 4), (49, .aaload), (50, .astore 5), (52, .iload_n 3), (53, .iload_n 1), (54, .aload 5), (56, .getfield 221), (59, .invokestatic 224), (62, .aload 5), (64, .getfield 215), (67, .isub), (68, .invokestatic 293), (71, .istore_n 3), (72, .iinc 4 1), (75, .goto (-47)), (78, .iload_n 2), (79, .sipush 3600), (82, .imul), (83, .istore 4), (85, .iload_n 3), (86, .i2l), (87, .iload 4), (89, .i2l), (90, .ladd), (91, .lconst 1), (92, .lsub), (93, .iload 4), (95, .i2l), (96, .ldiv), (97, .l2i), (98, .ireturn)]
/-- PackWatch.energy()I -/
def pw_t144 : List (Nat × Instr) := [(0, .lconst 0), (1, .lstore_n 1), (2, .iconst 0), (3, .istore_n 3), (4, .iload_n 3), (5, .aload_n 0), (6, .getfield 12), (9, .getfield 43), (12, .if_icmp .ge 39), (15, .lload_n 1), (16, .aload_n 0), (17, .getfield 12), (20, .getfield 59), (23, .iload_n 3), (24, .aaload), (25, .getfield 215), (28, .i2l), (29, .aload_n 0), (30, .getfield 12), (33, .getfield 59), (36, .iload_n 3), (37, .aaload), (38, .getfield 296), (41, .i2l), (42, .lmul), (43, .ladd), (44, .lstore_n 1), (45, .iinc 3 1), (48, .goto (-44)), (51, .lload_n 1), (52, .ldc2_w 299), (55, .ldiv), (56, .l2i), (57, .ireturn)]
/-- PackWatch.below(I)I -/
def pw_t145 : List (Nat × Instr) := [(0, .iload_n 1), (1, .iconst 0), (2, .sipush 1000), (5, .invokestatic 39), (8, .ifCond .ne 5), (11, .iconst (-1)), (12, .ireturn), (13, .iconst 0), (14, .istore_n 2), (15, .iconst 0), (16, .istore_n 3), (17, .iload_n 3), (18, .aload_n 0), (19, .getfield 12), (22, .getfield 43), (25, .if_icmp .ge 33), (28, .iload_n 2), (29, .aload_n 0), (30, .getfield 12), (33, .getfield 59), (36, .iload_n 3), (37, .aaload), (38, .getfield 251), (41, .iload_n 1), (42, .if_icmp .ge 7), (45, .iconst 1), (46, .goto 4), (49, .iconst 0), (50, .iadd), (51, .istore_n 2), (52, .iinc 3 1), (55, .goto (-38)), (58, .iload_n 2), (59, .ireturn)]
/-- PackWatch.rest(I)I -/
def pw_t146 : List (Nat × Instr) := [(0, .iload_n 1), (1, .iconst 0), (2, .sipush 1000), (5, .invokestatic 39), (8, .ifCond .eq 10), (11, .iload_n 1), (12, .invokestatic 301), (15, .goto 4), (18, .iconst (-1)), (19, .ireturn)]
/-- PackWatch.partBy(I)I -/
def pw_t147 : List (Nat × Instr) := [(0, .iload_n 1), (1, .invokestatic 304), (4, .ireturn)]
/-- PackWatch.limit(I)I -/
def pw_t148 : List (Nat × Instr) := [(0, .iload_n 1), (1, .iconst 0), (2, .iconst 1), (3, .invokestatic 39), (6, .ifCond .eq 24), (9, .aload_n 0), (10, .getfield 12), (13, .getfield 43), (16, .ifCond .le 14), (19, .aload_n 0), (20, .getfield 12), (23, .iload_n 1), (24, .invokevirtual 307), (27, .goto 4), (30, .iconst (-1)), (31, .ireturn)]
/-- PackWatch.worst(I)I -/
def pw_t149 : List (Nat × Instr) := [(0, .iload_n 1), (1, .iconst 0), (2, .iconst 1), (3, .invokestatic 39), (6, .ifCond .eq 14), (9, .aload_n 0), (10, .getfield 12), (13, .iload_n 1), (14, .invokevirtual 310), (17, .goto 4), (20, .iconst (-1)), (21, .ireturn)]
/-- PackWatch.spread()I -/
def pw_t150 : List (Nat × Instr) := [(0, .aload_n 0), (1, .getfield 12), (4, .invokevirtual 212), (7, .ireturn)]
/-- PackWatch.mayReset(I)Z -/
def pw_t151 : List (Nat × Instr) := [(0, .aload_n 0), (1, .getfield 12), (4, .iload_n 1), (5, .invokevirtual 112), (8, .ireturn)]
/-- PackWatch.when(I)I -/
def pw_t152 : List (Nat × Instr) := [(0, .iload_n 1), (1, .iconst 0), (2, .bipush 10), (4, .invokestatic 39), (7, .ifCond .eq 18), (10, .aload_n 0), (11, .getfield 12), (14, .getfield 100), (17, .getfield 313), (20, .iload_n 1), (21, .iaload), (22, .goto 4), (25, .iconst (-1)), (26, .ireturn)]
/-- PackWatch.book(II)I -/
def pw_t153 : List (Nat × Instr) := [(0, .iload_n 1), (1, .iconst (-1)), (2, .if_icmp .ne 19), (5, .aload_n 0), (6, .getfield 12), (9, .getfield 100), (12, .getfield 316), (15, .getfield 231), (18, .goto 21), (21, .aload_n 0), (22, .getfield 12), (25, .getfield 100), (28, .getfield 316), (31, .iload_n 1), (32, .iload_n 2), (33, .iconst 2), (34, .bipush (-2)), (36, .invokevirtual 234), (39, .ireturn)]
/-- PackWatch.driveOf(II)I -/
def pw_t154 : List (Nat × Instr) := [(0, .iload_n 1), (1, .iconst 0), (2, .aload_n 0), (3, .getfield 12), (6, .getfield 80), (9, .getfield 152), (12, .iconst 1), (13, .isub), (14, .invokestatic 39), (17, .ifCond .eq 12), (20, .iload_n 2), (21, .iconst 0), (22, .iconst 1), (23, .invokestatic 39), (26, .ifCond .ne 6), (29, .ldc 174), (31, .ireturn), (32, .aload_n 0), (33, .getfield 12), (36, .getfield 80), (39, .getfield 319), (42, .iload_n 1), (43, .iconst 2), (44, .imul), (45, .iload_n 2), (46, .iadd), (47, .iaload), (48, .ireturn)]
/-- PackWatch.room(I)I -/
def pw_t155 : List (Nat × Instr) := [(0, .iload_n 1), (1, .iconst 0), (2, .iconst 1), (3, .invokestatic 39), (6, .ifCond .eq 13), (9, .aload_n 0), (10, .getfield 12), (13, .getfield 43), (16, .ifCond .ne 5), (19, .iconst (-1)), (20, .ireturn), (21, .ldc_w 273), (24, .istore_n 2), (25, .iconst 0), (26, .istore_n 3), (27, .iload_n 3), (28, .aload_n 0), (29, .getfield 12), (32, .getfield 43), (35, .if_icmp .ge 48), (38, .aload_n 0), (39, .getfield 12), (42, .getfield 59), (45, .iload_n 3), (46, .aaload), (47, .astore 4), (49, .iload_n 2), (50, .iload_n 1), (51, .ifCond .ne 17), (54, .aload 4), (56, .invokevirtual 63), (59, .aload 4), (61, .getfield 215), (64, .isub), (65, .goto 8), (68, .aload 4), (70, .getfield 215), (73, .invokestatic 181), (76, .istore_n 2), (77, .iinc 3 1), (80, .goto (-53)), (83, .iload_n 2), (84, .ireturn)]
/-- PackWatch.fullness()J -/
def pw_t156 : List (Nat × Instr) := [(0, .aload_n 0), (1, .getfield 12), (4, .invokevirtual 322), (7, .lstore_n 1), (8, .lload_n 1), (9, .lconst 0), (10, .lcmp), (11, .ifCond .ne 5), (14, .lconst 0), (15, .lreturn), (16, .aload_n 0), (17, .getfield 12), (20, .invokevirtual 326), (23, .l2d), (24, .lload_n 1), (25, .l2d), (26, .ddiv), (27, .invokestatic 329), (30, .lreturn)]
/-- PackWatch.off()I -/
def pw_t157 : List (Nat × Instr) := [(0, .aload_n 0), (1, .getfield 12), (4, .getfield 43), (7, .ifCond .ne 5), (10, .iconst 0), (11, .ireturn), (12, .iconst 0), (13, .istore_n 1), (14, .iconst 0), (15, .istore_n 2), (16, .iload_n 2), (17, .aload_n 0), (18, .getfield 12), (21, .getfield 43), (24, .if_icmp .ge 40), (27, .iload_n 1), (28, .aload_n 0), (29, .getfield 12), (32, .getfield 59), (35, .iload_n 2), (36, .aaload), (37, .invokevirtual 333), (40, .aload_n 0), (41, .getfield 12), (44, .getfield 59), (47, .iload_n 2), (48, .aaload), (49, .getfield 251), (52, .isub), (53, .invokestatic 267), (56, .iadd), (57, .istore_n 1), (58, .iinc 2 1), (61, .goto (-45)), (64, .iload_n 1), (65, .i2f), (66, .aload_n 0), (67, .getfield 12), (70, .getfield 43), (73, .i2f), (74, .fdiv), (75, .invokestatic 336), (78, .ireturn)]
/-- PackWatch.steps()I -/
def pw_t158 : List (Nat × Instr) := [(0, .aload_n 0), (1, .getfield 25), (4, .getfield 161), (7, .ireturn)]
/-- PackWatch.foretold(II)I -/
def pw_t159 : List (Nat × Instr) := [(0, .iload_n 1), (1, .iconst 1), (2, .sipush 300), (5, .invokestatic 39), (8, .ifCond .ne 6), (11, .ldc 174), (13, .ireturn), (14, .aload_n 0), (15, .getfield 19), (18, .aload_n 0), (19, .getfield 12), (22, .invokevirtual 165), (25, .aload_n 0), (26, .getfield 19), (29, .iload_n 1), (30, .invokevirtual 93), (33, .pop), (34, .aload_n 0), (35, .getfield 19), (38, .iload_n 2), (39, .invokevirtual 171), (42, .ireturn)]
/-- PackWatch.foretoldOf(III)I -/
def pw_t160 : List (Nat × Instr) := [(0, .iload_n 1), (1, .iconst 1), (2, .sipush 300), (5, .invokestatic 39), (8, .ifCond .ne 6), (11, .ldc 174), (13, .ireturn), (14, .aload_n 0), (15, .getfield 19), (18, .aload_n 0), (19, .getfield 12), (22, .invokevirtual 165), (25, .aload_n 0), (26, .getfield 19), (29, .iload_n 1), (30, .invokevirtual 93), (33, .pop), (34, .aload_n 0), (35, .getfield 19), (38, .iload_n 2), (39, .iload_n 3), (40, .invokevirtual 175), (43, .ireturn)]
/-- PackWatch.driven(I)I -/
def pw_t161 : List (Nat × Instr) := [(0, .aload_n 0), (1, .getfield 19), (4, .aload_n 0), (5, .getfield 12), (8, .invokevirtual 165), (11, .aload_n 0), (12, .getfield 19), (15, .invokevirtual 158), (18, .pop), (19, .aload_n 0), (20, .getfield 19), (23, .iload_n 1), (24, .invokevirtual 171), (27, .ireturn)]
/-- PackWatch.bare()I -/
def pw_t162 : List (Nat × Instr) := [(0, .aload_n 0), (1, .getfield 19), (4, .aload_n 0), (5, .getfield 12), (8, .invokevirtual 165), (11, .iconst 1), (12, .istore_n 1), (13, .iload_n 1), (14, .sipush 2000), (17, .if_icmp .gt 48), (20, .aload_n 0), (21, .getfield 19), (24, .getfield 340), (27, .istore_n 2), (28, .aload_n 0), (29, .getfield 19), (32, .invokevirtual 343), (35, .pop), (36, .aload_n 0), (37, .getfield 19), (40, .getfield 346), (43, .ifCond .ne 16), (46, .aload_n 0), (47, .getfield 19), (50, .getfield 340), (53, .iload_n 2), (54, .if_icmp .ne 5), (57, .iload_n 1), (58, .ireturn), (59, .iinc 1 1), (62, .goto (-49)), (65, .iconst (-1)), (66, .ireturn)]
/-- PackWatch.harm(I)I -/
def pw_t163 : List (Nat × Instr) := [(0, .iload_n 1), (1, .iconst 1), (2, .sipush 300), (5, .invokestatic 39), (8, .ifCond .eq 18), (11, .aload_n 0), (12, .getfield 12), (15, .getfield 90), (18, .iload_n 1), (19, .iadd), (20, .sipush 9999), (23, .if_icmp .le 5), (26, .iconst (-1)), (27, .ireturn), (28, .aload_n 0), (29, .getfield 19), (32, .aload_n 0), (33, .getfield 12), (36, .invokevirtual 165), (39, .iconst 0), (40, .istore_n 2), (41, .iload_n 2), (42, .iload_n 1), (43, .if_icmp .ge 48), (46, .aload_n 0), (47, .getfield 19), (50, .getfield 100), (53, .getfield 104), (56, .istore_n 3), (57, .aload_n 0), (58, .getfield 19), (61, .invokevirtual 343), (64, .ifCond .le 21), (67, .aload_n 0), (68, .getfield 19), (71, .getfield 100), (74, .getfield 104), (77, .iload_n 3), (78, .iconst (-1)), (79, .ixor), (80, .iand), (81, .invokestatic 349), (84, .ireturn), (85, .iinc 2 1), (88, .goto (-47)), (91, .iconst (-1)), (92, .ireturn)]
/-- PackWatch.power(II)I -/
def pw_t164 : List (Nat × Instr) := [(0, .iload_n 1), (1, .iconst 0), (2, .iconst 1), (3, .invokestatic 39), (6, .ifCond .eq 17), (9, .iload_n 2), (10, .iconst 1), (11, .bipush 60), (13, .invokestatic 39), (16, .ifCond .eq 7), (19, .iconst 1), (20, .goto 4), (23, .iconst 0), (24, .istore_n 3), (25, .iload_n 3), (26, .ifCond .eq 29), (29, .aload_n 0), (30, .getfield 12), (33, .getfield 97), (36, .iconst 2), (37, .if_icmp .ne 18), (40, .aload_n 0), (41, .getfield 12), (44, .getfield 90), (47, .iload_n 2), (48, .iadd), (49, .sipush 9999), (52, .if_icmp .le 5), (55, .iconst (-1)), (56, .ireturn), (57, .iload_n 1), (58, .ifCond .ne 7), (61, .iconst 1), (62, .goto 4), (65, .iconst (-1)), (66, .istore 4), (68, .aload_n 0), (69, .getfield 12), (72, .iload_n 1), (73, .invokevirtual 307), (76, .bipush 100), (78, .idiv), (79, .bipush 100), (81, .imul), (82, .istore 5), (84, .iload 5), (86, .ifCond .le 28), (89, .aload_n 0), (90, .iload 4), (92, .iload 5), (94, .imul), (95, .iload_n 2), (96, .invokevirtual 352), (99, .ifCond .eq 9), (102, .iload 4), (104, .iload 5), (106, .imul), (107, .ireturn), (108, .iinc 5 (-100)), (111, .goto (-27)), (114, .iconst 0), (115, .ireturn)]
/-- PackWatch.bestBand(II)I -/
def pw_t165 : List (Nat × Instr) := [(0, .iload_n 1), (1, .iconst 1), (2, .bipush 60), (4, .invokestatic 39), (7, .ifCond .eq 24), (10, .iload_n 2), (11, .iconst 0), (12, .sipush 1000), (15, .invokestatic 39), (18, .ifCond .eq 13), (21, .aload_n 0), (22, .getfield 12), (25, .getfield 43), (28, .ifCond .ne 5), (31, .iconst (-1)), (32, .ireturn), (33, .bipush 99), (35, .istore_n 3), (36, .iload_n 3), (37, .ifCond .lt 23), (40, .aload_n 0), (41, .iload_n 1), (42, .bipush 14), (44, .iload_n 3), (45, .invokevirtual 355), (48, .iload_n 2), (49, .if_icmp .gt 5), (52, .iload_n 3), (53, .ireturn), (54, .iinc 3 (-1)), (57, .goto (-21)), (60, .iconst (-1)), (61, .ireturn)]
/-- PackWatch.yields(I)I -/
def pw_t166 : List (Nat × Instr) := [(0, .iload_n 1), (1, .iconst 1), (2, .ldc 118), (4, .invokestatic 39), (7, .ifCond .ne 5), (10, .iconst (-1)), (11, .ireturn), (12, .aload_n 0), (13, .getfield 19), (16, .aload_n 0), (17, .getfield 12), (20, .invokevirtual 165), (23, .aload_n 0), (24, .getfield 19), (27, .getfield 80), (30, .iconst 0), (31, .putfield 149), (34, .aload_n 0), (35, .getfield 19), (38, .getfield 80), (41, .getfield 84), (44, .bipush 20), (46, .iload_n 1), (47, .ineg), (48, .iastore), (49, .iconst 1), (50, .istore_n 2), (51, .iload_n 2), (52, .sipush 2000), (55, .if_icmp .gt 44), (58, .aload_n 0), (59, .getfield 19), (62, .getfield 90), (65, .sipush 9999), (68, .if_icmp .ge 31), (71, .aload_n 0), (72, .getfield 19), (75, .invokevirtual 343), (78, .pop), (79, .aload_n 0), (80, .getfield 19), (83, .getfield 109), (86, .iload_n 1), (87, .ineg), (88, .if_icmp .eq 5), (91, .iload_n 2), (92, .ireturn), (93, .iinc 2 1), (96, .goto (-45)), (99, .iconst (-1)), (100, .ireturn)]
/-- PackWatch.eta(I)I -/
def pw_t167 : List (Nat × Instr) := [(0, .iload_n 1), (1, .iconst 0), (2, .iconst 1), (3, .invokestatic 39), (6, .ifCond .ne 5), (9, .iconst (-1)), (10, .ireturn), (11, .aload_n 0), (12, .getfield 19), (15, .aload_n 0), (16, .getfield 12), (19, .invokevirtual 165), (22, .iconst 0), (23, .istore_n 2), (24, .iload_n 2), (25, .sipush 2000), (28, .if_icmp .gt 37), (31, .aload_n 0), (32, .getfield 19), (35, .iload_n 1), (36, .invokevirtual 358), (39, .ifCond .eq 5), (42, .iload_n 2), (43, .ireturn), (44, .iload_n 2), (45, .sipush 2000), (48, .if_icmp .ge 11), (51, .aload_n 0), (52, .getfield 19), (55, .invokevirtual 343), (58, .pop), (59, .iinc 2 1), (62, .goto (-38)), (65, .iconst (-1)), (66, .ireturn)]
/-- PackWatch.bestMode(I)I -/
def pw_t168 : List (Nat × Instr) := [(0, .iload_n 1), (1, .iconst 1), (2, .sipush 300), (5, .invokestatic 39), (8, .ifCond .eq 13), (11, .aload_n 0), (12, .getfield 12), (15, .getfield 43), (18, .ifCond .ne 5), (21, .iconst (-1)), (22, .ireturn), (23, .iconst (-1)), (24, .istore_n 2), (25, .ldc_w 273), (28, .istore_n 3), (29, .iconst 0), (30, .istore 4), (32, .iload 4), (34, .iconst 2), (35, .if_icmp .gt 32), (38, .aload_n 0), (39, .iload_n 1), (40, .bipush 11), (42, .iload 4), (44, .invokevirtual 355), (47, .istore 5), (49, .iload 5), (51, .iload_n 3), (52, .if_icmp .ge 9), (55, .iload 5), (57, .istore_n 3), (58, .iload 4), (60, .istore_n 2), (61, .iinc 4 1), (64, .goto (-32)), (67, .iload_n 2), (68, .ireturn)]
/-- PackWatch.spreadBehind(III)I -/
def pw_t169 : List (Nat × Instr) := [(0, .aload_n 0), (1, .getfield 19), (4, .aload_n 0), (5, .getfield 12), (8, .invokevirtual 165), (11, .aload_n 0), (12, .getfield 19), (15, .getfield 80), (18, .getfield 84), (21, .iload_n 2), (22, .iload_n 3), (23, .iastore), (24, .iconst 0), (25, .istore 4), (27, .iload 4), (29, .iload_n 1), (30, .if_icmp .ge 17), (33, .aload_n 0), (34, .getfield 19), (37, .invokevirtual 343), (40, .pop), (41, .iinc 4 1), (44, .goto (-17)), (47, .aload_n 0), (48, .getfield 19), (51, .invokevirtual 212), (54, .ireturn)]
/-- PackWatch.bears(II)Z -/
def pw_t170 : List (Nat × Instr) := [(0, .aload_n 0), (1, .getfield 19), (4, .aload_n 0), (5, .getfield 12), (8, .invokevirtual 165), (11, .aload_n 0), (12, .getfield 19), (15, .getfield 80), (18, .iconst 0), (19, .putfield 149), (22, .aload_n 0), (23, .getfield 19), (26, .getfield 80), (29, .getfield 84), (32, .bipush 23), (34, .iconst 0), (35, .iastore), (36, .aload_n 0), (37, .getfield 19), (40, .getfield 80), (43, .getfield 84), (46, .bipush 20), (48, .iload_n 1), (49, .iastore), (50, .iconst 0), (51, .istore_n 3), (52, .iload_n 3), (53, .iload_n 2), (54, .if_icmp .ge 32), (57, .aload_n 0), (58, .getfield 19), (61, .invokevirtual 343), (64, .ifCond .gt 14), (67, .aload_n 0), (68, .getfield 19), (71, .getfield 109), (74, .iload_n 1), (75, .if_icmp .eq 5), (78, .iconst 0), (79, .ireturn), (80, .iinc 3 1), (83, .goto (-31)), (86, .iconst 1), (87, .ireturn)]
/-- PackWatch.planHours(II)V -/
def pw_t171 : List (Nat × Instr) := [(0, .aload_n 0), (1, .getfield 32), (4, .ldc2_w 286), (7, .invokestatic 361), (10, .aload_n 0), (11, .getfield 36), (14, .ldc2_w 286), (17, .invokestatic 361), (20, .aload_n 0), (21, .getfield 32), (24, .iconst 0), (25, .lconst 0), (26, .lastore), (27, .iconst 0), (28, .istore_n 3), (29, .iload_n 3), (30, .bipush 24), (32, .if_icmp .ge 69), (35, .aload_n 0), (36, .getfield 12), (39, .getfield 80), (42, .getfield 129), (45, .iload_n 3), (46, .iaload), (47, .i2l), (48, .bipush 24), (50, .lshl), (51, .lconst 1), (52, .iload_n 3), (53, .lshl), (54, .ladd), (55, .lstore 4), (57, .iload_n 1), (58, .istore 6), (60, .iload 6), (62, .ifCond .lt 33), (65, .iload_n 2), (66, .istore 7), (68, .iload 7), (70, .ifCond .lt 19), (73, .aload_n 0), (74, .iload 6), (76, .iload 7), (78, .lload 4), (80, .invokevirtual 367), (83, .iinc 7 (-1)), (86, .goto (-18)), (89, .iinc 6 (-1)), (92, .goto (-32)), (95, .iinc 3 1), (98, .goto (-69)), (101, .return_)]
/-- PackWatch.planOneHour(IIJ)V -/
def pw_t172 : List (Nat × Instr) := [(0, .iload_n 1), (1, .bipush 13), (3, .imul), (4, .iload_n 2), (5, .iadd), (6, .istore 5), (8, .aload_n 0), (9, .getfield 32), (12, .iload 5), (14, .aload_n 0), (15, .getfield 32), (18, .iload 5), (20, .laload), (21, .aload_n 0), (22, .getfield 36), (25, .iload 5), (27, .laload), (28, .invokestatic 288), (31, .lastore), (32, .ldc2_w 286), (35, .lstore 6), (37, .iload_n 1), (38, .ifCond .le 35), (41, .iload_n 2), (42, .ifCond .le 31), (45, .iload 5), (47, .bipush 13), (49, .isub), (50, .istore 8), (52, .aload_n 0), (53, .getfield 36), (56, .iload 8), (58, .laload), (59, .aload_n 0), (60, .getfield 32), (63, .iload 8), (65, .iconst 1), (66, .isub), (67, .laload), (68, .invokestatic 288), (71, .lstore 6), (73, .aload_n 0), (74, .getfield 36), (77, .iload 5), (79, .lload 6), (81, .lload_n 3), (82, .ladd), (83, .ldc2_w 286), (86, .invokestatic 288), (89, .lastore), (90, .return_)]
/-- PackWatch.within(III)Z -/
def pw_t173 : List (Nat × Instr) := [(0, .iload_n 0), (1, .iload_n 1), (2, .if_icmp .lt 12), (5, .iload_n 0), (6, .iload_n 2), (7, .if_icmp .gt 7), (10, .iconst 1), (11, .goto 4), (14, .iconst 0), (15, .ireturn)]
/-- PackWatch.settingBears(II)Z -/
def pw_t174 : List (Nat × Instr) := [(0, .iload_n 0), (1, .iconst 0), (2, .bipush 29), (4, .invokestatic 39), (7, .ifCond .eq 24), (10, .iload_n 1), (11, .getstatic 371), (14, .iload_n 0), (15, .iaload), (16, .getstatic 374), (19, .iload_n 0), (20, .iaload), (21, .invokestatic 39), (24, .ifCond .eq 7), (27, .iconst 1), (28, .goto 4), (31, .iconst 0), (32, .ireturn)]
/-- PackWatch.heldTo(III)I -/
def pw_t175 : List (Nat × Instr) := [(0, .iload_n 0), (1, .iload_n 1), (2, .if_icmp .ge 5), (5, .iload_n 1), (6, .ireturn), (7, .iload_n 0), (8, .iload_n 2), (9, .if_icmp .le 7), (12, .iload_n 2), (13, .goto 4), (16, .iload_n 0), (17, .ireturn)]
/-- PackWatch.chargeBy(II)I -/
def pw_t176 : List (Nat × Instr) := [(0, .iload_n 0), (1, .iload_n 1), (2, .imul), (3, .bipush 36), (5, .imul), (6, .bipush 10), (8, .idiv), (9, .ireturn)]
/-- PackWatch.partOf(II)I -/
def pw_t177 : List (Nat × Instr) := [(0, .iload_n 1), (1, .ifCond .gt 7), (4, .iconst 0), (5, .goto 13), (8, .iload_n 0), (9, .i2l), (10, .ldc2_w 377), (13, .lmul), (14, .iload_n 1), (15, .i2l), (16, .ldiv), (17, .l2i), (18, .ireturn)]
/-- PackWatch.restBy(I)I -/
def pw_t178 : List (Nat × Instr) := [(0, .iload_n 0), (1, .ifCond .ge 7), (4, .iconst 0), (5, .goto 4), (8, .iload_n 0), (9, .istore_n 1), (10, .iload_n 1), (11, .bipush 100), (13, .idiv), (14, .istore_n 2), (15, .iload_n 2), (16, .getstatic 379), (19, .arraylength), (20, .iconst 1), (21, .isub), (22, .if_icmp .lt 14), (25, .getstatic 379), (28, .getstatic 379), (31, .arraylength), (32, .iconst 1), (33, .isub), (34, .iaload), (35, .ireturn), (36, .getstatic 379), (39, .iload_n 2), (40, .iaload), (41, .getstatic 379), (44, .iload_n 2), (45, .iconst 1), (46, .iadd), (47, .iaload), (48, .getstatic 379), (51, .iload_n 2), (52, .iaload), (53, .isub), (54, .iload_n 1), (55, .bipush 100), (57, .irem), (58, .imul), (59, .bipush 100), (61, .idiv), (62, .iadd), (63, .ireturn)]
/-- PackWatch.partByVolts(I)I -/
def pw_t179 : List (Nat × Instr) := [(0, .iconst 0), (1, .istore_n 1), (2, .sipush 1000), (5, .istore_n 2), (6, .iconst 0), (7, .istore_n 3), (8, .iload_n 3), (9, .bipush 10), (11, .if_icmp .ge 41), (14, .iload_n 1), (15, .iload_n 2), (16, .if_icmp .ge 36), (19, .iload_n 1), (20, .iload_n 2), (21, .iadd), (22, .iconst 2), (23, .idiv), (24, .istore 4), (26, .iload 4), (28, .invokestatic 301), (31, .iload_n 0), (32, .if_icmp .lt 9), (35, .iload 4), (37, .istore_n 2), (38, .goto 8), (41, .iload 4), (43, .iconst 1), (44, .iadd), (45, .istore_n 1), (46, .iinc 3 1), (49, .goto (-41)), (52, .iload_n 1), (53, .ireturn)]
/-- PackWatch.lowestBit(I)I -/
def pw_t180 : List (Nat × Instr) := [(0, .iload_n 0), (1, .ifCond .ne 7), (4, .iconst (-1)), (5, .goto 7), (8, .iload_n 0), (9, .invokestatic 382), (12, .ireturn)]
/-- PackWatch.bitsOfDouble(D)J -/
def pw_t181 : List (Nat × Instr) := [(0, .dload_n 0), (1, .dconst 0), (2, .dcmp .g), (3, .ifCond .gt 5), (6, .lconst 0), (7, .lreturn), (8, .iconst 0), (9, .istore_n 2), (10, .dload_n 0), (11, .dstore_n 3), (12, .iconst 0), (13, .istore 5), (15, .iload 5), (17, .bipush 64), (19, .if_icmp .ge 24), (22, .dload_n 3), (23, .dconst 1), (24, .dcmp .g), (25, .ifCond .ge 18), (28, .dload_n 3), (29, .ldc2_w 385), (32, .dmul), (33, .dstore_n 3), (34, .iinc 2 (-1)), (37, .iinc 5 1), (40, .goto (-25)), (43, .dload_n 3), (44, .dconst 1), (45, .dsub), (46, .ldc2_w 387), (49, .dmul), (50, .d2l), (51, .lstore 5), (53, .sipush 1023), (56, .iload_n 2), (57, .iadd), (58, .i2l), (59, .bipush 52), (61, .lshl), (62, .lload 5), (64, .ladd), (65, .lreturn)]
/-- PackWatch.bitsOfFloat(F)I -/
def pw_t182 : List (Nat × Instr) := [(0, .fload_n 0), (1, .fconst 0), (2, .fcmp .g), (3, .ifCond .gt 5), (6, .iconst 0), (7, .ireturn), (8, .iconst 0), (9, .istore_n 1), (10, .fload_n 0), (11, .fstore_n 2), (12, .iconst 0), (13, .istore_n 3), (14, .iload_n 3), (15, .bipush 32), (17, .if_icmp .ge 22), (20, .fload_n 2), (21, .fconst 1), (22, .fcmp .g), (23, .ifCond .ge 16), (26, .fload_n 2), (27, .fconst 2), (28, .fmul), (29, .fstore_n 2), (30, .iinc 1 (-1)), (33, .iinc 3 1), (36, .goto (-22)), (39, .iconst 0), (40, .istore_n 3), (41, .iload_n 3), (42, .bipush 32), (44, .if_icmp .ge 22), (47, .fload_n 2), (48, .fconst 2), (49, .fcmp .l), (50, .ifCond .lt 16), (53, .fload_n 2), (54, .fconst 2), (55, .fdiv), (56, .fstore_n 2), (57, .iinc 1 1), (60, .iinc 3 1), (63, .goto (-22)), (66, .fload_n 2), (67, .fconst 1), (68, .fsub), (69, .ldc_w 389), (72, .fmul), (73, .f2i), (74, .istore_n 3), (75, .bipush 127), (77, .iload_n 1), (78, .iadd), (79, .bipush 23), (81, .ishl), (82, .iload_n 3), (83, .iadd), (84, .ireturn)]
/-- PackWatchModel.<init>()V -/
def pw_t183 : List (Nat × Instr) := [(0, .aload_n 0), (1, .invokespecial 1), (4, .aload_n 0), (5, .bipush 90), (7, .newarray .int), (9, .dup), (10, .iconst 0), (11, .sipush 3000), (14, .iastore), (15, .dup), (16, .iconst 1), (17, .sipush 4500), (20, .iastore), (21, .dup), (22, .iconst 2), (23, .sipush 4200), (26, .iastore), (27, .dup), (28, .iconst 3), (29, .sipush 2000), (32, .iastore), (33, .dup), (34, .iconst 4), (35, .sipush 3700), (38, .iastore), (39, .dup), (40, .iconst 5), (41, .sipush 2900), (44, .iastore), (45, .dup), (46, .bipush 6), (48, .sipush 200), (51, .iastore), (52, .dup), (53, .bipush 7), (55, .sipush 900), (58, .iastore), (59, .dup), (60, .bipush 8), (62, .sipush 600), (65, .iastore), (66, .dup), (67, .bipush 9), (69, .sipush (-400)), (72, .iastore), (73, .dup), (74, .bipush 10), (76, .sipush 200), (79, .iastore), (80, .dup), (81, .bipush 11), (83, .iconst 0), (84, .iastore), (85, .dup), (86, .bipush 12), (88, .iconst 1), (89, .iastore), (90, .dup), (91, .bipush 13), (93, .ldc 7), (95, .iastore), (96, .dup), (97, .bipush 14), (99, .ldc 8), (101, .iastore), (102, .dup), (103, .bipush 15), (105, .iconst 1), (106, .iastore), (107, .dup), (108, .bipush 16), (110, .sipush 999), (113, .iastore), (114, .dup), (115, .bipush 17), (117, .sipush 200), (120, .iastore), (121, .dup), (122, .bipush 18), (124, .sipush (-400)), (127, .iastore), (128, .dup), (129, .bipush 19), (131, .sipush 600), (134, .iastore), (135, .dup), (136, .bipush 20), (138, .sipush 250), (141, .iastore), (142, .dup), (143, .bipush 21), (145, .iconst 0), (146, .iastore), (147, .dup), (148, .bipush 22), (150, .sipush 9999), (153, .iastore), (154, .dup), (155, .bipush 23), (157, .iconst 0), (158, .iastore), (159, .dup), (160, .bipush 24), (162, .iconst 0), (163, .iastore), (164, .dup), (165, .bipush 25), (167, .sipush 9999), (170, .iastore), (171, .dup), (172, .bipush 26), (174, .bipush 20), (176, .iastore), (177, .dup), (178, .bipush 27), (180, .iconst 0), (181, .iastore), (182, .dup), (183, .bipush 28), (185, .ldc 7), (187, .iastore), (188, .dup), (189, .bipush 29), (191, .sipush 9999), (194, .iastore), (195, .dup), (196, .bipush 30), (198, .iconst 0), (199, .iastore), (200, .dup), (201, .bipush 31), (203, .sipush 9999), (206, .iastore), (207, .dup), (208, .bipush 32), (210, .sipush 500), (213, .iastore), (214, .dup), (215, .bipush 33), (217, .iconst 0), (218, .iastore), (219, .dup), (220, .bipush 34), (222, .iconst 2), (223, .iastore), (224, .dup), (225, .bipush 35), (227, .iconst 0), (228, .iastore), (229, .dup), (230, .bipush 36), (232, .iconst 0), (233, .iastore), (234, .dup), (235, .bipush 37), (237, .sipush 9999), (240, .iastore), (241, .dup), (242, .bipush 38), (244, .bipush 100), (246, .iastore), (247, .dup), (248, .bipush 39), (250, .iconst 0), (251, .iastore), (252, .dup), (253, .bipush 40), (255, .bipush 16), (257, .iastore), (258, .dup), (259, .bipush 41), (261, .iconst 4), (262, .iastore), (263, .dup), (264, .bipush 42), (266, .iconst 0), (267, .iastore), (268, .dup), (269, .bipush 43), (271, .sipush 999), (274, .iastore), (275, .dup), (276, .bipush 44), (278, .bipush 10), (280, .iastore), (281, .dup), (282, .bipush 45), (284, .iconst 0), (285, .iastore), (286, .dup), (287, .bipush 46), (289, .ldc 7), (291, .iastore), (292, .dup), (293, .bipush 47), (295, .sipush 500), (298, .iastore), (299, .dup), (300, .bipush 48), (302, .iconst 0), (303, .iastore), (304, .dup), (305, .bipush 49), (307, .bipush 100), (309, .iastore), (310, .dup), (311, .bipush 50), (313, .bipush 90), (315, .iastore), (316, .dup), (317, .bipush 51), (319, .iconst 1), (320, .iastore), (321, .dup), (322, .bipush 52), (324, .sipush 2000), (327, .iastore), (328, .dup), (329, .bipush 53), (331, .sipush 900), (334, .iastore), (335, .dup), (336, .bipush 54), (338, .sipush (-999)), (341, .iastore), (342, .dup), (343, .bipush 55), (345, .sipush 999), (348, .iastore), (349, .dup), (350, .bipush 56), (352, .iconst 0), (353, .iastore), (354, .dup), (355, .bipush 57), (357, .iconst 1), (358, .iastore), (359, .dup), (360, .bipush 58), (362, .bipush 99), (364, .iastore), (365, .dup), (366, .bipush 59), (368, .bipush 10), (370, .iastore), (371, .dup), (372, .bipush 60), (374, .ldc 9), (376, .iastore), (377, .dup), (378, .bipush 61), (380, .ldc 7), (382, .iastore), (383, .dup), (384, .bipush 62), (386, .iconst 0), (387, .iastore), (388, .dup), (389, .bipush 63), (391, .iconst 1), (392, .iastore), (393, .dup), (394, .bipush 64), (396, .bipush 99), (398, .iastore), (399, .dup), (400, .bipush 65), (402, .bipush 10), (404, .iastore), (405, .dup), (406, .bipush 66), (408, .iconst 0), (409, .iastore), (410, .dup), (411, .bipush 67), (413, .bipush 64), (415, .iastore), (416, .dup), (417, .bipush 68), (419, .iconst 0), (420, .iastore), (421, .dup), (422, .bipush 69), (424, .iconst 0), (425, .iastore), (426, .dup), (427, .bipush 70), (429, .sipush 4500), (432, .iastore), (433, .dup), (434, .bipush 71), (436, .iconst 0), (437, .iastore), (438, .dup), (439, .bipush 72), (441, .iconst 0), (442, .iastore), (443, .dup), (444, .bipush 73), (446, .sipush 9999), (449, .iastore), (450, .dup), (451, .bipush 74), (453, .iconst 0), (454, .iastore), (455, .dup), (456, .bipush 75), (458, .iconst 0), (459, .iastore), (460, .dup), (461, .bipush 76), (463, .bipush 99), (465, .iastore), (466, .dup), (467, .bipush 77), (469, .iconst 0), (470, .iastore), (471, .dup), (472, .bipush 78), (474, .iconst 0), (475, .iastore), (476, .dup), (477, .bipush 79), (479, .sipush 200), (482, .iastore), (483, .dup), (484, .bipush 80), (486, .iconst 0), (487, .iastore), (488, .dup), (489, .bipush 81), (491, .iconst 0), (492, .iastore), (493, .dup), (494, .bipush 82), (496, .sipush 999), (499, .iastore), (500, .dup), (501, .bipush 83), (503, .iconst 0), (504, .iastore), (505, .dup), (506, .bipush 84), (508, .iconst 0), (509, .iastore), (510, .dup), (511, .bipush 85), (513, .sipush 999), (516, .iastore), (517, .dup), (518, .bipush 86), (520, .iconst 0), (521, .iastore), (522, .dup), (523, .bipush 87), (525, .iconst 0), (526, .iastore), (527, .dup), (528, .bipush 88), (530, .iconst 1), (531, .iastore), (532, .dup), (533, .bipush 89), (535, .iconst 1), (536, .iastore), (537, .putfield 10), (540, .aload_n 0), (541, .bipush 11), (543, .newarray .int), (545, .dup), (546, .iconst 0), (547, .sipush 3000), (550, .iastore), (551, .dup), (552, .iconst 1), (553, .sipush 3450), (556, .iastore), (557, .dup), (558, .iconst 2), (559, .sipush 3550), (562, .iastore), (563, .dup), (564, .iconst 3), (565, .sipush 3600), (568, .iastore), (569, .dup), (570, .iconst 4), (571, .sipush 3650), (574, .iastore), (575, .dup), (576, .iconst 5), (577, .sipush 3700), (580, .iastore), (581, .dup), (582, .bipush 6), (584, .sipush 3760), (587, .iastore), (588, .dup), (589, .bipush 7), (591, .sipush 3840), (594, .iastore), (595, .dup), (596, .bipush 8), (598, .sipush 3930), (601, .iastore), (602, .dup), (603, .bipush 9), (605, .sipush 4040), (608, .iastore), (609, .dup), (610, .bipush 10), (612, .sipush 4200), (615, .iastore), (616, .putfield 16), (619, .aload_n 0), (620, .sipush 29780), (623, .newarray .int), (625, .putfield 19), (628, .aload_n 0), (629, .sipush 29780), (632, .newarray .int), (634, .putfield 22), (637, .aload_n 0), (638, .bipush 16), (640, .newarray .int), (642, .putfield 25), (645, .aload_n 0), (646, .sipush 1418), (649, .newarray .int), (651, .putfield 28), (654, .aload_n 0), (655, .sipush 16250), (658, .newarray .int), (660, .putfield 31), (663, .iconst 0), (664, .istore_n 1), (665, .iload_n 1), (666, .bipush 30), (668, .if_icmp .ge 28), (671, .aload_n 0), (672, .getfield 19), (675, .bipush 34), (677, .iload_n 1), (678, .iadd), (679, .aload_n 0), (680, .getfield 10), (683, .iconst 3), (684, .iload_n 1), (685, .imul), (686, .iconst 2), (687, .iadd), (688, .iaload), (689, .iastore), (690, .iinc 1 1), (693, .goto (-28)), (696, .iconst 0), (697, .istore_n 1), (698, .iload_n 1), (699, .bipush 11), (701, .if_icmp .ge 19), (704, .aload_n 0), (705, .getfield 19), (708, .bipush 23), (710, .iload_n 1), (711, .iadd), (712, .iconst (-1)), (713, .iastore), (714, .iinc 1 1), (717, .goto (-19)), (720, .iconst 0), (721, .istore_n 1), (722, .iload_n 1), (723, .iconst 4), (724, .if_icmp .ge 20), (727, .aload_n 0), (728, .getfield 19), (731, .sipush 311), (734, .iload_n 1), (735, .iadd), (736, .iconst (-1)), (737, .iastore), (738, .iinc 1 1), (741, .goto (-19)), (744, .aload_n 0), (745, .getfield 19), (748, .bipush 8), (750, .aload_n 0), (751, .bipush 6), (753, .invokevirtual 34), (756, .iastore), (757, .aload_n 0), (758, .getfield 19), (761, .aload_n 0), (762, .getfield 22), (765, .invokestatic 38), (768, .return_)]
/-- PackWatchModel.copy([I[I)V -/
def pw_t184 : List (Nat × Instr) := [(0, .iconst 0), (1, .istore_n 2), (2, .iload_n 2), (3, .sipush 29780), (6, .if_icmp .ge 15), (9, .aload_n 1), (10, .iload_n 2), (11, .aload_n 0), (12, .iload_n 2), (13, .iaload), (14, .iastore), (15, .iinc 2 1), (18, .goto (-16)), (21, .return_)]
/-- PackWatchModel.isIn(III)Z -/
def pw_t185 : List (Nat × Instr) := [(0, .iload_n 0), (1, .iload_n 1), (2, .if_icmp .lt 12), (5, .iload_n 0), (6, .iload_n 2), (7, .if_icmp .gt 7), (10, .iconst 1), (11, .goto 4), (14, .iconst 0), (15, .ireturn)]
/-- PackWatchModel.held(III)I -/
def pw_t186 : List (Nat × Instr) := [(0, .iload_n 0), (1, .iload_n 1), (2, .if_icmp .ge 7), (5, .iload_n 1), (6, .goto 13), (9, .iload_n 0), (10, .iload_n 2), (11, .if_icmp .le 7), (14, .iload_n 2), (15, .goto 4), (18, .iload_n 0), (19, .ireturn)]
/-- PackWatchModel.lesser(II)I -/
def pw_t187 : List (Nat × Instr) := [(0, .iload_n 0), (1, .iload_n 1), (2, .if_icmp .ge 7), (5, .iload_n 0), (6, .goto 4), (9, .iload_n 1), (10, .ireturn)]
/-- PackWatchModel.size(I)I -/
def pw_t188 : List (Nat × Instr) := [(0, .iload_n 0), (1, .ifCond .ge 8), (4, .iload_n 0), (5, .ineg), (6, .goto 4), (9, .iload_n 0), (10, .ireturn)]
/-- PackWatchModel.floor(II)I -/
def pw_t189 : List (Nat × Instr) := [(0, .iload_n 0), (1, .ifCond .lt 9), (4, .iload_n 0), (5, .iload_n 1), (6, .idiv), (7, .goto 11), (10, .iload_n 1), (11, .iconst 1), (12, .isub), (13, .iload_n 0), (14, .isub), (15, .iload_n 1), (16, .idiv), (17, .ineg), (18, .ireturn)]
/-- PackWatchModel.has(II)Z -/
def pw_t190 : List (Nat × Instr) := [(0, .iload_n 0), (1, .iload_n 1), (2, .ishr), (3, .iconst 1), (4, .iand), (5, .iconst 1), (6, .if_icmp .ne 7), (9, .iconst 1), (10, .goto 4), (13, .iconst 0), (14, .ireturn)]
/-- PackWatchModel.its(I)I -/
def pw_t191 : List (Nat × Instr) := [(0, .aload_n 0), (1, .getfield 19), (4, .bipush 34), (6, .iload_n 1), (7, .iadd), (8, .iaload), (9, .ireturn)]
/-- PackWatchModel.isCell(I)Z -/
def pw_t192 : List (Nat × Instr) := [(0, .iload_n 1), (1, .iconst 0), (2, .aload_n 0), (3, .getfield 19), (6, .iconst 2), (7, .iaload), (8, .iconst 1), (9, .isub), (10, .invokestatic 42), (13, .ireturn)]
/-- PackWatchModel.get(II)I -/
def pw_t193 : List (Nat × Instr) := [(0, .aload_n 0), (1, .getfield 19), (4, .sipush 444), (7, .bipush 61), (9, .iload_n 1), (10, .imul), (11, .iadd), (12, .iload_n 2), (13, .iadd), (14, .iaload), (15, .ireturn)]
/-- PackWatchModel.let(III)V -/
def pw_t194 : List (Nat × Instr) := [(0, .aload_n 0), (1, .getfield 19), (4, .sipush 444), (7, .bipush 61), (9, .iload_n 1), (10, .imul), (11, .iadd), (12, .iload_n 2), (13, .iadd), (14, .iload_n 3), (15, .iastore), (16, .return_)]
/-- PackWatchModel.full(I)I -/
def pw_t195 : List (Nat × Instr) := [(0, .sipush 3600), (3, .aload_n 0), (4, .iload_n 1), (5, .iconst 0), (6, .invokevirtual 46), (9, .imul), (10, .ireturn)]
/-- PackWatchModel.partAt(II)I -/
def pw_t196 : List (Nat × Instr) := [(0, .ldc2_w 50), (3, .iload_n 2), (4, .i2l), (5, .lmul), (6, .aload_n 0), (7, .iload_n 1), (8, .invokevirtual 52), (11, .i2l), (12, .ldiv), (13, .l2i), (14, .ireturn)]
/-- PackWatchModel.partOf(I)I -/
def pw_t197 : List (Nat × Instr) := [(0, .aload_n 0), (1, .iload_n 1), (2, .aload_n 0), (3, .iload_n 1), (4, .iconst 1), (5, .invokevirtual 46), (8, .invokevirtual 55), (11, .ireturn)]
/-- PackWatchModel.restOf(I)I -/
def pw_t198 : List (Nat × Instr) := [(0, .iload_n 1), (1, .bipush 100), (3, .idiv), (4, .istore_n 2), (5, .iload_n 2), (6, .bipush 10), (8, .if_icmp .ne 13), (11, .aload_n 0), (12, .getfield 16), (15, .bipush 10), (17, .iaload), (18, .goto 35), (21, .aload_n 0), (22, .getfield 16), (25, .iload_n 2), (26, .iaload), (27, .aload_n 0), (28, .getfield 16), (31, .iload_n 2), (32, .iconst 1), (33, .iadd), (34, .iaload), (35, .aload_n 0), (36, .getfield 16), (39, .iload_n 2), (40, .iaload), (41, .isub), (42, .iload_n 1), (43, .bipush 100), (45, .iload_n 2), (46, .imul), (47, .isub), (48, .imul), (49, .bipush 100), (51, .idiv), (52, .iadd), (53, .ireturn)]
/-- PackWatchModel.chargeAt(II)I -/
def pw_t199 : List (Nat × Instr) := [(0, .ldc2_w 58), (3, .iload_n 2), (4, .i2l), (5, .lmul), (6, .aload_n 0), (7, .iload_n 1), (8, .iconst 0), (9, .invokevirtual 46), (12, .i2l), (13, .lmul), (14, .ldc2_w 60), (17, .ldiv), (18, .l2i), (19, .ireturn)]
/-- PackWatchModel.calmVolts(I)I -/
def pw_t200 : List (Nat × Instr) := [(0, .aload_n 0), (1, .aload_n 0), (2, .iload_n 1), (3, .invokevirtual 62), (6, .invokevirtual 65), (9, .aload_n 0), (10, .iload_n 1), (11, .bipush 9), (13, .invokevirtual 46), (16, .iadd), (17, .ireturn)]
/-- PackWatchModel.voltsOf(I)I -/
def pw_t201 : List (Nat × Instr) := [(0, .aload_n 0), (1, .iload_n 1), (2, .invokevirtual 68), (5, .aload_n 0), (6, .getfield 19), (9, .iconst 5), (10, .iaload), (11, .aload_n 0), (12, .iload_n 1), (13, .iconst 2), (14, .invokevirtual 46), (17, .imul), (18, .sipush 1000), (21, .invokestatic 71), (24, .iadd), (25, .ireturn)]
/-- PackWatchModel.packCalm()I -/
def pw_t202 : List (Nat × Instr) := [(0, .iconst 0), (1, .istore_n 1), (2, .iconst 0), (3, .istore_n 2), (4, .iload_n 2), (5, .aload_n 0), (6, .getfield 19), (9, .iconst 2), (10, .iaload), (11, .if_icmp .ge 17), (14, .iload_n 1), (15, .aload_n 0), (16, .iload_n 2), (17, .invokevirtual 68), (20, .iadd), (21, .istore_n 1), (22, .iinc 2 1), (25, .goto (-21)), (28, .iload_n 1), (29, .ireturn)]
/-- PackWatchModel.pack()I -/
def pw_t203 : List (Nat × Instr) := [(0, .iconst 0), (1, .istore_n 1), (2, .iconst 0), (3, .istore_n 2), (4, .iload_n 2), (5, .aload_n 0), (6, .getfield 19), (9, .iconst 2), (10, .iaload), (11, .if_icmp .ge 17), (14, .iload_n 1), (15, .aload_n 0), (16, .iload_n 2), (17, .invokevirtual 74), (20, .iadd), (21, .istore_n 1), (22, .iinc 2 1), (25, .goto (-21)), (28, .iload_n 1), (29, .ireturn)]
/-- PackWatchModel.leastPart()I -/
def pw_t204 : List (Nat × Instr) := [(0, .sipush 1000), (3, .istore_n 1), (4, .iconst 0), (5, .istore_n 2), (6, .iload_n 2), (7, .aload_n 0), (8, .getfield 19), (11, .iconst 2), (12, .iaload), (13, .if_icmp .ge 19), (16, .iload_n 1), (17, .aload_n 0), (18, .iload_n 2), (19, .invokevirtual 62), (22, .invokestatic 77), (25, .istore_n 1), (26, .iinc 2 1), (29, .goto (-23)), (32, .iload_n 1), (33, .ireturn)]
/-- PackWatchModel.spreadOf()I -/
def pw_t205 : List (Nat × Instr) := [(0, .iconst 0), (1, .istore_n 1), (2, .iconst 0), (3, .istore_n 2), (4, .iload_n 2), (5, .aload_n 0), (6, .getfield 19), (9, .iconst 2), (10, .iaload), (11, .if_icmp .ge 28), (14, .aload_n 0), (15, .iload_n 2), (16, .invokevirtual 62), (19, .iload_n 1), (20, .if_icmp .le 11), (23, .aload_n 0), (24, .iload_n 2), (25, .invokevirtual 62), (28, .goto 4), (31, .iload_n 1), (32, .istore_n 1), (33, .iinc 2 1), (36, .goto (-32)), (39, .aload_n 0), (40, .getfield 19), (43, .iconst 2), (44, .iaload), (45, .ifCond .ne 7), (48, .iconst 0), (49, .goto 9), (52, .iload_n 1), (53, .aload_n 0), (54, .invokevirtual 80), (57, .isub), (58, .ireturn)]
/-- PackWatchModel.ordered()I -/
def pw_t206 : List (Nat × Instr) := [(0, .aload_n 0), (1, .getfield 19), (4, .iconst 3), (5, .iaload), (6, .ifCond .ne 7), (9, .iconst 0), (10, .goto 18), (13, .aload_n 0), (14, .getfield 19), (17, .iconst 3), (18, .iaload), (19, .iconst 1), (20, .if_icmp .ne 7), (23, .iconst 3), (24, .goto 4), (27, .iconst 5), (28, .ireturn)]
/-- PackWatchModel.actual()I -/
def pw_t207 : List (Nat × Instr) := [(0, .iconst 0), (1, .istore_n 1), (2, .iconst 0), (3, .istore_n 2), (4, .iload_n 2), (5, .iconst 3), (6, .if_icmp .ge 54), (9, .aload_n 0), (10, .getfield 19), (13, .bipush 64), (15, .iload_n 2), (16, .iadd), (17, .iaload), (18, .ifCond .ne 17), (21, .aload_n 0), (22, .invokevirtual 84), (25, .iload_n 2), (26, .invokestatic 87), (29, .ifCond .eq 25), (32, .goto 16), (35, .aload_n 0), (36, .getfield 19), (39, .bipush 64), (41, .iload_n 2), (42, .iadd), (43, .iaload), (44, .iconst 1), (45, .if_icmp .ne 9), (48, .iload_n 1), (49, .iconst 1), (50, .iload_n 2), (51, .ishl), (52, .ior), (53, .istore_n 1), (54, .iinc 2 1), (57, .goto (-53)), (60, .iload_n 1), (61, .ireturn)]
/-- PackWatchModel.isLive()Z -/
def pw_t208 : List (Nat × Instr) := [(0, .aload_n 0), (1, .invokevirtual 91), (4, .iconst 5), (5, .iand), (6, .iconst 5), (7, .if_icmp .ne 7), (10, .iconst 1), (11, .goto 4), (14, .iconst 0), (15, .ireturn)]
/-- PackWatchModel.limitBy(II)I -/
def pw_t209 : List (Nat × Instr) := [(0, .aload_n 0), (1, .iload_n 1), (2, .iconst 3), (3, .invokevirtual 46), (6, .istore_n 3), (7, .iload_n 2), (8, .ifCond .ne 17), (11, .aload_n 0), (12, .iconst 0), (13, .invokevirtual 34), (16, .aload_n 0), (17, .iload_n 1), (18, .invokevirtual 68), (21, .isub), (22, .goto 14), (25, .aload_n 0), (26, .iload_n 1), (27, .invokevirtual 68), (30, .aload_n 0), (31, .iconst 1), (32, .invokevirtual 34), (35, .isub), (36, .istore 4), (38, .iload 4), (40, .aload_n 0), (41, .iconst 5), (42, .invokevirtual 34), (45, .imul), (46, .sipush 500), (49, .aload_n 0), (50, .iconst 2), (51, .invokevirtual 34), (54, .iload_n 3), (55, .isub), (56, .imul), (57, .invokestatic 77), (60, .istore 5), (62, .iload_n 2), (63, .ifCond .ne 15), (66, .iload_n 3), (67, .aload_n 0), (68, .iconst 3), (69, .invokevirtual 34), (72, .if_icmp .ge 6), (75, .iconst 0), (76, .istore 5), (78, .iconst (-1)), (79, .istore 6), (81, .iconst 0), (82, .istore 7), (84, .iload 7), (86, .aload_n 0), (87, .getfield 19), (90, .bipush 17), (92, .iaload), (93, .if_icmp .ge 41), (96, .iload_n 3), (97, .aload_n 0), (98, .getfield 19), (101, .bipush 67), (103, .iconst 2), (104, .iload 7), (106, .imul), (107, .iadd), (108, .iaload), (109, .if_icmp .lt 19), (112, .aload_n 0), (113, .getfield 19), (116, .bipush 67), (118, .iconst 2), (119, .iload 7), (121, .imul), (122, .iadd), (123, .iconst 1), (124, .iadd), (125, .iaload), (126, .istore 6), (128, .iinc 7 1), (131, .goto (-47)), (134, .iload 6), (136, .iconst (-1)), (137, .if_icmp .eq 12), (140, .iload 5), (142, .iload 6), (144, .invokestatic 77), (147, .istore 5), (149, .iload 5), (151, .ifCond .ge 7), (154, .iconst 0), (155, .goto 5), (158, .iload 5), (160, .ireturn)]
/-- PackWatchModel.limitOf(I)I -/
def pw_t210 : List (Nat × Instr) := [(0, .aload_n 0), (1, .iconst 4), (2, .invokevirtual 34), (5, .istore_n 2), (6, .iconst 0), (7, .istore_n 3), (8, .iload_n 3), (9, .aload_n 0), (10, .getfield 19), (13, .iconst 2), (14, .iaload), (15, .if_icmp .ge 20), (18, .iload_n 2), (19, .aload_n 0), (20, .iload_n 3), (21, .iload_n 1), (22, .invokevirtual 94), (25, .invokestatic 77), (28, .istore_n 2), (29, .iinc 3 1), (32, .goto (-24)), (35, .iload_n 2), (36, .ireturn)]
/-- PackWatchModel.goBus()V -/
def pw_t211 : List (Nat × Instr) := [(0, .aload_n 0), (1, .getfield 19), (4, .iconst 4), (5, .iaload), (6, .istore_n 1), (7, .aload_n 0), (8, .invokevirtual 97), (11, .istore_n 2), (12, .aload_n 0), (13, .invokevirtual 100), (16, .ifCond .eq 13), (19, .aload_n 0), (20, .getfield 19), (23, .iconst 4), (24, .iload_n 2), (25, .iastore), (26, .goto 76), (29, .aload_n 0), (30, .invokevirtual 91), (33, .iconst 3), (34, .iand), (35, .iconst 3), (36, .if_icmp .ne 55), (39, .iload_n 2), (40, .iload_n 1), (41, .if_icmp .le 13), (44, .iload_n 2), (45, .iload_n 1), (46, .isub), (47, .iconst 3), (48, .iadd), (49, .iconst 4), (50, .idiv), (51, .goto 4), (54, .iconst 0), (55, .istore_n 3), (56, .aload_n 0), (57, .getfield 19), (60, .iconst 4), (61, .iload_n 1), (62, .iload_n 3), (63, .iadd), (64, .aload_n 0), (65, .bipush 7), (67, .invokevirtual 34), (70, .isub), (71, .iastore), (72, .aload_n 0), (73, .getfield 19), (76, .iconst 4), (77, .iaload), (78, .ifCond .ge 10), (81, .aload_n 0), (82, .getfield 19), (85, .iconst 4), (86, .iconst 0), (87, .iastore), (88, .goto 14), (91, .aload_n 0), (92, .getfield 19), (95, .iconst 4), (96, .iload_n 1), (97, .iconst 2), (98, .invokestatic 71), (101, .iastore), (102, .aload_n 0), (103, .iconst 0), (104, .putfield 104), (107, .aload_n 0), (108, .getfield 19), (111, .iconst 3), (112, .iaload), (113, .iconst 1), (114, .if_icmp .eq 4), (117, .return_), (118, .sipush 1000), (121, .aload_n 0), (122, .getfield 19), (125, .iconst 4), (126, .iaload), (127, .imul), (128, .sipush 950), (131, .iload_n 2), (132, .imul), (133, .if_icmp .lt 13), (136, .aload_n 0), (137, .getfield 19), (140, .iconst 3), (141, .iconst 2), (142, .iastore), (143, .goto 29), (146, .aload_n 0), (147, .aload_n 0), (148, .getfield 19), (151, .iconst 4), (152, .iaload), (153, .iload_n 1), (154, .isub), (155, .aload_n 0), (156, .bipush 8), (158, .invokevirtual 34), (161, .if_icmp .ge 7), (164, .iconst 1), (165, .goto 4), (168, .iconst 0), (169, .putfield 104), (172, .return_)]
/-- PackWatchModel.tightest(I)I -/
def pw_t212 : List (Nat × Instr) := [(0, .iconst (-1)), (1, .istore_n 2), (2, .iconst 0), (3, .istore_n 3), (4, .iload_n 3), (5, .aload_n 0), (6, .getfield 19), (9, .iconst 2), (10, .iaload), (11, .if_icmp .ge 31), (14, .iload_n 2), (15, .iconst (-1)), (16, .if_icmp .eq 18), (19, .aload_n 0), (20, .iload_n 3), (21, .iload_n 1), (22, .invokevirtual 94), (25, .aload_n 0), (26, .iload_n 2), (27, .iload_n 1), (28, .invokevirtual 94), (31, .if_icmp .ge 5), (34, .iload_n 3), (35, .istore_n 2), (36, .iinc 3 1), (39, .goto (-35)), (42, .iload_n 2), (43, .ireturn)]
/-- PackWatchModel.goCurrent()V -/
def pw_t213 : List (Nat × Instr) := [(0, .aload_n 0), (1, .getfield 19), (4, .iconst 5), (5, .aload_n 0), (6, .invokevirtual 100), (9, .ifCond .eq 26), (12, .aload_n 0), (13, .bipush 20), (15, .invokevirtual 34), (18, .aload_n 0), (19, .iconst 1), (20, .invokevirtual 108), (23, .ineg), (24, .aload_n 0), (25, .iconst 0), (26, .invokevirtual 108), (29, .invokestatic 111), (32, .goto 4), (35, .iconst 0), (36, .iastore), (37, .aload_n 0), (38, .invokevirtual 100), (41, .ifCond .eq 18), (44, .aload_n 0), (45, .getfield 19), (48, .iconst 5), (49, .iaload), (50, .aload_n 0), (51, .bipush 20), (53, .invokevirtual 34), (56, .if_icmp .ne 4), (59, .return_), (60, .aload_n 0), (61, .bipush 20), (63, .invokevirtual 34), (66, .ifCond .le 7), (69, .iconst 0), (70, .goto 4), (73, .iconst 1), (74, .istore_n 1), (75, .aload_n 0), (76, .iload_n 1), (77, .invokevirtual 115), (80, .istore_n 2), (81, .iload_n 2), (82, .iconst (-1)), (83, .if_icmp .eq 33), (86, .aload_n 0), (87, .iload_n 2), (88, .iload_n 1), (89, .invokevirtual 94), (92, .aload_n 0), (93, .iconst 4), (94, .invokevirtual 34), (97, .if_icmp .gt 19), (100, .aload_n 0), (101, .iload_n 2), (102, .bipush 60), (104, .aload_n 0), (105, .iload_n 2), (106, .bipush 60), (108, .invokevirtual 46), (111, .iconst 1), (112, .iadd), (113, .invokevirtual 118), (116, .return_)]
/-- PackWatchModel.hold(I)V -/
def pw_t214 : List (Nat × Instr) := [(0, .aload_n 0), (1, .iload_n 1), (2, .iconst 1), (3, .aload_n 0), (4, .iload_n 1), (5, .iconst 1), (6, .invokevirtual 46), (9, .iconst 0), (10, .aload_n 0), (11, .iload_n 1), (12, .invokevirtual 52), (15, .invokestatic 111), (18, .invokevirtual 118), (21, .aload_n 0), (22, .iload_n 1), (23, .iconst 4), (24, .aload_n 0), (25, .iload_n 1), (26, .iconst 4), (27, .invokevirtual 46), (30, .iconst 0), (31, .aload_n 0), (32, .iload_n 1), (33, .invokevirtual 52), (36, .invokestatic 111), (39, .invokevirtual 118), (42, .return_)]
/-- PackWatchModel.goWarm(I)V -/
def pw_t215 : List (Nat × Instr) := [(0, .aload_n 0), (1, .iload_n 1), (2, .iconst 1), (3, .aload_n 0), (4, .iload_n 1), (5, .iconst 1), (6, .invokevirtual 46), (9, .aload_n 0), (10, .getfield 19), (13, .iconst 5), (14, .iaload), (15, .iadd), (16, .aload_n 0), (17, .bipush 27), (19, .invokevirtual 34), (22, .isub), (23, .iconst 0), (24, .aload_n 0), (25, .iload_n 1), (26, .invokevirtual 52), (29, .invokestatic 111), (32, .invokevirtual 118), (35, .aload_n 0), (36, .getfield 19), (39, .iconst 5), (40, .iaload), (41, .sipush 1000), (44, .idiv), (45, .istore_n 2), (46, .aload_n 0), (47, .iload_n 1), (48, .iconst 3), (49, .aload_n 0), (50, .iload_n 1), (51, .iconst 3), (52, .invokevirtual 46), (55, .iload_n 2), (56, .iload_n 2), (57, .imul), (58, .aload_n 0), (59, .iload_n 1), (60, .iconst 2), (61, .invokevirtual 46), (64, .imul), (65, .sipush 500), (68, .idiv), (69, .iadd), (70, .invokevirtual 118), (73, .aload_n 0), (74, .iload_n 1), (75, .iconst 3), (76, .aload_n 0), (77, .iload_n 1), (78, .iconst 3), (79, .invokevirtual 46), (82, .aload_n 0), (83, .bipush 6), (85, .invokevirtual 34), (88, .aload_n 0), (89, .iload_n 1), (90, .iconst 3), (91, .invokevirtual 46), (94, .isub), (95, .bipush 32), (97, .idiv), (98, .iadd), (99, .invokevirtual 118), (102, .return_)]
/-- PackWatchModel.touch(I)V -/
def pw_t216 : List (Nat × Instr) := [(0, .aload_n 0), (1, .iload_n 1), (2, .iconst 1), (3, .iadd), (4, .iconst 3), (5, .invokevirtual 46), (8, .aload_n 0), (9, .iload_n 1), (10, .iconst 3), (11, .invokevirtual 46), (14, .isub), (15, .aload_n 0), (16, .bipush 22), (18, .invokevirtual 34), (21, .imul), (22, .sipush 256), (25, .idiv), (26, .istore_n 2), (27, .aload_n 0), (28, .iload_n 1), (29, .iconst 3), (30, .aload_n 0), (31, .iload_n 1), (32, .iconst 3), (33, .invokevirtual 46), (36, .iload_n 2), (37, .iadd), (38, .invokevirtual 118), (41, .aload_n 0), (42, .iload_n 1), (43, .iconst 1), (44, .iadd), (45, .iconst 3), (46, .aload_n 0), (47, .iload_n 1), (48, .iconst 1), (49, .iadd), (50, .iconst 3), (51, .invokevirtual 46), (54, .iload_n 2), (55, .isub), (56, .invokevirtual 118), (59, .return_)]
/-- PackWatchModel.goOld(I)V -/
def pw_t217 : List (Nat × Instr) := [(0, .aload_n 0), (1, .iload_n 1), (2, .bipush 9), (4, .aload_n 0), (5, .iload_n 1), (6, .bipush 9), (8, .invokevirtual 46), (11, .aload_n 0), (12, .getfield 19), (15, .iconst 5), (16, .iaload), (17, .aload_n 0), (18, .bipush 25), (20, .invokevirtual 34), (23, .imul), (24, .sipush 1000), (27, .idiv), (28, .aload_n 0), (29, .iload_n 1), (30, .bipush 9), (32, .invokevirtual 46), (35, .isub), (36, .bipush 8), (38, .idiv), (39, .iadd), (40, .invokevirtual 118), (43, .aload_n 0), (44, .iload_n 1), (45, .iconst 5), (46, .aload_n 0), (47, .iload_n 1), (48, .iconst 5), (49, .invokevirtual 46), (52, .aload_n 0), (53, .getfield 19), (56, .iconst 5), (57, .iaload), (58, .invokestatic 122), (61, .iadd), (62, .invokevirtual 118), (65, .sipush 3600), (68, .aload_n 0), (69, .bipush 24), (71, .invokevirtual 34), (74, .imul), (75, .istore_n 2), (76, .iload_n 2), (77, .ifCond .eq 60), (80, .aload_n 0), (81, .iload_n 1), (82, .iconst 5), (83, .invokevirtual 46), (86, .iload_n 2), (87, .if_icmp .lt 50), (90, .aload_n 0), (91, .iload_n 1), (92, .iconst 5), (93, .aload_n 0), (94, .iload_n 1), (95, .iconst 5), (96, .invokevirtual 46), (99, .iload_n 2), (100, .isub), (101, .invokevirtual 118), (104, .aload_n 0), (105, .iload_n 1), (106, .iconst 0), (107, .invokevirtual 46), (110, .bipush 100), (112, .if_icmp .le 17), (115, .aload_n 0), (116, .iload_n 1), (117, .iconst 0), (118, .aload_n 0), (119, .iload_n 1), (120, .iconst 0), (121, .invokevirtual 46), (124, .iconst 1), (125, .isub), (126, .invokevirtual 118), (129, .aload_n 0), (130, .iload_n 1), (131, .invokevirtual 125), (134, .goto (-58)), (137, .aload_n 0), (138, .iload_n 1), (139, .iconst 4), (140, .aload_n 0), (141, .iload_n 1), (142, .iconst 4), (143, .invokevirtual 46), (146, .aload_n 0), (147, .getfield 19), (150, .iconst 5), (151, .iaload), (152, .iadd), (153, .aload_n 0), (154, .bipush 18), (156, .invokevirtual 34), (159, .iadd), (160, .invokevirtual 118), (163, .aload_n 0), (164, .iload_n 1), (165, .invokevirtual 125), (168, .return_)]
/-- PackWatchModel.goCells()V -/
def pw_t218 : List (Nat × Instr) := [(0, .iconst 0), (1, .istore_n 1), (2, .iload_n 1), (3, .aload_n 0), (4, .getfield 19), (7, .iconst 2), (8, .iaload), (9, .if_icmp .ge 14), (12, .aload_n 0), (13, .iload_n 1), (14, .invokevirtual 129), (17, .iinc 1 1), (20, .goto (-18)), (23, .iconst 0), (24, .istore_n 1), (25, .iload_n 1), (26, .iconst 1), (27, .iadd), (28, .aload_n 0), (29, .getfield 19), (32, .iconst 2), (33, .iaload), (34, .if_icmp .ge 14), (37, .aload_n 0), (38, .iload_n 1), (39, .invokevirtual 132), (42, .iinc 1 1), (45, .goto (-20)), (48, .iconst 0), (49, .istore_n 1), (50, .iload_n 1), (51, .aload_n 0), (52, .getfield 19), (55, .iconst 2), (56, .iaload), (57, .if_icmp .ge 14), (60, .aload_n 0), (61, .iload_n 1), (62, .invokevirtual 135), (65, .iinc 1 1), (68, .goto (-18)), (71, .return_)]
/-- PackWatchModel.nextShunt(I)I -/
def pw_t219 : List (Nat × Instr) := [(0, .iconst (-1)), (1, .istore_n 2), (2, .iconst 0), (3, .istore_n 3), (4, .iload_n 3), (5, .aload_n 0), (6, .getfield 19), (9, .iconst 2), (10, .iaload), (11, .if_icmp .ge 55), (14, .aload_n 0), (15, .getfield 19), (18, .bipush 13), (20, .iaload), (21, .iload_n 3), (22, .invokestatic 87), (25, .ifCond .ne 35), (28, .aload_n 0), (29, .getfield 25), (32, .iload_n 3), (33, .iaload), (34, .iload_n 1), (35, .if_icmp .le 25), (38, .iload_n 2), (39, .iconst (-1)), (40, .if_icmp .eq 18), (43, .aload_n 0), (44, .getfield 25), (47, .iload_n 3), (48, .iaload), (49, .aload_n 0), (50, .getfield 25), (53, .iload_n 2), (54, .iaload), (55, .if_icmp .le 5), (58, .iload_n 3), (59, .istore_n 2), (60, .iinc 3 1), (63, .goto (-59)), (66, .iload_n 2), (67, .ireturn)]
/-- PackWatchModel.shuntAll()V -/
def pw_t220 : List (Nat × Instr) := [(0, .aload_n 0), (1, .invokevirtual 80), (4, .aload_n 0), (5, .bipush 14), (7, .invokevirtual 34), (10, .iadd), (11, .istore_n 1), (12, .aload_n 0), (13, .getfield 19), (16, .bipush 8), (18, .iaload), (19, .aload_n 0), (20, .iconst 2), (21, .invokevirtual 34), (24, .if_icmp .lt 7), (27, .iconst 0), (28, .goto 9), (31, .aload_n 0), (32, .bipush 13), (34, .invokevirtual 34), (37, .istore_n 2), (38, .iconst 0), (39, .istore_n 3), (40, .iload_n 3), (41, .aload_n 0), (42, .getfield 19), (45, .iconst 2), (46, .iaload), (47, .if_icmp .ge 20), (50, .aload_n 0), (51, .getfield 25), (54, .iload_n 3), (55, .aload_n 0), (56, .iload_n 3), (57, .invokevirtual 62), (60, .iastore), (61, .iinc 3 1), (64, .goto (-24)), (67, .iload_n 2), (68, .ifCond .le 11), (71, .aload_n 0), (72, .iload_n 1), (73, .invokevirtual 138), (76, .goto 4), (79, .iconst (-1)), (80, .istore_n 3), (81, .iload_n 3), (82, .iconst (-1)), (83, .if_icmp .eq 120), (86, .aload_n 0), (87, .bipush 12), (89, .invokevirtual 34), (92, .aload_n 0), (93, .iload_n 3), (94, .iconst 1), (95, .invokevirtual 46), (98, .invokestatic 77), (101, .istore 4), (103, .aload_n 0), (104, .iload_n 3), (105, .iconst 1), (106, .aload_n 0), (107, .iload_n 3), (108, .iconst 1), (109, .invokevirtual 46), (112, .iload 4), (114, .isub), (115, .invokevirtual 118), (118, .aload_n 0), (119, .iload_n 3), (120, .iconst 4), (121, .aload_n 0), (122, .iload_n 3), (123, .iconst 4), (124, .invokevirtual 46), (127, .aload_n 0), (128, .bipush 12), (130, .invokevirtual 34), (133, .isub), (134, .invokevirtual 118), (137, .aload_n 0), (138, .iload_n 3), (139, .invokevirtual 125), (142, .aload_n 0), (143, .getfield 19), (146, .bipush 10), (148, .dup2), (149, .iaload), (150, .iload 4), (152, .iadd), (153, .iastore), (154, .aload_n 0), (155, .getfield 19), (158, .bipush 8), (160, .dup2), (161, .iaload), (162, .iconst 3), (163, .iadd), (164, .iastore), (165, .aload_n 0), (166, .getfield 19), (169, .bipush 13), (171, .dup2), (172, .iaload), (173, .iconst 1), (174, .iload_n 3), (175, .ishl), (176, .ior), (177, .iastore), (178, .aload_n 0), (179, .iconst 1), (180, .putfield 141), (183, .iinc 2 (-1)), (186, .iload_n 2), (187, .ifCond .le 11), (190, .aload_n 0), (191, .iload_n 1), (192, .invokevirtual 138), (195, .goto 4), (198, .iconst (-1)), (199, .istore_n 3), (200, .goto (-119)), (203, .return_)]
/-- PackWatchModel.shuttle(I)V -/
def pw_t221 : List (Nat × Instr) := [(0, .aload_n 0), (1, .iload_n 1), (2, .invokevirtual 62), (5, .aload_n 0), (6, .iload_n 1), (7, .iconst 1), (8, .iadd), (9, .invokevirtual 62), (12, .isub), (13, .istore_n 2), (14, .iload_n 2), (15, .invokestatic 122), (18, .aload_n 0), (19, .bipush 14), (21, .invokevirtual 34), (24, .if_icmp .gt 4), (27, .return_), (28, .iload_n 2), (29, .ifCond .le 7), (32, .iload_n 1), (33, .goto 6), (36, .iload_n 1), (37, .iconst 1), (38, .iadd), (39, .istore_n 3), (40, .iload_n 2), (41, .ifCond .le 9), (44, .iload_n 1), (45, .iconst 1), (46, .iadd), (47, .goto 4), (50, .iload_n 1), (51, .istore 4), (53, .aload_n 0), (54, .bipush 15), (56, .invokevirtual 34), (59, .aload_n 0), (60, .iload_n 3), (61, .iconst 1), (62, .invokevirtual 46), (65, .invokestatic 77), (68, .istore 5), (70, .iload 5), (72, .aload_n 0), (73, .bipush 16), (75, .invokevirtual 34), (78, .imul), (79, .bipush 100), (81, .idiv), (82, .aload_n 0), (83, .iload 4), (85, .invokevirtual 52), (88, .aload_n 0), (89, .iload 4), (91, .iconst 1), (92, .invokevirtual 46), (95, .isub), (96, .invokestatic 77), (99, .istore 6), (101, .aload_n 0), (102, .iload_n 3), (103, .iconst 1), (104, .aload_n 0), (105, .iload_n 3), (106, .iconst 1), (107, .invokevirtual 46), (110, .iload 5), (112, .isub), (113, .invokevirtual 118), (116, .aload_n 0), (117, .iload 4), (119, .iconst 1), (120, .aload_n 0), (121, .iload 4), (123, .iconst 1), (124, .invokevirtual 46), (127, .iload 6), (129, .iadd), (130, .invokevirtual 118), (133, .aload_n 0), (134, .iload_n 3), (135, .iconst 4), (136, .aload_n 0), (137, .iload_n 3), (138, .iconst 4), (139, .invokevirtual 46), (142, .iload 5), (144, .isub), (145, .invokevirtual 118), (148, .aload_n 0), (149, .iload 4), (151, .iconst 4), (152, .aload_n 0), (153, .iload 4), (155, .iconst 4), (156, .invokevirtual 46), (159, .iload 6), (161, .iadd), (162, .invokevirtual 118), (165, .aload_n 0), (166, .iload_n 3), (167, .invokevirtual 125), (170, .aload_n 0), (171, .iload 4), (173, .invokevirtual 125), (176, .aload_n 0), (177, .getfield 19), (180, .bipush 11), (182, .dup2), (183, .iaload), (184, .iload 5), (186, .iadd), (187, .iastore), (188, .aload_n 0), (189, .getfield 19), (192, .bipush 12), (194, .dup2), (195, .iaload), (196, .iload 5), (198, .iload 6), (200, .isub), (201, .iadd), (202, .iastore), (203, .aload_n 0), (204, .aload_n 0), (205, .getfield 141), (208, .ifCond .ne 8), (211, .iload 5), (213, .ifCond .le 7), (216, .iconst 1), (217, .goto 4), (220, .iconst 0), (221, .putfield 141), (224, .return_)]
/-- PackWatchModel.goBalance()V -/
def pw_t222 : List (Nat × Instr) := [(0, .aload_n 0), (1, .getfield 19), (4, .bipush 13), (6, .iconst 0), (7, .iastore), (8, .aload_n 0), (9, .iconst 0), (10, .putfield 141), (13, .aload_n 0), (14, .getfield 19), (17, .bipush 6), (19, .iaload), (20, .ifCond .eq 4), (23, .return_), (24, .aload_n 0), (25, .bipush 11), (27, .invokevirtual 34), (30, .iconst 1), (31, .if_icmp .ne 7), (34, .aload_n 0), (35, .invokevirtual 144), (38, .aload_n 0), (39, .getfield 19), (42, .bipush 7), (44, .iaload), (45, .iconst 2), (46, .irem), (47, .iconst 1), (48, .if_icmp .ne 7), (51, .iconst 0), (52, .goto 4), (55, .iconst 1), (56, .istore_n 1), (57, .iload_n 1), (58, .iconst 1), (59, .iadd), (60, .aload_n 0), (61, .getfield 19), (64, .iconst 2), (65, .iaload), (66, .if_icmp .ge 24), (69, .aload_n 0), (70, .bipush 11), (72, .invokevirtual 34), (75, .iconst 2), (76, .if_icmp .ne 14), (79, .aload_n 0), (80, .iload_n 1), (81, .invokevirtual 147), (84, .iinc 1 2), (87, .goto (-30)), (90, .return_)]
/-- PackWatchModel.leastBy(I)I -/
def pw_t223 : List (Nat × Instr) := [(0, .iconst 0), (1, .istore_n 2), (2, .iload_n 2), (3, .sipush 1000), (6, .if_icmp .ge 18), (9, .aload_n 0), (10, .iload_n 2), (11, .invokevirtual 65), (14, .iload_n 1), (15, .if_icmp .ge 9), (18, .iinc 2 1), (21, .goto (-19)), (24, .iload_n 2), (25, .ireturn)]
/-- PackWatchModel.restNow(I)V -/
def pw_t224 : List (Nat × Instr) := [(0, .aload_n 0), (1, .aload_n 0), (2, .iload_n 1), (3, .invokevirtual 74), (6, .invokevirtual 150), (9, .istore_n 2), (10, .aload_n 0), (11, .iload_n 1), (12, .bipush 16), (14, .invokevirtual 46), (17, .istore_n 3), (18, .aload_n 0), (19, .iload_n 1), (20, .iconst 4), (21, .aload_n 0), (22, .iload_n 1), (23, .iload_n 2), (24, .invokevirtual 153), (27, .invokevirtual 118), (30, .iload_n 3), (31, .iconst (-1)), (32, .if_icmp .eq 49), (35, .iload_n 2), (36, .iload_n 3), (37, .isub), (38, .invokestatic 122), (41, .bipush 100), (43, .if_icmp .lt 38), (46, .aload_n 0), (47, .iload_n 1), (48, .bipush 12), (50, .ldc2_w 50), (53, .aload_n 0), (54, .iload_n 1), (55, .bipush 13), (57, .invokevirtual 46), (60, .invokestatic 122), (63, .i2l), (64, .lmul), (65, .sipush 3600), (68, .iload_n 2), (69, .iload_n 3), (70, .isub), (71, .invokestatic 122), (74, .imul), (75, .i2l), (76, .ldiv), (77, .l2i), (78, .invokevirtual 118), (81, .aload_n 0), (82, .iload_n 1), (83, .bipush 16), (85, .iload_n 2), (86, .invokevirtual 118), (89, .aload_n 0), (90, .iload_n 1), (91, .bipush 13), (93, .iconst 0), (94, .invokevirtual 118), (97, .return_)]
/-- PackWatchModel.goMeasure()V -/
def pw_t225 : List (Nat × Instr) := [(0, .aload_n 0), (1, .getfield 19), (4, .iconst 5), (5, .iaload), (6, .aload_n 0), (7, .getfield 19), (10, .bipush 14), (12, .iaload), (13, .isub), (14, .istore_n 1), (15, .iconst 0), (16, .istore_n 2), (17, .iload_n 2), (18, .aload_n 0), (19, .getfield 19), (22, .iconst 2), (23, .iaload), (24, .if_icmp .ge 95), (27, .aload_n 0), (28, .iload_n 2), (29, .invokevirtual 74), (32, .istore_n 3), (33, .aload_n 0), (34, .iload_n 2), (35, .bipush 15), (37, .invokevirtual 46), (40, .iconst 1), (41, .if_icmp .ne 35), (44, .iload_n 1), (45, .invokestatic 122), (48, .sipush 1000), (51, .if_icmp .lt 25), (54, .aload_n 0), (55, .iload_n 2), (56, .bipush 11), (58, .iload_n 3), (59, .aload_n 0), (60, .iload_n 2), (61, .bipush 14), (63, .invokevirtual 46), (66, .isub), (67, .sipush 1000), (70, .imul), (71, .iload_n 1), (72, .idiv), (73, .invokevirtual 118), (76, .aload_n 0), (77, .iload_n 2), (78, .bipush 14), (80, .iload_n 3), (81, .invokevirtual 118), (84, .aload_n 0), (85, .iload_n 2), (86, .bipush 15), (88, .iconst 1), (89, .invokevirtual 118), (92, .aload_n 0), (93, .iload_n 2), (94, .bipush 13), (96, .aload_n 0), (97, .iload_n 2), (98, .bipush 13), (100, .invokevirtual 46), (103, .aload_n 0), (104, .getfield 19), (107, .iconst 5), (108, .iaload), (109, .iadd), (110, .invokevirtual 118), (113, .iinc 2 1), (116, .goto (-99)), (119, .aload_n 0), (120, .getfield 19), (123, .bipush 14), (125, .aload_n 0), (126, .getfield 19), (129, .iconst 5), (130, .iaload), (131, .iastore), (132, .aload_n 0), (133, .getfield 19), (136, .bipush 9), (138, .aload_n 0), (139, .getfield 19), (142, .iconst 5), (143, .iaload), (144, .ifCond .ne 15), (147, .aload_n 0), (148, .getfield 19), (151, .bipush 9), (153, .iaload), (154, .iconst 1), (155, .iadd), (156, .goto 4), (159, .iconst 0), (160, .iastore), (161, .iconst 0), (162, .istore_n 2), (163, .iload_n 2), (164, .aload_n 0), (165, .getfield 19), (168, .iconst 2), (169, .iaload), (170, .if_icmp .ge 30), (173, .aload_n 0), (174, .getfield 19), (177, .bipush 9), (179, .iaload), (180, .aload_n 0), (181, .bipush 19), (183, .invokevirtual 34), (186, .if_icmp .ne 14), (189, .aload_n 0), (190, .iload_n 2), (191, .invokevirtual 156), (194, .iinc 2 1), (197, .goto (-34)), (200, .aload_n 0), (201, .invokevirtual 100), (204, .ifCond .eq 13), (207, .aload_n 0), (208, .getfield 19), (211, .iconst 4), (212, .aload_n 0), (213, .invokevirtual 159), (216, .iastore), (217, .return_)]
/-- PackWatchModel.goTaper()V -/
def pw_t226 : List (Nat × Instr) := [(0, .iconst 0), (1, .istore_n 1), (2, .iconst 0), (3, .istore_n 2), (4, .iload_n 2), (5, .aload_n 0), (6, .getfield 19), (9, .iconst 2), (10, .iaload), (11, .if_icmp .ge 33), (14, .iload_n 1), (15, .ifCond .ne 17), (18, .aload_n 0), (19, .iload_n 2), (20, .invokevirtual 74), (23, .aload_n 0), (24, .bipush 23), (26, .invokevirtual 34), (29, .if_icmp .lt 7), (32, .iconst 1), (33, .goto 4), (36, .iconst 0), (37, .istore_n 1), (38, .iinc 2 1), (41, .goto (-37)), (44, .iload_n 1), (45, .ifCond .eq 31), (48, .aload_n 0), (49, .getfield 19), (52, .iconst 3), (53, .iaload), (54, .iconst 2), (55, .if_icmp .ne 21), (58, .aload_n 0), (59, .bipush 23), (61, .invokevirtual 34), (64, .ifCond .eq 12), (67, .aload_n 0), (68, .bipush 20), (70, .invokevirtual 34), (73, .ifCond .gt 4), (76, .return_), (77, .aload_n 0), (78, .bipush 20), (80, .invokevirtual 34), (83, .bipush 9), (85, .imul), (86, .bipush 10), (88, .idiv), (89, .istore_n 2), (90, .aload_n 0), (91, .getfield 19), (94, .bipush 54), (96, .iload_n 2), (97, .bipush 100), (99, .if_icmp .ge 7), (102, .iconst 0), (103, .goto 4), (106, .iload_n 2), (107, .iastore), (108, .return_)]
/-- PackWatchModel.isSo(I)Z -/
def pw_t227 : List (Nat × Instr) := [(0, .iload_n 1), (1, .iconst 4), (2, .if_icmp .ge 38), (5, .aload_n 0), (6, .iload_n 1), (7, .invokevirtual 162), (10, .iconst (-1)), (11, .if_icmp .ne 23), (14, .iload_n 1), (15, .iconst 2), (16, .if_icmp .ne 22), (19, .aload_n 0), (20, .getfield 19), (23, .bipush 8), (25, .iaload), (26, .aload_n 0), (27, .iconst 2), (28, .invokevirtual 34), (31, .if_icmp .le 7), (34, .iconst 1), (35, .goto 4), (38, .iconst 0), (39, .ireturn), (40, .iload_n 1), (41, .iconst 4), (42, .if_icmp .ne 36), (45, .aload_n 0), (46, .getfield 19), (49, .iconst 3), (50, .iaload), (51, .iconst 2), (52, .if_icmp .ne 24), (55, .aload_n 0), (56, .bipush 20), (58, .invokevirtual 34), (61, .invokestatic 122), (64, .aload_n 0), (65, .iconst 4), (66, .invokevirtual 34), (69, .if_icmp .le 7), (72, .iconst 1), (73, .goto 4), (76, .iconst 0), (77, .ireturn), (78, .iload_n 1), (79, .iconst 5), (80, .if_icmp .ne 8), (83, .aload_n 0), (84, .getfield 104), (87, .ireturn), (88, .iload_n 1), (89, .bipush 6), (91, .if_icmp .ne 20), (94, .aload_n 0), (95, .getfield 19), (98, .bipush 15), (100, .iaload), (101, .iconst 3), (102, .if_icmp .lt 7), (105, .iconst 1), (106, .goto 4), (109, .iconst 0), (110, .ireturn), (111, .iload_n 1), (112, .bipush 7), (114, .if_icmp .ne 22), (117, .aload_n 0), (118, .invokevirtual 165), (121, .aload_n 0), (122, .bipush 17), (124, .invokevirtual 34), (127, .if_icmp .le 7), (130, .iconst 1), (131, .goto 4), (134, .iconst 0), (135, .ireturn), (136, .iload_n 1), (137, .bipush 8), (139, .if_icmp .ne 20), (142, .aload_n 0), (143, .getfield 19), (146, .bipush 16), (148, .iaload), (149, .iconst 2), (150, .if_icmp .lt 7), (153, .iconst 1), (154, .goto 4), (157, .iconst 0), (158, .ireturn), (159, .iload_n 1), (160, .bipush 9), (162, .if_icmp .ne 34), (165, .aload_n 0), (166, .bipush 28), (168, .invokevirtual 34), (171, .ifCond .eq 23), (174, .aload_n 0), (175, .getfield 19), (178, .bipush 22), (180, .iaload), (181, .aload_n 0), (182, .bipush 28), (184, .invokevirtual 34), (187, .if_icmp .le 7), (190, .iconst 1), (191, .goto 4), (194, .iconst 0), (195, .ireturn), (196, .aload_n 0), (197, .bipush 29), (199, .invokevirtual 34), (202, .ifCond .ne 7), (205, .iconst 1), (206, .goto 4), (209, .iconst 0), (210, .ireturn)]
/-- PackWatchModel.soBy(I)I -/
def pw_t228 : List (Nat × Instr) := [(0, .iconst 0), (1, .istore_n 2), (2, .iload_n 2), (3, .aload_n 0), (4, .getfield 19), (7, .iconst 2), (8, .iaload), (9, .if_icmp .ge 122), (12, .iload_n 1), (13, .ifCond .ne 24), (16, .aload_n 0), (17, .iload_n 2), (18, .invokevirtual 74), (21, .aload_n 0), (22, .iconst 0), (23, .invokevirtual 34), (26, .if_icmp .le 7), (29, .iconst 1), (30, .goto 88), (33, .iconst 0), (34, .goto 84), (37, .iload_n 1), (38, .iconst 1), (39, .if_icmp .ne 24), (42, .aload_n 0), (43, .iload_n 2), (44, .invokevirtual 74), (47, .aload_n 0), (48, .iconst 1), (49, .invokevirtual 34), (52, .if_icmp .ge 7), (55, .iconst 1), (56, .goto 62), (59, .iconst 0), (60, .goto 58), (63, .iload_n 1), (64, .iconst 2), (65, .if_icmp .ne 25), (68, .aload_n 0), (69, .iload_n 2), (70, .iconst 3), (71, .invokevirtual 46), (74, .aload_n 0), (75, .iconst 2), (76, .invokevirtual 34), (79, .if_icmp .le 7), (82, .iconst 1), (83, .goto 35), (86, .iconst 0), (87, .goto 31), (90, .aload_n 0), (91, .getfield 19), (94, .iconst 5), (95, .iaload), (96, .ifCond .le 21), (99, .aload_n 0), (100, .iload_n 2), (101, .iconst 3), (102, .invokevirtual 46), (105, .aload_n 0), (106, .iconst 3), (107, .invokevirtual 34), (110, .if_icmp .ge 7), (113, .iconst 1), (114, .goto 4), (117, .iconst 0), (118, .istore_n 3), (119, .iload_n 3), (120, .ifCond .eq 5), (123, .iload_n 2), (124, .ireturn), (125, .iinc 2 1), (128, .goto (-126)), (131, .iconst (-1)), (132, .ireturn)]
/-- PackWatchModel.writeDown(I)V -/
def pw_t229 : List (Nat × Instr) := [(0, .aload_n 0), (1, .getfield 19), (4, .bipush 20), (6, .iaload), (7, .bipush 24), (9, .if_icmp .ne 45), (12, .sipush 167), (15, .istore_n 2), (16, .iload_n 2), (17, .sipush 213), (20, .if_icmp .ge 23), (23, .aload_n 0), (24, .getfield 19), (27, .iload_n 2), (28, .aload_n 0), (29, .getfield 19), (32, .iload_n 2), (33, .iconst 2), (34, .iadd), (35, .iaload), (36, .iastore), (37, .iinc 2 1), (40, .goto (-24)), (43, .aload_n 0), (44, .getfield 19), (47, .bipush 20), (49, .dup2), (50, .iaload), (51, .iconst 1), (52, .isub), (53, .iastore), (54, .aload_n 0), (55, .getfield 19), (58, .sipush 167), (61, .iconst 2), (62, .aload_n 0), (63, .getfield 19), (66, .bipush 20), (68, .iaload), (69, .imul), (70, .iadd), (71, .aload_n 0), (72, .getfield 19), (75, .bipush 7), (77, .iaload), (78, .iastore), (79, .aload_n 0), (80, .getfield 19), (83, .sipush 167), (86, .iconst 2), (87, .aload_n 0), (88, .getfield 19), (91, .bipush 20), (93, .iaload), (94, .imul), (95, .iadd), (96, .iconst 1), (97, .iadd), (98, .iload_n 1), (99, .iastore), (100, .aload_n 0), (101, .getfield 19), (104, .bipush 20), (106, .dup2), (107, .iaload), (108, .iconst 1), (109, .iadd), (110, .iastore), (111, .return_)]
/-- PackWatchModel.goFaults()I -/
def pw_t230 : List (Nat × Instr) := [(0, .aload_n 0), (1, .getfield 19), (4, .bipush 15), (6, .aload_n 0), (7, .bipush 9), (9, .invokevirtual 34), (12, .aload_n 0), (13, .bipush 10), (15, .invokevirtual 34), (18, .if_icmp .ge 19), (21, .aload_n 0), (22, .getfield 19), (25, .bipush 15), (27, .iaload), (28, .iconst 1), (29, .iadd), (30, .iconst 3), (31, .invokestatic 77), (34, .goto 4), (37, .iconst 0), (38, .iastore), (39, .aload_n 0), (40, .getfield 19), (43, .bipush 16), (45, .aload_n 0), (46, .invokevirtual 91), (49, .aload_n 0), (50, .invokevirtual 84), (53, .if_icmp .eq 19), (56, .aload_n 0), (57, .getfield 19), (60, .bipush 16), (62, .iaload), (63, .iconst 1), (64, .iadd), (65, .iconst 2), (66, .invokestatic 77), (69, .goto 4), (72, .iconst 0), (73, .iastore), (74, .iconst 0), (75, .istore_n 1), (76, .iconst 0), (77, .istore_n 2), (78, .aload_n 0), (79, .getfield 19), (82, .bipush 22), (84, .dup2), (85, .iaload), (86, .iconst 1), (87, .iadd), (88, .iastore), (89, .iconst 0), (90, .istore_n 3), (91, .iload_n 3), (92, .bipush 11), (94, .if_icmp .ge 27), (97, .iload_n 1), (98, .aload_n 0), (99, .iload_n 3), (100, .invokevirtual 168), (103, .ifCond .eq 9), (106, .iconst 1), (107, .iload_n 3), (108, .ishl), (109, .goto 4), (112, .iconst 0), (113, .ior), (114, .istore_n 1), (115, .iinc 3 1), (118, .goto (-27)), (121, .iconst 0), (122, .istore_n 3), (123, .iload_n 3), (124, .bipush 11), (126, .if_icmp .ge 94), (129, .iload_n 1), (130, .iload_n 3), (131, .invokestatic 87), (134, .ifCond .ne 6), (137, .goto 77), (140, .iload_n 3), (141, .iconst 4), (142, .if_icmp .ge 18), (145, .aload_n 0), (146, .getfield 19), (149, .sipush 311), (152, .iload_n 3), (153, .iadd), (154, .aload_n 0), (155, .iload_n 3), (156, .invokevirtual 162), (159, .iastore), (160, .aload_n 0), (161, .getfield 19), (164, .bipush 23), (166, .iload_n 3), (167, .iadd), (168, .aload_n 0), (169, .getfield 19), (172, .bipush 7), (174, .iaload), (175, .iastore), (176, .aload_n 0), (177, .getfield 19), (180, .bipush 6), (182, .iaload), (183, .iload_n 3), (184, .invokestatic 87), (187, .ifCond .eq 6), (190, .goto 24), (193, .aload_n 0), (194, .getfield 19), (197, .bipush 6), (199, .dup2), (200, .iaload), (201, .iconst 1), (202, .iload_n 3), (203, .ishl), (204, .ior), (205, .iastore), (206, .aload_n 0), (207, .iload_n 3), (208, .invokevirtual 172), (211, .iinc 2 1), (214, .iinc 3 1), (217, .goto (-94)), (220, .aload_n 0), (221, .getfield 19), (224, .bipush 6), (226, .iaload), (227, .ifCond .eq 10), (230, .aload_n 0), (231, .getfield 19), (234, .iconst 3), (235, .iconst 0), (236, .iastore), (237, .iload_n 2), (238, .ireturn)]
/-- PackWatchModel.turnAt(II)I -/
def pw_t231 : List (Nat × Instr) := [(0, .aload_n 0), (1, .iload_n 1), (2, .bipush 17), (4, .iload_n 2), (5, .iadd), (6, .invokevirtual 46), (9, .ireturn)]
/-- PackWatchModel.dropTurn(II)V -/
def pw_t232 : List (Nat × Instr) := [(0, .iload_n 2), (1, .istore_n 3), (2, .iload_n 3), (3, .iconst 1), (4, .iadd), (5, .aload_n 0), (6, .iload_n 1), (7, .bipush 10), (9, .invokevirtual 46), (12, .if_icmp .ge 26), (15, .aload_n 0), (16, .iload_n 1), (17, .bipush 17), (19, .iload_n 3), (20, .iadd), (21, .aload_n 0), (22, .iload_n 1), (23, .iload_n 3), (24, .iconst 1), (25, .iadd), (26, .invokevirtual 175), (29, .invokevirtual 118), (32, .iinc 3 1), (35, .goto (-33)), (38, .aload_n 0), (39, .iload_n 1), (40, .bipush 10), (42, .aload_n 0), (43, .iload_n 1), (44, .bipush 10), (46, .invokevirtual 46), (49, .iconst 1), (50, .isub), (51, .invokevirtual 118), (54, .aload_n 0), (55, .iload_n 1), (56, .bipush 17), (58, .aload_n 0), (59, .iload_n 1), (60, .bipush 10), (62, .invokevirtual 46), (65, .iadd), (66, .iconst 0), (67, .invokevirtual 118), (70, .return_)]
/-- PackWatchModel.goTurn(I)V -/
def pw_t233 : List (Nat × Instr) := [(0, .aload_n 0), (1, .iload_n 1), (2, .invokevirtual 62), (5, .istore_n 2), (6, .aload_n 0), (7, .iload_n 1), (8, .bipush 10), (10, .invokevirtual 46), (13, .istore_n 3), (14, .aload_n 0), (15, .iload_n 1), (16, .iload_n 3), (17, .iconst 1), (18, .isub), (19, .invokevirtual 175), (22, .istore 4), (24, .iload_n 2), (25, .iload 4), (27, .if_icmp .ne 4), (30, .return_), (31, .iload_n 3), (32, .iconst 1), (33, .if_icmp .le 52), (36, .iload 4), (38, .aload_n 0), (39, .iload_n 1), (40, .iload_n 3), (41, .iconst 2), (42, .isub), (43, .invokevirtual 175), (46, .if_icmp .eq 39), (49, .iload_n 2), (50, .iload 4), (52, .if_icmp .le 7), (55, .iconst 1), (56, .goto 4), (59, .iconst 0), (60, .iload 4), (62, .aload_n 0), (63, .iload_n 1), (64, .iload_n 3), (65, .iconst 2), (66, .isub), (67, .invokevirtual 175), (70, .if_icmp .le 7), (73, .iconst 1), (74, .goto 4), (77, .iconst 0), (78, .if_icmp .ne 7), (81, .iconst 1), (82, .goto 4), (85, .iconst 0), (86, .istore 5), (88, .iload 5), (90, .ifCond .eq 18), (93, .aload_n 0), (94, .iload_n 1), (95, .bipush 17), (97, .iload_n 3), (98, .iadd), (99, .iconst 1), (100, .isub), (101, .iload_n 2), (102, .invokevirtual 118), (105, .goto 47), (108, .iload_n 3), (109, .bipush 32), (111, .if_icmp .ne 9), (114, .aload_n 0), (115, .iload_n 1), (116, .iconst 0), (117, .invokevirtual 178), (120, .aload_n 0), (121, .iload_n 1), (122, .bipush 17), (124, .aload_n 0), (125, .iload_n 1), (126, .bipush 10), (128, .invokevirtual 46), (131, .iadd), (132, .iload_n 2), (133, .invokevirtual 118), (136, .aload_n 0), (137, .iload_n 1), (138, .bipush 10), (140, .aload_n 0), (141, .iload_n 1), (142, .bipush 10), (144, .invokevirtual 46), (147, .iconst 1), (148, .iadd), (149, .invokevirtual 118), (152, .aload_n 0), (153, .iload_n 1), (154, .invokevirtual 182), (157, .return_)]
/-- PackWatchModel.count(I)V -/
def pw_t234 : List (Nat × Instr) := [(0, .iconst 1), (1, .istore_n 2), (2, .iload_n 2), (3, .ifCond .eq 160), (6, .aload_n 0), (7, .iload_n 1), (8, .bipush 10), (10, .invokevirtual 46), (13, .iconst 4), (14, .if_icmp .lt 149), (17, .aload_n 0), (18, .iload_n 1), (19, .bipush 10), (21, .invokevirtual 46), (24, .istore_n 3), (25, .aload_n 0), (26, .iload_n 1), (27, .iload_n 3), (28, .iconst 4), (29, .isub), (30, .invokevirtual 175), (33, .aload_n 0), (34, .iload_n 1), (35, .iload_n 3), (36, .iconst 3), (37, .isub), (38, .invokevirtual 175), (41, .isub), (42, .invokestatic 122), (45, .istore 4), (47, .aload_n 0), (48, .iload_n 1), (49, .iload_n 3), (50, .iconst 3), (51, .isub), (52, .invokevirtual 175), (55, .aload_n 0), (56, .iload_n 1), (57, .iload_n 3), (58, .iconst 2), (59, .isub), (60, .invokevirtual 175), (63, .isub), (64, .invokestatic 122), (67, .istore 5), (69, .aload_n 0), (70, .iload_n 1), (71, .iload_n 3), (72, .iconst 2), (73, .isub), (74, .invokevirtual 175), (77, .aload_n 0), (78, .iload_n 1), (79, .iload_n 3), (80, .iconst 1), (81, .isub), (82, .invokevirtual 175), (85, .isub), (86, .invokestatic 122), (89, .istore 6), (91, .iload 5), (93, .iload 4), (95, .if_icmp .gt 14), (98, .iload 5), (100, .iload 6), (102, .if_icmp .gt 7), (105, .iconst 1), (106, .goto 4), (109, .iconst 0), (110, .istore_n 2), (111, .iload_n 2), (112, .ifCond .ne 4), (115, .return_), (116, .aload_n 0), (117, .iload_n 1), (118, .bipush 49), (120, .iload 5), (122, .bipush 100), (124, .idiv), (125, .iadd), (126, .aload_n 0), (127, .iload_n 1), (128, .bipush 49), (130, .iload 5), (132, .bipush 100), (134, .idiv), (135, .iadd), (136, .invokevirtual 46), (139, .iconst 1), (140, .iadd), (141, .invokevirtual 118), (144, .aload_n 0), (145, .iload_n 1), (146, .iload_n 3), (147, .iconst 3), (148, .isub), (149, .invokevirtual 178), (152, .aload_n 0), (153, .iload_n 1), (154, .iload_n 3), (155, .iconst 3), (156, .isub), (157, .invokevirtual 178), (160, .goto (-158)), (163, .return_)]
/-- PackWatchModel.goKept()V -/
def pw_t235 : List (Nat × Instr) := [(0, .aload_n 0), (1, .getfield 19), (4, .bipush 21), (6, .iaload), (7, .bipush 32), (9, .if_icmp .ne 45), (12, .sipush 215), (15, .istore_n 1), (16, .iload_n 1), (17, .sipush 308), (20, .if_icmp .ge 23), (23, .aload_n 0), (24, .getfield 19), (27, .iload_n 1), (28, .aload_n 0), (29, .getfield 19), (32, .iload_n 1), (33, .iconst 3), (34, .iadd), (35, .iaload), (36, .iastore), (37, .iinc 1 1), (40, .goto (-24)), (43, .aload_n 0), (44, .getfield 19), (47, .bipush 21), (49, .dup2), (50, .iaload), (51, .iconst 1), (52, .isub), (53, .iastore), (54, .sipush 215), (57, .iconst 3), (58, .aload_n 0), (59, .getfield 19), (62, .bipush 21), (64, .iaload), (65, .imul), (66, .iadd), (67, .istore_n 1), (68, .aload_n 0), (69, .getfield 19), (72, .iload_n 1), (73, .aload_n 0), (74, .getfield 19), (77, .iconst 5), (78, .iaload), (79, .iastore), (80, .aload_n 0), (81, .getfield 19), (84, .iload_n 1), (85, .iconst 1), (86, .iadd), (87, .aload_n 0), (88, .invokevirtual 159), (91, .iastore), (92, .aload_n 0), (93, .getfield 19), (96, .iload_n 1), (97, .iconst 2), (98, .iadd), (99, .aload_n 0), (100, .invokevirtual 165), (103, .iastore), (104, .aload_n 0), (105, .getfield 19), (108, .bipush 21), (110, .dup2), (111, .iaload), (112, .iconst 1), (113, .iadd), (114, .iastore), (115, .iconst 0), (116, .istore_n 2), (117, .iload_n 2), (118, .aload_n 0), (119, .getfield 19), (122, .iconst 2), (123, .iaload), (124, .if_icmp .ge 58), (127, .aload_n 0), (128, .iload_n 2), (129, .invokevirtual 74), (132, .istore_n 3), (133, .iload_n 3), (134, .aload_n 0), (135, .iload_n 2), (136, .bipush 7), (138, .invokevirtual 46), (141, .if_icmp .le 11), (144, .aload_n 0), (145, .iload_n 2), (146, .bipush 7), (148, .iload_n 3), (149, .invokevirtual 118), (152, .iload_n 3), (153, .aload_n 0), (154, .iload_n 2), (155, .bipush 8), (157, .invokevirtual 46), (160, .if_icmp .ge 11), (163, .aload_n 0), (164, .iload_n 2), (165, .bipush 8), (167, .iload_n 3), (168, .invokevirtual 118), (171, .aload_n 0), (172, .iload_n 2), (173, .invokevirtual 185), (176, .iinc 2 1), (179, .goto (-62)), (182, .return_)]
/-- PackWatchModel.goRules()V -/
def pw_t236 : List (Nat × Instr) := [(0, .iconst 0), (1, .istore_n 1), (2, .iload_n 1), (3, .aload_n 0), (4, .getfield 19), (7, .bipush 18), (9, .iaload), (10, .if_icmp .ge 90), (13, .bipush 79), (15, .iconst 5), (16, .iload_n 1), (17, .imul), (18, .iadd), (19, .istore_n 2), (20, .aload_n 0), (21, .aload_n 0), (22, .getfield 19), (25, .iload_n 2), (26, .iaload), (27, .invokevirtual 188), (30, .istore_n 3), (31, .aload_n 0), (32, .getfield 19), (35, .iload_n 2), (36, .iconst 1), (37, .iadd), (38, .iaload), (39, .iconst 1), (40, .if_icmp .ne 18), (43, .iload_n 3), (44, .aload_n 0), (45, .getfield 19), (48, .iload_n 2), (49, .iconst 2), (50, .iadd), (51, .iaload), (52, .if_icmp .le 42), (55, .goto 15), (58, .iload_n 3), (59, .aload_n 0), (60, .getfield 19), (63, .iload_n 2), (64, .iconst 2), (65, .iadd), (66, .iaload), (67, .if_icmp .ge 27), (70, .aload_n 0), (71, .getfield 19), (74, .bipush 34), (76, .aload_n 0), (77, .getfield 19), (80, .iload_n 2), (81, .iconst 3), (82, .iadd), (83, .iaload), (84, .iadd), (85, .aload_n 0), (86, .getfield 19), (89, .iload_n 2), (90, .iconst 4), (91, .iadd), (92, .iaload), (93, .iastore), (94, .iinc 1 1), (97, .goto (-95)), (100, .return_)]
/-- PackWatchModel.second()I -/
def pw_t237 : List (Nat × Instr) := [(0, .aload_n 0), (1, .getfield 19), (4, .bipush 7), (6, .dup2), (7, .iaload), (8, .iconst 1), (9, .iadd), (10, .iastore), (11, .aload_n 0), (12, .invokevirtual 191), (15, .aload_n 0), (16, .invokevirtual 194), (19, .aload_n 0), (20, .invokevirtual 197), (23, .aload_n 0), (24, .invokevirtual 200), (27, .aload_n 0), (28, .getfield 19), (31, .bipush 8), (33, .dup2), (34, .iaload), (35, .aload_n 0), (36, .bipush 6), (38, .invokevirtual 34), (41, .aload_n 0), (42, .getfield 19), (45, .bipush 8), (47, .iaload), (48, .isub), (49, .bipush 16), (51, .idiv), (52, .iadd), (53, .iastore), (54, .aload_n 0), (55, .invokevirtual 203), (58, .aload_n 0), (59, .getfield 206), (62, .ifCond .ne 7), (65, .aload_n 0), (66, .invokevirtual 209), (69, .aload_n 0), (70, .invokevirtual 212), (73, .istore_n 1), (74, .aload_n 0), (75, .invokevirtual 215), (78, .aload_n 0), (79, .getfield 206), (82, .ifCond .ne 7), (85, .aload_n 0), (86, .invokevirtual 218), (89, .iload_n 1), (90, .ireturn)]
/-- PackWatchModel.putAside()V -/
def pw_t238 : List (Nat × Instr) := [(0, .iconst 0), (1, .istore_n 1), (2, .iload_n 1), (3, .sipush 1418), (6, .if_icmp .ge 23), (9, .aload_n 0), (10, .getfield 28), (13, .iload_n 1), (14, .aload_n 0), (15, .getfield 19), (18, .iconst 2), (19, .iload_n 1), (20, .iadd), (21, .iaload), (22, .iastore), (23, .iinc 1 1), (26, .goto (-24)), (29, .return_)]
/-- PackWatchModel.bringBack()V -/
def pw_t239 : List (Nat × Instr) := [(0, .iconst 0), (1, .istore_n 1), (2, .iload_n 1), (3, .sipush 1418), (6, .if_icmp .ge 23), (9, .aload_n 0), (10, .getfield 19), (13, .iconst 2), (14, .iload_n 1), (15, .iadd), (16, .aload_n 0), (17, .getfield 28), (20, .iload_n 1), (21, .iaload), (22, .iastore), (23, .iinc 1 1), (26, .goto (-24)), (29, .return_)]
/-- PackWatchModel.stepAt(II)I -/
def pw_t240 : List (Nat × Instr) := [(0, .sipush 1420), (3, .sipush 1418), (6, .iload_n 0), (7, .iload_n 1), (8, .iadd), (9, .bipush 20), (11, .irem), (12, .imul), (13, .iadd), (14, .ireturn)]
/-- PackWatchModel.keep()V -/
def pw_t241 : List (Nat × Instr) := [(0, .aload_n 0), (1, .getfield 19), (4, .iconst 0), (5, .iaload), (6, .bipush 20), (8, .if_icmp .ne 30), (11, .aload_n 0), (12, .getfield 19), (15, .iconst 1), (16, .aload_n 0), (17, .getfield 19), (20, .iconst 1), (21, .iaload), (22, .iconst 1), (23, .iadd), (24, .bipush 20), (26, .irem), (27, .iastore), (28, .aload_n 0), (29, .getfield 19), (32, .iconst 0), (33, .dup2), (34, .iaload), (35, .iconst 1), (36, .isub), (37, .iastore), (38, .aload_n 0), (39, .getfield 19), (42, .iconst 1), (43, .iaload), (44, .aload_n 0), (45, .getfield 19), (48, .iconst 0), (49, .iaload), (50, .invokestatic 221), (53, .istore_n 1), (54, .iconst 0), (55, .istore_n 2), (56, .iload_n 2), (57, .sipush 1418), (60, .if_icmp .ge 25), (63, .aload_n 0), (64, .getfield 19), (67, .iload_n 1), (68, .iload_n 2), (69, .iadd), (70, .aload_n 0), (71, .getfield 19), (74, .iconst 2), (75, .iload_n 2), (76, .iadd), (77, .iaload), (78, .iastore), (79, .iinc 2 1), (82, .goto (-26)), (85, .aload_n 0), (86, .getfield 19), (89, .iconst 0), (90, .dup2), (91, .iaload), (92, .iconst 1), (93, .iadd), (94, .iastore), (95, .return_)]
/-- PackWatchModel.undo()I -/
def pw_t242 : List (Nat × Instr) := [(0, .aload_n 0), (1, .getfield 19), (4, .iconst 0), (5, .iaload), (6, .ifCond .ne 5), (9, .iconst (-1)), (10, .ireturn), (11, .aload_n 0), (12, .getfield 19), (15, .iconst 0), (16, .dup2), (17, .iaload), (18, .iconst 1), (19, .isub), (20, .iastore), (21, .aload_n 0), (22, .getfield 19), (25, .iconst 1), (26, .iaload), (27, .aload_n 0), (28, .getfield 19), (31, .iconst 0), (32, .iaload), (33, .invokestatic 221), (36, .istore_n 1), (37, .iconst 0), (38, .istore_n 2), (39, .iload_n 2), (40, .sipush 1418), (43, .if_icmp .ge 25), (46, .aload_n 0), (47, .getfield 19), (50, .iconst 2), (51, .iload_n 2), (52, .iadd), (53, .aload_n 0), (54, .getfield 19), (57, .iload_n 1), (58, .iload_n 2), (59, .iadd), (60, .iaload), (61, .iastore), (62, .iinc 2 1), (65, .goto (-26)), (68, .aload_n 0), (69, .getfield 19), (72, .iconst 0), (73, .iaload), (74, .ireturn)]
/-- PackWatchModel.cell(III)I -/
def pw_t243 : List (Nat × Instr) := [(0, .iload_n 1), (1, .bipush 100), (3, .sipush 9999), (6, .invokestatic 42), (9, .ifCond .eq 35), (12, .iload_n 2), (13, .iconst 0), (14, .sipush 1000), (17, .invokestatic 42), (20, .ifCond .eq 24), (23, .iload_n 3), (24, .iconst 0), (25, .bipush 99), (27, .invokestatic 42), (30, .ifCond .eq 14), (33, .aload_n 0), (34, .getfield 19), (37, .iconst 2), (38, .iaload), (39, .bipush 16), (41, .if_icmp .ne 5), (44, .iconst (-1)), (45, .ireturn), (46, .aload_n 0), (47, .invokevirtual 224), (50, .aload_n 0), (51, .getfield 19), (54, .iconst 2), (55, .iaload), (56, .istore 4), (58, .aload_n 0), (59, .getfield 19), (62, .iconst 2), (63, .dup2), (64, .iaload), (65, .iconst 1), (66, .iadd), (67, .iastore), (68, .iconst 0), (69, .istore 5), (71, .iload 5), (73, .bipush 61), (75, .if_icmp .ge 18), (78, .aload_n 0), (79, .iload 4), (81, .iload 5), (83, .iconst 0), (84, .invokevirtual 118), (87, .iinc 5 1), (90, .goto (-19)), (93, .aload_n 0), (94, .iload 4), (96, .iconst 0), (97, .iload_n 1), (98, .invokevirtual 118), (101, .aload_n 0), (102, .iload 4), (104, .bipush 6), (106, .iload_n 1), (107, .invokevirtual 118), (110, .aload_n 0), (111, .iload 4), (113, .iconst 2), (114, .iload_n 3), (115, .invokevirtual 118), (118, .aload_n 0), (119, .iload 4), (121, .iconst 3), (122, .aload_n 0), (123, .bipush 6), (125, .invokevirtual 34), (128, .invokevirtual 118), (131, .aload_n 0), (132, .iload 4), (134, .iconst 1), (135, .aload_n 0), (136, .iload 4), (138, .iload_n 2), (139, .invokevirtual 153), (142, .invokevirtual 118), (145, .aload_n 0), (146, .iload 4), (148, .iconst 4), (149, .aload_n 0), (150, .iload 4), (152, .iload_n 2), (153, .invokevirtual 153), (156, .invokevirtual 118), (159, .aload_n 0), (160, .iload 4), (162, .bipush 7), (164, .ldc 227), (166, .invokevirtual 118), (169, .aload_n 0), (170, .iload 4), (172, .bipush 8), (174, .ldc 228), (176, .invokevirtual 118), (179, .aload_n 0), (180, .iload 4), (182, .bipush 11), (184, .ldc 229), (186, .invokevirtual 118), (189, .aload_n 0), (190, .iload 4), (192, .bipush 12), (194, .iconst (-1)), (195, .invokevirtual 118), (198, .aload_n 0), (199, .iload 4), (201, .bipush 16), (203, .iconst (-1)), (204, .invokevirtual 118), (207, .aload_n 0), (208, .iload 4), (210, .bipush 10), (212, .iconst 1), (213, .invokevirtual 118), (216, .aload_n 0), (217, .iload 4), (219, .bipush 17), (221, .aload_n 0), (222, .iload 4), (224, .invokevirtual 62), (227, .invokevirtual 118), (230, .iload 4), (232, .ireturn)]
/-- PackWatchModel.charge(II)Z -/
def pw_t244 : List (Nat × Instr) := [(0, .aload_n 0), (1, .iload_n 1), (2, .invokevirtual 230), (5, .ifCond .eq 16), (8, .iload_n 2), (9, .iconst 0), (10, .aload_n 0), (11, .iload_n 1), (12, .invokevirtual 52), (15, .invokestatic 42), (18, .ifCond .ne 5), (21, .iconst 0), (22, .ireturn), (23, .aload_n 0), (24, .invokevirtual 224), (27, .aload_n 0), (28, .iload_n 1), (29, .iconst 1), (30, .iload_n 2), (31, .invokevirtual 118), (34, .iconst 1), (35, .ireturn)]
/-- PackWatchModel.warm(II)Z -/
def pw_t245 : List (Nat × Instr) := [(0, .aload_n 0), (1, .iload_n 1), (2, .invokevirtual 230), (5, .ifCond .eq 16), (8, .iload_n 2), (9, .sipush (-400)), (12, .sipush 1200), (15, .invokestatic 42), (18, .ifCond .ne 5), (21, .iconst 0), (22, .ireturn), (23, .aload_n 0), (24, .invokevirtual 224), (27, .aload_n 0), (28, .iload_n 1), (29, .iconst 3), (30, .iload_n 2), (31, .invokevirtual 118), (34, .iconst 1), (35, .ireturn)]
/-- PackWatchModel.isSetting(II)Z -/
def pw_t246 : List (Nat × Instr) := [(0, .iload_n 1), (1, .iconst 0), (2, .bipush 29), (4, .invokestatic 42), (7, .ifCond .eq 32), (10, .iload_n 2), (11, .aload_n 0), (12, .getfield 10), (15, .iconst 3), (16, .iload_n 1), (17, .imul), (18, .iaload), (19, .aload_n 0), (20, .getfield 10), (23, .iconst 3), (24, .iload_n 1), (25, .imul), (26, .iconst 1), (27, .iadd), (28, .iaload), (29, .invokestatic 42), (32, .ifCond .eq 7), (35, .iconst 1), (36, .goto 4), (39, .iconst 0), (40, .ireturn)]
/-- PackWatchModel.set(II)Z -/
def pw_t247 : List (Nat × Instr) := [(0, .aload_n 0), (1, .iload_n 1), (2, .iload_n 2), (3, .invokevirtual 233), (6, .ifCond .ne 5), (9, .iconst 0), (10, .ireturn), (11, .aload_n 0), (12, .invokevirtual 224), (15, .aload_n 0), (16, .getfield 19), (19, .bipush 34), (21, .iload_n 1), (22, .iadd), (23, .iload_n 2), (24, .iastore), (25, .iconst 1), (26, .ireturn)]
/-- PackWatchModel.secondsNow(I)I -/
def pw_t248 : List (Nat × Instr) := [(0, .iconst 0), (1, .istore_n 2), (2, .iconst 0), (3, .istore_n 3), (4, .iload_n 3), (5, .iload_n 1), (6, .if_icmp .ge 16), (9, .iload_n 2), (10, .aload_n 0), (11, .invokevirtual 236), (14, .iadd), (15, .istore_n 2), (16, .iinc 3 1), (19, .goto (-15)), (22, .iload_n 2), (23, .ireturn)]
/-- PackWatchModel.canRun(II)Z -/
def pw_t249 : List (Nat × Instr) := [(0, .iload_n 1), (1, .iconst 1), (2, .iload_n 2), (3, .invokestatic 42), (6, .ifCond .eq 22), (9, .aload_n 0), (10, .getfield 19), (13, .bipush 7), (15, .iaload), (16, .iload_n 1), (17, .iadd), (18, .sipush 9999), (21, .if_icmp .gt 7), (24, .iconst 1), (25, .goto 4), (28, .iconst 0), (29, .ireturn)]
/-- PackWatchModel.run(I)I -/
def pw_t250 : List (Nat × Instr) := [(0, .aload_n 0), (1, .iload_n 1), (2, .sipush 300), (5, .invokevirtual 239), (8, .ifCond .ne 5), (11, .iconst (-1)), (12, .ireturn), (13, .aload_n 0), (14, .invokevirtual 224), (17, .aload_n 0), (18, .iload_n 1), (19, .invokevirtual 242), (22, .ireturn)]
/-- PackWatchModel.close()Z -/
def pw_t251 : List (Nat × Instr) := [(0, .aload_n 0), (1, .getfield 19), (4, .iconst 3), (5, .iaload), (6, .ifCond .ne 22), (9, .aload_n 0), (10, .getfield 19), (13, .bipush 6), (15, .iaload), (16, .ifCond .ne 12), (19, .aload_n 0), (20, .getfield 19), (23, .iconst 2), (24, .iaload), (25, .ifCond .ne 5), (28, .iconst 0), (29, .ireturn), (30, .aload_n 0), (31, .invokevirtual 224), (34, .aload_n 0), (35, .getfield 19), (38, .iconst 3), (39, .iconst 1), (40, .iastore), (41, .iconst 1), (42, .ireturn)]
/-- PackWatchModel.open()Z -/
def pw_t252 : List (Nat × Instr) := [(0, .aload_n 0), (1, .getfield 19), (4, .iconst 3), (5, .iaload), (6, .ifCond .ne 5), (9, .iconst 0), (10, .ireturn), (11, .aload_n 0), (12, .invokevirtual 224), (15, .aload_n 0), (16, .getfield 19), (19, .iconst 3), (20, .iconst 0), (21, .iastore), (22, .aload_n 0), (23, .getfield 19), (26, .iconst 5), (27, .iconst 0), (28, .iastore), (29, .iconst 1), (30, .ireturn)]
/-- PackWatchModel.mayReset(I)Z -/
def pw_t253 : List (Nat × Instr) := [(0, .iload_n 1), (1, .iconst 0), (2, .bipush 10), (4, .invokestatic 42), (7, .ifCond .eq 56), (10, .aload_n 0), (11, .getfield 19), (14, .bipush 6), (16, .iaload), (17, .iload_n 1), (18, .invokestatic 87), (21, .ifCond .eq 42), (24, .aload_n 0), (25, .getfield 19), (28, .iconst 3), (29, .iaload), (30, .ifCond .ne 33), (33, .aload_n 0), (34, .getfield 19), (37, .bipush 7), (39, .iaload), (40, .aload_n 0), (41, .getfield 19), (44, .bipush 23), (46, .iload_n 1), (47, .iadd), (48, .iaload), (49, .isub), (50, .aload_n 0), (51, .bipush 21), (53, .invokevirtual 34), (56, .if_icmp .lt 7), (59, .iconst 1), (60, .goto 4), (63, .iconst 0), (64, .ireturn)]
/-- PackWatchModel.reset(I)Z -/
def pw_t254 : List (Nat × Instr) := [(0, .aload_n 0), (1, .iload_n 1), (2, .invokevirtual 245), (5, .ifCond .ne 5), (8, .iconst 0), (9, .ireturn), (10, .aload_n 0), (11, .invokevirtual 224), (14, .aload_n 0), (15, .getfield 19), (18, .bipush 6), (20, .dup2), (21, .iaload), (22, .iconst 1), (23, .iload_n 1), (24, .ishl), (25, .iconst (-1)), (26, .ixor), (27, .iand), (28, .iastore), (29, .iconst 1), (30, .ireturn)]
/-- PackWatchModel.hear()I -/
def pw_t255 : List (Nat × Instr) := [(0, .aload_n 0), (1, .invokevirtual 224), (4, .aload_n 0), (5, .getfield 19), (8, .bipush 22), (10, .iaload), (11, .istore_n 1), (12, .aload_n 0), (13, .getfield 19), (16, .bipush 22), (18, .iconst 0), (19, .iastore), (20, .iload_n 1), (21, .ireturn)]
/-- PackWatchModel.price(II)Z -/
def pw_t256 : List (Nat × Instr) := [(0, .iload_n 1), (1, .iconst 0), (2, .bipush 23), (4, .invokestatic 42), (7, .ifCond .eq 14), (10, .iload_n 2), (11, .iconst 0), (12, .sipush 999), (15, .invokestatic 42), (18, .ifCond .ne 5), (21, .iconst 0), (22, .ireturn), (23, .aload_n 0), (24, .invokevirtual 224), (27, .aload_n 0), (28, .getfield 19), (31, .sipush 315), (34, .iload_n 1), (35, .iadd), (36, .iload_n 2), (37, .iastore), (38, .iconst 1), (39, .ireturn)]
/-- PackWatchModel.mark(I)Z -/
def pw_t257 : List (Nat × Instr) := [(0, .iload_n 1), (1, .iconst 0), (2, .iconst 2), (3, .invokestatic 42), (6, .ifCond .ne 5), (9, .iconst 0), (10, .ireturn), (11, .aload_n 0), (12, .invokevirtual 224), (15, .sipush 339), (18, .bipush 35), (20, .iload_n 1), (21, .imul), (22, .iadd), (23, .istore_n 2), (24, .aload_n 0), (25, .getfield 19), (28, .iload_n 2), (29, .iconst 1), (30, .iastore), (31, .aload_n 0), (32, .getfield 19), (35, .iload_n 2), (36, .iconst 1), (37, .iadd), (38, .aload_n 0), (39, .getfield 19), (42, .bipush 7), (44, .iaload), (45, .iastore), (46, .aload_n 0), (47, .getfield 19), (50, .iload_n 2), (51, .iconst 2), (52, .iadd), (53, .aload_n 0), (54, .getfield 19), (57, .iconst 2), (58, .iaload), (59, .iastore), (60, .iconst 0), (61, .istore_n 3), (62, .iload_n 3), (63, .aload_n 0), (64, .getfield 19), (67, .iconst 2), (68, .iaload), (69, .if_icmp .ge 41), (72, .aload_n 0), (73, .getfield 19), (76, .iload_n 2), (77, .iconst 3), (78, .iadd), (79, .iload_n 3), (80, .iadd), (81, .aload_n 0), (82, .iload_n 3), (83, .invokevirtual 62), (86, .iastore), (87, .aload_n 0), (88, .getfield 19), (91, .iload_n 2), (92, .bipush 19), (94, .iadd), (95, .iload_n 3), (96, .iadd), (97, .aload_n 0), (98, .iload_n 3), (99, .iconst 5), (100, .invokevirtual 46), (103, .iastore), (104, .iinc 3 1), (107, .goto (-45)), (110, .iconst 1), (111, .ireturn)]
/-- PackWatchModel.stuck(II)Z -/
def pw_t258 : List (Nat × Instr) := [(0, .iload_n 1), (1, .iconst 0), (2, .iconst 2), (3, .invokestatic 42), (6, .ifCond .eq 12), (9, .iload_n 2), (10, .iconst 0), (11, .iconst 2), (12, .invokestatic 42), (15, .ifCond .ne 5), (18, .iconst 0), (19, .ireturn), (20, .aload_n 0), (21, .invokevirtual 224), (24, .aload_n 0), (25, .getfield 19), (28, .bipush 64), (30, .iload_n 1), (31, .iadd), (32, .iload_n 2), (33, .iastore), (34, .iconst 1), (35, .ireturn)]
/-- PackWatchModel.zone(II)I -/
def pw_t259 : List (Nat × Instr) := [(0, .iload_n 1), (1, .sipush (-400)), (4, .sipush 1200), (7, .invokestatic 42), (10, .ifCond .eq 25), (13, .iload_n 2), (14, .iconst 0), (15, .ldc 7), (17, .invokestatic 42), (20, .ifCond .eq 15), (23, .aload_n 0), (24, .getfield 19), (27, .bipush 17), (29, .iaload), (30, .bipush 6), (32, .if_icmp .ne 5), (35, .iconst (-1)), (36, .ireturn), (37, .aload_n 0), (38, .getfield 19), (41, .bipush 17), (43, .iaload), (44, .ifCond .le 28), (47, .iload_n 1), (48, .aload_n 0), (49, .getfield 19), (52, .bipush 67), (54, .iconst 2), (55, .aload_n 0), (56, .getfield 19), (59, .bipush 17), (61, .iaload), (62, .imul), (63, .iadd), (64, .iconst 2), (65, .isub), (66, .iaload), (67, .if_icmp .gt 5), (70, .iconst (-1)), (71, .ireturn), (72, .aload_n 0), (73, .invokevirtual 224), (76, .aload_n 0), (77, .getfield 19), (80, .bipush 67), (82, .iconst 2), (83, .aload_n 0), (84, .getfield 19), (87, .bipush 17), (89, .iaload), (90, .imul), (91, .iadd), (92, .iload_n 1), (93, .iastore), (94, .aload_n 0), (95, .getfield 19), (98, .bipush 67), (100, .iconst 2), (101, .aload_n 0), (102, .getfield 19), (105, .bipush 17), (107, .iaload), (108, .imul), (109, .iadd), (110, .iconst 1), (111, .iadd), (112, .iload_n 2), (113, .iastore), (114, .aload_n 0), (115, .getfield 19), (118, .bipush 17), (120, .dup2), (121, .iaload), (122, .iconst 1), (123, .iadd), (124, .iastore), (125, .aload_n 0), (126, .getfield 19), (129, .bipush 17), (131, .iaload), (132, .ireturn)]
/-- PackWatchModel.piece(II)I -/
def pw_t260 : List (Nat × Instr) := [(0, .iload_n 1), (1, .ldc 9), (3, .ldc 7), (5, .invokestatic 42), (8, .ifCond .eq 25), (11, .iload_n 2), (12, .iconst 1), (13, .bipush 99), (15, .invokestatic 42), (18, .ifCond .eq 15), (21, .aload_n 0), (22, .getfield 19), (25, .bipush 19), (27, .iaload), (28, .bipush 24), (30, .if_icmp .ne 5), (33, .iconst (-1)), (34, .ireturn), (35, .aload_n 0), (36, .invokevirtual 224), (39, .aload_n 0), (40, .getfield 19), (43, .bipush 119), (45, .iconst 2), (46, .aload_n 0), (47, .getfield 19), (50, .bipush 19), (52, .iaload), (53, .imul), (54, .iadd), (55, .iload_n 1), (56, .iastore), (57, .aload_n 0), (58, .getfield 19), (61, .bipush 119), (63, .iconst 2), (64, .aload_n 0), (65, .getfield 19), (68, .bipush 19), (70, .iaload), (71, .imul), (72, .iadd), (73, .iconst 1), (74, .iadd), (75, .iload_n 2), (76, .iastore), (77, .aload_n 0), (78, .getfield 19), (81, .bipush 19), (83, .dup2), (84, .iaload), (85, .iconst 1), (86, .iadd), (87, .iastore), (88, .aload_n 0), (89, .getfield 19), (92, .bipush 19), (94, .iaload), (95, .ireturn)]
/-- PackWatchModel.rule(IZIII)I -/
def pw_t261 : List (Nat × Instr) := [(0, .iload_n 1), (1, .iconst 0), (2, .bipush 13), (4, .invokestatic 42), (7, .ifCond .eq 26), (10, .aload_n 0), (11, .iload 4), (13, .iload 5), (15, .invokevirtual 233), (18, .ifCond .eq 15), (21, .aload_n 0), (22, .getfield 19), (25, .bipush 18), (27, .iaload), (28, .bipush 8), (30, .if_icmp .ne 5), (33, .iconst (-1)), (34, .ireturn), (35, .aload_n 0), (36, .invokevirtual 224), (39, .bipush 79), (41, .iconst 5), (42, .aload_n 0), (43, .getfield 19), (46, .bipush 18), (48, .iaload), (49, .imul), (50, .iadd), (51, .istore 6), (53, .aload_n 0), (54, .getfield 19), (57, .iload 6), (59, .iload_n 1), (60, .iastore), (61, .aload_n 0), (62, .getfield 19), (65, .iload 6), (67, .iconst 1), (68, .iadd), (69, .iload_n 2), (70, .ifCond .eq 7), (73, .iconst 1), (74, .goto 4), (77, .iconst 0), (78, .iastore), (79, .aload_n 0), (80, .getfield 19), (83, .iload 6), (85, .iconst 2), (86, .iadd), (87, .iload_n 3), (88, .iastore), (89, .aload_n 0), (90, .getfield 19), (93, .iload 6), (95, .iconst 3), (96, .iadd), (97, .iload 4), (99, .iastore), (100, .aload_n 0), (101, .getfield 19), (104, .iload 6), (106, .iconst 4), (107, .iadd), (108, .iload 5), (110, .iastore), (111, .aload_n 0), (112, .getfield 19), (115, .bipush 18), (117, .dup2), (118, .iaload), (119, .iconst 1), (120, .iadd), (121, .iastore), (122, .aload_n 0), (123, .getfield 19), (126, .bipush 18), (128, .iaload), (129, .ireturn)]
/-- PackWatchModel.clear(III)I -/
def pw_t262 : List (Nat × Instr) := [(0, .aload_n 0), (1, .invokevirtual 224), (4, .aload_n 0), (5, .getfield 19), (8, .iload_n 1), (9, .iaload), (10, .istore 4), (12, .iload_n 2), (13, .istore 5), (15, .iload 5), (17, .iload_n 3), (18, .if_icmp .ge 17), (21, .aload_n 0), (22, .getfield 19), (25, .iload 5), (27, .iconst 0), (28, .iastore), (29, .iinc 5 1), (32, .goto (-17)), (35, .aload_n 0), (36, .getfield 19), (39, .iload_n 1), (40, .iconst 0), (41, .iastore), (42, .iload 4), (44, .ireturn)]
/-- PackWatchModel.unrule()I -/
def pw_t263 : List (Nat × Instr) := [(0, .aload_n 0), (1, .bipush 18), (3, .bipush 79), (5, .bipush 119), (7, .invokevirtual 248), (10, .ireturn)]
/-- PackWatchModel.wipe()I -/
def pw_t264 : List (Nat × Instr) := [(0, .aload_n 0), (1, .bipush 19), (3, .bipush 119), (5, .sipush 167), (8, .invokevirtual 248), (11, .ireturn)]
/-- PackWatchModel.driveLong()I -/
def pw_t265 : List (Nat × Instr) := [(0, .iconst 0), (1, .istore_n 1), (2, .iconst 0), (3, .istore_n 2), (4, .iload_n 2), (5, .aload_n 0), (6, .getfield 19), (9, .bipush 19), (11, .iaload), (12, .if_icmp .ge 25), (15, .iload_n 1), (16, .aload_n 0), (17, .getfield 19), (20, .bipush 119), (22, .iconst 2), (23, .iload_n 2), (24, .imul), (25, .iadd), (26, .iconst 1), (27, .iadd), (28, .iaload), (29, .iadd), (30, .istore_n 1), (31, .iinc 2 1), (34, .goto (-30)), (37, .iload_n 1), (38, .ireturn)]
/-- PackWatchModel.driveNow()I -/
def pw_t266 : List (Nat × Instr) := [(0, .iconst 0), (1, .istore_n 1), (2, .iconst 0), (3, .istore_n 2), (4, .iload_n 2), (5, .aload_n 0), (6, .getfield 19), (9, .bipush 19), (11, .iaload), (12, .if_icmp .ge 72), (15, .aload_n 0), (16, .getfield 19), (19, .bipush 54), (21, .aload_n 0), (22, .getfield 19), (25, .bipush 119), (27, .iconst 2), (28, .iload_n 2), (29, .imul), (30, .iadd), (31, .iaload), (32, .iastore), (33, .iconst 0), (34, .istore_n 3), (35, .iload_n 3), (36, .aload_n 0), (37, .getfield 19), (40, .bipush 119), (42, .iconst 2), (43, .iload_n 2), (44, .imul), (45, .iadd), (46, .iconst 1), (47, .iadd), (48, .iaload), (49, .if_icmp .ge 29), (52, .aload_n 0), (53, .getfield 19), (56, .bipush 7), (58, .iaload), (59, .sipush 9999), (62, .if_icmp .ge 16), (65, .iload_n 1), (66, .aload_n 0), (67, .invokevirtual 236), (70, .iadd), (71, .istore_n 1), (72, .iinc 3 1), (75, .goto (-40)), (78, .iinc 2 1), (81, .goto (-77)), (84, .iload_n 1), (85, .ireturn)]
/-- PackWatchModel.drive()I -/
def pw_t267 : List (Nat × Instr) := [(0, .aload_n 0), (1, .getfield 19), (4, .bipush 19), (6, .iaload), (7, .ifCond .eq 21), (10, .aload_n 0), (11, .getfield 19), (14, .bipush 7), (16, .iaload), (17, .aload_n 0), (18, .invokevirtual 251), (21, .iadd), (22, .sipush 9999), (25, .if_icmp .le 5), (28, .iconst (-1)), (29, .ireturn), (30, .aload_n 0), (31, .invokevirtual 224), (34, .aload_n 0), (35, .invokevirtual 254), (38, .ireturn)]
/-- PackWatchModel.is(I)I -/
def pw_t268 : List (Nat × Instr) := [(0, .iload_n 1), (1, .tableswitch 197 0 15 #[79, 86, 93, 100, 105, 112, 120, 128, 136, 144, 152, 160, 168, 176, 184, 189]), (80, .aload_n 0), (81, .getfield 19), (84, .iconst 2), (85, .iaload), (86, .ireturn), (87, .aload_n 0), (88, .getfield 19), (91, .iconst 3), (92, .iaload), (93, .ireturn), (94, .aload_n 0), (95, .getfield 19), (98, .iconst 4), (99, .iaload), (100, .ireturn), (101, .aload_n 0), (102, .invokevirtual 159), (105, .ireturn), (106, .aload_n 0), (107, .getfield 19), (110, .iconst 5), (111, .iaload), (112, .ireturn), (113, .aload_n 0), (114, .getfield 19), (117, .bipush 6), (119, .iaload), (120, .ireturn), (121, .aload_n 0), (122, .getfield 19), (125, .bipush 7), (127, .iaload), (128, .ireturn), (129, .aload_n 0), (130, .getfield 19), (133, .bipush 8), (135, .iaload), (136, .ireturn), (137, .aload_n 0), (138, .getfield 19), (141, .bipush 9), (143, .iaload), (144, .ireturn), (145, .aload_n 0), (146, .getfield 19), (149, .bipush 10), (151, .iaload), (152, .ireturn), (153, .aload_n 0), (154, .getfield 19), (157, .bipush 11), (159, .iaload), (160, .ireturn), (161, .aload_n 0), (162, .getfield 19), (165, .bipush 12), (167, .iaload), (168, .ireturn), (169, .aload_n 0), (170, .getfield 19), (173, .bipush 19), (175, .iaload), (176, .ireturn), (177, .aload_n 0), (178, .getfield 19), (181, .bipush 13), (183, .iaload), (184, .ireturn), (185, .aload_n 0), (186, .invokevirtual 91), (189, .ireturn), (190, .aload_n 0), (191, .getfield 19), (194, .bipush 17), (196, .iaload), (197, .ireturn), (198, .ldc_w 257), (201, .ireturn)]
/-- PackWatchModel.setting(I)I -/
def pw_t269 : List (Nat × Instr) := [(0, .iload_n 1), (1, .iconst 0), (2, .bipush 29), (4, .invokestatic 42), (7, .ifCond .eq 11), (10, .aload_n 0), (11, .iload_n 1), (12, .invokevirtual 34), (15, .goto 6), (18, .ldc_w 257), (21, .ireturn)]
/-- PackWatchModel.ofCell(II)I -/
def pw_t270 : List (Nat × Instr) := [(0, .iload_n 2), (1, .tableswitch 278 0 18 #[91, 98, 105, 112, 119, 125, 135, 141, 153, 160, 167, 186, 208, 230, 238, 246, 254, 262, 270]), (92, .aload_n 0), (93, .iload_n 1), (94, .iconst 0), (95, .invokevirtual 46), (98, .ireturn), (99, .aload_n 0), (100, .iload_n 1), (101, .iconst 1), (102, .invokevirtual 46), (105, .ireturn), (106, .aload_n 0), (107, .iload_n 1), (108, .iconst 2), (109, .invokevirtual 46), (112, .ireturn), (113, .aload_n 0), (114, .iload_n 1), (115, .iconst 3), (116, .invokevirtual 46), (119, .ireturn), (120, .aload_n 0), (121, .iload_n 1), (122, .invokevirtual 62), (125, .ireturn), (126, .aload_n 0), (127, .aload_n 0), (128, .iload_n 1), (129, .invokevirtual 62), (132, .invokevirtual 65), (135, .ireturn), (136, .aload_n 0), (137, .iload_n 1), (138, .invokevirtual 74), (141, .ireturn), (142, .aload_n 0), (143, .iload_n 1), (144, .aload_n 0), (145, .iload_n 1), (146, .iconst 4), (147, .invokevirtual 46), (150, .invokevirtual 55), (153, .ireturn), (154, .aload_n 0), (155, .iload_n 1), (156, .iconst 4), (157, .invokevirtual 46), (160, .ireturn), (161, .aload_n 0), (162, .iload_n 1), (163, .iconst 5), (164, .invokevirtual 46), (167, .ireturn), (168, .sipush 1000), (171, .aload_n 0), (172, .iload_n 1), (173, .iconst 0), (174, .invokevirtual 46), (177, .imul), (178, .aload_n 0), (179, .iload_n 1), (180, .bipush 6), (182, .invokevirtual 46), (185, .idiv), (186, .ireturn), (187, .aload_n 0), (188, .iload_n 1), (189, .bipush 15), (191, .invokevirtual 46), (194, .ifCond .ne 7), (197, .iconst (-1)), (198, .goto 10), (201, .aload_n 0), (202, .iload_n 1), (203, .bipush 7), (205, .invokevirtual 46), (208, .ireturn), (209, .aload_n 0), (210, .iload_n 1), (211, .bipush 15), (213, .invokevirtual 46), (216, .ifCond .ne 7), (219, .iconst (-1)), (220, .goto 10), (223, .aload_n 0), (224, .iload_n 1), (225, .bipush 8), (227, .invokevirtual 46), (230, .ireturn), (231, .aload_n 0), (232, .iload_n 1), (233, .bipush 9), (235, .invokevirtual 46), (238, .ireturn), (239, .aload_n 0), (240, .iload_n 1), (241, .bipush 10), (243, .invokevirtual 46), (246, .ireturn), (247, .aload_n 0), (248, .iload_n 1), (249, .bipush 11), (251, .invokevirtual 46), (254, .ireturn), (255, .aload_n 0), (256, .iload_n 1), (257, .bipush 12), (259, .invokevirtual 46), (262, .ireturn), (263, .aload_n 0), (264, .iload_n 1), (265, .bipush 13), (267, .invokevirtual 46), (270, .ireturn), (271, .aload_n 0), (272, .iload_n 1), (273, .bipush 60), (275, .invokevirtual 46), (278, .ireturn), (279, .ldc_w 257), (282, .ireturn)]
/-- PackWatchModel.of(II)I -/
def pw_t271 : List (Nat × Instr) := [(0, .aload_n 0), (1, .iload_n 1), (2, .invokevirtual 230), (5, .ifCond .eq 12), (8, .aload_n 0), (9, .iload_n 1), (10, .iload_n 2), (11, .invokevirtual 258), (14, .goto 6), (17, .ldc_w 257), (20, .ireturn)]
/-- PackWatchModel.ruleOf(II)I -/
def pw_t272 : List (Nat × Instr) := [(0, .iload_n 1), (1, .iconst (-1)), (2, .if_icmp .ne 11), (5, .aload_n 0), (6, .getfield 19), (9, .bipush 18), (11, .iaload), (12, .ireturn), (13, .iload_n 1), (14, .iconst 0), (15, .aload_n 0), (16, .getfield 19), (19, .bipush 18), (21, .iaload), (22, .iconst 1), (23, .isub), (24, .invokestatic 42), (27, .ifCond .eq 28), (30, .iload_n 2), (31, .iconst 0), (32, .iconst 4), (33, .invokestatic 42), (36, .ifCond .eq 19), (39, .aload_n 0), (40, .getfield 19), (43, .bipush 79), (45, .iconst 5), (46, .iload_n 1), (47, .imul), (48, .iadd), (49, .iload_n 2), (50, .iadd), (51, .iaload), (52, .goto 6), (55, .ldc_w 257), (58, .ireturn)]
/-- PackWatchModel.module(II)I -/
def pw_t273 : List (Nat × Instr) := [(0, .iload_n 1), (1, .iconst 0), (2, .iconst 3), (3, .invokestatic 42), (6, .ifCond .eq 24), (9, .iconst 4), (10, .iload_n 1), (11, .imul), (12, .aload_n 0), (13, .getfield 19), (16, .iconst 2), (17, .iaload), (18, .if_icmp .ge 12), (21, .iload_n 2), (22, .iconst 0), (23, .iconst 3), (24, .invokestatic 42), (27, .ifCond .ne 7), (30, .ldc_w 257), (33, .ireturn), (34, .iconst 0), (35, .istore_n 3), (36, .ldc 227), (38, .istore 4), (40, .iconst 0), (41, .istore 5), (43, .sipush 1000), (46, .istore 6), (48, .iconst 0), (49, .istore 7), (51, .iconst 4), (52, .iload_n 1), (53, .imul), (54, .istore 8), (56, .iload 8), (58, .iconst 4), (59, .iload_n 1), (60, .imul), (61, .iconst 4), (62, .iadd), (63, .if_icmp .ge 95), (66, .iload 8), (68, .aload_n 0), (69, .getfield 19), (72, .iconst 2), (73, .iaload), (74, .if_icmp .ge 84), (77, .iload_n 3), (78, .aload_n 0), (79, .iload 8), (81, .invokevirtual 74), (84, .iadd), (85, .istore_n 3), (86, .aload_n 0), (87, .iload 8), (89, .iconst 3), (90, .invokevirtual 46), (93, .iload 4), (95, .if_icmp .le 13), (98, .aload_n 0), (99, .iload 8), (101, .iconst 3), (102, .invokevirtual 46), (105, .goto 5), (108, .iload 4), (110, .istore 4), (112, .aload_n 0), (113, .iload 8), (115, .invokevirtual 62), (118, .iload 5), (120, .if_icmp .le 12), (123, .aload_n 0), (124, .iload 8), (126, .invokevirtual 62), (129, .goto 5), (132, .iload 5), (134, .istore 5), (136, .iload 6), (138, .aload_n 0), (139, .iload 8), (141, .invokevirtual 62), (144, .invokestatic 77), (147, .istore 6), (149, .iinc 7 1), (152, .iinc 8 1), (155, .goto (-99)), (158, .iload_n 2), (159, .ifCond .ne 7), (162, .iload_n 3), (163, .goto 28), (166, .iload_n 2), (167, .iconst 1), (168, .if_icmp .ne 8), (171, .iload 4), (173, .goto 18), (176, .iload_n 2), (177, .iconst 2), (178, .if_icmp .ne 11), (181, .iload 5), (183, .iload 6), (185, .isub), (186, .goto 5), (189, .iload 7), (191, .ireturn)]
/-- PackWatchModel.zoneOf(II)I -/
def pw_t274 : List (Nat × Instr) := [(0, .iload_n 1), (1, .iconst 0), (2, .aload_n 0), (3, .getfield 19), (6, .bipush 17), (8, .iaload), (9, .iconst 1), (10, .isub), (11, .invokestatic 42), (14, .ifCond .eq 28), (17, .iload_n 2), (18, .iconst 0), (19, .iconst 1), (20, .invokestatic 42), (23, .ifCond .eq 19), (26, .aload_n 0), (27, .getfield 19), (30, .bipush 67), (32, .iconst 2), (33, .iload_n 1), (34, .imul), (35, .iadd), (36, .iload_n 2), (37, .iadd), (38, .iaload), (39, .goto 6), (42, .ldc_w 257), (45, .ireturn)]
/-- PackWatchModel.cycles(II)I -/
def pw_t275 : List (Nat × Instr) := [(0, .aload_n 0), (1, .iload_n 1), (2, .invokevirtual 230), (5, .ifCond .eq 25), (8, .iload_n 2), (9, .iconst 0), (10, .bipush 10), (12, .invokestatic 42), (15, .ifCond .eq 15), (18, .aload_n 0), (19, .iload_n 1), (20, .bipush 49), (22, .iload_n 2), (23, .iadd), (24, .invokevirtual 46), (27, .goto 4), (30, .iconst (-1)), (31, .ireturn)]
/-- PackWatchModel.turn(II)I -/
def pw_t276 : List (Nat × Instr) := [(0, .aload_n 0), (1, .iload_n 1), (2, .invokevirtual 230), (5, .ifCond .eq 29), (8, .iload_n 2), (9, .iconst 0), (10, .aload_n 0), (11, .iload_n 1), (12, .bipush 10), (14, .invokevirtual 46), (17, .iconst 1), (18, .isub), (19, .invokestatic 42), (22, .ifCond .eq 12), (25, .aload_n 0), (26, .iload_n 1), (27, .iload_n 2), (28, .invokevirtual 175), (31, .goto 4), (34, .iconst (-1)), (35, .ireturn)]
/-- PackWatchModel.stuckAs(I)I -/
def pw_t277 : List (Nat × Instr) := [(0, .iload_n 1), (1, .iconst 0), (2, .iconst 2), (3, .invokestatic 42), (6, .ifCond .eq 15), (9, .aload_n 0), (10, .getfield 19), (13, .bipush 64), (15, .iload_n 1), (16, .iadd), (17, .iaload), (18, .goto 4), (21, .iconst (-1)), (22, .ireturn)]
/-- PackWatchModel.warnings()I -/
def pw_t278 : List (Nat × Instr) := [(0, .iconst 0), (1, .istore_n 1), (2, .aload_n 0), (3, .bipush 26), (5, .invokevirtual 34), (8, .istore_n 2), (9, .iconst 0), (10, .istore_n 3), (11, .iload_n 3), (12, .aload_n 0), (13, .getfield 19), (16, .iconst 2), (17, .iaload), (18, .if_icmp .ge 129), (21, .iload_n 1), (22, .aload_n 0), (23, .iload_n 3), (24, .invokevirtual 74), (27, .aload_n 0), (28, .iconst 0), (29, .invokevirtual 34), (32, .iload_n 2), (33, .isub), (34, .if_icmp .le 7), (37, .iconst 1), (38, .goto 4), (41, .iconst 0), (42, .ior), (43, .istore_n 1), (44, .iload_n 1), (45, .aload_n 0), (46, .iload_n 3), (47, .invokevirtual 74), (50, .aload_n 0), (51, .iconst 1), (52, .invokevirtual 34), (55, .iload_n 2), (56, .iadd), (57, .if_icmp .ge 7), (60, .iconst 2), (61, .goto 4), (64, .iconst 0), (65, .ior), (66, .istore_n 1), (67, .iload_n 1), (68, .aload_n 0), (69, .iload_n 3), (70, .iconst 3), (71, .invokevirtual 46), (74, .aload_n 0), (75, .iconst 2), (76, .invokevirtual 34), (79, .iload_n 2), (80, .isub), (81, .if_icmp .le 7), (84, .iconst 4), (85, .goto 4), (88, .iconst 0), (89, .ior), (90, .istore_n 1), (91, .iload_n 1), (92, .aload_n 0), (93, .iload_n 3), (94, .iconst 3), (95, .invokevirtual 46), (98, .aload_n 0), (99, .iconst 3), (100, .invokevirtual 34), (103, .iload_n 2), (104, .iadd), (105, .if_icmp .ge 8), (108, .bipush 8), (110, .goto 4), (113, .iconst 0), (114, .ior), (115, .istore_n 1), (116, .iload_n 1), (117, .aload_n 0), (118, .invokevirtual 165), (121, .aload_n 0), (122, .bipush 17), (124, .invokevirtual 34), (127, .iload_n 2), (128, .isub), (129, .if_icmp .le 9), (132, .sipush 128), (135, .goto 4), (138, .iconst 0), (139, .ior), (140, .istore_n 1), (141, .iinc 3 1), (144, .goto (-133)), (147, .iload_n 1), (148, .ireturn)]
/-- PackWatchModel.need(I)I -/
def pw_t279 : List (Nat × Instr) := [(0, .aload_n 0), (1, .iload_n 1), (2, .invokevirtual 230), (5, .ifCond .eq 12), (8, .aload_n 0), (9, .bipush 12), (11, .invokevirtual 34), (14, .ifCond .ne 5), (17, .iconst (-1)), (18, .ireturn), (19, .aload_n 0), (20, .iload_n 1), (21, .iconst 1), (22, .invokevirtual 46), (25, .aload_n 0), (26, .iload_n 1), (27, .aload_n 0), (28, .invokevirtual 80), (31, .invokevirtual 153), (34, .isub), (35, .istore_n 2), (36, .iload_n 2), (37, .ifCond .gt 7), (40, .iconst 0), (41, .goto 20), (44, .iload_n 2), (45, .aload_n 0), (46, .bipush 12), (48, .invokevirtual 34), (51, .iadd), (52, .iconst 1), (53, .isub), (54, .aload_n 0), (55, .bipush 12), (57, .invokevirtual 34), (60, .idiv), (61, .ireturn)]
/-- PackWatchModel.trace(II)I -/
def pw_t280 : List (Nat × Instr) := [(0, .iload_n 1), (1, .iconst (-1)), (2, .if_icmp .ne 11), (5, .aload_n 0), (6, .getfield 19), (9, .bipush 21), (11, .iaload), (12, .ireturn), (13, .iload_n 1), (14, .iconst 0), (15, .aload_n 0), (16, .getfield 19), (19, .bipush 21), (21, .iaload), (22, .iconst 1), (23, .isub), (24, .invokestatic 42), (27, .ifCond .eq 29), (30, .iload_n 2), (31, .iconst 0), (32, .iconst 2), (33, .invokestatic 42), (36, .ifCond .eq 20), (39, .aload_n 0), (40, .getfield 19), (43, .sipush 215), (46, .iconst 3), (47, .iload_n 1), (48, .imul), (49, .iadd), (50, .iload_n 2), (51, .iadd), (52, .iaload), (53, .goto 6), (56, .ldc_w 257), (59, .ireturn)]
/-- PackWatchModel.energy()I -/
def pw_t281 : List (Nat × Instr) := [(0, .lconst 0), (1, .lstore_n 1), (2, .iconst 0), (3, .istore_n 3), (4, .iload_n 3), (5, .aload_n 0), (6, .getfield 19), (9, .iconst 2), (10, .iaload), (11, .if_icmp .ge 30), (14, .lload_n 1), (15, .aload_n 0), (16, .iload_n 3), (17, .iconst 1), (18, .invokevirtual 46), (21, .i2l), (22, .aload_n 0), (23, .aload_n 0), (24, .iload_n 3), (25, .invokevirtual 62), (28, .invokevirtual 65), (31, .i2l), (32, .lmul), (33, .ladd), (34, .lstore_n 1), (35, .iinc 3 1), (38, .goto (-34)), (41, .lload_n 1), (42, .ldc2_w 261), (45, .ldiv), (46, .l2i), (47, .ireturn)]
/-- PackWatchModel.below(I)I -/
def pw_t282 : List (Nat × Instr) := [(0, .iload_n 1), (1, .iconst 0), (2, .sipush 1000), (5, .invokestatic 42), (8, .ifCond .ne 5), (11, .iconst (-1)), (12, .ireturn), (13, .iconst 0), (14, .istore_n 2), (15, .iconst 0), (16, .istore_n 3), (17, .iload_n 3), (18, .aload_n 0), (19, .getfield 19), (22, .iconst 2), (23, .iaload), (24, .if_icmp .ge 26), (27, .iload_n 2), (28, .aload_n 0), (29, .iload_n 3), (30, .invokevirtual 62), (33, .iload_n 1), (34, .if_icmp .ge 7), (37, .iconst 1), (38, .goto 4), (41, .iconst 0), (42, .iadd), (43, .istore_n 2), (44, .iinc 3 1), (47, .goto (-30)), (50, .iload_n 2), (51, .ireturn)]
/-- PackWatchModel.rest(I)I -/
def pw_t283 : List (Nat × Instr) := [(0, .iload_n 1), (1, .iconst 0), (2, .sipush 1000), (5, .invokestatic 42), (8, .ifCond .eq 11), (11, .aload_n 0), (12, .iload_n 1), (13, .invokevirtual 65), (16, .goto 4), (19, .iconst (-1)), (20, .ireturn)]
/-- PackWatchModel.partBy(I)I -/
def pw_t284 : List (Nat × Instr) := [(0, .aload_n 0), (1, .iload_n 1), (2, .invokevirtual 150), (5, .ireturn)]
/-- PackWatchModel.limit(I)I -/
def pw_t285 : List (Nat × Instr) := [(0, .iload_n 1), (1, .iconst 0), (2, .iconst 1), (3, .invokestatic 42), (6, .ifCond .eq 20), (9, .aload_n 0), (10, .getfield 19), (13, .iconst 2), (14, .iaload), (15, .ifCond .le 11), (18, .aload_n 0), (19, .iload_n 1), (20, .invokevirtual 108), (23, .goto 4), (26, .iconst (-1)), (27, .ireturn)]
/-- PackWatchModel.worst(I)I -/
def pw_t286 : List (Nat × Instr) := [(0, .iload_n 1), (1, .iconst 0), (2, .iconst 1), (3, .invokestatic 42), (6, .ifCond .eq 12), (9, .aload_n 0), (10, .getfield 19), (13, .iconst 2), (14, .iaload), (15, .ifCond .ne 5), (18, .iconst (-1)), (19, .ireturn), (20, .aload_n 0), (21, .iload_n 1), (22, .invokevirtual 115), (25, .ireturn)]
/-- PackWatchModel.spread()I -/
def pw_t287 : List (Nat × Instr) := [(0, .aload_n 0), (1, .getfield 19), (4, .iconst 2), (5, .iaload), (6, .ifCond .ne 7), (9, .iconst (-1)), (10, .goto 7), (13, .aload_n 0), (14, .invokevirtual 165), (17, .ireturn)]
/-- PackWatchModel.when(I)I -/
def pw_t288 : List (Nat × Instr) := [(0, .iload_n 1), (1, .iconst 0), (2, .bipush 10), (4, .invokestatic 42), (7, .ifCond .eq 15), (10, .aload_n 0), (11, .getfield 19), (14, .bipush 23), (16, .iload_n 1), (17, .iadd), (18, .iaload), (19, .goto 4), (22, .iconst (-1)), (23, .ireturn)]
/-- PackWatchModel.book(II)I -/
def pw_t289 : List (Nat × Instr) := [(0, .iload_n 1), (1, .iconst (-1)), (2, .if_icmp .ne 11), (5, .aload_n 0), (6, .getfield 19), (9, .bipush 20), (11, .iaload), (12, .ireturn), (13, .iload_n 1), (14, .iconst 0), (15, .aload_n 0), (16, .getfield 19), (19, .bipush 20), (21, .iaload), (22, .iconst 1), (23, .isub), (24, .invokestatic 42), (27, .ifCond .eq 29), (30, .iload_n 2), (31, .iconst 0), (32, .iconst 1), (33, .invokestatic 42), (36, .ifCond .eq 20), (39, .aload_n 0), (40, .getfield 19), (43, .sipush 167), (46, .iconst 2), (47, .iload_n 1), (48, .imul), (49, .iadd), (50, .iload_n 2), (51, .iadd), (52, .iaload), (53, .goto 5), (56, .bipush (-2)), (58, .ireturn)]
/-- PackWatchModel.driveOf(II)I -/
def pw_t290 : List (Nat × Instr) := [(0, .iload_n 1), (1, .iconst 0), (2, .aload_n 0), (3, .getfield 19), (6, .bipush 19), (8, .iaload), (9, .iconst 1), (10, .isub), (11, .invokestatic 42), (14, .ifCond .eq 28), (17, .iload_n 2), (18, .iconst 0), (19, .iconst 1), (20, .invokestatic 42), (23, .ifCond .eq 19), (26, .aload_n 0), (27, .getfield 19), (30, .bipush 119), (32, .iconst 2), (33, .iload_n 1), (34, .imul), (35, .iadd), (36, .iload_n 2), (37, .iadd), (38, .iaload), (39, .goto 6), (42, .ldc_w 257), (45, .ireturn)]
/-- PackWatchModel.room(I)I -/
def pw_t291 : List (Nat × Instr) := [(0, .iload_n 1), (1, .iconst 0), (2, .iconst 1), (3, .invokestatic 42), (6, .ifCond .eq 12), (9, .aload_n 0), (10, .getfield 19), (13, .iconst 2), (14, .iaload), (15, .ifCond .ne 5), (18, .iconst (-1)), (19, .ireturn), (20, .ldc 228), (22, .istore_n 2), (23, .iconst 0), (24, .istore_n 3), (25, .iload_n 3), (26, .aload_n 0), (27, .getfield 19), (30, .iconst 2), (31, .iaload), (32, .if_icmp .ge 39), (35, .iload_n 2), (36, .iload_n 1), (37, .ifCond .ne 18), (40, .aload_n 0), (41, .iload_n 3), (42, .invokevirtual 52), (45, .aload_n 0), (46, .iload_n 3), (47, .iconst 1), (48, .invokevirtual 46), (51, .isub), (52, .goto 9), (55, .aload_n 0), (56, .iload_n 3), (57, .iconst 1), (58, .invokevirtual 46), (61, .invokestatic 77), (64, .istore_n 2), (65, .iinc 3 1), (68, .goto (-43)), (71, .iload_n 2), (72, .ireturn)]
/-- PackWatchModel.fullness()J -/
def pw_t292 : List (Nat × Instr) := [(0, .lconst 0), (1, .lstore_n 1), (2, .lconst 0), (3, .lstore_n 3), (4, .iconst 0), (5, .istore 5), (7, .iload 5), (9, .aload_n 0), (10, .getfield 19), (13, .iconst 2), (14, .iaload), (15, .if_icmp .ge 30), (18, .lload_n 1), (19, .aload_n 0), (20, .iload 5), (22, .iconst 1), (23, .invokevirtual 46), (26, .i2l), (27, .ladd), (28, .lstore_n 1), (29, .lload_n 3), (30, .aload_n 0), (31, .iload 5), (33, .invokevirtual 52), (36, .i2l), (37, .ladd), (38, .lstore_n 3), (39, .iinc 5 1), (42, .goto (-35)), (45, .lload_n 3), (46, .lconst 0), (47, .lcmp), (48, .ifCond .ne 7), (51, .lconst 0), (52, .goto 11), (55, .lload_n 1), (56, .l2d), (57, .lload_n 3), (58, .l2d), (59, .ddiv), (60, .invokestatic 263), (63, .lreturn)]
/-- PackWatchModel.off()I -/
def pw_t293 : List (Nat × Instr) := [(0, .iconst 0), (1, .istore_n 1), (2, .iconst 0), (3, .istore_n 2), (4, .iload_n 2), (5, .aload_n 0), (6, .getfield 19), (9, .iconst 2), (10, .iaload), (11, .if_icmp .ge 32), (14, .iload_n 1), (15, .aload_n 0), (16, .iload_n 2), (17, .aload_n 0), (18, .iload_n 2), (19, .iconst 4), (20, .invokevirtual 46), (23, .invokevirtual 55), (26, .aload_n 0), (27, .iload_n 2), (28, .invokevirtual 62), (31, .isub), (32, .invokestatic 122), (35, .iadd), (36, .istore_n 1), (37, .iinc 2 1), (40, .goto (-36)), (43, .aload_n 0), (44, .getfield 19), (47, .iconst 2), (48, .iaload), (49, .ifCond .ne 7), (52, .iconst 0), (53, .goto 16), (56, .iload_n 1), (57, .i2f), (58, .aload_n 0), (59, .getfield 19), (62, .iconst 2), (63, .iaload), (64, .i2f), (65, .fdiv), (66, .invokestatic 269), (69, .ireturn)]
/-- PackWatchModel.since(III)I -/
def pw_t294 : List (Nat × Instr) := [(0, .iload_n 1), (1, .iconst 0), (2, .iconst 2), (3, .invokestatic 42), (6, .ifCond .ne 7), (9, .ldc_w 257), (12, .ireturn), (13, .sipush 339), (16, .bipush 35), (18, .iload_n 1), (19, .imul), (20, .iadd), (21, .istore 4), (23, .aload_n 0), (24, .getfield 19), (27, .iload 4), (29, .iaload), (30, .ifCond .eq 22), (33, .iload_n 2), (34, .iconst 0), (35, .aload_n 0), (36, .getfield 19), (39, .iload 4), (41, .iconst 2), (42, .iadd), (43, .iaload), (44, .iconst 1), (45, .isub), (46, .invokestatic 42), (49, .ifCond .ne 7), (52, .ldc_w 257), (55, .ireturn), (56, .iload_n 3), (57, .tableswitch 99 0 3 #[31, 43, 61, 81]), (88, .aload_n 0), (89, .getfield 19), (92, .iload 4), (94, .iconst 3), (95, .iadd), (96, .iload_n 2), (97, .iadd), (98, .iaload), (99, .ireturn), (100, .aload_n 0), (101, .iload_n 2), (102, .invokevirtual 62), (105, .aload_n 0), (106, .getfield 19), (109, .iload 4), (111, .iconst 3), (112, .iadd), (113, .iload_n 2), (114, .iadd), (115, .iaload), (116, .isub), (117, .ireturn), (118, .aload_n 0), (119, .iload_n 2), (120, .iconst 5), (121, .invokevirtual 46), (124, .aload_n 0), (125, .getfield 19), (128, .iload 4), (130, .bipush 19), (132, .iadd), (133, .iload_n 2), (134, .iadd), (135, .iaload), (136, .isub), (137, .ireturn), (138, .aload_n 0), (139, .getfield 19), (142, .bipush 7), (144, .iaload), (145, .aload_n 0), (146, .getfield 19), (149, .iload 4), (151, .iconst 1), (152, .iadd), (153, .iaload), (154, .isub), (155, .ireturn), (156, .ldc_w 257), (159, .ireturn)]
/-- PackWatchModel.rank(I)I -/
def pw_t295 : List (Nat × Instr) := [(0, .iconst 0), (1, .istore_n 2), (2, .iload_n 2), (3, .aload_n 0), (4, .getfield 19), (7, .iconst 2), (8, .iaload), (9, .if_icmp .ge 80), (12, .iconst 0), (13, .istore_n 3), (14, .iconst 0), (15, .istore 4), (17, .iload 4), (19, .aload_n 0), (20, .getfield 19), (23, .iconst 2), (24, .iaload), (25, .if_icmp .ge 51), (28, .iload_n 3), (29, .aload_n 0), (30, .iload 4), (32, .invokevirtual 62), (35, .aload_n 0), (36, .iload_n 2), (37, .invokevirtual 62), (40, .if_icmp .gt 23), (43, .aload_n 0), (44, .iload 4), (46, .invokevirtual 62), (49, .aload_n 0), (50, .iload_n 2), (51, .invokevirtual 62), (54, .if_icmp .ne 13), (57, .iload 4), (59, .iload_n 2), (60, .if_icmp .ge 7), (63, .iconst 1), (64, .goto 4), (67, .iconst 0), (68, .iadd), (69, .istore_n 3), (70, .iinc 4 1), (73, .goto (-56)), (76, .iload_n 3), (77, .iload_n 1), (78, .if_icmp .ne 5), (81, .iload_n 2), (82, .ireturn), (83, .iinc 2 1), (86, .goto (-84)), (89, .iconst (-1)), (90, .ireturn)]
/-- PackWatchModel.middle()I -/
def pw_t296 : List (Nat × Instr) := [(0, .aload_n 0), (1, .getfield 19), (4, .iconst 2), (5, .iaload), (6, .ifCond .ne 7), (9, .iconst (-1)), (10, .goto 19), (13, .aload_n 0), (14, .aload_n 0), (15, .aload_n 0), (16, .getfield 19), (19, .iconst 2), (20, .iaload), (21, .iconst 2), (22, .idiv), (23, .invokevirtual 275), (26, .invokevirtual 62), (29, .ireturn)]
/-- PackWatchModel.scatter()I -/
def pw_t297 : List (Nat × Instr) := [(0, .aload_n 0), (1, .getfield 19), (4, .iconst 2), (5, .iaload), (6, .ifCond .ne 5), (9, .iconst (-1)), (10, .ireturn), (11, .aload_n 0), (12, .invokevirtual 278), (15, .istore_n 1), (16, .iconst 0), (17, .istore_n 2), (18, .iconst 0), (19, .istore_n 3), (20, .iload_n 3), (21, .aload_n 0), (22, .getfield 19), (25, .iconst 2), (26, .iaload), (27, .if_icmp .ge 22), (30, .iload_n 2), (31, .aload_n 0), (32, .iload_n 3), (33, .invokevirtual 62), (36, .iload_n 1), (37, .isub), (38, .invokestatic 122), (41, .iadd), (42, .istore_n 2), (43, .iinc 3 1), (46, .goto (-26)), (49, .iload_n 2), (50, .ireturn)]
/-- PackWatchModel.culprit(I)I -/
def pw_t298 : List (Nat × Instr) := [(0, .iload_n 1), (1, .iconst 0), (2, .iconst 3), (3, .invokestatic 42), (6, .ifCond .eq 16), (9, .aload_n 0), (10, .getfield 19), (13, .sipush 311), (16, .iload_n 1), (17, .iadd), (18, .iaload), (19, .goto 4), (22, .iconst (-1)), (23, .ireturn)]
/-- PackWatchModel.goalOf()I -/
def pw_t299 : List (Nat × Instr) := [(0, .lconst 0), (1, .lstore_n 1), (2, .lconst 0), (3, .lstore_n 3), (4, .iconst 0), (5, .istore 5), (7, .iload 5), (9, .aload_n 0), (10, .getfield 19), (13, .iconst 2), (14, .iaload), (15, .if_icmp .ge 30), (18, .lload_n 1), (19, .aload_n 0), (20, .iload 5), (22, .iconst 1), (23, .invokevirtual 46), (26, .i2l), (27, .ladd), (28, .lstore_n 1), (29, .lload_n 3), (30, .aload_n 0), (31, .iload 5), (33, .invokevirtual 52), (36, .i2l), (37, .ladd), (38, .lstore_n 3), (39, .iinc 5 1), (42, .goto (-35)), (45, .ldc2_w 50), (48, .lload_n 1), (49, .lmul), (50, .lload_n 3), (51, .ldiv), (52, .l2i), (53, .ireturn)]
/-- PackWatchModel.goal()I -/
def pw_t300 : List (Nat × Instr) := [(0, .aload_n 0), (1, .getfield 19), (4, .iconst 2), (5, .iaload), (6, .ifCond .ne 7), (9, .iconst (-1)), (10, .goto 7), (13, .aload_n 0), (14, .invokevirtual 281), (17, .ireturn)]
/-- PackWatchModel.flow(I)I -/
def pw_t301 : List (Nat × Instr) := [(0, .iload_n 1), (1, .iconst 0), (2, .aload_n 0), (3, .getfield 19), (6, .iconst 2), (7, .iaload), (8, .iconst 2), (9, .isub), (10, .invokestatic 42), (13, .ifCond .ne 7), (16, .ldc_w 257), (19, .ireturn), (20, .iconst 0), (21, .istore_n 2), (22, .iconst 0), (23, .istore_n 3), (24, .iload_n 3), (25, .iload_n 1), (26, .if_icmp .gt 28), (29, .iload_n 2), (30, .aload_n 0), (31, .iload_n 3), (32, .iconst 1), (33, .invokevirtual 46), (36, .aload_n 0), (37, .iload_n 3), (38, .aload_n 0), (39, .invokevirtual 281), (42, .invokevirtual 153), (45, .isub), (46, .iadd), (47, .istore_n 2), (48, .iinc 3 1), (51, .goto (-27)), (54, .iload_n 2), (55, .ireturn)]
/-- PackWatchModel.differ(I)I -/
def pw_t302 : List (Nat × Instr) := [(0, .iconst 0), (1, .istore_n 2), (2, .iconst 0), (3, .istore_n 3), (4, .iload_n 3), (5, .aload_n 0), (6, .getfield 19), (9, .iconst 2), (10, .iaload), (11, .if_icmp .ge 36), (14, .iload_n 2), (15, .iload_n 1), (16, .iload_n 3), (17, .invokestatic 87), (20, .ifCond .eq 12), (23, .aload_n 0), (24, .iload_n 3), (25, .iconst 1), (26, .invokevirtual 46), (29, .goto 10), (32, .aload_n 0), (33, .iload_n 3), (34, .iconst 1), (35, .invokevirtual 46), (38, .ineg), (39, .iadd), (40, .istore_n 2), (41, .iinc 3 1), (44, .goto (-40)), (47, .iload_n 2), (48, .invokestatic 122), (51, .ireturn)]
/-- PackWatchModel.many(I)I -/
def pw_t303 : List (Nat × Instr) := [(0, .iconst 0), (1, .istore_n 1), (2, .iload_n 0), (3, .istore_n 2), (4, .iload_n 2), (5, .ifCond .eq 15), (8, .iinc 1 1), (11, .iload_n 2), (12, .iload_n 2), (13, .iconst 1), (14, .isub), (15, .iand), (16, .istore_n 2), (17, .goto (-13)), (20, .iload_n 1), (21, .ireturn)]
/-- PackWatchModel.halves(I)I -/
def pw_t304 : List (Nat × Instr) := [(0, .iload_n 1), (1, .iconst 0), (2, .iconst 1), (3, .invokestatic 42), (6, .ifCond .eq 30), (9, .aload_n 0), (10, .getfield 19), (13, .iconst 2), (14, .iaload), (15, .iconst 2), (16, .bipush 8), (18, .invokestatic 42), (21, .ifCond .eq 15), (24, .aload_n 0), (25, .getfield 19), (28, .iconst 2), (29, .iaload), (30, .iconst 2), (31, .irem), (32, .iconst 1), (33, .if_icmp .ne 5), (36, .iconst (-1)), (37, .ireturn), (38, .iconst (-1)), (39, .istore_n 2), (40, .iconst 1), (41, .istore_n 3), (42, .iload_n 3), (43, .iconst 1), (44, .aload_n 0), (45, .getfield 19), (48, .iconst 2), (49, .iaload), (50, .ishl), (51, .if_icmp .ge 47), (54, .iconst 2), (55, .iload_n 3), (56, .invokestatic 284), (59, .imul), (60, .aload_n 0), (61, .getfield 19), (64, .iconst 2), (65, .iaload), (66, .if_icmp .eq 6), (69, .goto 23), (72, .iload_n 2), (73, .iconst (-1)), (74, .if_icmp .eq 16), (77, .aload_n 0), (78, .iload_n 3), (79, .invokevirtual 287), (82, .aload_n 0), (83, .iload_n 2), (84, .invokevirtual 287), (87, .if_icmp .ge 5), (90, .iload_n 3), (91, .istore_n 2), (92, .iinc 3 2), (95, .goto (-53)), (98, .iload_n 1), (99, .ifCond .ne 7), (102, .iload_n 2), (103, .goto 8), (106, .aload_n 0), (107, .iload_n 2), (108, .invokevirtual 287), (111, .ireturn)]
/-- PackWatchModel.priceAt(IIII)I -/
def pw_t305 : List (Nat × Instr) := [(0, .iload_n 0), (1, .bipush 25), (3, .imul), (4, .iload_n 1), (5, .iadd), (6, .bipush 13), (8, .imul), (9, .iload_n 2), (10, .iadd), (11, .iconst 2), (12, .imul), (13, .iload_n 3), (14, .iadd), (15, .ireturn)]
/-- PackWatchModel.takenBy(IIII)I -/
def pw_t306 : List (Nat × Instr) := [(0, .iload 4), (2, .iconst 1), (3, .if_icmp .ne 7), (6, .iload_n 3), (7, .goto 6), (10, .iload_n 3), (11, .iconst 1), (12, .isub), (13, .istore 5), (15, .iload_n 2), (16, .ifCond .eq 8), (19, .iload 5), (21, .ifCond .ge 5), (24, .iconst (-1)), (25, .ireturn), (26, .aload_n 0), (27, .getfield 31), (30, .iload_n 1), (31, .iconst 1), (32, .isub), (33, .iload_n 2), (34, .iconst 1), (35, .isub), (36, .iload 5), (38, .iconst 1), (39, .invokestatic 290), (42, .iaload), (43, .istore 6), (45, .iload 6), (47, .iconst (-1)), (48, .if_icmp .ne 7), (51, .iconst (-1)), (52, .goto 18), (55, .iload 6), (57, .aload_n 0), (58, .getfield 19), (61, .sipush 315), (64, .iload_n 1), (65, .iadd), (66, .iconst 1), (67, .isub), (68, .iaload), (69, .iadd), (70, .ireturn)]
/-- PackWatchModel.layPrices()V -/
def pw_t307 : List (Nat × Instr) := [(0, .iconst 0), (1, .istore_n 1), (2, .iload_n 1), (3, .bipush 24), (5, .if_icmp .gt 149), (8, .iconst 0), (9, .istore_n 2), (10, .iload_n 2), (11, .bipush 25), (13, .if_icmp .ge 135), (16, .iconst 0), (17, .istore_n 3), (18, .iload_n 3), (19, .bipush 26), (21, .if_icmp .ge 121), (24, .iload_n 1), (25, .iload_n 2), (26, .iload_n 3), (27, .iconst 2), (28, .idiv), (29, .iload_n 3), (30, .iconst 2), (31, .irem), (32, .invokestatic 290), (35, .istore 4), (37, .aload_n 0), (38, .getfield 31), (41, .iload 4), (43, .iload_n 1), (44, .ifCond .ne 15), (47, .iload_n 2), (48, .ifCond .ne 7), (51, .iconst 0), (52, .goto 23), (55, .iconst (-1)), (56, .goto 19), (59, .aload_n 0), (60, .getfield 31), (63, .iload_n 1), (64, .iconst 1), (65, .isub), (66, .iload_n 2), (67, .iload_n 3), (68, .iconst 2), (69, .idiv), (70, .iconst 0), (71, .invokestatic 290), (74, .iaload), (75, .iastore), (76, .iload_n 1), (77, .ifCond .ne 7), (80, .iconst (-1)), (81, .goto 15), (84, .aload_n 0), (85, .iload_n 1), (86, .iload_n 2), (87, .iload_n 3), (88, .iconst 2), (89, .idiv), (90, .iload_n 3), (91, .iconst 2), (92, .irem), (93, .invokevirtual 294), (96, .istore 5), (98, .iload 5), (100, .iconst (-1)), (101, .if_icmp .eq 35), (104, .aload_n 0), (105, .getfield 31), (108, .iload 4), (110, .iaload), (111, .iconst (-1)), (112, .if_icmp .eq 15), (115, .iload 5), (117, .aload_n 0), (118, .getfield 31), (121, .iload 4), (123, .iaload), (124, .if_icmp .ge 12), (127, .aload_n 0), (128, .getfield 31), (131, .iload 4), (133, .iload 5), (135, .iastore), (136, .iinc 3 1), (139, .goto (-121)), (142, .iinc 2 1), (145, .goto (-135)), (148, .iinc 1 1), (151, .goto (-149)), (154, .return_)]
/-- PackWatchModel.cheapest(III)I -/
def pw_t308 : List (Nat × Instr) := [(0, .iload_n 1), (1, .iconst 0), (2, .bipush 24), (4, .invokestatic 42), (7, .ifCond .eq 22), (10, .iload_n 2), (11, .iconst 1), (12, .bipush 12), (14, .invokestatic 42), (17, .ifCond .eq 12), (20, .iload_n 3), (21, .iconst 0), (22, .iconst 1), (23, .invokestatic 42), (26, .ifCond .ne 5), (29, .iconst (-1)), (30, .ireturn), (31, .aload_n 0), (32, .invokevirtual 297), (35, .iload_n 3), (36, .ifCond .ne 17), (39, .aload_n 0), (40, .getfield 31), (43, .bipush 24), (45, .iload_n 1), (46, .iload_n 2), (47, .iconst 0), (48, .invokestatic 290), (51, .iaload), (52, .ireturn), (53, .iconst 0), (54, .istore 4), (56, .iload_n 1), (57, .istore 5), (59, .iload_n 2), (60, .istore 6), (62, .iconst 0), (63, .istore 7), (65, .bipush 24), (67, .istore 8), (69, .iload 8), (71, .ifCond .le 92), (74, .aload_n 0), (75, .getfield 31), (78, .iload 8), (80, .iconst 1), (81, .isub), (82, .iload 5), (84, .iload 6), (86, .iconst 0), (87, .invokestatic 290), (90, .iaload), (91, .aload_n 0), (92, .getfield 31), (95, .iload 8), (97, .iload 5), (99, .iload 6), (101, .iload 7), (103, .invokestatic 290), (106, .iaload), (107, .if_icmp .ne 7), (110, .iconst 1), (111, .goto 4), (114, .iconst 0), (115, .istore 9), (117, .iload 9), (119, .ifCond .ne 26), (122, .iload 4), (124, .iconst 1), (125, .iload 8), (127, .iconst 1), (128, .isub), (129, .ishl), (130, .ior), (131, .istore 4), (133, .iinc 5 (-1)), (136, .iload 6), (138, .iconst 1), (139, .iload 7), (141, .isub), (142, .isub), (143, .istore 6), (145, .iload 9), (147, .ifCond .eq 7), (150, .iconst 0), (151, .goto 4), (154, .iconst 1), (155, .istore 7), (157, .iinc 8 (-1)), (160, .goto (-91)), (163, .iload 4), (165, .ireturn)]
/-- PackWatchModel.hours(II)I -/
def pw_t309 : List (Nat × Instr) := [(0, .iload_n 1), (1, .iconst 0), (2, .sipush 1000), (5, .invokestatic 42), (8, .ifCond .eq 13), (11, .iload_n 2), (12, .iconst 1), (13, .ldc 7), (15, .invokestatic 42), (18, .ifCond .ne 5), (21, .iconst (-1)), (22, .ireturn), (23, .iconst 0), (24, .istore_n 3), (25, .iconst 0), (26, .istore 4), (28, .iload 4), (30, .aload_n 0), (31, .getfield 19), (34, .iconst 2), (35, .iaload), (36, .if_icmp .ge 48), (39, .aload_n 0), (40, .iload 4), (42, .iload_n 1), (43, .invokevirtual 153), (46, .aload_n 0), (47, .iload 4), (49, .iconst 1), (50, .invokevirtual 46), (53, .isub), (54, .iload_n 3), (55, .if_icmp .le 21), (58, .aload_n 0), (59, .iload 4), (61, .iload_n 1), (62, .invokevirtual 153), (65, .aload_n 0), (66, .iload 4), (68, .iconst 1), (69, .invokevirtual 46), (72, .isub), (73, .goto 4), (76, .iload_n 3), (77, .istore_n 3), (78, .iinc 4 1), (81, .goto (-53)), (84, .sipush 3600), (87, .iload_n 2), (88, .imul), (89, .istore 4), (91, .iload_n 3), (92, .iload 4), (94, .idiv), (95, .iload_n 3), (96, .iload 4), (98, .irem), (99, .ifCond .le 7), (102, .iconst 1), (103, .goto 4), (106, .iconst 0), (107, .iadd), (108, .ireturn)]
/-- PackWatchModel.foretold(II)I -/
def pw_t310 : List (Nat × Instr) := [(0, .aload_n 0), (1, .iload_n 1), (2, .sipush 300), (5, .invokevirtual 239), (8, .ifCond .ne 7), (11, .ldc_w 257), (14, .ireturn), (15, .aload_n 0), (16, .invokevirtual 300), (19, .aload_n 0), (20, .iload_n 1), (21, .invokevirtual 242), (24, .istore_n 3), (25, .aload_n 0), (26, .iload_n 2), (27, .invokevirtual 188), (30, .istore 4), (32, .aload_n 0), (33, .invokevirtual 303), (36, .iload 4), (38, .ireturn)]
/-- PackWatchModel.foretoldOf(III)I -/
def pw_t311 : List (Nat × Instr) := [(0, .aload_n 0), (1, .iload_n 1), (2, .sipush 300), (5, .invokevirtual 239), (8, .ifCond .ne 7), (11, .ldc_w 257), (14, .ireturn), (15, .aload_n 0), (16, .invokevirtual 300), (19, .aload_n 0), (20, .iload_n 1), (21, .invokevirtual 242), (24, .istore 4), (26, .aload_n 0), (27, .iload_n 2), (28, .iload_n 3), (29, .invokevirtual 306), (32, .istore 5), (34, .aload_n 0), (35, .invokevirtual 303), (38, .iload 5), (40, .ireturn)]
/-- PackWatchModel.driven(I)I -/
def pw_t312 : List (Nat × Instr) := [(0, .aload_n 0), (1, .invokevirtual 300), (4, .aload_n 0), (5, .invokevirtual 254), (8, .istore_n 2), (9, .aload_n 0), (10, .iload_n 1), (11, .invokevirtual 188), (14, .istore_n 3), (15, .aload_n 0), (16, .invokevirtual 303), (19, .iload_n 3), (20, .ireturn)]
/-- PackWatchModel.bare()I -/
def pw_t313 : List (Nat × Instr) := [(0, .aload_n 0), (1, .invokevirtual 300), (4, .iconst 0), (5, .istore_n 1), (6, .iconst 0), (7, .istore_n 2), (8, .iconst 0), (9, .istore_n 3), (10, .iload_n 3), (11, .ifCond .ne 49), (14, .iload_n 1), (15, .sipush 2000), (18, .if_icmp .ge 42), (21, .aload_n 0), (22, .getfield 19), (25, .bipush 7), (27, .iaload), (28, .sipush 9999), (31, .if_icmp .ge 29), (34, .iload_n 2), (35, .aload_n 0), (36, .invokevirtual 236), (39, .iadd), (40, .istore_n 2), (41, .iinc 1 1), (44, .aload_n 0), (45, .getfield 141), (48, .ifCond .ne 7), (51, .iconst 1), (52, .goto 4), (55, .iconst 0), (56, .istore_n 3), (57, .goto (-47)), (60, .aload_n 0), (61, .invokevirtual 303), (64, .iload_n 3), (65, .ifCond .eq 7), (68, .iload_n 1), (69, .goto 4), (72, .iconst (-1)), (73, .ireturn)]
/-- PackWatchModel.harm(I)I -/
def pw_t314 : List (Nat × Instr) := [(0, .aload_n 0), (1, .iload_n 1), (2, .sipush 300), (5, .invokevirtual 239), (8, .ifCond .ne 5), (11, .iconst (-1)), (12, .ireturn), (13, .aload_n 0), (14, .invokevirtual 300), (17, .aload_n 0), (18, .getfield 19), (21, .bipush 6), (23, .iaload), (24, .istore_n 2), (25, .iconst 0), (26, .istore_n 3), (27, .iconst 0), (28, .istore 4), (30, .iload 4), (32, .iload_n 1), (33, .if_icmp .ge 18), (36, .iload_n 3), (37, .ifCond .ne 14), (40, .aload_n 0), (41, .invokevirtual 236), (44, .istore_n 3), (45, .iinc 4 1), (48, .goto (-18)), (51, .aload_n 0), (52, .getfield 19), (55, .bipush 6), (57, .iaload), (58, .iload_n 2), (59, .iconst (-1)), (60, .ixor), (61, .iand), (62, .istore 4), (64, .aload_n 0), (65, .invokevirtual 303), (68, .iconst 0), (69, .istore 5), (71, .iload 5), (73, .bipush 11), (75, .if_icmp .ge 19), (78, .iload 4), (80, .iload 5), (82, .invokestatic 87), (85, .ifCond .ne 9), (88, .iinc 5 1), (91, .goto (-20)), (94, .iload 5), (96, .bipush 11), (98, .if_icmp .ge 8), (101, .iload 5), (103, .goto 4), (106, .iconst (-1)), (107, .ireturn)]
/-- PackWatchModel.goesBy(II)Z -/
def pw_t315 : List (Nat × Instr) := [(0, .aload_n 0), (1, .invokevirtual 300), (4, .aload_n 0), (5, .iconst 1), (6, .putfield 206), (9, .aload_n 0), (10, .getfield 19), (13, .bipush 54), (15, .iload_n 1), (16, .iastore), (17, .iconst 1), (18, .istore_n 3), (19, .iconst 0), (20, .istore 4), (22, .iload 4), (24, .iload_n 2), (25, .if_icmp .ge 36), (28, .iload_n 3), (29, .ifCond .eq 32), (32, .aload_n 0), (33, .invokevirtual 236), (36, .ifCond .ne 17), (39, .aload_n 0), (40, .getfield 19), (43, .iconst 5), (44, .iaload), (45, .iload_n 1), (46, .if_icmp .ne 7), (49, .iconst 1), (50, .goto 4), (53, .iconst 0), (54, .istore_n 3), (55, .iinc 4 1), (58, .goto (-36)), (61, .aload_n 0), (62, .iconst 0), (63, .putfield 206), (66, .aload_n 0), (67, .invokevirtual 303), (70, .iload_n 3), (71, .ireturn)]
/-- PackWatchModel.power(II)I -/
def pw_t316 : List (Nat × Instr) := [(0, .iload_n 1), (1, .iconst 0), (2, .iconst 1), (3, .invokestatic 42), (6, .ifCond .eq 23), (9, .aload_n 0), (10, .iload_n 2), (11, .bipush 60), (13, .invokevirtual 239), (16, .ifCond .eq 13), (19, .aload_n 0), (20, .getfield 19), (23, .iconst 3), (24, .iaload), (25, .iconst 2), (26, .if_icmp .eq 5), (29, .iconst (-1)), (30, .ireturn), (31, .aload_n 0), (32, .iconst 4), (33, .invokevirtual 34), (36, .bipush 100), (38, .idiv), (39, .bipush 100), (41, .imul), (42, .istore_n 3), (43, .iload_n 3), (44, .ifCond .le 38), (47, .aload_n 0), (48, .iload_n 1), (49, .ifCond .ne 7), (52, .iload_n 3), (53, .goto 5), (56, .iload_n 3), (57, .ineg), (58, .iload_n 2), (59, .invokevirtual 309), (62, .ifCond .eq 14), (65, .iload_n 1), (66, .ifCond .ne 7), (69, .iload_n 3), (70, .goto 5), (73, .iload_n 3), (74, .ineg), (75, .ireturn), (76, .iinc 3 (-100)), (79, .goto (-36)), (82, .iconst 0), (83, .ireturn)]
/-- PackWatchModel.yields(I)I -/
def pw_t317 : List (Nat × Instr) := [(0, .iload_n 1), (1, .iconst 1), (2, .ldc 7), (4, .invokestatic 42), (7, .ifCond .ne 5), (10, .iconst (-1)), (11, .ireturn), (12, .aload_n 0), (13, .invokevirtual 300), (16, .aload_n 0), (17, .iconst 1), (18, .putfield 206), (21, .aload_n 0), (22, .getfield 19), (25, .bipush 54), (27, .iload_n 1), (28, .ineg), (29, .iastore), (30, .iconst 0), (31, .istore_n 2), (32, .iconst 0), (33, .istore_n 3), (34, .iconst 0), (35, .istore 4), (37, .iload 4), (39, .ifCond .ne 54), (42, .iload_n 2), (43, .sipush 2000), (46, .if_icmp .ge 47), (49, .aload_n 0), (50, .getfield 19), (53, .bipush 7), (55, .iaload), (56, .sipush 9999), (59, .if_icmp .ge 34), (62, .iload_n 3), (63, .aload_n 0), (64, .invokevirtual 236), (67, .iadd), (68, .istore_n 3), (69, .iinc 2 1), (72, .aload_n 0), (73, .getfield 19), (76, .iconst 5), (77, .iaload), (78, .iload_n 1), (79, .ineg), (80, .if_icmp .eq 7), (83, .iconst 1), (84, .goto 4), (87, .iconst 0), (88, .istore 4), (90, .goto (-53)), (93, .aload_n 0), (94, .iconst 0), (95, .putfield 206), (98, .aload_n 0), (99, .invokevirtual 303), (102, .iload 4), (104, .ifCond .eq 7), (107, .iload_n 2), (108, .goto 4), (111, .iconst (-1)), (112, .ireturn)]
/-- PackWatchModel.spreadBy(III)I -/
def pw_t318 : List (Nat × Instr) := [(0, .aload_n 0), (1, .invokevirtual 300), (4, .aload_n 0), (5, .getfield 19), (8, .bipush 34), (10, .iload_n 1), (11, .iadd), (12, .iload_n 2), (13, .iastore), (14, .aload_n 0), (15, .iload_n 3), (16, .invokevirtual 242), (19, .istore 4), (21, .aload_n 0), (22, .invokevirtual 165), (25, .istore 5), (27, .aload_n 0), (28, .invokevirtual 303), (31, .iload 5), (33, .ireturn)]
/-- PackWatchModel.bestBand(II)I -/
def pw_t319 : List (Nat × Instr) := [(0, .aload_n 0), (1, .iload_n 1), (2, .bipush 60), (4, .invokevirtual 239), (7, .ifCond .eq 23), (10, .iload_n 2), (11, .iconst 0), (12, .sipush 1000), (15, .invokestatic 42), (18, .ifCond .eq 12), (21, .aload_n 0), (22, .getfield 19), (25, .iconst 2), (26, .iaload), (27, .ifCond .ne 5), (30, .iconst (-1)), (31, .ireturn), (32, .bipush 99), (34, .istore_n 3), (35, .iload_n 3), (36, .ifCond .lt 23), (39, .aload_n 0), (40, .bipush 14), (42, .iload_n 3), (43, .iload_n 1), (44, .invokevirtual 312), (47, .iload_n 2), (48, .if_icmp .gt 5), (51, .iload_n 3), (52, .ireturn), (53, .iinc 3 (-1)), (56, .goto (-21)), (59, .iconst (-1)), (60, .ireturn)]
/-- PackWatchModel.isAtEnd(I)Z -/
def pw_t320 : List (Nat × Instr) := [(0, .iconst 0), (1, .istore_n 2), (2, .iload_n 2), (3, .aload_n 0), (4, .getfield 19), (7, .iconst 2), (8, .iaload), (9, .if_icmp .ge 33), (12, .aload_n 0), (13, .iload_n 2), (14, .iconst 1), (15, .invokevirtual 46), (18, .iload_n 1), (19, .ifCond .ne 11), (22, .aload_n 0), (23, .iload_n 2), (24, .invokevirtual 52), (27, .goto 4), (30, .iconst 0), (31, .if_icmp .ne 5), (34, .iconst 1), (35, .ireturn), (36, .iinc 2 1), (39, .goto (-37)), (42, .iconst 0), (43, .ireturn)]
/-- PackWatchModel.eta(I)I -/
def pw_t321 : List (Nat × Instr) := [(0, .iload_n 1), (1, .iconst 0), (2, .iconst 1), (3, .invokestatic 42), (6, .ifCond .ne 5), (9, .iconst (-1)), (10, .ireturn), (11, .aload_n 0), (12, .invokevirtual 300), (15, .iconst 0), (16, .istore_n 2), (17, .iconst 0), (18, .istore_n 3), (19, .aload_n 0), (20, .iload_n 1), (21, .invokevirtual 315), (24, .istore 4), (26, .iload 4), (28, .ifCond .ne 43), (31, .iload_n 2), (32, .sipush 2000), (35, .if_icmp .ge 36), (38, .aload_n 0), (39, .getfield 19), (42, .bipush 7), (44, .iaload), (45, .sipush 9999), (48, .if_icmp .ge 23), (51, .iload_n 3), (52, .aload_n 0), (53, .invokevirtual 236), (56, .iadd), (57, .istore_n 3), (58, .iinc 2 1), (61, .aload_n 0), (62, .iload_n 1), (63, .invokevirtual 315), (66, .istore 4), (68, .goto (-42)), (71, .aload_n 0), (72, .invokevirtual 303), (75, .iload 4), (77, .ifCond .eq 7), (80, .iload_n 2), (81, .goto 4), (84, .iconst (-1)), (85, .ireturn)]
/-- PackWatchModel.bestMode(I)I -/
def pw_t322 : List (Nat × Instr) := [(0, .aload_n 0), (1, .iload_n 1), (2, .sipush 300), (5, .invokevirtual 239), (8, .ifCond .eq 12), (11, .aload_n 0), (12, .getfield 19), (15, .iconst 2), (16, .iaload), (17, .ifCond .ne 5), (20, .iconst (-1)), (21, .ireturn), (22, .iconst 0), (23, .istore_n 2), (24, .aload_n 0), (25, .bipush 11), (27, .iconst 0), (28, .iload_n 1), (29, .invokevirtual 312), (32, .istore_n 3), (33, .iconst 1), (34, .istore 4), (36, .iload 4), (38, .iconst 3), (39, .if_icmp .ge 35), (42, .aload_n 0), (43, .bipush 11), (45, .iload 4), (47, .iload_n 1), (48, .invokevirtual 312), (51, .istore 5), (53, .iload 5), (55, .iload_n 3), (56, .if_icmp .lt 6), (59, .goto 9), (62, .iload 4), (64, .istore_n 2), (65, .iload 5), (67, .istore_n 3), (68, .iinc 4 1), (71, .goto (-35)), (74, .iload_n 2), (75, .ireturn)]
/-- PackWatchModel.image()I -/
def pw_t323 : List (Nat × Instr) := [(0, .aload_n 0), (1, .getfield 19), (4, .aload_n 0), (5, .getfield 22), (8, .invokestatic 38), (11, .aload_n 0), (12, .getfield 19), (15, .bipush 7), (17, .iaload), (18, .ireturn)]
/-- PackWatchModel.back()I -/
def pw_t324 : List (Nat × Instr) := [(0, .aload_n 0), (1, .getfield 22), (4, .aload_n 0), (5, .getfield 19), (8, .invokestatic 38), (11, .aload_n 0), (12, .getfield 19), (15, .bipush 7), (17, .iaload), (18, .ireturn)]
/-- PackWatchModel.steps()I -/
def pw_t325 : List (Nat × Instr) := [(0, .aload_n 0), (1, .getfield 19), (4, .iconst 0), (5, .iaload), (6, .ireturn)]
/-- java/lang/Double.isNaN(D)Z -/
def pw_t326 : List (Nat × Instr) := [(0, .dload_n 0), (1, .dload_n 0), (2, .dcmp .l), (3, .ifCond .eq 7), (6, .iconst 1), (7, .goto 4), (10, .iconst 0), (11, .ireturn)]
/-- java/lang/Double.doubleToLongBits(D)J -/
def pw_t327 : List (Nat × Instr) := [(0, .dload_n 0), (1, .invokestatic 122), (4, .ifCond .ne 8), (7, .dload_n 0), (8, .invokestatic 134), (11, .lreturn), (12, .ldc2_w 137), (15, .lreturn)]
/-- java/lang/Float.isNaN(F)Z -/
def pw_t328 : List (Nat × Instr) := [(0, .fload_n 0), (1, .fload_n 0), (2, .fcmp .l), (3, .ifCond .eq 7), (6, .iconst 1), (7, .goto 4), (10, .iconst 0), (11, .ireturn)]
/-- java/lang/Float.floatToIntBits(F)I -/
def pw_t329 : List (Nat × Instr) := [(0, .fload_n 0), (1, .invokestatic 59), (4, .ifCond .ne 8), (7, .fload_n 0), (8, .invokestatic 74), (11, .ireturn), (12, .ldc 77), (14, .ireturn)]
/-- java/lang/Integer.numberOfTrailingZeros(I)I -/
def pw_t330 : List (Nat × Instr) := [(0, .iload_n 0), (1, .iconst (-1)), (2, .ixor), (3, .iload_n 0), (4, .iconst 1), (5, .isub), (6, .iand), (7, .istore_n 0), (8, .iload_n 0), (9, .ifCond .gt 8), (12, .iload_n 0), (13, .bipush 32), (15, .iand), (16, .ireturn), (17, .iconst 1), (18, .istore_n 1), (19, .iload_n 0), (20, .ldc_w 264), (23, .if_icmp .le 11), (26, .iinc 1 16), (29, .iload_n 0), (30, .bipush 16), (32, .iushr), (33, .istore_n 0), (34, .iload_n 0), (35, .sipush 256), (38, .if_icmp .le 11), (41, .iinc 1 8), (44, .iload_n 0), (45, .bipush 8), (47, .iushr), (48, .istore_n 0), (49, .iload_n 0), (50, .bipush 16), (52, .if_icmp .le 10), (55, .iinc 1 4), (58, .iload_n 0), (59, .iconst 4), (60, .iushr), (61, .istore_n 0), (62, .iload_n 0), (63, .iconst 4), (64, .if_icmp .le 10), (67, .iinc 1 2), (70, .iload_n 0), (71, .iconst 2), (72, .iushr), (73, .istore_n 0), (74, .iload_n 1), (75, .iload_n 0), (76, .iconst 1), (77, .iushr), (78, .iadd), (79, .ireturn)]
/-- java/lang/Integer.bitCount(I)I -/
def pw_t331 : List (Nat × Instr) := [(0, .iload_n 0), (1, .iload_n 0), (2, .iconst 1), (3, .iushr), (4, .ldc_w 265), (7, .iand), (8, .isub), (9, .istore_n 0), (10, .iload_n 0), (11, .ldc_w 266), (14, .iand), (15, .iload_n 0), (16, .iconst 2), (17, .iushr), (18, .ldc_w 266), (21, .iand), (22, .iadd), (23, .istore_n 0), (24, .iload_n 0), (25, .iload_n 0), (26, .iconst 4), (27, .iushr), (28, .iadd), (29, .ldc_w 267), (32, .iand), (33, .istore_n 0), (34, .iload_n 0), (35, .iload_n 0), (36, .bipush 8), (38, .iushr), (39, .iadd), (40, .istore_n 0), (41, .iload_n 0), (42, .iload_n 0), (43, .bipush 16), (45, .iushr), (46, .iadd), (47, .istore_n 0), (48, .iload_n 0), (49, .bipush 63), (51, .iand), (52, .ireturn)]
/-- java/lang/Math.floorDiv(II)I -/
def pw_t332 : List (Nat × Instr) := [(0, .iload_n 0), (1, .iload_n 1), (2, .idiv), (3, .istore_n 2), (4, .iload_n 0), (5, .iload_n 1), (6, .ixor), (7, .ifCond .ge 14), (10, .iload_n 2), (11, .iload_n 1), (12, .imul), (13, .iload_n 0), (14, .if_icmp .eq 7), (17, .iload_n 2), (18, .iconst 1), (19, .isub), (20, .ireturn), (21, .iload_n 2), (22, .ireturn)]
/-- java/lang/Math.abs(I)I -/
def pw_t333 : List (Nat × Instr) := [(0, .iload_n 0), (1, .ifCond .ge 8), (4, .iload_n 0), (5, .ineg), (6, .goto 4), (9, .iload_n 0), (10, .ireturn)]
/-- java/lang/Math.max(II)I -/
def pw_t334 : List (Nat × Instr) := [(0, .iload_n 0), (1, .iload_n 1), (2, .if_icmp .lt 7), (5, .iload_n 0), (6, .goto 4), (9, .iload_n 1), (10, .ireturn)]
/-- java/lang/Math.min(II)I -/
def pw_t335 : List (Nat × Instr) := [(0, .iload_n 0), (1, .iload_n 1), (2, .if_icmp .gt 7), (5, .iload_n 0), (6, .goto 4), (9, .iload_n 1), (10, .ireturn)]
/-- java/lang/Math.min(JJ)J -/
def pw_t336 : List (Nat × Instr) := [(0, .lload_n 0), (1, .lload_n 2), (2, .lcmp), (3, .ifCond .gt 7), (6, .lload_n 0), (7, .goto 4), (10, .lload_n 2), (11, .lreturn)]
/-- java/util/Arrays.fill([JJ)V -/
def pw_t337 : List (Nat × Instr) := [(0, .iconst 0), (1, .istore_n 3), (2, .aload_n 0), (3, .arraylength), (4, .istore 4), (6, .iload_n 3), (7, .iload 4), (9, .if_icmp .ge 13), (12, .aload_n 0), (13, .iload_n 3), (14, .lload_n 1), (15, .lastore), (16, .iinc 3 1), (19, .goto (-13)), (22, .return_)]
/-- java/util/Arrays.fill([II)V -/
def pw_t338 : List (Nat × Instr) := [(0, .iconst 0), (1, .istore_n 2), (2, .aload_n 0), (3, .arraylength), (4, .istore_n 3), (5, .iload_n 2), (6, .iload_n 3), (7, .if_icmp .ge 13), (10, .aload_n 0), (11, .iload_n 2), (12, .iload_n 1), (13, .iastore), (14, .iinc 2 1), (17, .goto (-12)), (20, .return_)]
/-- the methods: code, bytes, name, own class, locals, frames and words below, answer -/
def pw_code_l : List (List (List (Nat × Instr))) := [[pw_t0, pw_t1, pw_t2, pw_t3, pw_t4, pw_t5, pw_t6, pw_t7, pw_t8, pw_t9, pw_t10, pw_t11, pw_t12, pw_t13, pw_t14, pw_t15, pw_t16, pw_t17], [pw_t18, pw_t19, pw_t20, pw_t21, pw_t22, pw_t23, pw_t24, pw_t25, pw_t26, pw_t27, pw_t28, pw_t29, pw_t30, pw_t31, pw_t32, pw_t33, pw_t34, pw_t35], [pw_t36, pw_t37, pw_t38, pw_t39, pw_t40, pw_t41, pw_t42, pw_t43, pw_t44, pw_t45, pw_t46, pw_t47, pw_t48, pw_t49, pw_t50, pw_t51, pw_t52, pw_t53], [pw_t54, pw_t55, pw_t56, pw_t57, pw_t58, pw_t59, pw_t60, pw_t61, pw_t62, pw_t63, pw_t64, pw_t65, pw_t66, pw_t67, pw_t68, pw_t69, pw_t70, pw_t71], [pw_t72, pw_t73, pw_t74, pw_t75, pw_t76, pw_t77, pw_t78, pw_t79, pw_t80, pw_t81, pw_t82, pw_t83, pw_t84, pw_t85, pw_t86, pw_t87, pw_t88, pw_t89], [pw_t90, pw_t91, pw_t92, pw_t93, pw_t94, pw_t95, pw_t96, pw_t97, pw_t98, pw_t99, pw_t100, pw_t101, pw_t102, pw_t103, pw_t104, pw_t105, pw_t106, pw_t107], [pw_t108, pw_t109, pw_t110, pw_t111, pw_t112, pw_t113, pw_t114, pw_t115, pw_t116, pw_t117, pw_t118, pw_t119, pw_t120, pw_t121, pw_t122, pw_t123, pw_t124, pw_t125], [pw_t126, pw_t127, pw_t128, pw_t129, pw_t130, pw_t131, pw_t132, pw_t133, pw_t134, pw_t135, pw_t136, pw_t137, pw_t138, pw_t139, pw_t140, pw_t141, pw_t142, pw_t143], [pw_t144, pw_t145, pw_t146, pw_t147, pw_t148, pw_t149, pw_t150, pw_t151, pw_t152, pw_t153, pw_t154, pw_t155, pw_t156, pw_t157, pw_t158, pw_t159, pw_t160, pw_t161], [pw_t162, pw_t163, pw_t164, pw_t165, pw_t166, pw_t167, pw_t168, pw_t169, pw_t170, pw_t171, pw_t172, pw_t173, pw_t174, pw_t175, pw_t176, pw_t177, pw_t178, pw_t179], [pw_t180, pw_t181, pw_t182, pw_t183, pw_t184, pw_t185, pw_t186, pw_t187, pw_t188, pw_t189, pw_t190, pw_t191, pw_t192, pw_t193, pw_t194, pw_t195, pw_t196, pw_t197], [pw_t198, pw_t199, pw_t200, pw_t201, pw_t202, pw_t203, pw_t204, pw_t205, pw_t206, pw_t207, pw_t208, pw_t209, pw_t210, pw_t211, pw_t212, pw_t213, pw_t214, pw_t215], [pw_t216, pw_t217, pw_t218, pw_t219, pw_t220, pw_t221, pw_t222, pw_t223, pw_t224, pw_t225, pw_t226, pw_t227, pw_t228, pw_t229, pw_t230, pw_t231, pw_t232, pw_t233], [pw_t234, pw_t235, pw_t236, pw_t237, pw_t238, pw_t239, pw_t240, pw_t241, pw_t242, pw_t243, pw_t244, pw_t245, pw_t246, pw_t247, pw_t248, pw_t249, pw_t250, pw_t251], [pw_t252, pw_t253, pw_t254, pw_t255, pw_t256, pw_t257, pw_t258, pw_t259, pw_t260, pw_t261, pw_t262, pw_t263, pw_t264, pw_t265, pw_t266, pw_t267, pw_t268, pw_t269], [pw_t270, pw_t271, pw_t272, pw_t273, pw_t274, pw_t275, pw_t276, pw_t277, pw_t278, pw_t279, pw_t280, pw_t281, pw_t282, pw_t283, pw_t284, pw_t285, pw_t286, pw_t287], [pw_t288, pw_t289, pw_t290, pw_t291, pw_t292, pw_t293, pw_t294, pw_t295, pw_t296, pw_t297, pw_t298, pw_t299, pw_t300, pw_t301, pw_t302, pw_t303, pw_t304, pw_t305], [pw_t306, pw_t307, pw_t308, pw_t309, pw_t310, pw_t311, pw_t312, pw_t313, pw_t314, pw_t315, pw_t316, pw_t317, pw_t318, pw_t319, pw_t320, pw_t321, pw_t322, pw_t323], [pw_t324, pw_t325, pw_t326, pw_t327, pw_t328, pw_t329, pw_t330, pw_t331, pw_t332, pw_t333, pw_t334, pw_t335, pw_t336, pw_t337, pw_t338]]
def pw_cc_l : List (List (ByteArray)) := [[code, prog_2_method_1_code, prog_2_method_2_code, prog_2_method_3_code, prog_2_method_4_code, prog_2_method_5_code, prog_2_method_6_code, prog_2_method_7_code, prog_2_method_8_code, prog_2_method_9_code, prog_2_method_10_code, prog_2_method_11_code, prog_2_method_12_code, prog_2_method_13_code, prog_2_method_14_code, prog_2_method_15_code, prog_2_method_16_code, prog_2_method_17_code], [prog_2_method_18_code, prog_3_method_1_code, prog_3_method_2_code, prog_3_method_3_code, prog_3_method_4_code, prog_3_method_5_code, prog_3_method_6_code, prog_4_method_1_code, prog_4_method_2_code, prog_4_method_3_code, prog_4_method_4_code, prog_4_method_5_code, prog_5_method_1_code, prog_5_method_2_code, prog_6_method_1_code, prog_6_method_2_code, prog_6_method_3_code, prog_6_method_4_code], [prog_6_method_5_code, prog_6_method_6_code, prog_6_method_7_code, prog_6_method_8_code, prog_6_method_9_code, prog_6_method_10_code, prog_6_method_11_code, prog_6_method_12_code, prog_6_method_13_code, prog_6_method_14_code, prog_6_method_15_code, prog_6_method_16_code, prog_6_method_17_code, prog_6_method_18_code, prog_6_method_19_code, prog_6_method_20_code, prog_6_method_21_code, prog_6_method_22_code], [prog_6_method_23_code, prog_6_method_24_code, prog_6_method_25_code, prog_6_method_26_code, prog_6_method_27_code, prog_6_method_28_code, prog_6_method_29_code, prog_6_method_30_code, prog_6_method_31_code, prog_6_method_32_code, prog_6_method_33_code, prog_6_method_34_code, prog_6_method_35_code, prog_6_method_36_code, prog_6_method_37_code, prog_6_method_38_code, prog_6_method_39_code, prog_6_method_40_code], [prog_6_method_41_code, prog_6_method_42_code, prog_6_method_43_code, prog_7_method_1_code, prog_7_method_2_code, prog_7_method_3_code, prog_7_method_4_code, prog_7_method_5_code, prog_7_method_6_code, prog_7_method_7_code, prog_7_method_8_code, prog_7_method_9_code, prog_7_method_10_code, prog_8_method_1_code, prog_8_method_2_code, prog_8_method_3_code, prog_8_method_4_code, prog_8_method_5_code], [prog_8_method_6_code, prog_8_method_7_code, prog_8_method_8_code, prog_9_method_1_code, prog_9_method_2_code, prog_9_method_3_code, prog_9_method_4_code, prog_9_method_5_code, prog_9_method_6_code, prog_9_method_7_code, prog_1_method_1_code, prog_1_method_2_code, prog_1_method_3_code, prog_1_method_4_code, prog_1_method_5_code, prog_1_method_6_code, prog_1_method_7_code, prog_1_method_8_code], [prog_1_method_9_code, prog_1_method_10_code, prog_1_method_11_code, prog_1_method_12_code, prog_1_method_13_code, prog_1_method_14_code, prog_1_method_15_code, prog_1_method_16_code, prog_1_method_17_code, prog_1_method_18_code, prog_1_method_19_code, prog_1_method_20_code, prog_1_method_21_code, prog_1_method_22_code, prog_1_method_23_code, prog_1_method_24_code, prog_1_method_25_code, prog_1_method_26_code], [prog_1_method_27_code, prog_1_method_28_code, prog_1_method_29_code, prog_1_method_30_code, prog_1_method_31_code, prog_1_method_32_code, prog_1_method_33_code, prog_1_method_34_code, prog_1_method_35_code, prog_1_method_36_code, prog_1_method_37_code, prog_1_method_38_code, prog_1_method_39_code, prog_1_method_40_code, prog_1_method_41_code, prog_1_method_42_code, prog_1_method_43_code, prog_1_method_44_code], [prog_1_method_45_code, prog_1_method_46_code, prog_1_method_47_code, prog_1_method_48_code, prog_1_method_49_code, prog_1_method_50_code, prog_1_method_51_code, prog_1_method_52_code, prog_1_method_53_code, prog_1_method_54_code, prog_1_method_55_code, prog_1_method_56_code, prog_1_method_57_code, prog_1_method_58_code, prog_1_method_59_code, prog_1_method_60_code, prog_1_method_61_code, prog_1_method_62_code], [prog_1_method_63_code, prog_1_method_64_code, prog_1_method_65_code, prog_1_method_66_code, prog_1_method_67_code, prog_1_method_68_code, prog_1_method_69_code, prog_1_method_70_code, prog_1_method_71_code, prog_1_method_72_code, prog_1_method_73_code, prog_1_method_74_code, prog_1_method_75_code, prog_1_method_76_code, prog_1_method_77_code, prog_1_method_78_code, prog_1_method_79_code, prog_1_method_80_code], [prog_1_method_81_code, prog_1_method_82_code, prog_1_method_83_code, prog_11_method_1_code, prog_11_method_2_code, prog_11_method_3_code, prog_11_method_4_code, prog_11_method_5_code, prog_11_method_6_code, prog_11_method_7_code, prog_11_method_8_code, prog_11_method_9_code, prog_11_method_10_code, prog_11_method_11_code, prog_11_method_12_code, prog_11_method_13_code, prog_11_method_14_code, prog_11_method_15_code], [prog_11_method_16_code, prog_11_method_17_code, prog_11_method_18_code, prog_11_method_19_code, prog_11_method_20_code, prog_11_method_21_code, prog_11_method_22_code, prog_11_method_23_code, prog_11_method_24_code, prog_11_method_25_code, prog_11_method_26_code, prog_11_method_27_code, prog_11_method_28_code, prog_11_method_29_code, prog_11_method_30_code, prog_11_method_31_code, prog_11_method_32_code, prog_11_method_33_code], [prog_11_method_34_code, prog_11_method_35_code, prog_11_method_36_code, prog_11_method_37_code, prog_11_method_38_code, prog_11_method_39_code, prog_11_method_40_code, prog_11_method_41_code, prog_11_method_42_code, prog_11_method_43_code, prog_11_method_44_code, prog_11_method_45_code, prog_11_method_46_code, prog_11_method_47_code, prog_11_method_48_code, prog_11_method_49_code, prog_11_method_50_code, prog_11_method_51_code], [prog_11_method_52_code, prog_11_method_53_code, prog_11_method_54_code, prog_11_method_55_code, prog_11_method_56_code, prog_11_method_57_code, prog_11_method_58_code, prog_11_method_59_code, prog_11_method_60_code, prog_11_method_61_code, prog_11_method_62_code, prog_11_method_63_code, prog_11_method_64_code, prog_11_method_65_code, prog_11_method_66_code, prog_11_method_67_code, prog_11_method_68_code, prog_11_method_69_code], [prog_11_method_70_code, prog_11_method_71_code, prog_11_method_72_code, prog_11_method_73_code, prog_11_method_74_code, prog_11_method_75_code, prog_11_method_76_code, prog_11_method_77_code, prog_11_method_78_code, prog_11_method_79_code, prog_11_method_80_code, prog_11_method_81_code, prog_11_method_82_code, prog_11_method_83_code, prog_11_method_84_code, prog_11_method_85_code, prog_11_method_86_code, prog_11_method_87_code], [prog_11_method_88_code, prog_11_method_89_code, prog_11_method_90_code, prog_11_method_91_code, prog_11_method_92_code, prog_11_method_93_code, prog_11_method_94_code, prog_11_method_95_code, prog_11_method_96_code, prog_11_method_97_code, prog_11_method_98_code, prog_11_method_99_code, prog_11_method_100_code, prog_11_method_101_code, prog_11_method_102_code, prog_11_method_103_code, prog_11_method_104_code, prog_11_method_105_code], [prog_11_method_106_code, prog_11_method_107_code, prog_11_method_108_code, prog_11_method_109_code, prog_11_method_110_code, prog_11_method_111_code, prog_11_method_112_code, prog_11_method_113_code, prog_11_method_114_code, prog_11_method_115_code, prog_11_method_116_code, prog_11_method_117_code, prog_11_method_118_code, prog_11_method_119_code, prog_11_method_120_code, prog_11_method_121_code, prog_11_method_122_code, prog_11_method_123_code], [prog_11_method_124_code, prog_11_method_125_code, prog_11_method_126_code, prog_11_method_127_code, prog_11_method_128_code, prog_11_method_129_code, prog_11_method_130_code, prog_11_method_131_code, prog_11_method_132_code, prog_11_method_133_code, prog_11_method_134_code, prog_11_method_135_code, prog_11_method_136_code, prog_11_method_137_code, prog_11_method_138_code, prog_11_method_139_code, prog_11_method_140_code, prog_11_method_141_code], [prog_11_method_142_code, prog_11_method_143_code, prog_13_method_6_code, prog_13_method_23_code, prog_14_method_6_code, prog_14_method_24_code, prog_15_method_48_code, prog_15_method_49_code, prog_16_method_47_code, prog_16_method_59_code, prog_16_method_65_code, prog_16_method_69_code, prog_16_method_70_code, prog_19_method_101_code, prog_19_method_103_code]]
def pw_y_l : List (List (MethodName)) := [[⟨"PackWatchLaw", "law", "([I)Z"⟩, ⟨"PackWatch$Cell", "<init>", "()V"⟩, ⟨"PackWatch$Cell", "begin", "(IIII)V"⟩, ⟨"PackWatch$Cell", "become", "(LPackWatch$Cell;)V"⟩, ⟨"PackWatch$Cell", "full", "()I"⟩, ⟨"PackWatch$Cell", "putCharge", "(I)V"⟩, ⟨"PackWatch$Cell", "putReckoned", "(I)V"⟩, ⟨"PackWatch$Cell", "reckonedPart", "()I"⟩, ⟨"PackWatch$Cell", "voltsAt", "(I)I"⟩, ⟨"PackWatch$Cell", "ownLimit", "(ILPackWatch$Told;)I"⟩, ⟨"PackWatch$Cell", "pass", "(ILPackWatch$Told;)V"⟩, ⟨"PackWatch$Cell", "wear", "(I)V"⟩, ⟨"PackWatch$Cell", "giveShunt", "(I)I"⟩, ⟨"PackWatch$Cell", "takeOrGive", "(I)V"⟩, ⟨"PackWatch$Cell", "measure", "(II)V"⟩, ⟨"PackWatch$Cell", "reckonAtRest", "()V"⟩, ⟨"PackWatch$Cell", "keepTrack", "(I)V"⟩, ⟨"PackWatch$Cell", "warningBits", "(ILPackWatch$Told;I)I"⟩], [⟨"PackWatch$Cell", "tellWhat", "(II)I"⟩, ⟨"PackWatch$History", "<init>", "()V"⟩, ⟨"PackWatch$History", "keep", "(LPackWatch$State;)V"⟩, ⟨"PackWatch$History", "takeBackInto", "(LPackWatch$State;)V"⟩, ⟨"PackWatch$History", "become", "(LPackWatch$History;)V"⟩, ⟨"PackWatch$History", "place", "(I)I"⟩, ⟨"PackWatch$History", "stateAt", "(I)LPackWatch$State;"⟩, ⟨"PackWatch$Lines", "<init>", "(I)V"⟩, ⟨"PackWatch$Lines", "become", "(LPackWatch$Lines;)V"⟩, ⟨"PackWatch$Lines", "add", "(III)V"⟩, ⟨"PackWatch$Lines", "tellLine", "(IIII)I"⟩, ⟨"PackWatch$Lines", "place", "(I)I"⟩, ⟨"PackWatch$Mark", "<init>", "()V"⟩, ⟨"PackWatch$Mark", "become", "(LPackWatch$Mark;)V"⟩, ⟨"PackWatch$State", "<init>", "()V"⟩, ⟨"PackWatch$State", "become", "(LPackWatch$State;)V"⟩, ⟨"PackWatch$State", "hasCell", "(I)Z"⟩, ⟨"PackWatch$State", "addCell", "(III)I"⟩], [⟨"PackWatch$State", "layMark", "(I)V"⟩, ⟨"PackWatch$State", "couldReset", "(I)Z"⟩, ⟨"PackWatch$State", "packAt", "(I)I"⟩, ⟨"PackWatch$State", "leastPart", "()I"⟩, ⟨"PackWatch$State", "partSpread", "()I"⟩, ⟨"PackWatch$State", "spreadOf", "(II)I"⟩, ⟨"PackWatch$State", "allCharge", "()J"⟩, ⟨"PackWatch$State", "allFull", "()J"⟩, ⟨"PackWatch$State", "goalPart", "()I"⟩, ⟨"PackWatch$State", "chargeApart", "(I)I"⟩, ⟨"PackWatch$State", "rankedCell", "(I)I"⟩, ⟨"PackWatch$State", "placeOf", "(I)I"⟩, ⟨"PackWatch$State", "middlePart", "()I"⟩, ⟨"PackWatch$State", "hasEnded", "(I)Z"⟩, ⟨"PackWatch$State", "limitOf", "(I)I"⟩, ⟨"PackWatch$State", "worstCell", "(I)I"⟩, ⟨"PackWatch$State", "orderedBits", "()I"⟩, ⟨"PackWatch$State", "actualBits", "()I"⟩], [⟨"PackWatch$State", "areActual", "(I)Z"⟩, ⟨"PackWatch$State", "passSeconds", "(I)I"⟩, ⟨"PackWatch$State", "passDrive", "()I"⟩, ⟨"PackWatch$State", "passSecond", "()I"⟩, ⟨"PackWatch$State", "moveBus", "()Z"⟩, ⟨"PackWatch$State", "letCurrent", "()V"⟩, ⟨"PackWatch$State", "countHeldBack", "(I)V"⟩, ⟨"PackWatch$State", "passCells", "()V"⟩, ⟨"PackWatch$State", "balance", "()V"⟩, ⟨"PackWatch$State", "shuntCells", "()V"⟩, ⟨"PackWatch$State", "greatestAbove", "(II)I"⟩, ⟨"PackWatch$State", "shuttle", "(LPackWatch$Cell;LPackWatch$Cell;)V"⟩, ⟨"PackWatch$State", "measure", "()V"⟩, ⟨"PackWatch$State", "taper", "()V"⟩, ⟨"PackWatch$State", "faultsOfCells", "()I"⟩, ⟨"PackWatch$State", "faultsOfPack", "()I"⟩, ⟨"PackWatch$State", "keepTrack", "()V"⟩, ⟨"PackWatch$State", "obeyRules", "()V"⟩], [⟨"PackWatch$State", "tell", "(I)I"⟩, ⟨"PackWatch$State", "tellOf", "(II)I"⟩, ⟨"PackWatch$State", "tellModule", "(III)I"⟩, ⟨"PackWatch$Told", "<init>", "()V"⟩, ⟨"PackWatch$Told", "become", "(LPackWatch$Told;)V"⟩, ⟨"PackWatch$Told", "bearsZone", "(I)Z"⟩, ⟨"PackWatch$Told", "addZone", "(II)I"⟩, ⟨"PackWatch$Told", "zoneCurrent", "(I)I"⟩, ⟨"PackWatch$Told", "bearsPiece", "()Z"⟩, ⟨"PackWatch$Told", "addPiece", "(II)I"⟩, ⟨"PackWatch$Told", "pieceSeconds", "()I"⟩, ⟨"PackWatch$Told", "bearsRule", "()Z"⟩, ⟨"PackWatch$Told", "addRule", "(IIIII)I"⟩, ⟨"PackWatch$Turns", "<init>", "()V"⟩, ⟨"PackWatch$Turns", "begin", "(I)V"⟩, ⟨"PackWatch$Turns", "become", "(LPackWatch$Turns;)V"⟩, ⟨"PackWatch$Turns", "follow", "(I)V"⟩, ⟨"PackWatch$Turns", "goesOn", "(I)Z"⟩], [⟨"PackWatch$Turns", "add", "(I)V"⟩, ⟨"PackWatch$Turns", "countCycles", "()V"⟩, ⟨"PackWatch$Turns", "way", "(I)I"⟩, ⟨"PackWatch$Watch", "<init>", "()V"⟩, ⟨"PackWatch$Watch", "become", "(LPackWatch$Watch;)V"⟩, ⟨"PackWatch$Watch", "blame", "(II)I"⟩, ⟨"PackWatch$Watch", "leakBit", "(Z)I"⟩, ⟨"PackWatch$Watch", "weldBit", "(Z)I"⟩, ⟨"PackWatch$Watch", "silentBit", "(I)I"⟩, ⟨"PackWatch$Watch", "latch", "(II)I"⟩, ⟨"PackWatch", "<init>", "()V"⟩, ⟨"PackWatch", "cell", "(III)I"⟩, ⟨"PackWatch", "charge", "(II)Z"⟩, ⟨"PackWatch", "warm", "(II)Z"⟩, ⟨"PackWatch", "set", "(II)Z"⟩, ⟨"PackWatch", "run", "(I)I"⟩, ⟨"PackWatch", "close", "()Z"⟩, ⟨"PackWatch", "open", "()Z"⟩], [⟨"PackWatch", "reset", "(I)Z"⟩, ⟨"PackWatch", "stuck", "(II)Z"⟩, ⟨"PackWatch", "zone", "(II)I"⟩, ⟨"PackWatch", "hear", "()I"⟩, ⟨"PackWatch", "price", "(II)Z"⟩, ⟨"PackWatch", "mark", "(I)Z"⟩, ⟨"PackWatch", "piece", "(II)I"⟩, ⟨"PackWatch", "rule", "(IZIII)I"⟩, ⟨"PackWatch", "unrule", "()I"⟩, ⟨"PackWatch", "wipe", "()I"⟩, ⟨"PackWatch", "drive", "()I"⟩, ⟨"PackWatch", "undo", "()I"⟩, ⟨"PackWatch", "image", "()I"⟩, ⟨"PackWatch", "back", "()I"⟩, ⟨"PackWatch", "is", "(I)I"⟩, ⟨"PackWatch", "setting", "(I)I"⟩, ⟨"PackWatch", "of", "(II)I"⟩, ⟨"PackWatch", "ruleOf", "(II)I"⟩], [⟨"PackWatch", "module", "(II)I"⟩, ⟨"PackWatch", "zoneOf", "(II)I"⟩, ⟨"PackWatch", "cycles", "(II)I"⟩, ⟨"PackWatch", "turn", "(II)I"⟩, ⟨"PackWatch", "stuckAs", "(I)I"⟩, ⟨"PackWatch", "warnings", "()I"⟩, ⟨"PackWatch", "need", "(I)I"⟩, ⟨"PackWatch", "trace", "(II)I"⟩, ⟨"PackWatch", "culprit", "(I)I"⟩, ⟨"PackWatch", "since", "(III)I"⟩, ⟨"PackWatch", "rank", "(I)I"⟩, ⟨"PackWatch", "middle", "()I"⟩, ⟨"PackWatch", "scatter", "()I"⟩, ⟨"PackWatch", "goal", "()I"⟩, ⟨"PackWatch", "flow", "(I)I"⟩, ⟨"PackWatch", "halves", "(I)I"⟩, ⟨"PackWatch", "cheapest", "(III)I"⟩, ⟨"PackWatch", "hours", "(II)I"⟩], [⟨"PackWatch", "energy", "()I"⟩, ⟨"PackWatch", "below", "(I)I"⟩, ⟨"PackWatch", "rest", "(I)I"⟩, ⟨"PackWatch", "partBy", "(I)I"⟩, ⟨"PackWatch", "limit", "(I)I"⟩, ⟨"PackWatch", "worst", "(I)I"⟩, ⟨"PackWatch", "spread", "()I"⟩, ⟨"PackWatch", "mayReset", "(I)Z"⟩, ⟨"PackWatch", "when", "(I)I"⟩, ⟨"PackWatch", "book", "(II)I"⟩, ⟨"PackWatch", "driveOf", "(II)I"⟩, ⟨"PackWatch", "room", "(I)I"⟩, ⟨"PackWatch", "fullness", "()J"⟩, ⟨"PackWatch", "off", "()I"⟩, ⟨"PackWatch", "steps", "()I"⟩, ⟨"PackWatch", "foretold", "(II)I"⟩, ⟨"PackWatch", "foretoldOf", "(III)I"⟩, ⟨"PackWatch", "driven", "(I)I"⟩], [⟨"PackWatch", "bare", "()I"⟩, ⟨"PackWatch", "harm", "(I)I"⟩, ⟨"PackWatch", "power", "(II)I"⟩, ⟨"PackWatch", "bestBand", "(II)I"⟩, ⟨"PackWatch", "yields", "(I)I"⟩, ⟨"PackWatch", "eta", "(I)I"⟩, ⟨"PackWatch", "bestMode", "(I)I"⟩, ⟨"PackWatch", "spreadBehind", "(III)I"⟩, ⟨"PackWatch", "bears", "(II)Z"⟩, ⟨"PackWatch", "planHours", "(II)V"⟩, ⟨"PackWatch", "planOneHour", "(IIJ)V"⟩, ⟨"PackWatch", "within", "(III)Z"⟩, ⟨"PackWatch", "settingBears", "(II)Z"⟩, ⟨"PackWatch", "heldTo", "(III)I"⟩, ⟨"PackWatch", "chargeBy", "(II)I"⟩, ⟨"PackWatch", "partOf", "(II)I"⟩, ⟨"PackWatch", "restBy", "(I)I"⟩, ⟨"PackWatch", "partByVolts", "(I)I"⟩], [⟨"PackWatch", "lowestBit", "(I)I"⟩, ⟨"PackWatch", "bitsOfDouble", "(D)J"⟩, ⟨"PackWatch", "bitsOfFloat", "(F)I"⟩, ⟨"PackWatchModel", "<init>", "()V"⟩, ⟨"PackWatchModel", "copy", "([I[I)V"⟩, ⟨"PackWatchModel", "isIn", "(III)Z"⟩, ⟨"PackWatchModel", "held", "(III)I"⟩, ⟨"PackWatchModel", "lesser", "(II)I"⟩, ⟨"PackWatchModel", "size", "(I)I"⟩, ⟨"PackWatchModel", "floor", "(II)I"⟩, ⟨"PackWatchModel", "has", "(II)Z"⟩, ⟨"PackWatchModel", "its", "(I)I"⟩, ⟨"PackWatchModel", "isCell", "(I)Z"⟩, ⟨"PackWatchModel", "get", "(II)I"⟩, ⟨"PackWatchModel", "let", "(III)V"⟩, ⟨"PackWatchModel", "full", "(I)I"⟩, ⟨"PackWatchModel", "partAt", "(II)I"⟩, ⟨"PackWatchModel", "partOf", "(I)I"⟩], [⟨"PackWatchModel", "restOf", "(I)I"⟩, ⟨"PackWatchModel", "chargeAt", "(II)I"⟩, ⟨"PackWatchModel", "calmVolts", "(I)I"⟩, ⟨"PackWatchModel", "voltsOf", "(I)I"⟩, ⟨"PackWatchModel", "packCalm", "()I"⟩, ⟨"PackWatchModel", "pack", "()I"⟩, ⟨"PackWatchModel", "leastPart", "()I"⟩, ⟨"PackWatchModel", "spreadOf", "()I"⟩, ⟨"PackWatchModel", "ordered", "()I"⟩, ⟨"PackWatchModel", "actual", "()I"⟩, ⟨"PackWatchModel", "isLive", "()Z"⟩, ⟨"PackWatchModel", "limitBy", "(II)I"⟩, ⟨"PackWatchModel", "limitOf", "(I)I"⟩, ⟨"PackWatchModel", "goBus", "()V"⟩, ⟨"PackWatchModel", "tightest", "(I)I"⟩, ⟨"PackWatchModel", "goCurrent", "()V"⟩, ⟨"PackWatchModel", "hold", "(I)V"⟩, ⟨"PackWatchModel", "goWarm", "(I)V"⟩], [⟨"PackWatchModel", "touch", "(I)V"⟩, ⟨"PackWatchModel", "goOld", "(I)V"⟩, ⟨"PackWatchModel", "goCells", "()V"⟩, ⟨"PackWatchModel", "nextShunt", "(I)I"⟩, ⟨"PackWatchModel", "shuntAll", "()V"⟩, ⟨"PackWatchModel", "shuttle", "(I)V"⟩, ⟨"PackWatchModel", "goBalance", "()V"⟩, ⟨"PackWatchModel", "leastBy", "(I)I"⟩, ⟨"PackWatchModel", "restNow", "(I)V"⟩, ⟨"PackWatchModel", "goMeasure", "()V"⟩, ⟨"PackWatchModel", "goTaper", "()V"⟩, ⟨"PackWatchModel", "isSo", "(I)Z"⟩, ⟨"PackWatchModel", "soBy", "(I)I"⟩, ⟨"PackWatchModel", "writeDown", "(I)V"⟩, ⟨"PackWatchModel", "goFaults", "()I"⟩, ⟨"PackWatchModel", "turnAt", "(II)I"⟩, ⟨"PackWatchModel", "dropTurn", "(II)V"⟩, ⟨"PackWatchModel", "goTurn", "(I)V"⟩], [⟨"PackWatchModel", "count", "(I)V"⟩, ⟨"PackWatchModel", "goKept", "()V"⟩, ⟨"PackWatchModel", "goRules", "()V"⟩, ⟨"PackWatchModel", "second", "()I"⟩, ⟨"PackWatchModel", "putAside", "()V"⟩, ⟨"PackWatchModel", "bringBack", "()V"⟩, ⟨"PackWatchModel", "stepAt", "(II)I"⟩, ⟨"PackWatchModel", "keep", "()V"⟩, ⟨"PackWatchModel", "undo", "()I"⟩, ⟨"PackWatchModel", "cell", "(III)I"⟩, ⟨"PackWatchModel", "charge", "(II)Z"⟩, ⟨"PackWatchModel", "warm", "(II)Z"⟩, ⟨"PackWatchModel", "isSetting", "(II)Z"⟩, ⟨"PackWatchModel", "set", "(II)Z"⟩, ⟨"PackWatchModel", "secondsNow", "(I)I"⟩, ⟨"PackWatchModel", "canRun", "(II)Z"⟩, ⟨"PackWatchModel", "run", "(I)I"⟩, ⟨"PackWatchModel", "close", "()Z"⟩], [⟨"PackWatchModel", "open", "()Z"⟩, ⟨"PackWatchModel", "mayReset", "(I)Z"⟩, ⟨"PackWatchModel", "reset", "(I)Z"⟩, ⟨"PackWatchModel", "hear", "()I"⟩, ⟨"PackWatchModel", "price", "(II)Z"⟩, ⟨"PackWatchModel", "mark", "(I)Z"⟩, ⟨"PackWatchModel", "stuck", "(II)Z"⟩, ⟨"PackWatchModel", "zone", "(II)I"⟩, ⟨"PackWatchModel", "piece", "(II)I"⟩, ⟨"PackWatchModel", "rule", "(IZIII)I"⟩, ⟨"PackWatchModel", "clear", "(III)I"⟩, ⟨"PackWatchModel", "unrule", "()I"⟩, ⟨"PackWatchModel", "wipe", "()I"⟩, ⟨"PackWatchModel", "driveLong", "()I"⟩, ⟨"PackWatchModel", "driveNow", "()I"⟩, ⟨"PackWatchModel", "drive", "()I"⟩, ⟨"PackWatchModel", "is", "(I)I"⟩, ⟨"PackWatchModel", "setting", "(I)I"⟩], [⟨"PackWatchModel", "ofCell", "(II)I"⟩, ⟨"PackWatchModel", "of", "(II)I"⟩, ⟨"PackWatchModel", "ruleOf", "(II)I"⟩, ⟨"PackWatchModel", "module", "(II)I"⟩, ⟨"PackWatchModel", "zoneOf", "(II)I"⟩, ⟨"PackWatchModel", "cycles", "(II)I"⟩, ⟨"PackWatchModel", "turn", "(II)I"⟩, ⟨"PackWatchModel", "stuckAs", "(I)I"⟩, ⟨"PackWatchModel", "warnings", "()I"⟩, ⟨"PackWatchModel", "need", "(I)I"⟩, ⟨"PackWatchModel", "trace", "(II)I"⟩, ⟨"PackWatchModel", "energy", "()I"⟩, ⟨"PackWatchModel", "below", "(I)I"⟩, ⟨"PackWatchModel", "rest", "(I)I"⟩, ⟨"PackWatchModel", "partBy", "(I)I"⟩, ⟨"PackWatchModel", "limit", "(I)I"⟩, ⟨"PackWatchModel", "worst", "(I)I"⟩, ⟨"PackWatchModel", "spread", "()I"⟩], [⟨"PackWatchModel", "when", "(I)I"⟩, ⟨"PackWatchModel", "book", "(II)I"⟩, ⟨"PackWatchModel", "driveOf", "(II)I"⟩, ⟨"PackWatchModel", "room", "(I)I"⟩, ⟨"PackWatchModel", "fullness", "()J"⟩, ⟨"PackWatchModel", "off", "()I"⟩, ⟨"PackWatchModel", "since", "(III)I"⟩, ⟨"PackWatchModel", "rank", "(I)I"⟩, ⟨"PackWatchModel", "middle", "()I"⟩, ⟨"PackWatchModel", "scatter", "()I"⟩, ⟨"PackWatchModel", "culprit", "(I)I"⟩, ⟨"PackWatchModel", "goalOf", "()I"⟩, ⟨"PackWatchModel", "goal", "()I"⟩, ⟨"PackWatchModel", "flow", "(I)I"⟩, ⟨"PackWatchModel", "differ", "(I)I"⟩, ⟨"PackWatchModel", "many", "(I)I"⟩, ⟨"PackWatchModel", "halves", "(I)I"⟩, ⟨"PackWatchModel", "priceAt", "(IIII)I"⟩], [⟨"PackWatchModel", "takenBy", "(IIII)I"⟩, ⟨"PackWatchModel", "layPrices", "()V"⟩, ⟨"PackWatchModel", "cheapest", "(III)I"⟩, ⟨"PackWatchModel", "hours", "(II)I"⟩, ⟨"PackWatchModel", "foretold", "(II)I"⟩, ⟨"PackWatchModel", "foretoldOf", "(III)I"⟩, ⟨"PackWatchModel", "driven", "(I)I"⟩, ⟨"PackWatchModel", "bare", "()I"⟩, ⟨"PackWatchModel", "harm", "(I)I"⟩, ⟨"PackWatchModel", "goesBy", "(II)Z"⟩, ⟨"PackWatchModel", "power", "(II)I"⟩, ⟨"PackWatchModel", "yields", "(I)I"⟩, ⟨"PackWatchModel", "spreadBy", "(III)I"⟩, ⟨"PackWatchModel", "bestBand", "(II)I"⟩, ⟨"PackWatchModel", "isAtEnd", "(I)Z"⟩, ⟨"PackWatchModel", "eta", "(I)I"⟩, ⟨"PackWatchModel", "bestMode", "(I)I"⟩, ⟨"PackWatchModel", "image", "()I"⟩], [⟨"PackWatchModel", "back", "()I"⟩, ⟨"PackWatchModel", "steps", "()I"⟩, ⟨"java/lang/Double", "isNaN", "(D)Z"⟩, ⟨"java/lang/Double", "doubleToLongBits", "(D)J"⟩, ⟨"java/lang/Float", "isNaN", "(F)Z"⟩, ⟨"java/lang/Float", "floatToIntBits", "(F)I"⟩, ⟨"java/lang/Integer", "numberOfTrailingZeros", "(I)I"⟩, ⟨"java/lang/Integer", "bitCount", "(I)I"⟩, ⟨"java/lang/Math", "floorDiv", "(II)I"⟩, ⟨"java/lang/Math", "abs", "(I)I"⟩, ⟨"java/lang/Math", "max", "(II)I"⟩, ⟨"java/lang/Math", "min", "(II)I"⟩, ⟨"java/lang/Math", "min", "(JJ)J"⟩, ⟨"java/util/Arrays", "fill", "([JJ)V"⟩, ⟨"java/util/Arrays", "fill", "([II)V"⟩]]
def pw_own_l : List (List (Nat)) := [[10, 0, 0, 0, 0, 0, 0, 0, 0, 0, 0, 0, 0, 0, 0, 0, 0, 0], [0, 1, 1, 1, 1, 1, 1, 2, 2, 2, 2, 2, 3, 3, 4, 4, 4, 4], [4, 4, 4, 4, 4, 4, 4, 4, 4, 4, 4, 4, 4, 4, 4, 4, 4, 4], [4, 4, 4, 4, 4, 4, 4, 4, 4, 4, 4, 4, 4, 4, 4, 4, 4, 4], [4, 4, 4, 5, 5, 5, 5, 5, 5, 5, 5, 5, 5, 6, 6, 6, 6, 6], [6, 6, 6, 7, 7, 7, 7, 7, 7, 7, 8, 8, 8, 8, 8, 8, 8, 8], [8, 8, 8, 8, 8, 8, 8, 8, 8, 8, 8, 8, 8, 8, 8, 8, 8, 8], [8, 8, 8, 8, 8, 8, 8, 8, 8, 8, 8, 8, 8, 8, 8, 8, 8, 8], [8, 8, 8, 8, 8, 8, 8, 8, 8, 8, 8, 8, 8, 8, 8, 8, 8, 8], [8, 8, 8, 8, 8, 8, 8, 8, 8, 8, 8, 8, 8, 8, 8, 8, 8, 8], [8, 8, 8, 9, 9, 9, 9, 9, 9, 9, 9, 9, 9, 9, 9, 9, 9, 9], [9, 9, 9, 9, 9, 9, 9, 9, 9, 9, 9, 9, 9, 9, 9, 9, 9, 9], [9, 9, 9, 9, 9, 9, 9, 9, 9, 9, 9, 9, 9, 9, 9, 9, 9, 9], [9, 9, 9, 9, 9, 9, 9, 9, 9, 9, 9, 9, 9, 9, 9, 9, 9, 9], [9, 9, 9, 9, 9, 9, 9, 9, 9, 9, 9, 9, 9, 9, 9, 9, 9, 9], [9, 9, 9, 9, 9, 9, 9, 9, 9, 9, 9, 9, 9, 9, 9, 9, 9, 9], [9, 9, 9, 9, 9, 9, 9, 9, 9, 9, 9, 9, 9, 9, 9, 9, 9, 9], [9, 9, 9, 9, 9, 9, 9, 9, 9, 9, 9, 9, 9, 9, 9, 9, 9, 9], [9, 9, 11, 11, 12, 12, 13, 13, 14, 14, 14, 14, 14, 15, 15]]
def pw_mxl_l : List (List (Nat)) := [[4, 1, 5, 2, 1, 2, 2, 1, 2, 8, 6, 3, 3, 2, 5, 3, 3, 6], [3, 1, 2, 2, 3, 2, 2, 2, 2, 5, 5, 3, 1, 2, 2, 3, 2, 4], [4, 2, 4, 3, 1, 6, 4, 4, 3, 4, 3, 6, 2, 3, 4, 6, 1, 3], [2, 4, 5, 3, 4, 4, 3, 3, 2, 5, 6, 7, 3, 5, 9, 4, 2, 6], [2, 3, 7, 1, 2, 2, 3, 4, 1, 3, 3, 1, 7, 1, 2, 2, 2, 3], [2, 2, 3, 1, 2, 3, 2, 3, 2, 6, 1, 5, 3, 3, 3, 2, 1, 1], [2, 3, 4, 2, 3, 2, 3, 6, 2, 2, 1, 1, 1, 1, 2, 2, 3, 3], [5, 3, 3, 4, 2, 4, 4, 3, 2, 5, 2, 1, 4, 1, 5, 7, 8, 6], [4, 4, 2, 2, 2, 2, 1, 2, 2, 3, 3, 5, 3, 3, 1, 3, 4, 2], [3, 4, 6, 4, 3, 3, 6, 5, 4, 8, 9, 3, 2, 3, 2, 2, 3, 5], [1, 7, 4, 2, 3, 3, 3, 2, 1, 2, 2, 2, 2, 3, 4, 2, 3, 2], [3, 3, 2, 2, 3, 3, 3, 3, 1, 3, 1, 8, 4, 4, 4, 3, 2, 3], [3, 3, 2, 4, 5, 7, 2, 3, 4, 4, 3, 2, 4, 3, 4, 3, 4, 6], [7, 4, 4, 2, 2, 2, 2, 3, 3, 6, 3, 3, 3, 3, 4, 3, 2, 1], [1, 2, 2, 2, 3, 4, 3, 3, 3, 7, 6, 1, 1, 3, 4, 1, 2, 2], [3, 3, 3, 9, 3, 3, 3, 2, 4, 3, 3, 4, 4, 2, 2, 2, 2, 1], [2, 3, 3, 4, 6, 3, 5, 5, 1, 4, 2, 6, 1, 4, 4, 3, 4, 4], [7, 6, 10, 5, 5, 6, 4, 4, 6, 5, 4, 5, 6, 4, 3, 5, 6, 1], [1, 1, 2, 2, 1, 1, 2, 1, 3, 1, 2, 2, 4, 5, 4]]
def pw_rF_l : List (List (Nat)) := [[15, 2, 2, 2, 0, 1, 1, 1, 1, 1, 3, 2, 2, 2, 2, 2, 3, 2], [2, 1, 5, 5, 5, 0, 4, 1, 1, 1, 1, 0, 1, 1, 3, 3, 1, 3], [0, 1, 2, 1, 2, 1, 0, 1, 2, 0, 1, 0, 2, 1, 3, 2, 0, 1], [2, 6, 6, 5, 3, 4, 3, 4, 4, 3, 0, 3, 3, 2, 2, 3, 4, 4], [3, 3, 2, 1, 1, 0, 0, 0, 0, 0, 0, 0, 0, 1, 1, 1, 2, 0], [1, 1, 0, 2, 2, 0, 1, 0, 0, 2, 4, 6, 6, 6, 6, 7, 6, 6], [6, 6, 6, 6, 6, 6, 6, 6, 6, 6, 7, 6, 6, 6, 4, 1, 4, 1], [3, 1, 2, 2, 1, 3, 2, 2, 1, 2, 2, 3, 3, 3, 3, 1, 3, 1], [0, 1, 1, 2, 4, 3, 3, 2, 1, 2, 1, 1, 2, 2, 0, 7, 7, 7], [6, 6, 7, 7, 6, 6, 7, 6, 6, 2, 1, 0, 1, 0, 0, 0, 0, 1], [1, 0, 0, 1, 0, 0, 0, 0, 0, 0, 0, 0, 1, 0, 0, 1, 2, 3], [0, 1, 4, 5, 5, 6, 4, 5, 0, 1, 2, 5, 6, 6, 6, 7, 2, 2], [1, 3, 4, 1, 5, 4, 6, 1, 6, 7, 6, 7, 6, 0, 8, 1, 2, 4], [3, 7, 8, 9, 0, 0, 0, 1, 1, 4, 2, 2, 1, 2, 10, 1, 11, 2], [2, 1, 2, 2, 2, 4, 2, 2, 2, 2, 2, 3, 3, 0, 10, 11, 7, 1], [6, 7, 1, 6, 1, 2, 2, 1, 6, 5, 1, 4, 4, 1, 2, 7, 7, 6], [1, 1, 1, 2, 2, 4, 4, 4, 5, 6, 1, 2, 3, 3, 1, 0, 2, 0], [1, 2, 3, 2, 11, 11, 11, 10, 10, 10, 11, 10, 11, 12, 2, 10, 12, 1], [1, 0, 0, 1, 0, 1, 0, 0, 0, 0, 0, 0, 0, 0, 0]]
def pw_rL_l : List (List (Nat)) := [[578, 60, 44, 61, 0, 22, 22, 21, 22, 23, 65, 43, 43, 43, 43, 46, 82, 43], [43, 40, 123, 123, 123, 0, 102, 40, 40, 22, 22, 0, 40, 40, 81, 82, 22, 68], [0, 22, 43, 21, 46, 21, 0, 20, 43, 0, 25, 0, 47, 20, 75, 50, 0, 20], [42, 147, 147, 125, 66, 98, 75, 90, 90, 65, 0, 64, 68, 43, 43, 66, 104, 87], [66, 65, 46, 40, 40, 0, 0, 0, 0, 0, 0, 0, 0, 40, 23, 40, 61, 0], [40, 22, 0, 61, 61, 0, 21, 0, 0, 46, 102, 144, 144, 144, 144, 170, 144, 144], [144, 144, 144, 144, 144, 144, 144, 144, 144, 144, 171, 144, 145, 145, 87, 22, 87, 22], [72, 22, 43, 43, 22, 68, 43, 46, 22, 43, 47, 68, 68, 65, 65, 23, 78, 22], [0, 22, 22, 46, 98, 75, 66, 43, 22, 46, 22, 22, 43, 41, 0, 170, 170, 171], [147, 147, 170, 171, 147, 147, 171, 147, 147, 51, 23, 0, 22, 0, 0, 0, 0, 22], [21, 0, 0, 40, 0, 0, 0, 0, 0, 0, 0, 0, 22, 0, 0, 22, 43, 65], [0, 22, 86, 107, 107, 128, 86, 108, 0, 21, 43, 107, 134, 129, 134, 157, 43, 43], [23, 64, 86, 21, 108, 86, 132, 22, 128, 151, 128, 151, 128, 0, 172, 22, 44, 93], [67, 150, 171, 195, 0, 0, 0, 21, 21, 86, 43, 43, 22, 44, 216, 22, 239, 43], [43, 22, 43, 43, 43, 86, 43, 43, 43, 44, 43, 68, 68, 0, 216, 239, 150, 22], [128, 150, 22, 128, 22, 43, 44, 22, 130, 108, 22, 86, 86, 22, 44, 157, 157, 130], [22, 22, 22, 43, 61, 86, 86, 86, 110, 130, 22, 43, 68, 68, 22, 0, 45, 0], [23, 49, 74, 44, 239, 239, 239, 216, 216, 216, 240, 216, 239, 264, 43, 216, 264, 22], [22, 0, 0, 40, 0, 40, 0, 0, 0, 0, 0, 0, 0, 0, 0]]
def pw_ret_l : List (List (Option FieldType)) := [[(some .boolean), none, none, none, (some (.int)), none, none, (some (.int)), (some (.int)), (some (.int)), none, none, (some (.int)), none, none, none, none, (some (.int))], [(some (.int)), none, none, none, none, (some (.int)), (some ((.object "PackWatch$State"))), none, none, none, (some (.int)), (some (.int)), none, none, none, none, (some (.boolean)), (some (.int))], [none, (some (.boolean)), (some (.int)), (some (.int)), (some (.int)), (some (.int)), (some (.long)), (some (.long)), (some (.int)), (some (.int)), (some (.int)), (some (.int)), (some (.int)), (some (.boolean)), (some (.int)), (some (.int)), (some (.int)), (some (.int))], [(some (.boolean)), (some (.int)), (some (.int)), (some (.int)), (some (.boolean)), none, none, none, none, none, (some (.int)), none, none, none, (some (.int)), (some (.int)), none, none], [(some (.int)), (some (.int)), (some (.int)), none, none, (some (.boolean)), (some (.int)), (some (.int)), (some (.boolean)), (some (.int)), (some (.int)), (some (.boolean)), (some (.int)), none, none, none, none, (some (.boolean))], [none, none, (some (.int)), none, none, (some (.int)), (some (.int)), (some (.int)), (some (.int)), (some (.int)), none, (some (.int)), (some (.boolean)), (some (.boolean)), (some (.boolean)), (some (.int)), (some (.boolean)), (some (.boolean))], [(some (.boolean)), (some (.boolean)), (some (.int)), (some (.int)), (some (.boolean)), (some (.boolean)), (some (.int)), (some (.int)), (some (.int)), (some (.int)), (some (.int)), (some (.int)), (some (.int)), (some (.int)), (some (.int)), (some (.int)), (some (.int)), (some (.int))], [(some (.int)), (some (.int)), (some (.int)), (some (.int)), (some (.int)), (some (.int)), (some (.int)), (some (.int)), (some (.int)), (some (.int)), (some (.int)), (some (.int)), (some (.int)), (some (.int)), (some (.int)), (some (.int)), (some (.int)), (some (.int))], [(some (.int)), (some (.int)), (some (.int)), (some (.int)), (some (.int)), (some (.int)), (some (.int)), (some (.boolean)), (some (.int)), (some (.int)), (some (.int)), (some (.int)), (some (.long)), (some (.int)), (some (.int)), (some (.int)), (some (.int)), (some (.int))], [(some (.int)), (some (.int)), (some (.int)), (some (.int)), (some (.int)), (some (.int)), (some (.int)), (some (.int)), (some (.boolean)), none, none, (some (.boolean)), (some (.boolean)), (some (.int)), (some (.int)), (some (.int)), (some (.int)), (some (.int))], [(some (.int)), (some (.long)), (some (.int)), none, none, (some (.boolean)), (some (.int)), (some (.int)), (some (.int)), (some (.int)), (some (.boolean)), (some (.int)), (some (.boolean)), (some (.int)), none, (some (.int)), (some (.int)), (some (.int))], [(some (.int)), (some (.int)), (some (.int)), (some (.int)), (some (.int)), (some (.int)), (some (.int)), (some (.int)), (some (.int)), (some (.int)), (some (.boolean)), (some (.int)), (some (.int)), none, (some (.int)), none, none, none], [none, none, none, (some (.int)), none, none, none, (some (.int)), none, none, none, (some (.boolean)), (some (.int)), none, (some (.int)), (some (.int)), none, none], [none, none, none, (some (.int)), none, none, (some (.int)), none, (some (.int)), (some (.int)), (some (.boolean)), (some (.boolean)), (some (.boolean)), (some (.boolean)), (some (.int)), (some (.boolean)), (some (.int)), (some (.boolean))], [(some (.boolean)), (some (.boolean)), (some (.boolean)), (some (.int)), (some (.boolean)), (some (.boolean)), (some (.boolean)), (some (.int)), (some (.int)), (some (.int)), (some (.int)), (some (.int)), (some (.int)), (some (.int)), (some (.int)), (some (.int)), (some (.int)), (some (.int))], [(some (.int)), (some (.int)), (some (.int)), (some (.int)), (some (.int)), (some (.int)), (some (.int)), (some (.int)), (some (.int)), (some (.int)), (some (.int)), (some (.int)), (some (.int)), (some (.int)), (some (.int)), (some (.int)), (some (.int)), (some (.int))], [(some (.int)), (some (.int)), (some (.int)), (some (.int)), (some (.long)), (some (.int)), (some (.int)), (some (.int)), (some (.int)), (some (.int)), (some (.int)), (some (.int)), (some (.int)), (some (.int)), (some (.int)), (some (.int)), (some (.int)), (some (.int))], [(some (.int)), none, (some (.int)), (some (.int)), (some (.int)), (some (.int)), (some (.int)), (some (.int)), (some (.int)), (some (.boolean)), (some (.int)), (some (.int)), (some (.int)), (some (.int)), (some (.boolean)), (some (.int)), (some (.int)), (some (.int))], [(some (.int)), (some (.int)), (some (.boolean)), (some (.long)), (some (.boolean)), (some (.int)), (some (.int)), (some (.int)), (some (.int)), (some (.int)), (some (.int)), (some (.int)), (some (.long)), none, none]]
def pw_ini_l : List (List (Bool)) := [[false, true, false, false, false, false, false, false, false, false, false, false, false, false, false, false, false, false], [false, true, false, false, false, false, false, true, false, false, false, false, true, false, true, false, false, false], [false, false, false, false, false, false, false, false, false, false, false, false, false, false, false, false, false, false], [false, false, false, false, false, false, false, false, false, false, false, false, false, false, false, false, false, false], [false, false, false, true, false, false, false, false, false, false, false, false, false, true, false, false, false, false], [false, false, false, true, false, false, false, false, false, false, true, false, false, false, false, false, false, false], [false, false, false, false, false, false, false, false, false, false, false, false, false, false, false, false, false, false], [false, false, false, false, false, false, false, false, false, false, false, false, false, false, false, false, false, false], [false, false, false, false, false, false, false, false, false, false, false, false, false, false, false, false, false, false], [false, false, false, false, false, false, false, false, false, false, false, false, false, false, false, false, false, false], [false, false, false, true, false, false, false, false, false, false, false, false, false, false, false, false, false, false], [false, false, false, false, false, false, false, false, false, false, false, false, false, false, false, false, false, false], [false, false, false, false, false, false, false, false, false, false, false, false, false, false, false, false, false, false], [false, false, false, false, false, false, false, false, false, false, false, false, false, false, false, false, false, false], [false, false, false, false, false, false, false, false, false, false, false, false, false, false, false, false, false, false], [false, false, false, false, false, false, false, false, false, false, false, false, false, false, false, false, false, false], [false, false, false, false, false, false, false, false, false, false, false, false, false, false, false, false, false, false], [false, false, false, false, false, false, false, false, false, false, false, false, false, false, false, false, false, false], [false, false, false, false, false, false, false, false, false, false, false, false, false, false, false]]
def pw_cal_l : List (List (List (Nat × Nat × Nat × Nat))) := [[[(9, (2, 100, 1)), (12, (2, 183, 1)), (13, (1, 101, 4)), (17, (1, 243, 4)), (18, (1, 102, 3)), (22, (1, 244, 3)), (23, (1, 103, 3)), (26, (1, 245, 3)), (27, (1, 104, 3)), (30, (1, 247, 3)), (31, (1, 105, 2)), (35, (1, 250, 2)), (36, (1, 106, 1)), (40, (1, 251, 1)), (41, (1, 107, 1)), (44, (1, 252, 1)), (45, (1, 108, 2)), (49, (1, 254, 2)), (50, (1, 109, 3)), (53, (1, 258, 3)), (54, (1, 110, 3)), (58, (1, 259, 3)), (59, (1, 111, 1)), (63, (1, 255, 1)), (64, (1, 112, 3)), (67, (1, 256, 3)), (68, (1, 113, 2)), (71, (1, 257, 2)), (72, (1, 114, 3)), (75, (1, 260, 3)), (76, (1, 115, 6)), (80, (1, 261, 6)), (81, (1, 116, 1)), (84, (1, 263, 1)), (85, (1, 117, 1)), (88, (1, 264, 1)), (89, (1, 118, 1)), (92, (1, 267, 1)), (93, (1, 119, 1)), (96, (1, 242, 1)), (97, (1, 122, 2)), (100, (1, 268, 2)), (101, (1, 123, 2)), (104, (1, 269, 2)), (105, (1, 124, 3)), (108, (1, 271, 3)), (109, (1, 125, 3)), (112, (1, 272, 3)), (113, (1, 126, 3)), (116, (1, 273, 3)), (117, (1, 127, 3)), (120, (1, 274, 3)), (121, (1, 128, 3)), (124, (1, 275, 3)), (125, (1, 129, 3)), (128, (1, 276, 3)), (129, (1, 130, 2)), (132, (1, 277, 2)), (133, (1, 131, 1)), (136, (1, 278, 1)), (137, (1, 132, 2)), (140, (1, 279, 2)), (141, (1, 133, 3)), (144, (1, 280, 3)), (145, (1, 134, 2)), (148, (1, 298, 2)), (149, (1, 135, 4)), (152, (1, 294, 4)), (153, (1, 136, 2)), (156, (1, 295, 2)), (157, (1, 137, 1)), (160, (1, 296, 1)), (161, (1, 138, 1)), (164, (1, 297, 1)), (165, (1, 139, 1)), (168, (1, 300, 1)), (169, (1, 140, 2)), (172, (1, 301, 2)), (173, (1, 141, 2)), (176, (1, 304, 2)), (177, (1, 142, 4)), (180, (1, 308, 4)), (181, (1, 143, 3)), (184, (1, 309, 3)), (185, (1, 144, 1)), (188, (1, 281, 1)), (189, (1, 145, 2)), (192, (1, 282, 2)), (193, (1, 146, 2)), (196, (1, 283, 2)), (197, (1, 147, 2)), (200, (1, 284, 2)), (201, (1, 148, 2)), (204, (1, 285, 2)), (205, (1, 149, 2)), (208, (1, 286, 2)), (209, (1, 150, 1)), (212, (1, 287, 1)), (213, (1, 151, 2)), (216, (1, 253, 2)), (217, (1, 152, 2)), (220, (1, 288, 2)), (221, (1, 153, 3)), (224, (1, 289, 3)), (225, (1, 154, 3)), (228, (1, 290, 3)), (229, (1, 155, 2)), (232, (1, 291, 2)), (233, (1, 156, 1)), (237, (1, 292, 1)), (238, (1, 157, 1)), (241, (1, 293, 1)), (242, (1, 159, 3)), (245, (1, 310, 3)), (246, (1, 160, 4)), (249, (1, 311, 4)), (250, (1, 161, 2)), (253, (1, 312, 2)), (254, (1, 162, 1)), (257, (1, 313, 1)), (258, (1, 163, 2)), (261, (1, 314, 2)), (262, (1, 164, 3)), (265, (1, 316, 3)), (266, (1, 165, 3)), (269, (1, 319, 3)), (270, (1, 166, 2)), (273, (1, 317, 2)), (274, (1, 167, 2)), (277, (1, 321, 2)), (278, (1, 168, 2)), (281, (1, 322, 2)), (282, (1, 120, 1)), (285, (1, 323, 1)), (286, (1, 121, 1)), (289, (1, 324, 1)), (290, (1, 158, 1)), (293, (1, 325, 1))], [(11, (2, 85, 1))], [(31, (0, 176, 2)), (35, (1, 5, 2)), (83, (1, 86, 2))], [(89, (1, 87, 2))], [], [(93, (1, 4, 1)), (97, (0, 175, 3)), (101, (0, 177, 2)), (104, (0, 178, 1))], [(93, (1, 4, 1)), (97, (0, 175, 3))], [(93, (1, 4, 1)), (101, (0, 177, 2))], [(108, (0, 332, 2))], [(119, (1, 79, 2)), (122, (0, 335, 2)), (125, (0, 334, 2))], [(35, (1, 5, 2)), (93, (1, 4, 1)), (97, (0, 175, 3)), (128, (0, 333, 1)), (131, (1, 11, 2)), (134, (1, 6, 2))], [(125, (0, 334, 2)), (134, (1, 6, 2))], [(35, (1, 5, 2)), (122, (0, 335, 2)), (134, (1, 6, 2))], [(35, (1, 5, 2)), (134, (1, 6, 2))], [(128, (0, 333, 1)), (137, (1, 8, 2))], [(31, (0, 176, 2)), (128, (0, 333, 1)), (134, (1, 6, 2)), (137, (1, 8, 2)), (140, (0, 179, 1))], [(122, (0, 335, 2)), (125, (0, 334, 2)), (137, (1, 8, 2)), (147, (1, 88, 2))], [(137, (1, 8, 2))]], [[(137, (1, 8, 2)), (150, (1, 7, 1))], [], [(21, (1, 23, 2)), (28, (1, 24, 2)), (32, (1, 33, 2))], [(21, (1, 23, 2)), (28, (1, 24, 2)), (32, (1, 33, 2))], [(21, (1, 23, 2)), (28, (1, 24, 2)), (32, (1, 33, 2))], [], [(36, (2, 32, 1))], [], [(17, (0, 335, 2))], [(35, (1, 29, 2))], [(35, (1, 29, 2)), (39, (0, 173, 3))], [], [], [], [(19, (2, 75, 1)), (26, (2, 93, 1)), (39, (2, 25, 2)), (46, (2, 1, 1)), (47, (2, 30, 1))], [(59, (1, 3, 2)), (63, (1, 31, 2)), (66, (1, 76, 2)), (69, (1, 94, 2)), (72, (1, 26, 2))], [(105, (0, 173, 3))], [(112, (1, 2, 5))]], [[], [(105, (0, 173, 3))], [(136, (1, 8, 2))], [(140, (0, 335, 2))], [(146, (1, 41, 3))], [(140, (0, 335, 2)), (149, (0, 334, 2))], [], [(155, (1, 4, 1))], [(159, (1, 43, 1)), (163, (1, 42, 1))], [], [(168, (1, 47, 2))], [], [(171, (1, 46, 2))], [(155, (1, 4, 1))], [(140, (0, 335, 2)), (174, (1, 51, 2)), (177, (1, 9, 3))], [(177, (1, 9, 3))], [], [(182, (1, 52, 1))]], [[(188, (1, 53, 1))], [(191, (1, 57, 1))], [(140, (0, 335, 2)), (191, (1, 57, 1))], [(140, (0, 335, 2)), (200, (1, 58, 1)), (204, (1, 59, 1)), (207, (1, 61, 1)), (210, (1, 62, 1)), (213, (1, 66, 1)), (216, (1, 68, 1)), (219, (1, 69, 1)), (222, (1, 99, 3)), (225, (1, 70, 1)), (228, (1, 71, 1))], [(149, (0, 334, 2)), (231, (1, 38, 2)), (234, (1, 54, 2)), (238, (0, 332, 2))], [(234, (1, 54, 2)), (241, (1, 50, 2)), (244, (0, 175, 3)), (248, (1, 60, 2))], [(174, (1, 51, 2)), (177, (1, 9, 3))], [(254, (1, 10, 3))], [(261, (1, 63, 1)), (264, (1, 65, 3))], [(268, (1, 39, 1)), (271, (1, 64, 3)), (274, (1, 12, 2))], [], [(140, (0, 335, 2)), (155, (1, 4, 1)), (277, (0, 333, 1)), (280, (1, 13, 2))], [(231, (1, 38, 2)), (234, (1, 54, 2)), (283, (1, 14, 3)), (286, (1, 15, 1)), (289, (1, 67, 1))], [(136, (1, 8, 2))], [(136, (1, 8, 2)), (292, (1, 95, 3))], [(182, (1, 52, 1)), (188, (1, 53, 1)), (277, (0, 333, 1)), (295, (1, 96, 2)), (299, (1, 40, 1)), (302, (1, 97, 2)), (305, (1, 98, 2))], [(231, (1, 38, 2)), (299, (1, 40, 1)), (308, (1, 27, 4)), (312, (1, 16, 2))], [(320, (1, 72, 2))]], [[(188, (1, 53, 1)), (231, (1, 38, 2))], [(327, (1, 34, 2)), (330, (1, 18, 3))], [(136, (1, 8, 2)), (146, (1, 41, 3)), (149, (0, 334, 2))], [], [], [], [], [], [], [], [], [], [], [], [(16, (0, 338, 2))], [], [(32, (1, 89, 2)), (36, (1, 90, 2)), (40, (1, 91, 1))], []], [[], [(43, (1, 92, 2)), (47, (0, 335, 2))], [], [(20, (2, 25, 2)), (27, (0, 338, 2))], [(39, (1, 26, 2))], [], [(57, (0, 335, 2))], [], [], [(63, (1, 27, 4))], [(11, (2, 32, 1)), (24, (2, 19, 1))], [(39, (0, 173, 3)), (47, (1, 20, 2)), (51, (1, 35, 4))], [(39, (0, 173, 3)), (47, (1, 20, 2)), (55, (1, 34, 2)), (63, (1, 4, 1)), (69, (1, 5, 2))], [(39, (0, 173, 3)), (47, (1, 20, 2)), (55, (1, 34, 2))], [(47, (1, 20, 2)), (76, (0, 174, 2))], [(39, (0, 173, 3)), (47, (1, 20, 2)), (93, (1, 55, 2))], [(47, (1, 20, 2))], [(47, (1, 20, 2))]], [[(47, (1, 20, 2)), (112, (1, 37, 2))], [(39, (0, 173, 3)), (47, (1, 20, 2))], [(39, (0, 173, 3)), (47, (1, 20, 2)), (119, (1, 77, 2)), (122, (1, 78, 3))], [(47, (1, 20, 2))], [(39, (0, 173, 3)), (47, (1, 20, 2))], [(39, (0, 173, 3)), (47, (1, 20, 2)), (132, (1, 36, 2))], [(39, (0, 173, 3)), (47, (1, 20, 2)), (76, (0, 174, 2)), (135, (1, 80, 1)), (139, (1, 81, 3))], [(39, (0, 173, 3)), (47, (1, 20, 2)), (76, (0, 174, 2)), (142, (1, 83, 1)), (145, (1, 84, 6))], [(47, (1, 20, 2))], [(47, (1, 20, 2))], [(47, (1, 20, 2)), (155, (1, 82, 1)), (158, (1, 56, 1))], [(162, (1, 21, 2))], [(165, (1, 33, 2)), (168, (1, 22, 2))], [(165, (1, 33, 2)), (168, (1, 22, 2))], [(171, (1, 72, 2))], [(39, (0, 173, 3))], [(175, (1, 73, 3))], [(39, (0, 173, 3))]], [[(39, (0, 173, 3)), (181, (0, 335, 2)), (186, (1, 74, 4))], [(39, (0, 173, 3))], [(39, (0, 173, 3)), (55, (1, 34, 2))], [(39, (0, 173, 3)), (55, (1, 34, 2))], [(39, (0, 173, 3))], [(208, (1, 17, 4)), (212, (1, 40, 1))], [(55, (1, 34, 2)), (218, (1, 39, 1)), (224, (0, 176, 2))], [(234, (1, 28, 5))], [(39, (0, 173, 3))], [(39, (0, 173, 3)), (55, (1, 34, 2))], [(261, (1, 46, 2))], [(264, (1, 48, 1))], [(264, (1, 48, 1)), (267, (0, 333, 1))], [(270, (1, 44, 1))], [(39, (0, 173, 3)), (224, (0, 176, 2)), (270, (1, 44, 1))], [(39, (0, 173, 3)), (267, (0, 333, 1)), (274, (1, 45, 2)), (277, (0, 331, 1))], [(39, (0, 173, 3)), (282, (1, 171, 3)), (288, (0, 336, 2))], [(39, (0, 173, 3)), (224, (0, 176, 2)), (293, (0, 334, 2))]], [[], [(39, (0, 173, 3))], [(39, (0, 173, 3)), (301, (0, 178, 1))], [(304, (0, 179, 1))], [(39, (0, 173, 3)), (307, (1, 50, 2))], [(39, (0, 173, 3)), (310, (1, 51, 2))], [(212, (1, 40, 1))], [(112, (1, 37, 2))], [(39, (0, 173, 3))], [(234, (1, 28, 5))], [(39, (0, 173, 3))], [(39, (0, 173, 3)), (63, (1, 4, 1)), (181, (0, 335, 2))], [(322, (1, 43, 1)), (326, (1, 42, 1)), (329, (0, 181, 1))], [(267, (0, 333, 1)), (333, (1, 7, 1)), (336, (0, 182, 1))], [], [(39, (0, 173, 3)), (93, (1, 55, 2)), (165, (1, 33, 2)), (171, (1, 72, 2))], [(39, (0, 173, 3)), (93, (1, 55, 2)), (165, (1, 33, 2)), (175, (1, 73, 3))], [(158, (1, 56, 1)), (165, (1, 33, 2)), (171, (1, 72, 2))]], [[(165, (1, 33, 2)), (343, (1, 57, 1))], [(39, (0, 173, 3)), (165, (1, 33, 2)), (343, (1, 57, 1)), (349, (0, 180, 1))], [(39, (0, 173, 3)), (307, (1, 50, 2)), (352, (1, 170, 3))], [(39, (0, 173, 3)), (355, (1, 169, 4))], [(39, (0, 173, 3)), (165, (1, 33, 2)), (343, (1, 57, 1))], [(39, (0, 173, 3)), (165, (1, 33, 2)), (343, (1, 57, 1)), (358, (1, 49, 2))], [(39, (0, 173, 3)), (355, (1, 169, 4))], [(165, (1, 33, 2)), (212, (1, 40, 1)), (343, (1, 57, 1))], [(165, (1, 33, 2)), (343, (1, 57, 1))], [(361, (0, 337, 2)), (367, (1, 172, 4))], [(288, (0, 336, 2))], [], [(39, (0, 173, 3))], [], [], [], [], [(301, (0, 178, 1))]], [[(382, (0, 330, 1))], [], [], [(34, (1, 191, 2)), (38, (0, 184, 2))], [], [], [], [], [], [], [], [], [(42, (0, 185, 3))], [], [], [(46, (1, 193, 3))], [(52, (1, 195, 2))], [(46, (1, 193, 3)), (55, (1, 196, 3))]], [[], [(46, (1, 193, 3))], [(46, (1, 193, 3)), (62, (1, 197, 2)), (65, (1, 198, 2))], [(46, (1, 193, 3)), (68, (1, 200, 2)), (71, (0, 189, 2))], [(68, (1, 200, 2))], [(74, (1, 201, 2))], [(62, (1, 197, 2)), (77, (0, 187, 2))], [(62, (1, 197, 2)), (80, (1, 204, 1))], [], [(84, (1, 206, 1)), (87, (0, 190, 2))], [(91, (1, 207, 1))], [(34, (1, 191, 2)), (46, (1, 193, 3)), (68, (1, 200, 2)), (77, (0, 187, 2))], [(34, (1, 191, 2)), (77, (0, 187, 2)), (94, (1, 209, 3))], [(34, (1, 191, 2)), (71, (0, 189, 2)), (91, (1, 207, 1)), (97, (1, 202, 1)), (100, (1, 208, 1))], [(94, (1, 209, 3))], [(34, (1, 191, 2)), (46, (1, 193, 3)), (94, (1, 209, 3)), (100, (1, 208, 1)), (108, (1, 210, 2)), (111, (0, 186, 3)), (115, (1, 212, 2)), (118, (1, 194, 4))], [(46, (1, 193, 3)), (52, (1, 195, 2)), (111, (0, 186, 3)), (118, (1, 194, 4))], [(34, (1, 191, 2)), (46, (1, 193, 3)), (52, (1, 195, 2)), (111, (0, 186, 3)), (118, (1, 194, 4))]], [[(34, (1, 191, 2)), (46, (1, 193, 3)), (118, (1, 194, 4))], [(34, (1, 191, 2)), (46, (1, 193, 3)), (118, (1, 194, 4)), (122, (0, 188, 1)), (125, (1, 214, 2))], [(129, (1, 215, 2)), (132, (1, 216, 2)), (135, (1, 217, 2))], [(87, (0, 190, 2))], [(34, (1, 191, 2)), (46, (1, 193, 3)), (62, (1, 197, 2)), (77, (0, 187, 2)), (80, (1, 204, 1)), (118, (1, 194, 4)), (125, (1, 214, 2)), (138, (1, 219, 2))], [(34, (1, 191, 2)), (46, (1, 193, 3)), (52, (1, 195, 2)), (62, (1, 197, 2)), (77, (0, 187, 2)), (118, (1, 194, 4)), (122, (0, 188, 1)), (125, (1, 214, 2))], [(34, (1, 191, 2)), (144, (1, 220, 1)), (147, (1, 221, 2))], [(65, (1, 198, 2))], [(46, (1, 193, 3)), (74, (1, 201, 2)), (118, (1, 194, 4)), (122, (0, 188, 1)), (150, (1, 223, 2)), (153, (1, 199, 3))], [(34, (1, 191, 2)), (46, (1, 193, 3)), (74, (1, 201, 2)), (100, (1, 208, 1)), (118, (1, 194, 4)), (122, (0, 188, 1)), (156, (1, 224, 2)), (159, (1, 203, 1))], [(34, (1, 191, 2)), (74, (1, 201, 2))], [(34, (1, 191, 2)), (122, (0, 188, 1)), (162, (1, 228, 2)), (165, (1, 205, 1))], [(34, (1, 191, 2)), (46, (1, 193, 3)), (74, (1, 201, 2))], [], [(34, (1, 191, 2)), (77, (0, 187, 2)), (84, (1, 206, 1)), (87, (0, 190, 2)), (91, (1, 207, 1)), (162, (1, 228, 2)), (168, (1, 227, 2)), (172, (1, 229, 2))], [(46, (1, 193, 3))], [(46, (1, 193, 3)), (118, (1, 194, 4)), (175, (1, 231, 3))], [(46, (1, 193, 3)), (62, (1, 197, 2)), (118, (1, 194, 4)), (175, (1, 231, 3)), (178, (1, 232, 3)), (182, (1, 234, 2))]], [[(46, (1, 193, 3)), (118, (1, 194, 4)), (122, (0, 188, 1)), (175, (1, 231, 3)), (178, (1, 232, 3))], [(46, (1, 193, 3)), (74, (1, 201, 2)), (118, (1, 194, 4)), (159, (1, 203, 1)), (165, (1, 205, 1)), (185, (1, 233, 2))], [(188, (1, 268, 2))], [(34, (1, 191, 2)), (191, (1, 211, 1)), (194, (1, 213, 1)), (197, (1, 218, 1)), (200, (1, 222, 1)), (203, (1, 225, 1)), (209, (1, 226, 1)), (212, (1, 230, 1)), (215, (1, 235, 1)), (218, (1, 236, 1))], [], [], [], [(221, (0, 240, 2))], [(221, (0, 240, 2))], [(34, (1, 191, 2)), (42, (0, 185, 3)), (62, (1, 197, 2)), (118, (1, 194, 4)), (153, (1, 199, 3)), (224, (1, 241, 1))], [(42, (0, 185, 3)), (52, (1, 195, 2)), (118, (1, 194, 4)), (224, (1, 241, 1)), (230, (1, 192, 2))], [(42, (0, 185, 3)), (118, (1, 194, 4)), (224, (1, 241, 1)), (230, (1, 192, 2))], [(42, (0, 185, 3))], [(224, (1, 241, 1)), (233, (1, 246, 3))], [(236, (1, 237, 1))], [(42, (0, 185, 3))], [(224, (1, 241, 1)), (239, (1, 249, 3)), (242, (1, 248, 2))], [(224, (1, 241, 1))]], [[(224, (1, 241, 1))], [(34, (1, 191, 2)), (42, (0, 185, 3)), (87, (0, 190, 2))], [(224, (1, 241, 1)), (245, (1, 253, 2))], [(224, (1, 241, 1))], [(42, (0, 185, 3)), (224, (1, 241, 1))], [(42, (0, 185, 3)), (46, (1, 193, 3)), (62, (1, 197, 2)), (224, (1, 241, 1))], [(42, (0, 185, 3)), (224, (1, 241, 1))], [(42, (0, 185, 3)), (224, (1, 241, 1))], [(42, (0, 185, 3)), (224, (1, 241, 1))], [(42, (0, 185, 3)), (224, (1, 241, 1)), (233, (1, 246, 3))], [(224, (1, 241, 1))], [(248, (1, 262, 4))], [(248, (1, 262, 4))], [], [(236, (1, 237, 1))], [(224, (1, 241, 1)), (251, (1, 265, 1)), (254, (1, 266, 1))], [(91, (1, 207, 1)), (159, (1, 203, 1))], [(34, (1, 191, 2)), (42, (0, 185, 3))]], [[(46, (1, 193, 3)), (55, (1, 196, 3)), (62, (1, 197, 2)), (65, (1, 198, 2)), (74, (1, 201, 2))], [(230, (1, 192, 2)), (258, (1, 270, 3))], [(42, (0, 185, 3))], [(42, (0, 185, 3)), (46, (1, 193, 3)), (62, (1, 197, 2)), (74, (1, 201, 2)), (77, (0, 187, 2))], [(42, (0, 185, 3))], [(42, (0, 185, 3)), (46, (1, 193, 3)), (230, (1, 192, 2))], [(42, (0, 185, 3)), (46, (1, 193, 3)), (175, (1, 231, 3)), (230, (1, 192, 2))], [(42, (0, 185, 3))], [(34, (1, 191, 2)), (46, (1, 193, 3)), (74, (1, 201, 2)), (165, (1, 205, 1))], [(34, (1, 191, 2)), (46, (1, 193, 3)), (80, (1, 204, 1)), (153, (1, 199, 3)), (230, (1, 192, 2))], [(42, (0, 185, 3))], [(46, (1, 193, 3)), (62, (1, 197, 2)), (65, (1, 198, 2))], [(42, (0, 185, 3)), (62, (1, 197, 2))], [(42, (0, 185, 3)), (65, (1, 198, 2))], [(150, (1, 223, 2))], [(42, (0, 185, 3)), (108, (1, 210, 2))], [(42, (0, 185, 3)), (115, (1, 212, 2))], [(165, (1, 205, 1))]], [[(42, (0, 185, 3))], [(42, (0, 185, 3))], [(42, (0, 185, 3))], [(42, (0, 185, 3)), (46, (1, 193, 3)), (52, (1, 195, 2)), (77, (0, 187, 2))], [(46, (1, 193, 3)), (52, (1, 195, 2)), (263, (0, 327, 1))], [(46, (1, 193, 3)), (55, (1, 196, 3)), (62, (1, 197, 2)), (122, (0, 188, 1)), (269, (0, 329, 1))], [(42, (0, 185, 3)), (46, (1, 193, 3)), (62, (1, 197, 2))], [(62, (1, 197, 2))], [(62, (1, 197, 2)), (275, (1, 295, 2))], [(62, (1, 197, 2)), (122, (0, 188, 1)), (278, (1, 296, 1))], [(42, (0, 185, 3))], [(46, (1, 193, 3)), (52, (1, 195, 2))], [(281, (1, 299, 1))], [(42, (0, 185, 3)), (46, (1, 193, 3)), (153, (1, 199, 3)), (281, (1, 299, 1))], [(46, (1, 193, 3)), (87, (0, 190, 2)), (122, (0, 188, 1))], [], [(42, (0, 185, 3)), (284, (0, 303, 1)), (287, (1, 302, 2))], []], [[(290, (0, 305, 4))], [(290, (0, 305, 4)), (294, (1, 306, 5))], [(42, (0, 185, 3)), (290, (0, 305, 4)), (297, (1, 307, 1))], [(42, (0, 185, 3)), (46, (1, 193, 3)), (153, (1, 199, 3))], [(188, (1, 268, 2)), (239, (1, 249, 3)), (242, (1, 248, 2)), (300, (1, 238, 1)), (303, (1, 239, 1))], [(239, (1, 249, 3)), (242, (1, 248, 2)), (300, (1, 238, 1)), (303, (1, 239, 1)), (306, (1, 271, 3))], [(188, (1, 268, 2)), (254, (1, 266, 1)), (300, (1, 238, 1)), (303, (1, 239, 1))], [(236, (1, 237, 1)), (300, (1, 238, 1)), (303, (1, 239, 1))], [(87, (0, 190, 2)), (236, (1, 237, 1)), (239, (1, 249, 3)), (300, (1, 238, 1)), (303, (1, 239, 1))], [(236, (1, 237, 1)), (300, (1, 238, 1)), (303, (1, 239, 1))], [(34, (1, 191, 2)), (42, (0, 185, 3)), (239, (1, 249, 3)), (309, (1, 315, 3))], [(42, (0, 185, 3)), (236, (1, 237, 1)), (300, (1, 238, 1)), (303, (1, 239, 1))], [(165, (1, 205, 1)), (242, (1, 248, 2)), (300, (1, 238, 1)), (303, (1, 239, 1))], [(42, (0, 185, 3)), (239, (1, 249, 3)), (312, (1, 318, 4))], [(46, (1, 193, 3)), (52, (1, 195, 2))], [(42, (0, 185, 3)), (236, (1, 237, 1)), (300, (1, 238, 1)), (303, (1, 239, 1)), (315, (1, 320, 2))], [(239, (1, 249, 3)), (312, (1, 318, 4))], [(38, (0, 184, 2))]], [[(38, (0, 184, 2))], [], [], [(122, (0, 326, 1))], [], [(59, (0, 328, 1))], [], [], [], [], [], [], [], [], []]]
def pw_nat_l : List (List (List (Nat × Nat))) := [[[], [(3, 0)], [], [], [], [], [], [], [], [], [], [], [], [], [], [], [], []], [[], [(3, 0)], [], [], [], [], [], [(1, 0)], [(23, 1)], [], [], [], [(3, 0)], [(18, 1)], [(3, 0)], [], [], []], [[], [], [], [], [], [], [], [], [], [], [], [], [], [], [], [], [], []], [[], [], [], [], [], [], [], [], [], [], [], [], [], [], [], [], [], []], [[], [], [], [(3, 0), (13, 2)], [(38, 1)], [], [], [], [], [], [], [], [], [(1, 0)], [], [(26, 1)], [], []], [[(26, 1)], [], [], [(3, 0)], [(33, 1)], [], [], [], [], [], [(3, 0)], [], [], [], [], [], [], []], [[], [], [], [], [], [], [], [], [], [], [], [], [], [], [], [], [], []], [[], [], [], [], [], [], [], [], [], [], [], [], [], [], [], [], [], []], [[], [], [], [], [], [], [], [], [], [], [], [], [], [], [], [], [], []], [[], [], [], [], [], [], [], [], [], [], [], [], [], [], [], [], [], []], [[], [], [], [(1, 0)], [], [], [], [], [], [], [], [], [], [], [], [], [], []], [[], [], [], [], [], [], [], [], [], [], [], [], [], [], [], [], [], []], [[], [], [], [], [], [], [], [], [], [], [], [], [], [], [], [], [], []], [[], [], [], [], [], [], [], [], [], [], [], [], [], [], [], [], [], []], [[], [], [], [], [], [], [], [], [], [], [], [], [], [], [], [], [], []], [[], [], [], [], [], [], [], [], [], [], [], [], [], [], [], [], [], []], [[], [], [], [], [], [], [], [], [], [], [], [], [], [], [], [], [], []], [[], [], [], [], [], [], [], [], [], [], [], [], [], [], [], [], [], []], [[], [], [], [(134, 3)], [], [(74, 4)], [], [], [], [], [], [], [], [], []]]
/-- the classes: names, fields (name, type as written, type, final) -/
def pw_cn_l : List String := ["PackWatch$Cell", "PackWatch$History", "PackWatch$Lines", "PackWatch$Mark", "PackWatch$State", "PackWatch$Told", "PackWatch$Turns", "PackWatch$Watch", "PackWatch", "PackWatchModel", "PackWatchLaw", "java/lang/Double", "java/lang/Float", "java/lang/Integer", "java/lang/Math", "java/util/Arrays"]
def pw_fld_d : List (List (String × String × FieldType × Bool)) := [[("capacity", "I", .int, false), ("toldCapacity", "I", .int, false), ("charge", "I", .int, false), ("part", "I", .int, false), ("rest", "I", .int, false), ("ohms", "I", .int, false), ("warmth", "I", .int, false), ("polar", "I", .int, false), ("reckoned", "I", .int, false), ("through", "I", .int, false), ("hadSecond", "Z", .boolean, false), ("latestVolts", "I", .int, false), ("greatestVolts", "I", .int, false), ("leastVolts", "I", .int, false), ("measuredOhms", "I", .int, false), ("guess", "I", .int, false), ("passed", "I", .int, false), ("restingPart", "I", .int, false), ("heldBack", "I", .int, false), ("turns", "LPackWatch$Turns;", (.object "PackWatch$Turns"), true)],
  [("states", "[LPackWatch$State;", (.array (.object "PackWatch$State")), true), ("first", "I", .int, false), ("count", "I", .int, false)],
  [("most", "I", .int, true), ("row", "[I", (.array .int), true), ("first", "I", .int, false), ("count", "I", .int, false)],
  [("parts", "[I", (.array .int), true), ("throughs", "[I", (.array .int), true), ("count", "I", .int, false), ("time", "I", .int, false)],
  [("cells", "[LPackWatch$Cell;", (.array (.object "PackWatch$Cell")), true), ("told", "LPackWatch$Told;", (.object "PackWatch$Told"), true), ("watch", "LPackWatch$Watch;", (.object "PackWatch$Watch"), true), ("marks", "[LPackWatch$Mark;", (.array (.object "PackWatch$Mark")), true), ("trace", "LPackWatch$Lines;", (.object "PackWatch$Lines"), true), ("count", "I", .int, false), ("time", "I", .int, false), ("state", "I", .int, false), ("bus", "I", .int, false), ("current", "I", .int, false), ("currentAhead", "I", .int, false), ("board", "I", .int, false), ("rested", "I", .int, false), ("shunted", "I", .int, false), ("moved", "I", .int, false), ("lost", "I", .int, false), ("shuntedBits", "I", .int, false)],
  [("settings", "[I", (.array .int), true), ("stuckHow", "[I", (.array .int), true), ("prices", "[I", (.array .int), true), ("zones", "[I", (.array .int), true), ("pieces", "[I", (.array .int), true), ("rules", "[I", (.array .int), true), ("zoneCount", "I", .int, false), ("pieceCount", "I", .int, false), ("ruleCount", "I", .int, false)],
  [("at", "[I", (.array .int), true), ("cycles", "[I", (.array .int), true), ("count", "I", .int, false)],
  [("whens", "[I", (.array .int), true), ("culprits", "[I", (.array .int), true), ("book", "LPackWatch$Lines;", (.object "PackWatch$Lines"), true), ("latched", "I", .int, false), ("silence", "I", .int, false), ("leakSeconds", "I", .int, false), ("otherThanOrdered", "Z", .boolean, false)],
  [("now", "LPackWatch$State;", (.object "PackWatch$State"), true), ("image", "LPackWatch$State;", (.object "PackWatch$State"), true), ("trial", "LPackWatch$State;", (.object "PackWatch$State"), true), ("steps", "LPackWatch$History;", (.object "PackWatch$History"), true), ("imageSteps", "LPackWatch$History;", (.object "PackWatch$History"), true), ("planOff", "[J", (.array .long), true), ("planOn", "[J", (.array .long), true)],
  [("bounds", "[I", (.array .int), true), ("rests", "[I", (.array .int), true), ("a", "[I", (.array .int), true), ("image", "[I", (.array .int), true), ("isSlow", "Z", .boolean, false), ("shuntPart", "[I", (.array .int), true), ("isWorking", "Z", .boolean, false), ("isPlain", "Z", .boolean, false), ("aside", "[I", (.array .int), true), ("least", "[I", (.array .int), true)]]
def pw_fld_l : List (List (Nat × Nat × Nat)) := [[(12, (0, 19)), (18, (0, 0)), (22, (0, 1)), (25, (0, 5)), (28, (0, 6)), (39, (0, 2)), (42, (0, 8)), (45, (0, 7)), (48, (0, 9)), (51, (0, 10)), (55, (0, 11)), (58, (0, 12)), (61, (0, 13)), (65, (0, 14)), (68, (0, 15)), (71, (0, 16)), (74, (0, 17)), (77, (0, 18)), (80, (0, 3)), (86, (0, 4)), (113, (5, 0)), (153, (6, 2))], [(11, (1, 0)), (17, (1, 2)), (25, (1, 1))], [(7, (2, 0)), (13, (2, 1)), (29, (2, 2)), (32, (2, 3))], [(9, (3, 0)), (15, (3, 1)), (24, (3, 2)), (28, (3, 3))], [(11, (4, 0)), (20, (4, 1)), (27, (4, 2)), (33, (4, 3)), (42, (4, 4)), (52, (4, 11)), (56, (4, 5)), (75, (4, 6)), (78, (4, 7)), (81, (4, 8)), (84, (4, 9)), (87, (4, 10)), (90, (4, 12)), (93, (4, 13)), (96, (4, 14)), (99, (4, 15)), (102, (4, 16)), (109, (5, 0)), (116, (3, 0)), (119, (0, 3)), (122, (3, 1)), (125, (0, 9)), (128, (3, 2)), (129, (3, 3)), (130, (7, 3)), (133, (7, 0)), (152, (0, 2)), (185, (5, 1)), (194, (5, 7)), (197, (5, 4)), (251, (0, 18)), (258, (0, 6)), (314, (5, 5)), (317, (5, 8)), (323, (5, 6))], [(18, (5, 0)), (23, (5, 1)), (26, (5, 2)), (29, (5, 3)), (32, (5, 4)), (35, (5, 5)), (44, (5, 6)), (48, (5, 7)), (51, (5, 8))], [(9, (6, 0)), (13, (6, 1)), (22, (6, 2))], [(9, (7, 0)), (15, (7, 1)), (23, (7, 2)), (43, (7, 3)), (47, (7, 4)), (50, (7, 5)), (53, (7, 6))], [(12, (8, 0)), (16, (8, 1)), (19, (8, 2)), (25, (8, 3)), (29, (8, 4)), (32, (8, 5)), (36, (8, 6)), (43, (4, 5)), (59, (4, 0)), (73, (0, 6)), (80, (4, 1)), (84, (5, 0)), (90, (4, 6)), (97, (4, 7)), (100, (4, 2)), (104, (7, 3)), (109, (4, 9)), (115, (5, 1)), (126, (7, 4)), (129, (5, 2)), (149, (5, 8)), (152, (5, 7)), (161, (1, 2)), (178, (5, 5)), (189, (5, 6)), (192, (5, 3)), (195, (0, 19)), (199, (6, 1)), (204, (6, 2)), (205, (6, 0)), (215, (0, 2)), (221, (0, 0)), (227, (4, 4)), (231, (2, 3)), (238, (7, 1)), (241, (4, 3)), (245, (3, 2)), (248, (3, 0)), (251, (0, 3)), (254, (0, 9)), (257, (3, 1)), (260, (3, 3)), (296, (0, 4)), (313, (7, 0)), (316, (7, 2)), (319, (5, 4)), (340, (4, 14)), (346, (4, 16))], [(10, (9, 0)), (16, (9, 1)), (19, (9, 2)), (22, (9, 3)), (25, (9, 5)), (28, (9, 8)), (31, (9, 9)), (104, (9, 4)), (141, (9, 6)), (206, (9, 7))], [], [], [], [], [], []]
def pw_sta_l : List (List (Nat × Nat)) := [[], [], [], [], [(48, 1)], [(9, 1)], [], [], [(371, 3), (374, 4), (379, 2)], [], [], [], [], [], [], []]
def pw_con_l : List (List (Nat × Value)) := [[(64, .int (-1000000 : Int32)), (143, .long (1000 : Int64)), (145, .long (3600 : Int64)), (156, .int (-1000000000 : Int32))], [], [], [], [(166, .long (1000 : Int64)), (181, .int (2147483647 : Int32)), (326, .int (-1000000000 : Int32))], [(54, .int (2147483647 : Int32))], [], [], [(118, .int (99999 : Int32)), (174, .int (-1000000000 : Int32)), (273, .int (2147483647 : Int32)), (286, .long (1152921504606846976 : Int64)), (291, .long (16777215 : Int64)), (299, .long (3600000 : Int64)), (377, .long (1000 : Int64)), (385, .double (4611686018427387904 : UInt64)), (387, .double (4841369599423283200 : UInt64)), (389, .float (1258291200 : UInt32))], [(7, .int (99999 : Int32)), (8, .int (50000 : Int32)), (9, .int (-99999 : Int32)), (50, .long (1000 : Int64)), (58, .long (36 : Int64)), (60, .long (10 : Int64)), (227, .int (-2000000000 : Int32)), (228, .int (2000000000 : Int32)), (229, .int (-1000000 : Int32)), (257, .int (-1000000000 : Int32)), (261, .long (3600000 : Int64))], [], [(137, .long (9221120237041090560 : Int64))], [(77, .int (2143289344 : Int32))], [(264, .int (65536 : Int32)), (265, .int (1431655765 : Int32)), (266, .int (858993459 : Int32)), (267, .int (252645135 : Int32))], [], []]
def pw_new_l : List (List (Nat × Nat × List Value)) := [[(9, (6, [.null, .null, .int 0]))], [(9, (4, [.null, .null, .null, .null, .null, .int 0, .int 0, .int 0, .int 0, .int 0, .int 0, .int 0, .int 0, .int 0, .int 0, .int 0, .int 0]))], [], [], [(9, (0, [.int 0, .int 0, .int 0, .int 0, .int 0, .int 0, .int 0, .int 0, .int 0, .int 0, .int 0, .int 0, .int 0, .int 0, .int 0, .int 0, .int 0, .int 0, .int 0, .null])), (17, (5, [.null, .null, .null, .null, .null, .null, .int 0, .int 0, .int 0])), (24, (7, [.null, .null, .null, .int 0, .int 0, .int 0, .int 0])), (31, (3, [.null, .null, .int 0, .int 0])), (37, (2, [.int 0, .null, .int 0, .int 0]))], [], [], [(18, (2, [.int 0, .null, .int 0, .int 0]))], [(9, (4, [.null, .null, .null, .null, .null, .int 0, .int 0, .int 0, .int 0, .int 0, .int 0, .int 0, .int 0, .int 0, .int 0, .int 0, .int 0])), (22, (1, [.null, .int 0, .int 0]))], [], [(7, (8, [.null, .null, .null, .null, .null, .null, .null])), (10, (9, [.null, .null, .null, .null, .int 0, .null, .int 0, .int 0, .null, .null]))], [], [], [], [], []]
def pw_anw_l : List (List (Nat × Nat)) := [[], [(9, 4)], [], [], [(9, 2), (31, 3)], [], [], [], [], [], [], [], [], [], [], []]
def pw_elt_l : List Nat := [0, 0, 0, 3, 4]
def pw_S : List (String × String × String) := [("PackWatch", "SETTING_FIRST", "[I"), ("PackWatch", "REST_CURVE", "[I"), ("PackWatch", "SETTING_LEAST", "[I"), ("PackWatch", "SETTING_MOST", "[I")]
def pw_tab_l : List (List Int32) := [[4200, 2900, 600, 0, 50000, 200, 250, 0, 20, 9999, 500, 0, 100, 4, 10, 500, 90, 900, 0, 10, 0, 10, 0, 0, 0, 0, 0, 0, 0, 1],
  [3000, 3450, 3550, 3600, 3650, 3700, 3760, 3840, 3930, 4040, 4200],
  [3000, 2000, 200, -400, 1, 1, -400, 0, 0, 0, 0, 0, 0, 0, 0, 0, 0, 1, -999, 1, -99999, 1, 0, 0, 0, 0, 0, 0, 0, 0],
  [4500, 3700, 900, 200, 99999, 999, 600, 9999, 9999, 99999, 9999, 2, 9999, 16, 999, 99999, 100, 2000, 999, 99, 99999, 99, 64, 4500, 9999, 99, 200, 999, 999, 1]]
def pw_code (mi pc : Nat) : Option Instr := am_fd (am_g2 pw_code_l [] mi) pc
def pw_own (mi : Nat) : Nat := am_g2 pw_own_l 0 mi
def pw_fld (o i : Nat) : Option (Nat × Nat) := am_fd (pw_fld_l.getD o []) i
def pw_sta (o i : Nat) : Option Nat := am_fd (pw_sta_l.getD o []) i
def pw_con (o i : Nat) : Option Value := am_fd (pw_con_l.getD o []) i
def pw_new (o i : Nat) : Option (Nat × List Value) := am_fd (pw_new_l.getD o []) i
def pw_anw (o i : Nat) : Option Nat := am_fd (pw_anw_l.getD o []) i
def pw_cal (mi i : Nat) : Option (Nat × Nat × Nat) := am_fd (am_g2 pw_cal_l [] mi) i
def pw_nat (mi i : Nat) : Option Nat := am_fd (am_g2 pw_nat_l [] mi) i
def pw_ret (mi : Nat) : Option FieldType := am_g2 pw_ret_l none mi
def pw_tbl (k : Nat) : Nat → Int32 := fun j => ((pw_tab_l.getD k []).getD j 0)
/-- the tables: 0 the script, then the statics -/
def pw_cst (L : Nat) (xs : Nat → Int32) (c : Nat) : Option (Nat × (Nat → Int32)) := match c with
  | 0 => some (L, xs)
  | k + 1 => if k < pw_tab_l.length then some ((pw_tab_l.getD k []).length, pw_tbl k) else none
def pw_fty (ci k : Nat) : FieldType := ((pw_fld_d.getD ci []).getD k ("", "", .int, false)).2.2.1
def pw_mxl (mi : Nat) : Nat := am_g2 pw_mxl_l 0 mi
def pw_fin (ci k : Nat) : Bool := ((pw_fld_d.getD ci []).getD k ("", "", .int, false)).2.2.2
def pw_ini (mi : Nat) : Bool := am_g2 pw_ini_l false mi
def pw_elt (t : Nat) : Nat := pw_elt_l.getD t 0
/-- THE PROGRAM, on a script of L ints xs -/
def pw_P (L : Nat) (xs : Nat → Int32) : am_Pg := (pw_code, pw_own, pw_fld, pw_sta, pw_con, pw_new, pw_anw, pw_cal, pw_nat, pw_ret, pw_cst L xs, pw_fty, pw_mxl, pw_fin, pw_ini, pw_elt)
def pw_cn (o : Nat) : String := pw_cn_l.getD o ""
def pw_y (mi : Nat) : MethodName := am_g2 pw_y_l ⟨"", "", ""⟩ mi
def pw_cc (mi : Nat) : ByteArray := am_g2 pw_cc_l ByteArray.empty mi
def pw_rF (mi : Nat) : Nat := am_g2 pw_rF_l 0 mi
def pw_rL (mi : Nat) : Nat := am_g2 pw_rL_l 0 mi
def pw_T (ci : Nat) : u_T := fun k => match (pw_fld_d.getD ci []).getD k ("", "", .int, false) with
  | (n, d, _, f) => (pw_cn ci, n, d, f)
def pw_kl : List vw_C := [(pw_cn 0, pw_T 0, 20), (pw_cn 1, pw_T 1, 3), (pw_cn 2, pw_T 2, 4), (pw_cn 3, pw_T 3, 4), (pw_cn 4, pw_T 4, 17), (pw_cn 5, pw_T 5, 9), (pw_cn 6, pw_T 6, 3), (pw_cn 7, pw_T 7, 7), (pw_cn 8, pw_T 8, 7), (pw_cn 9, pw_T 9, 10)]
def pw_ty : List FieldType := [.int, .long, .object "PackWatch$Cell", .object "PackWatch$Mark", .object "PackWatch$State"]
def pw_Wlay : List Cond := ((List.range 10).map (fun ci => u_ws (pw_cn ci) (pw_T ci) ((pw_fld_d.getD ci []).length))).flatten
def pw_Wlay_i : List Nat := [308, 310, 312, 314, 316, 318, 320, 322, 324, 326, 328, 330, 332, 334, 336, 338, 340, 342, 344, 346, 451, 453, 455, 206, 208, 210, 212, 366, 368, 370, 372, 404, 406, 408, 410, 412, 414, 416, 418, 420, 422, 424, 426, 428, 430, 432, 434, 436, 169, 171, 173, 175, 177, 179, 181, 183, 185, 269, 271, 273, 232, 234, 236, 238, 240, 242, 244, 465, 467, 469, 471, 473, 475, 477, 1284, 1286, 1288, 1290, 1292, 1294, 1296, 1298, 1300, 1302]
def pw_fe : List (Nat × Nat × Nat × Nat) := [(0, 12, 0, 19), (0, 18, 0, 0), (0, 22, 0, 1), (0, 25, 0, 5), (0, 28, 0, 6), (0, 39, 0, 2), (0, 42, 0, 8), (0, 45, 0, 7), (0, 48, 0, 9), (0, 51, 0, 10), (0, 55, 0, 11), (0, 58, 0, 12), (0, 61, 0, 13), (0, 65, 0, 14), (0, 68, 0, 15), (0, 71, 0, 16), (0, 74, 0, 17), (0, 77, 0, 18), (0, 80, 0, 3), (0, 86, 0, 4), (0, 113, 5, 0), (0, 153, 6, 2), (1, 11, 1, 0), (1, 17, 1, 2), (1, 25, 1, 1), (2, 7, 2, 0), (2, 13, 2, 1), (2, 29, 2, 2), (2, 32, 2, 3), (3, 9, 3, 0), (3, 15, 3, 1), (3, 24, 3, 2), (3, 28, 3, 3), (4, 11, 4, 0), (4, 20, 4, 1), (4, 27, 4, 2), (4, 33, 4, 3), (4, 42, 4, 4), (4, 52, 4, 11), (4, 56, 4, 5), (4, 75, 4, 6), (4, 78, 4, 7), (4, 81, 4, 8), (4, 84, 4, 9), (4, 87, 4, 10), (4, 90, 4, 12), (4, 93, 4, 13), (4, 96, 4, 14), (4, 99, 4, 15), (4, 102, 4, 16), (4, 109, 5, 0), (4, 116, 3, 0), (4, 119, 0, 3), (4, 122, 3, 1), (4, 125, 0, 9), (4, 128, 3, 2), (4, 129, 3, 3), (4, 130, 7, 3), (4, 133, 7, 0), (4, 152, 0, 2), (4, 185, 5, 1), (4, 194, 5, 7), (4, 197, 5, 4), (4, 251, 0, 18), (4, 258, 0, 6), (4, 314, 5, 5), (4, 317, 5, 8), (4, 323, 5, 6), (5, 18, 5, 0), (5, 23, 5, 1), (5, 26, 5, 2), (5, 29, 5, 3), (5, 32, 5, 4), (5, 35, 5, 5), (5, 44, 5, 6), (5, 48, 5, 7), (5, 51, 5, 8), (6, 9, 6, 0), (6, 13, 6, 1), (6, 22, 6, 2), (7, 9, 7, 0), (7, 15, 7, 1), (7, 23, 7, 2), (7, 43, 7, 3), (7, 47, 7, 4), (7, 50, 7, 5), (7, 53, 7, 6), (8, 12, 8, 0), (8, 16, 8, 1), (8, 19, 8, 2), (8, 25, 8, 3), (8, 29, 8, 4), (8, 32, 8, 5), (8, 36, 8, 6), (8, 43, 4, 5), (8, 59, 4, 0), (8, 73, 0, 6), (8, 80, 4, 1), (8, 84, 5, 0), (8, 90, 4, 6), (8, 97, 4, 7), (8, 100, 4, 2), (8, 104, 7, 3), (8, 109, 4, 9), (8, 115, 5, 1), (8, 126, 7, 4), (8, 129, 5, 2), (8, 149, 5, 8), (8, 152, 5, 7), (8, 161, 1, 2), (8, 178, 5, 5), (8, 189, 5, 6), (8, 192, 5, 3), (8, 195, 0, 19), (8, 199, 6, 1), (8, 204, 6, 2), (8, 205, 6, 0), (8, 215, 0, 2), (8, 221, 0, 0), (8, 227, 4, 4), (8, 231, 2, 3), (8, 238, 7, 1), (8, 241, 4, 3), (8, 245, 3, 2), (8, 248, 3, 0), (8, 251, 0, 3), (8, 254, 0, 9), (8, 257, 3, 1), (8, 260, 3, 3), (8, 296, 0, 4), (8, 313, 7, 0), (8, 316, 7, 2), (8, 319, 5, 4), (8, 340, 4, 14), (8, 346, 4, 16), (9, 10, 9, 0), (9, 16, 9, 1), (9, 19, 9, 2), (9, 22, 9, 3), (9, 25, 9, 5), (9, 28, 9, 8), (9, 31, 9, 9), (9, 104, 9, 4), (9, 141, 9, 6), (9, 206, 9, 7)]
def pw_Wfl : List Cond := pw_fe.map (fun e => Cond.fieldLink (pw_cn e.1) e.2.1 (pw_cn e.2.2.1) (pw_T e.2.2.1 e.2.2.2).2.1 (pw_T e.2.2.1 e.2.2.2).2.2.1)
def pw_Wfl_i : List Nat := [306, 276, 278, 287, 288, 279, 292, 291, 293, 296, 297, 298, 299, 300, 301, 302, 303, 304, 282, 285, 146, 267, 447, 449, 448, 201, 202, 203, 204, 354, 357, 360, 363, 376, 378, 380, 382, 384, 396, 386, 388, 390, 392, 393, 395, 397, 398, 399, 401, 402, 144, 355, 283, 358, 294, 361, 364, 226, 219, 280, 149, 165, 155, 305, 290, 159, 168, 162, 143, 147, 150, 152, 154, 157, 160, 163, 166, 262, 264, 266, 218, 221, 223, 225, 228, 230, 231, 458, 459, 460, 461, 462, 463, 464, 387, 377, 289, 379, 145, 389, 391, 381, 227, 394, 148, 229, 151, 167, 164, 450, 158, 161, 153, 307, 265, 268, 263, 281, 277, 385, 205, 222, 383, 362, 356, 284, 295, 359, 365, 286, 220, 224, 156, 400, 403, 1274, 1275, 1276, 1277, 1279, 1282, 1283, 1278, 1280, 1281]
def pw_fn : List (Nat × Nat × Nat × Nat × String) := []
def pw_Nfl : List Cond := pw_fn.map (fun e => Cond.fieldLinkNest (pw_cn e.1) e.2.1 (pw_cn e.2.2.1) (pw_T e.2.2.1 e.2.2.2.1).2.1 (pw_T e.2.2.1 e.2.2.2.1).2.2.1 e.2.2.2.2)
def pw_Nfl_i : List Nat := []
def pw_se : List (Nat × Nat × Nat) := [(8, 371, 3), (8, 374, 4), (8, 379, 2)]
def pw_Wst : List Cond := pw_se.map (fun e => Cond.fieldLink (pw_cn e.1) e.2.1 (pw_S.getD (e.2.2 - 1) ("", "", "")).1 (pw_S.getD (e.2.2 - 1) ("", "", "")).2.1 (pw_S.getD (e.2.2 - 1) ("", "", "")).2.2)
def pw_Wst_i : List Nat := [599, 601, 569]
def pw_sn : List (Nat × Nat × Nat × String) := [(4, 48, 1, "PackWatch"), (5, 9, 1, "PackWatch")]
def pw_Nst : List Cond := pw_sn.map (fun e => Cond.fieldLinkNest (pw_cn e.1) e.2.1 (pw_S.getD (e.2.2.1 - 1) ("", "", "")).1 (pw_S.getD (e.2.2.1 - 1) ("", "", "")).2.1 (pw_S.getD (e.2.2.1 - 1) ("", "", "")).2.2 e.2.2.2)
def pw_Nst_i : List Nat := [375, 134]
def pw_Wco : List Cond := [.constant (pw_cn 0) 64 (-1000000 : Int32), .constantLong (pw_cn 0) 143 (1000 : Int64), .constantLong (pw_cn 0) 145 (3600 : Int64), .constant (pw_cn 0) 156 (-1000000000 : Int32), .constantLong (pw_cn 4) 166 (1000 : Int64), .constant (pw_cn 4) 181 (2147483647 : Int32), .constant (pw_cn 4) 326 (-1000000000 : Int32), .constant (pw_cn 5) 54 (2147483647 : Int32), .constant (pw_cn 8) 118 (99999 : Int32), .constant (pw_cn 8) 174 (-1000000000 : Int32), .constant (pw_cn 8) 273 (2147483647 : Int32), .constantLong (pw_cn 8) 286 (1152921504606846976 : Int64), .constantLong (pw_cn 8) 291 (16777215 : Int64), .constantLong (pw_cn 8) 299 (3600000 : Int64), .constantLong (pw_cn 8) 377 (1000 : Int64), .constantDouble (pw_cn 8) 385 (4611686018427387904 : UInt64), .constantDouble (pw_cn 8) 387 (4841369599423283200 : UInt64), .constantFloat (pw_cn 8) 389 (1258291200 : UInt32), .constant (pw_cn 9) 7 (99999 : Int32), .constant (pw_cn 9) 8 (50000 : Int32), .constant (pw_cn 9) 9 (-99999 : Int32), .constantLong (pw_cn 9) 50 (1000 : Int64), .constantLong (pw_cn 9) 58 (36 : Int64), .constantLong (pw_cn 9) 60 (10 : Int64), .constant (pw_cn 9) 227 (-2000000000 : Int32), .constant (pw_cn 9) 228 (2000000000 : Int32), .constant (pw_cn 9) 229 (-1000000 : Int32), .constant (pw_cn 9) 257 (-1000000000 : Int32), .constantLong (pw_cn 9) 261 (3600000 : Int64), .constantLong (pw_cn 11) 137 (9221120237041090560 : Int64), .constant (pw_cn 12) 77 (2143289344 : Int32), .constant (pw_cn 13) 264 (65536 : Int32), .constant (pw_cn 13) 265 (1431655765 : Int32), .constant (pw_cn 13) 266 (858993459 : Int32), .constant (pw_cn 13) 267 (252645135 : Int32)]
def pw_Wco_i : List Nat := [571, 742, 743, 973, 1077, 659, 831, 668, 856, 955, 1086, 1105, 1116, 1126, 565, 1183, 1184, 1193, 1264, 1265, 1266, 1348, 1331, 1336, 1337, 1338, 1339, 1560, 1683, 1737, 1751, 1225, 1094, 1095, 1096]
def pw_Wnl : List Cond := [.classLink (pw_cn 0) 9 (pw_cn 6), .classLink (pw_cn 1) 9 (pw_cn 4), .classLink (pw_cn 4) 9 (pw_cn 0), .classLink (pw_cn 4) 17 (pw_cn 5), .classLink (pw_cn 4) 24 (pw_cn 7), .classLink (pw_cn 4) 31 (pw_cn 3), .classLink (pw_cn 4) 37 (pw_cn 2), .classLink (pw_cn 7) 18 (pw_cn 2), .classLink (pw_cn 8) 9 (pw_cn 4), .classLink (pw_cn 8) 22 (pw_cn 1), .classLink (pw_cn 10) 7 (pw_cn 8), .classLink (pw_cn 10) 10 (pw_cn 9)]
def pw_Wnl_i : List Nat := [256, 445, 126, 128, 189, 247, 249, 195, 120, 439, 112, 1258]
def pw_Wni : List Cond := [.instantiable (pw_cn 0) 20, .instantiable (pw_cn 1) 3, .instantiable (pw_cn 2) 4, .instantiable (pw_cn 3) 4, .instantiable (pw_cn 4) 17, .instantiable (pw_cn 5) 9, .instantiable (pw_cn 6) 3, .instantiable (pw_cn 7) 7, .instantiable (pw_cn 8) 7, .instantiable (pw_cn 9) 10]
def pw_Wni_i : List Nat := [251, 440, 196, 349, 121, 129, 257, 190, 113, 1259]
def pw_Win : List Cond := [.initialized (pw_cn 0), .initialized (pw_cn 1), .initialized (pw_cn 2), .initialized (pw_cn 3), .initialized (pw_cn 4), .initialized (pw_cn 5), .initialized (pw_cn 6), .initialized (pw_cn 7), .initialized (pw_cn 8), .initialized (pw_cn 9), .initialized (pw_cn 10), .initialized (pw_cn 11), .initialized (pw_cn 12), .initialized (pw_cn 13), .initialized (pw_cn 14), .initialized (pw_cn 15), .initialized "java/lang/System"]
def pw_Win_i : List Nat := [101, 104, 99, 103, 96, 97, 102, 98, 95, 105, 94, 110, 111, 109, 107, 100, 106]
def pw_War : List Cond := [.arrayClass .int, .arrayClass .long, .classLink (pw_cn 1) 9 (pw_cn 4), .classLink (pw_cn 4) 9 (pw_cn 0), .classLink (pw_cn 4) 31 (pw_cn 3), .classLink (pw_cn 5) 14 "[I"]
def pw_War_i : List Nat := [188, 480, 445, 126, 247, 142]
def pw_Wna : List Cond := [.methodLink (pw_cn 0) 3 objectInit, .methodLink (pw_cn 1) 3 objectInit, .methodLink (pw_cn 2) 1 objectInit, .methodLink (pw_cn 2) 23 arraycopyName, .methodLink (pw_cn 3) 3 objectInit, .methodLink (pw_cn 3) 18 arraycopyName, .methodLink (pw_cn 4) 3 objectInit, .methodLink (pw_cn 5) 3 objectInit, .methodLink (pw_cn 5) 13 ⟨"[I", "clone", "()Ljava/lang/Object;"⟩, .methodLink (pw_cn 5) 38 arraycopyName, .methodLink (pw_cn 6) 1 objectInit, .methodLink (pw_cn 6) 26 arraycopyName, .methodLink (pw_cn 7) 3 objectInit, .methodLink (pw_cn 7) 33 arraycopyName, .methodLink (pw_cn 8) 3 objectInit, .methodLink (pw_cn 9) 1 objectInit, .methodLink (pw_cn 11) 134 ⟨"java/lang/Double", "doubleToRawLongBits", "(D)J"⟩, .methodLink (pw_cn 12) 74 ⟨"java/lang/Float", "floatToRawIntBits", "(F)I"⟩, .instanceMethod objectInit, .code objectInit ⟨#[0xb1]⟩ 1 none, .native arraycopyName, .static arraycopyName, .sameMethod "[I" "java/lang/Object" "clone" "()Ljava/lang/Object;", .native ⟨"java/lang/Object", "clone", "()Ljava/lang/Object;"⟩, .instanceMethod ⟨"java/lang/Object", "clone", "()Ljava/lang/Object;"⟩, .selects "[I" ⟨"[I", "clone", "()Ljava/lang/Object;"⟩ ⟨"java/lang/Object", "clone", "()Ljava/lang/Object;"⟩, .native ⟨"java/lang/Double", "doubleToRawLongBits", "(D)J"⟩, .static ⟨"java/lang/Double", "doubleToRawLongBits", "(D)J"⟩, .native ⟨"java/lang/Float", "floatToRawIntBits", "(F)I"⟩, .static ⟨"java/lang/Float", "floatToRawIntBits", "(F)I"⟩]
def pw_Wna_i : List Nat := [255, 444, 200, 538, 353, 520, 125, 133, 136, 525, 261, 513, 194, 530, 117, 1263, 1734, 1748, 118, 119, 515, 514, 137, 138, 139, 140, 1736, 1735, 1750, 1749]
def pw_me : List (Nat × Nat × Nat) := [(10, 9, 100), (10, 12, 183), (10, 13, 101), (10, 17, 243), (10, 18, 102), (10, 22, 244), (10, 23, 103), (10, 26, 245), (10, 27, 104), (10, 30, 247), (10, 31, 105), (10, 35, 250), (10, 36, 106), (10, 40, 251), (10, 41, 107), (10, 44, 252), (10, 45, 108), (10, 49, 254), (10, 50, 109), (10, 53, 258), (10, 54, 110), (10, 58, 259), (10, 59, 111), (10, 63, 255), (10, 64, 112), (10, 67, 256), (10, 68, 113), (10, 71, 257), (10, 72, 114), (10, 75, 260), (10, 76, 115), (10, 80, 261), (10, 81, 116), (10, 84, 263), (10, 85, 117), (10, 88, 264), (10, 89, 118), (10, 92, 267), (10, 93, 119), (10, 96, 242), (10, 97, 122), (10, 100, 268), (10, 101, 123), (10, 104, 269), (10, 105, 124), (10, 108, 271), (10, 109, 125), (10, 112, 272), (10, 113, 126), (10, 116, 273), (10, 117, 127), (10, 120, 274), (10, 121, 128), (10, 124, 275), (10, 125, 129), (10, 128, 276), (10, 129, 130), (10, 132, 277), (10, 133, 131), (10, 136, 278), (10, 137, 132), (10, 140, 279), (10, 141, 133), (10, 144, 280), (10, 145, 134), (10, 148, 298), (10, 149, 135), (10, 152, 294), (10, 153, 136), (10, 156, 295), (10, 157, 137), (10, 160, 296), (10, 161, 138), (10, 164, 297), (10, 165, 139), (10, 168, 300), (10, 169, 140), (10, 172, 301), (10, 173, 141), (10, 176, 304), (10, 177, 142), (10, 180, 308), (10, 181, 143), (10, 184, 309), (10, 185, 144), (10, 188, 281), (10, 189, 145), (10, 192, 282), (10, 193, 146), (10, 196, 283), (10, 197, 147), (10, 200, 284), (10, 201, 148), (10, 204, 285), (10, 205, 149), (10, 208, 286), (10, 209, 150), (10, 212, 287), (10, 213, 151), (10, 216, 253), (10, 217, 152), (10, 220, 288), (10, 221, 153), (10, 224, 289), (10, 225, 154), (10, 228, 290), (10, 229, 155), (10, 232, 291), (10, 233, 156), (10, 237, 292), (10, 238, 157), (10, 241, 293), (10, 242, 159), (10, 245, 310), (10, 246, 160), (10, 249, 311), (10, 250, 161), (10, 253, 312), (10, 254, 162), (10, 257, 313), (10, 258, 163), (10, 261, 314), (10, 262, 164), (10, 265, 316), (10, 266, 165), (10, 269, 319), (10, 270, 166), (10, 273, 317), (10, 274, 167), (10, 277, 321), (10, 278, 168), (10, 281, 322), (10, 282, 120), (10, 285, 323), (10, 286, 121), (10, 289, 324), (10, 290, 158), (10, 293, 325), (0, 35, 5), (0, 83, 86), (0, 89, 87), (0, 93, 4), (0, 108, 332), (0, 119, 79), (0, 122, 335), (0, 125, 334), (0, 128, 333), (0, 131, 11), (0, 134, 6), (0, 137, 8), (0, 147, 88), (0, 150, 7), (1, 21, 23), (1, 28, 24), (1, 32, 33), (1, 36, 32), (2, 17, 335), (2, 35, 29), (4, 26, 93), (4, 39, 25), (4, 59, 3), (4, 63, 31), (4, 66, 76), (4, 69, 94), (4, 72, 26), (4, 112, 2), (4, 136, 8), (4, 140, 335), (4, 146, 41), (4, 149, 334), (4, 155, 4), (4, 159, 43), (4, 163, 42), (4, 168, 47), (4, 171, 46), (4, 174, 51), (4, 177, 9), (4, 182, 52), (4, 188, 53), (4, 191, 57), (4, 200, 58), (4, 204, 59), (4, 207, 61), (4, 210, 62), (4, 213, 66), (4, 216, 68), (4, 219, 69), (4, 222, 99), (4, 225, 70), (4, 228, 71), (4, 231, 38), (4, 234, 54), (4, 238, 332), (4, 241, 50), (4, 248, 60), (4, 254, 10), (4, 261, 63), (4, 264, 65), (4, 268, 39), (4, 271, 64), (4, 274, 12), (4, 277, 333), (4, 280, 13), (4, 283, 14), (4, 286, 15), (4, 289, 67), (4, 292, 95), (4, 295, 96), (4, 299, 40), (4, 302, 97), (4, 305, 98), (4, 308, 27), (4, 312, 16), (4, 320, 72), (4, 327, 34), (4, 330, 18), (6, 16, 338), (6, 32, 89), (6, 36, 90), (6, 40, 91), (6, 43, 92), (6, 47, 335), (7, 20, 25), (7, 27, 338), (7, 39, 26), (7, 57, 335), (7, 63, 27), (8, 11, 32), (8, 39, 173), (8, 47, 20), (8, 51, 35), (8, 55, 34), (8, 63, 4), (8, 69, 5), (8, 76, 174), (8, 93, 55), (8, 112, 37), (8, 119, 77), (8, 122, 78), (8, 132, 36), (8, 135, 80), (8, 139, 81), (8, 142, 83), (8, 145, 84), (8, 155, 82), (8, 158, 56), (8, 162, 21), (8, 165, 33), (8, 168, 22), (8, 171, 72), (8, 175, 73), (8, 181, 335), (8, 186, 74), (8, 208, 17), (8, 212, 40), (8, 218, 39), (8, 224, 176), (8, 234, 28), (8, 261, 46), (8, 264, 48), (8, 267, 333), (8, 270, 44), (8, 274, 45), (8, 277, 331), (8, 282, 171), (8, 288, 336), (8, 293, 334), (8, 301, 178), (8, 304, 179), (8, 307, 50), (8, 310, 51), (8, 322, 43), (8, 326, 42), (8, 329, 181), (8, 333, 7), (8, 336, 182), (8, 343, 57), (8, 349, 180), (8, 352, 170), (8, 355, 169), (8, 358, 49), (8, 361, 337), (8, 367, 172), (8, 382, 330), (9, 34, 191), (9, 38, 184), (9, 42, 185), (9, 46, 193), (9, 52, 195), (9, 55, 196), (9, 62, 197), (9, 65, 198), (9, 68, 200), (9, 71, 189), (9, 74, 201), (9, 77, 187), (9, 80, 204), (9, 84, 206), (9, 87, 190), (9, 91, 207), (9, 94, 209), (9, 97, 202), (9, 100, 208), (9, 108, 210), (9, 111, 186), (9, 115, 212), (9, 118, 194), (9, 122, 188), (9, 125, 214), (9, 129, 215), (9, 132, 216), (9, 135, 217), (9, 138, 219), (9, 144, 220), (9, 147, 221), (9, 150, 223), (9, 153, 199), (9, 156, 224), (9, 159, 203), (9, 162, 228), (9, 165, 205), (9, 168, 227), (9, 172, 229), (9, 175, 231), (9, 178, 232), (9, 182, 234), (9, 185, 233), (9, 188, 268), (9, 191, 211), (9, 194, 213), (9, 197, 218), (9, 200, 222), (9, 203, 225), (9, 209, 226), (9, 212, 230), (9, 215, 235), (9, 218, 236), (9, 221, 240), (9, 224, 241), (9, 230, 192), (9, 233, 246), (9, 236, 237), (9, 239, 249), (9, 242, 248), (9, 245, 253), (9, 248, 262), (9, 251, 265), (9, 254, 266), (9, 258, 270), (9, 263, 327), (9, 269, 329), (9, 275, 295), (9, 278, 296), (9, 281, 299), (9, 284, 303), (9, 287, 302), (9, 290, 305), (9, 294, 306), (9, 297, 307), (9, 300, 238), (9, 303, 239), (9, 306, 271), (9, 309, 315), (9, 312, 318), (9, 315, 320), (11, 122, 326), (12, 59, 328)]
def pw_Wml : List Cond := pw_me.map (fun e => Cond.methodLink (pw_cn e.1) e.2.1 (pw_y e.2.2))
def pw_Wml_i : List Nat := [114, 1260, 481, 1312, 577, 1353, 588, 1361, 592, 1365, 603, 1373, 832, 1561, 836, 1565, 840, 1573, 848, 1590, 852, 1594, 865, 1578, 869, 1582, 873, 1586, 881, 1598, 893, 1602, 905, 1606, 909, 1614, 913, 1618, 925, 1305, 946, 1630, 951, 1631, 956, 1635, 974, 1643, 978, 1647, 987, 1651, 991, 1655, 995, 1659, 999, 1663, 1003, 1667, 1012, 1671, 1018, 1675, 1027, 1770, 1031, 1752, 1035, 1756, 1047, 1760, 1056, 1765, 1061, 1774, 1078, 1782, 1082, 1786, 1097, 1797, 1117, 1812, 1122, 1679, 1127, 1684, 1131, 1688, 1135, 1692, 1140, 1696, 1145, 1700, 1150, 1704, 1154, 1569, 1158, 1708, 1162, 1712, 1166, 1716, 1170, 1720, 1174, 1724, 1185, 1738, 1198, 1816, 1202, 1828, 1206, 1833, 1210, 1837, 1215, 1841, 1226, 1845, 1234, 1857, 1242, 1853, 1246, 1865, 1254, 1873, 933, 1877, 942, 1881, 1194, 1885, 551, 572, 509, 555, 628, 664, 669, 670, 684, 687, 691, 733, 802, 969, 492, 496, 501, 500, 535, 789, 191, 250, 505, 516, 521, 526, 539, 544, 624, 615, 769, 643, 720, 1069, 1073, 1043, 1055, 655, 660, 639, 635, 611, 616, 647, 676, 695, 725, 748, 756, 781, 793, 823, 620, 631, 646, 651, 672, 680, 699, 715, 703, 707, 711, 719, 721, 729, 734, 744, 752, 760, 765, 773, 777, 797, 798, 827, 964, 965, 576, 806, 810, 814, 818, 822, 197, 215, 531, 764, 785, 122, 485, 488, 540, 581, 586, 587, 596, 607, 844, 857, 861, 877, 885, 889, 897, 901, 917, 921, 929, 937, 938, 950, 960, 982, 983, 1007, 1011, 1016, 1017, 1022, 1039, 1051, 1060, 1065, 1087, 1091, 1101, 1113, 1121, 741, 1139, 1144, 1149, 1178, 1179, 1180, 1189, 1190, 1214, 1219, 1230, 1238, 1250, 1106, 1109, 1222, 1267, 1271, 1316, 1332, 1349, 1344, 1340, 1401, 1397, 1420, 1492, 1435, 1476, 1413, 1417, 1409, 1431, 1393, 1405, 1427, 1438, 1441, 1323, 1461, 1464, 1449, 1453, 1457, 1480, 1472, 1484, 1500, 1327, 1496, 1504, 1520, 1524, 1516, 1528, 1540, 1544, 1548, 1536, 1556, 1389, 1423, 1445, 1468, 1488, 1508, 1512, 1532, 1552, 1309, 1319, 1357, 1369, 1385, 1377, 1381, 1577, 1610, 1622, 1626, 1639, 1728, 1742, 1764, 1769, 1778, 1790, 1793, 1805, 1808, 1801, 1820, 1824, 1832, 1849, 1861, 1869, 1731, 1745]
def pw_mn : List (Nat × Nat × Nat × String) := [(0, 11, 85, "PackWatch"), (0, 31, 176, "PackWatch"), (0, 97, 175, "PackWatch"), (0, 101, 177, "PackWatch"), (0, 104, 178, "PackWatch"), (0, 140, 179, "PackWatch"), (2, 39, 173, "PackWatch"), (4, 19, 75, "PackWatch"), (4, 46, 1, "PackWatch"), (4, 47, 30, "PackWatch"), (4, 105, 173, "PackWatch"), (4, 244, 175, "PackWatch"), (8, 24, 19, "PackWatch")]
def pw_Nml : List Cond := pw_mn.map (fun e => Cond.methodLinkNest (pw_cn e.1) e.2.1 (pw_y e.2.2.1) e.2.2.2)
def pw_Nml_i : List Nat := [258, 548, 559, 562, 566, 738, 1026, 130, 252, 350, 585, 671, 441]
def pw_ck : List Nat := [1, 2, 3, 4, 5, 6, 7, 8, 9, 10, 11, 12, 13, 14, 15, 16, 17, 18, 19, 20, 21, 22, 23, 24, 25, 26, 27, 28, 29, 30, 31, 32, 33, 34, 35, 36, 37, 38, 39, 40, 41, 42, 43, 44, 45, 46, 47, 48, 49, 50, 51, 52, 53, 54, 55, 56, 57, 58, 59, 60, 61, 62, 63, 64, 65, 66, 67, 68, 69, 70, 71, 72, 73, 74, 75, 76, 77, 78, 79, 80, 81, 82, 83, 84, 85, 86, 87, 88, 89, 90, 91, 92, 93, 94, 95, 96, 97, 98, 99, 100, 101, 102, 103, 104, 105, 106, 107, 108, 109, 110, 111, 112, 113, 114, 115, 116, 117, 118, 119, 120, 121, 122, 123, 124, 125, 126, 127, 128, 129, 130, 131, 132, 133, 134, 135, 136, 137, 138, 139, 140, 141, 142, 143, 144, 145, 146, 147, 148, 149, 150, 151, 152, 153, 154, 155, 156, 157, 158, 159, 160, 161, 162, 163, 164, 165, 166, 167, 168, 169, 170, 171, 172, 173, 174, 175, 176, 177, 178, 179, 180, 181, 182, 183, 184, 185, 186, 187, 188, 189, 190, 191, 192, 193, 194, 195, 196, 197, 198, 199, 200, 201, 202, 203, 204, 205, 206, 207, 208, 209, 210, 211, 212, 213, 214, 215, 216, 217, 218, 219, 220, 221, 222, 223, 224, 225, 226, 227, 228, 229, 230, 231, 232, 233, 234, 235, 236, 237, 238, 239, 240, 241, 242, 243, 244, 245, 246, 247, 248, 249, 250, 251, 252, 253, 254, 255, 256, 257, 258, 259, 260, 261, 262, 263, 264, 265, 266, 267, 268, 269, 270, 271, 272, 273, 274, 275, 276, 277, 278, 279, 280, 281, 282, 283, 284, 285, 286, 287, 288, 289, 290, 291, 292, 293, 294, 295, 296, 297, 298, 299, 300, 301, 302, 303, 304, 305, 306, 307, 308, 309, 310, 311, 312, 313, 314, 315, 316, 317, 318, 319, 320, 321, 322, 323, 324, 325, 326, 327, 328, 329, 330, 331, 332, 333, 334, 335, 336, 337, 338]
def pw_Wcd : List Cond := pw_ck.map (fun j => Cond.code (pw_y j) (pw_cc j) (pw_mxl j) (pw_ret j))
def pw_sk : List Nat := [173, 174, 175, 176, 177, 178, 179, 180, 181, 182, 184, 185, 186, 187, 188, 189, 190, 240, 303, 305, 326, 327, 328, 329, 330, 331, 332, 333, 334, 335, 336, 337, 338]
def pw_Wsk : List Cond := pw_sk.map (fun j => Cond.static (pw_y j))
def pw_Wsk_i : List Nat := [486, 597, 560, 549, 563, 567, 739, 1220, 1181, 1191, 1272, 1317, 1439, 1436, 1462, 1421, 1418, 1310, 1791, 1806, 1732, 1729, 1746, 1743, 1223, 1092, 629, 685, 644, 536, 1114, 1107, 216]
def pw_ik : List Nat := [1, 2, 3, 4, 5, 6, 7, 8, 9, 10, 11, 12, 13, 14, 15, 16, 17, 18, 19, 20, 21, 22, 23, 24, 25, 26, 27, 28, 29, 30, 31, 32, 33, 34, 35, 36, 37, 38, 39, 40, 41, 42, 43, 44, 45, 46, 47, 48, 49, 50, 51, 52, 53, 54, 55, 56, 57, 58, 59, 60, 61, 62, 63, 64, 65, 66, 67, 68, 69, 70, 71, 72, 73, 74, 75, 76, 77, 78, 79, 80, 81, 82, 83, 84, 85, 86, 87, 88, 89, 90, 91, 92, 93, 94, 95, 96, 97, 98, 99, 100, 101, 102, 103, 104, 105, 106, 107, 108, 109, 110, 111, 112, 113, 114, 115, 116, 117, 118, 119, 120, 121, 122, 123, 124, 125, 126, 127, 128, 129, 130, 131, 132, 133, 134, 135, 136, 137, 138, 139, 140, 141, 142, 143, 144, 145, 146, 147, 148, 149, 150, 151, 152, 153, 154, 155, 156, 157, 158, 159, 160, 161, 162, 163, 164, 165, 166, 167, 168, 169, 170, 171, 172, 183, 191, 192, 193, 194, 195, 196, 197, 198, 199, 200, 201, 202, 203, 204, 205, 206, 207, 208, 209, 210, 211, 212, 213, 214, 215, 216, 217, 218, 219, 220, 221, 222, 223, 224, 225, 226, 227, 228, 229, 230, 231, 232, 233, 234, 235, 236, 237, 238, 239, 241, 242, 243, 244, 245, 246, 247, 248, 249, 250, 251, 252, 253, 254, 255, 256, 257, 258, 259, 260, 261, 262, 263, 264, 265, 266, 267, 268, 269, 270, 271, 272, 273, 274, 275, 276, 277, 278, 279, 280, 281, 282, 283, 284, 285, 286, 287, 288, 289, 290, 291, 292, 293, 294, 295, 296, 297, 298, 299, 300, 301, 302, 304, 306, 307, 308, 309, 310, 311, 312, 313, 314, 315, 316, 317, 318, 319, 320, 321, 322, 323, 324, 325]
def pw_Wik : List Cond := pw_ik.map (fun j => Cond.instanceMethod (pw_y j))
def pw_Wik_i : List Nat := [253, 545, 506, 556, 552, 692, 970, 625, 661, 681, 689, 712, 722, 730, 735, 799, 1008, 966, 442, 489, 930, 939, 494, 498, 198, 532, 786, 1023, 791, 351, 517, 123, 502, 582, 541, 878, 845, 621, 704, 766, 771, 1074, 1070, 1066, 1088, 1040, 1045, 1052, 1251, 652, 656, 641, 636, 633, 608, 922, 612, 618, 649, 674, 678, 697, 701, 709, 717, 727, 746, 750, 758, 795, 825, 828, 961, 984, 131, 522, 858, 862, 665, 886, 890, 918, 898, 902, 259, 573, 510, 803, 808, 812, 816, 820, 192, 527, 753, 761, 774, 778, 782, 115, 482, 578, 589, 593, 604, 833, 837, 841, 849, 853, 866, 870, 874, 882, 894, 906, 910, 914, 926, 934, 943, 947, 952, 957, 975, 979, 988, 992, 996, 1000, 1004, 1013, 1019, 1028, 1032, 1036, 1048, 1057, 1062, 1079, 1083, 1098, 1118, 1123, 1128, 1132, 1136, 1141, 1146, 1151, 1155, 1159, 1163, 1167, 1171, 1175, 1186, 1195, 1199, 1203, 1207, 1211, 1216, 1227, 1235, 1243, 1247, 1255, 1240, 1232, 1103, 1111, 1261, 1269, 1359, 1334, 1325, 1351, 1346, 1342, 1403, 1329, 1399, 1494, 1395, 1506, 1478, 1526, 1415, 1411, 1407, 1433, 1429, 1391, 1443, 1425, 1466, 1451, 1455, 1459, 1447, 1482, 1474, 1486, 1470, 1502, 1498, 1490, 1510, 1518, 1522, 1530, 1514, 1542, 1546, 1538, 1550, 1534, 1554, 1387, 1822, 1826, 1321, 1306, 1313, 1354, 1362, 1371, 1366, 1383, 1379, 1374, 1562, 1566, 1570, 1574, 1579, 1583, 1587, 1591, 1595, 1599, 1603, 1612, 1607, 1615, 1624, 1628, 1619, 1557, 1632, 1641, 1636, 1644, 1648, 1652, 1656, 1660, 1664, 1668, 1672, 1676, 1680, 1685, 1689, 1693, 1697, 1701, 1705, 1709, 1713, 1717, 1721, 1725, 1739, 1753, 1757, 1761, 1766, 1771, 1780, 1775, 1783, 1795, 1787, 1810, 1803, 1798, 1813, 1817, 1829, 1834, 1838, 1842, 1851, 1846, 1854, 1863, 1858, 1871, 1866, 1874, 1878, 1882, 1886]
def pw_vk : List Nat := [2, 3, 4, 5, 6, 7, 8, 9, 10, 11, 12, 13, 14, 15, 16, 17, 18, 20, 21, 22, 23, 24, 26, 27, 28, 29, 31, 33, 34, 35, 36, 37, 38, 39, 40, 41, 42, 43, 44, 45, 46, 47, 48, 49, 50, 51, 52, 53, 54, 55, 56, 57, 58, 59, 60, 61, 62, 63, 64, 65, 66, 67, 68, 69, 70, 71, 72, 73, 74, 76, 77, 78, 79, 80, 81, 82, 83, 84, 86, 87, 88, 89, 90, 91, 92, 94, 95, 96, 97, 98, 99, 101, 102, 103, 104, 105, 106, 107, 108, 109, 110, 111, 112, 113, 114, 115, 116, 117, 118, 119, 120, 121, 122, 123, 124, 125, 126, 127, 128, 129, 130, 131, 132, 133, 134, 135, 136, 137, 138, 139, 140, 141, 142, 143, 144, 145, 146, 147, 148, 149, 150, 151, 152, 153, 154, 155, 156, 157, 158, 159, 160, 161, 162, 163, 164, 165, 166, 167, 168, 169, 170, 171, 172, 191, 192, 193, 194, 195, 196, 197, 198, 199, 200, 201, 202, 203, 204, 205, 206, 207, 208, 209, 210, 211, 212, 213, 214, 215, 216, 217, 218, 219, 220, 221, 222, 223, 224, 225, 226, 227, 228, 229, 230, 231, 232, 233, 234, 235, 236, 237, 238, 239, 241, 242, 243, 244, 245, 246, 247, 248, 249, 250, 251, 252, 253, 254, 255, 256, 257, 258, 259, 260, 261, 262, 263, 264, 265, 266, 267, 268, 269, 270, 271, 272, 273, 274, 275, 276, 277, 278, 279, 280, 281, 282, 283, 284, 285, 286, 287, 288, 289, 290, 291, 292, 293, 294, 295, 296, 297, 298, 299, 300, 301, 302, 304, 306, 307, 308, 309, 310, 311, 312, 313, 314, 315, 316, 317, 318, 319, 320, 321, 322, 323, 324, 325]
def pw_Wvk : List Cond := pw_vk.map (fun j => Cond.selects (pw_y j).cls (pw_y j) (pw_y j))
def pw_Wvk_i : List Nat := [546, 507, 557, 553, 693, 971, 626, 662, 682, 8, 713, 723, 731, 736, 800, 1009, 967, 490, 931, 940, 0, 1, 533, 787, 1024, 18, 518, 503, 583, 542, 879, 846, 622, 705, 767, 17, 1075, 1071, 1067, 1089, 1041, 25, 1053, 1252, 653, 657, 4, 637, 3, 609, 923, 613, 2, 5, 6, 7, 9, 10, 11, 12, 13, 14, 15, 16, 19, 24, 829, 962, 985, 523, 859, 863, 666, 887, 891, 919, 899, 903, 574, 511, 804, 20, 21, 22, 23, 528, 754, 762, 775, 779, 783, 483, 579, 590, 594, 605, 834, 838, 842, 850, 854, 867, 871, 875, 883, 895, 907, 911, 915, 927, 935, 944, 948, 953, 958, 976, 980, 989, 993, 997, 1001, 1005, 1014, 1020, 1029, 1033, 1037, 1049, 1058, 1063, 1080, 1084, 1099, 1119, 1124, 1129, 1133, 1137, 1142, 1147, 1152, 1156, 1160, 1164, 1168, 1172, 1176, 1187, 1196, 1200, 1204, 1208, 1212, 1217, 1228, 1236, 1244, 1248, 1256, 29, 28, 26, 27, 30, 38, 34, 32, 37, 36, 35, 46, 33, 45, 65, 44, 68, 61, 73, 49, 48, 47, 52, 51, 43, 53, 50, 58, 55, 56, 57, 54, 62, 60, 63, 59, 67, 66, 64, 69, 71, 72, 74, 70, 77, 78, 76, 79, 75, 80, 42, 89, 90, 31, 1307, 1314, 1355, 1363, 39, 1367, 41, 40, 1375, 1563, 1567, 1571, 1575, 1580, 1584, 1588, 1592, 1596, 1600, 1604, 81, 1608, 1616, 82, 83, 1620, 1558, 1633, 84, 1637, 1645, 1649, 1653, 1657, 1661, 1665, 1669, 1673, 1677, 1681, 1686, 1690, 1694, 1698, 1702, 1706, 1710, 1714, 1718, 1722, 1726, 1740, 1754, 1758, 1762, 1767, 1772, 85, 1776, 1784, 86, 1788, 88, 87, 1799, 1814, 1818, 1830, 1835, 1839, 1843, 91, 1847, 1855, 92, 1859, 93, 1867, 1875, 1879, 1883, 1887]
def pw_W : List Cond := pw_Wlay ++ (pw_Wfl ++ (pw_Wst ++ (pw_Wco ++ (pw_Wnl ++ (pw_Wni ++ (pw_Win ++ (pw_War ++ (pw_Wna ++ (pw_Wml ++ (pw_Wcd ++ (pw_Wsk ++ (pw_Wik ++ pw_Wvk))))))))))))
def pw_Nao : List Cond := [.castable "[I" "java/lang/Cloneable", .arrayOver (.object "PackWatch$Cell"), .arrayOver (.object "PackWatch$Mark"), .arrayOver (.object "PackWatch$State")]
def pw_Nao_i : List Nat := [141, 127, 248, 446]
def pw_N : List Cond := pw_Nfl ++ (pw_Nst ++ (pw_Nml ++ pw_Nao))
def pw_B : am_Nm := (pw_cn, pw_y, pw_cc, pw_rF, pw_rL, pw_kl, pw_W, pw_N, pw_ty, pw_S)
end
section
/-! ===== printed by wip/gen/good.py: the program is what the claim's tables say ===== -/
theorem pw_in {ws : List Cond} {ix : List Nat} (h : ws = ix.filterMap (fun i => lw_tbl[i]?)) : ∀ w ∈ ws, w ∈ lw_tbl := by
  intro w hw
  rw [h] at hw
  obtain ⟨i, -, hi⟩ := List.mem_filterMap.mp hw
  exact List.mem_of_getElem? hi
set_option maxRecDepth 100000 in
theorem pw_e_lay : pw_Wlay = pw_Wlay_i.filterMap (fun i => lw_tbl[i]?) := by decide +kernel
set_option maxRecDepth 100000 in
theorem pw_g_lay : pw_Wlay.all goodWord = true := by decide +kernel
set_option maxRecDepth 100000 in
theorem pw_e_fl : pw_Wfl = pw_Wfl_i.filterMap (fun i => lw_tbl[i]?) := by decide +kernel
set_option maxRecDepth 100000 in
theorem pw_g_fl : pw_Wfl.all goodWord = true := by decide +kernel
set_option maxRecDepth 100000 in
theorem pw_e_st : pw_Wst = pw_Wst_i.filterMap (fun i => lw_tbl[i]?) := by decide +kernel
set_option maxRecDepth 100000 in
theorem pw_g_st : pw_Wst.all goodWord = true := by decide +kernel
set_option maxRecDepth 100000 in
theorem pw_e_co : pw_Wco = pw_Wco_i.filterMap (fun i => lw_tbl[i]?) := by decide +kernel
set_option maxRecDepth 100000 in
theorem pw_g_co : pw_Wco.all goodWord = true := by decide +kernel
set_option maxRecDepth 100000 in
theorem pw_e_nl : pw_Wnl = pw_Wnl_i.filterMap (fun i => lw_tbl[i]?) := by decide +kernel
set_option maxRecDepth 100000 in
theorem pw_g_nl : pw_Wnl.all goodWord = true := by decide +kernel
set_option maxRecDepth 100000 in
theorem pw_e_ni : pw_Wni = pw_Wni_i.filterMap (fun i => lw_tbl[i]?) := by decide +kernel
set_option maxRecDepth 100000 in
theorem pw_g_ni : pw_Wni.all goodWord = true := by decide +kernel
set_option maxRecDepth 100000 in
theorem pw_e_in : pw_Win = pw_Win_i.filterMap (fun i => lw_tbl[i]?) := by decide +kernel
set_option maxRecDepth 100000 in
theorem pw_g_in : pw_Win.all goodWord = true := by decide +kernel
set_option maxRecDepth 100000 in
theorem pw_e_ar : pw_War = pw_War_i.filterMap (fun i => lw_tbl[i]?) := by decide +kernel
set_option maxRecDepth 100000 in
theorem pw_g_ar : pw_War.all goodWord = true := by decide +kernel
set_option maxRecDepth 100000 in
theorem pw_e_na : pw_Wna = pw_Wna_i.filterMap (fun i => lw_tbl[i]?) := by decide +kernel
set_option maxRecDepth 100000 in
theorem pw_g_na : pw_Wna.all goodWord = true := by decide +kernel
set_option maxRecDepth 100000 in
theorem pw_e_ml : pw_Wml = pw_Wml_i.filterMap (fun i => lw_tbl[i]?) := by decide +kernel
set_option maxRecDepth 100000 in
theorem pw_g_ml : pw_Wml.all goodWord = true := by decide +kernel
set_option maxRecDepth 100000 in
theorem pw_e_sk : pw_Wsk = pw_Wsk_i.filterMap (fun i => lw_tbl[i]?) := by decide +kernel
set_option maxRecDepth 100000 in
theorem pw_g_sk : pw_Wsk.all goodWord = true := by decide +kernel
set_option maxRecDepth 100000 in
theorem pw_e_ik : pw_Wik = pw_Wik_i.filterMap (fun i => lw_tbl[i]?) := by decide +kernel
set_option maxRecDepth 100000 in
theorem pw_g_ik : pw_Wik.all goodWord = true := by decide +kernel
set_option maxRecDepth 100000 in
theorem pw_e_vk : pw_Wvk = pw_Wvk_i.filterMap (fun i => lw_tbl[i]?) := by decide +kernel
set_option maxRecDepth 100000 in
theorem pw_g_vk : pw_Wvk.all goodWord = true := by decide +kernel
set_option maxRecDepth 100000 in
theorem pw_en_fl : pw_Nfl = pw_Nfl_i.filterMap (fun i => lw_tbl[i]?) := by decide +kernel
set_option maxRecDepth 100000 in
theorem pw_en_st : pw_Nst = pw_Nst_i.filterMap (fun i => lw_tbl[i]?) := by decide +kernel
set_option maxRecDepth 100000 in
theorem pw_en_ml : pw_Nml = pw_Nml_i.filterMap (fun i => lw_tbl[i]?) := by decide +kernel
set_option maxRecDepth 100000 in
theorem pw_en_ao : pw_Nao = pw_Nao_i.filterMap (fun i => lw_tbl[i]?) := by decide +kernel
theorem pw_tb_0 {w : Cond} (h : w ∈ tables_1_1) : w ∈ lw_tbl := List.mem_append_right _ (show w ∈ tables_1 from List.mem_append_left _ h)
theorem pw_tb_1 {w : Cond} (h : w ∈ tables_1_2) : w ∈ lw_tbl := List.mem_append_right _ (show w ∈ tables_1 from List.mem_append_right _ (List.mem_append_left _ h))
theorem pw_tb_2 {w : Cond} (h : w ∈ tables_1_3) : w ∈ lw_tbl := List.mem_append_right _ (show w ∈ tables_1 from List.mem_append_right _ (List.mem_append_right _ (List.mem_append_left _ h)))
theorem pw_tb_3 {w : Cond} (h : w ∈ tables_1_4) : w ∈ lw_tbl := List.mem_append_right _ (show w ∈ tables_1 from List.mem_append_right _ (List.mem_append_right _ (List.mem_append_right _ (List.mem_append_left _ h))))
theorem pw_tb_4 {w : Cond} (h : w ∈ tables_1_5) : w ∈ lw_tbl := List.mem_append_right _ (show w ∈ tables_1 from List.mem_append_right _ (List.mem_append_right _ (List.mem_append_right _ (List.mem_append_right _ (List.mem_append_left _ h)))))
theorem pw_tb_5 {w : Cond} (h : w ∈ tables_1_6) : w ∈ lw_tbl := List.mem_append_right _ (show w ∈ tables_1 from List.mem_append_right _ (List.mem_append_right _ (List.mem_append_right _ (List.mem_append_right _ (List.mem_append_right _ (List.mem_append_left _ h))))))
theorem pw_tb_6 {w : Cond} (h : w ∈ tables_1_7) : w ∈ lw_tbl := List.mem_append_right _ (show w ∈ tables_1 from List.mem_append_right _ (List.mem_append_right _ (List.mem_append_right _ (List.mem_append_right _ (List.mem_append_right _ (List.mem_append_right _ (List.mem_append_left _ h)))))))
theorem pw_tb_7 {w : Cond} (h : w ∈ tables_1_8) : w ∈ lw_tbl := List.mem_append_right _ (show w ∈ tables_1 from List.mem_append_right _ (List.mem_append_right _ (List.mem_append_right _ (List.mem_append_right _ (List.mem_append_right _ (List.mem_append_right _ (List.mem_append_right _ (h))))))))
theorem pw_cd_1 : Cond.code (pw_y 1) (pw_cc 1) (pw_mxl 1) (pw_ret 1) ∈ lw_tbl := pw_tb_0 (List.mem_of_getElem? (i := 160) rfl)
theorem pw_cd_2 : Cond.code (pw_y 2) (pw_cc 2) (pw_mxl 2) (pw_ret 2) ∈ lw_tbl := pw_tb_1 (List.mem_of_getElem? (i := 213) rfl)
theorem pw_cd_3 : Cond.code (pw_y 3) (pw_cc 3) (pw_mxl 3) (pw_ret 3) ∈ lw_tbl := pw_tb_1 (List.mem_of_getElem? (i := 174) rfl)
theorem pw_cd_4 : Cond.code (pw_y 4) (pw_cc 4) (pw_mxl 4) (pw_ret 4) ∈ lw_tbl := pw_tb_1 (List.mem_of_getElem? (i := 224) rfl)
theorem pw_cd_5 : Cond.code (pw_y 5) (pw_cc 5) (pw_mxl 5) (pw_ret 5) ∈ lw_tbl := pw_tb_1 (List.mem_of_getElem? (i := 220) rfl)
theorem pw_cd_6 : Cond.code (pw_y 6) (pw_cc 6) (pw_mxl 6) (pw_ret 6) ∈ lw_tbl := pw_tb_2 (List.mem_of_getElem? (i := 120) rfl)
theorem pw_cd_7 : Cond.code (pw_y 7) (pw_cc 7) (pw_mxl 7) (pw_ret 7) ∈ lw_tbl := pw_tb_3 (List.mem_of_getElem? (i := 158) rfl)
theorem pw_cd_8 : Cond.code (pw_y 8) (pw_cc 8) (pw_mxl 8) (pw_ret 8) ∈ lw_tbl := pw_tb_2 (List.mem_of_getElem? (i := 53) rfl)
theorem pw_cd_9 : Cond.code (pw_y 9) (pw_cc 9) (pw_mxl 9) (pw_ret 9) ∈ lw_tbl := pw_tb_2 (List.mem_of_getElem? (i := 89) rfl)
theorem pw_cd_10 : Cond.code (pw_y 10) (pw_cc 10) (pw_mxl 10) (pw_ret 10) ∈ lw_tbl := pw_tb_2 (List.mem_of_getElem? (i := 109) rfl)
theorem pw_cd_11 : Cond.code (pw_y 11) (pw_cc 11) (pw_mxl 11) (pw_ret 11) ∈ lw_tbl := pw_tb_2 (List.mem_of_getElem? (i := 116) rfl)
theorem pw_cd_12 : Cond.code (pw_y 12) (pw_cc 12) (pw_mxl 12) (pw_ret 12) ∈ lw_tbl := pw_tb_2 (List.mem_of_getElem? (i := 140) rfl)
theorem pw_cd_13 : Cond.code (pw_y 13) (pw_cc 13) (pw_mxl 13) (pw_ret 13) ∈ lw_tbl := pw_tb_2 (List.mem_of_getElem? (i := 150) rfl)
theorem pw_cd_14 : Cond.code (pw_y 14) (pw_cc 14) (pw_mxl 14) (pw_ret 14) ∈ lw_tbl := pw_tb_2 (List.mem_of_getElem? (i := 158) rfl)
theorem pw_cd_15 : Cond.code (pw_y 15) (pw_cc 15) (pw_mxl 15) (pw_ret 15) ∈ lw_tbl := pw_tb_2 (List.mem_of_getElem? (i := 163) rfl)
theorem pw_cd_16 : Cond.code (pw_y 16) (pw_cc 16) (pw_mxl 16) (pw_ret 16) ∈ lw_tbl := pw_tb_2 (List.mem_of_getElem? (i := 227) rfl)
theorem pw_cd_17 : Cond.code (pw_y 17) (pw_cc 17) (pw_mxl 17) (pw_ret 17) ∈ lw_tbl := pw_tb_3 (List.mem_of_getElem? (i := 196) rfl)
theorem pw_cd_18 : Cond.code (pw_y 18) (pw_cc 18) (pw_mxl 18) (pw_ret 18) ∈ lw_tbl := pw_tb_3 (List.mem_of_getElem? (i := 154) rfl)
theorem pw_cd_19 : Cond.code (pw_y 19) (pw_cc 19) (pw_mxl 19) (pw_ret 19) ∈ lw_tbl := pw_tb_1 (List.mem_of_getElem? (i := 109) rfl)
theorem pw_cd_20 : Cond.code (pw_y 20) (pw_cc 20) (pw_mxl 20) (pw_ret 20) ∈ lw_tbl := pw_tb_1 (List.mem_of_getElem? (i := 157) rfl)
theorem pw_cd_21 : Cond.code (pw_y 21) (pw_cc 21) (pw_mxl 21) (pw_ret 21) ∈ lw_tbl := pw_tb_3 (List.mem_of_getElem? (i := 118) rfl)
theorem pw_cd_22 : Cond.code (pw_y 22) (pw_cc 22) (pw_mxl 22) (pw_ret 22) ∈ lw_tbl := pw_tb_3 (List.mem_of_getElem? (i := 127) rfl)
theorem pw_cd_23 : Cond.code (pw_y 23) (pw_cc 23) (pw_mxl 23) (pw_ret 23) ∈ lw_tbl := pw_tb_1 (List.mem_of_getElem? (i := 161) rfl)
theorem pw_cd_24 : Cond.code (pw_y 24) (pw_cc 24) (pw_mxl 24) (pw_ret 24) ∈ lw_tbl := pw_tb_1 (List.mem_of_getElem? (i := 165) rfl)
theorem pw_cd_25 : Cond.code (pw_y 25) (pw_cc 25) (pw_mxl 25) (pw_ret 25) ∈ lw_tbl := pw_tb_0 (List.mem_of_getElem? (i := 105) rfl)
theorem pw_cd_26 : Cond.code (pw_y 26) (pw_cc 26) (pw_mxl 26) (pw_ret 26) ∈ lw_tbl := pw_tb_1 (List.mem_of_getElem? (i := 200) rfl)
theorem pw_cd_27 : Cond.code (pw_y 27) (pw_cc 27) (pw_mxl 27) (pw_ret 27) ∈ lw_tbl := pw_tb_2 (List.mem_of_getElem? (i := 214) rfl)
theorem pw_cd_28 : Cond.code (pw_y 28) (pw_cc 28) (pw_mxl 28) (pw_ret 28) ∈ lw_tbl := pw_tb_3 (List.mem_of_getElem? (i := 211) rfl)
theorem pw_cd_29 : Cond.code (pw_y 29) (pw_cc 29) (pw_mxl 29) (pw_ret 29) ∈ lw_tbl := pw_tb_2 (List.mem_of_getElem? (i := 218) rfl)
theorem pw_cd_30 : Cond.code (pw_y 30) (pw_cc 30) (pw_mxl 30) (pw_ret 30) ∈ lw_tbl := pw_tb_1 (List.mem_of_getElem? (i := 18) rfl)
theorem pw_cd_31 : Cond.code (pw_y 31) (pw_cc 31) (pw_mxl 31) (pw_ret 31) ∈ lw_tbl := pw_tb_1 (List.mem_of_getElem? (i := 185) rfl)
theorem pw_cd_32 : Cond.code (pw_y 32) (pw_cc 32) (pw_mxl 32) (pw_ret 32) ∈ lw_tbl := pw_tb_0 (List.mem_of_getElem? (i := 30) rfl)
theorem pw_cd_33 : Cond.code (pw_y 33) (pw_cc 33) (pw_mxl 33) (pw_ret 33) ∈ lw_tbl := pw_tb_1 (List.mem_of_getElem? (i := 170) rfl)
theorem pw_cd_34 : Cond.code (pw_y 34) (pw_cc 34) (pw_mxl 34) (pw_ret 34) ∈ lw_tbl := pw_tb_2 (List.mem_of_getElem? (i := 10) rfl)
theorem pw_cd_35 : Cond.code (pw_y 35) (pw_cc 35) (pw_mxl 35) (pw_ret 35) ∈ lw_tbl := pw_tb_1 (List.mem_of_getElem? (i := 209) rfl)
theorem pw_cd_36 : Cond.code (pw_y 36) (pw_cc 36) (pw_mxl 36) (pw_ret 36) ∈ lw_tbl := pw_tb_3 (List.mem_of_getElem? (i := 66) rfl)
theorem pw_cd_37 : Cond.code (pw_y 37) (pw_cc 37) (pw_mxl 37) (pw_ret 37) ∈ lw_tbl := pw_tb_3 (List.mem_of_getElem? (i := 33) rfl)
theorem pw_cd_38 : Cond.code (pw_y 38) (pw_cc 38) (pw_mxl 38) (pw_ret 38) ∈ lw_tbl := pw_tb_2 (List.mem_of_getElem? (i := 49) rfl)
theorem pw_cd_39 : Cond.code (pw_y 39) (pw_cc 39) (pw_mxl 39) (pw_ret 39) ∈ lw_tbl := pw_tb_2 (List.mem_of_getElem? (i := 132) rfl)
theorem pw_cd_40 : Cond.code (pw_y 40) (pw_cc 40) (pw_mxl 40) (pw_ret 40) ∈ lw_tbl := pw_tb_2 (List.mem_of_getElem? (i := 194) rfl)
theorem pw_cd_41 : Cond.code (pw_y 41) (pw_cc 41) (pw_mxl 41) (pw_ret 41) ∈ lw_tbl := pw_tb_2 (List.mem_of_getElem? (i := 198) rfl)
theorem pw_cd_42 : Cond.code (pw_y 42) (pw_cc 42) (pw_mxl 42) (pw_ret 42) ∈ lw_tbl := pw_tb_4 (List.mem_of_getElem? (i := 22) rfl)
theorem pw_cd_43 : Cond.code (pw_y 43) (pw_cc 43) (pw_mxl 43) (pw_ret 43) ∈ lw_tbl := pw_tb_4 (List.mem_of_getElem? (i := 18) rfl)
theorem pw_cd_44 : Cond.code (pw_y 44) (pw_cc 44) (pw_mxl 44) (pw_ret 44) ∈ lw_tbl := pw_tb_4 (List.mem_of_getElem? (i := 14) rfl)
theorem pw_cd_45 : Cond.code (pw_y 45) (pw_cc 45) (pw_mxl 45) (pw_ret 45) ∈ lw_tbl := pw_tb_4 (List.mem_of_getElem? (i := 36) rfl)
theorem pw_cd_46 : Cond.code (pw_y 46) (pw_cc 46) (pw_mxl 46) (pw_ret 46) ∈ lw_tbl := pw_tb_3 (List.mem_of_getElem? (i := 228) rfl)
theorem pw_cd_47 : Cond.code (pw_y 47) (pw_cc 47) (pw_mxl 47) (pw_ret 47) ∈ lw_tbl := pw_tb_3 (List.mem_of_getElem? (i := 232) rfl)
theorem pw_cd_48 : Cond.code (pw_y 48) (pw_cc 48) (pw_mxl 48) (pw_ret 48) ∈ lw_tbl := pw_tb_4 (List.mem_of_getElem? (i := 0) rfl)
theorem pw_cd_49 : Cond.code (pw_y 49) (pw_cc 49) (pw_mxl 49) (pw_ret 49) ∈ lw_tbl := pw_tb_4 (List.mem_of_getElem? (i := 199) rfl)
theorem pw_cd_50 : Cond.code (pw_y 50) (pw_cc 50) (pw_mxl 50) (pw_ret 50) ∈ lw_tbl := pw_tb_2 (List.mem_of_getElem? (i := 80) rfl)
theorem pw_cd_51 : Cond.code (pw_y 51) (pw_cc 51) (pw_mxl 51) (pw_ret 51) ∈ lw_tbl := pw_tb_2 (List.mem_of_getElem? (i := 84) rfl)
theorem pw_cd_52 : Cond.code (pw_y 52) (pw_cc 52) (pw_mxl 52) (pw_ret 52) ∈ lw_tbl := pw_tb_2 (List.mem_of_getElem? (i := 68) rfl)
theorem pw_cd_53 : Cond.code (pw_y 53) (pw_cc 53) (pw_mxl 53) (pw_ret 53) ∈ lw_tbl := pw_tb_2 (List.mem_of_getElem? (i := 64) rfl)
theorem pw_cd_54 : Cond.code (pw_y 54) (pw_cc 54) (pw_mxl 54) (pw_ret 54) ∈ lw_tbl := pw_tb_2 (List.mem_of_getElem? (i := 60) rfl)
theorem pw_cd_55 : Cond.code (pw_y 55) (pw_cc 55) (pw_mxl 55) (pw_ret 55) ∈ lw_tbl := pw_tb_2 (List.mem_of_getElem? (i := 36) rfl)
theorem pw_cd_56 : Cond.code (pw_y 56) (pw_cc 56) (pw_mxl 56) (pw_ret 56) ∈ lw_tbl := pw_tb_3 (List.mem_of_getElem? (i := 110) rfl)
theorem pw_cd_57 : Cond.code (pw_y 57) (pw_cc 57) (pw_mxl 57) (pw_ret 57) ∈ lw_tbl := pw_tb_2 (List.mem_of_getElem? (i := 40) rfl)
theorem pw_cd_58 : Cond.code (pw_y 58) (pw_cc 58) (pw_mxl 58) (pw_ret 58) ∈ lw_tbl := pw_tb_2 (List.mem_of_getElem? (i := 45) rfl)
theorem pw_cd_59 : Cond.code (pw_y 59) (pw_cc 59) (pw_mxl 59) (pw_ret 59) ∈ lw_tbl := pw_tb_2 (List.mem_of_getElem? (i := 76) rfl)
theorem pw_cd_60 : Cond.code (pw_y 60) (pw_cc 60) (pw_mxl 60) (pw_ret 60) ∈ lw_tbl := pw_tb_2 (List.mem_of_getElem? (i := 101) rfl)
theorem pw_cd_61 : Cond.code (pw_y 61) (pw_cc 61) (pw_mxl 61) (pw_ret 61) ∈ lw_tbl := pw_tb_2 (List.mem_of_getElem? (i := 105) rfl)
theorem pw_cd_62 : Cond.code (pw_y 62) (pw_cc 62) (pw_mxl 62) (pw_ret 62) ∈ lw_tbl := pw_tb_2 (List.mem_of_getElem? (i := 124) rfl)
theorem pw_cd_63 : Cond.code (pw_y 63) (pw_cc 63) (pw_mxl 63) (pw_ret 63) ∈ lw_tbl := pw_tb_2 (List.mem_of_getElem? (i := 128) rfl)
theorem pw_cd_64 : Cond.code (pw_y 64) (pw_cc 64) (pw_mxl 64) (pw_ret 64) ∈ lw_tbl := pw_tb_2 (List.mem_of_getElem? (i := 136) rfl)
theorem pw_cd_65 : Cond.code (pw_y 65) (pw_cc 65) (pw_mxl 65) (pw_ret 65) ∈ lw_tbl := pw_tb_2 (List.mem_of_getElem? (i := 144) rfl)
theorem pw_cd_66 : Cond.code (pw_y 66) (pw_cc 66) (pw_mxl 66) (pw_ret 66) ∈ lw_tbl := pw_tb_2 (List.mem_of_getElem? (i := 154) rfl)
theorem pw_cd_67 : Cond.code (pw_y 67) (pw_cc 67) (pw_mxl 67) (pw_ret 67) ∈ lw_tbl := pw_tb_2 (List.mem_of_getElem? (i := 173) rfl)
theorem pw_cd_68 : Cond.code (pw_y 68) (pw_cc 68) (pw_mxl 68) (pw_ret 68) ∈ lw_tbl := pw_tb_2 (List.mem_of_getElem? (i := 177) rfl)
theorem pw_cd_69 : Cond.code (pw_y 69) (pw_cc 69) (pw_mxl 69) (pw_ret 69) ∈ lw_tbl := pw_tb_2 (List.mem_of_getElem? (i := 185) rfl)
theorem pw_cd_70 : Cond.code (pw_y 70) (pw_cc 70) (pw_mxl 70) (pw_ret 70) ∈ lw_tbl := pw_tb_2 (List.mem_of_getElem? (i := 222) rfl)
theorem pw_cd_71 : Cond.code (pw_y 71) (pw_cc 71) (pw_mxl 71) (pw_ret 71) ∈ lw_tbl := pw_tb_3 (List.mem_of_getElem? (i := 12) rfl)
theorem pw_cd_72 : Cond.code (pw_y 72) (pw_cc 72) (pw_mxl 72) (pw_ret 72) ∈ lw_tbl := pw_tb_3 (List.mem_of_getElem? (i := 16) rfl)
theorem pw_cd_73 : Cond.code (pw_y 73) (pw_cc 73) (pw_mxl 73) (pw_ret 73) ∈ lw_tbl := pw_tb_3 (List.mem_of_getElem? (i := 149) rfl)
theorem pw_cd_74 : Cond.code (pw_y 74) (pw_cc 74) (pw_mxl 74) (pw_ret 74) ∈ lw_tbl := pw_tb_3 (List.mem_of_getElem? (i := 172) rfl)
theorem pw_cd_75 : Cond.code (pw_y 75) (pw_cc 75) (pw_mxl 75) (pw_ret 75) ∈ lw_tbl := pw_tb_0 (List.mem_of_getElem? (i := 38) rfl)
theorem pw_cd_76 : Cond.code (pw_y 76) (pw_cc 76) (pw_mxl 76) (pw_ret 76) ∈ lw_tbl := pw_tb_1 (List.mem_of_getElem? (i := 190) rfl)
theorem pw_cd_77 : Cond.code (pw_y 77) (pw_cc 77) (pw_mxl 77) (pw_ret 77) ∈ lw_tbl := pw_tb_3 (List.mem_of_getElem? (i := 46) rfl)
theorem pw_cd_78 : Cond.code (pw_y 78) (pw_cc 78) (pw_mxl 78) (pw_ret 78) ∈ lw_tbl := pw_tb_3 (List.mem_of_getElem? (i := 50) rfl)
theorem pw_cd_79 : Cond.code (pw_y 79) (pw_cc 79) (pw_mxl 79) (pw_ret 79) ∈ lw_tbl := pw_tb_2 (List.mem_of_getElem? (i := 93) rfl)
theorem pw_cd_80 : Cond.code (pw_y 80) (pw_cc 80) (pw_mxl 80) (pw_ret 80) ∈ lw_tbl := pw_tb_3 (List.mem_of_getElem? (i := 74) rfl)
theorem pw_cd_81 : Cond.code (pw_y 81) (pw_cc 81) (pw_mxl 81) (pw_ret 81) ∈ lw_tbl := pw_tb_3 (List.mem_of_getElem? (i := 78) rfl)
theorem pw_cd_82 : Cond.code (pw_y 82) (pw_cc 82) (pw_mxl 82) (pw_ret 82) ∈ lw_tbl := pw_tb_3 (List.mem_of_getElem? (i := 106) rfl)
theorem pw_cd_83 : Cond.code (pw_y 83) (pw_cc 83) (pw_mxl 83) (pw_ret 83) ∈ lw_tbl := pw_tb_3 (List.mem_of_getElem? (i := 86) rfl)
theorem pw_cd_84 : Cond.code (pw_y 84) (pw_cc 84) (pw_mxl 84) (pw_ret 84) ∈ lw_tbl := pw_tb_3 (List.mem_of_getElem? (i := 90) rfl)
theorem pw_cd_85 : Cond.code (pw_y 85) (pw_cc 85) (pw_mxl 85) (pw_ret 85) ∈ lw_tbl := pw_tb_0 (List.mem_of_getElem? (i := 166) rfl)
theorem pw_cd_86 : Cond.code (pw_y 86) (pw_cc 86) (pw_mxl 86) (pw_ret 86) ∈ lw_tbl := pw_tb_2 (List.mem_of_getElem? (i := 1) rfl)
theorem pw_cd_87 : Cond.code (pw_y 87) (pw_cc 87) (pw_mxl 87) (pw_ret 87) ∈ lw_tbl := pw_tb_1 (List.mem_of_getElem? (i := 178) rfl)
theorem pw_cd_88 : Cond.code (pw_y 88) (pw_cc 88) (pw_mxl 88) (pw_ret 88) ∈ lw_tbl := pw_tb_2 (List.mem_of_getElem? (i := 231) rfl)
theorem pw_cd_89 : Cond.code (pw_y 89) (pw_cc 89) (pw_mxl 89) (pw_ret 89) ∈ lw_tbl := pw_tb_2 (List.mem_of_getElem? (i := 235) rfl)
theorem pw_cd_90 : Cond.code (pw_y 90) (pw_cc 90) (pw_mxl 90) (pw_ret 90) ∈ lw_tbl := pw_tb_2 (List.mem_of_getElem? (i := 239) rfl)
theorem pw_cd_91 : Cond.code (pw_y 91) (pw_cc 91) (pw_mxl 91) (pw_ret 91) ∈ lw_tbl := pw_tb_3 (List.mem_of_getElem? (i := 3) rfl)
theorem pw_cd_92 : Cond.code (pw_y 92) (pw_cc 92) (pw_mxl 92) (pw_ret 92) ∈ lw_tbl := pw_tb_3 (List.mem_of_getElem? (i := 7) rfl)
theorem pw_cd_93 : Cond.code (pw_y 93) (pw_cc 93) (pw_mxl 93) (pw_ret 93) ∈ lw_tbl := pw_tb_0 (List.mem_of_getElem? (i := 99) rfl)
theorem pw_cd_94 : Cond.code (pw_y 94) (pw_cc 94) (pw_mxl 94) (pw_ret 94) ∈ lw_tbl := pw_tb_1 (List.mem_of_getElem? (i := 195) rfl)
theorem pw_cd_95 : Cond.code (pw_y 95) (pw_cc 95) (pw_mxl 95) (pw_ret 95) ∈ lw_tbl := pw_tb_2 (List.mem_of_getElem? (i := 181) rfl)
theorem pw_cd_96 : Cond.code (pw_y 96) (pw_cc 96) (pw_mxl 96) (pw_ret 96) ∈ lw_tbl := pw_tb_2 (List.mem_of_getElem? (i := 189) rfl)
theorem pw_cd_97 : Cond.code (pw_y 97) (pw_cc 97) (pw_mxl 97) (pw_ret 97) ∈ lw_tbl := pw_tb_2 (List.mem_of_getElem? (i := 202) rfl)
theorem pw_cd_98 : Cond.code (pw_y 98) (pw_cc 98) (pw_mxl 98) (pw_ret 98) ∈ lw_tbl := pw_tb_2 (List.mem_of_getElem? (i := 206) rfl)
theorem pw_cd_99 : Cond.code (pw_y 99) (pw_cc 99) (pw_mxl 99) (pw_ret 99) ∈ lw_tbl := pw_tb_2 (List.mem_of_getElem? (i := 210) rfl)
theorem pw_cd_100 : Cond.code (pw_y 100) (pw_cc 100) (pw_mxl 100) (pw_ret 100) ∈ lw_tbl := pw_tb_0 (List.mem_of_getElem? (i := 22) rfl)
theorem pw_cd_101 : Cond.code (pw_y 101) (pw_cc 101) (pw_mxl 101) (pw_ret 101) ∈ lw_tbl := pw_tb_1 (List.mem_of_getElem? (i := 150) rfl)
theorem pw_cd_102 : Cond.code (pw_y 102) (pw_cc 102) (pw_mxl 102) (pw_ret 102) ∈ lw_tbl := pw_tb_2 (List.mem_of_getElem? (i := 6) rfl)
theorem pw_cd_103 : Cond.code (pw_y 103) (pw_cc 103) (pw_mxl 103) (pw_ret 103) ∈ lw_tbl := pw_tb_2 (List.mem_of_getElem? (i := 17) rfl)
theorem pw_cd_104 : Cond.code (pw_y 104) (pw_cc 104) (pw_mxl 104) (pw_ret 104) ∈ lw_tbl := pw_tb_2 (List.mem_of_getElem? (i := 21) rfl)
theorem pw_cd_105 : Cond.code (pw_y 105) (pw_cc 105) (pw_mxl 105) (pw_ret 105) ∈ lw_tbl := pw_tb_2 (List.mem_of_getElem? (i := 32) rfl)
theorem pw_cd_106 : Cond.code (pw_y 106) (pw_cc 106) (pw_mxl 106) (pw_ret 106) ∈ lw_tbl := pw_tb_3 (List.mem_of_getElem? (i := 21) rfl)
theorem pw_cd_107 : Cond.code (pw_y 107) (pw_cc 107) (pw_mxl 107) (pw_ret 107) ∈ lw_tbl := pw_tb_3 (List.mem_of_getElem? (i := 25) rfl)
theorem pw_cd_108 : Cond.code (pw_y 108) (pw_cc 108) (pw_mxl 108) (pw_ret 108) ∈ lw_tbl := pw_tb_3 (List.mem_of_getElem? (i := 29) rfl)
theorem pw_cd_109 : Cond.code (pw_y 109) (pw_cc 109) (pw_mxl 109) (pw_ret 109) ∈ lw_tbl := pw_tb_3 (List.mem_of_getElem? (i := 37) rfl)
theorem pw_cd_110 : Cond.code (pw_y 110) (pw_cc 110) (pw_mxl 110) (pw_ret 110) ∈ lw_tbl := pw_tb_3 (List.mem_of_getElem? (i := 41) rfl)
theorem pw_cd_111 : Cond.code (pw_y 111) (pw_cc 111) (pw_mxl 111) (pw_ret 111) ∈ lw_tbl := pw_tb_3 (List.mem_of_getElem? (i := 54) rfl)
theorem pw_cd_112 : Cond.code (pw_y 112) (pw_cc 112) (pw_mxl 112) (pw_ret 112) ∈ lw_tbl := pw_tb_3 (List.mem_of_getElem? (i := 58) rfl)
theorem pw_cd_113 : Cond.code (pw_y 113) (pw_cc 113) (pw_mxl 113) (pw_ret 113) ∈ lw_tbl := pw_tb_3 (List.mem_of_getElem? (i := 62) rfl)
theorem pw_cd_114 : Cond.code (pw_y 114) (pw_cc 114) (pw_mxl 114) (pw_ret 114) ∈ lw_tbl := pw_tb_3 (List.mem_of_getElem? (i := 70) rfl)
theorem pw_cd_115 : Cond.code (pw_y 115) (pw_cc 115) (pw_mxl 115) (pw_ret 115) ∈ lw_tbl := pw_tb_3 (List.mem_of_getElem? (i := 82) rfl)
theorem pw_cd_116 : Cond.code (pw_y 116) (pw_cc 116) (pw_mxl 116) (pw_ret 116) ∈ lw_tbl := pw_tb_3 (List.mem_of_getElem? (i := 94) rfl)
theorem pw_cd_117 : Cond.code (pw_y 117) (pw_cc 117) (pw_mxl 117) (pw_ret 117) ∈ lw_tbl := pw_tb_3 (List.mem_of_getElem? (i := 98) rfl)
theorem pw_cd_118 : Cond.code (pw_y 118) (pw_cc 118) (pw_mxl 118) (pw_ret 118) ∈ lw_tbl := pw_tb_3 (List.mem_of_getElem? (i := 102) rfl)
theorem pw_cd_119 : Cond.code (pw_y 119) (pw_cc 119) (pw_mxl 119) (pw_ret 119) ∈ lw_tbl := pw_tb_3 (List.mem_of_getElem? (i := 114) rfl)
theorem pw_cd_120 : Cond.code (pw_y 120) (pw_cc 120) (pw_mxl 120) (pw_ret 120) ∈ lw_tbl := pw_tb_3 (List.mem_of_getElem? (i := 122) rfl)
theorem pw_cd_121 : Cond.code (pw_y 121) (pw_cc 121) (pw_mxl 121) (pw_ret 121) ∈ lw_tbl := pw_tb_3 (List.mem_of_getElem? (i := 131) rfl)
theorem pw_cd_122 : Cond.code (pw_y 122) (pw_cc 122) (pw_mxl 122) (pw_ret 122) ∈ lw_tbl := pw_tb_3 (List.mem_of_getElem? (i := 135) rfl)
theorem pw_cd_123 : Cond.code (pw_y 123) (pw_cc 123) (pw_mxl 123) (pw_ret 123) ∈ lw_tbl := pw_tb_3 (List.mem_of_getElem? (i := 140) rfl)
theorem pw_cd_124 : Cond.code (pw_y 124) (pw_cc 124) (pw_mxl 124) (pw_ret 124) ∈ lw_tbl := pw_tb_3 (List.mem_of_getElem? (i := 145) rfl)
theorem pw_cd_125 : Cond.code (pw_y 125) (pw_cc 125) (pw_mxl 125) (pw_ret 125) ∈ lw_tbl := pw_tb_3 (List.mem_of_getElem? (i := 163) rfl)
theorem pw_cd_126 : Cond.code (pw_y 126) (pw_cc 126) (pw_mxl 126) (pw_ret 126) ∈ lw_tbl := pw_tb_3 (List.mem_of_getElem? (i := 167) rfl)
theorem pw_cd_127 : Cond.code (pw_y 127) (pw_cc 127) (pw_mxl 127) (pw_ret 127) ∈ lw_tbl := pw_tb_3 (List.mem_of_getElem? (i := 176) rfl)
theorem pw_cd_128 : Cond.code (pw_y 128) (pw_cc 128) (pw_mxl 128) (pw_ret 128) ∈ lw_tbl := pw_tb_3 (List.mem_of_getElem? (i := 180) rfl)
theorem pw_cd_129 : Cond.code (pw_y 129) (pw_cc 129) (pw_mxl 129) (pw_ret 129) ∈ lw_tbl := pw_tb_3 (List.mem_of_getElem? (i := 184) rfl)
theorem pw_cd_130 : Cond.code (pw_y 130) (pw_cc 130) (pw_mxl 130) (pw_ret 130) ∈ lw_tbl := pw_tb_3 (List.mem_of_getElem? (i := 188) rfl)
theorem pw_cd_131 : Cond.code (pw_y 131) (pw_cc 131) (pw_mxl 131) (pw_ret 131) ∈ lw_tbl := pw_tb_3 (List.mem_of_getElem? (i := 192) rfl)
theorem pw_cd_132 : Cond.code (pw_y 132) (pw_cc 132) (pw_mxl 132) (pw_ret 132) ∈ lw_tbl := pw_tb_3 (List.mem_of_getElem? (i := 201) rfl)
theorem pw_cd_133 : Cond.code (pw_y 133) (pw_cc 133) (pw_mxl 133) (pw_ret 133) ∈ lw_tbl := pw_tb_3 (List.mem_of_getElem? (i := 207) rfl)
theorem pw_cd_134 : Cond.code (pw_y 134) (pw_cc 134) (pw_mxl 134) (pw_ret 134) ∈ lw_tbl := pw_tb_3 (List.mem_of_getElem? (i := 216) rfl)
theorem pw_cd_135 : Cond.code (pw_y 135) (pw_cc 135) (pw_mxl 135) (pw_ret 135) ∈ lw_tbl := pw_tb_3 (List.mem_of_getElem? (i := 220) rfl)
theorem pw_cd_136 : Cond.code (pw_y 136) (pw_cc 136) (pw_mxl 136) (pw_ret 136) ∈ lw_tbl := pw_tb_3 (List.mem_of_getElem? (i := 224) rfl)
theorem pw_cd_137 : Cond.code (pw_y 137) (pw_cc 137) (pw_mxl 137) (pw_ret 137) ∈ lw_tbl := pw_tb_3 (List.mem_of_getElem? (i := 236) rfl)
theorem pw_cd_138 : Cond.code (pw_y 138) (pw_cc 138) (pw_mxl 138) (pw_ret 138) ∈ lw_tbl := pw_tb_4 (List.mem_of_getElem? (i := 5) rfl)
theorem pw_cd_139 : Cond.code (pw_y 139) (pw_cc 139) (pw_mxl 139) (pw_ret 139) ∈ lw_tbl := pw_tb_4 (List.mem_of_getElem? (i := 10) rfl)
theorem pw_cd_140 : Cond.code (pw_y 140) (pw_cc 140) (pw_mxl 140) (pw_ret 140) ∈ lw_tbl := pw_tb_4 (List.mem_of_getElem? (i := 27) rfl)
theorem pw_cd_141 : Cond.code (pw_y 141) (pw_cc 141) (pw_mxl 141) (pw_ret 141) ∈ lw_tbl := pw_tb_4 (List.mem_of_getElem? (i := 31) rfl)
theorem pw_cd_142 : Cond.code (pw_y 142) (pw_cc 142) (pw_mxl 142) (pw_ret 142) ∈ lw_tbl := pw_tb_4 (List.mem_of_getElem? (i := 46) rfl)
theorem pw_cd_143 : Cond.code (pw_y 143) (pw_cc 143) (pw_mxl 143) (pw_ret 143) ∈ lw_tbl := pw_tb_4 (List.mem_of_getElem? (i := 66) rfl)
theorem pw_cd_144 : Cond.code (pw_y 144) (pw_cc 144) (pw_mxl 144) (pw_ret 144) ∈ lw_tbl := pw_tb_4 (List.mem_of_getElem? (i := 71) rfl)
theorem pw_cd_145 : Cond.code (pw_y 145) (pw_cc 145) (pw_mxl 145) (pw_ret 145) ∈ lw_tbl := pw_tb_4 (List.mem_of_getElem? (i := 76) rfl)
theorem pw_cd_146 : Cond.code (pw_y 146) (pw_cc 146) (pw_mxl 146) (pw_ret 146) ∈ lw_tbl := pw_tb_4 (List.mem_of_getElem? (i := 80) rfl)
theorem pw_cd_147 : Cond.code (pw_y 147) (pw_cc 147) (pw_mxl 147) (pw_ret 147) ∈ lw_tbl := pw_tb_4 (List.mem_of_getElem? (i := 84) rfl)
theorem pw_cd_148 : Cond.code (pw_y 148) (pw_cc 148) (pw_mxl 148) (pw_ret 148) ∈ lw_tbl := pw_tb_4 (List.mem_of_getElem? (i := 89) rfl)
theorem pw_cd_149 : Cond.code (pw_y 149) (pw_cc 149) (pw_mxl 149) (pw_ret 149) ∈ lw_tbl := pw_tb_4 (List.mem_of_getElem? (i := 94) rfl)
theorem pw_cd_150 : Cond.code (pw_y 150) (pw_cc 150) (pw_mxl 150) (pw_ret 150) ∈ lw_tbl := pw_tb_4 (List.mem_of_getElem? (i := 99) rfl)
theorem pw_cd_151 : Cond.code (pw_y 151) (pw_cc 151) (pw_mxl 151) (pw_ret 151) ∈ lw_tbl := pw_tb_4 (List.mem_of_getElem? (i := 103) rfl)
theorem pw_cd_152 : Cond.code (pw_y 152) (pw_cc 152) (pw_mxl 152) (pw_ret 152) ∈ lw_tbl := pw_tb_4 (List.mem_of_getElem? (i := 107) rfl)
theorem pw_cd_153 : Cond.code (pw_y 153) (pw_cc 153) (pw_mxl 153) (pw_ret 153) ∈ lw_tbl := pw_tb_4 (List.mem_of_getElem? (i := 111) rfl)
theorem pw_cd_154 : Cond.code (pw_y 154) (pw_cc 154) (pw_mxl 154) (pw_ret 154) ∈ lw_tbl := pw_tb_4 (List.mem_of_getElem? (i := 115) rfl)
theorem pw_cd_155 : Cond.code (pw_y 155) (pw_cc 155) (pw_mxl 155) (pw_ret 155) ∈ lw_tbl := pw_tb_4 (List.mem_of_getElem? (i := 119) rfl)
theorem pw_cd_156 : Cond.code (pw_y 156) (pw_cc 156) (pw_mxl 156) (pw_ret 156) ∈ lw_tbl := pw_tb_4 (List.mem_of_getElem? (i := 123) rfl)
theorem pw_cd_157 : Cond.code (pw_y 157) (pw_cc 157) (pw_mxl 157) (pw_ret 157) ∈ lw_tbl := pw_tb_4 (List.mem_of_getElem? (i := 134) rfl)
theorem pw_cd_158 : Cond.code (pw_y 158) (pw_cc 158) (pw_mxl 158) (pw_ret 158) ∈ lw_tbl := pw_tb_4 (List.mem_of_getElem? (i := 143) rfl)
theorem pw_cd_159 : Cond.code (pw_y 159) (pw_cc 159) (pw_mxl 159) (pw_ret 159) ∈ lw_tbl := pw_tb_4 (List.mem_of_getElem? (i := 147) rfl)
theorem pw_cd_160 : Cond.code (pw_y 160) (pw_cc 160) (pw_mxl 160) (pw_ret 160) ∈ lw_tbl := pw_tb_4 (List.mem_of_getElem? (i := 151) rfl)
theorem pw_cd_161 : Cond.code (pw_y 161) (pw_cc 161) (pw_mxl 161) (pw_ret 161) ∈ lw_tbl := pw_tb_4 (List.mem_of_getElem? (i := 155) rfl)
theorem pw_cd_162 : Cond.code (pw_y 162) (pw_cc 162) (pw_mxl 162) (pw_ret 162) ∈ lw_tbl := pw_tb_4 (List.mem_of_getElem? (i := 159) rfl)
theorem pw_cd_163 : Cond.code (pw_y 163) (pw_cc 163) (pw_mxl 163) (pw_ret 163) ∈ lw_tbl := pw_tb_4 (List.mem_of_getElem? (i := 164) rfl)
theorem pw_cd_164 : Cond.code (pw_y 164) (pw_cc 164) (pw_mxl 164) (pw_ret 164) ∈ lw_tbl := pw_tb_4 (List.mem_of_getElem? (i := 175) rfl)
theorem pw_cd_165 : Cond.code (pw_y 165) (pw_cc 165) (pw_mxl 165) (pw_ret 165) ∈ lw_tbl := pw_tb_4 (List.mem_of_getElem? (i := 183) rfl)
theorem pw_cd_166 : Cond.code (pw_y 166) (pw_cc 166) (pw_mxl 166) (pw_ret 166) ∈ lw_tbl := pw_tb_4 (List.mem_of_getElem? (i := 191) rfl)
theorem pw_cd_167 : Cond.code (pw_y 167) (pw_cc 167) (pw_mxl 167) (pw_ret 167) ∈ lw_tbl := pw_tb_4 (List.mem_of_getElem? (i := 195) rfl)
theorem pw_cd_168 : Cond.code (pw_y 168) (pw_cc 168) (pw_mxl 168) (pw_ret 168) ∈ lw_tbl := pw_tb_4 (List.mem_of_getElem? (i := 203) rfl)
theorem pw_cd_169 : Cond.code (pw_y 169) (pw_cc 169) (pw_mxl 169) (pw_ret 169) ∈ lw_tbl := pw_tb_4 (List.mem_of_getElem? (i := 187) rfl)
theorem pw_cd_170 : Cond.code (pw_y 170) (pw_cc 170) (pw_mxl 170) (pw_ret 170) ∈ lw_tbl := pw_tb_4 (List.mem_of_getElem? (i := 179) rfl)
theorem pw_cd_171 : Cond.code (pw_y 171) (pw_cc 171) (pw_mxl 171) (pw_ret 171) ∈ lw_tbl := pw_tb_4 (List.mem_of_getElem? (i := 50) rfl)
theorem pw_cd_172 : Cond.code (pw_y 172) (pw_cc 172) (pw_mxl 172) (pw_ret 172) ∈ lw_tbl := pw_tb_4 (List.mem_of_getElem? (i := 58) rfl)
theorem pw_cd_173 : Cond.code (pw_y 173) (pw_cc 173) (pw_mxl 173) (pw_ret 173) ∈ lw_tbl := pw_tb_1 (List.mem_of_getElem? (i := 153) rfl)
theorem pw_cd_174 : Cond.code (pw_y 174) (pw_cc 174) (pw_mxl 174) (pw_ret 174) ∈ lw_tbl := pw_tb_2 (List.mem_of_getElem? (i := 24) rfl)
theorem pw_cd_175 : Cond.code (pw_y 175) (pw_cc 175) (pw_mxl 175) (pw_ret 175) ∈ lw_tbl := pw_tb_1 (List.mem_of_getElem? (i := 227) rfl)
theorem pw_cd_176 : Cond.code (pw_y 176) (pw_cc 176) (pw_mxl 176) (pw_ret 176) ∈ lw_tbl := pw_tb_1 (List.mem_of_getElem? (i := 216) rfl)
theorem pw_cd_177 : Cond.code (pw_y 177) (pw_cc 177) (pw_mxl 177) (pw_ret 177) ∈ lw_tbl := pw_tb_1 (List.mem_of_getElem? (i := 230) rfl)
theorem pw_cd_178 : Cond.code (pw_y 178) (pw_cc 178) (pw_mxl 178) (pw_ret 178) ∈ lw_tbl := pw_tb_1 (List.mem_of_getElem? (i := 234) rfl)
theorem pw_cd_179 : Cond.code (pw_y 179) (pw_cc 179) (pw_mxl 179) (pw_ret 179) ∈ lw_tbl := pw_tb_2 (List.mem_of_getElem? (i := 166) rfl)
theorem pw_cd_180 : Cond.code (pw_y 180) (pw_cc 180) (pw_mxl 180) (pw_ret 180) ∈ lw_tbl := pw_tb_4 (List.mem_of_getElem? (i := 167) rfl)
theorem pw_cd_181 : Cond.code (pw_y 181) (pw_cc 181) (pw_mxl 181) (pw_ret 181) ∈ lw_tbl := pw_tb_4 (List.mem_of_getElem? (i := 128) rfl)
theorem pw_cd_182 : Cond.code (pw_y 182) (pw_cc 182) (pw_mxl 182) (pw_ret 182) ∈ lw_tbl := pw_tb_4 (List.mem_of_getElem? (i := 138) rfl)
theorem pw_cd_183 : Cond.code (pw_y 183) (pw_cc 183) (pw_mxl 183) (pw_ret 183) ∈ lw_tbl := pw_tb_4 (List.mem_of_getElem? (i := 208) rfl)
theorem pw_cd_184 : Cond.code (pw_y 184) (pw_cc 184) (pw_mxl 184) (pw_ret 184) ∈ lw_tbl := pw_tb_4 (List.mem_of_getElem? (i := 219) rfl)
theorem pw_cd_185 : Cond.code (pw_y 185) (pw_cc 185) (pw_mxl 185) (pw_ret 185) ∈ lw_tbl := pw_tb_5 (List.mem_of_getElem? (i := 24) rfl)
theorem pw_cd_186 : Cond.code (pw_y 186) (pw_cc 186) (pw_mxl 186) (pw_ret 186) ∈ lw_tbl := pw_tb_5 (List.mem_of_getElem? (i := 146) rfl)
theorem pw_cd_187 : Cond.code (pw_y 187) (pw_cc 187) (pw_mxl 187) (pw_ret 187) ∈ lw_tbl := pw_tb_5 (List.mem_of_getElem? (i := 143) rfl)
theorem pw_cd_188 : Cond.code (pw_y 188) (pw_cc 188) (pw_mxl 188) (pw_ret 188) ∈ lw_tbl := pw_tb_5 (List.mem_of_getElem? (i := 169) rfl)
theorem pw_cd_189 : Cond.code (pw_y 189) (pw_cc 189) (pw_mxl 189) (pw_ret 189) ∈ lw_tbl := pw_tb_5 (List.mem_of_getElem? (i := 128) rfl)
theorem pw_cd_190 : Cond.code (pw_y 190) (pw_cc 190) (pw_mxl 190) (pw_ret 190) ∈ lw_tbl := pw_tb_5 (List.mem_of_getElem? (i := 125) rfl)
theorem pw_cd_191 : Cond.code (pw_y 191) (pw_cc 191) (pw_mxl 191) (pw_ret 191) ∈ lw_tbl := pw_tb_4 (List.mem_of_getElem? (i := 216) rfl)
theorem pw_cd_192 : Cond.code (pw_y 192) (pw_cc 192) (pw_mxl 192) (pw_ret 192) ∈ lw_tbl := pw_tb_5 (List.mem_of_getElem? (i := 66) rfl)
theorem pw_cd_193 : Cond.code (pw_y 193) (pw_cc 193) (pw_mxl 193) (pw_ret 193) ∈ lw_tbl := pw_tb_5 (List.mem_of_getElem? (i := 41) rfl)
theorem pw_cd_194 : Cond.code (pw_y 194) (pw_cc 194) (pw_mxl 194) (pw_ret 194) ∈ lw_tbl := pw_tb_5 (List.mem_of_getElem? (i := 32) rfl)
theorem pw_cd_195 : Cond.code (pw_y 195) (pw_cc 195) (pw_mxl 195) (pw_ret 195) ∈ lw_tbl := pw_tb_5 (List.mem_of_getElem? (i := 58) rfl)
theorem pw_cd_196 : Cond.code (pw_y 196) (pw_cc 196) (pw_mxl 196) (pw_ret 196) ∈ lw_tbl := pw_tb_5 (List.mem_of_getElem? (i := 53) rfl)
theorem pw_cd_197 : Cond.code (pw_y 197) (pw_cc 197) (pw_mxl 197) (pw_ret 197) ∈ lw_tbl := pw_tb_5 (List.mem_of_getElem? (i := 49) rfl)
theorem pw_cd_198 : Cond.code (pw_y 198) (pw_cc 198) (pw_mxl 198) (pw_ret 198) ∈ lw_tbl := pw_tb_5 (List.mem_of_getElem? (i := 110) rfl)
theorem pw_cd_199 : Cond.code (pw_y 199) (pw_cc 199) (pw_mxl 199) (pw_ret 199) ∈ lw_tbl := pw_tb_5 (List.mem_of_getElem? (i := 36) rfl)
theorem pw_cd_200 : Cond.code (pw_y 200) (pw_cc 200) (pw_mxl 200) (pw_ret 200) ∈ lw_tbl := pw_tb_5 (List.mem_of_getElem? (i := 106) rfl)
theorem pw_cd_201 : Cond.code (pw_y 201) (pw_cc 201) (pw_mxl 201) (pw_ret 201) ∈ lw_tbl := pw_tb_5 (List.mem_of_getElem? (i := 201) rfl)
theorem pw_cd_202 : Cond.code (pw_y 202) (pw_cc 202) (pw_mxl 202) (pw_ret 202) ∈ lw_tbl := pw_tb_5 (List.mem_of_getElem? (i := 102) rfl)
theorem pw_cd_203 : Cond.code (pw_y 203) (pw_cc 203) (pw_mxl 203) (pw_ret 203) ∈ lw_tbl := pw_tb_5 (List.mem_of_getElem? (i := 213) rfl)
theorem pw_cd_204 : Cond.code (pw_y 204) (pw_cc 204) (pw_mxl 204) (pw_ret 204) ∈ lw_tbl := pw_tb_5 (List.mem_of_getElem? (i := 185) rfl)
theorem pw_cd_205 : Cond.code (pw_y 205) (pw_cc 205) (pw_mxl 205) (pw_ret 205) ∈ lw_tbl := pw_tb_5 (List.mem_of_getElem? (i := 233) rfl)
theorem pw_cd_206 : Cond.code (pw_y 206) (pw_cc 206) (pw_mxl 206) (pw_ret 206) ∈ lw_tbl := pw_tb_5 (List.mem_of_getElem? (i := 122) rfl)
theorem pw_cd_207 : Cond.code (pw_y 207) (pw_cc 207) (pw_mxl 207) (pw_ret 207) ∈ lw_tbl := pw_tb_5 (List.mem_of_getElem? (i := 118) rfl)
theorem pw_cd_208 : Cond.code (pw_y 208) (pw_cc 208) (pw_mxl 208) (pw_ret 208) ∈ lw_tbl := pw_tb_5 (List.mem_of_getElem? (i := 114) rfl)
theorem pw_cd_209 : Cond.code (pw_y 209) (pw_cc 209) (pw_mxl 209) (pw_ret 209) ∈ lw_tbl := pw_tb_5 (List.mem_of_getElem? (i := 140) rfl)
theorem pw_cd_210 : Cond.code (pw_y 210) (pw_cc 210) (pw_mxl 210) (pw_ret 210) ∈ lw_tbl := pw_tb_5 (List.mem_of_getElem? (i := 136) rfl)
theorem pw_cd_211 : Cond.code (pw_y 211) (pw_cc 211) (pw_mxl 211) (pw_ret 211) ∈ lw_tbl := pw_tb_5 (List.mem_of_getElem? (i := 98) rfl)
theorem pw_cd_212 : Cond.code (pw_y 212) (pw_cc 212) (pw_mxl 212) (pw_ret 212) ∈ lw_tbl := pw_tb_5 (List.mem_of_getElem? (i := 150) rfl)
theorem pw_cd_213 : Cond.code (pw_y 213) (pw_cc 213) (pw_mxl 213) (pw_ret 213) ∈ lw_tbl := pw_tb_5 (List.mem_of_getElem? (i := 132) rfl)
theorem pw_cd_214 : Cond.code (pw_y 214) (pw_cc 214) (pw_mxl 214) (pw_ret 214) ∈ lw_tbl := pw_tb_5 (List.mem_of_getElem? (i := 173) rfl)
theorem pw_cd_215 : Cond.code (pw_y 215) (pw_cc 215) (pw_mxl 215) (pw_ret 215) ∈ lw_tbl := pw_tb_5 (List.mem_of_getElem? (i := 158) rfl)
theorem pw_cd_216 : Cond.code (pw_y 216) (pw_cc 216) (pw_mxl 216) (pw_ret 216) ∈ lw_tbl := pw_tb_5 (List.mem_of_getElem? (i := 162) rfl)
theorem pw_cd_217 : Cond.code (pw_y 217) (pw_cc 217) (pw_mxl 217) (pw_ret 217) ∈ lw_tbl := pw_tb_5 (List.mem_of_getElem? (i := 166) rfl)
theorem pw_cd_218 : Cond.code (pw_y 218) (pw_cc 218) (pw_mxl 218) (pw_ret 218) ∈ lw_tbl := pw_tb_5 (List.mem_of_getElem? (i := 154) rfl)
theorem pw_cd_219 : Cond.code (pw_y 219) (pw_cc 219) (pw_mxl 219) (pw_ret 219) ∈ lw_tbl := pw_tb_5 (List.mem_of_getElem? (i := 189) rfl)
theorem pw_cd_220 : Cond.code (pw_y 220) (pw_cc 220) (pw_mxl 220) (pw_ret 220) ∈ lw_tbl := pw_tb_5 (List.mem_of_getElem? (i := 181) rfl)
theorem pw_cd_221 : Cond.code (pw_y 221) (pw_cc 221) (pw_mxl 221) (pw_ret 221) ∈ lw_tbl := pw_tb_5 (List.mem_of_getElem? (i := 193) rfl)
theorem pw_cd_222 : Cond.code (pw_y 222) (pw_cc 222) (pw_mxl 222) (pw_ret 222) ∈ lw_tbl := pw_tb_5 (List.mem_of_getElem? (i := 177) rfl)
theorem pw_cd_223 : Cond.code (pw_y 223) (pw_cc 223) (pw_mxl 223) (pw_ret 223) ∈ lw_tbl := pw_tb_5 (List.mem_of_getElem? (i := 209) rfl)
theorem pw_cd_224 : Cond.code (pw_y 224) (pw_cc 224) (pw_mxl 224) (pw_ret 224) ∈ lw_tbl := pw_tb_5 (List.mem_of_getElem? (i := 205) rfl)
theorem pw_cd_225 : Cond.code (pw_y 225) (pw_cc 225) (pw_mxl 225) (pw_ret 225) ∈ lw_tbl := pw_tb_5 (List.mem_of_getElem? (i := 197) rfl)
theorem pw_cd_226 : Cond.code (pw_y 226) (pw_cc 226) (pw_mxl 226) (pw_ret 226) ∈ lw_tbl := pw_tb_5 (List.mem_of_getElem? (i := 217) rfl)
theorem pw_cd_227 : Cond.code (pw_y 227) (pw_cc 227) (pw_mxl 227) (pw_ret 227) ∈ lw_tbl := pw_tb_5 (List.mem_of_getElem? (i := 225) rfl)
theorem pw_cd_228 : Cond.code (pw_y 228) (pw_cc 228) (pw_mxl 228) (pw_ret 228) ∈ lw_tbl := pw_tb_5 (List.mem_of_getElem? (i := 229) rfl)
theorem pw_cd_229 : Cond.code (pw_y 229) (pw_cc 229) (pw_mxl 229) (pw_ret 229) ∈ lw_tbl := pw_tb_5 (List.mem_of_getElem? (i := 237) rfl)
theorem pw_cd_230 : Cond.code (pw_y 230) (pw_cc 230) (pw_mxl 230) (pw_ret 230) ∈ lw_tbl := pw_tb_5 (List.mem_of_getElem? (i := 221) rfl)
theorem pw_cd_231 : Cond.code (pw_y 231) (pw_cc 231) (pw_mxl 231) (pw_ret 231) ∈ lw_tbl := pw_tb_6 (List.mem_of_getElem? (i := 9) rfl)
theorem pw_cd_232 : Cond.code (pw_y 232) (pw_cc 232) (pw_mxl 232) (pw_ret 232) ∈ lw_tbl := pw_tb_6 (List.mem_of_getElem? (i := 13) rfl)
theorem pw_cd_233 : Cond.code (pw_y 233) (pw_cc 233) (pw_mxl 233) (pw_ret 233) ∈ lw_tbl := pw_tb_6 (List.mem_of_getElem? (i := 5) rfl)
theorem pw_cd_234 : Cond.code (pw_y 234) (pw_cc 234) (pw_mxl 234) (pw_ret 234) ∈ lw_tbl := pw_tb_6 (List.mem_of_getElem? (i := 17) rfl)
theorem pw_cd_235 : Cond.code (pw_y 235) (pw_cc 235) (pw_mxl 235) (pw_ret 235) ∈ lw_tbl := pw_tb_6 (List.mem_of_getElem? (i := 1) rfl)
theorem pw_cd_236 : Cond.code (pw_y 236) (pw_cc 236) (pw_mxl 236) (pw_ret 236) ∈ lw_tbl := pw_tb_6 (List.mem_of_getElem? (i := 21) rfl)
theorem pw_cd_237 : Cond.code (pw_y 237) (pw_cc 237) (pw_mxl 237) (pw_ret 237) ∈ lw_tbl := pw_tb_5 (List.mem_of_getElem? (i := 94) rfl)
theorem pw_cd_238 : Cond.code (pw_y 238) (pw_cc 238) (pw_mxl 238) (pw_ret 238) ∈ lw_tbl := pw_tb_7 (List.mem_of_getElem? (i := 49) rfl)
theorem pw_cd_239 : Cond.code (pw_y 239) (pw_cc 239) (pw_mxl 239) (pw_ret 239) ∈ lw_tbl := pw_tb_7 (List.mem_of_getElem? (i := 53) rfl)
theorem pw_cd_240 : Cond.code (pw_y 240) (pw_cc 240) (pw_mxl 240) (pw_ret 240) ∈ lw_tbl := pw_tb_5 (List.mem_of_getElem? (i := 17) rfl)
theorem pw_cd_241 : Cond.code (pw_y 241) (pw_cc 241) (pw_mxl 241) (pw_ret 241) ∈ lw_tbl := pw_tb_5 (List.mem_of_getElem? (i := 28) rfl)
theorem pw_cd_242 : Cond.code (pw_y 242) (pw_cc 242) (pw_mxl 242) (pw_ret 242) ∈ lw_tbl := pw_tb_5 (List.mem_of_getElem? (i := 14) rfl)
theorem pw_cd_243 : Cond.code (pw_y 243) (pw_cc 243) (pw_mxl 243) (pw_ret 243) ∈ lw_tbl := pw_tb_5 (List.mem_of_getElem? (i := 21) rfl)
theorem pw_cd_244 : Cond.code (pw_y 244) (pw_cc 244) (pw_mxl 244) (pw_ret 244) ∈ lw_tbl := pw_tb_5 (List.mem_of_getElem? (i := 62) rfl)
theorem pw_cd_245 : Cond.code (pw_y 245) (pw_cc 245) (pw_mxl 245) (pw_ret 245) ∈ lw_tbl := pw_tb_5 (List.mem_of_getElem? (i := 70) rfl)
theorem pw_cd_246 : Cond.code (pw_y 246) (pw_cc 246) (pw_mxl 246) (pw_ret 246) ∈ lw_tbl := pw_tb_5 (List.mem_of_getElem? (i := 78) rfl)
theorem pw_cd_247 : Cond.code (pw_y 247) (pw_cc 247) (pw_mxl 247) (pw_ret 247) ∈ lw_tbl := pw_tb_5 (List.mem_of_getElem? (i := 74) rfl)
theorem pw_cd_248 : Cond.code (pw_y 248) (pw_cc 248) (pw_mxl 248) (pw_ret 248) ∈ lw_tbl := pw_tb_5 (List.mem_of_getElem? (i := 90) rfl)
theorem pw_cd_249 : Cond.code (pw_y 249) (pw_cc 249) (pw_mxl 249) (pw_ret 249) ∈ lw_tbl := pw_tb_5 (List.mem_of_getElem? (i := 86) rfl)
theorem pw_cd_250 : Cond.code (pw_y 250) (pw_cc 250) (pw_mxl 250) (pw_ret 250) ∈ lw_tbl := pw_tb_5 (List.mem_of_getElem? (i := 82) rfl)
theorem pw_cd_251 : Cond.code (pw_y 251) (pw_cc 251) (pw_mxl 251) (pw_ret 251) ∈ lw_tbl := pw_tb_6 (List.mem_of_getElem? (i := 30) rfl)
theorem pw_cd_252 : Cond.code (pw_y 252) (pw_cc 252) (pw_mxl 252) (pw_ret 252) ∈ lw_tbl := pw_tb_6 (List.mem_of_getElem? (i := 34) rfl)
theorem pw_cd_253 : Cond.code (pw_y 253) (pw_cc 253) (pw_mxl 253) (pw_ret 253) ∈ lw_tbl := pw_tb_6 (List.mem_of_getElem? (i := 38) rfl)
theorem pw_cd_254 : Cond.code (pw_y 254) (pw_cc 254) (pw_mxl 254) (pw_ret 254) ∈ lw_tbl := pw_tb_6 (List.mem_of_getElem? (i := 42) rfl)
theorem pw_cd_255 : Cond.code (pw_y 255) (pw_cc 255) (pw_mxl 255) (pw_ret 255) ∈ lw_tbl := pw_tb_6 (List.mem_of_getElem? (i := 47) rfl)
theorem pw_cd_256 : Cond.code (pw_y 256) (pw_cc 256) (pw_mxl 256) (pw_ret 256) ∈ lw_tbl := pw_tb_6 (List.mem_of_getElem? (i := 51) rfl)
theorem pw_cd_257 : Cond.code (pw_y 257) (pw_cc 257) (pw_mxl 257) (pw_ret 257) ∈ lw_tbl := pw_tb_6 (List.mem_of_getElem? (i := 55) rfl)
theorem pw_cd_258 : Cond.code (pw_y 258) (pw_cc 258) (pw_mxl 258) (pw_ret 258) ∈ lw_tbl := pw_tb_6 (List.mem_of_getElem? (i := 59) rfl)
theorem pw_cd_259 : Cond.code (pw_y 259) (pw_cc 259) (pw_mxl 259) (pw_ret 259) ∈ lw_tbl := pw_tb_6 (List.mem_of_getElem? (i := 63) rfl)
theorem pw_cd_260 : Cond.code (pw_y 260) (pw_cc 260) (pw_mxl 260) (pw_ret 260) ∈ lw_tbl := pw_tb_6 (List.mem_of_getElem? (i := 67) rfl)
theorem pw_cd_261 : Cond.code (pw_y 261) (pw_cc 261) (pw_mxl 261) (pw_ret 261) ∈ lw_tbl := pw_tb_6 (List.mem_of_getElem? (i := 71) rfl)
theorem pw_cd_262 : Cond.code (pw_y 262) (pw_cc 262) (pw_mxl 262) (pw_ret 262) ∈ lw_tbl := pw_tb_6 (List.mem_of_getElem? (i := 79) rfl)
theorem pw_cd_263 : Cond.code (pw_y 263) (pw_cc 263) (pw_mxl 263) (pw_ret 263) ∈ lw_tbl := pw_tb_6 (List.mem_of_getElem? (i := 75) rfl)
theorem pw_cd_264 : Cond.code (pw_y 264) (pw_cc 264) (pw_mxl 264) (pw_ret 264) ∈ lw_tbl := pw_tb_6 (List.mem_of_getElem? (i := 83) rfl)
theorem pw_cd_265 : Cond.code (pw_y 265) (pw_cc 265) (pw_mxl 265) (pw_ret 265) ∈ lw_tbl := pw_tb_6 (List.mem_of_getElem? (i := 91) rfl)
theorem pw_cd_266 : Cond.code (pw_y 266) (pw_cc 266) (pw_mxl 266) (pw_ret 266) ∈ lw_tbl := pw_tb_6 (List.mem_of_getElem? (i := 95) rfl)
theorem pw_cd_267 : Cond.code (pw_y 267) (pw_cc 267) (pw_mxl 267) (pw_ret 267) ∈ lw_tbl := pw_tb_6 (List.mem_of_getElem? (i := 87) rfl)
theorem pw_cd_268 : Cond.code (pw_y 268) (pw_cc 268) (pw_mxl 268) (pw_ret 268) ∈ lw_tbl := pw_tb_6 (List.mem_of_getElem? (i := 25) rfl)
theorem pw_cd_269 : Cond.code (pw_y 269) (pw_cc 269) (pw_mxl 269) (pw_ret 269) ∈ lw_tbl := pw_tb_6 (List.mem_of_getElem? (i := 100) rfl)
theorem pw_cd_270 : Cond.code (pw_y 270) (pw_cc 270) (pw_mxl 270) (pw_ret 270) ∈ lw_tbl := pw_tb_6 (List.mem_of_getElem? (i := 108) rfl)
theorem pw_cd_271 : Cond.code (pw_y 271) (pw_cc 271) (pw_mxl 271) (pw_ret 271) ∈ lw_tbl := pw_tb_6 (List.mem_of_getElem? (i := 104) rfl)
theorem pw_cd_272 : Cond.code (pw_y 272) (pw_cc 272) (pw_mxl 272) (pw_ret 272) ∈ lw_tbl := pw_tb_6 (List.mem_of_getElem? (i := 112) rfl)
theorem pw_cd_273 : Cond.code (pw_y 273) (pw_cc 273) (pw_mxl 273) (pw_ret 273) ∈ lw_tbl := pw_tb_6 (List.mem_of_getElem? (i := 116) rfl)
theorem pw_cd_274 : Cond.code (pw_y 274) (pw_cc 274) (pw_mxl 274) (pw_ret 274) ∈ lw_tbl := pw_tb_6 (List.mem_of_getElem? (i := 120) rfl)
theorem pw_cd_275 : Cond.code (pw_y 275) (pw_cc 275) (pw_mxl 275) (pw_ret 275) ∈ lw_tbl := pw_tb_6 (List.mem_of_getElem? (i := 124) rfl)
theorem pw_cd_276 : Cond.code (pw_y 276) (pw_cc 276) (pw_mxl 276) (pw_ret 276) ∈ lw_tbl := pw_tb_6 (List.mem_of_getElem? (i := 128) rfl)
theorem pw_cd_277 : Cond.code (pw_y 277) (pw_cc 277) (pw_mxl 277) (pw_ret 277) ∈ lw_tbl := pw_tb_6 (List.mem_of_getElem? (i := 132) rfl)
theorem pw_cd_278 : Cond.code (pw_y 278) (pw_cc 278) (pw_mxl 278) (pw_ret 278) ∈ lw_tbl := pw_tb_6 (List.mem_of_getElem? (i := 136) rfl)
theorem pw_cd_279 : Cond.code (pw_y 279) (pw_cc 279) (pw_mxl 279) (pw_ret 279) ∈ lw_tbl := pw_tb_6 (List.mem_of_getElem? (i := 140) rfl)
theorem pw_cd_280 : Cond.code (pw_y 280) (pw_cc 280) (pw_mxl 280) (pw_ret 280) ∈ lw_tbl := pw_tb_6 (List.mem_of_getElem? (i := 144) rfl)
theorem pw_cd_281 : Cond.code (pw_y 281) (pw_cc 281) (pw_mxl 281) (pw_ret 281) ∈ lw_tbl := pw_tb_6 (List.mem_of_getElem? (i := 148) rfl)
theorem pw_cd_282 : Cond.code (pw_y 282) (pw_cc 282) (pw_mxl 282) (pw_ret 282) ∈ lw_tbl := pw_tb_6 (List.mem_of_getElem? (i := 153) rfl)
theorem pw_cd_283 : Cond.code (pw_y 283) (pw_cc 283) (pw_mxl 283) (pw_ret 283) ∈ lw_tbl := pw_tb_6 (List.mem_of_getElem? (i := 157) rfl)
theorem pw_cd_284 : Cond.code (pw_y 284) (pw_cc 284) (pw_mxl 284) (pw_ret 284) ∈ lw_tbl := pw_tb_6 (List.mem_of_getElem? (i := 161) rfl)
theorem pw_cd_285 : Cond.code (pw_y 285) (pw_cc 285) (pw_mxl 285) (pw_ret 285) ∈ lw_tbl := pw_tb_6 (List.mem_of_getElem? (i := 165) rfl)
theorem pw_cd_286 : Cond.code (pw_y 286) (pw_cc 286) (pw_mxl 286) (pw_ret 286) ∈ lw_tbl := pw_tb_6 (List.mem_of_getElem? (i := 169) rfl)
theorem pw_cd_287 : Cond.code (pw_y 287) (pw_cc 287) (pw_mxl 287) (pw_ret 287) ∈ lw_tbl := pw_tb_6 (List.mem_of_getElem? (i := 173) rfl)
theorem pw_cd_288 : Cond.code (pw_y 288) (pw_cc 288) (pw_mxl 288) (pw_ret 288) ∈ lw_tbl := pw_tb_6 (List.mem_of_getElem? (i := 177) rfl)
theorem pw_cd_289 : Cond.code (pw_y 289) (pw_cc 289) (pw_mxl 289) (pw_ret 289) ∈ lw_tbl := pw_tb_6 (List.mem_of_getElem? (i := 181) rfl)
theorem pw_cd_290 : Cond.code (pw_y 290) (pw_cc 290) (pw_mxl 290) (pw_ret 290) ∈ lw_tbl := pw_tb_6 (List.mem_of_getElem? (i := 185) rfl)
theorem pw_cd_291 : Cond.code (pw_y 291) (pw_cc 291) (pw_mxl 291) (pw_ret 291) ∈ lw_tbl := pw_tb_6 (List.mem_of_getElem? (i := 189) rfl)
theorem pw_cd_292 : Cond.code (pw_y 292) (pw_cc 292) (pw_mxl 292) (pw_ret 292) ∈ lw_tbl := pw_tb_6 (List.mem_of_getElem? (i := 193) rfl)
theorem pw_cd_293 : Cond.code (pw_y 293) (pw_cc 293) (pw_mxl 293) (pw_ret 293) ∈ lw_tbl := pw_tb_6 (List.mem_of_getElem? (i := 207) rfl)
theorem pw_cd_294 : Cond.code (pw_y 294) (pw_cc 294) (pw_mxl 294) (pw_ret 294) ∈ lw_tbl := pw_tb_6 (List.mem_of_getElem? (i := 221) rfl)
theorem pw_cd_295 : Cond.code (pw_y 295) (pw_cc 295) (pw_mxl 295) (pw_ret 295) ∈ lw_tbl := pw_tb_6 (List.mem_of_getElem? (i := 225) rfl)
theorem pw_cd_296 : Cond.code (pw_y 296) (pw_cc 296) (pw_mxl 296) (pw_ret 296) ∈ lw_tbl := pw_tb_6 (List.mem_of_getElem? (i := 229) rfl)
theorem pw_cd_297 : Cond.code (pw_y 297) (pw_cc 297) (pw_mxl 297) (pw_ret 297) ∈ lw_tbl := pw_tb_6 (List.mem_of_getElem? (i := 234) rfl)
theorem pw_cd_298 : Cond.code (pw_y 298) (pw_cc 298) (pw_mxl 298) (pw_ret 298) ∈ lw_tbl := pw_tb_6 (List.mem_of_getElem? (i := 239) rfl)
theorem pw_cd_299 : Cond.code (pw_y 299) (pw_cc 299) (pw_mxl 299) (pw_ret 299) ∈ lw_tbl := pw_tb_7 (List.mem_of_getElem? (i := 7) rfl)
theorem pw_cd_300 : Cond.code (pw_y 300) (pw_cc 300) (pw_mxl 300) (pw_ret 300) ∈ lw_tbl := pw_tb_7 (List.mem_of_getElem? (i := 3) rfl)
theorem pw_cd_301 : Cond.code (pw_y 301) (pw_cc 301) (pw_mxl 301) (pw_ret 301) ∈ lw_tbl := pw_tb_7 (List.mem_of_getElem? (i := 11) rfl)
theorem pw_cd_302 : Cond.code (pw_y 302) (pw_cc 302) (pw_mxl 302) (pw_ret 302) ∈ lw_tbl := pw_tb_7 (List.mem_of_getElem? (i := 22) rfl)
theorem pw_cd_303 : Cond.code (pw_y 303) (pw_cc 303) (pw_mxl 303) (pw_ret 303) ∈ lw_tbl := pw_tb_7 (List.mem_of_getElem? (i := 18) rfl)
theorem pw_cd_304 : Cond.code (pw_y 304) (pw_cc 304) (pw_mxl 304) (pw_ret 304) ∈ lw_tbl := pw_tb_7 (List.mem_of_getElem? (i := 15) rfl)
theorem pw_cd_305 : Cond.code (pw_y 305) (pw_cc 305) (pw_mxl 305) (pw_ret 305) ∈ lw_tbl := pw_tb_7 (List.mem_of_getElem? (i := 33) rfl)
theorem pw_cd_306 : Cond.code (pw_y 306) (pw_cc 306) (pw_mxl 306) (pw_ret 306) ∈ lw_tbl := pw_tb_7 (List.mem_of_getElem? (i := 37) rfl)
theorem pw_cd_307 : Cond.code (pw_y 307) (pw_cc 307) (pw_mxl 307) (pw_ret 307) ∈ lw_tbl := pw_tb_7 (List.mem_of_getElem? (i := 30) rfl)
theorem pw_cd_308 : Cond.code (pw_y 308) (pw_cc 308) (pw_mxl 308) (pw_ret 308) ∈ lw_tbl := pw_tb_7 (List.mem_of_getElem? (i := 26) rfl)
theorem pw_cd_309 : Cond.code (pw_y 309) (pw_cc 309) (pw_mxl 309) (pw_ret 309) ∈ lw_tbl := pw_tb_7 (List.mem_of_getElem? (i := 41) rfl)
theorem pw_cd_310 : Cond.code (pw_y 310) (pw_cc 310) (pw_mxl 310) (pw_ret 310) ∈ lw_tbl := pw_tb_7 (List.mem_of_getElem? (i := 45) rfl)
theorem pw_cd_311 : Cond.code (pw_y 311) (pw_cc 311) (pw_mxl 311) (pw_ret 311) ∈ lw_tbl := pw_tb_7 (List.mem_of_getElem? (i := 57) rfl)
theorem pw_cd_312 : Cond.code (pw_y 312) (pw_cc 312) (pw_mxl 312) (pw_ret 312) ∈ lw_tbl := pw_tb_7 (List.mem_of_getElem? (i := 62) rfl)
theorem pw_cd_313 : Cond.code (pw_y 313) (pw_cc 313) (pw_mxl 313) (pw_ret 313) ∈ lw_tbl := pw_tb_7 (List.mem_of_getElem? (i := 66) rfl)
theorem pw_cd_314 : Cond.code (pw_y 314) (pw_cc 314) (pw_mxl 314) (pw_ret 314) ∈ lw_tbl := pw_tb_7 (List.mem_of_getElem? (i := 70) rfl)
theorem pw_cd_315 : Cond.code (pw_y 315) (pw_cc 315) (pw_mxl 315) (pw_ret 315) ∈ lw_tbl := pw_tb_7 (List.mem_of_getElem? (i := 78) rfl)
theorem pw_cd_316 : Cond.code (pw_y 316) (pw_cc 316) (pw_mxl 316) (pw_ret 316) ∈ lw_tbl := pw_tb_7 (List.mem_of_getElem? (i := 74) rfl)
theorem pw_cd_317 : Cond.code (pw_y 317) (pw_cc 317) (pw_mxl 317) (pw_ret 317) ∈ lw_tbl := pw_tb_7 (List.mem_of_getElem? (i := 82) rfl)
theorem pw_cd_318 : Cond.code (pw_y 318) (pw_cc 318) (pw_mxl 318) (pw_ret 318) ∈ lw_tbl := pw_tb_7 (List.mem_of_getElem? (i := 90) rfl)
theorem pw_cd_319 : Cond.code (pw_y 319) (pw_cc 319) (pw_mxl 319) (pw_ret 319) ∈ lw_tbl := pw_tb_7 (List.mem_of_getElem? (i := 86) rfl)
theorem pw_cd_320 : Cond.code (pw_y 320) (pw_cc 320) (pw_mxl 320) (pw_ret 320) ∈ lw_tbl := pw_tb_7 (List.mem_of_getElem? (i := 98) rfl)
theorem pw_cd_321 : Cond.code (pw_y 321) (pw_cc 321) (pw_mxl 321) (pw_ret 321) ∈ lw_tbl := pw_tb_7 (List.mem_of_getElem? (i := 94) rfl)
theorem pw_cd_322 : Cond.code (pw_y 322) (pw_cc 322) (pw_mxl 322) (pw_ret 322) ∈ lw_tbl := pw_tb_7 (List.mem_of_getElem? (i := 102) rfl)
theorem pw_cd_323 : Cond.code (pw_y 323) (pw_cc 323) (pw_mxl 323) (pw_ret 323) ∈ lw_tbl := pw_tb_7 (List.mem_of_getElem? (i := 106) rfl)
theorem pw_cd_324 : Cond.code (pw_y 324) (pw_cc 324) (pw_mxl 324) (pw_ret 324) ∈ lw_tbl := pw_tb_7 (List.mem_of_getElem? (i := 110) rfl)
theorem pw_cd_325 : Cond.code (pw_y 325) (pw_cc 325) (pw_mxl 325) (pw_ret 325) ∈ lw_tbl := pw_tb_7 (List.mem_of_getElem? (i := 114) rfl)
theorem pw_cd_326 : Cond.code (pw_y 326) (pw_cc 326) (pw_mxl 326) (pw_ret 326) ∈ lw_tbl := pw_tb_6 (List.mem_of_getElem? (i := 199) rfl)
theorem pw_cd_327 : Cond.code (pw_y 327) (pw_cc 327) (pw_mxl 327) (pw_ret 327) ∈ lw_tbl := pw_tb_6 (List.mem_of_getElem? (i := 196) rfl)
theorem pw_cd_328 : Cond.code (pw_y 328) (pw_cc 328) (pw_mxl 328) (pw_ret 328) ∈ lw_tbl := pw_tb_6 (List.mem_of_getElem? (i := 213) rfl)
theorem pw_cd_329 : Cond.code (pw_y 329) (pw_cc 329) (pw_mxl 329) (pw_ret 329) ∈ lw_tbl := pw_tb_6 (List.mem_of_getElem? (i := 210) rfl)
theorem pw_cd_330 : Cond.code (pw_y 330) (pw_cc 330) (pw_mxl 330) (pw_ret 330) ∈ lw_tbl := pw_tb_4 (List.mem_of_getElem? (i := 170) rfl)
theorem pw_cd_331 : Cond.code (pw_y 331) (pw_cc 331) (pw_mxl 331) (pw_ret 331) ∈ lw_tbl := pw_tb_4 (List.mem_of_getElem? (i := 39) rfl)
theorem pw_cd_332 : Cond.code (pw_y 332) (pw_cc 332) (pw_mxl 332) (pw_ret 332) ∈ lw_tbl := pw_tb_2 (List.mem_of_getElem? (i := 56) rfl)
theorem pw_cd_333 : Cond.code (pw_y 333) (pw_cc 333) (pw_mxl 333) (pw_ret 333) ∈ lw_tbl := pw_tb_2 (List.mem_of_getElem? (i := 112) rfl)
theorem pw_cd_334 : Cond.code (pw_y 334) (pw_cc 334) (pw_mxl 334) (pw_ret 334) ∈ lw_tbl := pw_tb_2 (List.mem_of_getElem? (i := 71) rfl)
theorem pw_cd_335 : Cond.code (pw_y 335) (pw_cc 335) (pw_mxl 335) (pw_ret 335) ∈ lw_tbl := pw_tb_1 (List.mem_of_getElem? (i := 203) rfl)
theorem pw_cd_336 : Cond.code (pw_y 336) (pw_cc 336) (pw_mxl 336) (pw_ret 336) ∈ lw_tbl := pw_tb_4 (List.mem_of_getElem? (i := 61) rfl)
theorem pw_cd_337 : Cond.code (pw_y 337) (pw_cc 337) (pw_mxl 337) (pw_ret 337) ∈ lw_tbl := pw_tb_4 (List.mem_of_getElem? (i := 54) rfl)
theorem pw_cd_338 : Cond.code (pw_y 338) (pw_cc 338) (pw_mxl 338) (pw_ret 338) ∈ lw_tbl := pw_tb_0 (List.mem_of_getElem? (i := 123) rfl)
theorem pw_cds_0 : ∀ j ∈ [1, 2, 3, 4, 5, 6, 7, 8, 9, 10, 11, 12, 13, 14, 15, 16, 17, 18, 19, 20], Cond.code (pw_y j) (pw_cc j) (pw_mxl j) (pw_ret j) ∈ lw_tbl := List.forall_mem_cons.mpr ⟨pw_cd_1, List.forall_mem_cons.mpr ⟨pw_cd_2, List.forall_mem_cons.mpr ⟨pw_cd_3, List.forall_mem_cons.mpr ⟨pw_cd_4, List.forall_mem_cons.mpr ⟨pw_cd_5, List.forall_mem_cons.mpr ⟨pw_cd_6, List.forall_mem_cons.mpr ⟨pw_cd_7, List.forall_mem_cons.mpr ⟨pw_cd_8, List.forall_mem_cons.mpr ⟨pw_cd_9, List.forall_mem_cons.mpr ⟨pw_cd_10, List.forall_mem_cons.mpr ⟨pw_cd_11, List.forall_mem_cons.mpr ⟨pw_cd_12, List.forall_mem_cons.mpr ⟨pw_cd_13, List.forall_mem_cons.mpr ⟨pw_cd_14, List.forall_mem_cons.mpr ⟨pw_cd_15, List.forall_mem_cons.mpr ⟨pw_cd_16, List.forall_mem_cons.mpr ⟨pw_cd_17, List.forall_mem_cons.mpr ⟨pw_cd_18, List.forall_mem_cons.mpr ⟨pw_cd_19, List.forall_mem_cons.mpr ⟨pw_cd_20, fun _ h => absurd h List.not_mem_nil⟩⟩⟩⟩⟩⟩⟩⟩⟩⟩⟩⟩⟩⟩⟩⟩⟩⟩⟩⟩
theorem pw_cds_1 : ∀ j ∈ [21, 22, 23, 24, 25, 26, 27, 28, 29, 30, 31, 32, 33, 34, 35, 36, 37, 38, 39, 40], Cond.code (pw_y j) (pw_cc j) (pw_mxl j) (pw_ret j) ∈ lw_tbl := List.forall_mem_cons.mpr ⟨pw_cd_21, List.forall_mem_cons.mpr ⟨pw_cd_22, List.forall_mem_cons.mpr ⟨pw_cd_23, List.forall_mem_cons.mpr ⟨pw_cd_24, List.forall_mem_cons.mpr ⟨pw_cd_25, List.forall_mem_cons.mpr ⟨pw_cd_26, List.forall_mem_cons.mpr ⟨pw_cd_27, List.forall_mem_cons.mpr ⟨pw_cd_28, List.forall_mem_cons.mpr ⟨pw_cd_29, List.forall_mem_cons.mpr ⟨pw_cd_30, List.forall_mem_cons.mpr ⟨pw_cd_31, List.forall_mem_cons.mpr ⟨pw_cd_32, List.forall_mem_cons.mpr ⟨pw_cd_33, List.forall_mem_cons.mpr ⟨pw_cd_34, List.forall_mem_cons.mpr ⟨pw_cd_35, List.forall_mem_cons.mpr ⟨pw_cd_36, List.forall_mem_cons.mpr ⟨pw_cd_37, List.forall_mem_cons.mpr ⟨pw_cd_38, List.forall_mem_cons.mpr ⟨pw_cd_39, List.forall_mem_cons.mpr ⟨pw_cd_40, fun _ h => absurd h List.not_mem_nil⟩⟩⟩⟩⟩⟩⟩⟩⟩⟩⟩⟩⟩⟩⟩⟩⟩⟩⟩⟩
theorem pw_cds_2 : ∀ j ∈ [41, 42, 43, 44, 45, 46, 47, 48, 49, 50, 51, 52, 53, 54, 55, 56, 57, 58, 59, 60], Cond.code (pw_y j) (pw_cc j) (pw_mxl j) (pw_ret j) ∈ lw_tbl := List.forall_mem_cons.mpr ⟨pw_cd_41, List.forall_mem_cons.mpr ⟨pw_cd_42, List.forall_mem_cons.mpr ⟨pw_cd_43, List.forall_mem_cons.mpr ⟨pw_cd_44, List.forall_mem_cons.mpr ⟨pw_cd_45, List.forall_mem_cons.mpr ⟨pw_cd_46, List.forall_mem_cons.mpr ⟨pw_cd_47, List.forall_mem_cons.mpr ⟨pw_cd_48, List.forall_mem_cons.mpr ⟨pw_cd_49, List.forall_mem_cons.mpr ⟨pw_cd_50, List.forall_mem_cons.mpr ⟨pw_cd_51, List.forall_mem_cons.mpr ⟨pw_cd_52, List.forall_mem_cons.mpr ⟨pw_cd_53, List.forall_mem_cons.mpr ⟨pw_cd_54, List.forall_mem_cons.mpr ⟨pw_cd_55, List.forall_mem_cons.mpr ⟨pw_cd_56, List.forall_mem_cons.mpr ⟨pw_cd_57, List.forall_mem_cons.mpr ⟨pw_cd_58, List.forall_mem_cons.mpr ⟨pw_cd_59, List.forall_mem_cons.mpr ⟨pw_cd_60, fun _ h => absurd h List.not_mem_nil⟩⟩⟩⟩⟩⟩⟩⟩⟩⟩⟩⟩⟩⟩⟩⟩⟩⟩⟩⟩
theorem pw_cds_3 : ∀ j ∈ [61, 62, 63, 64, 65, 66, 67, 68, 69, 70, 71, 72, 73, 74, 75, 76, 77, 78, 79, 80], Cond.code (pw_y j) (pw_cc j) (pw_mxl j) (pw_ret j) ∈ lw_tbl := List.forall_mem_cons.mpr ⟨pw_cd_61, List.forall_mem_cons.mpr ⟨pw_cd_62, List.forall_mem_cons.mpr ⟨pw_cd_63, List.forall_mem_cons.mpr ⟨pw_cd_64, List.forall_mem_cons.mpr ⟨pw_cd_65, List.forall_mem_cons.mpr ⟨pw_cd_66, List.forall_mem_cons.mpr ⟨pw_cd_67, List.forall_mem_cons.mpr ⟨pw_cd_68, List.forall_mem_cons.mpr ⟨pw_cd_69, List.forall_mem_cons.mpr ⟨pw_cd_70, List.forall_mem_cons.mpr ⟨pw_cd_71, List.forall_mem_cons.mpr ⟨pw_cd_72, List.forall_mem_cons.mpr ⟨pw_cd_73, List.forall_mem_cons.mpr ⟨pw_cd_74, List.forall_mem_cons.mpr ⟨pw_cd_75, List.forall_mem_cons.mpr ⟨pw_cd_76, List.forall_mem_cons.mpr ⟨pw_cd_77, List.forall_mem_cons.mpr ⟨pw_cd_78, List.forall_mem_cons.mpr ⟨pw_cd_79, List.forall_mem_cons.mpr ⟨pw_cd_80, fun _ h => absurd h List.not_mem_nil⟩⟩⟩⟩⟩⟩⟩⟩⟩⟩⟩⟩⟩⟩⟩⟩⟩⟩⟩⟩
theorem pw_cds_4 : ∀ j ∈ [81, 82, 83, 84, 85, 86, 87, 88, 89, 90, 91, 92, 93, 94, 95, 96, 97, 98, 99, 100], Cond.code (pw_y j) (pw_cc j) (pw_mxl j) (pw_ret j) ∈ lw_tbl := List.forall_mem_cons.mpr ⟨pw_cd_81, List.forall_mem_cons.mpr ⟨pw_cd_82, List.forall_mem_cons.mpr ⟨pw_cd_83, List.forall_mem_cons.mpr ⟨pw_cd_84, List.forall_mem_cons.mpr ⟨pw_cd_85, List.forall_mem_cons.mpr ⟨pw_cd_86, List.forall_mem_cons.mpr ⟨pw_cd_87, List.forall_mem_cons.mpr ⟨pw_cd_88, List.forall_mem_cons.mpr ⟨pw_cd_89, List.forall_mem_cons.mpr ⟨pw_cd_90, List.forall_mem_cons.mpr ⟨pw_cd_91, List.forall_mem_cons.mpr ⟨pw_cd_92, List.forall_mem_cons.mpr ⟨pw_cd_93, List.forall_mem_cons.mpr ⟨pw_cd_94, List.forall_mem_cons.mpr ⟨pw_cd_95, List.forall_mem_cons.mpr ⟨pw_cd_96, List.forall_mem_cons.mpr ⟨pw_cd_97, List.forall_mem_cons.mpr ⟨pw_cd_98, List.forall_mem_cons.mpr ⟨pw_cd_99, List.forall_mem_cons.mpr ⟨pw_cd_100, fun _ h => absurd h List.not_mem_nil⟩⟩⟩⟩⟩⟩⟩⟩⟩⟩⟩⟩⟩⟩⟩⟩⟩⟩⟩⟩
theorem pw_cds_5 : ∀ j ∈ [101, 102, 103, 104, 105, 106, 107, 108, 109, 110, 111, 112, 113, 114, 115, 116, 117, 118, 119, 120], Cond.code (pw_y j) (pw_cc j) (pw_mxl j) (pw_ret j) ∈ lw_tbl := List.forall_mem_cons.mpr ⟨pw_cd_101, List.forall_mem_cons.mpr ⟨pw_cd_102, List.forall_mem_cons.mpr ⟨pw_cd_103, List.forall_mem_cons.mpr ⟨pw_cd_104, List.forall_mem_cons.mpr ⟨pw_cd_105, List.forall_mem_cons.mpr ⟨pw_cd_106, List.forall_mem_cons.mpr ⟨pw_cd_107, List.forall_mem_cons.mpr ⟨pw_cd_108, List.forall_mem_cons.mpr ⟨pw_cd_109, List.forall_mem_cons.mpr ⟨pw_cd_110, List.forall_mem_cons.mpr ⟨pw_cd_111, List.forall_mem_cons.mpr ⟨pw_cd_112, List.forall_mem_cons.mpr ⟨pw_cd_113, List.forall_mem_cons.mpr ⟨pw_cd_114, List.forall_mem_cons.mpr ⟨pw_cd_115, List.forall_mem_cons.mpr ⟨pw_cd_116, List.forall_mem_cons.mpr ⟨pw_cd_117, List.forall_mem_cons.mpr ⟨pw_cd_118, List.forall_mem_cons.mpr ⟨pw_cd_119, List.forall_mem_cons.mpr ⟨pw_cd_120, fun _ h => absurd h List.not_mem_nil⟩⟩⟩⟩⟩⟩⟩⟩⟩⟩⟩⟩⟩⟩⟩⟩⟩⟩⟩⟩
theorem pw_cds_6 : ∀ j ∈ [121, 122, 123, 124, 125, 126, 127, 128, 129, 130, 131, 132, 133, 134, 135, 136, 137, 138, 139, 140], Cond.code (pw_y j) (pw_cc j) (pw_mxl j) (pw_ret j) ∈ lw_tbl := List.forall_mem_cons.mpr ⟨pw_cd_121, List.forall_mem_cons.mpr ⟨pw_cd_122, List.forall_mem_cons.mpr ⟨pw_cd_123, List.forall_mem_cons.mpr ⟨pw_cd_124, List.forall_mem_cons.mpr ⟨pw_cd_125, List.forall_mem_cons.mpr ⟨pw_cd_126, List.forall_mem_cons.mpr ⟨pw_cd_127, List.forall_mem_cons.mpr ⟨pw_cd_128, List.forall_mem_cons.mpr ⟨pw_cd_129, List.forall_mem_cons.mpr ⟨pw_cd_130, List.forall_mem_cons.mpr ⟨pw_cd_131, List.forall_mem_cons.mpr ⟨pw_cd_132, List.forall_mem_cons.mpr ⟨pw_cd_133, List.forall_mem_cons.mpr ⟨pw_cd_134, List.forall_mem_cons.mpr ⟨pw_cd_135, List.forall_mem_cons.mpr ⟨pw_cd_136, List.forall_mem_cons.mpr ⟨pw_cd_137, List.forall_mem_cons.mpr ⟨pw_cd_138, List.forall_mem_cons.mpr ⟨pw_cd_139, List.forall_mem_cons.mpr ⟨pw_cd_140, fun _ h => absurd h List.not_mem_nil⟩⟩⟩⟩⟩⟩⟩⟩⟩⟩⟩⟩⟩⟩⟩⟩⟩⟩⟩⟩
theorem pw_cds_7 : ∀ j ∈ [141, 142, 143, 144, 145, 146, 147, 148, 149, 150, 151, 152, 153, 154, 155, 156, 157, 158, 159, 160], Cond.code (pw_y j) (pw_cc j) (pw_mxl j) (pw_ret j) ∈ lw_tbl := List.forall_mem_cons.mpr ⟨pw_cd_141, List.forall_mem_cons.mpr ⟨pw_cd_142, List.forall_mem_cons.mpr ⟨pw_cd_143, List.forall_mem_cons.mpr ⟨pw_cd_144, List.forall_mem_cons.mpr ⟨pw_cd_145, List.forall_mem_cons.mpr ⟨pw_cd_146, List.forall_mem_cons.mpr ⟨pw_cd_147, List.forall_mem_cons.mpr ⟨pw_cd_148, List.forall_mem_cons.mpr ⟨pw_cd_149, List.forall_mem_cons.mpr ⟨pw_cd_150, List.forall_mem_cons.mpr ⟨pw_cd_151, List.forall_mem_cons.mpr ⟨pw_cd_152, List.forall_mem_cons.mpr ⟨pw_cd_153, List.forall_mem_cons.mpr ⟨pw_cd_154, List.forall_mem_cons.mpr ⟨pw_cd_155, List.forall_mem_cons.mpr ⟨pw_cd_156, List.forall_mem_cons.mpr ⟨pw_cd_157, List.forall_mem_cons.mpr ⟨pw_cd_158, List.forall_mem_cons.mpr ⟨pw_cd_159, List.forall_mem_cons.mpr ⟨pw_cd_160, fun _ h => absurd h List.not_mem_nil⟩⟩⟩⟩⟩⟩⟩⟩⟩⟩⟩⟩⟩⟩⟩⟩⟩⟩⟩⟩
theorem pw_cds_8 : ∀ j ∈ [161, 162, 163, 164, 165, 166, 167, 168, 169, 170, 171, 172, 173, 174, 175, 176, 177, 178, 179, 180], Cond.code (pw_y j) (pw_cc j) (pw_mxl j) (pw_ret j) ∈ lw_tbl := List.forall_mem_cons.mpr ⟨pw_cd_161, List.forall_mem_cons.mpr ⟨pw_cd_162, List.forall_mem_cons.mpr ⟨pw_cd_163, List.forall_mem_cons.mpr ⟨pw_cd_164, List.forall_mem_cons.mpr ⟨pw_cd_165, List.forall_mem_cons.mpr ⟨pw_cd_166, List.forall_mem_cons.mpr ⟨pw_cd_167, List.forall_mem_cons.mpr ⟨pw_cd_168, List.forall_mem_cons.mpr ⟨pw_cd_169, List.forall_mem_cons.mpr ⟨pw_cd_170, List.forall_mem_cons.mpr ⟨pw_cd_171, List.forall_mem_cons.mpr ⟨pw_cd_172, List.forall_mem_cons.mpr ⟨pw_cd_173, List.forall_mem_cons.mpr ⟨pw_cd_174, List.forall_mem_cons.mpr ⟨pw_cd_175, List.forall_mem_cons.mpr ⟨pw_cd_176, List.forall_mem_cons.mpr ⟨pw_cd_177, List.forall_mem_cons.mpr ⟨pw_cd_178, List.forall_mem_cons.mpr ⟨pw_cd_179, List.forall_mem_cons.mpr ⟨pw_cd_180, fun _ h => absurd h List.not_mem_nil⟩⟩⟩⟩⟩⟩⟩⟩⟩⟩⟩⟩⟩⟩⟩⟩⟩⟩⟩⟩
theorem pw_cds_9 : ∀ j ∈ [181, 182, 183, 184, 185, 186, 187, 188, 189, 190, 191, 192, 193, 194, 195, 196, 197, 198, 199, 200], Cond.code (pw_y j) (pw_cc j) (pw_mxl j) (pw_ret j) ∈ lw_tbl := List.forall_mem_cons.mpr ⟨pw_cd_181, List.forall_mem_cons.mpr ⟨pw_cd_182, List.forall_mem_cons.mpr ⟨pw_cd_183, List.forall_mem_cons.mpr ⟨pw_cd_184, List.forall_mem_cons.mpr ⟨pw_cd_185, List.forall_mem_cons.mpr ⟨pw_cd_186, List.forall_mem_cons.mpr ⟨pw_cd_187, List.forall_mem_cons.mpr ⟨pw_cd_188, List.forall_mem_cons.mpr ⟨pw_cd_189, List.forall_mem_cons.mpr ⟨pw_cd_190, List.forall_mem_cons.mpr ⟨pw_cd_191, List.forall_mem_cons.mpr ⟨pw_cd_192, List.forall_mem_cons.mpr ⟨pw_cd_193, List.forall_mem_cons.mpr ⟨pw_cd_194, List.forall_mem_cons.mpr ⟨pw_cd_195, List.forall_mem_cons.mpr ⟨pw_cd_196, List.forall_mem_cons.mpr ⟨pw_cd_197, List.forall_mem_cons.mpr ⟨pw_cd_198, List.forall_mem_cons.mpr ⟨pw_cd_199, List.forall_mem_cons.mpr ⟨pw_cd_200, fun _ h => absurd h List.not_mem_nil⟩⟩⟩⟩⟩⟩⟩⟩⟩⟩⟩⟩⟩⟩⟩⟩⟩⟩⟩⟩
theorem pw_cds_10 : ∀ j ∈ [201, 202, 203, 204, 205, 206, 207, 208, 209, 210, 211, 212, 213, 214, 215, 216, 217, 218, 219, 220], Cond.code (pw_y j) (pw_cc j) (pw_mxl j) (pw_ret j) ∈ lw_tbl := List.forall_mem_cons.mpr ⟨pw_cd_201, List.forall_mem_cons.mpr ⟨pw_cd_202, List.forall_mem_cons.mpr ⟨pw_cd_203, List.forall_mem_cons.mpr ⟨pw_cd_204, List.forall_mem_cons.mpr ⟨pw_cd_205, List.forall_mem_cons.mpr ⟨pw_cd_206, List.forall_mem_cons.mpr ⟨pw_cd_207, List.forall_mem_cons.mpr ⟨pw_cd_208, List.forall_mem_cons.mpr ⟨pw_cd_209, List.forall_mem_cons.mpr ⟨pw_cd_210, List.forall_mem_cons.mpr ⟨pw_cd_211, List.forall_mem_cons.mpr ⟨pw_cd_212, List.forall_mem_cons.mpr ⟨pw_cd_213, List.forall_mem_cons.mpr ⟨pw_cd_214, List.forall_mem_cons.mpr ⟨pw_cd_215, List.forall_mem_cons.mpr ⟨pw_cd_216, List.forall_mem_cons.mpr ⟨pw_cd_217, List.forall_mem_cons.mpr ⟨pw_cd_218, List.forall_mem_cons.mpr ⟨pw_cd_219, List.forall_mem_cons.mpr ⟨pw_cd_220, fun _ h => absurd h List.not_mem_nil⟩⟩⟩⟩⟩⟩⟩⟩⟩⟩⟩⟩⟩⟩⟩⟩⟩⟩⟩⟩
theorem pw_cds_11 : ∀ j ∈ [221, 222, 223, 224, 225, 226, 227, 228, 229, 230, 231, 232, 233, 234, 235, 236, 237, 238, 239, 240], Cond.code (pw_y j) (pw_cc j) (pw_mxl j) (pw_ret j) ∈ lw_tbl := List.forall_mem_cons.mpr ⟨pw_cd_221, List.forall_mem_cons.mpr ⟨pw_cd_222, List.forall_mem_cons.mpr ⟨pw_cd_223, List.forall_mem_cons.mpr ⟨pw_cd_224, List.forall_mem_cons.mpr ⟨pw_cd_225, List.forall_mem_cons.mpr ⟨pw_cd_226, List.forall_mem_cons.mpr ⟨pw_cd_227, List.forall_mem_cons.mpr ⟨pw_cd_228, List.forall_mem_cons.mpr ⟨pw_cd_229, List.forall_mem_cons.mpr ⟨pw_cd_230, List.forall_mem_cons.mpr ⟨pw_cd_231, List.forall_mem_cons.mpr ⟨pw_cd_232, List.forall_mem_cons.mpr ⟨pw_cd_233, List.forall_mem_cons.mpr ⟨pw_cd_234, List.forall_mem_cons.mpr ⟨pw_cd_235, List.forall_mem_cons.mpr ⟨pw_cd_236, List.forall_mem_cons.mpr ⟨pw_cd_237, List.forall_mem_cons.mpr ⟨pw_cd_238, List.forall_mem_cons.mpr ⟨pw_cd_239, List.forall_mem_cons.mpr ⟨pw_cd_240, fun _ h => absurd h List.not_mem_nil⟩⟩⟩⟩⟩⟩⟩⟩⟩⟩⟩⟩⟩⟩⟩⟩⟩⟩⟩⟩
theorem pw_cds_12 : ∀ j ∈ [241, 242, 243, 244, 245, 246, 247, 248, 249, 250, 251, 252, 253, 254, 255, 256, 257, 258, 259, 260], Cond.code (pw_y j) (pw_cc j) (pw_mxl j) (pw_ret j) ∈ lw_tbl := List.forall_mem_cons.mpr ⟨pw_cd_241, List.forall_mem_cons.mpr ⟨pw_cd_242, List.forall_mem_cons.mpr ⟨pw_cd_243, List.forall_mem_cons.mpr ⟨pw_cd_244, List.forall_mem_cons.mpr ⟨pw_cd_245, List.forall_mem_cons.mpr ⟨pw_cd_246, List.forall_mem_cons.mpr ⟨pw_cd_247, List.forall_mem_cons.mpr ⟨pw_cd_248, List.forall_mem_cons.mpr ⟨pw_cd_249, List.forall_mem_cons.mpr ⟨pw_cd_250, List.forall_mem_cons.mpr ⟨pw_cd_251, List.forall_mem_cons.mpr ⟨pw_cd_252, List.forall_mem_cons.mpr ⟨pw_cd_253, List.forall_mem_cons.mpr ⟨pw_cd_254, List.forall_mem_cons.mpr ⟨pw_cd_255, List.forall_mem_cons.mpr ⟨pw_cd_256, List.forall_mem_cons.mpr ⟨pw_cd_257, List.forall_mem_cons.mpr ⟨pw_cd_258, List.forall_mem_cons.mpr ⟨pw_cd_259, List.forall_mem_cons.mpr ⟨pw_cd_260, fun _ h => absurd h List.not_mem_nil⟩⟩⟩⟩⟩⟩⟩⟩⟩⟩⟩⟩⟩⟩⟩⟩⟩⟩⟩⟩
theorem pw_cds_13 : ∀ j ∈ [261, 262, 263, 264, 265, 266, 267, 268, 269, 270, 271, 272, 273, 274, 275, 276, 277, 278, 279, 280], Cond.code (pw_y j) (pw_cc j) (pw_mxl j) (pw_ret j) ∈ lw_tbl := List.forall_mem_cons.mpr ⟨pw_cd_261, List.forall_mem_cons.mpr ⟨pw_cd_262, List.forall_mem_cons.mpr ⟨pw_cd_263, List.forall_mem_cons.mpr ⟨pw_cd_264, List.forall_mem_cons.mpr ⟨pw_cd_265, List.forall_mem_cons.mpr ⟨pw_cd_266, List.forall_mem_cons.mpr ⟨pw_cd_267, List.forall_mem_cons.mpr ⟨pw_cd_268, List.forall_mem_cons.mpr ⟨pw_cd_269, List.forall_mem_cons.mpr ⟨pw_cd_270, List.forall_mem_cons.mpr ⟨pw_cd_271, List.forall_mem_cons.mpr ⟨pw_cd_272, List.forall_mem_cons.mpr ⟨pw_cd_273, List.forall_mem_cons.mpr ⟨pw_cd_274, List.forall_mem_cons.mpr ⟨pw_cd_275, List.forall_mem_cons.mpr ⟨pw_cd_276, List.forall_mem_cons.mpr ⟨pw_cd_277, List.forall_mem_cons.mpr ⟨pw_cd_278, List.forall_mem_cons.mpr ⟨pw_cd_279, List.forall_mem_cons.mpr ⟨pw_cd_280, fun _ h => absurd h List.not_mem_nil⟩⟩⟩⟩⟩⟩⟩⟩⟩⟩⟩⟩⟩⟩⟩⟩⟩⟩⟩⟩
theorem pw_cds_14 : ∀ j ∈ [281, 282, 283, 284, 285, 286, 287, 288, 289, 290, 291, 292, 293, 294, 295, 296, 297, 298, 299, 300], Cond.code (pw_y j) (pw_cc j) (pw_mxl j) (pw_ret j) ∈ lw_tbl := List.forall_mem_cons.mpr ⟨pw_cd_281, List.forall_mem_cons.mpr ⟨pw_cd_282, List.forall_mem_cons.mpr ⟨pw_cd_283, List.forall_mem_cons.mpr ⟨pw_cd_284, List.forall_mem_cons.mpr ⟨pw_cd_285, List.forall_mem_cons.mpr ⟨pw_cd_286, List.forall_mem_cons.mpr ⟨pw_cd_287, List.forall_mem_cons.mpr ⟨pw_cd_288, List.forall_mem_cons.mpr ⟨pw_cd_289, List.forall_mem_cons.mpr ⟨pw_cd_290, List.forall_mem_cons.mpr ⟨pw_cd_291, List.forall_mem_cons.mpr ⟨pw_cd_292, List.forall_mem_cons.mpr ⟨pw_cd_293, List.forall_mem_cons.mpr ⟨pw_cd_294, List.forall_mem_cons.mpr ⟨pw_cd_295, List.forall_mem_cons.mpr ⟨pw_cd_296, List.forall_mem_cons.mpr ⟨pw_cd_297, List.forall_mem_cons.mpr ⟨pw_cd_298, List.forall_mem_cons.mpr ⟨pw_cd_299, List.forall_mem_cons.mpr ⟨pw_cd_300, fun _ h => absurd h List.not_mem_nil⟩⟩⟩⟩⟩⟩⟩⟩⟩⟩⟩⟩⟩⟩⟩⟩⟩⟩⟩⟩
theorem pw_cds_15 : ∀ j ∈ [301, 302, 303, 304, 305, 306, 307, 308, 309, 310, 311, 312, 313, 314, 315, 316, 317, 318, 319, 320], Cond.code (pw_y j) (pw_cc j) (pw_mxl j) (pw_ret j) ∈ lw_tbl := List.forall_mem_cons.mpr ⟨pw_cd_301, List.forall_mem_cons.mpr ⟨pw_cd_302, List.forall_mem_cons.mpr ⟨pw_cd_303, List.forall_mem_cons.mpr ⟨pw_cd_304, List.forall_mem_cons.mpr ⟨pw_cd_305, List.forall_mem_cons.mpr ⟨pw_cd_306, List.forall_mem_cons.mpr ⟨pw_cd_307, List.forall_mem_cons.mpr ⟨pw_cd_308, List.forall_mem_cons.mpr ⟨pw_cd_309, List.forall_mem_cons.mpr ⟨pw_cd_310, List.forall_mem_cons.mpr ⟨pw_cd_311, List.forall_mem_cons.mpr ⟨pw_cd_312, List.forall_mem_cons.mpr ⟨pw_cd_313, List.forall_mem_cons.mpr ⟨pw_cd_314, List.forall_mem_cons.mpr ⟨pw_cd_315, List.forall_mem_cons.mpr ⟨pw_cd_316, List.forall_mem_cons.mpr ⟨pw_cd_317, List.forall_mem_cons.mpr ⟨pw_cd_318, List.forall_mem_cons.mpr ⟨pw_cd_319, List.forall_mem_cons.mpr ⟨pw_cd_320, fun _ h => absurd h List.not_mem_nil⟩⟩⟩⟩⟩⟩⟩⟩⟩⟩⟩⟩⟩⟩⟩⟩⟩⟩⟩⟩
theorem pw_cds_16 : ∀ j ∈ [321, 322, 323, 324, 325, 326, 327, 328, 329, 330, 331, 332, 333, 334, 335, 336, 337, 338], Cond.code (pw_y j) (pw_cc j) (pw_mxl j) (pw_ret j) ∈ lw_tbl := List.forall_mem_cons.mpr ⟨pw_cd_321, List.forall_mem_cons.mpr ⟨pw_cd_322, List.forall_mem_cons.mpr ⟨pw_cd_323, List.forall_mem_cons.mpr ⟨pw_cd_324, List.forall_mem_cons.mpr ⟨pw_cd_325, List.forall_mem_cons.mpr ⟨pw_cd_326, List.forall_mem_cons.mpr ⟨pw_cd_327, List.forall_mem_cons.mpr ⟨pw_cd_328, List.forall_mem_cons.mpr ⟨pw_cd_329, List.forall_mem_cons.mpr ⟨pw_cd_330, List.forall_mem_cons.mpr ⟨pw_cd_331, List.forall_mem_cons.mpr ⟨pw_cd_332, List.forall_mem_cons.mpr ⟨pw_cd_333, List.forall_mem_cons.mpr ⟨pw_cd_334, List.forall_mem_cons.mpr ⟨pw_cd_335, List.forall_mem_cons.mpr ⟨pw_cd_336, List.forall_mem_cons.mpr ⟨pw_cd_337, List.forall_mem_cons.mpr ⟨pw_cd_338, fun _ h => absurd h List.not_mem_nil⟩⟩⟩⟩⟩⟩⟩⟩⟩⟩⟩⟩⟩⟩⟩⟩⟩⟩
set_option maxRecDepth 100000 in
theorem pw_cds : ∀ j ∈ pw_ck, Cond.code (pw_y j) (pw_cc j) (pw_mxl j) (pw_ret j) ∈ lw_tbl := by
  show ∀ j ∈ [1, 2, 3, 4, 5, 6, 7, 8, 9, 10, 11, 12, 13, 14, 15, 16, 17, 18, 19, 20] ++ ([21, 22, 23, 24, 25, 26, 27, 28, 29, 30, 31, 32, 33, 34, 35, 36, 37, 38, 39, 40] ++ ([41, 42, 43, 44, 45, 46, 47, 48, 49, 50, 51, 52, 53, 54, 55, 56, 57, 58, 59, 60] ++ ([61, 62, 63, 64, 65, 66, 67, 68, 69, 70, 71, 72, 73, 74, 75, 76, 77, 78, 79, 80] ++ ([81, 82, 83, 84, 85, 86, 87, 88, 89, 90, 91, 92, 93, 94, 95, 96, 97, 98, 99, 100] ++ ([101, 102, 103, 104, 105, 106, 107, 108, 109, 110, 111, 112, 113, 114, 115, 116, 117, 118, 119, 120] ++ ([121, 122, 123, 124, 125, 126, 127, 128, 129, 130, 131, 132, 133, 134, 135, 136, 137, 138, 139, 140] ++ ([141, 142, 143, 144, 145, 146, 147, 148, 149, 150, 151, 152, 153, 154, 155, 156, 157, 158, 159, 160] ++ ([161, 162, 163, 164, 165, 166, 167, 168, 169, 170, 171, 172, 173, 174, 175, 176, 177, 178, 179, 180] ++ ([181, 182, 183, 184, 185, 186, 187, 188, 189, 190, 191, 192, 193, 194, 195, 196, 197, 198, 199, 200] ++ ([201, 202, 203, 204, 205, 206, 207, 208, 209, 210, 211, 212, 213, 214, 215, 216, 217, 218, 219, 220] ++ ([221, 222, 223, 224, 225, 226, 227, 228, 229, 230, 231, 232, 233, 234, 235, 236, 237, 238, 239, 240] ++ ([241, 242, 243, 244, 245, 246, 247, 248, 249, 250, 251, 252, 253, 254, 255, 256, 257, 258, 259, 260] ++ ([261, 262, 263, 264, 265, 266, 267, 268, 269, 270, 271, 272, 273, 274, 275, 276, 277, 278, 279, 280] ++ ([281, 282, 283, 284, 285, 286, 287, 288, 289, 290, 291, 292, 293, 294, 295, 296, 297, 298, 299, 300] ++ ([301, 302, 303, 304, 305, 306, 307, 308, 309, 310, 311, 312, 313, 314, 315, 316, 317, 318, 319, 320] ++ ([321, 322, 323, 324, 325, 326, 327, 328, 329, 330, 331, 332, 333, 334, 335, 336, 337, 338])))))))))))))))), _
  exact List.forall_mem_append.mpr ⟨pw_cds_0, List.forall_mem_append.mpr ⟨pw_cds_1, List.forall_mem_append.mpr ⟨pw_cds_2, List.forall_mem_append.mpr ⟨pw_cds_3, List.forall_mem_append.mpr ⟨pw_cds_4, List.forall_mem_append.mpr ⟨pw_cds_5, List.forall_mem_append.mpr ⟨pw_cds_6, List.forall_mem_append.mpr ⟨pw_cds_7, List.forall_mem_append.mpr ⟨pw_cds_8, List.forall_mem_append.mpr ⟨pw_cds_9, List.forall_mem_append.mpr ⟨pw_cds_10, List.forall_mem_append.mpr ⟨pw_cds_11, List.forall_mem_append.mpr ⟨pw_cds_12, List.forall_mem_append.mpr ⟨pw_cds_13, List.forall_mem_append.mpr ⟨pw_cds_14, List.forall_mem_append.mpr ⟨pw_cds_15, pw_cds_16⟩⟩⟩⟩⟩⟩⟩⟩⟩⟩⟩⟩⟩⟩⟩⟩
theorem pw_in_cd : ∀ w ∈ pw_Wcd, w ∈ lw_tbl := by
  intro w hw
  obtain ⟨j, hj, rfl⟩ := List.mem_map.mp hw
  exact pw_cds j hj
theorem pw_g_cd : ∀ w ∈ pw_Wcd, goodWord w = true := by
  intro w hw
  obtain ⟨j, hj, rfl⟩ := List.mem_map.mp hw
  rfl
theorem pw_m_lay {w : Cond} (h : w ∈ pw_Wlay) : w ∈ pw_W := List.mem_append_left _ h
theorem pw_m_fl {w : Cond} (h : w ∈ pw_Wfl) : w ∈ pw_W := List.mem_append_right _ (List.mem_append_left _ h)
theorem pw_m_st {w : Cond} (h : w ∈ pw_Wst) : w ∈ pw_W := List.mem_append_right _ (List.mem_append_right _ (List.mem_append_left _ h))
theorem pw_m_co {w : Cond} (h : w ∈ pw_Wco) : w ∈ pw_W := List.mem_append_right _ (List.mem_append_right _ (List.mem_append_right _ (List.mem_append_left _ h)))
theorem pw_m_nl {w : Cond} (h : w ∈ pw_Wnl) : w ∈ pw_W := List.mem_append_right _ (List.mem_append_right _ (List.mem_append_right _ (List.mem_append_right _ (List.mem_append_left _ h))))
theorem pw_m_ni {w : Cond} (h : w ∈ pw_Wni) : w ∈ pw_W := List.mem_append_right _ (List.mem_append_right _ (List.mem_append_right _ (List.mem_append_right _ (List.mem_append_right _ (List.mem_append_left _ h)))))
theorem pw_m_in {w : Cond} (h : w ∈ pw_Win) : w ∈ pw_W := List.mem_append_right _ (List.mem_append_right _ (List.mem_append_right _ (List.mem_append_right _ (List.mem_append_right _ (List.mem_append_right _ (List.mem_append_left _ h))))))
theorem pw_m_ar {w : Cond} (h : w ∈ pw_War) : w ∈ pw_W := List.mem_append_right _ (List.mem_append_right _ (List.mem_append_right _ (List.mem_append_right _ (List.mem_append_right _ (List.mem_append_right _ (List.mem_append_right _ (List.mem_append_left _ h)))))))
theorem pw_m_na {w : Cond} (h : w ∈ pw_Wna) : w ∈ pw_W := List.mem_append_right _ (List.mem_append_right _ (List.mem_append_right _ (List.mem_append_right _ (List.mem_append_right _ (List.mem_append_right _ (List.mem_append_right _ (List.mem_append_right _ (List.mem_append_left _ h))))))))
theorem pw_m_ml {w : Cond} (h : w ∈ pw_Wml) : w ∈ pw_W := List.mem_append_right _ (List.mem_append_right _ (List.mem_append_right _ (List.mem_append_right _ (List.mem_append_right _ (List.mem_append_right _ (List.mem_append_right _ (List.mem_append_right _ (List.mem_append_right _ (List.mem_append_left _ h)))))))))
theorem pw_m_cd {w : Cond} (h : w ∈ pw_Wcd) : w ∈ pw_W := List.mem_append_right _ (List.mem_append_right _ (List.mem_append_right _ (List.mem_append_right _ (List.mem_append_right _ (List.mem_append_right _ (List.mem_append_right _ (List.mem_append_right _ (List.mem_append_right _ (List.mem_append_right _ (List.mem_append_left _ h))))))))))
theorem pw_m_sk {w : Cond} (h : w ∈ pw_Wsk) : w ∈ pw_W := List.mem_append_right _ (List.mem_append_right _ (List.mem_append_right _ (List.mem_append_right _ (List.mem_append_right _ (List.mem_append_right _ (List.mem_append_right _ (List.mem_append_right _ (List.mem_append_right _ (List.mem_append_right _ (List.mem_append_right _ (List.mem_append_left _ h)))))))))))
theorem pw_m_ik {w : Cond} (h : w ∈ pw_Wik) : w ∈ pw_W := List.mem_append_right _ (List.mem_append_right _ (List.mem_append_right _ (List.mem_append_right _ (List.mem_append_right _ (List.mem_append_right _ (List.mem_append_right _ (List.mem_append_right _ (List.mem_append_right _ (List.mem_append_right _ (List.mem_append_right _ (List.mem_append_right _ (List.mem_append_left _ h))))))))))))
theorem pw_m_vk {w : Cond} (h : w ∈ pw_Wvk) : w ∈ pw_W := List.mem_append_right _ (List.mem_append_right _ (List.mem_append_right _ (List.mem_append_right _ (List.mem_append_right _ (List.mem_append_right _ (List.mem_append_right _ (List.mem_append_right _ (List.mem_append_right _ (List.mem_append_right _ (List.mem_append_right _ (List.mem_append_right _ (List.mem_append_right _ (h)))))))))))))
theorem pw_n_fl {w : Cond} (h : w ∈ pw_Nfl) : w ∈ pw_N := List.mem_append_left _ h
theorem pw_n_st {w : Cond} (h : w ∈ pw_Nst) : w ∈ pw_N := List.mem_append_right _ (List.mem_append_left _ h)
theorem pw_n_ml {w : Cond} (h : w ∈ pw_Nml) : w ∈ pw_N := List.mem_append_right _ (List.mem_append_right _ (List.mem_append_left _ h))
theorem pw_n_ao {w : Cond} (h : w ∈ pw_Nao) : w ∈ pw_N := List.mem_append_right _ (List.mem_append_right _ (List.mem_append_right _ h))
theorem pw_n_ca : (Cond.castable "[I" "java/lang/Cloneable") ∈ pw_N := pw_n_ao List.mem_cons_self
theorem pw_W_in : ∀ w ∈ pw_W, w ∈ lw_tbl := by
  unfold pw_W
  refine List.forall_mem_append.mpr ⟨pw_in pw_e_lay, ?_⟩
  refine List.forall_mem_append.mpr ⟨pw_in pw_e_fl, ?_⟩
  refine List.forall_mem_append.mpr ⟨pw_in pw_e_st, ?_⟩
  refine List.forall_mem_append.mpr ⟨pw_in pw_e_co, ?_⟩
  refine List.forall_mem_append.mpr ⟨pw_in pw_e_nl, ?_⟩
  refine List.forall_mem_append.mpr ⟨pw_in pw_e_ni, ?_⟩
  refine List.forall_mem_append.mpr ⟨pw_in pw_e_in, ?_⟩
  refine List.forall_mem_append.mpr ⟨pw_in pw_e_ar, ?_⟩
  refine List.forall_mem_append.mpr ⟨pw_in pw_e_na, ?_⟩
  refine List.forall_mem_append.mpr ⟨pw_in pw_e_ml, ?_⟩
  refine List.forall_mem_append.mpr ⟨pw_in_cd, ?_⟩
  refine List.forall_mem_append.mpr ⟨pw_in pw_e_sk, ?_⟩
  refine List.forall_mem_append.mpr ⟨pw_in pw_e_ik, ?_⟩
  exact pw_in pw_e_vk
theorem pw_W_good : ∀ w ∈ pw_W, goodWord w = true := by
  unfold pw_W
  refine List.forall_mem_append.mpr ⟨List.all_eq_true.mp pw_g_lay, ?_⟩
  refine List.forall_mem_append.mpr ⟨List.all_eq_true.mp pw_g_fl, ?_⟩
  refine List.forall_mem_append.mpr ⟨List.all_eq_true.mp pw_g_st, ?_⟩
  refine List.forall_mem_append.mpr ⟨List.all_eq_true.mp pw_g_co, ?_⟩
  refine List.forall_mem_append.mpr ⟨List.all_eq_true.mp pw_g_nl, ?_⟩
  refine List.forall_mem_append.mpr ⟨List.all_eq_true.mp pw_g_ni, ?_⟩
  refine List.forall_mem_append.mpr ⟨List.all_eq_true.mp pw_g_in, ?_⟩
  refine List.forall_mem_append.mpr ⟨List.all_eq_true.mp pw_g_ar, ?_⟩
  refine List.forall_mem_append.mpr ⟨List.all_eq_true.mp pw_g_na, ?_⟩
  refine List.forall_mem_append.mpr ⟨List.all_eq_true.mp pw_g_ml, ?_⟩
  refine List.forall_mem_append.mpr ⟨pw_g_cd, ?_⟩
  refine List.forall_mem_append.mpr ⟨List.all_eq_true.mp pw_g_sk, ?_⟩
  refine List.forall_mem_append.mpr ⟨List.all_eq_true.mp pw_g_ik, ?_⟩
  exact List.all_eq_true.mp pw_g_vk
theorem pw_N_in : ∀ w ∈ pw_N, w ∈ lw_tbl := by
  unfold pw_N
  refine List.forall_mem_append.mpr ⟨pw_in pw_en_fl, ?_⟩
  refine List.forall_mem_append.mpr ⟨pw_in pw_en_st, ?_⟩
  refine List.forall_mem_append.mpr ⟨pw_in pw_en_ml, ?_⟩
  exact pw_in pw_en_ao
theorem pw_N_nw : ∀ w ∈ pw_N, am_nw_ w = true := by
  unfold pw_N
  refine List.forall_mem_append.mpr ⟨fun w hw => ?_, List.forall_mem_append.mpr ⟨fun w hw => ?_, List.forall_mem_append.mpr ⟨fun w hw => ?_, fun w hw => ?_⟩⟩⟩
  · obtain ⟨e, -, rfl⟩ := List.mem_map.mp hw; rfl
  · obtain ⟨e, -, rfl⟩ := List.mem_map.mp hw; rfl
  · obtain ⟨e, -, rfl⟩ := List.mem_map.mp hw; rfl
  · exact List.all_eq_true.mp (show pw_Nao.all am_nw_ = true from rfl) w hw
end
section
/-! ===== printed by wip/gen/fastdec.py: decode, by the bytes in their order ===== -/
def pw_okq (b : ByteArray) (q : Nat × Instr) : Bool := match decode b q.1 with
  | .ok (i, n) => decide (i = q.2) && (Nat.beq (am_ln i) 0 || Nat.beq n (am_ln i))
  | .error _ => false
def fd_at (b : ByteArray) (p x : Nat) : Prop := ∃ h : p < b.size, (b[p]).toNat = x
section FD
variable {b : ByteArray} {p x y z n : Nat} {i : Instr} {l : List UInt8}
theorem fd_u1 (h : fd_at b p x) : (Reader.u1 : Decoder Nat) b p = Except.ok (x, p + 1) := by
  obtain ⟨h, e⟩ := h
  subst e
  show (dite (p < b.size) _ _ : Decoder Nat) b p = _
  rw [dif_pos h]
  rfl
theorem fd_u2 (h : fd_at b p x) (h2 : fd_at b (p + 1) y) : (Reader.u2 : Decoder Nat) b p = Except.ok (x * 256 + y, p + 2) := by
  show Except.bind ((Reader.u1 : Decoder Nat) b p) _ = _
  rw [fd_u1 h]
  show Except.bind ((Reader.u1 : Decoder Nat) b (p + 1)) _ = _
  rw [fd_u1 h2]
  rfl
theorem fd_s1 (h : fd_at b p x) : (Reader.s1 : Decoder Int) b p = Except.ok (Reader.signed 8 x, p + 1) := by
  show Except.bind ((Reader.u1 : Decoder Nat) b p) _ = _
  rw [fd_u1 h]
  rfl
theorem fd_s2 (h : fd_at b p x) (h2 : fd_at b (p + 1) y) : (Reader.s2 : Decoder Int) b p = Except.ok (Reader.signed 16 (x * 256 + y), p + 2) := by
  show Except.bind ((Reader.u2 : Decoder Nat) b p) _ = _
  rw [fd_u2 h h2]
  rfl
theorem fd_dec (h : (Decoder.instr p) b p = Except.ok (i, p + n)) : decode b p = .ok (i, n) := by
  show Except.bind ((Decoder.instr p) b p) _ = _
  rw [h]
  show Except.ok (i, p + n - p) = _
  rw [Nat.add_sub_cancel_left]
theorem fd_ok (h : decode b p = .ok (i, n)) (hn : (Nat.beq (am_ln i) 0 || Nat.beq n (am_ln i)) = true) : pw_okq b (p, i) = true := by
  show (match decode b p with | .ok (i', n) => decide (i' = i) && (Nat.beq (am_ln i') 0 || Nat.beq n (am_ln i')) | .error _ => false) = true
  rw [h]
  show (decide (i = i) && _) = true
  rw [decide_eq_true rfl, hn]
  rfl
theorem fd_o2 (h : fd_at b p 2) : (Decoder.instr p) b p = Except.ok ((.iconst (-1) : Instr), p + 1) := by
  show Except.bind ((Reader.u1 : Decoder Nat) b p) _ = _
  rw [fd_u1 h]
  rfl
theorem fd_o3 (h : fd_at b p 3) : (Decoder.instr p) b p = Except.ok ((.iconst (0) : Instr), p + 1) := by
  show Except.bind ((Reader.u1 : Decoder Nat) b p) _ = _
  rw [fd_u1 h]
  rfl
theorem fd_o4 (h : fd_at b p 4) : (Decoder.instr p) b p = Except.ok ((.iconst (1) : Instr), p + 1) := by
  show Except.bind ((Reader.u1 : Decoder Nat) b p) _ = _
  rw [fd_u1 h]
  rfl
theorem fd_o5 (h : fd_at b p 5) : (Decoder.instr p) b p = Except.ok ((.iconst (2) : Instr), p + 1) := by
  show Except.bind ((Reader.u1 : Decoder Nat) b p) _ = _
  rw [fd_u1 h]
  rfl
theorem fd_o6 (h : fd_at b p 6) : (Decoder.instr p) b p = Except.ok ((.iconst (3) : Instr), p + 1) := by
  show Except.bind ((Reader.u1 : Decoder Nat) b p) _ = _
  rw [fd_u1 h]
  rfl
theorem fd_o7 (h : fd_at b p 7) : (Decoder.instr p) b p = Except.ok ((.iconst (4) : Instr), p + 1) := by
  show Except.bind ((Reader.u1 : Decoder Nat) b p) _ = _
  rw [fd_u1 h]
  rfl
theorem fd_o8 (h : fd_at b p 8) : (Decoder.instr p) b p = Except.ok ((.iconst (5) : Instr), p + 1) := by
  show Except.bind ((Reader.u1 : Decoder Nat) b p) _ = _
  rw [fd_u1 h]
  rfl
theorem fd_o42 (h : fd_at b p 42) : (Decoder.instr p) b p = Except.ok ((.aload_n 0 : Instr), p + 1) := by
  show Except.bind ((Reader.u1 : Decoder Nat) b p) _ = _
  rw [fd_u1 h]
  rfl
theorem fd_o43 (h : fd_at b p 43) : (Decoder.instr p) b p = Except.ok ((.aload_n 1 : Instr), p + 1) := by
  show Except.bind ((Reader.u1 : Decoder Nat) b p) _ = _
  rw [fd_u1 h]
  rfl
theorem fd_o44 (h : fd_at b p 44) : (Decoder.instr p) b p = Except.ok ((.aload_n 2 : Instr), p + 1) := by
  show Except.bind ((Reader.u1 : Decoder Nat) b p) _ = _
  rw [fd_u1 h]
  rfl
theorem fd_o45 (h : fd_at b p 45) : (Decoder.instr p) b p = Except.ok ((.aload_n 3 : Instr), p + 1) := by
  show Except.bind ((Reader.u1 : Decoder Nat) b p) _ = _
  rw [fd_u1 h]
  rfl
theorem fd_o26 (h : fd_at b p 26) : (Decoder.instr p) b p = Except.ok ((.iload_n 0 : Instr), p + 1) := by
  show Except.bind ((Reader.u1 : Decoder Nat) b p) _ = _
  rw [fd_u1 h]
  rfl
theorem fd_o27 (h : fd_at b p 27) : (Decoder.instr p) b p = Except.ok ((.iload_n 1 : Instr), p + 1) := by
  show Except.bind ((Reader.u1 : Decoder Nat) b p) _ = _
  rw [fd_u1 h]
  rfl
theorem fd_o28 (h : fd_at b p 28) : (Decoder.instr p) b p = Except.ok ((.iload_n 2 : Instr), p + 1) := by
  show Except.bind ((Reader.u1 : Decoder Nat) b p) _ = _
  rw [fd_u1 h]
  rfl
theorem fd_o29 (h : fd_at b p 29) : (Decoder.instr p) b p = Except.ok ((.iload_n 3 : Instr), p + 1) := by
  show Except.bind ((Reader.u1 : Decoder Nat) b p) _ = _
  rw [fd_u1 h]
  rfl
theorem fd_o59 (h : fd_at b p 59) : (Decoder.instr p) b p = Except.ok ((.istore_n 0 : Instr), p + 1) := by
  show Except.bind ((Reader.u1 : Decoder Nat) b p) _ = _
  rw [fd_u1 h]
  rfl
theorem fd_o60 (h : fd_at b p 60) : (Decoder.instr p) b p = Except.ok ((.istore_n 1 : Instr), p + 1) := by
  show Except.bind ((Reader.u1 : Decoder Nat) b p) _ = _
  rw [fd_u1 h]
  rfl
theorem fd_o61 (h : fd_at b p 61) : (Decoder.instr p) b p = Except.ok ((.istore_n 2 : Instr), p + 1) := by
  show Except.bind ((Reader.u1 : Decoder Nat) b p) _ = _
  rw [fd_u1 h]
  rfl
theorem fd_o62 (h : fd_at b p 62) : (Decoder.instr p) b p = Except.ok ((.istore_n 3 : Instr), p + 1) := by
  show Except.bind ((Reader.u1 : Decoder Nat) b p) _ = _
  rw [fd_u1 h]
  rfl
theorem fd_o30 (h : fd_at b p 30) : (Decoder.instr p) b p = Except.ok ((.lload_n 0 : Instr), p + 1) := by
  show Except.bind ((Reader.u1 : Decoder Nat) b p) _ = _
  rw [fd_u1 h]
  rfl
theorem fd_o31 (h : fd_at b p 31) : (Decoder.instr p) b p = Except.ok ((.lload_n 1 : Instr), p + 1) := by
  show Except.bind ((Reader.u1 : Decoder Nat) b p) _ = _
  rw [fd_u1 h]
  rfl
theorem fd_o32 (h : fd_at b p 32) : (Decoder.instr p) b p = Except.ok ((.lload_n 2 : Instr), p + 1) := by
  show Except.bind ((Reader.u1 : Decoder Nat) b p) _ = _
  rw [fd_u1 h]
  rfl
theorem fd_o33 (h : fd_at b p 33) : (Decoder.instr p) b p = Except.ok ((.lload_n 3 : Instr), p + 1) := by
  show Except.bind ((Reader.u1 : Decoder Nat) b p) _ = _
  rw [fd_u1 h]
  rfl
theorem fd_o75 (h : fd_at b p 75) : (Decoder.instr p) b p = Except.ok ((.astore_n 0 : Instr), p + 1) := by
  show Except.bind ((Reader.u1 : Decoder Nat) b p) _ = _
  rw [fd_u1 h]
  rfl
theorem fd_o76 (h : fd_at b p 76) : (Decoder.instr p) b p = Except.ok ((.astore_n 1 : Instr), p + 1) := by
  show Except.bind ((Reader.u1 : Decoder Nat) b p) _ = _
  rw [fd_u1 h]
  rfl
theorem fd_o77 (h : fd_at b p 77) : (Decoder.instr p) b p = Except.ok ((.astore_n 2 : Instr), p + 1) := by
  show Except.bind ((Reader.u1 : Decoder Nat) b p) _ = _
  rw [fd_u1 h]
  rfl
theorem fd_o78 (h : fd_at b p 78) : (Decoder.instr p) b p = Except.ok ((.astore_n 3 : Instr), p + 1) := by
  show Except.bind ((Reader.u1 : Decoder Nat) b p) _ = _
  rw [fd_u1 h]
  rfl
theorem fd_o63 (h : fd_at b p 63) : (Decoder.instr p) b p = Except.ok ((.lstore_n 0 : Instr), p + 1) := by
  show Except.bind ((Reader.u1 : Decoder Nat) b p) _ = _
  rw [fd_u1 h]
  rfl
theorem fd_o64 (h : fd_at b p 64) : (Decoder.instr p) b p = Except.ok ((.lstore_n 1 : Instr), p + 1) := by
  show Except.bind ((Reader.u1 : Decoder Nat) b p) _ = _
  rw [fd_u1 h]
  rfl
theorem fd_o65 (h : fd_at b p 65) : (Decoder.instr p) b p = Except.ok ((.lstore_n 2 : Instr), p + 1) := by
  show Except.bind ((Reader.u1 : Decoder Nat) b p) _ = _
  rw [fd_u1 h]
  rfl
theorem fd_o66 (h : fd_at b p 66) : (Decoder.instr p) b p = Except.ok ((.lstore_n 3 : Instr), p + 1) := by
  show Except.bind ((Reader.u1 : Decoder Nat) b p) _ = _
  rw [fd_u1 h]
  rfl
theorem fd_o46 (h : fd_at b p 46) : (Decoder.instr p) b p = Except.ok ((.iaload : Instr), p + 1) := by
  show Except.bind ((Reader.u1 : Decoder Nat) b p) _ = _
  rw [fd_u1 h]
  rfl
theorem fd_o172 (h : fd_at b p 172) : (Decoder.instr p) b p = Except.ok ((.ireturn : Instr), p + 1) := by
  show Except.bind ((Reader.u1 : Decoder Nat) b p) _ = _
  rw [fd_u1 h]
  rfl
theorem fd_o96 (h : fd_at b p 96) : (Decoder.instr p) b p = Except.ok ((.iadd : Instr), p + 1) := by
  show Except.bind ((Reader.u1 : Decoder Nat) b p) _ = _
  rw [fd_u1 h]
  rfl
theorem fd_o100 (h : fd_at b p 100) : (Decoder.instr p) b p = Except.ok ((.isub : Instr), p + 1) := by
  show Except.bind ((Reader.u1 : Decoder Nat) b p) _ = _
  rw [fd_u1 h]
  rfl
theorem fd_o104 (h : fd_at b p 104) : (Decoder.instr p) b p = Except.ok ((.imul : Instr), p + 1) := by
  show Except.bind ((Reader.u1 : Decoder Nat) b p) _ = _
  rw [fd_u1 h]
  rfl
theorem fd_o108 (h : fd_at b p 108) : (Decoder.instr p) b p = Except.ok ((.idiv : Instr), p + 1) := by
  show Except.bind ((Reader.u1 : Decoder Nat) b p) _ = _
  rw [fd_u1 h]
  rfl
theorem fd_o79 (h : fd_at b p 79) : (Decoder.instr p) b p = Except.ok ((.iastore : Instr), p + 1) := by
  show Except.bind ((Reader.u1 : Decoder Nat) b p) _ = _
  rw [fd_u1 h]
  rfl
theorem fd_o89 (h : fd_at b p 89) : (Decoder.instr p) b p = Except.ok ((.dup : Instr), p + 1) := by
  show Except.bind ((Reader.u1 : Decoder Nat) b p) _ = _
  rw [fd_u1 h]
  rfl
theorem fd_o87 (h : fd_at b p 87) : (Decoder.instr p) b p = Except.ok ((.pop : Instr), p + 1) := by
  show Except.bind ((Reader.u1 : Decoder Nat) b p) _ = _
  rw [fd_u1 h]
  rfl
theorem fd_o177 (h : fd_at b p 177) : (Decoder.instr p) b p = Except.ok ((.return_ : Instr), p + 1) := by
  show Except.bind ((Reader.u1 : Decoder Nat) b p) _ = _
  rw [fd_u1 h]
  rfl
theorem fd_o50 (h : fd_at b p 50) : (Decoder.instr p) b p = Except.ok ((.aaload : Instr), p + 1) := by
  show Except.bind ((Reader.u1 : Decoder Nat) b p) _ = _
  rw [fd_u1 h]
  rfl
theorem fd_o128 (h : fd_at b p 128) : (Decoder.instr p) b p = Except.ok ((.ior : Instr), p + 1) := by
  show Except.bind ((Reader.u1 : Decoder Nat) b p) _ = _
  rw [fd_u1 h]
  rfl
theorem fd_o126 (h : fd_at b p 126) : (Decoder.instr p) b p = Except.ok ((.iand : Instr), p + 1) := by
  show Except.bind ((Reader.u1 : Decoder Nat) b p) _ = _
  rw [fd_u1 h]
  rfl
theorem fd_o133 (h : fd_at b p 133) : (Decoder.instr p) b p = Except.ok ((.i2l : Instr), p + 1) := by
  show Except.bind ((Reader.u1 : Decoder Nat) b p) _ = _
  rw [fd_u1 h]
  rfl
theorem fd_o92 (h : fd_at b p 92) : (Decoder.instr p) b p = Except.ok ((.dup2 : Instr), p + 1) := by
  show Except.bind ((Reader.u1 : Decoder Nat) b p) _ = _
  rw [fd_u1 h]
  rfl
theorem fd_o116 (h : fd_at b p 116) : (Decoder.instr p) b p = Except.ok ((.ineg : Instr), p + 1) := by
  show Except.bind ((Reader.u1 : Decoder Nat) b p) _ = _
  rw [fd_u1 h]
  rfl
theorem fd_o190 (h : fd_at b p 190) : (Decoder.instr p) b p = Except.ok ((.arraylength : Instr), p + 1) := by
  show Except.bind ((Reader.u1 : Decoder Nat) b p) _ = _
  rw [fd_u1 h]
  rfl
theorem fd_o21 (h : fd_at b p 21) (h1 : fd_at b (p + 1) y) : (Decoder.instr p) b p = Except.ok (Instr.iload y, p + 2) := by
  show Except.bind ((Reader.u1 : Decoder Nat) b p) _ = _
  rw [fd_u1 h]
  show Except.bind ((Reader.u1 : Decoder Nat) b (p + 1)) _ = _
  rw [fd_u1 h1]
  rfl
theorem fd_o54 (h : fd_at b p 54) (h1 : fd_at b (p + 1) y) : (Decoder.instr p) b p = Except.ok (Instr.istore y, p + 2) := by
  show Except.bind ((Reader.u1 : Decoder Nat) b p) _ = _
  rw [fd_u1 h]
  show Except.bind ((Reader.u1 : Decoder Nat) b (p + 1)) _ = _
  rw [fd_u1 h1]
  rfl
theorem fd_o18 (h : fd_at b p 18) (h1 : fd_at b (p + 1) y) : (Decoder.instr p) b p = Except.ok (Instr.ldc y, p + 2) := by
  show Except.bind ((Reader.u1 : Decoder Nat) b p) _ = _
  rw [fd_u1 h]
  show Except.bind ((Reader.u1 : Decoder Nat) b (p + 1)) _ = _
  rw [fd_u1 h1]
  rfl
theorem fd_o25 (h : fd_at b p 25) (h1 : fd_at b (p + 1) y) : (Decoder.instr p) b p = Except.ok (Instr.aload y, p + 2) := by
  show Except.bind ((Reader.u1 : Decoder Nat) b p) _ = _
  rw [fd_u1 h]
  show Except.bind ((Reader.u1 : Decoder Nat) b (p + 1)) _ = _
  rw [fd_u1 h1]
  rfl
theorem fd_o22 (h : fd_at b p 22) (h1 : fd_at b (p + 1) y) : (Decoder.instr p) b p = Except.ok (Instr.lload y, p + 2) := by
  show Except.bind ((Reader.u1 : Decoder Nat) b p) _ = _
  rw [fd_u1 h]
  show Except.bind ((Reader.u1 : Decoder Nat) b (p + 1)) _ = _
  rw [fd_u1 h1]
  rfl
theorem fd_o55 (h : fd_at b p 55) (h1 : fd_at b (p + 1) y) : (Decoder.instr p) b p = Except.ok (Instr.lstore y, p + 2) := by
  show Except.bind ((Reader.u1 : Decoder Nat) b p) _ = _
  rw [fd_u1 h]
  show Except.bind ((Reader.u1 : Decoder Nat) b (p + 1)) _ = _
  rw [fd_u1 h1]
  rfl
theorem fd_o16 (h : fd_at b p 16) (h1 : fd_at b (p + 1) y) : (Decoder.instr p) b p = Except.ok (Instr.bipush (Reader.signed 8 y), p + 2) := by
  show Except.bind ((Reader.u1 : Decoder Nat) b p) _ = _
  rw [fd_u1 h]
  show Except.bind ((Reader.s1 : Decoder Int) b (p + 1)) _ = _
  rw [fd_s1 h1]
  rfl
theorem fd_o132 (h : fd_at b p 132) (h1 : fd_at b (p + 1) y) (h2 : fd_at b (p + 2) z) : (Decoder.instr p) b p = Except.ok (Instr.iinc y (Reader.signed 8 z), p + 3) := by
  show Except.bind ((Reader.u1 : Decoder Nat) b p) _ = _
  rw [fd_u1 h]
  show Except.bind ((Reader.u1 : Decoder Nat) b (p + 1)) _ = _
  rw [fd_u1 h1]
  show Except.bind ((Reader.s1 : Decoder Int) b (p + 1 + 1)) _ = _
  rw [fd_s1 h2]
  rfl
theorem fd_o17 (h : fd_at b p 17) (h1 : fd_at b (p + 1) y) (h2 : fd_at b (p + 2) z) : (Decoder.instr p) b p = Except.ok (Instr.sipush (Reader.signed 16 (y * 256 + z)), p + 3) := by
  show Except.bind ((Reader.u1 : Decoder Nat) b p) _ = _
  rw [fd_u1 h]
  show Except.bind ((Reader.s2 : Decoder Int) b (p + 1)) _ = _
  rw [fd_s2 h1 h2]
  rfl
theorem fd_o167 (h : fd_at b p 167) (h1 : fd_at b (p + 1) y) (h2 : fd_at b (p + 2) z) : (Decoder.instr p) b p = Except.ok (Instr.goto (Reader.signed 16 (y * 256 + z)), p + 3) := by
  show Except.bind ((Reader.u1 : Decoder Nat) b p) _ = _
  rw [fd_u1 h]
  show Except.bind ((Reader.s2 : Decoder Int) b (p + 1)) _ = _
  rw [fd_s2 h1 h2]
  rfl
theorem fd_o153 (h : fd_at b p 153) (h1 : fd_at b (p + 1) y) (h2 : fd_at b (p + 2) z) : (Decoder.instr p) b p = Except.ok (Instr.ifCond .eq (Reader.signed 16 (y * 256 + z)), p + 3) := by
  show Except.bind ((Reader.u1 : Decoder Nat) b p) _ = _
  rw [fd_u1 h]
  show Except.bind ((Reader.s2 : Decoder Int) b (p + 1)) _ = _
  rw [fd_s2 h1 h2]
  rfl
theorem fd_o154 (h : fd_at b p 154) (h1 : fd_at b (p + 1) y) (h2 : fd_at b (p + 2) z) : (Decoder.instr p) b p = Except.ok (Instr.ifCond .ne (Reader.signed 16 (y * 256 + z)), p + 3) := by
  show Except.bind ((Reader.u1 : Decoder Nat) b p) _ = _
  rw [fd_u1 h]
  show Except.bind ((Reader.s2 : Decoder Int) b (p + 1)) _ = _
  rw [fd_s2 h1 h2]
  rfl
theorem fd_o155 (h : fd_at b p 155) (h1 : fd_at b (p + 1) y) (h2 : fd_at b (p + 2) z) : (Decoder.instr p) b p = Except.ok (Instr.ifCond .lt (Reader.signed 16 (y * 256 + z)), p + 3) := by
  show Except.bind ((Reader.u1 : Decoder Nat) b p) _ = _
  rw [fd_u1 h]
  show Except.bind ((Reader.s2 : Decoder Int) b (p + 1)) _ = _
  rw [fd_s2 h1 h2]
  rfl
theorem fd_o156 (h : fd_at b p 156) (h1 : fd_at b (p + 1) y) (h2 : fd_at b (p + 2) z) : (Decoder.instr p) b p = Except.ok (Instr.ifCond .ge (Reader.signed 16 (y * 256 + z)), p + 3) := by
  show Except.bind ((Reader.u1 : Decoder Nat) b p) _ = _
  rw [fd_u1 h]
  show Except.bind ((Reader.s2 : Decoder Int) b (p + 1)) _ = _
  rw [fd_s2 h1 h2]
  rfl
theorem fd_o157 (h : fd_at b p 157) (h1 : fd_at b (p + 1) y) (h2 : fd_at b (p + 2) z) : (Decoder.instr p) b p = Except.ok (Instr.ifCond .gt (Reader.signed 16 (y * 256 + z)), p + 3) := by
  show Except.bind ((Reader.u1 : Decoder Nat) b p) _ = _
  rw [fd_u1 h]
  show Except.bind ((Reader.s2 : Decoder Int) b (p + 1)) _ = _
  rw [fd_s2 h1 h2]
  rfl
theorem fd_o158 (h : fd_at b p 158) (h1 : fd_at b (p + 1) y) (h2 : fd_at b (p + 2) z) : (Decoder.instr p) b p = Except.ok (Instr.ifCond .le (Reader.signed 16 (y * 256 + z)), p + 3) := by
  show Except.bind ((Reader.u1 : Decoder Nat) b p) _ = _
  rw [fd_u1 h]
  show Except.bind ((Reader.s2 : Decoder Int) b (p + 1)) _ = _
  rw [fd_s2 h1 h2]
  rfl
theorem fd_o159 (h : fd_at b p 159) (h1 : fd_at b (p + 1) y) (h2 : fd_at b (p + 2) z) : (Decoder.instr p) b p = Except.ok (Instr.if_icmp .eq (Reader.signed 16 (y * 256 + z)), p + 3) := by
  show Except.bind ((Reader.u1 : Decoder Nat) b p) _ = _
  rw [fd_u1 h]
  show Except.bind ((Reader.s2 : Decoder Int) b (p + 1)) _ = _
  rw [fd_s2 h1 h2]
  rfl
theorem fd_o160 (h : fd_at b p 160) (h1 : fd_at b (p + 1) y) (h2 : fd_at b (p + 2) z) : (Decoder.instr p) b p = Except.ok (Instr.if_icmp .ne (Reader.signed 16 (y * 256 + z)), p + 3) := by
  show Except.bind ((Reader.u1 : Decoder Nat) b p) _ = _
  rw [fd_u1 h]
  show Except.bind ((Reader.s2 : Decoder Int) b (p + 1)) _ = _
  rw [fd_s2 h1 h2]
  rfl
theorem fd_o161 (h : fd_at b p 161) (h1 : fd_at b (p + 1) y) (h2 : fd_at b (p + 2) z) : (Decoder.instr p) b p = Except.ok (Instr.if_icmp .lt (Reader.signed 16 (y * 256 + z)), p + 3) := by
  show Except.bind ((Reader.u1 : Decoder Nat) b p) _ = _
  rw [fd_u1 h]
  show Except.bind ((Reader.s2 : Decoder Int) b (p + 1)) _ = _
  rw [fd_s2 h1 h2]
  rfl
theorem fd_o162 (h : fd_at b p 162) (h1 : fd_at b (p + 1) y) (h2 : fd_at b (p + 2) z) : (Decoder.instr p) b p = Except.ok (Instr.if_icmp .ge (Reader.signed 16 (y * 256 + z)), p + 3) := by
  show Except.bind ((Reader.u1 : Decoder Nat) b p) _ = _
  rw [fd_u1 h]
  show Except.bind ((Reader.s2 : Decoder Int) b (p + 1)) _ = _
  rw [fd_s2 h1 h2]
  rfl
theorem fd_o163 (h : fd_at b p 163) (h1 : fd_at b (p + 1) y) (h2 : fd_at b (p + 2) z) : (Decoder.instr p) b p = Except.ok (Instr.if_icmp .gt (Reader.signed 16 (y * 256 + z)), p + 3) := by
  show Except.bind ((Reader.u1 : Decoder Nat) b p) _ = _
  rw [fd_u1 h]
  show Except.bind ((Reader.s2 : Decoder Int) b (p + 1)) _ = _
  rw [fd_s2 h1 h2]
  rfl
theorem fd_o164 (h : fd_at b p 164) (h1 : fd_at b (p + 1) y) (h2 : fd_at b (p + 2) z) : (Decoder.instr p) b p = Except.ok (Instr.if_icmp .le (Reader.signed 16 (y * 256 + z)), p + 3) := by
  show Except.bind ((Reader.u1 : Decoder Nat) b p) _ = _
  rw [fd_u1 h]
  show Except.bind ((Reader.s2 : Decoder Int) b (p + 1)) _ = _
  rw [fd_s2 h1 h2]
  rfl
theorem fd_o180 (h : fd_at b p 180) (h1 : fd_at b (p + 1) y) (h2 : fd_at b (p + 2) z) : (Decoder.instr p) b p = Except.ok (Instr.getfield (y * 256 + z), p + 3) := by
  show Except.bind ((Reader.u1 : Decoder Nat) b p) _ = _
  rw [fd_u1 h]
  show Except.bind ((Reader.u2 : Decoder Nat) b (p + 1)) _ = _
  rw [fd_u2 h1 h2]
  rfl
theorem fd_o181 (h : fd_at b p 181) (h1 : fd_at b (p + 1) y) (h2 : fd_at b (p + 2) z) : (Decoder.instr p) b p = Except.ok (Instr.putfield (y * 256 + z), p + 3) := by
  show Except.bind ((Reader.u1 : Decoder Nat) b p) _ = _
  rw [fd_u1 h]
  show Except.bind ((Reader.u2 : Decoder Nat) b (p + 1)) _ = _
  rw [fd_u2 h1 h2]
  rfl
theorem fd_o182 (h : fd_at b p 182) (h1 : fd_at b (p + 1) y) (h2 : fd_at b (p + 2) z) : (Decoder.instr p) b p = Except.ok (Instr.invokevirtual (y * 256 + z), p + 3) := by
  show Except.bind ((Reader.u1 : Decoder Nat) b p) _ = _
  rw [fd_u1 h]
  show Except.bind ((Reader.u2 : Decoder Nat) b (p + 1)) _ = _
  rw [fd_u2 h1 h2]
  rfl
theorem fd_o183 (h : fd_at b p 183) (h1 : fd_at b (p + 1) y) (h2 : fd_at b (p + 2) z) : (Decoder.instr p) b p = Except.ok (Instr.invokespecial (y * 256 + z), p + 3) := by
  show Except.bind ((Reader.u1 : Decoder Nat) b p) _ = _
  rw [fd_u1 h]
  show Except.bind ((Reader.u2 : Decoder Nat) b (p + 1)) _ = _
  rw [fd_u2 h1 h2]
  rfl
theorem fd_o184 (h : fd_at b p 184) (h1 : fd_at b (p + 1) y) (h2 : fd_at b (p + 2) z) : (Decoder.instr p) b p = Except.ok (Instr.invokestatic (y * 256 + z), p + 3) := by
  show Except.bind ((Reader.u1 : Decoder Nat) b p) _ = _
  rw [fd_u1 h]
  show Except.bind ((Reader.u2 : Decoder Nat) b (p + 1)) _ = _
  rw [fd_u2 h1 h2]
  rfl
theorem fd_o19 (h : fd_at b p 19) (h1 : fd_at b (p + 1) y) (h2 : fd_at b (p + 2) z) : (Decoder.instr p) b p = Except.ok (Instr.ldc_w (y * 256 + z), p + 3) := by
  show Except.bind ((Reader.u1 : Decoder Nat) b p) _ = _
  rw [fd_u1 h]
  show Except.bind ((Reader.u2 : Decoder Nat) b (p + 1)) _ = _
  rw [fd_u2 h1 h2]
  rfl
theorem fd_o20 (h : fd_at b p 20) (h1 : fd_at b (p + 1) y) (h2 : fd_at b (p + 2) z) : (Decoder.instr p) b p = Except.ok (Instr.ldc2_w (y * 256 + z), p + 3) := by
  show Except.bind ((Reader.u1 : Decoder Nat) b p) _ = _
  rw [fd_u1 h]
  show Except.bind ((Reader.u2 : Decoder Nat) b (p + 1)) _ = _
  rw [fd_u2 h1 h2]
  rfl
theorem fd_o178 (h : fd_at b p 178) (h1 : fd_at b (p + 1) y) (h2 : fd_at b (p + 2) z) : (Decoder.instr p) b p = Except.ok (Instr.getstatic (y * 256 + z), p + 3) := by
  show Except.bind ((Reader.u1 : Decoder Nat) b p) _ = _
  rw [fd_u1 h]
  show Except.bind ((Reader.u2 : Decoder Nat) b (p + 1)) _ = _
  rw [fd_u2 h1 h2]
  rfl
theorem fd_o187 (h : fd_at b p 187) (h1 : fd_at b (p + 1) y) (h2 : fd_at b (p + 2) z) : (Decoder.instr p) b p = Except.ok (Instr.new (y * 256 + z), p + 3) := by
  show Except.bind ((Reader.u1 : Decoder Nat) b p) _ = _
  rw [fd_u1 h]
  show Except.bind ((Reader.u2 : Decoder Nat) b (p + 1)) _ = _
  rw [fd_u2 h1 h2]
  rfl
def fd_1 (l : List UInt8) (op : Nat) : Bool := match l with
  | x :: _ => Nat.beq x.toNat op
  | [] => false
def fd_2 (l : List UInt8) (op : Nat) (k : Nat → Bool) : Bool := match l with
  | x :: y :: _ => Nat.beq x.toNat op && k y.toNat
  | _ => false
def fd_3 (l : List UInt8) (op : Nat) (k : Nat → Nat → Bool) : Bool := match l with
  | x :: y :: z :: _ => Nat.beq x.toNat op && k y.toNat z.toNat
  | _ => false
theorem fd_by {w : UInt8} {k : Nat} (e : (b.data.toList.drop p)[k]? = some w) : fd_at b (p + k) w.toNat := by
  rw [List.getElem?_drop, Array.getElem?_toList, Array.getElem?_eq_some_iff] at e
  obtain ⟨h, rfl⟩ := e
  exact ⟨h, rfl⟩
theorem fd_1k {op : Nat} (h : fd_1 (b.data.toList.drop p) op = true) : fd_at b p op := by
  have e0 : ∀ w, (b.data.toList.drop p)[0]? = some w → fd_at b (p + 0) w.toNat := fun w e => fd_by e
  generalize b.data.toList.drop p = l at h e0
  match l, h with
  | x :: _, h =>
    have e := Nat.eq_of_beq_eq_true h
    subst e
    exact e0 x rfl
theorem fd_2k {op : Nat} {k : Nat → Bool} (h : fd_2 (b.data.toList.drop p) op k = true) : ∃ y, fd_at b p op ∧ fd_at b (p + 1) y ∧ k y = true := by
  have e0 : ∀ (j : Nat) w, (b.data.toList.drop p)[j]? = some w → fd_at b (p + j) w.toNat := fun j w e => fd_by e
  generalize b.data.toList.drop p = l at h e0
  match l, h with
  | x :: y :: _, h =>
    have h : (Nat.beq x.toNat op && k y.toNat) = true := h
    rw [Bool.and_eq_true] at h
    have e := Nat.eq_of_beq_eq_true h.1
    subst e
    exact ⟨y.toNat, e0 0 x rfl, e0 1 y rfl, h.2⟩
theorem fd_3k {op : Nat} {k : Nat → Nat → Bool} (h : fd_3 (b.data.toList.drop p) op k = true) : ∃ y z, fd_at b p op ∧ fd_at b (p + 1) y ∧ fd_at b (p + 2) z ∧ k y z = true := by
  have e0 : ∀ (j : Nat) w, (b.data.toList.drop p)[j]? = some w → fd_at b (p + j) w.toNat := fun j w e => fd_by e
  generalize b.data.toList.drop p = l at h e0
  match l, h with
  | x :: y :: z :: _, h =>
    have h : (Nat.beq x.toNat op && k y.toNat z.toNat) = true := h
    rw [Bool.and_eq_true] at h
    have e := Nat.eq_of_beq_eq_true h.1
    subst e
    exact ⟨y.toNat, z.toNat, e0 0 x rfl, e0 1 y rfl, e0 2 z rfl, h.2⟩
def fd_m (b : ByteArray) (p : Nat) (l : List UInt8) : Instr → Bool
  | .aload_n n => fd_1 l (42 + n.val)
  | .iload_n n => fd_1 l (26 + n.val)
  | .istore_n n => fd_1 l (59 + n.val)
  | .lload_n n => fd_1 l (30 + n.val)
  | .astore_n n => fd_1 l (75 + n.val)
  | .lstore_n n => fd_1 l (63 + n.val)
  | .iconst z => decide (-1 ≤ z) && (decide (z ≤ 5) && fd_1 l (z + 3).toNat)
  | .iaload => fd_1 l 46
  | .ireturn => fd_1 l 172
  | .iadd => fd_1 l 96
  | .isub => fd_1 l 100
  | .imul => fd_1 l 104
  | .idiv => fd_1 l 108
  | .iastore => fd_1 l 79
  | .dup => fd_1 l 89
  | .pop => fd_1 l 87
  | .return_ => fd_1 l 177
  | .aaload => fd_1 l 50
  | .ior => fd_1 l 128
  | .iand => fd_1 l 126
  | .i2l => fd_1 l 133
  | .dup2 => fd_1 l 92
  | .ineg => fd_1 l 116
  | .arraylength => fd_1 l 190
  | .iload n => fd_2 l 21 (fun y => Nat.beq y n)
  | .istore n => fd_2 l 54 (fun y => Nat.beq y n)
  | .ldc n => fd_2 l 18 (fun y => Nat.beq y n)
  | .aload n => fd_2 l 25 (fun y => Nat.beq y n)
  | .lload n => fd_2 l 22 (fun y => Nat.beq y n)
  | .lstore n => fd_2 l 55 (fun y => Nat.beq y n)
  | .bipush z => fd_2 l 16 (fun y => decide (Reader.signed 8 y = z))
  | .iinc n z => fd_3 l 132 (fun y w => Nat.beq y n && decide (Reader.signed 8 w = z))
  | .sipush z => fd_3 l 17 (fun y w => decide (Reader.signed 16 (y * 256 + w) = z))
  | .goto z => fd_3 l 167 (fun y w => decide (Reader.signed 16 (y * 256 + w) = z))
  | .ifCond .eq z => fd_3 l 153 (fun y w => decide (Reader.signed 16 (y * 256 + w) = z))
  | .ifCond .ne z => fd_3 l 154 (fun y w => decide (Reader.signed 16 (y * 256 + w) = z))
  | .ifCond .lt z => fd_3 l 155 (fun y w => decide (Reader.signed 16 (y * 256 + w) = z))
  | .ifCond .ge z => fd_3 l 156 (fun y w => decide (Reader.signed 16 (y * 256 + w) = z))
  | .ifCond .gt z => fd_3 l 157 (fun y w => decide (Reader.signed 16 (y * 256 + w) = z))
  | .ifCond .le z => fd_3 l 158 (fun y w => decide (Reader.signed 16 (y * 256 + w) = z))
  | .if_icmp .eq z => fd_3 l 159 (fun y w => decide (Reader.signed 16 (y * 256 + w) = z))
  | .if_icmp .ne z => fd_3 l 160 (fun y w => decide (Reader.signed 16 (y * 256 + w) = z))
  | .if_icmp .lt z => fd_3 l 161 (fun y w => decide (Reader.signed 16 (y * 256 + w) = z))
  | .if_icmp .ge z => fd_3 l 162 (fun y w => decide (Reader.signed 16 (y * 256 + w) = z))
  | .if_icmp .gt z => fd_3 l 163 (fun y w => decide (Reader.signed 16 (y * 256 + w) = z))
  | .if_icmp .le z => fd_3 l 164 (fun y w => decide (Reader.signed 16 (y * 256 + w) = z))
  | .getfield n => fd_3 l 180 (fun y w => Nat.beq (y * 256 + w) n)
  | .putfield n => fd_3 l 181 (fun y w => Nat.beq (y * 256 + w) n)
  | .invokevirtual n => fd_3 l 182 (fun y w => Nat.beq (y * 256 + w) n)
  | .invokespecial n => fd_3 l 183 (fun y w => Nat.beq (y * 256 + w) n)
  | .invokestatic n => fd_3 l 184 (fun y w => Nat.beq (y * 256 + w) n)
  | .ldc_w n => fd_3 l 19 (fun y w => Nat.beq (y * 256 + w) n)
  | .ldc2_w n => fd_3 l 20 (fun y w => Nat.beq (y * 256 + w) n)
  | .getstatic n => fd_3 l 178 (fun y w => Nat.beq (y * 256 + w) n)
  | .new n => fd_3 l 187 (fun y w => Nat.beq (y * 256 + w) n)
  | i => pw_okq b (p, i)
theorem fd_mk {i : Instr} (h : fd_m b p (b.data.toList.drop p) i = true) : pw_okq b (p, i) = true := by
  cases i with
  | aload_n n =>
    have h2 : fd_1 (b.data.toList.drop p) (42 + n.val) = true := h
    obtain ⟨k, hk⟩ := n
    have hc : k = 0 ∨ k = 1 ∨ k = 2 ∨ k = 3 := by omega
    rcases hc with rfl | rfl | rfl | rfl
    · exact fd_ok (fd_dec (fd_o42 (fd_1k h2))) rfl
    · exact fd_ok (fd_dec (fd_o43 (fd_1k h2))) rfl
    · exact fd_ok (fd_dec (fd_o44 (fd_1k h2))) rfl
    · exact fd_ok (fd_dec (fd_o45 (fd_1k h2))) rfl
  | iload_n n =>
    have h2 : fd_1 (b.data.toList.drop p) (26 + n.val) = true := h
    obtain ⟨k, hk⟩ := n
    have hc : k = 0 ∨ k = 1 ∨ k = 2 ∨ k = 3 := by omega
    rcases hc with rfl | rfl | rfl | rfl
    · exact fd_ok (fd_dec (fd_o26 (fd_1k h2))) rfl
    · exact fd_ok (fd_dec (fd_o27 (fd_1k h2))) rfl
    · exact fd_ok (fd_dec (fd_o28 (fd_1k h2))) rfl
    · exact fd_ok (fd_dec (fd_o29 (fd_1k h2))) rfl
  | istore_n n =>
    have h2 : fd_1 (b.data.toList.drop p) (59 + n.val) = true := h
    obtain ⟨k, hk⟩ := n
    have hc : k = 0 ∨ k = 1 ∨ k = 2 ∨ k = 3 := by omega
    rcases hc with rfl | rfl | rfl | rfl
    · exact fd_ok (fd_dec (fd_o59 (fd_1k h2))) rfl
    · exact fd_ok (fd_dec (fd_o60 (fd_1k h2))) rfl
    · exact fd_ok (fd_dec (fd_o61 (fd_1k h2))) rfl
    · exact fd_ok (fd_dec (fd_o62 (fd_1k h2))) rfl
  | lload_n n =>
    have h2 : fd_1 (b.data.toList.drop p) (30 + n.val) = true := h
    obtain ⟨k, hk⟩ := n
    have hc : k = 0 ∨ k = 1 ∨ k = 2 ∨ k = 3 := by omega
    rcases hc with rfl | rfl | rfl | rfl
    · exact fd_ok (fd_dec (fd_o30 (fd_1k h2))) rfl
    · exact fd_ok (fd_dec (fd_o31 (fd_1k h2))) rfl
    · exact fd_ok (fd_dec (fd_o32 (fd_1k h2))) rfl
    · exact fd_ok (fd_dec (fd_o33 (fd_1k h2))) rfl
  | astore_n n =>
    have h2 : fd_1 (b.data.toList.drop p) (75 + n.val) = true := h
    obtain ⟨k, hk⟩ := n
    have hc : k = 0 ∨ k = 1 ∨ k = 2 ∨ k = 3 := by omega
    rcases hc with rfl | rfl | rfl | rfl
    · exact fd_ok (fd_dec (fd_o75 (fd_1k h2))) rfl
    · exact fd_ok (fd_dec (fd_o76 (fd_1k h2))) rfl
    · exact fd_ok (fd_dec (fd_o77 (fd_1k h2))) rfl
    · exact fd_ok (fd_dec (fd_o78 (fd_1k h2))) rfl
  | lstore_n n =>
    have h2 : fd_1 (b.data.toList.drop p) (63 + n.val) = true := h
    obtain ⟨k, hk⟩ := n
    have hc : k = 0 ∨ k = 1 ∨ k = 2 ∨ k = 3 := by omega
    rcases hc with rfl | rfl | rfl | rfl
    · exact fd_ok (fd_dec (fd_o63 (fd_1k h2))) rfl
    · exact fd_ok (fd_dec (fd_o64 (fd_1k h2))) rfl
    · exact fd_ok (fd_dec (fd_o65 (fd_1k h2))) rfl
    · exact fd_ok (fd_dec (fd_o66 (fd_1k h2))) rfl
  | iconst z =>
    have h : (decide (-1 ≤ z) && (decide (z ≤ 5) && fd_1 (b.data.toList.drop p) (z + 3).toNat)) = true := h
    simp only [Bool.and_eq_true, decide_eq_true_eq] at h
    obtain ⟨h1, h2, h3⟩ := h
    have hc : z = -1 ∨ z = 0 ∨ z = 1 ∨ z = 2 ∨ z = 3 ∨ z = 4 ∨ z = 5 := by omega
    rcases hc with rfl | rfl | rfl | rfl | rfl | rfl | rfl
    · exact fd_ok (fd_dec (fd_o2 (fd_1k h3))) rfl
    · exact fd_ok (fd_dec (fd_o3 (fd_1k h3))) rfl
    · exact fd_ok (fd_dec (fd_o4 (fd_1k h3))) rfl
    · exact fd_ok (fd_dec (fd_o5 (fd_1k h3))) rfl
    · exact fd_ok (fd_dec (fd_o6 (fd_1k h3))) rfl
    · exact fd_ok (fd_dec (fd_o7 (fd_1k h3))) rfl
    · exact fd_ok (fd_dec (fd_o8 (fd_1k h3))) rfl
  | iaload =>
    exact fd_ok (fd_dec (fd_o46 (fd_1k h))) rfl
  | ireturn =>
    exact fd_ok (fd_dec (fd_o172 (fd_1k h))) rfl
  | iadd =>
    exact fd_ok (fd_dec (fd_o96 (fd_1k h))) rfl
  | isub =>
    exact fd_ok (fd_dec (fd_o100 (fd_1k h))) rfl
  | imul =>
    exact fd_ok (fd_dec (fd_o104 (fd_1k h))) rfl
  | idiv =>
    exact fd_ok (fd_dec (fd_o108 (fd_1k h))) rfl
  | iastore =>
    exact fd_ok (fd_dec (fd_o79 (fd_1k h))) rfl
  | dup =>
    exact fd_ok (fd_dec (fd_o89 (fd_1k h))) rfl
  | pop =>
    exact fd_ok (fd_dec (fd_o87 (fd_1k h))) rfl
  | return_ =>
    exact fd_ok (fd_dec (fd_o177 (fd_1k h))) rfl
  | aaload =>
    exact fd_ok (fd_dec (fd_o50 (fd_1k h))) rfl
  | ior =>
    exact fd_ok (fd_dec (fd_o128 (fd_1k h))) rfl
  | iand =>
    exact fd_ok (fd_dec (fd_o126 (fd_1k h))) rfl
  | i2l =>
    exact fd_ok (fd_dec (fd_o133 (fd_1k h))) rfl
  | dup2 =>
    exact fd_ok (fd_dec (fd_o92 (fd_1k h))) rfl
  | ineg =>
    exact fd_ok (fd_dec (fd_o116 (fd_1k h))) rfl
  | arraylength =>
    exact fd_ok (fd_dec (fd_o190 (fd_1k h))) rfl
  | iload n =>
    have h : fd_2 (b.data.toList.drop p) 21 (fun y => Nat.beq y n) = true := h
    obtain ⟨y, h1, h2, h3⟩ := fd_2k h
    have e := Nat.eq_of_beq_eq_true h3
    subst e
    exact fd_ok (fd_dec (fd_o21 h1 h2)) rfl
  | istore n =>
    have h : fd_2 (b.data.toList.drop p) 54 (fun y => Nat.beq y n) = true := h
    obtain ⟨y, h1, h2, h3⟩ := fd_2k h
    have e := Nat.eq_of_beq_eq_true h3
    subst e
    exact fd_ok (fd_dec (fd_o54 h1 h2)) rfl
  | ldc n =>
    have h : fd_2 (b.data.toList.drop p) 18 (fun y => Nat.beq y n) = true := h
    obtain ⟨y, h1, h2, h3⟩ := fd_2k h
    have e := Nat.eq_of_beq_eq_true h3
    subst e
    exact fd_ok (fd_dec (fd_o18 h1 h2)) rfl
  | aload n =>
    have h : fd_2 (b.data.toList.drop p) 25 (fun y => Nat.beq y n) = true := h
    obtain ⟨y, h1, h2, h3⟩ := fd_2k h
    have e := Nat.eq_of_beq_eq_true h3
    subst e
    exact fd_ok (fd_dec (fd_o25 h1 h2)) rfl
  | lload n =>
    have h : fd_2 (b.data.toList.drop p) 22 (fun y => Nat.beq y n) = true := h
    obtain ⟨y, h1, h2, h3⟩ := fd_2k h
    have e := Nat.eq_of_beq_eq_true h3
    subst e
    exact fd_ok (fd_dec (fd_o22 h1 h2)) rfl
  | lstore n =>
    have h : fd_2 (b.data.toList.drop p) 55 (fun y => Nat.beq y n) = true := h
    obtain ⟨y, h1, h2, h3⟩ := fd_2k h
    have e := Nat.eq_of_beq_eq_true h3
    subst e
    exact fd_ok (fd_dec (fd_o55 h1 h2)) rfl
  | bipush z =>
    have h : fd_2 (b.data.toList.drop p) 16 (fun y => decide (Reader.signed 8 y = z)) = true := h
    obtain ⟨y, h1, h2, h3⟩ := fd_2k h
    have e := of_decide_eq_true h3
    subst e
    exact fd_ok (fd_dec (fd_o16 h1 h2)) rfl
  | iinc n z =>
    have h : fd_3 (b.data.toList.drop p) 132 (fun y w => Nat.beq y n && decide (Reader.signed 8 w = z)) = true := h
    obtain ⟨y, w, h1, h2, h3, h4⟩ := fd_3k h
    rw [Bool.and_eq_true] at h4
    have e := Nat.eq_of_beq_eq_true h4.1
    have e2 := of_decide_eq_true h4.2
    subst e e2
    exact fd_ok (fd_dec (fd_o132 h1 h2 h3)) rfl
  | sipush z =>
    have h : fd_3 (b.data.toList.drop p) 17 (fun y w => decide (Reader.signed 16 (y * 256 + w) = z)) = true := h
    obtain ⟨y, w, h1, h2, h3, h4⟩ := fd_3k h
    have e := of_decide_eq_true h4
    subst e
    exact fd_ok (fd_dec (fd_o17 h1 h2 h3)) rfl
  | goto z =>
    have h : fd_3 (b.data.toList.drop p) 167 (fun y w => decide (Reader.signed 16 (y * 256 + w) = z)) = true := h
    obtain ⟨y, w, h1, h2, h3, h4⟩ := fd_3k h
    have e := of_decide_eq_true h4
    subst e
    exact fd_ok (fd_dec (fd_o167 h1 h2 h3)) rfl
  | ifCond c z =>
    cases c with
    | eq =>
      have h : fd_3 (b.data.toList.drop p) 153 (fun y w => decide (Reader.signed 16 (y * 256 + w) = z)) = true := h
      obtain ⟨y, w, h1, h2, h3, h4⟩ := fd_3k h
      have e := of_decide_eq_true h4
      subst e
      exact fd_ok (fd_dec (fd_o153 h1 h2 h3)) rfl
    | ne =>
      have h : fd_3 (b.data.toList.drop p) 154 (fun y w => decide (Reader.signed 16 (y * 256 + w) = z)) = true := h
      obtain ⟨y, w, h1, h2, h3, h4⟩ := fd_3k h
      have e := of_decide_eq_true h4
      subst e
      exact fd_ok (fd_dec (fd_o154 h1 h2 h3)) rfl
    | lt =>
      have h : fd_3 (b.data.toList.drop p) 155 (fun y w => decide (Reader.signed 16 (y * 256 + w) = z)) = true := h
      obtain ⟨y, w, h1, h2, h3, h4⟩ := fd_3k h
      have e := of_decide_eq_true h4
      subst e
      exact fd_ok (fd_dec (fd_o155 h1 h2 h3)) rfl
    | ge =>
      have h : fd_3 (b.data.toList.drop p) 156 (fun y w => decide (Reader.signed 16 (y * 256 + w) = z)) = true := h
      obtain ⟨y, w, h1, h2, h3, h4⟩ := fd_3k h
      have e := of_decide_eq_true h4
      subst e
      exact fd_ok (fd_dec (fd_o156 h1 h2 h3)) rfl
    | gt =>
      have h : fd_3 (b.data.toList.drop p) 157 (fun y w => decide (Reader.signed 16 (y * 256 + w) = z)) = true := h
      obtain ⟨y, w, h1, h2, h3, h4⟩ := fd_3k h
      have e := of_decide_eq_true h4
      subst e
      exact fd_ok (fd_dec (fd_o157 h1 h2 h3)) rfl
    | le =>
      have h : fd_3 (b.data.toList.drop p) 158 (fun y w => decide (Reader.signed 16 (y * 256 + w) = z)) = true := h
      obtain ⟨y, w, h1, h2, h3, h4⟩ := fd_3k h
      have e := of_decide_eq_true h4
      subst e
      exact fd_ok (fd_dec (fd_o158 h1 h2 h3)) rfl
  | if_icmp c z =>
    cases c with
    | eq =>
      have h : fd_3 (b.data.toList.drop p) 159 (fun y w => decide (Reader.signed 16 (y * 256 + w) = z)) = true := h
      obtain ⟨y, w, h1, h2, h3, h4⟩ := fd_3k h
      have e := of_decide_eq_true h4
      subst e
      exact fd_ok (fd_dec (fd_o159 h1 h2 h3)) rfl
    | ne =>
      have h : fd_3 (b.data.toList.drop p) 160 (fun y w => decide (Reader.signed 16 (y * 256 + w) = z)) = true := h
      obtain ⟨y, w, h1, h2, h3, h4⟩ := fd_3k h
      have e := of_decide_eq_true h4
      subst e
      exact fd_ok (fd_dec (fd_o160 h1 h2 h3)) rfl
    | lt =>
      have h : fd_3 (b.data.toList.drop p) 161 (fun y w => decide (Reader.signed 16 (y * 256 + w) = z)) = true := h
      obtain ⟨y, w, h1, h2, h3, h4⟩ := fd_3k h
      have e := of_decide_eq_true h4
      subst e
      exact fd_ok (fd_dec (fd_o161 h1 h2 h3)) rfl
    | ge =>
      have h : fd_3 (b.data.toList.drop p) 162 (fun y w => decide (Reader.signed 16 (y * 256 + w) = z)) = true := h
      obtain ⟨y, w, h1, h2, h3, h4⟩ := fd_3k h
      have e := of_decide_eq_true h4
      subst e
      exact fd_ok (fd_dec (fd_o162 h1 h2 h3)) rfl
    | gt =>
      have h : fd_3 (b.data.toList.drop p) 163 (fun y w => decide (Reader.signed 16 (y * 256 + w) = z)) = true := h
      obtain ⟨y, w, h1, h2, h3, h4⟩ := fd_3k h
      have e := of_decide_eq_true h4
      subst e
      exact fd_ok (fd_dec (fd_o163 h1 h2 h3)) rfl
    | le =>
      have h : fd_3 (b.data.toList.drop p) 164 (fun y w => decide (Reader.signed 16 (y * 256 + w) = z)) = true := h
      obtain ⟨y, w, h1, h2, h3, h4⟩ := fd_3k h
      have e := of_decide_eq_true h4
      subst e
      exact fd_ok (fd_dec (fd_o164 h1 h2 h3)) rfl
  | getfield n =>
    have h : fd_3 (b.data.toList.drop p) 180 (fun y w => Nat.beq (y * 256 + w) n) = true := h
    obtain ⟨y, w, h1, h2, h3, h4⟩ := fd_3k h
    have e := Nat.eq_of_beq_eq_true h4
    subst e
    exact fd_ok (fd_dec (fd_o180 h1 h2 h3)) rfl
  | putfield n =>
    have h : fd_3 (b.data.toList.drop p) 181 (fun y w => Nat.beq (y * 256 + w) n) = true := h
    obtain ⟨y, w, h1, h2, h3, h4⟩ := fd_3k h
    have e := Nat.eq_of_beq_eq_true h4
    subst e
    exact fd_ok (fd_dec (fd_o181 h1 h2 h3)) rfl
  | invokevirtual n =>
    have h : fd_3 (b.data.toList.drop p) 182 (fun y w => Nat.beq (y * 256 + w) n) = true := h
    obtain ⟨y, w, h1, h2, h3, h4⟩ := fd_3k h
    have e := Nat.eq_of_beq_eq_true h4
    subst e
    exact fd_ok (fd_dec (fd_o182 h1 h2 h3)) rfl
  | invokespecial n =>
    have h : fd_3 (b.data.toList.drop p) 183 (fun y w => Nat.beq (y * 256 + w) n) = true := h
    obtain ⟨y, w, h1, h2, h3, h4⟩ := fd_3k h
    have e := Nat.eq_of_beq_eq_true h4
    subst e
    exact fd_ok (fd_dec (fd_o183 h1 h2 h3)) rfl
  | invokestatic n =>
    have h : fd_3 (b.data.toList.drop p) 184 (fun y w => Nat.beq (y * 256 + w) n) = true := h
    obtain ⟨y, w, h1, h2, h3, h4⟩ := fd_3k h
    have e := Nat.eq_of_beq_eq_true h4
    subst e
    exact fd_ok (fd_dec (fd_o184 h1 h2 h3)) rfl
  | ldc_w n =>
    have h : fd_3 (b.data.toList.drop p) 19 (fun y w => Nat.beq (y * 256 + w) n) = true := h
    obtain ⟨y, w, h1, h2, h3, h4⟩ := fd_3k h
    have e := Nat.eq_of_beq_eq_true h4
    subst e
    exact fd_ok (fd_dec (fd_o19 h1 h2 h3)) rfl
  | ldc2_w n =>
    have h : fd_3 (b.data.toList.drop p) 20 (fun y w => Nat.beq (y * 256 + w) n) = true := h
    obtain ⟨y, w, h1, h2, h3, h4⟩ := fd_3k h
    have e := Nat.eq_of_beq_eq_true h4
    subst e
    exact fd_ok (fd_dec (fd_o20 h1 h2 h3)) rfl
  | getstatic n =>
    have h : fd_3 (b.data.toList.drop p) 178 (fun y w => Nat.beq (y * 256 + w) n) = true := h
    obtain ⟨y, w, h1, h2, h3, h4⟩ := fd_3k h
    have e := Nat.eq_of_beq_eq_true h4
    subst e
    exact fd_ok (fd_dec (fd_o178 h1 h2 h3)) rfl
  | new n =>
    have h : fd_3 (b.data.toList.drop p) 187 (fun y w => Nat.beq (y * 256 + w) n) = true := h
    obtain ⟨y, w, h1, h2, h3, h4⟩ := fd_3k h
    have e := Nat.eq_of_beq_eq_true h4
    subst e
    exact fd_ok (fd_dec (fd_o187 h1 h2 h3)) rfl
  | _ => exact h
def fd_f (l : List UInt8) (k : List UInt8 → Bool) : Bool := match l with
  | [] => false
  | x :: t => k (x :: t)
def fd_go (b : ByteArray) : List (Nat × Instr) → Nat → List UInt8 → Bool
  | [], _, _ => true
  | q :: r, c, l => Nat.ble c q.1 && fd_f (l.drop (q.1 - c)) (fun l' => fd_m b q.1 l' q.2 && fd_go b r q.1 l')
theorem fd_gok : ∀ {qs : List (Nat × Instr)} {c : Nat}, fd_go b qs c (b.data.toList.drop c) = true → ∀ q ∈ qs, pw_okq b q = true := by
  intro qs
  induction qs with
  | nil => intro c _ q hq; cases hq
  | cons q r ih =>
    intro c h q' hq'
    have h : (Nat.ble c q.1 && fd_f ((b.data.toList.drop c).drop (q.1 - c)) (fun l' => fd_m b q.1 l' q.2 && fd_go b r q.1 l')) = true := h
    rw [Bool.and_eq_true, List.drop_drop] at h
    have h1 : c ≤ q.1 := Nat.le_of_ble_eq_true h.1
    have e : c + (q.1 - c) = q.1 := by omega
    rw [e] at h
    have h2 := h.2
    have h3 : (fd_m b q.1 (b.data.toList.drop q.1) q.2 && fd_go b r q.1 (b.data.toList.drop q.1)) = true := by
      generalize b.data.toList.drop q.1 = l at h2
      match l, h2 with
      | x :: t, h2 => exact h2
    rw [Bool.and_eq_true] at h3
    rcases List.mem_cons.mp hq' with rfl | hq'
    · exact fd_mk h3.1
    · exact ih h3.2 q' hq'
theorem fd_all {qs : List (Nat × Instr)} (h : fd_go b qs 0 b.data.toList = true) : qs.all (pw_okq b) = true := List.all_eq_true.mpr (fd_gok (c := 0) h)
end FD
end
section
def pw_okd (mi : Nat) : Bool := (am_g2 pw_code_l [] mi).all (pw_okq (am_g2 pw_cc_l ByteArray.empty mi))
def pw_fdd (mi : Nat) : Bool := fd_go (am_g2 pw_cc_l ByteArray.empty mi) (am_g2 pw_code_l [] mi) 0 (am_g2 pw_cc_l ByteArray.empty mi).data.toList
theorem pw_fdo {mi : Nat} (h : pw_fdd mi = true) : pw_okd mi = true := fd_all h
set_option maxRecDepth 1000000 in
theorem pw_okd_0 : (List.range' 0 1).all pw_fdd = true := by decide +kernel
set_option maxRecDepth 1000000 in
theorem pw_okd_1 : (List.range' 1 10).all pw_fdd = true := by decide +kernel
set_option maxRecDepth 1000000 in
theorem pw_okd_11 : (List.range' 11 10).all pw_fdd = true := by decide +kernel
set_option maxRecDepth 1000000 in
theorem pw_okd_21 : (List.range' 21 10).all pw_fdd = true := by decide +kernel
set_option maxRecDepth 1000000 in
theorem pw_okd_31 : (List.range' 31 10).all pw_fdd = true := by decide +kernel
set_option maxRecDepth 1000000 in
theorem pw_okd_41 : (List.range' 41 10).all pw_fdd = true := by decide +kernel
set_option maxRecDepth 1000000 in
theorem pw_okd_51 : (List.range' 51 10).all pw_fdd = true := by decide +kernel
set_option maxRecDepth 1000000 in
theorem pw_okd_61 : (List.range' 61 10).all pw_fdd = true := by decide +kernel
set_option maxRecDepth 1000000 in
theorem pw_okd_71 : (List.range' 71 10).all pw_fdd = true := by decide +kernel
set_option maxRecDepth 1000000 in
theorem pw_okd_81 : (List.range' 81 10).all pw_fdd = true := by decide +kernel
set_option maxRecDepth 1000000 in
theorem pw_okd_91 : (List.range' 91 10).all pw_fdd = true := by decide +kernel
set_option maxRecDepth 1000000 in
theorem pw_okd_101 : (List.range' 101 10).all pw_fdd = true := by decide +kernel
set_option maxRecDepth 1000000 in
theorem pw_okd_111 : (List.range' 111 10).all pw_fdd = true := by decide +kernel
set_option maxRecDepth 1000000 in
theorem pw_okd_121 : (List.range' 121 10).all pw_fdd = true := by decide +kernel
set_option maxRecDepth 1000000 in
theorem pw_okd_131 : (List.range' 131 10).all pw_fdd = true := by decide +kernel
set_option maxRecDepth 1000000 in
theorem pw_okd_141 : (List.range' 141 10).all pw_fdd = true := by decide +kernel
set_option maxRecDepth 1000000 in
theorem pw_okd_151 : (List.range' 151 10).all pw_fdd = true := by decide +kernel
set_option maxRecDepth 1000000 in
theorem pw_okd_161 : (List.range' 161 10).all pw_fdd = true := by decide +kernel
set_option maxRecDepth 1000000 in
theorem pw_okd_171 : (List.range' 171 10).all pw_fdd = true := by decide +kernel
set_option maxRecDepth 1000000 in
theorem pw_okd_181 : (List.range' 181 10).all pw_fdd = true := by decide +kernel
set_option maxRecDepth 1000000 in
theorem pw_okd_191 : (List.range' 191 10).all pw_fdd = true := by decide +kernel
set_option maxRecDepth 1000000 in
theorem pw_okd_201 : (List.range' 201 10).all pw_fdd = true := by decide +kernel
set_option maxRecDepth 1000000 in
theorem pw_okd_211 : (List.range' 211 10).all pw_fdd = true := by decide +kernel
set_option maxRecDepth 1000000 in
theorem pw_okd_221 : (List.range' 221 10).all pw_fdd = true := by decide +kernel
set_option maxRecDepth 1000000 in
theorem pw_okd_231 : (List.range' 231 10).all pw_fdd = true := by decide +kernel
set_option maxRecDepth 1000000 in
theorem pw_okd_241 : (List.range' 241 10).all pw_fdd = true := by decide +kernel
set_option maxRecDepth 1000000 in
theorem pw_okd_251 : (List.range' 251 10).all pw_fdd = true := by decide +kernel
set_option maxRecDepth 1000000 in
theorem pw_okd_261 : (List.range' 261 10).all pw_fdd = true := by decide +kernel
set_option maxRecDepth 1000000 in
theorem pw_okd_271 : (List.range' 271 10).all pw_fdd = true := by decide +kernel
set_option maxRecDepth 1000000 in
theorem pw_okd_281 : (List.range' 281 10).all pw_fdd = true := by decide +kernel
set_option maxRecDepth 1000000 in
theorem pw_okd_291 : (List.range' 291 10).all pw_fdd = true := by decide +kernel
set_option maxRecDepth 1000000 in
theorem pw_okd_301 : (List.range' 301 10).all pw_fdd = true := by decide +kernel
set_option maxRecDepth 1000000 in
theorem pw_okd_311 : (List.range' 311 10).all pw_fdd = true := by decide +kernel
set_option maxRecDepth 1000000 in
theorem pw_okd_321 : (List.range' 321 10).all pw_fdd = true := by decide +kernel
set_option maxRecDepth 1000000 in
theorem pw_okd_331 : (List.range' 331 8).all pw_fdd = true := by decide +kernel
theorem am_g2_out {α : Type} (l : List (List α)) (d : α) {k : Nat} (h : 18 * l.length ≤ k) : am_g2 l d k = d := by
  unfold am_g2
  have h1 : l.getD (k / 18) [] = [] := by
    rw [List.getD_eq_getElem?_getD, List.getElem?_eq_none (by omega)]
    rfl
  rw [h1]
  rfl
theorem pw_rng {f : Nat → Bool} {a n k : Nat} (h : (List.range' a n).all f = true) (h1 : a ≤ k) (h2 : k < a + n) : f k = true := List.all_eq_true.mp h k (List.mem_range'_1.mpr ⟨h1, h2⟩)
theorem pw_okd_all {mi : Nat} (h : mi < 339) : pw_okd mi = true := by
  by_cases h0 : mi < 1
  · exact pw_fdo (pw_rng pw_okd_0 (by omega) h0)
  by_cases h1 : mi < 11
  · exact pw_fdo (pw_rng pw_okd_1 (by omega) h1)
  by_cases h11 : mi < 21
  · exact pw_fdo (pw_rng pw_okd_11 (by omega) h11)
  by_cases h21 : mi < 31
  · exact pw_fdo (pw_rng pw_okd_21 (by omega) h21)
  by_cases h31 : mi < 41
  · exact pw_fdo (pw_rng pw_okd_31 (by omega) h31)
  by_cases h41 : mi < 51
  · exact pw_fdo (pw_rng pw_okd_41 (by omega) h41)
  by_cases h51 : mi < 61
  · exact pw_fdo (pw_rng pw_okd_51 (by omega) h51)
  by_cases h61 : mi < 71
  · exact pw_fdo (pw_rng pw_okd_61 (by omega) h61)
  by_cases h71 : mi < 81
  · exact pw_fdo (pw_rng pw_okd_71 (by omega) h71)
  by_cases h81 : mi < 91
  · exact pw_fdo (pw_rng pw_okd_81 (by omega) h81)
  by_cases h91 : mi < 101
  · exact pw_fdo (pw_rng pw_okd_91 (by omega) h91)
  by_cases h101 : mi < 111
  · exact pw_fdo (pw_rng pw_okd_101 (by omega) h101)
  by_cases h111 : mi < 121
  · exact pw_fdo (pw_rng pw_okd_111 (by omega) h111)
  by_cases h121 : mi < 131
  · exact pw_fdo (pw_rng pw_okd_121 (by omega) h121)
  by_cases h131 : mi < 141
  · exact pw_fdo (pw_rng pw_okd_131 (by omega) h131)
  by_cases h141 : mi < 151
  · exact pw_fdo (pw_rng pw_okd_141 (by omega) h141)
  by_cases h151 : mi < 161
  · exact pw_fdo (pw_rng pw_okd_151 (by omega) h151)
  by_cases h161 : mi < 171
  · exact pw_fdo (pw_rng pw_okd_161 (by omega) h161)
  by_cases h171 : mi < 181
  · exact pw_fdo (pw_rng pw_okd_171 (by omega) h171)
  by_cases h181 : mi < 191
  · exact pw_fdo (pw_rng pw_okd_181 (by omega) h181)
  by_cases h191 : mi < 201
  · exact pw_fdo (pw_rng pw_okd_191 (by omega) h191)
  by_cases h201 : mi < 211
  · exact pw_fdo (pw_rng pw_okd_201 (by omega) h201)
  by_cases h211 : mi < 221
  · exact pw_fdo (pw_rng pw_okd_211 (by omega) h211)
  by_cases h221 : mi < 231
  · exact pw_fdo (pw_rng pw_okd_221 (by omega) h221)
  by_cases h231 : mi < 241
  · exact pw_fdo (pw_rng pw_okd_231 (by omega) h231)
  by_cases h241 : mi < 251
  · exact pw_fdo (pw_rng pw_okd_241 (by omega) h241)
  by_cases h251 : mi < 261
  · exact pw_fdo (pw_rng pw_okd_251 (by omega) h251)
  by_cases h261 : mi < 271
  · exact pw_fdo (pw_rng pw_okd_261 (by omega) h261)
  by_cases h271 : mi < 281
  · exact pw_fdo (pw_rng pw_okd_271 (by omega) h271)
  by_cases h281 : mi < 291
  · exact pw_fdo (pw_rng pw_okd_281 (by omega) h281)
  by_cases h291 : mi < 301
  · exact pw_fdo (pw_rng pw_okd_291 (by omega) h291)
  by_cases h301 : mi < 311
  · exact pw_fdo (pw_rng pw_okd_301 (by omega) h301)
  by_cases h311 : mi < 321
  · exact pw_fdo (pw_rng pw_okd_311 (by omega) h311)
  by_cases h321 : mi < 331
  · exact pw_fdo (pw_rng pw_okd_321 (by omega) h321)
  by_cases h331 : mi < 339
  · exact pw_fdo (pw_rng pw_okd_331 (by omega) h331)
  omega
theorem pw_code_lt {mi pc : Nat} {ins : Instr} (h : pw_code mi pc = some ins) : mi < 339 := by
  by_cases hm : mi < 339
  · exact hm
  · by_cases ht : 342 ≤ mi
    · unfold pw_code at h
      rw [am_g2_out pw_code_l [] (show 18 * pw_code_l.length ≤ mi from ht)] at h
      cases h
    · have hc : mi = 339 ∨ mi = 340 ∨ mi = 341 := by omega
      rcases hc with rfl | rfl | rfl <;> cases h
theorem pw_G1 (L : Nat) (xs : Nat → Int32) : am_G1 (pw_P L xs) pw_B := by
  intro mi pc ins h
  replace h : pw_code mi pc = some ins := h
  have hl := pw_code_lt h
  have hk := pw_okd_all hl
  unfold pw_okd at hk
  have hq := List.all_eq_true.mp hk _ (am_fdm h)
  unfold pw_okq at hq
  dsimp only at hq
  split at hq
  · rename_i i n hd
    simp only [Bool.and_eq_true, Bool.or_eq_true, decide_eq_true_eq] at hq
    obtain ⟨rfl, hn⟩ := hq
    exact ⟨n, hd, hn.imp Nat.eq_of_beq_eq_true Nat.eq_of_beq_eq_true⟩
  · cases hq
end
