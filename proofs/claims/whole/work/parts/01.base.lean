-- ===== PART A: goes FIRST, ahead of the names: the tables' words, and 'selects' of the private methods out of them =====
/-- a private method of a class that the tables say can be made, by its rows of tables_1 -/
def lw_okq (q : MethodName × Nat) : Prop := (q.1.cls ≠ "java/lang/invoke/MethodHandle" ∧ q.1.cls ≠ "java/lang/invoke/VarHandle") ∧ Cond.instantiable q.1.cls q.2 ∈ tables_1 ∧ Cond.privateMethod q.1 ∈ tables_1 ∧ Cond.instanceMethod q.1 ∈ tables_1
theorem lw_p0 : lw_okq (⟨"ParlourLeaves$Tape", "readRun", "()V"⟩, 11) := ⟨⟨by decide +kernel, by decide +kernel⟩, List.mem_of_getElem? (i := 39) (by decide +kernel), List.mem_of_getElem? (i := 592) (by decide +kernel), List.mem_of_getElem? (i := 593) (by decide +kernel)⟩
theorem lw_p1 : lw_okq (⟨"ParlourLeaves$HouseText", "readLine", "()Z"⟩, 4) := ⟨⟨by decide +kernel, by decide +kernel⟩, List.mem_of_getElem? (i := 347) (by decide +kernel), List.mem_of_getElem? (i := 596) (by decide +kernel), List.mem_of_getElem? (i := 597) (by decide +kernel)⟩
theorem lw_p2 : lw_okq (⟨"ParlourLeaves$HouseText", "readNamed", "(I)Z"⟩, 4) := ⟨⟨by decide +kernel, by decide +kernel⟩, List.mem_of_getElem? (i := 347) (by decide +kernel), List.mem_of_getElem? (i := 600) (by decide +kernel), List.mem_of_getElem? (i := 601) (by decide +kernel)⟩
theorem lw_p3 : lw_okq (⟨"ParlourLeaves$HouseText", "readPlant", "()Z"⟩, 4) := ⟨⟨by decide +kernel, by decide +kernel⟩, List.mem_of_getElem? (i := 347) (by decide +kernel), List.mem_of_getElem? (i := 627) (by decide +kernel), List.mem_of_getElem? (i := 628) (by decide +kernel)⟩
theorem lw_p4 : lw_okq (⟨"ParlourLeaves$HouseText", "readSight", "()Z"⟩, 4) := ⟨⟨by decide +kernel, by decide +kernel⟩, List.mem_of_getElem? (i := 347) (by decide +kernel), List.mem_of_getElem? (i := 641) (by decide +kernel), List.mem_of_getElem? (i := 642) (by decide +kernel)⟩
theorem lw_p5 : lw_okq (⟨"ParlourLeaves$HouseText", "readDusty", "()Z"⟩, 4) := ⟨⟨by decide +kernel, by decide +kernel⟩, List.mem_of_getElem? (i := 347) (by decide +kernel), List.mem_of_getElem? (i := 653) (by decide +kernel), List.mem_of_getElem? (i := 654) (by decide +kernel)⟩
theorem lw_p6 : lw_okq (⟨"ParlourLeaves$HouseText", "readProof", "()Z"⟩, 4) := ⟨⟨by decide +kernel, by decide +kernel⟩, List.mem_of_getElem? (i := 347) (by decide +kernel), List.mem_of_getElem? (i := 657) (by decide +kernel), List.mem_of_getElem? (i := 658) (by decide +kernel)⟩
theorem lw_p7 : lw_okq (⟨"ParlourLeaves", "endReading", "()V"⟩, 17) := ⟨⟨by decide +kernel, by decide +kernel⟩, List.mem_of_getElem? (i := 31) (by decide +kernel), List.mem_of_getElem? (i := 665) (by decide +kernel), List.mem_of_getElem? (i := 666) (by decide +kernel)⟩
theorem lw_p8 : lw_okq (⟨"ParlourLeaves$Foresight", "reachOfAll", "(I)I"⟩, 5) := ⟨⟨by decide +kernel, by decide +kernel⟩, List.mem_of_getElem? (i := 415) (by decide +kernel), List.mem_of_getElem? (i := 930) (by decide +kernel), List.mem_of_getElem? (i := 931) (by decide +kernel)⟩
theorem lw_p9 : lw_okq (⟨"ParlourLeaves$Way", "keepWay", "(I)V"⟩, 5) := ⟨⟨by decide +kernel, by decide +kernel⟩, List.mem_of_getElem? (i := 440) (by decide +kernel), List.mem_of_getElem? (i := 955) (by decide +kernel), List.mem_of_getElem? (i := 956) (by decide +kernel)⟩
theorem lw_p10 : lw_okq (⟨"ParlourLeaves$Foresight", "familysAnswer", "(II)I"⟩, 5) := ⟨⟨by decide +kernel, by decide +kernel⟩, List.mem_of_getElem? (i := 415) (by decide +kernel), List.mem_of_getElem? (i := 972) (by decide +kernel), List.mem_of_getElem? (i := 973) (by decide +kernel)⟩
theorem lw_p11 : lw_okq (⟨"ParlourLeaves$Foresight", "plantsSeeing", "(III)I"⟩, 5) := ⟨⟨by decide +kernel, by decide +kernel⟩, List.mem_of_getElem? (i := 415) (by decide +kernel), List.mem_of_getElem? (i := 976) (by decide +kernel), List.mem_of_getElem? (i := 977) (by decide +kernel)⟩
theorem lw_p12 : lw_okq (⟨"ParlourLeaves$Draws", "liveTurn", "(LParlourLeaves$Life;I)V"⟩, 1) := ⟨⟨by decide +kernel, by decide +kernel⟩, List.mem_of_getElem? (i := 465) (by decide +kernel), List.mem_of_getElem? (i := 1187) (by decide +kernel), List.mem_of_getElem? (i := 1188) (by decide +kernel)⟩
theorem lw_p13 : lw_okq (⟨"ParlourLeaves$Draws", "draw", "(I)I"⟩, 1) := ⟨⟨by decide +kernel, by decide +kernel⟩, List.mem_of_getElem? (i := 465) (by decide +kernel), List.mem_of_getElem? (i := 1191) (by decide +kernel), List.mem_of_getElem? (i := 1192) (by decide +kernel)⟩
theorem lw_p14 : lw_okq (⟨"ParlourLeaves$BookText", "readLine", "()Z"⟩, 11) := ⟨⟨by decide +kernel, by decide +kernel⟩, List.mem_of_getElem? (i := 369) (by decide +kernel), List.mem_of_getElem? (i := 1219) (by decide +kernel), List.mem_of_getElem? (i := 1220) (by decide +kernel)⟩
theorem lw_p15 : lw_okq (⟨"ParlourLeaves$BookText", "readDoes", "()Z"⟩, 11) := ⟨⟨by decide +kernel, by decide +kernel⟩, List.mem_of_getElem? (i := 369) (by decide +kernel), List.mem_of_getElem? (i := 1223) (by decide +kernel), List.mem_of_getElem? (i := 1224) (by decide +kernel)⟩
def lw_privs_1 : List (MethodName × Nat) := [(⟨"ParlourLeaves$Tape", "readRun", "()V"⟩, 11), (⟨"ParlourLeaves$HouseText", "readLine", "()Z"⟩, 4), (⟨"ParlourLeaves$HouseText", "readNamed", "(I)Z"⟩, 4), (⟨"ParlourLeaves$HouseText", "readPlant", "()Z"⟩, 4), (⟨"ParlourLeaves$HouseText", "readSight", "()Z"⟩, 4), (⟨"ParlourLeaves$HouseText", "readDusty", "()Z"⟩, 4), (⟨"ParlourLeaves$HouseText", "readProof", "()Z"⟩, 4), (⟨"ParlourLeaves", "endReading", "()V"⟩, 17), (⟨"ParlourLeaves$Foresight", "reachOfAll", "(I)I"⟩, 5), (⟨"ParlourLeaves$Way", "keepWay", "(I)V"⟩, 5), (⟨"ParlourLeaves$Foresight", "familysAnswer", "(II)I"⟩, 5), (⟨"ParlourLeaves$Foresight", "plantsSeeing", "(III)I"⟩, 5), (⟨"ParlourLeaves$Draws", "liveTurn", "(LParlourLeaves$Life;I)V"⟩, 1), (⟨"ParlourLeaves$Draws", "draw", "(I)I"⟩, 1), (⟨"ParlourLeaves$BookText", "readLine", "()Z"⟩, 11), (⟨"ParlourLeaves$BookText", "readDoes", "()Z"⟩, 11)]
theorem lw_r1 : ∀ q ∈ lw_privs_1, lw_okq q := List.forall_mem_cons.mpr ⟨lw_p0, List.forall_mem_cons.mpr ⟨lw_p1, List.forall_mem_cons.mpr ⟨lw_p2, List.forall_mem_cons.mpr ⟨lw_p3, List.forall_mem_cons.mpr ⟨lw_p4, List.forall_mem_cons.mpr ⟨lw_p5, List.forall_mem_cons.mpr ⟨lw_p6, List.forall_mem_cons.mpr ⟨lw_p7, List.forall_mem_cons.mpr ⟨lw_p8, List.forall_mem_cons.mpr ⟨lw_p9, List.forall_mem_cons.mpr ⟨lw_p10, List.forall_mem_cons.mpr ⟨lw_p11, List.forall_mem_cons.mpr ⟨lw_p12, List.forall_mem_cons.mpr ⟨lw_p13, List.forall_mem_cons.mpr ⟨lw_p14, List.forall_mem_cons.mpr ⟨lw_p15, fun _ h => absurd h List.not_mem_nil⟩⟩⟩⟩⟩⟩⟩⟩⟩⟩⟩⟩⟩⟩⟩⟩
theorem lw_p16 : lw_okq (⟨"ParlourLeaves$BookText", "addLine", "(IIII)Z"⟩, 11) := ⟨⟨by decide +kernel, by decide +kernel⟩, List.mem_of_getElem? (i := 369) (by decide +kernel), List.mem_of_getElem? (i := 1230) (by decide +kernel), List.mem_of_getElem? (i := 1231) (by decide +kernel)⟩
theorem lw_p17 : lw_okq (⟨"ParlourLeaves$BookText", "readSponge", "()Z"⟩, 11) := ⟨⟨by decide +kernel, by decide +kernel⟩, List.mem_of_getElem? (i := 369) (by decide +kernel), List.mem_of_getElem? (i := 1234) (by decide +kernel), List.mem_of_getElem? (i := 1235) (by decide +kernel)⟩
theorem lw_p18 : lw_okq (⟨"ParlourLeaves$BookText", "readCarry", "()Z"⟩, 11) := ⟨⟨by decide +kernel, by decide +kernel⟩, List.mem_of_getElem? (i := 369) (by decide +kernel), List.mem_of_getElem? (i := 1240) (by decide +kernel), List.mem_of_getElem? (i := 1241) (by decide +kernel)⟩
theorem lw_p19 : lw_okq (⟨"ParlourLeaves$BookText", "readDay", "()Z"⟩, 11) := ⟨⟨by decide +kernel, by decide +kernel⟩, List.mem_of_getElem? (i := 369) (by decide +kernel), List.mem_of_getElem? (i := 1244) (by decide +kernel), List.mem_of_getElem? (i := 1245) (by decide +kernel)⟩
theorem lw_p20 : lw_okq (⟨"ParlourLeaves$BookText", "liveLine", "(LParlourLeaves$Life;I)I"⟩, 11) := ⟨⟨by decide +kernel, by decide +kernel⟩, List.mem_of_getElem? (i := 369) (by decide +kernel), List.mem_of_getElem? (i := 1253) (by decide +kernel), List.mem_of_getElem? (i := 1254) (by decide +kernel)⟩
theorem lw_p21 : lw_okq (⟨"ParlourLeaves$BookText", "liveDoes", "(LParlourLeaves$Life;I)I"⟩, 11) := ⟨⟨by decide +kernel, by decide +kernel⟩, List.mem_of_getElem? (i := 369) (by decide +kernel), List.mem_of_getElem? (i := 1257) (by decide +kernel), List.mem_of_getElem? (i := 1258) (by decide +kernel)⟩
theorem lw_p22 : lw_okq (⟨"ParlourLeaves$Sentence", "readCond", "(LParlourLeaves$Tape;LParlourLeaves$House;I)Z"⟩, 6) := ⟨⟨by decide +kernel, by decide +kernel⟩, List.mem_of_getElem? (i := 304) (by decide +kernel), List.mem_of_getElem? (i := 1293) (by decide +kernel), List.mem_of_getElem? (i := 1294) (by decide +kernel)⟩
theorem lw_p23 : lw_okq (⟨"ParlourLeaves$Sentence", "readJoined", "(LParlourLeaves$Tape;LParlourLeaves$House;I)Z"⟩, 6) := ⟨⟨by decide +kernel, by decide +kernel⟩, List.mem_of_getElem? (i := 304) (by decide +kernel), List.mem_of_getElem? (i := 1297) (by decide +kernel), List.mem_of_getElem? (i := 1298) (by decide +kernel)⟩
theorem lw_p24 : lw_okq (⟨"ParlourLeaves$Sentence", "readOne", "(LParlourLeaves$Tape;LParlourLeaves$House;I)Z"⟩, 6) := ⟨⟨by decide +kernel, by decide +kernel⟩, List.mem_of_getElem? (i := 304) (by decide +kernel), List.mem_of_getElem? (i := 1301) (by decide +kernel), List.mem_of_getElem? (i := 1302) (by decide +kernel)⟩
theorem lw_p25 : lw_okq (⟨"ParlourLeaves$Sentence", "add", "(III)Z"⟩, 6) := ⟨⟨by decide +kernel, by decide +kernel⟩, List.mem_of_getElem? (i := 304) (by decide +kernel), List.mem_of_getElem? (i := 1310) (by decide +kernel), List.mem_of_getElem? (i := 1311) (by decide +kernel)⟩
theorem lw_p26 : lw_okq (⟨"ParlourLeaves$Sentence", "plantsThat", "(LParlourLeaves$Life;I)I"⟩, 6) := ⟨⟨by decide +kernel, by decide +kernel⟩, List.mem_of_getElem? (i := 304) (by decide +kernel), List.mem_of_getElem? (i := 1336) (by decide +kernel), List.mem_of_getElem? (i := 1337) (by decide +kernel)⟩
theorem lw_p27 : lw_okq (⟨"ParlourLeaves$Sentence", "isSo", "(LParlourLeaves$Life;II)Z"⟩, 6) := ⟨⟨by decide +kernel, by decide +kernel⟩, List.mem_of_getElem? (i := 304) (by decide +kernel), List.mem_of_getElem? (i := 1340) (by decide +kernel), List.mem_of_getElem? (i := 1341) (by decide +kernel)⟩
theorem lw_p28 : lw_okq (⟨"ParlourLeaves$Sentence", "compares", "(II)Z"⟩, 6) := ⟨⟨by decide +kernel, by decide +kernel⟩, List.mem_of_getElem? (i := 304) (by decide +kernel), List.mem_of_getElem? (i := 1350) (by decide +kernel), List.mem_of_getElem? (i := 1351) (by decide +kernel)⟩
theorem lw_p29 : lw_okq (⟨"java/lang/Throwable", "fillInStackTrace", "(I)Ljava/lang/Throwable;"⟩, 6) := ⟨⟨by decide +kernel, by decide +kernel⟩, List.mem_of_getElem? (i := 1421) (by decide +kernel), List.mem_of_getElem? (i := 1419) (by decide +kernel), List.mem_of_getElem? (i := 1420) (by decide +kernel)⟩
theorem lw_p30 : lw_okq (⟨"ParlourLeavesModel", "come", "(I)V"⟩, 45) := ⟨⟨by decide +kernel, by decide +kernel⟩, List.mem_of_getElem? (i := 1470) (by decide +kernel), List.mem_of_getElem? (i := 1468) (by decide +kernel), List.mem_of_getElem? (i := 1469) (by decide +kernel)⟩
theorem lw_p31 : lw_okq (⟨"ParlourLeavesModel", "startSo", "()V"⟩, 45) := ⟨⟨by decide +kernel, by decide +kernel⟩, List.mem_of_getElem? (i := 1470) (by decide +kernel), List.mem_of_getElem? (i := 1482) (by decide +kernel), List.mem_of_getElem? (i := 1483) (by decide +kernel)⟩
def lw_privs_2 : List (MethodName × Nat) := [(⟨"ParlourLeaves$BookText", "addLine", "(IIII)Z"⟩, 11), (⟨"ParlourLeaves$BookText", "readSponge", "()Z"⟩, 11), (⟨"ParlourLeaves$BookText", "readCarry", "()Z"⟩, 11), (⟨"ParlourLeaves$BookText", "readDay", "()Z"⟩, 11), (⟨"ParlourLeaves$BookText", "liveLine", "(LParlourLeaves$Life;I)I"⟩, 11), (⟨"ParlourLeaves$BookText", "liveDoes", "(LParlourLeaves$Life;I)I"⟩, 11), (⟨"ParlourLeaves$Sentence", "readCond", "(LParlourLeaves$Tape;LParlourLeaves$House;I)Z"⟩, 6), (⟨"ParlourLeaves$Sentence", "readJoined", "(LParlourLeaves$Tape;LParlourLeaves$House;I)Z"⟩, 6), (⟨"ParlourLeaves$Sentence", "readOne", "(LParlourLeaves$Tape;LParlourLeaves$House;I)Z"⟩, 6), (⟨"ParlourLeaves$Sentence", "add", "(III)Z"⟩, 6), (⟨"ParlourLeaves$Sentence", "plantsThat", "(LParlourLeaves$Life;I)I"⟩, 6), (⟨"ParlourLeaves$Sentence", "isSo", "(LParlourLeaves$Life;II)Z"⟩, 6), (⟨"ParlourLeaves$Sentence", "compares", "(II)Z"⟩, 6), (⟨"java/lang/Throwable", "fillInStackTrace", "(I)Ljava/lang/Throwable;"⟩, 6), (⟨"ParlourLeavesModel", "come", "(I)V"⟩, 45), (⟨"ParlourLeavesModel", "startSo", "()V"⟩, 45)]
theorem lw_r2 : ∀ q ∈ lw_privs_2, lw_okq q := List.forall_mem_cons.mpr ⟨lw_p16, List.forall_mem_cons.mpr ⟨lw_p17, List.forall_mem_cons.mpr ⟨lw_p18, List.forall_mem_cons.mpr ⟨lw_p19, List.forall_mem_cons.mpr ⟨lw_p20, List.forall_mem_cons.mpr ⟨lw_p21, List.forall_mem_cons.mpr ⟨lw_p22, List.forall_mem_cons.mpr ⟨lw_p23, List.forall_mem_cons.mpr ⟨lw_p24, List.forall_mem_cons.mpr ⟨lw_p25, List.forall_mem_cons.mpr ⟨lw_p26, List.forall_mem_cons.mpr ⟨lw_p27, List.forall_mem_cons.mpr ⟨lw_p28, List.forall_mem_cons.mpr ⟨lw_p29, List.forall_mem_cons.mpr ⟨lw_p30, List.forall_mem_cons.mpr ⟨lw_p31, fun _ h => absurd h List.not_mem_nil⟩⟩⟩⟩⟩⟩⟩⟩⟩⟩⟩⟩⟩⟩⟩⟩
theorem lw_p32 : lw_okq (⟨"ParlourLeavesModel", "begin", "(I)V"⟩, 45) := ⟨⟨by decide +kernel, by decide +kernel⟩, List.mem_of_getElem? (i := 1470) (by decide +kernel), List.mem_of_getElem? (i := 1626) (by decide +kernel), List.mem_of_getElem? (i := 1627) (by decide +kernel)⟩
theorem lw_p33 : lw_okq (⟨"ParlourLeavesModel", "take", "()I"⟩, 45) := ⟨⟨by decide +kernel, by decide +kernel⟩, List.mem_of_getElem? (i := 1470) (by decide +kernel), List.mem_of_getElem? (i := 1630) (by decide +kernel), List.mem_of_getElem? (i := 1631) (by decide +kernel)⟩
theorem lw_p34 : lw_okq (⟨"ParlourLeavesModel", "go", "()V"⟩, 45) := ⟨⟨by decide +kernel, by decide +kernel⟩, List.mem_of_getElem? (i := 1470) (by decide +kernel), List.mem_of_getElem? (i := 1634) (by decide +kernel), List.mem_of_getElem? (i := 1635) (by decide +kernel)⟩
theorem lw_p35 : lw_okq (⟨"ParlourLeavesModel", "tapeAt", "(I)I"⟩, 45) := ⟨⟨by decide +kernel, by decide +kernel⟩, List.mem_of_getElem? (i := 1470) (by decide +kernel), List.mem_of_getElem? (i := 1644) (by decide +kernel), List.mem_of_getElem? (i := 1645) (by decide +kernel)⟩
theorem lw_p36 : lw_okq (⟨"ParlourLeavesModel", "readLine", "()Z"⟩, 45) := ⟨⟨by decide +kernel, by decide +kernel⟩, List.mem_of_getElem? (i := 1470) (by decide +kernel), List.mem_of_getElem? (i := 1650) (by decide +kernel), List.mem_of_getElem? (i := 1651) (by decide +kernel)⟩
theorem lw_p37 : lw_okq (⟨"ParlourLeavesModel", "isWord", "(I)Z"⟩, 45) := ⟨⟨by decide +kernel, by decide +kernel⟩, List.mem_of_getElem? (i := 1470) (by decide +kernel), List.mem_of_getElem? (i := 1654) (by decide +kernel), List.mem_of_getElem? (i := 1655) (by decide +kernel)⟩
theorem lw_p38 : lw_okq (⟨"ParlourLeavesModel", "readPlain", "(III)Z"⟩, 45) := ⟨⟨by decide +kernel, by decide +kernel⟩, List.mem_of_getElem? (i := 1470) (by decide +kernel), List.mem_of_getElem? (i := 1664) (by decide +kernel), List.mem_of_getElem? (i := 1665) (by decide +kernel)⟩
theorem lw_p39 : lw_okq (⟨"ParlourLeavesModel", "readFirst", "(II)Z"⟩, 45) := ⟨⟨by decide +kernel, by decide +kernel⟩, List.mem_of_getElem? (i := 1470) (by decide +kernel), List.mem_of_getElem? (i := 1668) (by decide +kernel), List.mem_of_getElem? (i := 1669) (by decide +kernel)⟩
theorem lw_p40 : lw_okq (⟨"ParlourLeavesModel", "bad", "(I)Z"⟩, 45) := ⟨⟨by decide +kernel, by decide +kernel⟩, List.mem_of_getElem? (i := 1470) (by decide +kernel), List.mem_of_getElem? (i := 1672) (by decide +kernel), List.mem_of_getElem? (i := 1673) (by decide +kernel)⟩
theorem lw_p41 : lw_okq (⟨"ParlourLeavesModel", "readNew", "(I)Z"⟩, 45) := ⟨⟨by decide +kernel, by decide +kernel⟩, List.mem_of_getElem? (i := 1470) (by decide +kernel), List.mem_of_getElem? (i := 1676) (by decide +kernel), List.mem_of_getElem? (i := 1677) (by decide +kernel)⟩
theorem lw_p42 : lw_okq (⟨"ParlourLeavesModel", "isName", "()Z"⟩, 45) := ⟨⟨by decide +kernel, by decide +kernel⟩, List.mem_of_getElem? (i := 1470) (by decide +kernel), List.mem_of_getElem? (i := 1680) (by decide +kernel), List.mem_of_getElem? (i := 1681) (by decide +kernel)⟩
theorem lw_p43 : lw_okq (⟨"ParlourLeavesModel", "isTaken", "()Z"⟩, 45) := ⟨⟨by decide +kernel, by decide +kernel⟩, List.mem_of_getElem? (i := 1470) (by decide +kernel), List.mem_of_getElem? (i := 1684) (by decide +kernel), List.mem_of_getElem? (i := 1685) (by decide +kernel)⟩
theorem lw_p44 : lw_okq (⟨"ParlourLeavesModel", "readSight", "()Z"⟩, 45) := ⟨⟨by decide +kernel, by decide +kernel⟩, List.mem_of_getElem? (i := 1470) (by decide +kernel), List.mem_of_getElem? (i := 1691) (by decide +kernel), List.mem_of_getElem? (i := 1692) (by decide +kernel)⟩
theorem lw_p45 : lw_okq (⟨"ParlourLeavesModel", "isParlourHere", "()Z"⟩, 45) := ⟨⟨by decide +kernel, by decide +kernel⟩, List.mem_of_getElem? (i := 1470) (by decide +kernel), List.mem_of_getElem? (i := 1695) (by decide +kernel), List.mem_of_getElem? (i := 1696) (by decide +kernel)⟩
theorem lw_p46 : lw_okq (⟨"ParlourLeavesModel", "readPlant", "()Z"⟩, 45) := ⟨⟨by decide +kernel, by decide +kernel⟩, List.mem_of_getElem? (i := 1470) (by decide +kernel), List.mem_of_getElem? (i := 1702) (by decide +kernel), List.mem_of_getElem? (i := 1703) (by decide +kernel)⟩
theorem lw_p47 : lw_okq (⟨"ParlourLeavesModel", "put", "(IZ)Z"⟩, 45) := ⟨⟨by decide +kernel, by decide +kernel⟩, List.mem_of_getElem? (i := 1470) (by decide +kernel), List.mem_of_getElem? (i := 1706) (by decide +kernel), List.mem_of_getElem? (i := 1707) (by decide +kernel)⟩
def lw_privs_3 : List (MethodName × Nat) := [(⟨"ParlourLeavesModel", "begin", "(I)V"⟩, 45), (⟨"ParlourLeavesModel", "take", "()I"⟩, 45), (⟨"ParlourLeavesModel", "go", "()V"⟩, 45), (⟨"ParlourLeavesModel", "tapeAt", "(I)I"⟩, 45), (⟨"ParlourLeavesModel", "readLine", "()Z"⟩, 45), (⟨"ParlourLeavesModel", "isWord", "(I)Z"⟩, 45), (⟨"ParlourLeavesModel", "readPlain", "(III)Z"⟩, 45), (⟨"ParlourLeavesModel", "readFirst", "(II)Z"⟩, 45), (⟨"ParlourLeavesModel", "bad", "(I)Z"⟩, 45), (⟨"ParlourLeavesModel", "readNew", "(I)Z"⟩, 45), (⟨"ParlourLeavesModel", "isName", "()Z"⟩, 45), (⟨"ParlourLeavesModel", "isTaken", "()Z"⟩, 45), (⟨"ParlourLeavesModel", "readSight", "()Z"⟩, 45), (⟨"ParlourLeavesModel", "isParlourHere", "()Z"⟩, 45), (⟨"ParlourLeavesModel", "readPlant", "()Z"⟩, 45), (⟨"ParlourLeavesModel", "put", "(IZ)Z"⟩, 45)]
theorem lw_r3 : ∀ q ∈ lw_privs_3, lw_okq q := List.forall_mem_cons.mpr ⟨lw_p32, List.forall_mem_cons.mpr ⟨lw_p33, List.forall_mem_cons.mpr ⟨lw_p34, List.forall_mem_cons.mpr ⟨lw_p35, List.forall_mem_cons.mpr ⟨lw_p36, List.forall_mem_cons.mpr ⟨lw_p37, List.forall_mem_cons.mpr ⟨lw_p38, List.forall_mem_cons.mpr ⟨lw_p39, List.forall_mem_cons.mpr ⟨lw_p40, List.forall_mem_cons.mpr ⟨lw_p41, List.forall_mem_cons.mpr ⟨lw_p42, List.forall_mem_cons.mpr ⟨lw_p43, List.forall_mem_cons.mpr ⟨lw_p44, List.forall_mem_cons.mpr ⟨lw_p45, List.forall_mem_cons.mpr ⟨lw_p46, List.forall_mem_cons.mpr ⟨lw_p47, fun _ h => absurd h List.not_mem_nil⟩⟩⟩⟩⟩⟩⟩⟩⟩⟩⟩⟩⟩⟩⟩⟩
theorem lw_p48 : lw_okq (⟨"ParlourLeavesModel", "readNumber", "(II)Z"⟩, 45) := ⟨⟨by decide +kernel, by decide +kernel⟩, List.mem_of_getElem? (i := 1470) (by decide +kernel), List.mem_of_getElem? (i := 1710) (by decide +kernel), List.mem_of_getElem? (i := 1711) (by decide +kernel)⟩
theorem lw_p49 : lw_okq (⟨"ParlourLeavesModel", "readOnce", "(III)Z"⟩, 45) := ⟨⟨by decide +kernel, by decide +kernel⟩, List.mem_of_getElem? (i := 1470) (by decide +kernel), List.mem_of_getElem? (i := 1717) (by decide +kernel), List.mem_of_getElem? (i := 1718) (by decide +kernel)⟩
theorem lw_p50 : lw_okq (⟨"ParlourLeavesModel", "readEnd", "()Z"⟩, 45) := ⟨⟨by decide +kernel, by decide +kernel⟩, List.mem_of_getElem? (i := 1470) (by decide +kernel), List.mem_of_getElem? (i := 1721) (by decide +kernel), List.mem_of_getElem? (i := 1722) (by decide +kernel)⟩
theorem lw_p51 : lw_okq (⟨"ParlourLeavesModel", "isSign", "(I)Z"⟩, 45) := ⟨⟨by decide +kernel, by decide +kernel⟩, List.mem_of_getElem? (i := 1470) (by decide +kernel), List.mem_of_getElem? (i := 1725) (by decide +kernel), List.mem_of_getElem? (i := 1726) (by decide +kernel)⟩
theorem lw_p52 : lw_okq (⟨"ParlourLeavesModel", "isPlant", "(I)Z"⟩, 45) := ⟨⟨by decide +kernel, by decide +kernel⟩, List.mem_of_getElem? (i := 1470) (by decide +kernel), List.mem_of_getElem? (i := 1737) (by decide +kernel), List.mem_of_getElem? (i := 1738) (by decide +kernel)⟩
theorem lw_p53 : lw_okq (⟨"ParlourLeavesModel", "refuse", "()I"⟩, 45) := ⟨⟨by decide +kernel, by decide +kernel⟩, List.mem_of_getElem? (i := 1470) (by decide +kernel), List.mem_of_getElem? (i := 1741) (by decide +kernel), List.mem_of_getElem? (i := 1742) (by decide +kernel)⟩
theorem lw_p54 : lw_okq (⟨"ParlourLeavesModel", "isFern", "(I)Z"⟩, 45) := ⟨⟨by decide +kernel, by decide +kernel⟩, List.mem_of_getElem? (i := 1470) (by decide +kernel), List.mem_of_getElem? (i := 1745) (by decide +kernel), List.mem_of_getElem? (i := 1746) (by decide +kernel)⟩
theorem lw_p55 : lw_okq (⟨"ParlourLeavesModel", "seesOf", "(II)I"⟩, 45) := ⟨⟨by decide +kernel, by decide +kernel⟩, List.mem_of_getElem? (i := 1470) (by decide +kernel), List.mem_of_getElem? (i := 1749) (by decide +kernel), List.mem_of_getElem? (i := 1750) (by decide +kernel)⟩
theorem lw_p56 : lw_okq (⟨"ParlourLeavesModel", "around", "(I)I"⟩, 45) := ⟨⟨by decide +kernel, by decide +kernel⟩, List.mem_of_getElem? (i := 1470) (by decide +kernel), List.mem_of_getElem? (i := 1753) (by decide +kernel), List.mem_of_getElem? (i := 1754) (by decide +kernel)⟩
theorem lw_p57 : lw_okq (⟨"ParlourLeavesModel", "shownBy", "(IZ)I"⟩, 45) := ⟨⟨by decide +kernel, by decide +kernel⟩, List.mem_of_getElem? (i := 1470) (by decide +kernel), List.mem_of_getElem? (i := 1757) (by decide +kernel), List.mem_of_getElem? (i := 1758) (by decide +kernel)⟩
theorem lw_p58 : lw_okq (⟨"ParlourLeavesModel", "hasCome", "(II)Z"⟩, 45) := ⟨⟨by decide +kernel, by decide +kernel⟩, List.mem_of_getElem? (i := 1470) (by decide +kernel), List.mem_of_getElem? (i := 1761) (by decide +kernel), List.mem_of_getElem? (i := 1762) (by decide +kernel)⟩
theorem lw_p59 : lw_okq (⟨"ParlourLeavesModel", "leafOf", "(II)I"⟩, 45) := ⟨⟨by decide +kernel, by decide +kernel⟩, List.mem_of_getElem? (i := 1470) (by decide +kernel), List.mem_of_getElem? (i := 1765) (by decide +kernel), List.mem_of_getElem? (i := 1766) (by decide +kernel)⟩
theorem lw_p60 : lw_okq (⟨"ParlourLeavesModel", "willCome", "(II)Z"⟩, 45) := ⟨⟨by decide +kernel, by decide +kernel⟩, List.mem_of_getElem? (i := 1470) (by decide +kernel), List.mem_of_getElem? (i := 1769) (by decide +kernel), List.mem_of_getElem? (i := 1770) (by decide +kernel)⟩
theorem lw_p61 : lw_okq (⟨"ParlourLeavesModel", "isAct", "(I)Z"⟩, 45) := ⟨⟨by decide +kernel, by decide +kernel⟩, List.mem_of_getElem? (i := 1470) (by decide +kernel), List.mem_of_getElem? (i := 1780) (by decide +kernel), List.mem_of_getElem? (i := 1781) (by decide +kernel)⟩
theorem lw_p62 : lw_okq (⟨"ParlourLeavesModel", "plantsFor", "(IZ)I"⟩, 45) := ⟨⟨by decide +kernel, by decide +kernel⟩, List.mem_of_getElem? (i := 1470) (by decide +kernel), List.mem_of_getElem? (i := 1784) (by decide +kernel), List.mem_of_getElem? (i := 1785) (by decide +kernel)⟩
theorem lw_p63 : lw_okq (⟨"ParlourLeavesModel", "isProved", "(I)Z"⟩, 45) := ⟨⟨by decide +kernel, by decide +kernel⟩, List.mem_of_getElem? (i := 1470) (by decide +kernel), List.mem_of_getElem? (i := 1788) (by decide +kernel), List.mem_of_getElem? (i := 1789) (by decide +kernel)⟩
def lw_privs_4 : List (MethodName × Nat) := [(⟨"ParlourLeavesModel", "readNumber", "(II)Z"⟩, 45), (⟨"ParlourLeavesModel", "readOnce", "(III)Z"⟩, 45), (⟨"ParlourLeavesModel", "readEnd", "()Z"⟩, 45), (⟨"ParlourLeavesModel", "isSign", "(I)Z"⟩, 45), (⟨"ParlourLeavesModel", "isPlant", "(I)Z"⟩, 45), (⟨"ParlourLeavesModel", "refuse", "()I"⟩, 45), (⟨"ParlourLeavesModel", "isFern", "(I)Z"⟩, 45), (⟨"ParlourLeavesModel", "seesOf", "(II)I"⟩, 45), (⟨"ParlourLeavesModel", "around", "(I)I"⟩, 45), (⟨"ParlourLeavesModel", "shownBy", "(IZ)I"⟩, 45), (⟨"ParlourLeavesModel", "hasCome", "(II)Z"⟩, 45), (⟨"ParlourLeavesModel", "leafOf", "(II)I"⟩, 45), (⟨"ParlourLeavesModel", "willCome", "(II)Z"⟩, 45), (⟨"ParlourLeavesModel", "isAct", "(I)Z"⟩, 45), (⟨"ParlourLeavesModel", "plantsFor", "(IZ)I"⟩, 45), (⟨"ParlourLeavesModel", "isProved", "(I)Z"⟩, 45)]
theorem lw_r4 : ∀ q ∈ lw_privs_4, lw_okq q := List.forall_mem_cons.mpr ⟨lw_p48, List.forall_mem_cons.mpr ⟨lw_p49, List.forall_mem_cons.mpr ⟨lw_p50, List.forall_mem_cons.mpr ⟨lw_p51, List.forall_mem_cons.mpr ⟨lw_p52, List.forall_mem_cons.mpr ⟨lw_p53, List.forall_mem_cons.mpr ⟨lw_p54, List.forall_mem_cons.mpr ⟨lw_p55, List.forall_mem_cons.mpr ⟨lw_p56, List.forall_mem_cons.mpr ⟨lw_p57, List.forall_mem_cons.mpr ⟨lw_p58, List.forall_mem_cons.mpr ⟨lw_p59, List.forall_mem_cons.mpr ⟨lw_p60, List.forall_mem_cons.mpr ⟨lw_p61, List.forall_mem_cons.mpr ⟨lw_p62, List.forall_mem_cons.mpr ⟨lw_p63, fun _ h => absurd h List.not_mem_nil⟩⟩⟩⟩⟩⟩⟩⟩⟩⟩⟩⟩⟩⟩⟩⟩
theorem lw_p64 : lw_okq (⟨"ParlourLeavesModel", "isParlour", "(I)Z"⟩, 45) := ⟨⟨by decide +kernel, by decide +kernel⟩, List.mem_of_getElem? (i := 1470) (by decide +kernel), List.mem_of_getElem? (i := 1800) (by decide +kernel), List.mem_of_getElem? (i := 1801) (by decide +kernel)⟩
theorem lw_p65 : lw_okq (⟨"ParlourLeavesModel", "proved", "()I"⟩, 45) := ⟨⟨by decide +kernel, by decide +kernel⟩, List.mem_of_getElem? (i := 1470) (by decide +kernel), List.mem_of_getElem? (i := 1808) (by decide +kernel), List.mem_of_getElem? (i := 1809) (by decide +kernel)⟩
theorem lw_p66 : lw_okq (⟨"ParlourLeavesModel", "unseen", "(I)I"⟩, 45) := ⟨⟨by decide +kernel, by decide +kernel⟩, List.mem_of_getElem? (i := 1470) (by decide +kernel), List.mem_of_getElem? (i := 1812) (by decide +kernel), List.mem_of_getElem? (i := 1813) (by decide +kernel)⟩
theorem lw_p67 : lw_okq (⟨"ParlourLeavesModel", "isPerson", "(I)Z"⟩, 45) := ⟨⟨by decide +kernel, by decide +kernel⟩, List.mem_of_getElem? (i := 1470) (by decide +kernel), List.mem_of_getElem? (i := 1820) (by decide +kernel), List.mem_of_getElem? (i := 1821) (by decide +kernel)⟩
theorem lw_p68 : lw_okq (⟨"ParlourLeavesModel", "isDeed", "(I)Z"⟩, 45) := ⟨⟨by decide +kernel, by decide +kernel⟩, List.mem_of_getElem? (i := 1470) (by decide +kernel), List.mem_of_getElem? (i := 1824) (by decide +kernel), List.mem_of_getElem? (i := 1825) (by decide +kernel)⟩
theorem lw_p69 : lw_okq (⟨"ParlourLeavesModel", "doIt", "(IIIIZ)I"⟩, 45) := ⟨⟨by decide +kernel, by decide +kernel⟩, List.mem_of_getElem? (i := 1470) (by decide +kernel), List.mem_of_getElem? (i := 1828) (by decide +kernel), List.mem_of_getElem? (i := 1829) (by decide +kernel)⟩
theorem lw_p70 : lw_okq (⟨"ParlourLeavesModel", "why", "(III)I"⟩, 45) := ⟨⟨by decide +kernel, by decide +kernel⟩, List.mem_of_getElem? (i := 1470) (by decide +kernel), List.mem_of_getElem? (i := 1832) (by decide +kernel), List.mem_of_getElem? (i := 1833) (by decide +kernel)⟩
theorem lw_p71 : lw_okq (⟨"ParlourLeavesModel", "snap", "()V"⟩, 45) := ⟨⟨by decide +kernel, by decide +kernel⟩, List.mem_of_getElem? (i := 1470) (by decide +kernel), List.mem_of_getElem? (i := 1836) (by decide +kernel), List.mem_of_getElem? (i := 1837) (by decide +kernel)⟩
theorem lw_p72 : lw_okq (⟨"ParlourLeavesModel", "live", "(IIII)V"⟩, 45) := ⟨⟨by decide +kernel, by decide +kernel⟩, List.mem_of_getElem? (i := 1470) (by decide +kernel), List.mem_of_getElem? (i := 1840) (by decide +kernel), List.mem_of_getElem? (i := 1841) (by decide +kernel)⟩
theorem lw_p73 : lw_okq (⟨"ParlourLeavesModel", "doDeed", "(III)V"⟩, 45) := ⟨⟨by decide +kernel, by decide +kernel⟩, List.mem_of_getElem? (i := 1470) (by decide +kernel), List.mem_of_getElem? (i := 1844) (by decide +kernel), List.mem_of_getElem? (i := 1845) (by decide +kernel)⟩
theorem lw_p74 : lw_okq (⟨"ParlourLeavesModel", "nextLeaf", "(I)I"⟩, 45) := ⟨⟨by decide +kernel, by decide +kernel⟩, List.mem_of_getElem? (i := 1470) (by decide +kernel), List.mem_of_getElem? (i := 1848) (by decide +kernel), List.mem_of_getElem? (i := 1849) (by decide +kernel)⟩
theorem lw_p75 : lw_okq (⟨"ParlourLeavesModel", "passDays", "(I)I"⟩, 45) := ⟨⟨by decide +kernel, by decide +kernel⟩, List.mem_of_getElem? (i := 1470) (by decide +kernel), List.mem_of_getElem? (i := 1868) (by decide +kernel), List.mem_of_getElem? (i := 1869) (by decide +kernel)⟩
theorem lw_p76 : lw_okq (⟨"ParlourLeavesModel", "oneDay", "()V"⟩, 45) := ⟨⟨by decide +kernel, by decide +kernel⟩, List.mem_of_getElem? (i := 1470) (by decide +kernel), List.mem_of_getElem? (i := 1875) (by decide +kernel), List.mem_of_getElem? (i := 1876) (by decide +kernel)⟩
theorem lw_p77 : lw_okq (⟨"ParlourLeavesModel", "seenFrom", "(I)I"⟩, 45) := ⟨⟨by decide +kernel, by decide +kernel⟩, List.mem_of_getElem? (i := 1470) (by decide +kernel), List.mem_of_getElem? (i := 1911) (by decide +kernel), List.mem_of_getElem? (i := 1912) (by decide +kernel)⟩
theorem lw_p78 : lw_okq (⟨"ParlourLeavesModel", "laySteps", "()V"⟩, 45) := ⟨⟨by decide +kernel, by decide +kernel⟩, List.mem_of_getElem? (i := 1470) (by decide +kernel), List.mem_of_getElem? (i := 1923) (by decide +kernel), List.mem_of_getElem? (i := 1924) (by decide +kernel)⟩
theorem lw_p79 : lw_okq (⟨"ParlourLeavesModel", "fewestSee", "()I"⟩, 45) := ⟨⟨by decide +kernel, by decide +kernel⟩, List.mem_of_getElem? (i := 1470) (by decide +kernel), List.mem_of_getElem? (i := 1938) (by decide +kernel), List.mem_of_getElem? (i := 1939) (by decide +kernel)⟩
def lw_privs_5 : List (MethodName × Nat) := [(⟨"ParlourLeavesModel", "isParlour", "(I)Z"⟩, 45), (⟨"ParlourLeavesModel", "proved", "()I"⟩, 45), (⟨"ParlourLeavesModel", "unseen", "(I)I"⟩, 45), (⟨"ParlourLeavesModel", "isPerson", "(I)Z"⟩, 45), (⟨"ParlourLeavesModel", "isDeed", "(I)Z"⟩, 45), (⟨"ParlourLeavesModel", "doIt", "(IIIIZ)I"⟩, 45), (⟨"ParlourLeavesModel", "why", "(III)I"⟩, 45), (⟨"ParlourLeavesModel", "snap", "()V"⟩, 45), (⟨"ParlourLeavesModel", "live", "(IIII)V"⟩, 45), (⟨"ParlourLeavesModel", "doDeed", "(III)V"⟩, 45), (⟨"ParlourLeavesModel", "nextLeaf", "(I)I"⟩, 45), (⟨"ParlourLeavesModel", "passDays", "(I)I"⟩, 45), (⟨"ParlourLeavesModel", "oneDay", "()V"⟩, 45), (⟨"ParlourLeavesModel", "seenFrom", "(I)I"⟩, 45), (⟨"ParlourLeavesModel", "laySteps", "()V"⟩, 45), (⟨"ParlourLeavesModel", "fewestSee", "()I"⟩, 45)]
theorem lw_r5 : ∀ q ∈ lw_privs_5, lw_okq q := List.forall_mem_cons.mpr ⟨lw_p64, List.forall_mem_cons.mpr ⟨lw_p65, List.forall_mem_cons.mpr ⟨lw_p66, List.forall_mem_cons.mpr ⟨lw_p67, List.forall_mem_cons.mpr ⟨lw_p68, List.forall_mem_cons.mpr ⟨lw_p69, List.forall_mem_cons.mpr ⟨lw_p70, List.forall_mem_cons.mpr ⟨lw_p71, List.forall_mem_cons.mpr ⟨lw_p72, List.forall_mem_cons.mpr ⟨lw_p73, List.forall_mem_cons.mpr ⟨lw_p74, List.forall_mem_cons.mpr ⟨lw_p75, List.forall_mem_cons.mpr ⟨lw_p76, List.forall_mem_cons.mpr ⟨lw_p77, List.forall_mem_cons.mpr ⟨lw_p78, List.forall_mem_cons.mpr ⟨lw_p79, fun _ h => absurd h List.not_mem_nil⟩⟩⟩⟩⟩⟩⟩⟩⟩⟩⟩⟩⟩⟩⟩⟩
theorem lw_p80 : lw_okq (⟨"ParlourLeavesModel", "choose", "(II)V"⟩, 45) := ⟨⟨by decide +kernel, by decide +kernel⟩, List.mem_of_getElem? (i := 1470) (by decide +kernel), List.mem_of_getElem? (i := 1942) (by decide +kernel), List.mem_of_getElem? (i := 1943) (by decide +kernel)⟩
theorem lw_p81 : lw_okq (⟨"ParlourLeavesModel", "writeWord", "(J)V"⟩, 45) := ⟨⟨by decide +kernel, by decide +kernel⟩, List.mem_of_getElem? (i := 1470) (by decide +kernel), List.mem_of_getElem? (i := 1958) (by decide +kernel), List.mem_of_getElem? (i := 1959) (by decide +kernel)⟩
theorem lw_p82 : lw_okq (⟨"ParlourLeavesModel", "write", "(I)V"⟩, 45) := ⟨⟨by decide +kernel, by decide +kernel⟩, List.mem_of_getElem? (i := 1470) (by decide +kernel), List.mem_of_getElem? (i := 1962) (by decide +kernel), List.mem_of_getElem? (i := 1963) (by decide +kernel)⟩
theorem lw_p83 : lw_okq (⟨"ParlourLeavesModel", "writeNext", "(J)V"⟩, 45) := ⟨⟨by decide +kernel, by decide +kernel⟩, List.mem_of_getElem? (i := 1470) (by decide +kernel), List.mem_of_getElem? (i := 1966) (by decide +kernel), List.mem_of_getElem? (i := 1967) (by decide +kernel)⟩
theorem lw_p84 : lw_okq (⟨"ParlourLeavesModel", "writeNumber", "(I)V"⟩, 45) := ⟨⟨by decide +kernel, by decide +kernel⟩, List.mem_of_getElem? (i := 1470) (by decide +kernel), List.mem_of_getElem? (i := 1970) (by decide +kernel), List.mem_of_getElem? (i := 1971) (by decide +kernel)⟩
theorem lw_p85 : lw_okq (⟨"ParlourLeavesModel", "drawDays", "(II)I"⟩, 45) := ⟨⟨by decide +kernel, by decide +kernel⟩, List.mem_of_getElem? (i := 1470) (by decide +kernel), List.mem_of_getElem? (i := 1982) (by decide +kernel), List.mem_of_getElem? (i := 1983) (by decide +kernel)⟩
theorem lw_p86 : lw_okq (⟨"ParlourLeavesModel", "drawsFor", "(I)V"⟩, 45) := ⟨⟨by decide +kernel, by decide +kernel⟩, List.mem_of_getElem? (i := 1470) (by decide +kernel), List.mem_of_getElem? (i := 1986) (by decide +kernel), List.mem_of_getElem? (i := 1987) (by decide +kernel)⟩
theorem lw_p87 : lw_okq (⟨"ParlourLeavesModel", "draw", "(I)I"⟩, 45) := ⟨⟨by decide +kernel, by decide +kernel⟩, List.mem_of_getElem? (i := 1470) (by decide +kernel), List.mem_of_getElem? (i := 1990) (by decide +kernel), List.mem_of_getElem? (i := 1991) (by decide +kernel)⟩
theorem lw_p88 : lw_okq (⟨"ParlourLeavesModel", "layAside", "()V"⟩, 45) := ⟨⟨by decide +kernel, by decide +kernel⟩, List.mem_of_getElem? (i := 1470) (by decide +kernel), List.mem_of_getElem? (i := 1999) (by decide +kernel), List.mem_of_getElem? (i := 2000) (by decide +kernel)⟩
theorem lw_p89 : lw_okq (⟨"ParlourLeavesModel", "isProvedOf", "(I)Z"⟩, 45) := ⟨⟨by decide +kernel, by decide +kernel⟩, List.mem_of_getElem? (i := 1470) (by decide +kernel), List.mem_of_getElem? (i := 2003) (by decide +kernel), List.mem_of_getElem? (i := 2004) (by decide +kernel)⟩
theorem lw_p90 : lw_okq (⟨"ParlourLeavesModel", "takeBack", "()V"⟩, 45) := ⟨⟨by decide +kernel, by decide +kernel⟩, List.mem_of_getElem? (i := 1470) (by decide +kernel), List.mem_of_getElem? (i := 2007) (by decide +kernel), List.mem_of_getElem? (i := 2008) (by decide +kernel)⟩
theorem lw_p91 : lw_okq (⟨"ParlourLeavesModel", "readBookLine", "()Z"⟩, 45) := ⟨⟨by decide +kernel, by decide +kernel⟩, List.mem_of_getElem? (i := 1470) (by decide +kernel), List.mem_of_getElem? (i := 2015) (by decide +kernel), List.mem_of_getElem? (i := 2016) (by decide +kernel)⟩
theorem lw_p92 : lw_okq (⟨"ParlourLeavesModel", "readDoes", "(I)Z"⟩, 45) := ⟨⟨by decide +kernel, by decide +kernel⟩, List.mem_of_getElem? (i := 1470) (by decide +kernel), List.mem_of_getElem? (i := 2019) (by decide +kernel), List.mem_of_getElem? (i := 2020) (by decide +kernel)⟩
theorem lw_p93 : lw_okq (⟨"ParlourLeavesModel", "readNamed", "(II)Z"⟩, 45) := ⟨⟨by decide +kernel, by decide +kernel⟩, List.mem_of_getElem? (i := 1470) (by decide +kernel), List.mem_of_getElem? (i := 2023) (by decide +kernel), List.mem_of_getElem? (i := 2024) (by decide +kernel)⟩
theorem lw_p94 : lw_okq (⟨"ParlourLeavesModel", "keep", "(IZ)Z"⟩, 45) := ⟨⟨by decide +kernel, by decide +kernel⟩, List.mem_of_getElem? (i := 1470) (by decide +kernel), List.mem_of_getElem? (i := 2027) (by decide +kernel), List.mem_of_getElem? (i := 2028) (by decide +kernel)⟩
theorem lw_p95 : lw_okq (⟨"ParlourLeavesModel", "readParlourName", "()Z"⟩, 45) := ⟨⟨by decide +kernel, by decide +kernel⟩, List.mem_of_getElem? (i := 1470) (by decide +kernel), List.mem_of_getElem? (i := 2031) (by decide +kernel), List.mem_of_getElem? (i := 2032) (by decide +kernel)⟩
def lw_privs_6 : List (MethodName × Nat) := [(⟨"ParlourLeavesModel", "choose", "(II)V"⟩, 45), (⟨"ParlourLeavesModel", "writeWord", "(J)V"⟩, 45), (⟨"ParlourLeavesModel", "write", "(I)V"⟩, 45), (⟨"ParlourLeavesModel", "writeNext", "(J)V"⟩, 45), (⟨"ParlourLeavesModel", "writeNumber", "(I)V"⟩, 45), (⟨"ParlourLeavesModel", "drawDays", "(II)I"⟩, 45), (⟨"ParlourLeavesModel", "drawsFor", "(I)V"⟩, 45), (⟨"ParlourLeavesModel", "draw", "(I)I"⟩, 45), (⟨"ParlourLeavesModel", "layAside", "()V"⟩, 45), (⟨"ParlourLeavesModel", "isProvedOf", "(I)Z"⟩, 45), (⟨"ParlourLeavesModel", "takeBack", "()V"⟩, 45), (⟨"ParlourLeavesModel", "readBookLine", "()Z"⟩, 45), (⟨"ParlourLeavesModel", "readDoes", "(I)Z"⟩, 45), (⟨"ParlourLeavesModel", "readNamed", "(II)Z"⟩, 45), (⟨"ParlourLeavesModel", "keep", "(IZ)Z"⟩, 45), (⟨"ParlourLeavesModel", "readParlourName", "()Z"⟩, 45)]
theorem lw_r6 : ∀ q ∈ lw_privs_6, lw_okq q := List.forall_mem_cons.mpr ⟨lw_p80, List.forall_mem_cons.mpr ⟨lw_p81, List.forall_mem_cons.mpr ⟨lw_p82, List.forall_mem_cons.mpr ⟨lw_p83, List.forall_mem_cons.mpr ⟨lw_p84, List.forall_mem_cons.mpr ⟨lw_p85, List.forall_mem_cons.mpr ⟨lw_p86, List.forall_mem_cons.mpr ⟨lw_p87, List.forall_mem_cons.mpr ⟨lw_p88, List.forall_mem_cons.mpr ⟨lw_p89, List.forall_mem_cons.mpr ⟨lw_p90, List.forall_mem_cons.mpr ⟨lw_p91, List.forall_mem_cons.mpr ⟨lw_p92, List.forall_mem_cons.mpr ⟨lw_p93, List.forall_mem_cons.mpr ⟨lw_p94, List.forall_mem_cons.mpr ⟨lw_p95, fun _ h => absurd h List.not_mem_nil⟩⟩⟩⟩⟩⟩⟩⟩⟩⟩⟩⟩⟩⟩⟩⟩
theorem lw_p96 : lw_okq (⟨"ParlourLeavesModel", "readPlantName", "()Z"⟩, 45) := ⟨⟨by decide +kernel, by decide +kernel⟩, List.mem_of_getElem? (i := 1470) (by decide +kernel), List.mem_of_getElem? (i := 2035) (by decide +kernel), List.mem_of_getElem? (i := 2036) (by decide +kernel)⟩
theorem lw_p97 : lw_okq (⟨"ParlourLeavesModel", "goBy", "(I)I"⟩, 45) := ⟨⟨by decide +kernel, by decide +kernel⟩, List.mem_of_getElem? (i := 1470) (by decide +kernel), List.mem_of_getElem? (i := 2039) (by decide +kernel), List.mem_of_getElem? (i := 2040) (by decide +kernel)⟩
theorem lw_p98 : lw_okq (⟨"ParlourLeavesModel", "stay", "(Z)V"⟩, 45) := ⟨⟨by decide +kernel, by decide +kernel⟩, List.mem_of_getElem? (i := 1470) (by decide +kernel), List.mem_of_getElem? (i := 2043) (by decide +kernel), List.mem_of_getElem? (i := 2044) (by decide +kernel)⟩
theorem lw_p99 : lw_okq (⟨"ParlourLeavesModel", "readOr", "()Z"⟩, 45) := ⟨⟨by decide +kernel, by decide +kernel⟩, List.mem_of_getElem? (i := 1470) (by decide +kernel), List.mem_of_getElem? (i := 2055) (by decide +kernel), List.mem_of_getElem? (i := 2056) (by decide +kernel)⟩
theorem lw_p100 : lw_okq (⟨"ParlourLeavesModel", "readAnd", "()Z"⟩, 45) := ⟨⟨by decide +kernel, by decide +kernel⟩, List.mem_of_getElem? (i := 1470) (by decide +kernel), List.mem_of_getElem? (i := 2059) (by decide +kernel), List.mem_of_getElem? (i := 2060) (by decide +kernel)⟩
theorem lw_p101 : lw_okq (⟨"ParlourLeavesModel", "readSaid", "()Z"⟩, 45) := ⟨⟨by decide +kernel, by decide +kernel⟩, List.mem_of_getElem? (i := 1470) (by decide +kernel), List.mem_of_getElem? (i := 2063) (by decide +kernel), List.mem_of_getElem? (i := 2064) (by decide +kernel)⟩
theorem lw_p102 : lw_okq (⟨"ParlourLeavesModel", "readBracket", "()Z"⟩, 45) := ⟨⟨by decide +kernel, by decide +kernel⟩, List.mem_of_getElem? (i := 1470) (by decide +kernel), List.mem_of_getElem? (i := 2067) (by decide +kernel), List.mem_of_getElem? (i := 2068) (by decide +kernel)⟩
theorem lw_p103 : lw_okq (⟨"ParlourLeavesModel", "readNot", "()Z"⟩, 45) := ⟨⟨by decide +kernel, by decide +kernel⟩, List.mem_of_getElem? (i := 1470) (by decide +kernel), List.mem_of_getElem? (i := 2071) (by decide +kernel), List.mem_of_getElem? (i := 2072) (by decide +kernel)⟩
theorem lw_p104 : lw_okq (⟨"ParlourLeavesModel", "saysOne", "(IIII)I"⟩, 45) := ⟨⟨by decide +kernel, by decide +kernel⟩, List.mem_of_getElem? (i := 1470) (by decide +kernel), List.mem_of_getElem? (i := 2075) (by decide +kernel), List.mem_of_getElem? (i := 2076) (by decide +kernel)⟩
theorem lw_p105 : lw_okq (⟨"ParlourLeavesModel", "readOf", "(I)Z"⟩, 45) := ⟨⟨by decide +kernel, by decide +kernel⟩, List.mem_of_getElem? (i := 1470) (by decide +kernel), List.mem_of_getElem? (i := 2079) (by decide +kernel), List.mem_of_getElem? (i := 2080) (by decide +kernel)⟩
theorem lw_p106 : lw_okq (⟨"ParlourLeavesModel", "readCompare", "(I)Z"⟩, 45) := ⟨⟨by decide +kernel, by decide +kernel⟩, List.mem_of_getElem? (i := 1470) (by decide +kernel), List.mem_of_getElem? (i := 2083) (by decide +kernel), List.mem_of_getElem? (i := 2084) (by decide +kernel)⟩
theorem lw_p107 : lw_okq (⟨"ParlourLeavesModel", "holds", "(II)Z"⟩, 45) := ⟨⟨by decide +kernel, by decide +kernel⟩, List.mem_of_getElem? (i := 1470) (by decide +kernel), List.mem_of_getElem? (i := 2091) (by decide +kernel), List.mem_of_getElem? (i := 2092) (by decide +kernel)⟩
theorem lw_p108 : lw_okq (⟨"ParlourLeavesModel", "tellsOf", "(II)Z"⟩, 45) := ⟨⟨by decide +kernel, by decide +kernel⟩, List.mem_of_getElem? (i := 1470) (by decide +kernel), List.mem_of_getElem? (i := 2095) (by decide +kernel), List.mem_of_getElem? (i := 2096) (by decide +kernel)⟩
def lw_privs_7 : List (MethodName × Nat) := [(⟨"ParlourLeavesModel", "readPlantName", "()Z"⟩, 45), (⟨"ParlourLeavesModel", "goBy", "(I)I"⟩, 45), (⟨"ParlourLeavesModel", "stay", "(Z)V"⟩, 45), (⟨"ParlourLeavesModel", "readOr", "()Z"⟩, 45), (⟨"ParlourLeavesModel", "readAnd", "()Z"⟩, 45), (⟨"ParlourLeavesModel", "readSaid", "()Z"⟩, 45), (⟨"ParlourLeavesModel", "readBracket", "()Z"⟩, 45), (⟨"ParlourLeavesModel", "readNot", "()Z"⟩, 45), (⟨"ParlourLeavesModel", "saysOne", "(IIII)I"⟩, 45), (⟨"ParlourLeavesModel", "readOf", "(I)Z"⟩, 45), (⟨"ParlourLeavesModel", "readCompare", "(I)Z"⟩, 45), (⟨"ParlourLeavesModel", "holds", "(II)Z"⟩, 45), (⟨"ParlourLeavesModel", "tellsOf", "(II)Z"⟩, 45)]
theorem lw_r7 : ∀ q ∈ lw_privs_7, lw_okq q := List.forall_mem_cons.mpr ⟨lw_p96, List.forall_mem_cons.mpr ⟨lw_p97, List.forall_mem_cons.mpr ⟨lw_p98, List.forall_mem_cons.mpr ⟨lw_p99, List.forall_mem_cons.mpr ⟨lw_p100, List.forall_mem_cons.mpr ⟨lw_p101, List.forall_mem_cons.mpr ⟨lw_p102, List.forall_mem_cons.mpr ⟨lw_p103, List.forall_mem_cons.mpr ⟨lw_p104, List.forall_mem_cons.mpr ⟨lw_p105, List.forall_mem_cons.mpr ⟨lw_p106, List.forall_mem_cons.mpr ⟨lw_p107, List.forall_mem_cons.mpr ⟨lw_p108, fun _ h => absurd h List.not_mem_nil⟩⟩⟩⟩⟩⟩⟩⟩⟩⟩⟩⟩⟩
def lw_privs : List (MethodName × Nat) := lw_privs_1 ++ (lw_privs_2 ++ (lw_privs_3 ++ (lw_privs_4 ++ (lw_privs_5 ++ (lw_privs_6 ++ (lw_privs_7))))))
def lw_tbl : List Cond := k2_sels lw_privs ++ tables_1
theorem lw_privs_ok : ∀ q ∈ lw_privs, lw_okq q := by
  show ∀ q ∈ lw_privs_1 ++ (lw_privs_2 ++ (lw_privs_3 ++ (lw_privs_4 ++ (lw_privs_5 ++ (lw_privs_6 ++ (lw_privs_7)))))), lw_okq q
  exact List.forall_mem_append.mpr ⟨lw_r1, List.forall_mem_append.mpr ⟨lw_r2, List.forall_mem_append.mpr ⟨lw_r3, List.forall_mem_append.mpr ⟨lw_r4, List.forall_mem_append.mpr ⟨lw_r5, List.forall_mem_append.mpr ⟨lw_r6, lw_r7⟩⟩⟩⟩⟩⟩

def RX0 : String := "ParlourLeaves$BookText"
def TX0 : u_T := fun k => match k with
  | 0 => ("ParlourLeaves$BookText", "tape", "LParlourLeaves$Tape;", true)
  | 1 => ("ParlourLeaves$BookText", "house", "LParlourLeaves$House;", true)
  | 2 => ("ParlourLeaves$BookText", "kind", "[I", true)
  | 3 => ("ParlourLeaves$BookText", "first", "[I", true)
  | 4 => ("ParlourLeaves$BookText", "second", "[I", true)
  | 5 => ("ParlourLeaves$BookText", "third", "[I", true)
  | 6 => ("ParlourLeaves$BookText", "lines", "I", false)
  | 7 => ("ParlourLeaves$BookText", "why", "I", false)
  | 8 => ("ParlourLeaves$BookText", "right", "I", false)
  | 9 => ("ParlourLeaves$BookText", "dayThen", "I", false)
  | _ => ("ParlourLeaves$BookText", "provedThen", "I", false)
def tyX0 : Nat → FieldType := fun k => match k with
  | 0 => .object "ParlourLeaves$Tape"
  | 1 => .object "ParlourLeaves$House"
  | 2 => .array .int
  | 3 => .array .int
  | 4 => .array .int
  | 5 => .array .int
  | 6 => .int
  | 7 => .int
  | 8 => .int
  | 9 => .int
  | _ => .int
abbrev wsX00 : List Cond := u_ws RX0 TX0 11
theorem nmX0 : ∀ a, a < 11 → ∀ b, b < 11 → a ≠ b → (TX0 a).2.1 ≠ (TX0 b).2.1 := by decide +kernel
theorem tyX0_ok : ∀ k, k < 11 → parseFieldDescriptor (TX0 k).2.2.1 = some (tyX0 k) := by decide +kernel
abbrev cX0_init : ByteArray := prog_2_method_1_code
def yX0_init : MethodName := ⟨RX0, "<init>", "(LParlourLeaves$Tape;LParlourLeaves$House;)V"⟩
abbrev cX0_readAll : ByteArray := prog_2_method_2_code
def yX0_readAll : MethodName := ⟨RX0, "readAll", "()Z"⟩
abbrev cX0_readLine : ByteArray := prog_2_method_3_code
def yX0_readLine : MethodName := ⟨RX0, "readLine", "()Z"⟩
abbrev cX0_addLine : ByteArray := prog_2_method_4_code
def yX0_addLine : MethodName := ⟨RX0, "addLine", "(IIII)Z"⟩
abbrev cX0_readDoes : ByteArray := prog_2_method_5_code
def yX0_readDoes : MethodName := ⟨RX0, "readDoes", "()Z"⟩
abbrev cX0_readSponge : ByteArray := prog_2_method_6_code
def yX0_readSponge : MethodName := ⟨RX0, "readSponge", "()Z"⟩
abbrev cX0_readCarry : ByteArray := prog_2_method_7_code
def yX0_readCarry : MethodName := ⟨RX0, "readCarry", "()Z"⟩
abbrev cX0_readDay : ByteArray := prog_2_method_8_code
def yX0_readDay : MethodName := ⟨RX0, "readDay", "()Z"⟩
abbrev cX0_judge : ByteArray := prog_2_method_9_code
def yX0_judge : MethodName := ⟨RX0, "judge", "(LParlourLeaves$Life;)V"⟩
abbrev cX0_liveLine : ByteArray := prog_2_method_10_code
def yX0_liveLine : MethodName := ⟨RX0, "liveLine", "(LParlourLeaves$Life;I)I"⟩
abbrev cX0_liveDoes : ByteArray := prog_2_method_11_code
def yX0_liveDoes : MethodName := ⟨RX0, "liveDoes", "(LParlourLeaves$Life;I)I"⟩
abbrev cX0_liveSponge : ByteArray := prog_2_method_12_code
def yX0_liveSponge : MethodName := ⟨RX0, "liveSponge", "(LParlourLeaves$Life;I)I"⟩
abbrev cX0_liveCarry : ByteArray := prog_2_method_13_code
def yX0_liveCarry : MethodName := ⟨RX0, "liveCarry", "(LParlourLeaves$Life;II)I"⟩
abbrev cX0_liveDay : ByteArray := prog_2_method_14_code
def yX0_liveDay : MethodName := ⟨RX0, "liveDay", "(LParlourLeaves$Life;I)I"⟩
def RX1 : String := "ParlourLeaves$Draws"
def TX1 : u_T := fun k => match k with
  | _ => ("ParlourLeaves$Draws", "x", "I", false)
def tyX1 : Nat → FieldType := fun k => match k with
  | _ => .int
abbrev wsX10 : List Cond := u_ws RX1 TX1 1
theorem nmX1 : ∀ a, a < 1 → ∀ b, b < 1 → a ≠ b → (TX1 a).2.1 ≠ (TX1 b).2.1 := by decide +kernel
theorem tyX1_ok : ∀ k, k < 1 → parseFieldDescriptor (TX1 k).2.2.1 = some (tyX1 k) := by decide +kernel
abbrev cX1_init : ByteArray := prog_3_method_1_code
def yX1_init : MethodName := ⟨RX1, "<init>", "()V"⟩
abbrev cX1_draw : ByteArray := prog_3_method_2_code
def yX1_draw : MethodName := ⟨RX1, "draw", "(I)I"⟩
abbrev cX1_liveDays : ByteArray := prog_3_method_3_code
def yX1_liveDays : MethodName := ⟨RX1, "liveDays", "(LParlourLeaves$Life;II)I"⟩
abbrev cX1_liveTurn : ByteArray := prog_3_method_4_code
def yX1_liveTurn : MethodName := ⟨RX1, "liveTurn", "(LParlourLeaves$Life;I)V"⟩
abbrev cX1_drawDeed : ByteArray := prog_3_method_5_code
def yX1_drawDeed : MethodName := ⟨RX1, "drawDeed", "(LParlourLeaves$Life;III)V"⟩
def RX2 : String := "ParlourLeaves$Foresight"
def TX2 : u_T := fun k => match k with
  | 0 => ("ParlourLeaves$Foresight", "house", "LParlourLeaves$House;", true)
  | 1 => ("ParlourLeaves$Foresight", "life", "LParlourLeaves$Life;", true)
  | 2 => ("ParlourLeaves$Foresight", "maidsPlant", "I", false)
  | 3 => ("ParlourLeaves$Foresight", "maidsParlour", "I", false)
  | _ => ("ParlourLeaves$Foresight", "familysParlour", "I", false)
def tyX2 : Nat → FieldType := fun k => match k with
  | 0 => .object "ParlourLeaves$House"
  | 1 => .object "ParlourLeaves$Life"
  | 2 => .int
  | 3 => .int
  | _ => .int
abbrev wsX20 : List Cond := u_ws RX2 TX2 5
theorem nmX2 : ∀ a, a < 5 → ∀ b, b < 5 → a ≠ b → (TX2 a).2.1 ≠ (TX2 b).2.1 := by decide +kernel
theorem tyX2_ok : ∀ k, k < 5 → parseFieldDescriptor (TX2 k).2.2.1 = some (tyX2 k) := by decide +kernel
abbrev cX2_init : ByteArray := prog_4_method_1_code
def yX2_init : MethodName := ⟨RX2, "<init>", "(LParlourLeaves$House;LParlourLeaves$Life;)V"⟩
abbrev cX2_dayOfProof : ByteArray := prog_4_method_2_code
def yX2_dayOfProof : MethodName := ⟨RX2, "dayOfProof", "(I)I"⟩
abbrev cX2_hiddenParlours : ByteArray := prog_4_method_3_code
def yX2_hiddenParlours : MethodName := ⟨RX2, "hiddenParlours", "(I)I"⟩
abbrev cX2_daysTillDark : ByteArray := prog_4_method_4_code
def yX2_daysTillDark : MethodName := ⟨RX2, "daysTillDark", "(I)I"⟩
abbrev cX2_fittingParlours : ByteArray := prog_4_method_5_code
def yX2_fittingParlours : MethodName := ⟨RX2, "fittingParlours", "(LParlourLeaves$Tape;)I"⟩
abbrev cX2_plantToAsk : ByteArray := prog_4_method_6_code
def yX2_plantToAsk : MethodName := ⟨RX2, "plantToAsk", "(I)I"⟩
abbrev cX2_leastCover : ByteArray := prog_4_method_7_code
def yX2_leastCover : MethodName := ⟨RX2, "leastCover", "()I"⟩
abbrev cX2_reachOfAll : ByteArray := prog_4_method_8_code
def yX2_reachOfAll : MethodName := ⟨RX2, "reachOfAll", "(I)I"⟩
abbrev cX2_chooseByTurns : ByteArray := prog_4_method_9_code
def yX2_chooseByTurns : MethodName := ⟨RX2, "chooseByTurns", "()I"⟩
abbrev cX2_familysAnswer : ByteArray := prog_4_method_10_code
def yX2_familysAnswer : MethodName := ⟨RX2, "familysAnswer", "(II)I"⟩
abbrev cX2_plantsSeeing : ByteArray := prog_4_method_11_code
def yX2_plantsSeeing : MethodName := ⟨RX2, "plantsSeeing", "(III)I"⟩
def RX3 : String := "ParlourLeaves$House"
def TX3 : u_T := fun k => match k with
  | 0 => ("ParlourLeaves$House", "size", "[I", true)
  | 1 => ("ParlourLeaves$House", "sight", "[I", true)
  | 2 => ("ParlourLeaves$House", "home", "[I", true)
  | 3 => ("ParlourLeaves$House", "slow", "[I", true)
  | 4 => ("ParlourLeaves$House", "fern", "[I", true)
  | 5 => ("ParlourLeaves$House", "plantWord", "[J", true)
  | 6 => ("ParlourLeaves$House", "word", "[J", true)
  | 7 => ("ParlourLeaves$House", "wordSort", "[I", true)
  | 8 => ("ParlourLeaves$House", "wordNumber", "[I", true)
  | 9 => ("ParlourLeaves$House", "words", "I", false)
  | 10 => ("ParlourLeaves$House", "dusty", "I", false)
  | _ => ("ParlourLeaves$House", "proof", "I", false)
def tyX3 : Nat → FieldType := fun k => match k with
  | 0 => .array .int
  | 1 => .array .int
  | 2 => .array .int
  | 3 => .array .int
  | 4 => .array .int
  | 5 => .array .long
  | 6 => .array .long
  | 7 => .array .int
  | 8 => .array .int
  | 9 => .int
  | 10 => .int
  | _ => .int
abbrev wsX30 : List Cond := u_ws RX3 TX3 12
theorem nmX3 : ∀ a, a < 12 → ∀ b, b < 12 → a ≠ b → (TX3 a).2.1 ≠ (TX3 b).2.1 := by decide +kernel
theorem tyX3_ok : ∀ k, k < 12 → parseFieldDescriptor (TX3 k).2.2.1 = some (tyX3 k) := by decide +kernel
abbrev cX3_init : ByteArray := prog_5_method_1_code
def yX3_init : MethodName := ⟨RX3, "<init>", "()V"⟩
abbrev cX3_clear : ByteArray := prog_5_method_2_code
def yX3_clear : MethodName := ⟨RX3, "clear", "()V"⟩
abbrev cX3_copyFrom : ByteArray := prog_5_method_3_code
def yX3_copyFrom : MethodName := ⟨RX3, "copyFrom", "(LParlourLeaves$House;)V"⟩
abbrev cX3_has : ByteArray := prog_5_method_4_code
def yX3_has : MethodName := ⟨RX3, "has", "(II)Z"⟩
abbrev cX3_isFull : ByteArray := prog_5_method_5_code
def yX3_isFull : MethodName := ⟨RX3, "isFull", "(I)Z"⟩
abbrev cX3_placeOfWord : ByteArray := prog_5_method_6_code
def yX3_placeOfWord : MethodName := ⟨RX3, "placeOfWord", "(J)I"⟩
abbrev cX3_addName : ByteArray := prog_5_method_7_code
def yX3_addName : MethodName := ⟨RX3, "addName", "(JI)V"⟩
abbrev cX3_addSight : ByteArray := prog_5_method_8_code
def yX3_addSight : MethodName := ⟨RX3, "addSight", "(II)V"⟩
abbrev cX3_reach : ByteArray := prog_5_method_9_code
def yX3_reach : MethodName := ⟨RX3, "reach", "(I)I"⟩
abbrev cX3_appendPlantName : ByteArray := prog_5_method_10_code
def yX3_appendPlantName : MethodName := ⟨RX3, "appendPlantName", "(Ljava/lang/StringBuilder;I)V"⟩
def RX4 : String := "ParlourLeaves$HouseText"
def TX4 : u_T := fun k => match k with
  | 0 => ("ParlourLeaves$HouseText", "tape", "LParlourLeaves$Tape;", true)
  | 1 => ("ParlourLeaves$HouseText", "draft", "LParlourLeaves$House;", true)
  | 2 => ("ParlourLeaves$HouseText", "dustyTold", "Z", false)
  | _ => ("ParlourLeaves$HouseText", "proofTold", "Z", false)
def tyX4 : Nat → FieldType := fun k => match k with
  | 0 => .object "ParlourLeaves$Tape"
  | 1 => .object "ParlourLeaves$House"
  | 2 => .boolean
  | _ => .boolean
abbrev wsX40 : List Cond := u_ws RX4 TX4 4
theorem nmX4 : ∀ a, a < 4 → ∀ b, b < 4 → a ≠ b → (TX4 a).2.1 ≠ (TX4 b).2.1 := by decide +kernel
theorem tyX4_ok : ∀ k, k < 4 → parseFieldDescriptor (TX4 k).2.2.1 = some (tyX4 k) := by decide +kernel
abbrev cX4_init : ByteArray := prog_6_method_1_code
def yX4_init : MethodName := ⟨RX4, "<init>", "(LParlourLeaves$Tape;)V"⟩
abbrev cX4_readAll : ByteArray := prog_6_method_2_code
def yX4_readAll : MethodName := ⟨RX4, "readAll", "()I"⟩
abbrev cX4_readLine : ByteArray := prog_6_method_3_code
def yX4_readLine : MethodName := ⟨RX4, "readLine", "()Z"⟩
abbrev cX4_readNamed : ByteArray := prog_6_method_4_code
def yX4_readNamed : MethodName := ⟨RX4, "readNamed", "(I)Z"⟩
abbrev cX4_readPlant : ByteArray := prog_6_method_5_code
def yX4_readPlant : MethodName := ⟨RX4, "readPlant", "()Z"⟩
abbrev cX4_readSight : ByteArray := prog_6_method_6_code
def yX4_readSight : MethodName := ⟨RX4, "readSight", "()Z"⟩
abbrev cX4_readDusty : ByteArray := prog_6_method_7_code
def yX4_readDusty : MethodName := ⟨RX4, "readDusty", "()Z"⟩
abbrev cX4_readProof : ByteArray := prog_6_method_8_code
def yX4_readProof : MethodName := ⟨RX4, "readProof", "()Z"⟩
def RX5 : String := "ParlourLeaves$Image"
def TX5 : u_T := fun k => match k with
  | 0 => ("ParlourLeaves$Image", "house", "LParlourLeaves$House;", true)
  | 1 => ("ParlourLeaves$Image", "life", "LParlourLeaves$Life;", true)
  | 2 => ("ParlourLeaves$Image", "sentence", "LParlourLeaves$Sentence;", true)
  | _ => ("ParlourLeaves$Image", "kept", "Z", false)
def tyX5 : Nat → FieldType := fun k => match k with
  | 0 => .object "ParlourLeaves$House"
  | 1 => .object "ParlourLeaves$Life"
  | 2 => .object "ParlourLeaves$Sentence"
  | _ => .boolean
abbrev wsX50 : List Cond := u_ws RX5 TX5 4
theorem nmX5 : ∀ a, a < 4 → ∀ b, b < 4 → a ≠ b → (TX5 a).2.1 ≠ (TX5 b).2.1 := by decide +kernel
theorem tyX5_ok : ∀ k, k < 4 → parseFieldDescriptor (TX5 k).2.2.1 = some (tyX5 k) := by decide +kernel
abbrev cX5_init : ByteArray := prog_7_method_1_code
def yX5_init : MethodName := ⟨RX5, "<init>", "()V"⟩
abbrev cX5_keep : ByteArray := prog_7_method_2_code
def yX5_keep : MethodName := ⟨RX5, "keep", "(LParlourLeaves$House;LParlourLeaves$Life;LParlourLeaves$Sentence;)V"⟩
def RX6 : String := "ParlourLeaves$Life"
def TX6 : u_T := fun k => match k with
  | 0 => ("ParlourLeaves$Life", "house", "LParlourLeaves$House;", true)
  | 1 => ("ParlourLeaves$Life", "day", "I", false)
  | 2 => ("ParlourLeaves$Life", "acts", "I", false)
  | 3 => ("ParlourLeaves$Life", "doer", "[I", true)
  | 4 => ("ParlourLeaves$Life", "deed", "[I", true)
  | 5 => ("ParlourLeaves$Life", "where", "[I", true)
  | 6 => ("ParlourLeaves$Life", "when", "[I", true)
  | 7 => ("ParlourLeaves$Life", "leafDay", "[[I", true)
  | 8 => ("ParlourLeaves$Life", "latestLeaf", "[I", true)
  | 9 => ("ParlourLeaves$Life", "at", "[I", true)
  | _ => ("ParlourLeaves$Life", "dust", "[I", true)
def tyX6 : Nat → FieldType := fun k => match k with
  | 0 => .object "ParlourLeaves$House"
  | 1 => .int
  | 2 => .int
  | 3 => .array .int
  | 4 => .array .int
  | 5 => .array .int
  | 6 => .array .int
  | 7 => .array (.array .int)
  | 8 => .array .int
  | 9 => .array .int
  | _ => .array .int
abbrev wsX60 : List Cond := u_ws RX6 TX6 11
theorem nmX6 : ∀ a, a < 11 → ∀ b, b < 11 → a ≠ b → (TX6 a).2.1 ≠ (TX6 b).2.1 := by decide +kernel
theorem tyX6_ok : ∀ k, k < 11 → parseFieldDescriptor (TX6 k).2.2.1 = some (tyX6 k) := by decide +kernel
abbrev cX6_init : ByteArray := prog_8_method_1_code
def yX6_init : MethodName := ⟨RX6, "<init>", "(LParlourLeaves$House;)V"⟩
abbrev cX6_begin : ByteArray := prog_8_method_2_code
def yX6_begin : MethodName := ⟨RX6, "begin", "()V"⟩
abbrev cX6_copyFrom : ByteArray := prog_8_method_3_code
def yX6_copyFrom : MethodName := ⟨RX6, "copyFrom", "(LParlourLeaves$Life;)V"⟩
abbrev cX6_hasAct : ByteArray := prog_8_method_4_code
def yX6_hasAct : MethodName := ⟨RX6, "hasAct", "(I)Z"⟩
abbrev cX6_plants : ByteArray := prog_8_method_5_code
def yX6_plants : MethodName := ⟨RX6, "plants", "()I"⟩
abbrev cX6_daysLeft : ByteArray := prog_8_method_6_code
def yX6_daysLeft : MethodName := ⟨RX6, "daysLeft", "()I"⟩
abbrev cX6_isBlind : ByteArray := prog_8_method_7_code
def yX6_isBlind : MethodName := ⟨RX6, "isBlind", "(I)Z"⟩
abbrev cX6_seenBy : ByteArray := prog_8_method_8_code
def yX6_seenBy : MethodName := ⟨RX6, "seenBy", "(I)I"⟩
abbrev cX6_nextLeafDay : ByteArray := prog_8_method_9_code
def yX6_nextLeafDay : MethodName := ⟨RX6, "nextLeafDay", "(I)I"⟩
abbrev cX6_whyNotDo : ByteArray := prog_8_method_10_code
def yX6_whyNotDo : MethodName := ⟨RX6, "whyNotDo", "()I"⟩
abbrev cX6_whyNotSponge : ByteArray := prog_8_method_11_code
def yX6_whyNotSponge : MethodName := ⟨RX6, "whyNotSponge", "(I)I"⟩
abbrev cX6_whyNotCarry : ByteArray := prog_8_method_12_code
def yX6_whyNotCarry : MethodName := ⟨RX6, "whyNotCarry", "(II)I"⟩
abbrev cX6_doDeed : ByteArray := prog_8_method_13_code
def yX6_doDeed : MethodName := ⟨RX6, "doDeed", "(III)V"⟩
abbrev cX6_spongeOff : ByteArray := prog_8_method_14_code
def yX6_spongeOff : MethodName := ⟨RX6, "spongeOff", "(I)V"⟩
abbrev cX6_carryTo : ByteArray := prog_8_method_15_code
def yX6_carryTo : MethodName := ⟨RX6, "carryTo", "(II)V"⟩
abbrev cX6_goDays : ByteArray := prog_8_method_16_code
def yX6_goDays : MethodName := ⟨RX6, "goDays", "(I)I"⟩
abbrev cX6_witnessesBy : ByteArray := prog_8_method_17_code
def yX6_witnessesBy : MethodName := ⟨RX6, "witnessesBy", "(II)I"⟩
abbrev cX6_witnessesDue : ByteArray := prog_8_method_18_code
def yX6_witnessesDue : MethodName := ⟨RX6, "witnessesDue", "(I)I"⟩
abbrev cX6_isProved : ByteArray := prog_8_method_19_code
def yX6_isProved : MethodName := ⟨RX6, "isProved", "(I)Z"⟩
abbrev cX6_actsShown : ByteArray := prog_8_method_20_code
def yX6_actsShown : MethodName := ⟨RX6, "actsShown", "(I)I"⟩
abbrev cX6_leavesDue : ByteArray := prog_8_method_21_code
def yX6_leavesDue : MethodName := ⟨RX6, "leavesDue", "(I)I"⟩
abbrev cX6_actsProved : ByteArray := prog_8_method_22_code
def yX6_actsProved : MethodName := ⟨RX6, "actsProved", "()I"⟩
abbrev cX6_actsOf : ByteArray := prog_8_method_23_code
def yX6_actsOf : MethodName := ⟨RX6, "actsOf", "(I)I"⟩
abbrev cX6_actsOfDeed : ByteArray := prog_8_method_24_code
def yX6_actsOfDeed : MethodName := ⟨RX6, "actsOfDeed", "(I)I"⟩
abbrev cX6_plantsThatSee : ByteArray := prog_8_method_25_code
def yX6_plantsThatSee : MethodName := ⟨RX6, "plantsThatSee", "()I"⟩
abbrev cX6_plantsWithDust : ByteArray := prog_8_method_26_code
def yX6_plantsWithDust : MethodName := ⟨RX6, "plantsWithDust", "()I"⟩
abbrev cX6_parloursWithDust : ByteArray := prog_8_method_27_code
def yX6_parloursWithDust : MethodName := ⟨RX6, "parloursWithDust", "()I"⟩
abbrev cX6_parloursUnseen : ByteArray := prog_8_method_28_code
def yX6_parloursUnseen : MethodName := ⟨RX6, "parloursUnseen", "()I"⟩
abbrev cX6_allLeavesCome : ByteArray := prog_8_method_29_code
def yX6_allLeavesCome : MethodName := ⟨RX6, "allLeavesCome", "()I"⟩
abbrev cX6_allLeavesDue : ByteArray := prog_8_method_30_code
def yX6_allLeavesDue : MethodName := ⟨RX6, "allLeavesDue", "()I"⟩
def RX7 : String := "ParlourLeaves$Past"
def TX7 : u_T := fun k => match k with
  | 0 => ("ParlourLeaves$Past", "lives", "[LParlourLeaves$Life;", true)
  | 1 => ("ParlourLeaves$Past", "next", "I", false)
  | _ => ("ParlourLeaves$Past", "kept", "I", false)
def tyX7 : Nat → FieldType := fun k => match k with
  | 0 => .array (.object "ParlourLeaves$Life")
  | 1 => .int
  | _ => .int
abbrev wsX70 : List Cond := u_ws RX7 TX7 3
theorem nmX7 : ∀ a, a < 3 → ∀ b, b < 3 → a ≠ b → (TX7 a).2.1 ≠ (TX7 b).2.1 := by decide +kernel
theorem tyX7_ok : ∀ k, k < 3 → parseFieldDescriptor (TX7 k).2.2.1 = some (tyX7 k) := by decide +kernel
abbrev cX7_init : ByteArray := prog_9_method_1_code
def yX7_init : MethodName := ⟨RX7, "<init>", "(LParlourLeaves$House;)V"⟩
abbrev cX7_forget : ByteArray := prog_9_method_2_code
def yX7_forget : MethodName := ⟨RX7, "forget", "()V"⟩
abbrev cX7_keep : ByteArray := prog_9_method_3_code
def yX7_keep : MethodName := ⟨RX7, "keep", "(LParlourLeaves$Life;)V"⟩
abbrev cX7_takeBack : ByteArray := prog_9_method_4_code
def yX7_takeBack : MethodName := ⟨RX7, "takeBack", "(LParlourLeaves$Life;)I"⟩
def RX8 : String := "ParlourLeaves$Sentence"
def TX8 : u_T := fun k => match k with
  | 0 => ("ParlourLeaves$Sentence", "kind", "[I", true)
  | 1 => ("ParlourLeaves$Sentence", "first", "[I", true)
  | 2 => ("ParlourLeaves$Sentence", "second", "[I", true)
  | 3 => ("ParlourLeaves$Sentence", "open", "[I", true)
  | 4 => ("ParlourLeaves$Sentence", "parts", "I", false)
  | _ => ("ParlourLeaves$Sentence", "ones", "I", false)
def tyX8 : Nat → FieldType := fun k => match k with
  | 0 => .array .int
  | 1 => .array .int
  | 2 => .array .int
  | 3 => .array .int
  | 4 => .int
  | _ => .int
abbrev wsX80 : List Cond := u_ws RX8 TX8 6
theorem nmX8 : ∀ a, a < 6 → ∀ b, b < 6 → a ≠ b → (TX8 a).2.1 ≠ (TX8 b).2.1 := by decide +kernel
theorem tyX8_ok : ∀ k, k < 6 → parseFieldDescriptor (TX8 k).2.2.1 = some (tyX8 k) := by decide +kernel
abbrev cX8_init : ByteArray := prog_10_method_1_code
def yX8_init : MethodName := ⟨RX8, "<init>", "()V"⟩
abbrev cX8_clear : ByteArray := prog_10_method_2_code
def yX8_clear : MethodName := ⟨RX8, "clear", "()V"⟩
abbrev cX8_copyFrom : ByteArray := prog_10_method_3_code
def yX8_copyFrom : MethodName := ⟨RX8, "copyFrom", "(LParlourLeaves$Sentence;)V"⟩
abbrev cX8_add : ByteArray := prog_10_method_4_code
def yX8_add : MethodName := ⟨RX8, "add", "(III)Z"⟩
abbrev cX8_readFrom : ByteArray := prog_10_method_5_code
def yX8_readFrom : MethodName := ⟨RX8, "readFrom", "(LParlourLeaves$Tape;LParlourLeaves$House;)Z"⟩
abbrev cX8_readCond : ByteArray := prog_10_method_6_code
def yX8_readCond : MethodName := ⟨RX8, "readCond", "(LParlourLeaves$Tape;LParlourLeaves$House;I)Z"⟩
abbrev cX8_readOne : ByteArray := prog_10_method_8_code
def yX8_readOne : MethodName := ⟨RX8, "readOne", "(LParlourLeaves$Tape;LParlourLeaves$House;I)Z"⟩
abbrev cX8_canBeginOne : ByteArray := prog_10_method_9_code
def yX8_canBeginOne : MethodName := ⟨RX8, "canBeginOne", "(I)Z"⟩
abbrev cX8_plantsOf : ByteArray := prog_10_method_10_code
def yX8_plantsOf : MethodName := ⟨RX8, "plantsOf", "(LParlourLeaves$Life;)I"⟩
abbrev cX8_plantsThat : ByteArray := prog_10_method_11_code
def yX8_plantsThat : MethodName := ⟨RX8, "plantsThat", "(LParlourLeaves$Life;I)I"⟩
abbrev cX8_isSo : ByteArray := prog_10_method_12_code
def yX8_isSo : MethodName := ⟨RX8, "isSo", "(LParlourLeaves$Life;II)Z"⟩
abbrev cX8_compares : ByteArray := prog_10_method_13_code
def yX8_compares : MethodName := ⟨RX8, "compares", "(II)Z"⟩
def RX9 : String := "ParlourLeaves$Tape"
def TX9 : u_T := fun k => match k with
  | 0 => ("ParlourLeaves$Tape", "bytes", "[C", true)
  | 1 => ("ParlourLeaves$Tape", "length", "I", false)
  | 2 => ("ParlourLeaves$Tape", "keys", "[J", true)
  | 3 => ("ParlourLeaves$Tape", "limit", "I", false)
  | 4 => ("ParlourLeaves$Tape", "next", "I", false)
  | 5 => ("ParlourLeaves$Tape", "token", "I", false)
  | 6 => ("ParlourLeaves$Tape", "start", "I", false)
  | 7 => ("ParlourLeaves$Tape", "word", "J", false)
  | 8 => ("ParlourLeaves$Tape", "value", "I", false)
  | 9 => ("ParlourLeaves$Tape", "faultKind", "I", false)
  | _ => ("ParlourLeaves$Tape", "faultPlace", "I", false)
def tyX9 : Nat → FieldType := fun k => match k with
  | 0 => .array .char
  | 1 => .int
  | 2 => .array .long
  | 3 => .int
  | 4 => .int
  | 5 => .int
  | 6 => .int
  | 7 => .long
  | 8 => .int
  | 9 => .int
  | _ => .int
abbrev wsX90 : List Cond := u_ws RX9 TX9 11
theorem nmX9 : ∀ a, a < 11 → ∀ b, b < 11 → a ≠ b → (TX9 a).2.1 ≠ (TX9 b).2.1 := by decide +kernel
theorem tyX9_ok : ∀ k, k < 11 → parseFieldDescriptor (TX9 k).2.2.1 = some (tyX9 k) := by decide +kernel
abbrev cX9_init : ByteArray := prog_11_method_1_code
def yX9_init : MethodName := ⟨RX9, "<init>", "()V"⟩
abbrev cX9_addNumber : ByteArray := prog_11_method_2_code
def yX9_addNumber : MethodName := ⟨RX9, "addNumber", "(I)V"⟩
abbrev cX9_clear : ByteArray := prog_11_method_3_code
def yX9_clear : MethodName := ⟨RX9, "clear", "()V"⟩
abbrev cX9_beginReading : ByteArray := prog_11_method_4_code
def yX9_beginReading : MethodName := ⟨RX9, "beginReading", "(I)V"⟩
abbrev cX9_read : ByteArray := prog_11_method_5_code
def yX9_read : MethodName := ⟨RX9, "read", "()V"⟩
abbrev cX9_readRun : ByteArray := prog_11_method_6_code
def yX9_readRun : MethodName := ⟨RX9, "readRun", "()V"⟩
abbrev cX9_failAt : ByteArray := prog_11_method_7_code
def yX9_failAt : MethodName := ⟨RX9, "failAt", "(II)Z"⟩
abbrev cX9_fail : ByteArray := prog_11_method_8_code
def yX9_fail : MethodName := ⟨RX9, "fail", "(I)Z"⟩
abbrev cX9_take : ByteArray := prog_11_method_9_code
def yX9_take : MethodName := ⟨RX9, "take", "(I)Z"⟩
abbrev cX9_takeKnown : ByteArray := prog_11_method_10_code
def yX9_takeKnown : MethodName := ⟨RX9, "takeKnown", "(LParlourLeaves$House;I)I"⟩
abbrev cX9_takeSign : ByteArray := prog_11_method_11_code
def yX9_takeSign : MethodName := ⟨RX9, "takeSign", "()I"⟩
abbrev cX9_takeNumber : ByteArray := prog_11_method_12_code
def yX9_takeNumber : MethodName := ⟨RX9, "takeNumber", "(II)I"⟩
def RX10 : String := "ParlourLeaves$Way"
def TX10 : u_T := fun k => match k with
  | 0 => ("ParlourLeaves$Way", "queue", "[I", true)
  | 1 => ("ParlourLeaves$Way", "from", "[I", true)
  | 2 => ("ParlourLeaves$Way", "met", "[Z", true)
  | 3 => ("ParlourLeaves$Way", "steps", "[I", true)
  | _ => ("ParlourLeaves$Way", "length", "I", false)
def tyX10 : Nat → FieldType := fun k => match k with
  | 0 => .array .int
  | 1 => .array .int
  | 2 => .array .boolean
  | 3 => .array .int
  | _ => .int
abbrev wsX100 : List Cond := u_ws RX10 TX10 5
theorem nmX10 : ∀ a, a < 5 → ∀ b, b < 5 → a ≠ b → (TX10 a).2.1 ≠ (TX10 b).2.1 := by decide +kernel
theorem tyX10_ok : ∀ k, k < 5 → parseFieldDescriptor (TX10 k).2.2.1 = some (tyX10 k) := by decide +kernel
abbrev cX10_init : ByteArray := prog_12_method_1_code
def yX10_init : MethodName := ⟨RX10, "<init>", "()V"⟩
abbrev cX10_find : ByteArray := prog_12_method_2_code
def yX10_find : MethodName := ⟨RX10, "find", "(LParlourLeaves$House;II)I"⟩
abbrev cX10_state : ByteArray := prog_12_method_3_code
def yX10_state : MethodName := ⟨RX10, "state", "(II)I"⟩
abbrev cX10_keepWay : ByteArray := prog_12_method_4_code
def yX10_keepWay : MethodName := ⟨RX10, "keepWay", "(I)V"⟩
def RX11 : String := "ParlourLeaves"
def TX11 : u_T := fun k => match k with
  | 0 => ("ParlourLeaves", "tape", "LParlourLeaves$Tape;", true)
  | 1 => ("ParlourLeaves", "house", "LParlourLeaves$House;", true)
  | 2 => ("ParlourLeaves", "life", "LParlourLeaves$Life;", true)
  | 3 => ("ParlourLeaves", "trial", "LParlourLeaves$Life;", true)
  | 4 => ("ParlourLeaves", "past", "LParlourLeaves$Past;", true)
  | 5 => ("ParlourLeaves", "images", "[LParlourLeaves$Image;", true)
  | 6 => ("ParlourLeaves", "houseText", "LParlourLeaves$HouseText;", true)
  | 7 => ("ParlourLeaves", "bookText", "LParlourLeaves$BookText;", true)
  | 8 => ("ParlourLeaves", "sentence", "LParlourLeaves$Sentence;", true)
  | 9 => ("ParlourLeaves", "draftSentence", "LParlourLeaves$Sentence;", true)
  | 10 => ("ParlourLeaves", "foresight", "LParlourLeaves$Foresight;", true)
  | 11 => ("ParlourLeaves", "way", "LParlourLeaves$Way;", true)
  | 12 => ("ParlourLeaves", "draws", "LParlourLeaves$Draws;", true)
  | 13 => ("ParlourLeaves", "card", "Ljava/lang/StringBuilder;", true)
  | 14 => ("ParlourLeaves", "faultKind", "I", false)
  | 15 => ("ParlourLeaves", "asked", "I", false)
  | _ => ("ParlourLeaves", "covered", "I", false)
def tyX11 : Nat → FieldType := fun k => match k with
  | 0 => .object "ParlourLeaves$Tape"
  | 1 => .object "ParlourLeaves$House"
  | 2 => .object "ParlourLeaves$Life"
  | 3 => .object "ParlourLeaves$Life"
  | 4 => .object "ParlourLeaves$Past"
  | 5 => .array (.object "ParlourLeaves$Image")
  | 6 => .object "ParlourLeaves$HouseText"
  | 7 => .object "ParlourLeaves$BookText"
  | 8 => .object "ParlourLeaves$Sentence"
  | 9 => .object "ParlourLeaves$Sentence"
  | 10 => .object "ParlourLeaves$Foresight"
  | 11 => .object "ParlourLeaves$Way"
  | 12 => .object "ParlourLeaves$Draws"
  | 13 => .object "java/lang/StringBuilder"
  | 14 => .int
  | 15 => .int
  | _ => .int
abbrev wsX110 : List Cond := u_ws RX11 TX11 17
theorem nmX11 : ∀ a, a < 17 → ∀ b, b < 17 → a ≠ b → (TX11 a).2.1 ≠ (TX11 b).2.1 := by decide +kernel
theorem tyX11_ok : ∀ k, k < 17 → parseFieldDescriptor (TX11 k).2.2.1 = some (tyX11 k) := by decide +kernel
abbrev cX11_init : ByteArray := prog_1_method_1_code
def yX11_init : MethodName := ⟨RX11, "<init>", "()V"⟩
abbrev cX11_feed : ByteArray := prog_1_method_2_code
def yX11_feed : MethodName := ⟨RX11, "feed", "(IIIII)I"⟩
abbrev cX11_end : ByteArray := prog_1_method_3_code
def yX11_end : MethodName := ⟨RX11, "end", "(I)Z"⟩
abbrev cX11_house : ByteArray := prog_1_method_4_code
def yX11_house : MethodName := ⟨RX11, "house", "()I"⟩
abbrev cX11_fault : ByteArray := prog_1_method_5_code
def yX11_fault : MethodName := ⟨RX11, "fault", "()I"⟩
abbrev cX11_plant : ByteArray := prog_1_method_6_code
def yX11_plant : MethodName := ⟨RX11, "plant", "(II)I"⟩
abbrev cX11_act : ByteArray := prog_1_method_7_code
def yX11_act : MethodName := ⟨RX11, "act", "(II)I"⟩
abbrev cX11_comes : ByteArray := prog_1_method_8_code
def yX11_comes : MethodName := ⟨RX11, "comes", "(II)I"⟩
abbrev cX11_sights : ByteArray := prog_1_method_9_code
def yX11_sights : MethodName := ⟨RX11, "sights", "(I)I"⟩
abbrev cX11_now : ByteArray := prog_1_method_10_code
def yX11_now : MethodName := ⟨RX11, "now", "(I)I"⟩
abbrev cX11_does : ByteArray := prog_1_method_11_code
def yX11_does : MethodName := ⟨RX11, "does", "(III)I"⟩
abbrev cX11_sponge : ByteArray := prog_1_method_12_code
def yX11_sponge : MethodName := ⟨RX11, "sponge", "(I)I"⟩
abbrev cX11_carry : ByteArray := prog_1_method_13_code
def yX11_carry : MethodName := ⟨RX11, "carry", "(II)I"⟩
abbrev cX11_days : ByteArray := prog_1_method_14_code
def yX11_days : MethodName := ⟨RX11, "days", "(I)I"⟩
abbrev cX11_undo : ByteArray := prog_1_method_15_code
def yX11_undo : MethodName := ⟨RX11, "undo", "()I"⟩
abbrev cX11_guilty : ByteArray := prog_1_method_16_code
def yX11_guilty : MethodName := ⟨RX11, "guilty", "(II)I"⟩
abbrev cX11_proves : ByteArray := prog_1_method_17_code
def yX11_proves : MethodName := ⟨RX11, "proves", "(I)I"⟩
abbrev cX11_hides : ByteArray := prog_1_method_18_code
def yX11_hides : MethodName := ⟨RX11, "hides", "(I)I"⟩
abbrev cX11_dark : ByteArray := prog_1_method_19_code
def yX11_dark : MethodName := ⟨RX11, "dark", "(I)I"⟩
abbrev cX11_fits : ByteArray := prog_1_method_20_code
def yX11_fits : MethodName := ⟨RX11, "fits", "()I"⟩
abbrev cX11_ask : ByteArray := prog_1_method_21_code
def yX11_ask : MethodName := ⟨RX11, "ask", "()I"⟩
abbrev cX11_cover : ByteArray := prog_1_method_22_code
def yX11_cover : MethodName := ⟨RX11, "cover", "()I"⟩
abbrev cX11_covering : ByteArray := prog_1_method_23_code
def yX11_covering : MethodName := ⟨RX11, "covering", "()I"⟩
abbrev cX11_round : ByteArray := prog_1_method_24_code
def yX11_round : MethodName := ⟨RX11, "round", "(I)I"⟩
abbrev cX11_roundAt : ByteArray := prog_1_method_25_code
def yX11_roundAt : MethodName := ⟨RX11, "roundAt", "(I)I"⟩
abbrev cX11_choice : ByteArray := prog_1_method_26_code
def yX11_choice : MethodName := ⟨RX11, "choice", "()I"⟩
abbrev cX11_chosen : ByteArray := prog_1_method_27_code
def yX11_chosen : MethodName := ⟨RX11, "chosen", "(I)I"⟩
abbrev cX11_elder : ByteArray := prog_1_method_28_code
def yX11_elder : MethodName := ⟨RX11, "elder", "()I"⟩
abbrev cX11_card : ByteArray := prog_1_method_29_code
def yX11_card : MethodName := ⟨RX11, "card", "(I)I"⟩
abbrev cX11_byteAt : ByteArray := prog_1_method_30_code
def yX11_byteAt : MethodName := ⟨RX11, "byteAt", "(I)I"⟩
abbrev cX11_drawn : ByteArray := prog_1_method_31_code
def yX11_drawn : MethodName := ⟨RX11, "drawn", "(II)I"⟩
abbrev cX11_odds : ByteArray := prog_1_method_32_code
def yX11_odds : MethodName := ⟨RX11, "odds", "(III)I"⟩
abbrev cX11_book : ByteArray := prog_1_method_33_code
def yX11_book : MethodName := ⟨RX11, "book", "(I)I"⟩
abbrev cX11_told : ByteArray := prog_1_method_34_code
def yX11_told : MethodName := ⟨RX11, "told", "(I)I"⟩
abbrev cX11_sentence : ByteArray := prog_1_method_35_code
def yX11_sentence : MethodName := ⟨RX11, "sentence", "()I"⟩
abbrev cX11_said : ByteArray := prog_1_method_36_code
def yX11_said : MethodName := ⟨RX11, "said", "(I)I"⟩
abbrev cX11_image : ByteArray := prog_1_method_37_code
def yX11_image : MethodName := ⟨RX11, "image", "(I)Z"⟩
abbrev cX11_restore : ByteArray := prog_1_method_38_code
def yX11_restore : MethodName := ⟨RX11, "restore", "(I)Z"⟩
abbrev cX11_count : ByteArray := prog_1_method_39_code
def yX11_count : MethodName := ⟨RX11, "count", "(I)I"⟩
abbrev cX11_endReading : ByteArray := prog_1_method_40_code
def yX11_endReading : MethodName := ⟨RX11, "endReading", "()V"⟩
abbrev cX11_plantAt : ByteArray := prog_1_method_41_code
def yX11_plantAt : MethodName := ⟨RX11, "plantAt", "(II)I"⟩
abbrev cX11_allBits : ByteArray := prog_1_method_42_code
def yX11_allBits : MethodName := ⟨RX11, "allBits", "(I)I"⟩
abbrev cX11_hasBit : ByteArray := prog_1_method_43_code
def yX11_hasBit : MethodName := ⟨RX11, "hasBit", "(II)Z"⟩
def RX12 : String := "ParlourLeavesModel"
def TX12 : u_T := fun k => match k with
  | 0 => ("ParlourLeavesModel", "thrown", "I", false)
  | 1 => ("ParlourLeavesModel", "tape", "[I", true)
  | 2 => ("ParlourLeavesModel", "taped", "I", false)
  | 3 => ("ParlourLeavesModel", "size", "I", false)
  | 4 => ("ParlourLeavesModel", "limit", "I", false)
  | 5 => ("ParlourLeavesModel", "to", "I", false)
  | 6 => ("ParlourLeavesModel", "from", "I", false)
  | 7 => ("ParlourLeavesModel", "kind", "I", false)
  | 8 => ("ParlourLeavesModel", "number", "I", false)
  | 9 => ("ParlourLeavesModel", "sign", "I", false)
  | 10 => ("ParlourLeavesModel", "fault", "I", false)
  | 11 => ("ParlourLeavesModel", "place", "I", false)
  | 12 => ("ParlourLeavesModel", "word", "J", false)
  | 13 => ("ParlourLeavesModel", "told", "I", false)
  | 14 => ("ParlourLeavesModel", "now", "[I", true)
  | 15 => ("ParlourLeavesModel", "read", "[I", true)
  | 16 => ("ParlourLeavesModel", "kept", "[I", true)
  | 17 => ("ParlourLeavesModel", "snaps", "[I", true)
  | 18 => ("ParlourLeavesModel", "aside", "[I", true)
  | 19 => ("ParlourLeavesModel", "name", "[J", true)
  | 20 => ("ParlourLeavesModel", "readName", "[J", true)
  | 21 => ("ParlourLeavesModel", "keptName", "[J", true)
  | 22 => ("ParlourLeavesModel", "isKept", "[Z", true)
  | 23 => ("ParlourLeavesModel", "onces", "[Z", true)
  | 24 => ("ParlourLeavesModel", "snapMany", "I", false)
  | 25 => ("ParlourLeavesModel", "asking", "I", false)
  | 26 => ("ParlourLeavesModel", "covering", "I", false)
  | 27 => ("ParlourLeavesModel", "steps", "[I", true)
  | 28 => ("ParlourLeavesModel", "walk", "[I", true)
  | 29 => ("ParlourLeavesModel", "walkMany", "I", false)
  | 30 => ("ParlourLeavesModel", "chosen", "[I", true)
  | 31 => ("ParlourLeavesModel", "hasChosen", "Z", false)
  | 32 => ("ParlourLeavesModel", "darkest", "I", false)
  | 33 => ("ParlourLeavesModel", "text", "[I", true)
  | 34 => ("ParlourLeavesModel", "texts", "I", false)
  | 35 => ("ParlourLeavesModel", "seed", "I", false)
  | 36 => ("ParlourLeavesModel", "line", "[I", true)
  | 37 => ("ParlourLeavesModel", "written", "[I", true)
  | 38 => ("ParlourLeavesModel", "lineMany", "I", false)
  | 39 => ("ParlourLeavesModel", "hasWritten", "Z", false)
  | 40 => ("ParlourLeavesModel", "node", "[I", true)
  | 41 => ("ParlourLeavesModel", "nodes", "I", false)
  | 42 => ("ParlourLeavesModel", "onesMany", "I", false)
  | 43 => ("ParlourLeavesModel", "within", "I", false)
  | _ => ("ParlourLeavesModel", "top", "I", false)
def tyX12 : Nat → FieldType := fun k => match k with
  | 0 => .int
  | 1 => .array .int
  | 2 => .int
  | 3 => .int
  | 4 => .int
  | 5 => .int
  | 6 => .int
  | 7 => .int
  | 8 => .int
  | 9 => .int
  | 10 => .int
  | 11 => .int
  | 12 => .long
  | 13 => .int
  | 14 => .array .int
  | 15 => .array .int
  | 16 => .array .int
  | 17 => .array .int
  | 18 => .array .int
  | 19 => .array .long
  | 20 => .array .long
  | 21 => .array .long
  | 22 => .array .boolean
  | 23 => .array .boolean
  | 24 => .int
  | 25 => .int
  | 26 => .int
  | 27 => .array .int
  | 28 => .array .int
  | 29 => .int
  | 30 => .array .int
  | 31 => .boolean
  | 32 => .int
  | 33 => .array .int
  | 34 => .int
  | 35 => .int
  | 36 => .array .int
  | 37 => .array .int
  | 38 => .int
  | 39 => .boolean
  | 40 => .array .int
  | 41 => .int
  | 42 => .int
  | 43 => .int
  | _ => .int
abbrev wsX120 : List Cond := u_ws RX12 TX12 45
theorem nmX12 : ∀ a, a < 45 → ∀ b, b < 45 → a ≠ b → (TX12 a).2.1 ≠ (TX12 b).2.1 := by decide +kernel
theorem tyX12_ok : ∀ k, k < 45 → parseFieldDescriptor (TX12 k).2.2.1 = some (tyX12 k) := by decide +kernel
abbrev cX12_thrown : ByteArray := prog_14_method_1_code
def yX12_thrown : MethodName := ⟨RX12, "thrown", "()I"⟩
abbrev cX12_refuse : ByteArray := prog_14_method_2_code
def yX12_refuse : MethodName := ⟨RX12, "refuse", "()I"⟩
abbrev cX12_come : ByteArray := prog_14_method_3_code
def yX12_come : MethodName := ⟨RX12, "come", "(I)V"⟩
abbrev cX12_feed : ByteArray := prog_14_method_4_code
def yX12_feed : MethodName := ⟨RX12, "feed", "(IIIII)I"⟩
abbrev cX12_end : ByteArray := prog_14_method_5_code
def yX12_end : MethodName := ⟨RX12, "end", "(I)Z"⟩
abbrev cX12_take : ByteArray := prog_14_method_6_code
def yX12_take : MethodName := ⟨RX12, "take", "()I"⟩
abbrev cX12_isIn : ByteArray := prog_14_method_7_code
def yX12_isIn : MethodName := ⟨RX12, "isIn", "(III)Z"⟩
abbrev cX12_has : ByteArray := prog_14_method_8_code
def yX12_has : MethodName := ⟨RX12, "has", "(II)Z"⟩
abbrev cX12_bits : ByteArray := prog_14_method_9_code
def yX12_bits : MethodName := ⟨RX12, "bits", "(I)I"⟩
abbrev cX12_least : ByteArray := prog_14_method_10_code
def yX12_least : MethodName := ⟨RX12, "least", "(II)I"⟩
abbrev cX12_size : ByteArray := prog_14_method_11_code
def yX12_size : MethodName := ⟨RX12, "size", "(I)I"⟩
abbrev cX12_tapeAt : ByteArray := prog_14_method_13_code
def yX12_tapeAt : MethodName := ⟨RX12, "tapeAt", "(I)I"⟩
abbrev cX12_isDigit : ByteArray := prog_14_method_14_code
def yX12_isDigit : MethodName := ⟨RX12, "isDigit", "(I)Z"⟩
abbrev cX12_isLetter : ByteArray := prog_14_method_15_code
def yX12_isLetter : MethodName := ⟨RX12, "isLetter", "(I)Z"⟩
abbrev cX12_go : ByteArray := prog_14_method_16_code
def yX12_go : MethodName := ⟨RX12, "go", "()V"⟩
abbrev cX12_spelt : ByteArray := prog_14_method_17_code
def yX12_spelt : MethodName := ⟨RX12, "spelt", "(IIIIIII)J"⟩
abbrev cX12_wordOf : ByteArray := prog_14_method_18_code
def yX12_wordOf : MethodName := ⟨RX12, "wordOf", "(I)J"⟩
abbrev cX12_isWord : ByteArray := prog_14_method_19_code
def yX12_isWord : MethodName := ⟨RX12, "isWord", "(I)Z"⟩
abbrev cX12_isSign : ByteArray := prog_14_method_20_code
def yX12_isSign : MethodName := ⟨RX12, "isSign", "(I)Z"⟩
abbrev cX12_isName : ByteArray := prog_14_method_21_code
def yX12_isName : MethodName := ⟨RX12, "isName", "()Z"⟩
abbrev cX12_bad : ByteArray := prog_14_method_22_code
def yX12_bad : MethodName := ⟨RX12, "bad", "(I)Z"⟩
abbrev cX12_readNumber : ByteArray := prog_14_method_23_code
def yX12_readNumber : MethodName := ⟨RX12, "readNumber", "(II)Z"⟩
abbrev cX12_readEnd : ByteArray := prog_14_method_24_code
def yX12_readEnd : MethodName := ⟨RX12, "readEnd", "()Z"⟩
abbrev cX12_begin : ByteArray := prog_14_method_25_code
def yX12_begin : MethodName := ⟨RX12, "begin", "(I)V"⟩
abbrev cX12_init : ByteArray := prog_14_method_26_code
def yX12_init : MethodName := ⟨RX12, "<init>", "()V"⟩
abbrev cX12_startSo : ByteArray := prog_14_method_27_code
def yX12_startSo : MethodName := ⟨RX12, "startSo", "()V"⟩
abbrev cX12_findIn : ByteArray := prog_14_method_28_code
def yX12_findIn : MethodName := ⟨RX12, "findIn", "([JIIJ)I"⟩
abbrev cX12_isTaken : ByteArray := prog_14_method_29_code
def yX12_isTaken : MethodName := ⟨RX12, "isTaken", "()Z"⟩
abbrev cX12_readNew : ByteArray := prog_14_method_30_code
def yX12_readNew : MethodName := ⟨RX12, "readNew", "(I)Z"⟩
abbrev cX12_isParlourHere : ByteArray := prog_14_method_31_code
def yX12_isParlourHere : MethodName := ⟨RX12, "isParlourHere", "()Z"⟩
abbrev cX12_readFirst : ByteArray := prog_14_method_32_code
def yX12_readFirst : MethodName := ⟨RX12, "readFirst", "(II)Z"⟩
abbrev cX12_put : ByteArray := prog_14_method_33_code
def yX12_put : MethodName := ⟨RX12, "put", "(IZ)Z"⟩
abbrev cX12_readPlain : ByteArray := prog_14_method_34_code
def yX12_readPlain : MethodName := ⟨RX12, "readPlain", "(III)Z"⟩
abbrev cX12_readSight : ByteArray := prog_14_method_35_code
def yX12_readSight : MethodName := ⟨RX12, "readSight", "()Z"⟩
abbrev cX12_readPlant : ByteArray := prog_14_method_36_code
def yX12_readPlant : MethodName := ⟨RX12, "readPlant", "()Z"⟩
abbrev cX12_readOnce : ByteArray := prog_14_method_37_code
def yX12_readOnce : MethodName := ⟨RX12, "readOnce", "(III)Z"⟩
abbrev cX12_readLine : ByteArray := prog_14_method_38_code
def yX12_readLine : MethodName := ⟨RX12, "readLine", "()Z"⟩
abbrev cX12_house : ByteArray := prog_14_method_39_code
def yX12_house : MethodName := ⟨RX12, "house", "()I"⟩
abbrev cX12_fault : ByteArray := prog_14_method_40_code
def yX12_fault : MethodName := ⟨RX12, "fault", "()I"⟩
abbrev cX12_isParlour : ByteArray := prog_14_method_41_code
def yX12_isParlour : MethodName := ⟨RX12, "isParlour", "(I)Z"⟩
abbrev cX12_isPlant : ByteArray := prog_14_method_42_code
def yX12_isPlant : MethodName := ⟨RX12, "isPlant", "(I)Z"⟩
abbrev cX12_isPerson : ByteArray := prog_14_method_43_code
def yX12_isPerson : MethodName := ⟨RX12, "isPerson", "(I)Z"⟩
abbrev cX12_isDeed : ByteArray := prog_14_method_44_code
def yX12_isDeed : MethodName := ⟨RX12, "isDeed", "(I)Z"⟩
abbrev cX12_isAct : ByteArray := prog_14_method_45_code
def yX12_isAct : MethodName := ⟨RX12, "isAct", "(I)Z"⟩
abbrev cX12_isFern : ByteArray := prog_14_method_46_code
def yX12_isFern : MethodName := ⟨RX12, "isFern", "(I)Z"⟩
abbrev cX12_around : ByteArray := prog_14_method_47_code
def yX12_around : MethodName := ⟨RX12, "around", "(I)I"⟩
abbrev cX12_seesOf : ByteArray := prog_14_method_48_code
def yX12_seesOf : MethodName := ⟨RX12, "seesOf", "(II)I"⟩
abbrev cX12_leafOf : ByteArray := prog_14_method_49_code
def yX12_leafOf : MethodName := ⟨RX12, "leafOf", "(II)I"⟩
abbrev cX12_hasCome : ByteArray := prog_14_method_50_code
def yX12_hasCome : MethodName := ⟨RX12, "hasCome", "(II)Z"⟩
abbrev cX12_willCome : ByteArray := prog_14_method_51_code
def yX12_willCome : MethodName := ⟨RX12, "willCome", "(II)Z"⟩
abbrev cX12_shownBy : ByteArray := prog_14_method_52_code
def yX12_shownBy : MethodName := ⟨RX12, "shownBy", "(IZ)I"⟩
abbrev cX12_plantsFor : ByteArray := prog_14_method_53_code
def yX12_plantsFor : MethodName := ⟨RX12, "plantsFor", "(IZ)I"⟩
abbrev cX12_isProved : ByteArray := prog_14_method_54_code
def yX12_isProved : MethodName := ⟨RX12, "isProved", "(I)Z"⟩
abbrev cX12_proved : ByteArray := prog_14_method_55_code
def yX12_proved : MethodName := ⟨RX12, "proved", "()I"⟩
abbrev cX12_plant : ByteArray := prog_14_method_56_code
def yX12_plant : MethodName := ⟨RX12, "plant", "(II)I"⟩
abbrev cX12_act : ByteArray := prog_14_method_57_code
def yX12_act : MethodName := ⟨RX12, "act", "(II)I"⟩
abbrev cX12_comes : ByteArray := prog_14_method_58_code
def yX12_comes : MethodName := ⟨RX12, "comes", "(II)I"⟩
abbrev cX12_sights : ByteArray := prog_14_method_59_code
def yX12_sights : MethodName := ⟨RX12, "sights", "(I)I"⟩
abbrev cX12_unseen : ByteArray := prog_14_method_60_code
def yX12_unseen : MethodName := ⟨RX12, "unseen", "(I)I"⟩
abbrev cX12_now : ByteArray := prog_14_method_61_code
def yX12_now : MethodName := ⟨RX12, "now", "(I)I"⟩
abbrev cX12_snap : ByteArray := prog_14_method_62_code
def yX12_snap : MethodName := ⟨RX12, "snap", "()V"⟩
abbrev cX12_why : ByteArray := prog_14_method_63_code
def yX12_why : MethodName := ⟨RX12, "why", "(III)I"⟩
abbrev cX12_nextLeaf : ByteArray := prog_14_method_64_code
def yX12_nextLeaf : MethodName := ⟨RX12, "nextLeaf", "(I)I"⟩
abbrev cX12_doDeed : ByteArray := prog_14_method_65_code
def yX12_doDeed : MethodName := ⟨RX12, "doDeed", "(III)V"⟩
abbrev cX12_live : ByteArray := prog_14_method_66_code
def yX12_live : MethodName := ⟨RX12, "live", "(IIII)V"⟩
abbrev cX12_doIt : ByteArray := prog_14_method_67_code
def yX12_doIt : MethodName := ⟨RX12, "doIt", "(IIIIZ)I"⟩
abbrev cX12_does : ByteArray := prog_14_method_68_code
def yX12_does : MethodName := ⟨RX12, "does", "(III)I"⟩
abbrev cX12_sponge : ByteArray := prog_14_method_69_code
def yX12_sponge : MethodName := ⟨RX12, "sponge", "(I)I"⟩
abbrev cX12_carry : ByteArray := prog_14_method_70_code
def yX12_carry : MethodName := ⟨RX12, "carry", "(II)I"⟩
abbrev cX12_undo : ByteArray := prog_14_method_71_code
def yX12_undo : MethodName := ⟨RX12, "undo", "()I"⟩
abbrev cX12_oneDay : ByteArray := prog_14_method_72_code
def yX12_oneDay : MethodName := ⟨RX12, "oneDay", "()V"⟩
abbrev cX12_passDays : ByteArray := prog_14_method_73_code
def yX12_passDays : MethodName := ⟨RX12, "passDays", "(I)I"⟩
abbrev cX12_days : ByteArray := prog_14_method_74_code
def yX12_days : MethodName := ⟨RX12, "days", "(I)I"⟩
abbrev cX12_guilty : ByteArray := prog_14_method_75_code
def yX12_guilty : MethodName := ⟨RX12, "guilty", "(II)I"⟩
abbrev cX12_proves : ByteArray := prog_14_method_76_code
def yX12_proves : MethodName := ⟨RX12, "proves", "(I)I"⟩
abbrev cX12_hides : ByteArray := prog_14_method_77_code
def yX12_hides : MethodName := ⟨RX12, "hides", "(I)I"⟩
abbrev cX12_dark : ByteArray := prog_14_method_78_code
def yX12_dark : MethodName := ⟨RX12, "dark", "(I)I"⟩
abbrev cX12_fits : ByteArray := prog_14_method_79_code
def yX12_fits : MethodName := ⟨RX12, "fits", "()I"⟩
abbrev cX12_ask : ByteArray := prog_14_method_80_code
def yX12_ask : MethodName := ⟨RX12, "ask", "()I"⟩
abbrev cX12_seenFrom : ByteArray := prog_14_method_81_code
def yX12_seenFrom : MethodName := ⟨RX12, "seenFrom", "(I)I"⟩
abbrev cX12_cover : ByteArray := prog_14_method_82_code
def yX12_cover : MethodName := ⟨RX12, "cover", "()I"⟩
abbrev cX12_covering : ByteArray := prog_14_method_83_code
def yX12_covering : MethodName := ⟨RX12, "covering", "()I"⟩
abbrev cX12_cellOf : ByteArray := prog_14_method_84_code
def yX12_cellOf : MethodName := ⟨RX12, "cellOf", "(II)I"⟩
abbrev cX12_laySteps : ByteArray := prog_14_method_85_code
def yX12_laySteps : MethodName := ⟨RX12, "laySteps", "()V"⟩
abbrev cX12_round : ByteArray := prog_14_method_86_code
def yX12_round : MethodName := ⟨RX12, "round", "(I)I"⟩
abbrev cX12_roundAt : ByteArray := prog_14_method_87_code
def yX12_roundAt : MethodName := ⟨RX12, "roundAt", "(I)I"⟩
abbrev cX12_fewestSee : ByteArray := prog_14_method_88_code
def yX12_fewestSee : MethodName := ⟨RX12, "fewestSee", "()I"⟩
abbrev cX12_choose : ByteArray := prog_14_method_89_code
def yX12_choose : MethodName := ⟨RX12, "choose", "(II)V"⟩
abbrev cX12_choice : ByteArray := prog_14_method_90_code
def yX12_choice : MethodName := ⟨RX12, "choice", "()I"⟩
abbrev cX12_chosen : ByteArray := prog_14_method_91_code
def yX12_chosen : MethodName := ⟨RX12, "chosen", "(I)I"⟩
abbrev cX12_elder : ByteArray := prog_14_method_92_code
def yX12_elder : MethodName := ⟨RX12, "elder", "()I"⟩
abbrev cX12_write : ByteArray := prog_14_method_93_code
def yX12_write : MethodName := ⟨RX12, "write", "(I)V"⟩
abbrev cX12_writeWord : ByteArray := prog_14_method_94_code
def yX12_writeWord : MethodName := ⟨RX12, "writeWord", "(J)V"⟩
abbrev cX12_writeNumber : ByteArray := prog_14_method_95_code
def yX12_writeNumber : MethodName := ⟨RX12, "writeNumber", "(I)V"⟩
abbrev cX12_writeNext : ByteArray := prog_14_method_96_code
def yX12_writeNext : MethodName := ⟨RX12, "writeNext", "(J)V"⟩
abbrev cX12_card : ByteArray := prog_14_method_97_code
def yX12_card : MethodName := ⟨RX12, "card", "(I)I"⟩
abbrev cX12_byteAt : ByteArray := prog_14_method_98_code
def yX12_byteAt : MethodName := ⟨RX12, "byteAt", "(I)I"⟩
abbrev cX12_draw : ByteArray := prog_14_method_99_code
def yX12_draw : MethodName := ⟨RX12, "draw", "(I)I"⟩
abbrev cX12_drawsFor : ByteArray := prog_14_method_100_code
def yX12_drawsFor : MethodName := ⟨RX12, "drawsFor", "(I)V"⟩
abbrev cX12_drawDays : ByteArray := prog_14_method_101_code
def yX12_drawDays : MethodName := ⟨RX12, "drawDays", "(II)I"⟩
abbrev cX12_drawn : ByteArray := prog_14_method_102_code
def yX12_drawn : MethodName := ⟨RX12, "drawn", "(II)I"⟩
abbrev cX12_layAside : ByteArray := prog_14_method_103_code
def yX12_layAside : MethodName := ⟨RX12, "layAside", "()V"⟩
abbrev cX12_takeBack : ByteArray := prog_14_method_104_code
def yX12_takeBack : MethodName := ⟨RX12, "takeBack", "()V"⟩
abbrev cX12_isProvedOf : ByteArray := prog_14_method_105_code
def yX12_isProvedOf : MethodName := ⟨RX12, "isProvedOf", "(I)Z"⟩
abbrev cX12_odds : ByteArray := prog_14_method_106_code
def yX12_odds : MethodName := ⟨RX12, "odds", "(III)I"⟩
abbrev cX12_keep : ByteArray := prog_14_method_107_code
def yX12_keep : MethodName := ⟨RX12, "keep", "(IZ)Z"⟩
abbrev cX12_readNamed : ByteArray := prog_14_method_108_code
def yX12_readNamed : MethodName := ⟨RX12, "readNamed", "(II)Z"⟩
abbrev cX12_readParlourName : ByteArray := prog_14_method_109_code
def yX12_readParlourName : MethodName := ⟨RX12, "readParlourName", "()Z"⟩
abbrev cX12_readPlantName : ByteArray := prog_14_method_110_code
def yX12_readPlantName : MethodName := ⟨RX12, "readPlantName", "()Z"⟩
abbrev cX12_readDoes : ByteArray := prog_14_method_111_code
def yX12_readDoes : MethodName := ⟨RX12, "readDoes", "(I)Z"⟩
abbrev cX12_readBookLine : ByteArray := prog_14_method_112_code
def yX12_readBookLine : MethodName := ⟨RX12, "readBookLine", "()Z"⟩
abbrev cX12_goBy : ByteArray := prog_14_method_113_code
def yX12_goBy : MethodName := ⟨RX12, "goBy", "(I)I"⟩
abbrev cX12_book : ByteArray := prog_14_method_114_code
def yX12_book : MethodName := ⟨RX12, "book", "(I)I"⟩
abbrev cX12_stay : ByteArray := prog_14_method_115_code
def yX12_stay : MethodName := ⟨RX12, "stay", "(Z)V"⟩
abbrev cX12_told : ByteArray := prog_14_method_116_code
def yX12_told : MethodName := ⟨RX12, "told", "(I)I"⟩
abbrev cX12_tellsOf : ByteArray := prog_14_method_117_code
def yX12_tellsOf : MethodName := ⟨RX12, "tellsOf", "(II)Z"⟩
abbrev cX12_saysOne : ByteArray := prog_14_method_118_code
def yX12_saysOne : MethodName := ⟨RX12, "saysOne", "(IIII)I"⟩
abbrev cX12_readOr : ByteArray := prog_14_method_119_code
def yX12_readOr : MethodName := ⟨RX12, "readOr", "()Z"⟩
abbrev cX12_readAnd : ByteArray := prog_14_method_120_code
def yX12_readAnd : MethodName := ⟨RX12, "readAnd", "()Z"⟩
abbrev cX12_readSaid : ByteArray := prog_14_method_121_code
def yX12_readSaid : MethodName := ⟨RX12, "readSaid", "()Z"⟩
abbrev cX12_readNot : ByteArray := prog_14_method_122_code
def yX12_readNot : MethodName := ⟨RX12, "readNot", "()Z"⟩
abbrev cX12_readBracket : ByteArray := prog_14_method_123_code
def yX12_readBracket : MethodName := ⟨RX12, "readBracket", "()Z"⟩
abbrev cX12_readOf : ByteArray := prog_14_method_124_code
def yX12_readOf : MethodName := ⟨RX12, "readOf", "(I)Z"⟩
abbrev cX12_readCompare : ByteArray := prog_14_method_125_code
def yX12_readCompare : MethodName := ⟨RX12, "readCompare", "(I)Z"⟩
abbrev cX12_sentence : ByteArray := prog_14_method_126_code
def yX12_sentence : MethodName := ⟨RX12, "sentence", "()I"⟩
abbrev cX12_holds : ByteArray := prog_14_method_127_code
def yX12_holds : MethodName := ⟨RX12, "holds", "(II)Z"⟩
abbrev cX12_said : ByteArray := prog_14_method_128_code
def yX12_said : MethodName := ⟨RX12, "said", "(I)I"⟩
abbrev cX12_image : ByteArray := prog_14_method_129_code
def yX12_image : MethodName := ⟨RX12, "image", "(I)Z"⟩
abbrev cX12_restore : ByteArray := prog_14_method_130_code
def yX12_restore : MethodName := ⟨RX12, "restore", "(I)Z"⟩
abbrev cX12_count : ByteArray := prog_14_method_131_code
def yX12_count : MethodName := ⟨RX12, "count", "(I)I"⟩
def RJ4 : String := "java/lang/StringBuilder"
def TJ4 : u_T := fun k => match k with
  | 0 => ("java/lang/AbstractStringBuilder", "value", "[B", false)
  | 1 => ("java/lang/AbstractStringBuilder", "coder", "B", false)
  | 2 => ("java/lang/AbstractStringBuilder", "maybeLatin1", "Z", false)
  | _ => ("java/lang/AbstractStringBuilder", "count", "I", false)
def tyJ4 : Nat → FieldType := fun k => match k with
  | 0 => .array .byte
  | 1 => .byte
  | 2 => .boolean
  | _ => .int
abbrev wsJ40 : List Cond := u_ws RJ4 TJ4 4
theorem nmJ4 : ∀ a, a < 4 → ∀ b, b < 4 → a ≠ b → (TJ4 a).2.1 ≠ (TJ4 b).2.1 := by decide +kernel
theorem tyJ4_ok : ∀ k, k < 4 → parseFieldDescriptor (TJ4 k).2.2.1 = some (tyJ4 k) := by decide +kernel
abbrev cJ4_init_da8c8 : ByteArray := prog_27_method_1_code
def yJ4_init_da8c8 : MethodName := ⟨RJ4, "<init>", "()V"⟩
abbrev cJ4_append_15ec4 : ByteArray := prog_27_method_7_code
def yJ4_append_15ec4 : MethodName := ⟨RJ4, "append", "(Ljava/lang/String;)Ljava/lang/StringBuilder;"⟩
abbrev cJ4_append_cf468 : ByteArray := prog_27_method_14_code
def yJ4_append_cf468 : MethodName := ⟨RJ4, "append", "(C)Ljava/lang/StringBuilder;"⟩
abbrev cJ4_append_bf812 : ByteArray := prog_27_method_15_code
def yJ4_append_bf812 : MethodName := ⟨RJ4, "append", "(I)Ljava/lang/StringBuilder;"⟩
abbrev cJ4_charAt_5068e : ByteArray := prog_27_method_88_code
def yJ4_charAt_5068e : MethodName := ⟨RJ4, "charAt", "(I)C"⟩
abbrev cJ4_setLength_d00df : ByteArray := prog_27_method_89_code
def yJ4_setLength_d00df : MethodName := ⟨RJ4, "setLength", "(I)V"⟩
abbrev cJ4_length_8abf5 : ByteArray := prog_27_method_93_code
def yJ4_length_8abf5 : MethodName := ⟨RJ4, "length", "()I"⟩
def RL : String := "ParlourLeavesLaw"
abbrev cL_plant : ByteArray := method_3_code
def yL_plant : MethodName := ⟨RL, "plant", "(LParlourLeaves;II[J)I"⟩
abbrev cL_act : ByteArray := method_4_code
def yL_act : MethodName := ⟨RL, "act", "(LParlourLeaves;II[J)I"⟩
abbrev cL_law : ByteArray := code
def yL_law : MethodName := ⟨RL, "law", "([I)Z"⟩
abbrev vwCl : List vw_C := [(RJ4, TJ4, 4), (RX0, TX0, 11), (RX1, TX1, 1), (RX2, TX2, 5), (RX3, TX3, 12), (RX4, TX4, 4), (RX5, TX5, 4), (RX6, TX6, 11), (RX7, TX7, 3), (RX8, TX8, 6), (RX9, TX9, 11), (RX10, TX10, 5), (RX11, TX11, 17), (RX12, TX12, 45)]
def zTB : List Cond := lw_tbl.filter goodWord
