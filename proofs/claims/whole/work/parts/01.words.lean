-- ===== PART A: goes FIRST, ahead of the names: the tables' words, and 'selects' of the private methods out of them =====
/-- a private method of a class that the tables say can be made, by its rows of tables_1 -/
def lw_okq (q : MethodName × Nat) : Prop := (q.1.cls ≠ "java/lang/invoke/MethodHandle" ∧ q.1.cls ≠ "java/lang/invoke/VarHandle") ∧ Cond.instantiable q.1.cls q.2 ∈ tables_1 ∧ Cond.privateMethod q.1 ∈ tables_1 ∧ Cond.instanceMethod q.1 ∈ tables_1
theorem lw_p0 : lw_okq (⟨"FullStopWells$Rule", "takeThing", "(I)Z"⟩, 9) := ⟨⟨by decide +kernel, by decide +kernel⟩, List.mem_of_getElem? (i := 241) (by decide +kernel), List.mem_of_getElem? (i := 284) (by decide +kernel), List.mem_of_getElem? (i := 285) (by decide +kernel)⟩
theorem lw_p1 : lw_okq (⟨"FullStopWells$Rule", "hold", "(I)V"⟩, 9) := ⟨⟨by decide +kernel, by decide +kernel⟩, List.mem_of_getElem? (i := 241) (by decide +kernel), List.mem_of_getElem? (i := 288) (by decide +kernel), List.mem_of_getElem? (i := 289) (by decide +kernel)⟩
theorem lw_p2 : lw_okq (⟨"FullStopWells$Rule", "open", "()Z"⟩, 9) := ⟨⟨by decide +kernel, by decide +kernel⟩, List.mem_of_getElem? (i := 241) (by decide +kernel), List.mem_of_getElem? (i := 292) (by decide +kernel), List.mem_of_getElem? (i := 293) (by decide +kernel)⟩
theorem lw_p3 : lw_okq (⟨"FullStopWells$Rule", "emit", "(I)V"⟩, 9) := ⟨⟨by decide +kernel, by decide +kernel⟩, List.mem_of_getElem? (i := 241) (by decide +kernel), List.mem_of_getElem? (i := 299) (by decide +kernel), List.mem_of_getElem? (i := 300) (by decide +kernel)⟩
theorem lw_p4 : lw_okq (⟨"FullStopWells$Rule", "takeBehind", "(I)Z"⟩, 9) := ⟨⟨by decide +kernel, by decide +kernel⟩, List.mem_of_getElem? (i := 241) (by decide +kernel), List.mem_of_getElem? (i := 303) (by decide +kernel), List.mem_of_getElem? (i := 304) (by decide +kernel)⟩
theorem lw_p5 : lw_okq (⟨"FullStopWells$Rule", "lengthen", "(I)Z"⟩, 9) := ⟨⟨by decide +kernel, by decide +kernel⟩, List.mem_of_getElem? (i := 241) (by decide +kernel), List.mem_of_getElem? (i := 307) (by decide +kernel), List.mem_of_getElem? (i := 308) (by decide +kernel)⟩
theorem lw_p6 : lw_okq (⟨"FullStopWells$Rule", "close", "()Z"⟩, 9) := ⟨⟨by decide +kernel, by decide +kernel⟩, List.mem_of_getElem? (i := 241) (by decide +kernel), List.mem_of_getElem? (i := 311) (by decide +kernel), List.mem_of_getElem? (i := 312) (by decide +kernel)⟩
theorem lw_p7 : lw_okq (⟨"FullStopWells$Rule", "release", "(I)V"⟩, 9) := ⟨⟨by decide +kernel, by decide +kernel⟩, List.mem_of_getElem? (i := 241) (by decide +kernel), List.mem_of_getElem? (i := 315) (by decide +kernel), List.mem_of_getElem? (i := 316) (by decide +kernel)⟩
theorem lw_p8 : lw_okq (⟨"FullStopWells$Ground", "villagesNear", "(II)I"⟩, 6) := ⟨⟨by decide +kernel, by decide +kernel⟩, List.mem_of_getElem? (i := 66) (by decide +kernel), List.mem_of_getElem? (i := 406) (by decide +kernel), List.mem_of_getElem? (i := 407) (by decide +kernel)⟩
theorem lw_p9 : lw_okq (⟨"FullStopWells$State", "setFrom", "(LFullStopWells$State;II)V"⟩, 8) := ⟨⟨by decide +kernel, by decide +kernel⟩, List.mem_of_getElem? (i := 103) (by decide +kernel), List.mem_of_getElem? (i := 442) (by decide +kernel), List.mem_of_getElem? (i := 443) (by decide +kernel)⟩
theorem lw_p10 : lw_okq (⟨"FullStopWells", "readLines", "(LFullStopWells$State;)I"⟩, 13) := ⟨⟨by decide +kernel, by decide +kernel⟩, List.mem_of_getElem? (i := 25) (by decide +kernel), List.mem_of_getElem? (i := 446) (by decide +kernel), List.mem_of_getElem? (i := 447) (by decide +kernel)⟩
theorem lw_p11 : lw_okq (⟨"FullStopWells", "readSpareRule", "()I"⟩, 13) := ⟨⟨by decide +kernel, by decide +kernel⟩, List.mem_of_getElem? (i := 25) (by decide +kernel), List.mem_of_getElem? (i := 469) (by decide +kernel), List.mem_of_getElem? (i := 470) (by decide +kernel)⟩
theorem lw_p12 : lw_okq (⟨"FullStopWells", "tellTwo", "(IJJ)I"⟩, 13) := ⟨⟨by decide +kernel, by decide +kernel⟩, List.mem_of_getElem? (i := 25) (by decide +kernel), List.mem_of_getElem? (i := 546) (by decide +kernel), List.mem_of_getElem? (i := 547) (by decide +kernel)⟩
theorem lw_p13 : lw_okq (⟨"FullStopWells", "tellOne", "(IJ)I"⟩, 13) := ⟨⟨by decide +kernel, by decide +kernel⟩, List.mem_of_getElem? (i := 25) (by decide +kernel), List.mem_of_getElem? (i := 550) (by decide +kernel), List.mem_of_getElem? (i := 551) (by decide +kernel)⟩
theorem lw_p14 : lw_okq (⟨"FullStopWells", "pushIfDone", "(I)I"⟩, 13) := ⟨⟨by decide +kernel, by decide +kernel⟩, List.mem_of_getElem? (i := 25) (by decide +kernel), List.mem_of_getElem? (i := 570) (by decide +kernel), List.mem_of_getElem? (i := 571) (by decide +kernel)⟩
theorem lw_p15 : lw_okq (⟨"FullStopWells", "faultInYear", "()I"⟩, 13) := ⟨⟨by decide +kernel, by decide +kernel⟩, List.mem_of_getElem? (i := 25) (by decide +kernel), List.mem_of_getElem? (i := 615) (by decide +kernel), List.mem_of_getElem? (i := 616) (by decide +kernel)⟩
def lw_privs_1 : List (MethodName × Nat) := [(⟨"FullStopWells$Rule", "takeThing", "(I)Z"⟩, 9), (⟨"FullStopWells$Rule", "hold", "(I)V"⟩, 9), (⟨"FullStopWells$Rule", "open", "()Z"⟩, 9), (⟨"FullStopWells$Rule", "emit", "(I)V"⟩, 9), (⟨"FullStopWells$Rule", "takeBehind", "(I)Z"⟩, 9), (⟨"FullStopWells$Rule", "lengthen", "(I)Z"⟩, 9), (⟨"FullStopWells$Rule", "close", "()Z"⟩, 9), (⟨"FullStopWells$Rule", "release", "(I)V"⟩, 9), (⟨"FullStopWells$Ground", "villagesNear", "(II)I"⟩, 6), (⟨"FullStopWells$State", "setFrom", "(LFullStopWells$State;II)V"⟩, 8), (⟨"FullStopWells", "readLines", "(LFullStopWells$State;)I"⟩, 13), (⟨"FullStopWells", "readSpareRule", "()I"⟩, 13), (⟨"FullStopWells", "tellTwo", "(IJJ)I"⟩, 13), (⟨"FullStopWells", "tellOne", "(IJ)I"⟩, 13), (⟨"FullStopWells", "pushIfDone", "(I)I"⟩, 13), (⟨"FullStopWells", "faultInYear", "()I"⟩, 13)]
theorem lw_r1 : ∀ q ∈ lw_privs_1, lw_okq q := List.forall_mem_cons.mpr ⟨lw_p0, List.forall_mem_cons.mpr ⟨lw_p1, List.forall_mem_cons.mpr ⟨lw_p2, List.forall_mem_cons.mpr ⟨lw_p3, List.forall_mem_cons.mpr ⟨lw_p4, List.forall_mem_cons.mpr ⟨lw_p5, List.forall_mem_cons.mpr ⟨lw_p6, List.forall_mem_cons.mpr ⟨lw_p7, List.forall_mem_cons.mpr ⟨lw_p8, List.forall_mem_cons.mpr ⟨lw_p9, List.forall_mem_cons.mpr ⟨lw_p10, List.forall_mem_cons.mpr ⟨lw_p11, List.forall_mem_cons.mpr ⟨lw_p12, List.forall_mem_cons.mpr ⟨lw_p13, List.forall_mem_cons.mpr ⟨lw_p14, List.forall_mem_cons.mpr ⟨lw_p15, fun _ h => absurd h List.not_mem_nil⟩⟩⟩⟩⟩⟩⟩⟩⟩⟩⟩⟩⟩⟩⟩⟩
theorem lw_p16 : lw_okq (⟨"FullStopWells", "act", "(I)I"⟩, 13) := ⟨⟨by decide +kernel, by decide +kernel⟩, List.mem_of_getElem? (i := 25) (by decide +kernel), List.mem_of_getElem? (i := 681) (by decide +kernel), List.mem_of_getElem? (i := 682) (by decide +kernel)⟩
theorem lw_p17 : lw_okq (⟨"FullStopWells", "tryAsItIs", "(I)I"⟩, 13) := ⟨⟨by decide +kernel, by decide +kernel⟩, List.mem_of_getElem? (i := 25) (by decide +kernel), List.mem_of_getElem? (i := 699) (by decide +kernel), List.mem_of_getElem? (i := 700) (by decide +kernel)⟩
theorem lw_p18 : lw_okq (⟨"FullStopWells", "drinksItsFill", "(II)Z"⟩, 13) := ⟨⟨by decide +kernel, by decide +kernel⟩, List.mem_of_getElem? (i := 25) (by decide +kernel), List.mem_of_getElem? (i := 767) (by decide +kernel), List.mem_of_getElem? (i := 768) (by decide +kernel)⟩
theorem lw_p19 : lw_okq (⟨"FullStopWells", "tellThree", "(IJJJ)I"⟩, 13) := ⟨⟨by decide +kernel, by decide +kernel⟩, List.mem_of_getElem? (i := 25) (by decide +kernel), List.mem_of_getElem? (i := 814) (by decide +kernel), List.mem_of_getElem? (i := 815) (by decide +kernel)⟩
theorem lw_p20 : lw_okq (⟨"FullStopWells", "sideFrom", "(I)I"⟩, 13) := ⟨⟨by decide +kernel, by decide +kernel⟩, List.mem_of_getElem? (i := 25) (by decide +kernel), List.mem_of_getElem? (i := 822) (by decide +kernel), List.mem_of_getElem? (i := 823) (by decide +kernel)⟩
theorem lw_p21 : lw_okq (⟨"FullStopWells$Hearsay", "isSo", "(IIILFullStopWells$State;LFullStopWells$Ground;)Z"⟩, 3) := ⟨⟨by decide +kernel, by decide +kernel⟩, List.mem_of_getElem? (i := 197) (by decide +kernel), List.mem_of_getElem? (i := 869) (by decide +kernel), List.mem_of_getElem? (i := 870) (by decide +kernel)⟩
theorem lw_p22 : lw_okq (⟨"FullStopWells", "faultInOffers", "()I"⟩, 13) := ⟨⟨by decide +kernel, by decide +kernel⟩, List.mem_of_getElem? (i := 25) (by decide +kernel), List.mem_of_getElem? (i := 901) (by decide +kernel), List.mem_of_getElem? (i := 902) (by decide +kernel)⟩
theorem lw_p23 : lw_okq (⟨"FullStopWells", "takenBehind", "(I)I"⟩, 13) := ⟨⟨by decide +kernel, by decide +kernel⟩, List.mem_of_getElem? (i := 25) (by decide +kernel), List.mem_of_getElem? (i := 905) (by decide +kernel), List.mem_of_getElem? (i := 906) (by decide +kernel)⟩
theorem lw_p24 : lw_okq (⟨"FullStopWells", "tryDrawn", "()V"⟩, 13) := ⟨⟨by decide +kernel, by decide +kernel⟩, List.mem_of_getElem? (i := 25) (by decide +kernel), List.mem_of_getElem? (i := 946) (by decide +kernel), List.mem_of_getElem? (i := 947) (by decide +kernel)⟩
theorem lw_p25 : lw_okq (⟨"java/lang/Throwable", "fillInStackTrace", "(I)Ljava/lang/Throwable;"⟩, 6) := ⟨⟨by decide +kernel, by decide +kernel⟩, List.mem_of_getElem? (i := 1024) (by decide +kernel), List.mem_of_getElem? (i := 1022) (by decide +kernel), List.mem_of_getElem? (i := 1023) (by decide +kernel)⟩
theorem lw_p26 : lw_okq (⟨"FullStopWells", "drawersFrom", "(I)I"⟩, 13) := ⟨⟨by decide +kernel, by decide +kernel⟩, List.mem_of_getElem? (i := 25) (by decide +kernel), List.mem_of_getElem? (i := 1050) (by decide +kernel), List.mem_of_getElem? (i := 1051) (by decide +kernel)⟩
theorem lw_p27 : lw_okq (⟨"FullStopWellsModel", "beginText", "(I)V"⟩, 42) := ⟨⟨by decide +kernel, by decide +kernel⟩, List.mem_of_getElem? (i := 1070) (by decide +kernel), List.mem_of_getElem? (i := 1222) (by decide +kernel), List.mem_of_getElem? (i := 1223) (by decide +kernel)⟩
theorem lw_p28 : lw_okq (⟨"FullStopWellsModel", "begin", "([BII)V"⟩, 42) := ⟨⟨by decide +kernel, by decide +kernel⟩, List.mem_of_getElem? (i := 1070) (by decide +kernel), List.mem_of_getElem? (i := 1226) (by decide +kernel), List.mem_of_getElem? (i := 1227) (by decide +kernel)⟩
theorem lw_p29 : lw_okq (⟨"FullStopWellsModel", "oneOf", "(CI)I"⟩, 42) := ⟨⟨by decide +kernel, by decide +kernel⟩, List.mem_of_getElem? (i := 1070) (by decide +kernel), List.mem_of_getElem? (i := 1230) (by decide +kernel), List.mem_of_getElem? (i := 1231) (by decide +kernel)⟩
theorem lw_p30 : lw_okq (⟨"FullStopWellsModel", "fine", "()Z"⟩, 42) := ⟨⟨by decide +kernel, by decide +kernel⟩, List.mem_of_getElem? (i := 1070) (by decide +kernel), List.mem_of_getElem? (i := 1234) (by decide +kernel), List.mem_of_getElem? (i := 1235) (by decide +kernel)⟩
theorem lw_p31 : lw_okq (⟨"FullStopWellsModel", "here", "()I"⟩, 42) := ⟨⟨by decide +kernel, by decide +kernel⟩, List.mem_of_getElem? (i := 1070) (by decide +kernel), List.mem_of_getElem? (i := 1238) (by decide +kernel), List.mem_of_getElem? (i := 1239) (by decide +kernel)⟩
def lw_privs_2 : List (MethodName × Nat) := [(⟨"FullStopWells", "act", "(I)I"⟩, 13), (⟨"FullStopWells", "tryAsItIs", "(I)I"⟩, 13), (⟨"FullStopWells", "drinksItsFill", "(II)Z"⟩, 13), (⟨"FullStopWells", "tellThree", "(IJJJ)I"⟩, 13), (⟨"FullStopWells", "sideFrom", "(I)I"⟩, 13), (⟨"FullStopWells$Hearsay", "isSo", "(IIILFullStopWells$State;LFullStopWells$Ground;)Z"⟩, 3), (⟨"FullStopWells", "faultInOffers", "()I"⟩, 13), (⟨"FullStopWells", "takenBehind", "(I)I"⟩, 13), (⟨"FullStopWells", "tryDrawn", "()V"⟩, 13), (⟨"java/lang/Throwable", "fillInStackTrace", "(I)Ljava/lang/Throwable;"⟩, 6), (⟨"FullStopWells", "drawersFrom", "(I)I"⟩, 13), (⟨"FullStopWellsModel", "beginText", "(I)V"⟩, 42), (⟨"FullStopWellsModel", "begin", "([BII)V"⟩, 42), (⟨"FullStopWellsModel", "oneOf", "(CI)I"⟩, 42), (⟨"FullStopWellsModel", "fine", "()Z"⟩, 42), (⟨"FullStopWellsModel", "here", "()I"⟩, 42)]
theorem lw_r2 : ∀ q ∈ lw_privs_2, lw_okq q := List.forall_mem_cons.mpr ⟨lw_p16, List.forall_mem_cons.mpr ⟨lw_p17, List.forall_mem_cons.mpr ⟨lw_p18, List.forall_mem_cons.mpr ⟨lw_p19, List.forall_mem_cons.mpr ⟨lw_p20, List.forall_mem_cons.mpr ⟨lw_p21, List.forall_mem_cons.mpr ⟨lw_p22, List.forall_mem_cons.mpr ⟨lw_p23, List.forall_mem_cons.mpr ⟨lw_p24, List.forall_mem_cons.mpr ⟨lw_p25, List.forall_mem_cons.mpr ⟨lw_p26, List.forall_mem_cons.mpr ⟨lw_p27, List.forall_mem_cons.mpr ⟨lw_p28, List.forall_mem_cons.mpr ⟨lw_p29, List.forall_mem_cons.mpr ⟨lw_p30, List.forall_mem_cons.mpr ⟨lw_p31, fun _ h => absurd h List.not_mem_nil⟩⟩⟩⟩⟩⟩⟩⟩⟩⟩⟩⟩⟩⟩⟩⟩
theorem lw_p32 : lw_okq (⟨"FullStopWellsModel", "fault", "(I)V"⟩, 42) := ⟨⟨by decide +kernel, by decide +kernel⟩, List.mem_of_getElem? (i := 1070) (by decide +kernel), List.mem_of_getElem? (i := 1242) (by decide +kernel), List.mem_of_getElem? (i := 1243) (by decide +kernel)⟩
theorem lw_p33 : lw_okq (⟨"FullStopWellsModel", "wasRight", "()Z"⟩, 42) := ⟨⟨by decide +kernel, by decide +kernel⟩, List.mem_of_getElem? (i := 1070) (by decide +kernel), List.mem_of_getElem? (i := 1246) (by decide +kernel), List.mem_of_getElem? (i := 1247) (by decide +kernel)⟩
theorem lw_p34 : lw_okq (⟨"FullStopWellsModel", "told", "()V"⟩, 42) := ⟨⟨by decide +kernel, by decide +kernel⟩, List.mem_of_getElem? (i := 1070) (by decide +kernel), List.mem_of_getElem? (i := 1250) (by decide +kernel), List.mem_of_getElem? (i := 1251) (by decide +kernel)⟩
theorem lw_p35 : lw_okq (⟨"FullStopWellsModel", "readWell", "(I)V"⟩, 42) := ⟨⟨by decide +kernel, by decide +kernel⟩, List.mem_of_getElem? (i := 1070) (by decide +kernel), List.mem_of_getElem? (i := 1258) (by decide +kernel), List.mem_of_getElem? (i := 1259) (by decide +kernel)⟩
theorem lw_p36 : lw_okq (⟨"FullStopWellsModel", "passes", "(C)Z"⟩, 42) := ⟨⟨by decide +kernel, by decide +kernel⟩, List.mem_of_getElem? (i := 1070) (by decide +kernel), List.mem_of_getElem? (i := 1265) (by decide +kernel), List.mem_of_getElem? (i := 1266) (by decide +kernel)⟩
theorem lw_p37 : lw_okq (⟨"FullStopWellsModel", "readRule", "()Z"⟩, 42) := ⟨⟨by decide +kernel, by decide +kernel⟩, List.mem_of_getElem? (i := 1070) (by decide +kernel), List.mem_of_getElem? (i := 1276) (by decide +kernel), List.mem_of_getElem? (i := 1277) (by decide +kernel)⟩
theorem lw_p38 : lw_okq (⟨"FullStopWellsModel", "held", "(I)I"⟩, 42) := ⟨⟨by decide +kernel, by decide +kernel⟩, List.mem_of_getElem? (i := 1070) (by decide +kernel), List.mem_of_getElem? (i := 1280) (by decide +kernel), List.mem_of_getElem? (i := 1281) (by decide +kernel)⟩
theorem lw_p39 : lw_okq (⟨"FullStopWellsModel", "sum", "(I)I"⟩, 42) := ⟨⟨by decide +kernel, by decide +kernel⟩, List.mem_of_getElem? (i := 1070) (by decide +kernel), List.mem_of_getElem? (i := 1284) (by decide +kernel), List.mem_of_getElem? (i := 1285) (by decide +kernel)⟩
theorem lw_p40 : lw_okq (⟨"FullStopWellsModel", "product", "(I)I"⟩, 42) := ⟨⟨by decide +kernel, by decide +kernel⟩, List.mem_of_getElem? (i := 1070) (by decide +kernel), List.mem_of_getElem? (i := 1288) (by decide +kernel), List.mem_of_getElem? (i := 1289) (by decide +kernel)⟩
theorem lw_p41 : lw_okq (⟨"FullStopWellsModel", "thing", "(I)I"⟩, 42) := ⟨⟨by decide +kernel, by decide +kernel⟩, List.mem_of_getElem? (i := 1070) (by decide +kernel), List.mem_of_getElem? (i := 1292) (by decide +kernel), List.mem_of_getElem? (i := 1293) (by decide +kernel)⟩
theorem lw_p42 : lw_okq (⟨"FullStopWellsModel", "need", "(C)V"⟩, 42) := ⟨⟨by decide +kernel, by decide +kernel⟩, List.mem_of_getElem? (i := 1070) (by decide +kernel), List.mem_of_getElem? (i := 1296) (by decide +kernel), List.mem_of_getElem? (i := 1297) (by decide +kernel)⟩
theorem lw_p43 : lw_okq (⟨"FullStopWellsModel", "number", "(I)I"⟩, 42) := ⟨⟨by decide +kernel, by decide +kernel⟩, List.mem_of_getElem? (i := 1070) (by decide +kernel), List.mem_of_getElem? (i := 1300) (by decide +kernel), List.mem_of_getElem? (i := 1301) (by decide +kernel)⟩
theorem lw_p44 : lw_okq (⟨"FullStopWellsModel", "isWell", "(I)Z"⟩, 42) := ⟨⟨by decide +kernel, by decide +kernel⟩, List.mem_of_getElem? (i := 1070) (by decide +kernel), List.mem_of_getElem? (i := 1311) (by decide +kernel), List.mem_of_getElem? (i := 1312) (by decide +kernel)⟩
theorem lw_p45 : lw_okq (⟨"FullStopWellsModel", "lost", "()I"⟩, 42) := ⟨⟨by decide +kernel, by decide +kernel⟩, List.mem_of_getElem? (i := 1070) (by decide +kernel), List.mem_of_getElem? (i := 1315) (by decide +kernel), List.mem_of_getElem? (i := 1316) (by decide +kernel)⟩
theorem lw_p46 : lw_okq (⟨"FullStopWellsModel", "flowOf", "([II)I"⟩, 42) := ⟨⟨by decide +kernel, by decide +kernel⟩, List.mem_of_getElem? (i := 1070) (by decide +kernel), List.mem_of_getElem? (i := 1322) (by decide +kernel), List.mem_of_getElem? (i := 1323) (by decide +kernel)⟩
theorem lw_p47 : lw_okq (⟨"FullStopWellsModel", "farOf", "(II)I"⟩, 42) := ⟨⟨by decide +kernel, by decide +kernel⟩, List.mem_of_getElem? (i := 1070) (by decide +kernel), List.mem_of_getElem? (i := 1326) (by decide +kernel), List.mem_of_getElem? (i := 1327) (by decide +kernel)⟩
def lw_privs_3 : List (MethodName × Nat) := [(⟨"FullStopWellsModel", "fault", "(I)V"⟩, 42), (⟨"FullStopWellsModel", "wasRight", "()Z"⟩, 42), (⟨"FullStopWellsModel", "told", "()V"⟩, 42), (⟨"FullStopWellsModel", "readWell", "(I)V"⟩, 42), (⟨"FullStopWellsModel", "passes", "(C)Z"⟩, 42), (⟨"FullStopWellsModel", "readRule", "()Z"⟩, 42), (⟨"FullStopWellsModel", "held", "(I)I"⟩, 42), (⟨"FullStopWellsModel", "sum", "(I)I"⟩, 42), (⟨"FullStopWellsModel", "product", "(I)I"⟩, 42), (⟨"FullStopWellsModel", "thing", "(I)I"⟩, 42), (⟨"FullStopWellsModel", "need", "(C)V"⟩, 42), (⟨"FullStopWellsModel", "number", "(I)I"⟩, 42), (⟨"FullStopWellsModel", "isWell", "(I)Z"⟩, 42), (⟨"FullStopWellsModel", "lost", "()I"⟩, 42), (⟨"FullStopWellsModel", "flowOf", "([II)I"⟩, 42), (⟨"FullStopWellsModel", "farOf", "(II)I"⟩, 42)]
theorem lw_r3 : ∀ q ∈ lw_privs_3, lw_okq q := List.forall_mem_cons.mpr ⟨lw_p32, List.forall_mem_cons.mpr ⟨lw_p33, List.forall_mem_cons.mpr ⟨lw_p34, List.forall_mem_cons.mpr ⟨lw_p35, List.forall_mem_cons.mpr ⟨lw_p36, List.forall_mem_cons.mpr ⟨lw_p37, List.forall_mem_cons.mpr ⟨lw_p38, List.forall_mem_cons.mpr ⟨lw_p39, List.forall_mem_cons.mpr ⟨lw_p40, List.forall_mem_cons.mpr ⟨lw_p41, List.forall_mem_cons.mpr ⟨lw_p42, List.forall_mem_cons.mpr ⟨lw_p43, List.forall_mem_cons.mpr ⟨lw_p44, List.forall_mem_cons.mpr ⟨lw_p45, List.forall_mem_cons.mpr ⟨lw_p46, List.forall_mem_cons.mpr ⟨lw_p47, fun _ h => absurd h List.not_mem_nil⟩⟩⟩⟩⟩⟩⟩⟩⟩⟩⟩⟩⟩⟩⟩⟩
theorem lw_p48 : lw_okq (⟨"FullStopWellsModel", "drawers", "(I)I"⟩, 42) := ⟨⟨by decide +kernel, by decide +kernel⟩, List.mem_of_getElem? (i := 1070) (by decide +kernel), List.mem_of_getElem? (i := 1333) (by decide +kernel), List.mem_of_getElem? (i := 1334) (by decide +kernel)⟩
theorem lw_p49 : lw_okq (⟨"FullStopWellsModel", "nearest", "([II)I"⟩, 42) := ⟨⟨by decide +kernel, by decide +kernel⟩, List.mem_of_getElem? (i := 1070) (by decide +kernel), List.mem_of_getElem? (i := 1337) (by decide +kernel), List.mem_of_getElem? (i := 1338) (by decide +kernel)⟩
theorem lw_p50 : lw_okq (⟨"FullStopWellsModel", "isVillage", "(I)Z"⟩, 42) := ⟨⟨by decide +kernel, by decide +kernel⟩, List.mem_of_getElem? (i := 1070) (by decide +kernel), List.mem_of_getElem? (i := 1345) (by decide +kernel), List.mem_of_getElem? (i := 1346) (by decide +kernel)⟩
theorem lw_p51 : lw_okq (⟨"FullStopWellsModel", "remember", "([I)V"⟩, 42) := ⟨⟨by decide +kernel, by decide +kernel⟩, List.mem_of_getElem? (i := 1070) (by decide +kernel), List.mem_of_getElem? (i := 1360) (by decide +kernel), List.mem_of_getElem? (i := 1361) (by decide +kernel)⟩
theorem lw_p52 : lw_okq (⟨"FullStopWellsModel", "goSeasons", "([II)V"⟩, 42) := ⟨⟨by decide +kernel, by decide +kernel⟩, List.mem_of_getElem? (i := 1070) (by decide +kernel), List.mem_of_getElem? (i := 1367) (by decide +kernel), List.mem_of_getElem? (i := 1368) (by decide +kernel)⟩
theorem lw_p53 : lw_okq (⟨"FullStopWellsModel", "goSeason", "([I)I"⟩, 42) := ⟨⟨by decide +kernel, by decide +kernel⟩, List.mem_of_getElem? (i := 1070) (by decide +kernel), List.mem_of_getElem? (i := 1371) (by decide +kernel), List.mem_of_getElem? (i := 1372) (by decide +kernel)⟩
theorem lw_p54 : lw_okq (⟨"FullStopWellsModel", "tell", "(J)V"⟩, 42) := ⟨⟨by decide +kernel, by decide +kernel⟩, List.mem_of_getElem? (i := 1070) (by decide +kernel), List.mem_of_getElem? (i := 1375) (by decide +kernel), List.mem_of_getElem? (i := 1376) (by decide +kernel)⟩
theorem lw_p55 : lw_okq (⟨"FullStopWellsModel", "refusesSaying", "([IIII)I"⟩, 42) := ⟨⟨by decide +kernel, by decide +kernel⟩, List.mem_of_getElem? (i := 1070) (by decide +kernel), List.mem_of_getElem? (i := 1387) (by decide +kernel), List.mem_of_getElem? (i := 1388) (by decide +kernel)⟩
theorem lw_p56 : lw_okq (⟨"FullStopWellsModel", "isField", "(I)Z"⟩, 42) := ⟨⟨by decide +kernel, by decide +kernel⟩, List.mem_of_getElem? (i := 1070) (by decide +kernel), List.mem_of_getElem? (i := 1391) (by decide +kernel), List.mem_of_getElem? (i := 1392) (by decide +kernel)⟩
theorem lw_p57 : lw_okq (⟨"FullStopWellsModel", "fields", "()I"⟩, 42) := ⟨⟨by decide +kernel, by decide +kernel⟩, List.mem_of_getElem? (i := 1070) (by decide +kernel), List.mem_of_getElem? (i := 1395) (by decide +kernel), List.mem_of_getElem? (i := 1396) (by decide +kernel)⟩
theorem lw_p58 : lw_okq (⟨"FullStopWellsModel", "refusesClearing", "(I)I"⟩, 42) := ⟨⟨by decide +kernel, by decide +kernel⟩, List.mem_of_getElem? (i := 1070) (by decide +kernel), List.mem_of_getElem? (i := 1410) (by decide +kernel), List.mem_of_getElem? (i := 1411) (by decide +kernel)⟩
theorem lw_p59 : lw_okq (⟨"FullStopWellsModel", "refusesDraught", "(II)I"⟩, 42) := ⟨⟨by decide +kernel, by decide +kernel⟩, List.mem_of_getElem? (i := 1070) (by decide +kernel), List.mem_of_getElem? (i := 1418) (by decide +kernel), List.mem_of_getElem? (i := 1419) (by decide +kernel)⟩
theorem lw_p60 : lw_okq (⟨"FullStopWellsModel", "readAct", "(I)V"⟩, 42) := ⟨⟨by decide +kernel, by decide +kernel⟩, List.mem_of_getElem? (i := 1070) (by decide +kernel), List.mem_of_getElem? (i := 1430) (by decide +kernel), List.mem_of_getElem? (i := 1431) (by decide +kernel)⟩
theorem lw_p61 : lw_okq (⟨"FullStopWellsModel", "act", "(I)Z"⟩, 42) := ⟨⟨by decide +kernel, by decide +kernel⟩, List.mem_of_getElem? (i := 1070) (by decide +kernel), List.mem_of_getElem? (i := 1434) (by decide +kernel), List.mem_of_getElem? (i := 1435) (by decide +kernel)⟩
theorem lw_p62 : lw_okq (⟨"FullStopWellsModel", "thirsts", "()I"⟩, 42) := ⟨⟨by decide +kernel, by decide +kernel⟩, List.mem_of_getElem? (i := 1070) (by decide +kernel), List.mem_of_getElem? (i := 1466) (by decide +kernel), List.mem_of_getElem? (i := 1467) (by decide +kernel)⟩
theorem lw_p63 : lw_okq (⟨"FullStopWellsModel", "parchedIn", "(I)I"⟩, 42) := ⟨⟨by decide +kernel, by decide +kernel⟩, List.mem_of_getElem? (i := 1070) (by decide +kernel), List.mem_of_getElem? (i := 1477) (by decide +kernel), List.mem_of_getElem? (i := 1478) (by decide +kernel)⟩
def lw_privs_4 : List (MethodName × Nat) := [(⟨"FullStopWellsModel", "drawers", "(I)I"⟩, 42), (⟨"FullStopWellsModel", "nearest", "([II)I"⟩, 42), (⟨"FullStopWellsModel", "isVillage", "(I)Z"⟩, 42), (⟨"FullStopWellsModel", "remember", "([I)V"⟩, 42), (⟨"FullStopWellsModel", "goSeasons", "([II)V"⟩, 42), (⟨"FullStopWellsModel", "goSeason", "([I)I"⟩, 42), (⟨"FullStopWellsModel", "tell", "(J)V"⟩, 42), (⟨"FullStopWellsModel", "refusesSaying", "([IIII)I"⟩, 42), (⟨"FullStopWellsModel", "isField", "(I)Z"⟩, 42), (⟨"FullStopWellsModel", "fields", "()I"⟩, 42), (⟨"FullStopWellsModel", "refusesClearing", "(I)I"⟩, 42), (⟨"FullStopWellsModel", "refusesDraught", "(II)I"⟩, 42), (⟨"FullStopWellsModel", "readAct", "(I)V"⟩, 42), (⟨"FullStopWellsModel", "act", "(I)Z"⟩, 42), (⟨"FullStopWellsModel", "thirsts", "()I"⟩, 42), (⟨"FullStopWellsModel", "parchedIn", "(I)I"⟩, 42)]
theorem lw_r4 : ∀ q ∈ lw_privs_4, lw_okq q := List.forall_mem_cons.mpr ⟨lw_p48, List.forall_mem_cons.mpr ⟨lw_p49, List.forall_mem_cons.mpr ⟨lw_p50, List.forall_mem_cons.mpr ⟨lw_p51, List.forall_mem_cons.mpr ⟨lw_p52, List.forall_mem_cons.mpr ⟨lw_p53, List.forall_mem_cons.mpr ⟨lw_p54, List.forall_mem_cons.mpr ⟨lw_p55, List.forall_mem_cons.mpr ⟨lw_p56, List.forall_mem_cons.mpr ⟨lw_p57, List.forall_mem_cons.mpr ⟨lw_p58, List.forall_mem_cons.mpr ⟨lw_p59, List.forall_mem_cons.mpr ⟨lw_p60, List.forall_mem_cons.mpr ⟨lw_p61, List.forall_mem_cons.mpr ⟨lw_p62, List.forall_mem_cons.mpr ⟨lw_p63, fun _ h => absurd h List.not_mem_nil⟩⟩⟩⟩⟩⟩⟩⟩⟩⟩⟩⟩⟩⟩⟩⟩
theorem lw_p64 : lw_okq (⟨"FullStopWellsModel", "coveredBy", "(II)I"⟩, 42) := ⟨⟨by decide +kernel, by decide +kernel⟩, List.mem_of_getElem? (i := 1070) (by decide +kernel), List.mem_of_getElem? (i := 1490) (by decide +kernel), List.mem_of_getElem? (i := 1491) (by decide +kernel)⟩
theorem lw_p65 : lw_okq (⟨"FullStopWellsModel", "isWet", "(II)Z"⟩, 42) := ⟨⟨by decide +kernel, by decide +kernel⟩, List.mem_of_getElem? (i := 1070) (by decide +kernel), List.mem_of_getElem? (i := 1502) (by decide +kernel), List.mem_of_getElem? (i := 1503) (by decide +kernel)⟩
theorem lw_p66 : lw_okq (⟨"FullStopWellsModel", "takeAway", "(I)V"⟩, 42) := ⟨⟨by decide +kernel, by decide +kernel⟩, List.mem_of_getElem? (i := 1070) (by decide +kernel), List.mem_of_getElem? (i := 1510) (by decide +kernel), List.mem_of_getElem? (i := 1511) (by decide +kernel)⟩
theorem lw_p67 : lw_okq (⟨"FullStopWellsModel", "laySteps", "(II)V"⟩, 42) := ⟨⟨by decide +kernel, by decide +kernel⟩, List.mem_of_getElem? (i := 1070) (by decide +kernel), List.mem_of_getElem? (i := 1518) (by decide +kernel), List.mem_of_getElem? (i := 1519) (by decide +kernel)⟩
theorem lw_p68 : lw_okq (⟨"FullStopWellsModel", "isClear", "(II)Z"⟩, 42) := ⟨⟨by decide +kernel, by decide +kernel⟩, List.mem_of_getElem? (i := 1070) (by decide +kernel), List.mem_of_getElem? (i := 1530) (by decide +kernel), List.mem_of_getElem? (i := 1531) (by decide +kernel)⟩
theorem lw_p69 : lw_okq (⟨"FullStopWellsModel", "isDry", "(II)Z"⟩, 42) := ⟨⟨by decide +kernel, by decide +kernel⟩, List.mem_of_getElem? (i := 1070) (by decide +kernel), List.mem_of_getElem? (i := 1539) (by decide +kernel), List.mem_of_getElem? (i := 1540) (by decide +kernel)⟩
theorem lw_p70 : lw_okq (⟨"FullStopWellsModel", "fitting", "()I"⟩, 42) := ⟨⟨by decide +kernel, by decide +kernel⟩, List.mem_of_getElem? (i := 1070) (by decide +kernel), List.mem_of_getElem? (i := 1561) (by decide +kernel), List.mem_of_getElem? (i := 1562) (by decide +kernel)⟩
theorem lw_p71 : lw_okq (⟨"FullStopWellsModel", "fits", "(III)Z"⟩, 42) := ⟨⟨by decide +kernel, by decide +kernel⟩, List.mem_of_getElem? (i := 1070) (by decide +kernel), List.mem_of_getElem? (i := 1565) (by decide +kernel), List.mem_of_getElem? (i := 1566) (by decide +kernel)⟩
theorem lw_p72 : lw_okq (⟨"FullStopWellsModel", "takes", "(II)I"⟩, 42) := ⟨⟨by decide +kernel, by decide +kernel⟩, List.mem_of_getElem? (i := 1070) (by decide +kernel), List.mem_of_getElem? (i := 1590) (by decide +kernel), List.mem_of_getElem? (i := 1591) (by decide +kernel)⟩
theorem lw_p73 : lw_okq (⟨"FullStopWellsModel", "takesOf", "(I)I"⟩, 42) := ⟨⟨by decide +kernel, by decide +kernel⟩, List.mem_of_getElem? (i := 1070) (by decide +kernel), List.mem_of_getElem? (i := 1602) (by decide +kernel), List.mem_of_getElem? (i := 1603) (by decide +kernel)⟩
theorem lw_p74 : lw_okq (⟨"FullStopWellsModel", "parchedIn10", "()I"⟩, 42) := ⟨⟨by decide +kernel, by decide +kernel⟩, List.mem_of_getElem? (i := 1070) (by decide +kernel), List.mem_of_getElem? (i := 1620) (by decide +kernel), List.mem_of_getElem? (i := 1621) (by decide +kernel)⟩
theorem lw_p75 : lw_okq (⟨"FullStopWellsModel", "draw", "(I)I"⟩, 42) := ⟨⟨by decide +kernel, by decide +kernel⟩, List.mem_of_getElem? (i := 1070) (by decide +kernel), List.mem_of_getElem? (i := 1628) (by decide +kernel), List.mem_of_getElem? (i := 1629) (by decide +kernel)⟩
theorem lw_p76 : lw_okq (⟨"FullStopWellsModel", "allAnds", "()I"⟩, 42) := ⟨⟨by decide +kernel, by decide +kernel⟩, List.mem_of_getElem? (i := 1070) (by decide +kernel), List.mem_of_getElem? (i := 1645) (by decide +kernel), List.mem_of_getElem? (i := 1646) (by decide +kernel)⟩
def lw_privs_5 : List (MethodName × Nat) := [(⟨"FullStopWellsModel", "coveredBy", "(II)I"⟩, 42), (⟨"FullStopWellsModel", "isWet", "(II)Z"⟩, 42), (⟨"FullStopWellsModel", "takeAway", "(I)V"⟩, 42), (⟨"FullStopWellsModel", "laySteps", "(II)V"⟩, 42), (⟨"FullStopWellsModel", "isClear", "(II)Z"⟩, 42), (⟨"FullStopWellsModel", "isDry", "(II)Z"⟩, 42), (⟨"FullStopWellsModel", "fitting", "()I"⟩, 42), (⟨"FullStopWellsModel", "fits", "(III)Z"⟩, 42), (⟨"FullStopWellsModel", "takes", "(II)I"⟩, 42), (⟨"FullStopWellsModel", "takesOf", "(I)I"⟩, 42), (⟨"FullStopWellsModel", "parchedIn10", "()I"⟩, 42), (⟨"FullStopWellsModel", "draw", "(I)I"⟩, 42), (⟨"FullStopWellsModel", "allAnds", "()I"⟩, 42)]
theorem lw_r5 : ∀ q ∈ lw_privs_5, lw_okq q := List.forall_mem_cons.mpr ⟨lw_p64, List.forall_mem_cons.mpr ⟨lw_p65, List.forall_mem_cons.mpr ⟨lw_p66, List.forall_mem_cons.mpr ⟨lw_p67, List.forall_mem_cons.mpr ⟨lw_p68, List.forall_mem_cons.mpr ⟨lw_p69, List.forall_mem_cons.mpr ⟨lw_p70, List.forall_mem_cons.mpr ⟨lw_p71, List.forall_mem_cons.mpr ⟨lw_p72, List.forall_mem_cons.mpr ⟨lw_p73, List.forall_mem_cons.mpr ⟨lw_p74, List.forall_mem_cons.mpr ⟨lw_p75, List.forall_mem_cons.mpr ⟨lw_p76, fun _ h => absurd h List.not_mem_nil⟩⟩⟩⟩⟩⟩⟩⟩⟩⟩⟩⟩⟩
def lw_privs : List (MethodName × Nat) := lw_privs_1 ++ (lw_privs_2 ++ (lw_privs_3 ++ (lw_privs_4 ++ (lw_privs_5))))
def lw_tbl : List Cond := k2_sels lw_privs ++ tables_1
theorem lw_privs_ok : ∀ q ∈ lw_privs, lw_okq q := by
  show ∀ q ∈ lw_privs_1 ++ (lw_privs_2 ++ (lw_privs_3 ++ (lw_privs_4 ++ (lw_privs_5)))), lw_okq q
  exact List.forall_mem_append.mpr ⟨lw_r1, List.forall_mem_append.mpr ⟨lw_r2, List.forall_mem_append.mpr ⟨lw_r3, List.forall_mem_append.mpr ⟨lw_r4, lw_r5⟩⟩⟩⟩
-- ===== end of PART A; then your names; then what follows =====
def gN0 : String := "FullStopWells$Course"
def gF0 : u_T := fun k => match k with
  | 0 => ("FullStopWells$Course", "drew", "[I", true)
  | _ => ("FullStopWells$Course", "drewFrom", "[I", true)
def gY0 : Nat → FieldType := fun k => match k with
  | 0 => .array .int
  | _ => .array .int
theorem gNm0 : ∀ a, a < 2 → ∀ b, b < 2 → a ≠ b → (gF0 a).2.1 ≠ (gF0 b).2.1 := by decide +kernel
theorem gYo0 : ∀ k, k < 2 → parseFieldDescriptor (gF0 k).2.2.1 = some (gY0 k) := by decide +kernel
def gN1 : String := "FullStopWells$Ground"
def gF1 : u_T := fun k => match k with
  | 0 => ("FullStopWells$Ground", "rows", "I", false)
  | 1 => ("FullStopWells$Ground", "columns", "I", false)
  | 2 => ("FullStopWells$Ground", "villages", "I", false)
  | 3 => ("FullStopWells$Ground", "home", "[I", true)
  | 4 => ("FullStopWells$Ground", "thirst", "[I", true)
  | _ => ("FullStopWells$Ground", "crowd", "[I", true)
def gY1 : Nat → FieldType := fun k => match k with
  | 0 => .int
  | 1 => .int
  | 2 => .int
  | 3 => .array .int
  | 4 => .array .int
  | _ => .array .int
theorem gNm1 : ∀ a, a < 6 → ∀ b, b < 6 → a ≠ b → (gF1 a).2.1 ≠ (gF1 b).2.1 := by decide +kernel
theorem gYo1 : ∀ k, k < 6 → parseFieldDescriptor (gF1 k).2.2.1 = some (gY1 k) := by decide +kernel
def gN2 : String := "FullStopWells$Hearsay"
def gF2 : u_T := fun k => match k with
  | 0 => ("FullStopWells$Hearsay", "whats", "[I", true)
  | 1 => ("FullStopWells$Hearsay", "values", "[I", true)
  | _ => ("FullStopWells$Hearsay", "size", "I", false)
def gY2 : Nat → FieldType := fun k => match k with
  | 0 => .array .int
  | 1 => .array .int
  | _ => .int
theorem gNm2 : ∀ a, a < 3 → ∀ b, b < 3 → a ≠ b → (gF2 a).2.1 ≠ (gF2 b).2.1 := by decide +kernel
theorem gYo2 : ∀ k, k < 3 → parseFieldDescriptor (gF2 k).2.2.1 = some (gY2 k) := by decide +kernel
def gN3 : String := "FullStopWells$Lot"
def gF3 : u_T := fun k => match k with
  | _ => ("FullStopWells$Lot", "\x72", "I", false)
def gY3 : Nat → FieldType := fun k => match k with
  | _ => .int
theorem gNm3 : ∀ a, a < 1 → ∀ b, b < 1 → a ≠ b → (gF3 a).2.1 ≠ (gF3 b).2.1 := by decide +kernel
theorem gYo3 : ∀ k, k < 1 → parseFieldDescriptor (gF3 k).2.2.1 = some (gY3 k) := by decide +kernel
def gN4 : String := "FullStopWells$Numbers"
def gF4 : u_T := fun k => match k with
  | 0 => ("FullStopWells$Numbers", "told", "[J", true)
  | _ => ("FullStopWells$Numbers", "size", "I", false)
def gY4 : Nat → FieldType := fun k => match k with
  | 0 => .array .long
  | _ => .int
theorem gNm4 : ∀ a, a < 2 → ∀ b, b < 2 → a ≠ b → (gF4 a).2.1 ≠ (gF4 b).2.1 := by decide +kernel
theorem gYo4 : ∀ k, k < 2 → parseFieldDescriptor (gF4 k).2.2.1 = some (gY4 k) := by decide +kernel
def gN5 : String := "FullStopWells$Past"
def gF5 : u_T := fun k => match k with
  | 0 => ("FullStopWells$Past", "undos", "[LFullStopWells$State;", true)
  | 1 => ("FullStopWells$Past", "kept", "[LFullStopWells$State;", true)
  | 2 => ("FullStopWells$Past", "isKept", "[Z", true)
  | _ => ("FullStopWells$Past", "size", "I", false)
def gY5 : Nat → FieldType := fun k => match k with
  | 0 => .array (.object "FullStopWells$State")
  | 1 => .array (.object "FullStopWells$State")
  | 2 => .array .boolean
  | _ => .int
theorem gNm5 : ∀ a, a < 4 → ∀ b, b < 4 → a ≠ b → (gF5 a).2.1 ≠ (gF5 b).2.1 := by decide +kernel
theorem gYo5 : ∀ k, k < 4 → parseFieldDescriptor (gF5 k).2.2.1 = some (gY5 k) := by decide +kernel
def gN6 : String := "FullStopWells$Rule"
def gF6 : u_T := fun k => match k with
  | 0 => ("FullStopWells$Rule", "steps", "[I", true)
  | 1 => ("FullStopWells$Rule", "waiting", "[I", true)
  | 2 => ("FullStopWells$Rule", "stack", "[I", true)
  | 3 => ("FullStopWells$Rule", "size", "I", false)
  | 4 => ("FullStopWells$Rule", "held", "I", false)
  | 5 => ("FullStopWells$Rule", "nested", "I", false)
  | 6 => ("FullStopWells$Rule", "compared", "I", false)
  | 7 => ("FullStopWells$Rule", "digits", "I", false)
  | _ => ("FullStopWells$Rule", "wantsThing", "Z", false)
def gY6 : Nat → FieldType := fun k => match k with
  | 0 => .array .int
  | 1 => .array .int
  | 2 => .array .int
  | 3 => .int
  | 4 => .int
  | 5 => .int
  | 6 => .int
  | 7 => .int
  | _ => .boolean
theorem gNm6 : ∀ a, a < 9 → ∀ b, b < 9 → a ≠ b → (gF6 a).2.1 ≠ (gF6 b).2.1 := by decide +kernel
theorem gYo6 : ∀ k, k < 9 → parseFieldDescriptor (gF6 k).2.2.1 = some (gY6 k) := by decide +kernel
def gN7 : String := "FullStopWells$State"
def gF7 : u_T := fun k => match k with
  | 0 => ("FullStopWells$State", "size", "I", false)
  | 1 => ("FullStopWells$State", "field", "[I", true)
  | 2 => ("FullStopWells$State", "words", "[I", true)
  | 3 => ("FullStopWells$State", "meaning", "[I", true)
  | 4 => ("FullStopWells$State", "andsIn", "[I", true)
  | 5 => ("FullStopWells$State", "wate\x72", "[I", true)
  | 6 => ("FullStopWells$State", "season", "I", false)
  | _ => ("FullStopWells$State", "parchedSoFa\x72", "I", false)
def gY7 : Nat → FieldType := fun k => match k with
  | 0 => .int
  | 1 => .array .int
  | 2 => .array .int
  | 3 => .array .int
  | 4 => .array .int
  | 5 => .array .int
  | 6 => .int
  | _ => .int
theorem gNm7 : ∀ a, a < 8 → ∀ b, b < 8 → a ≠ b → (gF7 a).2.1 ≠ (gF7 b).2.1 := by decide +kernel
theorem gYo7 : ∀ k, k < 8 → parseFieldDescriptor (gF7 k).2.2.1 = some (gY7 k) := by decide +kernel
def gN8 : String := "FullStopWells$Text"
def gF8 : u_T := fun k => match k with
  | 0 => ("FullStopWells$Text", "signs", "[C", true)
  | _ => ("FullStopWells$Text", "length", "I", false)
def gY8 : Nat → FieldType := fun k => match k with
  | 0 => .array .char
  | _ => .int
theorem gNm8 : ∀ a, a < 2 → ∀ b, b < 2 → a ≠ b → (gF8 a).2.1 ≠ (gF8 b).2.1 := by decide +kernel
theorem gYo8 : ∀ k, k < 2 → parseFieldDescriptor (gF8 k).2.2.1 = some (gY8 k) := by decide +kernel
def gN9 : String := "FullStopWells$Ways"
def gF9 : u_T := fun k => match k with
  | 0 => ("FullStopWells$Ways", "steps", "[I", true)
  | 1 => ("FullStopWells$Ways", "reached", "[I", true)
  | _ => ("FullStopWells$Ways", "need", "[I", true)
def gY9 : Nat → FieldType := fun k => match k with
  | 0 => .array .int
  | 1 => .array .int
  | _ => .array .int
theorem gNm9 : ∀ a, a < 3 → ∀ b, b < 3 → a ≠ b → (gF9 a).2.1 ≠ (gF9 b).2.1 := by decide +kernel
theorem gYo9 : ∀ k, k < 3 → parseFieldDescriptor (gF9 k).2.2.1 = some (gY9 k) := by decide +kernel
def gN10 : String := "FullStopWells"
def gF10 : u_T := fun k => match k with
  | 0 => ("FullStopWells", "told", "LFullStopWells$Text;", true)
  | 1 => ("FullStopWells", "numbers", "LFullStopWells$Numbers;", true)
  | 2 => ("FullStopWells", "ground", "LFullStopWells$Ground;", true)
  | 3 => ("FullStopWells", "now", "LFullStopWells$State;", true)
  | 4 => ("FullStopWells", "before", "LFullStopWells$State;", true)
  | 5 => ("FullStopWells", "trial", "LFullStopWells$State;", true)
  | 6 => ("FullStopWells", "course", "LFullStopWells$Course;", true)
  | 7 => ("FullStopWells", "past", "LFullStopWells$Past;", true)
  | 8 => ("FullStopWells", "hearsay", "LFullStopWells$Hearsay;", true)
  | 9 => ("FullStopWells", "ways", "LFullStopWells$Ways;", true)
  | 10 => ("FullStopWells", "lot", "LFullStopWells$Lot;", true)
  | 11 => ("FullStopWells", "ruling", "LFullStopWells$Rule;", false)
  | _ => ("FullStopWells", "spare", "LFullStopWells$Rule;", false)
def gY10 : Nat → FieldType := fun k => match k with
  | 0 => .object "FullStopWells$Text"
  | 1 => .object "FullStopWells$Numbers"
  | 2 => .object "FullStopWells$Ground"
  | 3 => .object "FullStopWells$State"
  | 4 => .object "FullStopWells$State"
  | 5 => .object "FullStopWells$State"
  | 6 => .object "FullStopWells$Course"
  | 7 => .object "FullStopWells$Past"
  | 8 => .object "FullStopWells$Hearsay"
  | 9 => .object "FullStopWells$Ways"
  | 10 => .object "FullStopWells$Lot"
  | 11 => .object "FullStopWells$Rule"
  | _ => .object "FullStopWells$Rule"
theorem gNm10 : ∀ a, a < 13 → ∀ b, b < 13 → a ≠ b → (gF10 a).2.1 ≠ (gF10 b).2.1 := by decide +kernel
theorem gYo10 : ∀ k, k < 13 → parseFieldDescriptor (gF10 k).2.2.1 = some (gY10 k) := by decide +kernel
def gN11 : String := "FullStopWellsModel"
def gF11 : u_T := fun k => match k with
  | 0 => ("FullStopWellsModel", "now", "[I", true)
  | 1 => ("FullStopWellsModel", "rows", "I", false)
  | 2 => ("FullStopWellsModel", "columns", "I", false)
  | 3 => ("FullStopWellsModel", "villages", "I", false)
  | 4 => ("FullStopWellsModel", "home", "[I", true)
  | 5 => ("FullStopWellsModel", "thirst", "[I", true)
  | 6 => ("FullStopWellsModel", "text", "[B", true)
  | 7 => ("FullStopWellsModel", "typed", "I", false)
  | 8 => ("FullStopWellsModel", "row", "[J", true)
  | 9 => ("FullStopWellsModel", "rowMany", "I", false)
  | 10 => ("FullStopWellsModel", "thrown", "I", false)
  | 11 => ("FullStopWellsModel", "read", "[B", false)
  | 12 => ("FullStopWellsModel", "length", "I", false)
  | 13 => ("FullStopWellsModel", "top", "I", false)
  | 14 => ("FullStopWellsModel", "at", "I", false)
  | 15 => ("FullStopWellsModel", "wrong", "I", false)
  | 16 => ("FullStopWellsModel", "comes", "[I", true)
  | 17 => ("FullStopWellsModel", "rule", "[B", false)
  | 18 => ("FullStopWellsModel", "otherRule", "[B", false)
  | 19 => ("FullStopWellsModel", "ruleSize", "I", false)
  | 20 => ("FullStopWellsModel", "isAsked", "Z", false)
  | 21 => ("FullStopWellsModel", "asked", "[I", true)
  | 22 => ("FullStopWellsModel", "undos", "[I", true)
  | 23 => ("FullStopWellsModel", "undoMany", "I", false)
  | 24 => ("FullStopWellsModel", "aside", "[I", true)
  | 25 => ("FullStopWellsModel", "then", "[I", true)
  | 26 => ("FullStopWellsModel", "flow", "[I", true)
  | 27 => ("FullStopWellsModel", "drawnBy", "[I", true)
  | 28 => ("FullStopWellsModel", "drawnFrom", "[I", true)
  | 29 => ("FullStopWellsModel", "acts", "[I", true)
  | 30 => ("FullStopWellsModel", "covers", "[I", true)
  | 31 => ("FullStopWellsModel", "steps", "[I", true)
  | 32 => ("FullStopWellsModel", "heardOf", "[I", true)
  | 33 => ("FullStopWellsModel", "heardBy", "[I", true)
  | 34 => ("FullStopWellsModel", "heardMany", "I", false)
  | 35 => ("FullStopWellsModel", "shared", "[I", true)
  | 36 => ("FullStopWellsModel", "wins", "[Z", true)
  | 37 => ("FullStopWellsModel", "drawn", "I", false)
  | 38 => ("FullStopWellsModel", "came", "I", false)
  | 39 => ("FullStopWellsModel", "kept", "[I", true)
  | 40 => ("FullStopWellsModel", "isKept", "[Z", true)
  | _ => ("FullStopWellsModel", "keptCame", "[I", true)
def gY11 : Nat → FieldType := fun k => match k with
  | 0 => .array .int
  | 1 => .int
  | 2 => .int
  | 3 => .int
  | 4 => .array .int
  | 5 => .array .int
  | 6 => .array .byte
  | 7 => .int
  | 8 => .array .long
  | 9 => .int
  | 10 => .int
  | 11 => .array .byte
  | 12 => .int
  | 13 => .int
  | 14 => .int
  | 15 => .int
  | 16 => .array .int
  | 17 => .array .byte
  | 18 => .array .byte
  | 19 => .int
  | 20 => .boolean
  | 21 => .array .int
  | 22 => .array .int
  | 23 => .int
  | 24 => .array .int
  | 25 => .array .int
  | 26 => .array .int
  | 27 => .array .int
  | 28 => .array .int
  | 29 => .array .int
  | 30 => .array .int
  | 31 => .array .int
  | 32 => .array .int
  | 33 => .array .int
  | 34 => .int
  | 35 => .array .int
  | 36 => .array .boolean
  | 37 => .int
  | 38 => .int
  | 39 => .array .int
  | 40 => .array .boolean
  | _ => .array .int
theorem gNm11 : ∀ a, a < 42 → ∀ b, b < 42 → a ≠ b → (gF11 a).2.1 ≠ (gF11 b).2.1 := by decide +kernel
theorem gYo11 : ∀ k, k < 42 → parseFieldDescriptor (gF11 k).2.2.1 = some (gY11 k) := by decide +kernel
def gN12 : String := "java/util/NoSuchElementException"
def gF12 : u_T := fun _ => ("", "", "", false)
def gCl : List vw_C := [(gN0, gF0, 2), (gN1, gF1, 6), (gN2, gF2, 3), (gN3, gF3, 1), (gN4, gF4, 2), (gN5, gF5, 4), (gN6, gF6, 9), (gN7, gF7, 8), (gN8, gF8, 2), (gN9, gF9, 3), (gN10, gF10, 13), (gN11, gF11, 42), (gN12, gF12, 0)]
/-- the words that every method rests on -/
def gTk : List Cond := lw_tbl.filter goodWord
theorem gTk_good : GoodIn gTk gTk := fun w hw => ⟨hw, good_of_word (List.mem_filter.mp hw).2⟩
theorem gTk_of {w : Cond} (i : Nat) (h : lw_tbl[i]? = some w) (g : goodWord w = true) : w ∈ gTk := List.mem_filter.mpr ⟨List.mem_of_getElem? h, g⟩
def gNestW : Cond → Bool
  | .fieldLinkNest .. => true
  | .methodLinkNest .. => true
  | _ => false
def gNk : List Cond := lw_tbl.filter gNestW
theorem gTk_0 {w : Cond} (i : Nat) (h : (k2_sels lw_privs)[i]? = some w) (g : goodWord w = true) : w ∈ gTk := by
  have hm := List.mem_of_getElem? h
  exact List.mem_filter.mpr ⟨List.mem_append_left _ hm, g⟩
theorem gNk_0 {w : Cond} (i : Nat) (h : (k2_sels lw_privs)[i]? = some w) (g : gNestW w = true) : w ∈ gNk := by
  have hm := List.mem_of_getElem? h
  exact List.mem_filter.mpr ⟨List.mem_append_left _ hm, g⟩
theorem gTk_1 {w : Cond} (i : Nat) (h : (tables_1_1)[i]? = some w) (g : goodWord w = true) : w ∈ gTk := by
  have hm := List.mem_of_getElem? h
  exact List.mem_filter.mpr ⟨List.mem_append_right _ (by unfold tables_1; exact List.mem_append_left _ hm), g⟩
theorem gNk_1 {w : Cond} (i : Nat) (h : (tables_1_1)[i]? = some w) (g : gNestW w = true) : w ∈ gNk := by
  have hm := List.mem_of_getElem? h
  exact List.mem_filter.mpr ⟨List.mem_append_right _ (by unfold tables_1; exact List.mem_append_left _ hm), g⟩
theorem gTk_2 {w : Cond} (i : Nat) (h : (tables_1_2)[i]? = some w) (g : goodWord w = true) : w ∈ gTk := by
  have hm := List.mem_of_getElem? h
  exact List.mem_filter.mpr ⟨List.mem_append_right _ (by unfold tables_1; refine List.mem_append_right _ ?_; exact List.mem_append_left _ hm), g⟩
theorem gNk_2 {w : Cond} (i : Nat) (h : (tables_1_2)[i]? = some w) (g : gNestW w = true) : w ∈ gNk := by
  have hm := List.mem_of_getElem? h
  exact List.mem_filter.mpr ⟨List.mem_append_right _ (by unfold tables_1; refine List.mem_append_right _ ?_; exact List.mem_append_left _ hm), g⟩
theorem gTk_3 {w : Cond} (i : Nat) (h : (tables_1_3)[i]? = some w) (g : goodWord w = true) : w ∈ gTk := by
  have hm := List.mem_of_getElem? h
  exact List.mem_filter.mpr ⟨List.mem_append_right _ (by unfold tables_1; refine List.mem_append_right _ ?_; refine List.mem_append_right _ ?_; exact List.mem_append_left _ hm), g⟩
theorem gNk_3 {w : Cond} (i : Nat) (h : (tables_1_3)[i]? = some w) (g : gNestW w = true) : w ∈ gNk := by
  have hm := List.mem_of_getElem? h
  exact List.mem_filter.mpr ⟨List.mem_append_right _ (by unfold tables_1; refine List.mem_append_right _ ?_; refine List.mem_append_right _ ?_; exact List.mem_append_left _ hm), g⟩
theorem gTk_4 {w : Cond} (i : Nat) (h : (tables_1_4)[i]? = some w) (g : goodWord w = true) : w ∈ gTk := by
  have hm := List.mem_of_getElem? h
  exact List.mem_filter.mpr ⟨List.mem_append_right _ (by unfold tables_1; refine List.mem_append_right _ ?_; refine List.mem_append_right _ ?_; refine List.mem_append_right _ ?_; exact List.mem_append_left _ hm), g⟩
theorem gNk_4 {w : Cond} (i : Nat) (h : (tables_1_4)[i]? = some w) (g : gNestW w = true) : w ∈ gNk := by
  have hm := List.mem_of_getElem? h
  exact List.mem_filter.mpr ⟨List.mem_append_right _ (by unfold tables_1; refine List.mem_append_right _ ?_; refine List.mem_append_right _ ?_; refine List.mem_append_right _ ?_; exact List.mem_append_left _ hm), g⟩
theorem gTk_5 {w : Cond} (i : Nat) (h : (tables_1_5)[i]? = some w) (g : goodWord w = true) : w ∈ gTk := by
  have hm := List.mem_of_getElem? h
  exact List.mem_filter.mpr ⟨List.mem_append_right _ (by unfold tables_1; refine List.mem_append_right _ ?_; refine List.mem_append_right _ ?_; refine List.mem_append_right _ ?_; refine List.mem_append_right _ ?_; exact List.mem_append_left _ hm), g⟩
theorem gNk_5 {w : Cond} (i : Nat) (h : (tables_1_5)[i]? = some w) (g : gNestW w = true) : w ∈ gNk := by
  have hm := List.mem_of_getElem? h
  exact List.mem_filter.mpr ⟨List.mem_append_right _ (by unfold tables_1; refine List.mem_append_right _ ?_; refine List.mem_append_right _ ?_; refine List.mem_append_right _ ?_; refine List.mem_append_right _ ?_; exact List.mem_append_left _ hm), g⟩
theorem gTk_6 {w : Cond} (i : Nat) (h : (tables_1_6)[i]? = some w) (g : goodWord w = true) : w ∈ gTk := by
  have hm := List.mem_of_getElem? h
  exact List.mem_filter.mpr ⟨List.mem_append_right _ (by unfold tables_1; refine List.mem_append_right _ ?_; refine List.mem_append_right _ ?_; refine List.mem_append_right _ ?_; refine List.mem_append_right _ ?_; refine List.mem_append_right _ ?_; exact List.mem_append_left _ hm), g⟩
theorem gNk_6 {w : Cond} (i : Nat) (h : (tables_1_6)[i]? = some w) (g : gNestW w = true) : w ∈ gNk := by
  have hm := List.mem_of_getElem? h
  exact List.mem_filter.mpr ⟨List.mem_append_right _ (by unfold tables_1; refine List.mem_append_right _ ?_; refine List.mem_append_right _ ?_; refine List.mem_append_right _ ?_; refine List.mem_append_right _ ?_; refine List.mem_append_right _ ?_; exact List.mem_append_left _ hm), g⟩
theorem gTk_7 {w : Cond} (i : Nat) (h : (tables_1_7)[i]? = some w) (g : goodWord w = true) : w ∈ gTk := by
  have hm := List.mem_of_getElem? h
  exact List.mem_filter.mpr ⟨List.mem_append_right _ (by unfold tables_1; refine List.mem_append_right _ ?_; refine List.mem_append_right _ ?_; refine List.mem_append_right _ ?_; refine List.mem_append_right _ ?_; refine List.mem_append_right _ ?_; refine List.mem_append_right _ ?_; exact hm), g⟩
theorem gNk_7 {w : Cond} (i : Nat) (h : (tables_1_7)[i]? = some w) (g : gNestW w = true) : w ∈ gNk := by
  have hm := List.mem_of_getElem? h
  exact List.mem_filter.mpr ⟨List.mem_append_right _ (by unfold tables_1; refine List.mem_append_right _ ?_; refine List.mem_append_right _ ?_; refine List.mem_append_right _ ?_; refine List.mem_append_right _ ?_; refine List.mem_append_right _ ?_; refine List.mem_append_right _ ?_; exact hm), g⟩
def gNames : List String := ["java/lang/RuntimeException", "java/lang/Exception"]
def gIsCD : Cond → Bool
  | .castable .. => true
  | .declares .. => true
  | _ => false
def gBad : List Cond := (vx_at0 "FullStopWells" 143 "java/util/NoSuchElementException" gNames).filter gIsCD
theorem gBad_mv {u U : State} (hW : u.WarmedH U.vm) (h : ∀ w ∈ gBad, va_Nw w u) : ∀ w ∈ gBad, va_Nw w U := by
  intro w hw
  have h1 := h w hw
  have h2 := (List.mem_filter.mp hw).2
  cases w <;> first | exact va_Nw.warmC hW h1 | exact va_Nw.warmD hW h1 | (exfalso; simp [gIsCD] at h2; done)
theorem gBad_in : ∀ w ∈ gBad, w ∈ lw_tbl := by decide +kernel
theorem gBad_good : ∀ w ∈ (vx_at0 "FullStopWells" 143 "java/util/NoSuchElementException" gNames).filter goodWord, w ∈ gTk := by
  have h : ∀ w ∈ (vx_at0 "FullStopWells" 143 "java/util/NoSuchElementException" gNames).filter goodWord, w ∈ lw_tbl := by decide +kernel
  exact fun w hw => List.mem_filter.mpr ⟨h w hw, (List.mem_filter.mp hw).2⟩
theorem gBad_rest : ∀ w ∈ (vx_at0 "FullStopWells" 143 "java/util/NoSuchElementException" gNames).filter (fun w => !goodWord w), w ∈ gBad := by decide +kernel
theorem gNk_mv {u U : State} (hW : u.WarmedH U.vm) (h : ∀ w ∈ gNk, va_Nw w u) : ∀ w ∈ gNk, va_Nw w U := by
  intro w hw
  have h1 := h w hw
  have h2 := (List.mem_filter.mp hw).2
  cases w <;> first | exact va_Nw.warmF hW h1 | exact va_Nw.warmM hW h1 | (exfalso; simp [gNestW] at h2; done)
theorem gTk_all {ws : List Cond} (h : ws.all (fun w => decide (w ∈ lw_tbl) && goodWord w) = true) : ∀ w ∈ ws, w ∈ gTk := fun w hw => by
  have h1 := List.all_eq_true.mp h w hw
  simp only [Bool.and_eq_true, decide_eq_true_eq] at h1
  exact List.mem_filter.mpr ⟨h1.1, h1.2⟩
set_option maxRecDepth 20000 in
theorem gIn0 : ∀ w ∈ u_ws gN0 gF0 2, w ∈ gTk := gTk_all (by decide +kernel)
set_option maxRecDepth 20000 in
theorem gIn1 : ∀ w ∈ u_ws gN1 gF1 6, w ∈ gTk := gTk_all (by decide +kernel)
set_option maxRecDepth 20000 in
theorem gIn2 : ∀ w ∈ u_ws gN2 gF2 3, w ∈ gTk := gTk_all (by decide +kernel)
set_option maxRecDepth 20000 in
theorem gIn3 : ∀ w ∈ u_ws gN3 gF3 1, w ∈ gTk := gTk_all (by decide +kernel)
set_option maxRecDepth 20000 in
theorem gIn4 : ∀ w ∈ u_ws gN4 gF4 2, w ∈ gTk := gTk_all (by decide +kernel)
set_option maxRecDepth 20000 in
theorem gIn5 : ∀ w ∈ u_ws gN5 gF5 4, w ∈ gTk := gTk_all (by decide +kernel)
set_option maxRecDepth 20000 in
theorem gIn6 : ∀ w ∈ u_ws gN6 gF6 9, w ∈ gTk := gTk_all (by decide +kernel)
set_option maxRecDepth 20000 in
theorem gIn7 : ∀ w ∈ u_ws gN7 gF7 8, w ∈ gTk := gTk_all (by decide +kernel)
set_option maxRecDepth 20000 in
theorem gIn8 : ∀ w ∈ u_ws gN8 gF8 2, w ∈ gTk := gTk_all (by decide +kernel)
set_option maxRecDepth 20000 in
theorem gIn9 : ∀ w ∈ u_ws gN9 gF9 3, w ∈ gTk := gTk_all (by decide +kernel)
set_option maxRecDepth 20000 in
theorem gIn10 : ∀ w ∈ u_ws gN10 gF10 13, w ∈ gTk := gTk_all (by decide +kernel)
set_option maxRecDepth 20000 in
theorem gIn11 : ∀ w ∈ u_ws gN11 gF11 42, w ∈ gTk := gTk_all (by decide +kernel)
