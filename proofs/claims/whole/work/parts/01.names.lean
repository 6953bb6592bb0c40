-- ===== PART A: goes FIRST, ahead of the names: the tables' words, and 'selects' of the private methods out of them =====
/-- a private method of a class that the tables say can be made, by its rows of tables_1 -/
def lw_okq (q : MethodName × Nat) : Prop := (q.1.cls ≠ "java/lang/invoke/MethodHandle" ∧ q.1.cls ≠ "java/lang/invoke/VarHandle") ∧ Cond.instantiable q.1.cls q.2 ∈ tables_1 ∧ Cond.privateMethod q.1 ∈ tables_1 ∧ Cond.instanceMethod q.1 ∈ tables_1
theorem lw_p0 : lw_okq (⟨"YearRope", "ordersMetBy", "(LYearRope$Rope;)I"⟩, 15) := ⟨⟨by decide +kernel, by decide +kernel⟩, List.mem_of_getElem? (i := 29) (by decide +kernel), List.mem_of_getElem? (i := 433) (by decide +kernel), List.mem_of_getElem? (i := 434) (by decide +kernel)⟩
theorem lw_p1 : lw_okq (⟨"YearRope$Law", "conditionHolds", "(II)Z"⟩, 9) := ⟨⟨by decide +kernel, by decide +kernel⟩, List.mem_of_getElem? (i := 328) (by decide +kernel), List.mem_of_getElem? (i := 478) (by decide +kernel), List.mem_of_getElem? (i := 479) (by decide +kernel)⟩
theorem lw_p2 : lw_okq (⟨"YearRope$Law", "valueOf", "(I)I"⟩, 9) := ⟨⟨by decide +kernel, by decide +kernel⟩, List.mem_of_getElem? (i := 328) (by decide +kernel), List.mem_of_getElem? (i := 482) (by decide +kernel), List.mem_of_getElem? (i := 483) (by decide +kernel)⟩
theorem lw_p3 : lw_okq (⟨"YearRope", "cheapestFor", "(LYearRope$Order;)I"⟩, 15) := ⟨⟨by decide +kernel, by decide +kernel⟩, List.mem_of_getElem? (i := 29) (by decide +kernel), List.mem_of_getElem? (i := 494) (by decide +kernel), List.mem_of_getElem? (i := 495) (by decide +kernel)⟩
theorem lw_p4 : lw_okq (⟨"YearRope", "trialBearing", "(IIII)I"⟩, 15) := ⟨⟨by decide +kernel, by decide +kernel⟩, List.mem_of_getElem? (i := 29) (by decide +kernel), List.mem_of_getElem? (i := 507) (by decide +kernel), List.mem_of_getElem? (i := 508) (by decide +kernel)⟩
theorem lw_p5 : lw_okq (⟨"YearRope", "markMeetable", "(I)V"⟩, 15) := ⟨⟨by decide +kernel, by decide +kernel⟩, List.mem_of_getElem? (i := 29) (by decide +kernel), List.mem_of_getElem? (i := 522) (by decide +kernel), List.mem_of_getElem? (i := 523) (by decide +kernel)⟩
theorem lw_p6 : lw_okq (⟨"YearRope", "markWithOneMore", "(II)V"⟩, 15) := ⟨⟨by decide +kernel, by decide +kernel⟩, List.mem_of_getElem? (i := 29) (by decide +kernel), List.mem_of_getElem? (i := 526) (by decide +kernel), List.mem_of_getElem? (i := 527) (by decide +kernel)⟩
theorem lw_p7 : lw_okq (⟨"YearRope", "sumBearings", "()I"⟩, 15) := ⟨⟨by decide +kernel, by decide +kernel⟩, List.mem_of_getElem? (i := 29) (by decide +kernel), List.mem_of_getElem? (i := 552) (by decide +kernel), List.mem_of_getElem? (i := 553) (by decide +kernel)⟩
theorem lw_p8 : lw_okq (⟨"YearRope$Tape", "advance", "()V"⟩, 6) := ⟨⟨by decide +kernel, by decide +kernel⟩, List.mem_of_getElem? (i := 37) (by decide +kernel), List.mem_of_getElem? (i := 638) (by decide +kernel), List.mem_of_getElem? (i := 639) (by decide +kernel)⟩
theorem lw_p9 : lw_okq (⟨"YearRope$WalkReader", "readLine", "()V"⟩, 2) := ⟨⟨by decide +kernel, by decide +kernel⟩, List.mem_of_getElem? (i := 67) (by decide +kernel), List.mem_of_getElem? (i := 646) (by decide +kernel), List.mem_of_getElem? (i := 647) (by decide +kernel)⟩
theorem lw_p10 : lw_okq (⟨"YearRope$WalkReader", "readYarn", "()V"⟩, 2) := ⟨⟨by decide +kernel, by decide +kernel⟩, List.mem_of_getElem? (i := 67) (by decide +kernel), List.mem_of_getElem? (i := 703) (by decide +kernel), List.mem_of_getElem? (i := 704) (by decide +kernel)⟩
theorem lw_p11 : lw_okq (⟨"YearRope$WalkReader", "readRope", "()V"⟩, 2) := ⟨⟨by decide +kernel, by decide +kernel⟩, List.mem_of_getElem? (i := 67) (by decide +kernel), List.mem_of_getElem? (i := 732) (by decide +kernel), List.mem_of_getElem? (i := 733) (by decide +kernel)⟩
theorem lw_p12 : lw_okq (⟨"YearRope$WalkReader", "takeYarn", "(II)I"⟩, 2) := ⟨⟨by decide +kernel, by decide +kernel⟩, List.mem_of_getElem? (i := 67) (by decide +kernel), List.mem_of_getElem? (i := 736) (by decide +kernel), List.mem_of_getElem? (i := 737) (by decide +kernel)⟩
theorem lw_p13 : lw_okq (⟨"YearRope$WalkReader", "readOrder", "()V"⟩, 2) := ⟨⟨by decide +kernel, by decide +kernel⟩, List.mem_of_getElem? (i := 67) (by decide +kernel), List.mem_of_getElem? (i := 748) (by decide +kernel), List.mem_of_getElem? (i := 749) (by decide +kernel)⟩
theorem lw_p14 : lw_okq (⟨"YearRope$WalkReader", "readHang", "()V"⟩, 2) := ⟨⟨by decide +kernel, by decide +kernel⟩, List.mem_of_getElem? (i := 67) (by decide +kernel), List.mem_of_getElem? (i := 758) (by decide +kernel), List.mem_of_getElem? (i := 759) (by decide +kernel)⟩
theorem lw_p15 : lw_okq (⟨"YearRope$WalkReader", "takeRope", "()I"⟩, 2) := ⟨⟨by decide +kernel, by decide +kernel⟩, List.mem_of_getElem? (i := 67) (by decide +kernel), List.mem_of_getElem? (i := 762) (by decide +kernel), List.mem_of_getElem? (i := 763) (by decide +kernel)⟩
def lw_privs_1 : List (MethodName × Nat) := [(⟨"YearRope", "ordersMetBy", "(LYearRope$Rope;)I"⟩, 15), (⟨"YearRope$Law", "conditionHolds", "(II)Z"⟩, 9), (⟨"YearRope$Law", "valueOf", "(I)I"⟩, 9), (⟨"YearRope", "cheapestFor", "(LYearRope$Order;)I"⟩, 15), (⟨"YearRope", "trialBearing", "(IIII)I"⟩, 15), (⟨"YearRope", "markMeetable", "(I)V"⟩, 15), (⟨"YearRope", "markWithOneMore", "(II)V"⟩, 15), (⟨"YearRope", "sumBearings", "()I"⟩, 15), (⟨"YearRope$Tape", "advance", "()V"⟩, 6), (⟨"YearRope$WalkReader", "readLine", "()V"⟩, 2), (⟨"YearRope$WalkReader", "readYarn", "()V"⟩, 2), (⟨"YearRope$WalkReader", "readRope", "()V"⟩, 2), (⟨"YearRope$WalkReader", "takeYarn", "(II)I"⟩, 2), (⟨"YearRope$WalkReader", "readOrder", "()V"⟩, 2), (⟨"YearRope$WalkReader", "readHang", "()V"⟩, 2), (⟨"YearRope$WalkReader", "takeRope", "()I"⟩, 2)]
theorem lw_r1 : ∀ q ∈ lw_privs_1, lw_okq q := List.forall_mem_cons.mpr ⟨lw_p0, List.forall_mem_cons.mpr ⟨lw_p1, List.forall_mem_cons.mpr ⟨lw_p2, List.forall_mem_cons.mpr ⟨lw_p3, List.forall_mem_cons.mpr ⟨lw_p4, List.forall_mem_cons.mpr ⟨lw_p5, List.forall_mem_cons.mpr ⟨lw_p6, List.forall_mem_cons.mpr ⟨lw_p7, List.forall_mem_cons.mpr ⟨lw_p8, List.forall_mem_cons.mpr ⟨lw_p9, List.forall_mem_cons.mpr ⟨lw_p10, List.forall_mem_cons.mpr ⟨lw_p11, List.forall_mem_cons.mpr ⟨lw_p12, List.forall_mem_cons.mpr ⟨lw_p13, List.forall_mem_cons.mpr ⟨lw_p14, List.forall_mem_cons.mpr ⟨lw_p15, fun _ h => absurd h List.not_mem_nil⟩⟩⟩⟩⟩⟩⟩⟩⟩⟩⟩⟩⟩⟩⟩⟩
theorem lw_p16 : lw_okq (⟨"YearRope$WalkReader", "readTar", "()V"⟩, 2) := ⟨⟨by decide +kernel, by decide +kernel⟩, List.mem_of_getElem? (i := 67) (by decide +kernel), List.mem_of_getElem? (i := 767) (by decide +kernel), List.mem_of_getElem? (i := 768) (by decide +kernel)⟩
theorem lw_p17 : lw_okq (⟨"YearRope$WalkReader", "readWhip", "()V"⟩, 2) := ⟨⟨by decide +kernel, by decide +kernel⟩, List.mem_of_getElem? (i := 67) (by decide +kernel), List.mem_of_getElem? (i := 772) (by decide +kernel), List.mem_of_getElem? (i := 773) (by decide +kernel)⟩
theorem lw_p18 : lw_okq (⟨"java/lang/Throwable", "fillInStackTrace", "(I)Ljava/lang/Throwable;"⟩, 6) := ⟨⟨by decide +kernel, by decide +kernel⟩, List.mem_of_getElem? (i := 832) (by decide +kernel), List.mem_of_getElem? (i := 830) (by decide +kernel), List.mem_of_getElem? (i := 831) (by decide +kernel)⟩
theorem lw_p19 : lw_okq (⟨"YearRope$LawReader", "takeKind", "()I"⟩, 2) := ⟨⟨by decide +kernel, by decide +kernel⟩, List.mem_of_getElem? (i := 80) (by decide +kernel), List.mem_of_getElem? (i := 897) (by decide +kernel), List.mem_of_getElem? (i := 898) (by decide +kernel)⟩
theorem lw_p20 : lw_okq (⟨"YearRope$LawReader", "readCondition", "(I)V"⟩, 2) := ⟨⟨by decide +kernel, by decide +kernel⟩, List.mem_of_getElem? (i := 80) (by decide +kernel), List.mem_of_getElem? (i := 906) (by decide +kernel), List.mem_of_getElem? (i := 907) (by decide +kernel)⟩
theorem lw_p21 : lw_okq (⟨"YearRope$LawReader", "readAtom", "(I)V"⟩, 2) := ⟨⟨by decide +kernel, by decide +kernel⟩, List.mem_of_getElem? (i := 80) (by decide +kernel), List.mem_of_getElem? (i := 911) (by decide +kernel), List.mem_of_getElem? (i := 912) (by decide +kernel)⟩
theorem lw_p22 : lw_okq (⟨"YearRope$LawReader", "readSum", "()V"⟩, 2) := ⟨⟨by decide +kernel, by decide +kernel⟩, List.mem_of_getElem? (i := 80) (by decide +kernel), List.mem_of_getElem? (i := 928) (by decide +kernel), List.mem_of_getElem? (i := 929) (by decide +kernel)⟩
theorem lw_p23 : lw_okq (⟨"YearRope$LawReader", "takePart", "()I"⟩, 2) := ⟨⟨by decide +kernel, by decide +kernel⟩, List.mem_of_getElem? (i := 80) (by decide +kernel), List.mem_of_getElem? (i := 932) (by decide +kernel), List.mem_of_getElem? (i := 933) (by decide +kernel)⟩
theorem lw_p24 : lw_okq (⟨"YearRope", "yarnOf", "(I)LYearRope$Yarn;"⟩, 15) := ⟨⟨by decide +kernel, by decide +kernel⟩, List.mem_of_getElem? (i := 29) (by decide +kernel), List.mem_of_getElem? (i := 963) (by decide +kernel), List.mem_of_getElem? (i := 964) (by decide +kernel)⟩
theorem lw_p25 : lw_okq (⟨"YearRope", "ropeOf", "(I)LYearRope$Rope;"⟩, 15) := ⟨⟨by decide +kernel, by decide +kernel⟩, List.mem_of_getElem? (i := 29) (by decide +kernel), List.mem_of_getElem? (i := 1018) (by decide +kernel), List.mem_of_getElem? (i := 1019) (by decide +kernel)⟩
theorem lw_p26 : lw_okq (⟨"YearRope", "orderOf", "(I)LYearRope$Order;"⟩, 15) := ⟨⟨by decide +kernel, by decide +kernel⟩, List.mem_of_getElem? (i := 29) (by decide +kernel), List.mem_of_getElem? (i := 1044) (by decide +kernel), List.mem_of_getElem? (i := 1045) (by decide +kernel)⟩
theorem lw_p27 : lw_okq (⟨"YearRope", "needThree", "(III)V"⟩, 15) := ⟨⟨by decide +kernel, by decide +kernel⟩, List.mem_of_getElem? (i := 29) (by decide +kernel), List.mem_of_getElem? (i := 1057) (by decide +kernel), List.mem_of_getElem? (i := 1058) (by decide +kernel)⟩
theorem lw_p28 : lw_okq (⟨"YearRope", "needRoomForRope", "()V"⟩, 15) := ⟨⟨by decide +kernel, by decide +kernel⟩, List.mem_of_getElem? (i := 29) (by decide +kernel), List.mem_of_getElem? (i := 1090) (by decide +kernel), List.mem_of_getElem? (i := 1091) (by decide +kernel)⟩
theorem lw_p29 : lw_okq (⟨"YearRope", "soundRopeOf", "(I)LYearRope$Rope;"⟩, 15) := ⟨⟨by decide +kernel, by decide +kernel⟩, List.mem_of_getElem? (i := 29) (by decide +kernel), List.mem_of_getElem? (i := 1108) (by decide +kernel), List.mem_of_getElem? (i := 1109) (by decide +kernel)⟩
theorem lw_p30 : lw_okq (⟨"YearRope$Shed", "passOne", "(LYearRope$Law;)V"⟩, 15) := ⟨⟨by decide +kernel, by decide +kernel⟩, List.mem_of_getElem? (i := 100) (by decide +kernel), List.mem_of_getElem? (i := 1194) (by decide +kernel), List.mem_of_getElem? (i := 1195) (by decide +kernel)⟩
theorem lw_p31 : lw_okq (⟨"YearRope$Shed", "draw", "()I"⟩, 15) := ⟨⟨by decide +kernel, by decide +kernel⟩, List.mem_of_getElem? (i := 100) (by decide +kernel), List.mem_of_getElem? (i := 1198) (by decide +kernel), List.mem_of_getElem? (i := 1199) (by decide +kernel)⟩
def lw_privs_2 : List (MethodName × Nat) := [(⟨"YearRope$WalkReader", "readTar", "()V"⟩, 2), (⟨"YearRope$WalkReader", "readWhip", "()V"⟩, 2), (⟨"java/lang/Throwable", "fillInStackTrace", "(I)Ljava/lang/Throwable;"⟩, 6), (⟨"YearRope$LawReader", "takeKind", "()I"⟩, 2), (⟨"YearRope$LawReader", "readCondition", "(I)V"⟩, 2), (⟨"YearRope$LawReader", "readAtom", "(I)V"⟩, 2), (⟨"YearRope$LawReader", "readSum", "()V"⟩, 2), (⟨"YearRope$LawReader", "takePart", "()I"⟩, 2), (⟨"YearRope", "yarnOf", "(I)LYearRope$Yarn;"⟩, 15), (⟨"YearRope", "ropeOf", "(I)LYearRope$Rope;"⟩, 15), (⟨"YearRope", "orderOf", "(I)LYearRope$Order;"⟩, 15), (⟨"YearRope", "needThree", "(III)V"⟩, 15), (⟨"YearRope", "needRoomForRope", "()V"⟩, 15), (⟨"YearRope", "soundRopeOf", "(I)LYearRope$Rope;"⟩, 15), (⟨"YearRope$Shed", "passOne", "(LYearRope$Law;)V"⟩, 15), (⟨"YearRope$Shed", "draw", "()I"⟩, 15)]
theorem lw_r2 : ∀ q ∈ lw_privs_2, lw_okq q := List.forall_mem_cons.mpr ⟨lw_p16, List.forall_mem_cons.mpr ⟨lw_p17, List.forall_mem_cons.mpr ⟨lw_p18, List.forall_mem_cons.mpr ⟨lw_p19, List.forall_mem_cons.mpr ⟨lw_p20, List.forall_mem_cons.mpr ⟨lw_p21, List.forall_mem_cons.mpr ⟨lw_p22, List.forall_mem_cons.mpr ⟨lw_p23, List.forall_mem_cons.mpr ⟨lw_p24, List.forall_mem_cons.mpr ⟨lw_p25, List.forall_mem_cons.mpr ⟨lw_p26, List.forall_mem_cons.mpr ⟨lw_p27, List.forall_mem_cons.mpr ⟨lw_p28, List.forall_mem_cons.mpr ⟨lw_p29, List.forall_mem_cons.mpr ⟨lw_p30, List.forall_mem_cons.mpr ⟨lw_p31, fun _ h => absurd h List.not_mem_nil⟩⟩⟩⟩⟩⟩⟩⟩⟩⟩⟩⟩⟩⟩⟩⟩
theorem lw_p32 : lw_okq (⟨"YearRope$Shed", "snap", "(LYearRope$Rope;)V"⟩, 15) := ⟨⟨by decide +kernel, by decide +kernel⟩, List.mem_of_getElem? (i := 100) (by decide +kernel), List.mem_of_getElem? (i := 1208) (by decide +kernel), List.mem_of_getElem? (i := 1209) (by decide +kernel)⟩
theorem lw_p33 : lw_okq (⟨"YearRope", "hoursWithOneMore", "(I)I"⟩, 15) := ⟨⟨by decide +kernel, by decide +kernel⟩, List.mem_of_getElem? (i := 29) (by decide +kernel), List.mem_of_getElem? (i := 1258) (by decide +kernel), List.mem_of_getElem? (i := 1259) (by decide +kernel)⟩
theorem lw_p34 : lw_okq (⟨"YearRope", "needShare", "(III)V"⟩, 15) := ⟨⟨by decide +kernel, by decide +kernel⟩, List.mem_of_getElem? (i := 29) (by decide +kernel), List.mem_of_getElem? (i := 1270) (by decide +kernel), List.mem_of_getElem? (i := 1271) (by decide +kernel)⟩
theorem lw_p35 : lw_okq (⟨"YearRope", "bearingOf", "(I)I"⟩, 15) := ⟨⟨by decide +kernel, by decide +kernel⟩, List.mem_of_getElem? (i := 29) (by decide +kernel), List.mem_of_getElem? (i := 1275) (by decide +kernel), List.mem_of_getElem? (i := 1276) (by decide +kernel)⟩
theorem lw_p36 : lw_okq (⟨"YearRope", "tallyThrees", "(II)I"⟩, 15) := ⟨⟨by decide +kernel, by decide +kernel⟩, List.mem_of_getElem? (i := 29) (by decide +kernel), List.mem_of_getElem? (i := 1297) (by decide +kernel), List.mem_of_getElem? (i := 1298) (by decide +kernel)⟩
theorem lw_p37 : lw_okq (⟨"YearRope", "sureYarns", "(I)I"⟩, 15) := ⟨⟨by decide +kernel, by decide +kernel⟩, List.mem_of_getElem? (i := 29) (by decide +kernel), List.mem_of_getElem? (i := 1305) (by decide +kernel), List.mem_of_getElem? (i := 1306) (by decide +kernel)⟩
theorem lw_p38 : lw_okq (⟨"YearRope", "yarnToAsk", "(I)I"⟩, 15) := ⟨⟨by decide +kernel, by decide +kernel⟩, List.mem_of_getElem? (i := 29) (by decide +kernel), List.mem_of_getElem? (i := 1309) (by decide +kernel), List.mem_of_getElem? (i := 1310) (by decide +kernel)⟩
theorem lw_p39 : lw_okq (⟨"YearRope", "seasonsTillChange", "(LYearRope$Rope;)I"⟩, 15) := ⟨⟨by decide +kernel, by decide +kernel⟩, List.mem_of_getElem? (i := 29) (by decide +kernel), List.mem_of_getElem? (i := 1320) (by decide +kernel), List.mem_of_getElem? (i := 1321) (by decide +kernel)⟩
theorem lw_p40 : lw_okq (⟨"YearRope", "usablePieces", "(II)I"⟩, 15) := ⟨⟨by decide +kernel, by decide +kernel⟩, List.mem_of_getElem? (i := 29) (by decide +kernel), List.mem_of_getElem? (i := 1354) (by decide +kernel), List.mem_of_getElem? (i := 1355) (by decide +kernel)⟩
theorem lw_p41 : lw_okq (⟨"YearRope$BreakLog", "isIn", "(II)Z"⟩, 3) := ⟨⟨by decide +kernel, by decide +kernel⟩, List.mem_of_getElem? (i := 112) (by decide +kernel), List.mem_of_getElem? (i := 1383) (by decide +kernel), List.mem_of_getElem? (i := 1384) (by decide +kernel)⟩
theorem lw_p42 : lw_okq (⟨"YearRopeModel", "readAll", "(Z)I"⟩, 20) := ⟨⟨by decide +kernel, by decide +kernel⟩, List.mem_of_getElem? (i := 1408) (by decide +kernel), List.mem_of_getElem? (i := 1503) (by decide +kernel), List.mem_of_getElem? (i := 1504) (by decide +kernel)⟩
theorem lw_p43 : lw_okq (⟨"YearRopeModel", "uses", "()V"⟩, 20) := ⟨⟨by decide +kernel, by decide +kernel⟩, List.mem_of_getElem? (i := 1408) (by decide +kernel), List.mem_of_getElem? (i := 1507) (by decide +kernel), List.mem_of_getElem? (i := 1508) (by decide +kernel)⟩
theorem lw_p44 : lw_okq (⟨"YearRopeModel", "blanks", "()V"⟩, 20) := ⟨⟨by decide +kernel, by decide +kernel⟩, List.mem_of_getElem? (i := 1408) (by decide +kernel), List.mem_of_getElem? (i := 1511) (by decide +kernel), List.mem_of_getElem? (i := 1512) (by decide +kernel)⟩
theorem lw_p45 : lw_okq (⟨"YearRopeModel", "isAt", "(II)Z"⟩, 20) := ⟨⟨by decide +kernel, by decide +kernel⟩, List.mem_of_getElem? (i := 1408) (by decide +kernel), List.mem_of_getElem? (i := 1515) (by decide +kernel), List.mem_of_getElem? (i := 1516) (by decide +kernel)⟩
theorem lw_p46 : lw_okq (⟨"YearRopeModel", "readLine", "(ZI)Z"⟩, 20) := ⟨⟨by decide +kernel, by decide +kernel⟩, List.mem_of_getElem? (i := 1408) (by decide +kernel), List.mem_of_getElem? (i := 1519) (by decide +kernel), List.mem_of_getElem? (i := 1520) (by decide +kernel)⟩
theorem lw_p47 : lw_okq (⟨"YearRopeModel", "letters", "()V"⟩, 20) := ⟨⟨by decide +kernel, by decide +kernel⟩, List.mem_of_getElem? (i := 1408) (by decide +kernel), List.mem_of_getElem? (i := 1523) (by decide +kernel), List.mem_of_getElem? (i := 1524) (by decide +kernel)⟩
def lw_privs_3 : List (MethodName × Nat) := [(⟨"YearRope$Shed", "snap", "(LYearRope$Rope;)V"⟩, 15), (⟨"YearRope", "hoursWithOneMore", "(I)I"⟩, 15), (⟨"YearRope", "needShare", "(III)V"⟩, 15), (⟨"YearRope", "bearingOf", "(I)I"⟩, 15), (⟨"YearRope", "tallyThrees", "(II)I"⟩, 15), (⟨"YearRope", "sureYarns", "(I)I"⟩, 15), (⟨"YearRope", "yarnToAsk", "(I)I"⟩, 15), (⟨"YearRope", "seasonsTillChange", "(LYearRope$Rope;)I"⟩, 15), (⟨"YearRope", "usablePieces", "(II)I"⟩, 15), (⟨"YearRope$BreakLog", "isIn", "(II)Z"⟩, 3), (⟨"YearRopeModel", "readAll", "(Z)I"⟩, 20), (⟨"YearRopeModel", "uses", "()V"⟩, 20), (⟨"YearRopeModel", "blanks", "()V"⟩, 20), (⟨"YearRopeModel", "isAt", "(II)Z"⟩, 20), (⟨"YearRopeModel", "readLine", "(ZI)Z"⟩, 20), (⟨"YearRopeModel", "letters", "()V"⟩, 20)]
theorem lw_r3 : ∀ q ∈ lw_privs_3, lw_okq q := List.forall_mem_cons.mpr ⟨lw_p32, List.forall_mem_cons.mpr ⟨lw_p33, List.forall_mem_cons.mpr ⟨lw_p34, List.forall_mem_cons.mpr ⟨lw_p35, List.forall_mem_cons.mpr ⟨lw_p36, List.forall_mem_cons.mpr ⟨lw_p37, List.forall_mem_cons.mpr ⟨lw_p38, List.forall_mem_cons.mpr ⟨lw_p39, List.forall_mem_cons.mpr ⟨lw_p40, List.forall_mem_cons.mpr ⟨lw_p41, List.forall_mem_cons.mpr ⟨lw_p42, List.forall_mem_cons.mpr ⟨lw_p43, List.forall_mem_cons.mpr ⟨lw_p44, List.forall_mem_cons.mpr ⟨lw_p45, List.forall_mem_cons.mpr ⟨lw_p46, List.forall_mem_cons.mpr ⟨lw_p47, fun _ h => absurd h List.not_mem_nil⟩⟩⟩⟩⟩⟩⟩⟩⟩⟩⟩⟩⟩⟩⟩⟩
theorem lw_p48 : lw_okq (⟨"YearRopeModel", "readWalkLine", "()Z"⟩, 20) := ⟨⟨by decide +kernel, by decide +kernel⟩, List.mem_of_getElem? (i := 1408) (by decide +kernel), List.mem_of_getElem? (i := 1527) (by decide +kernel), List.mem_of_getElem? (i := 1528) (by decide +kernel)⟩
theorem lw_p49 : lw_okq (⟨"YearRopeModel", "isWord", "(Ljava/lang/String;)Z"⟩, 20) := ⟨⟨by decide +kernel, by decide +kernel⟩, List.mem_of_getElem? (i := 1408) (by decide +kernel), List.mem_of_getElem? (i := 1532) (by decide +kernel), List.mem_of_getElem? (i := 1533) (by decide +kernel)⟩
theorem lw_p50 : lw_okq (⟨"YearRopeModel", "readYarn", "()Z"⟩, 20) := ⟨⟨by decide +kernel, by decide +kernel⟩, List.mem_of_getElem? (i := 1408) (by decide +kernel), List.mem_of_getElem? (i := 1538) (by decide +kernel), List.mem_of_getElem? (i := 1539) (by decide +kernel)⟩
theorem lw_p51 : lw_okq (⟨"YearRopeModel", "yarns", "()I"⟩, 20) := ⟨⟨by decide +kernel, by decide +kernel⟩, List.mem_of_getElem? (i := 1408) (by decide +kernel), List.mem_of_getElem? (i := 1542) (by decide +kernel), List.mem_of_getElem? (i := 1543) (by decide +kernel)⟩
theorem lw_p52 : lw_okq (⟨"YearRopeModel", "number", "(II)I"⟩, 20) := ⟨⟨by decide +kernel, by decide +kernel⟩, List.mem_of_getElem? (i := 1408) (by decide +kernel), List.mem_of_getElem? (i := 1546) (by decide +kernel), List.mem_of_getElem? (i := 1547) (by decide +kernel)⟩
theorem lw_p53 : lw_okq (⟨"YearRopeModel", "after", "(Ljava/lang/String;II)I"⟩, 20) := ⟨⟨by decide +kernel, by decide +kernel⟩, List.mem_of_getElem? (i := 1408) (by decide +kernel), List.mem_of_getElem? (i := 1551) (by decide +kernel), List.mem_of_getElem? (i := 1552) (by decide +kernel)⟩
theorem lw_p54 : lw_okq (⟨"YearRopeModel", "readRope", "()Z"⟩, 20) := ⟨⟨by decide +kernel, by decide +kernel⟩, List.mem_of_getElem? (i := 1408) (by decide +kernel), List.mem_of_getElem? (i := 1561) (by decide +kernel), List.mem_of_getElem? (i := 1562) (by decide +kernel)⟩
theorem lw_p55 : lw_okq (⟨"YearRopeModel", "ropes", "()I"⟩, 20) := ⟨⟨by decide +kernel, by decide +kernel⟩, List.mem_of_getElem? (i := 1408) (by decide +kernel), List.mem_of_getElem? (i := 1565) (by decide +kernel), List.mem_of_getElem? (i := 1566) (by decide +kernel)⟩
theorem lw_p56 : lw_okq (⟨"YearRopeModel", "ofYarn", "(II)I"⟩, 20) := ⟨⟨by decide +kernel, by decide +kernel⟩, List.mem_of_getElem? (i := 1408) (by decide +kernel), List.mem_of_getElem? (i := 1569) (by decide +kernel), List.mem_of_getElem? (i := 1570) (by decide +kernel)⟩
theorem lw_p57 : lw_okq (⟨"YearRopeModel", "takes", "(IIII)V"⟩, 20) := ⟨⟨by decide +kernel, by decide +kernel⟩, List.mem_of_getElem? (i := 1408) (by decide +kernel), List.mem_of_getElem? (i := 1574) (by decide +kernel), List.mem_of_getElem? (i := 1575) (by decide +kernel)⟩
theorem lw_p58 : lw_okq (⟨"YearRopeModel", "lays", "(IIIII)V"⟩, 20) := ⟨⟨by decide +kernel, by decide +kernel⟩, List.mem_of_getElem? (i := 1408) (by decide +kernel), List.mem_of_getElem? (i := 1578) (by decide +kernel), List.mem_of_getElem? (i := 1579) (by decide +kernel)⟩
theorem lw_p59 : lw_okq (⟨"YearRopeModel", "of", "(II)I"⟩, 20) := ⟨⟨by decide +kernel, by decide +kernel⟩, List.mem_of_getElem? (i := 1408) (by decide +kernel), List.mem_of_getElem? (i := 1585) (by decide +kernel), List.mem_of_getElem? (i := 1586) (by decide +kernel)⟩
theorem lw_p60 : lw_okq (⟨"YearRopeModel", "readOrder", "()Z"⟩, 20) := ⟨⟨by decide +kernel, by decide +kernel⟩, List.mem_of_getElem? (i := 1408) (by decide +kernel), List.mem_of_getElem? (i := 1590) (by decide +kernel), List.mem_of_getElem? (i := 1591) (by decide +kernel)⟩
theorem lw_p61 : lw_okq (⟨"YearRopeModel", "orders", "()I"⟩, 20) := ⟨⟨by decide +kernel, by decide +kernel⟩, List.mem_of_getElem? (i := 1408) (by decide +kernel), List.mem_of_getElem? (i := 1594) (by decide +kernel), List.mem_of_getElem? (i := 1595) (by decide +kernel)⟩
theorem lw_p62 : lw_okq (⟨"YearRopeModel", "readOf", "(II)Z"⟩, 20) := ⟨⟨by decide +kernel, by decide +kernel⟩, List.mem_of_getElem? (i := 1408) (by decide +kernel), List.mem_of_getElem? (i := 1600) (by decide +kernel), List.mem_of_getElem? (i := 1601) (by decide +kernel)⟩
theorem lw_p63 : lw_okq (⟨"YearRopeModel", "isWhole", "(I)Z"⟩, 20) := ⟨⟨by decide +kernel, by decide +kernel⟩, List.mem_of_getElem? (i := 1408) (by decide +kernel), List.mem_of_getElem? (i := 1604) (by decide +kernel), List.mem_of_getElem? (i := 1605) (by decide +kernel)⟩
def lw_privs_4 : List (MethodName × Nat) := [(⟨"YearRopeModel", "readWalkLine", "()Z"⟩, 20), (⟨"YearRopeModel", "isWord", "(Ljava/lang/String;)Z"⟩, 20), (⟨"YearRopeModel", "readYarn", "()Z"⟩, 20), (⟨"YearRopeModel", "yarns", "()I"⟩, 20), (⟨"YearRopeModel", "number", "(II)I"⟩, 20), (⟨"YearRopeModel", "after", "(Ljava/lang/String;II)I"⟩, 20), (⟨"YearRopeModel", "readRope", "()Z"⟩, 20), (⟨"YearRopeModel", "ropes", "()I"⟩, 20), (⟨"YearRopeModel", "ofYarn", "(II)I"⟩, 20), (⟨"YearRopeModel", "takes", "(IIII)V"⟩, 20), (⟨"YearRopeModel", "lays", "(IIIII)V"⟩, 20), (⟨"YearRopeModel", "of", "(II)I"⟩, 20), (⟨"YearRopeModel", "readOrder", "()Z"⟩, 20), (⟨"YearRopeModel", "orders", "()I"⟩, 20), (⟨"YearRopeModel", "readOf", "(II)Z"⟩, 20), (⟨"YearRopeModel", "isWhole", "(I)Z"⟩, 20)]
theorem lw_r4 : ∀ q ∈ lw_privs_4, lw_okq q := List.forall_mem_cons.mpr ⟨lw_p48, List.forall_mem_cons.mpr ⟨lw_p49, List.forall_mem_cons.mpr ⟨lw_p50, List.forall_mem_cons.mpr ⟨lw_p51, List.forall_mem_cons.mpr ⟨lw_p52, List.forall_mem_cons.mpr ⟨lw_p53, List.forall_mem_cons.mpr ⟨lw_p54, List.forall_mem_cons.mpr ⟨lw_p55, List.forall_mem_cons.mpr ⟨lw_p56, List.forall_mem_cons.mpr ⟨lw_p57, List.forall_mem_cons.mpr ⟨lw_p58, List.forall_mem_cons.mpr ⟨lw_p59, List.forall_mem_cons.mpr ⟨lw_p60, List.forall_mem_cons.mpr ⟨lw_p61, List.forall_mem_cons.mpr ⟨lw_p62, List.forall_mem_cons.mpr ⟨lw_p63, fun _ h => absurd h List.not_mem_nil⟩⟩⟩⟩⟩⟩⟩⟩⟩⟩⟩⟩⟩⟩⟩⟩
theorem lw_p64 : lw_okq (⟨"YearRopeModel", "readNumber", "(I)Z"⟩, 20) := ⟨⟨by decide +kernel, by decide +kernel⟩, List.mem_of_getElem? (i := 1408) (by decide +kernel), List.mem_of_getElem? (i := 1611) (by decide +kernel), List.mem_of_getElem? (i := 1612) (by decide +kernel)⟩
theorem lw_p65 : lw_okq (⟨"YearRopeModel", "readLawLine", "(I)Z"⟩, 20) := ⟨⟨by decide +kernel, by decide +kernel⟩, List.mem_of_getElem? (i := 1408) (by decide +kernel), List.mem_of_getElem? (i := 1616) (by decide +kernel), List.mem_of_getElem? (i := 1617) (by decide +kernel)⟩
theorem lw_p66 : lw_okq (⟨"YearRopeModel", "passes", "(Ljava/lang/String;)Z"⟩, 20) := ⟨⟨by decide +kernel, by decide +kernel⟩, List.mem_of_getElem? (i := 1408) (by decide +kernel), List.mem_of_getElem? (i := 1624) (by decide +kernel), List.mem_of_getElem? (i := 1625) (by decide +kernel)⟩
theorem lw_p67 : lw_okq (⟨"YearRopeModel", "readCond", "()Z"⟩, 20) := ⟨⟨by decide +kernel, by decide +kernel⟩, List.mem_of_getElem? (i := 1408) (by decide +kernel), List.mem_of_getElem? (i := 1628) (by decide +kernel), List.mem_of_getElem? (i := 1629) (by decide +kernel)⟩
theorem lw_p68 : lw_okq (⟨"YearRopeModel", "readAllOf", "()Z"⟩, 20) := ⟨⟨by decide +kernel, by decide +kernel⟩, List.mem_of_getElem? (i := 1408) (by decide +kernel), List.mem_of_getElem? (i := 1632) (by decide +kernel), List.mem_of_getElem? (i := 1633) (by decide +kernel)⟩
theorem lw_p69 : lw_okq (⟨"YearRopeModel", "readAtom", "()Z"⟩, 20) := ⟨⟨by decide +kernel, by decide +kernel⟩, List.mem_of_getElem? (i := 1408) (by decide +kernel), List.mem_of_getElem? (i := 1636) (by decide +kernel), List.mem_of_getElem? (i := 1637) (by decide +kernel)⟩
theorem lw_p70 : lw_okq (⟨"YearRopeModel", "sign", "(I)Z"⟩, 20) := ⟨⟨by decide +kernel, by decide +kernel⟩, List.mem_of_getElem? (i := 1408) (by decide +kernel), List.mem_of_getElem? (i := 1640) (by decide +kernel), List.mem_of_getElem? (i := 1641) (by decide +kernel)⟩
theorem lw_p71 : lw_okq (⟨"YearRopeModel", "emits", "(II)V"⟩, 20) := ⟨⟨by decide +kernel, by decide +kernel⟩, List.mem_of_getElem? (i := 1408) (by decide +kernel), List.mem_of_getElem? (i := 1645) (by decide +kernel), List.mem_of_getElem? (i := 1646) (by decide +kernel)⟩
theorem lw_p72 : lw_okq (⟨"YearRopeModel", "readTag", "()Z"⟩, 20) := ⟨⟨by decide +kernel, by decide +kernel⟩, List.mem_of_getElem? (i := 1408) (by decide +kernel), List.mem_of_getElem? (i := 1649) (by decide +kernel), List.mem_of_getElem? (i := 1650) (by decide +kernel)⟩
theorem lw_p73 : lw_okq (⟨"YearRopeModel", "readSum", "()Z"⟩, 20) := ⟨⟨by decide +kernel, by decide +kernel⟩, List.mem_of_getElem? (i := 1408) (by decide +kernel), List.mem_of_getElem? (i := 1655) (by decide +kernel), List.mem_of_getElem? (i := 1656) (by decide +kernel)⟩
theorem lw_p74 : lw_okq (⟨"YearRopeModel", "readPart", "()Z"⟩, 20) := ⟨⟨by decide +kernel, by decide +kernel⟩, List.mem_of_getElem? (i := 1408) (by decide +kernel), List.mem_of_getElem? (i := 1659) (by decide +kernel), List.mem_of_getElem? (i := 1660) (by decide +kernel)⟩
theorem lw_p75 : lw_okq (⟨"YearRopeModel", "throwsIf", "(ZI)Z"⟩, 20) := ⟨⟨by decide +kernel, by decide +kernel⟩, List.mem_of_getElem? (i := 1408) (by decide +kernel), List.mem_of_getElem? (i := 1671) (by decide +kernel), List.mem_of_getElem? (i := 1672) (by decide +kernel)⟩
theorem lw_p76 : lw_okq (⟨"YearRopeModel", "noYarn", "(I)Z"⟩, 20) := ⟨⟨by decide +kernel, by decide +kernel⟩, List.mem_of_getElem? (i := 1408) (by decide +kernel), List.mem_of_getElem? (i := 1683) (by decide +kernel), List.mem_of_getElem? (i := 1684) (by decide +kernel)⟩
theorem lw_p77 : lw_okq (⟨"YearRopeModel", "priceOfYarn", "(I)I"⟩, 20) := ⟨⟨by decide +kernel, by decide +kernel⟩, List.mem_of_getElem? (i := 1408) (by decide +kernel), List.mem_of_getElem? (i := 1690) (by decide +kernel), List.mem_of_getElem? (i := 1691) (by decide +kernel)⟩
theorem lw_p78 : lw_okq (⟨"YearRopeModel", "usesOf", "(I)I"⟩, 20) := ⟨⟨by decide +kernel, by decide +kernel⟩, List.mem_of_getElem? (i := 1408) (by decide +kernel), List.mem_of_getElem? (i := 1695) (by decide +kernel), List.mem_of_getElem? (i := 1696) (by decide +kernel)⟩
theorem lw_p79 : lw_okq (⟨"YearRopeModel", "yarnSet", "(I)I"⟩, 20) := ⟨⟨by decide +kernel, by decide +kernel⟩, List.mem_of_getElem? (i := 1408) (by decide +kernel), List.mem_of_getElem? (i := 1699) (by decide +kernel), List.mem_of_getElem? (i := 1700) (by decide +kernel)⟩
def lw_privs_5 : List (MethodName × Nat) := [(⟨"YearRopeModel", "readNumber", "(I)Z"⟩, 20), (⟨"YearRopeModel", "readLawLine", "(I)Z"⟩, 20), (⟨"YearRopeModel", "passes", "(Ljava/lang/String;)Z"⟩, 20), (⟨"YearRopeModel", "readCond", "()Z"⟩, 20), (⟨"YearRopeModel", "readAllOf", "()Z"⟩, 20), (⟨"YearRopeModel", "readAtom", "()Z"⟩, 20), (⟨"YearRopeModel", "sign", "(I)Z"⟩, 20), (⟨"YearRopeModel", "emits", "(II)V"⟩, 20), (⟨"YearRopeModel", "readTag", "()Z"⟩, 20), (⟨"YearRopeModel", "readSum", "()Z"⟩, 20), (⟨"YearRopeModel", "readPart", "()Z"⟩, 20), (⟨"YearRopeModel", "throwsIf", "(ZI)Z"⟩, 20), (⟨"YearRopeModel", "noYarn", "(I)Z"⟩, 20), (⟨"YearRopeModel", "priceOfYarn", "(I)I"⟩, 20), (⟨"YearRopeModel", "usesOf", "(I)I"⟩, 20), (⟨"YearRopeModel", "yarnSet", "(I)I"⟩, 20)]
theorem lw_r5 : ∀ q ∈ lw_privs_5, lw_okq q := List.forall_mem_cons.mpr ⟨lw_p64, List.forall_mem_cons.mpr ⟨lw_p65, List.forall_mem_cons.mpr ⟨lw_p66, List.forall_mem_cons.mpr ⟨lw_p67, List.forall_mem_cons.mpr ⟨lw_p68, List.forall_mem_cons.mpr ⟨lw_p69, List.forall_mem_cons.mpr ⟨lw_p70, List.forall_mem_cons.mpr ⟨lw_p71, List.forall_mem_cons.mpr ⟨lw_p72, List.forall_mem_cons.mpr ⟨lw_p73, List.forall_mem_cons.mpr ⟨lw_p74, List.forall_mem_cons.mpr ⟨lw_p75, List.forall_mem_cons.mpr ⟨lw_p76, List.forall_mem_cons.mpr ⟨lw_p77, List.forall_mem_cons.mpr ⟨lw_p78, List.forall_mem_cons.mpr ⟨lw_p79, fun _ h => absurd h List.not_mem_nil⟩⟩⟩⟩⟩⟩⟩⟩⟩⟩⟩⟩⟩⟩⟩⟩
theorem lw_p80 : lw_okq (⟨"YearRopeModel", "noRope", "(I)Z"⟩, 20) := ⟨⟨by decide +kernel, by decide +kernel⟩, List.mem_of_getElem? (i := 1408) (by decide +kernel), List.mem_of_getElem? (i := 1710) (by decide +kernel), List.mem_of_getElem? (i := 1711) (by decide +kernel)⟩
theorem lw_p81 : lw_okq (⟨"YearRopeModel", "bearsOf", "(I)I"⟩, 20) := ⟨⟨by decide +kernel, by decide +kernel⟩, List.mem_of_getElem? (i := 1408) (by decide +kernel), List.mem_of_getElem? (i := 1714) (by decide +kernel), List.mem_of_getElem? (i := 1715) (by decide +kernel)⟩
theorem lw_p82 : lw_okq (⟨"YearRopeModel", "soundOf", "(I)I"⟩, 20) := ⟨⟨by decide +kernel, by decide +kernel⟩, List.mem_of_getElem? (i := 1408) (by decide +kernel), List.mem_of_getElem? (i := 1718) (by decide +kernel), List.mem_of_getElem? (i := 1719) (by decide +kernel)⟩
theorem lw_p83 : lw_okq (⟨"YearRopeModel", "sumOf", "(II)I"⟩, 20) := ⟨⟨by decide +kernel, by decide +kernel⟩, List.mem_of_getElem? (i := 1408) (by decide +kernel), List.mem_of_getElem? (i := 1722) (by decide +kernel), List.mem_of_getElem? (i := 1723) (by decide +kernel)⟩
theorem lw_p84 : lw_okq (⟨"YearRopeModel", "holdsLine", "(II)Z"⟩, 20) := ⟨⟨by decide +kernel, by decide +kernel⟩, List.mem_of_getElem? (i := 1408) (by decide +kernel), List.mem_of_getElem? (i := 1726) (by decide +kernel), List.mem_of_getElem? (i := 1727) (by decide +kernel)⟩
theorem lw_p85 : lw_okq (⟨"YearRopeModel", "factOf", "(III)I"⟩, 20) := ⟨⟨by decide +kernel, by decide +kernel⟩, List.mem_of_getElem? (i := 1408) (by decide +kernel), List.mem_of_getElem? (i := 1730) (by decide +kernel), List.mem_of_getElem? (i := 1731) (by decide +kernel)⟩
theorem lw_p86 : lw_okq (⟨"YearRopeModel", "weakOf", "(I)I"⟩, 20) := ⟨⟨by decide +kernel, by decide +kernel⟩, List.mem_of_getElem? (i := 1408) (by decide +kernel), List.mem_of_getElem? (i := 1734) (by decide +kernel), List.mem_of_getElem? (i := 1735) (by decide +kernel)⟩
theorem lw_p87 : lw_okq (⟨"YearRopeModel", "yarnOf", "(III)I"⟩, 20) := ⟨⟨by decide +kernel, by decide +kernel⟩, List.mem_of_getElem? (i := 1408) (by decide +kernel), List.mem_of_getElem? (i := 1738) (by decide +kernel), List.mem_of_getElem? (i := 1739) (by decide +kernel)⟩
theorem lw_p88 : lw_okq (⟨"YearRopeModel", "strongOf", "(I)I"⟩, 20) := ⟨⟨by decide +kernel, by decide +kernel⟩, List.mem_of_getElem? (i := 1408) (by decide +kernel), List.mem_of_getElem? (i := 1742) (by decide +kernel), List.mem_of_getElem? (i := 1743) (by decide +kernel)⟩
theorem lw_p89 : lw_okq (⟨"YearRopeModel", "rotOf", "(I)I"⟩, 20) := ⟨⟨by decide +kernel, by decide +kernel⟩, List.mem_of_getElem? (i := 1408) (by decide +kernel), List.mem_of_getElem? (i := 1746) (by decide +kernel), List.mem_of_getElem? (i := 1747) (by decide +kernel)⟩
theorem lw_p90 : lw_okq (⟨"YearRopeModel", "reignsOf", "(I)I"⟩, 20) := ⟨⟨by decide +kernel, by decide +kernel⟩, List.mem_of_getElem? (i := 1408) (by decide +kernel), List.mem_of_getElem? (i := 1750) (by decide +kernel), List.mem_of_getElem? (i := 1751) (by decide +kernel)⟩
theorem lw_p91 : lw_okq (⟨"YearRopeModel", "wearsBy", "(I)I"⟩, 20) := ⟨⟨by decide +kernel, by decide +kernel⟩, List.mem_of_getElem? (i := 1408) (by decide +kernel), List.mem_of_getElem? (i := 1755) (by decide +kernel), List.mem_of_getElem? (i := 1756) (by decide +kernel)⟩
theorem lw_p92 : lw_okq (⟨"YearRopeModel", "priceOf", "(I)I"⟩, 20) := ⟨⟨by decide +kernel, by decide +kernel⟩, List.mem_of_getElem? (i := 1408) (by decide +kernel), List.mem_of_getElem? (i := 1759) (by decide +kernel), List.mem_of_getElem? (i := 1760) (by decide +kernel)⟩
theorem lw_p93 : lw_okq (⟨"YearRopeModel", "sameAs", "(I)I"⟩, 20) := ⟨⟨by decide +kernel, by decide +kernel⟩, List.mem_of_getElem? (i := 1408) (by decide +kernel), List.mem_of_getElem? (i := 1763) (by decide +kernel), List.mem_of_getElem? (i := 1764) (by decide +kernel)⟩
theorem lw_p94 : lw_okq (⟨"YearRopeModel", "noOrder", "(I)Z"⟩, 20) := ⟨⟨by decide +kernel, by decide +kernel⟩, List.mem_of_getElem? (i := 1408) (by decide +kernel), List.mem_of_getElem? (i := 1771) (by decide +kernel), List.mem_of_getElem? (i := 1772) (by decide +kernel)⟩
theorem lw_p95 : lw_okq (⟨"YearRopeModel", "ofOrder", "(II)I"⟩, 20) := ⟨⟨by decide +kernel, by decide +kernel⟩, List.mem_of_getElem? (i := 1408) (by decide +kernel), List.mem_of_getElem? (i := 1775) (by decide +kernel), List.mem_of_getElem? (i := 1776) (by decide +kernel)⟩
def lw_privs_6 : List (MethodName × Nat) := [(⟨"YearRopeModel", "noRope", "(I)Z"⟩, 20), (⟨"YearRopeModel", "bearsOf", "(I)I"⟩, 20), (⟨"YearRopeModel", "soundOf", "(I)I"⟩, 20), (⟨"YearRopeModel", "sumOf", "(II)I"⟩, 20), (⟨"YearRopeModel", "holdsLine", "(II)Z"⟩, 20), (⟨"YearRopeModel", "factOf", "(III)I"⟩, 20), (⟨"YearRopeModel", "weakOf", "(I)I"⟩, 20), (⟨"YearRopeModel", "yarnOf", "(III)I"⟩, 20), (⟨"YearRopeModel", "strongOf", "(I)I"⟩, 20), (⟨"YearRopeModel", "rotOf", "(I)I"⟩, 20), (⟨"YearRopeModel", "reignsOf", "(I)I"⟩, 20), (⟨"YearRopeModel", "wearsBy", "(I)I"⟩, 20), (⟨"YearRopeModel", "priceOf", "(I)I"⟩, 20), (⟨"YearRopeModel", "sameAs", "(I)I"⟩, 20), (⟨"YearRopeModel", "noOrder", "(I)Z"⟩, 20), (⟨"YearRopeModel", "ofOrder", "(II)I"⟩, 20)]
theorem lw_r6 : ∀ q ∈ lw_privs_6, lw_okq q := List.forall_mem_cons.mpr ⟨lw_p80, List.forall_mem_cons.mpr ⟨lw_p81, List.forall_mem_cons.mpr ⟨lw_p82, List.forall_mem_cons.mpr ⟨lw_p83, List.forall_mem_cons.mpr ⟨lw_p84, List.forall_mem_cons.mpr ⟨lw_p85, List.forall_mem_cons.mpr ⟨lw_p86, List.forall_mem_cons.mpr ⟨lw_p87, List.forall_mem_cons.mpr ⟨lw_p88, List.forall_mem_cons.mpr ⟨lw_p89, List.forall_mem_cons.mpr ⟨lw_p90, List.forall_mem_cons.mpr ⟨lw_p91, List.forall_mem_cons.mpr ⟨lw_p92, List.forall_mem_cons.mpr ⟨lw_p93, List.forall_mem_cons.mpr ⟨lw_p94, List.forall_mem_cons.mpr ⟨lw_p95, fun _ h => absurd h List.not_mem_nil⟩⟩⟩⟩⟩⟩⟩⟩⟩⟩⟩⟩⟩⟩⟩⟩
theorem lw_p96 : lw_okq (⟨"YearRopeModel", "bearsBy", "(IIII)I"⟩, 20) := ⟨⟨by decide +kernel, by decide +kernel⟩, List.mem_of_getElem? (i := 1408) (by decide +kernel), List.mem_of_getElem? (i := 1786) (by decide +kernel), List.mem_of_getElem? (i := 1787) (by decide +kernel)⟩
theorem lw_p97 : lw_okq (⟨"YearRopeModel", "remembers", "()V"⟩, 20) := ⟨⟨by decide +kernel, by decide +kernel⟩, List.mem_of_getElem? (i := 1408) (by decide +kernel), List.mem_of_getElem? (i := 1794) (by decide +kernel), List.mem_of_getElem? (i := 1795) (by decide +kernel)⟩
theorem lw_p98 : lw_okq (⟨"YearRopeModel", "tars", "(I)V"⟩, 20) := ⟨⟨by decide +kernel, by decide +kernel⟩, List.mem_of_getElem? (i := 1408) (by decide +kernel), List.mem_of_getElem? (i := 1802) (by decide +kernel), List.mem_of_getElem? (i := 1803) (by decide +kernel)⟩
theorem lw_p99 : lw_okq (⟨"YearRopeModel", "canDouble", "(I)Z"⟩, 20) := ⟨⟨by decide +kernel, by decide +kernel⟩, List.mem_of_getElem? (i := 1408) (by decide +kernel), List.mem_of_getElem? (i := 1814) (by decide +kernel), List.mem_of_getElem? (i := 1815) (by decide +kernel)⟩
theorem lw_p100 : lw_okq (⟨"YearRopeModel", "doubles", "(I)V"⟩, 20) := ⟨⟨by decide +kernel, by decide +kernel⟩, List.mem_of_getElem? (i := 1408) (by decide +kernel), List.mem_of_getElem? (i := 1818) (by decide +kernel), List.mem_of_getElem? (i := 1819) (by decide +kernel)⟩
theorem lw_p101 : lw_okq (⟨"YearRopeModel", "canMeet", "(II)Z"⟩, 20) := ⟨⟨by decide +kernel, by decide +kernel⟩, List.mem_of_getElem? (i := 1408) (by decide +kernel), List.mem_of_getElem? (i := 1834) (by decide +kernel), List.mem_of_getElem? (i := 1835) (by decide +kernel)⟩
theorem lw_p102 : lw_okq (⟨"YearRopeModel", "oneSeason", "()V"⟩, 20) := ⟨⟨by decide +kernel, by decide +kernel⟩, List.mem_of_getElem? (i := 1408) (by decide +kernel), List.mem_of_getElem? (i := 1846) (by decide +kernel), List.mem_of_getElem? (i := 1847) (by decide +kernel)⟩
theorem lw_p103 : lw_okq (⟨"YearRopeModel", "draw", "(I)I"⟩, 20) := ⟨⟨by decide +kernel, by decide +kernel⟩, List.mem_of_getElem? (i := 1408) (by decide +kernel), List.mem_of_getElem? (i := 1850) (by decide +kernel), List.mem_of_getElem? (i := 1851) (by decide +kernel)⟩
theorem lw_p104 : lw_okq (⟨"YearRopeModel", "goesOn", "(IZ)V"⟩, 20) := ⟨⟨by decide +kernel, by decide +kernel⟩, List.mem_of_getElem? (i := 1408) (by decide +kernel), List.mem_of_getElem? (i := 1855) (by decide +kernel), List.mem_of_getElem? (i := 1856) (by decide +kernel)⟩
theorem lw_p105 : lw_okq (⟨"YearRopeModel", "breaks", "(I)V"⟩, 20) := ⟨⟨by decide +kernel, by decide +kernel⟩, List.mem_of_getElem? (i := 1408) (by decide +kernel), List.mem_of_getElem? (i := 1859) (by decide +kernel), List.mem_of_getElem? (i := 1860) (by decide +kernel)⟩
theorem lw_p106 : lw_okq (⟨"YearRopeModel", "haveLength", "(IIII)Z"⟩, 20) := ⟨⟨by decide +kernel, by decide +kernel⟩, List.mem_of_getElem? (i := 1408) (by decide +kernel), List.mem_of_getElem? (i := 1867) (by decide +kernel), List.mem_of_getElem? (i := 1868) (by decide +kernel)⟩
theorem lw_p107 : lw_okq (⟨"YearRopeModel", "cheapestOf", "(I)I"⟩, 20) := ⟨⟨by decide +kernel, by decide +kernel⟩, List.mem_of_getElem? (i := 1408) (by decide +kernel), List.mem_of_getElem? (i := 1875) (by decide +kernel), List.mem_of_getElem? (i := 1876) (by decide +kernel)⟩
theorem lw_p108 : lw_okq (⟨"YearRopeModel", "metBy", "(I)I"⟩, 20) := ⟨⟨by decide +kernel, by decide +kernel⟩, List.mem_of_getElem? (i := 1408) (by decide +kernel), List.mem_of_getElem? (i := 1884) (by decide +kernel), List.mem_of_getElem? (i := 1885) (by decide +kernel)⟩
theorem lw_p109 : lw_okq (⟨"YearRopeModel", "laysMet", "()V"⟩, 20) := ⟨⟨by decide +kernel, by decide +kernel⟩, List.mem_of_getElem? (i := 1408) (by decide +kernel), List.mem_of_getElem? (i := 1892) (by decide +kernel), List.mem_of_getElem? (i := 1893) (by decide +kernel)⟩
theorem lw_p110 : lw_okq (⟨"YearRopeModel", "allOrders", "()I"⟩, 20) := ⟨⟨by decide +kernel, by decide +kernel⟩, List.mem_of_getElem? (i := 1408) (by decide +kernel), List.mem_of_getElem? (i := 1896) (by decide +kernel), List.mem_of_getElem? (i := 1897) (by decide +kernel)⟩
theorem lw_p111 : lw_okq (⟨"YearRopeModel", "payOf", "(I)I"⟩, 20) := ⟨⟨by decide +kernel, by decide +kernel⟩, List.mem_of_getElem? (i := 1408) (by decide +kernel), List.mem_of_getElem? (i := 1900) (by decide +kernel), List.mem_of_getElem? (i := 1901) (by decide +kernel)⟩
def lw_privs_7 : List (MethodName × Nat) := [(⟨"YearRopeModel", "bearsBy", "(IIII)I"⟩, 20), (⟨"YearRopeModel", "remembers", "()V"⟩, 20), (⟨"YearRopeModel", "tars", "(I)V"⟩, 20), (⟨"YearRopeModel", "canDouble", "(I)Z"⟩, 20), (⟨"YearRopeModel", "doubles", "(I)V"⟩, 20), (⟨"YearRopeModel", "canMeet", "(II)Z"⟩, 20), (⟨"YearRopeModel", "oneSeason", "()V"⟩, 20), (⟨"YearRopeModel", "draw", "(I)I"⟩, 20), (⟨"YearRopeModel", "goesOn", "(IZ)V"⟩, 20), (⟨"YearRopeModel", "breaks", "(I)V"⟩, 20), (⟨"YearRopeModel", "haveLength", "(IIII)Z"⟩, 20), (⟨"YearRopeModel", "cheapestOf", "(I)I"⟩, 20), (⟨"YearRopeModel", "metBy", "(I)I"⟩, 20), (⟨"YearRopeModel", "laysMet", "()V"⟩, 20), (⟨"YearRopeModel", "allOrders", "()I"⟩, 20), (⟨"YearRopeModel", "payOf", "(I)I"⟩, 20)]
theorem lw_r7 : ∀ q ∈ lw_privs_7, lw_okq q := List.forall_mem_cons.mpr ⟨lw_p96, List.forall_mem_cons.mpr ⟨lw_p97, List.forall_mem_cons.mpr ⟨lw_p98, List.forall_mem_cons.mpr ⟨lw_p99, List.forall_mem_cons.mpr ⟨lw_p100, List.forall_mem_cons.mpr ⟨lw_p101, List.forall_mem_cons.mpr ⟨lw_p102, List.forall_mem_cons.mpr ⟨lw_p103, List.forall_mem_cons.mpr ⟨lw_p104, List.forall_mem_cons.mpr ⟨lw_p105, List.forall_mem_cons.mpr ⟨lw_p106, List.forall_mem_cons.mpr ⟨lw_p107, List.forall_mem_cons.mpr ⟨lw_p108, List.forall_mem_cons.mpr ⟨lw_p109, List.forall_mem_cons.mpr ⟨lw_p110, List.forall_mem_cons.mpr ⟨lw_p111, fun _ h => absurd h List.not_mem_nil⟩⟩⟩⟩⟩⟩⟩⟩⟩⟩⟩⟩⟩⟩⟩⟩
theorem lw_p112 : lw_okq (⟨"YearRopeModel", "longOf", "(I)I"⟩, 20) := ⟨⟨by decide +kernel, by decide +kernel⟩, List.mem_of_getElem? (i := 1408) (by decide +kernel), List.mem_of_getElem? (i := 1908) (by decide +kernel), List.mem_of_getElem? (i := 1909) (by decide +kernel)⟩
theorem lw_p113 : lw_okq (⟨"YearRopeModel", "noShare", "(III)Z"⟩, 20) := ⟨⟨by decide +kernel, by decide +kernel⟩, List.mem_of_getElem? (i := 1408) (by decide +kernel), List.mem_of_getElem? (i := 1920) (by decide +kernel), List.mem_of_getElem? (i := 1921) (by decide +kernel)⟩
theorem lw_p114 : lw_okq (⟨"YearRopeModel", "shareOf", "(III)I"⟩, 20) := ⟨⟨by decide +kernel, by decide +kernel⟩, List.mem_of_getElem? (i := 1408) (by decide +kernel), List.mem_of_getElem? (i := 1924) (by decide +kernel), List.mem_of_getElem? (i := 1925) (by decide +kernel)⟩
theorem lw_p115 : lw_okq (⟨"YearRopeModel", "fits", "(IIIII)Z"⟩, 20) := ⟨⟨by decide +kernel, by decide +kernel⟩, List.mem_of_getElem? (i := 1408) (by decide +kernel), List.mem_of_getElem? (i := 1936) (by decide +kernel), List.mem_of_getElem? (i := 1937) (by decide +kernel)⟩
theorem lw_p116 : lw_okq (⟨"YearRopeModel", "keepsAll", "()V"⟩, 20) := ⟨⟨by decide +kernel, by decide +kernel⟩, List.mem_of_getElem? (i := 1408) (by decide +kernel), List.mem_of_getElem? (i := 1944) (by decide +kernel), List.mem_of_getElem? (i := 1945) (by decide +kernel)⟩
theorem lw_p117 : lw_okq (⟨"YearRopeModel", "bringsBack", "()V"⟩, 20) := ⟨⟨by decide +kernel, by decide +kernel⟩, List.mem_of_getElem? (i := 1408) (by decide +kernel), List.mem_of_getElem? (i := 1948) (by decide +kernel), List.mem_of_getElem? (i := 1949) (by decide +kernel)⟩
theorem lw_p118 : lw_okq (⟨"YearRopeModel", "wholeOnes", "()I"⟩, 20) := ⟨⟨by decide +kernel, by decide +kernel⟩, List.mem_of_getElem? (i := 1408) (by decide +kernel), List.mem_of_getElem? (i := 1964) (by decide +kernel), List.mem_of_getElem? (i := 1965) (by decide +kernel)⟩
theorem lw_p119 : lw_okq (⟨"YearRopeModel", "bearsAll", "(I)I"⟩, 20) := ⟨⟨by decide +kernel, by decide +kernel⟩, List.mem_of_getElem? (i := 1408) (by decide +kernel), List.mem_of_getElem? (i := 1968) (by decide +kernel), List.mem_of_getElem? (i := 1969) (by decide +kernel)⟩
theorem lw_p120 : lw_okq (⟨"YearRopeModel", "allLoads", "()I"⟩, 20) := ⟨⟨by decide +kernel, by decide +kernel⟩, List.mem_of_getElem? (i := 1408) (by decide +kernel), List.mem_of_getElem? (i := 1972) (by decide +kernel), List.mem_of_getElem? (i := 1973) (by decide +kernel)⟩
theorem lw_p121 : lw_okq (⟨"YearRopeModel", "priceOfAll", "(I)I"⟩, 20) := ⟨⟨by decide +kernel, by decide +kernel⟩, List.mem_of_getElem? (i := 1408) (by decide +kernel), List.mem_of_getElem? (i := 1980) (by decide +kernel), List.mem_of_getElem? (i := 1981) (by decide +kernel)⟩
theorem lw_p122 : lw_okq (⟨"YearRopeModel", "canLay", "(II)Z"⟩, 20) := ⟨⟨by decide +kernel, by decide +kernel⟩, List.mem_of_getElem? (i := 1408) (by decide +kernel), List.mem_of_getElem? (i := 1996) (by decide +kernel), List.mem_of_getElem? (i := 1997) (by decide +kernel)⟩
theorem lw_p123 : lw_okq (⟨"YearRopeModel", "brokenOnes", "()I"⟩, 20) := ⟨⟨by decide +kernel, by decide +kernel⟩, List.mem_of_getElem? (i := 1408) (by decide +kernel), List.mem_of_getElem? (i := 2004) (by decide +kernel), List.mem_of_getElem? (i := 2005) (by decide +kernel)⟩
theorem lw_p124 : lw_okq (⟨"YearRopeModel", "isIn", "(II)Z"⟩, 20) := ⟨⟨by decide +kernel, by decide +kernel⟩, List.mem_of_getElem? (i := 1408) (by decide +kernel), List.mem_of_getElem? (i := 2016) (by decide +kernel), List.mem_of_getElem? (i := 2017) (by decide +kernel)⟩
theorem lw_p125 : lw_okq (⟨"YearRopeModel", "ofLog", "(II)I"⟩, 20) := ⟨⟨by decide +kernel, by decide +kernel⟩, List.mem_of_getElem? (i := 1408) (by decide +kernel), List.mem_of_getElem? (i := 2020) (by decide +kernel), List.mem_of_getElem? (i := 2021) (by decide +kernel)⟩
def lw_privs_8 : List (MethodName × Nat) := [(⟨"YearRopeModel", "longOf", "(I)I"⟩, 20), (⟨"YearRopeModel", "noShare", "(III)Z"⟩, 20), (⟨"YearRopeModel", "shareOf", "(III)I"⟩, 20), (⟨"YearRopeModel", "fits", "(IIIII)Z"⟩, 20), (⟨"YearRopeModel", "keepsAll", "()V"⟩, 20), (⟨"YearRopeModel", "bringsBack", "()V"⟩, 20), (⟨"YearRopeModel", "wholeOnes", "()I"⟩, 20), (⟨"YearRopeModel", "bearsAll", "(I)I"⟩, 20), (⟨"YearRopeModel", "allLoads", "()I"⟩, 20), (⟨"YearRopeModel", "priceOfAll", "(I)I"⟩, 20), (⟨"YearRopeModel", "canLay", "(II)Z"⟩, 20), (⟨"YearRopeModel", "brokenOnes", "()I"⟩, 20), (⟨"YearRopeModel", "isIn", "(II)Z"⟩, 20), (⟨"YearRopeModel", "ofLog", "(II)I"⟩, 20)]
theorem lw_r8 : ∀ q ∈ lw_privs_8, lw_okq q := List.forall_mem_cons.mpr ⟨lw_p112, List.forall_mem_cons.mpr ⟨lw_p113, List.forall_mem_cons.mpr ⟨lw_p114, List.forall_mem_cons.mpr ⟨lw_p115, List.forall_mem_cons.mpr ⟨lw_p116, List.forall_mem_cons.mpr ⟨lw_p117, List.forall_mem_cons.mpr ⟨lw_p118, List.forall_mem_cons.mpr ⟨lw_p119, List.forall_mem_cons.mpr ⟨lw_p120, List.forall_mem_cons.mpr ⟨lw_p121, List.forall_mem_cons.mpr ⟨lw_p122, List.forall_mem_cons.mpr ⟨lw_p123, List.forall_mem_cons.mpr ⟨lw_p124, List.forall_mem_cons.mpr ⟨lw_p125, fun _ h => absurd h List.not_mem_nil⟩⟩⟩⟩⟩⟩⟩⟩⟩⟩⟩⟩⟩⟩
def lw_privs : List (MethodName × Nat) := lw_privs_1 ++ (lw_privs_2 ++ (lw_privs_3 ++ (lw_privs_4 ++ (lw_privs_5 ++ (lw_privs_6 ++ (lw_privs_7 ++ (lw_privs_8)))))))
def lw_tbl : List Cond := k2_sels lw_privs ++ tables_1
theorem lw_privs_ok : ∀ q ∈ lw_privs, lw_okq q := by
  show ∀ q ∈ lw_privs_1 ++ (lw_privs_2 ++ (lw_privs_3 ++ (lw_privs_4 ++ (lw_privs_5 ++ (lw_privs_6 ++ (lw_privs_7 ++ (lw_privs_8))))))), lw_okq q
  exact List.forall_mem_append.mpr ⟨lw_r1, List.forall_mem_append.mpr ⟨lw_r2, List.forall_mem_append.mpr ⟨lw_r3, List.forall_mem_append.mpr ⟨lw_r4, List.forall_mem_append.mpr ⟨lw_r5, List.forall_mem_append.mpr ⟨lw_r6, List.forall_mem_append.mpr ⟨lw_r7, lw_r8⟩⟩⟩⟩⟩⟩⟩

def RX0 : String := "YearRope$BreakLog"
def TX0 : u_T := fun k => match k with
  | 0 => ("YearRope$BreakLog", "cells", "[I", true)
  | 1 => ("YearRope$BreakLog", "rows", "I", false)
  | _ => ("YearRope$BreakLog", "next", "I", false)
def tyX0 : Nat → FieldType := fun k => match k with
  | 0 => .array .int
  | 1 => .int
  | _ => .int
theorem nmX0 : ∀ a, a < 3 → ∀ b, b < 3 → a ≠ b → (TX0 a).2.1 ≠ (TX0 b).2.1 := by decide +kernel
theorem tyX0_ok : ∀ k, k < 3 → parseFieldDescriptor (TX0 k).2.2.1 = some (tyX0 k) := by decide +kernel
abbrev cX0_init : ByteArray := prog_2_method_1_code
def yX0_init : MethodName := ⟨RX0, "<init>", "()V"⟩
abbrev cX0_become : ByteArray := prog_2_method_2_code
def yX0_become : MethodName := ⟨RX0, "become", "(LYearRope$BreakLog;)V"⟩
abbrev cX0_add : ByteArray := prog_2_method_3_code
def yX0_add : MethodName := ⟨RX0, "add", "(ILYearRope$Rope;)V"⟩
abbrev cX0_cell : ByteArray := prog_2_method_4_code
def yX0_cell : MethodName := ⟨RX0, "cell", "(II)I"⟩
abbrev cX0_rowsOf : ByteArray := prog_2_method_5_code
def yX0_rowsOf : MethodName := ⟨RX0, "rowsOf", "(I)I"⟩
abbrev cX0_loadsOf : ByteArray := prog_2_method_6_code
def yX0_loadsOf : MethodName := ⟨RX0, "loadsOf", "(I)I"⟩
abbrev cX0_isIn : ByteArray := prog_2_method_7_code
def yX0_isIn : MethodName := ⟨RX0, "isIn", "(II)Z"⟩
def RX1 : String := "YearRope$Law"
def TX1 : u_T := fun k => match k with
  | 0 => ("YearRope$Law", "kinds", "[I", true)
  | 1 => ("YearRope$Law", "amounts", "[I", true)
  | 2 => ("YearRope$Law", "ends", "[I", true)
  | 3 => ("YearRope$Law", "codes", "[I", true)
  | 4 => ("YearRope$Law", "facts", "[I", true)
  | 5 => ("YearRope$Law", "stack", "[I", true)
  | 6 => ("YearRope$Law", "lines", "I", false)
  | 7 => ("YearRope$Law", "size", "I", false)
  | _ => ("YearRope$Law", "told", "Z", false)
def tyX1 : Nat → FieldType := fun k => match k with
  | 0 => .array .int
  | 1 => .array .int
  | 2 => .array .int
  | 3 => .array .int
  | 4 => .array .int
  | 5 => .array .int
  | 6 => .int
  | 7 => .int
  | _ => .boolean
theorem nmX1 : ∀ a, a < 9 → ∀ b, b < 9 → a ≠ b → (TX1 a).2.1 ≠ (TX1 b).2.1 := by decide +kernel
theorem tyX1_ok : ∀ k, k < 9 → parseFieldDescriptor (TX1 k).2.2.1 = some (tyX1 k) := by decide +kernel
abbrev cX1_init : ByteArray := prog_3_method_1_code
def yX1_init : MethodName := ⟨RX1, "<init>", "()V"⟩
abbrev cX1_become : ByteArray := prog_3_method_2_code
def yX1_become : MethodName := ⟨RX1, "become", "(LYearRope$Law;)V"⟩
abbrev cX1_beginText : ByteArray := prog_3_method_3_code
def yX1_beginText : MethodName := ⟨RX1, "beginText", "()V"⟩
abbrev cX1_emit : ByteArray := prog_3_method_4_code
def yX1_emit : MethodName := ⟨RX1, "emit", "(I)V"⟩
abbrev cX1_addLine : ByteArray := prog_3_method_5_code
def yX1_addLine : MethodName := ⟨RX1, "addLine", "(II)V"⟩
abbrev cX1_regard : ByteArray := prog_3_method_6_code
def yX1_regard : MethodName := ⟨RX1, "regard", "(LYearRope$Rope;LYearRope$Yarn;LYearRope$Yarn;LYearRope$Yarn;Z)V"⟩
abbrev cX1_sumOfLines : ByteArray := prog_3_method_7_code
def yX1_sumOfLines : MethodName := ⟨RX1, "sumOfLines", "(I)I"⟩
abbrev cX1_conditionHolds : ByteArray := prog_3_method_8_code
def yX1_conditionHolds : MethodName := ⟨RX1, "conditionHolds", "(II)Z"⟩
abbrev cX1_valueOf : ByteArray := prog_3_method_9_code
def yX1_valueOf : MethodName := ⟨RX1, "valueOf", "(I)I"⟩
abbrev cX1_joined : ByteArray := prog_3_method_10_code
def yX1_joined : MethodName := ⟨RX1, "joined", "(III)I"⟩
def RX2 : String := "YearRope$LawReader"
def TX2 : u_T := fun k => match k with
  | 0 => ("YearRope$LawReader", "tape", "LYearRope$Tape;", true)
  | _ => ("YearRope$LawReader", "law", "LYearRope$Law;", false)
def tyX2 : Nat → FieldType := fun k => match k with
  | 0 => .object "YearRope$Tape"
  | _ => .object "YearRope$Law"
theorem nmX2 : ∀ a, a < 2 → ∀ b, b < 2 → a ≠ b → (TX2 a).2.1 ≠ (TX2 b).2.1 := by decide +kernel
theorem tyX2_ok : ∀ k, k < 2 → parseFieldDescriptor (TX2 k).2.2.1 = some (tyX2 k) := by decide +kernel
abbrev cX2_init : ByteArray := prog_4_method_1_code
def yX2_init : MethodName := ⟨RX2, "<init>", "(LYearRope$Tape;)V"⟩
abbrev cX2_read : ByteArray := prog_4_method_2_code
def yX2_read : MethodName := ⟨RX2, "read", "(LYearRope$Law;)Z"⟩
abbrev cX2_takeKind : ByteArray := prog_4_method_3_code
def yX2_takeKind : MethodName := ⟨RX2, "takeKind", "()I"⟩
abbrev cX2_readCondition : ByteArray := prog_4_method_4_code
def yX2_readCondition : MethodName := ⟨RX2, "readCondition", "(I)V"⟩
abbrev cX2_readAtom : ByteArray := prog_4_method_5_code
def yX2_readAtom : MethodName := ⟨RX2, "readAtom", "(I)V"⟩
abbrev cX2_readSum : ByteArray := prog_4_method_6_code
def yX2_readSum : MethodName := ⟨RX2, "readSum", "()V"⟩
abbrev cX2_takePart : ByteArray := prog_4_method_7_code
def yX2_takePart : MethodName := ⟨RX2, "takePart", "()I"⟩
def RX3 : String := "YearRope$Memory"
def TX3 : u_T := fun k => match k with
  | 0 => ("YearRope$Memory", "sheds", "[LYearRope$Shed;", true)
  | 1 => ("YearRope$Memory", "size", "I", false)
  | _ => ("YearRope$Memory", "next", "I", false)
def tyX3 : Nat → FieldType := fun k => match k with
  | 0 => .array (.object "YearRope$Shed")
  | 1 => .int
  | _ => .int
theorem nmX3 : ∀ a, a < 3 → ∀ b, b < 3 → a ≠ b → (TX3 a).2.1 ≠ (TX3 b).2.1 := by decide +kernel
theorem tyX3_ok : ∀ k, k < 3 → parseFieldDescriptor (TX3 k).2.2.1 = some (tyX3 k) := by decide +kernel
abbrev cX3_init : ByteArray := prog_5_method_1_code
def yX3_init : MethodName := ⟨RX3, "<init>", "()V"⟩
abbrev cX3_keep : ByteArray := prog_5_method_2_code
def yX3_keep : MethodName := ⟨RX3, "keep", "(LYearRope$Shed;)V"⟩
abbrev cX3_recall : ByteArray := prog_5_method_3_code
def yX3_recall : MethodName := ⟨RX3, "recall", "(LYearRope$Shed;)Z"⟩
abbrev cX3_forget : ByteArray := prog_5_method_4_code
def yX3_forget : MethodName := ⟨RX3, "forget", "()V"⟩
def RX4 : String := "YearRope$Order"
def TX4 : u_T := fun k => match k with
  | 0 => ("YearRope$Order", "load", "I", false)
  | 1 => ("YearRope$Order", "fathoms", "I", false)
  | _ => ("YearRope$Order", "pay", "I", false)
def tyX4 : Nat → FieldType := fun k => match k with
  | 0 => .int
  | 1 => .int
  | _ => .int
theorem nmX4 : ∀ a, a < 3 → ∀ b, b < 3 → a ≠ b → (TX4 a).2.1 ≠ (TX4 b).2.1 := by decide +kernel
theorem tyX4_ok : ∀ k, k < 3 → parseFieldDescriptor (TX4 k).2.2.1 = some (tyX4 k) := by decide +kernel
abbrev cX4_init : ByteArray := prog_6_method_1_code
def yX4_init : MethodName := ⟨RX4, "<init>", "()V"⟩
abbrev cX4_become : ByteArray := prog_6_method_2_code
def yX4_become : MethodName := ⟨RX4, "become", "(LYearRope$Order;)V"⟩
abbrev cX4_isFilledBy : ByteArray := prog_6_method_3_code
def yX4_isFilledBy : MethodName := ⟨RX4, "isFilledBy", "(II)Z"⟩
def RX5 : String := "YearRope$Rope"
def TX5 : u_T := fun k => match k with
  | 0 => ("YearRope$Rope", "first", "I", false)
  | 1 => ("YearRope$Rope", "second", "I", false)
  | 2 => ("YearRope$Rope", "third", "I", false)
  | 3 => ("YearRope$Rope", "fathoms", "I", false)
  | 4 => ("YearRope$Rope", "tar", "I", false)
  | 5 => ("YearRope$Rope", "wear", "I", false)
  | 6 => ("YearRope$Rope", "plies", "I", false)
  | 7 => ("YearRope$Rope", "load", "I", false)
  | 8 => ("YearRope$Rope", "whipped", "Z", false)
  | _ => ("YearRope$Rope", "broken", "Z", false)
def tyX5 : Nat → FieldType := fun k => match k with
  | 0 => .int
  | 1 => .int
  | 2 => .int
  | 3 => .int
  | 4 => .int
  | 5 => .int
  | 6 => .int
  | 7 => .int
  | 8 => .boolean
  | _ => .boolean
theorem nmX5 : ∀ a, a < 10 → ∀ b, b < 10 → a ≠ b → (TX5 a).2.1 ≠ (TX5 b).2.1 := by decide +kernel
theorem tyX5_ok : ∀ k, k < 10 → parseFieldDescriptor (TX5 k).2.2.1 = some (tyX5 k) := by decide +kernel
abbrev cX5_init : ByteArray := prog_7_method_1_code
def yX5_init : MethodName := ⟨RX5, "<init>", "()V"⟩
abbrev cX5_become : ByteArray := prog_7_method_2_code
def yX5_become : MethodName := ⟨RX5, "become", "(LYearRope$Rope;)V"⟩
abbrev cX5_beLaid : ByteArray := prog_7_method_3_code
def yX5_beLaid : MethodName := ⟨RX5, "beLaid", "(IIII)V"⟩
abbrev cX5_isOf : ByteArray := prog_7_method_4_code
def yX5_isOf : MethodName := ⟨RX5, "isOf", "(I)Z"⟩
abbrev cX5_isFree : ByteArray := prog_7_method_5_code
def yX5_isFree : MethodName := ⟨RX5, "isFree", "()Z"⟩
abbrev cX5_tarOnce : ByteArray := prog_7_method_6_code
def yX5_tarOnce : MethodName := ⟨RX5, "tarOnce", "()V"⟩
abbrev cX5_canDouble : ByteArray := prog_7_method_7_code
def yX5_canDouble : MethodName := ⟨RX5, "canDouble", "()Z"⟩
abbrev cX5_makeDouble : ByteArray := prog_7_method_8_code
def yX5_makeDouble : MethodName := ⟨RX5, "makeDouble", "()V"⟩
def RX6 : String := "YearRope$Shed"
def TX6 : u_T := fun k => match k with
  | 0 => ("YearRope$Shed", "yarns", "[LYearRope$Yarn;", true)
  | 1 => ("YearRope$Shed", "ropes", "[LYearRope$Rope;", true)
  | 2 => ("YearRope$Shed", "orders", "[LYearRope$Order;", true)
  | 3 => ("YearRope$Shed", "breaks", "LYearRope$BreakLog;", true)
  | 4 => ("YearRope$Shed", "yarnCount", "I", false)
  | 5 => ("YearRope$Shed", "ropeCount", "I", false)
  | 6 => ("YearRope$Shed", "orderCount", "I", false)
  | 7 => ("YearRope$Shed", "texts", "I", false)
  | 8 => ("YearRope$Shed", "gale", "I", false)
  | 9 => ("YearRope$Shed", "damp", "I", false)
  | 10 => ("YearRope$Shed", "season", "I", false)
  | 11 => ("YearRope$Shed", "seed", "I", false)
  | 12 => ("YearRope$Shed", "earned", "I", false)
  | 13 => ("YearRope$Shed", "fell", "I", false)
  | _ => ("YearRope$Shed", "broke", "I", false)
def tyX6 : Nat → FieldType := fun k => match k with
  | 0 => .array (.object "YearRope$Yarn")
  | 1 => .array (.object "YearRope$Rope")
  | 2 => .array (.object "YearRope$Order")
  | 3 => .object "YearRope$BreakLog"
  | 4 => .int
  | 5 => .int
  | 6 => .int
  | 7 => .int
  | 8 => .int
  | 9 => .int
  | 10 => .int
  | 11 => .int
  | 12 => .int
  | 13 => .int
  | _ => .int
theorem nmX6 : ∀ a, a < 15 → ∀ b, b < 15 → a ≠ b → (TX6 a).2.1 ≠ (TX6 b).2.1 := by decide +kernel
theorem tyX6_ok : ∀ k, k < 15 → parseFieldDescriptor (TX6 k).2.2.1 = some (tyX6 k) := by decide +kernel
abbrev cX6_init : ByteArray := prog_8_method_1_code
def yX6_init : MethodName := ⟨RX6, "<init>", "()V"⟩
abbrev cX6_become : ByteArray := prog_8_method_2_code
def yX6_become : MethodName := ⟨RX6, "become", "(LYearRope$Shed;)V"⟩
abbrev cX6_addYarn : ByteArray := prog_8_method_3_code
def yX6_addYarn : MethodName := ⟨RX6, "addYarn", "(IIII)V"⟩
abbrev cX6_yarnAt : ByteArray := prog_8_method_4_code
def yX6_yarnAt : MethodName := ⟨RX6, "yarnAt", "(I)LYearRope$Yarn;"⟩
abbrev cX6_shortest : ByteArray := prog_8_method_5_code
def yX6_shortest : MethodName := ⟨RX6, "shortest", "(III)I"⟩
abbrev cX6_strengthOf : ByteArray := prog_8_method_6_code
def yX6_strengthOf : MethodName := ⟨RX6, "strengthOf", "(III)I"⟩
abbrev cX6_rotOf : ByteArray := prog_8_method_7_code
def yX6_rotOf : MethodName := ⟨RX6, "rotOf", "(III)I"⟩
abbrev cX6_usesOf : ByteArray := prog_8_method_8_code
def yX6_usesOf : MethodName := ⟨RX6, "usesOf", "(I)I"⟩
abbrev cX6_addRope : ByteArray := prog_8_method_9_code
def yX6_addRope : MethodName := ⟨RX6, "addRope", "(IIII)I"⟩
abbrev cX6_addPiece : ByteArray := prog_8_method_10_code
def yX6_addPiece : MethodName := ⟨RX6, "addPiece", "(LYearRope$Rope;I)I"⟩
abbrev cX6_removeRope : ByteArray := prog_8_method_11_code
def yX6_removeRope : MethodName := ⟨RX6, "removeRope", "(I)V"⟩
abbrev cX6_twinsOf : ByteArray := prog_8_method_12_code
def yX6_twinsOf : MethodName := ⟨RX6, "twinsOf", "(I)I"⟩
abbrev cX6_brokenRopes : ByteArray := prog_8_method_13_code
def yX6_brokenRopes : MethodName := ⟨RX6, "brokenRopes", "()I"⟩
abbrev cX6_hangingLoads : ByteArray := prog_8_method_14_code
def yX6_hangingLoads : MethodName := ⟨RX6, "hangingLoads", "()I"⟩
abbrev cX6_priceOf : ByteArray := prog_8_method_15_code
def yX6_priceOf : MethodName := ⟨RX6, "priceOf", "(LYearRope$Rope;)I"⟩
abbrev cX6_pricesOf : ByteArray := prog_8_method_16_code
def yX6_pricesOf : MethodName := ⟨RX6, "pricesOf", "(I)I"⟩
abbrev cX6_bearing : ByteArray := prog_8_method_17_code
def yX6_bearing : MethodName := ⟨RX6, "bearing", "(LYearRope$Rope;LYearRope$Law;)I"⟩
abbrev cX6_wearing : ByteArray := prog_8_method_18_code
def yX6_wearing : MethodName := ⟨RX6, "wearing", "(LYearRope$Rope;LYearRope$Law;)I"⟩
abbrev cX6_addOrder : ByteArray := prog_8_method_19_code
def yX6_addOrder : MethodName := ⟨RX6, "addOrder", "(III)V"⟩
abbrev cX6_removeOrder : ByteArray := prog_8_method_20_code
def yX6_removeOrder : MethodName := ⟨RX6, "removeOrder", "(I)V"⟩
abbrev cX6_ordersBorne : ByteArray := prog_8_method_21_code
def yX6_ordersBorne : MethodName := ⟨RX6, "ordersBorne", "(I)I"⟩
abbrev cX6_payOf : ByteArray := prog_8_method_22_code
def yX6_payOf : MethodName := ⟨RX6, "payOf", "(I)I"⟩
abbrev cX6_fathomsOf : ByteArray := prog_8_method_23_code
def yX6_fathomsOf : MethodName := ⟨RX6, "fathomsOf", "(I)I"⟩
abbrev cX6_isWinter : ByteArray := prog_8_method_24_code
def yX6_isWinter : MethodName := ⟨RX6, "isWinter", "()Z"⟩
abbrev cX6_pass : ByteArray := prog_8_method_25_code
def yX6_pass : MethodName := ⟨RX6, "pass", "(ILYearRope$Law;)V"⟩
abbrev cX6_passOne : ByteArray := prog_8_method_26_code
def yX6_passOne : MethodName := ⟨RX6, "passOne", "(LYearRope$Law;)V"⟩
abbrev cX6_draw : ByteArray := prog_8_method_27_code
def yX6_draw : MethodName := ⟨RX6, "draw", "()I"⟩
abbrev cX6_endSeason : ByteArray := prog_8_method_28_code
def yX6_endSeason : MethodName := ⟨RX6, "endSeason", "()V"⟩
abbrev cX6_fray : ByteArray := prog_8_method_29_code
def yX6_fray : MethodName := ⟨RX6, "fray", "(LYearRope$Rope;ZLYearRope$Law;)V"⟩
abbrev cX6_snap : ByteArray := prog_8_method_30_code
def yX6_snap : MethodName := ⟨RX6, "snap", "(LYearRope$Rope;)V"⟩
def RX7 : String := "YearRope$Tape"
def TX7 : u_T := fun k => match k with
  | 0 => ("YearRope$Tape", "bytes", "[I", true)
  | 1 => ("YearRope$Tape", "length", "I", false)
  | 2 => ("YearRope$Tape", "fault", "I", false)
  | 3 => ("YearRope$Tape", "at", "I", false)
  | 4 => ("YearRope$Tape", "size", "I", false)
  | _ => ("YearRope$Tape", "number", "I", false)
def tyX7 : Nat → FieldType := fun k => match k with
  | 0 => .array .int
  | 1 => .int
  | 2 => .int
  | 3 => .int
  | 4 => .int
  | _ => .int
theorem nmX7 : ∀ a, a < 6 → ∀ b, b < 6 → a ≠ b → (TX7 a).2.1 ≠ (TX7 b).2.1 := by decide +kernel
theorem tyX7_ok : ∀ k, k < 6 → parseFieldDescriptor (TX7 k).2.2.1 = some (tyX7 k) := by decide +kernel
abbrev cX7_init : ByteArray := prog_9_method_1_code
def yX7_init : MethodName := ⟨RX7, "<init>", "()V"⟩
abbrev cX7_append : ByteArray := prog_9_method_2_code
def yX7_append : MethodName := ⟨RX7, "append", "(I)V"⟩
abbrev cX7_beginText : ByteArray := prog_9_method_3_code
def yX7_beginText : MethodName := ⟨RX7, "beginText", "()V"⟩
abbrev cX7_advance : ByteArray := prog_9_method_4_code
def yX7_advance : MethodName := ⟨RX7, "advance", "()V"⟩
abbrev cX7_isRight : ByteArray := prog_9_method_5_code
def yX7_isRight : MethodName := ⟨RX7, "isRight", "()Z"⟩
abbrev cX7_isAtEnd : ByteArray := prog_9_method_6_code
def yX7_isAtEnd : MethodName := ⟨RX7, "isAtEnd", "()Z"⟩
abbrev cX7_refuse : ByteArray := prog_9_method_7_code
def yX7_refuse : MethodName := ⟨RX7, "refuse", "()V"⟩
abbrev cX7_refuseAt : ByteArray := prog_9_method_8_code
def yX7_refuseAt : MethodName := ⟨RX7, "refuseAt", "(I)V"⟩
abbrev cX7_takeWord : ByteArray := prog_9_method_9_code
def yX7_takeWord : MethodName := ⟨RX7, "takeWord", "(Ljava/lang/String;)Z"⟩
abbrev cX7_needWord : ByteArray := prog_9_method_10_code
def yX7_needWord : MethodName := ⟨RX7, "needWord", "(Ljava/lang/String;)V"⟩
abbrev cX7_takeSign : ByteArray := prog_9_method_11_code
def yX7_takeSign : MethodName := ⟨RX7, "takeSign", "(C)Z"⟩
abbrev cX7_needSign : ByteArray := prog_9_method_12_code
def yX7_needSign : MethodName := ⟨RX7, "needSign", "(C)V"⟩
abbrev cX7_takeNumber : ByteArray := prog_9_method_13_code
def yX7_takeNumber : MethodName := ⟨RX7, "takeNumber", "(II)I"⟩
abbrev cX7_takeLineEnd : ByteArray := prog_9_method_14_code
def yX7_takeLineEnd : MethodName := ⟨RX7, "takeLineEnd", "()Z"⟩
def RX8 : String := "YearRope$WalkReader"
def TX8 : u_T := fun k => match k with
  | 0 => ("YearRope$WalkReader", "tape", "LYearRope$Tape;", true)
  | _ => ("YearRope$WalkReader", "shed", "LYearRope$Shed;", false)
def tyX8 : Nat → FieldType := fun k => match k with
  | 0 => .object "YearRope$Tape"
  | _ => .object "YearRope$Shed"
theorem nmX8 : ∀ a, a < 2 → ∀ b, b < 2 → a ≠ b → (TX8 a).2.1 ≠ (TX8 b).2.1 := by decide +kernel
theorem tyX8_ok : ∀ k, k < 2 → parseFieldDescriptor (TX8 k).2.2.1 = some (tyX8 k) := by decide +kernel
abbrev cX8_init : ByteArray := prog_10_method_1_code
def yX8_init : MethodName := ⟨RX8, "<init>", "(LYearRope$Tape;)V"⟩
abbrev cX8_read : ByteArray := prog_10_method_2_code
def yX8_read : MethodName := ⟨RX8, "read", "(LYearRope$Shed;)Z"⟩
abbrev cX8_readLine : ByteArray := prog_10_method_3_code
def yX8_readLine : MethodName := ⟨RX8, "readLine", "()V"⟩
abbrev cX8_readYarn : ByteArray := prog_10_method_4_code
def yX8_readYarn : MethodName := ⟨RX8, "readYarn", "()V"⟩
abbrev cX8_readRope : ByteArray := prog_10_method_5_code
def yX8_readRope : MethodName := ⟨RX8, "readRope", "()V"⟩
abbrev cX8_takeYarn : ByteArray := prog_10_method_6_code
def yX8_takeYarn : MethodName := ⟨RX8, "takeYarn", "(II)I"⟩
abbrev cX8_readOrder : ByteArray := prog_10_method_7_code
def yX8_readOrder : MethodName := ⟨RX8, "readOrder", "()V"⟩
abbrev cX8_readHang : ByteArray := prog_10_method_8_code
def yX8_readHang : MethodName := ⟨RX8, "readHang", "()V"⟩
abbrev cX8_readTar : ByteArray := prog_10_method_9_code
def yX8_readTar : MethodName := ⟨RX8, "readTar", "()V"⟩
abbrev cX8_readWhip : ByteArray := prog_10_method_10_code
def yX8_readWhip : MethodName := ⟨RX8, "readWhip", "()V"⟩
abbrev cX8_takeRope : ByteArray := prog_10_method_11_code
def yX8_takeRope : MethodName := ⟨RX8, "takeRope", "()I"⟩
def RX9 : String := "YearRope$Yarn"
def TX9 : u_T := fun k => match k with
  | 0 => ("YearRope$Yarn", "strength", "I", false)
  | 1 => ("YearRope$Yarn", "length", "I", false)
  | 2 => ("YearRope$Yarn", "rot", "I", false)
  | _ => ("YearRope$Yarn", "reign", "I", false)
def tyX9 : Nat → FieldType := fun k => match k with
  | 0 => .int
  | 1 => .int
  | 2 => .int
  | _ => .int
theorem nmX9 : ∀ a, a < 4 → ∀ b, b < 4 → a ≠ b → (TX9 a).2.1 ≠ (TX9 b).2.1 := by decide +kernel
theorem tyX9_ok : ∀ k, k < 4 → parseFieldDescriptor (TX9 k).2.2.1 = some (tyX9 k) := by decide +kernel
abbrev cX9_init : ByteArray := prog_11_method_1_code
def yX9_init : MethodName := ⟨RX9, "<init>", "()V"⟩
abbrev cX9_become : ByteArray := prog_11_method_2_code
def yX9_become : MethodName := ⟨RX9, "become", "(LYearRope$Yarn;)V"⟩
abbrev cX9_soundness : ByteArray := prog_11_method_3_code
def yX9_soundness : MethodName := ⟨RX9, "soundness", "()I"⟩
abbrev cX9_price : ByteArray := prog_11_method_4_code
def yX9_price : MethodName := ⟨RX9, "price", "()I"⟩
def RX10 : String := "YearRope"
def TX10 : u_T := fun k => match k with
  | 0 => ("YearRope", "tape", "LYearRope$Tape;", true)
  | 1 => ("YearRope", "walkReader", "LYearRope$WalkReader;", true)
  | 2 => ("YearRope", "lawReader", "LYearRope$LawReader;", true)
  | 3 => ("YearRope", "memory", "LYearRope$Memory;", true)
  | 4 => ("YearRope", "kept", "LYearRope$Shed;", true)
  | 5 => ("YearRope", "keptRules", "LYearRope$Law;", true)
  | 6 => ("YearRope", "probe", "LYearRope$Rope;", true)
  | 7 => ("YearRope", "setRow", "[I", true)
  | 8 => ("YearRope", "sumRow", "[I", true)
  | 9 => ("YearRope", "yarnRow", "[I", true)
  | 10 => ("YearRope", "shed", "LYearRope$Shed;", false)
  | 11 => ("YearRope", "spare", "LYearRope$Shed;", false)
  | 12 => ("YearRope", "rules", "LYearRope$Law;", false)
  | 13 => ("YearRope", "spareRules", "LYearRope$Law;", false)
  | _ => ("YearRope", "imaged", "Z", false)
def tyX10 : Nat → FieldType := fun k => match k with
  | 0 => .object "YearRope$Tape"
  | 1 => .object "YearRope$WalkReader"
  | 2 => .object "YearRope$LawReader"
  | 3 => .object "YearRope$Memory"
  | 4 => .object "YearRope$Shed"
  | 5 => .object "YearRope$Law"
  | 6 => .object "YearRope$Rope"
  | 7 => .array .int
  | 8 => .array .int
  | 9 => .array .int
  | 10 => .object "YearRope$Shed"
  | 11 => .object "YearRope$Shed"
  | 12 => .object "YearRope$Law"
  | 13 => .object "YearRope$Law"
  | _ => .boolean
theorem nmX10 : ∀ a, a < 15 → ∀ b, b < 15 → a ≠ b → (TX10 a).2.1 ≠ (TX10 b).2.1 := by decide +kernel
theorem tyX10_ok : ∀ k, k < 15 → parseFieldDescriptor (TX10 k).2.2.1 = some (tyX10 k) := by decide +kernel
abbrev cX10_init : ByteArray := prog_1_method_1_code
def yX10_init : MethodName := ⟨RX10, "<init>", "()V"⟩
abbrev cX10_feed : ByteArray := prog_1_method_2_code
def yX10_feed : MethodName := ⟨RX10, "feed", "(IIIII)I"⟩
abbrev cX10_end : ByteArray := prog_1_method_3_code
def yX10_end : MethodName := ⟨RX10, "end", "(I)Z"⟩
abbrev cX10_walk : ByteArray := prog_1_method_4_code
def yX10_walk : MethodName := ⟨RX10, "walk", "()I"⟩
abbrev cX10_law : ByteArray := prog_1_method_5_code
def yX10_law : MethodName := ⟨RX10, "law", "()I"⟩
abbrev cX10_fault : ByteArray := prog_1_method_6_code
def yX10_fault : MethodName := ⟨RX10, "fault", "()I"⟩
abbrev cX10_yarn : ByteArray := prog_1_method_7_code
def yX10_yarn : MethodName := ⟨RX10, "yarn", "(II)I"⟩
abbrev cX10_rope : ByteArray := prog_1_method_8_code
def yX10_rope : MethodName := ⟨RX10, "rope", "(II)I"⟩
abbrev cX10_order : ByteArray := prog_1_method_9_code
def yX10_order : MethodName := ⟨RX10, "order", "(II)I"⟩
abbrev cX10_bears : ByteArray := prog_1_method_10_code
def yX10_bears : MethodName := ⟨RX10, "bears", "(IIII)I"⟩
abbrev cX10_lay : ByteArray := prog_1_method_11_code
def yX10_lay : MethodName := ⟨RX10, "lay", "(IIII)I"⟩
abbrev cX10_tar : ByteArray := prog_1_method_12_code
def yX10_tar : MethodName := ⟨RX10, "tar", "(I)I"⟩
abbrev cX10_whip : ByteArray := prog_1_method_13_code
def yX10_whip : MethodName := ⟨RX10, "whip", "(I)Z"⟩
abbrev cX10_twice : ByteArray := prog_1_method_14_code
def yX10_twice : MethodName := ⟨RX10, "twice", "(I)I"⟩
abbrev cX10_cut : ByteArray := prog_1_method_15_code
def yX10_cut : MethodName := ⟨RX10, "cut", "(II)I"⟩
abbrev cX10_hang : ByteArray := prog_1_method_16_code
def yX10_hang : MethodName := ⟨RX10, "hang", "(II)I"⟩
abbrev cX10_meet : ByteArray := prog_1_method_17_code
def yX10_meet : MethodName := ⟨RX10, "meet", "(II)I"⟩
abbrev cX10_pick : ByteArray := prog_1_method_18_code
def yX10_pick : MethodName := ⟨RX10, "pick", "(I)I"⟩
abbrev cX10_seasons : ByteArray := prog_1_method_19_code
def yX10_seasons : MethodName := ⟨RX10, "seasons", "(I)I"⟩
abbrev cX10_best : ByteArray := prog_1_method_20_code
def yX10_best : MethodName := ⟨RX10, "best", "(I)I"⟩
abbrev cX10_cheapest : ByteArray := prog_1_method_21_code
def yX10_cheapest : MethodName := ⟨RX10, "cheapest", "(I)I"⟩
abbrev cX10_oakum : ByteArray := prog_1_method_22_code
def yX10_oakum : MethodName := ⟨RX10, "oakum", "(III)I"⟩
abbrev cX10_lasts : ByteArray := prog_1_method_23_code
def yX10_lasts : MethodName := ⟨RX10, "lasts", "(I)I"⟩
abbrev cX10_can : ByteArray := prog_1_method_24_code
def yX10_can : MethodName := ⟨RX10, "can", "(Z)I"⟩
abbrev cX10_most : ByteArray := prog_1_method_25_code
def yX10_most : MethodName := ⟨RX10, "most", "(Z)I"⟩
abbrev cX10_cuts : ByteArray := prog_1_method_26_code
def yX10_cuts : MethodName := ⟨RX10, "cuts", "(IZ)I"⟩
abbrev cX10_walks : ByteArray := prog_1_method_27_code
def yX10_walks : MethodName := ⟨RX10, "walks", "(I)I"⟩
abbrev cX10_share : ByteArray := prog_1_method_28_code
def yX10_share : MethodName := ⟨RX10, "share", "(III)I"⟩
abbrev cX10_shared : ByteArray := prog_1_method_29_code
def yX10_shared : MethodName := ⟨RX10, "shared", "(III)Z"⟩
abbrev cX10_holds : ByteArray := prog_1_method_30_code
def yX10_holds : MethodName := ⟨RX10, "holds", "(IZ)I"⟩
abbrev cX10_would : ByteArray := prog_1_method_31_code
def yX10_would : MethodName := ⟨RX10, "would", "(II)I"⟩
abbrev cX10_weakest : ByteArray := prog_1_method_32_code
def yX10_weakest : MethodName := ⟨RX10, "weakest", "()I"⟩
abbrev cX10_fewest : ByteArray := prog_1_method_33_code
def yX10_fewest : MethodName := ⟨RX10, "fewest", "()I"⟩
abbrev cX10_buys : ByteArray := prog_1_method_34_code
def yX10_buys : MethodName := ⟨RX10, "buys", "(I)I"⟩
abbrev cX10_skips : ByteArray := prog_1_method_35_code
def yX10_skips : MethodName := ⟨RX10, "skips", "()I"⟩
abbrev cX10_loose : ByteArray := prog_1_method_36_code
def yX10_loose : MethodName := ⟨RX10, "loose", "()I"⟩
abbrev cX10_trial : ByteArray := prog_1_method_37_code
def yX10_trial : MethodName := ⟨RX10, "trial", "(IZ)I"⟩
abbrev cX10_span : ByteArray := prog_1_method_38_code
def yX10_span : MethodName := ⟨RX10, "span", "(IZ)I"⟩
abbrev cX10_led : ByteArray := prog_1_method_39_code
def yX10_led : MethodName := ⟨RX10, "led", "(IZ)I"⟩
abbrev cX10_log : ByteArray := prog_1_method_40_code
def yX10_log : MethodName := ⟨RX10, "log", "(II)I"⟩
abbrev cX10_seed : ByteArray := prog_1_method_41_code
def yX10_seed : MethodName := ⟨RX10, "seed", "(I)I"⟩
abbrev cX10_undo : ByteArray := prog_1_method_42_code
def yX10_undo : MethodName := ⟨RX10, "undo", "()Z"⟩
abbrev cX10_image : ByteArray := prog_1_method_43_code
def yX10_image : MethodName := ⟨RX10, "image", "()V"⟩
abbrev cX10_back : ByteArray := prog_1_method_44_code
def yX10_back : MethodName := ⟨RX10, "back", "()Z"⟩
abbrev cX10_count : ByteArray := prog_1_method_45_code
def yX10_count : MethodName := ⟨RX10, "count", "(I)I"⟩
abbrev cX10_yarnOf : ByteArray := prog_1_method_46_code
def yX10_yarnOf : MethodName := ⟨RX10, "yarnOf", "(I)LYearRope$Yarn;"⟩
abbrev cX10_ropeOf : ByteArray := prog_1_method_47_code
def yX10_ropeOf : MethodName := ⟨RX10, "ropeOf", "(I)LYearRope$Rope;"⟩
abbrev cX10_soundRopeOf : ByteArray := prog_1_method_48_code
def yX10_soundRopeOf : MethodName := ⟨RX10, "soundRopeOf", "(I)LYearRope$Rope;"⟩
abbrev cX10_orderOf : ByteArray := prog_1_method_49_code
def yX10_orderOf : MethodName := ⟨RX10, "orderOf", "(I)LYearRope$Order;"⟩
abbrev cX10_needThree : ByteArray := prog_1_method_50_code
def yX10_needThree : MethodName := ⟨RX10, "needThree", "(III)V"⟩
abbrev cX10_needShare : ByteArray := prog_1_method_51_code
def yX10_needShare : MethodName := ⟨RX10, "needShare", "(III)V"⟩
abbrev cX10_needRoomForRope : ByteArray := prog_1_method_52_code
def yX10_needRoomForRope : MethodName := ⟨RX10, "needRoomForRope", "()V"⟩
abbrev cX10_needWithin : ByteArray := prog_1_method_53_code
def yX10_needWithin : MethodName := ⟨RX10, "needWithin", "(III)V"⟩
abbrev cX10_bearingOf : ByteArray := prog_1_method_54_code
def yX10_bearingOf : MethodName := ⟨RX10, "bearingOf", "(I)I"⟩
abbrev cX10_trialBearing : ByteArray := prog_1_method_55_code
def yX10_trialBearing : MethodName := ⟨RX10, "trialBearing", "(IIII)I"⟩
abbrev cX10_nameOfThree : ByteArray := prog_1_method_56_code
def yX10_nameOfThree : MethodName := ⟨RX10, "nameOfThree", "(III)I"⟩
abbrev cX10_cheapestFor : ByteArray := prog_1_method_57_code
def yX10_cheapestFor : MethodName := ⟨RX10, "cheapestFor", "(LYearRope$Order;)I"⟩
abbrev cX10_tallyThrees : ByteArray := prog_1_method_58_code
def yX10_tallyThrees : MethodName := ⟨RX10, "tallyThrees", "(II)I"⟩
abbrev cX10_sureYarns : ByteArray := prog_1_method_59_code
def yX10_sureYarns : MethodName := ⟨RX10, "sureYarns", "(I)I"⟩
abbrev cX10_yarnToAsk : ByteArray := prog_1_method_60_code
def yX10_yarnToAsk : MethodName := ⟨RX10, "yarnToAsk", "(I)I"⟩
abbrev cX10_usablePieces : ByteArray := prog_1_method_61_code
def yX10_usablePieces : MethodName := ⟨RX10, "usablePieces", "(II)I"⟩
abbrev cX10_ordersMetBy : ByteArray := prog_1_method_62_code
def yX10_ordersMetBy : MethodName := ⟨RX10, "ordersMetBy", "(LYearRope$Rope;)I"⟩
abbrev cX10_markMeetable : ByteArray := prog_1_method_63_code
def yX10_markMeetable : MethodName := ⟨RX10, "markMeetable", "(I)V"⟩
abbrev cX10_markWithOneMore : ByteArray := prog_1_method_64_code
def yX10_markWithOneMore : MethodName := ⟨RX10, "markWithOneMore", "(II)V"⟩
abbrev cX10_hoursWithOneMore : ByteArray := prog_1_method_65_code
def yX10_hoursWithOneMore : MethodName := ⟨RX10, "hoursWithOneMore", "(I)I"⟩
abbrev cX10_firstShare : ByteArray := prog_1_method_66_code
def yX10_firstShare : MethodName := ⟨RX10, "firstShare", "(III)I"⟩
abbrev cX10_seasonsTillChange : ByteArray := prog_1_method_67_code
def yX10_seasonsTillChange : MethodName := ⟨RX10, "seasonsTillChange", "(LYearRope$Rope;)I"⟩
abbrev cX10_sumBearings : ByteArray := prog_1_method_68_code
def yX10_sumBearings : MethodName := ⟨RX10, "sumBearings", "()I"⟩
def RX11 : String := "YearRopeModel"
def TX11 : u_T := fun k => match k with
  | 0 => ("YearRopeModel", "thrown", "I", false)
  | 1 => ("YearRopeModel", "world", "[I", true)
  | 2 => ("YearRopeModel", "image", "[I", true)
  | 3 => ("YearRopeModel", "before", "[I", true)
  | 4 => ("YearRopeModel", "trial", "[I", true)
  | 5 => ("YearRopeModel", "acts", "[I", true)
  | 6 => ("YearRopeModel", "hasImage", "Z", false)
  | 7 => ("YearRopeModel", "remembered", "I", false)
  | 8 => ("YearRopeModel", "tape", "[B", true)
  | 9 => ("YearRopeModel", "taped", "I", false)
  | 10 => ("YearRopeModel", "point", "I", false)
  | 11 => ("YearRopeModel", "end", "I", false)
  | 12 => ("YearRopeModel", "begin", "I", false)
  | 13 => ("YearRopeModel", "deep", "I", false)
  | 14 => ("YearRopeModel", "faultAt", "I", false)
  | 15 => ("YearRopeModel", "five", "[I", true)
  | 16 => ("YearRopeModel", "steps", "I", false)
  | 17 => ("YearRopeModel", "value", "[I", true)
  | 18 => ("YearRopeModel", "table", "[I", true)
  | _ => ("YearRopeModel", "threes", "[I", true)
def tyX11 : Nat → FieldType := fun k => match k with
  | 0 => .int
  | 1 => .array .int
  | 2 => .array .int
  | 3 => .array .int
  | 4 => .array .int
  | 5 => .array .int
  | 6 => .boolean
  | 7 => .int
  | 8 => .array .byte
  | 9 => .int
  | 10 => .int
  | 11 => .int
  | 12 => .int
  | 13 => .int
  | 14 => .int
  | 15 => .array .int
  | 16 => .int
  | 17 => .array .int
  | 18 => .array .int
  | _ => .array .int
theorem nmX11 : ∀ a, a < 20 → ∀ b, b < 20 → a ≠ b → (TX11 a).2.1 ≠ (TX11 b).2.1 := by decide +kernel
theorem tyX11_ok : ∀ k, k < 20 → parseFieldDescriptor (TX11 k).2.2.1 = some (tyX11 k) := by decide +kernel
abbrev cX11_thrown : ByteArray := prog_13_method_1_code
def yX11_thrown : MethodName := ⟨RX11, "thrown", "()I"⟩
abbrev cX11_throwsIf : ByteArray := prog_13_method_2_code
def yX11_throwsIf : MethodName := ⟨RX11, "throwsIf", "(ZI)Z"⟩
abbrev cX11_in : ByteArray := prog_13_method_3_code
def yX11_in : MethodName := ⟨RX11, "in", "(III)Z"⟩
abbrev cX11_has : ByteArray := prog_13_method_4_code
def yX11_has : MethodName := ⟨RX11, "has", "(II)Z"⟩
abbrev cX11_init : ByteArray := prog_13_method_5_code
def yX11_init : MethodName := ⟨RX11, "<init>", "()V"⟩
abbrev cX11_image : ByteArray := prog_13_method_6_code
def yX11_image : MethodName := ⟨RX11, "image", "()V"⟩
abbrev cX11_back : ByteArray := prog_13_method_7_code
def yX11_back : MethodName := ⟨RX11, "back", "()Z"⟩
abbrev cX11_remembers : ByteArray := prog_13_method_8_code
def yX11_remembers : MethodName := ⟨RX11, "remembers", "()V"⟩
abbrev cX11_undo : ByteArray := prog_13_method_9_code
def yX11_undo : MethodName := ⟨RX11, "undo", "()Z"⟩
abbrev cX11_yarns : ByteArray := prog_13_method_10_code
def yX11_yarns : MethodName := ⟨RX11, "yarns", "()I"⟩
abbrev cX11_ropes : ByteArray := prog_13_method_11_code
def yX11_ropes : MethodName := ⟨RX11, "ropes", "()I"⟩
abbrev cX11_orders : ByteArray := prog_13_method_12_code
def yX11_orders : MethodName := ⟨RX11, "orders", "()I"⟩
abbrev cX11_yarnAt : ByteArray := prog_13_method_13_code
def yX11_yarnAt : MethodName := ⟨RX11, "yarnAt", "(II)I"⟩
abbrev cX11_ofYarn : ByteArray := prog_13_method_14_code
def yX11_ofYarn : MethodName := ⟨RX11, "ofYarn", "(II)I"⟩
abbrev cX11_at : ByteArray := prog_13_method_15_code
def yX11_at : MethodName := ⟨RX11, "at", "(II)I"⟩
abbrev cX11_of : ByteArray := prog_13_method_16_code
def yX11_of : MethodName := ⟨RX11, "of", "(II)I"⟩
abbrev cX11_ofOrder : ByteArray := prog_13_method_17_code
def yX11_ofOrder : MethodName := ⟨RX11, "ofOrder", "(II)I"⟩
abbrev cX11_isWhole : ByteArray := prog_13_method_18_code
def yX11_isWhole : MethodName := ⟨RX11, "isWhole", "(I)Z"⟩
abbrev cX11_noYarn : ByteArray := prog_13_method_19_code
def yX11_noYarn : MethodName := ⟨RX11, "noYarn", "(I)Z"⟩
abbrev cX11_noRope : ByteArray := prog_13_method_20_code
def yX11_noRope : MethodName := ⟨RX11, "noRope", "(I)Z"⟩
abbrev cX11_noOrder : ByteArray := prog_13_method_21_code
def yX11_noOrder : MethodName := ⟨RX11, "noOrder", "(I)Z"⟩
abbrev cX11_areTwo : ByteArray := prog_13_method_22_code
def yX11_areTwo : MethodName := ⟨RX11, "areTwo", "(III)Z"⟩
abbrev cX11_draw : ByteArray := prog_13_method_23_code
def yX11_draw : MethodName := ⟨RX11, "draw", "(I)I"⟩
abbrev cX11_feed : ByteArray := prog_13_method_24_code
def yX11_feed : MethodName := ⟨RX11, "feed", "(IIIII)I"⟩
abbrev cX11_end : ByteArray := prog_13_method_25_code
def yX11_end : MethodName := ⟨RX11, "end", "(I)Z"⟩
abbrev cX11_isAt : ByteArray := prog_13_method_26_code
def yX11_isAt : MethodName := ⟨RX11, "isAt", "(II)Z"⟩
abbrev cX11_blanks : ByteArray := prog_13_method_27_code
def yX11_blanks : MethodName := ⟨RX11, "blanks", "()V"⟩
abbrev cX11_letters : ByteArray := prog_13_method_28_code
def yX11_letters : MethodName := ⟨RX11, "letters", "()V"⟩
abbrev cX11_isWord : ByteArray := prog_13_method_29_code
def yX11_isWord : MethodName := ⟨RX11, "isWord", "(Ljava/lang/String;)Z"⟩
abbrev cX11_passes : ByteArray := prog_13_method_30_code
def yX11_passes : MethodName := ⟨RX11, "passes", "(Ljava/lang/String;)Z"⟩
abbrev cX11_sign : ByteArray := prog_13_method_31_code
def yX11_sign : MethodName := ⟨RX11, "sign", "(I)Z"⟩
abbrev cX11_number : ByteArray := prog_13_method_32_code
def yX11_number : MethodName := ⟨RX11, "number", "(II)I"⟩
abbrev cX11_after : ByteArray := prog_13_method_33_code
def yX11_after : MethodName := ⟨RX11, "after", "(Ljava/lang/String;II)I"⟩
abbrev cX11_fault : ByteArray := prog_13_method_34_code
def yX11_fault : MethodName := ⟨RX11, "fault", "()I"⟩
abbrev cX11_uses : ByteArray := prog_13_method_35_code
def yX11_uses : MethodName := ⟨RX11, "uses", "()V"⟩
abbrev cX11_readYarn : ByteArray := prog_13_method_36_code
def yX11_readYarn : MethodName := ⟨RX11, "readYarn", "()Z"⟩
abbrev cX11_lays : ByteArray := prog_13_method_37_code
def yX11_lays : MethodName := ⟨RX11, "lays", "(IIIII)V"⟩
abbrev cX11_takes : ByteArray := prog_13_method_38_code
def yX11_takes : MethodName := ⟨RX11, "takes", "(IIII)V"⟩
abbrev cX11_readRope : ByteArray := prog_13_method_39_code
def yX11_readRope : MethodName := ⟨RX11, "readRope", "()Z"⟩
abbrev cX11_readOrder : ByteArray := prog_13_method_40_code
def yX11_readOrder : MethodName := ⟨RX11, "readOrder", "()Z"⟩
abbrev cX11_readOf : ByteArray := prog_13_method_41_code
def yX11_readOf : MethodName := ⟨RX11, "readOf", "(II)Z"⟩
abbrev cX11_readNumber : ByteArray := prog_13_method_42_code
def yX11_readNumber : MethodName := ⟨RX11, "readNumber", "(I)Z"⟩
abbrev cX11_readWalkLine : ByteArray := prog_13_method_43_code
def yX11_readWalkLine : MethodName := ⟨RX11, "readWalkLine", "()Z"⟩
abbrev cX11_emits : ByteArray := prog_13_method_44_code
def yX11_emits : MethodName := ⟨RX11, "emits", "(II)V"⟩
abbrev cX11_readPart : ByteArray := prog_13_method_45_code
def yX11_readPart : MethodName := ⟨RX11, "readPart", "()Z"⟩
abbrev cX11_readSum : ByteArray := prog_13_method_46_code
def yX11_readSum : MethodName := ⟨RX11, "readSum", "()Z"⟩
abbrev cX11_readTag : ByteArray := prog_13_method_47_code
def yX11_readTag : MethodName := ⟨RX11, "readTag", "()Z"⟩
abbrev cX11_readAtom : ByteArray := prog_13_method_48_code
def yX11_readAtom : MethodName := ⟨RX11, "readAtom", "()Z"⟩
abbrev cX11_readAllOf : ByteArray := prog_13_method_49_code
def yX11_readAllOf : MethodName := ⟨RX11, "readAllOf", "()Z"⟩
abbrev cX11_readCond : ByteArray := prog_13_method_50_code
def yX11_readCond : MethodName := ⟨RX11, "readCond", "()Z"⟩
abbrev cX11_readLawLine : ByteArray := prog_13_method_51_code
def yX11_readLawLine : MethodName := ⟨RX11, "readLawLine", "(I)Z"⟩
abbrev cX11_readLine : ByteArray := prog_13_method_52_code
def yX11_readLine : MethodName := ⟨RX11, "readLine", "(ZI)Z"⟩
abbrev cX11_readAll : ByteArray := prog_13_method_53_code
def yX11_readAll : MethodName := ⟨RX11, "readAll", "(Z)I"⟩
abbrev cX11_walk : ByteArray := prog_13_method_54_code
def yX11_walk : MethodName := ⟨RX11, "walk", "()I"⟩
abbrev cX11_law : ByteArray := prog_13_method_55_code
def yX11_law : MethodName := ⟨RX11, "law", "()I"⟩
abbrev cX11_yarnOf : ByteArray := prog_13_method_56_code
def yX11_yarnOf : MethodName := ⟨RX11, "yarnOf", "(III)I"⟩
abbrev cX11_weakOf : ByteArray := prog_13_method_57_code
def yX11_weakOf : MethodName := ⟨RX11, "weakOf", "(I)I"⟩
abbrev cX11_strongOf : ByteArray := prog_13_method_58_code
def yX11_strongOf : MethodName := ⟨RX11, "strongOf", "(I)I"⟩
abbrev cX11_rotOf : ByteArray := prog_13_method_59_code
def yX11_rotOf : MethodName := ⟨RX11, "rotOf", "(I)I"⟩
abbrev cX11_reignsOf : ByteArray := prog_13_method_60_code
def yX11_reignsOf : MethodName := ⟨RX11, "reignsOf", "(I)I"⟩
abbrev cX11_factOf : ByteArray := prog_13_method_61_code
def yX11_factOf : MethodName := ⟨RX11, "factOf", "(III)I"⟩
abbrev cX11_holdsLine : ByteArray := prog_13_method_62_code
def yX11_holdsLine : MethodName := ⟨RX11, "holdsLine", "(II)Z"⟩
abbrev cX11_sumOf : ByteArray := prog_13_method_63_code
def yX11_sumOf : MethodName := ⟨RX11, "sumOf", "(II)I"⟩
abbrev cX11_soundOf : ByteArray := prog_13_method_64_code
def yX11_soundOf : MethodName := ⟨RX11, "soundOf", "(I)I"⟩
abbrev cX11_bearsOf : ByteArray := prog_13_method_65_code
def yX11_bearsOf : MethodName := ⟨RX11, "bearsOf", "(I)I"⟩
abbrev cX11_wearsBy : ByteArray := prog_13_method_66_code
def yX11_wearsBy : MethodName := ⟨RX11, "wearsBy", "(I)I"⟩
abbrev cX11_bearsBy : ByteArray := prog_13_method_67_code
def yX11_bearsBy : MethodName := ⟨RX11, "bearsBy", "(IIII)I"⟩
abbrev cX11_priceOfYarn : ByteArray := prog_13_method_68_code
def yX11_priceOfYarn : MethodName := ⟨RX11, "priceOfYarn", "(I)I"⟩
abbrev cX11_priceOf : ByteArray := prog_13_method_69_code
def yX11_priceOf : MethodName := ⟨RX11, "priceOf", "(I)I"⟩
abbrev cX11_yarnSet : ByteArray := prog_13_method_70_code
def yX11_yarnSet : MethodName := ⟨RX11, "yarnSet", "(I)I"⟩
abbrev cX11_usesOf : ByteArray := prog_13_method_71_code
def yX11_usesOf : MethodName := ⟨RX11, "usesOf", "(I)I"⟩
abbrev cX11_sameAs : ByteArray := prog_13_method_72_code
def yX11_sameAs : MethodName := ⟨RX11, "sameAs", "(I)I"⟩
abbrev cX11_yarn : ByteArray := prog_13_method_73_code
def yX11_yarn : MethodName := ⟨RX11, "yarn", "(II)I"⟩
abbrev cX11_rope : ByteArray := prog_13_method_74_code
def yX11_rope : MethodName := ⟨RX11, "rope", "(II)I"⟩
abbrev cX11_order : ByteArray := prog_13_method_75_code
def yX11_order : MethodName := ⟨RX11, "order", "(II)I"⟩
abbrev cX11_bears : ByteArray := prog_13_method_76_code
def yX11_bears : MethodName := ⟨RX11, "bears", "(IIII)I"⟩
abbrev cX11_lay : ByteArray := prog_13_method_77_code
def yX11_lay : MethodName := ⟨RX11, "lay", "(IIII)I"⟩
abbrev cX11_tars : ByteArray := prog_13_method_78_code
def yX11_tars : MethodName := ⟨RX11, "tars", "(I)V"⟩
abbrev cX11_tar : ByteArray := prog_13_method_79_code
def yX11_tar : MethodName := ⟨RX11, "tar", "(I)I"⟩
abbrev cX11_whip : ByteArray := prog_13_method_80_code
def yX11_whip : MethodName := ⟨RX11, "whip", "(I)Z"⟩
abbrev cX11_canDouble : ByteArray := prog_13_method_81_code
def yX11_canDouble : MethodName := ⟨RX11, "canDouble", "(I)Z"⟩
abbrev cX11_doubles : ByteArray := prog_13_method_82_code
def yX11_doubles : MethodName := ⟨RX11, "doubles", "(I)V"⟩
abbrev cX11_twice : ByteArray := prog_13_method_83_code
def yX11_twice : MethodName := ⟨RX11, "twice", "(I)I"⟩
abbrev cX11_cut : ByteArray := prog_13_method_84_code
def yX11_cut : MethodName := ⟨RX11, "cut", "(II)I"⟩
abbrev cX11_hang : ByteArray := prog_13_method_85_code
def yX11_hang : MethodName := ⟨RX11, "hang", "(II)I"⟩
abbrev cX11_canMeet : ByteArray := prog_13_method_86_code
def yX11_canMeet : MethodName := ⟨RX11, "canMeet", "(II)Z"⟩
abbrev cX11_meet : ByteArray := prog_13_method_87_code
def yX11_meet : MethodName := ⟨RX11, "meet", "(II)I"⟩
abbrev cX11_pick : ByteArray := prog_13_method_88_code
def yX11_pick : MethodName := ⟨RX11, "pick", "(I)I"⟩
abbrev cX11_breaks : ByteArray := prog_13_method_89_code
def yX11_breaks : MethodName := ⟨RX11, "breaks", "(I)V"⟩
abbrev cX11_goesOn : ByteArray := prog_13_method_90_code
def yX11_goesOn : MethodName := ⟨RX11, "goesOn", "(IZ)V"⟩
abbrev cX11_oneSeason : ByteArray := prog_13_method_91_code
def yX11_oneSeason : MethodName := ⟨RX11, "oneSeason", "()V"⟩
abbrev cX11_seasons : ByteArray := prog_13_method_92_code
def yX11_seasons : MethodName := ⟨RX11, "seasons", "(I)I"⟩
abbrev cX11_haveLength : ByteArray := prog_13_method_93_code
def yX11_haveLength : MethodName := ⟨RX11, "haveLength", "(IIII)Z"⟩
abbrev cX11_best : ByteArray := prog_13_method_94_code
def yX11_best : MethodName := ⟨RX11, "best", "(I)I"⟩
abbrev cX11_cheapestOf : ByteArray := prog_13_method_95_code
def yX11_cheapestOf : MethodName := ⟨RX11, "cheapestOf", "(I)I"⟩
abbrev cX11_cheapest : ByteArray := prog_13_method_96_code
def yX11_cheapest : MethodName := ⟨RX11, "cheapest", "(I)I"⟩
abbrev cX11_metBy : ByteArray := prog_13_method_97_code
def yX11_metBy : MethodName := ⟨RX11, "metBy", "(I)I"⟩
abbrev cX11_can : ByteArray := prog_13_method_98_code
def yX11_can : MethodName := ⟨RX11, "can", "(Z)I"⟩
abbrev cX11_allOrders : ByteArray := prog_13_method_99_code
def yX11_allOrders : MethodName := ⟨RX11, "allOrders", "()I"⟩
abbrev cX11_payOf : ByteArray := prog_13_method_100_code
def yX11_payOf : MethodName := ⟨RX11, "payOf", "(I)I"⟩
abbrev cX11_laysMet : ByteArray := prog_13_method_101_code
def yX11_laysMet : MethodName := ⟨RX11, "laysMet", "()V"⟩
abbrev cX11_most : ByteArray := prog_13_method_102_code
def yX11_most : MethodName := ⟨RX11, "most", "(Z)I"⟩
abbrev cX11_longOf : ByteArray := prog_13_method_103_code
def yX11_longOf : MethodName := ⟨RX11, "longOf", "(I)I"⟩
abbrev cX11_cuts : ByteArray := prog_13_method_104_code
def yX11_cuts : MethodName := ⟨RX11, "cuts", "(IZ)I"⟩
abbrev cX11_walks : ByteArray := prog_13_method_105_code
def yX11_walks : MethodName := ⟨RX11, "walks", "(I)I"⟩
abbrev cX11_shareOf : ByteArray := prog_13_method_106_code
def yX11_shareOf : MethodName := ⟨RX11, "shareOf", "(III)I"⟩
abbrev cX11_noShare : ByteArray := prog_13_method_107_code
def yX11_noShare : MethodName := ⟨RX11, "noShare", "(III)Z"⟩
abbrev cX11_share : ByteArray := prog_13_method_108_code
def yX11_share : MethodName := ⟨RX11, "share", "(III)I"⟩
abbrev cX11_shared : ByteArray := prog_13_method_109_code
def yX11_shared : MethodName := ⟨RX11, "shared", "(III)Z"⟩
abbrev cX11_fits : ByteArray := prog_13_method_110_code
def yX11_fits : MethodName := ⟨RX11, "fits", "(IIIII)Z"⟩
abbrev cX11_oakum : ByteArray := prog_13_method_111_code
def yX11_oakum : MethodName := ⟨RX11, "oakum", "(III)I"⟩
abbrev cX11_keepsAll : ByteArray := prog_13_method_112_code
def yX11_keepsAll : MethodName := ⟨RX11, "keepsAll", "()V"⟩
abbrev cX11_bringsBack : ByteArray := prog_13_method_113_code
def yX11_bringsBack : MethodName := ⟨RX11, "bringsBack", "()V"⟩
abbrev cX11_holds : ByteArray := prog_13_method_114_code
def yX11_holds : MethodName := ⟨RX11, "holds", "(IZ)I"⟩
abbrev cX11_would : ByteArray := prog_13_method_115_code
def yX11_would : MethodName := ⟨RX11, "would", "(II)I"⟩
abbrev cX11_weakest : ByteArray := prog_13_method_116_code
def yX11_weakest : MethodName := ⟨RX11, "weakest", "()I"⟩
abbrev cX11_allLoads : ByteArray := prog_13_method_117_code
def yX11_allLoads : MethodName := ⟨RX11, "allLoads", "()I"⟩
abbrev cX11_bearsAll : ByteArray := prog_13_method_118_code
def yX11_bearsAll : MethodName := ⟨RX11, "bearsAll", "(I)I"⟩
abbrev cX11_wholeOnes : ByteArray := prog_13_method_119_code
def yX11_wholeOnes : MethodName := ⟨RX11, "wholeOnes", "()I"⟩
abbrev cX11_fewest : ByteArray := prog_13_method_120_code
def yX11_fewest : MethodName := ⟨RX11, "fewest", "()I"⟩
abbrev cX11_priceOfAll : ByteArray := prog_13_method_121_code
def yX11_priceOfAll : MethodName := ⟨RX11, "priceOfAll", "(I)I"⟩
abbrev cX11_buys : ByteArray := prog_13_method_122_code
def yX11_buys : MethodName := ⟨RX11, "buys", "(I)I"⟩
abbrev cX11_skips : ByteArray := prog_13_method_123_code
def yX11_skips : MethodName := ⟨RX11, "skips", "()I"⟩
abbrev cX11_loose : ByteArray := prog_13_method_124_code
def yX11_loose : MethodName := ⟨RX11, "loose", "()I"⟩
abbrev cX11_canLay : ByteArray := prog_13_method_125_code
def yX11_canLay : MethodName := ⟨RX11, "canLay", "(II)Z"⟩
abbrev cX11_lasts : ByteArray := prog_13_method_126_code
def yX11_lasts : MethodName := ⟨RX11, "lasts", "(I)I"⟩
abbrev cX11_brokenOnes : ByteArray := prog_13_method_127_code
def yX11_brokenOnes : MethodName := ⟨RX11, "brokenOnes", "()I"⟩
abbrev cX11_trial : ByteArray := prog_13_method_128_code
def yX11_trial : MethodName := ⟨RX11, "trial", "(IZ)I"⟩
abbrev cX11_span : ByteArray := prog_13_method_129_code
def yX11_span : MethodName := ⟨RX11, "span", "(IZ)I"⟩
abbrev cX11_ofLog : ByteArray := prog_13_method_130_code
def yX11_ofLog : MethodName := ⟨RX11, "ofLog", "(II)I"⟩
abbrev cX11_isIn : ByteArray := prog_13_method_131_code
def yX11_isIn : MethodName := ⟨RX11, "isIn", "(II)Z"⟩
abbrev cX11_led : ByteArray := prog_13_method_132_code
def yX11_led : MethodName := ⟨RX11, "led", "(IZ)I"⟩
abbrev cX11_log : ByteArray := prog_13_method_133_code
def yX11_log : MethodName := ⟨RX11, "log", "(II)I"⟩
abbrev cX11_seed : ByteArray := prog_13_method_134_code
def yX11_seed : MethodName := ⟨RX11, "seed", "(I)I"⟩
abbrev cX11_count : ByteArray := prog_13_method_135_code
def yX11_count : MethodName := ⟨RX11, "count", "(I)I"⟩
def RJ6 : String := "java/lang/Integer"
abbrev cJ6_bitCount_0f7a4 : ByteArray := prog_21_method_49_code
def yJ6_bitCount_0f7a4 : MethodName := ⟨RJ6, "bitCount", "(I)I"⟩
def RJ9 : String := "java/lang/Math"
abbrev cJ9_max_7cf53 : ByteArray := prog_22_method_65_code
def yJ9_max_7cf53 : MethodName := ⟨RJ9, "max", "(II)I"⟩
abbrev cJ9_min_7cf53 : ByteArray := prog_22_method_69_code
def yJ9_min_7cf53 : MethodName := ⟨RJ9, "min", "(II)I"⟩
def RJ0 : String := "java/lang/String"
abbrev cJ0_length_8abf5 : ByteArray := prog_24_method_54_code
def yJ0_length_8abf5 : MethodName := ⟨RJ0, "length", "()I"⟩
abbrev cJ0_charAt_5068e : ByteArray := prog_24_method_56_code
def yJ0_charAt_5068e : MethodName := ⟨RJ0, "charAt", "(I)C"⟩
abbrev cJ0_coder_7d493 : ByteArray := prog_24_method_152_code
def yJ0_coder_7d493 : MethodName := ⟨RJ0, "coder", "()B"⟩
abbrev cJ0_isLatin1_aae02 : ByteArray := prog_24_method_154_code
def yJ0_isLatin1_aae02 : MethodName := ⟨RJ0, "isLatin1", "()Z"⟩
abbrev cJ0_checkIndex_df160 : ByteArray := prog_24_method_155_code
def yJ0_checkIndex_df160 : MethodName := ⟨RJ0, "checkIndex", "(II)V"⟩
def RJ1 : String := "java/lang/StringLatin1"
abbrev cJ1_charAt_3b067 : ByteArray := prog_25_method_2_code
def yJ1_charAt_3b067 : MethodName := ⟨RJ1, "charAt", "([BI)C"⟩
def RJ2 : String := "java/lang/StringUTF16"
abbrev cJ2_getChar_3b067 : ByteArray := prog_26_method_5_code
def yJ2_getChar_3b067 : MethodName := ⟨RJ2, "getChar", "([BI)C"⟩
abbrev cJ2_length_9d52b : ByteArray := prog_26_method_6_code
def yJ2_length_9d52b : MethodName := ⟨RJ2, "length", "([B)I"⟩
abbrev cJ2_charAt_3b067 : ByteArray := prog_26_method_83_code
def yJ2_charAt_3b067 : MethodName := ⟨RJ2, "charAt", "([BI)C"⟩
abbrev cJ2_checkIndex_2214a : ByteArray := prog_26_method_91_code
def yJ2_checkIndex_2214a : MethodName := ⟨RJ2, "checkIndex", "(I[B)V"⟩
def RJ10 : String := "java/lang/System"
def RJ3 : String := "jdk/internal/util/Preconditions"
abbrev cJ3_checkIndex_8e157 : ByteArray := prog_33_method_11_code
def yJ3_checkIndex_8e157 : MethodName := ⟨RJ3, "checkIndex", "(IILjava/util/function/BiFunction;)I"⟩
def RL : String := "YearRopeLaw"
abbrev cL_walk : ByteArray := method_3_code
def yL_walk : MethodName := ⟨RL, "walk", "(LYearRope;[J)I"⟩
abbrev cL_law : ByteArray := method_4_code
def yL_law : MethodName := ⟨RL, "law", "(LYearRope;[J)I"⟩
abbrev cL_yarn : ByteArray := method_5_code
def yL_yarn : MethodName := ⟨RL, "yarn", "(LYearRope;II[J)I"⟩
abbrev cL_rope : ByteArray := method_6_code
def yL_rope : MethodName := ⟨RL, "rope", "(LYearRope;II[J)I"⟩
abbrev cL_order : ByteArray := method_7_code
def yL_order : MethodName := ⟨RL, "order", "(LYearRope;II[J)I"⟩
abbrev cL_bears : ByteArray := method_8_code
def yL_bears : MethodName := ⟨RL, "bears", "(LYearRope;IIII[J)I"⟩
abbrev cL_lay : ByteArray := method_9_code
def yL_lay : MethodName := ⟨RL, "lay", "(LYearRope;IIII[J)I"⟩
abbrev cL_tar : ByteArray := method_10_code
def yL_tar : MethodName := ⟨RL, "tar", "(LYearRope;I[J)I"⟩
abbrev cL_whip : ByteArray := method_11_code
def yL_whip : MethodName := ⟨RL, "whip", "(LYearRope;I[J)I"⟩
abbrev cL_twice : ByteArray := method_12_code
def yL_twice : MethodName := ⟨RL, "twice", "(LYearRope;I[J)I"⟩
abbrev cL_cut : ByteArray := method_13_code
def yL_cut : MethodName := ⟨RL, "cut", "(LYearRope;II[J)I"⟩
abbrev cL_hang : ByteArray := method_14_code
def yL_hang : MethodName := ⟨RL, "hang", "(LYearRope;II[J)I"⟩
abbrev cL_meet : ByteArray := method_15_code
def yL_meet : MethodName := ⟨RL, "meet", "(LYearRope;II[J)I"⟩
abbrev cL_pick : ByteArray := method_16_code
def yL_pick : MethodName := ⟨RL, "pick", "(LYearRope;I[J)I"⟩
abbrev cL_seasons : ByteArray := method_17_code
def yL_seasons : MethodName := ⟨RL, "seasons", "(LYearRope;I[J)I"⟩
abbrev cL_best : ByteArray := method_18_code
def yL_best : MethodName := ⟨RL, "best", "(LYearRope;I[J)I"⟩
abbrev cL_cheapest : ByteArray := method_19_code
def yL_cheapest : MethodName := ⟨RL, "cheapest", "(LYearRope;I[J)I"⟩
abbrev cL_cuts : ByteArray := method_20_code
def yL_cuts : MethodName := ⟨RL, "cuts", "(LYearRope;IZ[J)I"⟩
abbrev cL_walks : ByteArray := method_21_code
def yL_walks : MethodName := ⟨RL, "walks", "(LYearRope;I[J)I"⟩
abbrev cL_share : ByteArray := method_22_code
def yL_share : MethodName := ⟨RL, "share", "(LYearRope;III[J)I"⟩
abbrev cL_shared : ByteArray := method_23_code
def yL_shared : MethodName := ⟨RL, "shared", "(LYearRope;III[J)I"⟩
abbrev cL_oakum : ByteArray := method_24_code
def yL_oakum : MethodName := ⟨RL, "oakum", "(LYearRope;III[J)I"⟩
abbrev cL_holds : ByteArray := method_25_code
def yL_holds : MethodName := ⟨RL, "holds", "(LYearRope;IZ[J)I"⟩
abbrev cL_would : ByteArray := method_26_code
def yL_would : MethodName := ⟨RL, "would", "(LYearRope;II[J)I"⟩
abbrev cL_buys : ByteArray := method_27_code
def yL_buys : MethodName := ⟨RL, "buys", "(LYearRope;I[J)I"⟩
abbrev cL_lasts : ByteArray := method_28_code
def yL_lasts : MethodName := ⟨RL, "lasts", "(LYearRope;I[J)I"⟩
abbrev cL_trial : ByteArray := method_29_code
def yL_trial : MethodName := ⟨RL, "trial", "(LYearRope;IZ[J)I"⟩
abbrev cL_span : ByteArray := method_30_code
def yL_span : MethodName := ⟨RL, "span", "(LYearRope;IZ[J)I"⟩
abbrev cL_led : ByteArray := method_31_code
def yL_led : MethodName := ⟨RL, "led", "(LYearRope;IZ[J)I"⟩
abbrev cL_log : ByteArray := method_32_code
def yL_log : MethodName := ⟨RL, "log", "(LYearRope;II[J)I"⟩
abbrev cL_law_ : ByteArray := code
def yL_law_ : MethodName := ⟨RL, "law", "([I)Z"⟩
abbrev vwCl : List vw_C := [(RX0, TX0, 3), (RX1, TX1, 9), (RX2, TX2, 2), (RX3, TX3, 3), (RX4, TX4, 3), (RX5, TX5, 10), (RX6, TX6, 15), (RX7, TX7, 6), (RX8, TX8, 2), (RX9, TX9, 4), (RX10, TX10, 15), (RX11, TX11, 20)]

/-- the words that every method is given: all good ones of the tables -/
def wA : List Cond := lw_tbl.filter goodWord
theorem wA_of {w : Cond} (h : w ∈ lw_tbl) (g : goodWord w = true) : w ∈ wA := List.mem_filter.mpr ⟨h, g⟩
theorem wA_t {w : Cond} (h : w ∈ tables_1) (g : goodWord w = true) : w ∈ wA := wA_of (List.mem_append_right _ h) g
theorem wA_good : ∀ w ∈ wA, goodWord w = true := fun w h => (List.mem_filter.mp h).2
theorem wt1 {w : Cond} (h : w ∈ tables_1_1) : w ∈ tables_1 := List.mem_append_left _ h
theorem wt2 {w : Cond} (h : w ∈ tables_1_2) : w ∈ tables_1 := List.mem_append_right _ (List.mem_append_left _ h)
theorem wt3 {w : Cond} (h : w ∈ tables_1_3) : w ∈ tables_1 := List.mem_append_right _ (List.mem_append_right _ (List.mem_append_left _ h))
theorem wt4 {w : Cond} (h : w ∈ tables_1_4) : w ∈ tables_1 := List.mem_append_right _ (List.mem_append_right _ (List.mem_append_right _ (List.mem_append_left _ h)))
theorem wt5 {w : Cond} (h : w ∈ tables_1_5) : w ∈ tables_1 := List.mem_append_right _ (List.mem_append_right _ (List.mem_append_right _ (List.mem_append_right _ (List.mem_append_left _ h))))
theorem wt6 {w : Cond} (h : w ∈ tables_1_6) : w ∈ tables_1 := List.mem_append_right _ (List.mem_append_right _ (List.mem_append_right _ (List.mem_append_right _ (List.mem_append_right _ (List.mem_append_left _ h)))))
theorem wt7 {w : Cond} (h : w ∈ tables_1_7) : w ∈ tables_1 := List.mem_append_right _ (List.mem_append_right _ (List.mem_append_right _ (List.mem_append_right _ (List.mem_append_right _ (List.mem_append_right _ (List.mem_append_left _ h))))))
theorem wt8 {w : Cond} (h : w ∈ tables_1_8) : w ∈ tables_1 := List.mem_append_right _ (List.mem_append_right _ (List.mem_append_right _ (List.mem_append_right _ (List.mem_append_right _ (List.mem_append_right _ (List.mem_append_right _ (List.mem_append_left _ h)))))))
theorem wt9 {w : Cond} (h : w ∈ tables_1_9) : w ∈ tables_1 := List.mem_append_right _ (List.mem_append_right _ (List.mem_append_right _ (List.mem_append_right _ (List.mem_append_right _ (List.mem_append_right _ (List.mem_append_right _ (List.mem_append_right _ (h))))))))
