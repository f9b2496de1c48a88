section
-- ===== PART A: goes FIRST, ahead of the names: the tables' words, and 'selects' of the private methods out of them =====
/-- a private method of a class that the tables say can be made, by its rows of tables_1 -/
def lw_okq (q : MethodName × Nat) : Prop := (q.1.cls ≠ "java/lang/invoke/MethodHandle" ∧ q.1.cls ≠ "java/lang/invoke/VarHandle") ∧ Cond.instantiable q.1.cls q.2 ∈ tables_1 ∧ Cond.privateMethod q.1 ∈ tables_1 ∧ Cond.instanceMethod q.1 ∈ tables_1
theorem lw_p0 : lw_okq (⟨"TownLamps$Town", "cabinetOf", "(LTownLamps$Lamp;)LTownLamps$Cabinet;"⟩, 16) := ⟨⟨by decide +kernel, by decide +kernel⟩, List.mem_of_getElem? (i := 106) (by decide +kernel), List.mem_of_getElem? (i := 492) (by decide +kernel), List.mem_of_getElem? (i := 493) (by decide +kernel)⟩
theorem lw_p1 : lw_okq (⟨"TownLamps$Town", "drawsDimmed", "(LTownLamps$Lamp;)I"⟩, 16) := ⟨⟨by decide +kernel, by decide +kernel⟩, List.mem_of_getElem? (i := 106) (by decide +kernel), List.mem_of_getElem? (i := 501) (by decide +kernel), List.mem_of_getElem? (i := 502) (by decide +kernel)⟩
theorem lw_p2 : lw_okq (⟨"TownLamps", "isFeed", "(I)Z"⟩, 14) := ⟨⟨by decide +kernel, by decide +kernel⟩, List.mem_of_getElem? (i := 23) (by decide +kernel), List.mem_of_getElem? (i := 545) (by decide +kernel), List.mem_of_getElem? (i := 546) (by decide +kernel)⟩
theorem lw_p3 : lw_okq (⟨"TownLamps$Town", "price", "()I"⟩, 16) := ⟨⟨by decide +kernel, by decide +kernel⟩, List.mem_of_getElem? (i := 106) (by decide +kernel), List.mem_of_getElem? (i := 639) (by decide +kernel), List.mem_of_getElem? (i := 640) (by decide +kernel)⟩
theorem lw_p4 : lw_okq (⟨"TownLamps$Reader", "step", "()V"⟩, 7) := ⟨⟨by decide +kernel, by decide +kernel⟩, List.mem_of_getElem? (i := 74) (by decide +kernel), List.mem_of_getElem? (i := 690) (by decide +kernel), List.mem_of_getElem? (i := 691) (by decide +kernel)⟩
theorem lw_p5 : lw_okq (⟨"TownLamps$Reader", "readKey", "()Z"⟩, 7) := ⟨⟨by decide +kernel, by decide +kernel⟩, List.mem_of_getElem? (i := 74) (by decide +kernel), List.mem_of_getElem? (i := 697) (by decide +kernel), List.mem_of_getElem? (i := 698) (by decide +kernel)⟩
theorem lw_p6 : lw_okq (⟨"TownLamps$Reader", "isWord", "(Ljava/lang/String;)Z"⟩, 7) := ⟨⟨by decide +kernel, by decide +kernel⟩, List.mem_of_getElem? (i := 74) (by decide +kernel), List.mem_of_getElem? (i := 708) (by decide +kernel), List.mem_of_getElem? (i := 709) (by decide +kernel)⟩
theorem lw_p7 : lw_okq (⟨"TownLamps$Reader", "readLevel", "(III)Z"⟩, 7) := ⟨⟨by decide +kernel, by decide +kernel⟩, List.mem_of_getElem? (i := 74) (by decide +kernel), List.mem_of_getElem? (i := 760) (by decide +kernel), List.mem_of_getElem? (i := 761) (by decide +kernel)⟩
theorem lw_p8 : lw_okq (⟨"TownLamps$Reader", "readPiece", "(II)Z"⟩, 7) := ⟨⟨by decide +kernel, by decide +kernel⟩, List.mem_of_getElem? (i := 74) (by decide +kernel), List.mem_of_getElem? (i := 764) (by decide +kernel), List.mem_of_getElem? (i := 765) (by decide +kernel)⟩
theorem lw_p9 : lw_okq (⟨"TownLamps$Reader", "readNumber", "()Z"⟩, 7) := ⟨⟨by decide +kernel, by decide +kernel⟩, List.mem_of_getElem? (i := 74) (by decide +kernel), List.mem_of_getElem? (i := 768) (by decide +kernel), List.mem_of_getElem? (i := 769) (by decide +kernel)⟩
theorem lw_p10 : lw_okq (⟨"TownLamps$Reader", "readName", "()Z"⟩, 7) := ⟨⟨by decide +kernel, by decide +kernel⟩, List.mem_of_getElem? (i := 74) (by decide +kernel), List.mem_of_getElem? (i := 780) (by decide +kernel), List.mem_of_getElem? (i := 781) (by decide +kernel)⟩
theorem lw_p11 : lw_okq (⟨"TownLamps$Reader", "isSign", "(C)Z"⟩, 7) := ⟨⟨by decide +kernel, by decide +kernel⟩, List.mem_of_getElem? (i := 74) (by decide +kernel), List.mem_of_getElem? (i := 846) (by decide +kernel), List.mem_of_getElem? (i := 847) (by decide +kernel)⟩
theorem lw_p12 : lw_okq (⟨"TownLamps$Reader", "isSignOf", "(I)Z"⟩, 7) := ⟨⟨by decide +kernel, by decide +kernel⟩, List.mem_of_getElem? (i := 74) (by decide +kernel), List.mem_of_getElem? (i := 851) (by decide +kernel), List.mem_of_getElem? (i := 852) (by decide +kernel)⟩
theorem lw_p13 : lw_okq (⟨"TownLamps$Faults", "countBehind", "(LTownLamps$Town;)V"⟩, 9) := ⟨⟨by decide +kernel, by decide +kernel⟩, List.mem_of_getElem? (i := 298) (by decide +kernel), List.mem_of_getElem? (i := 891) (by decide +kernel), List.mem_of_getElem? (i := 892) (by decide +kernel)⟩
theorem lw_p14 : lw_okq (⟨"TownLamps$Faults", "addToFeed", "(III)V"⟩, 9) := ⟨⟨by decide +kernel, by decide +kernel⟩, List.mem_of_getElem? (i := 298) (by decide +kernel), List.mem_of_getElem? (i := 897) (by decide +kernel), List.mem_of_getElem? (i := 898) (by decide +kernel)⟩
theorem lw_p15 : lw_okq (⟨"TownLamps$Faults", "blameJoints", "(LTownLamps$Town;)V"⟩, 9) := ⟨⟨by decide +kernel, by decide +kernel⟩, List.mem_of_getElem? (i := 298) (by decide +kernel), List.mem_of_getElem? (i := 904) (by decide +kernel), List.mem_of_getElem? (i := 905) (by decide +kernel)⟩
def lw_privs_1 : List (MethodName × Nat) := [(⟨"TownLamps$Town", "cabinetOf", "(LTownLamps$Lamp;)LTownLamps$Cabinet;"⟩, 16), (⟨"TownLamps$Town", "drawsDimmed", "(LTownLamps$Lamp;)I"⟩, 16), (⟨"TownLamps", "isFeed", "(I)Z"⟩, 14), (⟨"TownLamps$Town", "price", "()I"⟩, 16), (⟨"TownLamps$Reader", "step", "()V"⟩, 7), (⟨"TownLamps$Reader", "readKey", "()Z"⟩, 7), (⟨"TownLamps$Reader", "isWord", "(Ljava/lang/String;)Z"⟩, 7), (⟨"TownLamps$Reader", "readLevel", "(III)Z"⟩, 7), (⟨"TownLamps$Reader", "readPiece", "(II)Z"⟩, 7), (⟨"TownLamps$Reader", "readNumber", "()Z"⟩, 7), (⟨"TownLamps$Reader", "readName", "()Z"⟩, 7), (⟨"TownLamps$Reader", "isSign", "(C)Z"⟩, 7), (⟨"TownLamps$Reader", "isSignOf", "(I)Z"⟩, 7), (⟨"TownLamps$Faults", "countBehind", "(LTownLamps$Town;)V"⟩, 9), (⟨"TownLamps$Faults", "addToFeed", "(III)V"⟩, 9), (⟨"TownLamps$Faults", "blameJoints", "(LTownLamps$Town;)V"⟩, 9)]
theorem lw_r1 : ∀ q ∈ lw_privs_1, lw_okq q := List.forall_mem_cons.mpr ⟨lw_p0, List.forall_mem_cons.mpr ⟨lw_p1, List.forall_mem_cons.mpr ⟨lw_p2, List.forall_mem_cons.mpr ⟨lw_p3, List.forall_mem_cons.mpr ⟨lw_p4, List.forall_mem_cons.mpr ⟨lw_p5, List.forall_mem_cons.mpr ⟨lw_p6, List.forall_mem_cons.mpr ⟨lw_p7, List.forall_mem_cons.mpr ⟨lw_p8, List.forall_mem_cons.mpr ⟨lw_p9, List.forall_mem_cons.mpr ⟨lw_p10, List.forall_mem_cons.mpr ⟨lw_p11, List.forall_mem_cons.mpr ⟨lw_p12, List.forall_mem_cons.mpr ⟨lw_p13, List.forall_mem_cons.mpr ⟨lw_p14, List.forall_mem_cons.mpr ⟨lw_p15, fun _ h => absurd h List.not_mem_nil⟩⟩⟩⟩⟩⟩⟩⟩⟩⟩⟩⟩⟩⟩⟩⟩
theorem lw_p16 : lw_okq (⟨"TownLamps$Faults", "blameLamps", "(LTownLamps$Town;)V"⟩, 9) := ⟨⟨by decide +kernel, by decide +kernel⟩, List.mem_of_getElem? (i := 298) (by decide +kernel), List.mem_of_getElem? (i := 908) (by decide +kernel), List.mem_of_getElem? (i := 909) (by decide +kernel)⟩
theorem lw_p17 : lw_okq (⟨"TownLamps", "fewestThatDraw", "(I)I"⟩, 14) := ⟨⟨by decide +kernel, by decide +kernel⟩, List.mem_of_getElem? (i := 23) (by decide +kernel), List.mem_of_getElem? (i := 936) (by decide +kernel), List.mem_of_getElem? (i := 937) (by decide +kernel)⟩
theorem lw_p18 : lw_okq (⟨"TownLamps", "drawOfSet", "(I)I"⟩, 14) := ⟨⟨by decide +kernel, by decide +kernel⟩, List.mem_of_getElem? (i := 23) (by decide +kernel), List.mem_of_getElem? (i := 941) (by decide +kernel), List.mem_of_getElem? (i := 942) (by decide +kernel)⟩
theorem lw_p19 : lw_okq (⟨"TownLamps$Walk", "goOn", "(IIII)V"⟩, 6) := ⟨⟨by decide +kernel, by decide +kernel⟩, List.mem_of_getElem? (i := 334) (by decide +kernel), List.mem_of_getElem? (i := 968) (by decide +kernel), List.mem_of_getElem? (i := 969) (by decide +kernel)⟩
theorem lw_p20 : lw_okq (⟨"TownLamps", "gatherLives", "(I)I"⟩, 14) := ⟨⟨by decide +kernel, by decide +kernel⟩, List.mem_of_getElem? (i := 23) (by decide +kernel), List.mem_of_getElem? (i := 984) (by decide +kernel), List.mem_of_getElem? (i := 985) (by decide +kernel)⟩
theorem lw_p21 : lw_okq (⟨"TownLamps", "livesBelow", "(II)I"⟩, 14) := ⟨⟨by decide +kernel, by decide +kernel⟩, List.mem_of_getElem? (i := 23) (by decide +kernel), List.mem_of_getElem? (i := 988) (by decide +kernel), List.mem_of_getElem? (i := 989) (by decide +kernel)⟩
theorem lw_p22 : lw_okq (⟨"TownLamps", "toldRight", "(II)I"⟩, 14) := ⟨⟨by decide +kernel, by decide +kernel⟩, List.mem_of_getElem? (i := 23) (by decide +kernel), List.mem_of_getElem? (i := 1093) (by decide +kernel), List.mem_of_getElem? (i := 1094) (by decide +kernel)⟩
theorem lw_p23 : lw_okq (⟨"TownLampsModel", "isCab", "(I)Z"⟩, 44) := ⟨⟨by decide +kernel, by decide +kernel⟩, List.mem_of_getElem? (i := 1126) (by decide +kernel), List.mem_of_getElem? (i := 1279) (by decide +kernel), List.mem_of_getElem? (i := 1280) (by decide +kernel)⟩
theorem lw_p24 : lw_okq (⟨"TownLampsModel", "isNight", "(I)Z"⟩, 44) := ⟨⟨by decide +kernel, by decide +kernel⟩, List.mem_of_getElem? (i := 1126) (by decide +kernel), List.mem_of_getElem? (i := 1286) (by decide +kernel), List.mem_of_getElem? (i := 1287) (by decide +kernel)⟩
theorem lw_p25 : lw_okq (⟨"TownLampsModel", "cab6", "(II)I"⟩, 44) := ⟨⟨by decide +kernel, by decide +kernel⟩, List.mem_of_getElem? (i := 1126) (by decide +kernel), List.mem_of_getElem? (i := 1290) (by decide +kernel), List.mem_of_getElem? (i := 1291) (by decide +kernel)⟩
theorem lw_p26 : lw_okq (⟨"TownLampsModel", "drawnBy", "(IZ)I"⟩, 44) := ⟨⟨by decide +kernel, by decide +kernel⟩, List.mem_of_getElem? (i := 1126) (by decide +kernel), List.mem_of_getElem? (i := 1294) (by decide +kernel), List.mem_of_getElem? (i := 1295) (by decide +kernel)⟩
theorem lw_p27 : lw_okq (⟨"TownLampsModel", "lamp7", "(II)I"⟩, 44) := ⟨⟨by decide +kernel, by decide +kernel⟩, List.mem_of_getElem? (i := 1126) (by decide +kernel), List.mem_of_getElem? (i := 1298) (by decide +kernel), List.mem_of_getElem? (i := 1299) (by decide +kernel)⟩
theorem lw_p28 : lw_okq (⟨"TownLampsModel", "cabOf", "(I)I"⟩, 44) := ⟨⟨by decide +kernel, by decide +kernel⟩, List.mem_of_getElem? (i := 1126) (by decide +kernel), List.mem_of_getElem? (i := 1302) (by decide +kernel), List.mem_of_getElem? (i := 1303) (by decide +kernel)⟩
theorem lw_p29 : lw_okq (⟨"TownLampsModel", "joint3", "(II)I"⟩, 44) := ⟨⟨by decide +kernel, by decide +kernel⟩, List.mem_of_getElem? (i := 1126) (by decide +kernel), List.mem_of_getElem? (i := 1306) (by decide +kernel), List.mem_of_getElem? (i := 1307) (by decide +kernel)⟩
theorem lw_p30 : lw_okq (⟨"TownLampsModel", "shouldBurn", "(I)Z"⟩, 44) := ⟨⟨by decide +kernel, by decide +kernel⟩, List.mem_of_getElem? (i := 1126) (by decide +kernel), List.mem_of_getElem? (i := 1310) (by decide +kernel), List.mem_of_getElem? (i := 1311) (by decide +kernel)⟩
theorem lw_p31 : lw_okq (⟨"TownLampsModel", "isFed", "(I)Z"⟩, 44) := ⟨⟨by decide +kernel, by decide +kernel⟩, List.mem_of_getElem? (i := 1126) (by decide +kernel), List.mem_of_getElem? (i := 1314) (by decide +kernel), List.mem_of_getElem? (i := 1315) (by decide +kernel)⟩
def lw_privs_2 : List (MethodName × Nat) := [(⟨"TownLamps$Faults", "blameLamps", "(LTownLamps$Town;)V"⟩, 9), (⟨"TownLamps", "fewestThatDraw", "(I)I"⟩, 14), (⟨"TownLamps", "drawOfSet", "(I)I"⟩, 14), (⟨"TownLamps$Walk", "goOn", "(IIII)V"⟩, 6), (⟨"TownLamps", "gatherLives", "(I)I"⟩, 14), (⟨"TownLamps", "livesBelow", "(II)I"⟩, 14), (⟨"TownLamps", "toldRight", "(II)I"⟩, 14), (⟨"TownLampsModel", "isCab", "(I)Z"⟩, 44), (⟨"TownLampsModel", "isNight", "(I)Z"⟩, 44), (⟨"TownLampsModel", "cab6", "(II)I"⟩, 44), (⟨"TownLampsModel", "drawnBy", "(IZ)I"⟩, 44), (⟨"TownLampsModel", "lamp7", "(II)I"⟩, 44), (⟨"TownLampsModel", "cabOf", "(I)I"⟩, 44), (⟨"TownLampsModel", "joint3", "(II)I"⟩, 44), (⟨"TownLampsModel", "shouldBurn", "(I)Z"⟩, 44), (⟨"TownLampsModel", "isFed", "(I)Z"⟩, 44)]
theorem lw_r2 : ∀ q ∈ lw_privs_2, lw_okq q := List.forall_mem_cons.mpr ⟨lw_p16, List.forall_mem_cons.mpr ⟨lw_p17, List.forall_mem_cons.mpr ⟨lw_p18, List.forall_mem_cons.mpr ⟨lw_p19, List.forall_mem_cons.mpr ⟨lw_p20, List.forall_mem_cons.mpr ⟨lw_p21, List.forall_mem_cons.mpr ⟨lw_p22, List.forall_mem_cons.mpr ⟨lw_p23, List.forall_mem_cons.mpr ⟨lw_p24, List.forall_mem_cons.mpr ⟨lw_p25, List.forall_mem_cons.mpr ⟨lw_p26, List.forall_mem_cons.mpr ⟨lw_p27, List.forall_mem_cons.mpr ⟨lw_p28, List.forall_mem_cons.mpr ⟨lw_p29, List.forall_mem_cons.mpr ⟨lw_p30, List.forall_mem_cons.mpr ⟨lw_p31, fun _ h => absurd h List.not_mem_nil⟩⟩⟩⟩⟩⟩⟩⟩⟩⟩⟩⟩⟩⟩⟩⟩
theorem lw_p32 : lw_okq (⟨"TownLampsModel", "draws", "(I)I"⟩, 44) := ⟨⟨by decide +kernel, by decide +kernel⟩, List.mem_of_getElem? (i := 1126) (by decide +kernel), List.mem_of_getElem? (i := 1318) (by decide +kernel), List.mem_of_getElem? (i := 1319) (by decide +kernel)⟩
theorem lw_p33 : lw_okq (⟨"TownLampsModel", "dimBy", "(I)I"⟩, 44) := ⟨⟨by decide +kernel, by decide +kernel⟩, List.mem_of_getElem? (i := 1126) (by decide +kernel), List.mem_of_getElem? (i := 1322) (by decide +kernel), List.mem_of_getElem? (i := 1323) (by decide +kernel)⟩
theorem lw_p34 : lw_okq (⟨"TownLampsModel", "counts", "(I)I"⟩, 44) := ⟨⟨by decide +kernel, by decide +kernel⟩, List.mem_of_getElem? (i := 1126) (by decide +kernel), List.mem_of_getElem? (i := 1326) (by decide +kernel), List.mem_of_getElem? (i := 1327) (by decide +kernel)⟩
theorem lw_p35 : lw_okq (⟨"TownLampsModel", "worksOut", "(I)I"⟩, 44) := ⟨⟨by decide +kernel, by decide +kernel⟩, List.mem_of_getElem? (i := 1126) (by decide +kernel), List.mem_of_getElem? (i := 1330) (by decide +kernel), List.mem_of_getElem? (i := 1331) (by decide +kernel)⟩
theorem lw_p36 : lw_okq (⟨"TownLampsModel", "isJoint", "(I)Z"⟩, 44) := ⟨⟨by decide +kernel, by decide +kernel⟩, List.mem_of_getElem? (i := 1126) (by decide +kernel), List.mem_of_getElem? (i := 1348) (by decide +kernel), List.mem_of_getElem? (i := 1349) (by decide +kernel)⟩
theorem lw_p37 : lw_okq (⟨"TownLampsModel", "isLamp", "(I)Z"⟩, 44) := ⟨⟨by decide +kernel, by decide +kernel⟩, List.mem_of_getElem? (i := 1126) (by decide +kernel), List.mem_of_getElem? (i := 1364) (by decide +kernel), List.mem_of_getElem? (i := 1365) (by decide +kernel)⟩
theorem lw_p38 : lw_okq (⟨"TownLampsModel", "burns", "(I)Z"⟩, 44) := ⟨⟨by decide +kernel, by decide +kernel⟩, List.mem_of_getElem? (i := 1126) (by decide +kernel), List.mem_of_getElem? (i := 1368) (by decide +kernel), List.mem_of_getElem? (i := 1369) (by decide +kernel)⟩
theorem lw_p39 : lw_okq (⟨"TownLampsModel", "lifeOf", "(I)I"⟩, 44) := ⟨⟨by decide +kernel, by decide +kernel⟩, List.mem_of_getElem? (i := 1126) (by decide +kernel), List.mem_of_getElem? (i := 1375) (by decide +kernel), List.mem_of_getElem? (i := 1376) (by decide +kernel)⟩
theorem lw_p40 : lw_okq (⟨"TownLampsModel", "brokenAt", "(II)I"⟩, 44) := ⟨⟨by decide +kernel, by decide +kernel⟩, List.mem_of_getElem? (i := 1126) (by decide +kernel), List.mem_of_getElem? (i := 1399) (by decide +kernel), List.mem_of_getElem? (i := 1400) (by decide +kernel)⟩
theorem lw_p41 : lw_okq (⟨"TownLampsModel", "anHour", "()V"⟩, 44) := ⟨⟨by decide +kernel, by decide +kernel⟩, List.mem_of_getElem? (i := 1126) (by decide +kernel), List.mem_of_getElem? (i := 1411) (by decide +kernel), List.mem_of_getElem? (i := 1412) (by decide +kernel)⟩
theorem lw_p42 : lw_okq (⟨"TownLampsModel", "lightOf", "(I)I"⟩, 44) := ⟨⟨by decide +kernel, by decide +kernel⟩, List.mem_of_getElem? (i := 1126) (by decide +kernel), List.mem_of_getElem? (i := 1424) (by decide +kernel), List.mem_of_getElem? (i := 1425) (by decide +kernel)⟩
theorem lw_p43 : lw_okq (⟨"TownLampsModel", "go", "()V"⟩, 44) := ⟨⟨by decide +kernel, by decide +kernel⟩, List.mem_of_getElem? (i := 1126) (by decide +kernel), List.mem_of_getElem? (i := 1444) (by decide +kernel), List.mem_of_getElem? (i := 1445) (by decide +kernel)⟩
theorem lw_p44 : lw_okq (⟨"TownLampsModel", "isLetter", "(I)Z"⟩, 44) := ⟨⟨by decide +kernel, by decide +kernel⟩, List.mem_of_getElem? (i := 1126) (by decide +kernel), List.mem_of_getElem? (i := 1448) (by decide +kernel), List.mem_of_getElem? (i := 1449) (by decide +kernel)⟩
theorem lw_p45 : lw_okq (⟨"TownLampsModel", "isFigure", "(I)Z"⟩, 44) := ⟨⟨by decide +kernel, by decide +kernel⟩, List.mem_of_getElem? (i := 1126) (by decide +kernel), List.mem_of_getElem? (i := 1452) (by decide +kernel), List.mem_of_getElem? (i := 1453) (by decide +kernel)⟩
theorem lw_p46 : lw_okq (⟨"TownLampsModel", "takesKey", "()Z"⟩, 44) := ⟨⟨by decide +kernel, by decide +kernel⟩, List.mem_of_getElem? (i := 1126) (by decide +kernel), List.mem_of_getElem? (i := 1456) (by decide +kernel), List.mem_of_getElem? (i := 1457) (by decide +kernel)⟩
theorem lw_p47 : lw_okq (⟨"TownLampsModel", "takesE", "()Z"⟩, 44) := ⟨⟨by decide +kernel, by decide +kernel⟩, List.mem_of_getElem? (i := 1126) (by decide +kernel), List.mem_of_getElem? (i := 1460) (by decide +kernel), List.mem_of_getElem? (i := 1461) (by decide +kernel)⟩
def lw_privs_3 : List (MethodName × Nat) := [(⟨"TownLampsModel", "draws", "(I)I"⟩, 44), (⟨"TownLampsModel", "dimBy", "(I)I"⟩, 44), (⟨"TownLampsModel", "counts", "(I)I"⟩, 44), (⟨"TownLampsModel", "worksOut", "(I)I"⟩, 44), (⟨"TownLampsModel", "isJoint", "(I)Z"⟩, 44), (⟨"TownLampsModel", "isLamp", "(I)Z"⟩, 44), (⟨"TownLampsModel", "burns", "(I)Z"⟩, 44), (⟨"TownLampsModel", "lifeOf", "(I)I"⟩, 44), (⟨"TownLampsModel", "brokenAt", "(II)I"⟩, 44), (⟨"TownLampsModel", "anHour", "()V"⟩, 44), (⟨"TownLampsModel", "lightOf", "(I)I"⟩, 44), (⟨"TownLampsModel", "go", "()V"⟩, 44), (⟨"TownLampsModel", "isLetter", "(I)Z"⟩, 44), (⟨"TownLampsModel", "isFigure", "(I)Z"⟩, 44), (⟨"TownLampsModel", "takesKey", "()Z"⟩, 44), (⟨"TownLampsModel", "takesE", "()Z"⟩, 44)]
theorem lw_r3 : ∀ q ∈ lw_privs_3, lw_okq q := List.forall_mem_cons.mpr ⟨lw_p32, List.forall_mem_cons.mpr ⟨lw_p33, List.forall_mem_cons.mpr ⟨lw_p34, List.forall_mem_cons.mpr ⟨lw_p35, List.forall_mem_cons.mpr ⟨lw_p36, List.forall_mem_cons.mpr ⟨lw_p37, List.forall_mem_cons.mpr ⟨lw_p38, List.forall_mem_cons.mpr ⟨lw_p39, List.forall_mem_cons.mpr ⟨lw_p40, List.forall_mem_cons.mpr ⟨lw_p41, List.forall_mem_cons.mpr ⟨lw_p42, List.forall_mem_cons.mpr ⟨lw_p43, List.forall_mem_cons.mpr ⟨lw_p44, List.forall_mem_cons.mpr ⟨lw_p45, List.forall_mem_cons.mpr ⟨lw_p46, List.forall_mem_cons.mpr ⟨lw_p47, fun _ h => absurd h List.not_mem_nil⟩⟩⟩⟩⟩⟩⟩⟩⟩⟩⟩⟩⟩⟩⟩⟩
theorem lw_p48 : lw_okq (⟨"TownLampsModel", "takesPart", "()Z"⟩, 44) := ⟨⟨by decide +kernel, by decide +kernel⟩, List.mem_of_getElem? (i := 1126) (by decide +kernel), List.mem_of_getElem? (i := 1464) (by decide +kernel), List.mem_of_getElem? (i := 1465) (by decide +kernel)⟩
theorem lw_p49 : lw_okq (⟨"TownLampsModel", "nameOf", "(I)I"⟩, 44) := ⟨⟨by decide +kernel, by decide +kernel⟩, List.mem_of_getElem? (i := 1126) (by decide +kernel), List.mem_of_getElem? (i := 1468) (by decide +kernel), List.mem_of_getElem? (i := 1469) (by decide +kernel)⟩
theorem lw_p50 : lw_okq (⟨"TownLampsModel", "settle", "(I)V"⟩, 44) := ⟨⟨by decide +kernel, by decide +kernel⟩, List.mem_of_getElem? (i := 1126) (by decide +kernel), List.mem_of_getElem? (i := 1472) (by decide +kernel), List.mem_of_getElem? (i := 1473) (by decide +kernel)⟩
theorem lw_p51 : lw_okq (⟨"TownLampsModel", "notsOpen", "()I"⟩, 44) := ⟨⟨by decide +kernel, by decide +kernel⟩, List.mem_of_getElem? (i := 1126) (by decide +kernel), List.mem_of_getElem? (i := 1479) (by decide +kernel), List.mem_of_getElem? (i := 1480) (by decide +kernel)⟩
theorem lw_p52 : lw_okq (⟨"TownLampsModel", "signHere", "()I"⟩, 44) := ⟨⟨by decide +kernel, by decide +kernel⟩, List.mem_of_getElem? (i := 1126) (by decide +kernel), List.mem_of_getElem? (i := 1483) (by decide +kernel), List.mem_of_getElem? (i := 1484) (by decide +kernel)⟩
theorem lw_p53 : lw_okq (⟨"TownLampsModel", "findBlamed", "()V"⟩, 44) := ⟨⟨by decide +kernel, by decide +kernel⟩, List.mem_of_getElem? (i := 1126) (by decide +kernel), List.mem_of_getElem? (i := 1504) (by decide +kernel), List.mem_of_getElem? (i := 1505) (by decide +kernel)⟩
theorem lw_p54 : lw_okq (⟨"TownLampsModel", "findBehind", "()V"⟩, 44) := ⟨⟨by decide +kernel, by decide +kernel⟩, List.mem_of_getElem? (i := 1126) (by decide +kernel), List.mem_of_getElem? (i := 1508) (by decide +kernel), List.mem_of_getElem? (i := 1509) (by decide +kernel)⟩
theorem lw_p55 : lw_okq (⟨"TownLampsModel", "sumsTo", "(II)Z"⟩, 44) := ⟨⟨by decide +kernel, by decide +kernel⟩, List.mem_of_getElem? (i := 1126) (by decide +kernel), List.mem_of_getElem? (i := 1532) (by decide +kernel), List.mem_of_getElem? (i := 1533) (by decide +kernel)⟩
theorem lw_p56 : lw_okq (⟨"TownLampsModel", "wayOfRow", "(I)I"⟩, 44) := ⟨⟨by decide +kernel, by decide +kernel⟩, List.mem_of_getElem? (i := 1126) (by decide +kernel), List.mem_of_getElem? (i := 1548) (by decide +kernel), List.mem_of_getElem? (i := 1549) (by decide +kernel)⟩
theorem lw_p57 : lw_okq (⟨"TownLampsModel", "goesUp", "()Z"⟩, 44) := ⟨⟨by decide +kernel, by decide +kernel⟩, List.mem_of_getElem? (i := 1126) (by decide +kernel), List.mem_of_getElem? (i := 1555) (by decide +kernel), List.mem_of_getElem? (i := 1556) (by decide +kernel)⟩
theorem lw_p58 : lw_okq (⟨"TownLampsModel", "outMany", "()I"⟩, 44) := ⟨⟨by decide +kernel, by decide +kernel⟩, List.mem_of_getElem? (i := 1126) (by decide +kernel), List.mem_of_getElem? (i := 1618) (by decide +kernel), List.mem_of_getElem? (i := 1619) (by decide +kernel)⟩
theorem lw_p59 : lw_okq (⟨"TownLampsModel", "brokenMany", "()I"⟩, 44) := ⟨⟨by decide +kernel, by decide +kernel⟩, List.mem_of_getElem? (i := 1126) (by decide +kernel), List.mem_of_getElem? (i := 1634) (by decide +kernel), List.mem_of_getElem? (i := 1635) (by decide +kernel)⟩
theorem lw_p60 : lw_okq (⟨"TownLampsModel", "darkMany", "()I"⟩, 44) := ⟨⟨by decide +kernel, by decide +kernel⟩, List.mem_of_getElem? (i := 1126) (by decide +kernel), List.mem_of_getElem? (i := 1638) (by decide +kernel), List.mem_of_getElem? (i := 1639) (by decide +kernel)⟩
def lw_privs_4 : List (MethodName × Nat) := [(⟨"TownLampsModel", "takesPart", "()Z"⟩, 44), (⟨"TownLampsModel", "nameOf", "(I)I"⟩, 44), (⟨"TownLampsModel", "settle", "(I)V"⟩, 44), (⟨"TownLampsModel", "notsOpen", "()I"⟩, 44), (⟨"TownLampsModel", "signHere", "()I"⟩, 44), (⟨"TownLampsModel", "findBlamed", "()V"⟩, 44), (⟨"TownLampsModel", "findBehind", "()V"⟩, 44), (⟨"TownLampsModel", "sumsTo", "(II)Z"⟩, 44), (⟨"TownLampsModel", "wayOfRow", "(I)I"⟩, 44), (⟨"TownLampsModel", "goesUp", "()Z"⟩, 44), (⟨"TownLampsModel", "outMany", "()I"⟩, 44), (⟨"TownLampsModel", "brokenMany", "()I"⟩, 44), (⟨"TownLampsModel", "darkMany", "()I"⟩, 44)]
theorem lw_r4 : ∀ q ∈ lw_privs_4, lw_okq q := List.forall_mem_cons.mpr ⟨lw_p48, List.forall_mem_cons.mpr ⟨lw_p49, List.forall_mem_cons.mpr ⟨lw_p50, List.forall_mem_cons.mpr ⟨lw_p51, List.forall_mem_cons.mpr ⟨lw_p52, List.forall_mem_cons.mpr ⟨lw_p53, List.forall_mem_cons.mpr ⟨lw_p54, List.forall_mem_cons.mpr ⟨lw_p55, List.forall_mem_cons.mpr ⟨lw_p56, List.forall_mem_cons.mpr ⟨lw_p57, List.forall_mem_cons.mpr ⟨lw_p58, List.forall_mem_cons.mpr ⟨lw_p59, List.forall_mem_cons.mpr ⟨lw_p60, fun _ h => absurd h List.not_mem_nil⟩⟩⟩⟩⟩⟩⟩⟩⟩⟩⟩⟩⟩
def lw_privs : List (MethodName × Nat) := lw_privs_1 ++ (lw_privs_2 ++ (lw_privs_3 ++ (lw_privs_4)))
def lw_tbl : List Cond := k2_sels lw_privs ++ tables_1
theorem lw_privs_ok : ∀ q ∈ lw_privs, lw_okq q := by
  show ∀ q ∈ lw_privs_1 ++ (lw_privs_2 ++ (lw_privs_3 ++ (lw_privs_4))), lw_okq q
  exact List.forall_mem_append.mpr ⟨lw_r1, List.forall_mem_append.mpr ⟨lw_r2, List.forall_mem_append.mpr ⟨lw_r3, lw_r4⟩⟩⟩
end
section
def RX0 : String := "TownLamps$Book"
def TX0 : u_T := fun k => match k with
  | 0 => ("TownLamps$Book", "texts", "[LTownLamps$Text;", true)
  | 1 => ("TownLamps$Book", "names", "[I", true)
  | _ => ("TownLamps$Book", "stack", "[I", true)
def tyX0 : Nat → FieldType := fun k => match k with
  | 0 => .array (.object "TownLamps$Text")
  | 1 => .array .int
  | _ => .array .int
theorem nmX0 : ∀ a, a < 3 → ∀ b, b < 3 → a ≠ b → (TX0 a).2.1 ≠ (TX0 b).2.1 := by decide +kernel
theorem tyX0_ok : ∀ k, k < 3 → parseFieldDescriptor (TX0 k).2.2.1 = some (tyX0 k) := by decide +kernel
def RX1 : String := "TownLamps$Cabinet"
def TX1 : u_T := fun k => match k with
  | 0 => ("TownLamps$Cabinet", "place", "I", false)
  | 1 => ("TownLamps$Cabinet", "on", "I", false)
  | 2 => ("TownLamps$Cabinet", "off", "I", false)
  | 3 => ("TownLamps$Cabinet", "shift", "I", false)
  | 4 => ("TownLamps$Cabinet", "broken", "Z", false)
  | _ => ("TownLamps$Cabinet", "paid", "I", false)
def tyX1 : Nat → FieldType := fun k => match k with
  | 0 => .int
  | 1 => .int
  | 2 => .int
  | 3 => .int
  | 4 => .boolean
  | _ => .int
theorem nmX1 : ∀ a, a < 6 → ∀ b, b < 6 → a ≠ b → (TX1 a).2.1 ≠ (TX1 b).2.1 := by decide +kernel
theorem tyX1_ok : ∀ k, k < 6 → parseFieldDescriptor (TX1 k).2.2.1 = some (tyX1 k) := by decide +kernel
def RX2 : String := "TownLamps$Faults"
def TX2 : u_T := fun k => match k with
  | 0 => ("TownLamps$Faults", "behindCabinet", "[I", true)
  | 1 => ("TownLamps$Faults", "darkBehindCabinet", "[I", true)
  | 2 => ("TownLamps$Faults", "behindJoint", "[I", true)
  | 3 => ("TownLamps$Faults", "darkBehindJoint", "[I", true)
  | 4 => ("TownLamps$Faults", "cabinetBlamed", "[Z", true)
  | 5 => ("TownLamps$Faults", "jointBlamed", "[Z", true)
  | 6 => ("TownLamps$Faults", "jointExplained", "[Z", true)
  | 7 => ("TownLamps$Faults", "lampBlamed", "[Z", true)
  | _ => ("TownLamps$Faults", "found", "I", false)
def tyX2 : Nat → FieldType := fun k => match k with
  | 0 => .array .int
  | 1 => .array .int
  | 2 => .array .int
  | 3 => .array .int
  | 4 => .array .boolean
  | 5 => .array .boolean
  | 6 => .array .boolean
  | 7 => .array .boolean
  | _ => .int
theorem nmX2 : ∀ a, a < 9 → ∀ b, b < 9 → a ≠ b → (TX2 a).2.1 ≠ (TX2 b).2.1 := by decide +kernel
theorem tyX2_ok : ∀ k, k < 9 → parseFieldDescriptor (TX2 k).2.2.1 = some (tyX2 k) := by decide +kernel
def RX3 : String := "TownLamps$Joint"
def TX3 : u_T := fun k => match k with
  | 0 => ("TownLamps$Joint", "feed", "I", false)
  | 1 => ("TownLamps$Joint", "place", "I", false)
  | 2 => ("TownLamps$Joint", "cabinet", "I", false)
  | _ => ("TownLamps$Joint", "broken", "Z", false)
def tyX3 : Nat → FieldType := fun k => match k with
  | 0 => .int
  | 1 => .int
  | 2 => .int
  | _ => .boolean
theorem nmX3 : ∀ a, a < 4 → ∀ b, b < 4 → a ≠ b → (TX3 a).2.1 ≠ (TX3 b).2.1 := by decide +kernel
theorem tyX3_ok : ∀ k, k < 4 → parseFieldDescriptor (TX3 k).2.2.1 = some (tyX3 k) := by decide +kernel
def RX4 : String := "TownLamps$Lamp"
def TX4 : u_T := fun k => match k with
  | 0 => ("TownLamps$Lamp", "kind", "I", false)
  | 1 => ("TownLamps$Lamp", "joint", "I", false)
  | 2 => ("TownLamps$Lamp", "draw", "I", false)
  | 3 => ("TownLamps$Lamp", "ofClass", "I", false)
  | 4 => ("TownLamps$Lamp", "burnt", "I", false)
  | 5 => ("TownLamps$Lamp", "out", "Z", false)
  | _ => ("TownLamps$Lamp", "toldDark", "Z", false)
def tyX4 : Nat → FieldType := fun k => match k with
  | 0 => .int
  | 1 => .int
  | 2 => .int
  | 3 => .int
  | 4 => .int
  | 5 => .boolean
  | _ => .boolean
theorem nmX4 : ∀ a, a < 7 → ∀ b, b < 7 → a ≠ b → (TX4 a).2.1 ≠ (TX4 b).2.1 := by decide +kernel
theorem tyX4_ok : ∀ k, k < 7 → parseFieldDescriptor (TX4 k).2.2.1 = some (tyX4 k) := by decide +kernel
def RX5 : String := "TownLamps$Reader"
def TX5 : u_T := fun k => match k with
  | 0 => ("TownLamps$Reader", "tape", "[I", true)
  | 1 => ("TownLamps$Reader", "tapeSize", "I", false)
  | 2 => ("TownLamps$Reader", "draft", "LTownLamps$Text;", true)
  | 3 => ("TownLamps$Reader", "form", "I", false)
  | 4 => ("TownLamps$Reader", "start", "I", false)
  | 5 => ("TownLamps$Reader", "next", "I", false)
  | _ => ("TownLamps$Reader", "glued", "Z", false)
def tyX5 : Nat → FieldType := fun k => match k with
  | 0 => .array .int
  | 1 => .int
  | 2 => .object "TownLamps$Text"
  | 3 => .int
  | 4 => .int
  | 5 => .int
  | _ => .boolean
theorem nmX5 : ∀ a, a < 7 → ∀ b, b < 7 → a ≠ b → (TX5 a).2.1 ≠ (TX5 b).2.1 := by decide +kernel
theorem tyX5_ok : ∀ k, k < 7 → parseFieldDescriptor (TX5 k).2.2.1 = some (tyX5 k) := by decide +kernel
def RX6 : String := "TownLamps$Sheet"
def TX6 : u_T := fun k => match k with
  | 0 => ("TownLamps$Sheet", "sort", "I", false)
  | 1 => ("TownLamps$Sheet", "size", "I", false)
  | _ => ("TownLamps$Sheet", "values", "[I", true)
def tyX6 : Nat → FieldType := fun k => match k with
  | 0 => .int
  | 1 => .int
  | _ => .array .int
theorem nmX6 : ∀ a, a < 3 → ∀ b, b < 3 → a ≠ b → (TX6 a).2.1 ≠ (TX6 b).2.1 := by decide +kernel
theorem tyX6_ok : ∀ k, k < 3 → parseFieldDescriptor (TX6 k).2.2.1 = some (tyX6 k) := by decide +kernel
def RX7 : String := "TownLamps$Slot"
def TX7 : u_T := fun k => match k with
  | 0 => ("TownLamps$Slot", "thing", "I", false)
  | 1 => ("TownLamps$Slot", "lampKind", "I", false)
  | 2 => ("TownLamps$Slot", "number", "I", false)
  | _ => ("TownLamps$Slot", "row", "LTownLamps$Sheet;", true)
def tyX7 : Nat → FieldType := fun k => match k with
  | 0 => .int
  | 1 => .int
  | 2 => .int
  | _ => .object "TownLamps$Sheet"
theorem nmX7 : ∀ a, a < 4 → ∀ b, b < 4 → a ≠ b → (TX7 a).2.1 ≠ (TX7 b).2.1 := by decide +kernel
theorem tyX7_ok : ∀ k, k < 4 → parseFieldDescriptor (TX7 k).2.2.1 = some (tyX7 k) := by decide +kernel
def RX8 : String := "TownLamps$Text"
def TX8 : u_T := fun k => match k with
  | 0 => ("TownLamps$Text", "key", "I", false)
  | 1 => ("TownLamps$Text", "atoms", "I", false)
  | 2 => ("TownLamps$Text", "size", "I", false)
  | _ => ("TownLamps$Text", "code", "[I", true)
def tyX8 : Nat → FieldType := fun k => match k with
  | 0 => .int
  | 1 => .int
  | 2 => .int
  | _ => .array .int
theorem nmX8 : ∀ a, a < 4 → ∀ b, b < 4 → a ≠ b → (TX8 a).2.1 ≠ (TX8 b).2.1 := by decide +kernel
theorem tyX8_ok : ∀ k, k < 4 → parseFieldDescriptor (TX8 k).2.2.1 = some (tyX8 k) := by decide +kernel
def RX9 : String := "TownLamps$Town"
def TX9 : u_T := fun k => match k with
  | 0 => ("TownLamps$Town", "book", "LTownLamps$Book;", true)
  | 1 => ("TownLamps$Town", "cabinets", "[LTownLamps$Cabinet;", true)
  | 2 => ("TownLamps$Town", "cabinetCount", "I", false)
  | 3 => ("TownLamps$Town", "joints", "[LTownLamps$Joint;", true)
  | 4 => ("TownLamps$Town", "jointCount", "I", false)
  | 5 => ("TownLamps$Town", "lamps", "[LTownLamps$Lamp;", true)
  | 6 => ("TownLamps$Town", "lampCount", "I", false)
  | 7 => ("TownLamps$Town", "hour", "I", false)
  | 8 => ("TownLamps$Town", "day", "I", false)
  | 9 => ("TownLamps$Town", "feastEvery", "I", false)
  | 10 => ("TownLamps$Town", "chosen", "[I", true)
  | 11 => ("TownLamps$Town", "chosenCount", "I", false)
  | 12 => ("TownLamps$Town", "stops", "[I", true)
  | 13 => ("TownLamps$Town", "stopCount", "I", false)
  | 14 => ("TownLamps$Town", "textCount", "I", false)
  | _ => ("TownLamps$Town", "textOfKey", "[I", true)
def tyX9 : Nat → FieldType := fun k => match k with
  | 0 => .object "TownLamps$Book"
  | 1 => .array (.object "TownLamps$Cabinet")
  | 2 => .int
  | 3 => .array (.object "TownLamps$Joint")
  | 4 => .int
  | 5 => .array (.object "TownLamps$Lamp")
  | 6 => .int
  | 7 => .int
  | 8 => .int
  | 9 => .int
  | 10 => .array .int
  | 11 => .int
  | 12 => .array .int
  | 13 => .int
  | 14 => .int
  | _ => .array .int
theorem nmX9 : ∀ a, a < 16 → ∀ b, b < 16 → a ≠ b → (TX9 a).2.1 ≠ (TX9 b).2.1 := by decide +kernel
theorem tyX9_ok : ∀ k, k < 16 → parseFieldDescriptor (TX9 k).2.2.1 = some (tyX9 k) := by decide +kernel
def RX10 : String := "TownLamps$Walk"
def TX10 : u_T := fun k => match k with
  | 0 => ("TownLamps$Walk", "stopPlaces", "[I", true)
  | 1 => ("TownLamps$Walk", "order", "[I", true)
  | 2 => ("TownLamps$Walk", "best", "[I", true)
  | 3 => ("TownLamps$Walk", "bestLength", "I", false)
  | 4 => ("TownLamps$Walk", "stopCount", "I", false)
  | _ => ("TownLamps$Walk", "homePlace", "I", false)
def tyX10 : Nat → FieldType := fun k => match k with
  | 0 => .array .int
  | 1 => .array .int
  | 2 => .array .int
  | 3 => .int
  | 4 => .int
  | _ => .int
theorem nmX10 : ∀ a, a < 6 → ∀ b, b < 6 → a ≠ b → (TX10 a).2.1 ≠ (TX10 b).2.1 := by decide +kernel
theorem tyX10_ok : ∀ k, k < 6 → parseFieldDescriptor (TX10 k).2.2.1 = some (tyX10 k) := by decide +kernel
def RX11 : String := "TownLamps"
def TX11 : u_T := fun k => match k with
  | 0 => ("TownLamps", "book", "LTownLamps$Book;", true)
  | 1 => ("TownLamps", "reader", "LTownLamps$Reader;", true)
  | 2 => ("TownLamps", "now", "LTownLamps$Town;", true)
  | 3 => ("TownLamps", "image", "LTownLamps$Town;", true)
  | 4 => ("TownLamps", "trial", "LTownLamps$Town;", true)
  | 5 => ("TownLamps", "hasImage", "Z", false)
  | 6 => ("TownLamps", "faults", "LTownLamps$Faults;", true)
  | 7 => ("TownLamps", "walk", "LTownLamps$Walk;", true)
  | 8 => ("TownLamps", "sheets", "[LTownLamps$Sheet;", true)
  | 9 => ("TownLamps", "slots", "[LTownLamps$Slot;", true)
  | 10 => ("TownLamps", "waiting", "[I", true)
  | 11 => ("TownLamps", "waitingCount", "I", false)
  | 12 => ("TownLamps", "chosenDraws", "[I", true)
  | _ => ("TownLamps", "lives", "[I", true)
def tyX11 : Nat → FieldType := fun k => match k with
  | 0 => .object "TownLamps$Book"
  | 1 => .object "TownLamps$Reader"
  | 2 => .object "TownLamps$Town"
  | 3 => .object "TownLamps$Town"
  | 4 => .object "TownLamps$Town"
  | 5 => .boolean
  | 6 => .object "TownLamps$Faults"
  | 7 => .object "TownLamps$Walk"
  | 8 => .array (.object "TownLamps$Sheet")
  | 9 => .array (.object "TownLamps$Slot")
  | 10 => .array .int
  | 11 => .int
  | 12 => .array .int
  | _ => .array .int
theorem nmX11 : ∀ a, a < 14 → ∀ b, b < 14 → a ≠ b → (TX11 a).2.1 ≠ (TX11 b).2.1 := by decide +kernel
theorem tyX11_ok : ∀ k, k < 14 → parseFieldDescriptor (TX11 k).2.2.1 = some (tyX11 k) := by decide +kernel
def RX12 : String := "TownLampsModel"
def TX12 : u_T := fun k => match k with
  | 0 => ("TownLampsModel", "now", "[I", true)
  | 1 => ("TownLampsModel", "image", "[I", true)
  | 2 => ("TownLampsModel", "aside", "[I", true)
  | 3 => ("TownLampsModel", "hasImage", "Z", false)
  | 4 => ("TownLampsModel", "burned", "[Z", true)
  | 5 => ("TownLampsModel", "tape", "[I", true)
  | 6 => ("TownLampsModel", "taped", "I", false)
  | 7 => ("TownLampsModel", "next", "I", false)
  | 8 => ("TownLampsModel", "from", "I", false)
  | 9 => ("TownLampsModel", "token", "I", false)
  | 10 => ("TownLampsModel", "value", "I", false)
  | 11 => ("TownLampsModel", "ended", "I", false)
  | 12 => ("TownLampsModel", "key", "I", false)
  | 13 => ("TownLampsModel", "keys", "[C", true)
  | 14 => ("TownLampsModel", "keyAt", "[I", true)
  | 15 => ("TownLampsModel", "code", "[I", true)
  | 16 => ("TownLampsModel", "codes", "I", false)
  | 17 => ("TownLampsModel", "atoms", "I", false)
  | 18 => ("TownLampsModel", "waits", "[I", true)
  | 19 => ("TownLampsModel", "held", "I", false)
  | 20 => ("TownLampsModel", "tested", "[Z", true)
  | 21 => ("TownLampsModel", "stack", "[I", true)
  | 22 => ("TownLampsModel", "facts", "[I", true)
  | 23 => ("TownLampsModel", "behind", "[I", true)
  | 24 => ("TownLampsModel", "bright", "[I", true)
  | 25 => ("TownLampsModel", "behindCab", "[I", true)
  | 26 => ("TownLampsModel", "brightCab", "[I", true)
  | 27 => ("TownLampsModel", "blamedCab", "[Z", true)
  | 28 => ("TownLampsModel", "blamedJoint", "[Z", true)
  | 29 => ("TownLampsModel", "blamedLamp", "[Z", true)
  | 30 => ("TownLampsModel", "covered", "[Z", true)
  | 31 => ("TownLampsModel", "each", "[I", true)
  | 32 => ("TownLampsModel", "row", "[I", true)
  | 33 => ("TownLampsModel", "bestRow", "[I", true)
  | 34 => ("TownLampsModel", "bestWay", "I", false)
  | 35 => ("TownLampsModel", "sorts", "[I", true)
  | 36 => ("TownLampsModel", "sizes", "[I", true)
  | 37 => ("TownLampsModel", "cells", "[I", true)
  | 38 => ("TownLampsModel", "holds", "[I", true)
  | 39 => ("TownLampsModel", "holdsA", "[I", true)
  | 40 => ("TownLampsModel", "heldCells", "[I", true)
  | 41 => ("TownLampsModel", "moved", "[I", true)
  | 42 => ("TownLampsModel", "tells", "[I", true)
  | _ => ("TownLampsModel", "waiting", "I", false)
def tyX12 : Nat → FieldType := fun k => match k with
  | 0 => .array .int
  | 1 => .array .int
  | 2 => .array .int
  | 3 => .boolean
  | 4 => .array .boolean
  | 5 => .array .int
  | 6 => .int
  | 7 => .int
  | 8 => .int
  | 9 => .int
  | 10 => .int
  | 11 => .int
  | 12 => .int
  | 13 => .array .char
  | 14 => .array .int
  | 15 => .array .int
  | 16 => .int
  | 17 => .int
  | 18 => .array .int
  | 19 => .int
  | 20 => .array .boolean
  | 21 => .array .int
  | 22 => .array .int
  | 23 => .array .int
  | 24 => .array .int
  | 25 => .array .int
  | 26 => .array .int
  | 27 => .array .boolean
  | 28 => .array .boolean
  | 29 => .array .boolean
  | 30 => .array .boolean
  | 31 => .array .int
  | 32 => .array .int
  | 33 => .array .int
  | 34 => .int
  | 35 => .array .int
  | 36 => .array .int
  | 37 => .array .int
  | 38 => .array .int
  | 39 => .array .int
  | 40 => .array .int
  | 41 => .array .int
  | 42 => .array .int
  | _ => .int
theorem nmX12 : ∀ a, a < 44 → ∀ b, b < 44 → a ≠ b → (TX12 a).2.1 ≠ (TX12 b).2.1 := by decide +kernel
theorem tyX12_ok : ∀ k, k < 44 → parseFieldDescriptor (TX12 k).2.2.1 = some (tyX12 k) := by decide +kernel
def RJ0 : String := "java/lang/String"
def RJ1 : String := "java/lang/StringLatin1"
def RJ3 : String := "jdk/internal/util/Preconditions"
def RJ6 : String := "java/lang/Integer"
def RJ9 : String := "java/lang/Math"
def RL : String := "TownLampsLaw"
abbrev vwCl : List vw_C := [(RX0, TX0, 3), (RX1, TX1, 6), (RX2, TX2, 9), (RX3, TX3, 4), (RX4, TX4, 7), (RX5, TX5, 7), (RX6, TX6, 3), (RX7, TX7, 4), (RX8, TX8, 4), (RX9, TX9, 16), (RX10, TX10, 6), (RX11, TX11, 14), (RX12, TX12, 44)]
def am_tb : List Cond := lw_tbl.filter goodWord
theorem am_tb_at {w : Cond} (i : Nat) (h : lw_tbl[i]? = some w) (g : goodWord w = true) : w ∈ am_tb := List.mem_filter.mpr ⟨List.mem_of_getElem? h, g⟩
theorem am_tb_in {ws : List Cond} (ps : List Nat) (h : ws = ps.filterMap (fun i => lw_tbl[i]?)) (g : ws.all goodWord = true) : ∀ w ∈ ws, w ∈ am_tb := by
  intro w hw
  have h1 := List.all_eq_true.mp g w hw
  rw [h] at hw
  obtain ⟨i, -, hi⟩ := List.mem_filterMap.mp hw
  exact am_tb_at i hi h1
def am_FT : List (List Nat) := [[2, 2, 2], [0, 0, 0, 0, 1, 0], [2, 2, 2, 2, 2, 2, 2, 2, 0], [0, 0, 0, 1], [0, 0, 0, 0, 0, 1, 1], [2, 0, 2, 0, 0, 0, 1], [0, 0, 2], [0, 0, 0, 2], [0, 0, 0, 2], [2, 2, 0, 2, 0, 2, 0, 0, 0, 0, 2, 0, 2, 0, 0, 2], [2, 2, 2, 0, 0, 0], [2, 2, 2, 2, 2, 1, 2, 2, 2, 2, 2, 0, 2, 2], [2, 2, 2, 1, 2, 2, 0, 0, 0, 0, 0, 0, 0, 2, 2, 2, 0, 0, 2, 0, 2, 2, 2, 2, 2, 2, 2, 2, 2, 2, 2, 2, 2, 2, 0, 2, 2, 2, 2, 2, 2, 2, 2, 0], [2, 0]]
def am_ft (c k : Nat) : Nat := (am_FT.getD c []).getD k 9
def am_NS : List Nat := [3, 6, 9, 4, 7, 7, 3, 4, 4, 16, 6, 14, 44]
def am_tyf (c : Nat) : Nat → FieldType := match c with
  | 0 => tyX0
  | 1 => tyX1
  | 2 => tyX2
  | 3 => tyX3
  | 4 => tyX4
  | 5 => tyX5
  | 6 => tyX6
  | 7 => tyX7
  | 8 => tyX8
  | 9 => tyX9
  | 10 => tyX10
  | 11 => tyX11
  | _ => tyX12
theorem am_inX0 : ∀ w ∈ u_ws RX0 TX0 3, w ∈ am_tb := am_tb_in [127, 129, 131] (by decide +kernel) (by decide +kernel)
theorem am_fX0 : ∀ k, k < 3 → (am_ft 0 k = 0 → tyX0 k = .int) ∧ (am_ft 0 k = 1 → tyX0 k = .boolean) ∧ (am_ft 0 k = 2 → defaultValue (tyX0 k) = .null ∧ ∀ q : Nat, narrow (tyX0 k) (.ref q) = .ref q ∧ fits (tyX0 k) (.ref q) = true) ∧ (TX0 k).1 = RX0 ∧ am_ft 0 k < 3 := by
  intro k hk
  refine ⟨?_, ?_, ?_, ?_, ?_⟩
  · revert k; decide +kernel
  · revert k; decide +kernel
  · intro h2
    have h3 : (match tyX0 k with | .object _ => true | .array _ => true | _ => false) = true := by revert k; decide +kernel
    cases ht : tyX0 k <;> rw [ht] at h3 <;> first | exact ⟨rfl, fun q => ⟨rfl, rfl⟩⟩ | cases h3
  · revert k; decide +kernel
  · revert k; decide +kernel
theorem am_inX1 : ∀ w ∈ u_ws RX1 TX1 6, w ∈ am_tb := am_tb_in [199, 201, 203, 205, 207, 209] (by decide +kernel) (by decide +kernel)
theorem am_fX1 : ∀ k, k < 6 → (am_ft 1 k = 0 → tyX1 k = .int) ∧ (am_ft 1 k = 1 → tyX1 k = .boolean) ∧ (am_ft 1 k = 2 → defaultValue (tyX1 k) = .null ∧ ∀ q : Nat, narrow (tyX1 k) (.ref q) = .ref q ∧ fits (tyX1 k) (.ref q) = true) ∧ (TX1 k).1 = RX1 ∧ am_ft 1 k < 3 := by
  intro k hk
  refine ⟨?_, ?_, ?_, ?_, ?_⟩
  · revert k; decide +kernel
  · revert k; decide +kernel
  · intro h2
    have h3 : (match tyX1 k with | .object _ => true | .array _ => true | _ => false) = true := by revert k; decide +kernel
    cases ht : tyX1 k <;> rw [ht] at h3 <;> first | exact ⟨rfl, fun q => ⟨rfl, rfl⟩⟩ | cases h3
  · revert k; decide +kernel
  · revert k; decide +kernel
theorem am_inX2 : ∀ w ∈ u_ws RX2 TX2 9, w ∈ am_tb := am_tb_in [374, 376, 378, 380, 382, 384, 386, 388, 390] (by decide +kernel) (by decide +kernel)
theorem am_fX2 : ∀ k, k < 9 → (am_ft 2 k = 0 → tyX2 k = .int) ∧ (am_ft 2 k = 1 → tyX2 k = .boolean) ∧ (am_ft 2 k = 2 → defaultValue (tyX2 k) = .null ∧ ∀ q : Nat, narrow (tyX2 k) (.ref q) = .ref q ∧ fits (tyX2 k) (.ref q) = true) ∧ (TX2 k).1 = RX2 ∧ am_ft 2 k < 3 := by
  intro k hk
  refine ⟨?_, ?_, ?_, ?_, ?_⟩
  · revert k; decide +kernel
  · revert k; decide +kernel
  · intro h2
    have h3 : (match tyX2 k with | .object _ => true | .array _ => true | _ => false) = true := by revert k; decide +kernel
    cases ht : tyX2 k <;> rw [ht] at h3 <;> first | exact ⟨rfl, fun q => ⟨rfl, rfl⟩⟩ | cases h3
  · revert k; decide +kernel
  · revert k; decide +kernel
theorem am_inX3 : ∀ w ∈ u_ws RX3 TX3 4, w ∈ am_tb := am_tb_in [230, 232, 234, 236] (by decide +kernel) (by decide +kernel)
theorem am_fX3 : ∀ k, k < 4 → (am_ft 3 k = 0 → tyX3 k = .int) ∧ (am_ft 3 k = 1 → tyX3 k = .boolean) ∧ (am_ft 3 k = 2 → defaultValue (tyX3 k) = .null ∧ ∀ q : Nat, narrow (tyX3 k) (.ref q) = .ref q ∧ fits (tyX3 k) (.ref q) = true) ∧ (TX3 k).1 = RX3 ∧ am_ft 3 k < 3 := by
  intro k hk
  refine ⟨?_, ?_, ?_, ?_, ?_⟩
  · revert k; decide +kernel
  · revert k; decide +kernel
  · intro h2
    have h3 : (match tyX3 k with | .object _ => true | .array _ => true | _ => false) = true := by revert k; decide +kernel
    cases ht : tyX3 k <;> rw [ht] at h3 <;> first | exact ⟨rfl, fun q => ⟨rfl, rfl⟩⟩ | cases h3
  · revert k; decide +kernel
  · revert k; decide +kernel
theorem am_inX4 : ∀ w ∈ u_ws RX4 TX4 7, w ∈ am_tb := am_tb_in [267, 269, 271, 273, 275, 277, 279] (by decide +kernel) (by decide +kernel)
theorem am_fX4 : ∀ k, k < 7 → (am_ft 4 k = 0 → tyX4 k = .int) ∧ (am_ft 4 k = 1 → tyX4 k = .boolean) ∧ (am_ft 4 k = 2 → defaultValue (tyX4 k) = .null ∧ ∀ q : Nat, narrow (tyX4 k) (.ref q) = .ref q ∧ fits (tyX4 k) (.ref q) = true) ∧ (TX4 k).1 = RX4 ∧ am_ft 4 k < 3 := by
  intro k hk
  refine ⟨?_, ?_, ?_, ?_, ?_⟩
  · revert k; decide +kernel
  · revert k; decide +kernel
  · intro h2
    have h3 : (match tyX4 k with | .object _ => true | .array _ => true | _ => false) = true := by revert k; decide +kernel
    cases ht : tyX4 k <;> rw [ht] at h3 <;> first | exact ⟨rfl, fun q => ⟨rfl, rfl⟩⟩ | cases h3
  · revert k; decide +kernel
  · revert k; decide +kernel
theorem am_inX5 : ∀ w ∈ u_ws RX5 TX5 7, w ∈ am_tb := am_tb_in [151, 153, 155, 157, 159, 161, 163] (by decide +kernel) (by decide +kernel)
theorem am_fX5 : ∀ k, k < 7 → (am_ft 5 k = 0 → tyX5 k = .int) ∧ (am_ft 5 k = 1 → tyX5 k = .boolean) ∧ (am_ft 5 k = 2 → defaultValue (tyX5 k) = .null ∧ ∀ q : Nat, narrow (tyX5 k) (.ref q) = .ref q ∧ fits (tyX5 k) (.ref q) = true) ∧ (TX5 k).1 = RX5 ∧ am_ft 5 k < 3 := by
  intro k hk
  refine ⟨?_, ?_, ?_, ?_, ?_⟩
  · revert k; decide +kernel
  · revert k; decide +kernel
  · intro h2
    have h3 : (match tyX5 k with | .object _ => true | .array _ => true | _ => false) = true := by revert k; decide +kernel
    cases ht : tyX5 k <;> rw [ht] at h3 <;> first | exact ⟨rfl, fun q => ⟨rfl, rfl⟩⟩ | cases h3
  · revert k; decide +kernel
  · revert k; decide +kernel
theorem am_inX6 : ∀ w ∈ u_ws RX6 TX6 3, w ∈ am_tb := am_tb_in [436, 438, 440] (by decide +kernel) (by decide +kernel)
theorem am_fX6 : ∀ k, k < 3 → (am_ft 6 k = 0 → tyX6 k = .int) ∧ (am_ft 6 k = 1 → tyX6 k = .boolean) ∧ (am_ft 6 k = 2 → defaultValue (tyX6 k) = .null ∧ ∀ q : Nat, narrow (tyX6 k) (.ref q) = .ref q ∧ fits (tyX6 k) (.ref q) = true) ∧ (TX6 k).1 = RX6 ∧ am_ft 6 k < 3 := by
  intro k hk
  refine ⟨?_, ?_, ?_, ?_, ?_⟩
  · revert k; decide +kernel
  · revert k; decide +kernel
  · intro h2
    have h3 : (match tyX6 k with | .object _ => true | .array _ => true | _ => false) = true := by revert k; decide +kernel
    cases ht : tyX6 k <;> rw [ht] at h3 <;> first | exact ⟨rfl, fun q => ⟨rfl, rfl⟩⟩ | cases h3
  · revert k; decide +kernel
  · revert k; decide +kernel
theorem am_inX7 : ∀ w ∈ u_ws RX7 TX7 4, w ∈ am_tb := am_tb_in [458, 460, 462, 464] (by decide +kernel) (by decide +kernel)
theorem am_fX7 : ∀ k, k < 4 → (am_ft 7 k = 0 → tyX7 k = .int) ∧ (am_ft 7 k = 1 → tyX7 k = .boolean) ∧ (am_ft 7 k = 2 → defaultValue (tyX7 k) = .null ∧ ∀ q : Nat, narrow (tyX7 k) (.ref q) = .ref q ∧ fits (tyX7 k) (.ref q) = true) ∧ (TX7 k).1 = RX7 ∧ am_ft 7 k < 3 := by
  intro k hk
  refine ⟨?_, ?_, ?_, ?_, ?_⟩
  · revert k; decide +kernel
  · revert k; decide +kernel
  · intro h2
    have h3 : (match tyX7 k with | .object _ => true | .array _ => true | _ => false) = true := by revert k; decide +kernel
    cases ht : tyX7 k <;> rw [ht] at h3 <;> first | exact ⟨rfl, fun q => ⟨rfl, rfl⟩⟩ | cases h3
  · revert k; decide +kernel
  · revert k; decide +kernel
theorem am_inX8 : ∀ w ∈ u_ws RX8 TX8 4, w ∈ am_tb := am_tb_in [113, 115, 117, 119] (by decide +kernel) (by decide +kernel)
theorem am_fX8 : ∀ k, k < 4 → (am_ft 8 k = 0 → tyX8 k = .int) ∧ (am_ft 8 k = 1 → tyX8 k = .boolean) ∧ (am_ft 8 k = 2 → defaultValue (tyX8 k) = .null ∧ ∀ q : Nat, narrow (tyX8 k) (.ref q) = .ref q ∧ fits (tyX8 k) (.ref q) = true) ∧ (TX8 k).1 = RX8 ∧ am_ft 8 k < 3 := by
  intro k hk
  refine ⟨?_, ?_, ?_, ?_, ?_⟩
  · revert k; decide +kernel
  · revert k; decide +kernel
  · intro h2
    have h3 : (match tyX8 k with | .object _ => true | .array _ => true | _ => false) = true := by revert k; decide +kernel
    cases ht : tyX8 k <;> rw [ht] at h3 <;> first | exact ⟨rfl, fun q => ⟨rfl, rfl⟩⟩ | cases h3
  · revert k; decide +kernel
  · revert k; decide +kernel
theorem am_inX9 : ∀ w ∈ u_ws RX9 TX9 16, w ∈ am_tb := am_tb_in [325, 327, 329, 331, 333, 335, 337, 339, 341, 343, 345, 347, 349, 351, 353, 355] (by decide +kernel) (by decide +kernel)
theorem am_fX9 : ∀ k, k < 16 → (am_ft 9 k = 0 → tyX9 k = .int) ∧ (am_ft 9 k = 1 → tyX9 k = .boolean) ∧ (am_ft 9 k = 2 → defaultValue (tyX9 k) = .null ∧ ∀ q : Nat, narrow (tyX9 k) (.ref q) = .ref q ∧ fits (tyX9 k) (.ref q) = true) ∧ (TX9 k).1 = RX9 ∧ am_ft 9 k < 3 := by
  intro k hk
  refine ⟨?_, ?_, ?_, ?_, ?_⟩
  · revert k; decide +kernel
  · revert k; decide +kernel
  · intro h2
    have h3 : (match tyX9 k with | .object _ => true | .array _ => true | _ => false) = true := by revert k; decide +kernel
    cases ht : tyX9 k <;> rw [ht] at h3 <;> first | exact ⟨rfl, fun q => ⟨rfl, rfl⟩⟩ | cases h3
  · revert k; decide +kernel
  · revert k; decide +kernel
theorem am_inX10 : ∀ w ∈ u_ws RX10 TX10 6, w ∈ am_tb := am_tb_in [408, 410, 412, 414, 416, 418] (by decide +kernel) (by decide +kernel)
theorem am_fX10 : ∀ k, k < 6 → (am_ft 10 k = 0 → tyX10 k = .int) ∧ (am_ft 10 k = 1 → tyX10 k = .boolean) ∧ (am_ft 10 k = 2 → defaultValue (tyX10 k) = .null ∧ ∀ q : Nat, narrow (tyX10 k) (.ref q) = .ref q ∧ fits (tyX10 k) (.ref q) = true) ∧ (TX10 k).1 = RX10 ∧ am_ft 10 k < 3 := by
  intro k hk
  refine ⟨?_, ?_, ?_, ?_, ?_⟩
  · revert k; decide +kernel
  · revert k; decide +kernel
  · intro h2
    have h3 : (match tyX10 k with | .object _ => true | .array _ => true | _ => false) = true := by revert k; decide +kernel
    cases ht : tyX10 k <;> rw [ht] at h3 <;> first | exact ⟨rfl, fun q => ⟨rfl, rfl⟩⟩ | cases h3
  · revert k; decide +kernel
  · revert k; decide +kernel
theorem am_inX11 : ∀ w ∈ u_ws RX11 TX11 14, w ∈ am_tb := am_tb_in [481, 483, 485, 487, 489, 491, 493, 495, 497, 499, 501, 503, 505, 507] (by decide +kernel) (by decide +kernel)
theorem am_fX11 : ∀ k, k < 14 → (am_ft 11 k = 0 → tyX11 k = .int) ∧ (am_ft 11 k = 1 → tyX11 k = .boolean) ∧ (am_ft 11 k = 2 → defaultValue (tyX11 k) = .null ∧ ∀ q : Nat, narrow (tyX11 k) (.ref q) = .ref q ∧ fits (tyX11 k) (.ref q) = true) ∧ (TX11 k).1 = RX11 ∧ am_ft 11 k < 3 := by
  intro k hk
  refine ⟨?_, ?_, ?_, ?_, ?_⟩
  · revert k; decide +kernel
  · revert k; decide +kernel
  · intro h2
    have h3 : (match tyX11 k with | .object _ => true | .array _ => true | _ => false) = true := by revert k; decide +kernel
    cases ht : tyX11 k <;> rw [ht] at h3 <;> first | exact ⟨rfl, fun q => ⟨rfl, rfl⟩⟩ | cases h3
  · revert k; decide +kernel
  · revert k; decide +kernel
theorem am_inX12 : ∀ w ∈ u_ws RX12 TX12 44, w ∈ am_tb := am_tb_in [1236, 1238, 1240, 1242, 1244, 1246, 1248, 1250, 1252, 1254, 1256, 1258, 1260, 1262, 1264, 1266, 1268, 1270, 1272, 1274, 1276, 1278, 1280, 1282, 1284, 1286, 1288, 1290, 1292, 1294, 1296, 1298, 1300, 1302, 1304, 1306, 1308, 1310, 1312, 1314, 1316, 1318, 1320, 1322] (by decide +kernel) (by decide +kernel)
theorem am_fX12 : ∀ k, k < 44 → (am_ft 12 k = 0 → tyX12 k = .int) ∧ (am_ft 12 k = 1 → tyX12 k = .boolean) ∧ (am_ft 12 k = 2 → defaultValue (tyX12 k) = .null ∧ ∀ q : Nat, narrow (tyX12 k) (.ref q) = .ref q ∧ fits (tyX12 k) (.ref q) = true) ∧ (TX12 k).1 = RX12 ∧ am_ft 12 k < 3 := by
  intro k hk
  refine ⟨?_, ?_, ?_, ?_, ?_⟩
  · revert k; decide +kernel
  · revert k; decide +kernel
  · intro h2
    have h3 : (match tyX12 k with | .object _ => true | .array _ => true | _ => false) = true := by revert k; decide +kernel
    cases ht : tyX12 k <;> rw [ht] at h3 <;> first | exact ⟨rfl, fun q => ⟨rfl, rfl⟩⟩ | cases h3
  · revert k; decide +kernel
  · revert k; decide +kernel
/-- what the tables say of a made class, by its number -/
theorem am_cls {c : Nat} {q : vw_C} (h : vwCl[c]? = some q) : c < 13 ∧ am_NS[c]? = some q.2.2 ∧ (∀ w ∈ u_ws q.1 q.2.1 q.2.2, w ∈ am_tb) ∧ (∀ a, a < q.2.2 → ∀ b, b < q.2.2 → a ≠ b → (q.2.1 a).2.1 ≠ (q.2.1 b).2.1) ∧ (∀ k, k < q.2.2 → parseFieldDescriptor (q.2.1 k).2.2.1 = some (am_tyf c k)) ∧ (∀ k, k < q.2.2 → (am_ft c k = 0 → am_tyf c k = .int) ∧ (am_ft c k = 1 → am_tyf c k = .boolean) ∧ (am_ft c k = 2 → defaultValue (am_tyf c k) = .null ∧ ∀ q : Nat, narrow (am_tyf c k) (.ref q) = .ref q ∧ fits (am_tyf c k) (.ref q) = true) ∧ (q.2.1 k).1 = q.1 ∧ am_ft c k < 3) := by
  match c, h with
  | 0, h => cases h; exact ⟨by decide, rfl, am_inX0, nmX0, tyX0_ok, am_fX0⟩
  | 1, h => cases h; exact ⟨by decide, rfl, am_inX1, nmX1, tyX1_ok, am_fX1⟩
  | 2, h => cases h; exact ⟨by decide, rfl, am_inX2, nmX2, tyX2_ok, am_fX2⟩
  | 3, h => cases h; exact ⟨by decide, rfl, am_inX3, nmX3, tyX3_ok, am_fX3⟩
  | 4, h => cases h; exact ⟨by decide, rfl, am_inX4, nmX4, tyX4_ok, am_fX4⟩
  | 5, h => cases h; exact ⟨by decide, rfl, am_inX5, nmX5, tyX5_ok, am_fX5⟩
  | 6, h => cases h; exact ⟨by decide, rfl, am_inX6, nmX6, tyX6_ok, am_fX6⟩
  | 7, h => cases h; exact ⟨by decide, rfl, am_inX7, nmX7, tyX7_ok, am_fX7⟩
  | 8, h => cases h; exact ⟨by decide, rfl, am_inX8, nmX8, tyX8_ok, am_fX8⟩
  | 9, h => cases h; exact ⟨by decide, rfl, am_inX9, nmX9, tyX9_ok, am_fX9⟩
  | 10, h => cases h; exact ⟨by decide, rfl, am_inX10, nmX10, tyX10_ok, am_fX10⟩
  | 11, h => cases h; exact ⟨by decide, rfl, am_inX11, nmX11, tyX11_ok, am_fX11⟩
  | 12, h => cases h; exact ⟨by decide, rfl, am_inX12, nmX12, tyX12_ok, am_fX12⟩
  | c + 13, h => simp [vwCl] at h
end
section
/-! what the printed codes are made of -/
abbrev am_C : Type := List (Nat × Instr × Nat)
/-- how many arguments (the receiver counts), the receiver's kind, how many locals -/
def am_AR : List Nat := [1, 7, 3, 1, 1, 4, 2, 2, 1, 3, 2, 2, 2, 4, 2, 2, 1, 4, 2, 1, 5, 2, 1, 2, 1, 1, 1, 2, 1, 1, 1, 2, 1, 2, 4, 3, 1, 1, 1, 3, 2, 1, 2, 3, 2, 1, 2, 1, 1, 2, 2, 2, 2, 2, 2, 2, 2, 3, 4, 2, 2, 2, 2, 2, 2, 2, 2, 1, 2, 2, 1, 2, 2, 1, 1, 1, 1, 1, 3, 5, 2, 1, 3, 3, 3, 3, 3, 4, 3, 3, 3, 2, 3, 3, 2, 2, 2, 1, 4, 2, 1, 3, 2, 3, 3, 1, 2, 1, 2, 2, 1, 3, 4, 4, 4, 3, 6, 4, 3, 3, 3, 2, 2, 1, 1, 2, 1, 1, 1, 1, 1, 1, 1, 2, 3, 2, 1, 2, 2, 2, 3, 3, 1, 3, 3, 2, 2, 2, 2, 1, 3, 3, 3, 3, 2, 2, 2, 2, 2, 2, 2, 1, 2, 3, 3, 3, 3, 3, 4, 3, 2, 3, 3, 2, 3, 3, 3, 1, 2, 2, 2, 2, 1, 4, 2, 2, 2, 1, 1, 2, 1, 2, 1, 1, 1, 1, 1, 3, 2, 2, 3, 2, 3, 1, 1, 3, 1, 2, 1, 1, 3, 2, 2, 1, 2, 2, 1, 3, 4, 1, 1, 4, 4, 3, 6, 4, 3, 3, 3, 2, 1, 2, 1, 1, 1, 1, 2, 1, 2, 1, 2, 2, 1, 2, 2, 3, 1, 1, 2, 2, 1, 4, 4, 3, 1]
def am_RC : List Nat := [0, 0, 0, 0, 1, 1, 1, 1, 2, 2, 2, 2, 2, 2, 2, 2, 3, 3, 3, 4, 4, 4, 5, 5, 5, 5, 5, 5, 5, 5, 5, 5, 5, 5, 5, 5, 5, 5, 6, 6, 6, 6, 6, 6, 6, 7, 7, 8, 8, 8, 8, 8, 9, 9, 9, 9, 9, 9, 9, 9, 9, 9, 9, 9, 9, 9, 9, 9, 9, 9, 9, 9, 9, 9, 9, 9, 9, 10, 10, 10, 10, 11, 11, 11, 11, 11, 11, 11, 11, 11, 11, 11, 11, 11, 11, 11, 11, 11, 11, 11, 11, 11, 11, 11, 11, 11, 11, 11, 11, 11, 11, 11, 11, 11, 11, 11, 11, 11, 11, 11, 11, 11, 11, 11, 11, 11, 11, 11, 11, 11, 11, 11, 11, 11, 11, 11, 11, 11, 11, 11, 11, 11, 12, 12, 12, 12, 12, 12, 12, 12, 12, 12, 12, 12, 12, 12, 12, 12, 12, 12, 12, 12, 12, 12, 12, 12, 12, 12, 12, 12, 12, 12, 12, 12, 12, 12, 12, 12, 12, 12, 12, 12, 12, 12, 12, 12, 12, 12, 12, 12, 12, 12, 12, 12, 12, 12, 12, 12, 12, 12, 12, 12, 12, 12, 12, 12, 12, 12, 12, 12, 12, 12, 12, 12, 12, 12, 12, 12, 12, 12, 12, 12, 12, 12, 12, 12, 12, 12, 12, 12, 12, 12, 12, 12, 12, 12, 12, 99, 99, 99, 99, 99, 13, 13, 13, 13, 13, 13, 13, 99, 99, 99, 99, 99, 99]
def am_ML : List Nat := [2, 12, 3, 1, 1, 4, 2, 3, 1, 3, 3, 2, 4, 4, 5, 4, 1, 4, 2, 1, 5, 2, 1, 3, 2, 3, 1, 2, 2, 1, 1, 3, 1, 2, 8, 4, 3, 1, 1, 4, 2, 1, 2, 3, 2, 1, 2, 1, 1, 2, 2, 2, 3, 3, 2, 2, 2, 3, 5, 4, 2, 2, 2, 3, 4, 3, 2, 1, 4, 4, 3, 4, 4, 3, 3, 3, 5, 1, 4, 6, 2, 2, 4, 4, 4, 5, 4, 5, 4, 4, 5, 3, 3, 3, 3, 3, 2, 3, 4, 2, 3, 3, 2, 4, 3, 1, 2, 2, 2, 2, 2, 3, 10, 4, 5, 5, 8, 6, 5, 5, 4, 2, 4, 1, 1, 2, 1, 1, 1, 1, 1, 1, 1, 2, 4, 4, 2, 6, 4, 4, 5, 5, 1, 3, 3, 3, 2, 2, 2, 1, 3, 3, 3, 4, 5, 3, 3, 3, 2, 3, 4, 1, 3, 6, 3, 4, 4, 5, 5, 3, 2, 3, 5, 3, 3, 5, 5, 5, 3, 3, 4, 2, 5, 6, 2, 2, 2, 2, 5, 2, 1, 2, 1, 2, 5, 3, 4, 3, 3, 3, 3, 6, 5, 4, 4, 4, 3, 3, 2, 3, 5, 4, 3, 2, 4, 6, 7, 6, 10, 1, 1, 5, 4, 6, 7, 6, 3, 4, 3, 2, 3, 6, 1, 1, 3, 3, 2, 1, 3, 1, 2, 2, 1, 2, 2, 3, 1, 1, 2, 2, 1, 4, 6, 3, 4]
end
section
/-! linked codes, printed by program -/
set_option maxRecDepth 20000 in
def kc_X0_init : am_C := [(0, .aload 0, 1), (1, .pop2, 4), (4, .aload 0, 5), (5, .iconst 14, 7), (7, .anewarray 8, 10), (10, .putstatic 0, 13), (13, .aload 0, 14), (14, .iconst 26, 16), (16, .newarray .int, 18), (18, .putstatic 1, 21), (21, .aload 0, 22), (22, .iconst 96, 24), (24, .newarray .int, 26), (26, .putstatic 2, 29), (29, .iconst 0, 30), (30, .istore 1, 31), (31, .iload 1, 32), (32, .iconst 14, 34), (34, .if_icmp .ge 56, 37), (37, .aload 0, 38), (38, .getfield 0, 41), (41, .iload 1, 42), (42, .new 8, 45), (45, .dup, 46), (46, .invokespecial 47, 49), (49, .aastore, 50), (50, .iinc 1 1, 53), (53, .goto 31, 56), (56, .return_, 57)]
set_option maxRecDepth 20000 in
def kp_X0_init : List (Instr × Nat) := [(.aload_n 0, 0), (.invokespecial 3, 96), (.aload_n 0, 0), (.bipush 14, 0), (.anewarray 9, 97), (.putfield 11, 123), (.aload_n 0, 0), (.bipush 26, 0), (.newarray .int, 0), (.putfield 17, 125), (.aload_n 0, 0), (.bipush 96, 0), (.newarray .int, 0), (.putfield 21, 126), (.iconst 0, 0), (.istore_n 1, 0), (.iload_n 1, 0), (.bipush 14, 0), (.if_icmp .ge 22, 0), (.aload_n 0, 0), (.getfield 11, 123), (.iload_n 1, 0), (.new 9, 97), (.dup, 0), (.invokespecial 24, 5000), (.aastore, 0), (.iinc 1 1, 0), (.goto (-22), 0), (.return_, 0)]
set_option maxRecDepth 20000 in
def kc_X0_gives : am_C := [(0, .aload 1, 1), (1, .getfield 591, 4), (4, .iload 2, 5), (5, .iaload, 6), (6, .istore 7, 8), (8, .iload 7, 10), (10, .ifCond .lt 20, 13), (13, .iload 7, 15), (15, .iconst 14, 17), (17, .if_icmp .lt 22, 20), (20, .iload 3, 21), (21, .ireturn, 22), (22, .aload 0, 23), (23, .getfield 1, 26), (26, .iconst 7, 28), (28, .aload 1, 29), (29, .getfield 583, 32), (32, .iastore, 33), (33, .aload 0, 34), (34, .getfield 1, 37), (37, .iconst 3, 38), (38, .aload 1, 39), (39, .getfield 584, 42), (42, .iastore, 43), (43, .aload 0, 44), (44, .getfield 1, 47), (47, .iconst 2, 48), (48, .iload 4, 50), (50, .iastore, 51), (51, .aload 0, 52), (52, .getfield 1, 55), (55, .iconst 10, 57), (57, .iload 5, 59), (59, .iastore, 60), (60, .aload 0, 61), (61, .getfield 1, 64), (64, .iconst 22, 66), (66, .iload 6, 68), (68, .iastore, 69), (69, .aload 0, 70), (70, .getfield 0, 73), (73, .iload 7, 75), (75, .aaload, 76), (76, .astore 8, 78), (78, .iconst 0, 79), (79, .istore 9, 81), (81, .iconst 0, 82), (82, .istore 10, 84), (84, .iload 10, 86), (86, .aload 8, 88), (88, .getfield 514, 91), (91, .if_icmp .ge 242, 94), (94, .aload 8, 96), (96, .getfield 515, 99), (99, .iload 10, 101), (101, .iaload, 102), (102, .istore 11, 104), (104, .iload 11, 106), (106, .ifCond .ge 118, 109), (109, .iload 11, 111), (111, .ineg, 112), (112, .invokestatic 3, 115), (115, .ifCond .eq 152, 118), (118, .aload 0, 119), (119, .getfield 2, 122), (122, .iload 9, 124), (124, .iload 11, 126), (126, .ifCond .lt 134, 129), (129, .iload 11, 131), (131, .goto 145, 134), (134, .aload 0, 135), (135, .getfield 1, 138), (138, .iload 11, 140), (140, .ineg, 141), (141, .iconst 97, 143), (143, .isub, 144), (144, .iaload, 145), (145, .iastore, 146), (146, .iinc 9 1, 149), (149, .goto 236, 152), (152, .iload 11, 154), (154, .iconst (-33), 156), (156, .if_icmp .ne 194, 159), (159, .iload 9, 161), (161, .iconst 1, 162), (162, .if_icmp .lt 236, 165), (165, .aload 0, 166), (166, .getfield 2, 169), (169, .iload 9, 171), (171, .iconst 1, 172), (172, .isub, 173), (173, .aload 0, 174), (174, .getfield 2, 177), (177, .iload 9, 179), (179, .iconst 1, 180), (180, .isub, 181), (181, .iaload, 182), (182, .ifCond .ne 189, 185), (185, .iconst 1, 186), (186, .goto 190, 189), (189, .iconst 0, 190), (190, .iastore, 191), (191, .goto 236, 194), (194, .iload 9, 196), (196, .iconst 2, 197), (197, .if_icmp .lt 236, 200), (200, .aload 0, 201), (201, .getfield 2, 204), (204, .iload 9, 206), (206, .iconst 2, 207), (207, .isub, 208), (208, .aload 0, 209), (209, .getfield 2, 212), (212, .iload 9, 214), (214, .iconst 2, 215), (215, .isub, 216), (216, .iaload, 217), (217, .iload 11, 219), (219, .ineg, 220), (220, .aload 0, 221), (221, .getfield 2, 224), (224, .iload 9, 226), (226, .iconst 1, 227), (227, .isub, 228), (228, .iaload, 229), (229, .invokestatic 2, 232), (232, .iastore, 233), (233, .iinc 9 (-1), 236), (236, .iinc 10 1, 239), (239, .goto 84, 242), (242, .aload 0, 243), (243, .getfield 2, 246), (246, .iconst 0, 247), (247, .iaload, 248), (248, .ireturn, 249)]
set_option maxRecDepth 20000 in
def kp_X0_gives : List (Instr × Nat) := [(.aload_n 1, 0), (.getfield 25, 323), (.iload_n 2, 0), (.iaload, 0), (.istore 7, 0), (.iload 7, 0), (.ifCond .lt 10, 0), (.iload 7, 0), (.bipush 14, 0), (.if_icmp .lt 5, 0), (.iload_n 3, 0), (.ireturn, 0), (.aload_n 0, 0), (.getfield 17, 125), (.bipush 7, 0), (.aload_n 1, 0), (.getfield 30, 303), (.iastore, 0), (.aload_n 0, 0), (.getfield 17, 125), (.iconst 3, 0), (.aload_n 1, 0), (.getfield 34, 306), (.iastore, 0), (.aload_n 0, 0), (.getfield 17, 125), (.iconst 2, 0), (.iload 4, 0), (.iastore, 0), (.aload_n 0, 0), (.getfield 17, 125), (.bipush 10, 0), (.iload 5, 0), (.iastore, 0), (.aload_n 0, 0), (.getfield 17, 125), (.bipush 22, 0), (.iload 6, 0), (.iastore, 0), (.aload_n 0, 0), (.getfield 11, 123), (.iload 7, 0), (.aaload, 0), (.astore 8, 0), (.iconst 0, 0), (.istore 9, 0), (.iconst 0, 0), (.istore 10, 0), (.iload 10, 0), (.aload 8, 0), (.getfield 37, 110), (.if_icmp .ge 151, 0), (.aload 8, 0), (.getfield 40, 112), (.iload 10, 0), (.iaload, 0), (.istore 11, 0), (.iload 11, 0), (.ifCond .ge 12, 0), (.iload 11, 0), (.ineg, 0), (.invokestatic 43, 569), (.ifCond .eq 37, 0), (.aload_n 0, 0), (.getfield 21, 126), (.iload 9, 0), (.iload 11, 0), (.ifCond .lt 8, 0), (.iload 11, 0), (.goto 14, 0), (.aload_n 0, 0), (.getfield 17, 125), (.iload 11, 0), (.ineg, 0), (.bipush 97, 0), (.isub, 0), (.iaload, 0), (.iastore, 0), (.iinc 9 1, 0), (.goto 87, 0), (.iload 11, 0), (.bipush (-33), 0), (.if_icmp .ne 38, 0), (.iload 9, 0), (.iconst 1, 0), (.if_icmp .lt 74, 0), (.aload_n 0, 0), (.getfield 21, 126), (.iload 9, 0), (.iconst 1, 0), (.isub, 0), (.aload_n 0, 0), (.getfield 21, 126), (.iload 9, 0), (.iconst 1, 0), (.isub, 0), (.iaload, 0), (.ifCond .ne 7, 0), (.iconst 1, 0), (.goto 4, 0), (.iconst 0, 0), (.iastore, 0), (.goto 45, 0), (.iload 9, 0), (.iconst 2, 0), (.if_icmp .lt 39, 0), (.aload_n 0, 0), (.getfield 21, 126), (.iload 9, 0), (.iconst 2, 0), (.isub, 0), (.aload_n 0, 0), (.getfield 21, 126), (.iload 9, 0), (.iconst 2, 0), (.isub, 0), (.iaload, 0), (.iload 11, 0), (.ineg, 0), (.aload_n 0, 0), (.getfield 21, 126), (.iload 9, 0), (.iconst 1, 0), (.isub, 0), (.iaload, 0), (.invokestatic 47, 572), (.iastore, 0), (.iinc 9 (-1), 0), (.iinc 10 1, 0), (.goto (-155), 0), (.aload_n 0, 0), (.getfield 21, 126), (.iconst 0, 0), (.iaload, 0), (.ireturn, 0)]
set_option maxRecDepth 20000 in
def kc_X0_worth : am_C := [(0, .iload 1, 1), (1, .lookupswitch 169 #[(38, 98), (42, 153), (43, 145), (45, 149), (47, 157), (60, 112), (61, 123), (62, 134), (124, 84)], 84), (84, .iload 0, 85), (85, .ifCond .ne 92, 88), (88, .iload 2, 89), (89, .ifCond .eq 96, 92), (92, .iconst 1, 93), (93, .goto 97, 96), (96, .iconst 0, 97), (97, .ireturn, 98), (98, .iload 0, 99), (99, .ifCond .eq 110, 102), (102, .iload 2, 103), (103, .ifCond .eq 110, 106), (106, .iconst 1, 107), (107, .goto 111, 110), (110, .iconst 0, 111), (111, .ireturn, 112), (112, .iload 0, 113), (113, .iload 2, 114), (114, .if_icmp .ge 121, 117), (117, .iconst 1, 118), (118, .goto 122, 121), (121, .iconst 0, 122), (122, .ireturn, 123), (123, .iload 0, 124), (124, .iload 2, 125), (125, .if_icmp .ne 132, 128), (128, .iconst 1, 129), (129, .goto 133, 132), (132, .iconst 0, 133), (133, .ireturn, 134), (134, .iload 0, 135), (135, .iload 2, 136), (136, .if_icmp .le 143, 139), (139, .iconst 1, 140), (140, .goto 144, 143), (143, .iconst 0, 144), (144, .ireturn, 145), (145, .iload 0, 146), (146, .iload 2, 147), (147, .iadd, 148), (148, .ireturn, 149), (149, .iload 0, 150), (150, .iload 2, 151), (151, .isub, 152), (152, .ireturn, 153), (153, .iload 0, 154), (154, .iload 2, 155), (155, .imul, 156), (156, .ireturn, 157), (157, .iload 2, 158), (158, .ifCond .ne 165, 161), (161, .iconst 0, 162), (162, .goto 168, 165), (165, .iload 0, 166), (166, .iload 2, 167), (167, .idiv, 168), (168, .ireturn, 169), (169, .iconst 0, 170), (170, .ireturn, 171)]
set_option maxRecDepth 20000 in
def kp_X0_worth : List (Instr × Nat) := [(.iload_n 1, 0), (.lookupswitch 168 #[(38, 97), (42, 152), (43, 144), (45, 148), (47, 156), (60, 111), (61, 122), (62, 133), (124, 83)], 0), (.iload_n 0, 0), (.ifCond .ne 7, 0), (.iload_n 2, 0), (.ifCond .eq 7, 0), (.iconst 1, 0), (.goto 4, 0), (.iconst 0, 0), (.ireturn, 0), (.iload_n 0, 0), (.ifCond .eq 11, 0), (.iload_n 2, 0), (.ifCond .eq 7, 0), (.iconst 1, 0), (.goto 4, 0), (.iconst 0, 0), (.ireturn, 0), (.iload_n 0, 0), (.iload_n 2, 0), (.if_icmp .ge 7, 0), (.iconst 1, 0), (.goto 4, 0), (.iconst 0, 0), (.ireturn, 0), (.iload_n 0, 0), (.iload_n 2, 0), (.if_icmp .ne 7, 0), (.iconst 1, 0), (.goto 4, 0), (.iconst 0, 0), (.ireturn, 0), (.iload_n 0, 0), (.iload_n 2, 0), (.if_icmp .le 7, 0), (.iconst 1, 0), (.goto 4, 0), (.iconst 0, 0), (.ireturn, 0), (.iload_n 0, 0), (.iload_n 2, 0), (.iadd, 0), (.ireturn, 0), (.iload_n 0, 0), (.iload_n 2, 0), (.isub, 0), (.ireturn, 0), (.iload_n 0, 0), (.iload_n 2, 0), (.imul, 0), (.ireturn, 0), (.iload_n 2, 0), (.ifCond .ne 7, 0), (.iconst 0, 0), (.goto 6, 0), (.iload_n 0, 0), (.iload_n 2, 0), (.idiv, 0), (.ireturn, 0), (.iconst 0, 0), (.ireturn, 0)]
set_option maxRecDepth 20000 in
def kc_X0_isLetter : am_C := [(0, .iload 0, 1), (1, .iconst 97, 3), (3, .if_icmp .lt 16, 6), (6, .iload 0, 7), (7, .iconst 122, 9), (9, .if_icmp .gt 16, 12), (12, .iconst 1, 13), (13, .goto 17, 16), (16, .iconst 0, 17), (17, .freturn, 18)]
set_option maxRecDepth 20000 in
def kp_X0_isLetter : List (Instr × Nat) := [(.iload_n 0, 0), (.bipush 97, 0), (.if_icmp .lt 13, 0), (.iload_n 0, 0), (.bipush 122, 0), (.if_icmp .gt 7, 0), (.iconst 1, 0), (.goto 4, 0), (.iconst 0, 0), (.ireturn, 0)]
set_option maxRecDepth 20000 in
def kc_X1_init : am_C := [(0, .aload 0, 1), (1, .pop2, 4), (4, .return_, 5)]
set_option maxRecDepth 20000 in
def kp_X1_init : List (Instr × Nat) := [(.aload_n 0, 0), (.invokespecial 3, 183), (.return_, 0)]
set_option maxRecDepth 20000 in
def kc_X1_begin : am_C := [(0, .aload 0, 1), (1, .iload 1, 2), (2, .putfield 64, 5), (5, .aload 0, 6), (6, .iload 2, 7), (7, .putfield 65, 10), (10, .aload 0, 11), (11, .iload 3, 12), (12, .putfield 66, 15), (15, .aload 0, 16), (16, .iconst 0, 17), (17, .putfield 67, 20), (20, .aload 0, 21), (21, .iconst 0, 22), (22, .putfield 68, 25), (25, .aload 0, 26), (26, .iconst 0, 27), (27, .putfield 69, 30), (30, .return_, 31)]
set_option maxRecDepth 20000 in
def kp_X1_begin : List (Instr × Nat) := [(.aload_n 0, 0), (.iload_n 1, 0), (.putfield 9, 184), (.aload_n 0, 0), (.iload_n 2, 0), (.putfield 15, 187), (.aload_n 0, 0), (.iload_n 3, 0), (.putfield 18, 189), (.aload_n 0, 0), (.iconst 0, 0), (.putfield 21, 191), (.aload_n 0, 0), (.iconst 0, 0), (.putfield 24, 193), (.aload_n 0, 0), (.iconst 0, 0), (.putfield 28, 196), (.return_, 0)]
set_option maxRecDepth 20000 in
def kc_X1_become : am_C := [(0, .aload 0, 1), (1, .aload 1, 2), (2, .getfield 64, 5), (5, .putfield 64, 8), (8, .aload 0, 9), (9, .aload 1, 10), (10, .getfield 65, 13), (13, .putfield 65, 16), (16, .aload 0, 17), (17, .aload 1, 18), (18, .getfield 66, 21), (21, .putfield 66, 24), (24, .aload 0, 25), (25, .aload 1, 26), (26, .getfield 67, 29), (29, .putfield 67, 32), (32, .aload 0, 33), (33, .aload 1, 34), (34, .getfield 68, 37), (37, .putfield 68, 40), (40, .aload 0, 41), (41, .aload 1, 42), (42, .getfield 69, 45), (45, .putfield 69, 48), (48, .return_, 49)]
set_option maxRecDepth 20000 in
def kp_X1_become : List (Instr × Nat) := [(.aload_n 0, 0), (.aload_n 1, 0), (.getfield 9, 184), (.putfield 9, 184), (.aload_n 0, 0), (.aload_n 1, 0), (.getfield 15, 187), (.putfield 15, 187), (.aload_n 0, 0), (.aload_n 1, 0), (.getfield 18, 189), (.putfield 18, 189), (.aload_n 0, 0), (.aload_n 1, 0), (.getfield 21, 191), (.putfield 21, 191), (.aload_n 0, 0), (.aload_n 1, 0), (.getfield 24, 193), (.putfield 24, 193), (.aload_n 0, 0), (.aload_n 1, 0), (.getfield 28, 196), (.putfield 28, 196), (.return_, 0)]
set_option maxRecDepth 20000 in
def kc_X1_isNight : am_C := [(0, .iload 1, 1), (1, .aload 0, 2), (2, .getfield 67, 5), (5, .isub, 6), (6, .iconst 24, 8), (8, .invokestatic 238, 11), (11, .istore 2, 12), (12, .aload 0, 13), (13, .getfield 65, 16), (16, .aload 0, 17), (17, .getfield 66, 20), (20, .if_icmp .ge 45, 23), (23, .iload 2, 24), (24, .aload 0, 25), (25, .getfield 65, 28), (28, .if_icmp .lt 43, 31), (31, .iload 2, 32), (32, .aload 0, 33), (33, .getfield 66, 36), (36, .if_icmp .ge 43, 39), (39, .iconst 1, 40), (40, .goto 44, 43), (43, .iconst 0, 44), (44, .freturn, 45), (45, .aload 0, 46), (46, .getfield 65, 49), (49, .aload 0, 50), (50, .getfield 66, 53), (53, .if_icmp .le 76, 56), (56, .iload 2, 57), (57, .aload 0, 58), (58, .getfield 65, 61), (61, .if_icmp .ge 72, 64), (64, .iload 2, 65), (65, .aload 0, 66), (66, .getfield 66, 69), (69, .if_icmp .ge 76, 72), (72, .iconst 1, 73), (73, .goto 77, 76), (76, .iconst 0, 77), (77, .freturn, 78)]
set_option maxRecDepth 20000 in
def kp_X1_isNight : List (Instr × Nat) := [(.iload_n 1, 0), (.aload_n 0, 0), (.getfield 21, 191), (.isub, 0), (.bipush 24, 0), (.invokestatic 31, 538), (.istore_n 2, 0), (.aload_n 0, 0), (.getfield 15, 187), (.aload_n 0, 0), (.getfield 18, 189), (.if_icmp .ge 25, 0), (.iload_n 2, 0), (.aload_n 0, 0), (.getfield 15, 187), (.if_icmp .lt 15, 0), (.iload_n 2, 0), (.aload_n 0, 0), (.getfield 18, 189), (.if_icmp .ge 7, 0), (.iconst 1, 0), (.goto 4, 0), (.iconst 0, 0), (.ireturn, 0), (.aload_n 0, 0), (.getfield 15, 187), (.aload_n 0, 0), (.getfield 18, 189), (.if_icmp .le 23, 0), (.iload_n 2, 0), (.aload_n 0, 0), (.getfield 15, 187), (.if_icmp .ge 11, 0), (.iload_n 2, 0), (.aload_n 0, 0), (.getfield 18, 189), (.if_icmp .ge 7, 0), (.iconst 1, 0), (.goto 4, 0), (.iconst 0, 0), (.ireturn, 0)]
set_option maxRecDepth 20000 in
def kc_X2_init : am_C := [(0, .aload 0, 1), (1, .pop2, 4), (4, .aload 0, 5), (5, .iconst 3, 6), (6, .newarray .int, 8), (8, .putstatic 128, 11), (11, .aload 0, 12), (12, .iconst 3, 13), (13, .newarray .int, 15), (15, .putstatic 129, 18), (18, .aload 0, 19), (19, .iconst 12, 21), (21, .newarray .int, 23), (23, .putstatic 130, 26), (26, .aload 0, 27), (27, .iconst 12, 29), (29, .newarray .int, 31), (31, .putstatic 131, 34), (34, .aload 0, 35), (35, .iconst 3, 36), (36, .newarray .boolean, 38), (38, .putstatic 132, 41), (41, .aload 0, 42), (42, .iconst 12, 44), (44, .newarray .boolean, 46), (46, .putstatic 133, 49), (49, .aload 0, 50), (50, .iconst 12, 52), (52, .newarray .boolean, 54), (54, .putstatic 134, 57), (57, .aload 0, 58), (58, .iconst 16, 60), (60, .newarray .boolean, 62), (62, .putstatic 135, 65), (65, .aload 0, 66), (66, .iconst 0, 67), (67, .putfield 136, 70), (70, .return_, 71)]
set_option maxRecDepth 20000 in
def kp_X2_init : List (Instr × Nat) := [(.aload_n 0, 0), (.invokespecial 3, 363), (.aload_n 0, 0), (.iconst 3, 0), (.newarray .int, 0), (.putfield 9, 364), (.aload_n 0, 0), (.iconst 3, 0), (.newarray .int, 0), (.putfield 15, 365), (.aload_n 0, 0), (.bipush 12, 0), (.newarray .int, 0), (.putfield 18, 366), (.aload_n 0, 0), (.bipush 12, 0), (.newarray .int, 0), (.putfield 21, 367), (.aload_n 0, 0), (.iconst 3, 0), (.newarray .boolean, 0), (.putfield 24, 368), (.aload_n 0, 0), (.bipush 12, 0), (.newarray .boolean, 0), (.putfield 28, 369), (.aload_n 0, 0), (.bipush 12, 0), (.newarray .boolean, 0), (.putfield 31, 370), (.aload_n 0, 0), (.bipush 16, 0), (.newarray .boolean, 0), (.putfield 34, 371), (.aload_n 0, 0), (.iconst 0, 0), (.putfield 37, 372), (.return_, 0)]
set_option maxRecDepth 20000 in
def kc_X2_isBlamed : am_C := [(0, .iload 1, 1), (1, .lookupswitch 42 #[(0, 28), (1, 35)], 28), (28, .aload 0, 29), (29, .getfield 132, 32), (32, .iload 2, 33), (33, .baload, 34), (34, .freturn, 35), (35, .aload 0, 36), (36, .getfield 133, 39), (39, .iload 2, 40), (40, .baload, 41), (41, .freturn, 42), (42, .aload 0, 43), (43, .getfield 135, 46), (46, .iload 2, 47), (47, .baload, 48), (48, .freturn, 49)]
set_option maxRecDepth 20000 in
def kp_X2_isBlamed : List (Instr × Nat) := [(.iload_n 1, 0), (.lookupswitch 41 #[(0, 27), (1, 34)], 0), (.aload_n 0, 0), (.getfield 24, 368), (.iload_n 2, 0), (.baload, 0), (.ireturn, 0), (.aload_n 0, 0), (.getfield 28, 369), (.iload_n 2, 0), (.baload, 0), (.ireturn, 0), (.aload_n 0, 0), (.getfield 34, 371), (.iload_n 2, 0), (.baload, 0), (.ireturn, 0)]
set_option maxRecDepth 20000 in
def kc_X2_find : am_C := [(0, .aload 0, 1), (1, .aload 1, 2), (2, .invokevirtual 12, 5), (5, .aload 0, 6), (6, .iconst 0, 7), (7, .putfield 136, 10), (10, .iconst 0, 11), (11, .istore 2, 12), (12, .iload 2, 13), (13, .aload 1, 14), (14, .getfield 578, 17), (17, .if_icmp .ge 65, 20), (20, .aload 0, 21), (21, .getfield 132, 24), (24, .iload 2, 25), (25, .aload 0, 26), (26, .getfield 128, 29), (29, .iload 2, 30), (30, .iaload, 31), (31, .aload 0, 32), (32, .getfield 129, 35), (35, .iload 2, 36), (36, .iaload, 37), (37, .invokestatic 11, 40), (40, .bastore, 41), (41, .aload 0, 42), (42, .dup, 43), (43, .getfield 136, 46), (46, .aload 0, 47), (47, .getfield 132, 50), (50, .iload 2, 51), (51, .baload, 52), (52, .invokestatic 126, 55), (55, .iadd, 56), (56, .putfield 136, 59), (59, .iinc 2 1, 62), (62, .goto 12, 65), (65, .aload 0, 66), (66, .aload 1, 67), (67, .invokevirtual 14, 70), (70, .aload 0, 71), (71, .aload 1, 72), (72, .invokevirtual 15, 75), (75, .return_, 76)]
set_option maxRecDepth 20000 in
def kp_X2_find : List (Instr × Nat) := [(.aload_n 0, 0), (.aload_n 1, 0), (.invokevirtual 41, 951), (.aload_n 0, 0), (.iconst 0, 0), (.putfield 37, 372), (.iconst 0, 0), (.istore_n 2, 0), (.iload_n 2, 0), (.aload_n 1, 0), (.getfield 45, 288), (.if_icmp .ge 48, 0), (.aload_n 0, 0), (.getfield 24, 368), (.iload_n 2, 0), (.aload_n 0, 0), (.getfield 9, 364), (.iload_n 2, 0), (.iaload, 0), (.aload_n 0, 0), (.getfield 15, 365), (.iload_n 2, 0), (.iaload, 0), (.invokestatic 50, 961), (.bastore, 0), (.aload_n 0, 0), (.dup, 0), (.getfield 37, 372), (.aload_n 0, 0), (.getfield 24, 368), (.iload_n 2, 0), (.baload, 0), (.invokestatic 54, 5012), (.iadd, 0), (.putfield 37, 372), (.iinc 2 1, 0), (.goto (-50), 0), (.aload_n 0, 0), (.aload_n 1, 0), (.invokevirtual 58, 964), (.aload_n 0, 0), (.aload_n 1, 0), (.invokevirtual 61, 968), (.return_, 0)]
set_option maxRecDepth 20000 in
def kc_X2_areAllDark : am_C := [(0, .iload 0, 1), (1, .iconst 2, 2), (2, .if_icmp .lt 14, 5), (5, .iload 1, 6), (6, .iload 0, 7), (7, .if_icmp .ne 14, 10), (10, .iconst 1, 11), (11, .goto 15, 14), (14, .iconst 0, 15), (15, .freturn, 16)]
set_option maxRecDepth 20000 in
def kp_X2_areAllDark : List (Instr × Nat) := [(.iload_n 0, 0), (.iconst 2, 0), (.if_icmp .lt 12, 0), (.iload_n 1, 0), (.iload_n 0, 0), (.if_icmp .ne 7, 0), (.iconst 1, 0), (.goto 4, 0), (.iconst 0, 0), (.ireturn, 0)]
set_option maxRecDepth 20000 in
def kc_X2_countBehind : am_C := [(0, .iconst 0, 1), (1, .istore 2, 2), (2, .iload 2, 3), (3, .iconst 3, 4), (4, .if_icmp .ge 27, 7), (7, .aload 0, 8), (8, .getfield 128, 11), (11, .iload 2, 12), (12, .iconst 0, 13), (13, .iastore, 14), (14, .aload 0, 15), (15, .getfield 129, 18), (18, .iload 2, 19), (19, .iconst 0, 20), (20, .iastore, 21), (21, .iinc 2 1, 24), (24, .goto 2, 27), (27, .iconst 0, 28), (28, .istore 2, 29), (29, .iload 2, 30), (30, .iconst 12, 32), (32, .if_icmp .ge 55, 35), (35, .aload 0, 36), (36, .getfield 130, 39), (39, .iload 2, 40), (40, .iconst 0, 41), (41, .iastore, 42), (42, .aload 0, 43), (43, .getfield 131, 46), (46, .iload 2, 47), (47, .iconst 0, 48), (48, .iastore, 49), (49, .iinc 2 1, 52), (52, .goto 29, 55), (55, .iconst 0, 56), (56, .istore 2, 57), (57, .iload 2, 58), (58, .aload 1, 59), (59, .getfield 582, 62), (62, .if_icmp .ge 118, 65), (65, .aload 1, 66), (66, .getfield 581, 69), (69, .iload 2, 70), (70, .aaload, 71), (71, .astore 3, 72), (72, .aload 1, 73), (73, .aload 3, 74), (74, .invokevirtual 61, 77), (77, .ifCond .eq 112, 80), (80, .aload 0, 81), (81, .getfield 130, 84), (84, .aload 3, 85), (85, .getfield 257, 88), (88, .dup2, 89), (89, .iaload, 90), (90, .iconst 1, 91), (91, .iadd, 92), (92, .iastore, 93), (93, .aload 0, 94), (94, .getfield 131, 97), (97, .aload 3, 98), (98, .getfield 257, 101), (101, .dup2, 102), (102, .iaload, 103), (103, .aload 3, 104), (104, .getfield 262, 107), (107, .invokestatic 126, 110), (110, .iadd, 111), (111, .iastore, 112), (112, .iinc 2 1, 115), (115, .goto 57, 118), (118, .aload 1, 119), (119, .getfield 580, 122), (122, .iconst 1, 123), (123, .isub, 124), (124, .istore 2, 125), (125, .iload 2, 126), (126, .ifCond .lt 160, 129), (129, .aload 0, 130), (130, .aload 1, 131), (131, .getfield 579, 134), (134, .iload 2, 135), (135, .aaload, 136), (136, .getfield 192, 139), (139, .aload 0, 140), (140, .getfield 130, 143), (143, .iload 2, 144), (144, .iaload, 145), (145, .aload 0, 146), (146, .getfield 131, 149), (149, .iload 2, 150), (150, .iaload, 151), (151, .invokevirtual 13, 154), (154, .iinc 2 (-1), 157), (157, .goto 125, 160), (160, .return_, 161)]
set_option maxRecDepth 20000 in
def kp_X2_countBehind : List (Instr × Nat) := [(.iconst 0, 0), (.istore_n 2, 0), (.iload_n 2, 0), (.iconst 3, 0), (.if_icmp .ge 23, 0), (.aload_n 0, 0), (.getfield 9, 364), (.iload_n 2, 0), (.iconst 0, 0), (.iastore, 0), (.aload_n 0, 0), (.getfield 15, 365), (.iload_n 2, 0), (.iconst 0, 0), (.iastore, 0), (.iinc 2 1, 0), (.goto (-22), 0), (.iconst 0, 0), (.istore_n 2, 0), (.iload_n 2, 0), (.bipush 12, 0), (.if_icmp .ge 23, 0), (.aload_n 0, 0), (.getfield 18, 366), (.iload_n 2, 0), (.iconst 0, 0), (.iastore, 0), (.aload_n 0, 0), (.getfield 21, 367), (.iload_n 2, 0), (.iconst 0, 0), (.iastore, 0), (.iinc 2 1, 0), (.goto (-23), 0), (.iconst 0, 0), (.istore_n 2, 0), (.iload_n 2, 0), (.aload_n 1, 0), (.getfield 64, 300), (.if_icmp .ge 56, 0), (.aload_n 1, 0), (.getfield 67, 297), (.iload_n 2, 0), (.aaload, 0), (.astore_n 3, 0), (.aload_n 1, 0), (.aload_n 3, 0), (.invokevirtual 71, 955), (.ifCond .eq 35, 0), (.aload_n 0, 0), (.getfield 18, 366), (.aload_n 3, 0), (.getfield 75, 248), (.dup2, 0), (.iaload, 0), (.iconst 1, 0), (.iadd, 0), (.iastore, 0), (.aload_n 0, 0), (.getfield 21, 367), (.aload_n 3, 0), (.getfield 75, 248), (.dup2, 0), (.iaload, 0), (.aload_n 3, 0), (.getfield 80, 264), (.invokestatic 54, 5012), (.iadd, 0), (.iastore, 0), (.iinc 2 1, 0), (.goto (-58), 0), (.aload_n 1, 0), (.getfield 84, 295), (.iconst 1, 0), (.isub, 0), (.istore_n 2, 0), (.iload_n 2, 0), (.ifCond .lt 34, 0), (.aload_n 0, 0), (.aload_n 1, 0), (.getfield 87, 292), (.iload_n 2, 0), (.aaload, 0), (.getfield 91, 218), (.aload_n 0, 0), (.getfield 18, 366), (.iload_n 2, 0), (.iaload, 0), (.aload_n 0, 0), (.getfield 21, 367), (.iload_n 2, 0), (.iaload, 0), (.invokevirtual 96, 957), (.iinc 2 (-1), 0), (.goto (-32), 0), (.return_, 0)]
set_option maxRecDepth 20000 in
def kc_X2_addToFeed : am_C := [(0, .iload 1, 1), (1, .iconst 100, 3), (3, .if_icmp .lt 35, 6), (6, .aload 0, 7), (7, .getfield 128, 10), (10, .iload 1, 11), (11, .iconst 100, 13), (13, .isub, 14), (14, .dup2, 15), (15, .iaload, 16), (16, .iload 2, 17), (17, .iadd, 18), (18, .iastore, 19), (19, .aload 0, 20), (20, .getfield 129, 23), (23, .iload 1, 24), (24, .iconst 100, 26), (26, .isub, 27), (27, .dup2, 28), (28, .iaload, 29), (29, .iload 3, 30), (30, .iadd, 31), (31, .iastore, 32), (32, .goto 55, 35), (35, .aload 0, 36), (36, .getfield 130, 39), (39, .iload 1, 40), (40, .dup2, 41), (41, .iaload, 42), (42, .iload 2, 43), (43, .iadd, 44), (44, .iastore, 45), (45, .aload 0, 46), (46, .getfield 131, 49), (49, .iload 1, 50), (50, .dup2, 51), (51, .iaload, 52), (52, .iload 3, 53), (53, .iadd, 54), (54, .iastore, 55), (55, .return_, 56)]
set_option maxRecDepth 20000 in
def kp_X2_addToFeed : List (Instr × Nat) := [(.iload_n 1, 0), (.bipush 100, 0), (.if_icmp .lt 32, 0), (.aload_n 0, 0), (.getfield 9, 364), (.iload_n 1, 0), (.bipush 100, 0), (.isub, 0), (.dup2, 0), (.iaload, 0), (.iload_n 2, 0), (.iadd, 0), (.iastore, 0), (.aload_n 0, 0), (.getfield 15, 365), (.iload_n 1, 0), (.bipush 100, 0), (.isub, 0), (.dup2, 0), (.iaload, 0), (.iload_n 3, 0), (.iadd, 0), (.iastore, 0), (.goto 23, 0), (.aload_n 0, 0), (.getfield 18, 366), (.iload_n 1, 0), (.dup2, 0), (.iaload, 0), (.iload_n 2, 0), (.iadd, 0), (.iastore, 0), (.aload_n 0, 0), (.getfield 21, 367), (.iload_n 1, 0), (.dup2, 0), (.iaload, 0), (.iload_n 3, 0), (.iadd, 0), (.iastore, 0), (.return_, 0)]
set_option maxRecDepth 20000 in
def kc_X2_blameJoints : am_C := [(0, .iconst 0, 1), (1, .istore 2, 2), (2, .iload 2, 3), (3, .aload 1, 4), (4, .getfield 580, 7), (7, .if_icmp .ge 129, 10), (10, .aload 1, 11), (11, .getfield 579, 14), (14, .iload 2, 15), (15, .aaload, 16), (16, .getfield 192, 19), (19, .istore 3, 20), (20, .iload 3, 21), (21, .iconst 100, 23), (23, .if_icmp .lt 38, 26), (26, .aload 0, 27), (27, .getfield 132, 30), (30, .iload 3, 31), (31, .iconst 100, 33), (33, .isub, 34), (34, .baload, 35), (35, .goto 44, 38), (38, .aload 0, 39), (39, .getfield 134, 42), (42, .iload 3, 43), (43, .baload, 44), (44, .istore 4, 46), (46, .aload 0, 47), (47, .getfield 133, 50), (50, .iload 2, 51), (51, .iload 4, 53), (53, .ifCond .ne 78, 56), (56, .aload 0, 57), (57, .getfield 130, 60), (60, .iload 2, 61), (61, .iaload, 62), (62, .aload 0, 63), (63, .getfield 131, 66), (66, .iload 2, 67), (67, .iaload, 68), (68, .invokestatic 11, 71), (71, .ifCond .eq 78, 74), (74, .iconst 1, 75), (75, .goto 79, 78), (78, .iconst 0, 79), (79, .bastore, 80), (80, .aload 0, 81), (81, .getfield 134, 84), (84, .iload 2, 85), (85, .iload 4, 87), (87, .ifCond .ne 99, 90), (90, .aload 0, 91), (91, .getfield 133, 94), (94, .iload 2, 95), (95, .baload, 96), (96, .ifCond .eq 103, 99), (99, .iconst 1, 100), (100, .goto 104, 103), (103, .iconst 0, 104), (104, .bastore, 105), (105, .aload 0, 106), (106, .dup, 107), (107, .getfield 136, 110), (110, .aload 0, 111), (111, .getfield 133, 114), (114, .iload 2, 115), (115, .baload, 116), (116, .invokestatic 126, 119), (119, .iadd, 120), (120, .putfield 136, 123), (123, .iinc 2 1, 126), (126, .goto 2, 129), (129, .return_, 130)]
set_option maxRecDepth 20000 in
def kp_X2_blameJoints : List (Instr × Nat) := [(.iconst 0, 0), (.istore_n 2, 0), (.iload_n 2, 0), (.aload_n 1, 0), (.getfield 84, 295), (.if_icmp .ge 122, 0), (.aload_n 1, 0), (.getfield 87, 292), (.iload_n 2, 0), (.aaload, 0), (.getfield 91, 218), (.istore_n 3, 0), (.iload_n 3, 0), (.bipush 100, 0), (.if_icmp .lt 15, 0), (.aload_n 0, 0), (.getfield 24, 368), (.iload_n 3, 0), (.bipush 100, 0), (.isub, 0), (.baload, 0), (.goto 9, 0), (.aload_n 0, 0), (.getfield 31, 370), (.iload_n 3, 0), (.baload, 0), (.istore 4, 0), (.aload_n 0, 0), (.getfield 28, 369), (.iload_n 2, 0), (.iload 4, 0), (.ifCond .ne 25, 0), (.aload_n 0, 0), (.getfield 18, 366), (.iload_n 2, 0), (.iaload, 0), (.aload_n 0, 0), (.getfield 21, 367), (.iload_n 2, 0), (.iaload, 0), (.invokestatic 50, 961), (.ifCond .eq 7, 0), (.iconst 1, 0), (.goto 4, 0), (.iconst 0, 0), (.bastore, 0), (.aload_n 0, 0), (.getfield 31, 370), (.iload_n 2, 0), (.iload 4, 0), (.ifCond .ne 12, 0), (.aload_n 0, 0), (.getfield 28, 369), (.iload_n 2, 0), (.baload, 0), (.ifCond .eq 7, 0), (.iconst 1, 0), (.goto 4, 0), (.iconst 0, 0), (.bastore, 0), (.aload_n 0, 0), (.dup, 0), (.getfield 37, 372), (.aload_n 0, 0), (.getfield 28, 369), (.iload_n 2, 0), (.baload, 0), (.invokestatic 54, 5012), (.iadd, 0), (.putfield 37, 372), (.iinc 2 1, 0), (.goto (-124), 0), (.return_, 0)]
set_option maxRecDepth 20000 in
def kc_X2_blameLamps : am_C := [(0, .iconst 0, 1), (1, .istore 2, 2), (2, .iload 2, 3), (3, .aload 1, 4), (4, .getfield 582, 7), (7, .if_icmp .ge 79, 10), (10, .aload 1, 11), (11, .getfield 581, 14), (14, .iload 2, 15), (15, .aaload, 16), (16, .astore 3, 17), (17, .aload 0, 18), (18, .getfield 135, 21), (21, .iload 2, 22), (22, .aload 3, 23), (23, .getfield 262, 26), (26, .ifCond .eq 53, 29), (29, .aload 0, 30), (30, .getfield 134, 33), (33, .aload 3, 34), (34, .getfield 257, 37), (37, .baload, 38), (38, .ifCond .ne 53, 41), (41, .aload 1, 42), (42, .aload 3, 43), (43, .invokevirtual 61, 46), (46, .ifCond .eq 53, 49), (49, .iconst 1, 50), (50, .goto 54, 53), (53, .iconst 0, 54), (54, .bastore, 55), (55, .aload 0, 56), (56, .dup, 57), (57, .getfield 136, 60), (60, .aload 0, 61), (61, .getfield 135, 64), (64, .iload 2, 65), (65, .baload, 66), (66, .invokestatic 126, 69), (69, .iadd, 70), (70, .putfield 136, 73), (73, .iinc 2 1, 76), (76, .goto 2, 79), (79, .return_, 80)]
set_option maxRecDepth 20000 in
def kp_X2_blameLamps : List (Instr × Nat) := [(.iconst 0, 0), (.istore_n 2, 0), (.iload_n 2, 0), (.aload_n 1, 0), (.getfield 64, 300), (.if_icmp .ge 72, 0), (.aload_n 1, 0), (.getfield 67, 297), (.iload_n 2, 0), (.aaload, 0), (.astore_n 3, 0), (.aload_n 0, 0), (.getfield 34, 371), (.iload_n 2, 0), (.aload_n 3, 0), (.getfield 80, 264), (.ifCond .eq 27, 0), (.aload_n 0, 0), (.getfield 31, 370), (.aload_n 3, 0), (.getfield 75, 248), (.baload, 0), (.ifCond .ne 15, 0), (.aload_n 1, 0), (.aload_n 3, 0), (.invokevirtual 71, 955), (.ifCond .eq 7, 0), (.iconst 1, 0), (.goto 4, 0), (.iconst 0, 0), (.bastore, 0), (.aload_n 0, 0), (.dup, 0), (.getfield 37, 372), (.aload_n 0, 0), (.getfield 34, 371), (.iload_n 2, 0), (.baload, 0), (.invokestatic 54, 5012), (.iadd, 0), (.putfield 37, 372), (.iinc 2 1, 0), (.goto (-74), 0), (.return_, 0)]
set_option maxRecDepth 20000 in
def kc_X3_init : am_C := [(0, .aload 0, 1), (1, .pop2, 4), (4, .return_, 5)]
set_option maxRecDepth 20000 in
def kp_X3_init : List (Instr × Nat) := [(.aload_n 0, 0), (.invokespecial 1, 216), (.return_, 0)]
set_option maxRecDepth 20000 in
def kc_X3_begin : am_C := [(0, .aload 0, 1), (1, .iload 1, 2), (2, .putfield 192, 5), (5, .aload 0, 6), (6, .iload 2, 7), (7, .putfield 193, 10), (10, .aload 0, 11), (11, .iload 3, 12), (12, .putfield 194, 15), (15, .aload 0, 16), (16, .iconst 0, 17), (17, .putfield 195, 20), (20, .return_, 21)]
set_option maxRecDepth 20000 in
def kp_X3_begin : List (Instr × Nat) := [(.aload_n 0, 0), (.iload_n 1, 0), (.putfield 7, 217), (.aload_n 0, 0), (.iload_n 2, 0), (.putfield 13, 221), (.aload_n 0, 0), (.iload_n 3, 0), (.putfield 16, 224), (.aload_n 0, 0), (.iconst 0, 0), (.putfield 19, 227), (.return_, 0)]
set_option maxRecDepth 20000 in
def kc_X3_become : am_C := [(0, .aload 0, 1), (1, .aload 1, 2), (2, .getfield 192, 5), (5, .putfield 192, 8), (8, .aload 0, 9), (9, .aload 1, 10), (10, .getfield 193, 13), (13, .putfield 193, 16), (16, .aload 0, 17), (17, .aload 1, 18), (18, .getfield 194, 21), (21, .putfield 194, 24), (24, .aload 0, 25), (25, .aload 1, 26), (26, .getfield 195, 29), (29, .putfield 195, 32), (32, .return_, 33)]
set_option maxRecDepth 20000 in
def kp_X3_become : List (Instr × Nat) := [(.aload_n 0, 0), (.aload_n 1, 0), (.getfield 7, 217), (.putfield 7, 217), (.aload_n 0, 0), (.aload_n 1, 0), (.getfield 13, 221), (.putfield 13, 221), (.aload_n 0, 0), (.aload_n 1, 0), (.getfield 16, 224), (.putfield 16, 224), (.aload_n 0, 0), (.aload_n 1, 0), (.getfield 19, 227), (.putfield 19, 227), (.return_, 0)]
set_option maxRecDepth 20000 in
def kc_X4_init : am_C := [(0, .aload 0, 1), (1, .pop2, 4), (4, .return_, 5)]
set_option maxRecDepth 20000 in
def kp_X4_init : List (Instr × Nat) := [(.aload_n 0, 0), (.invokespecial 1, 243), (.return_, 0)]
set_option maxRecDepth 20000 in
def kc_X4_begin : am_C := [(0, .aload 0, 1), (1, .iload 1, 2), (2, .putfield 256, 5), (5, .aload 0, 6), (6, .iload 2, 7), (7, .putfield 257, 10), (10, .aload 0, 11), (11, .iload 3, 12), (12, .putfield 258, 15), (15, .aload 0, 16), (16, .iload 4, 18), (18, .putfield 259, 21), (21, .aload 0, 22), (22, .iconst 0, 23), (23, .putfield 260, 26), (26, .aload 0, 27), (27, .iconst 0, 28), (28, .putfield 261, 31), (31, .aload 0, 32), (32, .iconst 0, 33), (33, .putfield 262, 36), (36, .return_, 37)]
set_option maxRecDepth 20000 in
def kp_X4_begin : List (Instr × Nat) := [(.aload_n 0, 0), (.iload_n 1, 0), (.putfield 7, 244), (.aload_n 0, 0), (.iload_n 2, 0), (.putfield 13, 247), (.aload_n 0, 0), (.iload_n 3, 0), (.putfield 16, 251), (.aload_n 0, 0), (.iload 4, 0), (.putfield 19, 254), (.aload_n 0, 0), (.iconst 0, 0), (.putfield 22, 257), (.aload_n 0, 0), (.iconst 0, 0), (.putfield 25, 260), (.aload_n 0, 0), (.iconst 0, 0), (.putfield 29, 263), (.return_, 0)]
set_option maxRecDepth 20000 in
def kc_X4_become : am_C := [(0, .aload 0, 1), (1, .aload 1, 2), (2, .getfield 256, 5), (5, .putfield 256, 8), (8, .aload 0, 9), (9, .aload 1, 10), (10, .getfield 257, 13), (13, .putfield 257, 16), (16, .aload 0, 17), (17, .aload 1, 18), (18, .getfield 258, 21), (21, .putfield 258, 24), (24, .aload 0, 25), (25, .aload 1, 26), (26, .getfield 259, 29), (29, .putfield 259, 32), (32, .aload 0, 33), (33, .aload 1, 34), (34, .getfield 260, 37), (37, .putfield 260, 40), (40, .aload 0, 41), (41, .aload 1, 42), (42, .getfield 261, 45), (45, .putfield 261, 48), (48, .aload 0, 49), (49, .aload 1, 50), (50, .getfield 262, 53), (53, .putfield 262, 56), (56, .return_, 57)]
set_option maxRecDepth 20000 in
def kp_X4_become : List (Instr × Nat) := [(.aload_n 0, 0), (.aload_n 1, 0), (.getfield 7, 244), (.putfield 7, 244), (.aload_n 0, 0), (.aload_n 1, 0), (.getfield 13, 247), (.putfield 13, 247), (.aload_n 0, 0), (.aload_n 1, 0), (.getfield 16, 251), (.putfield 16, 251), (.aload_n 0, 0), (.aload_n 1, 0), (.getfield 19, 254), (.putfield 19, 254), (.aload_n 0, 0), (.aload_n 1, 0), (.getfield 22, 257), (.putfield 22, 257), (.aload_n 0, 0), (.aload_n 1, 0), (.getfield 25, 260), (.putfield 25, 260), (.aload_n 0, 0), (.aload_n 1, 0), (.getfield 29, 263), (.putfield 29, 263), (.return_, 0)]
set_option maxRecDepth 20000 in
def kc_X5_init : am_C := [(0, .aload 0, 1), (1, .pop2, 4), (4, .aload 0, 5), (5, .iconst 96, 7), (7, .newarray .int, 9), (9, .putstatic 320, 12), (12, .aload 0, 13), (13, .iconst 0, 14), (14, .putfield 321, 17), (17, .aload 0, 18), (18, .new 8, 21), (21, .dup, 22), (22, .invokespecial 47, 25), (25, .putstatic 322, 28), (28, .aload 0, 29), (29, .iconst 0, 30), (30, .putfield 323, 33), (33, .aload 0, 34), (34, .iconst 0, 35), (35, .putfield 324, 38), (38, .aload 0, 39), (39, .iconst 0, 40), (40, .putfield 325, 43), (43, .aload 0, 44), (44, .iconst 0, 45), (45, .putfield 326, 48), (48, .return_, 49)]
set_option maxRecDepth 20000 in
def kp_X5_init : List (Instr × Nat) := [(.aload_n 0, 0), (.invokespecial 3, 139), (.aload_n 0, 0), (.bipush 96, 0), (.newarray .int, 0), (.putfield 9, 142), (.aload_n 0, 0), (.iconst 0, 0), (.putfield 15, 143), (.aload_n 0, 0), (.new 19, 140), (.dup, 0), (.invokespecial 21, 5002), (.putfield 22, 145), (.aload_n 0, 0), (.iconst 0, 0), (.putfield 26, 147), (.aload_n 0, 0), (.iconst 0, 0), (.putfield 29, 148), (.aload_n 0, 0), (.iconst 0, 0), (.putfield 32, 149), (.aload_n 0, 0), (.iconst 0, 0), (.putfield 35, 150), (.return_, 0)]
set_option maxRecDepth 20000 in
def kc_X5_takeBytes : am_C := [(0, .iconst 24, 2), (2, .istore 2, 3), (3, .iload 2, 4), (4, .ifCond .lt 48, 7), (7, .aload 0, 8), (8, .getfield 321, 11), (11, .iconst 96, 13), (13, .if_icmp .ge 48, 16), (16, .aload 0, 17), (17, .getfield 320, 20), (20, .aload 0, 21), (21, .getfield 321, 24), (24, .iload 1, 25), (25, .iload 2, 26), (26, .iushr, 27), (27, .iconst 255, 30), (30, .iand, 31), (31, .iastore, 32), (32, .aload 0, 33), (33, .dup, 34), (34, .getfield 321, 37), (37, .iconst 1, 38), (38, .iadd, 39), (39, .putfield 321, 42), (42, .iinc 2 (-8), 45), (45, .goto 3, 48), (48, .return_, 49)]
set_option maxRecDepth 20000 in
def kp_X5_takeBytes : List (Instr × Nat) := [(.bipush 24, 0), (.istore_n 2, 0), (.iload_n 2, 0), (.ifCond .lt 44, 0), (.aload_n 0, 0), (.getfield 15, 143), (.bipush 96, 0), (.if_icmp .ge 35, 0), (.aload_n 0, 0), (.getfield 9, 142), (.aload_n 0, 0), (.getfield 15, 143), (.iload_n 1, 0), (.iload_n 2, 0), (.iushr, 0), (.sipush 255, 0), (.iand, 0), (.iastore, 0), (.aload_n 0, 0), (.dup, 0), (.getfield 15, 143), (.iconst 1, 0), (.iadd, 0), (.putfield 15, 143), (.iinc 2 (-8), 0), (.goto (-42), 0), (.return_, 0)]
set_option maxRecDepth 20000 in
def kc_X5_read : am_C := [(0, .aload 0, 1), (1, .getfield 322, 4), (4, .invokevirtual 48, 7), (7, .aload 0, 8), (8, .iconst 0, 9), (9, .putfield 323, 12), (12, .aload 0, 13), (13, .iconst 0, 14), (14, .putfield 325, 17), (17, .aload 0, 18), (18, .invokevirtual 25, 21), (21, .aload 0, 22), (22, .invokevirtual 28, 25), (25, .ifCond .eq 49, 28), (28, .aload 0, 29), (29, .iconst 0, 30), (30, .iconst 0, 31), (31, .iconst 0, 32), (32, .invokevirtual 34, 35), (35, .ifCond .eq 49, 38), (38, .aload 0, 39), (39, .getfield 323, 42), (42, .ifCond .ne 49, 45), (45, .iconst 1, 46), (46, .goto 50, 49), (49, .iconst 0, 50), (50, .istore 1, 51), (51, .iload 1, 52), (52, .ifCond .eq 59, 55), (55, .iconst (-1), 56), (56, .goto 63, 59), (59, .aload 0, 60), (60, .getfield 324, 63), (63, .ireturn, 64)]
set_option maxRecDepth 20000 in
def kp_X5_read : List (Instr × Nat) := [(.aload_n 0, 0), (.getfield 22, 145), (.invokevirtual 39, 746), (.aload_n 0, 0), (.iconst 0, 0), (.putfield 26, 147), (.aload_n 0, 0), (.iconst 0, 0), (.putfield 32, 149), (.aload_n 0, 0), (.invokevirtual 42, 750), (.aload_n 0, 0), (.invokevirtual 45, 757), (.ifCond .eq 24, 0), (.aload_n 0, 0), (.iconst 0, 0), (.iconst 0, 0), (.iconst 0, 0), (.invokevirtual 49, 820), (.ifCond .eq 14, 0), (.aload_n 0, 0), (.getfield 26, 147), (.ifCond .ne 7, 0), (.iconst 1, 0), (.goto 4, 0), (.iconst 0, 0), (.istore_n 1, 0), (.iload_n 1, 0), (.ifCond .eq 7, 0), (.iconst (-1), 0), (.goto 7, 0), (.aload_n 0, 0), (.getfield 29, 148), (.ireturn, 0)]
set_option maxRecDepth 20000 in
def kc_X5_step : am_C := [(0, .aload 0, 1), (1, .getfield 323, 4), (4, .iconst 1, 5), (5, .if_icmp .eq 16, 8), (8, .aload 0, 9), (9, .getfield 323, 12), (12, .iconst 2, 13), (13, .if_icmp .ne 20, 16), (16, .iconst 1, 17), (17, .goto 21, 20), (20, .iconst 0, 21), (21, .istore 1, 22), (22, .aload 0, 23), (23, .getfield 325, 26), (26, .istore 2, 27), (27, .iload 2, 28), (28, .aload 0, 29), (29, .getfield 321, 32), (32, .if_icmp .ge 52, 35), (35, .aload 0, 36), (36, .getfield 320, 39), (39, .iload 2, 40), (40, .iaload, 41), (41, .iconst 32, 43), (43, .if_icmp .ne 52, 46), (46, .iinc 2 1, 49), (49, .goto 27, 52), (52, .aload 0, 53), (53, .iload 1, 54), (54, .ifCond .eq 69, 57), (57, .iload 2, 58), (58, .aload 0, 59), (59, .getfield 325, 62), (62, .if_icmp .ne 69, 65), (65, .iconst 1, 66), (66, .goto 70, 69), (69, .iconst 0, 70), (70, .putfield 326, 73), (73, .aload 0, 74), (74, .iload 2, 75), (75, .putfield 324, 78), (78, .iload 2, 79), (79, .aload 0, 80), (80, .getfield 321, 83), (83, .if_icmp .lt 97, 86), (86, .aload 0, 87), (87, .iconst 0, 88), (88, .putfield 323, 91), (91, .aload 0, 92), (92, .iload 2, 93), (93, .putfield 325, 96), (96, .return_, 97), (97, .aload 0, 98), (98, .aload 0, 99), (99, .getfield 320, 102), (102, .iload 2, 103), (103, .iaload, 104), (104, .invokestatic 26, 107), (107, .putfield 323, 110), (110, .iinc 2 1, 113), (113, .iload 2, 114), (114, .aload 0, 115), (115, .getfield 321, 118), (118, .if_icmp .ge 151, 121), (121, .aload 0, 122), (122, .getfield 323, 125), (125, .iconst 3, 126), (126, .if_icmp .eq 151, 129), (129, .aload 0, 130), (130, .getfield 320, 133), (133, .iload 2, 134), (134, .iaload, 135), (135, .invokestatic 26, 138), (138, .aload 0, 139), (139, .getfield 323, 142), (142, .if_icmp .ne 151, 145), (145, .iinc 2 1, 148), (148, .goto 113, 151), (151, .aload 0, 152), (152, .iload 2, 153), (153, .putfield 325, 156), (156, .return_, 157)]
set_option maxRecDepth 20000 in
def kp_X5_step : List (Instr × Nat) := [(.aload_n 0, 0), (.getfield 26, 147), (.iconst 1, 0), (.if_icmp .eq 11, 0), (.aload_n 0, 0), (.getfield 26, 147), (.iconst 2, 0), (.if_icmp .ne 7, 0), (.iconst 1, 0), (.goto 4, 0), (.iconst 0, 0), (.istore_n 1, 0), (.aload_n 0, 0), (.getfield 32, 149), (.istore_n 2, 0), (.iload_n 2, 0), (.aload_n 0, 0), (.getfield 15, 143), (.if_icmp .ge 20, 0), (.aload_n 0, 0), (.getfield 9, 142), (.iload_n 2, 0), (.iaload, 0), (.bipush 32, 0), (.if_icmp .ne 9, 0), (.iinc 2 1, 0), (.goto (-22), 0), (.aload_n 0, 0), (.iload_n 1, 0), (.ifCond .eq 15, 0), (.iload_n 2, 0), (.aload_n 0, 0), (.getfield 32, 149), (.if_icmp .ne 7, 0), (.iconst 1, 0), (.goto 4, 0), (.iconst 0, 0), (.putfield 35, 150), (.aload_n 0, 0), (.iload_n 2, 0), (.putfield 29, 148), (.iload_n 2, 0), (.aload_n 0, 0), (.getfield 15, 143), (.if_icmp .lt 14, 0), (.aload_n 0, 0), (.iconst 0, 0), (.putfield 26, 147), (.aload_n 0, 0), (.iload_n 2, 0), (.putfield 32, 149), (.return_, 0), (.aload_n 0, 0), (.aload_n 0, 0), (.getfield 9, 142), (.iload_n 2, 0), (.iaload, 0), (.invokestatic 53, 754), (.putfield 26, 147), (.iinc 2 1, 0), (.iload_n 2, 0), (.aload_n 0, 0), (.getfield 15, 143), (.if_icmp .ge 33, 0), (.aload_n 0, 0), (.getfield 26, 147), (.iconst 3, 0), (.if_icmp .eq 25, 0), (.aload_n 0, 0), (.getfield 9, 142), (.iload_n 2, 0), (.iaload, 0), (.invokestatic 53, 754), (.aload_n 0, 0), (.getfield 26, 147), (.if_icmp .ne 9, 0), (.iinc 2 1, 0), (.goto (-35), 0), (.aload_n 0, 0), (.iload_n 2, 0), (.putfield 32, 149), (.return_, 0)]
set_option maxRecDepth 20000 in
def kc_X5_formOf : am_C := [(0, .iload 0, 1), (1, .iconst 97, 3), (3, .if_icmp .lt 14, 6), (6, .iload 0, 7), (7, .iconst 122, 9), (9, .if_icmp .gt 14, 12), (12, .iconst 1, 13), (13, .ireturn, 14), (14, .iload 0, 15), (15, .iconst 48, 17), (17, .if_icmp .lt 30, 20), (20, .iload 0, 21), (21, .iconst 57, 23), (23, .if_icmp .gt 30, 26), (26, .iconst 2, 27), (27, .goto 31, 30), (30, .iconst 3, 31), (31, .ireturn, 32)]
set_option maxRecDepth 20000 in
def kp_X5_formOf : List (Instr × Nat) := [(.iload_n 0, 0), (.bipush 97, 0), (.if_icmp .lt 11, 0), (.iload_n 0, 0), (.bipush 122, 0), (.if_icmp .gt 5, 0), (.iconst 1, 0), (.ireturn, 0), (.iload_n 0, 0), (.bipush 48, 0), (.if_icmp .lt 13, 0), (.iload_n 0, 0), (.bipush 57, 0), (.if_icmp .gt 7, 0), (.iconst 2, 0), (.goto 4, 0), (.iconst 3, 0), (.ireturn, 0)]
set_option maxRecDepth 20000 in
def kc_X5_isSign : am_C := [(0, .aload 0, 1), (1, .getfield 323, 4), (4, .iconst 3, 5), (5, .if_icmp .ne 36, 8), (8, .aload 0, 9), (9, .getfield 324, 12), (12, .aload 0, 13), (13, .getfield 321, 16), (16, .if_icmp .ge 36, 19), (19, .aload 0, 20), (20, .getfield 320, 23), (23, .aload 0, 24), (24, .getfield 324, 27), (27, .iaload, 28), (28, .iload 1, 29), (29, .if_icmp .ne 36, 32), (32, .iconst 1, 33), (33, .goto 37, 36), (36, .iconst 0, 37), (37, .freturn, 38)]
set_option maxRecDepth 20000 in
def kp_X5_isSign : List (Instr × Nat) := [(.aload_n 0, 0), (.getfield 26, 147), (.iconst 3, 0), (.if_icmp .ne 31, 0), (.aload_n 0, 0), (.getfield 29, 148), (.aload_n 0, 0), (.getfield 15, 143), (.if_icmp .ge 20, 0), (.aload_n 0, 0), (.getfield 9, 142), (.aload_n 0, 0), (.getfield 29, 148), (.iaload, 0), (.iload_n 1, 0), (.if_icmp .ne 7, 0), (.iconst 1, 0), (.goto 4, 0), (.iconst 0, 0), (.ireturn, 0)]
set_option maxRecDepth 20000 in
def kc_X5_readKey : am_C := [(0, .iconst 0, 1), (1, .istore 1, 2), (2, .iload 1, 3), (3, .iconst 4, 4), (4, .if_icmp .ge 46, 7), (7, .aload 0, 8), (8, .getfield 323, 11), (11, .iconst 1, 12), (12, .if_icmp .ne 40, 15), (15, .aload 0, 16), (16, .iload 1, 17), (17, .invokestatic 29, 20), (20, .invokevirtual 31, 23), (23, .ifCond .eq 40, 26), (26, .aload 0, 27), (27, .getfield 322, 30), (30, .iload 1, 31), (31, .putfield 512, 34), (34, .aload 0, 35), (35, .invokevirtual 25, 38), (38, .iconst 1, 39), (39, .freturn, 40), (40, .iinc 1 1, 43), (43, .goto 2, 46), (46, .iconst 0, 47), (47, .freturn, 48)]
set_option maxRecDepth 20000 in
def kp_X5_readKey : List (Instr × Nat) := [(.iconst 0, 0), (.istore_n 1, 0), (.iload_n 1, 0), (.iconst 4, 0), (.if_icmp .ge 42, 0), (.aload_n 0, 0), (.getfield 26, 147), (.iconst 1, 0), (.if_icmp .ne 28, 0), (.aload_n 0, 0), (.iload_n 1, 0), (.invokestatic 57, 761), (.invokevirtual 61, 768), (.ifCond .eq 17, 0), (.aload_n 0, 0), (.getfield 22, 145), (.iload_n 1, 0), (.putfield 65, 105), (.aload_n 0, 0), (.invokevirtual 42, 750), (.iconst 1, 0), (.ireturn, 0), (.iinc 1 1, 0), (.goto (-41), 0), (.iconst 0, 0), (.ireturn, 0)]
set_option maxRecDepth 20000 in
def kc_X5_keyWord : am_C := [(0, .iload 0, 1), (1, .tableswitch 37 0 2 #[28, 31, 34], 28), (28, .ldc 0, 30), (30, .areturn, 31), (31, .ldc 1, 33), (33, .areturn, 34), (34, .ldc 2, 36), (36, .areturn, 37), (37, .ldc 3, 39), (39, .areturn, 40)]
set_option maxRecDepth 20000 in
def kp_X5_keyWord : List (Instr × Nat) := [(.iload_n 0, 0), (.tableswitch 36 0 2 #[27, 30, 33], 0), (.ldc 68, 0), (.areturn, 0), (.ldc 70, 0), (.areturn, 0), (.ldc 72, 0), (.areturn, 0), (.ldc 74, 0), (.areturn, 0)]
set_option maxRecDepth 20000 in
def kc_X5_keyNames : am_C := [(0, .iload 0, 1), (1, .tableswitch 37 0 2 #[28, 31, 34], 28), (28, .ldc 4, 30), (30, .areturn, 31), (31, .ldc 5, 33), (33, .areturn, 34), (34, .ldc 6, 36), (36, .areturn, 37), (37, .ldc 7, 39), (39, .areturn, 40)]
set_option maxRecDepth 20000 in
def kp_X5_keyNames : List (Instr × Nat) := [(.iload_n 0, 0), (.tableswitch 36 0 2 #[27, 30, 33], 0), (.ldc 76, 0), (.areturn, 0), (.ldc 78, 0), (.areturn, 0), (.ldc 80, 0), (.areturn, 0), (.ldc 82, 0), (.areturn, 0)]
set_option maxRecDepth 20000 in
def kc_X5_isWord : am_C := [(0, .aload 0, 1), (1, .getfield 325, 4), (4, .aload 0, 5), (5, .getfield 324, 8), (8, .isub, 9), (9, .aload 1, 10), (10, .invokevirtual 242, 13), (13, .if_icmp .eq 18, 16), (16, .iconst 0, 17), (17, .freturn, 18), (18, .iconst 0, 19), (19, .istore 2, 20), (20, .iload 2, 21), (21, .aload 1, 22), (22, .invokevirtual 242, 25), (25, .if_icmp .ge 55, 28), (28, .aload 0, 29), (29, .getfield 320, 32), (32, .aload 0, 33), (33, .getfield 324, 36), (36, .iload 2, 37), (37, .iadd, 38), (38, .iaload, 39), (39, .aload 1, 40), (40, .iload 2, 41), (41, .invokevirtual 243, 44), (44, .if_icmp .eq 49, 47), (47, .iconst 0, 48), (48, .freturn, 49), (49, .iinc 2 1, 52), (52, .goto 20, 55), (55, .iconst 1, 56), (56, .freturn, 57)]
set_option maxRecDepth 20000 in
def kp_X5_isWord : List (Instr × Nat) := [(.aload_n 0, 0), (.getfield 32, 149), (.aload_n 0, 0), (.getfield 29, 148), (.isub, 0), (.aload_n 1, 0), (.invokevirtual 84, 772), (.if_icmp .eq 5, 0), (.iconst 0, 0), (.ireturn, 0), (.iconst 0, 0), (.istore_n 2, 0), (.iload_n 2, 0), (.aload_n 1, 0), (.invokevirtual 84, 772), (.if_icmp .ge 30, 0), (.aload_n 0, 0), (.getfield 9, 142), (.aload_n 0, 0), (.getfield 29, 148), (.iload_n 2, 0), (.iadd, 0), (.iaload, 0), (.aload_n 1, 0), (.iload_n 2, 0), (.invokevirtual 90, 782), (.if_icmp .eq 5, 0), (.iconst 0, 0), (.ireturn, 0), (.iinc 2 1, 0), (.goto (-32), 0), (.iconst 1, 0), (.ireturn, 0)]
set_option maxRecDepth 20000 in
def kc_X5_signsOf : am_C := [(0, .iload 0, 1), (1, .tableswitch 44 0 3 #[32, 35, 38, 41], 32), (32, .ldc 8, 34), (34, .areturn, 35), (35, .ldc 9, 37), (37, .areturn, 38), (38, .ldc 10, 40), (40, .areturn, 41), (41, .ldc 11, 43), (43, .areturn, 44), (44, .ldc 12, 46), (46, .areturn, 47)]
set_option maxRecDepth 20000 in
def kp_X5_signsOf : List (Instr × Nat) := [(.iload_n 0, 0), (.tableswitch 43 0 3 #[31, 34, 37, 40], 0), (.ldc 94, 0), (.areturn, 0), (.ldc 96, 0), (.areturn, 0), (.ldc 98, 0), (.areturn, 0), (.ldc 100, 0), (.areturn, 0), (.ldc 102, 0), (.areturn, 0)]
set_option maxRecDepth 20000 in
def kc_X5_isSignOf : am_C := [(0, .aload 0, 1), (1, .getfield 323, 4), (4, .iconst 3, 5), (5, .if_icmp .ne 43, 8), (8, .aload 0, 9), (9, .getfield 324, 12), (12, .aload 0, 13), (13, .getfield 321, 16), (16, .if_icmp .ge 43, 19), (19, .iload 1, 20), (20, .invokestatic 32, 23), (23, .aload 0, 24), (24, .getfield 320, 27), (27, .aload 0, 28), (28, .getfield 324, 31), (31, .iaload, 32), (32, .i2c, 33), (33, .invokevirtual 244, 36), (36, .ifCond .lt 43, 39), (39, .iconst 1, 40), (40, .goto 44, 43), (43, .iconst 0, 44), (44, .freturn, 45)]
set_option maxRecDepth 20000 in
def kp_X5_isSignOf : List (Instr × Nat) := [(.aload_n 0, 0), (.getfield 26, 147), (.iconst 3, 0), (.if_icmp .ne 38, 0), (.aload_n 0, 0), (.getfield 29, 148), (.aload_n 0, 0), (.getfield 15, 143), (.if_icmp .ge 27, 0), (.iload_n 1, 0), (.invokestatic 104, 915), (.aload_n 0, 0), (.getfield 9, 142), (.aload_n 0, 0), (.getfield 29, 148), (.iaload, 0), (.i2c, 0), (.invokevirtual 107, 851), (.ifCond .lt 7, 0), (.iconst 1, 0), (.goto 4, 0), (.iconst 0, 0), (.ireturn, 0)]
set_option maxRecDepth 20000 in
def kc_X5_readLevel : am_C := [(0, .iload 1, 1), (1, .iconst 5, 2), (2, .if_icmp .lt 12, 5), (5, .aload 0, 6), (6, .iload 2, 7), (7, .iload 3, 8), (8, .invokevirtual 35, 11), (11, .freturn, 12), (12, .aload 0, 13), (13, .iload 1, 14), (14, .iconst 1, 15), (15, .iadd, 16), (16, .iload 2, 17), (17, .iload 3, 18), (18, .invokevirtual 34, 21), (21, .istore 4, 23), (23, .iload 1, 24), (24, .iconst 2, 25), (25, .if_icmp .ne 32, 28), (28, .iconst 1, 29), (29, .goto 34, 32), (32, .iconst 96, 34), (34, .istore 5, 36), (36, .iconst 0, 37), (37, .istore 6, 39), (39, .iload 6, 41), (41, .iload 5, 43), (43, .if_icmp .ge 101, 46), (46, .iload 4, 48), (48, .ifCond .eq 101, 51), (51, .aload 0, 52), (52, .iload 1, 53), (53, .invokevirtual 33, 56), (56, .ifCond .eq 101, 59), (59, .aload 0, 60), (60, .getfield 320, 63), (63, .aload 0, 64), (64, .getfield 324, 67), (67, .iaload, 68), (68, .istore 7, 70), (70, .aload 0, 71), (71, .invokevirtual 25, 74), (74, .aload 0, 75), (75, .iload 1, 76), (76, .iconst 1, 77), (77, .iadd, 78), (78, .iload 2, 79), (79, .iload 3, 80), (80, .invokevirtual 34, 83), (83, .istore 4, 85), (85, .aload 0, 86), (86, .getfield 322, 89), (89, .iload 7, 91), (91, .ineg, 92), (92, .invokevirtual 51, 95), (95, .iinc 6 1, 98), (98, .goto 39, 101), (101, .iload 4, 103), (103, .freturn, 104)]
set_option maxRecDepth 20000 in
def kp_X5_readLevel : List (Instr × Nat) := [(.iload_n 1, 0), (.iconst 5, 0), (.if_icmp .lt 10, 0), (.aload_n 0, 0), (.iload_n 2, 0), (.iload_n 3, 0), (.invokevirtual 110, 824), (.ireturn, 0), (.aload_n 0, 0), (.iload_n 1, 0), (.iconst 1, 0), (.iadd, 0), (.iload_n 2, 0), (.iload_n 3, 0), (.invokevirtual 49, 820), (.istore 4, 0), (.iload_n 1, 0), (.iconst 2, 0), (.if_icmp .ne 7, 0), (.iconst 1, 0), (.goto 5, 0), (.bipush 96, 0), (.istore 5, 0), (.iconst 0, 0), (.istore 6, 0), (.iload 6, 0), (.iload 5, 0), (.if_icmp .ge 58, 0), (.iload 4, 0), (.ifCond .eq 53, 0), (.aload_n 0, 0), (.iload_n 1, 0), (.invokevirtual 114, 911), (.ifCond .eq 45, 0), (.aload_n 0, 0), (.getfield 9, 142), (.aload_n 0, 0), (.getfield 29, 148), (.iaload, 0), (.istore 7, 0), (.aload_n 0, 0), (.invokevirtual 42, 750), (.aload_n 0, 0), (.iload_n 1, 0), (.iconst 1, 0), (.iadd, 0), (.iload_n 2, 0), (.iload_n 3, 0), (.invokevirtual 49, 820), (.istore 4, 0), (.aload_n 0, 0), (.getfield 22, 145), (.iload 7, 0), (.ineg, 0), (.invokevirtual 118, 910), (.iinc 6 1, 0), (.goto (-59), 0), (.iload 4, 0), (.ireturn, 0)]
set_option maxRecDepth 20000 in
def kc_X5_readPiece : am_C := [(0, .aload 0, 1), (1, .getfield 323, 4), (4, .iconst 2, 5), (5, .if_icmp .ne 13, 8), (8, .aload 0, 9), (9, .invokevirtual 36, 12), (12, .freturn, 13), (13, .aload 0, 14), (14, .getfield 323, 17), (17, .iconst 1, 18), (18, .if_icmp .ne 26, 21), (21, .aload 0, 22), (22, .invokevirtual 37, 25), (25, .freturn, 26), (26, .aload 0, 27), (27, .iconst 33, 29), (29, .invokevirtual 27, 32), (32, .ifCond .eq 65, 35), (35, .iload 2, 36), (36, .iconst 8, 38), (38, .if_icmp .ge 65, 41), (41, .aload 0, 42), (42, .invokevirtual 25, 45), (45, .aload 0, 46), (46, .iload 1, 47), (47, .iload 2, 48), (48, .iconst 1, 49), (49, .iadd, 50), (50, .invokevirtual 35, 53), (53, .istore 3, 54), (54, .aload 0, 55), (55, .getfield 322, 58), (58, .iconst (-33), 60), (60, .invokevirtual 51, 63), (63, .iload 3, 64), (64, .freturn, 65), (65, .aload 0, 66), (66, .iconst 40, 68), (68, .invokevirtual 27, 71), (71, .ifCond .eq 113, 74), (74, .iload 1, 75), (75, .iconst 8, 77), (77, .if_icmp .ge 113, 80), (80, .aload 0, 81), (81, .invokevirtual 25, 84), (84, .aload 0, 85), (85, .iconst 0, 86), (86, .iload 1, 87), (87, .iconst 1, 88), (88, .iadd, 89), (89, .iload 2, 90), (90, .invokevirtual 34, 93), (93, .ifCond .eq 105, 96), (96, .aload 0, 97), (97, .iconst 41, 99), (99, .invokevirtual 27, 102), (102, .ifCond .ne 107, 105), (105, .iconst 0, 106), (106, .freturn, 107), (107, .aload 0, 108), (108, .invokevirtual 25, 111), (111, .iconst 1, 112), (112, .freturn, 113), (113, .iconst 0, 114), (114, .freturn, 115)]
set_option maxRecDepth 20000 in
def kp_X5_readPiece : List (Instr × Nat) := [(.aload_n 0, 0), (.getfield 26, 147), (.iconst 2, 0), (.if_icmp .ne 8, 0), (.aload_n 0, 0), (.invokevirtual 122, 828), (.ireturn, 0), (.aload_n 0, 0), (.getfield 26, 147), (.iconst 1, 0), (.if_icmp .ne 8, 0), (.aload_n 0, 0), (.invokevirtual 125, 840), (.ireturn, 0), (.aload_n 0, 0), (.bipush 33, 0), (.invokevirtual 128, 906), (.ifCond .eq 33, 0), (.iload_n 2, 0), (.bipush 8, 0), (.if_icmp .ge 27, 0), (.aload_n 0, 0), (.invokevirtual 42, 750), (.aload_n 0, 0), (.iload_n 1, 0), (.iload_n 2, 0), (.iconst 1, 0), (.iadd, 0), (.invokevirtual 110, 824), (.istore_n 3, 0), (.aload_n 0, 0), (.getfield 22, 145), (.bipush (-33), 0), (.invokevirtual 118, 910), (.iload_n 3, 0), (.ireturn, 0), (.aload_n 0, 0), (.bipush 40, 0), (.invokevirtual 128, 906), (.ifCond .eq 42, 0), (.iload_n 1, 0), (.bipush 8, 0), (.if_icmp .ge 36, 0), (.aload_n 0, 0), (.invokevirtual 42, 750), (.aload_n 0, 0), (.iconst 0, 0), (.iload_n 1, 0), (.iconst 1, 0), (.iadd, 0), (.iload_n 2, 0), (.invokevirtual 49, 820), (.ifCond .eq 12, 0), (.aload_n 0, 0), (.bipush 41, 0), (.invokevirtual 128, 906), (.ifCond .ne 5, 0), (.iconst 0, 0), (.ireturn, 0), (.aload_n 0, 0), (.invokevirtual 42, 750), (.iconst 1, 0), (.ireturn, 0), (.iconst 0, 0), (.ireturn, 0)]
set_option maxRecDepth 20000 in
def kc_X5_readNumber : am_C := [(0, .aload 0, 1), (1, .getfield 326, 4), (4, .ifCond .ne 20, 7), (7, .aload 0, 8), (8, .getfield 325, 11), (11, .aload 0, 12), (12, .getfield 324, 15), (15, .isub, 16), (16, .iconst 4, 17), (17, .if_icmp .le 22, 20), (20, .iconst 0, 21), (21, .freturn, 22), (22, .iconst 0, 23), (23, .istore 1, 24), (24, .aload 0, 25), (25, .getfield 324, 28), (28, .istore 2, 29), (29, .iload 2, 30), (30, .aload 0, 31), (31, .getfield 325, 34), (34, .if_icmp .ge 58, 37), (37, .iload 1, 38), (38, .iconst 10, 40), (40, .imul, 41), (41, .aload 0, 42), (42, .getfield 320, 45), (45, .iload 2, 46), (46, .iaload, 47), (47, .iadd, 48), (48, .iconst 48, 50), (50, .isub, 51), (51, .istore 1, 52), (52, .iinc 2 1, 55), (55, .goto 29, 58), (58, .aload 0, 59), (59, .getfield 322, 62), (62, .iload 1, 63), (63, .invokevirtual 50, 66), (66, .aload 0, 67), (67, .invokevirtual 25, 70), (70, .iconst 1, 71), (71, .freturn, 72)]
set_option maxRecDepth 20000 in
def kp_X5_readNumber : List (Instr × Nat) := [(.aload_n 0, 0), (.getfield 35, 150), (.ifCond .ne 16, 0), (.aload_n 0, 0), (.getfield 32, 149), (.aload_n 0, 0), (.getfield 29, 148), (.isub, 0), (.iconst 4, 0), (.if_icmp .le 5, 0), (.iconst 0, 0), (.ireturn, 0), (.iconst 0, 0), (.istore_n 1, 0), (.aload_n 0, 0), (.getfield 29, 148), (.istore_n 2, 0), (.iload_n 2, 0), (.aload_n 0, 0), (.getfield 32, 149), (.if_icmp .ge 24, 0), (.iload_n 1, 0), (.bipush 10, 0), (.imul, 0), (.aload_n 0, 0), (.getfield 9, 142), (.iload_n 2, 0), (.iaload, 0), (.iadd, 0), (.bipush 48, 0), (.isub, 0), (.istore_n 1, 0), (.iinc 2 1, 0), (.goto (-26), 0), (.aload_n 0, 0), (.getfield 22, 145), (.iload_n 1, 0), (.invokevirtual 132, 832), (.aload_n 0, 0), (.invokevirtual 42, 750), (.iconst 1, 0), (.ireturn, 0)]
set_option maxRecDepth 20000 in
def kc_X5_readName : am_C := [(0, .aload 0, 1), (1, .getfield 326, 4), (4, .ifCond .ne 46, 7), (7, .aload 0, 8), (8, .getfield 325, 11), (11, .aload 0, 12), (12, .getfield 324, 15), (15, .isub, 16), (16, .iconst 1, 17), (17, .if_icmp .ne 46, 20), (20, .aload 0, 21), (21, .getfield 322, 24), (24, .getfield 512, 27), (27, .invokestatic 30, 30), (30, .aload 0, 31), (31, .getfield 320, 34), (34, .aload 0, 35), (35, .getfield 324, 38), (38, .iaload, 39), (39, .i2c, 40), (40, .invokevirtual 244, 43), (43, .ifCond .ge 48, 46), (46, .iconst 0, 47), (47, .freturn, 48), (48, .aload 0, 49), (49, .getfield 322, 52), (52, .aload 0, 53), (53, .getfield 320, 56), (56, .aload 0, 57), (57, .getfield 324, 60), (60, .iaload, 61), (61, .ineg, 62), (62, .invokevirtual 50, 65), (65, .aload 0, 66), (66, .invokevirtual 25, 69), (69, .iconst 1, 70), (70, .freturn, 71)]
set_option maxRecDepth 20000 in
def kp_X5_readName : List (Instr × Nat) := [(.aload_n 0, 0), (.getfield 35, 150), (.ifCond .ne 42, 0), (.aload_n 0, 0), (.getfield 32, 149), (.aload_n 0, 0), (.getfield 29, 148), (.isub, 0), (.iconst 1, 0), (.if_icmp .ne 29, 0), (.aload_n 0, 0), (.getfield 22, 145), (.getfield 65, 105), (.invokestatic 135, 844), (.aload_n 0, 0), (.getfield 9, 142), (.aload_n 0, 0), (.getfield 29, 148), (.iaload, 0), (.i2c, 0), (.invokevirtual 107, 851), (.ifCond .ge 5, 0), (.iconst 0, 0), (.ireturn, 0), (.aload_n 0, 0), (.getfield 22, 145), (.aload_n 0, 0), (.getfield 9, 142), (.aload_n 0, 0), (.getfield 29, 148), (.iaload, 0), (.ineg, 0), (.invokevirtual 132, 832), (.aload_n 0, 0), (.invokevirtual 42, 750), (.iconst 1, 0), (.ireturn, 0)]
set_option maxRecDepth 20000 in
def kc_X6_init : am_C := [(0, .aload 0, 1), (1, .pop2, 4), (4, .aload 0, 5), (5, .iconst (-1), 6), (6, .putfield 384, 9), (9, .aload 0, 10), (10, .iconst 0, 11), (11, .putfield 385, 14), (14, .aload 0, 15), (15, .iconst 24, 17), (17, .newarray .int, 19), (19, .putstatic 386, 22), (22, .return_, 23)]
set_option maxRecDepth 20000 in
def kp_X6_init : List (Instr × Nat) := [(.aload_n 0, 0), (.invokespecial 3, 429), (.aload_n 0, 0), (.iconst (-1), 0), (.putfield 9, 430), (.aload_n 0, 0), (.iconst 0, 0), (.putfield 15, 432), (.aload_n 0, 0), (.bipush 24, 0), (.newarray .int, 0), (.putfield 18, 434), (.return_, 0)]
set_option maxRecDepth 20000 in
def kc_X6_begin : am_C := [(0, .aload 0, 1), (1, .iload 1, 2), (2, .putfield 384, 5), (5, .aload 0, 6), (6, .iload 2, 7), (7, .putfield 385, 10), (10, .iconst 0, 11), (11, .istore 3, 12), (12, .iload 3, 13), (13, .iconst 24, 15), (15, .if_icmp .ge 31, 18), (18, .aload 0, 19), (19, .getfield 386, 22), (22, .iload 3, 23), (23, .iconst 0, 24), (24, .iastore, 25), (25, .iinc 3 1, 28), (28, .goto 12, 31), (31, .return_, 32)]
set_option maxRecDepth 20000 in
def kp_X6_begin : List (Instr × Nat) := [(.aload_n 0, 0), (.iload_n 1, 0), (.putfield 9, 430), (.aload_n 0, 0), (.iload_n 2, 0), (.putfield 15, 432), (.iconst 0, 0), (.istore_n 3, 0), (.iload_n 3, 0), (.bipush 24, 0), (.if_icmp .ge 16, 0), (.aload_n 0, 0), (.getfield 18, 434), (.iload_n 3, 0), (.iconst 0, 0), (.iastore, 0), (.iinc 3 1, 0), (.goto (-16), 0), (.return_, 0)]
set_option maxRecDepth 20000 in
def kc_X6_become : am_C := [(0, .aload 0, 1), (1, .aload 1, 2), (2, .getfield 384, 5), (5, .putfield 384, 8), (8, .aload 0, 9), (9, .aload 1, 10), (10, .getfield 385, 13), (13, .putfield 385, 16), (16, .aload 1, 17), (17, .getfield 386, 20), (20, .iconst 0, 21), (21, .aload 0, 22), (22, .getfield 386, 25), (25, .iconst 0, 26), (26, .iconst 24, 28), (28, .invokedynamic 0, 31), (31, .return_, 32)]
set_option maxRecDepth 20000 in
def kp_X6_become : List (Instr × Nat) := [(.aload_n 0, 0), (.aload_n 1, 0), (.getfield 9, 430), (.putfield 9, 430), (.aload_n 0, 0), (.aload_n 1, 0), (.getfield 15, 432), (.putfield 15, 432), (.aload_n 1, 0), (.getfield 18, 434), (.iconst 0, 0), (.aload_n 0, 0), (.getfield 18, 434), (.iconst 0, 0), (.bipush 24, 0), (.invokestatic 22, 1126), (.return_, 0)]
set_option maxRecDepth 20000 in
def kc_X6_isMissing : am_C := [(0, .aload 0, 1), (1, .getfield 384, 4), (4, .iconst (-1), 5), (5, .if_icmp .ne 12, 8), (8, .iconst 1, 9), (9, .goto 13, 12), (12, .iconst 0, 13), (13, .freturn, 14)]
set_option maxRecDepth 20000 in
def kp_X6_isMissing : List (Instr × Nat) := [(.aload_n 0, 0), (.getfield 9, 430), (.iconst (-1), 0), (.if_icmp .ne 7, 0), (.iconst 1, 0), (.goto 4, 0), (.iconst 0, 0), (.ireturn, 0)]
set_option maxRecDepth 20000 in
def kc_X6_hasPlace : am_C := [(0, .iload 1, 1), (1, .ifCond .lt 16, 4), (4, .iload 1, 5), (5, .aload 0, 6), (6, .getfield 385, 9), (9, .if_icmp .ge 16, 12), (12, .iconst 1, 13), (13, .goto 17, 16), (16, .iconst 0, 17), (17, .freturn, 18)]
set_option maxRecDepth 20000 in
def kp_X6_hasPlace : List (Instr × Nat) := [(.iload_n 1, 0), (.ifCond .lt 15, 0), (.iload_n 1, 0), (.aload_n 0, 0), (.getfield 15, 432), (.if_icmp .ge 7, 0), (.iconst 1, 0), (.goto 4, 0), (.iconst 0, 0), (.ireturn, 0)]
set_option maxRecDepth 20000 in
def kc_X6_hasPlaces : am_C := [(0, .iload 1, 1), (1, .ifCond .lt 30, 4), (4, .iload 2, 5), (5, .ifCond .lt 30, 8), (8, .iload 1, 9), (9, .aload 0, 10), (10, .getfield 385, 13), (13, .if_icmp .gt 30, 16), (16, .iload 2, 17), (17, .aload 0, 18), (18, .getfield 385, 21), (21, .iload 1, 22), (22, .isub, 23), (23, .if_icmp .gt 30, 26), (26, .iconst 1, 27), (27, .goto 31, 30), (30, .iconst 0, 31), (31, .freturn, 32)]
set_option maxRecDepth 20000 in
def kp_X6_hasPlaces : List (Instr × Nat) := [(.iload_n 1, 0), (.ifCond .lt 29, 0), (.iload_n 2, 0), (.ifCond .lt 25, 0), (.iload_n 1, 0), (.aload_n 0, 0), (.getfield 15, 432), (.if_icmp .gt 17, 0), (.iload_n 2, 0), (.aload_n 0, 0), (.getfield 15, 432), (.iload_n 1, 0), (.isub, 0), (.if_icmp .gt 7, 0), (.iconst 1, 0), (.goto 4, 0), (.iconst 0, 0), (.ireturn, 0)]
set_option maxRecDepth 20000 in
def kc_X6_isNumber : am_C := [(0, .aload 0, 1), (1, .getfield 386, 4), (4, .iload 1, 5), (5, .iaload, 6), (6, .iconst (-1000000005), 8), (8, .if_icmp .eq 15, 11), (11, .iconst 1, 12), (12, .goto 16, 15), (15, .iconst 0, 16), (16, .freturn, 17)]
set_option maxRecDepth 20000 in
def kp_X6_isNumber : List (Instr × Nat) := [(.aload_n 0, 0), (.getfield 18, 434), (.iload_n 1, 0), (.iaload, 0), (.ldc 28, 1105), (.if_icmp .eq 7, 0), (.iconst 1, 0), (.goto 4, 0), (.iconst 0, 0), (.ireturn, 0)]
set_option maxRecDepth 20000 in
def kc_X7_init : am_C := [(0, .aload 0, 1), (1, .pop2, 4), (4, .aload 0, 5), (5, .iconst 0, 6), (6, .putfield 448, 9), (9, .aload 0, 10), (10, .iconst 0, 11), (11, .putfield 449, 14), (14, .aload 0, 15), (15, .iconst 0, 16), (16, .putfield 450, 19), (19, .aload 0, 20), (20, .new 6, 23), (23, .dup, 24), (24, .invokespecial 38, 27), (27, .putstatic 451, 30), (30, .return_, 31)]
set_option maxRecDepth 20000 in
def kp_X7_init : List (Instr × Nat) := [(.aload_n 0, 0), (.invokespecial 3, 447), (.aload_n 0, 0), (.iconst 0, 0), (.putfield 9, 450), (.aload_n 0, 0), (.iconst 0, 0), (.putfield 15, 452), (.aload_n 0, 0), (.iconst 0, 0), (.putfield 18, 454), (.aload_n 0, 0), (.new 21, 448), (.dup, 0), (.invokespecial 23, 5010), (.putfield 24, 456), (.return_, 0)]
set_option maxRecDepth 20000 in
def kc_X7_refusesAs : am_C := [(0, .aload 0, 1), (1, .getfield 448, 4), (4, .ifCond .ne 10, 7), (7, .iconst (-1000000011), 9), (9, .ireturn, 10), (10, .aload 0, 11), (11, .getfield 448, 14), (14, .iload 1, 15), (15, .if_icmp .ne 22, 18), (18, .iconst 0, 19), (19, .goto 24, 22), (22, .iconst (-1000000012), 24), (24, .ireturn, 25)]
set_option maxRecDepth 20000 in
def kp_X7_refusesAs : List (Instr × Nat) := [(.aload_n 0, 0), (.getfield 9, 450), (.ifCond .ne 6, 0), (.ldc 28, 1135), (.ireturn, 0), (.aload_n 0, 0), (.getfield 9, 450), (.iload_n 1, 0), (.if_icmp .ne 7, 0), (.iconst 0, 0), (.goto 5, 0), (.ldc 29, 1136), (.ireturn, 0)]
set_option maxRecDepth 20000 in
def kc_X8_init : am_C := [(0, .aload 0, 1), (1, .pop2, 4), (4, .aload 0, 5), (5, .iconst 0, 6), (6, .putfield 512, 9), (9, .aload 0, 10), (10, .iconst 0, 11), (11, .putfield 513, 14), (14, .aload 0, 15), (15, .iconst 0, 16), (16, .putfield 514, 19), (19, .aload 0, 20), (20, .iconst 96, 22), (22, .newarray .int, 24), (24, .putstatic 515, 27), (27, .return_, 28)]
set_option maxRecDepth 20000 in
def kp_X8_init : List (Instr × Nat) := [(.aload_n 0, 0), (.invokespecial 3, 103), (.aload_n 0, 0), (.iconst 0, 0), (.putfield 9, 104), (.aload_n 0, 0), (.iconst 0, 0), (.putfield 15, 107), (.aload_n 0, 0), (.iconst 0, 0), (.putfield 18, 109), (.aload_n 0, 0), (.bipush 96, 0), (.newarray .int, 0), (.putfield 21, 111), (.return_, 0)]
set_option maxRecDepth 20000 in
def kc_X8_begin : am_C := [(0, .aload 0, 1), (1, .iconst 0, 2), (2, .putfield 512, 5), (5, .aload 0, 6), (6, .iconst 0, 7), (7, .putfield 513, 10), (10, .aload 0, 11), (11, .iconst 0, 12), (12, .putfield 514, 15), (15, .return_, 16)]
set_option maxRecDepth 20000 in
def kp_X8_begin : List (Instr × Nat) := [(.aload_n 0, 0), (.iconst 0, 0), (.putfield 9, 104), (.aload_n 0, 0), (.iconst 0, 0), (.putfield 15, 107), (.aload_n 0, 0), (.iconst 0, 0), (.putfield 18, 109), (.return_, 0)]
set_option maxRecDepth 20000 in
def kc_X8_become : am_C := [(0, .aload 0, 1), (1, .aload 1, 2), (2, .getfield 512, 5), (5, .putfield 512, 8), (8, .aload 0, 9), (9, .aload 1, 10), (10, .getfield 513, 13), (13, .putfield 513, 16), (16, .aload 0, 17), (17, .aload 1, 18), (18, .getfield 514, 21), (21, .putfield 514, 24), (24, .aload 1, 25), (25, .getfield 515, 28), (28, .iconst 0, 29), (29, .aload 0, 30), (30, .getfield 515, 33), (33, .iconst 0, 34), (34, .iconst 96, 36), (36, .invokedynamic 0, 39), (39, .return_, 40)]
set_option maxRecDepth 20000 in
def kp_X8_become : List (Instr × Nat) := [(.aload_n 0, 0), (.aload_n 1, 0), (.getfield 9, 104), (.putfield 9, 104), (.aload_n 0, 0), (.aload_n 1, 0), (.getfield 15, 107), (.putfield 15, 107), (.aload_n 0, 0), (.aload_n 1, 0), (.getfield 18, 109), (.putfield 18, 109), (.aload_n 1, 0), (.getfield 21, 111), (.iconst 0, 0), (.aload_n 0, 0), (.getfield 21, 111), (.iconst 0, 0), (.bipush 96, 0), (.invokestatic 25, 927), (.return_, 0)]
set_option maxRecDepth 20000 in
def kc_X8_addAtom : am_C := [(0, .aload 0, 1), (1, .dup, 2), (2, .getfield 513, 5), (5, .iconst 1, 6), (6, .iadd, 7), (7, .putfield 513, 10), (10, .aload 0, 11), (11, .iload 1, 12), (12, .invokevirtual 51, 15), (15, .return_, 16)]
set_option maxRecDepth 20000 in
def kp_X8_addAtom : List (Instr × Nat) := [(.aload_n 0, 0), (.dup, 0), (.getfield 15, 107), (.iconst 1, 0), (.iadd, 0), (.putfield 15, 107), (.aload_n 0, 0), (.iload_n 1, 0), (.invokevirtual 31, 836), (.return_, 0)]
set_option maxRecDepth 20000 in
def kc_X8_addStep : am_C := [(0, .aload 0, 1), (1, .getfield 514, 4), (4, .iconst 96, 6), (6, .if_icmp .ge 29, 9), (9, .aload 0, 10), (10, .getfield 515, 13), (13, .aload 0, 14), (14, .getfield 514, 17), (17, .iload 1, 18), (18, .iastore, 19), (19, .aload 0, 20), (20, .dup, 21), (21, .getfield 514, 24), (24, .iconst 1, 25), (25, .iadd, 26), (26, .putfield 514, 29), (29, .return_, 30)]
set_option maxRecDepth 20000 in
def kp_X8_addStep : List (Instr × Nat) := [(.aload_n 0, 0), (.getfield 18, 109), (.bipush 96, 0), (.if_icmp .ge 23, 0), (.aload_n 0, 0), (.getfield 21, 111), (.aload_n 0, 0), (.getfield 18, 109), (.iload_n 1, 0), (.iastore, 0), (.aload_n 0, 0), (.dup, 0), (.getfield 18, 109), (.iconst 1, 0), (.iadd, 0), (.putfield 18, 109), (.return_, 0)]
set_option maxRecDepth 20000 in
def kc_X9_init : am_C := [(0, .aload 0, 1), (1, .pop2, 4), (4, .aload 0, 5), (5, .iconst 3, 6), (6, .anewarray 1, 9), (9, .putstatic 577, 12), (12, .aload 0, 13), (13, .iconst 0, 14), (14, .putfield 578, 17), (17, .aload 0, 18), (18, .iconst 12, 20), (20, .anewarray 3, 23), (23, .putstatic 579, 26), (26, .aload 0, 27), (27, .iconst 0, 28), (28, .putfield 580, 31), (31, .aload 0, 32), (32, .iconst 16, 34), (34, .anewarray 4, 37), (37, .putstatic 581, 40), (40, .aload 0, 41), (41, .iconst 0, 42), (42, .putfield 582, 45), (45, .aload 0, 46), (46, .iconst 18, 48), (48, .putfield 583, 51), (51, .aload 0, 52), (52, .iconst 0, 53), (53, .putfield 584, 56), (56, .aload 0, 57), (57, .iconst 7, 59), (59, .putfield 585, 62), (62, .aload 0, 63), (63, .iconst 8, 65), (65, .newarray .int, 67), (67, .putstatic 586, 70), (70, .aload 0, 71), (71, .iconst 0, 72), (72, .putfield 587, 75), (75, .aload 0, 76), (76, .iconst 6, 78), (78, .newarray .int, 80), (80, .putstatic 588, 83), (83, .aload 0, 84), (84, .iconst 0, 85), (85, .putfield 589, 88), (88, .aload 0, 89), (89, .iconst 0, 90), (90, .putfield 590, 93), (93, .aload 0, 94), (94, .iconst 4, 95), (95, .newarray .int, 97), (97, .dup, 98), (98, .iconst 0, 99), (99, .iconst (-1000000005), 101), (101, .iastore, 102), (102, .dup, 103), (103, .iconst 1, 104), (104, .iconst (-1000000005), 106), (106, .iastore, 107), (107, .dup, 108), (108, .iconst 2, 109), (109, .iconst (-1000000005), 111), (111, .iastore, 112), (112, .dup, 113), (113, .iconst 3, 114), (114, .iconst (-1000000005), 116), (116, .iastore, 117), (117, .putstatic 591, 120), (120, .aload 0, 121), (121, .aload 1, 122), (122, .putstatic 576, 125), (125, .iconst 0, 126), (126, .istore 2, 127), (127, .iload 2, 128), (128, .iconst 3, 129), (129, .if_icmp .ge 151, 132), (132, .aload 0, 133), (133, .getfield 577, 136), (136, .iload 2, 137), (137, .new 1, 140), (140, .dup, 141), (141, .invokespecial 4, 144), (144, .aastore, 145), (145, .iinc 2 1, 148), (148, .goto 127, 151), (151, .iconst 0, 152), (152, .istore 2, 153), (153, .iload 2, 154), (154, .iconst 12, 156), (156, .if_icmp .ge 178, 159), (159, .aload 0, 160), (160, .getfield 579, 163), (163, .iload 2, 164), (164, .new 3, 167), (167, .dup, 168), (168, .invokespecial 16, 171), (171, .aastore, 172), (172, .iinc 2 1, 175), (175, .goto 153, 178), (178, .iconst 0, 179), (179, .istore 2, 180), (180, .iload 2, 181), (181, .iconst 16, 183), (183, .if_icmp .ge 205, 186), (186, .aload 0, 187), (187, .getfield 581, 190), (190, .iload 2, 191), (191, .new 4, 194), (194, .dup, 195), (195, .invokespecial 19, 198), (198, .aastore, 199), (199, .iinc 2 1, 202), (202, .goto 180, 205), (205, .return_, 206)]
set_option maxRecDepth 20000 in
def kp_X9_init : List (Instr × Nat) := [(.aload_n 0, 0), (.invokespecial 3, 171), (.aload_n 0, 0), (.iconst 3, 0), (.anewarray 9, 172), (.putfield 11, 283), (.aload_n 0, 0), (.iconst 0, 0), (.putfield 17, 286), (.aload_n 0, 0), (.bipush 12, 0), (.anewarray 21, 174), (.putfield 23, 289), (.aload_n 0, 0), (.iconst 0, 0), (.putfield 27, 293), (.aload_n 0, 0), (.bipush 16, 0), (.anewarray 30, 176), (.putfield 32, 296), (.aload_n 0, 0), (.iconst 0, 0), (.putfield 36, 299), (.aload_n 0, 0), (.bipush 18, 0), (.putfield 39, 302), (.aload_n 0, 0), (.iconst 0, 0), (.putfield 42, 305), (.aload_n 0, 0), (.bipush 7, 0), (.putfield 45, 308), (.aload_n 0, 0), (.bipush 8, 0), (.newarray .int, 0), (.putfield 48, 310), (.aload_n 0, 0), (.iconst 0, 0), (.putfield 52, 312), (.aload_n 0, 0), (.bipush 6, 0), (.newarray .int, 0), (.putfield 55, 314), (.aload_n 0, 0), (.iconst 0, 0), (.putfield 58, 317), (.aload_n 0, 0), (.iconst 0, 0), (.putfield 61, 320), (.aload_n 0, 0), (.iconst 4, 0), (.newarray .int, 0), (.dup, 0), (.iconst 0, 0), (.ldc 64, 178), (.iastore, 0), (.dup, 0), (.iconst 1, 0), (.ldc 64, 178), (.iastore, 0), (.dup, 0), (.iconst 2, 0), (.ldc 64, 178), (.iastore, 0), (.dup, 0), (.iconst 3, 0), (.ldc 64, 178), (.iastore, 0), (.putfield 65, 322), (.aload_n 0, 0), (.aload_n 1, 0), (.putfield 68, 282), (.iconst 0, 0), (.istore_n 2, 0), (.iload_n 2, 0), (.iconst 3, 0), (.if_icmp .ge 22, 0), (.aload_n 0, 0), (.getfield 11, 283), (.iload_n 2, 0), (.new 9, 172), (.dup, 0), (.invokespecial 72, 5003), (.aastore, 0), (.iinc 2 1, 0), (.goto (-21), 0), (.iconst 0, 0), (.istore_n 2, 0), (.iload_n 2, 0), (.bipush 12, 0), (.if_icmp .ge 22, 0), (.aload_n 0, 0), (.getfield 23, 289), (.iload_n 2, 0), (.new 21, 174), (.dup, 0), (.invokespecial 73, 5004), (.aastore, 0), (.iinc 2 1, 0), (.goto (-22), 0), (.iconst 0, 0), (.istore_n 2, 0), (.iload_n 2, 0), (.bipush 16, 0), (.if_icmp .ge 22, 0), (.aload_n 0, 0), (.getfield 32, 296), (.iload_n 2, 0), (.new 30, 176), (.dup, 0), (.invokespecial 74, 5005), (.aastore, 0), (.iinc 2 1, 0), (.goto (-22), 0), (.return_, 0)]
set_option maxRecDepth 20000 in
def kc_X9_become : am_C := [(0, .aload 0, 1), (1, .aload 1, 2), (2, .getfield 578, 5), (5, .putfield 578, 8), (8, .iconst 0, 9), (9, .istore 2, 10), (10, .iload 2, 11), (11, .aload 0, 12), (12, .getfield 578, 15), (15, .if_icmp .ge 39, 18), (18, .aload 0, 19), (19, .getfield 577, 22), (22, .iload 2, 23), (23, .aaload, 24), (24, .aload 1, 25), (25, .getfield 577, 28), (28, .iload 2, 29), (29, .aaload, 30), (30, .invokevirtual 6, 33), (33, .iinc 2 1, 36), (36, .goto 10, 39), (39, .aload 0, 40), (40, .aload 1, 41), (41, .getfield 580, 44), (44, .putfield 580, 47), (47, .iconst 0, 48), (48, .istore 2, 49), (49, .iload 2, 50), (50, .aload 0, 51), (51, .getfield 580, 54), (54, .if_icmp .ge 78, 57), (57, .aload 0, 58), (58, .getfield 579, 61), (61, .iload 2, 62), (62, .aaload, 63), (63, .aload 1, 64), (64, .getfield 579, 67), (67, .iload 2, 68), (68, .aaload, 69), (69, .invokevirtual 18, 72), (72, .iinc 2 1, 75), (75, .goto 49, 78), (78, .aload 0, 79), (79, .aload 1, 80), (80, .getfield 582, 83), (83, .putfield 582, 86), (86, .iconst 0, 87), (87, .istore 2, 88), (88, .iload 2, 89), (89, .aload 0, 90), (90, .getfield 582, 93), (93, .if_icmp .ge 117, 96), (96, .aload 0, 97), (97, .getfield 581, 100), (100, .iload 2, 101), (101, .aaload, 102), (102, .aload 1, 103), (103, .getfield 581, 106), (106, .iload 2, 107), (107, .aaload, 108), (108, .invokevirtual 21, 111), (111, .iinc 2 1, 114), (114, .goto 88, 117), (117, .aload 0, 118), (118, .aload 1, 119), (119, .getfield 583, 122), (122, .putfield 583, 125), (125, .aload 0, 126), (126, .aload 1, 127), (127, .getfield 584, 130), (130, .putfield 584, 133), (133, .aload 0, 134), (134, .aload 1, 135), (135, .getfield 585, 138), (138, .putfield 585, 141), (141, .aload 0, 142), (142, .aload 1, 143), (143, .getfield 587, 146), (146, .putfield 587, 149), (149, .aload 1, 150), (150, .getfield 586, 153), (153, .iconst 0, 154), (154, .aload 0, 155), (155, .getfield 586, 158), (158, .iconst 0, 159), (159, .iconst 8, 161), (161, .invokedynamic 0, 164), (164, .aload 0, 165), (165, .aload 1, 166), (166, .getfield 589, 169), (169, .putfield 589, 172), (172, .aload 1, 173), (173, .getfield 588, 176), (176, .iconst 0, 177), (177, .aload 0, 178), (178, .getfield 588, 181), (181, .iconst 0, 182), (182, .iconst 6, 184), (184, .invokedynamic 0, 187), (187, .aload 0, 188), (188, .aload 1, 189), (189, .getfield 590, 192), (192, .putfield 590, 195), (195, .aload 1, 196), (196, .getfield 591, 199), (199, .iconst 0, 200), (200, .aload 0, 201), (201, .getfield 591, 204), (204, .iconst 0, 205), (205, .iconst 4, 206), (206, .invokedynamic 0, 209), (209, .return_, 210)]
set_option maxRecDepth 20000 in
def kp_X9_become : List (Instr × Nat) := [(.aload_n 0, 0), (.aload_n 1, 0), (.getfield 17, 286), (.putfield 17, 286), (.iconst 0, 0), (.istore_n 2, 0), (.iload_n 2, 0), (.aload_n 0, 0), (.getfield 17, 286), (.if_icmp .ge 24, 0), (.aload_n 0, 0), (.getfield 11, 283), (.iload_n 2, 0), (.aaload, 0), (.aload_n 1, 0), (.getfield 11, 283), (.iload_n 2, 0), (.aaload, 0), (.invokevirtual 75, 1088), (.iinc 2 1, 0), (.goto (-26), 0), (.aload_n 0, 0), (.aload_n 1, 0), (.getfield 27, 293), (.putfield 27, 293), (.iconst 0, 0), (.istore_n 2, 0), (.iload_n 2, 0), (.aload_n 0, 0), (.getfield 27, 293), (.if_icmp .ge 24, 0), (.aload_n 0, 0), (.getfield 23, 289), (.iload_n 2, 0), (.aaload, 0), (.aload_n 1, 0), (.getfield 23, 289), (.iload_n 2, 0), (.aaload, 0), (.invokevirtual 79, 1092), (.iinc 2 1, 0), (.goto (-26), 0), (.aload_n 0, 0), (.aload_n 1, 0), (.getfield 36, 299), (.putfield 36, 299), (.iconst 0, 0), (.istore_n 2, 0), (.iload_n 2, 0), (.aload_n 0, 0), (.getfield 36, 299), (.if_icmp .ge 24, 0), (.aload_n 0, 0), (.getfield 32, 296), (.iload_n 2, 0), (.aaload, 0), (.aload_n 1, 0), (.getfield 32, 296), (.iload_n 2, 0), (.aaload, 0), (.invokevirtual 82, 1096), (.iinc 2 1, 0), (.goto (-26), 0), (.aload_n 0, 0), (.aload_n 1, 0), (.getfield 39, 302), (.putfield 39, 302), (.aload_n 0, 0), (.aload_n 1, 0), (.getfield 42, 305), (.putfield 42, 305), (.aload_n 0, 0), (.aload_n 1, 0), (.getfield 45, 308), (.putfield 45, 308), (.aload_n 0, 0), (.aload_n 1, 0), (.getfield 52, 312), (.putfield 52, 312), (.aload_n 1, 0), (.getfield 48, 310), (.iconst 0, 0), (.aload_n 0, 0), (.getfield 48, 310), (.iconst 0, 0), (.bipush 8, 0), (.invokestatic 85, 1100), (.aload_n 0, 0), (.aload_n 1, 0), (.getfield 58, 317), (.putfield 58, 317), (.aload_n 1, 0), (.getfield 55, 314), (.iconst 0, 0), (.aload_n 0, 0), (.getfield 55, 314), (.iconst 0, 0), (.bipush 6, 0), (.invokestatic 85, 1100), (.aload_n 0, 0), (.aload_n 1, 0), (.getfield 61, 320), (.putfield 61, 320), (.aload_n 1, 0), (.getfield 65, 322), (.iconst 0, 0), (.aload_n 0, 0), (.getfield 65, 322), (.iconst 0, 0), (.iconst 4, 0), (.invokestatic 85, 1100), (.return_, 0)]
set_option maxRecDepth 20000 in
def kc_X9_hasCabinet : am_C := [(0, .iload 1, 1), (1, .ifCond .lt 16, 4), (4, .iload 1, 5), (5, .aload 0, 6), (6, .getfield 578, 9), (9, .if_icmp .ge 16, 12), (12, .iconst 1, 13), (13, .goto 17, 16), (16, .iconst 0, 17), (17, .freturn, 18)]
set_option maxRecDepth 20000 in
def kp_X9_hasCabinet : List (Instr × Nat) := [(.iload_n 1, 0), (.ifCond .lt 15, 0), (.iload_n 1, 0), (.aload_n 0, 0), (.getfield 17, 286), (.if_icmp .ge 7, 0), (.iconst 1, 0), (.goto 4, 0), (.iconst 0, 0), (.ireturn, 0)]
set_option maxRecDepth 20000 in
def kc_X9_hasJoint : am_C := [(0, .iload 1, 1), (1, .ifCond .lt 16, 4), (4, .iload 1, 5), (5, .aload 0, 6), (6, .getfield 580, 9), (9, .if_icmp .ge 16, 12), (12, .iconst 1, 13), (13, .goto 17, 16), (16, .iconst 0, 17), (17, .freturn, 18)]
set_option maxRecDepth 20000 in
def kp_X9_hasJoint : List (Instr × Nat) := [(.iload_n 1, 0), (.ifCond .lt 15, 0), (.iload_n 1, 0), (.aload_n 0, 0), (.getfield 27, 293), (.if_icmp .ge 7, 0), (.iconst 1, 0), (.goto 4, 0), (.iconst 0, 0), (.ireturn, 0)]
set_option maxRecDepth 20000 in
def kc_X9_hasLamp : am_C := [(0, .iload 1, 1), (1, .ifCond .lt 16, 4), (4, .iload 1, 5), (5, .aload 0, 6), (6, .getfield 582, 9), (9, .if_icmp .ge 16, 12), (12, .iconst 1, 13), (13, .goto 17, 16), (16, .iconst 0, 17), (17, .freturn, 18)]
set_option maxRecDepth 20000 in
def kp_X9_hasLamp : List (Instr × Nat) := [(.iload_n 1, 0), (.ifCond .lt 15, 0), (.iload_n 1, 0), (.aload_n 0, 0), (.getfield 36, 299), (.if_icmp .ge 7, 0), (.iconst 1, 0), (.goto 4, 0), (.iconst 0, 0), (.ireturn, 0)]
set_option maxRecDepth 20000 in
def kc_X9_hasThing : am_C := [(0, .iload 1, 1), (1, .tableswitch 46 0 2 #[28, 34, 40], 28), (28, .aload 0, 29), (29, .iload 2, 30), (30, .invokevirtual 54, 33), (33, .freturn, 34), (34, .aload 0, 35), (35, .iload 2, 36), (36, .invokevirtual 55, 39), (39, .freturn, 40), (40, .aload 0, 41), (41, .iload 2, 42), (42, .invokevirtual 56, 45), (45, .freturn, 46), (46, .iconst 0, 47), (47, .freturn, 48)]
set_option maxRecDepth 20000 in
def kp_X9_hasThing : List (Instr × Nat) := [(.iload_n 1, 0), (.tableswitch 45 0 2 #[27, 33, 39], 0), (.aload_n 0, 0), (.iload_n 2, 0), (.invokevirtual 91, 681), (.ireturn, 0), (.aload_n 0, 0), (.iload_n 2, 0), (.invokevirtual 95, 593), (.ireturn, 0), (.aload_n 0, 0), (.iload_n 2, 0), (.invokevirtual 98, 682), (.ireturn, 0), (.iconst 0, 0), (.ireturn, 0)]
set_option maxRecDepth 20000 in
def kc_X9_makeBroken : am_C := [(0, .iload 1, 1), (1, .ifCond .ne 28, 4), (4, .aload 0, 5), (5, .getfield 577, 8), (8, .iload 2, 9), (9, .aaload, 10), (10, .getfield 68, 13), (13, .istore 4, 15), (15, .aload 0, 16), (16, .getfield 577, 19), (19, .iload 2, 20), (20, .aaload, 21), (21, .iload 3, 22), (22, .putfield 68, 25), (25, .goto 78, 28), (28, .iload 1, 29), (29, .iconst 1, 30), (30, .if_icmp .ne 57, 33), (33, .aload 0, 34), (34, .getfield 579, 37), (37, .iload 2, 38), (38, .aaload, 39), (39, .getfield 195, 42), (42, .istore 4, 44), (44, .aload 0, 45), (45, .getfield 579, 48), (48, .iload 2, 49), (49, .aaload, 50), (50, .iload 3, 51), (51, .putfield 195, 54), (54, .goto 78, 57), (57, .aload 0, 58), (58, .getfield 581, 61), (61, .iload 2, 62), (62, .aaload, 63), (63, .getfield 261, 66), (66, .istore 4, 68), (68, .aload 0, 69), (69, .getfield 581, 72), (72, .iload 2, 73), (73, .aaload, 74), (74, .iload 3, 75), (75, .putfield 261, 78), (78, .iload 4, 80), (80, .iload 3, 81), (81, .if_icmp .eq 88, 84), (84, .iconst 1, 85), (85, .goto 89, 88), (88, .iconst 0, 89), (89, .freturn, 90)]
set_option maxRecDepth 20000 in
def kp_X9_makeBroken : List (Instr × Nat) := [(.iload_n 1, 0), (.ifCond .ne 27, 0), (.aload_n 0, 0), (.getfield 11, 283), (.iload_n 2, 0), (.aaload, 0), (.getfield 101, 195), (.istore 4, 0), (.aload_n 0, 0), (.getfield 11, 283), (.iload_n 2, 0), (.aaload, 0), (.iload_n 3, 0), (.putfield 101, 195), (.goto 53, 0), (.iload_n 1, 0), (.iconst 1, 0), (.if_icmp .ne 27, 0), (.aload_n 0, 0), (.getfield 23, 289), (.iload_n 2, 0), (.aaload, 0), (.getfield 105, 229), (.istore 4, 0), (.aload_n 0, 0), (.getfield 23, 289), (.iload_n 2, 0), (.aaload, 0), (.iload_n 3, 0), (.putfield 105, 229), (.goto 24, 0), (.aload_n 0, 0), (.getfield 32, 296), (.iload_n 2, 0), (.aaload, 0), (.getfield 106, 261), (.istore 4, 0), (.aload_n 0, 0), (.getfield 32, 296), (.iload_n 2, 0), (.aaload, 0), (.iload_n 3, 0), (.putfield 106, 261), (.iload 4, 0), (.iload_n 3, 0), (.if_icmp .eq 7, 0), (.iconst 1, 0), (.goto 4, 0), (.iconst 0, 0), (.ireturn, 0)]
set_option maxRecDepth 20000 in
def kc_X9_isFed : am_C := [(0, .aload 1, 1), (1, .getfield 261, 4), (4, .ifCond .eq 9, 7), (7, .iconst 0, 8), (8, .freturn, 9), (9, .aload 1, 10), (10, .getfield 257, 13), (13, .istore 2, 14), (14, .iconst 0, 15), (15, .istore 3, 16), (16, .iload 3, 17), (17, .iconst 12, 19), (19, .if_icmp .ge 60, 22), (22, .aload 0, 23), (23, .iload 2, 24), (24, .invokevirtual 55, 27), (27, .ifCond .eq 60, 30), (30, .aload 0, 31), (31, .getfield 579, 34), (34, .iload 2, 35), (35, .aaload, 36), (36, .getfield 195, 39), (39, .ifCond .eq 44, 42), (42, .iconst 0, 43), (43, .freturn, 44), (44, .aload 0, 45), (45, .getfield 579, 48), (48, .iload 2, 49), (49, .aaload, 50), (50, .getfield 192, 53), (53, .istore 2, 54), (54, .iinc 3 1, 57), (57, .goto 16, 60), (60, .aload 0, 61), (61, .aload 1, 62), (62, .invokevirtual 60, 65), (65, .getfield 68, 68), (68, .ifCond .ne 75, 71), (71, .iconst 1, 72), (72, .goto 76, 75), (75, .iconst 0, 76), (76, .freturn, 77)]
set_option maxRecDepth 20000 in
def kp_X9_isFed : List (Instr × Nat) := [(.aload_n 1, 0), (.getfield 106, 261), (.ifCond .eq 5, 0), (.iconst 0, 0), (.ireturn, 0), (.aload_n 1, 0), (.getfield 109, 249), (.istore_n 2, 0), (.iconst 0, 0), (.istore_n 3, 0), (.iload_n 3, 0), (.bipush 12, 0), (.if_icmp .ge 41, 0), (.aload_n 0, 0), (.iload_n 2, 0), (.invokevirtual 95, 593), (.ifCond .eq 33, 0), (.aload_n 0, 0), (.getfield 23, 289), (.iload_n 2, 0), (.aaload, 0), (.getfield 105, 229), (.ifCond .eq 5, 0), (.iconst 0, 0), (.ireturn, 0), (.aload_n 0, 0), (.getfield 23, 289), (.iload_n 2, 0), (.aaload, 0), (.getfield 112, 220), (.istore_n 2, 0), (.iinc 3 1, 0), (.goto (-41), 0), (.aload_n 0, 0), (.aload_n 1, 0), (.invokevirtual 115, 552), (.getfield 101, 195), (.ifCond .ne 7, 0), (.iconst 1, 0), (.goto 4, 0), (.iconst 0, 0), (.ireturn, 0)]
set_option maxRecDepth 20000 in
def kc_X9_cabinetOf : am_C := [(0, .aload 0, 1), (1, .getfield 577, 4), (4, .aload 0, 5), (5, .getfield 579, 8), (8, .aload 1, 9), (9, .getfield 257, 12), (12, .aaload, 13), (13, .getfield 194, 16), (16, .aaload, 17), (17, .areturn, 18)]
set_option maxRecDepth 20000 in
def kp_X9_cabinetOf : List (Instr × Nat) := [(.aload_n 0, 0), (.getfield 11, 283), (.aload_n 0, 0), (.getfield 23, 289), (.aload_n 1, 0), (.getfield 109, 249), (.aaload, 0), (.getfield 119, 226), (.aaload, 0), (.areturn, 0)]
set_option maxRecDepth 20000 in
def kc_X9_should : am_C := [(0, .aload 1, 1), (1, .getfield 256, 4), (4, .lookupswitch 59 #[(2, 32), (4, 34)], 32), (32, .iconst 1, 33), (33, .freturn, 34), (34, .aload 0, 35), (35, .getfield 585, 38), (38, .ifCond .le 57, 41), (41, .aload 0, 42), (42, .getfield 584, 45), (45, .aload 0, 46), (46, .getfield 585, 49), (49, .irem, 50), (50, .ifCond .ne 57, 53), (53, .iconst 1, 54), (54, .goto 58, 57), (57, .iconst 0, 58), (58, .freturn, 59), (59, .aload 0, 60), (60, .aload 1, 61), (61, .invokevirtual 60, 64), (64, .aload 0, 65), (65, .getfield 583, 68), (68, .invokevirtual 7, 71), (71, .freturn, 72)]
set_option maxRecDepth 20000 in
def kp_X9_should : List (Instr × Nat) := [(.aload_n 1, 0), (.getfield 122, 246), (.lookupswitch 55 #[(2, 28), (4, 30)], 0), (.iconst 1, 0), (.ireturn, 0), (.aload_n 0, 0), (.getfield 45, 308), (.ifCond .le 19, 0), (.aload_n 0, 0), (.getfield 42, 305), (.aload_n 0, 0), (.getfield 45, 308), (.irem, 0), (.ifCond .ne 7, 0), (.iconst 1, 0), (.goto 4, 0), (.iconst 0, 0), (.ireturn, 0), (.aload_n 0, 0), (.aload_n 1, 0), (.invokevirtual 115, 552), (.aload_n 0, 0), (.getfield 39, 302), (.invokevirtual 125, 556), (.ireturn, 0)]
set_option maxRecDepth 20000 in
def kc_X9_burns : am_C := [(0, .aload 0, 1), (1, .aload 1, 2), (2, .invokevirtual 61, 5), (5, .ifCond .eq 20, 8), (8, .aload 0, 9), (9, .aload 1, 10), (10, .invokevirtual 59, 13), (13, .ifCond .eq 20, 16), (16, .iconst 1, 17), (17, .goto 21, 20), (20, .iconst 0, 21), (21, .freturn, 22)]
set_option maxRecDepth 20000 in
def kp_X9_burns : List (Instr × Nat) := [(.aload_n 0, 0), (.aload_n 1, 0), (.invokevirtual 128, 548), (.ifCond .eq 15, 0), (.aload_n 0, 0), (.aload_n 1, 0), (.invokevirtual 132, 589), (.ifCond .eq 7, 0), (.iconst 1, 0), (.goto 4, 0), (.iconst 0, 0), (.ireturn, 0)]
set_option maxRecDepth 20000 in
def kc_X9_draws : am_C := [(0, .aload 1, 1), (1, .getfield 256, 4), (4, .tableswitch 88 1 5 #[40, 58, 46, 65, 74], 40), (40, .aload 0, 41), (41, .aload 1, 42), (42, .invokevirtual 64, 45), (45, .ireturn, 46), (46, .aload 0, 47), (47, .aload 1, 48), (48, .invokevirtual 64, 51), (51, .istore 2, 52), (52, .iload 2, 53), (53, .iload 2, 54), (54, .iconst 3, 55), (55, .idiv, 56), (56, .isub, 57), (57, .ireturn, 58), (58, .aload 1, 59), (59, .getfield 258, 62), (62, .iconst 2, 63), (63, .idiv, 64), (64, .ireturn, 65), (65, .iconst 3, 66), (66, .aload 1, 67), (67, .getfield 258, 70), (70, .iconst 2, 71), (71, .idiv, 72), (72, .imul, 73), (73, .ireturn, 74), (74, .aload 1, 75), (75, .getfield 258, 78), (78, .aload 1, 79), (79, .getfield 260, 82), (82, .iconst 1000, 85), (85, .idiv, 86), (86, .iadd, 87), (87, .ireturn, 88), (88, .aload 1, 89), (89, .getfield 258, 92), (92, .ireturn, 93)]
set_option maxRecDepth 20000 in
def kp_X9_draws : List (Instr × Nat) := [(.aload_n 1, 0), (.getfield 122, 246), (.tableswitch 84 1 5 #[36, 54, 42, 61, 70], 0), (.aload_n 0, 0), (.aload_n 1, 0), (.invokevirtual 135, 561), (.ireturn, 0), (.aload_n 0, 0), (.aload_n 1, 0), (.invokevirtual 135, 561), (.istore_n 2, 0), (.iload_n 2, 0), (.iload_n 2, 0), (.iconst 3, 0), (.idiv, 0), (.isub, 0), (.ireturn, 0), (.aload_n 1, 0), (.getfield 139, 253), (.iconst 2, 0), (.idiv, 0), (.ireturn, 0), (.iconst 3, 0), (.aload_n 1, 0), (.getfield 139, 253), (.iconst 2, 0), (.idiv, 0), (.imul, 0), (.ireturn, 0), (.aload_n 1, 0), (.getfield 139, 253), (.aload_n 1, 0), (.getfield 142, 259), (.sipush 1000, 0), (.idiv, 0), (.iadd, 0), (.ireturn, 0), (.aload_n 1, 0), (.getfield 139, 253), (.ireturn, 0)]
set_option maxRecDepth 20000 in
def kc_X9_drawsDimmed : am_C := [(0, .aload 0, 1), (1, .getfield 583, 4), (4, .iconst 4, 5), (5, .if_icmp .gt 13, 8), (8, .iconst 50, 10), (10, .goto 15, 13), (13, .iconst 100, 15), (15, .istore 2, 16), (16, .aload 0, 17), (17, .getfield 576, 20), (20, .aload 0, 21), (21, .iconst 0, 22), (22, .iload 2, 23), (23, .aload 1, 24), (24, .getfield 259, 27), (27, .aload 1, 28), (28, .getfield 256, 31), (31, .aload 1, 32), (32, .getfield 258, 35), (35, .invokevirtual 1, 38), (38, .istore 3, 39), (39, .aload 1, 40), (40, .getfield 258, 43), (43, .iconst 0, 44), (44, .iconst 100, 46), (46, .iload 3, 47), (47, .invokestatic 241, 50), (50, .invokestatic 240, 53), (53, .imul, 54), (54, .iconst 100, 56), (56, .idiv, 57), (57, .ireturn, 58)]
set_option maxRecDepth 20000 in
def kp_X9_drawsDimmed : List (Instr × Nat) := [(.aload_n 0, 0), (.getfield 39, 302), (.iconst 4, 0), (.if_icmp .gt 8, 0), (.bipush 50, 0), (.goto 5, 0), (.bipush 100, 0), (.istore_n 2, 0), (.aload_n 0, 0), (.getfield 68, 282), (.aload_n 0, 0), (.iconst 0, 0), (.iload_n 2, 0), (.aload_n 1, 0), (.getfield 145, 256), (.aload_n 1, 0), (.getfield 122, 246), (.aload_n 1, 0), (.getfield 139, 253), (.invokevirtual 148, 565), (.istore_n 3, 0), (.aload_n 1, 0), (.getfield 139, 253), (.iconst 0, 0), (.bipush 100, 0), (.iload_n 3, 0), (.invokestatic 154, 575), (.invokestatic 160, 578), (.imul, 0), (.bipush 100, 0), (.idiv, 0), (.ireturn, 0)]
set_option maxRecDepth 20000 in
def kc_X9_life : am_C := [(0, .aload 0, 1), (1, .getfield 576, 4), (4, .aload 0, 5), (5, .iconst 1, 6), (6, .iconst 4000, 9), (9, .aload 1, 10), (10, .getfield 259, 13), (13, .aload 1, 14), (14, .getfield 256, 17), (17, .aload 1, 18), (18, .getfield 258, 21), (21, .invokevirtual 1, 24), (24, .istore 2, 25), (25, .iconst 1, 26), (26, .iconst 30000, 29), (29, .iload 2, 30), (30, .invokestatic 241, 33), (33, .invokestatic 240, 36), (36, .ireturn, 37)]
set_option maxRecDepth 20000 in
def kp_X9_life : List (Instr × Nat) := [(.aload_n 0, 0), (.getfield 68, 282), (.aload_n 0, 0), (.iconst 1, 0), (.sipush 4000, 0), (.aload_n 1, 0), (.getfield 145, 256), (.aload_n 1, 0), (.getfield 122, 246), (.aload_n 1, 0), (.getfield 139, 253), (.invokevirtual 148, 565), (.istore_n 2, 0), (.iconst 1, 0), (.sipush 30000, 0), (.iload_n 2, 0), (.invokestatic 154, 575), (.invokestatic 160, 578), (.ireturn, 0)]
set_option maxRecDepth 20000 in
def kc_X9_law : am_C := [(0, .aload 0, 1), (1, .getfield 576, 4), (4, .aload 0, 5), (5, .iconst 3, 6), (6, .iconst 0, 7), (7, .iload 1, 8), (8, .iconst 0, 9), (9, .iconst 0, 10), (10, .invokevirtual 1, 13), (13, .ireturn, 14)]
set_option maxRecDepth 20000 in
def kp_X9_law : List (Instr × Nat) := [(.aload_n 0, 0), (.getfield 68, 282), (.aload_n 0, 0), (.iconst 3, 0), (.iconst 0, 0), (.iload_n 1, 0), (.iconst 0, 0), (.iconst 0, 0), (.invokevirtual 148, 565), (.ireturn, 0)]
set_option maxRecDepth 20000 in
def kc_X9_price : am_C := [(0, .iconst 0, 1), (1, .iconst 999, 4), (4, .aload 0, 5), (5, .getfield 576, 8), (8, .aload 0, 9), (9, .iconst 2, 10), (10, .iconst 10, 12), (12, .iconst 0, 13), (13, .iconst 0, 14), (14, .iconst 0, 15), (15, .invokevirtual 1, 18), (18, .invokestatic 241, 21), (21, .invokestatic 240, 24), (24, .ireturn, 25)]
set_option maxRecDepth 20000 in
def kp_X9_price : List (Instr × Nat) := [(.iconst 0, 0), (.sipush 999, 0), (.aload_n 0, 0), (.getfield 68, 282), (.aload_n 0, 0), (.iconst 2, 0), (.bipush 10, 0), (.iconst 0, 0), (.iconst 0, 0), (.iconst 0, 0), (.invokevirtual 148, 565), (.invokestatic 154, 575), (.invokestatic 160, 578), (.ireturn, 0)]
set_option maxRecDepth 20000 in
def kc_X9_due : am_C := [(0, .iconst 0, 1), (1, .istore 2, 2), (2, .iconst 0, 3), (3, .istore 3, 4), (4, .iload 3, 5), (5, .aload 0, 6), (6, .getfield 582, 9), (9, .if_icmp .ge 65, 12), (12, .aload 0, 13), (13, .getfield 579, 16), (16, .aload 0, 17), (17, .getfield 581, 20), (20, .iload 3, 21), (21, .aaload, 22), (22, .getfield 257, 25), (25, .aaload, 26), (26, .getfield 194, 29), (29, .iload 1, 30), (30, .if_icmp .ne 59, 33), (33, .aload 0, 34), (34, .aload 0, 35), (35, .getfield 581, 38), (38, .iload 3, 39), (39, .aaload, 40), (40, .invokevirtual 61, 43), (43, .ifCond .eq 59, 46), (46, .iload 2, 47), (47, .aload 0, 48), (48, .aload 0, 49), (49, .getfield 581, 52), (52, .iload 3, 53), (53, .aaload, 54), (54, .invokevirtual 63, 57), (57, .iadd, 58), (58, .istore 2, 59), (59, .iinc 3 1, 62), (62, .goto 4, 65), (65, .iload 2, 66), (66, .ireturn, 67)]
set_option maxRecDepth 20000 in
def kp_X9_due : List (Instr × Nat) := [(.iconst 0, 0), (.istore_n 2, 0), (.iconst 0, 0), (.istore_n 3, 0), (.iload_n 3, 0), (.aload_n 0, 0), (.getfield 36, 299), (.if_icmp .ge 56, 0), (.aload_n 0, 0), (.getfield 23, 289), (.aload_n 0, 0), (.getfield 32, 296), (.iload_n 3, 0), (.aaload, 0), (.getfield 109, 249), (.aaload, 0), (.getfield 119, 226), (.iload_n 1, 0), (.if_icmp .ne 29, 0), (.aload_n 0, 0), (.aload_n 0, 0), (.getfield 32, 296), (.iload_n 3, 0), (.aaload, 0), (.invokevirtual 128, 548), (.ifCond .eq 16, 0), (.iload_n 2, 0), (.aload_n 0, 0), (.aload_n 0, 0), (.getfield 32, 296), (.iload_n 3, 0), (.aaload, 0), (.invokevirtual 163, 557), (.iadd, 0), (.istore_n 2, 0), (.iinc 3 1, 0), (.goto (-58), 0), (.iload_n 2, 0), (.ireturn, 0)]
set_option maxRecDepth 20000 in
def kc_X9_drawn : am_C := [(0, .iconst 0, 1), (1, .istore 2, 2), (2, .iconst 0, 3), (3, .istore 3, 4), (4, .iload 3, 5), (5, .aload 0, 6), (6, .getfield 582, 9), (9, .if_icmp .ge 65, 12), (12, .aload 0, 13), (13, .getfield 579, 16), (16, .aload 0, 17), (17, .getfield 581, 20), (20, .iload 3, 21), (21, .aaload, 22), (22, .getfield 257, 25), (25, .aaload, 26), (26, .getfield 194, 29), (29, .iload 1, 30), (30, .if_icmp .ne 59, 33), (33, .aload 0, 34), (34, .aload 0, 35), (35, .getfield 581, 38), (38, .iload 3, 39), (39, .aaload, 40), (40, .invokevirtual 62, 43), (43, .ifCond .eq 59, 46), (46, .iload 2, 47), (47, .aload 0, 48), (48, .aload 0, 49), (49, .getfield 581, 52), (52, .iload 3, 53), (53, .aaload, 54), (54, .invokevirtual 63, 57), (57, .iadd, 58), (58, .istore 2, 59), (59, .iinc 3 1, 62), (62, .goto 4, 65), (65, .iload 2, 66), (66, .ireturn, 67)]
set_option maxRecDepth 20000 in
def kp_X9_drawn : List (Instr × Nat) := [(.iconst 0, 0), (.istore_n 2, 0), (.iconst 0, 0), (.istore_n 3, 0), (.iload_n 3, 0), (.aload_n 0, 0), (.getfield 36, 299), (.if_icmp .ge 56, 0), (.aload_n 0, 0), (.getfield 23, 289), (.aload_n 0, 0), (.getfield 32, 296), (.iload_n 3, 0), (.aaload, 0), (.getfield 109, 249), (.aaload, 0), (.getfield 119, 226), (.iload_n 1, 0), (.if_icmp .ne 29, 0), (.aload_n 0, 0), (.aload_n 0, 0), (.getfield 32, 296), (.iload_n 3, 0), (.aaload, 0), (.invokevirtual 166, 585), (.ifCond .eq 16, 0), (.iload_n 2, 0), (.aload_n 0, 0), (.aload_n 0, 0), (.getfield 32, 296), (.iload_n 3, 0), (.aaload, 0), (.invokevirtual 163, 557), (.iadd, 0), (.istore_n 2, 0), (.iinc 3 1, 0), (.goto (-58), 0), (.iload_n 2, 0), (.ireturn, 0)]
set_option maxRecDepth 20000 in
def kc_X9_drawnByAll : am_C := [(0, .iconst 0, 1), (1, .istore 1, 2), (2, .iconst 0, 3), (3, .istore 2, 4), (4, .iload 2, 5), (5, .aload 0, 6), (6, .getfield 582, 9), (9, .if_icmp .ge 44, 12), (12, .aload 0, 13), (13, .aload 0, 14), (14, .getfield 581, 17), (17, .iload 2, 18), (18, .aaload, 19), (19, .invokevirtual 62, 22), (22, .ifCond .eq 38, 25), (25, .iload 1, 26), (26, .aload 0, 27), (27, .aload 0, 28), (28, .getfield 581, 31), (31, .iload 2, 32), (32, .aaload, 33), (33, .invokevirtual 63, 36), (36, .iadd, 37), (37, .istore 1, 38), (38, .iinc 2 1, 41), (41, .goto 4, 44), (44, .iload 1, 45), (45, .ireturn, 46)]
set_option maxRecDepth 20000 in
def kp_X9_drawnByAll : List (Instr × Nat) := [(.iconst 0, 0), (.istore_n 1, 0), (.iconst 0, 0), (.istore_n 2, 0), (.iload_n 2, 0), (.aload_n 0, 0), (.getfield 36, 299), (.if_icmp .ge 35, 0), (.aload_n 0, 0), (.aload_n 0, 0), (.getfield 32, 296), (.iload_n 2, 0), (.aaload, 0), (.invokevirtual 166, 585), (.ifCond .eq 16, 0), (.iload_n 1, 0), (.aload_n 0, 0), (.aload_n 0, 0), (.getfield 32, 296), (.iload_n 2, 0), (.aaload, 0), (.invokevirtual 163, 557), (.iadd, 0), (.istore_n 1, 0), (.iinc 2 1, 0), (.goto (-37), 0), (.iload_n 1, 0), (.ireturn, 0)]
set_option maxRecDepth 20000 in
def kc_X9_lightOf : am_C := [(0, .iconst 0, 1), (1, .istore 2, 2), (2, .iconst 0, 3), (3, .istore 3, 4), (4, .iload 3, 5), (5, .aload 0, 6), (6, .getfield 582, 9), (9, .if_icmp .ge 57, 12), (12, .aload 0, 13), (13, .getfield 581, 16), (16, .iload 3, 17), (17, .aaload, 18), (18, .getfield 259, 21), (21, .iload 1, 22), (22, .if_icmp .ne 51, 25), (25, .aload 0, 26), (26, .aload 0, 27), (27, .getfield 581, 30), (30, .iload 3, 31), (31, .aaload, 32), (32, .invokevirtual 62, 35), (35, .ifCond .eq 51, 38), (38, .iload 2, 39), (39, .aload 0, 40), (40, .aload 0, 41), (41, .getfield 581, 44), (44, .iload 3, 45), (45, .aaload, 46), (46, .invokevirtual 63, 49), (49, .iadd, 50), (50, .istore 2, 51), (51, .iinc 3 1, 54), (54, .goto 4, 57), (57, .iload 2, 58), (58, .ireturn, 59)]
set_option maxRecDepth 20000 in
def kp_X9_lightOf : List (Instr × Nat) := [(.iconst 0, 0), (.istore_n 2, 0), (.iconst 0, 0), (.istore_n 3, 0), (.iload_n 3, 0), (.aload_n 0, 0), (.getfield 36, 299), (.if_icmp .ge 48, 0), (.aload_n 0, 0), (.getfield 32, 296), (.iload_n 3, 0), (.aaload, 0), (.getfield 145, 256), (.iload_n 1, 0), (.if_icmp .ne 29, 0), (.aload_n 0, 0), (.aload_n 0, 0), (.getfield 32, 296), (.iload_n 3, 0), (.aaload, 0), (.invokevirtual 166, 585), (.ifCond .eq 16, 0), (.iload_n 2, 0), (.aload_n 0, 0), (.aload_n 0, 0), (.getfield 32, 296), (.iload_n 3, 0), (.aaload, 0), (.invokevirtual 163, 557), (.iadd, 0), (.istore_n 2, 0), (.iinc 3 1, 0), (.goto (-50), 0), (.iload_n 2, 0), (.ireturn, 0)]
set_option maxRecDepth 20000 in
def kc_X9_lampsAt : am_C := [(0, .iconst 0, 1), (1, .istore 2, 2), (2, .iconst 0, 3), (3, .istore 3, 4), (4, .iload 3, 5), (5, .aload 0, 6), (6, .getfield 582, 9), (9, .if_icmp .ge 34, 12), (12, .aload 0, 13), (13, .getfield 581, 16), (16, .iload 3, 17), (17, .aaload, 18), (18, .getfield 257, 21), (21, .iload 1, 22), (22, .if_icmp .ne 28, 25), (25, .iinc 2 1, 28), (28, .iinc 3 1, 31), (31, .goto 4, 34), (34, .iload 2, 35), (35, .ireturn, 36)]
set_option maxRecDepth 20000 in
def kp_X9_lampsAt : List (Instr × Nat) := [(.iconst 0, 0), (.istore_n 2, 0), (.iconst 0, 0), (.istore_n 3, 0), (.iload_n 3, 0), (.aload_n 0, 0), (.getfield 36, 299), (.if_icmp .ge 25, 0), (.aload_n 0, 0), (.getfield 32, 296), (.iload_n 3, 0), (.aaload, 0), (.getfield 109, 249), (.iload_n 1, 0), (.if_icmp .ne 6, 0), (.iinc 2 1, 0), (.iinc 3 1, 0), (.goto (-27), 0), (.iload_n 2, 0), (.ireturn, 0)]
set_option maxRecDepth 20000 in
def kc_X9_lampsOut : am_C := [(0, .iconst 0, 1), (1, .istore 1, 2), (2, .iconst 0, 3), (3, .istore 2, 4), (4, .iload 2, 5), (5, .aload 0, 6), (6, .getfield 582, 9), (9, .if_icmp .ge 33, 12), (12, .iload 1, 13), (13, .aload 0, 14), (14, .getfield 581, 17), (17, .iload 2, 18), (18, .aaload, 19), (19, .getfield 261, 22), (22, .invokestatic 126, 25), (25, .iadd, 26), (26, .istore 1, 27), (27, .iinc 2 1, 30), (30, .goto 4, 33), (33, .iload 1, 34), (34, .ireturn, 35)]
set_option maxRecDepth 20000 in
def kp_X9_lampsOut : List (Instr × Nat) := [(.iconst 0, 0), (.istore_n 1, 0), (.iconst 0, 0), (.istore_n 2, 0), (.iload_n 2, 0), (.aload_n 0, 0), (.getfield 36, 299), (.if_icmp .ge 24, 0), (.iload_n 1, 0), (.aload_n 0, 0), (.getfield 32, 296), (.iload_n 2, 0), (.aaload, 0), (.getfield 106, 261), (.invokestatic 169, 5013), (.iadd, 0), (.istore_n 1, 0), (.iinc 2 1, 0), (.goto (-26), 0), (.iload_n 1, 0), (.ireturn, 0)]
set_option maxRecDepth 20000 in
def kc_X9_lampsToldDark : am_C := [(0, .iconst 0, 1), (1, .istore 1, 2), (2, .iconst 0, 3), (3, .istore 2, 4), (4, .iload 2, 5), (5, .aload 0, 6), (6, .getfield 582, 9), (9, .if_icmp .ge 33, 12), (12, .iload 1, 13), (13, .aload 0, 14), (14, .getfield 581, 17), (17, .iload 2, 18), (18, .aaload, 19), (19, .getfield 262, 22), (22, .invokestatic 126, 25), (25, .iadd, 26), (26, .istore 1, 27), (27, .iinc 2 1, 30), (30, .goto 4, 33), (33, .iload 1, 34), (34, .ireturn, 35)]
set_option maxRecDepth 20000 in
def kp_X9_lampsToldDark : List (Instr × Nat) := [(.iconst 0, 0), (.istore_n 1, 0), (.iconst 0, 0), (.istore_n 2, 0), (.iload_n 2, 0), (.aload_n 0, 0), (.getfield 36, 299), (.if_icmp .ge 24, 0), (.iload_n 1, 0), (.aload_n 0, 0), (.getfield 32, 296), (.iload_n 2, 0), (.aaload, 0), (.getfield 173, 266), (.invokestatic 169, 5013), (.iadd, 0), (.istore_n 1, 0), (.iinc 2 1, 0), (.goto (-26), 0), (.iload_n 1, 0), (.ireturn, 0)]
set_option maxRecDepth 20000 in
def kc_X9_brokenThings : am_C := [(0, .iconst 0, 1), (1, .istore 1, 2), (2, .iconst 0, 3), (3, .istore 2, 4), (4, .iload 2, 5), (5, .aload 0, 6), (6, .getfield 578, 9), (9, .if_icmp .ge 33, 12), (12, .iload 1, 13), (13, .aload 0, 14), (14, .getfield 577, 17), (17, .iload 2, 18), (18, .aaload, 19), (19, .getfield 68, 22), (22, .invokestatic 126, 25), (25, .iadd, 26), (26, .istore 1, 27), (27, .iinc 2 1, 30), (30, .goto 4, 33), (33, .iconst 0, 34), (34, .istore 2, 35), (35, .iload 2, 36), (36, .aload 0, 37), (37, .getfield 580, 40), (40, .if_icmp .ge 64, 43), (43, .iload 1, 44), (44, .aload 0, 45), (45, .getfield 579, 48), (48, .iload 2, 49), (49, .aaload, 50), (50, .getfield 195, 53), (53, .invokestatic 126, 56), (56, .iadd, 57), (57, .istore 1, 58), (58, .iinc 2 1, 61), (61, .goto 35, 64), (64, .iload 1, 65), (65, .ireturn, 66)]
set_option maxRecDepth 20000 in
def kp_X9_brokenThings : List (Instr × Nat) := [(.iconst 0, 0), (.istore_n 1, 0), (.iconst 0, 0), (.istore_n 2, 0), (.iload_n 2, 0), (.aload_n 0, 0), (.getfield 17, 286), (.if_icmp .ge 24, 0), (.iload_n 1, 0), (.aload_n 0, 0), (.getfield 11, 283), (.iload_n 2, 0), (.aaload, 0), (.getfield 101, 195), (.invokestatic 169, 5013), (.iadd, 0), (.istore_n 1, 0), (.iinc 2 1, 0), (.goto (-26), 0), (.iconst 0, 0), (.istore_n 2, 0), (.iload_n 2, 0), (.aload_n 0, 0), (.getfield 27, 293), (.if_icmp .ge 24, 0), (.iload_n 1, 0), (.aload_n 0, 0), (.getfield 23, 289), (.iload_n 2, 0), (.aaload, 0), (.getfield 105, 229), (.invokestatic 169, 5013), (.iadd, 0), (.istore_n 1, 0), (.iinc 2 1, 0), (.goto (-26), 0), (.iload_n 1, 0), (.ireturn, 0)]
set_option maxRecDepth 20000 in
def kc_X9_passHour : am_C := [(0, .aload 0, 1), (1, .invokevirtual 67, 4), (4, .istore 1, 5), (5, .iconst 0, 6), (6, .istore 2, 7), (7, .iload 2, 8), (8, .aload 0, 9), (9, .getfield 582, 12), (12, .if_icmp .ge 109, 15), (15, .aload 0, 16), (16, .getfield 581, 19), (19, .iload 2, 20), (20, .aaload, 21), (21, .astore 3, 22), (22, .aload 0, 23), (23, .aload 3, 24), (24, .invokevirtual 62, 27), (27, .ifCond .eq 103, 30), (30, .aload 0, 31), (31, .aload 3, 32), (32, .invokevirtual 60, 35), (35, .astore 4, 37), (37, .aload 4, 39), (39, .iconst 99999999, 41), (41, .aload 4, 43), (43, .getfield 69, 46), (46, .aload 0, 47), (47, .aload 3, 48), (48, .invokevirtual 63, 51), (51, .iload 1, 52), (52, .imul, 53), (53, .iadd, 54), (54, .invokestatic 241, 57), (57, .putfield 69, 60), (60, .aload 3, 61), (61, .iconst 30000, 64), (64, .aload 3, 65), (65, .getfield 260, 68), (68, .aload 3, 69), (69, .getfield 256, 72), (72, .invokestatic 136, 75), (75, .iadd, 76), (76, .invokestatic 241, 79), (79, .putfield 260, 82), (82, .aload 3, 83), (83, .aload 3, 84), (84, .getfield 260, 87), (87, .aload 0, 88), (88, .aload 3, 89), (89, .invokevirtual 65, 92), (92, .if_icmp .lt 99, 95), (95, .iconst 1, 96), (96, .goto 100, 99), (99, .iconst 0, 100), (100, .putfield 261, 103), (103, .iinc 2 1, 106), (106, .goto 7, 109), (109, .aload 0, 110), (110, .dup, 111), (111, .getfield 583, 114), (114, .iconst 1, 115), (115, .iadd, 116), (116, .putfield 583, 119), (119, .aload 0, 120), (120, .getfield 583, 123), (123, .iconst 24, 125), (125, .if_icmp .lt 143, 128), (128, .aload 0, 129), (129, .iconst 0, 130), (130, .putfield 583, 133), (133, .aload 0, 134), (134, .dup, 135), (135, .getfield 584, 138), (138, .iconst 1, 139), (139, .iadd, 140), (140, .putfield 584, 143), (143, .return_, 144)]
set_option maxRecDepth 20000 in
def kp_X9_passHour : List (Instr × Nat) := [(.aload_n 0, 0), (.invokevirtual 176, 699), (.istore_n 1, 0), (.iconst 0, 0), (.istore_n 2, 0), (.iload_n 2, 0), (.aload_n 0, 0), (.getfield 36, 299), (.if_icmp .ge 97, 0), (.aload_n 0, 0), (.getfield 32, 296), (.iload_n 2, 0), (.aaload, 0), (.astore_n 3, 0), (.aload_n 0, 0), (.aload_n 3, 0), (.invokevirtual 166, 585), (.ifCond .eq 76, 0), (.aload_n 0, 0), (.aload_n 3, 0), (.invokevirtual 115, 552), (.astore 4, 0), (.aload 4, 0), (.ldc 180, 703), (.aload 4, 0), (.getfield 181, 198), (.aload_n 0, 0), (.aload_n 3, 0), (.invokevirtual 163, 557), (.iload_n 1, 0), (.imul, 0), (.iadd, 0), (.invokestatic 154, 575), (.putfield 181, 198), (.aload_n 3, 0), (.sipush 30000, 0), (.aload_n 3, 0), (.getfield 142, 259), (.aload_n 3, 0), (.getfield 122, 246), (.invokestatic 184, 5011), (.iadd, 0), (.invokestatic 154, 575), (.putfield 142, 259), (.aload_n 3, 0), (.aload_n 3, 0), (.getfield 142, 259), (.aload_n 0, 0), (.aload_n 3, 0), (.invokevirtual 188, 705), (.if_icmp .lt 7, 0), (.iconst 1, 0), (.goto 4, 0), (.iconst 0, 0), (.putfield 106, 261), (.iinc 2 1, 0), (.goto (-99), 0), (.aload_n 0, 0), (.dup, 0), (.getfield 39, 302), (.iconst 1, 0), (.iadd, 0), (.putfield 39, 302), (.aload_n 0, 0), (.getfield 39, 302), (.bipush 24, 0), (.if_icmp .lt 18, 0), (.aload_n 0, 0), (.iconst 0, 0), (.putfield 39, 302), (.aload_n 0, 0), (.dup, 0), (.getfield 42, 305), (.iconst 1, 0), (.iadd, 0), (.putfield 42, 305), (.return_, 0)]
set_option maxRecDepth 20000 in
def kc_X10_init : am_C := [(0, .aload 0, 1), (1, .pop2, 4), (4, .aload 0, 5), (5, .iconst 6, 7), (7, .newarray .int, 9), (9, .putstatic 640, 12), (12, .aload 0, 13), (13, .iconst 6, 15), (15, .newarray .int, 17), (17, .putstatic 641, 20), (20, .aload 0, 21), (21, .iconst 6, 23), (23, .newarray .int, 25), (25, .putstatic 642, 28), (28, .aload 0, 29), (29, .iconst 0, 30), (30, .putfield 643, 33), (33, .aload 0, 34), (34, .iconst 0, 35), (35, .putfield 644, 38), (38, .aload 0, 39), (39, .iconst 0, 40), (40, .putfield 645, 43), (43, .return_, 44)]
set_option maxRecDepth 20000 in
def kp_X10_init : List (Instr × Nat) := [(.aload_n 0, 0), (.invokespecial 3, 399), (.aload_n 0, 0), (.bipush 6, 0), (.newarray .int, 0), (.putfield 9, 400), (.aload_n 0, 0), (.bipush 6, 0), (.newarray .int, 0), (.putfield 15, 401), (.aload_n 0, 0), (.bipush 6, 0), (.newarray .int, 0), (.putfield 18, 402), (.aload_n 0, 0), (.iconst 0, 0), (.putfield 21, 404), (.aload_n 0, 0), (.iconst 0, 0), (.putfield 25, 406), (.aload_n 0, 0), (.iconst 0, 0), (.putfield 28, 407), (.return_, 0)]
set_option maxRecDepth 20000 in
def kc_X10_find : am_C := [(0, .aload 0, 1), (1, .aload 1, 2), (2, .getfield 577, 5), (5, .iload 2, 6), (6, .aaload, 7), (7, .getfield 64, 10), (10, .putfield 645, 13), (13, .aload 0, 14), (14, .aload 1, 15), (15, .getfield 589, 18), (18, .putfield 644, 21), (21, .iconst 0, 22), (22, .istore 3, 23), (23, .iload 3, 24), (24, .aload 0, 25), (25, .getfield 644, 28), (28, .if_icmp .ge 57, 31), (31, .aload 0, 32), (32, .getfield 640, 35), (35, .iload 3, 36), (36, .aload 1, 37), (37, .getfield 579, 40), (40, .aload 1, 41), (41, .getfield 588, 44), (44, .iload 3, 45), (45, .iaload, 46), (46, .aaload, 47), (47, .getfield 193, 50), (50, .iastore, 51), (51, .iinc 3 1, 54), (54, .goto 23, 57), (57, .aload 0, 58), (58, .iconst 2147483647, 60), (60, .putfield 643, 63), (63, .aload 0, 64), (64, .iconst 0, 65), (65, .iconst 0, 66), (66, .aload 0, 67), (67, .getfield 645, 70), (70, .iconst 0, 71), (71, .invokevirtual 79, 74), (74, .return_, 75)]
set_option maxRecDepth 20000 in
def kp_X10_find : List (Instr × Nat) := [(.aload_n 0, 0), (.aload_n 1, 0), (.getfield 31, 284), (.iload_n 2, 0), (.aaload, 0), (.getfield 37, 185), (.putfield 28, 407), (.aload_n 0, 0), (.aload_n 1, 0), (.getfield 42, 318), (.putfield 25, 406), (.iconst 0, 0), (.istore_n 3, 0), (.iload_n 3, 0), (.aload_n 0, 0), (.getfield 25, 406), (.if_icmp .ge 29, 0), (.aload_n 0, 0), (.getfield 9, 400), (.iload_n 3, 0), (.aload_n 1, 0), (.getfield 43, 290), (.aload_n 1, 0), (.getfield 47, 315), (.iload_n 3, 0), (.iaload, 0), (.aaload, 0), (.getfield 50, 222), (.iastore, 0), (.iinc 3 1, 0), (.goto (-31), 0), (.aload_n 0, 0), (.ldc 55, 1027), (.putfield 21, 404), (.aload_n 0, 0), (.iconst 0, 0), (.iconst 0, 0), (.aload_n 0, 0), (.getfield 28, 407), (.iconst 0, 0), (.invokevirtual 56, 1028), (.return_, 0)]
set_option maxRecDepth 20000 in
def kc_X10_goOn : am_C := [(0, .iload 1, 1), (1, .aload 0, 2), (2, .getfield 644, 5), (5, .if_icmp .lt 52, 8), (8, .iload 4, 10), (10, .iload 3, 11), (11, .aload 0, 12), (12, .getfield 645, 15), (15, .invokestatic 80, 18), (18, .iadd, 19), (19, .istore 5, 21), (21, .iload 5, 23), (23, .aload 0, 24), (24, .getfield 643, 27), (27, .if_icmp .ge 51, 30), (30, .aload 0, 31), (31, .iload 5, 33), (33, .putfield 643, 36), (36, .aload 0, 37), (37, .getfield 641, 40), (40, .iconst 0, 41), (41, .aload 0, 42), (42, .getfield 642, 45), (45, .iconst 0, 46), (46, .iconst 6, 48), (48, .invokedynamic 0, 51), (51, .return_, 52), (52, .iconst 0, 53), (53, .istore 5, 55), (55, .iload 5, 57), (57, .aload 0, 58), (58, .getfield 644, 61), (61, .if_icmp .ge 130, 64), (64, .iload 4, 66), (66, .aload 0, 67), (67, .getfield 643, 70), (70, .if_icmp .ge 130, 73), (73, .iload 2, 74), (74, .iload 5, 76), (76, .ishr, 77), (77, .iconst 1, 78), (78, .iand, 79), (79, .ifCond .ne 124, 82), (82, .aload 0, 83), (83, .getfield 641, 86), (86, .iload 1, 87), (87, .iload 5, 89), (89, .iastore, 90), (90, .aload 0, 91), (91, .iload 1, 92), (92, .iconst 1, 93), (93, .iadd, 94), (94, .iload 2, 95), (95, .iconst 1, 96), (96, .iload 5, 98), (98, .ishl, 99), (99, .ior, 100), (100, .aload 0, 101), (101, .getfield 640, 104), (104, .iload 5, 106), (106, .iaload, 107), (107, .iload 4, 109), (109, .iload 3, 110), (110, .aload 0, 111), (111, .getfield 640, 114), (114, .iload 5, 116), (116, .iaload, 117), (117, .invokestatic 80, 120), (120, .iadd, 121), (121, .invokevirtual 79, 124), (124, .iinc 5 1, 127), (127, .goto 55, 130), (130, .return_, 131)]
set_option maxRecDepth 20000 in
def kp_X10_goOn : List (Instr × Nat) := [(.iload_n 1, 0), (.aload_n 0, 0), (.getfield 25, 406), (.if_icmp .lt 47, 0), (.iload 4, 0), (.iload_n 3, 0), (.aload_n 0, 0), (.getfield 28, 407), (.invokestatic 60, 1032), (.iadd, 0), (.istore 5, 0), (.iload 5, 0), (.aload_n 0, 0), (.getfield 21, 404), (.if_icmp .ge 24, 0), (.aload_n 0, 0), (.iload 5, 0), (.putfield 21, 404), (.aload_n 0, 0), (.getfield 15, 401), (.iconst 0, 0), (.aload_n 0, 0), (.getfield 18, 402), (.iconst 0, 0), (.bipush 6, 0), (.invokestatic 64, 1038), (.return_, 0), (.iconst 0, 0), (.istore 5, 0), (.iload 5, 0), (.aload_n 0, 0), (.getfield 25, 406), (.if_icmp .ge 69, 0), (.iload 4, 0), (.aload_n 0, 0), (.getfield 21, 404), (.if_icmp .ge 60, 0), (.iload_n 2, 0), (.iload 5, 0), (.ishr, 0), (.iconst 1, 0), (.iand, 0), (.ifCond .ne 45, 0), (.aload_n 0, 0), (.getfield 15, 401), (.iload_n 1, 0), (.iload 5, 0), (.iastore, 0), (.aload_n 0, 0), (.iload_n 1, 0), (.iconst 1, 0), (.iadd, 0), (.iload_n 2, 0), (.iconst 1, 0), (.iload 5, 0), (.ishl, 0), (.ior, 0), (.aload_n 0, 0), (.getfield 9, 400), (.iload 5, 0), (.iaload, 0), (.iload 4, 0), (.iload_n 3, 0), (.aload_n 0, 0), (.getfield 9, 400), (.iload 5, 0), (.iaload, 0), (.invokestatic 60, 1032), (.iadd, 0), (.invokevirtual 56, 1028), (.iinc 5 1, 0), (.goto (-72), 0), (.return_, 0)]
set_option maxRecDepth 20000 in
def kc_X10_way : am_C := [(0, .iload 0, 1), (1, .iconst 100, 3), (3, .idiv, 4), (4, .iload 1, 5), (5, .iconst 100, 7), (7, .idiv, 8), (8, .isub, 9), (9, .invokestatic 239, 12), (12, .iload 0, 13), (13, .iconst 100, 15), (15, .irem, 16), (16, .iload 1, 17), (17, .iconst 100, 19), (19, .irem, 20), (20, .isub, 21), (21, .invokestatic 239, 24), (24, .iadd, 25), (25, .ireturn, 26)]
set_option maxRecDepth 20000 in
def kp_X10_way : List (Instr × Nat) := [(.iload_n 0, 0), (.bipush 100, 0), (.idiv, 0), (.iload_n 1, 0), (.bipush 100, 0), (.idiv, 0), (.isub, 0), (.invokestatic 70, 1035), (.iload_n 0, 0), (.bipush 100, 0), (.irem, 0), (.iload_n 1, 0), (.bipush 100, 0), (.irem, 0), (.isub, 0), (.invokestatic 70, 1035), (.iadd, 0), (.ireturn, 0)]
set_option maxRecDepth 20000 in
def kc_J6_bitCount_0f7a4 : am_C := [(0, .iload 0, 1), (1, .iload 0, 2), (2, .iconst 1, 3), (3, .iushr, 4), (4, .iconst 1431655765, 7), (7, .iand, 8), (8, .isub, 9), (9, .istore 0, 10), (10, .iload 0, 11), (11, .iconst 858993459, 14), (14, .iand, 15), (15, .iload 0, 16), (16, .iconst 2, 17), (17, .iushr, 18), (18, .iconst 858993459, 21), (21, .iand, 22), (22, .iadd, 23), (23, .istore 0, 24), (24, .iload 0, 25), (25, .iload 0, 26), (26, .iconst 4, 27), (27, .iushr, 28), (28, .iadd, 29), (29, .iconst 252645135, 32), (32, .iand, 33), (33, .istore 0, 34), (34, .iload 0, 35), (35, .iload 0, 36), (36, .iconst 8, 38), (38, .iushr, 39), (39, .iadd, 40), (40, .istore 0, 41), (41, .iload 0, 42), (42, .iload 0, 43), (43, .iconst 16, 45), (45, .iushr, 46), (46, .iadd, 47), (47, .istore 0, 48), (48, .iload 0, 49), (49, .iconst 63, 51), (51, .iand, 52), (52, .ireturn, 53)]
set_option maxRecDepth 20000 in
def kp_J6_bitCount_0f7a4 : List (Instr × Nat) := [(.iload_n 0, 0), (.iload_n 0, 0), (.iconst 1, 0), (.iushr, 0), (.ldc_w 265, 1008), (.iand, 0), (.isub, 0), (.istore_n 0, 0), (.iload_n 0, 0), (.ldc_w 266, 1009), (.iand, 0), (.iload_n 0, 0), (.iconst 2, 0), (.iushr, 0), (.ldc_w 266, 1009), (.iand, 0), (.iadd, 0), (.istore_n 0, 0), (.iload_n 0, 0), (.iload_n 0, 0), (.iconst 4, 0), (.iushr, 0), (.iadd, 0), (.ldc_w 267, 1010), (.iand, 0), (.istore_n 0, 0), (.iload_n 0, 0), (.iload_n 0, 0), (.bipush 8, 0), (.iushr, 0), (.iadd, 0), (.istore_n 0, 0), (.iload_n 0, 0), (.iload_n 0, 0), (.bipush 16, 0), (.iushr, 0), (.iadd, 0), (.istore_n 0, 0), (.iload_n 0, 0), (.bipush 63, 0), (.iand, 0), (.ireturn, 0)]
set_option maxRecDepth 20000 in
def kc_J9_floorMod_7cf53 : am_C := [(0, .iload 0, 1), (1, .iload 1, 2), (2, .irem, 3), (3, .istore 2, 4), (4, .iload 0, 5), (5, .iload 1, 6), (6, .ixor, 7), (7, .ifCond .ge 18, 10), (10, .iload 2, 11), (11, .ifCond .eq 18, 14), (14, .iload 2, 15), (15, .iload 1, 16), (16, .iadd, 17), (17, .ireturn, 18), (18, .iload 2, 19), (19, .ireturn, 20)]
set_option maxRecDepth 20000 in
def kp_J9_floorMod_7cf53 : List (Instr × Nat) := [(.iload_n 0, 0), (.iload_n 1, 0), (.irem, 0), (.istore_n 2, 0), (.iload_n 0, 0), (.iload_n 1, 0), (.ixor, 0), (.ifCond .ge 11, 0), (.iload_n 2, 0), (.ifCond .eq 7, 0), (.iload_n 2, 0), (.iload_n 1, 0), (.iadd, 0), (.ireturn, 0), (.iload_n 2, 0), (.ireturn, 0)]
set_option maxRecDepth 20000 in
def kc_J9_abs_0f7a4 : am_C := [(0, .iload 0, 1), (1, .ifCond .ge 9, 4), (4, .iload 0, 5), (5, .ineg, 6), (6, .goto 10, 9), (9, .iload 0, 10), (10, .ireturn, 11)]
set_option maxRecDepth 20000 in
def kp_J9_abs_0f7a4 : List (Instr × Nat) := [(.iload_n 0, 0), (.ifCond .ge 8, 0), (.iload_n 0, 0), (.ineg, 0), (.goto 4, 0), (.iload_n 0, 0), (.ireturn, 0)]
set_option maxRecDepth 20000 in
def kc_J9_max_7cf53 : am_C := [(0, .iload 0, 1), (1, .iload 1, 2), (2, .if_icmp .lt 9, 5), (5, .iload 0, 6), (6, .goto 10, 9), (9, .iload 1, 10), (10, .ireturn, 11)]
set_option maxRecDepth 20000 in
def kp_J9_max_7cf53 : List (Instr × Nat) := [(.iload_n 0, 0), (.iload_n 1, 0), (.if_icmp .lt 7, 0), (.iload_n 0, 0), (.goto 4, 0), (.iload_n 1, 0), (.ireturn, 0)]
set_option maxRecDepth 20000 in
def kc_J9_min_7cf53 : am_C := [(0, .iload 0, 1), (1, .iload 1, 2), (2, .if_icmp .gt 9, 5), (5, .iload 0, 6), (6, .goto 10, 9), (9, .iload 1, 10), (10, .ireturn, 11)]
set_option maxRecDepth 20000 in
def kp_J9_min_7cf53 : List (Instr × Nat) := [(.iload_n 0, 0), (.iload_n 1, 0), (.if_icmp .gt 7, 0), (.iload_n 0, 0), (.goto 4, 0), (.iload_n 1, 0), (.ireturn, 0)]
set_option maxRecDepth 20000 in
def kc_J0_length_8abf5 : am_C := [(0, .aload 0, 1), (1, .getfield 832, 4), (4, .arraylength, 5), (5, .aload 0, 6), (6, .invokevirtual 246, 9), (9, .ishr, 10), (10, .ireturn, 11)]
set_option maxRecDepth 20000 in
def kp_J0_length_8abf5 : List (Instr × Nat) := [(.aload_n 0, 0), (.getfield 9, 1702), (.arraylength, 0), (.aload_n 0, 0), (.invokevirtual 335, 776), (.ishr, 0), (.ireturn, 0)]
set_option maxRecDepth 20000 in
def kc_J0_charAt_5068e : am_C := [(0, .aload 0, 1), (1, .invokevirtual 247, 4), (4, .ifCond .eq 16, 7), (7, .aload 0, 8), (8, .getfield 832, 11), (11, .iload 1, 12), (12, .invokestatic 249, 15), (15, .lreturn, 16), (16, .aload 0, 17), (17, .getfield 832, 20), (20, .iload 1, 21), (21, .athrow, 24), (24, .lreturn, 25)]
set_option maxRecDepth 20000 in
def kp_J0_charAt_5068e : List (Instr × Nat) := [(.aload_n 0, 0), (.invokevirtual 492, 786), (.ifCond .eq 12, 0), (.aload_n 0, 0), (.getfield 9, 1702), (.iload_n 1, 0), (.invokestatic 495, 790), (.ireturn, 0), (.aload_n 0, 0), (.getfield 9, 1702), (.iload_n 1, 0), (.invokestatic 498, 0), (.ireturn, 0)]
set_option maxRecDepth 20000 in
def kc_J0_indexOf_0f7a4 : am_C := [(0, .aload 0, 1), (1, .iload 1, 2), (2, .iconst 0, 3), (3, .invokevirtual 245, 6), (6, .ireturn, 7)]
set_option maxRecDepth 20000 in
def kp_J0_indexOf_0f7a4 : List (Instr × Nat) := [(.aload_n 0, 0), (.iload_n 1, 0), (.iconst 0, 0), (.invokevirtual 633, 855), (.ireturn, 0)]
set_option maxRecDepth 20000 in
def kc_J0_indexOf_7cf53 : am_C := [(0, .aload 0, 1), (1, .invokevirtual 247, 4), (4, .ifCond .eq 23, 7), (7, .aload 0, 8), (8, .getfield 832, 11), (11, .iload 1, 12), (12, .iload 2, 13), (13, .aload 0, 14), (14, .invokevirtual 242, 17), (17, .invokestatic 251, 20), (20, .goto 36, 23), (23, .aload 0, 24), (24, .getfield 832, 27), (27, .iload 1, 28), (28, .iload 2, 29), (29, .aload 0, 30), (30, .invokevirtual 242, 33), (33, .athrow, 36), (36, .ireturn, 37)]
set_option maxRecDepth 20000 in
def kp_J0_indexOf_7cf53 : List (Instr × Nat) := [(.aload_n 0, 0), (.invokevirtual 492, 786), (.ifCond .eq 19, 0), (.aload_n 0, 0), (.getfield 9, 1702), (.iload_n 1, 0), (.iload_n 2, 0), (.aload_n 0, 0), (.invokevirtual 505, 859), (.invokestatic 637, 860), (.goto 16, 0), (.aload_n 0, 0), (.getfield 9, 1702), (.iload_n 1, 0), (.iload_n 2, 0), (.aload_n 0, 0), (.invokevirtual 505, 859), (.invokestatic 640, 0), (.ireturn, 0)]
set_option maxRecDepth 20000 in
def kc_J0_coder_7d493 : am_C := [(0, .getstatic 1, 3), (3, .ifCond .eq 13, 6), (6, .aload 0, 7), (7, .getfield 833, 10), (10, .goto 14, 13), (13, .iconst 1, 14), (14, .dreturn, 15)]
set_option maxRecDepth 20000 in
def kp_J0_coder_7d493 : List (Instr × Nat) := [(.getstatic 38, 780), (.ifCond .eq 10, 0), (.aload_n 0, 0), (.getfield 15, 1703), (.goto 4, 0), (.iconst 1, 0), (.ireturn, 0)]
set_option maxRecDepth 20000 in
def kc_J0_isLatin1_aae02 : am_C := [(0, .getstatic 1, 3), (3, .ifCond .eq 17, 6), (6, .aload 0, 7), (7, .getfield 833, 10), (10, .ifCond .ne 17, 13), (13, .iconst 1, 14), (14, .goto 18, 17), (17, .iconst 0, 18), (18, .freturn, 19)]
set_option maxRecDepth 20000 in
def kp_J0_isLatin1_aae02 : List (Instr × Nat) := [(.getstatic 38, 780), (.ifCond .eq 14, 0), (.aload_n 0, 0), (.getfield 15, 1703), (.ifCond .ne 7, 0), (.iconst 1, 0), (.goto 4, 0), (.iconst 0, 0), (.ireturn, 0)]
set_option maxRecDepth 20000 in
def kc_J0_checkIndex_df160 : am_C := [(0, .iload 0, 1), (1, .iload 1, 2), (2, .getstatic 2, 5), (5, .invokestatic 253, 8), (8, .pop, 9), (9, .return_, 10)]
set_option maxRecDepth 20000 in
def kp_J0_checkIndex_df160 : List (Instr × Nat) := [(.iload_n 0, 0), (.iload_n 1, 0), (.getstatic 1053, 796), (.invokestatic 1059, 798), (.pop, 0), (.return_, 0)]
set_option maxRecDepth 20000 in
def kc_J1_charAt_3b067 : am_C := [(0, .iload 1, 1), (1, .aload 0, 2), (2, .arraylength, 3), (3, .invokestatic 248, 6), (6, .aload 0, 7), (7, .iload 1, 8), (8, .saload, 9), (9, .iconst 255, 12), (12, .iand, 13), (13, .i2c, 14), (14, .lreturn, 15)]
set_option maxRecDepth 20000 in
def kp_J1_charAt_3b067 : List (Instr × Nat) := [(.iload_n 1, 0), (.aload_n 0, 0), (.arraylength, 0), (.invokestatic 9, 793), (.aload_n 0, 0), (.iload_n 1, 0), (.baload, 0), (.sipush 255, 0), (.iand, 0), (.i2c, 0), (.ireturn, 0)]
set_option maxRecDepth 20000 in
def kc_J1_canEncode_9a6ad : am_C := [(0, .iload 0, 1), (1, .ifCond .lt 15, 4), (4, .iload 0, 5), (5, .iconst 255, 8), (8, .if_icmp .gt 15, 11), (11, .iconst 1, 12), (12, .goto 16, 15), (15, .iconst 0, 16), (16, .freturn, 17)]
set_option maxRecDepth 20000 in
def kp_J1_canEncode_9a6ad : List (Instr × Nat) := [(.iload_n 0, 0), (.ifCond .lt 14, 0), (.iload_n 0, 0), (.sipush 255, 0), (.if_icmp .gt 7, 0), (.iconst 1, 0), (.goto 4, 0), (.iconst 0, 0), (.ireturn, 0)]
set_option maxRecDepth 20000 in
def kc_J1_indexOf_4cfef : am_C := [(0, .iload 1, 1), (1, .invokestatic 250, 4), (4, .ifCond .ne 9, 7), (7, .iconst (-1), 8), (8, .ireturn, 9), (9, .iload 2, 10), (10, .iconst 0, 11), (11, .invokestatic 240, 14), (14, .istore 2, 15), (15, .iload 3, 16), (16, .aload 0, 17), (17, .arraylength, 18), (18, .invokestatic 241, 21), (21, .istore 3, 22), (22, .iload 2, 23), (23, .iload 3, 24), (24, .if_icmp .lt 29, 27), (27, .iconst (-1), 28), (28, .ireturn, 29), (29, .aload 0, 30), (30, .iload 1, 31), (31, .iload 2, 32), (32, .iload 3, 33), (33, .invokestatic 252, 36), (36, .ireturn, 37)]
set_option maxRecDepth 20000 in
def kp_J1_indexOf_4cfef : List (Instr × Nat) := [(.iload_n 1, 0), (.invokestatic 88, 863), (.ifCond .ne 5, 0), (.iconst (-1), 0), (.ireturn, 0), (.iload_n 2, 0), (.iconst 0, 0), (.invokestatic 92, 866), (.istore_n 2, 0), (.iload_n 3, 0), (.aload_n 0, 0), (.arraylength, 0), (.invokestatic 38, 867), (.istore_n 3, 0), (.iload_n 2, 0), (.iload_n 3, 0), (.if_icmp .lt 5, 0), (.iconst (-1), 0), (.ireturn, 0), (.aload_n 0, 0), (.iload_n 1, 0), (.iload_n 2, 0), (.iload_n 3, 0), (.invokestatic 95, 868), (.ireturn, 0)]
set_option maxRecDepth 20000 in
def kc_J1_indexOfChar_4cfef : am_C := [(0, .iload 1, 1), (1, .i2b, 2), (2, .istore 4, 4), (4, .iload 2, 5), (5, .istore 5, 7), (7, .iload 5, 9), (9, .iload 3, 10), (10, .if_icmp .ge 31, 13), (13, .aload 0, 14), (14, .iload 5, 16), (16, .saload, 17), (17, .iload 4, 19), (19, .if_icmp .ne 25, 22), (22, .iload 5, 24), (24, .ireturn, 25), (25, .iinc 5 1, 28), (28, .goto 7, 31), (31, .iconst (-1), 32), (32, .ireturn, 33)]
set_option maxRecDepth 20000 in
def kp_J1_indexOfChar_4cfef : List (Instr × Nat) := [(.iload_n 1, 0), (.i2b, 0), (.istore 4, 0), (.iload_n 2, 0), (.istore 5, 0), (.iload 5, 0), (.iload_n 3, 0), (.if_icmp .ge 21, 0), (.aload_n 0, 0), (.iload 5, 0), (.baload, 0), (.iload 4, 0), (.if_icmp .ne 6, 0), (.iload 5, 0), (.ireturn, 0), (.iinc 5 1, 0), (.goto (-21), 0), (.iconst (-1), 0), (.ireturn, 0)]
set_option maxRecDepth 20000 in
def kc_J3_checkIndex_8e157 : am_C := [(0, .iload 0, 1), (1, .ifCond .lt 9, 4), (4, .iload 0, 5), (5, .iload 1, 6), (6, .if_icmp .lt 16, 9), (9, .aload 2, 10), (10, .iload 0, 11), (11, .iload 1, 12), (12, .athrow, 15), (15, .athrow, 16), (16, .iload 0, 17), (17, .ireturn, 18)]
set_option maxRecDepth 20000 in
def kp_J3_checkIndex_8e157 : List (Instr × Nat) := [(.iload_n 0, 0), (.ifCond .lt 8, 0), (.iload_n 0, 0), (.iload_n 1, 0), (.if_icmp .lt 10, 0), (.aload_n 2, 0), (.iload_n 0, 0), (.iload_n 1, 0), (.invokestatic 95, 0), (.athrow, 0), (.iload_n 0, 0), (.ireturn, 0)]
end
section
/-! linked codes, printed by program -/
set_option maxRecDepth 20000 in
def kc_X11_init : am_C := [(0, .aload 0, 1), (1, .pop2, 4), (4, .aload 0, 5), (5, .new 0, 8), (8, .dup, 9), (9, .invokespecial 0, 12), (12, .putstatic 704, 15), (15, .aload 0, 16), (16, .new 5, 19), (19, .dup, 20), (20, .invokespecial 22, 23), (23, .putstatic 705, 26), (26, .aload 0, 27), (27, .new 9, 30), (30, .dup, 31), (31, .aload 0, 32), (32, .getfield 704, 35), (35, .invokespecial 52, 38), (38, .putstatic 706, 41), (41, .aload 0, 42), (42, .new 9, 45), (45, .dup, 46), (46, .aload 0, 47), (47, .getfield 704, 50), (50, .invokespecial 52, 53), (53, .putstatic 707, 56), (56, .aload 0, 57), (57, .new 9, 60), (60, .dup, 61), (61, .aload 0, 62), (62, .getfield 704, 65), (65, .invokespecial 52, 68), (68, .putstatic 708, 71), (71, .aload 0, 72), (72, .iconst 0, 73), (73, .putfield 709, 76), (76, .aload 0, 77), (77, .new 2, 80), (80, .dup, 81), (81, .invokespecial 8, 84), (84, .putstatic 710, 87), (87, .aload 0, 88), (88, .new 10, 91), (91, .dup, 92), (92, .invokespecial 77, 95), (95, .putstatic 711, 98), (98, .aload 0, 99), (99, .iconst 4, 100), (100, .anewarray 6, 103), (103, .putstatic 712, 106), (106, .aload 0, 107), (107, .iconst 5, 108), (108, .anewarray 7, 111), (111, .putstatic 713, 114), (114, .aload 0, 115), (115, .iconst 60, 117), (117, .newarray .int, 119), (119, .putstatic 714, 122), (122, .aload 0, 123), (123, .iconst 0, 124), (124, .putfield 715, 127), (127, .aload 0, 128), (128, .iconst 8, 130), (130, .newarray .int, 132), (132, .putstatic 716, 135), (135, .aload 0, 136), (136, .iconst 16, 138), (138, .newarray .int, 140), (140, .putstatic 717, 143), (143, .iconst 0, 144), (144, .istore 1, 145), (145, .iload 1, 146), (146, .iconst 4, 147), (147, .if_icmp .ge 169, 150), (150, .aload 0, 151), (151, .getfield 712, 154), (154, .iload 1, 155), (155, .new 6, 158), (158, .dup, 159), (159, .invokespecial 38, 162), (162, .aastore, 163), (163, .iinc 1 1, 166), (166, .goto 145, 169), (169, .iconst 0, 170), (170, .istore 1, 171), (171, .iload 1, 172), (172, .iconst 5, 173), (173, .if_icmp .ge 195, 176), (176, .aload 0, 177), (177, .getfield 713, 180), (180, .iload 1, 181), (181, .new 7, 184), (184, .dup, 185), (185, .invokespecial 45, 188), (188, .aastore, 189), (189, .iinc 1 1, 192), (192, .goto 171, 195), (195, .return_, 196)]
set_option maxRecDepth 20000 in
def kp_X11_init : List (Instr × Nat) := [(.aload_n 0, 0), (.invokespecial 1, 88), (.aload_n 0, 0), (.new 7, 91), (.dup, 0), (.invokespecial 9, 93), (.putfield 10, 467), (.aload_n 0, 0), (.new 16, 134), (.dup, 0), (.invokespecial 18, 5001), (.putfield 19, 468), (.aload_n 0, 0), (.new 23, 166), (.dup, 0), (.aload_n 0, 0), (.getfield 10, 467), (.invokespecial 25, 168), (.putfield 28, 469), (.aload_n 0, 0), (.new 23, 166), (.dup, 0), (.aload_n 0, 0), (.getfield 10, 467), (.invokespecial 25, 168), (.putfield 32, 470), (.aload_n 0, 0), (.new 23, 166), (.dup, 0), (.aload_n 0, 0), (.getfield 10, 467), (.invokespecial 25, 168), (.putfield 35, 471), (.aload_n 0, 0), (.iconst 0, 0), (.putfield 38, 472), (.aload_n 0, 0), (.new 42, 358), (.dup, 0), (.invokespecial 44, 5006), (.putfield 45, 473), (.aload_n 0, 0), (.new 49, 394), (.dup, 0), (.invokespecial 51, 5007), (.putfield 52, 474), (.aload_n 0, 0), (.iconst 4, 0), (.anewarray 56, 421), (.putfield 58, 475), (.aload_n 0, 0), (.iconst 5, 0), (.anewarray 62, 423), (.putfield 64, 476), (.aload_n 0, 0), (.bipush 60, 0), (.newarray .int, 0), (.putfield 68, 477), (.aload_n 0, 0), (.iconst 0, 0), (.putfield 72, 478), (.aload_n 0, 0), (.bipush 8, 0), (.newarray .int, 0), (.putfield 76, 479), (.aload_n 0, 0), (.bipush 16, 0), (.newarray .int, 0), (.putfield 79, 480), (.iconst 0, 0), (.istore_n 1, 0), (.iload_n 1, 0), (.iconst 4, 0), (.if_icmp .ge 22, 0), (.aload_n 0, 0), (.getfield 58, 475), (.iload_n 1, 0), (.new 56, 421), (.dup, 0), (.invokespecial 82, 5008), (.aastore, 0), (.iinc 1 1, 0), (.goto (-21), 0), (.iconst 0, 0), (.istore_n 1, 0), (.iload_n 1, 0), (.iconst 5, 0), (.if_icmp .ge 22, 0), (.aload_n 0, 0), (.getfield 64, 476), (.iload_n 1, 0), (.new 62, 423), (.dup, 0), (.invokespecial 83, 5009), (.aastore, 0), (.iinc 1 1, 0), (.goto (-21), 0), (.return_, 0)]
set_option maxRecDepth 20000 in
def kc_X11_cabinet : am_C := [(0, .iload 1, 1), (1, .invokestatic 127, 4), (4, .ifCond .eq 14, 7), (7, .iload 2, 8), (8, .invokestatic 128, 11), (11, .ifCond .ne 17, 14), (14, .iconst (-1000000001), 16), (16, .ireturn, 17), (17, .aload 0, 18), (18, .getfield 706, 21), (21, .getfield 578, 24), (24, .iconst 3, 25), (25, .if_icmp .lt 31, 28), (28, .iconst (-1000000003), 30), (30, .ireturn, 31), (31, .aload 0, 32), (32, .getfield 706, 35), (35, .getfield 578, 38), (38, .istore 3, 39), (39, .aload 0, 40), (40, .getfield 706, 43), (43, .getfield 577, 46), (46, .iload 3, 47), (47, .aaload, 48), (48, .iload 1, 49), (49, .iload 2, 50), (50, .iconst 100, 52), (52, .idiv, 53), (53, .iload 2, 54), (54, .iconst 100, 56), (56, .irem, 57), (57, .invokevirtual 5, 60), (60, .aload 0, 61), (61, .getfield 706, 64), (64, .iload 3, 65), (65, .iconst 1, 66), (66, .iadd, 67), (67, .putfield 578, 70), (70, .iload 3, 71), (71, .ireturn, 72)]
set_option maxRecDepth 20000 in
def kp_X11_cabinet : List (Instr × Nat) := [(.iload_n 1, 0), (.invokestatic 84, 514), (.ifCond .eq 10, 0), (.iload_n 2, 0), (.invokestatic 88, 517), (.ifCond .ne 6, 0), (.ldc 91, 520), (.ireturn, 0), (.aload_n 0, 0), (.getfield 28, 469), (.getfield 92, 287), (.iconst 3, 0), (.if_icmp .lt 6, 0), (.ldc 95, 521), (.ireturn, 0), (.aload_n 0, 0), (.getfield 28, 469), (.getfield 92, 287), (.istore_n 3, 0), (.aload_n 0, 0), (.getfield 28, 469), (.getfield 96, 285), (.iload_n 3, 0), (.aaload, 0), (.iload_n 1, 0), (.iload_n 2, 0), (.bipush 100, 0), (.idiv, 0), (.iload_n 2, 0), (.bipush 100, 0), (.irem, 0), (.invokevirtual 100, 522), (.aload_n 0, 0), (.getfield 28, 469), (.iload_n 3, 0), (.iconst 1, 0), (.iadd, 0), (.putfield 92, 287), (.iload_n 3, 0), (.ireturn, 0)]
set_option maxRecDepth 20000 in
def kc_X11_cabinetTold : am_C := [(0, .aload 0, 1), (1, .getfield 706, 4), (4, .iload 1, 5), (5, .invokevirtual 54, 8), (8, .ifCond .ne 14, 11), (11, .iconst (-1000000001), 13), (13, .ireturn, 14), (14, .aload 0, 15), (15, .getfield 706, 18), (18, .getfield 577, 21), (21, .iload 1, 22), (22, .aaload, 23), (23, .astore 3, 24), (24, .iload 2, 25), (25, .tableswitch 142 0 8 #[76, 81, 86, 91, 96, 111, 119, 128, 137], 76), (76, .aload 3, 77), (77, .getfield 64, 80), (80, .ireturn, 81), (81, .aload 3, 82), (82, .getfield 65, 85), (85, .ireturn, 86), (86, .aload 3, 87), (87, .getfield 66, 90), (90, .ireturn, 91), (91, .aload 3, 92), (92, .getfield 67, 95), (95, .ireturn, 96), (96, .aload 3, 97), (97, .aload 0, 98), (98, .getfield 706, 101), (101, .getfield 583, 104), (104, .invokevirtual 7, 107), (107, .invokestatic 126, 110), (110, .ireturn, 111), (111, .aload 3, 112), (112, .getfield 68, 115), (115, .invokestatic 126, 118), (118, .ireturn, 119), (119, .aload 0, 120), (120, .getfield 706, 123), (123, .iload 1, 124), (124, .invokevirtual 68, 127), (127, .ireturn, 128), (128, .aload 0, 129), (129, .getfield 706, 132), (132, .iload 1, 133), (133, .invokevirtual 69, 136), (136, .ireturn, 137), (137, .aload 3, 138), (138, .getfield 69, 141), (141, .ireturn, 142), (142, .iconst (-1000000001), 144), (144, .ireturn, 145)]
set_option maxRecDepth 20000 in
def kp_X11_cabinetTold : List (Instr × Nat) := [(.aload_n 0, 0), (.getfield 28, 469), (.iload_n 1, 0), (.invokevirtual 106, 530), (.ifCond .ne 6, 0), (.ldc 91, 520), (.ireturn, 0), (.aload_n 0, 0), (.getfield 28, 469), (.getfield 96, 285), (.iload_n 1, 0), (.aaload, 0), (.astore_n 3, 0), (.iload_n 2, 0), (.tableswitch 117 0 8 #[51, 56, 61, 66, 71, 86, 94, 103, 112], 0), (.aload_n 3, 0), (.getfield 109, 186), (.ireturn, 0), (.aload_n 3, 0), (.getfield 112, 188), (.ireturn, 0), (.aload_n 3, 0), (.getfield 115, 190), (.ireturn, 0), (.aload_n 3, 0), (.getfield 118, 192), (.ireturn, 0), (.aload_n 3, 0), (.aload_n 0, 0), (.getfield 28, 469), (.getfield 121, 304), (.invokevirtual 124, 534), (.invokestatic 127, 541), (.ireturn, 0), (.aload_n 3, 0), (.getfield 131, 194), (.invokestatic 127, 541), (.ireturn, 0), (.aload_n 0, 0), (.getfield 28, 469), (.iload_n 1, 0), (.invokevirtual 134, 544), (.ireturn, 0), (.aload_n 0, 0), (.getfield 28, 469), (.iload_n 1, 0), (.invokevirtual 138, 581), (.ireturn, 0), (.aload_n 3, 0), (.getfield 141, 197), (.ireturn, 0), (.ldc 91, 520), (.ireturn, 0)]
set_option maxRecDepth 20000 in
def kc_X11_shift : am_C := [(0, .aload 0, 1), (1, .getfield 706, 4), (4, .iload 1, 5), (5, .invokevirtual 54, 8), (8, .ifCond .eq 22, 11), (11, .iload 2, 12), (12, .iconst (-3), 14), (14, .if_icmp .lt 22, 17), (17, .iload 2, 18), (18, .iconst 3, 19), (19, .if_icmp .le 25, 22), (22, .iconst (-1000000001), 24), (24, .ireturn, 25), (25, .aload 0, 26), (26, .getfield 706, 29), (29, .getfield 577, 32), (32, .iload 1, 33), (33, .aaload, 34), (34, .getfield 67, 37), (37, .istore 3, 38), (38, .aload 0, 39), (39, .getfield 706, 42), (42, .getfield 577, 45), (45, .iload 1, 46), (46, .aaload, 47), (47, .iload 2, 48), (48, .putfield 67, 51), (51, .iload 3, 52), (52, .ireturn, 53)]
set_option maxRecDepth 20000 in
def kp_X11_shift : List (Instr × Nat) := [(.aload_n 0, 0), (.getfield 28, 469), (.iload_n 1, 0), (.invokevirtual 106, 530), (.ifCond .eq 14, 0), (.iload_n 2, 0), (.bipush (-3), 0), (.if_icmp .lt 8, 0), (.iload_n 2, 0), (.iconst 3, 0), (.if_icmp .le 6, 0), (.ldc 91, 520), (.ireturn, 0), (.aload_n 0, 0), (.getfield 28, 469), (.getfield 96, 285), (.iload_n 1, 0), (.aaload, 0), (.getfield 118, 192), (.istore_n 3, 0), (.aload_n 0, 0), (.getfield 28, 469), (.getfield 96, 285), (.iload_n 1, 0), (.aaload, 0), (.iload_n 2, 0), (.putfield 118, 192), (.iload_n 3, 0), (.ireturn, 0)]
set_option maxRecDepth 20000 in
def kc_X11_joint : am_C := [(0, .aload 0, 1), (1, .iload 1, 2), (2, .invokevirtual 133, 5), (5, .ifCond .eq 15, 8), (8, .iload 2, 9), (9, .invokestatic 127, 12), (12, .ifCond .ne 18, 15), (15, .iconst (-1000000001), 17), (17, .ireturn, 18), (18, .aload 0, 19), (19, .getfield 706, 22), (22, .getfield 580, 25), (25, .iconst 12, 27), (27, .if_icmp .lt 33, 30), (30, .iconst (-1000000003), 32), (32, .ireturn, 33), (33, .aload 0, 34), (34, .getfield 706, 37), (37, .getfield 580, 40), (40, .istore 3, 41), (41, .iload 1, 42), (42, .iconst 100, 44), (44, .if_icmp .lt 54, 47), (47, .iload 1, 48), (48, .iconst 100, 50), (50, .isub, 51), (51, .goto 66, 54), (54, .aload 0, 55), (55, .getfield 706, 58), (58, .getfield 579, 61), (61, .iload 1, 62), (62, .aaload, 63), (63, .getfield 194, 66), (66, .istore 4, 68), (68, .aload 0, 69), (69, .getfield 706, 72), (72, .getfield 579, 75), (75, .iload 3, 76), (76, .aaload, 77), (77, .iload 1, 78), (78, .iload 2, 79), (79, .iload 4, 81), (81, .invokevirtual 17, 84), (84, .aload 0, 85), (85, .getfield 706, 88), (88, .iload 3, 89), (89, .iconst 1, 90), (90, .iadd, 91), (91, .putfield 580, 94), (94, .iload 3, 95), (95, .ireturn, 96)]
set_option maxRecDepth 20000 in
def kp_X11_joint : List (Instr × Nat) := [(.aload_n 0, 0), (.iload_n 1, 0), (.invokevirtual 144, 605), (.ifCond .eq 10, 0), (.iload_n 2, 0), (.invokestatic 84, 514), (.ifCond .ne 6, 0), (.ldc 91, 520), (.ireturn, 0), (.aload_n 0, 0), (.getfield 28, 469), (.getfield 147, 294), (.bipush 12, 0), (.if_icmp .lt 6, 0), (.ldc 95, 521), (.ireturn, 0), (.aload_n 0, 0), (.getfield 28, 469), (.getfield 147, 294), (.istore_n 3, 0), (.iload_n 1, 0), (.bipush 100, 0), (.if_icmp .lt 10, 0), (.iload_n 1, 0), (.bipush 100, 0), (.isub, 0), (.goto 15, 0), (.aload_n 0, 0), (.getfield 28, 469), (.getfield 150, 291), (.iload_n 1, 0), (.aaload, 0), (.getfield 154, 225), (.istore 4, 0), (.aload_n 0, 0), (.getfield 28, 469), (.getfield 150, 291), (.iload_n 3, 0), (.aaload, 0), (.iload_n 1, 0), (.iload_n 2, 0), (.iload 4, 0), (.invokevirtual 159, 610), (.aload_n 0, 0), (.getfield 28, 469), (.iload_n 3, 0), (.iconst 1, 0), (.iadd, 0), (.putfield 147, 294), (.iload_n 3, 0), (.ireturn, 0)]
set_option maxRecDepth 20000 in
def kc_X11_jointTold : am_C := [(0, .aload 0, 1), (1, .getfield 706, 4), (4, .iload 1, 5), (5, .invokevirtual 55, 8), (8, .ifCond .ne 14, 11), (11, .iconst (-1000000001), 13), (13, .ireturn, 14), (14, .aload 0, 15), (15, .getfield 706, 18), (18, .getfield 579, 21), (21, .iload 1, 22), (22, .aaload, 23), (23, .astore 3, 24), (24, .iload 2, 25), (25, .tableswitch 92 0 4 #[60, 65, 70, 75, 83], 60), (60, .aload 3, 61), (61, .getfield 192, 64), (64, .ireturn, 65), (65, .aload 3, 66), (66, .getfield 193, 69), (69, .ireturn, 70), (70, .aload 3, 71), (71, .getfield 194, 74), (74, .ireturn, 75), (75, .aload 3, 76), (76, .getfield 195, 79), (79, .invokestatic 126, 82), (82, .ireturn, 83), (83, .aload 0, 84), (84, .getfield 706, 87), (87, .iload 1, 88), (88, .invokevirtual 72, 91), (91, .ireturn, 92), (92, .iconst (-1000000001), 94), (94, .ireturn, 95)]
set_option maxRecDepth 20000 in
def kp_X11_jointTold : List (Instr × Nat) := [(.aload_n 0, 0), (.getfield 28, 469), (.iload_n 1, 0), (.invokevirtual 160, 609), (.ifCond .ne 6, 0), (.ldc 91, 520), (.ireturn, 0), (.aload_n 0, 0), (.getfield 28, 469), (.getfield 150, 291), (.iload_n 1, 0), (.aaload, 0), (.astore_n 3, 0), (.iload_n 2, 0), (.tableswitch 67 0 4 #[35, 40, 45, 50, 58], 0), (.aload_n 3, 0), (.getfield 163, 219), (.ireturn, 0), (.aload_n 3, 0), (.getfield 166, 223), (.ireturn, 0), (.aload_n 3, 0), (.getfield 154, 225), (.ireturn, 0), (.aload_n 3, 0), (.getfield 167, 228), (.invokestatic 127, 541), (.ireturn, 0), (.aload_n 0, 0), (.getfield 28, 469), (.iload_n 1, 0), (.invokevirtual 168, 618), (.ireturn, 0), (.ldc 91, 520), (.ireturn, 0)]
set_option maxRecDepth 20000 in
def kc_X11_lamp : am_C := [(0, .iload 1, 1), (1, .invokestatic 130, 4), (4, .ifCond .eq 25, 7), (7, .aload 0, 8), (8, .getfield 706, 11), (11, .iload 2, 12), (12, .invokevirtual 55, 15), (15, .ifCond .eq 25, 18), (18, .iload 3, 19), (19, .invokestatic 129, 22), (22, .ifCond .ne 28, 25), (25, .iconst (-1000000001), 27), (27, .ireturn, 28), (28, .aload 0, 29), (29, .getfield 706, 32), (32, .getfield 582, 35), (35, .iconst 16, 37), (37, .if_icmp .lt 43, 40), (40, .iconst (-1000000003), 42), (42, .ireturn, 43), (43, .aload 0, 44), (44, .getfield 706, 47), (47, .getfield 582, 50), (50, .istore 4, 52), (52, .aload 0, 53), (53, .getfield 706, 56), (56, .getfield 581, 59), (59, .iload 4, 61), (61, .aaload, 62), (62, .iload 1, 63), (63, .iload 2, 64), (64, .iload 3, 65), (65, .iconst 10, 67), (67, .idiv, 68), (68, .iload 3, 69), (69, .iconst 10, 71), (71, .irem, 72), (72, .invokevirtual 20, 75), (75, .aload 0, 76), (76, .getfield 706, 79), (79, .iload 4, 81), (81, .iconst 1, 82), (82, .iadd, 83), (83, .putfield 582, 86), (86, .iload 4, 88), (88, .ireturn, 89)]
set_option maxRecDepth 20000 in
def kp_X11_lamp : List (Instr × Nat) := [(.iload_n 1, 0), (.invokestatic 171, 626), (.ifCond .eq 21, 0), (.aload_n 0, 0), (.getfield 28, 469), (.iload_n 2, 0), (.invokevirtual 160, 609), (.ifCond .eq 10, 0), (.iload_n 3, 0), (.invokestatic 174, 629), (.ifCond .ne 6, 0), (.ldc 91, 520), (.ireturn, 0), (.aload_n 0, 0), (.getfield 28, 469), (.getfield 177, 301), (.bipush 16, 0), (.if_icmp .lt 6, 0), (.ldc 95, 521), (.ireturn, 0), (.aload_n 0, 0), (.getfield 28, 469), (.getfield 177, 301), (.istore 4, 0), (.aload_n 0, 0), (.getfield 28, 469), (.getfield 180, 298), (.iload 4, 0), (.aaload, 0), (.iload_n 1, 0), (.iload_n 2, 0), (.iload_n 3, 0), (.bipush 10, 0), (.idiv, 0), (.iload_n 3, 0), (.bipush 10, 0), (.irem, 0), (.invokevirtual 184, 632), (.aload_n 0, 0), (.getfield 28, 469), (.iload 4, 0), (.iconst 1, 0), (.iadd, 0), (.putfield 177, 301), (.iload 4, 0), (.ireturn, 0)]
set_option maxRecDepth 20000 in
def kc_X11_told : am_C := [(0, .aload 0, 1), (1, .getfield 706, 4), (4, .iload 1, 5), (5, .invokevirtual 56, 8), (8, .ifCond .ne 14, 11), (11, .iconst (-1000000001), 13), (13, .ireturn, 14), (14, .aload 0, 15), (15, .getfield 706, 18), (18, .getfield 581, 21), (21, .iload 1, 22), (22, .aaload, 23), (23, .astore 3, 24), (24, .iload 2, 25), (25, .tableswitch 195 0 12 #[92, 97, 102, 107, 112, 117, 125, 137, 149, 161, 170, 178, 187], 92), (92, .aload 3, 93), (93, .getfield 256, 96), (96, .ireturn, 97), (97, .aload 3, 98), (98, .getfield 257, 101), (101, .ireturn, 102), (102, .aload 3, 103), (103, .getfield 258, 106), (106, .ireturn, 107), (107, .aload 3, 108), (108, .getfield 259, 111), (111, .ireturn, 112), (112, .aload 3, 113), (113, .getfield 260, 116), (116, .ireturn, 117), (117, .aload 3, 118), (118, .getfield 261, 121), (121, .invokestatic 126, 124), (124, .ireturn, 125), (125, .aload 0, 126), (126, .getfield 706, 129), (129, .aload 3, 130), (130, .invokevirtual 59, 133), (133, .invokestatic 126, 136), (136, .ireturn, 137), (137, .aload 0, 138), (138, .getfield 706, 141), (141, .aload 3, 142), (142, .invokevirtual 61, 145), (145, .invokestatic 126, 148), (148, .ireturn, 149), (149, .aload 0, 150), (150, .getfield 706, 153), (153, .aload 3, 154), (154, .invokevirtual 62, 157), (157, .invokestatic 126, 160), (160, .ireturn, 161), (161, .aload 0, 162), (162, .getfield 706, 165), (165, .aload 3, 166), (166, .invokevirtual 63, 169), (169, .ireturn, 170), (170, .aload 3, 171), (171, .getfield 256, 174), (174, .invokestatic 136, 177), (177, .ireturn, 178), (178, .aload 0, 179), (179, .getfield 706, 182), (182, .aload 3, 183), (183, .invokevirtual 65, 186), (186, .ireturn, 187), (187, .aload 3, 188), (188, .getfield 262, 191), (191, .invokestatic 126, 194), (194, .ireturn, 195), (195, .iconst (-1000000001), 197), (197, .ireturn, 198)]
set_option maxRecDepth 20000 in
def kp_X11_told : List (Instr × Nat) := [(.aload_n 0, 0), (.getfield 28, 469), (.iload_n 1, 0), (.invokevirtual 189, 640), (.ifCond .ne 6, 0), (.ldc 91, 520), (.ireturn, 0), (.aload_n 0, 0), (.getfield 28, 469), (.getfield 180, 298), (.iload_n 1, 0), (.aaload, 0), (.astore_n 3, 0), (.iload_n 2, 0), (.tableswitch 170 0 12 #[67, 72, 77, 82, 87, 92, 100, 112, 124, 136, 145, 153, 162], 0), (.aload_n 3, 0), (.getfield 192, 245), (.ireturn, 0), (.aload_n 3, 0), (.getfield 195, 250), (.ireturn, 0), (.aload_n 3, 0), (.getfield 198, 252), (.ireturn, 0), (.aload_n 3, 0), (.getfield 201, 255), (.ireturn, 0), (.aload_n 3, 0), (.getfield 204, 258), (.ireturn, 0), (.aload_n 3, 0), (.getfield 207, 262), (.invokestatic 127, 541), (.ireturn, 0), (.aload_n 0, 0), (.getfield 28, 469), (.aload_n 3, 0), (.invokevirtual 210, 644), (.invokestatic 127, 541), (.ireturn, 0), (.aload_n 0, 0), (.getfield 28, 469), (.aload_n 3, 0), (.invokevirtual 214, 645), (.invokestatic 127, 541), (.ireturn, 0), (.aload_n 0, 0), (.getfield 28, 469), (.aload_n 3, 0), (.invokevirtual 217, 646), (.invokestatic 127, 541), (.ireturn, 0), (.aload_n 0, 0), (.getfield 28, 469), (.aload_n 3, 0), (.invokevirtual 220, 647), (.ireturn, 0), (.aload_n 3, 0), (.getfield 192, 245), (.invokestatic 224, 648), (.ireturn, 0), (.aload_n 0, 0), (.getfield 28, 469), (.aload_n 3, 0), (.invokevirtual 227, 651), (.ireturn, 0), (.aload_n 3, 0), (.getfield 230, 265), (.invokestatic 127, 541), (.ireturn, 0), (.ldc 91, 520), (.ireturn, 0)]
set_option maxRecDepth 20000 in
def kc_X11_as : am_C := [(0, .aload 0, 1), (1, .getfield 706, 4), (4, .iload 1, 5), (5, .invokevirtual 56, 8), (8, .ifCond .eq 18, 11), (11, .iload 2, 12), (12, .invokestatic 130, 15), (15, .ifCond .ne 21, 18), (18, .iconst (-1000000001), 20), (20, .ireturn, 21), (21, .aload 0, 22), (22, .getfield 706, 25), (25, .getfield 581, 28), (28, .iload 1, 29), (29, .aaload, 30), (30, .astore 3, 31), (31, .aload 3, 32), (32, .getfield 256, 35), (35, .iload 2, 36), (36, .invokestatic 135, 39), (39, .ifCond .eq 49, 42), (42, .aload 3, 43), (43, .getfield 260, 46), (46, .goto 51, 49), (49, .iconst (-1000000012), 51), (51, .ireturn, 52)]
set_option maxRecDepth 20000 in
def kp_X11_as : List (Instr × Nat) := [(.aload_n 0, 0), (.getfield 28, 469), (.iload_n 1, 0), (.invokevirtual 189, 640), (.ifCond .eq 10, 0), (.iload_n 2, 0), (.invokestatic 171, 626), (.ifCond .ne 6, 0), (.ldc 91, 520), (.ireturn, 0), (.aload_n 0, 0), (.getfield 28, 469), (.getfield 180, 298), (.iload_n 1, 0), (.aaload, 0), (.astore_n 3, 0), (.aload_n 3, 0), (.getfield 192, 245), (.iload_n 2, 0), (.invokestatic 233, 659), (.ifCond .eq 10, 0), (.aload_n 3, 0), (.getfield 204, 258), (.goto 5, 0), (.ldc 237, 664), (.ireturn, 0)]
set_option maxRecDepth 20000 in
def kc_X11_change : am_C := [(0, .aload 0, 1), (1, .getfield 706, 4), (4, .iload 1, 5), (5, .invokevirtual 56, 8), (8, .ifCond .eq 18, 11), (11, .iload 2, 12), (12, .invokestatic 130, 15), (15, .ifCond .ne 21, 18), (18, .iconst (-1000000001), 20), (20, .ireturn, 21), (21, .aload 0, 22), (22, .getfield 706, 25), (25, .getfield 581, 28), (28, .iload 1, 29), (29, .aaload, 30), (30, .astore 3, 31), (31, .aload 3, 32), (32, .getfield 256, 35), (35, .istore 4, 37), (37, .aload 3, 38), (38, .iload 2, 39), (39, .putfield 256, 42), (42, .aload 3, 43), (43, .iconst 0, 44), (44, .putfield 260, 47), (47, .aload 3, 48), (48, .iconst 0, 49), (49, .putfield 261, 52), (52, .iload 4, 54), (54, .ireturn, 55)]
set_option maxRecDepth 20000 in
def kp_X11_change : List (Instr × Nat) := [(.aload_n 0, 0), (.getfield 28, 469), (.iload_n 1, 0), (.invokevirtual 189, 640), (.ifCond .eq 10, 0), (.iload_n 2, 0), (.invokestatic 171, 626), (.ifCond .ne 6, 0), (.ldc 91, 520), (.ireturn, 0), (.aload_n 0, 0), (.getfield 28, 469), (.getfield 180, 298), (.iload_n 1, 0), (.aaload, 0), (.astore_n 3, 0), (.aload_n 3, 0), (.getfield 192, 245), (.istore 4, 0), (.aload_n 3, 0), (.iload_n 2, 0), (.putfield 192, 245), (.aload_n 3, 0), (.iconst 0, 0), (.putfield 204, 258), (.aload_n 3, 0), (.iconst 0, 0), (.putfield 207, 262), (.iload 4, 0), (.ireturn, 0)]
set_option maxRecDepth 20000 in
def kc_X11_feast : am_C := [(0, .iload 1, 1), (1, .iconst 1, 2), (2, .if_icmp .lt 11, 5), (5, .iload 1, 6), (6, .iconst 99, 8), (8, .if_icmp .le 14, 11), (11, .iconst (-1000000001), 13), (13, .ireturn, 14), (14, .aload 0, 15), (15, .getfield 706, 18), (18, .getfield 585, 21), (21, .istore 2, 22), (22, .aload 0, 23), (23, .getfield 706, 26), (26, .iload 1, 27), (27, .putfield 585, 30), (30, .iload 2, 31), (31, .ireturn, 32)]
set_option maxRecDepth 20000 in
def kp_X11_feast : List (Instr × Nat) := [(.iload_n 1, 0), (.iconst 1, 0), (.if_icmp .lt 9, 0), (.iload_n 1, 0), (.bipush 99, 0), (.if_icmp .le 6, 0), (.ldc 91, 520), (.ireturn, 0), (.aload_n 0, 0), (.getfield 28, 469), (.getfield 238, 309), (.istore_n 2, 0), (.aload_n 0, 0), (.getfield 28, 469), (.iload_n 1, 0), (.putfield 238, 309), (.iload_n 2, 0), (.ireturn, 0)]
set_option maxRecDepth 20000 in
def kc_X11_breaks : am_C := [(0, .aload 0, 1), (1, .getfield 706, 4), (4, .iload 1, 5), (5, .iload 2, 6), (6, .invokevirtual 57, 9), (9, .ifCond .eq 28, 12), (12, .aload 0, 13), (13, .getfield 706, 16), (16, .iload 1, 17), (17, .iload 2, 18), (18, .iconst 1, 19), (19, .invokevirtual 58, 22), (22, .invokestatic 126, 25), (25, .goto 30, 28), (28, .iconst (-1000000001), 30), (30, .ireturn, 31)]
set_option maxRecDepth 20000 in
def kp_X11_breaks : List (Instr × Nat) := [(.aload_n 0, 0), (.getfield 28, 469), (.iload_n 1, 0), (.iload_n 2, 0), (.invokevirtual 241, 677), (.ifCond .eq 19, 0), (.aload_n 0, 0), (.getfield 28, 469), (.iload_n 1, 0), (.iload_n 2, 0), (.iconst 1, 0), (.invokevirtual 244, 683), (.invokestatic 127, 541), (.goto 5, 0), (.ldc 91, 520), (.ireturn, 0)]
set_option maxRecDepth 20000 in
def kc_X11_mend : am_C := [(0, .aload 0, 1), (1, .getfield 706, 4), (4, .iload 1, 5), (5, .iload 2, 6), (6, .invokevirtual 57, 9), (9, .ifCond .eq 28, 12), (12, .aload 0, 13), (13, .getfield 706, 16), (16, .iload 1, 17), (17, .iload 2, 18), (18, .iconst 0, 19), (19, .invokevirtual 58, 22), (22, .invokestatic 126, 25), (25, .goto 30, 28), (28, .iconst (-1000000001), 30), (30, .ireturn, 31)]
set_option maxRecDepth 20000 in
def kp_X11_mend : List (Instr × Nat) := [(.aload_n 0, 0), (.getfield 28, 469), (.iload_n 1, 0), (.iload_n 2, 0), (.invokevirtual 241, 677), (.ifCond .eq 19, 0), (.aload_n 0, 0), (.getfield 28, 469), (.iload_n 1, 0), (.iload_n 2, 0), (.iconst 0, 0), (.invokevirtual 244, 683), (.invokestatic 127, 541), (.goto 5, 0), (.ldc 91, 520), (.ireturn, 0)]
set_option maxRecDepth 20000 in
def kc_X11_hours : am_C := [(0, .iload 1, 1), (1, .iconst 1, 2), (2, .if_icmp .lt 11, 5), (5, .iload 1, 6), (6, .iconst 60, 8), (8, .if_icmp .le 14, 11), (11, .iconst (-1000000001), 13), (13, .ireturn, 14), (14, .aload 0, 15), (15, .getfield 706, 18), (18, .getfield 584, 21), (21, .aload 0, 22), (22, .getfield 706, 25), (25, .getfield 583, 28), (28, .iload 1, 29), (29, .iadd, 30), (30, .iconst 24, 32), (32, .idiv, 33), (33, .iadd, 34), (34, .iconst 999, 37), (37, .if_icmp .le 43, 40), (40, .iconst (-1000000003), 42), (42, .ireturn, 43), (43, .iconst 0, 44), (44, .istore 2, 45), (45, .iload 2, 46), (46, .iload 1, 47), (47, .if_icmp .ge 63, 50), (50, .aload 0, 51), (51, .getfield 706, 54), (54, .invokevirtual 76, 57), (57, .iinc 2 1, 60), (60, .goto 45, 63), (63, .aload 0, 64), (64, .getfield 706, 67), (67, .getfield 583, 70), (70, .ireturn, 71)]
set_option maxRecDepth 20000 in
def kp_X11_hours : List (Instr × Nat) := [(.iload_n 1, 0), (.iconst 1, 0), (.if_icmp .lt 9, 0), (.iload_n 1, 0), (.bipush 60, 0), (.if_icmp .le 6, 0), (.ldc 91, 520), (.ireturn, 0), (.aload_n 0, 0), (.getfield 28, 469), (.getfield 248, 307), (.aload_n 0, 0), (.getfield 28, 469), (.getfield 121, 304), (.iload_n 1, 0), (.iadd, 0), (.bipush 24, 0), (.idiv, 0), (.iadd, 0), (.sipush 999, 0), (.if_icmp .le 6, 0), (.ldc 95, 521), (.ireturn, 0), (.iconst 0, 0), (.istore_n 2, 0), (.iload_n 2, 0), (.iload_n 1, 0), (.if_icmp .ge 16, 0), (.aload_n 0, 0), (.getfield 28, 469), (.invokevirtual 251, 695), (.iinc 2 1, 0), (.goto (-15), 0), (.aload_n 0, 0), (.getfield 28, 469), (.getfield 121, 304), (.ireturn, 0)]
set_option maxRecDepth 20000 in
def kc_X11_bill : am_C := [(0, .aload 0, 1), (1, .getfield 706, 4), (4, .iload 1, 5), (5, .invokevirtual 54, 8), (8, .ifCond .ne 14, 11), (11, .iconst (-1000000001), 13), (13, .ireturn, 14), (14, .aload 0, 15), (15, .getfield 706, 18), (18, .getfield 577, 21), (21, .iload 1, 22), (22, .aaload, 23), (23, .getfield 69, 26), (26, .istore 2, 27), (27, .aload 0, 28), (28, .getfield 706, 31), (31, .getfield 577, 34), (34, .iload 1, 35), (35, .aaload, 36), (36, .iconst 0, 37), (37, .putfield 69, 40), (40, .iload 2, 41), (41, .ireturn, 42)]
set_option maxRecDepth 20000 in
def kp_X11_bill : List (Instr × Nat) := [(.aload_n 0, 0), (.getfield 28, 469), (.iload_n 1, 0), (.invokevirtual 106, 530), (.ifCond .ne 6, 0), (.ldc 91, 520), (.ireturn, 0), (.aload_n 0, 0), (.getfield 28, 469), (.getfield 96, 285), (.iload_n 1, 0), (.aaload, 0), (.getfield 141, 197), (.istore_n 2, 0), (.aload_n 0, 0), (.getfield 28, 469), (.getfield 96, 285), (.iload_n 1, 0), (.aaload, 0), (.iconst 0, 0), (.putfield 141, 197), (.iload_n 2, 0), (.ireturn, 0)]
set_option maxRecDepth 20000 in
def kc_X11_light : am_C := [(0, .iload 1, 1), (1, .ifCond .lt 20, 4), (4, .iload 1, 5), (5, .iconst 4, 6), (6, .if_icmp .ge 20, 9), (9, .aload 0, 10), (10, .getfield 706, 13), (13, .iload 1, 14), (14, .invokevirtual 71, 17), (17, .goto 22, 20), (20, .iconst (-1000000001), 22), (22, .ireturn, 23)]
set_option maxRecDepth 20000 in
def kp_X11_light : List (Instr × Nat) := [(.iload_n 1, 0), (.ifCond .lt 19, 0), (.iload_n 1, 0), (.iconst 4, 0), (.if_icmp .ge 14, 0), (.aload_n 0, 0), (.getfield 28, 469), (.iload_n 1, 0), (.invokevirtual 254, 714), (.goto 5, 0), (.ldc 91, 520), (.ireturn, 0)]
set_option maxRecDepth 20000 in
def kc_X11_tooDark : am_C := [(0, .iconst 0, 1), (1, .istore 1, 2), (2, .iconst 0, 3), (3, .istore 2, 4), (4, .iload 2, 5), (5, .iconst 4, 6), (6, .if_icmp .ge 40, 9), (9, .aload 0, 10), (10, .getfield 706, 13), (13, .iload 2, 14), (14, .invokevirtual 71, 17), (17, .aload 0, 18), (18, .getfield 706, 21), (21, .iload 2, 22), (22, .invokevirtual 66, 25), (25, .if_icmp .ge 34, 28), (28, .iload 1, 29), (29, .iconst 1, 30), (30, .iload 2, 31), (31, .ishl, 32), (32, .ior, 33), (33, .istore 1, 34), (34, .iinc 2 1, 37), (37, .goto 4, 40), (40, .iload 1, 41), (41, .ireturn, 42)]
set_option maxRecDepth 20000 in
def kp_X11_tooDark : List (Instr × Nat) := [(.iconst 0, 0), (.istore_n 1, 0), (.iconst 0, 0), (.istore_n 2, 0), (.iload_n 2, 0), (.iconst 4, 0), (.if_icmp .ge 34, 0), (.aload_n 0, 0), (.getfield 28, 469), (.iload_n 2, 0), (.invokevirtual 254, 714), (.aload_n 0, 0), (.getfield 28, 469), (.iload_n 2, 0), (.invokevirtual 257, 722), (.if_icmp .ge 9, 0), (.iload_n 1, 0), (.iconst 1, 0), (.iload_n 2, 0), (.ishl, 0), (.ior, 0), (.istore_n 1, 0), (.iinc 2 1, 0), (.goto (-33), 0), (.iload_n 1, 0), (.ireturn, 0)]
set_option maxRecDepth 20000 in
def kc_X11_feed : am_C := [(0, .aload 0, 1), (1, .getfield 705, 4), (4, .getfield 321, 7), (7, .iconst 84, 9), (9, .if_icmp .le 15, 12), (12, .iconst (-1000000003), 14), (14, .ireturn, 15), (15, .aload 0, 16), (16, .getfield 705, 19), (19, .iload 1, 20), (20, .invokevirtual 23, 23), (23, .aload 0, 24), (24, .getfield 705, 27), (27, .iload 2, 28), (28, .invokevirtual 23, 31), (31, .aload 0, 32), (32, .getfield 705, 35), (35, .iload 3, 36), (36, .invokevirtual 23, 39), (39, .aload 0, 40), (40, .getfield 705, 43), (43, .getfield 321, 46), (46, .ireturn, 47)]
set_option maxRecDepth 20000 in
def kp_X11_feed : List (Instr × Nat) := [(.aload_n 0, 0), (.getfield 19, 468), (.getfield 260, 144), (.bipush 84, 0), (.if_icmp .le 6, 0), (.ldc 95, 521), (.ireturn, 0), (.aload_n 0, 0), (.getfield 19, 468), (.iload_n 1, 0), (.invokevirtual 263, 730), (.aload_n 0, 0), (.getfield 19, 468), (.iload_n 2, 0), (.invokevirtual 263, 730), (.aload_n 0, 0), (.getfield 19, 468), (.iload_n 3, 0), (.invokevirtual 263, 730), (.aload_n 0, 0), (.getfield 19, 468), (.getfield 260, 144), (.ireturn, 0)]
set_option maxRecDepth 20000 in
def kc_X11_trim : am_C := [(0, .iload 1, 1), (1, .ifCond .lt 15, 4), (4, .iload 1, 5), (5, .aload 0, 6), (6, .getfield 705, 9), (9, .getfield 321, 12), (12, .if_icmp .le 18, 15), (15, .iconst (-1000000001), 17), (17, .ireturn, 18), (18, .aload 0, 19), (19, .getfield 705, 22), (22, .iload 1, 23), (23, .putfield 321, 26), (26, .iload 1, 27), (27, .ireturn, 28)]
set_option maxRecDepth 20000 in
def kp_X11_trim : List (Instr × Nat) := [(.iload_n 1, 0), (.ifCond .lt 14, 0), (.iload_n 1, 0), (.aload_n 0, 0), (.getfield 19, 468), (.getfield 260, 144), (.if_icmp .le 6, 0), (.ldc 91, 520), (.ireturn, 0), (.aload_n 0, 0), (.getfield 19, 468), (.iload_n 1, 0), (.putfield 260, 144), (.iload_n 1, 0), (.ireturn, 0)]
set_option maxRecDepth 20000 in
def kc_X11_text : am_C := [(0, .aload 0, 1), (1, .getfield 705, 4), (4, .invokevirtual 24, 7), (7, .istore 1, 8), (8, .aload 0, 9), (9, .getfield 705, 12), (12, .iconst 0, 13), (13, .putfield 321, 16), (16, .iload 1, 17), (17, .ifCond .lt 25, 20), (20, .iconst (-100), 22), (22, .iload 1, 23), (23, .isub, 24), (24, .ireturn, 25), (25, .aload 0, 26), (26, .getfield 706, 29), (29, .getfield 590, 32), (32, .iconst 14, 34), (34, .if_icmp .lt 40, 37), (37, .iconst (-1000000003), 39), (39, .ireturn, 40), (40, .aload 0, 41), (41, .getfield 706, 44), (44, .getfield 590, 47), (47, .istore 2, 48), (48, .aload 0, 49), (49, .getfield 704, 52), (52, .getfield 0, 55), (55, .iload 2, 56), (56, .aaload, 57), (57, .aload 0, 58), (58, .getfield 705, 61), (61, .getfield 322, 64), (64, .invokevirtual 49, 67), (67, .aload 0, 68), (68, .getfield 706, 71), (71, .getfield 591, 74), (74, .aload 0, 75), (75, .getfield 705, 78), (78, .getfield 322, 81), (81, .getfield 512, 84), (84, .iload 2, 85), (85, .iastore, 86), (86, .aload 0, 87), (87, .getfield 706, 90), (90, .iload 2, 91), (91, .iconst 1, 92), (92, .iadd, 93), (93, .putfield 590, 96), (96, .iload 2, 97), (97, .ireturn, 98)]
set_option maxRecDepth 20000 in
def kp_X11_text : List (Instr × Nat) := [(.aload_n 0, 0), (.getfield 19, 468), (.invokevirtual 267, 742), (.istore_n 1, 0), (.aload_n 0, 0), (.getfield 19, 468), (.iconst 0, 0), (.putfield 260, 144), (.iload_n 1, 0), (.ifCond .lt 8, 0), (.bipush (-100), 0), (.iload_n 1, 0), (.isub, 0), (.ireturn, 0), (.aload_n 0, 0), (.getfield 28, 469), (.getfield 271, 321), (.bipush 14, 0), (.if_icmp .lt 6, 0), (.ldc 95, 521), (.ireturn, 0), (.aload_n 0, 0), (.getfield 28, 469), (.getfield 271, 321), (.istore_n 2, 0), (.aload_n 0, 0), (.getfield 10, 467), (.getfield 274, 124), (.iload_n 2, 0), (.aaload, 0), (.aload_n 0, 0), (.getfield 19, 468), (.getfield 278, 146), (.invokevirtual 282, 923), (.aload_n 0, 0), (.getfield 28, 469), (.getfield 288, 324), (.aload_n 0, 0), (.getfield 19, 468), (.getfield 278, 146), (.getfield 291, 106), (.iload_n 2, 0), (.iastore, 0), (.aload_n 0, 0), (.getfield 28, 469), (.iload_n 2, 0), (.iconst 1, 0), (.iadd, 0), (.putfield 271, 321), (.iload_n 2, 0), (.ireturn, 0)]
set_option maxRecDepth 20000 in
def kc_X11_textTold : am_C := [(0, .iload 1, 1), (1, .ifCond .lt 15, 4), (4, .iload 1, 5), (5, .aload 0, 6), (6, .getfield 706, 9), (9, .getfield 590, 12), (12, .if_icmp .lt 18, 15), (15, .iconst (-1000000001), 17), (17, .ireturn, 18), (18, .iload 2, 19), (19, .lookupswitch 70 #[(0, 44), (1, 57)], 44), (44, .aload 0, 45), (45, .getfield 704, 48), (48, .getfield 0, 51), (51, .iload 1, 52), (52, .aaload, 53), (53, .getfield 512, 56), (56, .ireturn, 57), (57, .aload 0, 58), (58, .getfield 704, 61), (61, .getfield 0, 64), (64, .iload 1, 65), (65, .aaload, 66), (66, .getfield 513, 69), (69, .ireturn, 70), (70, .iconst (-1000000001), 72), (72, .ireturn, 73)]
set_option maxRecDepth 20000 in
def kp_X11_textTold : List (Instr × Nat) := [(.iload_n 1, 0), (.ifCond .lt 14, 0), (.iload_n 1, 0), (.aload_n 0, 0), (.getfield 28, 469), (.getfield 271, 321), (.if_icmp .lt 6, 0), (.ldc 91, 520), (.ireturn, 0), (.iload_n 2, 0), (.lookupswitch 51 #[(0, 25), (1, 38)], 0), (.aload_n 0, 0), (.getfield 10, 467), (.getfield 274, 124), (.iload_n 1, 0), (.aaload, 0), (.getfield 291, 106), (.ireturn, 0), (.aload_n 0, 0), (.getfield 10, 467), (.getfield 274, 124), (.iload_n 1, 0), (.aaload, 0), (.getfield 294, 108), (.ireturn, 0), (.ldc 91, 520), (.ireturn, 0)]
set_option maxRecDepth 20000 in
def kc_X11_why : am_C := [(0, .iload 1, 1), (1, .ifCond .lt 21, 4), (4, .iload 1, 5), (5, .iconst 4, 6), (6, .if_icmp .ge 21, 9), (9, .aload 0, 10), (10, .getfield 706, 13), (13, .getfield 591, 16), (16, .iload 1, 17), (17, .iaload, 18), (18, .goto 23, 21), (21, .iconst (-1000000001), 23), (23, .ireturn, 24)]
set_option maxRecDepth 20000 in
def kp_X11_why : List (Instr × Nat) := [(.iload_n 1, 0), (.ifCond .lt 20, 0), (.iload_n 1, 0), (.iconst 4, 0), (.if_icmp .ge 15, 0), (.aload_n 0, 0), (.getfield 28, 469), (.getfield 288, 324), (.iload_n 1, 0), (.iaload, 0), (.goto 5, 0), (.ldc 91, 520), (.ireturn, 0)]
set_option maxRecDepth 20000 in
def kc_X11_dark : am_C := [(0, .aload 0, 1), (1, .getfield 706, 4), (4, .iload 1, 5), (5, .invokevirtual 56, 8), (8, .ifCond .ne 14, 11), (11, .iconst (-1000000001), 13), (13, .ireturn, 14), (14, .aload 0, 15), (15, .getfield 706, 18), (18, .getfield 581, 21), (21, .iload 1, 22), (22, .aaload, 23), (23, .getfield 262, 26), (26, .iload 2, 27), (27, .if_icmp .eq 34, 30), (30, .iconst 1, 31), (31, .goto 35, 34), (34, .iconst 0, 35), (35, .istore 3, 36), (36, .aload 0, 37), (37, .getfield 706, 40), (40, .getfield 581, 43), (43, .iload 1, 44), (44, .aaload, 45), (45, .iload 2, 46), (46, .putfield 262, 49), (49, .iload 3, 50), (50, .invokestatic 126, 53), (53, .ireturn, 54)]
set_option maxRecDepth 20000 in
def kp_X11_dark : List (Instr × Nat) := [(.aload_n 0, 0), (.getfield 28, 469), (.iload_n 1, 0), (.invokevirtual 189, 640), (.ifCond .ne 6, 0), (.ldc 91, 520), (.ireturn, 0), (.aload_n 0, 0), (.getfield 28, 469), (.getfield 180, 298), (.iload_n 1, 0), (.aaload, 0), (.getfield 230, 265), (.iload_n 2, 0), (.if_icmp .eq 7, 0), (.iconst 1, 0), (.goto 4, 0), (.iconst 0, 0), (.istore_n 3, 0), (.aload_n 0, 0), (.getfield 28, 469), (.getfield 180, 298), (.iload_n 1, 0), (.aaload, 0), (.iload_n 2, 0), (.putfield 230, 265), (.iload_n 3, 0), (.invokestatic 127, 541), (.ireturn, 0)]
set_option maxRecDepth 20000 in
def kc_X11_blame : am_C := [(0, .aload 0, 1), (1, .getfield 706, 4), (4, .iload 1, 5), (5, .iload 2, 6), (6, .invokevirtual 57, 9), (9, .ifCond .ne 15, 12), (12, .iconst (-1000000001), 14), (14, .ireturn, 15), (15, .aload 0, 16), (16, .getfield 710, 19), (19, .aload 0, 20), (20, .getfield 706, 23), (23, .invokevirtual 10, 26), (26, .aload 0, 27), (27, .getfield 710, 30), (30, .iload 1, 31), (31, .iload 2, 32), (32, .invokevirtual 9, 35), (35, .invokestatic 126, 38), (38, .ireturn, 39)]
set_option maxRecDepth 20000 in
def kp_X11_blame : List (Instr × Nat) := [(.aload_n 0, 0), (.getfield 28, 469), (.iload_n 1, 0), (.iload_n 2, 0), (.invokevirtual 241, 677), (.ifCond .ne 6, 0), (.ldc 91, 520), (.ireturn, 0), (.aload_n 0, 0), (.getfield 45, 473), (.aload_n 0, 0), (.getfield 28, 469), (.invokevirtual 297, 947), (.aload_n 0, 0), (.getfield 45, 473), (.iload_n 1, 0), (.iload_n 2, 0), (.invokevirtual 301, 972), (.invokestatic 127, 541), (.ireturn, 0)]
set_option maxRecDepth 20000 in
def kc_X11_blames : am_C := [(0, .aload 0, 1), (1, .getfield 710, 4), (4, .aload 0, 5), (5, .getfield 706, 8), (8, .invokevirtual 10, 11), (11, .aload 0, 12), (12, .getfield 710, 15), (15, .getfield 136, 18), (18, .ireturn, 19)]
set_option maxRecDepth 20000 in
def kp_X11_blames : List (Instr × Nat) := [(.aload_n 0, 0), (.getfield 45, 473), (.aload_n 0, 0), (.getfield 28, 469), (.invokevirtual 297, 947), (.aload_n 0, 0), (.getfield 45, 473), (.getfield 304, 373), (.ireturn, 0)]
set_option maxRecDepth 20000 in
def kc_X11_choose : am_C := [(0, .aload 0, 1), (1, .getfield 706, 4), (4, .iload 1, 5), (5, .invokevirtual 56, 8), (8, .ifCond .ne 14, 11), (11, .iconst (-1000000001), 13), (13, .ireturn, 14), (14, .iload 1, 15), (15, .aload 0, 16), (16, .getfield 706, 19), (19, .getfield 586, 22), (22, .aload 0, 23), (23, .getfield 706, 26), (26, .getfield 587, 29), (29, .invokestatic 134, 32), (32, .ifCond .eq 39, 35), (35, .iconst (-1000000002), 38), (38, .ireturn, 39), (39, .aload 0, 40), (40, .getfield 706, 43), (43, .getfield 587, 46), (46, .iconst 8, 48), (48, .if_icmp .lt 54, 51), (51, .iconst (-1000000003), 53), (53, .ireturn, 54), (54, .aload 0, 55), (55, .getfield 706, 58), (58, .getfield 586, 61), (61, .aload 0, 62), (62, .getfield 706, 65), (65, .getfield 587, 68), (68, .iload 1, 69), (69, .iastore, 70), (70, .aload 0, 71), (71, .getfield 706, 74), (74, .dup, 75), (75, .getfield 587, 78), (78, .iconst 1, 79), (79, .iadd, 80), (80, .putfield 587, 83), (83, .aload 0, 84), (84, .getfield 706, 87), (87, .getfield 587, 90), (90, .ireturn, 91)]
set_option maxRecDepth 20000 in
def kp_X11_choose : List (Instr × Nat) := [(.aload_n 0, 0), (.getfield 28, 469), (.iload_n 1, 0), (.invokevirtual 189, 640), (.ifCond .ne 6, 0), (.ldc 91, 520), (.ireturn, 0), (.iload_n 1, 0), (.aload_n 0, 0), (.getfield 28, 469), (.getfield 307, 311), (.aload_n 0, 0), (.getfield 28, 469), (.getfield 310, 313), (.invokestatic 313, 984), (.ifCond .eq 7, 0), (.ldc_w 317, 987), (.ireturn, 0), (.aload_n 0, 0), (.getfield 28, 469), (.getfield 310, 313), (.bipush 8, 0), (.if_icmp .lt 6, 0), (.ldc 95, 521), (.ireturn, 0), (.aload_n 0, 0), (.getfield 28, 469), (.getfield 307, 311), (.aload_n 0, 0), (.getfield 28, 469), (.getfield 310, 313), (.iload_n 1, 0), (.iastore, 0), (.aload_n 0, 0), (.getfield 28, 469), (.dup, 0), (.getfield 310, 313), (.iconst 1, 0), (.iadd, 0), (.putfield 310, 313), (.aload_n 0, 0), (.getfield 28, 469), (.getfield 310, 313), (.ireturn, 0)]
set_option maxRecDepth 20000 in
def kc_X11_clear : am_C := [(0, .aload 0, 1), (1, .getfield 706, 4), (4, .getfield 587, 7), (7, .istore 1, 8), (8, .aload 0, 9), (9, .getfield 706, 12), (12, .iconst 0, 13), (13, .putfield 587, 16), (16, .iload 1, 17), (17, .ireturn, 18)]
set_option maxRecDepth 20000 in
def kp_X11_clear : List (Instr × Nat) := [(.aload_n 0, 0), (.getfield 28, 469), (.getfield 310, 313), (.istore_n 1, 0), (.aload_n 0, 0), (.getfield 28, 469), (.iconst 0, 0), (.putfield 310, 313), (.iload_n 1, 0), (.ireturn, 0)]
set_option maxRecDepth 20000 in
def kc_X11_guess : am_C := [(0, .iload 1, 1), (1, .ifCond .lt 19, 4), (4, .iload 1, 5), (5, .iconst 9999, 8), (8, .if_icmp .gt 19, 11), (11, .aload 0, 12), (12, .iload 1, 13), (13, .invokevirtual 137, 16), (16, .goto 21, 19), (19, .iconst (-1000000001), 21), (21, .ireturn, 22)]
set_option maxRecDepth 20000 in
def kp_X11_guess : List (Instr × Nat) := [(.iload_n 1, 0), (.ifCond .lt 18, 0), (.iload_n 1, 0), (.sipush 9999, 0), (.if_icmp .gt 11, 0), (.aload_n 0, 0), (.iload_n 1, 0), (.invokevirtual 318, 996), (.goto 5, 0), (.ldc 91, 520), (.ireturn, 0)]
set_option maxRecDepth 20000 in
def kc_X11_stop : am_C := [(0, .aload 0, 1), (1, .getfield 706, 4), (4, .iload 1, 5), (5, .invokevirtual 55, 8), (8, .ifCond .ne 14, 11), (11, .iconst (-1000000001), 13), (13, .ireturn, 14), (14, .iload 1, 15), (15, .aload 0, 16), (16, .getfield 706, 19), (19, .getfield 588, 22), (22, .aload 0, 23), (23, .getfield 706, 26), (26, .getfield 589, 29), (29, .invokestatic 134, 32), (32, .ifCond .eq 39, 35), (35, .iconst (-1000000002), 38), (38, .ireturn, 39), (39, .aload 0, 40), (40, .getfield 706, 43), (43, .getfield 589, 46), (46, .iconst 6, 48), (48, .if_icmp .lt 54, 51), (51, .iconst (-1000000003), 53), (53, .ireturn, 54), (54, .aload 0, 55), (55, .getfield 706, 58), (58, .getfield 588, 61), (61, .aload 0, 62), (62, .getfield 706, 65), (65, .getfield 589, 68), (68, .iload 1, 69), (69, .iastore, 70), (70, .aload 0, 71), (71, .getfield 706, 74), (74, .dup, 75), (75, .getfield 589, 78), (78, .iconst 1, 79), (79, .iadd, 80), (80, .putfield 589, 83), (83, .aload 0, 84), (84, .getfield 706, 87), (87, .getfield 589, 90), (90, .ireturn, 91)]
set_option maxRecDepth 20000 in
def kp_X11_stop : List (Instr × Nat) := [(.aload_n 0, 0), (.getfield 28, 469), (.iload_n 1, 0), (.invokevirtual 160, 609), (.ifCond .ne 6, 0), (.ldc 91, 520), (.ireturn, 0), (.iload_n 1, 0), (.aload_n 0, 0), (.getfield 28, 469), (.getfield 321, 316), (.aload_n 0, 0), (.getfield 28, 469), (.getfield 324, 319), (.invokestatic 313, 984), (.ifCond .eq 7, 0), (.ldc_w 317, 987), (.ireturn, 0), (.aload_n 0, 0), (.getfield 28, 469), (.getfield 324, 319), (.bipush 6, 0), (.if_icmp .lt 6, 0), (.ldc 95, 521), (.ireturn, 0), (.aload_n 0, 0), (.getfield 28, 469), (.getfield 321, 316), (.aload_n 0, 0), (.getfield 28, 469), (.getfield 324, 319), (.iload_n 1, 0), (.iastore, 0), (.aload_n 0, 0), (.getfield 28, 469), (.dup, 0), (.getfield 324, 319), (.iconst 1, 0), (.iadd, 0), (.putfield 324, 319), (.aload_n 0, 0), (.getfield 28, 469), (.getfield 324, 319), (.ireturn, 0)]
set_option maxRecDepth 20000 in
def kc_X11_home : am_C := [(0, .aload 0, 1), (1, .getfield 706, 4), (4, .getfield 589, 7), (7, .istore 1, 8), (8, .aload 0, 9), (9, .getfield 706, 12), (12, .iconst 0, 13), (13, .putfield 589, 16), (16, .iload 1, 17), (17, .ireturn, 18)]
set_option maxRecDepth 20000 in
def kp_X11_home : List (Instr × Nat) := [(.aload_n 0, 0), (.getfield 28, 469), (.getfield 324, 319), (.istore_n 1, 0), (.aload_n 0, 0), (.getfield 28, 469), (.iconst 0, 0), (.putfield 324, 319), (.iload_n 1, 0), (.ireturn, 0)]
set_option maxRecDepth 20000 in
def kc_X11_round : am_C := [(0, .aload 0, 1), (1, .getfield 706, 4), (4, .iload 1, 5), (5, .invokevirtual 54, 8), (8, .ifCond .eq 27, 11), (11, .iload 2, 12), (12, .iconst (-1), 13), (13, .if_icmp .lt 27, 16), (16, .iload 2, 17), (17, .aload 0, 18), (18, .getfield 706, 21), (21, .getfield 589, 24), (24, .if_icmp .lt 30, 27), (27, .iconst (-1000000001), 29), (29, .ireturn, 30), (30, .aload 0, 31), (31, .getfield 711, 34), (34, .aload 0, 35), (35, .getfield 706, 38), (38, .iload 1, 39), (39, .invokevirtual 78, 42), (42, .iload 2, 43), (43, .ifCond .ge 56, 46), (46, .aload 0, 47), (47, .getfield 711, 50), (50, .getfield 643, 53), (53, .goto 73, 56), (56, .aload 0, 57), (57, .getfield 706, 60), (60, .getfield 588, 63), (63, .aload 0, 64), (64, .getfield 711, 67), (67, .getfield 642, 70), (70, .iload 2, 71), (71, .iaload, 72), (72, .iaload, 73), (73, .ireturn, 74)]
set_option maxRecDepth 20000 in
def kp_X11_round : List (Instr × Nat) := [(.aload_n 0, 0), (.getfield 28, 469), (.iload_n 1, 0), (.invokevirtual 106, 530), (.ifCond .eq 19, 0), (.iload_n 2, 0), (.iconst (-1), 0), (.if_icmp .lt 14, 0), (.iload_n 2, 0), (.aload_n 0, 0), (.getfield 28, 469), (.getfield 324, 319), (.if_icmp .lt 6, 0), (.ldc 91, 520), (.ireturn, 0), (.aload_n 0, 0), (.getfield 52, 474), (.aload_n 0, 0), (.getfield 28, 469), (.iload_n 1, 0), (.invokevirtual 327, 1023), (.iload_n 2, 0), (.ifCond .ge 13, 0), (.aload_n 0, 0), (.getfield 52, 474), (.getfield 330, 405), (.goto 20, 0), (.aload_n 0, 0), (.getfield 28, 469), (.getfield 321, 316), (.aload_n 0, 0), (.getfield 52, 474), (.getfield 333, 403), (.iload_n 2, 0), (.iaload, 0), (.iaload, 0), (.ireturn, 0)]
set_option maxRecDepth 20000 in
def kc_X11_together : am_C := [(0, .iload 1, 1), (1, .invokestatic 130, 4), (4, .ifCond .eq 27, 7), (7, .iload 2, 8), (8, .ifCond .lt 27, 11), (11, .iload 2, 12), (12, .iconst 999999, 15), (15, .if_icmp .gt 27, 18), (18, .iload 3, 19), (19, .ifCond .lt 27, 22), (22, .iload 3, 23), (23, .iconst 1, 24), (24, .if_icmp .le 30, 27), (27, .iconst (-1000000001), 29), (29, .ireturn, 30), (30, .aload 0, 31), (31, .iload 1, 32), (32, .invokevirtual 139, 35), (35, .istore 4, 37), (37, .iload 4, 39), (39, .ifCond .ne 46, 42), (42, .iconst (-1000000005), 45), (45, .ireturn, 46), (46, .iload 4, 48), (48, .iload 2, 49), (49, .iconst 1000, 52), (52, .idiv, 53), (53, .imul, 54), (54, .istore 5, 56), (56, .iconst 0, 57), (57, .istore 6, 59), (59, .iconst 0, 60), (60, .istore 7, 62), (62, .iconst 1, 63), (63, .istore 8, 65), (65, .iload 8, 67), (67, .iconst 20, 69), (69, .if_icmp .gt 127, 72), (72, .iload 5, 74), (74, .iload 2, 75), (75, .iconst 1000, 78), (78, .irem, 79), (79, .aload 0, 80), (80, .iconst 250, 83), (83, .iload 8, 85), (85, .imul, 86), (86, .iload 4, 88), (88, .invokevirtual 140, 91), (91, .imul, 92), (92, .iadd, 93), (93, .iconst 100, 95), (95, .imul, 96), (96, .iload 8, 98), (98, .idiv, 99), (99, .istore 9, 101), (101, .iload 6, 103), (103, .ifCond .eq 113, 106), (106, .iload 9, 108), (108, .iload 7, 110), (110, .if_icmp .ge 121, 113), (113, .iload 8, 115), (115, .istore 6, 117), (117, .iload 9, 119), (119, .istore 7, 121), (121, .iinc 8 1, 124), (124, .goto 65, 127), (127, .iload 3, 128), (128, .ifCond .ne 136, 131), (131, .iload 6, 133), (133, .goto 138, 136), (136, .iload 7, 138), (138, .ireturn, 139)]
set_option maxRecDepth 20000 in
def kp_X11_together : List (Instr × Nat) := [(.iload_n 1, 0), (.invokestatic 171, 626), (.ifCond .eq 23, 0), (.iload_n 2, 0), (.ifCond .lt 19, 0), (.iload_n 2, 0), (.ldc_w 336, 1043), (.if_icmp .gt 12, 0), (.iload_n 3, 0), (.ifCond .lt 8, 0), (.iload_n 3, 0), (.iconst 1, 0), (.if_icmp .le 6, 0), (.ldc 91, 520), (.ireturn, 0), (.aload_n 0, 0), (.iload_n 1, 0), (.invokevirtual 337, 1044), (.istore 4, 0), (.iload 4, 0), (.ifCond .ne 7, 0), (.ldc_w 340, 1000), (.ireturn, 0), (.iload 4, 0), (.iload_n 2, 0), (.sipush 1000, 0), (.idiv, 0), (.imul, 0), (.istore 5, 0), (.iconst 0, 0), (.istore 6, 0), (.iconst 0, 0), (.istore 7, 0), (.iconst 1, 0), (.istore 8, 0), (.iload 8, 0), (.bipush 20, 0), (.if_icmp .gt 58, 0), (.iload 5, 0), (.iload_n 2, 0), (.sipush 1000, 0), (.irem, 0), (.aload_n 0, 0), (.sipush 250, 0), (.iload 8, 0), (.imul, 0), (.iload 4, 0), (.invokevirtual 341, 1048), (.imul, 0), (.iadd, 0), (.bipush 100, 0), (.imul, 0), (.iload 8, 0), (.idiv, 0), (.istore 9, 0), (.iload 6, 0), (.ifCond .eq 10, 0), (.iload 9, 0), (.iload 7, 0), (.if_icmp .ge 11, 0), (.iload 8, 0), (.istore 6, 0), (.iload 9, 0), (.istore 7, 0), (.iinc 8 1, 0), (.goto (-59), 0), (.iload_n 3, 0), (.ifCond .ne 8, 0), (.iload 6, 0), (.goto 5, 0), (.iload 7, 0), (.ireturn, 0)]
set_option maxRecDepth 20000 in
def kc_X11_sheet : am_C := [(0, .iload 1, 1), (1, .invokestatic 131, 4), (4, .ifCond .eq 17, 7), (7, .iload 2, 8), (8, .iconst (-1), 9), (9, .if_icmp .lt 17, 12), (12, .iload 2, 13), (13, .iconst 1, 14), (14, .if_icmp .le 20, 17), (17, .iconst (-1000000001), 19), (19, .ireturn, 20), (20, .iload 2, 21), (21, .iconst (-1), 22), (22, .if_icmp .ne 38, 25), (25, .aload 0, 26), (26, .getfield 712, 29), (29, .iload 1, 30), (30, .aaload, 31), (31, .iconst (-1), 32), (32, .iconst 0, 33), (33, .invokevirtual 39, 36), (36, .iconst 0, 37), (37, .ireturn, 38), (38, .iload 3, 39), (39, .iconst 24, 41), (41, .if_icmp .le 47, 44), (44, .iconst (-1000000001), 46), (46, .ireturn, 47), (47, .iload 3, 48), (48, .ifCond .ge 55, 51), (51, .iconst (-1000000014), 54), (54, .ireturn, 55), (55, .aload 0, 56), (56, .getfield 712, 59), (59, .iload 1, 60), (60, .aaload, 61), (61, .iload 2, 62), (62, .iload 3, 63), (63, .invokevirtual 39, 66), (66, .iload 3, 67), (67, .ireturn, 68)]
set_option maxRecDepth 20000 in
def kp_X11_sheet : List (Instr × Nat) := [(.iload_n 1, 0), (.invokestatic 345, 1056), (.ifCond .eq 13, 0), (.iload_n 2, 0), (.iconst (-1), 0), (.if_icmp .lt 8, 0), (.iload_n 2, 0), (.iconst 1, 0), (.if_icmp .le 6, 0), (.ldc 91, 520), (.ireturn, 0), (.iload_n 2, 0), (.iconst (-1), 0), (.if_icmp .ne 16, 0), (.aload_n 0, 0), (.getfield 58, 475), (.iload_n 1, 0), (.aaload, 0), (.iconst (-1), 0), (.iconst 0, 0), (.invokevirtual 348, 1059), (.iconst 0, 0), (.ireturn, 0), (.iload_n 3, 0), (.bipush 24, 0), (.if_icmp .le 6, 0), (.ldc 91, 520), (.ireturn, 0), (.iload_n 3, 0), (.ifCond .ge 7, 0), (.ldc_w 351, 1063), (.ireturn, 0), (.aload_n 0, 0), (.getfield 58, 475), (.iload_n 1, 0), (.aaload, 0), (.iload_n 2, 0), (.iload_n 3, 0), (.invokevirtual 348, 1059), (.iload_n 3, 0), (.ireturn, 0)]
set_option maxRecDepth 20000 in
def kc_X11_mark : am_C := [(0, .iload 1, 1), (1, .invokestatic 131, 4), (4, .ifCond .ne 10, 7), (7, .iconst (-1000000001), 9), (9, .ireturn, 10), (10, .aload 0, 11), (11, .getfield 712, 14), (14, .iload 1, 15), (15, .aaload, 16), (16, .astore 4, 18), (18, .aload 4, 20), (20, .invokevirtual 41, 23), (23, .ifCond .eq 30, 26), (26, .iconst (-1000000011), 29), (29, .ireturn, 30), (30, .aload 4, 32), (32, .iload 2, 33), (33, .invokevirtual 42, 36), (36, .ifCond .ne 43, 39), (39, .iconst (-1000000013), 42), (42, .ireturn, 43), (43, .aload 4, 45), (45, .getfield 384, 48), (48, .ifCond .ne 72, 51), (51, .iload 3, 52), (52, .iconst (-1000000005), 55), (55, .if_icmp .ne 61, 58), (58, .iconst (-1000000012), 60), (60, .ireturn, 61), (61, .aload 4, 63), (63, .getfield 386, 66), (66, .iload 2, 67), (67, .iload 3, 68), (68, .i2s, 69), (69, .iastore, 70), (70, .iconst 1, 71), (71, .ireturn, 72), (72, .iload 3, 73), (73, .iconst (-1000000005), 76), (76, .if_icmp .eq 96, 79), (79, .iload 3, 80), (80, .iconst (-99999), 83), (83, .if_icmp .lt 93, 86), (86, .iload 3, 87), (87, .iconst 99999, 90), (90, .if_icmp .le 96, 93), (93, .iconst (-1000000001), 95), (95, .ireturn, 96), (96, .aload 4, 98), (98, .getfield 386, 101), (101, .iload 2, 102), (102, .iload 3, 103), (103, .iastore, 104), (104, .iconst 1, 105), (105, .ireturn, 106)]
set_option maxRecDepth 20000 in
def kp_X11_mark : List (Instr × Nat) := [(.iload_n 1, 0), (.invokestatic 345, 1056), (.ifCond .ne 6, 0), (.ldc 91, 520), (.ireturn, 0), (.aload_n 0, 0), (.getfield 58, 475), (.iload_n 1, 0), (.aaload, 0), (.astore 4, 0), (.aload 4, 0), (.invokevirtual 352, 1068), (.ifCond .eq 7, 0), (.ldc_w 356, 1072), (.ireturn, 0), (.aload 4, 0), (.iload_n 2, 0), (.invokevirtual 357, 1073), (.ifCond .ne 7, 0), (.ldc_w 360, 1077), (.ireturn, 0), (.aload 4, 0), (.getfield 361, 431), (.ifCond .ne 24, 0), (.iload_n 3, 0), (.ldc_w 340, 1000), (.if_icmp .ne 6, 0), (.ldc 237, 664), (.ireturn, 0), (.aload 4, 0), (.getfield 364, 435), (.iload_n 2, 0), (.iload_n 3, 0), (.i2s, 0), (.iastore, 0), (.iconst 1, 0), (.ireturn, 0), (.iload_n 3, 0), (.ldc_w 340, 1000), (.if_icmp .eq 20, 0), (.iload_n 3, 0), (.ldc_w 367, 1078), (.if_icmp .lt 10, 0), (.iload_n 3, 0), (.ldc_w 368, 1079), (.if_icmp .le 6, 0), (.ldc 91, 520), (.ireturn, 0), (.aload 4, 0), (.getfield 364, 435), (.iload_n 2, 0), (.iload_n 3, 0), (.iastore, 0), (.iconst 1, 0), (.ireturn, 0)]
set_option maxRecDepth 20000 in
def kc_X11_fits : am_C := [(0, .iload 1, 1), (1, .invokestatic 131, 4), (4, .ifCond .eq 18, 7), (7, .aload 0, 8), (8, .getfield 706, 11), (11, .iload 2, 12), (12, .invokevirtual 54, 15), (15, .ifCond .ne 21, 18), (18, .iconst (-1000000001), 20), (20, .ireturn, 21), (21, .aload 0, 22), (22, .getfield 712, 25), (25, .iload 1, 26), (26, .aaload, 27), (27, .astore 3, 28), (28, .aload 3, 29), (29, .invokevirtual 41, 32), (32, .ifCond .eq 39, 35), (35, .iconst (-1000000011), 38), (38, .ireturn, 39), (39, .aload 0, 40), (40, .getfield 708, 43), (43, .aload 0, 44), (44, .getfield 706, 47), (47, .invokevirtual 53, 50), (50, .iconst 0, 51), (51, .istore 4, 53), (53, .iload 4, 55), (55, .aload 3, 56), (56, .getfield 385, 59), (59, .if_icmp .ge 105, 62), (62, .aload 3, 63), (63, .iload 4, 65), (65, .invokevirtual 44, 68), (68, .ifCond .eq 92, 71), (71, .aload 3, 72), (72, .getfield 386, 75), (75, .iload 4, 77), (77, .iaload, 78), (78, .aload 0, 79), (79, .getfield 708, 82), (82, .iload 2, 83), (83, .invokevirtual 69, 86), (86, .if_icmp .eq 92, 89), (89, .iload 4, 91), (91, .ireturn, 92), (92, .aload 0, 93), (93, .getfield 708, 96), (96, .invokevirtual 76, 99), (99, .iinc 4 1, 102), (102, .goto 53, 105), (105, .iconst (-1000000005), 108), (108, .ireturn, 109)]
set_option maxRecDepth 20000 in
def kp_X11_fits : List (Instr × Nat) := [(.iload_n 1, 0), (.invokestatic 345, 1056), (.ifCond .eq 14, 0), (.aload_n 0, 0), (.getfield 28, 469), (.iload_n 2, 0), (.invokevirtual 106, 530), (.ifCond .ne 6, 0), (.ldc 91, 520), (.ireturn, 0), (.aload_n 0, 0), (.getfield 58, 475), (.iload_n 1, 0), (.aaload, 0), (.astore_n 3, 0), (.aload_n 3, 0), (.invokevirtual 352, 1068), (.ifCond .eq 7, 0), (.ldc_w 356, 1072), (.ireturn, 0), (.aload_n 0, 0), (.getfield 35, 471), (.aload_n 0, 0), (.getfield 28, 469), (.invokevirtual 369, 1084), (.iconst 0, 0), (.istore 4, 0), (.iload 4, 0), (.aload_n 3, 0), (.getfield 371, 433), (.if_icmp .ge 46, 0), (.aload_n 3, 0), (.iload 4, 0), (.invokevirtual 374, 1101), (.ifCond .eq 24, 0), (.aload_n 3, 0), (.getfield 364, 435), (.iload 4, 0), (.iaload, 0), (.aload_n 0, 0), (.getfield 35, 471), (.iload_n 2, 0), (.invokevirtual 138, 581), (.if_icmp .eq 6, 0), (.iload 4, 0), (.ireturn, 0), (.aload_n 0, 0), (.getfield 35, 471), (.invokevirtual 251, 695), (.iinc 4 1, 0), (.goto (-49), 0), (.ldc_w 340, 1000), (.ireturn, 0)]
set_option maxRecDepth 20000 in
def kc_X11_copy : am_C := [(0, .iload 1, 1), (1, .invokestatic 131, 4), (4, .ifCond .eq 14, 7), (7, .iload 3, 8), (8, .invokestatic 131, 11), (11, .ifCond .ne 17, 14), (14, .iconst (-1000000001), 16), (16, .ireturn, 17), (17, .aload 0, 18), (18, .getfield 712, 21), (21, .iload 1, 22), (22, .aaload, 23), (23, .astore 6, 25), (25, .aload 0, 26), (26, .getfield 712, 29), (29, .iload 3, 30), (30, .aaload, 31), (31, .astore 7, 33), (33, .aload 6, 35), (35, .invokevirtual 41, 38), (38, .ifCond .ne 49, 41), (41, .aload 7, 43), (43, .invokevirtual 41, 46), (46, .ifCond .eq 53, 49), (49, .iconst (-1000000011), 52), (52, .ireturn, 53), (53, .aload 6, 55), (55, .getfield 384, 58), (58, .aload 7, 60), (60, .getfield 384, 63), (63, .if_icmp .eq 69, 66), (66, .iconst (-1000000012), 68), (68, .ireturn, 69), (69, .aload 6, 71), (71, .iload 2, 72), (72, .iload 5, 74), (74, .invokevirtual 43, 77), (77, .ifCond .eq 92, 80), (80, .aload 7, 82), (82, .iload 4, 84), (84, .iload 5, 86), (86, .invokevirtual 43, 89), (89, .ifCond .ne 96, 92), (92, .iconst (-1000000013), 95), (95, .ireturn, 96), (96, .aload 6, 98), (98, .getfield 386, 101), (101, .iload 2, 102), (102, .aload 7, 104), (104, .getfield 386, 107), (107, .iload 4, 109), (109, .iload 5, 111), (111, .invokedynamic 0, 114), (114, .iload 5, 116), (116, .ireturn, 117)]
set_option maxRecDepth 20000 in
def kp_X11_copy : List (Instr × Nat) := [(.iload_n 1, 0), (.invokestatic 345, 1056), (.ifCond .eq 10, 0), (.iload_n 3, 0), (.invokestatic 345, 1056), (.ifCond .ne 6, 0), (.ldc 91, 520), (.ireturn, 0), (.aload_n 0, 0), (.getfield 58, 475), (.iload_n 1, 0), (.aaload, 0), (.astore 6, 0), (.aload_n 0, 0), (.getfield 58, 475), (.iload_n 3, 0), (.aaload, 0), (.astore 7, 0), (.aload 6, 0), (.invokevirtual 352, 1068), (.ifCond .ne 11, 0), (.aload 7, 0), (.invokevirtual 352, 1068), (.ifCond .eq 7, 0), (.ldc_w 356, 1072), (.ireturn, 0), (.aload 6, 0), (.getfield 361, 431), (.aload 7, 0), (.getfield 361, 431), (.if_icmp .eq 6, 0), (.ldc 237, 664), (.ireturn, 0), (.aload 6, 0), (.iload_n 2, 0), (.iload 5, 0), (.invokevirtual 377, 1110), (.ifCond .eq 15, 0), (.aload 7, 0), (.iload 4, 0), (.iload 5, 0), (.invokevirtual 377, 1110), (.ifCond .ne 7, 0), (.ldc_w 360, 1077), (.ireturn, 0), (.aload 6, 0), (.getfield 364, 435), (.iload_n 2, 0), (.aload 7, 0), (.getfield 364, 435), (.iload 4, 0), (.iload 5, 0), (.invokestatic 380, 1114), (.iload 5, 0), (.ireturn, 0)]
set_option maxRecDepth 20000 in
def kc_X11_lay : am_C := [(0, .iload 1, 1), (1, .invokestatic 132, 4), (4, .ifCond .eq 16, 7), (7, .iload 2, 8), (8, .ifCond .lt 16, 11), (11, .iload 2, 12), (12, .iconst 3, 13), (13, .if_icmp .le 19, 16), (16, .iconst (-1000000001), 18), (18, .ireturn, 19), (19, .iload 2, 20), (20, .iconst 1, 21), (21, .if_icmp .ne 35, 24), (24, .aload 0, 25), (25, .getfield 706, 28), (28, .iload 3, 29), (29, .invokevirtual 56, 32), (32, .ifCond .eq 47, 35), (35, .iload 2, 36), (36, .iconst 2, 37), (37, .if_icmp .ne 50, 40), (40, .iload 3, 41), (41, .invokestatic 131, 44), (44, .ifCond .ne 50, 47), (47, .iconst (-1000000001), 49), (49, .ireturn, 50), (50, .iload 2, 51), (51, .iconst 2, 52), (52, .if_icmp .ne 71, 55), (55, .aload 0, 56), (56, .getfield 712, 59), (59, .iload 3, 60), (60, .aaload, 61), (61, .invokevirtual 41, 64), (64, .ifCond .eq 71, 67), (67, .iconst (-1000000011), 70), (70, .ireturn, 71), (71, .aload 0, 72), (72, .getfield 713, 75), (75, .iload 1, 76), (76, .aaload, 77), (77, .astore 4, 79), (79, .aload 4, 81), (81, .getfield 448, 84), (84, .istore 5, 86), (86, .aload 4, 88), (88, .iload 2, 89), (89, .putfield 448, 92), (92, .iload 2, 93), (93, .iconst 1, 94), (94, .if_icmp .ne 117, 97), (97, .aload 4, 99), (99, .aload 0, 100), (100, .getfield 706, 103), (103, .getfield 581, 106), (106, .iload 3, 107), (107, .aaload, 108), (108, .getfield 256, 111), (111, .putfield 449, 114), (114, .goto 150, 117), (117, .iload 2, 118), (118, .iconst 2, 119), (119, .if_icmp .ne 139, 122), (122, .aload 4, 124), (124, .getfield 451, 127), (127, .aload 0, 128), (128, .getfield 712, 131), (131, .iload 3, 132), (132, .aaload, 133), (133, .invokevirtual 40, 136), (136, .goto 150, 139), (139, .iload 2, 140), (140, .iconst 3, 141), (141, .if_icmp .ne 150, 144), (144, .aload 4, 146), (146, .iload 3, 147), (147, .putfield 450, 150), (150, .iload 5, 152), (152, .ireturn, 153)]
set_option maxRecDepth 20000 in
def kp_X11_lay : List (Instr × Nat) := [(.iload_n 1, 0), (.invokestatic 386, 1119), (.ifCond .eq 12, 0), (.iload_n 2, 0), (.ifCond .lt 8, 0), (.iload_n 2, 0), (.iconst 3, 0), (.if_icmp .le 6, 0), (.ldc 91, 520), (.ireturn, 0), (.iload_n 2, 0), (.iconst 1, 0), (.if_icmp .ne 14, 0), (.aload_n 0, 0), (.getfield 28, 469), (.iload_n 3, 0), (.invokevirtual 189, 640), (.ifCond .eq 15, 0), (.iload_n 2, 0), (.iconst 2, 0), (.if_icmp .ne 13, 0), (.iload_n 3, 0), (.invokestatic 345, 1056), (.ifCond .ne 6, 0), (.ldc 91, 520), (.ireturn, 0), (.iload_n 2, 0), (.iconst 2, 0), (.if_icmp .ne 19, 0), (.aload_n 0, 0), (.getfield 58, 475), (.iload_n 3, 0), (.aaload, 0), (.invokevirtual 352, 1068), (.ifCond .eq 7, 0), (.ldc_w 356, 1072), (.ireturn, 0), (.aload_n 0, 0), (.getfield 64, 476), (.iload_n 1, 0), (.aaload, 0), (.astore 4, 0), (.aload 4, 0), (.getfield 389, 451), (.istore 5, 0), (.aload 4, 0), (.iload_n 2, 0), (.putfield 389, 451), (.iload_n 2, 0), (.iconst 1, 0), (.if_icmp .ne 23, 0), (.aload 4, 0), (.aload_n 0, 0), (.getfield 28, 469), (.getfield 180, 298), (.iload_n 3, 0), (.aaload, 0), (.getfield 192, 245), (.putfield 392, 453), (.goto 36, 0), (.iload_n 2, 0), (.iconst 2, 0), (.if_icmp .ne 20, 0), (.aload 4, 0), (.getfield 395, 457), (.aload_n 0, 0), (.getfield 58, 475), (.iload_n 3, 0), (.aaload, 0), (.invokevirtual 399, 1122), (.goto 14, 0), (.iload_n 2, 0), (.iconst 3, 0), (.if_icmp .ne 9, 0), (.aload 4, 0), (.iload_n 3, 0), (.putfield 402, 455), (.iload 5, 0), (.ireturn, 0)]
set_option maxRecDepth 20000 in
def kc_X11_ask : am_C := [(0, .iload 1, 1), (1, .invokestatic 132, 4), (4, .ifCond .eq 14, 7), (7, .iload 2, 8), (8, .invokestatic 130, 11), (11, .ifCond .ne 17, 14), (14, .iconst (-1000000001), 16), (16, .ireturn, 17), (17, .aload 0, 18), (18, .getfield 713, 21), (21, .iload 1, 22), (22, .aaload, 23), (23, .iconst 1, 24), (24, .invokevirtual 46, 27), (27, .istore 3, 28), (28, .iload 3, 29), (29, .ifCond .eq 34, 32), (32, .iload 3, 33), (33, .ireturn, 34), (34, .aload 0, 35), (35, .getfield 713, 38), (38, .iload 1, 39), (39, .aaload, 40), (40, .getfield 449, 43), (43, .istore 4, 45), (45, .iload 4, 47), (47, .iload 2, 48), (48, .invokestatic 135, 51), (51, .ifCond .eq 62, 54), (54, .iload 4, 56), (56, .invokestatic 136, 59), (59, .goto 64, 62), (62, .iconst (-1000000012), 64), (64, .ireturn, 65)]
set_option maxRecDepth 20000 in
def kp_X11_ask : List (Instr × Nat) := [(.iload_n 1, 0), (.invokestatic 386, 1119), (.ifCond .eq 10, 0), (.iload_n 2, 0), (.invokestatic 171, 626), (.ifCond .ne 6, 0), (.ldc 91, 520), (.ireturn, 0), (.aload_n 0, 0), (.getfield 64, 476), (.iload_n 1, 0), (.aaload, 0), (.iconst 1, 0), (.invokevirtual 405, 1131), (.istore_n 3, 0), (.iload_n 3, 0), (.ifCond .eq 5, 0), (.iload_n 3, 0), (.ireturn, 0), (.aload_n 0, 0), (.getfield 64, 476), (.iload_n 1, 0), (.aaload, 0), (.getfield 392, 453), (.istore 4, 0), (.iload 4, 0), (.iload_n 2, 0), (.invokestatic 233, 659), (.ifCond .eq 11, 0), (.iload 4, 0), (.invokestatic 224, 648), (.goto 5, 0), (.ldc 237, 664), (.ireturn, 0)]
set_option maxRecDepth 20000 in
def kc_X11_item : am_C := [(0, .iload 1, 1), (1, .invokestatic 132, 4), (4, .ifCond .ne 10, 7), (7, .iconst (-1000000001), 9), (9, .ireturn, 10), (10, .aload 0, 11), (11, .getfield 713, 14), (14, .iload 1, 15), (15, .aaload, 16), (16, .iconst 2, 17), (17, .invokevirtual 46, 20), (20, .istore 3, 21), (21, .iload 3, 22), (22, .ifCond .eq 27, 25), (25, .iload 3, 26), (26, .ireturn, 27), (27, .aload 0, 28), (28, .getfield 713, 31), (31, .iload 1, 32), (32, .aaload, 33), (33, .getfield 451, 36), (36, .astore 4, 38), (38, .aload 4, 40), (40, .iload 2, 41), (41, .invokevirtual 42, 44), (44, .ifCond .ne 51, 47), (47, .iconst (-1000000013), 50), (50, .ireturn, 51), (51, .aload 4, 53), (53, .iload 2, 54), (54, .invokevirtual 44, 57), (57, .ifCond .eq 70, 60), (60, .aload 4, 62), (62, .getfield 386, 65), (65, .iload 2, 66), (66, .iaload, 67), (67, .goto 72, 70), (70, .iconst (-1000000012), 72), (72, .ireturn, 73)]
set_option maxRecDepth 20000 in
def kp_X11_item : List (Instr × Nat) := [(.iload_n 1, 0), (.invokestatic 386, 1119), (.ifCond .ne 6, 0), (.ldc 91, 520), (.ireturn, 0), (.aload_n 0, 0), (.getfield 64, 476), (.iload_n 1, 0), (.aaload, 0), (.iconst 2, 0), (.invokevirtual 405, 1131), (.istore_n 3, 0), (.iload_n 3, 0), (.ifCond .eq 5, 0), (.iload_n 3, 0), (.ireturn, 0), (.aload_n 0, 0), (.getfield 64, 476), (.iload_n 1, 0), (.aaload, 0), (.getfield 395, 457), (.astore 4, 0), (.aload 4, 0), (.iload_n 2, 0), (.invokevirtual 357, 1073), (.ifCond .ne 7, 0), (.ldc_w 360, 1077), (.ireturn, 0), (.aload 4, 0), (.iload_n 2, 0), (.invokevirtual 374, 1101), (.ifCond .eq 13, 0), (.aload 4, 0), (.getfield 364, 435), (.iload_n 2, 0), (.iaload, 0), (.goto 5, 0), (.ldc 237, 664), (.ireturn, 0)]
set_option maxRecDepth 20000 in
def kc_X11_rest : am_C := [(0, .iload 1, 1), (1, .invokestatic 132, 4), (4, .ifCond .ne 10, 7), (7, .iconst (-1000000001), 9), (9, .ireturn, 10), (10, .aload 0, 11), (11, .getfield 713, 14), (14, .iload 1, 15), (15, .aaload, 16), (16, .iconst 3, 17), (17, .invokevirtual 46, 20), (20, .istore 3, 21), (21, .iload 3, 22), (22, .ifCond .eq 27, 25), (25, .iload 3, 26), (26, .ireturn, 27), (27, .iload 2, 28), (28, .ifCond .ne 37, 31), (31, .iconst (-1000000002), 34), (34, .goto 48, 37), (37, .aload 0, 38), (38, .getfield 713, 41), (41, .iload 1, 42), (42, .aaload, 43), (43, .getfield 450, 46), (46, .iload 2, 47), (47, .irem, 48), (48, .ireturn, 49)]
set_option maxRecDepth 20000 in
def kp_X11_rest : List (Instr × Nat) := [(.iload_n 1, 0), (.invokestatic 386, 1119), (.ifCond .ne 6, 0), (.ldc 91, 520), (.ireturn, 0), (.aload_n 0, 0), (.getfield 64, 476), (.iload_n 1, 0), (.aaload, 0), (.iconst 3, 0), (.invokevirtual 405, 1131), (.istore_n 3, 0), (.iload_n 3, 0), (.ifCond .eq 5, 0), (.iload_n 3, 0), (.ireturn, 0), (.iload_n 2, 0), (.ifCond .ne 9, 0), (.ldc_w 317, 987), (.goto 14, 0), (.aload_n 0, 0), (.getfield 64, 476), (.iload_n 1, 0), (.aaload, 0), (.getfield 402, 455), (.iload_n 2, 0), (.irem, 0), (.ireturn, 0)]
set_option maxRecDepth 20000 in
def kc_X11_tell : am_C := [(0, .aload 0, 1), (1, .getfield 715, 4), (4, .iconst 60, 6), (6, .if_icmp .lt 12, 9), (9, .iconst (-1000000003), 11), (11, .ireturn, 12), (12, .aload 0, 13), (13, .getfield 714, 16), (16, .aload 0, 17), (17, .getfield 715, 20), (20, .iload 1, 21), (21, .iastore, 22), (22, .aload 0, 23), (23, .dup, 24), (24, .getfield 715, 27), (27, .iconst 1, 28), (28, .iadd, 29), (29, .putfield 715, 32), (32, .aload 0, 33), (33, .getfield 715, 36), (36, .ireturn, 37)]
set_option maxRecDepth 20000 in
def kp_X11_tell : List (Instr × Nat) := [(.aload_n 0, 0), (.getfield 72, 478), (.bipush 60, 0), (.if_icmp .lt 6, 0), (.ldc 95, 521), (.ireturn, 0), (.aload_n 0, 0), (.getfield 68, 477), (.aload_n 0, 0), (.getfield 72, 478), (.iload_n 1, 0), (.iastore, 0), (.aload_n 0, 0), (.dup, 0), (.getfield 72, 478), (.iconst 1, 0), (.iadd, 0), (.putfield 72, 478), (.aload_n 0, 0), (.getfield 72, 478), (.ireturn, 0)]
set_option maxRecDepth 20000 in
def kc_X11_check : am_C := [(0, .aload 0, 1), (1, .getfield 715, 4), (4, .istore 2, 5), (5, .aload 0, 6), (6, .iconst 0, 7), (7, .putfield 715, 10), (10, .iload 1, 11), (11, .iconst 1, 12), (12, .if_icmp .lt 21, 15), (15, .iload 1, 16), (16, .iconst 30, 18), (18, .if_icmp .le 24, 21), (21, .iconst (-1000000001), 23), (23, .ireturn, 24), (24, .aload 0, 25), (25, .getfield 709, 28), (28, .ifCond .ne 35, 31), (31, .iconst (-1000000002), 34), (34, .ireturn, 35), (35, .aload 0, 36), (36, .iload 2, 37), (37, .iload 1, 38), (38, .invokevirtual 141, 41), (41, .istore 3, 42), (42, .iload 3, 43), (43, .iload 2, 44), (44, .if_icmp .ne 58, 47), (47, .iload 3, 48), (48, .iconst 2, 49), (49, .iload 1, 50), (50, .imul, 51), (51, .if_icmp .ne 58, 54), (54, .iconst 0, 55), (55, .goto 61, 58), (58, .iconst 1, 59), (59, .iload 3, 60), (60, .iadd, 61), (61, .ireturn, 62)]
set_option maxRecDepth 20000 in
def kp_X11_check : List (Instr × Nat) := [(.aload_n 0, 0), (.getfield 72, 478), (.istore_n 2, 0), (.aload_n 0, 0), (.iconst 0, 0), (.putfield 72, 478), (.iload_n 1, 0), (.iconst 1, 0), (.if_icmp .lt 9, 0), (.iload_n 1, 0), (.bipush 30, 0), (.if_icmp .le 6, 0), (.ldc 91, 520), (.ireturn, 0), (.aload_n 0, 0), (.getfield 38, 472), (.ifCond .ne 7, 0), (.ldc_w 317, 987), (.ireturn, 0), (.aload_n 0, 0), (.iload_n 2, 0), (.iload_n 1, 0), (.invokevirtual 408, 1153), (.istore_n 3, 0), (.iload_n 3, 0), (.iload_n 2, 0), (.if_icmp .ne 14, 0), (.iload_n 3, 0), (.iconst 2, 0), (.iload_n 1, 0), (.imul, 0), (.if_icmp .ne 7, 0), (.iconst 0, 0), (.goto 6, 0), (.iconst 1, 0), (.iload_n 3, 0), (.iadd, 0), (.ireturn, 0)]
set_option maxRecDepth 20000 in
def kc_X11_keep : am_C := [(0, .aload 0, 1), (1, .getfield 707, 4), (4, .aload 0, 5), (5, .getfield 706, 8), (8, .invokevirtual 53, 11), (11, .aload 0, 12), (12, .iconst 1, 13), (13, .putfield 709, 16), (16, .aload 0, 17), (17, .getfield 706, 20), (20, .getfield 583, 23), (23, .ireturn, 24)]
set_option maxRecDepth 20000 in
def kp_X11_keep : List (Instr × Nat) := [(.aload_n 0, 0), (.getfield 32, 470), (.aload_n 0, 0), (.getfield 28, 469), (.invokevirtual 369, 1084), (.aload_n 0, 0), (.iconst 1, 0), (.putfield 38, 472), (.aload_n 0, 0), (.getfield 28, 469), (.getfield 121, 304), (.ireturn, 0)]
set_option maxRecDepth 20000 in
def kc_X11_back : am_C := [(0, .aload 0, 1), (1, .getfield 709, 4), (4, .ifCond .ne 11, 7), (7, .iconst (-1000000002), 10), (10, .ireturn, 11), (11, .aload 0, 12), (12, .getfield 706, 15), (15, .aload 0, 16), (16, .getfield 707, 19), (19, .invokevirtual 53, 22), (22, .aload 0, 23), (23, .getfield 706, 26), (26, .getfield 583, 29), (29, .ireturn, 30)]
set_option maxRecDepth 20000 in
def kp_X11_back : List (Instr × Nat) := [(.aload_n 0, 0), (.getfield 38, 472), (.ifCond .ne 7, 0), (.ldc_w 317, 987), (.ireturn, 0), (.aload_n 0, 0), (.getfield 28, 469), (.aload_n 0, 0), (.getfield 32, 470), (.invokevirtual 369, 1084), (.aload_n 0, 0), (.getfield 28, 469), (.getfield 121, 304), (.ireturn, 0)]
set_option maxRecDepth 20000 in
def kc_X11_count : am_C := [(0, .iload 1, 1), (1, .tableswitch 169 0 12 #[68, 76, 84, 92, 100, 108, 116, 124, 132, 140, 148, 156, 161], 68), (68, .aload 0, 69), (69, .getfield 706, 72), (72, .getfield 578, 75), (75, .ireturn, 76), (76, .aload 0, 77), (77, .getfield 706, 80), (80, .getfield 580, 83), (83, .ireturn, 84), (84, .aload 0, 85), (85, .getfield 706, 88), (88, .getfield 582, 91), (91, .ireturn, 92), (92, .aload 0, 93), (93, .getfield 706, 96), (96, .invokevirtual 73, 99), (99, .ireturn, 100), (100, .aload 0, 101), (101, .getfield 706, 104), (104, .invokevirtual 75, 107), (107, .ireturn, 108), (108, .aload 0, 109), (109, .getfield 706, 112), (112, .getfield 590, 115), (115, .ireturn, 116), (116, .aload 0, 117), (117, .getfield 706, 120), (120, .getfield 587, 123), (123, .ireturn, 124), (124, .aload 0, 125), (125, .getfield 706, 128), (128, .getfield 589, 131), (131, .ireturn, 132), (132, .aload 0, 133), (133, .getfield 706, 136), (136, .invokevirtual 74, 139), (139, .ireturn, 140), (140, .aload 0, 141), (141, .getfield 706, 144), (144, .getfield 583, 147), (147, .ireturn, 148), (148, .aload 0, 149), (149, .getfield 706, 152), (152, .getfield 584, 155), (155, .ireturn, 156), (156, .aload 0, 157), (157, .getfield 715, 160), (160, .ireturn, 161), (161, .aload 0, 162), (162, .getfield 705, 165), (165, .getfield 321, 168), (168, .ireturn, 169), (169, .iconst (-1000000001), 171), (171, .ireturn, 172)]
set_option maxRecDepth 20000 in
def kp_X11_count : List (Instr × Nat) := [(.iload_n 1, 0), (.tableswitch 168 0 12 #[67, 75, 83, 91, 99, 107, 115, 123, 131, 139, 147, 155, 160], 0), (.aload_n 0, 0), (.getfield 28, 469), (.getfield 92, 287), (.ireturn, 0), (.aload_n 0, 0), (.getfield 28, 469), (.getfield 147, 294), (.ireturn, 0), (.aload_n 0, 0), (.getfield 28, 469), (.getfield 177, 301), (.ireturn, 0), (.aload_n 0, 0), (.getfield 28, 469), (.invokevirtual 411, 1161), (.ireturn, 0), (.aload_n 0, 0), (.getfield 28, 469), (.invokevirtual 414, 1178), (.ireturn, 0), (.aload_n 0, 0), (.getfield 28, 469), (.getfield 271, 321), (.ireturn, 0), (.aload_n 0, 0), (.getfield 28, 469), (.getfield 310, 313), (.ireturn, 0), (.aload_n 0, 0), (.getfield 28, 469), (.getfield 324, 319), (.ireturn, 0), (.aload_n 0, 0), (.getfield 28, 469), (.invokevirtual 417, 1182), (.ireturn, 0), (.aload_n 0, 0), (.getfield 28, 469), (.getfield 121, 304), (.ireturn, 0), (.aload_n 0, 0), (.getfield 28, 469), (.getfield 248, 307), (.ireturn, 0), (.aload_n 0, 0), (.getfield 72, 478), (.ireturn, 0), (.aload_n 0, 0), (.getfield 19, 468), (.getfield 260, 144), (.ireturn, 0), (.ldc 91, 520), (.ireturn, 0)]
set_option maxRecDepth 20000 in
def kc_X11_bit : am_C := [(0, .iload 0, 1), (1, .ifCond .eq 8, 4), (4, .iconst 1, 5), (5, .goto 9, 8), (8, .iconst 0, 9), (9, .ireturn, 10)]
set_option maxRecDepth 20000 in
def kp_X11_bit : List (Instr × Nat) := [(.iload_n 0, 0), (.ifCond .eq 7, 0), (.iconst 1, 0), (.goto 4, 0), (.iconst 0, 0), (.ireturn, 0)]
set_option maxRecDepth 20000 in
def kc_X11_isPlace : am_C := [(0, .iload 0, 1), (1, .ifCond .lt 26, 4), (4, .iload 0, 5), (5, .iconst 100, 7), (7, .idiv, 8), (8, .iconst 30, 10), (10, .if_icmp .gt 26, 13), (13, .iload 0, 14), (14, .iconst 100, 16), (16, .irem, 17), (17, .iconst 30, 19), (19, .if_icmp .gt 26, 22), (22, .iconst 1, 23), (23, .goto 27, 26), (26, .iconst 0, 27), (27, .freturn, 28)]
set_option maxRecDepth 20000 in
def kp_X11_isPlace : List (Instr × Nat) := [(.iload_n 0, 0), (.ifCond .lt 25, 0), (.iload_n 0, 0), (.bipush 100, 0), (.idiv, 0), (.bipush 30, 0), (.if_icmp .gt 16, 0), (.iload_n 0, 0), (.bipush 100, 0), (.irem, 0), (.bipush 30, 0), (.if_icmp .gt 7, 0), (.iconst 1, 0), (.goto 4, 0), (.iconst 0, 0), (.ireturn, 0)]
set_option maxRecDepth 20000 in
def kc_X11_isClock : am_C := [(0, .iload 0, 1), (1, .ifCond .lt 26, 4), (4, .iload 0, 5), (5, .iconst 100, 7), (7, .idiv, 8), (8, .iconst 24, 10), (10, .if_icmp .ge 26, 13), (13, .iload 0, 14), (14, .iconst 100, 16), (16, .irem, 17), (17, .iconst 24, 19), (19, .if_icmp .ge 26, 22), (22, .iconst 1, 23), (23, .goto 27, 26), (26, .iconst 0, 27), (27, .freturn, 28)]
set_option maxRecDepth 20000 in
def kp_X11_isClock : List (Instr × Nat) := [(.iload_n 0, 0), (.ifCond .lt 25, 0), (.iload_n 0, 0), (.bipush 100, 0), (.idiv, 0), (.bipush 24, 0), (.if_icmp .ge 16, 0), (.iload_n 0, 0), (.bipush 100, 0), (.irem, 0), (.bipush 24, 0), (.if_icmp .ge 7, 0), (.iconst 1, 0), (.goto 4, 0), (.iconst 0, 0), (.ireturn, 0)]
set_option maxRecDepth 20000 in
def kc_X11_isDrawAndClass : am_C := [(0, .iload 0, 1), (1, .iconst 10, 3), (3, .if_icmp .lt 27, 6), (6, .iload 0, 7), (7, .iconst 10, 9), (9, .idiv, 10), (10, .iconst 99, 12), (12, .if_icmp .gt 27, 15), (15, .iload 0, 16), (16, .iconst 10, 18), (18, .irem, 19), (19, .iconst 4, 20), (20, .if_icmp .ge 27, 23), (23, .iconst 1, 24), (24, .goto 28, 27), (27, .iconst 0, 28), (28, .freturn, 29)]
set_option maxRecDepth 20000 in
def kp_X11_isDrawAndClass : List (Instr × Nat) := [(.iload_n 0, 0), (.bipush 10, 0), (.if_icmp .lt 24, 0), (.iload_n 0, 0), (.bipush 10, 0), (.idiv, 0), (.bipush 99, 0), (.if_icmp .gt 15, 0), (.iload_n 0, 0), (.bipush 10, 0), (.irem, 0), (.iconst 4, 0), (.if_icmp .ge 7, 0), (.iconst 1, 0), (.goto 4, 0), (.iconst 0, 0), (.ireturn, 0)]
set_option maxRecDepth 20000 in
def kc_X11_isKind : am_C := [(0, .iload 0, 1), (1, .ifCond .lt 14, 4), (4, .iload 0, 5), (5, .iconst 6, 7), (7, .if_icmp .ge 14, 10), (10, .iconst 1, 11), (11, .goto 15, 14), (14, .iconst 0, 15), (15, .freturn, 16)]
set_option maxRecDepth 20000 in
def kp_X11_isKind : List (Instr × Nat) := [(.iload_n 0, 0), (.ifCond .lt 13, 0), (.iload_n 0, 0), (.bipush 6, 0), (.if_icmp .ge 7, 0), (.iconst 1, 0), (.goto 4, 0), (.iconst 0, 0), (.ireturn, 0)]
set_option maxRecDepth 20000 in
def kc_X11_isSheet : am_C := [(0, .iload 0, 1), (1, .ifCond .lt 13, 4), (4, .iload 0, 5), (5, .iconst 4, 6), (6, .if_icmp .ge 13, 9), (9, .iconst 1, 10), (10, .goto 14, 13), (13, .iconst 0, 14), (14, .freturn, 15)]
set_option maxRecDepth 20000 in
def kp_X11_isSheet : List (Instr × Nat) := [(.iload_n 0, 0), (.ifCond .lt 12, 0), (.iload_n 0, 0), (.iconst 4, 0), (.if_icmp .ge 7, 0), (.iconst 1, 0), (.goto 4, 0), (.iconst 0, 0), (.ireturn, 0)]
set_option maxRecDepth 20000 in
def kc_X11_isSlot : am_C := [(0, .iload 0, 1), (1, .ifCond .lt 13, 4), (4, .iload 0, 5), (5, .iconst 5, 6), (6, .if_icmp .ge 13, 9), (9, .iconst 1, 10), (10, .goto 14, 13), (13, .iconst 0, 14), (14, .freturn, 15)]
set_option maxRecDepth 20000 in
def kp_X11_isSlot : List (Instr × Nat) := [(.iload_n 0, 0), (.ifCond .lt 12, 0), (.iload_n 0, 0), (.iconst 5, 0), (.if_icmp .ge 7, 0), (.iconst 1, 0), (.goto 4, 0), (.iconst 0, 0), (.ireturn, 0)]
set_option maxRecDepth 20000 in
def kc_X11_isFeed : am_C := [(0, .iload 1, 1), (1, .iconst 100, 3), (3, .if_icmp .lt 20, 6), (6, .aload 0, 7), (7, .getfield 706, 10), (10, .iload 1, 11), (11, .iconst 100, 13), (13, .isub, 14), (14, .invokevirtual 54, 17), (17, .goto 28, 20), (20, .aload 0, 21), (21, .getfield 706, 24), (24, .iload 1, 25), (25, .invokevirtual 55, 28), (28, .freturn, 29)]
set_option maxRecDepth 20000 in
def kp_X11_isFeed : List (Instr × Nat) := [(.iload_n 1, 0), (.bipush 100, 0), (.if_icmp .lt 17, 0), (.aload_n 0, 0), (.getfield 28, 469), (.iload_n 1, 0), (.bipush 100, 0), (.isub, 0), (.invokevirtual 106, 530), (.goto 11, 0), (.aload_n 0, 0), (.getfield 28, 469), (.iload_n 1, 0), (.invokevirtual 160, 609), (.ireturn, 0)]
set_option maxRecDepth 20000 in
def kc_X11_isAmong : am_C := [(0, .iconst 0, 1), (1, .istore 3, 2), (2, .iload 3, 3), (3, .iload 2, 4), (4, .if_icmp .ge 28, 7), (7, .iload 3, 8), (8, .aload 1, 9), (9, .arraylength, 10), (10, .if_icmp .ge 28, 13), (13, .aload 1, 14), (14, .iload 3, 15), (15, .iaload, 16), (16, .iload 0, 17), (17, .if_icmp .ne 22, 20), (20, .iconst 1, 21), (21, .freturn, 22), (22, .iinc 3 1, 25), (25, .goto 2, 28), (28, .iconst 0, 29), (29, .freturn, 30)]
set_option maxRecDepth 20000 in
def kp_X11_isAmong : List (Instr × Nat) := [(.iconst 0, 0), (.istore_n 3, 0), (.iload_n 3, 0), (.iload_n 2, 0), (.if_icmp .ge 24, 0), (.iload_n 3, 0), (.aload_n 1, 0), (.arraylength, 0), (.if_icmp .ge 18, 0), (.aload_n 1, 0), (.iload_n 3, 0), (.iaload, 0), (.iload_n 0, 0), (.if_icmp .ne 5, 0), (.iconst 1, 0), (.ireturn, 0), (.iinc 3 1, 0), (.goto (-23), 0), (.iconst 0, 0), (.ireturn, 0)]
set_option maxRecDepth 20000 in
def kc_X11_isOfKind : am_C := [(0, .iload 0, 1), (1, .istore 2, 2), (2, .iconst 0, 3), (3, .istore 3, 4), (4, .iload 3, 5), (5, .iconst 6, 7), (7, .if_icmp .ge 36, 10), (10, .iload 2, 11), (11, .invokestatic 130, 14), (14, .ifCond .eq 36, 17), (17, .iload 2, 18), (18, .iload 1, 19), (19, .if_icmp .ne 24, 22), (22, .iconst 1, 23), (23, .freturn, 24), (24, .getstatic 0, 27), (27, .iload 2, 28), (28, .iaload, 29), (29, .istore 2, 30), (30, .iinc 3 1, 33), (33, .goto 4, 36), (36, .iconst 0, 37), (37, .freturn, 38)]
set_option maxRecDepth 20000 in
def kp_X11_isOfKind : List (Instr × Nat) := [(.iload_n 0, 0), (.istore_n 2, 0), (.iconst 0, 0), (.istore_n 3, 0), (.iload_n 3, 0), (.bipush 6, 0), (.if_icmp .ge 29, 0), (.iload_n 2, 0), (.invokestatic 171, 626), (.ifCond .eq 22, 0), (.iload_n 2, 0), (.iload_n 1, 0), (.if_icmp .ne 5, 0), (.iconst 1, 0), (.ireturn, 0), (.getstatic 420, 662), (.iload_n 2, 0), (.iaload, 0), (.istore_n 2, 0), (.iinc 3 1, 0), (.goto (-29), 0), (.iconst 0, 0), (.ireturn, 0)]
set_option maxRecDepth 20000 in
def kc_X11_wearOf : am_C := [(0, .iconst 1, 1), (1, .istore 1, 2), (2, .iload 0, 3), (3, .lookupswitch 36 #[(4, 28), (5, 32)], 28), (28, .iload 1, 29), (29, .iconst 1, 30), (30, .iadd, 31), (31, .ireturn, 32), (32, .iconst 2, 33), (33, .iload 1, 34), (34, .imul, 35), (35, .ireturn, 36), (36, .iload 1, 37), (37, .ireturn, 38)]
set_option maxRecDepth 20000 in
def kp_X11_wearOf : List (Instr × Nat) := [(.iconst 1, 0), (.istore_n 1, 0), (.iload_n 0, 0), (.lookupswitch 33 #[(4, 25), (5, 29)], 0), (.iload_n 1, 0), (.iconst 1, 0), (.iadd, 0), (.ireturn, 0), (.iconst 2, 0), (.iload_n 1, 0), (.imul, 0), (.ireturn, 0), (.iload_n 1, 0), (.ireturn, 0)]
set_option maxRecDepth 20000 in
def kc_X11_fewestThatDraw : am_C := [(0, .iconst 0, 1), (1, .istore 2, 2), (2, .iconst 0, 3), (3, .istore 3, 4), (4, .iload 3, 5), (5, .aload 0, 6), (6, .getfield 706, 9), (9, .getfield 587, 12), (12, .if_icmp .ge 72, 15), (15, .aload 0, 16), (16, .getfield 706, 19), (19, .getfield 581, 22), (22, .aload 0, 23), (23, .getfield 706, 26), (26, .getfield 586, 29), (29, .iload 3, 30), (30, .iaload, 31), (31, .aaload, 32), (32, .astore 4, 34), (34, .aload 0, 35), (35, .getfield 716, 38), (38, .iload 3, 39), (39, .aload 0, 40), (40, .getfield 706, 43), (43, .aload 4, 45), (45, .invokevirtual 63, 48), (48, .iastore, 49), (49, .iload 2, 50), (50, .aload 0, 51), (51, .getfield 706, 54), (54, .aload 4, 56), (56, .invokevirtual 61, 59), (59, .invokestatic 126, 62), (62, .iload 3, 63), (63, .ishl, 64), (64, .ior, 65), (65, .istore 2, 66), (66, .iinc 3 1, 69), (69, .goto 4, 72), (72, .iconst (-1000000005), 75), (75, .istore 3, 76), (76, .iconst 0, 77), (77, .istore 4, 79), (79, .iload 4, 81), (81, .iload 2, 82), (82, .if_icmp .gt 144, 85), (85, .iload 4, 87), (87, .iload 2, 88), (88, .iconst (-1), 89), (89, .ixor, 90), (90, .iand, 91), (91, .ifCond .ne 108, 94), (94, .aload 0, 95), (95, .iload 4, 97), (97, .invokevirtual 138, 100), (100, .iload 1, 101), (101, .if_icmp .ne 108, 104), (104, .iconst 1, 105), (105, .goto 109, 108), (108, .iconst 0, 109), (109, .istore 5, 111), (111, .iload 5, 113), (113, .ifCond .eq 138, 116), (116, .iload 3, 117), (117, .iconst (-1000000005), 120), (120, .if_icmp .eq 135, 123), (123, .iload 4, 125), (125, .invokestatic 237, 128), (128, .iload 3, 129), (129, .invokestatic 237, 132), (132, .if_icmp .ge 138, 135), (135, .iload 4, 137), (137, .istore 3, 138), (138, .iinc 4 1, 141), (141, .goto 79, 144), (144, .iload 3, 145), (145, .ireturn, 146)]
set_option maxRecDepth 20000 in
def kp_X11_fewestThatDraw : List (Instr × Nat) := [(.iconst 0, 0), (.istore_n 2, 0), (.iconst 0, 0), (.istore_n 3, 0), (.iload_n 3, 0), (.aload_n 0, 0), (.getfield 28, 469), (.getfield 310, 313), (.if_icmp .ge 60, 0), (.aload_n 0, 0), (.getfield 28, 469), (.getfield 180, 298), (.aload_n 0, 0), (.getfield 28, 469), (.getfield 307, 311), (.iload_n 3, 0), (.iaload, 0), (.aaload, 0), (.astore 4, 0), (.aload_n 0, 0), (.getfield 76, 479), (.iload_n 3, 0), (.aload_n 0, 0), (.getfield 28, 469), (.aload 4, 0), (.invokevirtual 220, 647), (.iastore, 0), (.iload_n 2, 0), (.aload_n 0, 0), (.getfield 28, 469), (.aload 4, 0), (.invokevirtual 214, 645), (.invokestatic 127, 541), (.iload_n 3, 0), (.ishl, 0), (.ior, 0), (.istore_n 2, 0), (.iinc 3 1, 0), (.goto (-65), 0), (.ldc_w 340, 1000), (.istore_n 3, 0), (.iconst 0, 0), (.istore 4, 0), (.iload 4, 0), (.iload_n 2, 0), (.if_icmp .gt 62, 0), (.iload 4, 0), (.iload_n 2, 0), (.iconst (-1), 0), (.ixor, 0), (.iand, 0), (.ifCond .ne 17, 0), (.aload_n 0, 0), (.iload 4, 0), (.invokevirtual 423, 1001), (.iload_n 1, 0), (.if_icmp .ne 7, 0), (.iconst 1, 0), (.goto 4, 0), (.iconst 0, 0), (.istore 5, 0), (.iload 5, 0), (.ifCond .eq 25, 0), (.iload_n 3, 0), (.ldc_w 340, 1000), (.if_icmp .eq 15, 0), (.iload 4, 0), (.invokestatic 426, 1005), (.iload_n 3, 0), (.invokestatic 426, 1005), (.if_icmp .ge 6, 0), (.iload 4, 0), (.istore_n 3, 0), (.iinc 4 1, 0), (.goto (-62), 0), (.iload_n 3, 0), (.ireturn, 0)]
set_option maxRecDepth 20000 in
def kc_X11_drawOfSet : am_C := [(0, .iconst 0, 1), (1, .istore 2, 2), (2, .iconst 0, 3), (3, .istore 3, 4), (4, .iload 3, 5), (5, .iconst 8, 7), (7, .if_icmp .ge 33, 10), (10, .iload 1, 11), (11, .iload 3, 12), (12, .ishr, 13), (13, .iconst 1, 14), (14, .iand, 15), (15, .ifCond .eq 27, 18), (18, .iload 2, 19), (19, .aload 0, 20), (20, .getfield 716, 23), (23, .iload 3, 24), (24, .iaload, 25), (25, .iadd, 26), (26, .istore 2, 27), (27, .iinc 3 1, 30), (30, .goto 4, 33), (33, .iload 2, 34), (34, .ireturn, 35)]
set_option maxRecDepth 20000 in
def kp_X11_drawOfSet : List (Instr × Nat) := [(.iconst 0, 0), (.istore_n 2, 0), (.iconst 0, 0), (.istore_n 3, 0), (.iload_n 3, 0), (.bipush 8, 0), (.if_icmp .ge 26, 0), (.iload_n 1, 0), (.iload_n 3, 0), (.ishr, 0), (.iconst 1, 0), (.iand, 0), (.ifCond .eq 12, 0), (.iload_n 2, 0), (.aload_n 0, 0), (.getfield 76, 479), (.iload_n 3, 0), (.iaload, 0), (.iadd, 0), (.istore_n 2, 0), (.iinc 3 1, 0), (.goto (-26), 0), (.iload_n 2, 0), (.ireturn, 0)]
set_option maxRecDepth 20000 in
def kc_X11_gatherLives : am_C := [(0, .iconst 0, 1), (1, .istore 2, 2), (2, .iconst 0, 3), (3, .istore 3, 4), (4, .iload 3, 5), (5, .aload 0, 6), (6, .getfield 706, 9), (9, .getfield 582, 12), (12, .if_icmp .ge 65, 15), (15, .aload 0, 16), (16, .getfield 706, 19), (19, .getfield 581, 22), (22, .iload 3, 23), (23, .aaload, 24), (24, .getfield 256, 27), (27, .iload 1, 28), (28, .invokestatic 135, 31), (31, .ifCond .eq 59, 34), (34, .aload 0, 35), (35, .getfield 717, 38), (38, .iload 2, 39), (39, .aload 0, 40), (40, .getfield 706, 43), (43, .aload 0, 44), (44, .getfield 706, 47), (47, .getfield 581, 50), (50, .iload 3, 51), (51, .aaload, 52), (52, .invokevirtual 65, 55), (55, .iastore, 56), (56, .iinc 2 1, 59), (59, .iinc 3 1, 62), (62, .goto 4, 65), (65, .iload 2, 66), (66, .ireturn, 67)]
set_option maxRecDepth 20000 in
def kp_X11_gatherLives : List (Instr × Nat) := [(.iconst 0, 0), (.istore_n 2, 0), (.iconst 0, 0), (.istore_n 3, 0), (.iload_n 3, 0), (.aload_n 0, 0), (.getfield 28, 469), (.getfield 177, 301), (.if_icmp .ge 53, 0), (.aload_n 0, 0), (.getfield 28, 469), (.getfield 180, 298), (.iload_n 3, 0), (.aaload, 0), (.getfield 192, 245), (.iload_n 1, 0), (.invokestatic 233, 659), (.ifCond .eq 28, 0), (.aload_n 0, 0), (.getfield 79, 480), (.iload_n 2, 0), (.aload_n 0, 0), (.getfield 28, 469), (.aload_n 0, 0), (.getfield 28, 469), (.getfield 180, 298), (.iload_n 3, 0), (.aaload, 0), (.invokevirtual 227, 651), (.iastore, 0), (.iinc 2 1, 0), (.iinc 3 1, 0), (.goto (-58), 0), (.iload_n 2, 0), (.ireturn, 0)]
set_option maxRecDepth 20000 in
def kc_X11_livesBelow : am_C := [(0, .iconst 0, 1), (1, .istore 3, 2), (2, .iconst 0, 3), (3, .istore 4, 5), (5, .iload 4, 7), (7, .iload 2, 8), (8, .if_icmp .ge 38, 11), (11, .iload 4, 13), (13, .iconst 16, 15), (15, .if_icmp .ge 38, 18), (18, .aload 0, 19), (19, .getfield 717, 22), (22, .iload 4, 24), (24, .iaload, 25), (25, .iload 1, 26), (26, .if_icmp .ge 32, 29), (29, .iinc 3 1, 32), (32, .iinc 4 1, 35), (35, .goto 5, 38), (38, .iload 3, 39), (39, .ireturn, 40)]
set_option maxRecDepth 20000 in
def kp_X11_livesBelow : List (Instr × Nat) := [(.iconst 0, 0), (.istore_n 3, 0), (.iconst 0, 0), (.istore 4, 0), (.iload 4, 0), (.iload_n 2, 0), (.if_icmp .ge 30, 0), (.iload 4, 0), (.bipush 16, 0), (.if_icmp .ge 23, 0), (.aload_n 0, 0), (.getfield 79, 480), (.iload 4, 0), (.iaload, 0), (.iload_n 1, 0), (.if_icmp .ge 6, 0), (.iinc 3 1, 0), (.iinc 4 1, 0), (.goto (-30), 0), (.iload_n 3, 0), (.ireturn, 0)]
set_option maxRecDepth 20000 in
def kc_X11_toldRight : am_C := [(0, .aload 0, 1), (1, .getfield 708, 4), (4, .aload 0, 5), (5, .getfield 707, 8), (8, .invokevirtual 53, 11), (11, .iconst 0, 12), (12, .istore 3, 13), (13, .iconst 0, 14), (14, .istore 4, 16), (16, .iload 4, 18), (18, .iload 2, 19), (19, .if_icmp .ge 87, 22), (22, .iload 3, 23), (23, .iload 1, 24), (24, .if_icmp .ge 43, 27), (27, .aload 0, 28), (28, .getfield 714, 31), (31, .iload 3, 32), (32, .iaload, 33), (33, .aload 0, 34), (34, .getfield 708, 37), (37, .invokevirtual 70, 40), (40, .if_icmp .eq 45, 43), (43, .iload 3, 44), (44, .ireturn, 45), (45, .iinc 3 1, 48), (48, .aload 0, 49), (49, .getfield 708, 52), (52, .invokevirtual 76, 55), (55, .iload 3, 56), (56, .iload 1, 57), (57, .if_icmp .ge 76, 60), (60, .aload 0, 61), (61, .getfield 714, 64), (64, .iload 3, 65), (65, .iaload, 66), (66, .aload 0, 67), (67, .getfield 708, 70), (70, .invokevirtual 73, 73), (73, .if_icmp .eq 78, 76), (76, .iload 3, 77), (77, .ireturn, 78), (78, .iinc 3 1, 81), (81, .iinc 4 1, 84), (84, .goto 16, 87), (87, .iload 3, 88), (88, .ireturn, 89)]
set_option maxRecDepth 20000 in
def kp_X11_toldRight : List (Instr × Nat) := [(.aload_n 0, 0), (.getfield 35, 471), (.aload_n 0, 0), (.getfield 32, 470), (.invokevirtual 369, 1084), (.iconst 0, 0), (.istore_n 3, 0), (.iconst 0, 0), (.istore 4, 0), (.iload 4, 0), (.iload_n 2, 0), (.if_icmp .ge 68, 0), (.iload_n 3, 0), (.iload_n 1, 0), (.if_icmp .ge 19, 0), (.aload_n 0, 0), (.getfield 68, 477), (.iload_n 3, 0), (.iaload, 0), (.aload_n 0, 0), (.getfield 35, 471), (.invokevirtual 431, 1157), (.if_icmp .eq 5, 0), (.iload_n 3, 0), (.ireturn, 0), (.iinc 3 1, 0), (.aload_n 0, 0), (.getfield 35, 471), (.invokevirtual 251, 695), (.iload_n 3, 0), (.iload_n 1, 0), (.if_icmp .ge 19, 0), (.aload_n 0, 0), (.getfield 68, 477), (.iload_n 3, 0), (.iaload, 0), (.aload_n 0, 0), (.getfield 35, 471), (.invokevirtual 411, 1161), (.if_icmp .eq 5, 0), (.iload_n 3, 0), (.ireturn, 0), (.iinc 3 1, 0), (.iinc 4 1, 0), (.goto (-68), 0), (.iload_n 3, 0), (.ireturn, 0)]
end
section
/-! linked codes, printed by program -/
set_option maxRecDepth 20000 in
def kc_X12_init : am_C := [(0, .aload 0, 1), (1, .pop2, 4), (4, .aload 0, 5), (5, .iconst 1561, 8), (8, .newarray .int, 10), (10, .putstatic 768, 13), (13, .aload 0, 14), (14, .iconst 1561, 17), (17, .newarray .int, 19), (19, .putstatic 769, 22), (22, .aload 0, 23), (23, .iconst 1561, 26), (26, .newarray .int, 28), (28, .putstatic 770, 31), (31, .aload 0, 32), (32, .iconst 16, 34), (34, .newarray .boolean, 36), (36, .putstatic 772, 39), (39, .aload 0, 40), (40, .iconst 96, 42), (42, .newarray .int, 44), (44, .putstatic 773, 47), (47, .aload 0, 48), (48, .iconst 15, 50), (50, .newarray .char, 52), (52, .dup, 53), (53, .iconst 0, 54), (54, .iconst 100, 56), (56, .castore, 57), (57, .dup, 58), (58, .iconst 1, 59), (59, .iconst 105, 61), (61, .castore, 62), (62, .dup, 63), (63, .iconst 2, 64), (64, .iconst 109, 66), (66, .castore, 67), (67, .dup, 68), (68, .iconst 3, 69), (69, .iconst 108, 71), (71, .castore, 72), (72, .dup, 73), (73, .iconst 4, 74), (74, .iconst 105, 76), (76, .castore, 77), (77, .dup, 78), (78, .iconst 5, 79), (79, .iconst 102, 81), (81, .castore, 82), (82, .dup, 83), (83, .iconst 6, 85), (85, .iconst 101, 87), (87, .castore, 88), (88, .dup, 89), (89, .iconst 7, 91), (91, .iconst 112, 93), (93, .castore, 94), (94, .dup, 95), (95, .iconst 8, 97), (97, .iconst 114, 99), (99, .castore, 100), (100, .dup, 101), (101, .iconst 9, 103), (103, .iconst 105, 105), (105, .castore, 106), (106, .dup, 107), (107, .iconst 10, 109), (109, .iconst 99, 111), (111, .castore, 112), (112, .dup, 113), (113, .iconst 11, 115), (115, .iconst 101, 117), (117, .castore, 118), (118, .dup, 119), (119, .iconst 12, 121), (121, .iconst 108, 123), (123, .castore, 124), (124, .dup, 125), (125, .iconst 13, 127), (127, .iconst 97, 129), (129, .castore, 130), (130, .dup, 131), (131, .iconst 14, 133), (133, .iconst 119, 135), (135, .castore, 136), (136, .putstatic 781, 139), (139, .aload 0, 140), (140, .iconst 5, 141), (141, .newarray .int, 143), (143, .dup, 144), (144, .iconst 0, 145), (145, .iconst 0, 146), (146, .iastore, 147), (147, .dup, 148), (148, .iconst 1, 149), (149, .iconst 3, 150), (150, .iastore, 151), (151, .dup, 152), (152, .iconst 2, 153), (153, .iconst 7, 155), (155, .iastore, 156), (156, .dup, 157), (157, .iconst 3, 158), (158, .iconst 12, 160), (160, .iastore, 161), (161, .dup, 162), (162, .iconst 4, 163), (163, .iconst 15, 165), (165, .iastore, 166), (166, .putstatic 782, 169), (169, .aload 0, 170), (170, .iconst 96, 172), (172, .newarray .int, 174), (174, .putstatic 783, 177), (177, .aload 0, 178), (178, .iconst 96, 180), (180, .newarray .int, 182), (182, .putstatic 786, 185), (185, .aload 0, 186), (186, .iconst 10, 188), (188, .newarray .boolean, 190), (190, .putstatic 788, 193), (193, .aload 0, 194), (194, .iconst 96, 196), (196, .newarray .int, 198), (198, .putstatic 789, 201), (201, .aload 0, 202), (202, .iconst 4, 203), (203, .newarray .int, 205), (205, .putstatic 790, 208), (208, .aload 0, 209), (209, .iconst 12, 211), (211, .newarray .int, 213), (213, .putstatic 791, 216), (216, .aload 0, 217), (217, .iconst 12, 219), (219, .newarray .int, 221), (221, .putstatic 792, 224), (224, .aload 0, 225), (225, .iconst 3, 226), (226, .newarray .int, 228), (228, .putstatic 793, 231), (231, .aload 0, 232), (232, .iconst 3, 233), (233, .newarray .int, 235), (235, .putstatic 794, 238), (238, .aload 0, 239), (239, .iconst 3, 240), (240, .newarray .boolean, 242), (242, .putstatic 795, 245), (245, .aload 0, 246), (246, .iconst 12, 248), (248, .newarray .boolean, 250), (250, .putstatic 796, 253), (253, .aload 0, 254), (254, .iconst 16, 256), (256, .newarray .boolean, 258), (258, .putstatic 797, 261), (261, .aload 0, 262), (262, .iconst 12, 264), (264, .newarray .boolean, 266), (266, .putstatic 798, 269), (269, .aload 0, 270), (270, .iconst 8, 272), (272, .newarray .int, 274), (274, .putstatic 799, 277), (277, .aload 0, 278), (278, .iconst 6, 280), (280, .newarray .int, 282), (282, .putstatic 800, 285), (285, .aload 0, 286), (286, .iconst 6, 288), (288, .newarray .int, 290), (290, .putstatic 801, 293), (293, .aload 0, 294), (294, .iconst 4, 295), (295, .newarray .int, 297), (297, .dup, 298), (298, .iconst 0, 299), (299, .iconst (-1), 300), (300, .iastore, 301), (301, .dup, 302), (302, .iconst 1, 303), (303, .iconst (-1), 304), (304, .iastore, 305), (305, .dup, 306), (306, .iconst 2, 307), (307, .iconst (-1), 308), (308, .iastore, 309), (309, .dup, 310), (310, .iconst 3, 311), (311, .iconst (-1), 312), (312, .iastore, 313), (313, .putstatic 803, 316), (316, .aload 0, 317), (317, .iconst 4, 318), (318, .newarray .int, 320), (320, .putstatic 804, 323), (323, .aload 0, 324), (324, .iconst 96, 326), (326, .newarray .int, 328), (328, .putstatic 805, 331), (331, .aload 0, 332), (332, .iconst 5, 333), (333, .newarray .int, 335), (335, .putstatic 806, 338), (338, .aload 0, 339), (339, .iconst 5, 340), (340, .newarray .int, 342), (342, .putstatic 807, 345), (345, .aload 0, 346), (346, .iconst 120, 348), (348, .newarray .int, 350), (350, .putstatic 808, 353), (353, .aload 0, 354), (354, .iconst 24, 356), (356, .newarray .int, 358), (358, .putstatic 809, 361), (361, .aload 0, 362), (362, .iconst 60, 364), (364, .newarray .int, 366), (366, .putstatic 810, 369), (369, .aload 0, 370), (370, .getfield 768, 373), (373, .iconst 0, 374), (374, .iconst 18, 376), (376, .iastore, 377), (377, .aload 0, 378), (378, .getfield 768, 381), (381, .iconst 2, 382), (382, .iconst 7, 384), (384, .iastore, 385), (385, .return_, 386)]
set_option maxRecDepth 20000 in
def kp_X12_init : List (Instr × Nat) := [(.aload_n 0, 0), (.invokespecial 1, 1191), (.aload_n 0, 0), (.sipush 1561, 0), (.newarray .int, 0), (.putfield 9, 1192), (.aload_n 0, 0), (.sipush 1561, 0), (.newarray .int, 0), (.putfield 13, 1193), (.aload_n 0, 0), (.sipush 1561, 0), (.newarray .int, 0), (.putfield 16, 1194), (.aload_n 0, 0), (.bipush 16, 0), (.newarray .boolean, 0), (.putfield 19, 1196), (.aload_n 0, 0), (.bipush 96, 0), (.newarray .int, 0), (.putfield 23, 1197), (.aload_n 0, 0), (.bipush 15, 0), (.newarray .char, 0), (.dup, 0), (.iconst 0, 0), (.bipush 100, 0), (.castore, 0), (.dup, 0), (.iconst 1, 0), (.bipush 105, 0), (.castore, 0), (.dup, 0), (.iconst 2, 0), (.bipush 109, 0), (.castore, 0), (.dup, 0), (.iconst 3, 0), (.bipush 108, 0), (.castore, 0), (.dup, 0), (.iconst 4, 0), (.bipush 105, 0), (.castore, 0), (.dup, 0), (.iconst 5, 0), (.bipush 102, 0), (.castore, 0), (.dup, 0), (.bipush 6, 0), (.bipush 101, 0), (.castore, 0), (.dup, 0), (.bipush 7, 0), (.bipush 112, 0), (.castore, 0), (.dup, 0), (.bipush 8, 0), (.bipush 114, 0), (.castore, 0), (.dup, 0), (.bipush 9, 0), (.bipush 105, 0), (.castore, 0), (.dup, 0), (.bipush 10, 0), (.bipush 99, 0), (.castore, 0), (.dup, 0), (.bipush 11, 0), (.bipush 101, 0), (.castore, 0), (.dup, 0), (.bipush 12, 0), (.bipush 108, 0), (.castore, 0), (.dup, 0), (.bipush 13, 0), (.bipush 97, 0), (.castore, 0), (.dup, 0), (.bipush 14, 0), (.bipush 119, 0), (.castore, 0), (.putfield 26, 1205), (.aload_n 0, 0), (.iconst 5, 0), (.newarray .int, 0), (.dup, 0), (.iconst 0, 0), (.iconst 0, 0), (.iastore, 0), (.dup, 0), (.iconst 1, 0), (.iconst 3, 0), (.iastore, 0), (.dup, 0), (.iconst 2, 0), (.bipush 7, 0), (.iastore, 0), (.dup, 0), (.iconst 3, 0), (.bipush 12, 0), (.iastore, 0), (.dup, 0), (.iconst 4, 0), (.bipush 15, 0), (.iastore, 0), (.putfield 30, 1206), (.aload_n 0, 0), (.bipush 96, 0), (.newarray .int, 0), (.putfield 33, 1207), (.aload_n 0, 0), (.bipush 96, 0), (.newarray .int, 0), (.putfield 36, 1210), (.aload_n 0, 0), (.bipush 10, 0), (.newarray .boolean, 0), (.putfield 39, 1212), (.aload_n 0, 0), (.bipush 96, 0), (.newarray .int, 0), (.putfield 42, 1213), (.aload_n 0, 0), (.iconst 4, 0), (.newarray .int, 0), (.putfield 45, 1214), (.aload_n 0, 0), (.bipush 12, 0), (.newarray .int, 0), (.putfield 48, 1215), (.aload_n 0, 0), (.bipush 12, 0), (.newarray .int, 0), (.putfield 51, 1216), (.aload_n 0, 0), (.iconst 3, 0), (.newarray .int, 0), (.putfield 54, 1217), (.aload_n 0, 0), (.iconst 3, 0), (.newarray .int, 0), (.putfield 57, 1218), (.aload_n 0, 0), (.iconst 3, 0), (.newarray .boolean, 0), (.putfield 60, 1219), (.aload_n 0, 0), (.bipush 12, 0), (.newarray .boolean, 0), (.putfield 63, 1220), (.aload_n 0, 0), (.bipush 16, 0), (.newarray .boolean, 0), (.putfield 66, 1221), (.aload_n 0, 0), (.bipush 12, 0), (.newarray .boolean, 0), (.putfield 69, 1222), (.aload_n 0, 0), (.bipush 8, 0), (.newarray .int, 0), (.putfield 72, 1223), (.aload_n 0, 0), (.bipush 6, 0), (.newarray .int, 0), (.putfield 75, 1224), (.aload_n 0, 0), (.bipush 6, 0), (.newarray .int, 0), (.putfield 78, 1225), (.aload_n 0, 0), (.iconst 4, 0), (.newarray .int, 0), (.dup, 0), (.iconst 0, 0), (.iconst (-1), 0), (.iastore, 0), (.dup, 0), (.iconst 1, 0), (.iconst (-1), 0), (.iastore, 0), (.dup, 0), (.iconst 2, 0), (.iconst (-1), 0), (.iastore, 0), (.dup, 0), (.iconst 3, 0), (.iconst (-1), 0), (.iastore, 0), (.putfield 81, 1227), (.aload_n 0, 0), (.iconst 4, 0), (.newarray .int, 0), (.putfield 84, 1228), (.aload_n 0, 0), (.bipush 96, 0), (.newarray .int, 0), (.putfield 87, 1229), (.aload_n 0, 0), (.iconst 5, 0), (.newarray .int, 0), (.putfield 90, 1230), (.aload_n 0, 0), (.iconst 5, 0), (.newarray .int, 0), (.putfield 93, 1231), (.aload_n 0, 0), (.bipush 120, 0), (.newarray .int, 0), (.putfield 96, 1232), (.aload_n 0, 0), (.bipush 24, 0), (.newarray .int, 0), (.putfield 99, 1233), (.aload_n 0, 0), (.bipush 60, 0), (.newarray .int, 0), (.putfield 102, 1234), (.aload_n 0, 0), (.getfield 9, 1192), (.iconst 0, 0), (.bipush 18, 0), (.iastore, 0), (.aload_n 0, 0), (.getfield 9, 1192), (.iconst 2, 0), (.bipush 7, 0), (.iastore, 0), (.return_, 0)]
set_option maxRecDepth 20000 in
def kc_X12_in : am_C := [(0, .iload 0, 1), (1, .iload 1, 2), (2, .if_icmp .lt 14, 5), (5, .iload 0, 6), (6, .iload 2, 7), (7, .if_icmp .gt 14, 10), (10, .iconst 1, 11), (11, .goto 15, 14), (14, .iconst 0, 15), (15, .freturn, 16)]
set_option maxRecDepth 20000 in
def kp_X12_in : List (Instr × Nat) := [(.iload_n 0, 0), (.iload_n 1, 0), (.if_icmp .lt 12, 0), (.iload_n 0, 0), (.iload_n 2, 0), (.if_icmp .gt 7, 0), (.iconst 1, 0), (.goto 4, 0), (.iconst 0, 0), (.ireturn, 0)]
set_option maxRecDepth 20000 in
def kc_X12_within : am_C := [(0, .iload 0, 1), (1, .iload 1, 2), (2, .if_icmp .ge 9, 5), (5, .iload 1, 6), (6, .goto 19, 9), (9, .iload 0, 10), (10, .iload 2, 11), (11, .if_icmp .le 18, 14), (14, .iload 2, 15), (15, .goto 19, 18), (18, .iload 0, 19), (19, .ireturn, 20)]
set_option maxRecDepth 20000 in
def kp_X12_within : List (Instr × Nat) := [(.iload_n 0, 0), (.iload_n 1, 0), (.if_icmp .ge 7, 0), (.iload_n 1, 0), (.goto 13, 0), (.iload_n 0, 0), (.iload_n 2, 0), (.if_icmp .le 7, 0), (.iload_n 2, 0), (.goto 4, 0), (.iload_n 0, 0), (.ireturn, 0)]
set_option maxRecDepth 20000 in
def kc_X12_copyAll : am_C := [(0, .iconst 0, 1), (1, .istore 2, 2), (2, .iload 2, 3), (3, .iconst 1561, 6), (6, .if_icmp .ge 21, 9), (9, .aload 1, 10), (10, .iload 2, 11), (11, .aload 0, 12), (12, .iload 2, 13), (13, .iaload, 14), (14, .iastore, 15), (15, .iinc 2 1, 18), (18, .goto 2, 21), (21, .return_, 22)]
set_option maxRecDepth 20000 in
def kp_X12_copyAll : List (Instr × Nat) := [(.iconst 0, 0), (.istore_n 2, 0), (.iload_n 2, 0), (.sipush 1561, 0), (.if_icmp .ge 15, 0), (.aload_n 1, 0), (.iload_n 2, 0), (.aload_n 0, 0), (.iload_n 2, 0), (.iaload, 0), (.iastore, 0), (.iinc 2 1, 0), (.goto (-16), 0), (.return_, 0)]
set_option maxRecDepth 20000 in
def kc_X12_isCab : am_C := [(0, .iload 1, 1), (1, .iconst 0, 2), (2, .aload 0, 3), (3, .getfield 768, 6), (6, .iconst 3, 7), (7, .iaload, 8), (8, .iconst 1, 9), (9, .isub, 10), (10, .invokestatic 143, 13), (13, .freturn, 14)]
set_option maxRecDepth 20000 in
def kp_X12_isCab : List (Instr × Nat) := [(.iload_n 1, 0), (.iconst 0, 0), (.aload_n 0, 0), (.getfield 9, 1192), (.iconst 3, 0), (.iaload, 0), (.iconst 1, 0), (.isub, 0), (.invokestatic 105, 1343), (.ireturn, 0)]
set_option maxRecDepth 20000 in
def kc_X12_isJoint : am_C := [(0, .iload 1, 1), (1, .iconst 0, 2), (2, .aload 0, 3), (3, .getfield 768, 6), (6, .iconst 4, 7), (7, .iaload, 8), (8, .iconst 1, 9), (9, .isub, 10), (10, .invokestatic 143, 13), (13, .freturn, 14)]
set_option maxRecDepth 20000 in
def kp_X12_isJoint : List (Instr × Nat) := [(.iload_n 1, 0), (.iconst 0, 0), (.aload_n 0, 0), (.getfield 9, 1192), (.iconst 4, 0), (.iaload, 0), (.iconst 1, 0), (.isub, 0), (.invokestatic 105, 1343), (.ireturn, 0)]
set_option maxRecDepth 20000 in
def kc_X12_isLamp : am_C := [(0, .iload 1, 1), (1, .iconst 0, 2), (2, .aload 0, 3), (3, .getfield 768, 6), (6, .iconst 5, 7), (7, .iaload, 8), (8, .iconst 1, 9), (9, .isub, 10), (10, .invokestatic 143, 13), (13, .freturn, 14)]
set_option maxRecDepth 20000 in
def kp_X12_isLamp : List (Instr × Nat) := [(.iload_n 1, 0), (.iconst 0, 0), (.aload_n 0, 0), (.getfield 9, 1192), (.iconst 5, 0), (.iaload, 0), (.iconst 1, 0), (.isub, 0), (.invokestatic 105, 1343), (.ireturn, 0)]
set_option maxRecDepth 20000 in
def kc_X12_isPlace : am_C := [(0, .iload 0, 1), (1, .ifCond .lt 26, 4), (4, .iload 0, 5), (5, .iconst 100, 7), (7, .idiv, 8), (8, .iconst 30, 10), (10, .if_icmp .gt 26, 13), (13, .iload 0, 14), (14, .iconst 100, 16), (16, .irem, 17), (17, .iconst 30, 19), (19, .if_icmp .gt 26, 22), (22, .iconst 1, 23), (23, .goto 27, 26), (26, .iconst 0, 27), (27, .freturn, 28)]
set_option maxRecDepth 20000 in
def kp_X12_isPlace : List (Instr × Nat) := [(.iload_n 0, 0), (.ifCond .lt 25, 0), (.iload_n 0, 0), (.bipush 100, 0), (.idiv, 0), (.bipush 30, 0), (.if_icmp .gt 16, 0), (.iload_n 0, 0), (.bipush 100, 0), (.irem, 0), (.bipush 30, 0), (.if_icmp .gt 7, 0), (.iconst 1, 0), (.goto 4, 0), (.iconst 0, 0), (.ireturn, 0)]
set_option maxRecDepth 20000 in
def kc_X12_cab6 : am_C := [(0, .aload 0, 1), (1, .getfield 768, 4), (4, .iconst 23, 6), (6, .iconst 6, 8), (8, .iload 1, 9), (9, .imul, 10), (10, .iadd, 11), (11, .iload 2, 12), (12, .iadd, 13), (13, .iaload, 14), (14, .ireturn, 15)]
set_option maxRecDepth 20000 in
def kp_X12_cab6 : List (Instr × Nat) := [(.aload_n 0, 0), (.getfield 9, 1192), (.bipush 23, 0), (.bipush 6, 0), (.iload_n 1, 0), (.imul, 0), (.iadd, 0), (.iload_n 2, 0), (.iadd, 0), (.iaload, 0), (.ireturn, 0)]
set_option maxRecDepth 20000 in
def kc_X12_joint3 : am_C := [(0, .aload 0, 1), (1, .getfield 768, 4), (4, .iconst 41, 6), (6, .iconst 3, 7), (7, .iload 1, 8), (8, .imul, 9), (9, .iadd, 10), (10, .iload 2, 11), (11, .iadd, 12), (12, .iaload, 13), (13, .ireturn, 14)]
set_option maxRecDepth 20000 in
def kp_X12_joint3 : List (Instr × Nat) := [(.aload_n 0, 0), (.getfield 9, 1192), (.bipush 41, 0), (.iconst 3, 0), (.iload_n 1, 0), (.imul, 0), (.iadd, 0), (.iload_n 2, 0), (.iadd, 0), (.iaload, 0), (.ireturn, 0)]
set_option maxRecDepth 20000 in
def kc_X12_lamp7 : am_C := [(0, .aload 0, 1), (1, .getfield 768, 4), (4, .iconst 77, 6), (6, .iconst 7, 8), (8, .iload 1, 9), (9, .imul, 10), (10, .iadd, 11), (11, .iload 2, 12), (12, .iadd, 13), (13, .iaload, 14), (14, .ireturn, 15)]
set_option maxRecDepth 20000 in
def kp_X12_lamp7 : List (Instr × Nat) := [(.aload_n 0, 0), (.getfield 9, 1192), (.bipush 77, 0), (.bipush 7, 0), (.iload_n 1, 0), (.imul, 0), (.iadd, 0), (.iload_n 2, 0), (.iadd, 0), (.iaload, 0), (.ireturn, 0)]
set_option maxRecDepth 20000 in
def kc_X12_cabinet : am_C := [(0, .iload 1, 1), (1, .invokestatic 149, 4), (4, .ifCond .eq 29, 7), (7, .iload 2, 8), (8, .ifCond .lt 29, 11), (11, .iload 2, 12), (12, .iconst 100, 14), (14, .idiv, 15), (15, .iconst 23, 17), (17, .if_icmp .gt 29, 20), (20, .iload 2, 21), (21, .iconst 100, 23), (23, .irem, 24), (24, .iconst 23, 26), (26, .if_icmp .le 32, 29), (29, .iconst (-1000000001), 31), (31, .ireturn, 32), (32, .aload 0, 33), (33, .getfield 768, 36), (36, .iconst 3, 37), (37, .iaload, 38), (38, .iconst 3, 39), (39, .if_icmp .ne 45, 42), (42, .iconst (-1000000003), 44), (44, .ireturn, 45), (45, .iconst 23, 47), (47, .iconst 6, 49), (49, .aload 0, 50), (50, .getfield 768, 53), (53, .iconst 3, 54), (54, .iaload, 55), (55, .imul, 56), (56, .iadd, 57), (57, .istore 3, 58), (58, .aload 0, 59), (59, .getfield 768, 62), (62, .iload 3, 63), (63, .iload 1, 64), (64, .iastore, 65), (65, .aload 0, 66), (66, .getfield 768, 69), (69, .iload 3, 70), (70, .iconst 1, 71), (71, .iadd, 72), (72, .iload 2, 73), (73, .iconst 100, 75), (75, .idiv, 76), (76, .iastore, 77), (77, .aload 0, 78), (78, .getfield 768, 81), (81, .iload 3, 82), (82, .iconst 2, 83), (83, .iadd, 84), (84, .iload 2, 85), (85, .iconst 100, 87), (87, .irem, 88), (88, .iastore, 89), (89, .aload 0, 90), (90, .getfield 768, 93), (93, .iload 3, 94), (94, .iconst 3, 95), (95, .iadd, 96), (96, .iconst 0, 97), (97, .iastore, 98), (98, .aload 0, 99), (99, .getfield 768, 102), (102, .iload 3, 103), (103, .iconst 4, 104), (104, .iadd, 105), (105, .iconst 0, 106), (106, .iastore, 107), (107, .aload 0, 108), (108, .getfield 768, 111), (111, .iload 3, 112), (112, .iconst 5, 113), (113, .iadd, 114), (114, .iconst 0, 115), (115, .iastore, 116), (116, .aload 0, 117), (117, .getfield 768, 120), (120, .iconst 3, 121), (121, .dup2, 122), (122, .iaload, 123), (123, .iconst 1, 124), (124, .iadd, 125), (125, .iastore, 126), (126, .aload 0, 127), (127, .getfield 768, 130), (130, .iconst 3, 131), (131, .iaload, 132), (132, .iconst 1, 133), (133, .isub, 134), (134, .ireturn, 135)]
set_option maxRecDepth 20000 in
def kp_X12_cabinet : List (Instr × Nat) := [(.iload_n 1, 0), (.invokestatic 109, 1330), (.ifCond .eq 25, 0), (.iload_n 2, 0), (.ifCond .lt 21, 0), (.iload_n 2, 0), (.bipush 100, 0), (.idiv, 0), (.bipush 23, 0), (.if_icmp .gt 12, 0), (.iload_n 2, 0), (.bipush 100, 0), (.irem, 0), (.bipush 23, 0), (.if_icmp .le 6, 0), (.ldc 113, 1333), (.ireturn, 0), (.aload_n 0, 0), (.getfield 9, 1192), (.iconst 3, 0), (.iaload, 0), (.iconst 3, 0), (.if_icmp .ne 6, 0), (.ldc 114, 1334), (.ireturn, 0), (.bipush 23, 0), (.bipush 6, 0), (.aload_n 0, 0), (.getfield 9, 1192), (.iconst 3, 0), (.iaload, 0), (.imul, 0), (.iadd, 0), (.istore_n 3, 0), (.aload_n 0, 0), (.getfield 9, 1192), (.iload_n 3, 0), (.iload_n 1, 0), (.iastore, 0), (.aload_n 0, 0), (.getfield 9, 1192), (.iload_n 3, 0), (.iconst 1, 0), (.iadd, 0), (.iload_n 2, 0), (.bipush 100, 0), (.idiv, 0), (.iastore, 0), (.aload_n 0, 0), (.getfield 9, 1192), (.iload_n 3, 0), (.iconst 2, 0), (.iadd, 0), (.iload_n 2, 0), (.bipush 100, 0), (.irem, 0), (.iastore, 0), (.aload_n 0, 0), (.getfield 9, 1192), (.iload_n 3, 0), (.iconst 3, 0), (.iadd, 0), (.iconst 0, 0), (.iastore, 0), (.aload_n 0, 0), (.getfield 9, 1192), (.iload_n 3, 0), (.iconst 4, 0), (.iadd, 0), (.iconst 0, 0), (.iastore, 0), (.aload_n 0, 0), (.getfield 9, 1192), (.iload_n 3, 0), (.iconst 5, 0), (.iadd, 0), (.iconst 0, 0), (.iastore, 0), (.aload_n 0, 0), (.getfield 9, 1192), (.iconst 3, 0), (.dup2, 0), (.iaload, 0), (.iconst 1, 0), (.iadd, 0), (.iastore, 0), (.aload_n 0, 0), (.getfield 9, 1192), (.iconst 3, 0), (.iaload, 0), (.iconst 1, 0), (.isub, 0), (.ireturn, 0)]
set_option maxRecDepth 20000 in
def kc_X12_isNight : am_C := [(0, .aload 0, 1), (1, .getfield 768, 4), (4, .iconst 0, 5), (5, .iaload, 6), (6, .aload 0, 7), (7, .iload 1, 8), (8, .iconst 3, 9), (9, .invokevirtual 150, 12), (12, .isub, 13), (13, .iconst 24, 15), (15, .iadd, 16), (16, .iconst 24, 18), (18, .irem, 19), (19, .istore 2, 20), (20, .aload 0, 21), (21, .iload 1, 22), (22, .iconst 1, 23), (23, .invokevirtual 150, 26), (26, .istore 3, 27), (27, .aload 0, 28), (28, .iload 1, 29), (29, .iconst 2, 30), (30, .invokevirtual 150, 33), (33, .istore 4, 35), (35, .iload 3, 36), (36, .iload 4, 38), (38, .if_icmp .ge 60, 41), (41, .iload 2, 42), (42, .iload 3, 43), (43, .if_icmp .lt 56, 46), (46, .iload 2, 47), (47, .iload 4, 49), (49, .if_icmp .ge 56, 52), (52, .iconst 1, 53), (53, .goto 82, 56), (56, .iconst 0, 57), (57, .goto 82, 60), (60, .iload 3, 61), (61, .iload 4, 63), (63, .if_icmp .le 81, 66), (66, .iload 2, 67), (67, .iload 3, 68), (68, .if_icmp .ge 77, 71), (71, .iload 2, 72), (72, .iload 4, 74), (74, .if_icmp .ge 81, 77), (77, .iconst 1, 78), (78, .goto 82, 81), (81, .iconst 0, 82), (82, .freturn, 83)]
set_option maxRecDepth 20000 in
def kp_X12_isNight : List (Instr × Nat) := [(.aload_n 0, 0), (.getfield 9, 1192), (.iconst 0, 0), (.iaload, 0), (.aload_n 0, 0), (.iload_n 1, 0), (.iconst 3, 0), (.invokevirtual 115, 1350), (.isub, 0), (.bipush 24, 0), (.iadd, 0), (.bipush 24, 0), (.irem, 0), (.istore_n 2, 0), (.aload_n 0, 0), (.iload_n 1, 0), (.iconst 1, 0), (.invokevirtual 115, 1350), (.istore_n 3, 0), (.aload_n 0, 0), (.iload_n 1, 0), (.iconst 2, 0), (.invokevirtual 115, 1350), (.istore 4, 0), (.iload_n 3, 0), (.iload 4, 0), (.if_icmp .ge 22, 0), (.iload_n 2, 0), (.iload_n 3, 0), (.if_icmp .lt 13, 0), (.iload_n 2, 0), (.iload 4, 0), (.if_icmp .ge 7, 0), (.iconst 1, 0), (.goto 29, 0), (.iconst 0, 0), (.goto 25, 0), (.iload_n 3, 0), (.iload 4, 0), (.if_icmp .le 18, 0), (.iload_n 2, 0), (.iload_n 3, 0), (.if_icmp .ge 9, 0), (.iload_n 2, 0), (.iload 4, 0), (.if_icmp .ge 7, 0), (.iconst 1, 0), (.goto 4, 0), (.iconst 0, 0), (.ireturn, 0)]
set_option maxRecDepth 20000 in
def kc_X12_cabOf : am_C := [(0, .iload 1, 1), (1, .istore 2, 2), (2, .aload 0, 3), (3, .iload 2, 4), (4, .iconst 0, 5), (5, .invokevirtual 151, 8), (8, .iconst 100, 10), (10, .if_icmp .ge 23, 13), (13, .aload 0, 14), (14, .iload 2, 15), (15, .iconst 0, 16), (16, .invokevirtual 151, 19), (19, .istore 2, 20), (20, .goto 2, 23), (23, .aload 0, 24), (24, .iload 2, 25), (25, .iconst 0, 26), (26, .invokevirtual 151, 29), (29, .iconst 100, 31), (31, .isub, 32), (32, .ireturn, 33)]
set_option maxRecDepth 20000 in
def kp_X12_cabOf : List (Instr × Nat) := [(.iload_n 1, 0), (.istore_n 2, 0), (.aload_n 0, 0), (.iload_n 2, 0), (.iconst 0, 0), (.invokevirtual 119, 1366), (.bipush 100, 0), (.if_icmp .ge 13, 0), (.aload_n 0, 0), (.iload_n 2, 0), (.iconst 0, 0), (.invokevirtual 119, 1366), (.istore_n 2, 0), (.goto (-18), 0), (.aload_n 0, 0), (.iload_n 2, 0), (.iconst 0, 0), (.invokevirtual 119, 1366), (.bipush 100, 0), (.isub, 0), (.ireturn, 0)]
set_option maxRecDepth 20000 in
def kc_X12_shouldBurn : am_C := [(0, .aload 0, 1), (1, .iload 1, 2), (2, .iconst 0, 3), (3, .invokevirtual 152, 6), (6, .istore 2, 7), (7, .iload 2, 8), (8, .iconst 2, 9), (9, .if_icmp .ne 14, 12), (12, .iconst 1, 13), (13, .freturn, 14), (14, .iload 2, 15), (15, .iconst 4, 16), (16, .if_icmp .ne 43, 19), (19, .aload 0, 20), (20, .getfield 768, 23), (23, .iconst 1, 24), (24, .iaload, 25), (25, .aload 0, 26), (26, .getfield 768, 29), (29, .iconst 2, 30), (30, .iaload, 31), (31, .irem, 32), (32, .ifCond .ne 39, 35), (35, .iconst 1, 36), (36, .goto 57, 39), (39, .iconst 0, 40), (40, .goto 57, 43), (43, .aload 0, 44), (44, .aload 0, 45), (45, .aload 0, 46), (46, .iload 1, 47), (47, .iconst 1, 48), (48, .invokevirtual 152, 51), (51, .invokevirtual 155, 54), (54, .invokevirtual 154, 57), (57, .freturn, 58)]
set_option maxRecDepth 20000 in
def kp_X12_shouldBurn : List (Instr × Nat) := [(.aload_n 0, 0), (.iload_n 1, 0), (.iconst 0, 0), (.invokevirtual 122, 1358), (.istore_n 2, 0), (.iload_n 2, 0), (.iconst 2, 0), (.if_icmp .ne 5, 0), (.iconst 1, 0), (.ireturn, 0), (.iload_n 2, 0), (.iconst 4, 0), (.if_icmp .ne 27, 0), (.aload_n 0, 0), (.getfield 9, 1192), (.iconst 1, 0), (.iaload, 0), (.aload_n 0, 0), (.getfield 9, 1192), (.iconst 2, 0), (.iaload, 0), (.irem, 0), (.ifCond .ne 7, 0), (.iconst 1, 0), (.goto 21, 0), (.iconst 0, 0), (.goto 17, 0), (.aload_n 0, 0), (.aload_n 0, 0), (.aload_n 0, 0), (.iload_n 1, 0), (.iconst 1, 0), (.invokevirtual 122, 1358), (.invokevirtual 125, 1362), (.invokevirtual 129, 1346), (.ireturn, 0)]
set_option maxRecDepth 20000 in
def kc_X12_isFed : am_C := [(0, .aload 0, 1), (1, .iload 1, 2), (2, .iconst 5, 3), (3, .invokevirtual 152, 6), (6, .iconst 1, 7), (7, .if_icmp .ne 12, 10), (10, .iconst 0, 11), (11, .freturn, 12), (12, .aload 0, 13), (13, .iload 1, 14), (14, .iconst 1, 15), (15, .invokevirtual 152, 18), (18, .istore 2, 19), (19, .iload 2, 20), (20, .iconst 100, 22), (22, .if_icmp .ge 47, 25), (25, .aload 0, 26), (26, .iload 2, 27), (27, .iconst 2, 28), (28, .invokevirtual 151, 31), (31, .iconst 1, 32), (32, .if_icmp .ne 37, 35), (35, .iconst 0, 36), (36, .freturn, 37), (37, .aload 0, 38), (38, .iload 2, 39), (39, .iconst 0, 40), (40, .invokevirtual 151, 43), (43, .istore 2, 44), (44, .goto 19, 47), (47, .aload 0, 48), (48, .iload 2, 49), (49, .iconst 100, 51), (51, .isub, 52), (52, .iconst 4, 53), (53, .invokevirtual 150, 56), (56, .ifCond .ne 63, 59), (59, .iconst 1, 60), (60, .goto 64, 63), (63, .iconst 0, 64), (64, .freturn, 65)]
set_option maxRecDepth 20000 in
def kp_X12_isFed : List (Instr × Nat) := [(.aload_n 0, 0), (.iload_n 1, 0), (.iconst 5, 0), (.invokevirtual 122, 1358), (.iconst 1, 0), (.if_icmp .ne 5, 0), (.iconst 0, 0), (.ireturn, 0), (.aload_n 0, 0), (.iload_n 1, 0), (.iconst 1, 0), (.invokevirtual 122, 1358), (.istore_n 2, 0), (.iload_n 2, 0), (.bipush 100, 0), (.if_icmp .ge 25, 0), (.aload_n 0, 0), (.iload_n 2, 0), (.iconst 2, 0), (.invokevirtual 119, 1366), (.iconst 1, 0), (.if_icmp .ne 5, 0), (.iconst 0, 0), (.ireturn, 0), (.aload_n 0, 0), (.iload_n 2, 0), (.iconst 0, 0), (.invokevirtual 119, 1366), (.istore_n 2, 0), (.goto (-25), 0), (.aload_n 0, 0), (.iload_n 2, 0), (.bipush 100, 0), (.isub, 0), (.iconst 4, 0), (.invokevirtual 115, 1350), (.ifCond .ne 7, 0), (.iconst 1, 0), (.goto 4, 0), (.iconst 0, 0), (.ireturn, 0)]
set_option maxRecDepth 20000 in
def kc_X12_burns : am_C := [(0, .aload 0, 1), (1, .iload 1, 2), (2, .invokevirtual 156, 5), (5, .ifCond .eq 20, 8), (8, .aload 0, 9), (9, .iload 1, 10), (10, .invokevirtual 157, 13), (13, .ifCond .eq 20, 16), (16, .iconst 1, 17), (17, .goto 21, 20), (20, .iconst 0, 21), (21, .freturn, 22)]
set_option maxRecDepth 20000 in
def kp_X12_burns : List (Instr × Nat) := [(.aload_n 0, 0), (.iload_n 1, 0), (.invokevirtual 132, 1370), (.ifCond .eq 15, 0), (.aload_n 0, 0), (.iload_n 1, 0), (.invokevirtual 135, 1374), (.ifCond .eq 7, 0), (.iconst 1, 0), (.goto 4, 0), (.iconst 0, 0), (.ireturn, 0)]
set_option maxRecDepth 20000 in
def kc_X12_dimBy : am_C := [(0, .aload 0, 1), (1, .iconst 0, 2), (2, .invokevirtual 198, 5), (5, .istore 2, 6), (6, .aload 0, 7), (7, .getfield 790, 10), (10, .iconst 0, 11), (11, .aload 0, 12), (12, .getfield 768, 15), (15, .iconst 0, 16), (16, .iaload, 17), (17, .iastore, 18), (18, .aload 0, 19), (19, .getfield 790, 22), (22, .iconst 1, 23), (23, .aload 0, 24), (24, .getfield 768, 27), (27, .iconst 1, 28), (28, .iaload, 29), (29, .iastore, 30), (30, .aload 0, 31), (31, .getfield 790, 34), (34, .iconst 2, 35), (35, .iload 1, 36), (36, .iastore, 37), (37, .iload 2, 38), (38, .ifCond .ge 61, 41), (41, .aload 0, 42), (42, .getfield 768, 45), (45, .iconst 0, 46), (46, .iaload, 47), (47, .iconst 5, 48), (48, .if_icmp .ge 56, 51), (51, .iconst 50, 53), (53, .goto 72, 56), (56, .iconst 100, 58), (58, .goto 72, 61), (61, .aload 0, 62), (62, .iload 2, 63), (63, .invokevirtual 201, 66), (66, .iconst 0, 67), (67, .iconst 100, 69), (69, .invokestatic 144, 72), (72, .ireturn, 73)]
set_option maxRecDepth 20000 in
def kp_X12_dimBy : List (Instr × Nat) := [(.aload_n 0, 0), (.iconst 0, 0), (.invokevirtual 138, 1386), (.istore_n 2, 0), (.aload_n 0, 0), (.getfield 45, 1214), (.iconst 0, 0), (.aload_n 0, 0), (.getfield 9, 1192), (.iconst 0, 0), (.iaload, 0), (.iastore, 0), (.aload_n 0, 0), (.getfield 45, 1214), (.iconst 1, 0), (.aload_n 0, 0), (.getfield 9, 1192), (.iconst 1, 0), (.iaload, 0), (.iastore, 0), (.aload_n 0, 0), (.getfield 45, 1214), (.iconst 2, 0), (.iload_n 1, 0), (.iastore, 0), (.iload_n 2, 0), (.ifCond .ge 23, 0), (.aload_n 0, 0), (.getfield 9, 1192), (.iconst 0, 0), (.iaload, 0), (.iconst 5, 0), (.if_icmp .ge 8, 0), (.bipush 50, 0), (.goto 19, 0), (.bipush 100, 0), (.goto 14, 0), (.aload_n 0, 0), (.iload_n 2, 0), (.invokevirtual 141, 1390), (.iconst 0, 0), (.bipush 100, 0), (.invokestatic 144, 1397), (.ireturn, 0)]
set_option maxRecDepth 20000 in
def kc_X12_draws : am_C := [(0, .aload 0, 1), (1, .iload 1, 2), (2, .iconst 2, 3), (3, .invokevirtual 152, 6), (6, .istore 2, 7), (7, .aload 0, 8), (8, .iload 1, 9), (9, .iconst 0, 10), (10, .invokevirtual 152, 13), (13, .tableswitch 109 1 5 #[48, 64, 68, 90, 96], 48), (48, .iload 2, 49), (49, .aload 0, 50), (50, .aload 0, 51), (51, .iload 1, 52), (52, .iconst 3, 53), (53, .invokevirtual 152, 56), (56, .invokevirtual 159, 59), (59, .imul, 60), (60, .iconst 100, 62), (62, .idiv, 63), (63, .ireturn, 64), (64, .iload 2, 65), (65, .iconst 2, 66), (66, .idiv, 67), (67, .ireturn, 68), (68, .iload 2, 69), (69, .aload 0, 70), (70, .aload 0, 71), (71, .iload 1, 72), (72, .iconst 3, 73), (73, .invokevirtual 152, 76), (76, .invokevirtual 159, 79), (79, .imul, 80), (80, .iconst 100, 82), (82, .idiv, 83), (83, .istore 3, 84), (84, .iload 3, 85), (85, .iload 3, 86), (86, .iconst 3, 87), (87, .idiv, 88), (88, .isub, 89), (89, .ireturn, 90), (90, .iconst 3, 91), (91, .iload 2, 92), (92, .iconst 2, 93), (93, .idiv, 94), (94, .imul, 95), (95, .ireturn, 96), (96, .iload 2, 97), (97, .aload 0, 98), (98, .iload 1, 99), (99, .iconst 4, 100), (100, .invokevirtual 152, 103), (103, .iconst 1000, 106), (106, .idiv, 107), (107, .iadd, 108), (108, .ireturn, 109), (109, .iload 2, 110), (110, .ireturn, 111)]
set_option maxRecDepth 20000 in
def kp_X12_draws : List (Instr × Nat) := [(.aload_n 0, 0), (.iload_n 1, 0), (.iconst 2, 0), (.invokevirtual 122, 1358), (.istore_n 2, 0), (.aload_n 0, 0), (.iload_n 1, 0), (.iconst 0, 0), (.invokevirtual 122, 1358), (.tableswitch 96 1 5 #[35, 51, 55, 77, 83], 0), (.iload_n 2, 0), (.aload_n 0, 0), (.aload_n 0, 0), (.iload_n 1, 0), (.iconst 3, 0), (.invokevirtual 122, 1358), (.invokevirtual 148, 1382), (.imul, 0), (.bipush 100, 0), (.idiv, 0), (.ireturn, 0), (.iload_n 2, 0), (.iconst 2, 0), (.idiv, 0), (.ireturn, 0), (.iload_n 2, 0), (.aload_n 0, 0), (.aload_n 0, 0), (.iload_n 1, 0), (.iconst 3, 0), (.invokevirtual 122, 1358), (.invokevirtual 148, 1382), (.imul, 0), (.bipush 100, 0), (.idiv, 0), (.istore_n 3, 0), (.iload_n 3, 0), (.iload_n 3, 0), (.iconst 3, 0), (.idiv, 0), (.isub, 0), (.ireturn, 0), (.iconst 3, 0), (.iload_n 2, 0), (.iconst 2, 0), (.idiv, 0), (.imul, 0), (.ireturn, 0), (.iload_n 2, 0), (.aload_n 0, 0), (.iload_n 1, 0), (.iconst 4, 0), (.invokevirtual 122, 1358), (.sipush 1000, 0), (.idiv, 0), (.iadd, 0), (.ireturn, 0), (.iload_n 2, 0), (.ireturn, 0)]
set_option maxRecDepth 20000 in
def kc_X12_wearBy : am_C := [(0, .iload 0, 1), (1, .iconst 4, 2), (2, .if_icmp .lt 9, 5), (5, .iconst 2, 6), (6, .goto 10, 9), (9, .iconst 1, 10), (10, .ireturn, 11)]
set_option maxRecDepth 20000 in
def kp_X12_wearBy : List (Instr × Nat) := [(.iload_n 0, 0), (.iconst 4, 0), (.if_icmp .lt 7, 0), (.iconst 2, 0), (.goto 4, 0), (.iconst 1, 0), (.ireturn, 0)]
set_option maxRecDepth 20000 in
def kc_X12_lifeOf : am_C := [(0, .aload 0, 1), (1, .iconst 1, 2), (2, .invokevirtual 198, 5), (5, .istore 2, 6), (6, .aload 0, 7), (7, .getfield 790, 10), (10, .iconst 0, 11), (11, .aload 0, 12), (12, .iload 1, 13), (13, .iconst 0, 14), (14, .invokevirtual 152, 17), (17, .iastore, 18), (18, .aload 0, 19), (19, .getfield 790, 22), (22, .iconst 1, 23), (23, .aload 0, 24), (24, .iload 1, 25), (25, .iconst 2, 26), (26, .invokevirtual 152, 29), (29, .iastore, 30), (30, .aload 0, 31), (31, .getfield 790, 34), (34, .iconst 2, 35), (35, .aload 0, 36), (36, .iload 1, 37), (37, .iconst 3, 38), (38, .invokevirtual 152, 41), (41, .iastore, 42), (42, .iload 2, 43), (43, .ifCond .ge 52, 46), (46, .iconst 4000, 49), (49, .goto 64, 52), (52, .aload 0, 53), (53, .iload 2, 54), (54, .invokevirtual 201, 57), (57, .iconst 1, 58), (58, .iconst 30000, 61), (61, .invokestatic 144, 64), (64, .ireturn, 65)]
set_option maxRecDepth 20000 in
def kp_X12_lifeOf : List (Instr × Nat) := [(.aload_n 0, 0), (.iconst 1, 0), (.invokevirtual 138, 1386), (.istore_n 2, 0), (.aload_n 0, 0), (.getfield 45, 1214), (.iconst 0, 0), (.aload_n 0, 0), (.iload_n 1, 0), (.iconst 0, 0), (.invokevirtual 122, 1358), (.iastore, 0), (.aload_n 0, 0), (.getfield 45, 1214), (.iconst 1, 0), (.aload_n 0, 0), (.iload_n 1, 0), (.iconst 2, 0), (.invokevirtual 122, 1358), (.iastore, 0), (.aload_n 0, 0), (.getfield 45, 1214), (.iconst 2, 0), (.aload_n 0, 0), (.iload_n 1, 0), (.iconst 3, 0), (.invokevirtual 122, 1358), (.iastore, 0), (.iload_n 2, 0), (.ifCond .ge 9, 0), (.sipush 4000, 0), (.goto 15, 0), (.aload_n 0, 0), (.iload_n 2, 0), (.invokevirtual 141, 1390), (.iconst 1, 0), (.sipush 30000, 0), (.invokestatic 144, 1397), (.ireturn, 0)]
set_option maxRecDepth 20000 in
def kc_X12_drawnBy : am_C := [(0, .iconst 0, 1), (1, .istore 3, 2), (2, .iconst 0, 3), (3, .istore 4, 5), (5, .iload 4, 7), (7, .aload 0, 8), (8, .getfield 768, 11), (11, .iconst 5, 12), (12, .iaload, 13), (13, .if_icmp .ge 84, 16), (16, .aload 0, 17), (17, .aload 0, 18), (18, .iload 4, 20), (20, .iconst 1, 21), (21, .invokevirtual 152, 24), (24, .invokevirtual 155, 27), (27, .iload 1, 28), (28, .if_icmp .ne 57, 31), (31, .aload 0, 32), (32, .iload 4, 34), (34, .invokevirtual 156, 37), (37, .ifCond .eq 57, 40), (40, .iload 2, 41), (41, .ifCond .eq 53, 44), (44, .aload 0, 45), (45, .iload 4, 47), (47, .invokevirtual 157, 50), (50, .ifCond .eq 57, 53), (53, .iconst 1, 54), (54, .goto 58, 57), (57, .iconst 0, 58), (58, .istore 5, 60), (60, .iload 3, 61), (61, .iload 5, 63), (63, .ifCond .eq 75, 66), (66, .aload 0, 67), (67, .iload 4, 69), (69, .invokevirtual 160, 72), (72, .goto 76, 75), (75, .iconst 0, 76), (76, .iadd, 77), (77, .istore 3, 78), (78, .iinc 4 1, 81), (81, .goto 5, 84), (84, .iload 3, 85), (85, .ireturn, 86)]
set_option maxRecDepth 20000 in
def kp_X12_drawnBy : List (Instr × Nat) := [(.iconst 0, 0), (.istore_n 3, 0), (.iconst 0, 0), (.istore 4, 0), (.iload 4, 0), (.aload_n 0, 0), (.getfield 9, 1192), (.iconst 5, 0), (.iaload, 0), (.if_icmp .ge 71, 0), (.aload_n 0, 0), (.aload_n 0, 0), (.iload 4, 0), (.iconst 1, 0), (.invokevirtual 122, 1358), (.invokevirtual 125, 1362), (.iload_n 1, 0), (.if_icmp .ne 29, 0), (.aload_n 0, 0), (.iload 4, 0), (.invokevirtual 132, 1370), (.ifCond .eq 20, 0), (.iload_n 2, 0), (.ifCond .eq 12, 0), (.aload_n 0, 0), (.iload 4, 0), (.invokevirtual 135, 1374), (.ifCond .eq 7, 0), (.iconst 1, 0), (.goto 4, 0), (.iconst 0, 0), (.istore 5, 0), (.iload_n 3, 0), (.iload 5, 0), (.ifCond .eq 12, 0), (.aload_n 0, 0), (.iload 4, 0), (.invokevirtual 151, 1378), (.goto 4, 0), (.iconst 0, 0), (.iadd, 0), (.istore_n 3, 0), (.iinc 4 1, 0), (.goto (-76), 0), (.iload_n 3, 0), (.ireturn, 0)]
set_option maxRecDepth 20000 in
def kc_X12_cabinetTold : am_C := [(0, .aload 0, 1), (1, .iload 1, 2), (2, .invokevirtual 146, 5), (5, .ifCond .eq 18, 8), (8, .iload 2, 9), (9, .iconst 0, 10), (10, .iconst 8, 12), (12, .invokestatic 143, 15), (15, .ifCond .ne 21, 18), (18, .iconst (-1000000001), 20), (20, .ireturn, 21), (21, .iload 2, 22), (22, .tableswitch 98 4 8 #[56, 70, 77, 84, 91], 56), (56, .aload 0, 57), (57, .iload 1, 58), (58, .invokevirtual 154, 61), (61, .ifCond .eq 68, 64), (64, .iconst 1, 65), (65, .goto 69, 68), (68, .iconst 0, 69), (69, .ireturn, 70), (70, .aload 0, 71), (71, .iload 1, 72), (72, .iconst 4, 73), (73, .invokevirtual 150, 76), (76, .ireturn, 77), (77, .aload 0, 78), (78, .iload 1, 79), (79, .iconst 0, 80), (80, .invokevirtual 163, 83), (83, .ireturn, 84), (84, .aload 0, 85), (85, .iload 1, 86), (86, .iconst 1, 87), (87, .invokevirtual 163, 90), (90, .ireturn, 91), (91, .aload 0, 92), (92, .iload 1, 93), (93, .iconst 5, 94), (94, .invokevirtual 150, 97), (97, .ireturn, 98), (98, .aload 0, 99), (99, .iload 1, 100), (100, .iload 2, 101), (101, .invokevirtual 150, 104), (104, .ireturn, 105)]
set_option maxRecDepth 20000 in
def kp_X12_cabinetTold : List (Instr × Nat) := [(.aload_n 0, 0), (.iload_n 1, 0), (.invokevirtual 154, 1339), (.ifCond .eq 13, 0), (.iload_n 2, 0), (.iconst 0, 0), (.bipush 8, 0), (.invokestatic 105, 1343), (.ifCond .ne 6, 0), (.ldc 113, 1333), (.ireturn, 0), (.iload_n 2, 0), (.tableswitch 76 4 8 #[34, 48, 55, 62, 69], 0), (.aload_n 0, 0), (.iload_n 1, 0), (.invokevirtual 129, 1346), (.ifCond .eq 7, 0), (.iconst 1, 0), (.goto 4, 0), (.iconst 0, 0), (.ireturn, 0), (.aload_n 0, 0), (.iload_n 1, 0), (.iconst 4, 0), (.invokevirtual 115, 1350), (.ireturn, 0), (.aload_n 0, 0), (.iload_n 1, 0), (.iconst 0, 0), (.invokevirtual 157, 1354), (.ireturn, 0), (.aload_n 0, 0), (.iload_n 1, 0), (.iconst 1, 0), (.invokevirtual 157, 1354), (.ireturn, 0), (.aload_n 0, 0), (.iload_n 1, 0), (.iconst 5, 0), (.invokevirtual 115, 1350), (.ireturn, 0), (.aload_n 0, 0), (.iload_n 1, 0), (.iload_n 2, 0), (.invokevirtual 115, 1350), (.ireturn, 0)]
set_option maxRecDepth 20000 in
def kc_X12_shift : am_C := [(0, .aload 0, 1), (1, .iload 1, 2), (2, .invokevirtual 146, 5), (5, .ifCond .eq 18, 8), (8, .iload 2, 9), (9, .iconst (-3), 11), (11, .iconst 3, 12), (12, .invokestatic 143, 15), (15, .ifCond .ne 21, 18), (18, .iconst (-1000000001), 20), (20, .ireturn, 21), (21, .aload 0, 22), (22, .iload 1, 23), (23, .iconst 3, 24), (24, .invokevirtual 150, 27), (27, .istore 3, 28), (28, .aload 0, 29), (29, .getfield 768, 32), (32, .iconst 23, 34), (34, .iconst 6, 36), (36, .iload 1, 37), (37, .imul, 38), (38, .iadd, 39), (39, .iconst 3, 40), (40, .iadd, 41), (41, .iload 2, 42), (42, .iastore, 43), (43, .iload 3, 44), (44, .ireturn, 45)]
set_option maxRecDepth 20000 in
def kp_X12_shift : List (Instr × Nat) := [(.aload_n 0, 0), (.iload_n 1, 0), (.invokevirtual 154, 1339), (.ifCond .eq 13, 0), (.iload_n 2, 0), (.bipush (-3), 0), (.iconst 3, 0), (.invokestatic 105, 1343), (.ifCond .ne 6, 0), (.ldc 113, 1333), (.ireturn, 0), (.aload_n 0, 0), (.iload_n 1, 0), (.iconst 3, 0), (.invokevirtual 115, 1350), (.istore_n 3, 0), (.aload_n 0, 0), (.getfield 9, 1192), (.bipush 23, 0), (.bipush 6, 0), (.iload_n 1, 0), (.imul, 0), (.iadd, 0), (.iconst 3, 0), (.iadd, 0), (.iload_n 2, 0), (.iastore, 0), (.iload_n 3, 0), (.ireturn, 0)]
set_option maxRecDepth 20000 in
def kc_X12_joint : am_C := [(0, .iload 1, 1), (1, .ifCond .lt 30, 4), (4, .aload 0, 5), (5, .iload 1, 6), (6, .invokevirtual 147, 9), (9, .ifCond .ne 23, 12), (12, .aload 0, 13), (13, .iload 1, 14), (14, .iconst 100, 16), (16, .isub, 17), (17, .invokevirtual 146, 20), (20, .ifCond .eq 30, 23), (23, .iload 2, 24), (24, .invokestatic 149, 27), (27, .ifCond .ne 33, 30), (30, .iconst (-1000000001), 32), (32, .ireturn, 33), (33, .aload 0, 34), (34, .getfield 768, 37), (37, .iconst 4, 38), (38, .iaload, 39), (39, .iconst 12, 41), (41, .if_icmp .ne 47, 44), (44, .iconst (-1000000003), 46), (46, .ireturn, 47), (47, .iconst 41, 49), (49, .iconst 3, 50), (50, .aload 0, 51), (51, .getfield 768, 54), (54, .iconst 4, 55), (55, .iaload, 56), (56, .imul, 57), (57, .iadd, 58), (58, .istore 3, 59), (59, .aload 0, 60), (60, .getfield 768, 63), (63, .iload 3, 64), (64, .iload 1, 65), (65, .iastore, 66), (66, .aload 0, 67), (67, .getfield 768, 70), (70, .iload 3, 71), (71, .iconst 1, 72), (72, .iadd, 73), (73, .iload 2, 74), (74, .iastore, 75), (75, .aload 0, 76), (76, .getfield 768, 79), (79, .iload 3, 80), (80, .iconst 2, 81), (81, .iadd, 82), (82, .iconst 0, 83), (83, .iastore, 84), (84, .aload 0, 85), (85, .getfield 768, 88), (88, .iconst 4, 89), (89, .dup2, 90), (90, .iaload, 91), (91, .iconst 1, 92), (92, .iadd, 93), (93, .iastore, 94), (94, .aload 0, 95), (95, .getfield 768, 98), (98, .iconst 4, 99), (99, .iaload, 100), (100, .iconst 1, 101), (101, .isub, 102), (102, .ireturn, 103)]
set_option maxRecDepth 20000 in
def kp_X12_joint : List (Instr × Nat) := [(.iload_n 1, 0), (.ifCond .lt 29, 0), (.aload_n 0, 0), (.iload_n 1, 0), (.invokevirtual 161, 1408), (.ifCond .ne 14, 0), (.aload_n 0, 0), (.iload_n 1, 0), (.bipush 100, 0), (.isub, 0), (.invokevirtual 154, 1339), (.ifCond .eq 10, 0), (.iload_n 2, 0), (.invokestatic 109, 1330), (.ifCond .ne 6, 0), (.ldc 113, 1333), (.ireturn, 0), (.aload_n 0, 0), (.getfield 9, 1192), (.iconst 4, 0), (.iaload, 0), (.bipush 12, 0), (.if_icmp .ne 6, 0), (.ldc 114, 1334), (.ireturn, 0), (.bipush 41, 0), (.iconst 3, 0), (.aload_n 0, 0), (.getfield 9, 1192), (.iconst 4, 0), (.iaload, 0), (.imul, 0), (.iadd, 0), (.istore_n 3, 0), (.aload_n 0, 0), (.getfield 9, 1192), (.iload_n 3, 0), (.iload_n 1, 0), (.iastore, 0), (.aload_n 0, 0), (.getfield 9, 1192), (.iload_n 3, 0), (.iconst 1, 0), (.iadd, 0), (.iload_n 2, 0), (.iastore, 0), (.aload_n 0, 0), (.getfield 9, 1192), (.iload_n 3, 0), (.iconst 2, 0), (.iadd, 0), (.iconst 0, 0), (.iastore, 0), (.aload_n 0, 0), (.getfield 9, 1192), (.iconst 4, 0), (.dup2, 0), (.iaload, 0), (.iconst 1, 0), (.iadd, 0), (.iastore, 0), (.aload_n 0, 0), (.getfield 9, 1192), (.iconst 4, 0), (.iaload, 0), (.iconst 1, 0), (.isub, 0), (.ireturn, 0)]
set_option maxRecDepth 20000 in
def kc_X12_jointTold : am_C := [(0, .aload 0, 1), (1, .iload 1, 2), (2, .invokevirtual 147, 5), (5, .ifCond .eq 17, 8), (8, .iload 2, 9), (9, .iconst 0, 10), (10, .iconst 4, 11), (11, .invokestatic 143, 14), (14, .ifCond .ne 20, 17), (17, .iconst (-1000000001), 19), (19, .ireturn, 20), (20, .iload 2, 21), (21, .iconst 2, 22), (22, .if_icmp .ge 32, 25), (25, .aload 0, 26), (26, .iload 1, 27), (27, .iload 2, 28), (28, .invokevirtual 151, 31), (31, .ireturn, 32), (32, .iload 2, 33), (33, .iconst 4, 34), (34, .if_icmp .ge 57, 37), (37, .iload 2, 38), (38, .iconst 2, 39), (39, .if_icmp .ne 50, 42), (42, .aload 0, 43), (43, .iload 1, 44), (44, .invokevirtual 155, 47), (47, .goto 56, 50), (50, .aload 0, 51), (51, .iload 1, 52), (52, .iconst 2, 53), (53, .invokevirtual 151, 56), (56, .ireturn, 57), (57, .iconst 0, 58), (58, .istore 3, 59), (59, .iconst 0, 60), (60, .istore 4, 62), (62, .iload 4, 64), (64, .aload 0, 65), (65, .getfield 768, 68), (68, .iconst 5, 69), (69, .iaload, 70), (70, .if_icmp .ge 98, 73), (73, .iload 3, 74), (74, .aload 0, 75), (75, .iload 4, 77), (77, .iconst 1, 78), (78, .invokevirtual 152, 81), (81, .iload 1, 82), (82, .if_icmp .ne 89, 85), (85, .iconst 1, 86), (86, .goto 90, 89), (89, .iconst 0, 90), (90, .iadd, 91), (91, .istore 3, 92), (92, .iinc 4 1, 95), (95, .goto 62, 98), (98, .iload 3, 99), (99, .ireturn, 100)]
set_option maxRecDepth 20000 in
def kp_X12_jointTold : List (Instr × Nat) := [(.aload_n 0, 0), (.iload_n 1, 0), (.invokevirtual 161, 1408), (.ifCond .eq 12, 0), (.iload_n 2, 0), (.iconst 0, 0), (.iconst 4, 0), (.invokestatic 105, 1343), (.ifCond .ne 6, 0), (.ldc 113, 1333), (.ireturn, 0), (.iload_n 2, 0), (.iconst 2, 0), (.if_icmp .ge 10, 0), (.aload_n 0, 0), (.iload_n 1, 0), (.iload_n 2, 0), (.invokevirtual 119, 1366), (.ireturn, 0), (.iload_n 2, 0), (.iconst 4, 0), (.if_icmp .ge 23, 0), (.iload_n 2, 0), (.iconst 2, 0), (.if_icmp .ne 11, 0), (.aload_n 0, 0), (.iload_n 1, 0), (.invokevirtual 125, 1362), (.goto 9, 0), (.aload_n 0, 0), (.iload_n 1, 0), (.iconst 2, 0), (.invokevirtual 119, 1366), (.ireturn, 0), (.iconst 0, 0), (.istore_n 3, 0), (.iconst 0, 0), (.istore 4, 0), (.iload 4, 0), (.aload_n 0, 0), (.getfield 9, 1192), (.iconst 5, 0), (.iaload, 0), (.if_icmp .ge 28, 0), (.iload_n 3, 0), (.aload_n 0, 0), (.iload 4, 0), (.iconst 1, 0), (.invokevirtual 122, 1358), (.iload_n 1, 0), (.if_icmp .ne 7, 0), (.iconst 1, 0), (.goto 4, 0), (.iconst 0, 0), (.iadd, 0), (.istore_n 3, 0), (.iinc 4 1, 0), (.goto (-33), 0), (.iload_n 3, 0), (.ireturn, 0)]
set_option maxRecDepth 20000 in
def kc_X12_lamp : am_C := [(0, .iload 1, 1), (1, .iconst 0, 2), (2, .iconst 5, 3), (3, .invokestatic 143, 6), (6, .ifCond .eq 37, 9), (9, .aload 0, 10), (10, .iload 2, 11), (11, .invokevirtual 147, 14), (14, .ifCond .eq 37, 17), (17, .iload 3, 18), (18, .iconst 10, 20), (20, .iconst 993, 23), (23, .invokestatic 143, 26), (26, .ifCond .eq 37, 29), (29, .iload 3, 30), (30, .iconst 10, 32), (32, .irem, 33), (33, .iconst 3, 34), (34, .if_icmp .le 40, 37), (37, .iconst (-1000000001), 39), (39, .ireturn, 40), (40, .aload 0, 41), (41, .getfield 768, 44), (44, .iconst 5, 45), (45, .iaload, 46), (46, .iconst 16, 48), (48, .if_icmp .ne 54, 51), (51, .iconst (-1000000003), 53), (53, .ireturn, 54), (54, .iconst 77, 56), (56, .iconst 7, 58), (58, .aload 0, 59), (59, .getfield 768, 62), (62, .iconst 5, 63), (63, .iaload, 64), (64, .imul, 65), (65, .iadd, 66), (66, .istore 4, 68), (68, .aload 0, 69), (69, .getfield 768, 72), (72, .iload 4, 74), (74, .iload 1, 75), (75, .iastore, 76), (76, .aload 0, 77), (77, .getfield 768, 80), (80, .iload 4, 82), (82, .iconst 1, 83), (83, .iadd, 84), (84, .iload 2, 85), (85, .iastore, 86), (86, .aload 0, 87), (87, .getfield 768, 90), (90, .iload 4, 92), (92, .iconst 2, 93), (93, .iadd, 94), (94, .iload 3, 95), (95, .iconst 10, 97), (97, .idiv, 98), (98, .iastore, 99), (99, .aload 0, 100), (100, .getfield 768, 103), (103, .iload 4, 105), (105, .iconst 3, 106), (106, .iadd, 107), (107, .iload 3, 108), (108, .iconst 10, 110), (110, .irem, 111), (111, .iastore, 112), (112, .aload 0, 113), (113, .getfield 768, 116), (116, .iload 4, 118), (118, .iconst 4, 119), (119, .iadd, 120), (120, .iconst 0, 121), (121, .iastore, 122), (122, .aload 0, 123), (123, .getfield 768, 126), (126, .iload 4, 128), (128, .iconst 5, 129), (129, .iadd, 130), (130, .iconst 0, 131), (131, .iastore, 132), (132, .aload 0, 133), (133, .getfield 768, 136), (136, .iload 4, 138), (138, .iconst 6, 140), (140, .iadd, 141), (141, .iconst 0, 142), (142, .iastore, 143), (143, .aload 0, 144), (144, .getfield 768, 147), (147, .iconst 5, 148), (148, .dup2, 149), (149, .iaload, 150), (150, .iconst 1, 151), (151, .iadd, 152), (152, .iastore, 153), (153, .aload 0, 154), (154, .getfield 768, 157), (157, .iconst 5, 158), (158, .iaload, 159), (159, .iconst 1, 160), (160, .isub, 161), (161, .ireturn, 162)]
set_option maxRecDepth 20000 in
def kp_X12_lamp : List (Instr × Nat) := [(.iload_n 1, 0), (.iconst 0, 0), (.iconst 5, 0), (.invokestatic 105, 1343), (.ifCond .eq 31, 0), (.aload_n 0, 0), (.iload_n 2, 0), (.invokevirtual 161, 1408), (.ifCond .eq 23, 0), (.iload_n 3, 0), (.bipush 10, 0), (.sipush 993, 0), (.invokestatic 105, 1343), (.ifCond .eq 11, 0), (.iload_n 3, 0), (.bipush 10, 0), (.irem, 0), (.iconst 3, 0), (.if_icmp .le 6, 0), (.ldc 113, 1333), (.ireturn, 0), (.aload_n 0, 0), (.getfield 9, 1192), (.iconst 5, 0), (.iaload, 0), (.bipush 16, 0), (.if_icmp .ne 6, 0), (.ldc 114, 1334), (.ireturn, 0), (.bipush 77, 0), (.bipush 7, 0), (.aload_n 0, 0), (.getfield 9, 1192), (.iconst 5, 0), (.iaload, 0), (.imul, 0), (.iadd, 0), (.istore 4, 0), (.aload_n 0, 0), (.getfield 9, 1192), (.iload 4, 0), (.iload_n 1, 0), (.iastore, 0), (.aload_n 0, 0), (.getfield 9, 1192), (.iload 4, 0), (.iconst 1, 0), (.iadd, 0), (.iload_n 2, 0), (.iastore, 0), (.aload_n 0, 0), (.getfield 9, 1192), (.iload 4, 0), (.iconst 2, 0), (.iadd, 0), (.iload_n 3, 0), (.bipush 10, 0), (.idiv, 0), (.iastore, 0), (.aload_n 0, 0), (.getfield 9, 1192), (.iload 4, 0), (.iconst 3, 0), (.iadd, 0), (.iload_n 3, 0), (.bipush 10, 0), (.irem, 0), (.iastore, 0), (.aload_n 0, 0), (.getfield 9, 1192), (.iload 4, 0), (.iconst 4, 0), (.iadd, 0), (.iconst 0, 0), (.iastore, 0), (.aload_n 0, 0), (.getfield 9, 1192), (.iload 4, 0), (.iconst 5, 0), (.iadd, 0), (.iconst 0, 0), (.iastore, 0), (.aload_n 0, 0), (.getfield 9, 1192), (.iload 4, 0), (.bipush 6, 0), (.iadd, 0), (.iconst 0, 0), (.iastore, 0), (.aload_n 0, 0), (.getfield 9, 1192), (.iconst 5, 0), (.dup2, 0), (.iaload, 0), (.iconst 1, 0), (.iadd, 0), (.iastore, 0), (.aload_n 0, 0), (.getfield 9, 1192), (.iconst 5, 0), (.iaload, 0), (.iconst 1, 0), (.isub, 0), (.ireturn, 0)]
set_option maxRecDepth 20000 in
def kc_X12_told : am_C := [(0, .aload 0, 1), (1, .iload 1, 2), (2, .invokevirtual 148, 5), (5, .ifCond .eq 18, 8), (8, .iload 2, 9), (9, .iconst 0, 10), (10, .iconst 12, 12), (12, .invokestatic 143, 15), (15, .ifCond .ne 21, 18), (18, .iconst (-1000000001), 20), (20, .ireturn, 21), (21, .iload 2, 22), (22, .tableswitch 136 6 12 #[64, 78, 92, 106, 112, 122, 128], 64), (64, .aload 0, 65), (65, .iload 1, 66), (66, .invokevirtual 157, 69), (69, .ifCond .eq 76, 72), (72, .iconst 1, 73), (73, .goto 77, 76), (76, .iconst 0, 77), (77, .ireturn, 78), (78, .aload 0, 79), (79, .iload 1, 80), (80, .invokevirtual 156, 83), (83, .ifCond .eq 90, 86), (86, .iconst 1, 87), (87, .goto 91, 90), (90, .iconst 0, 91), (91, .ireturn, 92), (92, .aload 0, 93), (93, .iload 1, 94), (94, .invokevirtual 158, 97), (97, .ifCond .eq 104, 100), (100, .iconst 1, 101), (101, .goto 105, 104), (104, .iconst 0, 105), (105, .ireturn, 106), (106, .aload 0, 107), (107, .iload 1, 108), (108, .invokevirtual 160, 111), (111, .ireturn, 112), (112, .aload 0, 113), (113, .iload 1, 114), (114, .iconst 0, 115), (115, .invokevirtual 152, 118), (118, .invokestatic 161, 121), (121, .ireturn, 122), (122, .aload 0, 123), (123, .iload 1, 124), (124, .invokevirtual 162, 127), (127, .ireturn, 128), (128, .aload 0, 129), (129, .iload 1, 130), (130, .iconst 6, 132), (132, .invokevirtual 152, 135), (135, .ireturn, 136), (136, .aload 0, 137), (137, .iload 1, 138), (138, .iload 2, 139), (139, .invokevirtual 152, 142), (142, .ireturn, 143)]
set_option maxRecDepth 20000 in
def kp_X12_told : List (Instr × Nat) := [(.aload_n 0, 0), (.iload_n 1, 0), (.invokevirtual 164, 1424), (.ifCond .eq 13, 0), (.iload_n 2, 0), (.iconst 0, 0), (.bipush 12, 0), (.invokestatic 105, 1343), (.ifCond .ne 6, 0), (.ldc 113, 1333), (.ireturn, 0), (.iload_n 2, 0), (.tableswitch 114 6 12 #[42, 56, 70, 84, 90, 100, 106], 0), (.aload_n 0, 0), (.iload_n 1, 0), (.invokevirtual 135, 1374), (.ifCond .eq 7, 0), (.iconst 1, 0), (.goto 4, 0), (.iconst 0, 0), (.ireturn, 0), (.aload_n 0, 0), (.iload_n 1, 0), (.invokevirtual 132, 1370), (.ifCond .eq 7, 0), (.iconst 1, 0), (.goto 4, 0), (.iconst 0, 0), (.ireturn, 0), (.aload_n 0, 0), (.iload_n 1, 0), (.invokevirtual 167, 1428), (.ifCond .eq 7, 0), (.iconst 1, 0), (.goto 4, 0), (.iconst 0, 0), (.ireturn, 0), (.aload_n 0, 0), (.iload_n 1, 0), (.invokevirtual 151, 1378), (.ireturn, 0), (.aload_n 0, 0), (.iload_n 1, 0), (.iconst 0, 0), (.invokevirtual 122, 1358), (.invokestatic 170, 1432), (.ireturn, 0), (.aload_n 0, 0), (.iload_n 1, 0), (.invokevirtual 173, 1435), (.ireturn, 0), (.aload_n 0, 0), (.iload_n 1, 0), (.bipush 6, 0), (.invokevirtual 122, 1358), (.ireturn, 0), (.aload_n 0, 0), (.iload_n 1, 0), (.iload_n 2, 0), (.invokevirtual 122, 1358), (.ireturn, 0)]
set_option maxRecDepth 20000 in
def kc_X12_isUnder : am_C := [(0, .iload 1, 1), (1, .ifCond .eq 29, 4), (4, .iload 0, 5), (5, .iload 1, 6), (6, .if_icmp .eq 29, 9), (9, .iload 1, 10), (10, .iconst 1, 11), (11, .if_icmp .ne 19, 14), (14, .iload 0, 15), (15, .iconst 3, 16), (16, .if_icmp .eq 29, 19), (19, .iload 1, 20), (20, .iconst 2, 21), (21, .if_icmp .ne 33, 24), (24, .iload 0, 25), (25, .iconst 4, 26), (26, .if_icmp .ne 33, 29), (29, .iconst 1, 30), (30, .goto 34, 33), (33, .iconst 0, 34), (34, .freturn, 35)]
set_option maxRecDepth 20000 in
def kp_X12_isUnder : List (Instr × Nat) := [(.iload_n 1, 0), (.ifCond .eq 28, 0), (.iload_n 0, 0), (.iload_n 1, 0), (.if_icmp .eq 23, 0), (.iload_n 1, 0), (.iconst 1, 0), (.if_icmp .ne 8, 0), (.iload_n 0, 0), (.iconst 3, 0), (.if_icmp .eq 13, 0), (.iload_n 1, 0), (.iconst 2, 0), (.if_icmp .ne 12, 0), (.iload_n 0, 0), (.iconst 4, 0), (.if_icmp .ne 7, 0), (.iconst 1, 0), (.goto 4, 0), (.iconst 0, 0), (.ireturn, 0)]
set_option maxRecDepth 20000 in
def kc_X12_as : am_C := [(0, .aload 0, 1), (1, .iload 1, 2), (2, .invokevirtual 148, 5), (5, .ifCond .eq 17, 8), (8, .iload 2, 9), (9, .iconst 0, 10), (10, .iconst 5, 11), (11, .invokestatic 143, 14), (14, .ifCond .ne 20, 17), (17, .iconst (-1000000001), 19), (19, .ireturn, 20), (20, .aload 0, 21), (21, .iload 1, 22), (22, .iconst 0, 23), (23, .invokevirtual 152, 26), (26, .iload 2, 27), (27, .invokestatic 170, 30), (30, .ifCond .eq 42, 33), (33, .aload 0, 34), (34, .iload 1, 35), (35, .iconst 4, 36), (36, .invokevirtual 152, 39), (39, .goto 44, 42), (42, .iconst (-1000000012), 44), (44, .ireturn, 45)]
set_option maxRecDepth 20000 in
def kp_X12_as : List (Instr × Nat) := [(.aload_n 0, 0), (.iload_n 1, 0), (.invokevirtual 164, 1424), (.ifCond .eq 12, 0), (.iload_n 2, 0), (.iconst 0, 0), (.iconst 5, 0), (.invokestatic 105, 1343), (.ifCond .ne 6, 0), (.ldc 113, 1333), (.ireturn, 0), (.aload_n 0, 0), (.iload_n 1, 0), (.iconst 0, 0), (.invokevirtual 122, 1358), (.iload_n 2, 0), (.invokestatic 176, 1443), (.ifCond .eq 12, 0), (.aload_n 0, 0), (.iload_n 1, 0), (.iconst 4, 0), (.invokevirtual 122, 1358), (.goto 5, 0), (.ldc 180, 1446), (.ireturn, 0)]
set_option maxRecDepth 20000 in
def kc_X12_change : am_C := [(0, .aload 0, 1), (1, .iload 1, 2), (2, .invokevirtual 148, 5), (5, .ifCond .eq 17, 8), (8, .iload 2, 9), (9, .iconst 0, 10), (10, .iconst 5, 11), (11, .invokestatic 143, 14), (14, .ifCond .ne 20, 17), (17, .iconst (-1000000001), 19), (19, .ireturn, 20), (20, .iconst 77, 22), (22, .iconst 7, 24), (24, .iload 1, 25), (25, .imul, 26), (26, .iadd, 27), (27, .istore 3, 28), (28, .aload 0, 29), (29, .getfield 768, 32), (32, .iload 3, 33), (33, .iaload, 34), (34, .istore 4, 36), (36, .aload 0, 37), (37, .getfield 768, 40), (40, .iload 3, 41), (41, .iload 2, 42), (42, .iastore, 43), (43, .aload 0, 44), (44, .getfield 768, 47), (47, .iload 3, 48), (48, .iconst 4, 49), (49, .iadd, 50), (50, .iconst 0, 51), (51, .iastore, 52), (52, .aload 0, 53), (53, .getfield 768, 56), (56, .iload 3, 57), (57, .iconst 5, 58), (58, .iadd, 59), (59, .iconst 0, 60), (60, .iastore, 61), (61, .iload 4, 63), (63, .ireturn, 64)]
set_option maxRecDepth 20000 in
def kp_X12_change : List (Instr × Nat) := [(.aload_n 0, 0), (.iload_n 1, 0), (.invokevirtual 164, 1424), (.ifCond .eq 12, 0), (.iload_n 2, 0), (.iconst 0, 0), (.iconst 5, 0), (.invokestatic 105, 1343), (.ifCond .ne 6, 0), (.ldc 113, 1333), (.ireturn, 0), (.bipush 77, 0), (.bipush 7, 0), (.iload_n 1, 0), (.imul, 0), (.iadd, 0), (.istore_n 3, 0), (.aload_n 0, 0), (.getfield 9, 1192), (.iload_n 3, 0), (.iaload, 0), (.istore 4, 0), (.aload_n 0, 0), (.getfield 9, 1192), (.iload_n 3, 0), (.iload_n 2, 0), (.iastore, 0), (.aload_n 0, 0), (.getfield 9, 1192), (.iload_n 3, 0), (.iconst 4, 0), (.iadd, 0), (.iconst 0, 0), (.iastore, 0), (.aload_n 0, 0), (.getfield 9, 1192), (.iload_n 3, 0), (.iconst 5, 0), (.iadd, 0), (.iconst 0, 0), (.iastore, 0), (.iload 4, 0), (.ireturn, 0)]
set_option maxRecDepth 20000 in
def kc_X12_feast : am_C := [(0, .iload 1, 1), (1, .iconst 1, 2), (2, .iconst 99, 4), (4, .invokestatic 143, 7), (7, .ifCond .ne 13, 10), (10, .iconst (-1000000001), 12), (12, .ireturn, 13), (13, .aload 0, 14), (14, .getfield 768, 17), (17, .iconst 2, 18), (18, .iaload, 19), (19, .istore 2, 20), (20, .aload 0, 21), (21, .getfield 768, 24), (24, .iconst 2, 25), (25, .iload 1, 26), (26, .iastore, 27), (27, .iload 2, 28), (28, .ireturn, 29)]
set_option maxRecDepth 20000 in
def kp_X12_feast : List (Instr × Nat) := [(.iload_n 1, 0), (.iconst 1, 0), (.bipush 99, 0), (.invokestatic 105, 1343), (.ifCond .ne 6, 0), (.ldc 113, 1333), (.ireturn, 0), (.aload_n 0, 0), (.getfield 9, 1192), (.iconst 2, 0), (.iaload, 0), (.istore_n 2, 0), (.aload_n 0, 0), (.getfield 9, 1192), (.iconst 2, 0), (.iload_n 1, 0), (.iastore, 0), (.iload_n 2, 0), (.ireturn, 0)]
set_option maxRecDepth 20000 in
def kc_X12_brokenAt : am_C := [(0, .iload 1, 1), (1, .ifCond .ne 26, 4), (4, .aload 0, 5), (5, .iload 2, 6), (6, .invokevirtual 146, 9), (9, .ifCond .eq 24, 12), (12, .iconst 23, 14), (14, .iconst 6, 16), (16, .iload 2, 17), (17, .imul, 18), (18, .iadd, 19), (19, .iconst 4, 20), (20, .iadd, 21), (21, .goto 25, 24), (24, .iconst (-1), 25), (25, .ireturn, 26), (26, .iload 1, 27), (27, .iconst 1, 28), (28, .if_icmp .ne 52, 31), (31, .aload 0, 32), (32, .iload 2, 33), (33, .invokevirtual 147, 36), (36, .ifCond .eq 50, 39), (39, .iconst 41, 41), (41, .iconst 3, 42), (42, .iload 2, 43), (43, .imul, 44), (44, .iadd, 45), (45, .iconst 2, 46), (46, .iadd, 47), (47, .goto 51, 50), (50, .iconst (-1), 51), (51, .ireturn, 52), (52, .iload 1, 53), (53, .iconst 2, 54), (54, .if_icmp .ne 77, 57), (57, .aload 0, 58), (58, .iload 2, 59), (59, .invokevirtual 148, 62), (62, .ifCond .eq 77, 65), (65, .iconst 77, 67), (67, .iconst 7, 69), (69, .iload 2, 70), (70, .imul, 71), (71, .iadd, 72), (72, .iconst 5, 73), (73, .iadd, 74), (74, .goto 78, 77), (77, .iconst (-1), 78), (78, .ireturn, 79)]
set_option maxRecDepth 20000 in
def kp_X12_brokenAt : List (Instr × Nat) := [(.iload_n 1, 0), (.ifCond .ne 25, 0), (.aload_n 0, 0), (.iload_n 2, 0), (.invokevirtual 154, 1339), (.ifCond .eq 15, 0), (.bipush 23, 0), (.bipush 6, 0), (.iload_n 2, 0), (.imul, 0), (.iadd, 0), (.iconst 4, 0), (.iadd, 0), (.goto 4, 0), (.iconst (-1), 0), (.ireturn, 0), (.iload_n 1, 0), (.iconst 1, 0), (.if_icmp .ne 24, 0), (.aload_n 0, 0), (.iload_n 2, 0), (.invokevirtual 161, 1408), (.ifCond .eq 14, 0), (.bipush 41, 0), (.iconst 3, 0), (.iload_n 2, 0), (.imul, 0), (.iadd, 0), (.iconst 2, 0), (.iadd, 0), (.goto 4, 0), (.iconst (-1), 0), (.ireturn, 0), (.iload_n 1, 0), (.iconst 2, 0), (.if_icmp .ne 23, 0), (.aload_n 0, 0), (.iload_n 2, 0), (.invokevirtual 164, 1424), (.ifCond .eq 15, 0), (.bipush 77, 0), (.bipush 7, 0), (.iload_n 2, 0), (.imul, 0), (.iadd, 0), (.iconst 5, 0), (.iadd, 0), (.goto 4, 0), (.iconst (-1), 0), (.ireturn, 0)]
set_option maxRecDepth 20000 in
def kc_X12_breaks : am_C := [(0, .aload 0, 1), (1, .iload 1, 2), (2, .iload 2, 3), (3, .invokevirtual 174, 6), (6, .istore 3, 7), (7, .iload 3, 8), (8, .ifCond .ge 14, 11), (11, .iconst (-1000000001), 13), (13, .ireturn, 14), (14, .aload 0, 15), (15, .getfield 768, 18), (18, .iload 3, 19), (19, .iaload, 20), (20, .istore 4, 22), (22, .aload 0, 23), (23, .getfield 768, 26), (26, .iload 3, 27), (27, .iconst 1, 28), (28, .iastore, 29), (29, .iconst 1, 30), (30, .iload 4, 32), (32, .isub, 33), (33, .ireturn, 34)]
set_option maxRecDepth 20000 in
def kp_X12_breaks : List (Instr × Nat) := [(.aload_n 0, 0), (.iload_n 1, 0), (.iload_n 2, 0), (.invokevirtual 181, 1459), (.istore_n 3, 0), (.iload_n 3, 0), (.ifCond .ge 6, 0), (.ldc 113, 1333), (.ireturn, 0), (.aload_n 0, 0), (.getfield 9, 1192), (.iload_n 3, 0), (.iaload, 0), (.istore 4, 0), (.aload_n 0, 0), (.getfield 9, 1192), (.iload_n 3, 0), (.iconst 1, 0), (.iastore, 0), (.iconst 1, 0), (.iload 4, 0), (.isub, 0), (.ireturn, 0)]
set_option maxRecDepth 20000 in
def kc_X12_mend : am_C := [(0, .aload 0, 1), (1, .iload 1, 2), (2, .iload 2, 3), (3, .invokevirtual 174, 6), (6, .istore 3, 7), (7, .iload 3, 8), (8, .ifCond .ge 14, 11), (11, .iconst (-1000000001), 13), (13, .ireturn, 14), (14, .aload 0, 15), (15, .getfield 768, 18), (18, .iload 3, 19), (19, .iaload, 20), (20, .istore 4, 22), (22, .aload 0, 23), (23, .getfield 768, 26), (26, .iload 3, 27), (27, .iconst 0, 28), (28, .iastore, 29), (29, .iload 4, 31), (31, .ireturn, 32)]
set_option maxRecDepth 20000 in
def kp_X12_mend : List (Instr × Nat) := [(.aload_n 0, 0), (.iload_n 1, 0), (.iload_n 2, 0), (.invokevirtual 181, 1459), (.istore_n 3, 0), (.iload_n 3, 0), (.ifCond .ge 6, 0), (.ldc 113, 1333), (.ireturn, 0), (.aload_n 0, 0), (.getfield 9, 1192), (.iload_n 3, 0), (.iaload, 0), (.istore 4, 0), (.aload_n 0, 0), (.getfield 9, 1192), (.iload_n 3, 0), (.iconst 0, 0), (.iastore, 0), (.iload 4, 0), (.ireturn, 0)]
set_option maxRecDepth 20000 in
def kc_X12_anHour : am_C := [(0, .aload 0, 1), (1, .iconst 2, 2), (2, .invokevirtual 198, 5), (5, .istore 1, 6), (6, .aload 0, 7), (7, .getfield 790, 10), (10, .iconst 0, 11), (11, .aload 0, 12), (12, .getfield 768, 15), (15, .iconst 0, 16), (16, .iaload, 17), (17, .iastore, 18), (18, .aload 0, 19), (19, .getfield 790, 22), (22, .iconst 1, 23), (23, .aload 0, 24), (24, .getfield 768, 27), (27, .iconst 1, 28), (28, .iaload, 29), (29, .iastore, 30), (30, .iload 1, 31), (31, .ifCond .ge 39, 34), (34, .iconst 10, 36), (36, .goto 51, 39), (39, .aload 0, 40), (40, .iload 1, 41), (41, .invokevirtual 201, 44), (44, .iconst 0, 45), (45, .iconst 999, 48), (48, .invokestatic 144, 51), (51, .istore 2, 52), (52, .iconst 0, 53), (53, .istore 3, 54), (54, .iload 3, 55), (55, .aload 0, 56), (56, .getfield 768, 59), (59, .iconst 5, 60), (60, .iaload, 61), (61, .if_icmp .ge 138, 64), (64, .aload 0, 65), (65, .getfield 772, 68), (68, .iload 3, 69), (69, .aload 0, 70), (70, .iload 3, 71), (71, .invokevirtual 158, 74), (74, .bastore, 75), (75, .aload 0, 76), (76, .getfield 772, 79), (79, .iload 3, 80), (80, .baload, 81), (81, .ifCond .eq 132, 84), (84, .iconst 23, 86), (86, .iconst 6, 88), (88, .aload 0, 89), (89, .aload 0, 90), (90, .iload 3, 91), (91, .iconst 1, 92), (92, .invokevirtual 152, 95), (95, .invokevirtual 155, 98), (98, .imul, 99), (99, .iadd, 100), (100, .iconst 5, 101), (101, .iadd, 102), (102, .istore 4, 104), (104, .aload 0, 105), (105, .getfield 768, 108), (108, .iload 4, 110), (110, .aload 0, 111), (111, .getfield 768, 114), (114, .iload 4, 116), (116, .iaload, 117), (117, .aload 0, 118), (118, .iload 3, 119), (119, .invokevirtual 160, 122), (122, .iload 2, 123), (123, .imul, 124), (124, .iadd, 125), (125, .iconst 0, 126), (126, .iconst 99999999, 128), (128, .invokestatic 144, 131), (131, .iastore, 132), (132, .iinc 3 1, 135), (135, .goto 54, 138), (138, .iconst 0, 139), (139, .istore 3, 140), (140, .iload 3, 141), (141, .aload 0, 142), (142, .getfield 768, 145), (145, .iconst 5, 146), (146, .iaload, 147), (147, .if_icmp .ge 241, 150), (150, .iconst 77, 152), (152, .iconst 7, 154), (154, .iload 3, 155), (155, .imul, 156), (156, .iadd, 157), (157, .istore 4, 159), (159, .aload 0, 160), (160, .getfield 772, 163), (163, .iload 3, 164), (164, .baload, 165), (165, .ifCond .eq 235, 168), (168, .aload 0, 169), (169, .getfield 768, 172), (172, .iload 4, 174), (174, .iconst 4, 175), (175, .iadd, 176), (176, .aload 0, 177), (177, .getfield 768, 180), (180, .iload 4, 182), (182, .iconst 4, 183), (183, .iadd, 184), (184, .iaload, 185), (185, .aload 0, 186), (186, .getfield 768, 189), (189, .iload 4, 191), (191, .iaload, 192), (192, .invokestatic 161, 195), (195, .iadd, 196), (196, .iconst 0, 197), (197, .iconst 30000, 200), (200, .invokestatic 144, 203), (203, .iastore, 204), (204, .aload 0, 205), (205, .getfield 768, 208), (208, .iload 4, 210), (210, .iconst 5, 211), (211, .iadd, 212), (212, .aload 0, 213), (213, .getfield 768, 216), (216, .iload 4, 218), (218, .iconst 4, 219), (219, .iadd, 220), (220, .iaload, 221), (221, .aload 0, 222), (222, .iload 3, 223), (223, .invokevirtual 162, 226), (226, .if_icmp .lt 233, 229), (229, .iconst 1, 230), (230, .goto 234, 233), (233, .iconst 0, 234), (234, .iastore, 235), (235, .iinc 3 1, 238), (238, .goto 140, 241), (241, .aload 0, 242), (242, .getfield 768, 245), (245, .iconst 0, 246), (246, .dup2, 247), (247, .iaload, 248), (248, .iconst 1, 249), (249, .iadd, 250), (250, .iastore, 251), (251, .aload 0, 252), (252, .getfield 768, 255), (255, .iconst 0, 256), (256, .iaload, 257), (257, .iconst 24, 259), (259, .if_icmp .ne 279, 262), (262, .aload 0, 263), (263, .getfield 768, 266), (266, .iconst 0, 267), (267, .iconst 0, 268), (268, .iastore, 269), (269, .aload 0, 270), (270, .getfield 768, 273), (273, .iconst 1, 274), (274, .dup2, 275), (275, .iaload, 276), (276, .iconst 1, 277), (277, .iadd, 278), (278, .iastore, 279), (279, .return_, 280)]
set_option maxRecDepth 20000 in
def kp_X12_anHour : List (Instr × Nat) := [(.aload_n 0, 0), (.iconst 2, 0), (.invokevirtual 138, 1386), (.istore_n 1, 0), (.aload_n 0, 0), (.getfield 45, 1214), (.iconst 0, 0), (.aload_n 0, 0), (.getfield 9, 1192), (.iconst 0, 0), (.iaload, 0), (.iastore, 0), (.aload_n 0, 0), (.getfield 45, 1214), (.iconst 1, 0), (.aload_n 0, 0), (.getfield 9, 1192), (.iconst 1, 0), (.iaload, 0), (.iastore, 0), (.iload_n 1, 0), (.ifCond .ge 8, 0), (.bipush 10, 0), (.goto 15, 0), (.aload_n 0, 0), (.iload_n 1, 0), (.invokevirtual 141, 1390), (.iconst 0, 0), (.sipush 999, 0), (.invokestatic 144, 1397), (.istore_n 2, 0), (.iconst 0, 0), (.istore_n 3, 0), (.iload_n 3, 0), (.aload_n 0, 0), (.getfield 9, 1192), (.iconst 5, 0), (.iaload, 0), (.if_icmp .ge 77, 0), (.aload_n 0, 0), (.getfield 19, 1196), (.iload_n 3, 0), (.aload_n 0, 0), (.iload_n 3, 0), (.invokevirtual 167, 1428), (.bastore, 0), (.aload_n 0, 0), (.getfield 19, 1196), (.iload_n 3, 0), (.baload, 0), (.ifCond .eq 51, 0), (.bipush 23, 0), (.bipush 6, 0), (.aload_n 0, 0), (.aload_n 0, 0), (.iload_n 3, 0), (.iconst 1, 0), (.invokevirtual 122, 1358), (.invokevirtual 125, 1362), (.imul, 0), (.iadd, 0), (.iconst 5, 0), (.iadd, 0), (.istore 4, 0), (.aload_n 0, 0), (.getfield 9, 1192), (.iload 4, 0), (.aload_n 0, 0), (.getfield 9, 1192), (.iload 4, 0), (.iaload, 0), (.aload_n 0, 0), (.iload_n 3, 0), (.invokevirtual 151, 1378), (.iload_n 2, 0), (.imul, 0), (.iadd, 0), (.iconst 0, 0), (.ldc 184, 1475), (.invokestatic 144, 1397), (.iastore, 0), (.iinc 3 1, 0), (.goto (-81), 0), (.iconst 0, 0), (.istore_n 3, 0), (.iload_n 3, 0), (.aload_n 0, 0), (.getfield 9, 1192), (.iconst 5, 0), (.iaload, 0), (.if_icmp .ge 94, 0), (.bipush 77, 0), (.bipush 7, 0), (.iload_n 3, 0), (.imul, 0), (.iadd, 0), (.istore 4, 0), (.aload_n 0, 0), (.getfield 19, 1196), (.iload_n 3, 0), (.baload, 0), (.ifCond .eq 70, 0), (.aload_n 0, 0), (.getfield 9, 1192), (.iload 4, 0), (.iconst 4, 0), (.iadd, 0), (.aload_n 0, 0), (.getfield 9, 1192), (.iload 4, 0), (.iconst 4, 0), (.iadd, 0), (.iaload, 0), (.aload_n 0, 0), (.getfield 9, 1192), (.iload 4, 0), (.iaload, 0), (.invokestatic 170, 1432), (.iadd, 0), (.iconst 0, 0), (.sipush 30000, 0), (.invokestatic 144, 1397), (.iastore, 0), (.aload_n 0, 0), (.getfield 9, 1192), (.iload 4, 0), (.iconst 5, 0), (.iadd, 0), (.aload_n 0, 0), (.getfield 9, 1192), (.iload 4, 0), (.iconst 4, 0), (.iadd, 0), (.iaload, 0), (.aload_n 0, 0), (.iload_n 3, 0), (.invokevirtual 173, 1435), (.if_icmp .lt 7, 0), (.iconst 1, 0), (.goto 4, 0), (.iconst 0, 0), (.iastore, 0), (.iinc 3 1, 0), (.goto (-98), 0), (.aload_n 0, 0), (.getfield 9, 1192), (.iconst 0, 0), (.dup2, 0), (.iaload, 0), (.iconst 1, 0), (.iadd, 0), (.iastore, 0), (.aload_n 0, 0), (.getfield 9, 1192), (.iconst 0, 0), (.iaload, 0), (.bipush 24, 0), (.if_icmp .ne 20, 0), (.aload_n 0, 0), (.getfield 9, 1192), (.iconst 0, 0), (.iconst 0, 0), (.iastore, 0), (.aload_n 0, 0), (.getfield 9, 1192), (.iconst 1, 0), (.dup2, 0), (.iaload, 0), (.iconst 1, 0), (.iadd, 0), (.iastore, 0), (.return_, 0)]
set_option maxRecDepth 20000 in
def kc_X12_hours : am_C := [(0, .iload 1, 1), (1, .iconst 1, 2), (2, .iconst 60, 4), (4, .invokestatic 143, 7), (7, .ifCond .ne 13, 10), (10, .iconst (-1000000001), 12), (12, .ireturn, 13), (13, .aload 0, 14), (14, .getfield 768, 17), (17, .iconst 1, 18), (18, .iaload, 19), (19, .aload 0, 20), (20, .getfield 768, 23), (23, .iconst 0, 24), (24, .iaload, 25), (25, .iload 1, 26), (26, .iadd, 27), (27, .iconst 24, 29), (29, .idiv, 30), (30, .iadd, 31), (31, .iconst 999, 34), (34, .if_icmp .le 40, 37), (37, .iconst (-1000000003), 39), (39, .ireturn, 40), (40, .iconst 0, 41), (41, .istore 2, 42), (42, .iload 2, 43), (43, .iload 1, 44), (44, .if_icmp .ge 57, 47), (47, .aload 0, 48), (48, .invokevirtual 177, 51), (51, .iinc 2 1, 54), (54, .goto 42, 57), (57, .aload 0, 58), (58, .getfield 768, 61), (61, .iconst 0, 62), (62, .iaload, 63), (63, .ireturn, 64)]
set_option maxRecDepth 20000 in
def kp_X12_hours : List (Instr × Nat) := [(.iload_n 1, 0), (.iconst 1, 0), (.bipush 60, 0), (.invokestatic 105, 1343), (.ifCond .ne 6, 0), (.ldc 113, 1333), (.ireturn, 0), (.aload_n 0, 0), (.getfield 9, 1192), (.iconst 1, 0), (.iaload, 0), (.aload_n 0, 0), (.getfield 9, 1192), (.iconst 0, 0), (.iaload, 0), (.iload_n 1, 0), (.iadd, 0), (.bipush 24, 0), (.idiv, 0), (.iadd, 0), (.sipush 999, 0), (.if_icmp .le 6, 0), (.ldc 114, 1334), (.ireturn, 0), (.iconst 0, 0), (.istore_n 2, 0), (.iload_n 2, 0), (.iload_n 1, 0), (.if_icmp .ge 13, 0), (.aload_n 0, 0), (.invokevirtual 185, 1471), (.iinc 2 1, 0), (.goto (-12), 0), (.aload_n 0, 0), (.getfield 9, 1192), (.iconst 0, 0), (.iaload, 0), (.ireturn, 0)]
set_option maxRecDepth 20000 in
def kc_X12_bill : am_C := [(0, .aload 0, 1), (1, .iload 1, 2), (2, .invokevirtual 146, 5), (5, .ifCond .ne 11, 8), (8, .iconst (-1000000001), 10), (10, .ireturn, 11), (11, .aload 0, 12), (12, .iload 1, 13), (13, .iconst 5, 14), (14, .invokevirtual 150, 17), (17, .istore 2, 18), (18, .aload 0, 19), (19, .getfield 768, 22), (22, .iconst 23, 24), (24, .iconst 6, 26), (26, .iload 1, 27), (27, .imul, 28), (28, .iadd, 29), (29, .iconst 5, 30), (30, .iadd, 31), (31, .iconst 0, 32), (32, .iastore, 33), (33, .iload 2, 34), (34, .ireturn, 35)]
set_option maxRecDepth 20000 in
def kp_X12_bill : List (Instr × Nat) := [(.aload_n 0, 0), (.iload_n 1, 0), (.invokevirtual 154, 1339), (.ifCond .ne 6, 0), (.ldc 113, 1333), (.ireturn, 0), (.aload_n 0, 0), (.iload_n 1, 0), (.iconst 5, 0), (.invokevirtual 115, 1350), (.istore_n 2, 0), (.aload_n 0, 0), (.getfield 9, 1192), (.bipush 23, 0), (.bipush 6, 0), (.iload_n 1, 0), (.imul, 0), (.iadd, 0), (.iconst 5, 0), (.iadd, 0), (.iconst 0, 0), (.iastore, 0), (.iload_n 2, 0), (.ireturn, 0)]
set_option maxRecDepth 20000 in
def kc_X12_lightOf : am_C := [(0, .iconst 0, 1), (1, .istore 2, 2), (2, .iconst 0, 3), (3, .istore 3, 4), (4, .iload 3, 5), (5, .aload 0, 6), (6, .getfield 768, 9), (9, .iconst 5, 10), (10, .iaload, 11), (11, .if_icmp .ge 50, 14), (14, .iload 2, 15), (15, .aload 0, 16), (16, .iload 3, 17), (17, .iconst 3, 18), (18, .invokevirtual 152, 21), (21, .iload 1, 22), (22, .if_icmp .ne 41, 25), (25, .aload 0, 26), (26, .iload 3, 27), (27, .invokevirtual 158, 30), (30, .ifCond .eq 41, 33), (33, .aload 0, 34), (34, .iload 3, 35), (35, .invokevirtual 160, 38), (38, .goto 42, 41), (41, .iconst 0, 42), (42, .iadd, 43), (43, .istore 2, 44), (44, .iinc 3 1, 47), (47, .goto 4, 50), (50, .iload 2, 51), (51, .ireturn, 52)]
set_option maxRecDepth 20000 in
def kp_X12_lightOf : List (Instr × Nat) := [(.iconst 0, 0), (.istore_n 2, 0), (.iconst 0, 0), (.istore_n 3, 0), (.iload_n 3, 0), (.aload_n 0, 0), (.getfield 9, 1192), (.iconst 5, 0), (.iaload, 0), (.if_icmp .ge 39, 0), (.iload_n 2, 0), (.aload_n 0, 0), (.iload_n 3, 0), (.iconst 3, 0), (.invokevirtual 122, 1358), (.iload_n 1, 0), (.if_icmp .ne 19, 0), (.aload_n 0, 0), (.iload_n 3, 0), (.invokevirtual 167, 1428), (.ifCond .eq 11, 0), (.aload_n 0, 0), (.iload_n 3, 0), (.invokevirtual 151, 1378), (.goto 4, 0), (.iconst 0, 0), (.iadd, 0), (.istore_n 2, 0), (.iinc 3 1, 0), (.goto (-43), 0), (.iload_n 2, 0), (.ireturn, 0)]
set_option maxRecDepth 20000 in
def kc_X12_light : am_C := [(0, .iload 1, 1), (1, .iconst 0, 2), (2, .iconst 3, 3), (3, .invokestatic 143, 6), (6, .ifCond .eq 17, 9), (9, .aload 0, 10), (10, .iload 1, 11), (11, .invokevirtual 180, 14), (14, .goto 19, 17), (17, .iconst (-1000000001), 19), (19, .ireturn, 20)]
set_option maxRecDepth 20000 in
def kp_X12_light : List (Instr × Nat) := [(.iload_n 1, 0), (.iconst 0, 0), (.iconst 3, 0), (.invokestatic 105, 1343), (.ifCond .eq 11, 0), (.aload_n 0, 0), (.iload_n 1, 0), (.invokevirtual 188, 1484), (.goto 5, 0), (.ldc 113, 1333), (.ireturn, 0)]
set_option maxRecDepth 20000 in
def kc_X12_tooDark : am_C := [(0, .iconst 0, 1), (1, .istore 1, 2), (2, .aload 0, 3), (3, .iconst 3, 4), (4, .invokevirtual 198, 7), (7, .istore 2, 8), (8, .iconst 0, 9), (9, .istore 3, 10), (10, .iload 3, 11), (11, .iconst 4, 12), (12, .if_icmp .ge 71, 15), (15, .iload 2, 16), (16, .ifCond .lt 71, 19), (19, .aload 0, 20), (20, .iload 3, 21), (21, .invokevirtual 180, 24), (24, .istore 4, 26), (26, .aload 0, 27), (27, .getfield 790, 30), (30, .iconst 0, 31), (31, .aload 0, 32), (32, .getfield 768, 35), (35, .iconst 0, 36), (36, .iaload, 37), (37, .iastore, 38), (38, .aload 0, 39), (39, .getfield 790, 42), (42, .iconst 1, 43), (43, .iload 3, 44), (44, .iastore, 45), (45, .iload 1, 46), (46, .iload 4, 48), (48, .aload 0, 49), (49, .iload 2, 50), (50, .invokevirtual 201, 53), (53, .if_icmp .ge 62, 56), (56, .iconst 1, 57), (57, .iload 3, 58), (58, .ishl, 59), (59, .goto 63, 62), (62, .iconst 0, 63), (63, .ior, 64), (64, .istore 1, 65), (65, .iinc 3 1, 68), (68, .goto 10, 71), (71, .iload 1, 72), (72, .ireturn, 73)]
set_option maxRecDepth 20000 in
def kp_X12_tooDark : List (Instr × Nat) := [(.iconst 0, 0), (.istore_n 1, 0), (.aload_n 0, 0), (.iconst 3, 0), (.invokevirtual 138, 1386), (.istore_n 2, 0), (.iconst 0, 0), (.istore_n 3, 0), (.iload_n 3, 0), (.iconst 4, 0), (.if_icmp .ge 59, 0), (.iload_n 2, 0), (.ifCond .lt 55, 0), (.aload_n 0, 0), (.iload_n 3, 0), (.invokevirtual 188, 1484), (.istore 4, 0), (.aload_n 0, 0), (.getfield 45, 1214), (.iconst 0, 0), (.aload_n 0, 0), (.getfield 9, 1192), (.iconst 0, 0), (.iaload, 0), (.iastore, 0), (.aload_n 0, 0), (.getfield 45, 1214), (.iconst 1, 0), (.iload_n 3, 0), (.iastore, 0), (.iload_n 1, 0), (.iload 4, 0), (.aload_n 0, 0), (.iload_n 2, 0), (.invokevirtual 141, 1390), (.if_icmp .ge 9, 0), (.iconst 1, 0), (.iload_n 3, 0), (.ishl, 0), (.goto 4, 0), (.iconst 0, 0), (.ior, 0), (.istore_n 1, 0), (.iinc 3 1, 0), (.goto (-58), 0), (.iload_n 1, 0), (.ireturn, 0)]
set_option maxRecDepth 20000 in
def kc_X12_feed : am_C := [(0, .aload 0, 1), (1, .getfield 774, 4), (4, .iconst 12, 6), (6, .iadd, 7), (7, .iconst 96, 9), (9, .if_icmp .le 15, 12), (12, .iconst (-1000000003), 14), (14, .ireturn, 15), (15, .iconst 0, 16), (16, .istore 4, 18), (18, .iload 4, 20), (20, .iconst 12, 22), (22, .if_icmp .ge 84, 25), (25, .iload 4, 27), (27, .iconst 4, 28), (28, .if_icmp .ge 35, 31), (31, .iload 1, 32), (32, .goto 47, 35), (35, .iload 4, 37), (37, .iconst 8, 39), (39, .if_icmp .ge 46, 42), (42, .iload 2, 43), (43, .goto 47, 46), (46, .iload 3, 47), (47, .istore 5, 49), (49, .aload 0, 50), (50, .getfield 773, 53), (53, .aload 0, 54), (54, .getfield 774, 57), (57, .iload 4, 59), (59, .iadd, 60), (60, .iload 5, 62), (62, .iconst 24, 64), (64, .iconst 8, 66), (66, .iload 4, 68), (68, .iconst 4, 69), (69, .irem, 70), (70, .imul, 71), (71, .isub, 72), (72, .ishr, 73), (73, .iconst 255, 76), (76, .iand, 77), (77, .iastore, 78), (78, .iinc 4 1, 81), (81, .goto 18, 84), (84, .aload 0, 85), (85, .dup, 86), (86, .getfield 774, 89), (89, .iconst 12, 91), (91, .iadd, 92), (92, .putfield 774, 95), (95, .aload 0, 96), (96, .getfield 774, 99), (99, .ireturn, 100)]
set_option maxRecDepth 20000 in
def kp_X12_feed : List (Instr × Nat) := [(.aload_n 0, 0), (.getfield 191, 1198), (.bipush 12, 0), (.iadd, 0), (.bipush 96, 0), (.if_icmp .le 6, 0), (.ldc 114, 1334), (.ireturn, 0), (.iconst 0, 0), (.istore 4, 0), (.iload 4, 0), (.bipush 12, 0), (.if_icmp .ge 62, 0), (.iload 4, 0), (.iconst 4, 0), (.if_icmp .ge 7, 0), (.iload_n 1, 0), (.goto 15, 0), (.iload 4, 0), (.bipush 8, 0), (.if_icmp .ge 7, 0), (.iload_n 2, 0), (.goto 4, 0), (.iload_n 3, 0), (.istore 5, 0), (.aload_n 0, 0), (.getfield 23, 1197), (.aload_n 0, 0), (.getfield 191, 1198), (.iload 4, 0), (.iadd, 0), (.iload 5, 0), (.bipush 24, 0), (.bipush 8, 0), (.iload 4, 0), (.iconst 4, 0), (.irem, 0), (.imul, 0), (.isub, 0), (.ishr, 0), (.sipush 255, 0), (.iand, 0), (.iastore, 0), (.iinc 4 1, 0), (.goto (-63), 0), (.aload_n 0, 0), (.dup, 0), (.getfield 191, 1198), (.bipush 12, 0), (.iadd, 0), (.putfield 191, 1198), (.aload_n 0, 0), (.getfield 191, 1198), (.ireturn, 0)]
set_option maxRecDepth 20000 in
def kc_X12_trim : am_C := [(0, .iload 1, 1), (1, .iconst 0, 2), (2, .aload 0, 3), (3, .getfield 774, 6), (6, .invokestatic 143, 9), (9, .ifCond .ne 15, 12), (12, .iconst (-1000000001), 14), (14, .ireturn, 15), (15, .aload 0, 16), (16, .iload 1, 17), (17, .putfield 774, 20), (20, .iload 1, 21), (21, .ireturn, 22)]
set_option maxRecDepth 20000 in
def kp_X12_trim : List (Instr × Nat) := [(.iload_n 1, 0), (.iconst 0, 0), (.aload_n 0, 0), (.getfield 191, 1198), (.invokestatic 105, 1343), (.ifCond .ne 6, 0), (.ldc 113, 1333), (.ireturn, 0), (.aload_n 0, 0), (.iload_n 1, 0), (.putfield 191, 1198), (.iload_n 1, 0), (.ireturn, 0)]
set_option maxRecDepth 20000 in
def kc_X12_isLetter : am_C := [(0, .iload 1, 1), (1, .aload 0, 2), (2, .getfield 774, 5), (5, .if_icmp .ge 34, 8), (8, .aload 0, 9), (9, .getfield 773, 12), (12, .iload 1, 13), (13, .iaload, 14), (14, .iconst 97, 16), (16, .if_icmp .lt 34, 19), (19, .aload 0, 20), (20, .getfield 773, 23), (23, .iload 1, 24), (24, .iaload, 25), (25, .iconst 122, 27), (27, .if_icmp .gt 34, 30), (30, .iconst 1, 31), (31, .goto 35, 34), (34, .iconst 0, 35), (35, .freturn, 36)]
set_option maxRecDepth 20000 in
def kp_X12_isLetter : List (Instr × Nat) := [(.iload_n 1, 0), (.aload_n 0, 0), (.getfield 191, 1198), (.if_icmp .ge 29, 0), (.aload_n 0, 0), (.getfield 23, 1197), (.iload_n 1, 0), (.iaload, 0), (.bipush 97, 0), (.if_icmp .lt 18, 0), (.aload_n 0, 0), (.getfield 23, 1197), (.iload_n 1, 0), (.iaload, 0), (.bipush 122, 0), (.if_icmp .gt 7, 0), (.iconst 1, 0), (.goto 4, 0), (.iconst 0, 0), (.ireturn, 0)]
set_option maxRecDepth 20000 in
def kc_X12_isFigure : am_C := [(0, .iload 1, 1), (1, .aload 0, 2), (2, .getfield 774, 5), (5, .if_icmp .ge 34, 8), (8, .aload 0, 9), (9, .getfield 773, 12), (12, .iload 1, 13), (13, .iaload, 14), (14, .iconst 48, 16), (16, .if_icmp .lt 34, 19), (19, .aload 0, 20), (20, .getfield 773, 23), (23, .iload 1, 24), (24, .iaload, 25), (25, .iconst 57, 27), (27, .if_icmp .gt 34, 30), (30, .iconst 1, 31), (31, .goto 35, 34), (34, .iconst 0, 35), (35, .freturn, 36)]
set_option maxRecDepth 20000 in
def kp_X12_isFigure : List (Instr × Nat) := [(.iload_n 1, 0), (.aload_n 0, 0), (.getfield 191, 1198), (.if_icmp .ge 29, 0), (.aload_n 0, 0), (.getfield 23, 1197), (.iload_n 1, 0), (.iaload, 0), (.bipush 48, 0), (.if_icmp .lt 18, 0), (.aload_n 0, 0), (.getfield 23, 1197), (.iload_n 1, 0), (.iaload, 0), (.bipush 57, 0), (.if_icmp .gt 7, 0), (.iconst 1, 0), (.goto 4, 0), (.iconst 0, 0), (.ireturn, 0)]
set_option maxRecDepth 20000 in
def kc_X12_go : am_C := [(0, .aload 0, 1), (1, .getfield 775, 4), (4, .aload 0, 5), (5, .getfield 774, 8), (8, .if_icmp .ge 38, 11), (11, .aload 0, 12), (12, .getfield 773, 15), (15, .aload 0, 16), (16, .getfield 775, 19), (19, .iaload, 20), (20, .iconst 32, 22), (22, .if_icmp .ne 38, 25), (25, .aload 0, 26), (26, .dup, 27), (27, .getfield 775, 30), (30, .iconst 1, 31), (31, .iadd, 32), (32, .putfield 775, 35), (35, .goto 0, 38), (38, .aload 0, 39), (39, .aload 0, 40), (40, .getfield 775, 43), (43, .putfield 776, 46), (46, .aload 0, 47), (47, .getfield 776, 50), (50, .aload 0, 51), (51, .getfield 779, 54), (54, .if_icmp .ne 61, 57), (57, .iconst 1, 58), (58, .goto 62, 61), (61, .iconst 0, 62), (62, .istore 1, 63), (63, .aload 0, 64), (64, .getfield 776, 67), (67, .aload 0, 68), (68, .getfield 774, 71), (71, .if_icmp .ne 82, 74), (74, .aload 0, 75), (75, .iconst 0, 76), (76, .putfield 777, 79), (79, .goto 303, 82), (82, .aload 0, 83), (83, .aload 0, 84), (84, .getfield 776, 87), (87, .invokevirtual 185, 90), (90, .ifCond .eq 154, 93), (93, .aload 0, 94), (94, .aload 0, 95), (95, .getfield 775, 98), (98, .invokevirtual 185, 101), (101, .ifCond .eq 117, 104), (104, .aload 0, 105), (105, .dup, 106), (106, .getfield 775, 109), (109, .iconst 1, 110), (110, .iadd, 111), (111, .putfield 775, 114), (114, .goto 93, 117), (117, .aload 0, 118), (118, .iload 1, 119), (119, .ifCond .eq 126, 122), (122, .iconst 4, 123), (123, .goto 127, 126), (126, .iconst 1, 127), (127, .putfield 777, 130), (130, .aload 0, 131), (131, .aload 0, 132), (132, .getfield 773, 135), (135, .aload 0, 136), (136, .getfield 776, 139), (139, .iaload, 140), (140, .putfield 778, 143), (143, .aload 0, 144), (144, .aload 0, 145), (145, .getfield 775, 148), (148, .putfield 779, 151), (151, .goto 303, 154), (154, .aload 0, 155), (155, .aload 0, 156), (156, .getfield 776, 159), (159, .invokevirtual 186, 162), (162, .ifCond .eq 275, 165), (165, .aload 0, 166), (166, .iconst 0, 167), (167, .putfield 778, 170), (170, .aload 0, 171), (171, .aload 0, 172), (172, .getfield 775, 175), (175, .invokevirtual 186, 178), (178, .ifCond .eq 238, 181), (181, .aload 0, 182), (182, .aload 0, 183), (183, .getfield 775, 186), (186, .aload 0, 187), (187, .getfield 776, 190), (190, .isub, 191), (191, .iconst 4, 192), (192, .if_icmp .ge 218, 195), (195, .iconst 10, 197), (197, .aload 0, 198), (198, .getfield 778, 201), (201, .imul, 202), (202, .aload 0, 203), (203, .getfield 773, 206), (206, .aload 0, 207), (207, .getfield 775, 210), (210, .iaload, 211), (211, .iadd, 212), (212, .iconst 48, 214), (214, .isub, 215), (215, .goto 222, 218), (218, .aload 0, 219), (219, .getfield 778, 222), (222, .putfield 778, 225), (225, .aload 0, 226), (226, .dup, 227), (227, .getfield 775, 230), (230, .iconst 1, 231), (231, .iadd, 232), (232, .putfield 775, 235), (235, .goto 170, 238), (238, .aload 0, 239), (239, .iload 1, 240), (240, .ifCond .ne 256, 243), (243, .aload 0, 244), (244, .getfield 775, 247), (247, .aload 0, 248), (248, .getfield 776, 251), (251, .isub, 252), (252, .iconst 4, 253), (253, .if_icmp .le 260, 256), (256, .iconst 4, 257), (257, .goto 261, 260), (260, .iconst 2, 261), (261, .putfield 777, 264), (264, .aload 0, 265), (265, .aload 0, 266), (266, .getfield 775, 269), (269, .putfield 779, 272), (272, .goto 303, 275), (275, .aload 0, 276), (276, .iconst 3, 277), (277, .putfield 777, 280), (280, .aload 0, 281), (281, .aload 0, 282), (282, .getfield 773, 285), (285, .aload 0, 286), (286, .getfield 776, 289), (289, .iaload, 290), (290, .putfield 778, 293), (293, .aload 0, 294), (294, .dup, 295), (295, .getfield 775, 298), (298, .iconst 1, 299), (299, .iadd, 300), (300, .putfield 775, 303), (303, .return_, 304)]
set_option maxRecDepth 20000 in
def kp_X12_go : List (Instr × Nat) := [(.aload_n 0, 0), (.getfield 195, 1199), (.aload_n 0, 0), (.getfield 191, 1198), (.if_icmp .ge 30, 0), (.aload_n 0, 0), (.getfield 23, 1197), (.aload_n 0, 0), (.getfield 195, 1199), (.iaload, 0), (.bipush 32, 0), (.if_icmp .ne 16, 0), (.aload_n 0, 0), (.dup, 0), (.getfield 195, 1199), (.iconst 1, 0), (.iadd, 0), (.putfield 195, 1199), (.goto (-35), 0), (.aload_n 0, 0), (.aload_n 0, 0), (.getfield 195, 1199), (.putfield 198, 1200), (.aload_n 0, 0), (.getfield 198, 1200), (.aload_n 0, 0), (.getfield 201, 1203), (.if_icmp .ne 7, 0), (.iconst 1, 0), (.goto 4, 0), (.iconst 0, 0), (.istore_n 1, 0), (.aload_n 0, 0), (.getfield 198, 1200), (.aload_n 0, 0), (.getfield 191, 1198), (.if_icmp .ne 11, 0), (.aload_n 0, 0), (.iconst 0, 0), (.putfield 204, 1201), (.goto 224, 0), (.aload_n 0, 0), (.aload_n 0, 0), (.getfield 198, 1200), (.invokevirtual 207, 1508), (.ifCond .eq 64, 0), (.aload_n 0, 0), (.aload_n 0, 0), (.getfield 195, 1199), (.invokevirtual 207, 1508), (.ifCond .eq 16, 0), (.aload_n 0, 0), (.dup, 0), (.getfield 195, 1199), (.iconst 1, 0), (.iadd, 0), (.putfield 195, 1199), (.goto (-21), 0), (.aload_n 0, 0), (.iload_n 1, 0), (.ifCond .eq 7, 0), (.iconst 4, 0), (.goto 4, 0), (.iconst 1, 0), (.putfield 204, 1201), (.aload_n 0, 0), (.aload_n 0, 0), (.getfield 23, 1197), (.aload_n 0, 0), (.getfield 198, 1200), (.iaload, 0), (.putfield 210, 1202), (.aload_n 0, 0), (.aload_n 0, 0), (.getfield 195, 1199), (.putfield 201, 1203), (.goto 152, 0), (.aload_n 0, 0), (.aload_n 0, 0), (.getfield 198, 1200), (.invokevirtual 213, 1512), (.ifCond .eq 113, 0), (.aload_n 0, 0), (.iconst 0, 0), (.putfield 210, 1202), (.aload_n 0, 0), (.aload_n 0, 0), (.getfield 195, 1199), (.invokevirtual 213, 1512), (.ifCond .eq 60, 0), (.aload_n 0, 0), (.aload_n 0, 0), (.getfield 195, 1199), (.aload_n 0, 0), (.getfield 198, 1200), (.isub, 0), (.iconst 4, 0), (.if_icmp .ge 26, 0), (.bipush 10, 0), (.aload_n 0, 0), (.getfield 210, 1202), (.imul, 0), (.aload_n 0, 0), (.getfield 23, 1197), (.aload_n 0, 0), (.getfield 195, 1199), (.iaload, 0), (.iadd, 0), (.bipush 48, 0), (.isub, 0), (.goto 7, 0), (.aload_n 0, 0), (.getfield 210, 1202), (.putfield 210, 1202), (.aload_n 0, 0), (.dup, 0), (.getfield 195, 1199), (.iconst 1, 0), (.iadd, 0), (.putfield 195, 1199), (.goto (-65), 0), (.aload_n 0, 0), (.iload_n 1, 0), (.ifCond .ne 16, 0), (.aload_n 0, 0), (.getfield 195, 1199), (.aload_n 0, 0), (.getfield 198, 1200), (.isub, 0), (.iconst 4, 0), (.if_icmp .le 7, 0), (.iconst 4, 0), (.goto 4, 0), (.iconst 2, 0), (.putfield 204, 1201), (.aload_n 0, 0), (.aload_n 0, 0), (.getfield 195, 1199), (.putfield 201, 1203), (.goto 31, 0), (.aload_n 0, 0), (.iconst 3, 0), (.putfield 204, 1201), (.aload_n 0, 0), (.aload_n 0, 0), (.getfield 23, 1197), (.aload_n 0, 0), (.getfield 198, 1200), (.iaload, 0), (.putfield 210, 1202), (.aload_n 0, 0), (.dup, 0), (.getfield 195, 1199), (.iconst 1, 0), (.iadd, 0), (.putfield 195, 1199), (.return_, 0)]
set_option maxRecDepth 20000 in
def kc_X12_takesKey : am_C := [(0, .aload 0, 1), (1, .getfield 777, 4), (4, .iconst 1, 5), (5, .if_icmp .eq 10, 8), (8, .iconst 0, 9), (9, .freturn, 10), (10, .iconst 0, 11), (11, .istore 1, 12), (12, .iload 1, 13), (13, .iconst 4, 14), (14, .if_icmp .ge 127, 17), (17, .aload 0, 18), (18, .getfield 782, 21), (21, .iload 1, 22), (22, .iconst 1, 23), (23, .iadd, 24), (24, .iaload, 25), (25, .aload 0, 26), (26, .getfield 782, 29), (29, .iload 1, 30), (30, .iaload, 31), (31, .isub, 32), (32, .istore 2, 33), (33, .iload 2, 34), (34, .aload 0, 35), (35, .getfield 775, 38), (38, .aload 0, 39), (39, .getfield 776, 42), (42, .isub, 43), (43, .if_icmp .ne 50, 46), (46, .iconst 1, 47), (47, .goto 51, 50), (50, .iconst 0, 51), (51, .istore 3, 52), (52, .iconst 0, 53), (53, .istore 4, 55), (55, .iload 4, 57), (57, .iload 2, 58), (58, .if_icmp .ge 106, 61), (61, .iload 3, 62), (62, .ifCond .eq 106, 65), (65, .aload 0, 66), (66, .getfield 773, 69), (69, .aload 0, 70), (70, .getfield 776, 73), (73, .iload 4, 75), (75, .iadd, 76), (76, .iaload, 77), (77, .aload 0, 78), (78, .getfield 781, 81), (81, .aload 0, 82), (82, .getfield 782, 85), (85, .iload 1, 86), (86, .iaload, 87), (87, .iload 4, 89), (89, .iadd, 90), (90, .caload, 91), (91, .if_icmp .ne 98, 94), (94, .iconst 1, 95), (95, .goto 99, 98), (98, .iconst 0, 99), (99, .istore 3, 100), (100, .iinc 4 1, 103), (103, .goto 55, 106), (106, .iload 3, 107), (107, .ifCond .eq 121, 110), (110, .aload 0, 111), (111, .iload 1, 112), (112, .putfield 780, 115), (115, .aload 0, 116), (116, .invokevirtual 187, 119), (119, .iconst 1, 120), (120, .freturn, 121), (121, .iinc 1 1, 124), (124, .goto 12, 127), (127, .iconst 0, 128), (128, .freturn, 129)]
set_option maxRecDepth 20000 in
def kp_X12_takesKey : List (Instr × Nat) := [(.aload_n 0, 0), (.getfield 204, 1201), (.iconst 1, 0), (.if_icmp .eq 5, 0), (.iconst 0, 0), (.ireturn, 0), (.iconst 0, 0), (.istore_n 1, 0), (.iload_n 1, 0), (.iconst 4, 0), (.if_icmp .ge 113, 0), (.aload_n 0, 0), (.getfield 30, 1206), (.iload_n 1, 0), (.iconst 1, 0), (.iadd, 0), (.iaload, 0), (.aload_n 0, 0), (.getfield 30, 1206), (.iload_n 1, 0), (.iaload, 0), (.isub, 0), (.istore_n 2, 0), (.iload_n 2, 0), (.aload_n 0, 0), (.getfield 195, 1199), (.aload_n 0, 0), (.getfield 198, 1200), (.isub, 0), (.if_icmp .ne 7, 0), (.iconst 1, 0), (.goto 4, 0), (.iconst 0, 0), (.istore_n 3, 0), (.iconst 0, 0), (.istore 4, 0), (.iload 4, 0), (.iload_n 2, 0), (.if_icmp .ge 48, 0), (.iload_n 3, 0), (.ifCond .eq 44, 0), (.aload_n 0, 0), (.getfield 23, 1197), (.aload_n 0, 0), (.getfield 198, 1200), (.iload 4, 0), (.iadd, 0), (.iaload, 0), (.aload_n 0, 0), (.getfield 26, 1205), (.aload_n 0, 0), (.getfield 30, 1206), (.iload_n 1, 0), (.iaload, 0), (.iload 4, 0), (.iadd, 0), (.caload, 0), (.if_icmp .ne 7, 0), (.iconst 1, 0), (.goto 4, 0), (.iconst 0, 0), (.istore_n 3, 0), (.iinc 4 1, 0), (.goto (-48), 0), (.iload_n 3, 0), (.ifCond .eq 14, 0), (.aload_n 0, 0), (.iload_n 1, 0), (.putfield 216, 1204), (.aload_n 0, 0), (.invokevirtual 219, 1504), (.iconst 1, 0), (.ireturn, 0), (.iinc 1 1, 0), (.goto (-112), 0), (.iconst 0, 0), (.ireturn, 0)]
set_option maxRecDepth 20000 in
def kc_X12_nameOf : am_C := [(0, .aload 0, 1), (1, .getfield 780, 4), (4, .tableswitch 118 0 2 #[32, 64, 96], 32), (32, .iload 1, 33), (33, .iconst 104, 35), (35, .if_icmp .ne 42, 38), (38, .iconst 0, 39), (39, .goto 63, 42), (42, .iload 1, 43), (43, .iconst 100, 45), (45, .if_icmp .ne 52, 48), (48, .iconst 1, 49), (49, .goto 63, 52), (52, .iload 1, 53), (53, .iconst 99, 55), (55, .if_icmp .ne 62, 58), (58, .iconst 2, 59), (59, .goto 63, 62), (62, .iconst (-1), 63), (63, .ireturn, 64), (64, .iload 1, 65), (65, .iconst 107, 67), (67, .if_icmp .ne 74, 70), (70, .iconst 0, 71), (71, .goto 95, 74), (74, .iload 1, 75), (75, .iconst 119, 77), (77, .if_icmp .ne 84, 80), (80, .iconst 1, 81), (81, .goto 95, 84), (84, .iload 1, 85), (85, .iconst 99, 87), (87, .if_icmp .ne 94, 90), (90, .iconst 2, 91), (91, .goto 95, 94), (94, .iconst (-1), 95), (95, .ireturn, 96), (96, .iload 1, 97), (97, .iconst 104, 99), (99, .if_icmp .ne 106, 102), (102, .iconst 0, 103), (103, .goto 117, 106), (106, .iload 1, 107), (107, .iconst 100, 109), (109, .if_icmp .ne 116, 112), (112, .iconst 1, 113), (113, .goto 117, 116), (116, .iconst (-1), 117), (117, .ireturn, 118), (118, .iload 1, 119), (119, .iconst 104, 121), (121, .if_icmp .ne 128, 124), (124, .iconst 0, 125), (125, .goto 139, 128), (128, .iload 1, 129), (129, .iconst 99, 131), (131, .if_icmp .ne 138, 134), (134, .iconst 1, 135), (135, .goto 139, 138), (138, .iconst (-1), 139), (139, .ireturn, 140)]
set_option maxRecDepth 20000 in
def kp_X12_nameOf : List (Instr × Nat) := [(.aload_n 0, 0), (.getfield 216, 1204), (.tableswitch 114 0 2 #[28, 60, 92], 0), (.iload_n 1, 0), (.bipush 104, 0), (.if_icmp .ne 7, 0), (.iconst 0, 0), (.goto 24, 0), (.iload_n 1, 0), (.bipush 100, 0), (.if_icmp .ne 7, 0), (.iconst 1, 0), (.goto 14, 0), (.iload_n 1, 0), (.bipush 99, 0), (.if_icmp .ne 7, 0), (.iconst 2, 0), (.goto 4, 0), (.iconst (-1), 0), (.ireturn, 0), (.iload_n 1, 0), (.bipush 107, 0), (.if_icmp .ne 7, 0), (.iconst 0, 0), (.goto 24, 0), (.iload_n 1, 0), (.bipush 119, 0), (.if_icmp .ne 7, 0), (.iconst 1, 0), (.goto 14, 0), (.iload_n 1, 0), (.bipush 99, 0), (.if_icmp .ne 7, 0), (.iconst 2, 0), (.goto 4, 0), (.iconst (-1), 0), (.ireturn, 0), (.iload_n 1, 0), (.bipush 104, 0), (.if_icmp .ne 7, 0), (.iconst 0, 0), (.goto 14, 0), (.iload_n 1, 0), (.bipush 100, 0), (.if_icmp .ne 7, 0), (.iconst 1, 0), (.goto 4, 0), (.iconst (-1), 0), (.ireturn, 0), (.iload_n 1, 0), (.bipush 104, 0), (.if_icmp .ne 7, 0), (.iconst 0, 0), (.goto 14, 0), (.iload_n 1, 0), (.bipush 99, 0), (.if_icmp .ne 7, 0), (.iconst 1, 0), (.goto 4, 0), (.iconst (-1), 0), (.ireturn, 0)]
set_option maxRecDepth 20000 in
def kc_X12_rank : am_C := [(0, .iload 0, 1), (1, .iconst (-1), 2), (2, .if_icmp .ne 9, 5), (5, .iconst 1, 6), (6, .goto 51, 9), (9, .iload 0, 10), (10, .iconst (-2), 12), (12, .if_icmp .ne 19, 15), (15, .iconst 2, 16), (16, .goto 51, 19), (19, .iload 0, 20), (20, .iconst (-5), 22), (22, .if_icmp .lt 29, 25), (25, .iconst 3, 26), (26, .goto 51, 29), (29, .iload 0, 30), (30, .iconst (-7), 32), (32, .if_icmp .lt 39, 35), (35, .iconst 4, 36), (36, .goto 51, 39), (39, .iload 0, 40), (40, .iconst (-9), 42), (42, .if_icmp .lt 49, 45), (45, .iconst 5, 46), (46, .goto 51, 49), (49, .iconst 6, 51), (51, .ireturn, 52)]
set_option maxRecDepth 20000 in
def kp_X12_rank : List (Instr × Nat) := [(.iload_n 0, 0), (.iconst (-1), 0), (.if_icmp .ne 7, 0), (.iconst 1, 0), (.goto 45, 0), (.iload_n 0, 0), (.bipush (-2), 0), (.if_icmp .ne 7, 0), (.iconst 2, 0), (.goto 35, 0), (.iload_n 0, 0), (.bipush (-5), 0), (.if_icmp .lt 7, 0), (.iconst 3, 0), (.goto 25, 0), (.iload_n 0, 0), (.bipush (-7), 0), (.if_icmp .lt 7, 0), (.iconst 4, 0), (.goto 15, 0), (.iload_n 0, 0), (.bipush (-9), 0), (.if_icmp .lt 7, 0), (.iconst 5, 0), (.goto 5, 0), (.bipush 6, 0), (.ireturn, 0)]
set_option maxRecDepth 20000 in
def kc_X12_settle : am_C := [(0, .aload 0, 1), (1, .getfield 787, 4), (4, .ifCond .le 82, 7), (7, .aload 0, 8), (8, .getfield 786, 11), (11, .aload 0, 12), (12, .getfield 787, 15), (15, .iconst 1, 16), (16, .isub, 17), (17, .iaload, 18), (18, .iconst (-11), 20), (20, .if_icmp .eq 82, 23), (23, .aload 0, 24), (24, .getfield 786, 27), (27, .aload 0, 28), (28, .getfield 787, 31), (31, .iconst 1, 32), (32, .isub, 33), (33, .iaload, 34), (34, .invokestatic 190, 37), (37, .iload 1, 38), (38, .if_icmp .lt 82, 41), (41, .aload 0, 42), (42, .dup, 43), (43, .getfield 787, 46), (46, .iconst 1, 47), (47, .isub, 48), (48, .putfield 787, 51), (51, .aload 0, 52), (52, .getfield 783, 55), (55, .aload 0, 56), (56, .getfield 784, 59), (59, .aload 0, 60), (60, .getfield 786, 63), (63, .aload 0, 64), (64, .getfield 787, 67), (67, .iaload, 68), (68, .iastore, 69), (69, .aload 0, 70), (70, .dup, 71), (71, .getfield 784, 74), (74, .iconst 1, 75), (75, .iadd, 76), (76, .putfield 784, 79), (79, .goto 0, 82), (82, .return_, 83)]
set_option maxRecDepth 20000 in
def kp_X12_settle : List (Instr × Nat) := [(.aload_n 0, 0), (.getfield 222, 1211), (.ifCond .le 78, 0), (.aload_n 0, 0), (.getfield 36, 1210), (.aload_n 0, 0), (.getfield 222, 1211), (.iconst 1, 0), (.isub, 0), (.iaload, 0), (.bipush (-11), 0), (.if_icmp .eq 62, 0), (.aload_n 0, 0), (.getfield 36, 1210), (.aload_n 0, 0), (.getfield 222, 1211), (.iconst 1, 0), (.isub, 0), (.iaload, 0), (.invokestatic 225, 1536), (.iload_n 1, 0), (.if_icmp .lt 44, 0), (.aload_n 0, 0), (.dup, 0), (.getfield 222, 1211), (.iconst 1, 0), (.isub, 0), (.putfield 222, 1211), (.aload_n 0, 0), (.getfield 33, 1207), (.aload_n 0, 0), (.getfield 228, 1208), (.aload_n 0, 0), (.getfield 36, 1210), (.aload_n 0, 0), (.getfield 222, 1211), (.iaload, 0), (.iastore, 0), (.aload_n 0, 0), (.dup, 0), (.getfield 228, 1208), (.iconst 1, 0), (.iadd, 0), (.putfield 228, 1208), (.goto (-79), 0), (.return_, 0)]
set_option maxRecDepth 20000 in
def kc_X12_signHere : am_C := [(0, .aload 0, 1), (1, .getfield 777, 4), (4, .iconst 3, 5), (5, .if_icmp .eq 10, 8), (8, .iconst 0, 9), (9, .ireturn, 10), (10, .aload 0, 11), (11, .getfield 778, 14), (14, .lookupswitch 122 #[(38, 98), (42, 116), (43, 110), (45, 113), (47, 119), (60, 101), (61, 104), (62, 107), (124, 96)], 96), (96, .iconst (-1), 97), (97, .ireturn, 98), (98, .iconst (-2), 100), (100, .ireturn, 101), (101, .iconst (-3), 103), (103, .ireturn, 104), (104, .iconst (-4), 106), (106, .ireturn, 107), (107, .iconst (-5), 109), (109, .ireturn, 110), (110, .iconst (-6), 112), (112, .ireturn, 113), (113, .iconst (-7), 115), (115, .ireturn, 116), (116, .iconst (-8), 118), (118, .ireturn, 119), (119, .iconst (-9), 121), (121, .ireturn, 122), (122, .iconst 0, 123), (123, .ireturn, 124)]
set_option maxRecDepth 20000 in
def kp_X12_signHere : List (Instr × Nat) := [(.aload_n 0, 0), (.getfield 204, 1201), (.iconst 3, 0), (.if_icmp .eq 5, 0), (.iconst 0, 0), (.ireturn, 0), (.aload_n 0, 0), (.getfield 210, 1202), (.lookupswitch 108 #[(38, 84), (42, 102), (43, 96), (45, 99), (47, 105), (60, 87), (61, 90), (62, 93), (124, 82)], 0), (.iconst (-1), 0), (.ireturn, 0), (.bipush (-2), 0), (.ireturn, 0), (.bipush (-3), 0), (.ireturn, 0), (.bipush (-4), 0), (.ireturn, 0), (.bipush (-5), 0), (.ireturn, 0), (.bipush (-6), 0), (.ireturn, 0), (.bipush (-7), 0), (.ireturn, 0), (.bipush (-8), 0), (.ireturn, 0), (.bipush (-9), 0), (.ireturn, 0), (.iconst 0, 0), (.ireturn, 0)]
set_option maxRecDepth 20000 in
def kc_X12_takesPart : am_C := [(0, .aload 0, 1), (1, .getfield 777, 4), (4, .iconst 1, 5), (5, .if_icmp .ne 36, 8), (8, .aload 0, 9), (9, .getfield 775, 12), (12, .aload 0, 13), (13, .getfield 776, 16), (16, .isub, 17), (17, .iconst 1, 18), (18, .if_icmp .ne 36, 21), (21, .aload 0, 22), (22, .aload 0, 23), (23, .getfield 778, 26), (26, .invokevirtual 189, 29), (29, .ifCond .lt 36, 32), (32, .iconst 1, 33), (33, .goto 37, 36), (36, .iconst 0, 37), (37, .istore 1, 38), (38, .aload 0, 39), (39, .getfield 777, 42), (42, .iconst 2, 43), (43, .if_icmp .eq 52, 46), (46, .iload 1, 47), (47, .ifCond .ne 52, 50), (50, .iconst 0, 51), (51, .freturn, 52), (52, .aload 0, 53), (53, .getfield 783, 56), (56, .aload 0, 57), (57, .getfield 784, 60), (60, .aload 0, 61), (61, .getfield 777, 64), (64, .iconst 2, 65), (65, .if_icmp .ne 75, 68), (68, .aload 0, 69), (69, .getfield 778, 72), (72, .goto 87, 75), (75, .iconst 10000, 78), (78, .aload 0, 79), (79, .aload 0, 80), (80, .getfield 778, 83), (83, .invokevirtual 189, 86), (86, .iadd, 87), (87, .iastore, 88), (88, .aload 0, 89), (89, .dup, 90), (90, .getfield 784, 93), (93, .iconst 1, 94), (94, .iadd, 95), (95, .putfield 784, 98), (98, .aload 0, 99), (99, .dup, 100), (100, .getfield 785, 103), (103, .iconst 1, 104), (104, .iadd, 105), (105, .putfield 785, 108), (108, .aload 0, 109), (109, .iconst 6, 111), (111, .invokevirtual 191, 114), (114, .aload 0, 115), (115, .invokevirtual 187, 118), (118, .iconst 1, 119), (119, .freturn, 120)]
set_option maxRecDepth 20000 in
def kp_X12_takesPart : List (Instr × Nat) := [(.aload_n 0, 0), (.getfield 204, 1201), (.iconst 1, 0), (.if_icmp .ne 31, 0), (.aload_n 0, 0), (.getfield 195, 1199), (.aload_n 0, 0), (.getfield 198, 1200), (.isub, 0), (.iconst 1, 0), (.if_icmp .ne 18, 0), (.aload_n 0, 0), (.aload_n 0, 0), (.getfield 210, 1202), (.invokevirtual 231, 1528), (.ifCond .lt 7, 0), (.iconst 1, 0), (.goto 4, 0), (.iconst 0, 0), (.istore_n 1, 0), (.aload_n 0, 0), (.getfield 204, 1201), (.iconst 2, 0), (.if_icmp .eq 9, 0), (.iload_n 1, 0), (.ifCond .ne 5, 0), (.iconst 0, 0), (.ireturn, 0), (.aload_n 0, 0), (.getfield 33, 1207), (.aload_n 0, 0), (.getfield 228, 1208), (.aload_n 0, 0), (.getfield 204, 1201), (.iconst 2, 0), (.if_icmp .ne 10, 0), (.aload_n 0, 0), (.getfield 210, 1202), (.goto 15, 0), (.sipush 10000, 0), (.aload_n 0, 0), (.aload_n 0, 0), (.getfield 210, 1202), (.invokevirtual 231, 1528), (.iadd, 0), (.iastore, 0), (.aload_n 0, 0), (.dup, 0), (.getfield 228, 1208), (.iconst 1, 0), (.iadd, 0), (.putfield 228, 1208), (.aload_n 0, 0), (.dup, 0), (.getfield 234, 1209), (.iconst 1, 0), (.iadd, 0), (.putfield 234, 1209), (.aload_n 0, 0), (.bipush 6, 0), (.invokevirtual 237, 1532), (.aload_n 0, 0), (.invokevirtual 219, 1504), (.iconst 1, 0), (.ireturn, 0)]
set_option maxRecDepth 20000 in
def kc_X12_takesE : am_C := [(0, .iconst 0, 1), (1, .istore 1, 2), (2, .iconst 0, 3), (3, .istore 2, 4), (4, .iconst 1, 5), (5, .istore 3, 6), (6, .aload 0, 7), (7, .iconst 0, 8), (8, .putfield 784, 11), (11, .aload 0, 12), (12, .iconst 0, 13), (13, .putfield 785, 16), (16, .aload 0, 17), (17, .iconst 0, 18), (18, .putfield 787, 21), (21, .aload 0, 22), (22, .getfield 788, 25), (25, .iconst 0, 26), (26, .iconst 0, 27), (27, .bastore, 28), (28, .iload 3, 29), (29, .ifCond .ne 39, 32), (32, .aload 0, 33), (33, .getfield 777, 36), (36, .ifCond .eq 345, 39), (39, .iload 3, 40), (40, .ifCond .eq 180, 43), (43, .aload 0, 44), (44, .getfield 777, 47), (47, .iconst 3, 48), (48, .if_icmp .ne 97, 51), (51, .aload 0, 52), (52, .getfield 778, 55), (55, .iconst 33, 57), (57, .if_icmp .ne 97, 60), (60, .iload 2, 61), (61, .iconst 8, 63), (63, .if_icmp .ge 97, 66), (66, .aload 0, 67), (67, .getfield 786, 70), (70, .aload 0, 71), (71, .getfield 787, 74), (74, .iconst (-10), 76), (76, .iastore, 77), (77, .aload 0, 78), (78, .dup, 79), (79, .getfield 787, 82), (82, .iconst 1, 83), (83, .iadd, 84), (84, .putfield 787, 87), (87, .iinc 2 1, 90), (90, .aload 0, 91), (91, .invokevirtual 187, 94), (94, .goto 172, 97), (97, .aload 0, 98), (98, .getfield 777, 101), (101, .iconst 3, 102), (102, .if_icmp .ne 158, 105), (105, .aload 0, 106), (106, .getfield 778, 109), (109, .iconst 40, 111), (111, .if_icmp .ne 158, 114), (114, .iload 1, 115), (115, .iconst 8, 117), (117, .if_icmp .ge 158, 120), (120, .aload 0, 121), (121, .getfield 786, 124), (124, .aload 0, 125), (125, .getfield 787, 128), (128, .iconst (-11), 130), (130, .iastore, 131), (131, .aload 0, 132), (132, .dup, 133), (133, .getfield 787, 136), (136, .iconst 1, 137), (137, .iadd, 138), (138, .putfield 787, 141), (141, .iinc 1 1, 144), (144, .aload 0, 145), (145, .getfield 788, 148), (148, .iload 1, 149), (149, .iconst 0, 150), (150, .bastore, 151), (151, .aload 0, 152), (152, .invokevirtual 187, 155), (155, .goto 172, 158), (158, .aload 0, 159), (159, .invokevirtual 193, 162), (162, .ifCond .eq 170, 165), (165, .iconst 0, 166), (166, .istore 3, 167), (167, .goto 172, 170), (170, .iconst 0, 171), (171, .freturn, 172), (172, .aload 0, 173), (173, .invokevirtual 195, 176), (176, .istore 2, 177), (177, .goto 28, 180), (180, .aload 0, 181), (181, .getfield 777, 184), (184, .iconst 3, 185), (185, .if_icmp .ne 237, 188), (188, .aload 0, 189), (189, .getfield 778, 192), (192, .iconst 41, 194), (194, .if_icmp .ne 237, 197), (197, .iload 1, 198), (198, .ifCond .le 237, 201), (201, .aload 0, 202), (202, .iconst 0, 203), (203, .invokevirtual 191, 206), (206, .aload 0, 207), (207, .dup, 208), (208, .getfield 787, 211), (211, .iconst 1, 212), (212, .isub, 213), (213, .putfield 787, 216), (216, .iinc 1 (-1), 219), (219, .aload 0, 220), (220, .iconst 6, 222), (222, .invokevirtual 191, 225), (225, .aload 0, 226), (226, .invokevirtual 195, 229), (229, .istore 2, 230), (230, .aload 0, 231), (231, .invokevirtual 187, 234), (234, .goto 28, 237), (237, .aload 0, 238), (238, .invokevirtual 192, 241), (241, .istore 4, 243), (243, .iload 4, 245), (245, .ifCond .eq 266, 248), (248, .iload 4, 250), (250, .invokestatic 190, 253), (253, .iconst 3, 254), (254, .if_icmp .ne 268, 257), (257, .aload 0, 258), (258, .getfield 788, 261), (261, .iload 1, 262), (262, .baload, 263), (263, .ifCond .eq 268, 266), (266, .iconst 0, 267), (267, .freturn, 268), (268, .aload 0, 269), (269, .getfield 788, 272), (272, .iload 1, 273), (273, .iload 4, 275), (275, .invokestatic 190, 278), (278, .iconst 3, 279), (279, .if_icmp .eq 300, 282), (282, .iload 4, 284), (284, .invokestatic 190, 287), (287, .iconst 3, 288), (288, .if_icmp .le 304, 291), (291, .aload 0, 292), (292, .getfield 788, 295), (295, .iload 1, 296), (296, .baload, 297), (297, .ifCond .eq 304, 300), (300, .iconst 1, 301), (301, .goto 305, 304), (304, .iconst 0, 305), (305, .bastore, 306), (306, .aload 0, 307), (307, .iload 4, 309), (309, .invokestatic 190, 312), (312, .invokevirtual 191, 315), (315, .aload 0, 316), (316, .getfield 786, 319), (319, .aload 0, 320), (320, .getfield 787, 323), (323, .iload 4, 325), (325, .iastore, 326), (326, .aload 0, 327), (327, .dup, 328), (328, .getfield 787, 331), (331, .iconst 1, 332), (332, .iadd, 333), (333, .putfield 787, 336), (336, .iconst 1, 337), (337, .istore 3, 338), (338, .aload 0, 339), (339, .invokevirtual 187, 342), (342, .goto 28, 345), (345, .aload 0, 346), (346, .iconst 0, 347), (347, .invokevirtual 191, 350), (350, .iload 1, 351), (351, .ifCond .ne 358, 354), (354, .iconst 1, 355), (355, .goto 359, 358), (358, .iconst 0, 359), (359, .freturn, 360)]
set_option maxRecDepth 20000 in
def kp_X12_takesE : List (Instr × Nat) := [(.iconst 0, 0), (.istore_n 1, 0), (.iconst 0, 0), (.istore_n 2, 0), (.iconst 1, 0), (.istore_n 3, 0), (.aload_n 0, 0), (.iconst 0, 0), (.putfield 228, 1208), (.aload_n 0, 0), (.iconst 0, 0), (.putfield 234, 1209), (.aload_n 0, 0), (.iconst 0, 0), (.putfield 222, 1211), (.aload_n 0, 0), (.getfield 39, 1212), (.iconst 0, 0), (.iconst 0, 0), (.bastore, 0), (.iload_n 3, 0), (.ifCond .ne 10, 0), (.aload_n 0, 0), (.getfield 204, 1201), (.ifCond .eq 309, 0), (.iload_n 3, 0), (.ifCond .eq 140, 0), (.aload_n 0, 0), (.getfield 204, 1201), (.iconst 3, 0), (.if_icmp .ne 49, 0), (.aload_n 0, 0), (.getfield 210, 1202), (.bipush 33, 0), (.if_icmp .ne 40, 0), (.iload_n 2, 0), (.bipush 8, 0), (.if_icmp .ge 34, 0), (.aload_n 0, 0), (.getfield 36, 1210), (.aload_n 0, 0), (.getfield 222, 1211), (.bipush (-10), 0), (.iastore, 0), (.aload_n 0, 0), (.dup, 0), (.getfield 222, 1211), (.iconst 1, 0), (.iadd, 0), (.putfield 222, 1211), (.iinc 2 1, 0), (.aload_n 0, 0), (.invokevirtual 219, 1504), (.goto 78, 0), (.aload_n 0, 0), (.getfield 204, 1201), (.iconst 3, 0), (.if_icmp .ne 56, 0), (.aload_n 0, 0), (.getfield 210, 1202), (.bipush 40, 0), (.if_icmp .ne 47, 0), (.iload_n 1, 0), (.bipush 8, 0), (.if_icmp .ge 41, 0), (.aload_n 0, 0), (.getfield 36, 1210), (.aload_n 0, 0), (.getfield 222, 1211), (.bipush (-11), 0), (.iastore, 0), (.aload_n 0, 0), (.dup, 0), (.getfield 222, 1211), (.iconst 1, 0), (.iadd, 0), (.putfield 222, 1211), (.iinc 1 1, 0), (.aload_n 0, 0), (.getfield 39, 1212), (.iload_n 1, 0), (.iconst 0, 0), (.bastore, 0), (.aload_n 0, 0), (.invokevirtual 219, 1504), (.goto 17, 0), (.aload_n 0, 0), (.invokevirtual 241, 1524), (.ifCond .eq 8, 0), (.iconst 0, 0), (.istore_n 3, 0), (.goto 5, 0), (.iconst 0, 0), (.ireturn, 0), (.aload_n 0, 0), (.invokevirtual 245, 1539), (.istore_n 2, 0), (.goto (-149), 0), (.aload_n 0, 0), (.getfield 204, 1201), (.iconst 3, 0), (.if_icmp .ne 52, 0), (.aload_n 0, 0), (.getfield 210, 1202), (.bipush 41, 0), (.if_icmp .ne 43, 0), (.iload_n 1, 0), (.ifCond .le 39, 0), (.aload_n 0, 0), (.iconst 0, 0), (.invokevirtual 237, 1532), (.aload_n 0, 0), (.dup, 0), (.getfield 222, 1211), (.iconst 1, 0), (.isub, 0), (.putfield 222, 1211), (.iinc 1 (-1), 0), (.aload_n 0, 0), (.bipush 6, 0), (.invokevirtual 237, 1532), (.aload_n 0, 0), (.invokevirtual 245, 1539), (.istore_n 2, 0), (.aload_n 0, 0), (.invokevirtual 219, 1504), (.goto (-206), 0), (.aload_n 0, 0), (.invokevirtual 249, 1543), (.istore 4, 0), (.iload 4, 0), (.ifCond .eq 21, 0), (.iload 4, 0), (.invokestatic 225, 1536), (.iconst 3, 0), (.if_icmp .ne 14, 0), (.aload_n 0, 0), (.getfield 39, 1212), (.iload_n 1, 0), (.baload, 0), (.ifCond .eq 5, 0), (.iconst 0, 0), (.ireturn, 0), (.aload_n 0, 0), (.getfield 39, 1212), (.iload_n 1, 0), (.iload 4, 0), (.invokestatic 225, 1536), (.iconst 3, 0), (.if_icmp .eq 21, 0), (.iload 4, 0), (.invokestatic 225, 1536), (.iconst 3, 0), (.if_icmp .le 16, 0), (.aload_n 0, 0), (.getfield 39, 1212), (.iload_n 1, 0), (.baload, 0), (.ifCond .eq 7, 0), (.iconst 1, 0), (.goto 4, 0), (.iconst 0, 0), (.bastore, 0), (.aload_n 0, 0), (.iload 4, 0), (.invokestatic 225, 1536), (.invokevirtual 237, 1532), (.aload_n 0, 0), (.getfield 36, 1210), (.aload_n 0, 0), (.getfield 222, 1211), (.iload 4, 0), (.iastore, 0), (.aload_n 0, 0), (.dup, 0), (.getfield 222, 1211), (.iconst 1, 0), (.iadd, 0), (.putfield 222, 1211), (.iconst 1, 0), (.istore_n 3, 0), (.aload_n 0, 0), (.invokevirtual 219, 1504), (.goto (-314), 0), (.aload_n 0, 0), (.iconst 0, 0), (.invokevirtual 237, 1532), (.iload_n 1, 0), (.ifCond .ne 7, 0), (.iconst 1, 0), (.goto 4, 0), (.iconst 0, 0), (.ireturn, 0)]
set_option maxRecDepth 20000 in
def kc_X12_notsOpen : am_C := [(0, .iconst 0, 1), (1, .istore 1, 2), (2, .iconst 0, 3), (3, .istore 2, 4), (4, .iload 2, 5), (5, .aload 0, 6), (6, .getfield 787, 9), (9, .if_icmp .ge 37, 12), (12, .iload 1, 13), (13, .aload 0, 14), (14, .getfield 786, 17), (17, .iload 2, 18), (18, .iaload, 19), (19, .iconst (-10), 21), (21, .if_icmp .ne 28, 24), (24, .iconst 1, 25), (25, .goto 29, 28), (28, .iconst 0, 29), (29, .iadd, 30), (30, .istore 1, 31), (31, .iinc 2 1, 34), (34, .goto 4, 37), (37, .iload 1, 38), (38, .ireturn, 39)]
set_option maxRecDepth 20000 in
def kp_X12_notsOpen : List (Instr × Nat) := [(.iconst 0, 0), (.istore_n 1, 0), (.iconst 0, 0), (.istore_n 2, 0), (.iload_n 2, 0), (.aload_n 0, 0), (.getfield 222, 1211), (.if_icmp .ge 28, 0), (.iload_n 1, 0), (.aload_n 0, 0), (.getfield 36, 1210), (.iload_n 2, 0), (.iaload, 0), (.bipush (-10), 0), (.if_icmp .ne 7, 0), (.iconst 1, 0), (.goto 4, 0), (.iconst 0, 0), (.iadd, 0), (.istore_n 1, 0), (.iinc 2 1, 0), (.goto (-30), 0), (.iload_n 1, 0), (.ireturn, 0)]
set_option maxRecDepth 20000 in
def kc_X12_text : am_C := [(0, .aload 0, 1), (1, .iconst 0, 2), (2, .putfield 775, 5), (5, .aload 0, 6), (6, .iconst (-1), 7), (7, .putfield 779, 10), (10, .aload 0, 11), (11, .invokevirtual 187, 14), (14, .aload 0, 15), (15, .invokevirtual 188, 18), (18, .ifCond .eq 32, 21), (21, .aload 0, 22), (22, .invokevirtual 194, 25), (25, .ifCond .eq 32, 28), (28, .iconst 1, 29), (29, .goto 33, 32), (32, .iconst 0, 33), (33, .istore 1, 34), (34, .aload 0, 35), (35, .iconst 0, 36), (36, .putfield 774, 39), (39, .iload 1, 40), (40, .ifCond .ne 51, 43), (43, .iconst (-100), 45), (45, .aload 0, 46), (46, .getfield 776, 49), (49, .isub, 50), (50, .ireturn, 51), (51, .aload 0, 52), (52, .getfield 768, 55), (55, .iconst 6, 57), (57, .iaload, 58), (58, .iconst 14, 60), (60, .if_icmp .ne 66, 63), (63, .iconst (-1000000003), 65), (65, .ireturn, 66), (66, .aload 0, 67), (67, .getfield 768, 70), (70, .iconst 6, 72), (72, .iaload, 73), (73, .istore 2, 74), (74, .aload 0, 75), (75, .getfield 768, 78), (78, .iconst 189, 81), (81, .iconst 2, 82), (82, .iload 2, 83), (83, .imul, 84), (84, .iadd, 85), (85, .iconst 1000, 88), (88, .aload 0, 89), (89, .getfield 780, 92), (92, .imul, 93), (93, .aload 0, 94), (94, .getfield 784, 97), (97, .iadd, 98), (98, .iastore, 99), (99, .aload 0, 100), (100, .getfield 768, 103), (103, .iconst 189, 106), (106, .iconst 2, 107), (107, .iload 2, 108), (108, .imul, 109), (109, .iadd, 110), (110, .iconst 1, 111), (111, .iadd, 112), (112, .aload 0, 113), (113, .getfield 785, 116), (116, .iastore, 117), (117, .iconst 0, 118), (118, .istore 3, 119), (119, .iload 3, 120), (120, .aload 0, 121), (121, .getfield 784, 124), (124, .if_icmp .ge 154, 127), (127, .aload 0, 128), (128, .getfield 768, 131), (131, .iconst 217, 134), (134, .iconst 96, 136), (136, .iload 2, 137), (137, .imul, 138), (138, .iadd, 139), (139, .iload 3, 140), (140, .iadd, 141), (141, .aload 0, 142), (142, .getfield 783, 145), (145, .iload 3, 146), (146, .iaload, 147), (147, .iastore, 148), (148, .iinc 3 1, 151), (151, .goto 119, 154), (154, .aload 0, 155), (155, .getfield 768, 158), (158, .iconst 6, 160), (160, .dup2, 161), (161, .iaload, 162), (162, .iconst 1, 163), (163, .iadd, 164), (164, .iastore, 165), (165, .iload 2, 166), (166, .ireturn, 167)]
set_option maxRecDepth 20000 in
def kp_X12_text : List (Instr × Nat) := [(.aload_n 0, 0), (.iconst 0, 0), (.putfield 195, 1199), (.aload_n 0, 0), (.iconst (-1), 0), (.putfield 201, 1203), (.aload_n 0, 0), (.invokevirtual 219, 1504), (.aload_n 0, 0), (.invokevirtual 252, 1516), (.ifCond .eq 14, 0), (.aload_n 0, 0), (.invokevirtual 255, 1520), (.ifCond .eq 7, 0), (.iconst 1, 0), (.goto 4, 0), (.iconst 0, 0), (.istore_n 1, 0), (.aload_n 0, 0), (.iconst 0, 0), (.putfield 191, 1198), (.iload_n 1, 0), (.ifCond .ne 11, 0), (.bipush (-100), 0), (.aload_n 0, 0), (.getfield 198, 1200), (.isub, 0), (.ireturn, 0), (.aload_n 0, 0), (.getfield 9, 1192), (.bipush 6, 0), (.iaload, 0), (.bipush 14, 0), (.if_icmp .ne 6, 0), (.ldc 114, 1334), (.ireturn, 0), (.aload_n 0, 0), (.getfield 9, 1192), (.bipush 6, 0), (.iaload, 0), (.istore_n 2, 0), (.aload_n 0, 0), (.getfield 9, 1192), (.sipush 189, 0), (.iconst 2, 0), (.iload_n 2, 0), (.imul, 0), (.iadd, 0), (.sipush 1000, 0), (.aload_n 0, 0), (.getfield 216, 1204), (.imul, 0), (.aload_n 0, 0), (.getfield 228, 1208), (.iadd, 0), (.iastore, 0), (.aload_n 0, 0), (.getfield 9, 1192), (.sipush 189, 0), (.iconst 2, 0), (.iload_n 2, 0), (.imul, 0), (.iadd, 0), (.iconst 1, 0), (.iadd, 0), (.aload_n 0, 0), (.getfield 234, 1209), (.iastore, 0), (.iconst 0, 0), (.istore_n 3, 0), (.iload_n 3, 0), (.aload_n 0, 0), (.getfield 228, 1208), (.if_icmp .ge 30, 0), (.aload_n 0, 0), (.getfield 9, 1192), (.sipush 217, 0), (.bipush 96, 0), (.iload_n 2, 0), (.imul, 0), (.iadd, 0), (.iload_n 3, 0), (.iadd, 0), (.aload_n 0, 0), (.getfield 33, 1207), (.iload_n 3, 0), (.iaload, 0), (.iastore, 0), (.iinc 3 1, 0), (.goto (-32), 0), (.aload_n 0, 0), (.getfield 9, 1192), (.bipush 6, 0), (.dup2, 0), (.iaload, 0), (.iconst 1, 0), (.iadd, 0), (.iastore, 0), (.iload_n 2, 0), (.ireturn, 0)]
set_option maxRecDepth 20000 in
def kc_X12_textTold : am_C := [(0, .iload 1, 1), (1, .iconst 0, 2), (2, .aload 0, 3), (3, .getfield 768, 6), (6, .iconst 6, 8), (8, .iaload, 9), (9, .iconst 1, 10), (10, .isub, 11), (11, .invokestatic 143, 14), (14, .ifCond .eq 26, 17), (17, .iload 2, 18), (18, .iconst 0, 19), (19, .iconst 1, 20), (20, .invokestatic 143, 23), (23, .ifCond .ne 29, 26), (26, .iconst (-1000000001), 28), (28, .ireturn, 29), (29, .iload 2, 30), (30, .ifCond .ne 52, 33), (33, .aload 0, 34), (34, .getfield 768, 37), (37, .iconst 189, 40), (40, .iconst 2, 41), (41, .iload 1, 42), (42, .imul, 43), (43, .iadd, 44), (44, .iaload, 45), (45, .iconst 1000, 48), (48, .idiv, 49), (49, .goto 66, 52), (52, .aload 0, 53), (53, .getfield 768, 56), (56, .iconst 189, 59), (59, .iconst 2, 60), (60, .iload 1, 61), (61, .imul, 62), (62, .iadd, 63), (63, .iconst 1, 64), (64, .iadd, 65), (65, .iaload, 66), (66, .ireturn, 67)]
set_option maxRecDepth 20000 in
def kp_X12_textTold : List (Instr × Nat) := [(.iload_n 1, 0), (.iconst 0, 0), (.aload_n 0, 0), (.getfield 9, 1192), (.bipush 6, 0), (.iaload, 0), (.iconst 1, 0), (.isub, 0), (.invokestatic 105, 1343), (.ifCond .eq 12, 0), (.iload_n 2, 0), (.iconst 0, 0), (.iconst 1, 0), (.invokestatic 105, 1343), (.ifCond .ne 6, 0), (.ldc 113, 1333), (.ireturn, 0), (.iload_n 2, 0), (.ifCond .ne 22, 0), (.aload_n 0, 0), (.getfield 9, 1192), (.sipush 189, 0), (.iconst 2, 0), (.iload_n 1, 0), (.imul, 0), (.iadd, 0), (.iaload, 0), (.sipush 1000, 0), (.idiv, 0), (.goto 17, 0), (.aload_n 0, 0), (.getfield 9, 1192), (.sipush 189, 0), (.iconst 2, 0), (.iload_n 1, 0), (.imul, 0), (.iadd, 0), (.iconst 1, 0), (.iadd, 0), (.iaload, 0), (.ireturn, 0)]
set_option maxRecDepth 20000 in
def kc_X12_counts : am_C := [(0, .aload 0, 1), (1, .getfield 768, 4), (4, .iconst 6, 6), (6, .iaload, 7), (7, .iconst 1, 8), (8, .isub, 9), (9, .istore 2, 10), (10, .iload 2, 11), (11, .ifCond .lt 42, 14), (14, .aload 0, 15), (15, .getfield 768, 18), (18, .iconst 189, 21), (21, .iconst 2, 22), (22, .iload 2, 23), (23, .imul, 24), (24, .iadd, 25), (25, .iaload, 26), (26, .iconst 1000, 29), (29, .idiv, 30), (30, .iload 1, 31), (31, .if_icmp .ne 36, 34), (34, .iload 2, 35), (35, .ireturn, 36), (36, .iinc 2 (-1), 39), (39, .goto 10, 42), (42, .iconst (-1), 43), (43, .ireturn, 44)]
set_option maxRecDepth 20000 in
def kp_X12_counts : List (Instr × Nat) := [(.aload_n 0, 0), (.getfield 9, 1192), (.bipush 6, 0), (.iaload, 0), (.iconst 1, 0), (.isub, 0), (.istore_n 2, 0), (.iload_n 2, 0), (.ifCond .lt 31, 0), (.aload_n 0, 0), (.getfield 9, 1192), (.sipush 189, 0), (.iconst 2, 0), (.iload_n 2, 0), (.imul, 0), (.iadd, 0), (.iaload, 0), (.sipush 1000, 0), (.idiv, 0), (.iload_n 1, 0), (.if_icmp .ne 5, 0), (.iload_n 2, 0), (.ireturn, 0), (.iinc 2 (-1), 0), (.goto (-29), 0), (.iconst (-1), 0), (.ireturn, 0)]
set_option maxRecDepth 20000 in
def kc_X12_why : am_C := [(0, .iload 1, 1), (1, .iconst 0, 2), (2, .iconst 3, 3), (3, .invokestatic 143, 6), (6, .ifCond .ne 12, 9), (9, .iconst (-1000000001), 11), (11, .ireturn, 12), (12, .aload 0, 13), (13, .iload 1, 14), (14, .invokevirtual 198, 17), (17, .istore 2, 18), (18, .iload 2, 19), (19, .ifCond .ge 28, 22), (22, .iconst (-1000000005), 25), (25, .goto 29, 28), (28, .iload 2, 29), (29, .ireturn, 30)]
set_option maxRecDepth 20000 in
def kp_X12_why : List (Instr × Nat) := [(.iload_n 1, 0), (.iconst 0, 0), (.iconst 3, 0), (.invokestatic 105, 1343), (.ifCond .ne 6, 0), (.ldc 113, 1333), (.ireturn, 0), (.aload_n 0, 0), (.iload_n 1, 0), (.invokevirtual 138, 1386), (.istore_n 2, 0), (.iload_n 2, 0), (.ifCond .ge 9, 0), (.ldc_w 258, 1555), (.goto 4, 0), (.iload_n 2, 0), (.ireturn, 0)]
set_option maxRecDepth 20000 in
def kc_X12_two : am_C := [(0, .iload 0, 1), (1, .tableswitch 121 (-8) (-1) #[117, 113, 109, 98, 87, 76, 62, 48], 48), (48, .iload 1, 49), (49, .ifCond .ne 56, 52), (52, .iload 2, 53), (53, .ifCond .eq 60, 56), (56, .iconst 1, 57), (57, .goto 61, 60), (60, .iconst 0, 61), (61, .ireturn, 62), (62, .iload 1, 63), (63, .ifCond .eq 74, 66), (66, .iload 2, 67), (67, .ifCond .eq 74, 70), (70, .iconst 1, 71), (71, .goto 75, 74), (74, .iconst 0, 75), (75, .ireturn, 76), (76, .iload 1, 77), (77, .iload 2, 78), (78, .if_icmp .ge 85, 81), (81, .iconst 1, 82), (82, .goto 86, 85), (85, .iconst 0, 86), (86, .ireturn, 87), (87, .iload 1, 88), (88, .iload 2, 89), (89, .if_icmp .ne 96, 92), (92, .iconst 1, 93), (93, .goto 97, 96), (96, .iconst 0, 97), (97, .ireturn, 98), (98, .iload 1, 99), (99, .iload 2, 100), (100, .if_icmp .le 107, 103), (103, .iconst 1, 104), (104, .goto 108, 107), (107, .iconst 0, 108), (108, .ireturn, 109), (109, .iload 1, 110), (110, .iload 2, 111), (111, .iadd, 112), (112, .ireturn, 113), (113, .iload 1, 114), (114, .iload 2, 115), (115, .isub, 116), (116, .ireturn, 117), (117, .iload 1, 118), (118, .iload 2, 119), (119, .imul, 120), (120, .ireturn, 121), (121, .iload 2, 122), (122, .ifCond .ne 129, 125), (125, .iconst 0, 126), (126, .goto 132, 129), (129, .iload 1, 130), (130, .iload 2, 131), (131, .idiv, 132), (132, .ireturn, 133)]
set_option maxRecDepth 20000 in
def kp_X12_two : List (Instr × Nat) := [(.iload_n 0, 0), (.tableswitch 120 (-8) (-1) #[116, 112, 108, 97, 86, 75, 61, 47], 0), (.iload_n 1, 0), (.ifCond .ne 7, 0), (.iload_n 2, 0), (.ifCond .eq 7, 0), (.iconst 1, 0), (.goto 4, 0), (.iconst 0, 0), (.ireturn, 0), (.iload_n 1, 0), (.ifCond .eq 11, 0), (.iload_n 2, 0), (.ifCond .eq 7, 0), (.iconst 1, 0), (.goto 4, 0), (.iconst 0, 0), (.ireturn, 0), (.iload_n 1, 0), (.iload_n 2, 0), (.if_icmp .ge 7, 0), (.iconst 1, 0), (.goto 4, 0), (.iconst 0, 0), (.ireturn, 0), (.iload_n 1, 0), (.iload_n 2, 0), (.if_icmp .ne 7, 0), (.iconst 1, 0), (.goto 4, 0), (.iconst 0, 0), (.ireturn, 0), (.iload_n 1, 0), (.iload_n 2, 0), (.if_icmp .le 7, 0), (.iconst 1, 0), (.goto 4, 0), (.iconst 0, 0), (.ireturn, 0), (.iload_n 1, 0), (.iload_n 2, 0), (.iadd, 0), (.ireturn, 0), (.iload_n 1, 0), (.iload_n 2, 0), (.isub, 0), (.ireturn, 0), (.iload_n 1, 0), (.iload_n 2, 0), (.imul, 0), (.ireturn, 0), (.iload_n 2, 0), (.ifCond .ne 7, 0), (.iconst 0, 0), (.goto 6, 0), (.iload_n 1, 0), (.iload_n 2, 0), (.idiv, 0), (.ireturn, 0)]
set_option maxRecDepth 20000 in
def kc_X12_worksOut : am_C := [(0, .iconst 0, 1), (1, .istore 2, 2), (2, .aload 0, 3), (3, .getfield 768, 6), (6, .iconst 189, 9), (9, .iconst 2, 10), (10, .iload 1, 11), (11, .imul, 12), (12, .iadd, 13), (13, .iaload, 14), (14, .iconst 1000, 17), (17, .irem, 18), (18, .istore 3, 19), (19, .iconst 0, 20), (20, .istore 4, 22), (22, .iload 4, 24), (24, .iload 3, 25), (25, .if_icmp .ge 157, 28), (28, .aload 0, 29), (29, .getfield 768, 32), (32, .iconst 217, 35), (35, .iconst 96, 37), (37, .iload 1, 38), (38, .imul, 39), (39, .iadd, 40), (40, .iload 4, 42), (42, .iadd, 43), (43, .iaload, 44), (44, .istore 5, 46), (46, .iload 5, 48), (48, .ifCond .lt 87, 51), (51, .aload 0, 52), (52, .getfield 789, 55), (55, .iload 2, 56), (56, .iload 5, 58), (58, .iconst 10000, 61), (61, .if_icmp .ge 69, 64), (64, .iload 5, 66), (66, .goto 80, 69), (69, .aload 0, 70), (70, .getfield 790, 73), (73, .iload 5, 75), (75, .iconst 10000, 78), (78, .isub, 79), (79, .iaload, 80), (80, .iastore, 81), (81, .iinc 2 1, 84), (84, .goto 151, 87), (87, .iload 5, 89), (89, .iconst (-10), 91), (91, .if_icmp .ne 121, 94), (94, .aload 0, 95), (95, .getfield 789, 98), (98, .iload 2, 99), (99, .iconst 1, 100), (100, .isub, 101), (101, .aload 0, 102), (102, .getfield 789, 105), (105, .iload 2, 106), (106, .iconst 1, 107), (107, .isub, 108), (108, .iaload, 109), (109, .ifCond .ne 116, 112), (112, .iconst 1, 113), (113, .goto 117, 116), (116, .iconst 0, 117), (117, .iastore, 118), (118, .goto 151, 121), (121, .iinc 2 (-1), 124), (124, .aload 0, 125), (125, .getfield 789, 128), (128, .iload 2, 129), (129, .iconst 1, 130), (130, .isub, 131), (131, .iload 5, 133), (133, .aload 0, 134), (134, .getfield 789, 137), (137, .iload 2, 138), (138, .iconst 1, 139), (139, .isub, 140), (140, .iaload, 141), (141, .aload 0, 142), (142, .getfield 789, 145), (145, .iload 2, 146), (146, .iaload, 147), (147, .invokestatic 200, 150), (150, .iastore, 151), (151, .iinc 4 1, 154), (154, .goto 22, 157), (157, .aload 0, 158), (158, .getfield 789, 161), (161, .iconst 0, 162), (162, .iaload, 163), (163, .ireturn, 164)]
set_option maxRecDepth 20000 in
def kp_X12_worksOut : List (Instr × Nat) := [(.iconst 0, 0), (.istore_n 2, 0), (.aload_n 0, 0), (.getfield 9, 1192), (.sipush 189, 0), (.iconst 2, 0), (.iload_n 1, 0), (.imul, 0), (.iadd, 0), (.iaload, 0), (.sipush 1000, 0), (.irem, 0), (.istore_n 3, 0), (.iconst 0, 0), (.istore 4, 0), (.iload 4, 0), (.iload_n 3, 0), (.if_icmp .ge 132, 0), (.aload_n 0, 0), (.getfield 9, 1192), (.sipush 217, 0), (.bipush 96, 0), (.iload_n 1, 0), (.imul, 0), (.iadd, 0), (.iload 4, 0), (.iadd, 0), (.iaload, 0), (.istore 5, 0), (.iload 5, 0), (.ifCond .lt 39, 0), (.aload_n 0, 0), (.getfield 42, 1213), (.iload_n 2, 0), (.iload 5, 0), (.sipush 10000, 0), (.if_icmp .ge 8, 0), (.iload 5, 0), (.goto 14, 0), (.aload_n 0, 0), (.getfield 45, 1214), (.iload 5, 0), (.sipush 10000, 0), (.isub, 0), (.iaload, 0), (.iastore, 0), (.iinc 2 1, 0), (.goto 67, 0), (.iload 5, 0), (.bipush (-10), 0), (.if_icmp .ne 30, 0), (.aload_n 0, 0), (.getfield 42, 1213), (.iload_n 2, 0), (.iconst 1, 0), (.isub, 0), (.aload_n 0, 0), (.getfield 42, 1213), (.iload_n 2, 0), (.iconst 1, 0), (.isub, 0), (.iaload, 0), (.ifCond .ne 7, 0), (.iconst 1, 0), (.goto 4, 0), (.iconst 0, 0), (.iastore, 0), (.goto 33, 0), (.iinc 2 (-1), 0), (.aload_n 0, 0), (.getfield 42, 1213), (.iload_n 2, 0), (.iconst 1, 0), (.isub, 0), (.iload 5, 0), (.aload_n 0, 0), (.getfield 42, 1213), (.iload_n 2, 0), (.iconst 1, 0), (.isub, 0), (.iaload, 0), (.aload_n 0, 0), (.getfield 42, 1213), (.iload_n 2, 0), (.iaload, 0), (.invokestatic 259, 1394), (.iastore, 0), (.iinc 4 1, 0), (.goto (-132), 0), (.aload_n 0, 0), (.getfield 42, 1213), (.iconst 0, 0), (.iaload, 0), (.ireturn, 0)]
set_option maxRecDepth 20000 in
def kc_X12_dark : am_C := [(0, .aload 0, 1), (1, .iload 1, 2), (2, .invokevirtual 148, 5), (5, .ifCond .ne 11, 8), (8, .iconst (-1000000001), 10), (10, .ireturn, 11), (11, .iconst 77, 13), (13, .iconst 7, 15), (15, .iload 1, 16), (16, .imul, 17), (17, .iadd, 18), (18, .iconst 6, 20), (20, .iadd, 21), (21, .istore 3, 22), (22, .aload 0, 23), (23, .getfield 768, 26), (26, .iload 3, 27), (27, .iaload, 28), (28, .istore 4, 30), (30, .aload 0, 31), (31, .getfield 768, 34), (34, .iload 3, 35), (35, .iload 2, 36), (36, .ifCond .eq 43, 39), (39, .iconst 1, 40), (40, .goto 44, 43), (43, .iconst 0, 44), (44, .iastore, 45), (45, .iload 4, 47), (47, .aload 0, 48), (48, .getfield 768, 51), (51, .iload 3, 52), (52, .iaload, 53), (53, .if_icmp .ne 60, 56), (56, .iconst 0, 57), (57, .goto 61, 60), (60, .iconst 1, 61), (61, .ireturn, 62)]
set_option maxRecDepth 20000 in
def kp_X12_dark : List (Instr × Nat) := [(.aload_n 0, 0), (.iload_n 1, 0), (.invokevirtual 164, 1424), (.ifCond .ne 6, 0), (.ldc 113, 1333), (.ireturn, 0), (.bipush 77, 0), (.bipush 7, 0), (.iload_n 1, 0), (.imul, 0), (.iadd, 0), (.bipush 6, 0), (.iadd, 0), (.istore_n 3, 0), (.aload_n 0, 0), (.getfield 9, 1192), (.iload_n 3, 0), (.iaload, 0), (.istore 4, 0), (.aload_n 0, 0), (.getfield 9, 1192), (.iload_n 3, 0), (.iload_n 2, 0), (.ifCond .eq 7, 0), (.iconst 1, 0), (.goto 4, 0), (.iconst 0, 0), (.iastore, 0), (.iload 4, 0), (.aload_n 0, 0), (.getfield 9, 1192), (.iload_n 3, 0), (.iaload, 0), (.if_icmp .ne 7, 0), (.iconst 0, 0), (.goto 4, 0), (.iconst 1, 0), (.ireturn, 0)]
set_option maxRecDepth 20000 in
def kc_X12_findBehind : am_C := [(0, .iconst 0, 1), (1, .istore 1, 2), (2, .iload 1, 3), (3, .iconst 12, 5), (5, .if_icmp .ge 28, 8), (8, .aload 0, 9), (9, .getfield 791, 12), (12, .iload 1, 13), (13, .iconst 0, 14), (14, .iastore, 15), (15, .aload 0, 16), (16, .getfield 792, 19), (19, .iload 1, 20), (20, .iconst 0, 21), (21, .iastore, 22), (22, .iinc 1 1, 25), (25, .goto 2, 28), (28, .iconst 0, 29), (29, .istore 1, 30), (30, .iload 1, 31), (31, .iconst 3, 32), (32, .if_icmp .ge 55, 35), (35, .aload 0, 36), (36, .getfield 793, 39), (39, .iload 1, 40), (40, .iconst 0, 41), (41, .iastore, 42), (42, .aload 0, 43), (43, .getfield 794, 46), (46, .iload 1, 47), (47, .iconst 0, 48), (48, .iastore, 49), (49, .iinc 1 1, 52), (52, .goto 30, 55), (55, .iconst 0, 56), (56, .istore 1, 57), (57, .iload 1, 58), (58, .aload 0, 59), (59, .getfield 768, 62), (62, .iconst 5, 63), (63, .iaload, 64), (64, .if_icmp .ge 167, 67), (67, .aload 0, 68), (68, .iload 1, 69), (69, .invokevirtual 156, 72), (72, .ifCond .eq 161, 75), (75, .aload 0, 76), (76, .iload 1, 77), (77, .iconst 6, 79), (79, .invokevirtual 152, 82), (82, .iconst 1, 83), (83, .if_icmp .ne 90, 86), (86, .iconst 0, 87), (87, .goto 91, 90), (90, .iconst 1, 91), (91, .istore 2, 92), (92, .aload 0, 93), (93, .iload 1, 94), (94, .iconst 1, 95), (95, .invokevirtual 152, 98), (98, .istore 3, 99), (99, .iload 3, 100), (100, .iconst 100, 102), (102, .if_icmp .ge 135, 105), (105, .aload 0, 106), (106, .getfield 791, 109), (109, .iload 3, 110), (110, .dup2, 111), (111, .iaload, 112), (112, .iconst 1, 113), (113, .iadd, 114), (114, .iastore, 115), (115, .aload 0, 116), (116, .getfield 792, 119), (119, .iload 3, 120), (120, .dup2, 121), (121, .iaload, 122), (122, .iload 2, 123), (123, .iadd, 124), (124, .iastore, 125), (125, .aload 0, 126), (126, .iload 3, 127), (127, .iconst 0, 128), (128, .invokevirtual 151, 131), (131, .istore 3, 132), (132, .goto 99, 135), (135, .aload 0, 136), (136, .getfield 793, 139), (139, .iload 3, 140), (140, .iconst 100, 142), (142, .isub, 143), (143, .dup2, 144), (144, .iaload, 145), (145, .iconst 1, 146), (146, .iadd, 147), (147, .iastore, 148), (148, .aload 0, 149), (149, .getfield 794, 152), (152, .iload 3, 153), (153, .iconst 100, 155), (155, .isub, 156), (156, .dup2, 157), (157, .iaload, 158), (158, .iload 2, 159), (159, .iadd, 160), (160, .iastore, 161), (161, .iinc 1 1, 164), (164, .goto 57, 167), (167, .return_, 168)]
set_option maxRecDepth 20000 in
def kp_X12_findBehind : List (Instr × Nat) := [(.iconst 0, 0), (.istore_n 1, 0), (.iload_n 1, 0), (.bipush 12, 0), (.if_icmp .ge 23, 0), (.aload_n 0, 0), (.getfield 48, 1215), (.iload_n 1, 0), (.iconst 0, 0), (.iastore, 0), (.aload_n 0, 0), (.getfield 51, 1216), (.iload_n 1, 0), (.iconst 0, 0), (.iastore, 0), (.iinc 1 1, 0), (.goto (-23), 0), (.iconst 0, 0), (.istore_n 1, 0), (.iload_n 1, 0), (.iconst 3, 0), (.if_icmp .ge 23, 0), (.aload_n 0, 0), (.getfield 54, 1217), (.iload_n 1, 0), (.iconst 0, 0), (.iastore, 0), (.aload_n 0, 0), (.getfield 57, 1218), (.iload_n 1, 0), (.iconst 0, 0), (.iastore, 0), (.iinc 1 1, 0), (.goto (-22), 0), (.iconst 0, 0), (.istore_n 1, 0), (.iload_n 1, 0), (.aload_n 0, 0), (.getfield 9, 1192), (.iconst 5, 0), (.iaload, 0), (.if_icmp .ge 103, 0), (.aload_n 0, 0), (.iload_n 1, 0), (.invokevirtual 132, 1370), (.ifCond .eq 89, 0), (.aload_n 0, 0), (.iload_n 1, 0), (.bipush 6, 0), (.invokevirtual 122, 1358), (.iconst 1, 0), (.if_icmp .ne 7, 0), (.iconst 0, 0), (.goto 4, 0), (.iconst 1, 0), (.istore_n 2, 0), (.aload_n 0, 0), (.iload_n 1, 0), (.iconst 1, 0), (.invokevirtual 122, 1358), (.istore_n 3, 0), (.iload_n 3, 0), (.bipush 100, 0), (.if_icmp .ge 33, 0), (.aload_n 0, 0), (.getfield 48, 1215), (.iload_n 3, 0), (.dup2, 0), (.iaload, 0), (.iconst 1, 0), (.iadd, 0), (.iastore, 0), (.aload_n 0, 0), (.getfield 51, 1216), (.iload_n 3, 0), (.dup2, 0), (.iaload, 0), (.iload_n 2, 0), (.iadd, 0), (.iastore, 0), (.aload_n 0, 0), (.iload_n 3, 0), (.iconst 0, 0), (.invokevirtual 119, 1366), (.istore_n 3, 0), (.goto (-33), 0), (.aload_n 0, 0), (.getfield 54, 1217), (.iload_n 3, 0), (.bipush 100, 0), (.isub, 0), (.dup2, 0), (.iaload, 0), (.iconst 1, 0), (.iadd, 0), (.iastore, 0), (.aload_n 0, 0), (.getfield 57, 1218), (.iload_n 3, 0), (.bipush 100, 0), (.isub, 0), (.dup2, 0), (.iaload, 0), (.iload_n 2, 0), (.iadd, 0), (.iastore, 0), (.iinc 1 1, 0), (.goto (-107), 0), (.return_, 0)]
set_option maxRecDepth 20000 in
def kc_X12_findBlamed : am_C := [(0, .aload 0, 1), (1, .invokevirtual 203, 4), (4, .iconst 0, 5), (5, .istore 1, 6), (6, .iload 1, 7), (7, .aload 0, 8), (8, .getfield 768, 11), (11, .iconst 3, 12), (12, .iaload, 13), (13, .if_icmp .ge 52, 16), (16, .aload 0, 17), (17, .getfield 795, 20), (20, .iload 1, 21), (21, .aload 0, 22), (22, .getfield 793, 25), (25, .iload 1, 26), (26, .iaload, 27), (27, .iconst 2, 28), (28, .if_icmp .lt 44, 31), (31, .aload 0, 32), (32, .getfield 794, 35), (35, .iload 1, 36), (36, .iaload, 37), (37, .ifCond .ne 44, 40), (40, .iconst 1, 41), (41, .goto 45, 44), (44, .iconst 0, 45), (45, .bastore, 46), (46, .iinc 1 1, 49), (49, .goto 6, 52), (52, .iconst 0, 53), (53, .istore 1, 54), (54, .iload 1, 55), (55, .aload 0, 56), (56, .getfield 768, 59), (59, .iconst 4, 60), (60, .iaload, 61), (61, .if_icmp .ge 160, 64), (64, .aload 0, 65), (65, .iload 1, 66), (66, .iconst 0, 67), (67, .invokevirtual 151, 70), (70, .istore 2, 71), (71, .iload 2, 72), (72, .iconst 100, 74), (74, .if_icmp .lt 89, 77), (77, .aload 0, 78), (78, .getfield 795, 81), (81, .iload 2, 82), (82, .iconst 100, 84), (84, .isub, 85), (85, .baload, 86), (86, .goto 95, 89), (89, .aload 0, 90), (90, .getfield 798, 93), (93, .iload 2, 94), (94, .baload, 95), (95, .istore 3, 96), (96, .aload 0, 97), (97, .getfield 796, 100), (100, .iload 1, 101), (101, .iload 3, 102), (102, .ifCond .ne 128, 105), (105, .aload 0, 106), (106, .getfield 791, 109), (109, .iload 1, 110), (110, .iaload, 111), (111, .iconst 2, 112), (112, .if_icmp .lt 128, 115), (115, .aload 0, 116), (116, .getfield 792, 119), (119, .iload 1, 120), (120, .iaload, 121), (121, .ifCond .ne 128, 124), (124, .iconst 1, 125), (125, .goto 129, 128), (128, .iconst 0, 129), (129, .bastore, 130), (130, .aload 0, 131), (131, .getfield 798, 134), (134, .iload 1, 135), (135, .iload 3, 136), (136, .ifCond .ne 148, 139), (139, .aload 0, 140), (140, .getfield 796, 143), (143, .iload 1, 144), (144, .baload, 145), (145, .ifCond .eq 152, 148), (148, .iconst 1, 149), (149, .goto 153, 152), (152, .iconst 0, 153), (153, .bastore, 154), (154, .iinc 1 1, 157), (157, .goto 54, 160), (160, .iconst 0, 161), (161, .istore 1, 162), (162, .iload 1, 163), (163, .aload 0, 164), (164, .getfield 768, 167), (167, .iconst 5, 168), (168, .iaload, 169), (169, .if_icmp .ge 222, 172), (172, .aload 0, 173), (173, .getfield 797, 176), (176, .iload 1, 177), (177, .aload 0, 178), (178, .getfield 798, 181), (181, .aload 0, 182), (182, .iload 1, 183), (183, .iconst 1, 184), (184, .invokevirtual 152, 187), (187, .baload, 188), (188, .ifCond .ne 214, 191), (191, .aload 0, 192), (192, .iload 1, 193), (193, .invokevirtual 156, 196), (196, .ifCond .eq 214, 199), (199, .aload 0, 200), (200, .iload 1, 201), (201, .iconst 6, 203), (203, .invokevirtual 152, 206), (206, .iconst 1, 207), (207, .if_icmp .ne 214, 210), (210, .iconst 1, 211), (211, .goto 215, 214), (214, .iconst 0, 215), (215, .bastore, 216), (216, .iinc 1 1, 219), (219, .goto 162, 222), (222, .return_, 223)]
set_option maxRecDepth 20000 in
def kp_X12_findBlamed : List (Instr × Nat) := [(.aload_n 0, 0), (.invokevirtual 262, 1568), (.iconst 0, 0), (.istore_n 1, 0), (.iload_n 1, 0), (.aload_n 0, 0), (.getfield 9, 1192), (.iconst 3, 0), (.iaload, 0), (.if_icmp .ge 39, 0), (.aload_n 0, 0), (.getfield 60, 1219), (.iload_n 1, 0), (.aload_n 0, 0), (.getfield 54, 1217), (.iload_n 1, 0), (.iaload, 0), (.iconst 2, 0), (.if_icmp .lt 16, 0), (.aload_n 0, 0), (.getfield 57, 1218), (.iload_n 1, 0), (.iaload, 0), (.ifCond .ne 7, 0), (.iconst 1, 0), (.goto 4, 0), (.iconst 0, 0), (.bastore, 0), (.iinc 1 1, 0), (.goto (-43), 0), (.iconst 0, 0), (.istore_n 1, 0), (.iload_n 1, 0), (.aload_n 0, 0), (.getfield 9, 1192), (.iconst 4, 0), (.iaload, 0), (.if_icmp .ge 99, 0), (.aload_n 0, 0), (.iload_n 1, 0), (.iconst 0, 0), (.invokevirtual 119, 1366), (.istore_n 2, 0), (.iload_n 2, 0), (.bipush 100, 0), (.if_icmp .lt 15, 0), (.aload_n 0, 0), (.getfield 60, 1219), (.iload_n 2, 0), (.bipush 100, 0), (.isub, 0), (.baload, 0), (.goto 9, 0), (.aload_n 0, 0), (.getfield 69, 1222), (.iload_n 2, 0), (.baload, 0), (.istore_n 3, 0), (.aload_n 0, 0), (.getfield 63, 1220), (.iload_n 1, 0), (.iload_n 3, 0), (.ifCond .ne 26, 0), (.aload_n 0, 0), (.getfield 48, 1215), (.iload_n 1, 0), (.iaload, 0), (.iconst 2, 0), (.if_icmp .lt 16, 0), (.aload_n 0, 0), (.getfield 51, 1216), (.iload_n 1, 0), (.iaload, 0), (.ifCond .ne 7, 0), (.iconst 1, 0), (.goto 4, 0), (.iconst 0, 0), (.bastore, 0), (.aload_n 0, 0), (.getfield 69, 1222), (.iload_n 1, 0), (.iload_n 3, 0), (.ifCond .ne 12, 0), (.aload_n 0, 0), (.getfield 63, 1220), (.iload_n 1, 0), (.baload, 0), (.ifCond .eq 7, 0), (.iconst 1, 0), (.goto 4, 0), (.iconst 0, 0), (.bastore, 0), (.iinc 1 1, 0), (.goto (-103), 0), (.iconst 0, 0), (.istore_n 1, 0), (.iload_n 1, 0), (.aload_n 0, 0), (.getfield 9, 1192), (.iconst 5, 0), (.iaload, 0), (.if_icmp .ge 53, 0), (.aload_n 0, 0), (.getfield 66, 1221), (.iload_n 1, 0), (.aload_n 0, 0), (.getfield 69, 1222), (.aload_n 0, 0), (.iload_n 1, 0), (.iconst 1, 0), (.invokevirtual 122, 1358), (.baload, 0), (.ifCond .ne 26, 0), (.aload_n 0, 0), (.iload_n 1, 0), (.invokevirtual 132, 1370), (.ifCond .eq 18, 0), (.aload_n 0, 0), (.iload_n 1, 0), (.bipush 6, 0), (.invokevirtual 122, 1358), (.iconst 1, 0), (.if_icmp .ne 7, 0), (.iconst 1, 0), (.goto 4, 0), (.iconst 0, 0), (.bastore, 0), (.iinc 1 1, 0), (.goto (-57), 0), (.return_, 0)]
set_option maxRecDepth 20000 in
def kc_X12_blame : am_C := [(0, .aload 0, 1), (1, .iload 1, 2), (2, .iload 2, 3), (3, .invokevirtual 174, 6), (6, .ifCond .ge 12, 9), (9, .iconst (-1000000001), 11), (11, .ireturn, 12), (12, .aload 0, 13), (13, .invokevirtual 204, 16), (16, .iload 1, 17), (17, .ifCond .ne 29, 20), (20, .aload 0, 21), (21, .getfield 795, 24), (24, .iload 2, 25), (25, .baload, 26), (26, .goto 49, 29), (29, .iload 1, 30), (30, .iconst 1, 31), (31, .if_icmp .ne 43, 34), (34, .aload 0, 35), (35, .getfield 796, 38), (38, .iload 2, 39), (39, .baload, 40), (40, .goto 49, 43), (43, .aload 0, 44), (44, .getfield 797, 47), (47, .iload 2, 48), (48, .baload, 49), (49, .istore 3, 50), (50, .iload 3, 51), (51, .ifCond .eq 58, 54), (54, .iconst 1, 55), (55, .goto 59, 58), (58, .iconst 0, 59), (59, .ireturn, 60)]
set_option maxRecDepth 20000 in
def kp_X12_blame : List (Instr × Nat) := [(.aload_n 0, 0), (.iload_n 1, 0), (.iload_n 2, 0), (.invokevirtual 181, 1459), (.ifCond .ge 6, 0), (.ldc 113, 1333), (.ireturn, 0), (.aload_n 0, 0), (.invokevirtual 265, 1564), (.iload_n 1, 0), (.ifCond .ne 12, 0), (.aload_n 0, 0), (.getfield 60, 1219), (.iload_n 2, 0), (.baload, 0), (.goto 23, 0), (.iload_n 1, 0), (.iconst 1, 0), (.if_icmp .ne 12, 0), (.aload_n 0, 0), (.getfield 63, 1220), (.iload_n 2, 0), (.baload, 0), (.goto 9, 0), (.aload_n 0, 0), (.getfield 66, 1221), (.iload_n 2, 0), (.baload, 0), (.istore_n 3, 0), (.iload_n 3, 0), (.ifCond .eq 7, 0), (.iconst 1, 0), (.goto 4, 0), (.iconst 0, 0), (.ireturn, 0)]
set_option maxRecDepth 20000 in
def kc_X12_blames : am_C := [(0, .aload 0, 1), (1, .invokevirtual 204, 4), (4, .iconst 0, 5), (5, .istore 1, 6), (6, .iconst 0, 7), (7, .istore 2, 8), (8, .iload 2, 9), (9, .aload 0, 10), (10, .getfield 768, 13), (13, .iconst 3, 14), (14, .iaload, 15), (15, .if_icmp .ge 41, 18), (18, .iload 1, 19), (19, .aload 0, 20), (20, .getfield 795, 23), (23, .iload 2, 24), (24, .baload, 25), (25, .ifCond .eq 32, 28), (28, .iconst 1, 29), (29, .goto 33, 32), (32, .iconst 0, 33), (33, .iadd, 34), (34, .istore 1, 35), (35, .iinc 2 1, 38), (38, .goto 8, 41), (41, .iconst 0, 42), (42, .istore 2, 43), (43, .iload 2, 44), (44, .aload 0, 45), (45, .getfield 768, 48), (48, .iconst 4, 49), (49, .iaload, 50), (50, .if_icmp .ge 76, 53), (53, .iload 1, 54), (54, .aload 0, 55), (55, .getfield 796, 58), (58, .iload 2, 59), (59, .baload, 60), (60, .ifCond .eq 67, 63), (63, .iconst 1, 64), (64, .goto 68, 67), (67, .iconst 0, 68), (68, .iadd, 69), (69, .istore 1, 70), (70, .iinc 2 1, 73), (73, .goto 43, 76), (76, .iconst 0, 77), (77, .istore 2, 78), (78, .iload 2, 79), (79, .aload 0, 80), (80, .getfield 768, 83), (83, .iconst 5, 84), (84, .iaload, 85), (85, .if_icmp .ge 111, 88), (88, .iload 1, 89), (89, .aload 0, 90), (90, .getfield 797, 93), (93, .iload 2, 94), (94, .baload, 95), (95, .ifCond .eq 102, 98), (98, .iconst 1, 99), (99, .goto 103, 102), (102, .iconst 0, 103), (103, .iadd, 104), (104, .istore 1, 105), (105, .iinc 2 1, 108), (108, .goto 78, 111), (111, .iload 1, 112), (112, .ireturn, 113)]
set_option maxRecDepth 20000 in
def kp_X12_blames : List (Instr × Nat) := [(.aload_n 0, 0), (.invokevirtual 265, 1564), (.iconst 0, 0), (.istore_n 1, 0), (.iconst 0, 0), (.istore_n 2, 0), (.iload_n 2, 0), (.aload_n 0, 0), (.getfield 9, 1192), (.iconst 3, 0), (.iaload, 0), (.if_icmp .ge 26, 0), (.iload_n 1, 0), (.aload_n 0, 0), (.getfield 60, 1219), (.iload_n 2, 0), (.baload, 0), (.ifCond .eq 7, 0), (.iconst 1, 0), (.goto 4, 0), (.iconst 0, 0), (.iadd, 0), (.istore_n 1, 0), (.iinc 2 1, 0), (.goto (-30), 0), (.iconst 0, 0), (.istore_n 2, 0), (.iload_n 2, 0), (.aload_n 0, 0), (.getfield 9, 1192), (.iconst 4, 0), (.iaload, 0), (.if_icmp .ge 26, 0), (.iload_n 1, 0), (.aload_n 0, 0), (.getfield 63, 1220), (.iload_n 2, 0), (.baload, 0), (.ifCond .eq 7, 0), (.iconst 1, 0), (.goto 4, 0), (.iconst 0, 0), (.iadd, 0), (.istore_n 1, 0), (.iinc 2 1, 0), (.goto (-30), 0), (.iconst 0, 0), (.istore_n 2, 0), (.iload_n 2, 0), (.aload_n 0, 0), (.getfield 9, 1192), (.iconst 5, 0), (.iaload, 0), (.if_icmp .ge 26, 0), (.iload_n 1, 0), (.aload_n 0, 0), (.getfield 66, 1221), (.iload_n 2, 0), (.baload, 0), (.ifCond .eq 7, 0), (.iconst 1, 0), (.goto 4, 0), (.iconst 0, 0), (.iadd, 0), (.istore_n 1, 0), (.iinc 2 1, 0), (.goto (-30), 0), (.iload_n 1, 0), (.ireturn, 0)]
set_option maxRecDepth 20000 in
def kc_X12_choose : am_C := [(0, .aload 0, 1), (1, .iload 1, 2), (2, .invokevirtual 148, 5), (5, .ifCond .ne 11, 8), (8, .iconst (-1000000001), 10), (10, .ireturn, 11), (11, .iconst 0, 12), (12, .istore 2, 13), (13, .iload 2, 14), (14, .aload 0, 15), (15, .getfield 768, 18), (18, .iconst 7, 20), (20, .iaload, 21), (21, .if_icmp .ge 47, 24), (24, .aload 0, 25), (25, .getfield 768, 28), (28, .iconst 9, 30), (30, .iload 2, 31), (31, .iadd, 32), (32, .iaload, 33), (33, .iload 1, 34), (34, .if_icmp .ne 41, 37), (37, .iconst (-1000000002), 40), (40, .ireturn, 41), (41, .iinc 2 1, 44), (44, .goto 13, 47), (47, .aload 0, 48), (48, .getfield 768, 51), (51, .iconst 7, 53), (53, .iaload, 54), (54, .iconst 8, 56), (56, .if_icmp .ne 62, 59), (59, .iconst (-1000000003), 61), (61, .ireturn, 62), (62, .aload 0, 63), (63, .getfield 768, 66), (66, .iconst 9, 68), (68, .aload 0, 69), (69, .getfield 768, 72), (72, .iconst 7, 74), (74, .iaload, 75), (75, .iadd, 76), (76, .iload 1, 77), (77, .iastore, 78), (78, .aload 0, 79), (79, .getfield 768, 82), (82, .iconst 7, 84), (84, .dup2, 85), (85, .iaload, 86), (86, .iconst 1, 87), (87, .iadd, 88), (88, .iastore, 89), (89, .aload 0, 90), (90, .getfield 768, 93), (93, .iconst 7, 95), (95, .iaload, 96), (96, .ireturn, 97)]
set_option maxRecDepth 20000 in
def kp_X12_choose : List (Instr × Nat) := [(.aload_n 0, 0), (.iload_n 1, 0), (.invokevirtual 164, 1424), (.ifCond .ne 6, 0), (.ldc 113, 1333), (.ireturn, 0), (.iconst 0, 0), (.istore_n 2, 0), (.iload_n 2, 0), (.aload_n 0, 0), (.getfield 9, 1192), (.bipush 7, 0), (.iaload, 0), (.if_icmp .ge 26, 0), (.aload_n 0, 0), (.getfield 9, 1192), (.bipush 9, 0), (.iload_n 2, 0), (.iadd, 0), (.iaload, 0), (.iload_n 1, 0), (.if_icmp .ne 7, 0), (.ldc_w 268, 1580), (.ireturn, 0), (.iinc 2 1, 0), (.goto (-31), 0), (.aload_n 0, 0), (.getfield 9, 1192), (.bipush 7, 0), (.iaload, 0), (.bipush 8, 0), (.if_icmp .ne 6, 0), (.ldc 114, 1334), (.ireturn, 0), (.aload_n 0, 0), (.getfield 9, 1192), (.bipush 9, 0), (.aload_n 0, 0), (.getfield 9, 1192), (.bipush 7, 0), (.iaload, 0), (.iadd, 0), (.iload_n 1, 0), (.iastore, 0), (.aload_n 0, 0), (.getfield 9, 1192), (.bipush 7, 0), (.dup2, 0), (.iaload, 0), (.iconst 1, 0), (.iadd, 0), (.iastore, 0), (.aload_n 0, 0), (.getfield 9, 1192), (.bipush 7, 0), (.iaload, 0), (.ireturn, 0)]
set_option maxRecDepth 20000 in
def kc_X12_clear : am_C := [(0, .aload 0, 1), (1, .getfield 768, 4), (4, .iconst 7, 6), (6, .iaload, 7), (7, .istore 1, 8), (8, .aload 0, 9), (9, .getfield 768, 12), (12, .iconst 7, 14), (14, .iconst 0, 15), (15, .iastore, 16), (16, .iload 1, 17), (17, .ireturn, 18)]
set_option maxRecDepth 20000 in
def kp_X12_clear : List (Instr × Nat) := [(.aload_n 0, 0), (.getfield 9, 1192), (.bipush 7, 0), (.iaload, 0), (.istore_n 1, 0), (.aload_n 0, 0), (.getfield 9, 1192), (.bipush 7, 0), (.iconst 0, 0), (.iastore, 0), (.iload_n 1, 0), (.ireturn, 0)]
set_option maxRecDepth 20000 in
def kc_X12_ones : am_C := [(0, .iconst 0, 1), (1, .istore 1, 2), (2, .iconst 0, 3), (3, .istore 2, 4), (4, .iload 2, 5), (5, .iconst 8, 7), (7, .if_icmp .ge 24, 10), (10, .iload 1, 11), (11, .iload 0, 12), (12, .iload 2, 13), (13, .ishr, 14), (14, .iconst 1, 15), (15, .iand, 16), (16, .iadd, 17), (17, .istore 1, 18), (18, .iinc 2 1, 21), (21, .goto 4, 24), (24, .iload 1, 25), (25, .ireturn, 26)]
set_option maxRecDepth 20000 in
def kp_X12_ones : List (Instr × Nat) := [(.iconst 0, 0), (.istore_n 1, 0), (.iconst 0, 0), (.istore_n 2, 0), (.iload_n 2, 0), (.bipush 8, 0), (.if_icmp .ge 17, 0), (.iload_n 1, 0), (.iload_n 0, 0), (.iload_n 2, 0), (.ishr, 0), (.iconst 1, 0), (.iand, 0), (.iadd, 0), (.istore_n 1, 0), (.iinc 2 1, 0), (.goto (-17), 0), (.iload_n 1, 0), (.ireturn, 0)]
set_option maxRecDepth 20000 in
def kc_X12_sumsTo : am_C := [(0, .iconst 0, 1), (1, .istore 3, 2), (2, .iconst 0, 3), (3, .istore 4, 5), (5, .iload 4, 7), (7, .aload 0, 8), (8, .getfield 768, 11), (11, .iconst 7, 13), (13, .iaload, 14), (14, .if_icmp .ge 55, 17), (17, .iload 1, 18), (18, .iload 4, 20), (20, .ishr, 21), (21, .iconst 1, 22), (22, .iand, 23), (23, .iconst 1, 24), (24, .if_icmp .ne 49, 27), (27, .aload 0, 28), (28, .getfield 799, 31), (31, .iload 4, 33), (33, .iaload, 34), (34, .ifCond .ge 39, 37), (37, .iconst 0, 38), (38, .freturn, 39), (39, .iload 3, 40), (40, .aload 0, 41), (41, .getfield 799, 44), (44, .iload 4, 46), (46, .iaload, 47), (47, .iadd, 48), (48, .istore 3, 49), (49, .iinc 4 1, 52), (52, .goto 5, 55), (55, .iload 3, 56), (56, .iload 2, 57), (57, .if_icmp .ne 64, 60), (60, .iconst 1, 61), (61, .goto 65, 64), (64, .iconst 0, 65), (65, .freturn, 66)]
set_option maxRecDepth 20000 in
def kp_X12_sumsTo : List (Instr × Nat) := [(.iconst 0, 0), (.istore_n 3, 0), (.iconst 0, 0), (.istore 4, 0), (.iload 4, 0), (.aload_n 0, 0), (.getfield 9, 1192), (.bipush 7, 0), (.iaload, 0), (.if_icmp .ge 41, 0), (.iload_n 1, 0), (.iload 4, 0), (.ishr, 0), (.iconst 1, 0), (.iand, 0), (.iconst 1, 0), (.if_icmp .ne 25, 0), (.aload_n 0, 0), (.getfield 72, 1223), (.iload 4, 0), (.iaload, 0), (.ifCond .ge 5, 0), (.iconst 0, 0), (.ireturn, 0), (.iload_n 3, 0), (.aload_n 0, 0), (.getfield 72, 1223), (.iload 4, 0), (.iaload, 0), (.iadd, 0), (.istore_n 3, 0), (.iinc 4 1, 0), (.goto (-47), 0), (.iload_n 3, 0), (.iload_n 2, 0), (.if_icmp .ne 7, 0), (.iconst 1, 0), (.goto 4, 0), (.iconst 0, 0), (.ireturn, 0)]
set_option maxRecDepth 20000 in
def kc_X12_guess : am_C := [(0, .iload 1, 1), (1, .iconst 0, 2), (2, .iconst 9999, 5), (5, .invokestatic 143, 8), (8, .ifCond .ne 14, 11), (11, .iconst (-1000000001), 13), (13, .ireturn, 14), (14, .iconst 0, 15), (15, .istore 2, 16), (16, .iload 2, 17), (17, .aload 0, 18), (18, .getfield 768, 21), (21, .iconst 7, 23), (23, .iaload, 24), (24, .if_icmp .ge 66, 27), (27, .aload 0, 28), (28, .getfield 768, 31), (31, .iconst 9, 33), (33, .iload 2, 34), (34, .iadd, 35), (35, .iaload, 36), (36, .istore 3, 37), (37, .aload 0, 38), (38, .getfield 799, 41), (41, .iload 2, 42), (42, .aload 0, 43), (43, .iload 3, 44), (44, .invokevirtual 156, 47), (47, .ifCond .eq 58, 50), (50, .aload 0, 51), (51, .iload 3, 52), (52, .invokevirtual 160, 55), (55, .goto 59, 58), (58, .iconst (-1), 59), (59, .iastore, 60), (60, .iinc 2 1, 63), (63, .goto 16, 66), (66, .iconst (-1), 67), (67, .istore 2, 68), (68, .iconst 0, 69), (69, .istore 3, 70), (70, .iload 3, 71), (71, .iconst 1, 72), (72, .aload 0, 73), (73, .getfield 768, 76), (76, .iconst 7, 78), (78, .iaload, 79), (79, .ishl, 80), (80, .if_icmp .ge 115, 83), (83, .iload 2, 84), (84, .ifCond .lt 98, 87), (87, .iload 3, 88), (88, .invokestatic 209, 91), (91, .iload 2, 92), (92, .invokestatic 209, 95), (95, .if_icmp .ge 109, 98), (98, .aload 0, 99), (99, .iload 3, 100), (100, .iload 1, 101), (101, .invokevirtual 210, 104), (104, .ifCond .eq 109, 107), (107, .iload 3, 108), (108, .istore 2, 109), (109, .iinc 3 1, 112), (112, .goto 70, 115), (115, .iload 2, 116), (116, .ifCond .ge 125, 119), (119, .iconst (-1000000005), 122), (122, .goto 126, 125), (125, .iload 2, 126), (126, .ireturn, 127)]
set_option maxRecDepth 20000 in
def kp_X12_guess : List (Instr × Nat) := [(.iload_n 1, 0), (.iconst 0, 0), (.sipush 9999, 0), (.invokestatic 105, 1343), (.ifCond .ne 6, 0), (.ldc 113, 1333), (.ireturn, 0), (.iconst 0, 0), (.istore_n 2, 0), (.iload_n 2, 0), (.aload_n 0, 0), (.getfield 9, 1192), (.bipush 7, 0), (.iaload, 0), (.if_icmp .ge 42, 0), (.aload_n 0, 0), (.getfield 9, 1192), (.bipush 9, 0), (.iload_n 2, 0), (.iadd, 0), (.iaload, 0), (.istore_n 3, 0), (.aload_n 0, 0), (.getfield 72, 1223), (.iload_n 2, 0), (.aload_n 0, 0), (.iload_n 3, 0), (.invokevirtual 132, 1370), (.ifCond .eq 11, 0), (.aload_n 0, 0), (.iload_n 3, 0), (.invokevirtual 151, 1378), (.goto 4, 0), (.iconst (-1), 0), (.iastore, 0), (.iinc 2 1, 0), (.goto (-47), 0), (.iconst (-1), 0), (.istore_n 2, 0), (.iconst 0, 0), (.istore_n 3, 0), (.iload_n 3, 0), (.iconst 1, 0), (.aload_n 0, 0), (.getfield 9, 1192), (.bipush 7, 0), (.iaload, 0), (.ishl, 0), (.if_icmp .ge 35, 0), (.iload_n 2, 0), (.ifCond .lt 14, 0), (.iload_n 3, 0), (.invokestatic 269, 1589), (.iload_n 2, 0), (.invokestatic 269, 1589), (.if_icmp .ge 14, 0), (.aload_n 0, 0), (.iload_n 3, 0), (.iload_n 1, 0), (.invokevirtual 272, 1592), (.ifCond .eq 5, 0), (.iload_n 3, 0), (.istore_n 2, 0), (.iinc 3 1, 0), (.goto (-42), 0), (.iload_n 2, 0), (.ifCond .ge 9, 0), (.ldc_w 258, 1555), (.goto 4, 0), (.iload_n 2, 0), (.ireturn, 0)]
set_option maxRecDepth 20000 in
def kc_X12_stop : am_C := [(0, .aload 0, 1), (1, .iload 1, 2), (2, .invokevirtual 147, 5), (5, .ifCond .ne 11, 8), (8, .iconst (-1000000001), 10), (10, .ireturn, 11), (11, .iconst 0, 12), (12, .istore 2, 13), (13, .iload 2, 14), (14, .aload 0, 15), (15, .getfield 768, 18), (18, .iconst 8, 20), (20, .iaload, 21), (21, .if_icmp .ge 47, 24), (24, .aload 0, 25), (25, .getfield 768, 28), (28, .iconst 17, 30), (30, .iload 2, 31), (31, .iadd, 32), (32, .iaload, 33), (33, .iload 1, 34), (34, .if_icmp .ne 41, 37), (37, .iconst (-1000000002), 40), (40, .ireturn, 41), (41, .iinc 2 1, 44), (44, .goto 13, 47), (47, .aload 0, 48), (48, .getfield 768, 51), (51, .iconst 8, 53), (53, .iaload, 54), (54, .iconst 6, 56), (56, .if_icmp .ne 62, 59), (59, .iconst (-1000000003), 61), (61, .ireturn, 62), (62, .aload 0, 63), (63, .getfield 768, 66), (66, .iconst 17, 68), (68, .aload 0, 69), (69, .getfield 768, 72), (72, .iconst 8, 74), (74, .iaload, 75), (75, .iadd, 76), (76, .iload 1, 77), (77, .iastore, 78), (78, .aload 0, 79), (79, .getfield 768, 82), (82, .iconst 8, 84), (84, .dup2, 85), (85, .iaload, 86), (86, .iconst 1, 87), (87, .iadd, 88), (88, .iastore, 89), (89, .aload 0, 90), (90, .getfield 768, 93), (93, .iconst 8, 95), (95, .iaload, 96), (96, .ireturn, 97)]
set_option maxRecDepth 20000 in
def kp_X12_stop : List (Instr × Nat) := [(.aload_n 0, 0), (.iload_n 1, 0), (.invokevirtual 161, 1408), (.ifCond .ne 6, 0), (.ldc 113, 1333), (.ireturn, 0), (.iconst 0, 0), (.istore_n 2, 0), (.iload_n 2, 0), (.aload_n 0, 0), (.getfield 9, 1192), (.bipush 8, 0), (.iaload, 0), (.if_icmp .ge 26, 0), (.aload_n 0, 0), (.getfield 9, 1192), (.bipush 17, 0), (.iload_n 2, 0), (.iadd, 0), (.iaload, 0), (.iload_n 1, 0), (.if_icmp .ne 7, 0), (.ldc_w 268, 1580), (.ireturn, 0), (.iinc 2 1, 0), (.goto (-31), 0), (.aload_n 0, 0), (.getfield 9, 1192), (.bipush 8, 0), (.iaload, 0), (.bipush 6, 0), (.if_icmp .ne 6, 0), (.ldc 114, 1334), (.ireturn, 0), (.aload_n 0, 0), (.getfield 9, 1192), (.bipush 17, 0), (.aload_n 0, 0), (.getfield 9, 1192), (.bipush 8, 0), (.iaload, 0), (.iadd, 0), (.iload_n 1, 0), (.iastore, 0), (.aload_n 0, 0), (.getfield 9, 1192), (.bipush 8, 0), (.dup2, 0), (.iaload, 0), (.iconst 1, 0), (.iadd, 0), (.iastore, 0), (.aload_n 0, 0), (.getfield 9, 1192), (.bipush 8, 0), (.iaload, 0), (.ireturn, 0)]
set_option maxRecDepth 20000 in
def kc_X12_home : am_C := [(0, .aload 0, 1), (1, .getfield 768, 4), (4, .iconst 8, 6), (6, .iaload, 7), (7, .istore 1, 8), (8, .aload 0, 9), (9, .getfield 768, 12), (12, .iconst 8, 14), (14, .iconst 0, 15), (15, .iastore, 16), (16, .iload 1, 17), (17, .ireturn, 18)]
set_option maxRecDepth 20000 in
def kp_X12_home : List (Instr × Nat) := [(.aload_n 0, 0), (.getfield 9, 1192), (.bipush 8, 0), (.iaload, 0), (.istore_n 1, 0), (.aload_n 0, 0), (.getfield 9, 1192), (.bipush 8, 0), (.iconst 0, 0), (.iastore, 0), (.iload_n 1, 0), (.ireturn, 0)]
set_option maxRecDepth 20000 in
def kc_X12_wayBetween : am_C := [(0, .iload 0, 1), (1, .iconst 100, 3), (3, .idiv, 4), (4, .iload 1, 5), (5, .iconst 100, 7), (7, .idiv, 8), (8, .isub, 9), (9, .istore 2, 10), (10, .iload 0, 11), (11, .iconst 100, 13), (13, .irem, 14), (14, .iload 1, 15), (15, .iconst 100, 17), (17, .irem, 18), (18, .isub, 19), (19, .istore 3, 20), (20, .iload 2, 21), (21, .ifCond .ge 29, 24), (24, .iload 2, 25), (25, .ineg, 26), (26, .goto 30, 29), (29, .iload 2, 30), (30, .iload 3, 31), (31, .ifCond .ge 39, 34), (34, .iload 3, 35), (35, .ineg, 36), (36, .goto 40, 39), (39, .iload 3, 40), (40, .iadd, 41), (41, .ireturn, 42)]
set_option maxRecDepth 20000 in
def kp_X12_wayBetween : List (Instr × Nat) := [(.iload_n 0, 0), (.bipush 100, 0), (.idiv, 0), (.iload_n 1, 0), (.bipush 100, 0), (.idiv, 0), (.isub, 0), (.istore_n 2, 0), (.iload_n 0, 0), (.bipush 100, 0), (.irem, 0), (.iload_n 1, 0), (.bipush 100, 0), (.irem, 0), (.isub, 0), (.istore_n 3, 0), (.iload_n 2, 0), (.ifCond .ge 8, 0), (.iload_n 2, 0), (.ineg, 0), (.goto 4, 0), (.iload_n 2, 0), (.iload_n 3, 0), (.ifCond .ge 8, 0), (.iload_n 3, 0), (.ineg, 0), (.goto 4, 0), (.iload_n 3, 0), (.iadd, 0), (.ireturn, 0)]
set_option maxRecDepth 20000 in
def kc_X12_wayOfRow : am_C := [(0, .iload 1, 1), (1, .istore 2, 2), (2, .iconst 0, 3), (3, .istore 3, 4), (4, .iconst 0, 5), (5, .istore 4, 7), (7, .iload 4, 9), (9, .aload 0, 10), (10, .getfield 768, 13), (13, .iconst 8, 15), (15, .iaload, 16), (16, .if_icmp .ge 59, 19), (19, .aload 0, 20), (20, .aload 0, 21), (21, .getfield 768, 24), (24, .iconst 17, 26), (26, .aload 0, 27), (27, .getfield 800, 30), (30, .iload 4, 32), (32, .iaload, 33), (33, .iadd, 34), (34, .iaload, 35), (35, .iconst 1, 36), (36, .invokevirtual 151, 39), (39, .istore 5, 41), (41, .iload 3, 42), (42, .iload 2, 43), (43, .iload 5, 45), (45, .invokestatic 214, 48), (48, .iadd, 49), (49, .istore 3, 50), (50, .iload 5, 52), (52, .istore 2, 53), (53, .iinc 4 1, 56), (56, .goto 7, 59), (59, .iload 3, 60), (60, .iload 2, 61), (61, .iload 1, 62), (62, .invokestatic 214, 65), (65, .iadd, 66), (66, .ireturn, 67)]
set_option maxRecDepth 20000 in
def kp_X12_wayOfRow : List (Instr × Nat) := [(.iload_n 1, 0), (.istore_n 2, 0), (.iconst 0, 0), (.istore_n 3, 0), (.iconst 0, 0), (.istore 4, 0), (.iload 4, 0), (.aload_n 0, 0), (.getfield 9, 1192), (.bipush 8, 0), (.iaload, 0), (.if_icmp .ge 43, 0), (.aload_n 0, 0), (.aload_n 0, 0), (.getfield 9, 1192), (.bipush 17, 0), (.aload_n 0, 0), (.getfield 75, 1224), (.iload 4, 0), (.iaload, 0), (.iadd, 0), (.iaload, 0), (.iconst 1, 0), (.invokevirtual 119, 1366), (.istore 5, 0), (.iload_n 3, 0), (.iload_n 2, 0), (.iload 5, 0), (.invokestatic 275, 1612), (.iadd, 0), (.istore_n 3, 0), (.iload 5, 0), (.istore_n 2, 0), (.iinc 4 1, 0), (.goto (-49), 0), (.iload_n 3, 0), (.iload_n 2, 0), (.iload_n 1, 0), (.invokestatic 275, 1612), (.iadd, 0), (.ireturn, 0)]
set_option maxRecDepth 20000 in
def kc_X12_goesUp : am_C := [(0, .aload 0, 1), (1, .getfield 768, 4), (4, .iconst 8, 6), (6, .iaload, 7), (7, .istore 1, 8), (8, .iload 1, 9), (9, .iconst 2, 10), (10, .isub, 11), (11, .istore 2, 12), (12, .iload 2, 13), (13, .ifCond .lt 39, 16), (16, .aload 0, 17), (17, .getfield 800, 20), (20, .iload 2, 21), (21, .iaload, 22), (22, .aload 0, 23), (23, .getfield 800, 26), (26, .iload 2, 27), (27, .iconst 1, 28), (28, .iadd, 29), (29, .iaload, 30), (30, .if_icmp .le 39, 33), (33, .iinc 2 (-1), 36), (36, .goto 12, 39), (39, .iload 2, 40), (40, .ifCond .ge 45, 43), (43, .iconst 0, 44), (44, .freturn, 45), (45, .iload 1, 46), (46, .iconst 1, 47), (47, .isub, 48), (48, .istore 3, 49), (49, .aload 0, 50), (50, .getfield 800, 53), (53, .iload 3, 54), (54, .iaload, 55), (55, .aload 0, 56), (56, .getfield 800, 59), (59, .iload 2, 60), (60, .iaload, 61), (61, .if_icmp .ge 70, 64), (64, .iinc 3 (-1), 67), (67, .goto 49, 70), (70, .aload 0, 71), (71, .getfield 800, 74), (74, .iload 2, 75), (75, .iaload, 76), (76, .istore 4, 78), (78, .aload 0, 79), (79, .getfield 800, 82), (82, .iload 2, 83), (83, .aload 0, 84), (84, .getfield 800, 87), (87, .iload 3, 88), (88, .iaload, 89), (89, .iastore, 90), (90, .aload 0, 91), (91, .getfield 800, 94), (94, .iload 3, 95), (95, .iload 4, 97), (97, .iastore, 98), (98, .iload 1, 99), (99, .iconst 1, 100), (100, .isub, 101), (101, .istore 5, 103), (103, .iload 2, 104), (104, .iconst 1, 105), (105, .iadd, 106), (106, .istore 6, 108), (108, .iload 6, 110), (110, .iload 5, 112), (112, .if_icmp .ge 156, 115), (115, .aload 0, 116), (116, .getfield 800, 119), (119, .iload 6, 121), (121, .iaload, 122), (122, .istore 4, 124), (124, .aload 0, 125), (125, .getfield 800, 128), (128, .iload 6, 130), (130, .aload 0, 131), (131, .getfield 800, 134), (134, .iload 5, 136), (136, .iaload, 137), (137, .iastore, 138), (138, .aload 0, 139), (139, .getfield 800, 142), (142, .iload 5, 144), (144, .iload 4, 146), (146, .iastore, 147), (147, .iinc 5 (-1), 150), (150, .iinc 6 1, 153), (153, .goto 108, 156), (156, .iconst 1, 157), (157, .freturn, 158)]
set_option maxRecDepth 20000 in
def kp_X12_goesUp : List (Instr × Nat) := [(.aload_n 0, 0), (.getfield 9, 1192), (.bipush 8, 0), (.iaload, 0), (.istore_n 1, 0), (.iload_n 1, 0), (.iconst 2, 0), (.isub, 0), (.istore_n 2, 0), (.iload_n 2, 0), (.ifCond .lt 26, 0), (.aload_n 0, 0), (.getfield 75, 1224), (.iload_n 2, 0), (.iaload, 0), (.aload_n 0, 0), (.getfield 75, 1224), (.iload_n 2, 0), (.iconst 1, 0), (.iadd, 0), (.iaload, 0), (.if_icmp .le 9, 0), (.iinc 2 (-1), 0), (.goto (-24), 0), (.iload_n 2, 0), (.ifCond .ge 5, 0), (.iconst 0, 0), (.ireturn, 0), (.iload_n 1, 0), (.iconst 1, 0), (.isub, 0), (.istore_n 3, 0), (.aload_n 0, 0), (.getfield 75, 1224), (.iload_n 3, 0), (.iaload, 0), (.aload_n 0, 0), (.getfield 75, 1224), (.iload_n 2, 0), (.iaload, 0), (.if_icmp .ge 9, 0), (.iinc 3 (-1), 0), (.goto (-18), 0), (.aload_n 0, 0), (.getfield 75, 1224), (.iload_n 2, 0), (.iaload, 0), (.istore 4, 0), (.aload_n 0, 0), (.getfield 75, 1224), (.iload_n 2, 0), (.aload_n 0, 0), (.getfield 75, 1224), (.iload_n 3, 0), (.iaload, 0), (.iastore, 0), (.aload_n 0, 0), (.getfield 75, 1224), (.iload_n 3, 0), (.iload 4, 0), (.iastore, 0), (.iload_n 1, 0), (.iconst 1, 0), (.isub, 0), (.istore 5, 0), (.iload_n 2, 0), (.iconst 1, 0), (.iadd, 0), (.istore 6, 0), (.iload 6, 0), (.iload 5, 0), (.if_icmp .ge 44, 0), (.aload_n 0, 0), (.getfield 75, 1224), (.iload 6, 0), (.iaload, 0), (.istore 4, 0), (.aload_n 0, 0), (.getfield 75, 1224), (.iload 6, 0), (.aload_n 0, 0), (.getfield 75, 1224), (.iload 5, 0), (.iaload, 0), (.iastore, 0), (.aload_n 0, 0), (.getfield 75, 1224), (.iload 5, 0), (.iload 4, 0), (.iastore, 0), (.iinc 5 (-1), 0), (.iinc 6 1, 0), (.goto (-45), 0), (.iconst 1, 0), (.ireturn, 0)]
set_option maxRecDepth 20000 in
def kc_X12_round : am_C := [(0, .aload 0, 1), (1, .iload 1, 2), (2, .invokevirtual 146, 5), (5, .ifCond .eq 25, 8), (8, .iload 2, 9), (9, .iconst (-1), 10), (10, .aload 0, 11), (11, .getfield 768, 14), (14, .iconst 8, 16), (16, .iaload, 17), (17, .iconst 1, 18), (18, .isub, 19), (19, .invokestatic 143, 22), (22, .ifCond .ne 28, 25), (25, .iconst (-1000000001), 27), (27, .ireturn, 28), (28, .iconst 0, 29), (29, .istore 3, 30), (30, .iload 3, 31), (31, .iconst 6, 33), (33, .if_icmp .ge 49, 36), (36, .aload 0, 37), (37, .getfield 800, 40), (40, .iload 3, 41), (41, .iload 3, 42), (42, .iastore, 43), (43, .iinc 3 1, 46), (46, .goto 30, 49), (49, .aload 0, 50), (50, .iconst (-1), 51), (51, .putfield 802, 54), (54, .iconst 1, 55), (55, .istore 3, 56), (56, .iload 3, 57), (57, .ifCond .eq 132, 60), (60, .aload 0, 61), (61, .aload 0, 62), (62, .iload 1, 63), (63, .iconst 0, 64), (64, .invokevirtual 150, 67), (67, .invokevirtual 215, 70), (70, .istore 4, 72), (72, .aload 0, 73), (73, .getfield 802, 76), (76, .ifCond .lt 88, 79), (79, .iload 4, 81), (81, .aload 0, 82), (82, .getfield 802, 85), (85, .if_icmp .ge 124, 88), (88, .aload 0, 89), (89, .iload 4, 91), (91, .putfield 802, 94), (94, .iconst 0, 95), (95, .istore 5, 97), (97, .iload 5, 99), (99, .iconst 6, 101), (101, .if_icmp .ge 124, 104), (104, .aload 0, 105), (105, .getfield 801, 108), (108, .iload 5, 110), (110, .aload 0, 111), (111, .getfield 800, 114), (114, .iload 5, 116), (116, .iaload, 117), (117, .iastore, 118), (118, .iinc 5 1, 121), (121, .goto 97, 124), (124, .aload 0, 125), (125, .invokevirtual 216, 128), (128, .istore 3, 129), (129, .goto 56, 132), (132, .iload 2, 133), (133, .ifCond .ge 143, 136), (136, .aload 0, 137), (137, .getfield 802, 140), (140, .goto 157, 143), (143, .aload 0, 144), (144, .getfield 768, 147), (147, .iconst 17, 149), (149, .aload 0, 150), (150, .getfield 801, 153), (153, .iload 2, 154), (154, .iaload, 155), (155, .iadd, 156), (156, .iaload, 157), (157, .ireturn, 158)]
set_option maxRecDepth 20000 in
def kp_X12_round : List (Instr × Nat) := [(.aload_n 0, 0), (.iload_n 1, 0), (.invokevirtual 154, 1339), (.ifCond .eq 20, 0), (.iload_n 2, 0), (.iconst (-1), 0), (.aload_n 0, 0), (.getfield 9, 1192), (.bipush 8, 0), (.iaload, 0), (.iconst 1, 0), (.isub, 0), (.invokestatic 105, 1343), (.ifCond .ne 6, 0), (.ldc 113, 1333), (.ireturn, 0), (.iconst 0, 0), (.istore_n 3, 0), (.iload_n 3, 0), (.bipush 6, 0), (.if_icmp .ge 16, 0), (.aload_n 0, 0), (.getfield 75, 1224), (.iload_n 3, 0), (.iload_n 3, 0), (.iastore, 0), (.iinc 3 1, 0), (.goto (-16), 0), (.aload_n 0, 0), (.iconst (-1), 0), (.putfield 278, 1226), (.iconst 1, 0), (.istore_n 3, 0), (.iload_n 3, 0), (.ifCond .eq 75, 0), (.aload_n 0, 0), (.aload_n 0, 0), (.iload_n 1, 0), (.iconst 0, 0), (.invokevirtual 115, 1350), (.invokevirtual 281, 1608), (.istore 4, 0), (.aload_n 0, 0), (.getfield 278, 1226), (.ifCond .lt 12, 0), (.iload 4, 0), (.aload_n 0, 0), (.getfield 278, 1226), (.if_icmp .ge 39, 0), (.aload_n 0, 0), (.iload 4, 0), (.putfield 278, 1226), (.iconst 0, 0), (.istore 5, 0), (.iload 5, 0), (.bipush 6, 0), (.if_icmp .ge 23, 0), (.aload_n 0, 0), (.getfield 78, 1225), (.iload 5, 0), (.aload_n 0, 0), (.getfield 75, 1224), (.iload 5, 0), (.iaload, 0), (.iastore, 0), (.iinc 5 1, 0), (.goto (-24), 0), (.aload_n 0, 0), (.invokevirtual 284, 1615), (.istore_n 3, 0), (.goto (-73), 0), (.iload_n 2, 0), (.ifCond .ge 10, 0), (.aload_n 0, 0), (.getfield 278, 1226), (.goto 17, 0), (.aload_n 0, 0), (.getfield 9, 1192), (.bipush 17, 0), (.aload_n 0, 0), (.getfield 78, 1225), (.iload_n 2, 0), (.iaload, 0), (.iadd, 0), (.iaload, 0), (.ireturn, 0)]
set_option maxRecDepth 20000 in
def kc_X12_together : am_C := [(0, .iload 1, 1), (1, .iconst 0, 2), (2, .iconst 5, 3), (3, .invokestatic 143, 6), (6, .ifCond .eq 29, 9), (9, .iload 2, 10), (10, .iconst 0, 11), (11, .iconst 999999, 14), (14, .invokestatic 143, 17), (17, .ifCond .eq 29, 20), (20, .iload 3, 21), (21, .iconst 0, 22), (22, .iconst 1, 23), (23, .invokestatic 143, 26), (26, .ifCond .ne 32, 29), (29, .iconst (-1000000001), 31), (31, .ireturn, 32), (32, .iconst 0, 33), (33, .istore 4, 35), (35, .iconst 0, 36), (36, .istore 5, 38), (38, .iload 5, 40), (40, .aload 0, 41), (41, .getfield 768, 44), (44, .iconst 5, 45), (45, .iaload, 46), (46, .if_icmp .ge 79, 49), (49, .iload 4, 51), (51, .aload 0, 52), (52, .iload 5, 54), (54, .iconst 0, 55), (55, .invokevirtual 152, 58), (58, .iload 1, 59), (59, .invokestatic 170, 62), (62, .ifCond .eq 69, 65), (65, .iconst 1, 66), (66, .goto 70, 69), (69, .iconst 0, 70), (70, .iadd, 71), (71, .istore 4, 73), (73, .iinc 5 1, 76), (76, .goto 38, 79), (79, .iload 4, 81), (81, .ifCond .ne 88, 84), (84, .iconst (-1000000005), 87), (87, .ireturn, 88), (88, .iconst 0, 89), (89, .istore 5, 91), (91, .iconst 0, 92), (92, .istore 6, 94), (94, .iconst 1, 95), (95, .istore 7, 97), (97, .iload 7, 99), (99, .iconst 20, 101), (101, .if_icmp .gt 217, 104), (104, .iconst 0, 105), (105, .istore 8, 107), (107, .iconst 0, 108), (108, .istore 9, 110), (110, .iload 9, 112), (112, .aload 0, 113), (113, .getfield 768, 116), (116, .iconst 5, 117), (117, .iaload, 118), (118, .if_icmp .ge 166, 121), (121, .iload 8, 123), (123, .aload 0, 124), (124, .iload 9, 126), (126, .iconst 0, 127), (127, .invokevirtual 152, 130), (130, .iload 1, 131), (131, .invokestatic 170, 134), (134, .ifCond .eq 156, 137), (137, .aload 0, 138), (138, .iload 9, 140), (140, .invokevirtual 162, 143), (143, .iconst 250, 146), (146, .iload 7, 148), (148, .imul, 149), (149, .if_icmp .ge 156, 152), (152, .iconst 1, 153), (153, .goto 157, 156), (156, .iconst 0, 157), (157, .iadd, 158), (158, .istore 8, 160), (160, .iinc 9 1, 163), (163, .goto 110, 166), (166, .iload 4, 168), (168, .iload 2, 169), (169, .iconst 1000, 172), (172, .idiv, 173), (173, .imul, 174), (174, .iload 2, 175), (175, .iconst 1000, 178), (178, .irem, 179), (179, .iload 8, 181), (181, .imul, 182), (182, .iadd, 183), (183, .iconst 100, 185), (185, .imul, 186), (186, .iload 7, 188), (188, .idiv, 189), (189, .istore 9, 191), (191, .iload 5, 193), (193, .ifCond .eq 203, 196), (196, .iload 9, 198), (198, .iload 6, 200), (200, .if_icmp .ge 211, 203), (203, .iload 7, 205), (205, .istore 5, 207), (207, .iload 9, 209), (209, .istore 6, 211), (211, .iinc 7 1, 214), (214, .goto 97, 217), (217, .iload 3, 218), (218, .ifCond .ne 226, 221), (221, .iload 5, 223), (223, .goto 228, 226), (226, .iload 6, 228), (228, .ireturn, 229)]
set_option maxRecDepth 20000 in
def kp_X12_together : List (Instr × Nat) := [(.iload_n 1, 0), (.iconst 0, 0), (.iconst 5, 0), (.invokestatic 105, 1343), (.ifCond .eq 23, 0), (.iload_n 2, 0), (.iconst 0, 0), (.ldc_w 287, 1623), (.invokestatic 105, 1343), (.ifCond .eq 12, 0), (.iload_n 3, 0), (.iconst 0, 0), (.iconst 1, 0), (.invokestatic 105, 1343), (.ifCond .ne 6, 0), (.ldc 113, 1333), (.ireturn, 0), (.iconst 0, 0), (.istore 4, 0), (.iconst 0, 0), (.istore 5, 0), (.iload 5, 0), (.aload_n 0, 0), (.getfield 9, 1192), (.iconst 5, 0), (.iaload, 0), (.if_icmp .ge 33, 0), (.iload 4, 0), (.aload_n 0, 0), (.iload 5, 0), (.iconst 0, 0), (.invokevirtual 122, 1358), (.iload_n 1, 0), (.invokestatic 176, 1443), (.ifCond .eq 7, 0), (.iconst 1, 0), (.goto 4, 0), (.iconst 0, 0), (.iadd, 0), (.istore 4, 0), (.iinc 5 1, 0), (.goto (-38), 0), (.iload 4, 0), (.ifCond .ne 7, 0), (.ldc_w 258, 1555), (.ireturn, 0), (.iconst 0, 0), (.istore 5, 0), (.iconst 0, 0), (.istore 6, 0), (.iconst 1, 0), (.istore 7, 0), (.iload 7, 0), (.bipush 20, 0), (.if_icmp .gt 116, 0), (.iconst 0, 0), (.istore 8, 0), (.iconst 0, 0), (.istore 9, 0), (.iload 9, 0), (.aload_n 0, 0), (.getfield 9, 1192), (.iconst 5, 0), (.iaload, 0), (.if_icmp .ge 48, 0), (.iload 8, 0), (.aload_n 0, 0), (.iload 9, 0), (.iconst 0, 0), (.invokevirtual 122, 1358), (.iload_n 1, 0), (.invokestatic 176, 1443), (.ifCond .eq 22, 0), (.aload_n 0, 0), (.iload 9, 0), (.invokevirtual 173, 1435), (.sipush 250, 0), (.iload 7, 0), (.imul, 0), (.if_icmp .ge 7, 0), (.iconst 1, 0), (.goto 4, 0), (.iconst 0, 0), (.iadd, 0), (.istore 8, 0), (.iinc 9 1, 0), (.goto (-53), 0), (.iload 4, 0), (.iload_n 2, 0), (.sipush 1000, 0), (.idiv, 0), (.imul, 0), (.iload_n 2, 0), (.sipush 1000, 0), (.irem, 0), (.iload 8, 0), (.imul, 0), (.iadd, 0), (.bipush 100, 0), (.imul, 0), (.iload 7, 0), (.idiv, 0), (.istore 9, 0), (.iload 5, 0), (.ifCond .eq 10, 0), (.iload 9, 0), (.iload 6, 0), (.if_icmp .ge 11, 0), (.iload 7, 0), (.istore 5, 0), (.iload 9, 0), (.istore 6, 0), (.iinc 7 1, 0), (.goto (-117), 0), (.iload_n 3, 0), (.ifCond .ne 8, 0), (.iload 5, 0), (.goto 5, 0), (.iload 6, 0), (.ireturn, 0)]
set_option maxRecDepth 20000 in
def kc_X12_isSheet : am_C := [(0, .iload 0, 1), (1, .iconst 0, 2), (2, .iconst 3, 3), (3, .invokestatic 143, 6), (6, .freturn, 7)]
set_option maxRecDepth 20000 in
def kp_X12_isSheet : List (Instr × Nat) := [(.iload_n 0, 0), (.iconst 0, 0), (.iconst 3, 0), (.invokestatic 105, 1343), (.ireturn, 0)]
set_option maxRecDepth 20000 in
def kc_X12_isSlot : am_C := [(0, .iload 0, 1), (1, .iconst 0, 2), (2, .iconst 4, 3), (3, .invokestatic 143, 6), (6, .freturn, 7)]
set_option maxRecDepth 20000 in
def kp_X12_isSlot : List (Instr × Nat) := [(.iload_n 0, 0), (.iconst 0, 0), (.iconst 4, 0), (.invokestatic 105, 1343), (.ireturn, 0)]
set_option maxRecDepth 20000 in
def kc_X12_sheet : am_C := [(0, .iload 1, 1), (1, .invokestatic 219, 4), (4, .ifCond .eq 26, 7), (7, .iload 2, 8), (8, .iconst (-1), 9), (9, .iconst 1, 10), (10, .invokestatic 143, 13), (13, .ifCond .eq 26, 16), (16, .iload 2, 17), (17, .ifCond .lt 29, 20), (20, .iload 3, 21), (21, .iconst 24, 23), (23, .if_icmp .le 29, 26), (26, .iconst (-1000000001), 28), (28, .ireturn, 29), (29, .iload 2, 30), (30, .ifCond .lt 41, 33), (33, .iload 3, 34), (34, .ifCond .ge 41, 37), (37, .iconst (-1000000014), 40), (40, .ireturn, 41), (41, .aload 0, 42), (42, .getfield 803, 45), (45, .iload 1, 46), (46, .iload 2, 47), (47, .iastore, 48), (48, .aload 0, 49), (49, .getfield 804, 52), (52, .iload 1, 53), (53, .iload 2, 54), (54, .ifCond .ge 61, 57), (57, .iconst 0, 58), (58, .goto 62, 61), (61, .iload 3, 62), (62, .iastore, 63), (63, .iconst 0, 64), (64, .istore 4, 66), (66, .iload 4, 68), (68, .iconst 24, 70), (70, .if_icmp .ge 92, 73), (73, .aload 0, 74), (74, .getfield 805, 77), (77, .iconst 24, 79), (79, .iload 1, 80), (80, .imul, 81), (81, .iload 4, 83), (83, .iadd, 84), (84, .iconst 0, 85), (85, .iastore, 86), (86, .iinc 4 1, 89), (89, .goto 66, 92), (92, .aload 0, 93), (93, .getfield 804, 96), (96, .iload 1, 97), (97, .iaload, 98), (98, .ireturn, 99)]
set_option maxRecDepth 20000 in
def kp_X12_sheet : List (Instr × Nat) := [(.iload_n 1, 0), (.invokestatic 288, 1628), (.ifCond .eq 22, 0), (.iload_n 2, 0), (.iconst (-1), 0), (.iconst 1, 0), (.invokestatic 105, 1343), (.ifCond .eq 13, 0), (.iload_n 2, 0), (.ifCond .lt 12, 0), (.iload_n 3, 0), (.bipush 24, 0), (.if_icmp .le 6, 0), (.ldc 113, 1333), (.ireturn, 0), (.iload_n 2, 0), (.ifCond .lt 11, 0), (.iload_n 3, 0), (.ifCond .ge 7, 0), (.ldc_w 291, 1631), (.ireturn, 0), (.aload_n 0, 0), (.getfield 81, 1227), (.iload_n 1, 0), (.iload_n 2, 0), (.iastore, 0), (.aload_n 0, 0), (.getfield 84, 1228), (.iload_n 1, 0), (.iload_n 2, 0), (.ifCond .ge 7, 0), (.iconst 0, 0), (.goto 4, 0), (.iload_n 3, 0), (.iastore, 0), (.iconst 0, 0), (.istore 4, 0), (.iload 4, 0), (.bipush 24, 0), (.if_icmp .ge 22, 0), (.aload_n 0, 0), (.getfield 87, 1229), (.bipush 24, 0), (.iload_n 1, 0), (.imul, 0), (.iload 4, 0), (.iadd, 0), (.iconst 0, 0), (.iastore, 0), (.iinc 4 1, 0), (.goto (-23), 0), (.aload_n 0, 0), (.getfield 84, 1228), (.iload_n 1, 0), (.iaload, 0), (.ireturn, 0)]
set_option maxRecDepth 20000 in
def kc_X12_mark : am_C := [(0, .iload 1, 1), (1, .invokestatic 219, 4), (4, .ifCond .ne 10, 7), (7, .iconst (-1000000001), 9), (9, .ireturn, 10), (10, .aload 0, 11), (11, .getfield 803, 14), (14, .iload 1, 15), (15, .iaload, 16), (16, .ifCond .ge 23, 19), (19, .iconst (-1000000011), 22), (22, .ireturn, 23), (23, .iload 2, 24), (24, .iconst 0, 25), (25, .aload 0, 26), (26, .getfield 804, 29), (29, .iload 1, 30), (30, .iaload, 31), (31, .iconst 1, 32), (32, .isub, 33), (33, .invokestatic 143, 36), (36, .ifCond .ne 43, 39), (39, .iconst (-1000000013), 42), (42, .ireturn, 43), (43, .aload 0, 44), (44, .getfield 803, 47), (47, .iload 1, 48), (48, .iaload, 49), (49, .ifCond .ne 62, 52), (52, .iload 3, 53), (53, .iconst (-1000000005), 56), (56, .if_icmp .ne 62, 59), (59, .iconst (-1000000012), 61), (61, .ireturn, 62), (62, .aload 0, 63), (63, .getfield 803, 66), (66, .iload 1, 67), (67, .iaload, 68), (68, .iconst 1, 69), (69, .if_icmp .ne 95, 72), (72, .iload 3, 73), (73, .iconst (-1000000005), 76), (76, .if_icmp .eq 95, 79), (79, .iload 3, 80), (80, .iconst (-99999), 83), (83, .iconst 99999, 86), (86, .invokestatic 143, 89), (89, .ifCond .ne 95, 92), (92, .iconst (-1000000001), 94), (94, .ireturn, 95), (95, .aload 0, 96), (96, .getfield 805, 99), (99, .iconst 24, 101), (101, .iload 1, 102), (102, .imul, 103), (103, .iload 2, 104), (104, .iadd, 105), (105, .aload 0, 106), (106, .getfield 803, 109), (109, .iload 1, 110), (110, .iaload, 111), (111, .ifCond .ne 119, 114), (114, .iload 3, 115), (115, .i2s, 116), (116, .goto 120, 119), (119, .iload 3, 120), (120, .iastore, 121), (121, .iconst 1, 122), (122, .ireturn, 123)]
set_option maxRecDepth 20000 in
def kp_X12_mark : List (Instr × Nat) := [(.iload_n 1, 0), (.invokestatic 288, 1628), (.ifCond .ne 6, 0), (.ldc 113, 1333), (.ireturn, 0), (.aload_n 0, 0), (.getfield 81, 1227), (.iload_n 1, 0), (.iaload, 0), (.ifCond .ge 7, 0), (.ldc_w 292, 1636), (.ireturn, 0), (.iload_n 2, 0), (.iconst 0, 0), (.aload_n 0, 0), (.getfield 84, 1228), (.iload_n 1, 0), (.iaload, 0), (.iconst 1, 0), (.isub, 0), (.invokestatic 105, 1343), (.ifCond .ne 7, 0), (.ldc_w 293, 1637), (.ireturn, 0), (.aload_n 0, 0), (.getfield 81, 1227), (.iload_n 1, 0), (.iaload, 0), (.ifCond .ne 13, 0), (.iload_n 3, 0), (.ldc_w 258, 1555), (.if_icmp .ne 6, 0), (.ldc 180, 1446), (.ireturn, 0), (.aload_n 0, 0), (.getfield 81, 1227), (.iload_n 1, 0), (.iaload, 0), (.iconst 1, 0), (.if_icmp .ne 26, 0), (.iload_n 3, 0), (.ldc_w 258, 1555), (.if_icmp .eq 19, 0), (.iload_n 3, 0), (.ldc_w 294, 1638), (.ldc_w 295, 1639), (.invokestatic 105, 1343), (.ifCond .ne 6, 0), (.ldc 113, 1333), (.ireturn, 0), (.aload_n 0, 0), (.getfield 87, 1229), (.bipush 24, 0), (.iload_n 1, 0), (.imul, 0), (.iload_n 2, 0), (.iadd, 0), (.aload_n 0, 0), (.getfield 81, 1227), (.iload_n 1, 0), (.iaload, 0), (.ifCond .ne 8, 0), (.iload_n 3, 0), (.i2s, 0), (.goto 4, 0), (.iload_n 3, 0), (.iastore, 0), (.iconst 1, 0), (.ireturn, 0)]
set_option maxRecDepth 20000 in
def kc_X12_fits : am_C := [(0, .iload 1, 1), (1, .invokestatic 219, 4), (4, .ifCond .eq 15, 7), (7, .aload 0, 8), (8, .iload 2, 9), (9, .invokevirtual 146, 12), (12, .ifCond .ne 18, 15), (15, .iconst (-1000000001), 17), (17, .ireturn, 18), (18, .aload 0, 19), (19, .getfield 803, 22), (22, .iload 1, 23), (23, .iaload, 24), (24, .ifCond .ge 31, 27), (27, .iconst (-1000000011), 30), (30, .ireturn, 31), (31, .aload 0, 32), (32, .getfield 768, 35), (35, .aload 0, 36), (36, .getfield 770, 39), (39, .invokestatic 145, 42), (42, .iconst (-1000000005), 45), (45, .istore 3, 46), (46, .iconst 0, 47), (47, .istore 4, 49), (49, .iload 4, 51), (51, .aload 0, 52), (52, .getfield 804, 55), (55, .iload 1, 56), (56, .iaload, 57), (57, .if_icmp .ge 119, 60), (60, .iload 3, 61), (61, .iconst (-1000000005), 64), (64, .if_icmp .ne 119, 67), (67, .aload 0, 68), (68, .getfield 805, 71), (71, .iconst 24, 73), (73, .iload 1, 74), (74, .imul, 75), (75, .iload 4, 77), (77, .iadd, 78), (78, .iaload, 79), (79, .istore 5, 81), (81, .iload 5, 83), (83, .iconst (-1000000005), 86), (86, .if_icmp .eq 105, 89), (89, .iload 5, 91), (91, .aload 0, 92), (92, .iload 2, 93), (93, .iconst 1, 94), (94, .invokevirtual 163, 97), (97, .if_icmp .eq 105, 100), (100, .iload 4, 102), (102, .goto 108, 105), (105, .iconst (-1000000005), 108), (108, .istore 3, 109), (109, .aload 0, 110), (110, .invokevirtual 177, 113), (113, .iinc 4 1, 116), (116, .goto 49, 119), (119, .aload 0, 120), (120, .getfield 770, 123), (123, .aload 0, 124), (124, .getfield 768, 127), (127, .invokestatic 145, 130), (130, .iload 3, 131), (131, .ireturn, 132)]
set_option maxRecDepth 20000 in
def kp_X12_fits : List (Instr × Nat) := [(.iload_n 1, 0), (.invokestatic 288, 1628), (.ifCond .eq 11, 0), (.aload_n 0, 0), (.iload_n 2, 0), (.invokevirtual 154, 1339), (.ifCond .ne 6, 0), (.ldc 113, 1333), (.ireturn, 0), (.aload_n 0, 0), (.getfield 81, 1227), (.iload_n 1, 0), (.iaload, 0), (.ifCond .ge 7, 0), (.ldc_w 292, 1636), (.ireturn, 0), (.aload_n 0, 0), (.getfield 9, 1192), (.aload_n 0, 0), (.getfield 16, 1194), (.invokestatic 296, 1644), (.ldc_w 258, 1555), (.istore_n 3, 0), (.iconst 0, 0), (.istore 4, 0), (.iload 4, 0), (.aload_n 0, 0), (.getfield 84, 1228), (.iload_n 1, 0), (.iaload, 0), (.if_icmp .ge 62, 0), (.iload_n 3, 0), (.ldc_w 258, 1555), (.if_icmp .ne 55, 0), (.aload_n 0, 0), (.getfield 87, 1229), (.bipush 24, 0), (.iload_n 1, 0), (.imul, 0), (.iload 4, 0), (.iadd, 0), (.iaload, 0), (.istore 5, 0), (.iload 5, 0), (.ldc_w 258, 1555), (.if_icmp .eq 19, 0), (.iload 5, 0), (.aload_n 0, 0), (.iload_n 2, 0), (.iconst 1, 0), (.invokevirtual 157, 1354), (.if_icmp .eq 8, 0), (.iload 4, 0), (.goto 6, 0), (.ldc_w 258, 1555), (.istore_n 3, 0), (.aload_n 0, 0), (.invokevirtual 185, 1471), (.iinc 4 1, 0), (.goto (-67), 0), (.aload_n 0, 0), (.getfield 16, 1194), (.aload_n 0, 0), (.getfield 9, 1192), (.invokestatic 296, 1644), (.iload_n 3, 0), (.ireturn, 0)]
set_option maxRecDepth 20000 in
def kc_X12_copy : am_C := [(0, .iload 1, 1), (1, .invokestatic 219, 4), (4, .ifCond .eq 14, 7), (7, .iload 3, 8), (8, .invokestatic 219, 11), (11, .ifCond .ne 17, 14), (14, .iconst (-1000000001), 16), (16, .ireturn, 17), (17, .aload 0, 18), (18, .getfield 803, 21), (21, .iload 1, 22), (22, .iaload, 23), (23, .ifCond .lt 35, 26), (26, .aload 0, 27), (27, .getfield 803, 30), (30, .iload 3, 31), (31, .iaload, 32), (32, .ifCond .ge 39, 35), (35, .iconst (-1000000011), 38), (38, .ireturn, 39), (39, .aload 0, 40), (40, .getfield 803, 43), (43, .iload 1, 44), (44, .iaload, 45), (45, .aload 0, 46), (46, .getfield 803, 49), (49, .iload 3, 50), (50, .iaload, 51), (51, .if_icmp .eq 57, 54), (54, .iconst (-1000000012), 56), (56, .ireturn, 57), (57, .iload 2, 58), (58, .ifCond .lt 98, 61), (61, .iload 4, 63), (63, .ifCond .lt 98, 66), (66, .iload 5, 68), (68, .ifCond .lt 98, 71), (71, .iload 2, 72), (72, .aload 0, 73), (73, .getfield 804, 76), (76, .iload 1, 77), (77, .iaload, 78), (78, .iload 5, 80), (80, .isub, 81), (81, .if_icmp .gt 98, 84), (84, .iload 4, 86), (86, .aload 0, 87), (87, .getfield 804, 90), (90, .iload 3, 91), (91, .iaload, 92), (92, .iload 5, 94), (94, .isub, 95), (95, .if_icmp .le 102, 98), (98, .iconst (-1000000013), 101), (101, .ireturn, 102), (102, .iconst 0, 103), (103, .istore 6, 105), (105, .iload 6, 107), (107, .iload 5, 109), (109, .if_icmp .ge 139, 112), (112, .aload 0, 113), (113, .getfield 809, 116), (116, .iload 6, 118), (118, .aload 0, 119), (119, .getfield 805, 122), (122, .iconst 24, 124), (124, .iload 1, 125), (125, .imul, 126), (126, .iload 2, 127), (127, .iadd, 128), (128, .iload 6, 130), (130, .iadd, 131), (131, .iaload, 132), (132, .iastore, 133), (133, .iinc 6 1, 136), (136, .goto 105, 139), (139, .iconst 0, 140), (140, .istore 6, 142), (142, .iload 6, 144), (144, .iload 5, 146), (146, .if_icmp .ge 177, 149), (149, .aload 0, 150), (150, .getfield 805, 153), (153, .iconst 24, 155), (155, .iload 3, 156), (156, .imul, 157), (157, .iload 4, 159), (159, .iadd, 160), (160, .iload 6, 162), (162, .iadd, 163), (163, .aload 0, 164), (164, .getfield 809, 167), (167, .iload 6, 169), (169, .iaload, 170), (170, .iastore, 171), (171, .iinc 6 1, 174), (174, .goto 142, 177), (177, .iload 5, 179), (179, .ireturn, 180)]
set_option maxRecDepth 20000 in
def kp_X12_copy : List (Instr × Nat) := [(.iload_n 1, 0), (.invokestatic 288, 1628), (.ifCond .eq 10, 0), (.iload_n 3, 0), (.invokestatic 288, 1628), (.ifCond .ne 6, 0), (.ldc 113, 1333), (.ireturn, 0), (.aload_n 0, 0), (.getfield 81, 1227), (.iload_n 1, 0), (.iaload, 0), (.ifCond .lt 12, 0), (.aload_n 0, 0), (.getfield 81, 1227), (.iload_n 3, 0), (.iaload, 0), (.ifCond .ge 7, 0), (.ldc_w 292, 1636), (.ireturn, 0), (.aload_n 0, 0), (.getfield 81, 1227), (.iload_n 1, 0), (.iaload, 0), (.aload_n 0, 0), (.getfield 81, 1227), (.iload_n 3, 0), (.iaload, 0), (.if_icmp .eq 6, 0), (.ldc 180, 1446), (.ireturn, 0), (.iload_n 2, 0), (.ifCond .lt 40, 0), (.iload 4, 0), (.ifCond .lt 35, 0), (.iload 5, 0), (.ifCond .lt 30, 0), (.iload_n 2, 0), (.aload_n 0, 0), (.getfield 84, 1228), (.iload_n 1, 0), (.iaload, 0), (.iload 5, 0), (.isub, 0), (.if_icmp .gt 17, 0), (.iload 4, 0), (.aload_n 0, 0), (.getfield 84, 1228), (.iload_n 3, 0), (.iaload, 0), (.iload 5, 0), (.isub, 0), (.if_icmp .le 7, 0), (.ldc_w 293, 1637), (.ireturn, 0), (.iconst 0, 0), (.istore 6, 0), (.iload 6, 0), (.iload 5, 0), (.if_icmp .ge 30, 0), (.aload_n 0, 0), (.getfield 99, 1233), (.iload 6, 0), (.aload_n 0, 0), (.getfield 87, 1229), (.bipush 24, 0), (.iload_n 1, 0), (.imul, 0), (.iload_n 2, 0), (.iadd, 0), (.iload 6, 0), (.iadd, 0), (.iaload, 0), (.iastore, 0), (.iinc 6 1, 0), (.goto (-31), 0), (.iconst 0, 0), (.istore 6, 0), (.iload 6, 0), (.iload 5, 0), (.if_icmp .ge 31, 0), (.aload_n 0, 0), (.getfield 87, 1229), (.bipush 24, 0), (.iload_n 3, 0), (.imul, 0), (.iload 4, 0), (.iadd, 0), (.iload 6, 0), (.iadd, 0), (.aload_n 0, 0), (.getfield 99, 1233), (.iload 6, 0), (.iaload, 0), (.iastore, 0), (.iinc 6 1, 0), (.goto (-32), 0), (.iload 5, 0), (.ireturn, 0)]
set_option maxRecDepth 20000 in
def kc_X12_lay : am_C := [(0, .iload 1, 1), (1, .invokestatic 220, 4), (4, .ifCond .eq 41, 7), (7, .iload 2, 8), (8, .iconst 0, 9), (9, .iconst 3, 10), (10, .invokestatic 143, 13), (13, .ifCond .eq 41, 16), (16, .iload 2, 17), (17, .iconst 1, 18), (18, .if_icmp .ne 29, 21), (21, .aload 0, 22), (22, .iload 3, 23), (23, .invokevirtual 148, 26), (26, .ifCond .eq 41, 29), (29, .iload 2, 30), (30, .iconst 2, 31), (31, .if_icmp .ne 44, 34), (34, .iload 3, 35), (35, .invokestatic 219, 38), (38, .ifCond .ne 44, 41), (41, .iconst (-1000000001), 43), (43, .ireturn, 44), (44, .iload 2, 45), (45, .iconst 2, 46), (46, .if_icmp .ne 62, 49), (49, .aload 0, 50), (50, .getfield 803, 53), (53, .iload 3, 54), (54, .iaload, 55), (55, .ifCond .ge 62, 58), (58, .iconst (-1000000011), 61), (61, .ireturn, 62), (62, .aload 0, 63), (63, .getfield 806, 66), (66, .iload 1, 67), (67, .iaload, 68), (68, .istore 4, 70), (70, .aload 0, 71), (71, .getfield 806, 74), (74, .iload 1, 75), (75, .iload 2, 76), (76, .iastore, 77), (77, .aload 0, 78), (78, .getfield 807, 81), (81, .iload 1, 82), (82, .iload 2, 83), (83, .iconst 1, 84), (84, .if_icmp .ne 96, 87), (87, .aload 0, 88), (88, .iload 3, 89), (89, .iconst 0, 90), (90, .invokevirtual 152, 93), (93, .goto 111, 96), (96, .iload 2, 97), (97, .iconst 2, 98), (98, .if_icmp .ne 110, 101), (101, .aload 0, 102), (102, .getfield 804, 105), (105, .iload 3, 106), (106, .iaload, 107), (107, .goto 111, 110), (110, .iload 3, 111), (111, .iastore, 112), (112, .iconst 0, 113), (113, .istore 5, 115), (115, .iload 5, 117), (117, .iconst 24, 119), (119, .if_icmp .ge 157, 122), (122, .iload 2, 123), (123, .iconst 2, 124), (124, .if_icmp .ne 157, 127), (127, .aload 0, 128), (128, .getfield 808, 131), (131, .iconst 24, 133), (133, .iload 1, 134), (134, .imul, 135), (135, .iload 5, 137), (137, .iadd, 138), (138, .aload 0, 139), (139, .getfield 805, 142), (142, .iconst 24, 144), (144, .iload 3, 145), (145, .imul, 146), (146, .iload 5, 148), (148, .iadd, 149), (149, .iaload, 150), (150, .iastore, 151), (151, .iinc 5 1, 154), (154, .goto 115, 157), (157, .iload 4, 159), (159, .ireturn, 160)]
set_option maxRecDepth 20000 in
def kp_X12_lay : List (Instr × Nat) := [(.iload_n 1, 0), (.invokestatic 300, 1655), (.ifCond .eq 37, 0), (.iload_n 2, 0), (.iconst 0, 0), (.iconst 3, 0), (.invokestatic 105, 1343), (.ifCond .eq 28, 0), (.iload_n 2, 0), (.iconst 1, 0), (.if_icmp .ne 11, 0), (.aload_n 0, 0), (.iload_n 3, 0), (.invokevirtual 164, 1424), (.ifCond .eq 15, 0), (.iload_n 2, 0), (.iconst 2, 0), (.if_icmp .ne 13, 0), (.iload_n 3, 0), (.invokestatic 288, 1628), (.ifCond .ne 6, 0), (.ldc 113, 1333), (.ireturn, 0), (.iload_n 2, 0), (.iconst 2, 0), (.if_icmp .ne 16, 0), (.aload_n 0, 0), (.getfield 81, 1227), (.iload_n 3, 0), (.iaload, 0), (.ifCond .ge 7, 0), (.ldc_w 292, 1636), (.ireturn, 0), (.aload_n 0, 0), (.getfield 90, 1230), (.iload_n 1, 0), (.iaload, 0), (.istore 4, 0), (.aload_n 0, 0), (.getfield 90, 1230), (.iload_n 1, 0), (.iload_n 2, 0), (.iastore, 0), (.aload_n 0, 0), (.getfield 93, 1231), (.iload_n 1, 0), (.iload_n 2, 0), (.iconst 1, 0), (.if_icmp .ne 12, 0), (.aload_n 0, 0), (.iload_n 3, 0), (.iconst 0, 0), (.invokevirtual 122, 1358), (.goto 18, 0), (.iload_n 2, 0), (.iconst 2, 0), (.if_icmp .ne 12, 0), (.aload_n 0, 0), (.getfield 84, 1228), (.iload_n 3, 0), (.iaload, 0), (.goto 4, 0), (.iload_n 3, 0), (.iastore, 0), (.iconst 0, 0), (.istore 5, 0), (.iload 5, 0), (.bipush 24, 0), (.if_icmp .ge 38, 0), (.iload_n 2, 0), (.iconst 2, 0), (.if_icmp .ne 33, 0), (.aload_n 0, 0), (.getfield 96, 1232), (.bipush 24, 0), (.iload_n 1, 0), (.imul, 0), (.iload 5, 0), (.iadd, 0), (.aload_n 0, 0), (.getfield 87, 1229), (.bipush 24, 0), (.iload_n 3, 0), (.imul, 0), (.iload 5, 0), (.iadd, 0), (.iaload, 0), (.iastore, 0), (.iinc 5 1, 0), (.goto (-39), 0), (.iload 4, 0), (.ireturn, 0)]
set_option maxRecDepth 20000 in
def kc_X12_ask : am_C := [(0, .iload 1, 1), (1, .invokestatic 220, 4), (4, .ifCond .eq 16, 7), (7, .iload 2, 8), (8, .iconst 0, 9), (9, .iconst 5, 10), (10, .invokestatic 143, 13), (13, .ifCond .ne 19, 16), (16, .iconst (-1000000001), 18), (18, .ireturn, 19), (19, .aload 0, 20), (20, .getfield 806, 23), (23, .iload 1, 24), (24, .iaload, 25), (25, .ifCond .ne 32, 28), (28, .iconst (-1000000011), 31), (31, .ireturn, 32), (32, .aload 0, 33), (33, .getfield 806, 36), (36, .iload 1, 37), (37, .iaload, 38), (38, .iconst 1, 39), (39, .if_icmp .ne 67, 42), (42, .aload 0, 43), (43, .getfield 807, 46), (46, .iload 1, 47), (47, .iaload, 48), (48, .iload 2, 49), (49, .invokestatic 170, 52), (52, .ifCond .eq 67, 55), (55, .aload 0, 56), (56, .getfield 807, 59), (59, .iload 1, 60), (60, .iaload, 61), (61, .invokestatic 161, 64), (64, .goto 69, 67), (67, .iconst (-1000000012), 69), (69, .ireturn, 70)]
set_option maxRecDepth 20000 in
def kp_X12_ask : List (Instr × Nat) := [(.iload_n 1, 0), (.invokestatic 300, 1655), (.ifCond .eq 12, 0), (.iload_n 2, 0), (.iconst 0, 0), (.iconst 5, 0), (.invokestatic 105, 1343), (.ifCond .ne 6, 0), (.ldc 113, 1333), (.ireturn, 0), (.aload_n 0, 0), (.getfield 90, 1230), (.iload_n 1, 0), (.iaload, 0), (.ifCond .ne 7, 0), (.ldc_w 292, 1636), (.ireturn, 0), (.aload_n 0, 0), (.getfield 90, 1230), (.iload_n 1, 0), (.iaload, 0), (.iconst 1, 0), (.if_icmp .ne 28, 0), (.aload_n 0, 0), (.getfield 93, 1231), (.iload_n 1, 0), (.iaload, 0), (.iload_n 2, 0), (.invokestatic 176, 1443), (.ifCond .eq 15, 0), (.aload_n 0, 0), (.getfield 93, 1231), (.iload_n 1, 0), (.iaload, 0), (.invokestatic 170, 1432), (.goto 5, 0), (.ldc 180, 1446), (.ireturn, 0)]
set_option maxRecDepth 20000 in
def kc_X12_item : am_C := [(0, .iload 1, 1), (1, .invokestatic 220, 4), (4, .ifCond .ne 10, 7), (7, .iconst (-1000000001), 9), (9, .ireturn, 10), (10, .aload 0, 11), (11, .getfield 806, 14), (14, .iload 1, 15), (15, .iaload, 16), (16, .ifCond .ne 23, 19), (19, .iconst (-1000000011), 22), (22, .ireturn, 23), (23, .aload 0, 24), (24, .getfield 806, 27), (27, .iload 1, 28), (28, .iaload, 29), (29, .iconst 2, 30), (30, .if_icmp .eq 36, 33), (33, .iconst (-1000000012), 35), (35, .ireturn, 36), (36, .iload 2, 37), (37, .iconst 0, 38), (38, .aload 0, 39), (39, .getfield 807, 42), (42, .iload 1, 43), (43, .iaload, 44), (44, .iconst 1, 45), (45, .isub, 46), (46, .invokestatic 143, 49), (49, .ifCond .ne 56, 52), (52, .iconst (-1000000013), 55), (55, .ireturn, 56), (56, .aload 0, 57), (57, .getfield 808, 60), (60, .iconst 24, 62), (62, .iload 1, 63), (63, .imul, 64), (64, .iload 2, 65), (65, .iadd, 66), (66, .iaload, 67), (67, .istore 3, 68), (68, .iload 3, 69), (69, .iconst (-1000000005), 72), (72, .if_icmp .ne 80, 75), (75, .iconst (-1000000012), 77), (77, .goto 81, 80), (80, .iload 3, 81), (81, .ireturn, 82)]
set_option maxRecDepth 20000 in
def kp_X12_item : List (Instr × Nat) := [(.iload_n 1, 0), (.invokestatic 300, 1655), (.ifCond .ne 6, 0), (.ldc 113, 1333), (.ireturn, 0), (.aload_n 0, 0), (.getfield 90, 1230), (.iload_n 1, 0), (.iaload, 0), (.ifCond .ne 7, 0), (.ldc_w 292, 1636), (.ireturn, 0), (.aload_n 0, 0), (.getfield 90, 1230), (.iload_n 1, 0), (.iaload, 0), (.iconst 2, 0), (.if_icmp .eq 6, 0), (.ldc 180, 1446), (.ireturn, 0), (.iload_n 2, 0), (.iconst 0, 0), (.aload_n 0, 0), (.getfield 93, 1231), (.iload_n 1, 0), (.iaload, 0), (.iconst 1, 0), (.isub, 0), (.invokestatic 105, 1343), (.ifCond .ne 7, 0), (.ldc_w 293, 1637), (.ireturn, 0), (.aload_n 0, 0), (.getfield 96, 1232), (.bipush 24, 0), (.iload_n 1, 0), (.imul, 0), (.iload_n 2, 0), (.iadd, 0), (.iaload, 0), (.istore_n 3, 0), (.iload_n 3, 0), (.ldc_w 258, 1555), (.if_icmp .ne 8, 0), (.ldc 180, 1446), (.goto 4, 0), (.iload_n 3, 0), (.ireturn, 0)]
set_option maxRecDepth 20000 in
def kc_X12_rest : am_C := [(0, .iload 1, 1), (1, .invokestatic 220, 4), (4, .ifCond .ne 10, 7), (7, .iconst (-1000000001), 9), (9, .ireturn, 10), (10, .aload 0, 11), (11, .getfield 806, 14), (14, .iload 1, 15), (15, .iaload, 16), (16, .ifCond .ne 23, 19), (19, .iconst (-1000000011), 22), (22, .ireturn, 23), (23, .aload 0, 24), (24, .getfield 806, 27), (27, .iload 1, 28), (28, .iaload, 29), (29, .iconst 3, 30), (30, .if_icmp .eq 36, 33), (33, .iconst (-1000000012), 35), (35, .ireturn, 36), (36, .iload 2, 37), (37, .ifCond .ne 46, 40), (40, .iconst (-1000000002), 43), (43, .goto 63, 46), (46, .iload 2, 47), (47, .iconst (-1), 48), (48, .if_icmp .ne 55, 51), (51, .iconst 0, 52), (52, .goto 63, 55), (55, .aload 0, 56), (56, .getfield 807, 59), (59, .iload 1, 60), (60, .iaload, 61), (61, .iload 2, 62), (62, .irem, 63), (63, .ireturn, 64)]
set_option maxRecDepth 20000 in
def kp_X12_rest : List (Instr × Nat) := [(.iload_n 1, 0), (.invokestatic 300, 1655), (.ifCond .ne 6, 0), (.ldc 113, 1333), (.ireturn, 0), (.aload_n 0, 0), (.getfield 90, 1230), (.iload_n 1, 0), (.iaload, 0), (.ifCond .ne 7, 0), (.ldc_w 292, 1636), (.ireturn, 0), (.aload_n 0, 0), (.getfield 90, 1230), (.iload_n 1, 0), (.iaload, 0), (.iconst 3, 0), (.if_icmp .eq 6, 0), (.ldc 180, 1446), (.ireturn, 0), (.iload_n 2, 0), (.ifCond .ne 9, 0), (.ldc_w 268, 1580), (.goto 20, 0), (.iload_n 2, 0), (.iconst (-1), 0), (.if_icmp .ne 7, 0), (.iconst 0, 0), (.goto 11, 0), (.aload_n 0, 0), (.getfield 93, 1231), (.iload_n 1, 0), (.iaload, 0), (.iload_n 2, 0), (.irem, 0), (.ireturn, 0)]
set_option maxRecDepth 20000 in
def kc_X12_tell : am_C := [(0, .aload 0, 1), (1, .getfield 811, 4), (4, .iconst 60, 6), (6, .if_icmp .ne 12, 9), (9, .iconst (-1000000003), 11), (11, .ireturn, 12), (12, .aload 0, 13), (13, .getfield 810, 16), (16, .aload 0, 17), (17, .getfield 811, 20), (20, .iload 1, 21), (21, .iastore, 22), (22, .aload 0, 23), (23, .dup, 24), (24, .getfield 811, 27), (27, .iconst 1, 28), (28, .iadd, 29), (29, .putfield 811, 32), (32, .aload 0, 33), (33, .getfield 811, 36), (36, .ireturn, 37)]
set_option maxRecDepth 20000 in
def kp_X12_tell : List (Instr × Nat) := [(.aload_n 0, 0), (.getfield 303, 1235), (.bipush 60, 0), (.if_icmp .ne 6, 0), (.ldc 114, 1334), (.ireturn, 0), (.aload_n 0, 0), (.getfield 102, 1234), (.aload_n 0, 0), (.getfield 303, 1235), (.iload_n 1, 0), (.iastore, 0), (.aload_n 0, 0), (.dup, 0), (.getfield 303, 1235), (.iconst 1, 0), (.iadd, 0), (.putfield 303, 1235), (.aload_n 0, 0), (.getfield 303, 1235), (.ireturn, 0)]
set_option maxRecDepth 20000 in
def kc_X12_outMany : am_C := [(0, .iconst 0, 1), (1, .istore 1, 2), (2, .iconst 0, 3), (3, .istore 2, 4), (4, .iload 2, 5), (5, .aload 0, 6), (6, .getfield 768, 9), (9, .iconst 5, 10), (10, .iaload, 11), (11, .if_icmp .ge 29, 14), (14, .iload 1, 15), (15, .aload 0, 16), (16, .iload 2, 17), (17, .iconst 5, 18), (18, .invokevirtual 152, 21), (21, .iadd, 22), (22, .istore 1, 23), (23, .iinc 2 1, 26), (26, .goto 4, 29), (29, .iload 1, 30), (30, .ireturn, 31)]
set_option maxRecDepth 20000 in
def kp_X12_outMany : List (Instr × Nat) := [(.iconst 0, 0), (.istore_n 1, 0), (.iconst 0, 0), (.istore_n 2, 0), (.iload_n 2, 0), (.aload_n 0, 0), (.getfield 9, 1192), (.iconst 5, 0), (.iaload, 0), (.if_icmp .ge 18, 0), (.iload_n 1, 0), (.aload_n 0, 0), (.iload_n 2, 0), (.iconst 5, 0), (.invokevirtual 122, 1358), (.iadd, 0), (.istore_n 1, 0), (.iinc 2 1, 0), (.goto (-22), 0), (.iload_n 1, 0), (.ireturn, 0)]
set_option maxRecDepth 20000 in
def kc_X12_check : am_C := [(0, .aload 0, 1), (1, .getfield 811, 4), (4, .istore 2, 5), (5, .aload 0, 6), (6, .iconst 0, 7), (7, .putfield 811, 10), (10, .iload 1, 11), (11, .iconst 1, 12), (12, .iconst 30, 14), (14, .invokestatic 143, 17), (17, .ifCond .ne 23, 20), (20, .iconst (-1000000001), 22), (22, .ireturn, 23), (23, .aload 0, 24), (24, .getfield 771, 27), (27, .ifCond .ne 34, 30), (30, .iconst (-1000000002), 33), (33, .ireturn, 34), (34, .aload 0, 35), (35, .getfield 768, 38), (38, .aload 0, 39), (39, .getfield 770, 42), (42, .invokestatic 145, 45), (45, .aload 0, 46), (46, .getfield 769, 49), (49, .aload 0, 50), (50, .getfield 768, 53), (53, .invokestatic 145, 56), (56, .iconst 0, 57), (57, .istore 3, 58), (58, .iconst 0, 59), (59, .istore 4, 61), (61, .iload 4, 63), (63, .iload 1, 64), (64, .if_icmp .ge 167, 67), (67, .iload 3, 68), (68, .iconst 2, 69), (69, .iload 4, 71), (71, .imul, 72), (72, .if_icmp .ne 167, 75), (75, .aload 0, 76), (76, .iconst 0, 77), (77, .iconst 1, 78), (78, .invokevirtual 163, 81), (81, .aload 0, 82), (82, .iconst 1, 83), (83, .iconst 1, 84), (84, .invokevirtual 163, 87), (87, .iadd, 88), (88, .aload 0, 89), (89, .iconst 2, 90), (90, .iconst 1, 91), (91, .invokevirtual 163, 94), (94, .iadd, 95), (95, .istore 5, 97), (97, .aload 0, 98), (98, .invokevirtual 177, 101), (101, .iload 3, 102), (102, .iload 3, 103), (103, .iload 2, 104), (104, .if_icmp .ge 122, 107), (107, .aload 0, 108), (108, .getfield 810, 111), (111, .iload 3, 112), (112, .iaload, 113), (113, .iload 5, 115), (115, .if_icmp .ne 122, 118), (118, .iconst 1, 119), (119, .goto 123, 122), (122, .iconst 0, 123), (123, .iadd, 124), (124, .istore 3, 125), (125, .iload 3, 126), (126, .iload 3, 127), (127, .iconst 2, 128), (128, .iload 4, 130), (130, .imul, 131), (131, .iconst 1, 132), (132, .iadd, 133), (133, .if_icmp .ne 158, 136), (136, .iload 3, 137), (137, .iload 2, 138), (138, .if_icmp .ge 158, 141), (141, .aload 0, 142), (142, .getfield 810, 145), (145, .iload 3, 146), (146, .iaload, 147), (147, .aload 0, 148), (148, .invokevirtual 230, 151), (151, .if_icmp .ne 158, 154), (154, .iconst 1, 155), (155, .goto 159, 158), (158, .iconst 0, 159), (159, .iadd, 160), (160, .istore 3, 161), (161, .iinc 4 1, 164), (164, .goto 61, 167), (167, .aload 0, 168), (168, .getfield 770, 171), (171, .aload 0, 172), (172, .getfield 768, 175), (175, .invokestatic 145, 178), (178, .iload 3, 179), (179, .iload 2, 180), (180, .if_icmp .ne 194, 183), (183, .iload 3, 184), (184, .iconst 2, 185), (185, .iload 1, 186), (186, .imul, 187), (187, .if_icmp .ne 194, 190), (190, .iconst 0, 191), (191, .goto 197, 194), (194, .iconst 1, 195), (195, .iload 3, 196), (196, .iadd, 197), (197, .ireturn, 198)]
set_option maxRecDepth 20000 in
def kp_X12_check : List (Instr × Nat) := [(.aload_n 0, 0), (.getfield 303, 1235), (.istore_n 2, 0), (.aload_n 0, 0), (.iconst 0, 0), (.putfield 303, 1235), (.iload_n 1, 0), (.iconst 1, 0), (.bipush 30, 0), (.invokestatic 105, 1343), (.ifCond .ne 6, 0), (.ldc 113, 1333), (.ireturn, 0), (.aload_n 0, 0), (.getfield 306, 1195), (.ifCond .ne 7, 0), (.ldc_w 268, 1580), (.ireturn, 0), (.aload_n 0, 0), (.getfield 9, 1192), (.aload_n 0, 0), (.getfield 16, 1194), (.invokestatic 296, 1644), (.aload_n 0, 0), (.getfield 13, 1193), (.aload_n 0, 0), (.getfield 9, 1192), (.invokestatic 296, 1644), (.iconst 0, 0), (.istore_n 3, 0), (.iconst 0, 0), (.istore 4, 0), (.iload 4, 0), (.iload_n 1, 0), (.if_icmp .ge 103, 0), (.iload_n 3, 0), (.iconst 2, 0), (.iload 4, 0), (.imul, 0), (.if_icmp .ne 95, 0), (.aload_n 0, 0), (.iconst 0, 0), (.iconst 1, 0), (.invokevirtual 157, 1354), (.aload_n 0, 0), (.iconst 1, 0), (.iconst 1, 0), (.invokevirtual 157, 1354), (.iadd, 0), (.aload_n 0, 0), (.iconst 2, 0), (.iconst 1, 0), (.invokevirtual 157, 1354), (.iadd, 0), (.istore 5, 0), (.aload_n 0, 0), (.invokevirtual 185, 1471), (.iload_n 3, 0), (.iload_n 3, 0), (.iload_n 2, 0), (.if_icmp .ge 18, 0), (.aload_n 0, 0), (.getfield 102, 1234), (.iload_n 3, 0), (.iaload, 0), (.iload 5, 0), (.if_icmp .ne 7, 0), (.iconst 1, 0), (.goto 4, 0), (.iconst 0, 0), (.iadd, 0), (.istore_n 3, 0), (.iload_n 3, 0), (.iload_n 3, 0), (.iconst 2, 0), (.iload 4, 0), (.imul, 0), (.iconst 1, 0), (.iadd, 0), (.if_icmp .ne 25, 0), (.iload_n 3, 0), (.iload_n 2, 0), (.if_icmp .ge 20, 0), (.aload_n 0, 0), (.getfield 102, 1234), (.iload_n 3, 0), (.iaload, 0), (.aload_n 0, 0), (.invokevirtual 310, 1678), (.if_icmp .ne 7, 0), (.iconst 1, 0), (.goto 4, 0), (.iconst 0, 0), (.iadd, 0), (.istore_n 3, 0), (.iinc 4 1, 0), (.goto (-103), 0), (.aload_n 0, 0), (.getfield 16, 1194), (.aload_n 0, 0), (.getfield 9, 1192), (.invokestatic 296, 1644), (.iload_n 3, 0), (.iload_n 2, 0), (.if_icmp .ne 14, 0), (.iload_n 3, 0), (.iconst 2, 0), (.iload_n 1, 0), (.imul, 0), (.if_icmp .ne 7, 0), (.iconst 0, 0), (.goto 6, 0), (.iconst 1, 0), (.iload_n 3, 0), (.iadd, 0), (.ireturn, 0)]
set_option maxRecDepth 20000 in
def kc_X12_keep : am_C := [(0, .aload 0, 1), (1, .getfield 768, 4), (4, .aload 0, 5), (5, .getfield 769, 8), (8, .invokestatic 145, 11), (11, .aload 0, 12), (12, .iconst 1, 13), (13, .putfield 771, 16), (16, .aload 0, 17), (17, .getfield 768, 20), (20, .iconst 0, 21), (21, .iaload, 22), (22, .ireturn, 23)]
set_option maxRecDepth 20000 in
def kp_X12_keep : List (Instr × Nat) := [(.aload_n 0, 0), (.getfield 9, 1192), (.aload_n 0, 0), (.getfield 13, 1193), (.invokestatic 296, 1644), (.aload_n 0, 0), (.iconst 1, 0), (.putfield 306, 1195), (.aload_n 0, 0), (.getfield 9, 1192), (.iconst 0, 0), (.iaload, 0), (.ireturn, 0)]
set_option maxRecDepth 20000 in
def kc_X12_back : am_C := [(0, .aload 0, 1), (1, .getfield 771, 4), (4, .ifCond .ne 11, 7), (7, .iconst (-1000000002), 10), (10, .ireturn, 11), (11, .aload 0, 12), (12, .getfield 769, 15), (15, .aload 0, 16), (16, .getfield 768, 19), (19, .invokestatic 145, 22), (22, .aload 0, 23), (23, .getfield 768, 26), (26, .iconst 0, 27), (27, .iaload, 28), (28, .ireturn, 29)]
set_option maxRecDepth 20000 in
def kp_X12_back : List (Instr × Nat) := [(.aload_n 0, 0), (.getfield 306, 1195), (.ifCond .ne 7, 0), (.ldc_w 268, 1580), (.ireturn, 0), (.aload_n 0, 0), (.getfield 13, 1193), (.aload_n 0, 0), (.getfield 9, 1192), (.invokestatic 296, 1644), (.aload_n 0, 0), (.getfield 9, 1192), (.iconst 0, 0), (.iaload, 0), (.ireturn, 0)]
set_option maxRecDepth 20000 in
def kc_X12_brokenMany : am_C := [(0, .iconst 0, 1), (1, .istore 1, 2), (2, .iconst 0, 3), (3, .istore 2, 4), (4, .iload 2, 5), (5, .aload 0, 6), (6, .getfield 768, 9), (9, .iconst 3, 10), (10, .iaload, 11), (11, .if_icmp .ge 29, 14), (14, .iload 1, 15), (15, .aload 0, 16), (16, .iload 2, 17), (17, .iconst 4, 18), (18, .invokevirtual 150, 21), (21, .iadd, 22), (22, .istore 1, 23), (23, .iinc 2 1, 26), (26, .goto 4, 29), (29, .iconst 0, 30), (30, .istore 2, 31), (31, .iload 2, 32), (32, .aload 0, 33), (33, .getfield 768, 36), (36, .iconst 4, 37), (37, .iaload, 38), (38, .if_icmp .ge 56, 41), (41, .iload 1, 42), (42, .aload 0, 43), (43, .iload 2, 44), (44, .iconst 2, 45), (45, .invokevirtual 151, 48), (48, .iadd, 49), (49, .istore 1, 50), (50, .iinc 2 1, 53), (53, .goto 31, 56), (56, .iload 1, 57), (57, .ireturn, 58)]
set_option maxRecDepth 20000 in
def kp_X12_brokenMany : List (Instr × Nat) := [(.iconst 0, 0), (.istore_n 1, 0), (.iconst 0, 0), (.istore_n 2, 0), (.iload_n 2, 0), (.aload_n 0, 0), (.getfield 9, 1192), (.iconst 3, 0), (.iaload, 0), (.if_icmp .ge 18, 0), (.iload_n 1, 0), (.aload_n 0, 0), (.iload_n 2, 0), (.iconst 4, 0), (.invokevirtual 115, 1350), (.iadd, 0), (.istore_n 1, 0), (.iinc 2 1, 0), (.goto (-22), 0), (.iconst 0, 0), (.istore_n 2, 0), (.iload_n 2, 0), (.aload_n 0, 0), (.getfield 9, 1192), (.iconst 4, 0), (.iaload, 0), (.if_icmp .ge 18, 0), (.iload_n 1, 0), (.aload_n 0, 0), (.iload_n 2, 0), (.iconst 2, 0), (.invokevirtual 119, 1366), (.iadd, 0), (.istore_n 1, 0), (.iinc 2 1, 0), (.goto (-22), 0), (.iload_n 1, 0), (.ireturn, 0)]
set_option maxRecDepth 20000 in
def kc_X12_darkMany : am_C := [(0, .iconst 0, 1), (1, .istore 1, 2), (2, .iconst 0, 3), (3, .istore 2, 4), (4, .iload 2, 5), (5, .aload 0, 6), (6, .getfield 768, 9), (9, .iconst 5, 10), (10, .iaload, 11), (11, .if_icmp .ge 30, 14), (14, .iload 1, 15), (15, .aload 0, 16), (16, .iload 2, 17), (17, .iconst 6, 19), (19, .invokevirtual 152, 22), (22, .iadd, 23), (23, .istore 1, 24), (24, .iinc 2 1, 27), (27, .goto 4, 30), (30, .iload 1, 31), (31, .ireturn, 32)]
set_option maxRecDepth 20000 in
def kp_X12_darkMany : List (Instr × Nat) := [(.iconst 0, 0), (.istore_n 1, 0), (.iconst 0, 0), (.istore_n 2, 0), (.iload_n 2, 0), (.aload_n 0, 0), (.getfield 9, 1192), (.iconst 5, 0), (.iaload, 0), (.if_icmp .ge 19, 0), (.iload_n 1, 0), (.aload_n 0, 0), (.iload_n 2, 0), (.bipush 6, 0), (.invokevirtual 122, 1358), (.iadd, 0), (.istore_n 1, 0), (.iinc 2 1, 0), (.goto (-23), 0), (.iload_n 1, 0), (.ireturn, 0)]
set_option maxRecDepth 20000 in
def kc_X12_count : am_C := [(0, .iload 1, 1), (1, .tableswitch 152 0 12 #[68, 75, 82, 89, 94, 99, 107, 115, 123, 128, 135, 142, 147], 68), (68, .aload 0, 69), (69, .getfield 768, 72), (72, .iconst 3, 73), (73, .iaload, 74), (74, .ireturn, 75), (75, .aload 0, 76), (76, .getfield 768, 79), (79, .iconst 4, 80), (80, .iaload, 81), (81, .ireturn, 82), (82, .aload 0, 83), (83, .getfield 768, 86), (86, .iconst 5, 87), (87, .iaload, 88), (88, .ireturn, 89), (89, .aload 0, 90), (90, .invokevirtual 230, 93), (93, .ireturn, 94), (94, .aload 0, 95), (95, .invokevirtual 234, 98), (98, .ireturn, 99), (99, .aload 0, 100), (100, .getfield 768, 103), (103, .iconst 6, 105), (105, .iaload, 106), (106, .ireturn, 107), (107, .aload 0, 108), (108, .getfield 768, 111), (111, .iconst 7, 113), (113, .iaload, 114), (114, .ireturn, 115), (115, .aload 0, 116), (116, .getfield 768, 119), (119, .iconst 8, 121), (121, .iaload, 122), (122, .ireturn, 123), (123, .aload 0, 124), (124, .invokevirtual 235, 127), (127, .ireturn, 128), (128, .aload 0, 129), (129, .getfield 768, 132), (132, .iconst 0, 133), (133, .iaload, 134), (134, .ireturn, 135), (135, .aload 0, 136), (136, .getfield 768, 139), (139, .iconst 1, 140), (140, .iaload, 141), (141, .ireturn, 142), (142, .aload 0, 143), (143, .getfield 811, 146), (146, .ireturn, 147), (147, .aload 0, 148), (148, .getfield 774, 151), (151, .ireturn, 152), (152, .iconst (-1000000001), 154), (154, .ireturn, 155)]
set_option maxRecDepth 20000 in
def kp_X12_count : List (Instr × Nat) := [(.iload_n 1, 0), (.tableswitch 151 0 12 #[67, 74, 81, 88, 93, 98, 106, 114, 122, 127, 134, 141, 146], 0), (.aload_n 0, 0), (.getfield 9, 1192), (.iconst 3, 0), (.iaload, 0), (.ireturn, 0), (.aload_n 0, 0), (.getfield 9, 1192), (.iconst 4, 0), (.iaload, 0), (.ireturn, 0), (.aload_n 0, 0), (.getfield 9, 1192), (.iconst 5, 0), (.iaload, 0), (.ireturn, 0), (.aload_n 0, 0), (.invokevirtual 310, 1678), (.ireturn, 0), (.aload_n 0, 0), (.invokevirtual 313, 1694), (.ireturn, 0), (.aload_n 0, 0), (.getfield 9, 1192), (.bipush 6, 0), (.iaload, 0), (.ireturn, 0), (.aload_n 0, 0), (.getfield 9, 1192), (.bipush 7, 0), (.iaload, 0), (.ireturn, 0), (.aload_n 0, 0), (.getfield 9, 1192), (.bipush 8, 0), (.iaload, 0), (.ireturn, 0), (.aload_n 0, 0), (.invokevirtual 316, 1698), (.ireturn, 0), (.aload_n 0, 0), (.getfield 9, 1192), (.iconst 0, 0), (.iaload, 0), (.ireturn, 0), (.aload_n 0, 0), (.getfield 9, 1192), (.iconst 1, 0), (.iaload, 0), (.ireturn, 0), (.aload_n 0, 0), (.getfield 303, 1235), (.ireturn, 0), (.aload_n 0, 0), (.getfield 191, 1198), (.ireturn, 0), (.ldc 113, 1333), (.ireturn, 0)]
end
section
/-! linked codes, printed by program -/
set_option maxRecDepth 20000 in
def kc_L_law : am_C := [(0, .new 11, 3), (3, .dup, 4), (4, .invokespecial 81, 7), (7, .astore 1, 8), (8, .new 12, 11), (11, .dup, 12), (12, .invokespecial 142, 15), (15, .astore 2, 16), (16, .iconst 0, 17), (17, .istore 3, 18), (18, .iload 3, 19), (19, .aload 0, 20), (20, .arraylength, 21), (21, .iconst 6, 23), (23, .isub, 24), (24, .if_icmp .gt 1528, 27), (27, .aload 0, 28), (28, .iload 3, 29), (29, .iaload, 30), (30, .iconst 63, 32), (32, .iand, 33), (33, .tableswitch 1522 0 43 #[224, 257, 290, 323, 356, 389, 432, 465, 498, 531, 554, 587, 620, 643, 666, 689, 702, 745, 768, 781, 814, 837, 886, 919, 932, 955, 968, 991, 1014, 1027, 1060, 1103, 1146, 1189, 1222, 1285, 1328, 1361, 1394, 1427, 1450, 1473, 1486, 1499], 224), (224, .aload 1, 225), (225, .aload 0, 226), (226, .iload 3, 227), (227, .iconst 1, 228), (228, .iadd, 229), (229, .iaload, 230), (230, .aload 0, 231), (231, .iload 3, 232), (232, .iconst 2, 233), (233, .iadd, 234), (234, .iaload, 235), (235, .invokevirtual 82, 238), (238, .aload 2, 239), (239, .aload 0, 240), (240, .iload 3, 241), (241, .iconst 1, 242), (242, .iadd, 243), (243, .iaload, 244), (244, .aload 0, 245), (245, .iload 3, 246), (246, .iconst 2, 247), (247, .iadd, 248), (248, .iaload, 249), (249, .invokevirtual 153, 252), (252, .if_icmp .eq 1522, 255), (255, .iconst 0, 256), (256, .freturn, 257), (257, .aload 1, 258), (258, .aload 0, 259), (259, .iload 3, 260), (260, .iconst 1, 261), (261, .iadd, 262), (262, .iaload, 263), (263, .aload 0, 264), (264, .iload 3, 265), (265, .iconst 2, 266), (266, .iadd, 267), (267, .iaload, 268), (268, .invokevirtual 83, 271), (271, .aload 2, 272), (272, .aload 0, 273), (273, .iload 3, 274), (274, .iconst 1, 275), (275, .iadd, 276), (276, .iaload, 277), (277, .aload 0, 278), (278, .iload 3, 279), (279, .iconst 2, 280), (280, .iadd, 281), (281, .iaload, 282), (282, .invokevirtual 164, 285), (285, .if_icmp .eq 1522, 288), (288, .iconst 0, 289), (289, .freturn, 290), (290, .aload 1, 291), (291, .aload 0, 292), (292, .iload 3, 293), (293, .iconst 1, 294), (294, .iadd, 295), (295, .iaload, 296), (296, .aload 0, 297), (297, .iload 3, 298), (298, .iconst 2, 299), (299, .iadd, 300), (300, .iaload, 301), (301, .invokevirtual 84, 304), (304, .aload 2, 305), (305, .aload 0, 306), (306, .iload 3, 307), (307, .iconst 1, 308), (308, .iadd, 309), (309, .iaload, 310), (310, .aload 0, 311), (311, .iload 3, 312), (312, .iconst 2, 313), (313, .iadd, 314), (314, .iaload, 315), (315, .invokevirtual 165, 318), (318, .if_icmp .eq 1522, 321), (321, .iconst 0, 322), (322, .freturn, 323), (323, .aload 1, 324), (324, .aload 0, 325), (325, .iload 3, 326), (326, .iconst 1, 327), (327, .iadd, 328), (328, .iaload, 329), (329, .aload 0, 330), (330, .iload 3, 331), (331, .iconst 2, 332), (332, .iadd, 333), (333, .iaload, 334), (334, .invokevirtual 85, 337), (337, .aload 2, 338), (338, .aload 0, 339), (339, .iload 3, 340), (340, .iconst 1, 341), (341, .iadd, 342), (342, .iaload, 343), (343, .aload 0, 344), (344, .iload 3, 345), (345, .iconst 2, 346), (346, .iadd, 347), (347, .iaload, 348), (348, .invokevirtual 166, 351), (351, .if_icmp .eq 1522, 354), (354, .iconst 0, 355), (355, .freturn, 356), (356, .aload 1, 357), (357, .aload 0, 358), (358, .iload 3, 359), (359, .iconst 1, 360), (360, .iadd, 361), (361, .iaload, 362), (362, .aload 0, 363), (363, .iload 3, 364), (364, .iconst 2, 365), (365, .iadd, 366), (366, .iaload, 367), (367, .invokevirtual 86, 370), (370, .aload 2, 371), (371, .aload 0, 372), (372, .iload 3, 373), (373, .iconst 1, 374), (374, .iadd, 375), (375, .iaload, 376), (376, .aload 0, 377), (377, .iload 3, 378), (378, .iconst 2, 379), (379, .iadd, 380), (380, .iaload, 381), (381, .invokevirtual 167, 384), (384, .if_icmp .eq 1522, 387), (387, .iconst 0, 388), (388, .freturn, 389), (389, .aload 1, 390), (390, .aload 0, 391), (391, .iload 3, 392), (392, .iconst 1, 393), (393, .iadd, 394), (394, .iaload, 395), (395, .aload 0, 396), (396, .iload 3, 397), (397, .iconst 2, 398), (398, .iadd, 399), (399, .iaload, 400), (400, .aload 0, 401), (401, .iload 3, 402), (402, .iconst 3, 403), (403, .iadd, 404), (404, .iaload, 405), (405, .invokevirtual 87, 408), (408, .aload 2, 409), (409, .aload 0, 410), (410, .iload 3, 411), (411, .iconst 1, 412), (412, .iadd, 413), (413, .iaload, 414), (414, .aload 0, 415), (415, .iload 3, 416), (416, .iconst 2, 417), (417, .iadd, 418), (418, .iaload, 419), (419, .aload 0, 420), (420, .iload 3, 421), (421, .iconst 3, 422), (422, .iadd, 423), (423, .iaload, 424), (424, .invokevirtual 168, 427), (427, .if_icmp .eq 1522, 430), (430, .iconst 0, 431), (431, .freturn, 432), (432, .aload 1, 433), (433, .aload 0, 434), (434, .iload 3, 435), (435, .iconst 1, 436), (436, .iadd, 437), (437, .iaload, 438), (438, .aload 0, 439), (439, .iload 3, 440), (440, .iconst 2, 441), (441, .iadd, 442), (442, .iaload, 443), (443, .invokevirtual 88, 446), (446, .aload 2, 447), (447, .aload 0, 448), (448, .iload 3, 449), (449, .iconst 1, 450), (450, .iadd, 451), (451, .iaload, 452), (452, .aload 0, 453), (453, .iload 3, 454), (454, .iconst 2, 455), (455, .iadd, 456), (456, .iaload, 457), (457, .invokevirtual 169, 460), (460, .if_icmp .eq 1522, 463), (463, .iconst 0, 464), (464, .freturn, 465), (465, .aload 1, 466), (466, .aload 0, 467), (467, .iload 3, 468), (468, .iconst 1, 469), (469, .iadd, 470), (470, .iaload, 471), (471, .aload 0, 472), (472, .iload 3, 473), (473, .iconst 2, 474), (474, .iadd, 475), (475, .iaload, 476), (476, .invokevirtual 89, 479), (479, .aload 2, 480), (480, .aload 0, 481), (481, .iload 3, 482), (482, .iconst 1, 483), (483, .iadd, 484), (484, .iaload, 485), (485, .aload 0, 486), (486, .iload 3, 487), (487, .iconst 2, 488), (488, .iadd, 489), (489, .iaload, 490), (490, .invokevirtual 171, 493), (493, .if_icmp .eq 1522, 496), (496, .iconst 0, 497), (497, .freturn, 498), (498, .aload 1, 499), (499, .aload 0, 500), (500, .iload 3, 501), (501, .iconst 1, 502), (502, .iadd, 503), (503, .iaload, 504), (504, .aload 0, 505), (505, .iload 3, 506), (506, .iconst 2, 507), (507, .iadd, 508), (508, .iaload, 509), (509, .invokevirtual 90, 512), (512, .aload 2, 513), (513, .aload 0, 514), (514, .iload 3, 515), (515, .iconst 1, 516), (516, .iadd, 517), (517, .iaload, 518), (518, .aload 0, 519), (519, .iload 3, 520), (520, .iconst 2, 521), (521, .iadd, 522), (522, .iaload, 523), (523, .invokevirtual 172, 526), (526, .if_icmp .eq 1522, 529), (529, .iconst 0, 530), (530, .freturn, 531), (531, .aload 1, 532), (532, .aload 0, 533), (533, .iload 3, 534), (534, .iconst 1, 535), (535, .iadd, 536), (536, .iaload, 537), (537, .invokevirtual 91, 540), (540, .aload 2, 541), (541, .aload 0, 542), (542, .iload 3, 543), (543, .iconst 1, 544), (544, .iadd, 545), (545, .iaload, 546), (546, .invokevirtual 173, 549), (549, .if_icmp .eq 1522, 552), (552, .iconst 0, 553), (553, .freturn, 554), (554, .aload 1, 555), (555, .aload 0, 556), (556, .iload 3, 557), (557, .iconst 1, 558), (558, .iadd, 559), (559, .iaload, 560), (560, .aload 0, 561), (561, .iload 3, 562), (562, .iconst 2, 563), (563, .iadd, 564), (564, .iaload, 565), (565, .invokevirtual 92, 568), (568, .aload 2, 569), (569, .aload 0, 570), (570, .iload 3, 571), (571, .iconst 1, 572), (572, .iadd, 573), (573, .iaload, 574), (574, .aload 0, 575), (575, .iload 3, 576), (576, .iconst 2, 577), (577, .iadd, 578), (578, .iaload, 579), (579, .invokevirtual 175, 582), (582, .if_icmp .eq 1522, 585), (585, .iconst 0, 586), (586, .freturn, 587), (587, .aload 1, 588), (588, .aload 0, 589), (589, .iload 3, 590), (590, .iconst 1, 591), (591, .iadd, 592), (592, .iaload, 593), (593, .aload 0, 594), (594, .iload 3, 595), (595, .iconst 2, 596), (596, .iadd, 597), (597, .iaload, 598), (598, .invokevirtual 93, 601), (601, .aload 2, 602), (602, .aload 0, 603), (603, .iload 3, 604), (604, .iconst 1, 605), (605, .iadd, 606), (606, .iaload, 607), (607, .aload 0, 608), (608, .iload 3, 609), (609, .iconst 2, 610), (610, .iadd, 611), (611, .iaload, 612), (612, .invokevirtual 176, 615), (615, .if_icmp .eq 1522, 618), (618, .iconst 0, 619), (619, .freturn, 620), (620, .aload 1, 621), (621, .aload 0, 622), (622, .iload 3, 623), (623, .iconst 1, 624), (624, .iadd, 625), (625, .iaload, 626), (626, .invokevirtual 94, 629), (629, .aload 2, 630), (630, .aload 0, 631), (631, .iload 3, 632), (632, .iconst 1, 633), (633, .iadd, 634), (634, .iaload, 635), (635, .invokevirtual 178, 638), (638, .if_icmp .eq 1522, 641), (641, .iconst 0, 642), (642, .freturn, 643), (643, .aload 1, 644), (644, .aload 0, 645), (645, .iload 3, 646), (646, .iconst 1, 647), (647, .iadd, 648), (648, .iaload, 649), (649, .invokevirtual 95, 652), (652, .aload 2, 653), (653, .aload 0, 654), (654, .iload 3, 655), (655, .iconst 1, 656), (656, .iadd, 657), (657, .iaload, 658), (658, .invokevirtual 179, 661), (661, .if_icmp .eq 1522, 664), (664, .iconst 0, 665), (665, .freturn, 666), (666, .aload 1, 667), (667, .aload 0, 668), (668, .iload 3, 669), (669, .iconst 1, 670), (670, .iadd, 671), (671, .iaload, 672), (672, .invokevirtual 96, 675), (675, .aload 2, 676), (676, .aload 0, 677), (677, .iload 3, 678), (678, .iconst 1, 679), (679, .iadd, 680), (680, .iaload, 681), (681, .invokevirtual 181, 684), (684, .if_icmp .eq 1522, 687), (687, .iconst 0, 688), (688, .freturn, 689), (689, .aload 1, 690), (690, .invokevirtual 97, 693), (693, .aload 2, 694), (694, .invokevirtual 182, 697), (697, .if_icmp .eq 1522, 700), (700, .iconst 0, 701), (701, .freturn, 702), (702, .aload 1, 703), (703, .aload 0, 704), (704, .iload 3, 705), (705, .iconst 1, 706), (706, .iadd, 707), (707, .iaload, 708), (708, .aload 0, 709), (709, .iload 3, 710), (710, .iconst 2, 711), (711, .iadd, 712), (712, .iaload, 713), (713, .aload 0, 714), (714, .iload 3, 715), (715, .iconst 3, 716), (716, .iadd, 717), (717, .iaload, 718), (718, .invokevirtual 98, 721), (721, .aload 2, 722), (722, .aload 0, 723), (723, .iload 3, 724), (724, .iconst 1, 725), (725, .iadd, 726), (726, .iaload, 727), (727, .aload 0, 728), (728, .iload 3, 729), (729, .iconst 2, 730), (730, .iadd, 731), (731, .iaload, 732), (732, .aload 0, 733), (733, .iload 3, 734), (734, .iconst 3, 735), (735, .iadd, 736), (736, .iaload, 737), (737, .invokevirtual 183, 740), (740, .if_icmp .eq 1522, 743), (743, .iconst 0, 744), (744, .freturn, 745), (745, .aload 1, 746), (746, .aload 0, 747), (747, .iload 3, 748), (748, .iconst 1, 749), (749, .iadd, 750), (750, .iaload, 751), (751, .invokevirtual 99, 754), (754, .aload 2, 755), (755, .aload 0, 756), (756, .iload 3, 757), (757, .iconst 1, 758), (758, .iadd, 759), (759, .iaload, 760), (760, .invokevirtual 184, 763), (763, .if_icmp .eq 1522, 766), (766, .iconst 0, 767), (767, .freturn, 768), (768, .aload 1, 769), (769, .invokevirtual 100, 772), (772, .aload 2, 773), (773, .invokevirtual 196, 776), (776, .if_icmp .eq 1522, 779), (779, .iconst 0, 780), (780, .freturn, 781), (781, .aload 1, 782), (782, .aload 0, 783), (783, .iload 3, 784), (784, .iconst 1, 785), (785, .iadd, 786), (786, .iaload, 787), (787, .aload 0, 788), (788, .iload 3, 789), (789, .iconst 2, 790), (790, .iadd, 791), (791, .iaload, 792), (792, .invokevirtual 101, 795), (795, .aload 2, 796), (796, .aload 0, 797), (797, .iload 3, 798), (798, .iconst 1, 799), (799, .iadd, 800), (800, .iaload, 801), (801, .aload 0, 802), (802, .iload 3, 803), (803, .iconst 2, 804), (804, .iadd, 805), (805, .iaload, 806), (806, .invokevirtual 197, 809), (809, .if_icmp .eq 1522, 812), (812, .iconst 0, 813), (813, .freturn, 814), (814, .aload 1, 815), (815, .aload 0, 816), (816, .iload 3, 817), (817, .iconst 1, 818), (818, .iadd, 819), (819, .iaload, 820), (820, .invokevirtual 102, 823), (823, .aload 2, 824), (824, .aload 0, 825), (825, .iload 3, 826), (826, .iconst 1, 827), (827, .iadd, 828), (828, .iaload, 829), (829, .invokevirtual 199, 832), (832, .if_icmp .eq 1522, 835), (835, .iconst 0, 836), (836, .freturn, 837), (837, .aload 1, 838), (838, .aload 0, 839), (839, .iload 3, 840), (840, .iconst 1, 841), (841, .iadd, 842), (842, .iaload, 843), (843, .aload 0, 844), (844, .iload 3, 845), (845, .iconst 2, 846), (846, .iadd, 847), (847, .iaload, 848), (848, .ifCond .eq 855, 851), (851, .iconst 1, 852), (852, .goto 856, 855), (855, .iconst 0, 856), (856, .invokevirtual 103, 859), (859, .aload 2, 860), (860, .aload 0, 861), (861, .iload 3, 862), (862, .iconst 1, 863), (863, .iadd, 864), (864, .iaload, 865), (865, .aload 0, 866), (866, .iload 3, 867), (867, .iconst 2, 868), (868, .iadd, 869), (869, .iaload, 870), (870, .ifCond .eq 877, 873), (873, .iconst 1, 874), (874, .goto 878, 877), (877, .iconst 0, 878), (878, .invokevirtual 202, 881), (881, .if_icmp .eq 1522, 884), (884, .iconst 0, 885), (885, .freturn, 886), (886, .aload 1, 887), (887, .aload 0, 888), (888, .iload 3, 889), (889, .iconst 1, 890), (890, .iadd, 891), (891, .iaload, 892), (892, .aload 0, 893), (893, .iload 3, 894), (894, .iconst 2, 895), (895, .iadd, 896), (896, .iaload, 897), (897, .invokevirtual 104, 900), (900, .aload 2, 901), (901, .aload 0, 902), (902, .iload 3, 903), (903, .iconst 1, 904), (904, .iadd, 905), (905, .iaload, 906), (906, .aload 0, 907), (907, .iload 3, 908), (908, .iconst 2, 909), (909, .iadd, 910), (910, .iaload, 911), (911, .invokevirtual 205, 914), (914, .if_icmp .eq 1522, 917), (917, .iconst 0, 918), (918, .freturn, 919), (919, .aload 1, 920), (920, .invokevirtual 105, 923), (923, .aload 2, 924), (924, .invokevirtual 206, 927), (927, .if_icmp .eq 1522, 930), (930, .iconst 0, 931), (931, .freturn, 932), (932, .aload 1, 933), (933, .aload 0, 934), (934, .iload 3, 935), (935, .iconst 1, 936), (936, .iadd, 937), (937, .iaload, 938), (938, .invokevirtual 106, 941), (941, .aload 2, 942), (942, .aload 0, 943), (943, .iload 3, 944), (944, .iconst 1, 945), (945, .iadd, 946), (946, .iaload, 947), (947, .invokevirtual 207, 950), (950, .if_icmp .eq 1522, 953), (953, .iconst 0, 954), (954, .freturn, 955), (955, .aload 1, 956), (956, .invokevirtual 107, 959), (959, .aload 2, 960), (960, .invokevirtual 208, 963), (963, .if_icmp .eq 1522, 966), (966, .iconst 0, 967), (967, .freturn, 968), (968, .aload 1, 969), (969, .aload 0, 970), (970, .iload 3, 971), (971, .iconst 1, 972), (972, .iadd, 973), (973, .iaload, 974), (974, .invokevirtual 108, 977), (977, .aload 2, 978), (978, .aload 0, 979), (979, .iload 3, 980), (980, .iconst 1, 981), (981, .iadd, 982), (982, .iaload, 983), (983, .invokevirtual 211, 986), (986, .if_icmp .eq 1522, 989), (989, .iconst 0, 990), (990, .freturn, 991), (991, .aload 1, 992), (992, .aload 0, 993), (993, .iload 3, 994), (994, .iconst 1, 995), (995, .iadd, 996), (996, .iaload, 997), (997, .invokevirtual 109, 1000), (1000, .aload 2, 1001), (1001, .aload 0, 1002), (1002, .iload 3, 1003), (1003, .iconst 1, 1004), (1004, .iadd, 1005), (1005, .iaload, 1006), (1006, .invokevirtual 212, 1009), (1009, .if_icmp .eq 1522, 1012), (1012, .iconst 0, 1013), (1013, .freturn, 1014), (1014, .aload 1, 1015), (1015, .invokevirtual 110, 1018), (1018, .aload 2, 1019), (1019, .invokevirtual 213, 1022), (1022, .if_icmp .eq 1522, 1025), (1025, .iconst 0, 1026), (1026, .freturn, 1027), (1027, .aload 1, 1028), (1028, .aload 0, 1029), (1029, .iload 3, 1030), (1030, .iconst 1, 1031), (1031, .iadd, 1032), (1032, .iaload, 1033), (1033, .aload 0, 1034), (1034, .iload 3, 1035), (1035, .iconst 2, 1036), (1036, .iadd, 1037), (1037, .iaload, 1038), (1038, .invokevirtual 111, 1041), (1041, .aload 2, 1042), (1042, .aload 0, 1043), (1043, .iload 3, 1044), (1044, .iconst 1, 1045), (1045, .iadd, 1046), (1046, .iaload, 1047), (1047, .aload 0, 1048), (1048, .iload 3, 1049), (1049, .iconst 2, 1050), (1050, .iadd, 1051), (1051, .iaload, 1052), (1052, .invokevirtual 217, 1055), (1055, .if_icmp .eq 1522, 1058), (1058, .iconst 0, 1059), (1059, .freturn, 1060), (1060, .aload 1, 1061), (1061, .aload 0, 1062), (1062, .iload 3, 1063), (1063, .iconst 1, 1064), (1064, .iadd, 1065), (1065, .iaload, 1066), (1066, .aload 0, 1067), (1067, .iload 3, 1068), (1068, .iconst 2, 1069), (1069, .iadd, 1070), (1070, .iaload, 1071), (1071, .aload 0, 1072), (1072, .iload 3, 1073), (1073, .iconst 3, 1074), (1074, .iadd, 1075), (1075, .iaload, 1076), (1076, .invokevirtual 112, 1079), (1079, .aload 2, 1080), (1080, .aload 0, 1081), (1081, .iload 3, 1082), (1082, .iconst 1, 1083), (1083, .iadd, 1084), (1084, .iaload, 1085), (1085, .aload 0, 1086), (1086, .iload 3, 1087), (1087, .iconst 2, 1088), (1088, .iadd, 1089), (1089, .iaload, 1090), (1090, .aload 0, 1091), (1091, .iload 3, 1092), (1092, .iconst 3, 1093), (1093, .iadd, 1094), (1094, .iaload, 1095), (1095, .invokevirtual 218, 1098), (1098, .if_icmp .eq 1522, 1101), (1101, .iconst 0, 1102), (1102, .freturn, 1103), (1103, .aload 1, 1104), (1104, .aload 0, 1105), (1105, .iload 3, 1106), (1106, .iconst 1, 1107), (1107, .iadd, 1108), (1108, .iaload, 1109), (1109, .aload 0, 1110), (1110, .iload 3, 1111), (1111, .iconst 2, 1112), (1112, .iadd, 1113), (1113, .iaload, 1114), (1114, .aload 0, 1115), (1115, .iload 3, 1116), (1116, .iconst 3, 1117), (1117, .iadd, 1118), (1118, .iaload, 1119), (1119, .invokevirtual 113, 1122), (1122, .aload 2, 1123), (1123, .aload 0, 1124), (1124, .iload 3, 1125), (1125, .iconst 1, 1126), (1126, .iadd, 1127), (1127, .iaload, 1128), (1128, .aload 0, 1129), (1129, .iload 3, 1130), (1130, .iconst 2, 1131), (1131, .iadd, 1132), (1132, .iaload, 1133), (1133, .aload 0, 1134), (1134, .iload 3, 1135), (1135, .iconst 3, 1136), (1136, .iadd, 1137), (1137, .iaload, 1138), (1138, .invokevirtual 221, 1141), (1141, .if_icmp .eq 1522, 1144), (1144, .iconst 0, 1145), (1145, .freturn, 1146), (1146, .aload 1, 1147), (1147, .aload 0, 1148), (1148, .iload 3, 1149), (1149, .iconst 1, 1150), (1150, .iadd, 1151), (1151, .iaload, 1152), (1152, .aload 0, 1153), (1153, .iload 3, 1154), (1154, .iconst 2, 1155), (1155, .iadd, 1156), (1156, .iaload, 1157), (1157, .aload 0, 1158), (1158, .iload 3, 1159), (1159, .iconst 3, 1160), (1160, .iadd, 1161), (1161, .iaload, 1162), (1162, .invokevirtual 114, 1165), (1165, .aload 2, 1166), (1166, .aload 0, 1167), (1167, .iload 3, 1168), (1168, .iconst 1, 1169), (1169, .iadd, 1170), (1170, .iaload, 1171), (1171, .aload 0, 1172), (1172, .iload 3, 1173), (1173, .iconst 2, 1174), (1174, .iadd, 1175), (1175, .iaload, 1176), (1176, .aload 0, 1177), (1177, .iload 3, 1178), (1178, .iconst 3, 1179), (1179, .iadd, 1180), (1180, .iaload, 1181), (1181, .invokevirtual 222, 1184), (1184, .if_icmp .eq 1522, 1187), (1187, .iconst 0, 1188), (1188, .freturn, 1189), (1189, .aload 1, 1190), (1190, .aload 0, 1191), (1191, .iload 3, 1192), (1192, .iconst 1, 1193), (1193, .iadd, 1194), (1194, .iaload, 1195), (1195, .aload 0, 1196), (1196, .iload 3, 1197), (1197, .iconst 2, 1198), (1198, .iadd, 1199), (1199, .iaload, 1200), (1200, .invokevirtual 115, 1203), (1203, .aload 2, 1204), (1204, .aload 0, 1205), (1205, .iload 3, 1206), (1206, .iconst 1, 1207), (1207, .iadd, 1208), (1208, .iaload, 1209), (1209, .aload 0, 1210), (1210, .iload 3, 1211), (1211, .iconst 2, 1212), (1212, .iadd, 1213), (1213, .iaload, 1214), (1214, .invokevirtual 223, 1217), (1217, .if_icmp .eq 1522, 1220), (1220, .iconst 0, 1221), (1221, .freturn, 1222), (1222, .aload 1, 1223), (1223, .aload 0, 1224), (1224, .iload 3, 1225), (1225, .iconst 1, 1226), (1226, .iadd, 1227), (1227, .iaload, 1228), (1228, .aload 0, 1229), (1229, .iload 3, 1230), (1230, .iconst 2, 1231), (1231, .iadd, 1232), (1232, .iaload, 1233), (1233, .aload 0, 1234), (1234, .iload 3, 1235), (1235, .iconst 3, 1236), (1236, .iadd, 1237), (1237, .iaload, 1238), (1238, .aload 0, 1239), (1239, .iload 3, 1240), (1240, .iconst 4, 1241), (1241, .iadd, 1242), (1242, .iaload, 1243), (1243, .aload 0, 1244), (1244, .iload 3, 1245), (1245, .iconst 5, 1246), (1246, .iadd, 1247), (1247, .iaload, 1248), (1248, .invokevirtual 116, 1251), (1251, .aload 2, 1252), (1252, .aload 0, 1253), (1253, .iload 3, 1254), (1254, .iconst 1, 1255), (1255, .iadd, 1256), (1256, .iaload, 1257), (1257, .aload 0, 1258), (1258, .iload 3, 1259), (1259, .iconst 2, 1260), (1260, .iadd, 1261), (1261, .iaload, 1262), (1262, .aload 0, 1263), (1263, .iload 3, 1264), (1264, .iconst 3, 1265), (1265, .iadd, 1266), (1266, .iaload, 1267), (1267, .aload 0, 1268), (1268, .iload 3, 1269), (1269, .iconst 4, 1270), (1270, .iadd, 1271), (1271, .iaload, 1272), (1272, .aload 0, 1273), (1273, .iload 3, 1274), (1274, .iconst 5, 1275), (1275, .iadd, 1276), (1276, .iaload, 1277), (1277, .invokevirtual 224, 1280), (1280, .if_icmp .eq 1522, 1283), (1283, .iconst 0, 1284), (1284, .freturn, 1285), (1285, .aload 1, 1286), (1286, .aload 0, 1287), (1287, .iload 3, 1288), (1288, .iconst 1, 1289), (1289, .iadd, 1290), (1290, .iaload, 1291), (1291, .aload 0, 1292), (1292, .iload 3, 1293), (1293, .iconst 2, 1294), (1294, .iadd, 1295), (1295, .iaload, 1296), (1296, .aload 0, 1297), (1297, .iload 3, 1298), (1298, .iconst 3, 1299), (1299, .iadd, 1300), (1300, .iaload, 1301), (1301, .invokevirtual 117, 1304), (1304, .aload 2, 1305), (1305, .aload 0, 1306), (1306, .iload 3, 1307), (1307, .iconst 1, 1308), (1308, .iadd, 1309), (1309, .iaload, 1310), (1310, .aload 0, 1311), (1311, .iload 3, 1312), (1312, .iconst 2, 1313), (1313, .iadd, 1314), (1314, .iaload, 1315), (1315, .aload 0, 1316), (1316, .iload 3, 1317), (1317, .iconst 3, 1318), (1318, .iadd, 1319), (1319, .iaload, 1320), (1320, .invokevirtual 225, 1323), (1323, .if_icmp .eq 1522, 1326), (1326, .iconst 0, 1327), (1327, .freturn, 1328), (1328, .aload 1, 1329), (1329, .aload 0, 1330), (1330, .iload 3, 1331), (1331, .iconst 1, 1332), (1332, .iadd, 1333), (1333, .iaload, 1334), (1334, .aload 0, 1335), (1335, .iload 3, 1336), (1336, .iconst 2, 1337), (1337, .iadd, 1338), (1338, .iaload, 1339), (1339, .invokevirtual 118, 1342), (1342, .aload 2, 1343), (1343, .aload 0, 1344), (1344, .iload 3, 1345), (1345, .iconst 1, 1346), (1346, .iadd, 1347), (1347, .iaload, 1348), (1348, .aload 0, 1349), (1349, .iload 3, 1350), (1350, .iconst 2, 1351), (1351, .iadd, 1352), (1352, .iaload, 1353), (1353, .invokevirtual 226, 1356), (1356, .if_icmp .eq 1522, 1359), (1359, .iconst 0, 1360), (1360, .freturn, 1361), (1361, .aload 1, 1362), (1362, .aload 0, 1363), (1363, .iload 3, 1364), (1364, .iconst 1, 1365), (1365, .iadd, 1366), (1366, .iaload, 1367), (1367, .aload 0, 1368), (1368, .iload 3, 1369), (1369, .iconst 2, 1370), (1370, .iadd, 1371), (1371, .iaload, 1372), (1372, .invokevirtual 119, 1375), (1375, .aload 2, 1376), (1376, .aload 0, 1377), (1377, .iload 3, 1378), (1378, .iconst 1, 1379), (1379, .iadd, 1380), (1380, .iaload, 1381), (1381, .aload 0, 1382), (1382, .iload 3, 1383), (1383, .iconst 2, 1384), (1384, .iadd, 1385), (1385, .iaload, 1386), (1386, .invokevirtual 227, 1389), (1389, .if_icmp .eq 1522, 1392), (1392, .iconst 0, 1393), (1393, .freturn, 1394), (1394, .aload 1, 1395), (1395, .aload 0, 1396), (1396, .iload 3, 1397), (1397, .iconst 1, 1398), (1398, .iadd, 1399), (1399, .iaload, 1400), (1400, .aload 0, 1401), (1401, .iload 3, 1402), (1402, .iconst 2, 1403), (1403, .iadd, 1404), (1404, .iaload, 1405), (1405, .invokevirtual 120, 1408), (1408, .aload 2, 1409), (1409, .aload 0, 1410), (1410, .iload 3, 1411), (1411, .iconst 1, 1412), (1412, .iadd, 1413), (1413, .iaload, 1414), (1414, .aload 0, 1415), (1415, .iload 3, 1416), (1416, .iconst 2, 1417), (1417, .iadd, 1418), (1418, .iaload, 1419), (1419, .invokevirtual 228, 1422), (1422, .if_icmp .eq 1522, 1425), (1425, .iconst 0, 1426), (1426, .freturn, 1427), (1427, .aload 1, 1428), (1428, .aload 0, 1429), (1429, .iload 3, 1430), (1430, .iconst 1, 1431), (1431, .iadd, 1432), (1432, .iaload, 1433), (1433, .invokevirtual 121, 1436), (1436, .aload 2, 1437), (1437, .aload 0, 1438), (1438, .iload 3, 1439), (1439, .iconst 1, 1440), (1440, .iadd, 1441), (1441, .iaload, 1442), (1442, .invokevirtual 229, 1445), (1445, .if_icmp .eq 1522, 1448), (1448, .iconst 0, 1449), (1449, .freturn, 1450), (1450, .aload 1, 1451), (1451, .aload 0, 1452), (1452, .iload 3, 1453), (1453, .iconst 1, 1454), (1454, .iadd, 1455), (1455, .iaload, 1456), (1456, .invokevirtual 122, 1459), (1459, .aload 2, 1460), (1460, .aload 0, 1461), (1461, .iload 3, 1462), (1462, .iconst 1, 1463), (1463, .iadd, 1464), (1464, .iaload, 1465), (1465, .invokevirtual 231, 1468), (1468, .if_icmp .eq 1522, 1471), (1471, .iconst 0, 1472), (1472, .freturn, 1473), (1473, .aload 1, 1474), (1474, .invokevirtual 123, 1477), (1477, .aload 2, 1478), (1478, .invokevirtual 232, 1481), (1481, .if_icmp .eq 1522, 1484), (1484, .iconst 0, 1485), (1485, .freturn, 1486), (1486, .aload 1, 1487), (1487, .invokevirtual 124, 1490), (1490, .aload 2, 1491), (1491, .invokevirtual 233, 1494), (1494, .if_icmp .eq 1522, 1497), (1497, .iconst 0, 1498), (1498, .freturn, 1499), (1499, .aload 1, 1500), (1500, .aload 0, 1501), (1501, .iload 3, 1502), (1502, .iconst 1, 1503), (1503, .iadd, 1504), (1504, .iaload, 1505), (1505, .invokevirtual 125, 1508), (1508, .aload 2, 1509), (1509, .aload 0, 1510), (1510, .iload 3, 1511), (1511, .iconst 1, 1512), (1512, .iadd, 1513), (1513, .iaload, 1514), (1514, .invokevirtual 236, 1517), (1517, .if_icmp .eq 1522, 1520), (1520, .iconst 0, 1521), (1521, .freturn, 1522), (1522, .iinc 3 6, 1525), (1525, .goto 18, 1528), (1528, .iconst 1, 1529), (1529, .freturn, 1530)]
set_option maxRecDepth 20000 in
def kp_L_law : List (Instr × Nat) := [(.new 7, 83), (.dup, 0), (.invokespecial 9, 85), (.astore_n 1, 0), (.new 10, 1186), (.dup, 0), (.invokespecial 12, 1188), (.astore_n 2, 0), (.iconst 0, 0), (.istore_n 3, 0), (.iload_n 3, 0), (.aload_n 0, 0), (.arraylength, 0), (.bipush 6, 0), (.isub, 0), (.if_icmp .gt 1504, 0), (.aload_n 0, 0), (.iload_n 3, 0), (.iaload, 0), (.bipush 63, 0), (.iand, 0), (.tableswitch 1489 0 43 #[191, 224, 257, 290, 323, 356, 399, 432, 465, 498, 521, 554, 587, 610, 633, 656, 669, 712, 735, 748, 781, 804, 853, 886, 899, 922, 935, 958, 981, 994, 1027, 1070, 1113, 1156, 1189, 1252, 1295, 1328, 1361, 1394, 1417, 1440, 1453, 1466], 0), (.aload_n 1, 0), (.aload_n 0, 0), (.iload_n 3, 0), (.iconst 1, 0), (.iadd, 0), (.iaload, 0), (.aload_n 0, 0), (.iload_n 3, 0), (.iconst 2, 0), (.iadd, 0), (.iaload, 0), (.invokevirtual 13, 510), (.aload_n 2, 0), (.aload_n 0, 0), (.iload_n 3, 0), (.iconst 1, 0), (.iadd, 0), (.iaload, 0), (.aload_n 0, 0), (.iload_n 3, 0), (.iconst 2, 0), (.iadd, 0), (.iaload, 0), (.invokevirtual 17, 1326), (.if_icmp .eq 1270, 0), (.iconst 0, 0), (.ireturn, 0), (.aload_n 1, 0), (.aload_n 0, 0), (.iload_n 3, 0), (.iconst 1, 0), (.iadd, 0), (.iaload, 0), (.aload_n 0, 0), (.iload_n 3, 0), (.iconst 2, 0), (.iadd, 0), (.iaload, 0), (.invokevirtual 18, 526), (.aload_n 2, 0), (.aload_n 0, 0), (.iload_n 3, 0), (.iconst 1, 0), (.iadd, 0), (.iaload, 0), (.aload_n 0, 0), (.iload_n 3, 0), (.iconst 2, 0), (.iadd, 0), (.iaload, 0), (.invokevirtual 21, 1335), (.if_icmp .eq 1237, 0), (.iconst 0, 0), (.ireturn, 0), (.aload_n 1, 0), (.aload_n 0, 0), (.iload_n 3, 0), (.iconst 1, 0), (.iadd, 0), (.iaload, 0), (.aload_n 0, 0), (.iload_n 3, 0), (.iconst 2, 0), (.iadd, 0), (.iaload, 0), (.invokevirtual 22, 597), (.aload_n 2, 0), (.aload_n 0, 0), (.iload_n 3, 0), (.iconst 1, 0), (.iadd, 0), (.iaload, 0), (.aload_n 0, 0), (.iload_n 3, 0), (.iconst 2, 0), (.iadd, 0), (.iaload, 0), (.invokevirtual 25, 1400), (.if_icmp .eq 1204, 0), (.iconst 0, 0), (.ireturn, 0), (.aload_n 1, 0), (.aload_n 0, 0), (.iload_n 3, 0), (.iconst 1, 0), (.iadd, 0), (.iaload, 0), (.aload_n 0, 0), (.iload_n 3, 0), (.iconst 2, 0), (.iadd, 0), (.iaload, 0), (.invokevirtual 26, 601), (.aload_n 2, 0), (.aload_n 0, 0), (.iload_n 3, 0), (.iconst 1, 0), (.iadd, 0), (.iaload, 0), (.aload_n 0, 0), (.iload_n 3, 0), (.iconst 2, 0), (.iadd, 0), (.iaload, 0), (.invokevirtual 29, 1404), (.if_icmp .eq 1171, 0), (.iconst 0, 0), (.ireturn, 0), (.aload_n 1, 0), (.aload_n 0, 0), (.iload_n 3, 0), (.iconst 1, 0), (.iadd, 0), (.iaload, 0), (.aload_n 0, 0), (.iload_n 3, 0), (.iconst 2, 0), (.iadd, 0), (.iaload, 0), (.invokevirtual 30, 614), (.aload_n 2, 0), (.aload_n 0, 0), (.iload_n 3, 0), (.iconst 1, 0), (.iadd, 0), (.iaload, 0), (.aload_n 0, 0), (.iload_n 3, 0), (.iconst 2, 0), (.iadd, 0), (.iaload, 0), (.invokevirtual 33, 1412), (.if_icmp .eq 1138, 0), (.iconst 0, 0), (.ireturn, 0), (.aload_n 1, 0), (.aload_n 0, 0), (.iload_n 3, 0), (.iconst 1, 0), (.iadd, 0), (.iaload, 0), (.aload_n 0, 0), (.iload_n 3, 0), (.iconst 2, 0), (.iadd, 0), (.iaload, 0), (.aload_n 0, 0), (.iload_n 3, 0), (.iconst 3, 0), (.iadd, 0), (.iaload, 0), (.invokevirtual 34, 622), (.aload_n 2, 0), (.aload_n 0, 0), (.iload_n 3, 0), (.iconst 1, 0), (.iadd, 0), (.iaload, 0), (.aload_n 0, 0), (.iload_n 3, 0), (.iconst 2, 0), (.iadd, 0), (.iaload, 0), (.aload_n 0, 0), (.iload_n 3, 0), (.iconst 3, 0), (.iadd, 0), (.iaload, 0), (.invokevirtual 38, 1416), (.if_icmp .eq 1095, 0), (.iconst 0, 0), (.ireturn, 0), (.aload_n 1, 0), (.aload_n 0, 0), (.iload_n 3, 0), (.iconst 1, 0), (.iadd, 0), (.iaload, 0), (.aload_n 0, 0), (.iload_n 3, 0), (.iconst 2, 0), (.iadd, 0), (.iaload, 0), (.invokevirtual 39, 636), (.aload_n 2, 0), (.aload_n 0, 0), (.iload_n 3, 0), (.iconst 1, 0), (.iadd, 0), (.iaload, 0), (.aload_n 0, 0), (.iload_n 3, 0), (.iconst 2, 0), (.iadd, 0), (.iaload, 0), (.invokevirtual 42, 1420), (.if_icmp .eq 1062, 0), (.iconst 0, 0), (.ireturn, 0), (.aload_n 1, 0), (.aload_n 0, 0), (.iload_n 3, 0), (.iconst 1, 0), (.iadd, 0), (.iaload, 0), (.aload_n 0, 0), (.iload_n 3, 0), (.iconst 2, 0), (.iadd, 0), (.iaload, 0), (.invokevirtual 43, 655), (.aload_n 2, 0), (.aload_n 0, 0), (.iload_n 3, 0), (.iconst 1, 0), (.iadd, 0), (.iaload, 0), (.aload_n 0, 0), (.iload_n 3, 0), (.iconst 2, 0), (.iadd, 0), (.iaload, 0), (.invokevirtual 46, 1439), (.if_icmp .eq 1029, 0), (.iconst 0, 0), (.ireturn, 0), (.aload_n 1, 0), (.aload_n 0, 0), (.iload_n 3, 0), (.iconst 1, 0), (.iadd, 0), (.iaload, 0), (.aload_n 0, 0), (.iload_n 3, 0), (.iconst 2, 0), (.iadd, 0), (.iaload, 0), (.invokevirtual 47, 665), (.aload_n 2, 0), (.aload_n 0, 0), (.iload_n 3, 0), (.iconst 1, 0), (.iadd, 0), (.iaload, 0), (.aload_n 0, 0), (.iload_n 3, 0), (.iconst 2, 0), (.iadd, 0), (.iaload, 0), (.invokevirtual 50, 1447), (.if_icmp .eq 996, 0), (.iconst 0, 0), (.ireturn, 0), (.aload_n 1, 0), (.aload_n 0, 0), (.iload_n 3, 0), (.iconst 1, 0), (.iadd, 0), (.iaload, 0), (.invokevirtual 51, 669), (.aload_n 2, 0), (.aload_n 0, 0), (.iload_n 3, 0), (.iconst 1, 0), (.iadd, 0), (.iaload, 0), (.invokevirtual 55, 1451), (.if_icmp .eq 973, 0), (.iconst 0, 0), (.ireturn, 0), (.aload_n 1, 0), (.aload_n 0, 0), (.iload_n 3, 0), (.iconst 1, 0), (.iadd, 0), (.iaload, 0), (.aload_n 0, 0), (.iload_n 3, 0), (.iconst 2, 0), (.iadd, 0), (.iaload, 0), (.invokevirtual 56, 673), (.aload_n 2, 0), (.aload_n 0, 0), (.iload_n 3, 0), (.iconst 1, 0), (.iadd, 0), (.iaload, 0), (.aload_n 0, 0), (.iload_n 3, 0), (.iconst 2, 0), (.iadd, 0), (.iaload, 0), (.invokevirtual 59, 1455), (.if_icmp .eq 940, 0), (.iconst 0, 0), (.ireturn, 0), (.aload_n 1, 0), (.aload_n 0, 0), (.iload_n 3, 0), (.iconst 1, 0), (.iadd, 0), (.iaload, 0), (.aload_n 0, 0), (.iload_n 3, 0), (.iconst 2, 0), (.iadd, 0), (.iaload, 0), (.invokevirtual 60, 687), (.aload_n 2, 0), (.aload_n 0, 0), (.iload_n 3, 0), (.iconst 1, 0), (.iadd, 0), (.iaload, 0), (.aload_n 0, 0), (.iload_n 3, 0), (.iconst 2, 0), (.iadd, 0), (.iaload, 0), (.invokevirtual 63, 1463), (.if_icmp .eq 907, 0), (.iconst 0, 0), (.ireturn, 0), (.aload_n 1, 0), (.aload_n 0, 0), (.iload_n 3, 0), (.iconst 1, 0), (.iadd, 0), (.iaload, 0), (.invokevirtual 64, 691), (.aload_n 2, 0), (.aload_n 0, 0), (.iload_n 3, 0), (.iconst 1, 0), (.iadd, 0), (.iaload, 0), (.invokevirtual 67, 1467), (.if_icmp .eq 884, 0), (.iconst 0, 0), (.ireturn, 0), (.aload_n 1, 0), (.aload_n 0, 0), (.iload_n 3, 0), (.iconst 1, 0), (.iadd, 0), (.iaload, 0), (.invokevirtual 68, 706), (.aload_n 2, 0), (.aload_n 0, 0), (.iload_n 3, 0), (.iconst 1, 0), (.iadd, 0), (.iaload, 0), (.invokevirtual 71, 1476), (.if_icmp .eq 861, 0), (.iconst 0, 0), (.ireturn, 0), (.aload_n 1, 0), (.aload_n 0, 0), (.iload_n 3, 0), (.iconst 1, 0), (.iadd, 0), (.iaload, 0), (.invokevirtual 72, 710), (.aload_n 2, 0), (.aload_n 0, 0), (.iload_n 3, 0), (.iconst 1, 0), (.iadd, 0), (.iaload, 0), (.invokevirtual 75, 1480), (.if_icmp .eq 838, 0), (.iconst 0, 0), (.ireturn, 0), (.aload_n 1, 0), (.invokevirtual 76, 718), (.aload_n 2, 0), (.invokevirtual 80, 1488), (.if_icmp .eq 825, 0), (.iconst 0, 0), (.ireturn, 0), (.aload_n 1, 0), (.aload_n 0, 0), (.iload_n 3, 0), (.iconst 1, 0), (.iadd, 0), (.iaload, 0), (.aload_n 0, 0), (.iload_n 3, 0), (.iconst 2, 0), (.iadd, 0), (.iaload, 0), (.aload_n 0, 0), (.iload_n 3, 0), (.iconst 3, 0), (.iadd, 0), (.iaload, 0), (.invokevirtual 81, 726), (.aload_n 2, 0), (.aload_n 0, 0), (.iload_n 3, 0), (.iconst 1, 0), (.iadd, 0), (.iaload, 0), (.aload_n 0, 0), (.iload_n 3, 0), (.iconst 2, 0), (.iadd, 0), (.iaload, 0), (.aload_n 0, 0), (.iload_n 3, 0), (.iconst 3, 0), (.iadd, 0), (.iaload, 0), (.invokevirtual 84, 1492), (.if_icmp .eq 782, 0), (.iconst 0, 0), (.ireturn, 0), (.aload_n 1, 0), (.aload_n 0, 0), (.iload_n 3, 0), (.iconst 1, 0), (.iadd, 0), (.iaload, 0), (.invokevirtual 85, 734), (.aload_n 2, 0), (.aload_n 0, 0), (.iload_n 3, 0), (.iconst 1, 0), (.iadd, 0), (.iaload, 0), (.invokevirtual 88, 1496), (.if_icmp .eq 759, 0), (.iconst 0, 0), (.ireturn, 0), (.aload_n 1, 0), (.invokevirtual 89, 738), (.aload_n 2, 0), (.invokevirtual 92, 1500), (.if_icmp .eq 746, 0), (.iconst 0, 0), (.ireturn, 0), (.aload_n 1, 0), (.aload_n 0, 0), (.iload_n 3, 0), (.iconst 1, 0), (.iadd, 0), (.iaload, 0), (.aload_n 0, 0), (.iload_n 3, 0), (.iconst 2, 0), (.iadd, 0), (.iaload, 0), (.invokevirtual 93, 931), (.aload_n 2, 0), (.aload_n 0, 0), (.iload_n 3, 0), (.iconst 1, 0), (.iadd, 0), (.iaload, 0), (.aload_n 0, 0), (.iload_n 3, 0), (.iconst 2, 0), (.iadd, 0), (.iaload, 0), (.invokevirtual 96, 1547), (.if_icmp .eq 713, 0), (.iconst 0, 0), (.ireturn, 0), (.aload_n 1, 0), (.aload_n 0, 0), (.iload_n 3, 0), (.iconst 1, 0), (.iadd, 0), (.iaload, 0), (.invokevirtual 97, 935), (.aload_n 2, 0), (.aload_n 0, 0), (.iload_n 3, 0), (.iconst 1, 0), (.iadd, 0), (.iaload, 0), (.invokevirtual 100, 1551), (.if_icmp .eq 690, 0), (.iconst 0, 0), (.ireturn, 0), (.aload_n 1, 0), (.aload_n 0, 0), (.iload_n 3, 0), (.iconst 1, 0), (.iadd, 0), (.iaload, 0), (.aload_n 0, 0), (.iload_n 3, 0), (.iconst 2, 0), (.iadd, 0), (.iaload, 0), (.ifCond .eq 7, 0), (.iconst 1, 0), (.goto 4, 0), (.iconst 0, 0), (.invokevirtual 101, 939), (.aload_n 2, 0), (.aload_n 0, 0), (.iload_n 3, 0), (.iconst 1, 0), (.iadd, 0), (.iaload, 0), (.aload_n 0, 0), (.iload_n 3, 0), (.iconst 2, 0), (.iadd, 0), (.iaload, 0), (.ifCond .eq 7, 0), (.iconst 1, 0), (.goto 4, 0), (.iconst 0, 0), (.invokevirtual 105, 1556), (.if_icmp .eq 641, 0), (.iconst 0, 0), (.ireturn, 0), (.aload_n 1, 0), (.aload_n 0, 0), (.iload_n 3, 0), (.iconst 1, 0), (.iadd, 0), (.iaload, 0), (.aload_n 0, 0), (.iload_n 3, 0), (.iconst 2, 0), (.iadd, 0), (.iaload, 0), (.invokevirtual 106, 943), (.aload_n 2, 0), (.aload_n 0, 0), (.iload_n 3, 0), (.iconst 1, 0), (.iadd, 0), (.iaload, 0), (.aload_n 0, 0), (.iload_n 3, 0), (.iconst 2, 0), (.iadd, 0), (.iaload, 0), (.invokevirtual 109, 1560), (.if_icmp .eq 608, 0), (.iconst 0, 0), (.ireturn, 0), (.aload_n 1, 0), (.invokevirtual 110, 976), (.aload_n 2, 0), (.invokevirtual 113, 1572), (.if_icmp .eq 595, 0), (.iconst 0, 0), (.ireturn, 0), (.aload_n 1, 0), (.aload_n 0, 0), (.iload_n 3, 0), (.iconst 1, 0), (.iadd, 0), (.iaload, 0), (.invokevirtual 114, 980), (.aload_n 2, 0), (.aload_n 0, 0), (.iload_n 3, 0), (.iconst 1, 0), (.iadd, 0), (.iaload, 0), (.invokevirtual 117, 1576), (.if_icmp .eq 572, 0), (.iconst 0, 0), (.ireturn, 0), (.aload_n 1, 0), (.invokevirtual 118, 988), (.aload_n 2, 0), (.invokevirtual 121, 1581), (.if_icmp .eq 559, 0), (.iconst 0, 0), (.ireturn, 0), (.aload_n 1, 0), (.aload_n 0, 0), (.iload_n 3, 0), (.iconst 1, 0), (.iadd, 0), (.iaload, 0), (.invokevirtual 122, 992), (.aload_n 2, 0), (.aload_n 0, 0), (.iload_n 3, 0), (.iconst 1, 0), (.iadd, 0), (.iaload, 0), (.invokevirtual 125, 1585), (.if_icmp .eq 536, 0), (.iconst 0, 0), (.ireturn, 0), (.aload_n 1, 0), (.aload_n 0, 0), (.iload_n 3, 0), (.iconst 1, 0), (.iadd, 0), (.iaload, 0), (.invokevirtual 126, 1011), (.aload_n 2, 0), (.aload_n 0, 0), (.iload_n 3, 0), (.iconst 1, 0), (.iadd, 0), (.iaload, 0), (.invokevirtual 129, 1596), (.if_icmp .eq 513, 0), (.iconst 0, 0), (.ireturn, 0), (.aload_n 1, 0), (.invokevirtual 130, 1015), (.aload_n 2, 0), (.invokevirtual 133, 1600), (.if_icmp .eq 500, 0), (.iconst 0, 0), (.ireturn, 0), (.aload_n 1, 0), (.aload_n 0, 0), (.iload_n 3, 0), (.iconst 1, 0), (.iadd, 0), (.iaload, 0), (.aload_n 0, 0), (.iload_n 3, 0), (.iconst 2, 0), (.iadd, 0), (.iaload, 0), (.invokevirtual 134, 1019), (.aload_n 2, 0), (.aload_n 0, 0), (.iload_n 3, 0), (.iconst 1, 0), (.iadd, 0), (.iaload, 0), (.aload_n 0, 0), (.iload_n 3, 0), (.iconst 2, 0), (.iadd, 0), (.iaload, 0), (.invokevirtual 137, 1604), (.if_icmp .eq 467, 0), (.iconst 0, 0), (.ireturn, 0), (.aload_n 1, 0), (.aload_n 0, 0), (.iload_n 3, 0), (.iconst 1, 0), (.iadd, 0), (.iaload, 0), (.aload_n 0, 0), (.iload_n 3, 0), (.iconst 2, 0), (.iadd, 0), (.iaload, 0), (.aload_n 0, 0), (.iload_n 3, 0), (.iconst 3, 0), (.iadd, 0), (.iaload, 0), (.invokevirtual 138, 1039), (.aload_n 2, 0), (.aload_n 0, 0), (.iload_n 3, 0), (.iconst 1, 0), (.iadd, 0), (.iaload, 0), (.aload_n 0, 0), (.iload_n 3, 0), (.iconst 2, 0), (.iadd, 0), (.iaload, 0), (.aload_n 0, 0), (.iload_n 3, 0), (.iconst 3, 0), (.iadd, 0), (.iaload, 0), (.invokevirtual 141, 1619), (.if_icmp .eq 424, 0), (.iconst 0, 0), (.ireturn, 0), (.aload_n 1, 0), (.aload_n 0, 0), (.iload_n 3, 0), (.iconst 1, 0), (.iadd, 0), (.iaload, 0), (.aload_n 0, 0), (.iload_n 3, 0), (.iconst 2, 0), (.iadd, 0), (.iaload, 0), (.aload_n 0, 0), (.iload_n 3, 0), (.iconst 3, 0), (.iadd, 0), (.iaload, 0), (.invokevirtual 142, 1052), (.aload_n 2, 0), (.aload_n 0, 0), (.iload_n 3, 0), (.iconst 1, 0), (.iadd, 0), (.iaload, 0), (.aload_n 0, 0), (.iload_n 3, 0), (.iconst 2, 0), (.iadd, 0), (.iaload, 0), (.aload_n 0, 0), (.iload_n 3, 0), (.iconst 3, 0), (.iadd, 0), (.iaload, 0), (.invokevirtual 145, 1624), (.if_icmp .eq 381, 0), (.iconst 0, 0), (.ireturn, 0), (.aload_n 1, 0), (.aload_n 0, 0), (.iload_n 3, 0), (.iconst 1, 0), (.iadd, 0), (.iaload, 0), (.aload_n 0, 0), (.iload_n 3, 0), (.iconst 2, 0), (.iadd, 0), (.iaload, 0), (.aload_n 0, 0), (.iload_n 3, 0), (.iconst 3, 0), (.iadd, 0), (.iaload, 0), (.invokevirtual 146, 1064), (.aload_n 2, 0), (.aload_n 0, 0), (.iload_n 3, 0), (.iconst 1, 0), (.iadd, 0), (.iaload, 0), (.aload_n 0, 0), (.iload_n 3, 0), (.iconst 2, 0), (.iadd, 0), (.iaload, 0), (.aload_n 0, 0), (.iload_n 3, 0), (.iconst 3, 0), (.iadd, 0), (.iaload, 0), (.invokevirtual 149, 1632), (.if_icmp .eq 338, 0), (.iconst 0, 0), (.ireturn, 0), (.aload_n 1, 0), (.aload_n 0, 0), (.iload_n 3, 0), (.iconst 1, 0), (.iadd, 0), (.iaload, 0), (.aload_n 0, 0), (.iload_n 3, 0), (.iconst 2, 0), (.iadd, 0), (.iaload, 0), (.invokevirtual 150, 1080), (.aload_n 2, 0), (.aload_n 0, 0), (.iload_n 3, 0), (.iconst 1, 0), (.iadd, 0), (.iaload, 0), (.aload_n 0, 0), (.iload_n 3, 0), (.iconst 2, 0), (.iadd, 0), (.iaload, 0), (.invokevirtual 153, 1640), (.if_icmp .eq 305, 0), (.iconst 0, 0), (.ireturn, 0), (.aload_n 1, 0), (.aload_n 0, 0), (.iload_n 3, 0), (.iconst 1, 0), (.iadd, 0), (.iaload, 0), (.aload_n 0, 0), (.iload_n 3, 0), (.iconst 2, 0), (.iadd, 0), (.iaload, 0), (.aload_n 0, 0), (.iload_n 3, 0), (.iconst 3, 0), (.iadd, 0), (.iaload, 0), (.aload_n 0, 0), (.iload_n 3, 0), (.iconst 4, 0), (.iadd, 0), (.iaload, 0), (.aload_n 0, 0), (.iload_n 3, 0), (.iconst 5, 0), (.iadd, 0), (.iaload, 0), (.invokevirtual 154, 1106), (.aload_n 2, 0), (.aload_n 0, 0), (.iload_n 3, 0), (.iconst 1, 0), (.iadd, 0), (.iaload, 0), (.aload_n 0, 0), (.iload_n 3, 0), (.iconst 2, 0), (.iadd, 0), (.iaload, 0), (.aload_n 0, 0), (.iload_n 3, 0), (.iconst 3, 0), (.iadd, 0), (.iaload, 0), (.aload_n 0, 0), (.iload_n 3, 0), (.iconst 4, 0), (.iadd, 0), (.iaload, 0), (.aload_n 0, 0), (.iload_n 3, 0), (.iconst 5, 0), (.iadd, 0), (.iaload, 0), (.invokevirtual 158, 1647), (.if_icmp .eq 242, 0), (.iconst 0, 0), (.ireturn, 0), (.aload_n 1, 0), (.aload_n 0, 0), (.iload_n 3, 0), (.iconst 1, 0), (.iadd, 0), (.iaload, 0), (.aload_n 0, 0), (.iload_n 3, 0), (.iconst 2, 0), (.iadd, 0), (.iaload, 0), (.aload_n 0, 0), (.iload_n 3, 0), (.iconst 3, 0), (.iadd, 0), (.iaload, 0), (.invokevirtual 159, 1115), (.aload_n 2, 0), (.aload_n 0, 0), (.iload_n 3, 0), (.iconst 1, 0), (.iadd, 0), (.iaload, 0), (.aload_n 0, 0), (.iload_n 3, 0), (.iconst 2, 0), (.iadd, 0), (.iaload, 0), (.aload_n 0, 0), (.iload_n 3, 0), (.iconst 3, 0), (.iadd, 0), (.iaload, 0), (.invokevirtual 162, 1651), (.if_icmp .eq 199, 0), (.iconst 0, 0), (.ireturn, 0), (.aload_n 1, 0), (.aload_n 0, 0), (.iload_n 3, 0), (.iconst 1, 0), (.iadd, 0), (.iaload, 0), (.aload_n 0, 0), (.iload_n 3, 0), (.iconst 2, 0), (.iadd, 0), (.iaload, 0), (.invokevirtual 163, 1127), (.aload_n 2, 0), (.aload_n 0, 0), (.iload_n 3, 0), (.iconst 1, 0), (.iadd, 0), (.iaload, 0), (.aload_n 0, 0), (.iload_n 3, 0), (.iconst 2, 0), (.iadd, 0), (.iaload, 0), (.invokevirtual 166, 1658), (.if_icmp .eq 166, 0), (.iconst 0, 0), (.ireturn, 0), (.aload_n 1, 0), (.aload_n 0, 0), (.iload_n 3, 0), (.iconst 1, 0), (.iadd, 0), (.iaload, 0), (.aload_n 0, 0), (.iload_n 3, 0), (.iconst 2, 0), (.iadd, 0), (.iaload, 0), (.invokevirtual 167, 1137), (.aload_n 2, 0), (.aload_n 0, 0), (.iload_n 3, 0), (.iconst 1, 0), (.iadd, 0), (.iaload, 0), (.aload_n 0, 0), (.iload_n 3, 0), (.iconst 2, 0), (.iadd, 0), (.iaload, 0), (.invokevirtual 170, 1662), (.if_icmp .eq 133, 0), (.iconst 0, 0), (.ireturn, 0), (.aload_n 1, 0), (.aload_n 0, 0), (.iload_n 3, 0), (.iconst 1, 0), (.iadd, 0), (.iaload, 0), (.aload_n 0, 0), (.iload_n 3, 0), (.iconst 2, 0), (.iadd, 0), (.iaload, 0), (.invokevirtual 171, 1141), (.aload_n 2, 0), (.aload_n 0, 0), (.iload_n 3, 0), (.iconst 1, 0), (.iadd, 0), (.iaload, 0), (.aload_n 0, 0), (.iload_n 3, 0), (.iconst 2, 0), (.iadd, 0), (.iaload, 0), (.invokevirtual 174, 1666), (.if_icmp .eq 100, 0), (.iconst 0, 0), (.ireturn, 0), (.aload_n 1, 0), (.aload_n 0, 0), (.iload_n 3, 0), (.iconst 1, 0), (.iadd, 0), (.iaload, 0), (.invokevirtual 175, 1145), (.aload_n 2, 0), (.aload_n 0, 0), (.iload_n 3, 0), (.iconst 1, 0), (.iadd, 0), (.iaload, 0), (.invokevirtual 178, 1670), (.if_icmp .eq 77, 0), (.iconst 0, 0), (.ireturn, 0), (.aload_n 1, 0), (.aload_n 0, 0), (.iload_n 3, 0), (.iconst 1, 0), (.iadd, 0), (.iaload, 0), (.invokevirtual 179, 1149), (.aload_n 2, 0), (.aload_n 0, 0), (.iload_n 3, 0), (.iconst 1, 0), (.iadd, 0), (.iaload, 0), (.invokevirtual 182, 1674), (.if_icmp .eq 54, 0), (.iconst 0, 0), (.ireturn, 0), (.aload_n 1, 0), (.invokevirtual 183, 1166), (.aload_n 2, 0), (.invokevirtual 186, 1682), (.if_icmp .eq 41, 0), (.iconst 0, 0), (.ireturn, 0), (.aload_n 1, 0), (.invokevirtual 187, 1170), (.aload_n 2, 0), (.invokevirtual 190, 1686), (.if_icmp .eq 28, 0), (.iconst 0, 0), (.ireturn, 0), (.aload_n 1, 0), (.aload_n 0, 0), (.iload_n 3, 0), (.iconst 1, 0), (.iadd, 0), (.iaload, 0), (.invokevirtual 191, 1174), (.aload_n 2, 0), (.aload_n 0, 0), (.iload_n 3, 0), (.iconst 1, 0), (.iadd, 0), (.iaload, 0), (.invokevirtual 194, 1690), (.if_icmp .eq 5, 0), (.iconst 0, 0), (.ireturn, 0), (.iinc 3 6, 0), (.goto (-1507), 0), (.iconst 1, 0), (.ireturn, 0)]
end
section
/-! the methods by their numbers, and the check that the linked codes are what the bytes say -/
def am_ys_0 : List (MethodName) := [⟨"TownLamps$Book", "<init>", "()V"⟩, ⟨"TownLamps$Book", "gives", "(LTownLamps$Town;IIIII)I"⟩, ⟨"TownLamps$Book", "worth", "(III)I"⟩, ⟨"TownLamps$Book", "isLetter", "(I)Z"⟩, ⟨"TownLamps$Cabinet", "<init>", "()V"⟩, ⟨"TownLamps$Cabinet", "begin", "(III)V"⟩, ⟨"TownLamps$Cabinet", "become", "(LTownLamps$Cabinet;)V"⟩, ⟨"TownLamps$Cabinet", "isNight", "(I)Z"⟩, ⟨"TownLamps$Faults", "<init>", "()V"⟩, ⟨"TownLamps$Faults", "isBlamed", "(II)Z"⟩, ⟨"TownLamps$Faults", "find", "(LTownLamps$Town;)V"⟩, ⟨"TownLamps$Faults", "areAllDark", "(II)Z"⟩, ⟨"TownLamps$Faults", "countBehind", "(LTownLamps$Town;)V"⟩, ⟨"TownLamps$Faults", "addToFeed", "(III)V"⟩, ⟨"TownLamps$Faults", "blameJoints", "(LTownLamps$Town;)V"⟩, ⟨"TownLamps$Faults", "blameLamps", "(LTownLamps$Town;)V"⟩, ⟨"TownLamps$Joint", "<init>", "()V"⟩, ⟨"TownLamps$Joint", "begin", "(III)V"⟩, ⟨"TownLamps$Joint", "become", "(LTownLamps$Joint;)V"⟩, ⟨"TownLamps$Lamp", "<init>", "()V"⟩, ⟨"TownLamps$Lamp", "begin", "(IIII)V"⟩, ⟨"TownLamps$Lamp", "become", "(LTownLamps$Lamp;)V"⟩, ⟨"TownLamps$Reader", "<init>", "()V"⟩, ⟨"TownLamps$Reader", "takeBytes", "(I)V"⟩, ⟨"TownLamps$Reader", "read", "()I"⟩, ⟨"TownLamps$Reader", "step", "()V"⟩, ⟨"TownLamps$Reader", "formOf", "(I)I"⟩, ⟨"TownLamps$Reader", "isSign", "(C)Z"⟩, ⟨"TownLamps$Reader", "readKey", "()Z"⟩, ⟨"TownLamps$Reader", "keyWord", "(I)Ljava/lang/String;"⟩, ⟨"TownLamps$Reader", "keyNames", "(I)Ljava/lang/String;"⟩, ⟨"TownLamps$Reader", "isWord", "(Ljava/lang/String;)Z"⟩, ⟨"TownLamps$Reader", "signsOf", "(I)Ljava/lang/String;"⟩, ⟨"TownLamps$Reader", "isSignOf", "(I)Z"⟩, ⟨"TownLamps$Reader", "readLevel", "(III)Z"⟩, ⟨"TownLamps$Reader", "readPiece", "(II)Z"⟩, ⟨"TownLamps$Reader", "readNumber", "()Z"⟩, ⟨"TownLamps$Reader", "readName", "()Z"⟩, ⟨"TownLamps$Sheet", "<init>", "()V"⟩, ⟨"TownLamps$Sheet", "begin", "(II)V"⟩]
def am_ys_1 : List (MethodName) := [⟨"TownLamps$Sheet", "become", "(LTownLamps$Sheet;)V"⟩, ⟨"TownLamps$Sheet", "isMissing", "()Z"⟩, ⟨"TownLamps$Sheet", "hasPlace", "(I)Z"⟩, ⟨"TownLamps$Sheet", "hasPlaces", "(II)Z"⟩, ⟨"TownLamps$Sheet", "isNumber", "(I)Z"⟩, ⟨"TownLamps$Slot", "<init>", "()V"⟩, ⟨"TownLamps$Slot", "refusesAs", "(I)I"⟩, ⟨"TownLamps$Text", "<init>", "()V"⟩, ⟨"TownLamps$Text", "begin", "()V"⟩, ⟨"TownLamps$Text", "become", "(LTownLamps$Text;)V"⟩, ⟨"TownLamps$Text", "addAtom", "(I)V"⟩, ⟨"TownLamps$Text", "addStep", "(I)V"⟩, ⟨"TownLamps$Town", "<init>", "(LTownLamps$Book;)V"⟩, ⟨"TownLamps$Town", "become", "(LTownLamps$Town;)V"⟩, ⟨"TownLamps$Town", "hasCabinet", "(I)Z"⟩, ⟨"TownLamps$Town", "hasJoint", "(I)Z"⟩, ⟨"TownLamps$Town", "hasLamp", "(I)Z"⟩, ⟨"TownLamps$Town", "hasThing", "(II)Z"⟩, ⟨"TownLamps$Town", "makeBroken", "(IIZ)Z"⟩, ⟨"TownLamps$Town", "isFed", "(LTownLamps$Lamp;)Z"⟩, ⟨"TownLamps$Town", "cabinetOf", "(LTownLamps$Lamp;)LTownLamps$Cabinet;"⟩, ⟨"TownLamps$Town", "should", "(LTownLamps$Lamp;)Z"⟩, ⟨"TownLamps$Town", "burns", "(LTownLamps$Lamp;)Z"⟩, ⟨"TownLamps$Town", "draws", "(LTownLamps$Lamp;)I"⟩, ⟨"TownLamps$Town", "drawsDimmed", "(LTownLamps$Lamp;)I"⟩, ⟨"TownLamps$Town", "life", "(LTownLamps$Lamp;)I"⟩, ⟨"TownLamps$Town", "law", "(I)I"⟩, ⟨"TownLamps$Town", "price", "()I"⟩, ⟨"TownLamps$Town", "due", "(I)I"⟩, ⟨"TownLamps$Town", "drawn", "(I)I"⟩, ⟨"TownLamps$Town", "drawnByAll", "()I"⟩, ⟨"TownLamps$Town", "lightOf", "(I)I"⟩, ⟨"TownLamps$Town", "lampsAt", "(I)I"⟩, ⟨"TownLamps$Town", "lampsOut", "()I"⟩, ⟨"TownLamps$Town", "lampsToldDark", "()I"⟩, ⟨"TownLamps$Town", "brokenThings", "()I"⟩, ⟨"TownLamps$Town", "passHour", "()V"⟩, ⟨"TownLamps$Walk", "<init>", "()V"⟩, ⟨"TownLamps$Walk", "find", "(LTownLamps$Town;I)V"⟩, ⟨"TownLamps$Walk", "goOn", "(IIII)V"⟩]
def am_ys_2 : List (MethodName) := [⟨"TownLamps$Walk", "way", "(II)I"⟩, ⟨"TownLamps", "<init>", "()V"⟩, ⟨"TownLamps", "cabinet", "(II)I"⟩, ⟨"TownLamps", "cabinetTold", "(II)I"⟩, ⟨"TownLamps", "shift", "(II)I"⟩, ⟨"TownLamps", "joint", "(II)I"⟩, ⟨"TownLamps", "jointTold", "(II)I"⟩, ⟨"TownLamps", "lamp", "(III)I"⟩, ⟨"TownLamps", "told", "(II)I"⟩, ⟨"TownLamps", "as", "(II)I"⟩, ⟨"TownLamps", "change", "(II)I"⟩, ⟨"TownLamps", "feast", "(I)I"⟩, ⟨"TownLamps", "breaks", "(II)I"⟩, ⟨"TownLamps", "mend", "(II)I"⟩, ⟨"TownLamps", "hours", "(I)I"⟩, ⟨"TownLamps", "bill", "(I)I"⟩, ⟨"TownLamps", "light", "(I)I"⟩, ⟨"TownLamps", "tooDark", "()I"⟩, ⟨"TownLamps", "feed", "(III)I"⟩, ⟨"TownLamps", "trim", "(I)I"⟩, ⟨"TownLamps", "text", "()I"⟩, ⟨"TownLamps", "textTold", "(II)I"⟩, ⟨"TownLamps", "why", "(I)I"⟩, ⟨"TownLamps", "dark", "(IZ)I"⟩, ⟨"TownLamps", "blame", "(II)I"⟩, ⟨"TownLamps", "blames", "()I"⟩, ⟨"TownLamps", "choose", "(I)I"⟩, ⟨"TownLamps", "clear", "()I"⟩, ⟨"TownLamps", "guess", "(I)I"⟩, ⟨"TownLamps", "stop", "(I)I"⟩, ⟨"TownLamps", "home", "()I"⟩, ⟨"TownLamps", "round", "(II)I"⟩, ⟨"TownLamps", "together", "(III)I"⟩, ⟨"TownLamps", "sheet", "(III)I"⟩, ⟨"TownLamps", "mark", "(III)I"⟩, ⟨"TownLamps", "fits", "(II)I"⟩, ⟨"TownLamps", "copy", "(IIIII)I"⟩, ⟨"TownLamps", "lay", "(III)I"⟩, ⟨"TownLamps", "ask", "(II)I"⟩, ⟨"TownLamps", "item", "(II)I"⟩]
def am_ys_3 : List (MethodName) := [⟨"TownLamps", "rest", "(II)I"⟩, ⟨"TownLamps", "tell", "(I)I"⟩, ⟨"TownLamps", "check", "(I)I"⟩, ⟨"TownLamps", "keep", "()I"⟩, ⟨"TownLamps", "back", "()I"⟩, ⟨"TownLamps", "count", "(I)I"⟩, ⟨"TownLamps", "bit", "(Z)I"⟩, ⟨"TownLamps", "isPlace", "(I)Z"⟩, ⟨"TownLamps", "isClock", "(I)Z"⟩, ⟨"TownLamps", "isDrawAndClass", "(I)Z"⟩, ⟨"TownLamps", "isKind", "(I)Z"⟩, ⟨"TownLamps", "isSheet", "(I)Z"⟩, ⟨"TownLamps", "isSlot", "(I)Z"⟩, ⟨"TownLamps", "isFeed", "(I)Z"⟩, ⟨"TownLamps", "isAmong", "(I[II)Z"⟩, ⟨"TownLamps", "isOfKind", "(II)Z"⟩, ⟨"TownLamps", "wearOf", "(I)I"⟩, ⟨"TownLamps", "fewestThatDraw", "(I)I"⟩, ⟨"TownLamps", "drawOfSet", "(I)I"⟩, ⟨"TownLamps", "gatherLives", "(I)I"⟩, ⟨"TownLamps", "livesBelow", "(II)I"⟩, ⟨"TownLamps", "toldRight", "(II)I"⟩, ⟨"TownLampsModel", "<init>", "()V"⟩, ⟨"TownLampsModel", "in", "(III)Z"⟩, ⟨"TownLampsModel", "within", "(III)I"⟩, ⟨"TownLampsModel", "copyAll", "([I[I)V"⟩, ⟨"TownLampsModel", "isCab", "(I)Z"⟩, ⟨"TownLampsModel", "isJoint", "(I)Z"⟩, ⟨"TownLampsModel", "isLamp", "(I)Z"⟩, ⟨"TownLampsModel", "isPlace", "(I)Z"⟩, ⟨"TownLampsModel", "cab6", "(II)I"⟩, ⟨"TownLampsModel", "joint3", "(II)I"⟩, ⟨"TownLampsModel", "lamp7", "(II)I"⟩, ⟨"TownLampsModel", "cabinet", "(II)I"⟩, ⟨"TownLampsModel", "isNight", "(I)Z"⟩, ⟨"TownLampsModel", "cabOf", "(I)I"⟩, ⟨"TownLampsModel", "shouldBurn", "(I)Z"⟩, ⟨"TownLampsModel", "isFed", "(I)Z"⟩, ⟨"TownLampsModel", "burns", "(I)Z"⟩, ⟨"TownLampsModel", "dimBy", "(I)I"⟩]
def am_ys_4 : List (MethodName) := [⟨"TownLampsModel", "draws", "(I)I"⟩, ⟨"TownLampsModel", "wearBy", "(I)I"⟩, ⟨"TownLampsModel", "lifeOf", "(I)I"⟩, ⟨"TownLampsModel", "drawnBy", "(IZ)I"⟩, ⟨"TownLampsModel", "cabinetTold", "(II)I"⟩, ⟨"TownLampsModel", "shift", "(II)I"⟩, ⟨"TownLampsModel", "joint", "(II)I"⟩, ⟨"TownLampsModel", "jointTold", "(II)I"⟩, ⟨"TownLampsModel", "lamp", "(III)I"⟩, ⟨"TownLampsModel", "told", "(II)I"⟩, ⟨"TownLampsModel", "isUnder", "(II)Z"⟩, ⟨"TownLampsModel", "as", "(II)I"⟩, ⟨"TownLampsModel", "change", "(II)I"⟩, ⟨"TownLampsModel", "feast", "(I)I"⟩, ⟨"TownLampsModel", "brokenAt", "(II)I"⟩, ⟨"TownLampsModel", "breaks", "(II)I"⟩, ⟨"TownLampsModel", "mend", "(II)I"⟩, ⟨"TownLampsModel", "anHour", "()V"⟩, ⟨"TownLampsModel", "hours", "(I)I"⟩, ⟨"TownLampsModel", "bill", "(I)I"⟩, ⟨"TownLampsModel", "lightOf", "(I)I"⟩, ⟨"TownLampsModel", "light", "(I)I"⟩, ⟨"TownLampsModel", "tooDark", "()I"⟩, ⟨"TownLampsModel", "feed", "(III)I"⟩, ⟨"TownLampsModel", "trim", "(I)I"⟩, ⟨"TownLampsModel", "isLetter", "(I)Z"⟩, ⟨"TownLampsModel", "isFigure", "(I)Z"⟩, ⟨"TownLampsModel", "go", "()V"⟩, ⟨"TownLampsModel", "takesKey", "()Z"⟩, ⟨"TownLampsModel", "nameOf", "(I)I"⟩, ⟨"TownLampsModel", "rank", "(I)I"⟩, ⟨"TownLampsModel", "settle", "(I)V"⟩, ⟨"TownLampsModel", "signHere", "()I"⟩, ⟨"TownLampsModel", "takesPart", "()Z"⟩, ⟨"TownLampsModel", "takesE", "()Z"⟩, ⟨"TownLampsModel", "notsOpen", "()I"⟩, ⟨"TownLampsModel", "text", "()I"⟩, ⟨"TownLampsModel", "textTold", "(II)I"⟩, ⟨"TownLampsModel", "counts", "(I)I"⟩, ⟨"TownLampsModel", "why", "(I)I"⟩]
def am_ys_5 : List (MethodName) := [⟨"TownLampsModel", "two", "(III)I"⟩, ⟨"TownLampsModel", "worksOut", "(I)I"⟩, ⟨"TownLampsModel", "dark", "(IZ)I"⟩, ⟨"TownLampsModel", "findBehind", "()V"⟩, ⟨"TownLampsModel", "findBlamed", "()V"⟩, ⟨"TownLampsModel", "blame", "(II)I"⟩, ⟨"TownLampsModel", "blames", "()I"⟩, ⟨"TownLampsModel", "choose", "(I)I"⟩, ⟨"TownLampsModel", "clear", "()I"⟩, ⟨"TownLampsModel", "ones", "(I)I"⟩, ⟨"TownLampsModel", "sumsTo", "(II)Z"⟩, ⟨"TownLampsModel", "guess", "(I)I"⟩, ⟨"TownLampsModel", "stop", "(I)I"⟩, ⟨"TownLampsModel", "home", "()I"⟩, ⟨"TownLampsModel", "wayBetween", "(II)I"⟩, ⟨"TownLampsModel", "wayOfRow", "(I)I"⟩, ⟨"TownLampsModel", "goesUp", "()Z"⟩, ⟨"TownLampsModel", "round", "(II)I"⟩, ⟨"TownLampsModel", "together", "(III)I"⟩, ⟨"TownLampsModel", "isSheet", "(I)Z"⟩, ⟨"TownLampsModel", "isSlot", "(I)Z"⟩, ⟨"TownLampsModel", "sheet", "(III)I"⟩, ⟨"TownLampsModel", "mark", "(III)I"⟩, ⟨"TownLampsModel", "fits", "(II)I"⟩, ⟨"TownLampsModel", "copy", "(IIIII)I"⟩, ⟨"TownLampsModel", "lay", "(III)I"⟩, ⟨"TownLampsModel", "ask", "(II)I"⟩, ⟨"TownLampsModel", "item", "(II)I"⟩, ⟨"TownLampsModel", "rest", "(II)I"⟩, ⟨"TownLampsModel", "tell", "(I)I"⟩, ⟨"TownLampsModel", "outMany", "()I"⟩, ⟨"TownLampsModel", "check", "(I)I"⟩, ⟨"TownLampsModel", "keep", "()I"⟩, ⟨"TownLampsModel", "back", "()I"⟩, ⟨"TownLampsModel", "brokenMany", "()I"⟩, ⟨"TownLampsModel", "darkMany", "()I"⟩, ⟨"TownLampsModel", "count", "(I)I"⟩, ⟨"java/lang/Integer", "bitCount", "(I)I"⟩, ⟨"java/lang/Math", "floorMod", "(II)I"⟩, ⟨"java/lang/Math", "abs", "(I)I"⟩]
def am_ys_6 : List (MethodName) := [⟨"java/lang/Math", "max", "(II)I"⟩, ⟨"java/lang/Math", "min", "(II)I"⟩, ⟨"java/lang/String", "length", "()I"⟩, ⟨"java/lang/String", "charAt", "(I)C"⟩, ⟨"java/lang/String", "indexOf", "(I)I"⟩, ⟨"java/lang/String", "indexOf", "(II)I"⟩, ⟨"java/lang/String", "coder", "()B"⟩, ⟨"java/lang/String", "isLatin1", "()Z"⟩, ⟨"java/lang/String", "checkIndex", "(II)V"⟩, ⟨"java/lang/StringLatin1", "charAt", "([BI)C"⟩, ⟨"java/lang/StringLatin1", "canEncode", "(I)Z"⟩, ⟨"java/lang/StringLatin1", "indexOf", "([BIII)I"⟩, ⟨"java/lang/StringLatin1", "indexOfChar", "([BIII)I"⟩, ⟨"jdk/internal/util/Preconditions", "checkIndex", "(IILjava/util/function/BiFunction;)I"⟩, ⟨"TownLampsLaw", "law", "([I)Z"⟩]
def am_ys : List (MethodName) := am_ys_0 ++ (am_ys_1 ++ (am_ys_2 ++ (am_ys_3 ++ (am_ys_4 ++ (am_ys_5 ++ (am_ys_6))))))
def am_bs_0 : List (ByteArray) := [prog_2_method_1_code, prog_2_method_2_code, prog_2_method_3_code, prog_2_method_4_code, prog_3_method_1_code, prog_3_method_2_code, prog_3_method_3_code, prog_3_method_4_code, prog_4_method_1_code, prog_4_method_2_code, prog_4_method_3_code, prog_4_method_4_code, prog_4_method_5_code, prog_4_method_6_code, prog_4_method_7_code, prog_4_method_8_code, prog_5_method_1_code, prog_5_method_2_code, prog_5_method_3_code, prog_6_method_1_code, prog_6_method_2_code, prog_6_method_3_code, prog_7_method_1_code, prog_7_method_2_code, prog_7_method_3_code, prog_7_method_4_code, prog_7_method_5_code, prog_7_method_6_code, prog_7_method_7_code, prog_7_method_8_code, prog_7_method_9_code, prog_7_method_10_code, prog_7_method_11_code, prog_7_method_12_code, prog_7_method_13_code, prog_7_method_14_code, prog_7_method_15_code, prog_7_method_16_code, prog_8_method_1_code, prog_8_method_2_code]
def am_bs_1 : List (ByteArray) := [prog_8_method_3_code, prog_8_method_4_code, prog_8_method_5_code, prog_8_method_6_code, prog_8_method_7_code, prog_9_method_1_code, prog_9_method_2_code, prog_10_method_1_code, prog_10_method_2_code, prog_10_method_3_code, prog_10_method_4_code, prog_10_method_5_code, prog_11_method_1_code, prog_11_method_2_code, prog_11_method_3_code, prog_11_method_4_code, prog_11_method_5_code, prog_11_method_6_code, prog_11_method_7_code, prog_11_method_8_code, prog_11_method_9_code, prog_11_method_10_code, prog_11_method_11_code, prog_11_method_12_code, prog_11_method_13_code, prog_11_method_14_code, prog_11_method_15_code, prog_11_method_16_code, prog_11_method_17_code, prog_11_method_18_code, prog_11_method_19_code, prog_11_method_20_code, prog_11_method_21_code, prog_11_method_22_code, prog_11_method_23_code, prog_11_method_24_code, prog_11_method_25_code, prog_12_method_1_code, prog_12_method_2_code, prog_12_method_3_code]
def am_bs_2 : List (ByteArray) := [prog_12_method_4_code, prog_1_method_1_code, prog_1_method_2_code, prog_1_method_3_code, prog_1_method_4_code, prog_1_method_5_code, prog_1_method_6_code, prog_1_method_7_code, prog_1_method_8_code, prog_1_method_9_code, prog_1_method_10_code, prog_1_method_11_code, prog_1_method_12_code, prog_1_method_13_code, prog_1_method_14_code, prog_1_method_15_code, prog_1_method_16_code, prog_1_method_17_code, prog_1_method_18_code, prog_1_method_19_code, prog_1_method_20_code, prog_1_method_21_code, prog_1_method_22_code, prog_1_method_23_code, prog_1_method_24_code, prog_1_method_25_code, prog_1_method_26_code, prog_1_method_27_code, prog_1_method_28_code, prog_1_method_29_code, prog_1_method_30_code, prog_1_method_31_code, prog_1_method_32_code, prog_1_method_33_code, prog_1_method_34_code, prog_1_method_35_code, prog_1_method_36_code, prog_1_method_37_code, prog_1_method_38_code, prog_1_method_39_code]
def am_bs_3 : List (ByteArray) := [prog_1_method_40_code, prog_1_method_41_code, prog_1_method_42_code, prog_1_method_43_code, prog_1_method_44_code, prog_1_method_45_code, prog_1_method_46_code, prog_1_method_47_code, prog_1_method_48_code, prog_1_method_49_code, prog_1_method_50_code, prog_1_method_51_code, prog_1_method_52_code, prog_1_method_53_code, prog_1_method_54_code, prog_1_method_55_code, prog_1_method_56_code, prog_1_method_57_code, prog_1_method_58_code, prog_1_method_59_code, prog_1_method_60_code, prog_1_method_61_code, prog_14_method_1_code, prog_14_method_2_code, prog_14_method_3_code, prog_14_method_4_code, prog_14_method_5_code, prog_14_method_6_code, prog_14_method_7_code, prog_14_method_8_code, prog_14_method_9_code, prog_14_method_10_code, prog_14_method_11_code, prog_14_method_12_code, prog_14_method_13_code, prog_14_method_14_code, prog_14_method_15_code, prog_14_method_16_code, prog_14_method_17_code, prog_14_method_18_code]
def am_bs_4 : List (ByteArray) := [prog_14_method_19_code, prog_14_method_20_code, prog_14_method_21_code, prog_14_method_22_code, prog_14_method_23_code, prog_14_method_24_code, prog_14_method_25_code, prog_14_method_26_code, prog_14_method_27_code, prog_14_method_28_code, prog_14_method_29_code, prog_14_method_30_code, prog_14_method_31_code, prog_14_method_32_code, prog_14_method_33_code, prog_14_method_34_code, prog_14_method_35_code, prog_14_method_36_code, prog_14_method_37_code, prog_14_method_38_code, prog_14_method_39_code, prog_14_method_40_code, prog_14_method_41_code, prog_14_method_42_code, prog_14_method_43_code, prog_14_method_44_code, prog_14_method_45_code, prog_14_method_46_code, prog_14_method_47_code, prog_14_method_48_code, prog_14_method_49_code, prog_14_method_50_code, prog_14_method_51_code, prog_14_method_52_code, prog_14_method_53_code, prog_14_method_54_code, prog_14_method_55_code, prog_14_method_56_code, prog_14_method_57_code, prog_14_method_58_code]
def am_bs_5 : List (ByteArray) := [prog_14_method_59_code, prog_14_method_60_code, prog_14_method_61_code, prog_14_method_62_code, prog_14_method_63_code, prog_14_method_64_code, prog_14_method_65_code, prog_14_method_66_code, prog_14_method_67_code, prog_14_method_68_code, prog_14_method_69_code, prog_14_method_70_code, prog_14_method_71_code, prog_14_method_72_code, prog_14_method_73_code, prog_14_method_74_code, prog_14_method_75_code, prog_14_method_76_code, prog_14_method_77_code, prog_14_method_78_code, prog_14_method_79_code, prog_14_method_80_code, prog_14_method_81_code, prog_14_method_82_code, prog_14_method_83_code, prog_14_method_84_code, prog_14_method_85_code, prog_14_method_86_code, prog_14_method_87_code, prog_14_method_88_code, prog_14_method_89_code, prog_14_method_90_code, prog_14_method_91_code, prog_14_method_92_code, prog_14_method_93_code, prog_14_method_94_code, prog_14_method_95_code, prog_16_method_49_code, prog_17_method_50_code, prog_17_method_59_code]
def am_bs_6 : List (ByteArray) := [prog_17_method_65_code, prog_17_method_69_code, prog_18_method_54_code, prog_18_method_56_code, prog_18_method_79_code, prog_18_method_80_code, prog_18_method_152_code, prog_18_method_154_code, prog_18_method_155_code, prog_19_method_2_code, prog_19_method_4_code, prog_19_method_22_code, prog_19_method_23_code, prog_22_method_11_code, code]
def am_bs : List (ByteArray) := am_bs_0 ++ (am_bs_1 ++ (am_bs_2 ++ (am_bs_3 ++ (am_bs_4 ++ (am_bs_5 ++ (am_bs_6))))))
def am_rs_0 : List (Option FieldType) := [none, (some .int), (some .int), (some .boolean), none, none, none, (some .boolean), none, (some .boolean), none, (some .boolean), none, none, none, none, none, none, none, none, none, none, none, none, (some .int), none, (some .int), (some .boolean), (some .boolean), (some (.object "java/lang/String")), (some (.object "java/lang/String")), (some .boolean), (some (.object "java/lang/String")), (some .boolean), (some .boolean), (some .boolean), (some .boolean), (some .boolean), none, none]
def am_rs_1 : List (Option FieldType) := [none, (some .boolean), (some .boolean), (some .boolean), (some .boolean), none, (some .int), none, none, none, none, none, none, none, (some .boolean), (some .boolean), (some .boolean), (some .boolean), (some .boolean), (some .boolean), (some (.object "TownLamps$Cabinet")), (some .boolean), (some .boolean), (some .int), (some .int), (some .int), (some .int), (some .int), (some .int), (some .int), (some .int), (some .int), (some .int), (some .int), (some .int), (some .int), none, none, none, none]
def am_rs_2 : List (Option FieldType) := [(some .int), none, (some .int), (some .int), (some .int), (some .int), (some .int), (some .int), (some .int), (some .int), (some .int), (some .int), (some .int), (some .int), (some .int), (some .int), (some .int), (some .int), (some .int), (some .int), (some .int), (some .int), (some .int), (some .int), (some .int), (some .int), (some .int), (some .int), (some .int), (some .int), (some .int), (some .int), (some .int), (some .int), (some .int), (some .int), (some .int), (some .int), (some .int), (some .int)]
def am_rs_3 : List (Option FieldType) := [(some .int), (some .int), (some .int), (some .int), (some .int), (some .int), (some .int), (some .boolean), (some .boolean), (some .boolean), (some .boolean), (some .boolean), (some .boolean), (some .boolean), (some .boolean), (some .boolean), (some .int), (some .int), (some .int), (some .int), (some .int), (some .int), none, (some .boolean), (some .int), none, (some .boolean), (some .boolean), (some .boolean), (some .boolean), (some .int), (some .int), (some .int), (some .int), (some .boolean), (some .int), (some .boolean), (some .boolean), (some .boolean), (some .int)]
def am_rs_4 : List (Option FieldType) := [(some .int), (some .int), (some .int), (some .int), (some .int), (some .int), (some .int), (some .int), (some .int), (some .int), (some .boolean), (some .int), (some .int), (some .int), (some .int), (some .int), (some .int), none, (some .int), (some .int), (some .int), (some .int), (some .int), (some .int), (some .int), (some .boolean), (some .boolean), none, (some .boolean), (some .int), (some .int), none, (some .int), (some .boolean), (some .boolean), (some .int), (some .int), (some .int), (some .int), (some .int)]
def am_rs_5 : List (Option FieldType) := [(some .int), (some .int), (some .int), none, none, (some .int), (some .int), (some .int), (some .int), (some .int), (some .boolean), (some .int), (some .int), (some .int), (some .int), (some .int), (some .boolean), (some .int), (some .int), (some .boolean), (some .boolean), (some .int), (some .int), (some .int), (some .int), (some .int), (some .int), (some .int), (some .int), (some .int), (some .int), (some .int), (some .int), (some .int), (some .int), (some .int), (some .int), (some .int), (some .int), (some .int)]
def am_rs_6 : List (Option FieldType) := [(some .int), (some .int), (some .int), (some .char), (some .int), (some .int), (some .byte), (some .boolean), none, (some .char), (some .boolean), (some .int), (some .int), (some .int), (some .boolean)]
def am_rs : List (Option FieldType) := am_rs_0 ++ (am_rs_1 ++ (am_rs_2 ++ (am_rs_3 ++ (am_rs_4 ++ (am_rs_5 ++ (am_rs_6))))))
def am_cs_0 : List (am_C) := [kc_X0_init, kc_X0_gives, kc_X0_worth, kc_X0_isLetter, kc_X1_init, kc_X1_begin, kc_X1_become, kc_X1_isNight, kc_X2_init, kc_X2_isBlamed, kc_X2_find, kc_X2_areAllDark, kc_X2_countBehind, kc_X2_addToFeed, kc_X2_blameJoints, kc_X2_blameLamps, kc_X3_init, kc_X3_begin, kc_X3_become, kc_X4_init, kc_X4_begin, kc_X4_become, kc_X5_init, kc_X5_takeBytes, kc_X5_read, kc_X5_step, kc_X5_formOf, kc_X5_isSign, kc_X5_readKey, kc_X5_keyWord, kc_X5_keyNames, kc_X5_isWord, kc_X5_signsOf, kc_X5_isSignOf, kc_X5_readLevel, kc_X5_readPiece, kc_X5_readNumber, kc_X5_readName, kc_X6_init, kc_X6_begin]
def am_cs_1 : List (am_C) := [kc_X6_become, kc_X6_isMissing, kc_X6_hasPlace, kc_X6_hasPlaces, kc_X6_isNumber, kc_X7_init, kc_X7_refusesAs, kc_X8_init, kc_X8_begin, kc_X8_become, kc_X8_addAtom, kc_X8_addStep, kc_X9_init, kc_X9_become, kc_X9_hasCabinet, kc_X9_hasJoint, kc_X9_hasLamp, kc_X9_hasThing, kc_X9_makeBroken, kc_X9_isFed, kc_X9_cabinetOf, kc_X9_should, kc_X9_burns, kc_X9_draws, kc_X9_drawsDimmed, kc_X9_life, kc_X9_law, kc_X9_price, kc_X9_due, kc_X9_drawn, kc_X9_drawnByAll, kc_X9_lightOf, kc_X9_lampsAt, kc_X9_lampsOut, kc_X9_lampsToldDark, kc_X9_brokenThings, kc_X9_passHour, kc_X10_init, kc_X10_find, kc_X10_goOn]
def am_cs_2 : List (am_C) := [kc_X10_way, kc_X11_init, kc_X11_cabinet, kc_X11_cabinetTold, kc_X11_shift, kc_X11_joint, kc_X11_jointTold, kc_X11_lamp, kc_X11_told, kc_X11_as, kc_X11_change, kc_X11_feast, kc_X11_breaks, kc_X11_mend, kc_X11_hours, kc_X11_bill, kc_X11_light, kc_X11_tooDark, kc_X11_feed, kc_X11_trim, kc_X11_text, kc_X11_textTold, kc_X11_why, kc_X11_dark, kc_X11_blame, kc_X11_blames, kc_X11_choose, kc_X11_clear, kc_X11_guess, kc_X11_stop, kc_X11_home, kc_X11_round, kc_X11_together, kc_X11_sheet, kc_X11_mark, kc_X11_fits, kc_X11_copy, kc_X11_lay, kc_X11_ask, kc_X11_item]
def am_cs_3 : List (am_C) := [kc_X11_rest, kc_X11_tell, kc_X11_check, kc_X11_keep, kc_X11_back, kc_X11_count, kc_X11_bit, kc_X11_isPlace, kc_X11_isClock, kc_X11_isDrawAndClass, kc_X11_isKind, kc_X11_isSheet, kc_X11_isSlot, kc_X11_isFeed, kc_X11_isAmong, kc_X11_isOfKind, kc_X11_wearOf, kc_X11_fewestThatDraw, kc_X11_drawOfSet, kc_X11_gatherLives, kc_X11_livesBelow, kc_X11_toldRight, kc_X12_init, kc_X12_in, kc_X12_within, kc_X12_copyAll, kc_X12_isCab, kc_X12_isJoint, kc_X12_isLamp, kc_X12_isPlace, kc_X12_cab6, kc_X12_joint3, kc_X12_lamp7, kc_X12_cabinet, kc_X12_isNight, kc_X12_cabOf, kc_X12_shouldBurn, kc_X12_isFed, kc_X12_burns, kc_X12_dimBy]
def am_cs_4 : List (am_C) := [kc_X12_draws, kc_X12_wearBy, kc_X12_lifeOf, kc_X12_drawnBy, kc_X12_cabinetTold, kc_X12_shift, kc_X12_joint, kc_X12_jointTold, kc_X12_lamp, kc_X12_told, kc_X12_isUnder, kc_X12_as, kc_X12_change, kc_X12_feast, kc_X12_brokenAt, kc_X12_breaks, kc_X12_mend, kc_X12_anHour, kc_X12_hours, kc_X12_bill, kc_X12_lightOf, kc_X12_light, kc_X12_tooDark, kc_X12_feed, kc_X12_trim, kc_X12_isLetter, kc_X12_isFigure, kc_X12_go, kc_X12_takesKey, kc_X12_nameOf, kc_X12_rank, kc_X12_settle, kc_X12_signHere, kc_X12_takesPart, kc_X12_takesE, kc_X12_notsOpen, kc_X12_text, kc_X12_textTold, kc_X12_counts, kc_X12_why]
def am_cs_5 : List (am_C) := [kc_X12_two, kc_X12_worksOut, kc_X12_dark, kc_X12_findBehind, kc_X12_findBlamed, kc_X12_blame, kc_X12_blames, kc_X12_choose, kc_X12_clear, kc_X12_ones, kc_X12_sumsTo, kc_X12_guess, kc_X12_stop, kc_X12_home, kc_X12_wayBetween, kc_X12_wayOfRow, kc_X12_goesUp, kc_X12_round, kc_X12_together, kc_X12_isSheet, kc_X12_isSlot, kc_X12_sheet, kc_X12_mark, kc_X12_fits, kc_X12_copy, kc_X12_lay, kc_X12_ask, kc_X12_item, kc_X12_rest, kc_X12_tell, kc_X12_outMany, kc_X12_check, kc_X12_keep, kc_X12_back, kc_X12_brokenMany, kc_X12_darkMany, kc_X12_count, kc_J6_bitCount_0f7a4, kc_J9_floorMod_7cf53, kc_J9_abs_0f7a4]
def am_cs_6 : List (am_C) := [kc_J9_max_7cf53, kc_J9_min_7cf53, kc_J0_length_8abf5, kc_J0_charAt_5068e, kc_J0_indexOf_0f7a4, kc_J0_indexOf_7cf53, kc_J0_coder_7d493, kc_J0_isLatin1_aae02, kc_J0_checkIndex_df160, kc_J1_charAt_3b067, kc_J1_canEncode_9a6ad, kc_J1_indexOf_4cfef, kc_J1_indexOfChar_4cfef, kc_J3_checkIndex_8e157, kc_L_law]
def am_cs : List (am_C) := am_cs_0 ++ (am_cs_1 ++ (am_cs_2 ++ (am_cs_3 ++ (am_cs_4 ++ (am_cs_5 ++ (am_cs_6))))))
def am_ps_0 : List (List (Instr × Nat)) := [kp_X0_init, kp_X0_gives, kp_X0_worth, kp_X0_isLetter, kp_X1_init, kp_X1_begin, kp_X1_become, kp_X1_isNight, kp_X2_init, kp_X2_isBlamed, kp_X2_find, kp_X2_areAllDark, kp_X2_countBehind, kp_X2_addToFeed, kp_X2_blameJoints, kp_X2_blameLamps, kp_X3_init, kp_X3_begin, kp_X3_become, kp_X4_init, kp_X4_begin, kp_X4_become, kp_X5_init, kp_X5_takeBytes, kp_X5_read, kp_X5_step, kp_X5_formOf, kp_X5_isSign, kp_X5_readKey, kp_X5_keyWord, kp_X5_keyNames, kp_X5_isWord, kp_X5_signsOf, kp_X5_isSignOf, kp_X5_readLevel, kp_X5_readPiece, kp_X5_readNumber, kp_X5_readName, kp_X6_init, kp_X6_begin]
def am_ps_1 : List (List (Instr × Nat)) := [kp_X6_become, kp_X6_isMissing, kp_X6_hasPlace, kp_X6_hasPlaces, kp_X6_isNumber, kp_X7_init, kp_X7_refusesAs, kp_X8_init, kp_X8_begin, kp_X8_become, kp_X8_addAtom, kp_X8_addStep, kp_X9_init, kp_X9_become, kp_X9_hasCabinet, kp_X9_hasJoint, kp_X9_hasLamp, kp_X9_hasThing, kp_X9_makeBroken, kp_X9_isFed, kp_X9_cabinetOf, kp_X9_should, kp_X9_burns, kp_X9_draws, kp_X9_drawsDimmed, kp_X9_life, kp_X9_law, kp_X9_price, kp_X9_due, kp_X9_drawn, kp_X9_drawnByAll, kp_X9_lightOf, kp_X9_lampsAt, kp_X9_lampsOut, kp_X9_lampsToldDark, kp_X9_brokenThings, kp_X9_passHour, kp_X10_init, kp_X10_find, kp_X10_goOn]
def am_ps_2 : List (List (Instr × Nat)) := [kp_X10_way, kp_X11_init, kp_X11_cabinet, kp_X11_cabinetTold, kp_X11_shift, kp_X11_joint, kp_X11_jointTold, kp_X11_lamp, kp_X11_told, kp_X11_as, kp_X11_change, kp_X11_feast, kp_X11_breaks, kp_X11_mend, kp_X11_hours, kp_X11_bill, kp_X11_light, kp_X11_tooDark, kp_X11_feed, kp_X11_trim, kp_X11_text, kp_X11_textTold, kp_X11_why, kp_X11_dark, kp_X11_blame, kp_X11_blames, kp_X11_choose, kp_X11_clear, kp_X11_guess, kp_X11_stop, kp_X11_home, kp_X11_round, kp_X11_together, kp_X11_sheet, kp_X11_mark, kp_X11_fits, kp_X11_copy, kp_X11_lay, kp_X11_ask, kp_X11_item]
def am_ps_3 : List (List (Instr × Nat)) := [kp_X11_rest, kp_X11_tell, kp_X11_check, kp_X11_keep, kp_X11_back, kp_X11_count, kp_X11_bit, kp_X11_isPlace, kp_X11_isClock, kp_X11_isDrawAndClass, kp_X11_isKind, kp_X11_isSheet, kp_X11_isSlot, kp_X11_isFeed, kp_X11_isAmong, kp_X11_isOfKind, kp_X11_wearOf, kp_X11_fewestThatDraw, kp_X11_drawOfSet, kp_X11_gatherLives, kp_X11_livesBelow, kp_X11_toldRight, kp_X12_init, kp_X12_in, kp_X12_within, kp_X12_copyAll, kp_X12_isCab, kp_X12_isJoint, kp_X12_isLamp, kp_X12_isPlace, kp_X12_cab6, kp_X12_joint3, kp_X12_lamp7, kp_X12_cabinet, kp_X12_isNight, kp_X12_cabOf, kp_X12_shouldBurn, kp_X12_isFed, kp_X12_burns, kp_X12_dimBy]
def am_ps_4 : List (List (Instr × Nat)) := [kp_X12_draws, kp_X12_wearBy, kp_X12_lifeOf, kp_X12_drawnBy, kp_X12_cabinetTold, kp_X12_shift, kp_X12_joint, kp_X12_jointTold, kp_X12_lamp, kp_X12_told, kp_X12_isUnder, kp_X12_as, kp_X12_change, kp_X12_feast, kp_X12_brokenAt, kp_X12_breaks, kp_X12_mend, kp_X12_anHour, kp_X12_hours, kp_X12_bill, kp_X12_lightOf, kp_X12_light, kp_X12_tooDark, kp_X12_feed, kp_X12_trim, kp_X12_isLetter, kp_X12_isFigure, kp_X12_go, kp_X12_takesKey, kp_X12_nameOf, kp_X12_rank, kp_X12_settle, kp_X12_signHere, kp_X12_takesPart, kp_X12_takesE, kp_X12_notsOpen, kp_X12_text, kp_X12_textTold, kp_X12_counts, kp_X12_why]
def am_ps_5 : List (List (Instr × Nat)) := [kp_X12_two, kp_X12_worksOut, kp_X12_dark, kp_X12_findBehind, kp_X12_findBlamed, kp_X12_blame, kp_X12_blames, kp_X12_choose, kp_X12_clear, kp_X12_ones, kp_X12_sumsTo, kp_X12_guess, kp_X12_stop, kp_X12_home, kp_X12_wayBetween, kp_X12_wayOfRow, kp_X12_goesUp, kp_X12_round, kp_X12_together, kp_X12_isSheet, kp_X12_isSlot, kp_X12_sheet, kp_X12_mark, kp_X12_fits, kp_X12_copy, kp_X12_lay, kp_X12_ask, kp_X12_item, kp_X12_rest, kp_X12_tell, kp_X12_outMany, kp_X12_check, kp_X12_keep, kp_X12_back, kp_X12_brokenMany, kp_X12_darkMany, kp_X12_count, kp_J6_bitCount_0f7a4, kp_J9_floorMod_7cf53, kp_J9_abs_0f7a4]
def am_ps_6 : List (List (Instr × Nat)) := [kp_J9_max_7cf53, kp_J9_min_7cf53, kp_J0_length_8abf5, kp_J0_charAt_5068e, kp_J0_indexOf_0f7a4, kp_J0_indexOf_7cf53, kp_J0_coder_7d493, kp_J0_isLatin1_aae02, kp_J0_checkIndex_df160, kp_J1_charAt_3b067, kp_J1_canEncode_9a6ad, kp_J1_indexOf_4cfef, kp_J1_indexOfChar_4cfef, kp_J3_checkIndex_8e157, kp_L_law]
def am_ps : List (List (Instr × Nat)) := am_ps_0 ++ (am_ps_1 ++ (am_ps_2 ++ (am_ps_3 ++ (am_ps_4 ++ (am_ps_5 ++ (am_ps_6))))))
def am_ms_0 : List (Nat × Nat × Nat × Nat) := [(95, 94, 0, 63), (568, 566, 567, 63), (574, 573, 0, 63), (571, 570, 0, 63), (182, 181, 0, 67), (525, 523, 524, 67), (1091, 1089, 1090, 67), (537, 535, 536, 67), (362, 361, 0, 70), (975, 973, 974, 70), (950, 948, 949, 70), (963, 962, 0, 70), (954, 953, 13, 70), (960, 959, 14, 70), (967, 966, 15, 70), (971, 970, 16, 70), (215, 214, 0, 68), (613, 611, 612, 68), (1095, 1093, 1094, 68), (242, 241, 0, 69), (635, 633, 634, 69), (1099, 1097, 1098, 69), (138, 137, 0, 65), (733, 731, 732, 65), (745, 743, 744, 65), (753, 752, 4, 65), (756, 755, 0, 65), (909, 908, 11, 65), (760, 759, 5, 65), (763, 762, 0, 65), (846, 845, 0, 65), (771, 770, 6, 65), (917, 916, 0, 65), (914, 913, 12, 65), (823, 822, 7, 65), (827, 826, 8, 65), (831, 830, 9, 65), (843, 842, 10, 65), (428, 427, 0, 72), (1062, 1060, 1061, 72)]
def am_ms_1 : List (Nat × Nat × Nat × Nat) := [(1125, 1123, 1124, 72), (1071, 1069, 1070, 72), (1076, 1074, 1075, 72), (1113, 1111, 1112, 72), (1104, 1102, 1103, 72), (446, 445, 0, 73), (1134, 1132, 1133, 73), (102, 101, 0, 64), (749, 747, 748, 64), (926, 924, 925, 64), (835, 833, 834, 64), (839, 837, 838, 64), (170, 169, 0, 66), (1087, 1085, 1086, 66), (533, 531, 532, 66), (596, 594, 595, 66), (643, 641, 642, 66), (680, 678, 679, 66), (686, 684, 685, 66), (592, 590, 591, 66), (555, 554, 0, 66), (551, 549, 550, 66), (588, 586, 587, 66), (560, 558, 559, 66), (564, 563, 1, 66), (654, 652, 653, 66), (725, 723, 724, 66), (702, 701, 3, 66), (547, 545, 546, 66), (584, 582, 583, 66), (1160, 1158, 1159, 66), (717, 715, 716, 66), (621, 619, 620, 66), (1164, 1162, 1163, 66), (1185, 1183, 1184, 66), (1181, 1179, 1180, 66), (698, 696, 697, 66), (398, 397, 0, 71), (1026, 1024, 1025, 71), (1031, 1030, 19, 71)]
def am_ms_2 : List (Nat × Nat × Nat × Nat) := [(1034, 1033, 0, 71), (87, 86, 0, 62), (513, 511, 512, 62), (529, 527, 528, 62), (600, 598, 599, 62), (604, 602, 603, 62), (617, 615, 616, 62), (625, 623, 624, 62), (639, 637, 638, 62), (658, 656, 657, 62), (668, 666, 667, 62), (672, 670, 671, 62), (676, 674, 675, 62), (690, 688, 689, 62), (694, 692, 693, 62), (709, 707, 708, 62), (713, 711, 712, 62), (721, 719, 720, 62), (729, 727, 728, 62), (737, 735, 736, 62), (741, 739, 740, 62), (934, 932, 933, 62), (938, 936, 937, 62), (942, 940, 941, 62), (946, 944, 945, 62), (979, 977, 978, 62), (983, 981, 982, 62), (991, 989, 990, 62), (995, 993, 994, 62), (1014, 1012, 1013, 62), (1018, 1016, 1017, 62), (1022, 1020, 1021, 62), (1042, 1040, 1041, 62), (1055, 1053, 1054, 62), (1067, 1065, 1066, 62), (1083, 1081, 1082, 62), (1109, 1107, 1108, 62), (1118, 1116, 1117, 62), (1130, 1128, 1129, 62), (1140, 1138, 1139, 62)]
def am_ms_3 : List (Nat × Nat × Nat × Nat) := [(1144, 1142, 1143, 62), (1148, 1146, 1147, 62), (1152, 1150, 1151, 62), (1169, 1167, 1168, 62), (1173, 1171, 1172, 62), (1177, 1175, 1176, 62), (543, 542, 0, 62), (516, 515, 0, 62), (519, 518, 0, 62), (631, 630, 0, 62), (628, 627, 0, 62), (1058, 1057, 0, 62), (1121, 1120, 0, 62), (608, 607, 2, 62), (986, 985, 0, 62), (661, 660, 0, 62), (650, 649, 0, 62), (999, 998, 17, 62), (1004, 1003, 18, 62), (1047, 1046, 20, 62), (1051, 1050, 21, 62), (1156, 1155, 22, 62), (1190, 1189, 0, 74), (1345, 1344, 0, 74), (1399, 1398, 0, 74), (1646, 1645, 0, 74), (1342, 1341, 23, 74), (1411, 1410, 36, 74), (1427, 1426, 37, 74), (1332, 1331, 0, 74), (1353, 1352, 25, 74), (1369, 1368, 29, 74), (1361, 1360, 27, 74), (1329, 1327, 1328, 74), (1349, 1348, 24, 74), (1365, 1364, 28, 74), (1373, 1372, 30, 74), (1377, 1376, 31, 74), (1431, 1430, 38, 74), (1385, 1384, 33, 74)]
def am_ms_4 : List (Nat × Nat × Nat × Nat) := [(1381, 1380, 32, 74), (1434, 1433, 0, 74), (1438, 1437, 39, 74), (1357, 1356, 26, 74), (1338, 1336, 1337, 74), (1403, 1401, 1402, 74), (1407, 1405, 1406, 74), (1415, 1413, 1414, 74), (1419, 1417, 1418, 74), (1423, 1421, 1422, 74), (1445, 1444, 0, 74), (1442, 1440, 1441, 74), (1450, 1448, 1449, 74), (1454, 1452, 1453, 74), (1462, 1461, 40, 74), (1458, 1456, 1457, 74), (1466, 1464, 1465, 74), (1474, 1473, 41, 74), (1470, 1468, 1469, 74), (1479, 1477, 1478, 74), (1487, 1486, 42, 74), (1483, 1481, 1482, 74), (1491, 1489, 1490, 74), (1495, 1493, 1494, 74), (1499, 1497, 1498, 74), (1511, 1510, 44, 74), (1515, 1514, 45, 74), (1507, 1506, 43, 74), (1519, 1518, 46, 74), (1531, 1530, 49, 74), (1538, 1537, 0, 74), (1535, 1534, 50, 74), (1546, 1545, 52, 74), (1527, 1526, 48, 74), (1523, 1522, 47, 74), (1542, 1541, 51, 74), (1503, 1501, 1502, 74), (1550, 1548, 1549, 74), (1389, 1388, 34, 74), (1554, 1552, 1553, 74)]
def am_ms_5 : List (Nat × Nat × Nat × Nat) := [(1396, 1395, 0, 74), (1393, 1392, 35, 74), (1559, 1557, 1558, 74), (1571, 1570, 54, 74), (1567, 1566, 53, 74), (1563, 1561, 1562, 74), (1575, 1573, 1574, 74), (1579, 1577, 1578, 74), (1584, 1582, 1583, 74), (1591, 1590, 0, 74), (1595, 1594, 55, 74), (1588, 1586, 1587, 74), (1599, 1597, 1598, 74), (1603, 1601, 1602, 74), (1614, 1613, 0, 74), (1611, 1610, 56, 74), (1618, 1617, 57, 74), (1607, 1605, 1606, 74), (1622, 1620, 1621, 74), (1630, 1629, 0, 74), (1657, 1656, 0, 74), (1627, 1625, 1626, 74), (1635, 1633, 1634, 74), (1643, 1641, 1642, 74), (1650, 1648, 1649, 74), (1654, 1652, 1653, 74), (1661, 1659, 1660, 74), (1665, 1663, 1664, 74), (1669, 1667, 1668, 74), (1673, 1671, 1672, 74), (1681, 1680, 58, 74), (1677, 1675, 1676, 74), (1685, 1683, 1684, 74), (1689, 1687, 1688, 74), (1697, 1696, 59, 74), (1701, 1700, 60, 74), (1693, 1691, 1692, 74), (1007, 1006, 0, 82), (540, 539, 0, 75), (1037, 1036, 0, 75)]
def am_ms_6 : List (Nat × Nat × Nat × Nat) := [(580, 579, 0, 75), (577, 576, 0, 75), (775, 773, 774, 76), (785, 783, 784, 76), (854, 852, 853, 76), (858, 856, 857, 76), (779, 777, 778, 76), (789, 787, 788, 76), (795, 794, 0, 76), (792, 791, 0, 77), (865, 864, 0, 77), (862, 861, 0, 77), (870, 869, 0, 77), (800, 799, 0, 78), (0, 0, 0, 0)]
def am_ms : List (Nat × Nat × Nat × Nat) := am_ms_0 ++ (am_ms_1 ++ (am_ms_2 ++ (am_ms_3 ++ (am_ms_4 ++ (am_ms_5 ++ (am_ms_6))))))
def am_cw : List (Nat × Nat) := [(92, 63), (179, 67), (359, 70), (212, 68), (239, 69), (135, 65), (425, 72), (443, 73), (99, 64), (167, 66), (395, 71), (84, 62), (1187, 74)]
def am_nest : List (String × Nat × MethodName × String) := [("TownLamps$Book", 24, ⟨"TownLamps$Text", "<init>", "()V"⟩, "TownLamps"), ("TownLamps", 18, ⟨"TownLamps$Reader", "<init>", "()V"⟩, "TownLamps"), ("TownLamps$Reader", 21, ⟨"TownLamps$Text", "<init>", "()V"⟩, "TownLamps"), ("TownLamps$Town", 72, ⟨"TownLamps$Cabinet", "<init>", "()V"⟩, "TownLamps"), ("TownLamps$Town", 73, ⟨"TownLamps$Joint", "<init>", "()V"⟩, "TownLamps"), ("TownLamps$Town", 74, ⟨"TownLamps$Lamp", "<init>", "()V"⟩, "TownLamps"), ("TownLamps", 44, ⟨"TownLamps$Faults", "<init>", "()V"⟩, "TownLamps"), ("TownLamps", 51, ⟨"TownLamps$Walk", "<init>", "()V"⟩, "TownLamps"), ("TownLamps", 82, ⟨"TownLamps$Sheet", "<init>", "()V"⟩, "TownLamps"), ("TownLamps", 83, ⟨"TownLamps$Slot", "<init>", "()V"⟩, "TownLamps"), ("TownLamps$Slot", 23, ⟨"TownLamps$Sheet", "<init>", "()V"⟩, "TownLamps"), ("TownLamps$Town", 184, ⟨"TownLamps", "wearOf", "(I)I"⟩, "TownLamps"), ("TownLamps$Faults", 54, ⟨"TownLamps", "bit", "(Z)I"⟩, "TownLamps"), ("TownLamps$Town", 169, ⟨"TownLamps", "bit", "(Z)I"⟩, "TownLamps")]
def am_str : List (Nat × String) := [(68, "dim"), (70, "life"), (72, "price"), (74, "law"), (76, "hdc"), (78, "kwc"), (80, "hd"), (82, "hc"), (94, "|"), (96, "&"), (98, "<=>"), (100, "+-"), (102, "*/")]
def am_wd (pl : Nat) (w : Cond) : Bool := decide (lw_tbl[pl]? = some w)
def am_mlk (own : String) (idx : Nat) (y : MethodName) (pl : Nat) : Bool := if pl < 5000 then am_wd pl (.methodLink own idx y) else (match am_nest[pl - 5000]? with
  | some q => decide (q.1 = own ∧ q.2.1 = idx ∧ q.2.2.1 = y)
  | none => false)
def am_sorted : List (Int × Int) → Bool
  | a :: b :: l => decide (a.1 < b.1) && am_sorted (b :: l)
  | _ => true
def am_lk (own : String) (init : Bool) (ret : Option FieldType) (pc nx : Nat) (raw norm : Instr) (pl : Nat) : Bool := match norm with
  | .iconst v => match raw with
    | .iconst n => decide (v = n ∧ nx = pc + 1)
    | .bipush n => decide ((Int8.ofInt n).toInt32 = Int32.ofInt v ∧ nx = pc + 2)
    | .sipush n => decide ((Int16.ofInt n).toInt32 = Int32.ofInt v ∧ nx = pc + 3)
    | .ldc i => am_wd pl (.constant own i (Int32.ofInt v)) && decide (nx = pc + 2)
    | .ldc_w i => am_wd pl (.constant own i (Int32.ofInt v)) && decide (nx = pc + 3)
    | _ => false
  | .iload i => match raw with
    | .iload j => decide (i = j ∧ nx = pc + 2)
    | .iload_n j => decide (i = j.val ∧ nx = pc + 1)
    | _ => false
  | .aload i => match raw with
    | .aload j => decide (i = j ∧ nx = pc + 2)
    | .aload_n j => decide (i = j.val ∧ nx = pc + 1)
    | _ => false
  | .istore i => match raw with
    | .istore j => decide (i = j ∧ nx = pc + 2)
    | .istore_n j => decide (i = j.val ∧ nx = pc + 1)
    | _ => false
  | .astore i => match raw with
    | .astore j => decide (i = j ∧ nx = pc + 2)
    | .astore_n j => decide (i = j.val ∧ nx = pc + 1)
    | _ => false
  | .iinc i c => decide (raw = .iinc i c ∧ nx = pc + 3)
  | .ifCond c t => match raw with
    | .ifCond c' o => decide (c = c' ∧ (pc : Int) + o = (t.toNat : Int) ∧ nx = pc + 3)
    | _ => false
  | .if_icmp c t => match raw with
    | .if_icmp c' o => decide (c = c' ∧ (pc : Int) + o = (t.toNat : Int) ∧ nx = pc + 3)
    | _ => false
  | .goto t => match raw with
    | .goto o => decide ((pc : Int) + o = (t.toNat : Int) ∧ nx = pc + 3)
    | _ => false
  | .tableswitch d lo hi ts => match raw with
    | .tableswitch d' lo' hi' os => decide ((pc : Int) + d' = (d.toNat : Int) ∧ lo = lo' ∧ hi = hi' ∧ ts.toList.length = os.toList.length) && (ts.toList.zip os.toList).all (fun q => decide ((pc : Int) + q.2 = (q.1.toNat : Int)))
    | _ => false
  | .lookupswitch d ps => match raw with
    | .lookupswitch d' qs => decide ((pc : Int) + d' = (d.toNat : Int) ∧ ps.toList.length = qs.toList.length) && (ps.toList.zip qs.toList).all (fun q => decide (q.1.1 = q.2.1 ∧ (pc : Int) + q.2.2 = (q.1.2.toNat : Int))) && (qs.toList.zip (qs.toList.drop 1)).all (fun (a, next) => a.1 < next.1)
    | _ => false
  | .getfield f => match raw with
    | .getfield i => decide (nx = pc + 3) && (if f / 64 = 13 then am_wd pl (.fieldLink own i "java/lang/String" (if f % 64 = 0 then "value" else "coder") (if f % 64 = 0 then "[B" else "B")) && decide (f % 64 < 2) else (match vwCl[f / 64]? with
      | some q => am_wd pl (.fieldLink own i q.1 (q.2.1 (f % 64)).2.1 (q.2.1 (f % 64)).2.2.1) && decide (f % 64 < q.2.2)
      | none => false))
    | _ => false
  | .putfield f => match raw with
    | .putfield i => decide (nx = pc + 3) && (match vwCl[f / 64]? with
      | some q => am_wd pl (.fieldLink own i q.1 (q.2.1 (f % 64)).2.1 (q.2.1 (f % 64)).2.2.1) && decide (f % 64 < q.2.2 ∧ (q.2.1 (f % 64)).2.2.2 = false)
      | none => false)
    | _ => false
  | .putstatic f => match raw with
    | .putfield i => decide (nx = pc + 3) && init && (match vwCl[f / 64]? with
      | some q => am_wd pl (.fieldLink own i q.1 (q.2.1 (f % 64)).2.1 (q.2.1 (f % 64)).2.2.1) && decide (f % 64 < q.2.2 ∧ (q.2.1 (f % 64)).2.2.2 = true ∧ q.1 = own)
      | none => false)
    | _ => false
  | .getstatic j => match raw with
    | .getstatic i => decide (nx = pc + 3) && (match j with
      | 0 => am_wd pl (.fieldLink own i "TownLamps" "KIND_ABOVE" "[I")
      | 1 => am_wd pl (.fieldLink own i "java/lang/String" "COMPACT_STRINGS" "Z")
      | _ => am_wd pl (.fieldLink own i "jdk/internal/util/Preconditions" "SIOOBE_FORMATTER" "Ljava/util/function/BiFunction;"))
    | _ => false
  | .ldc j => match raw with
    | .ldc i => decide (nx = pc + 2 ∧ own = "TownLamps$Reader") && (match am_str[j]? with
      | some q => decide (q.1 = i)
      | none => false)
    | _ => false
  | .pop2 => match raw with
    | .invokespecial i => decide (nx = pc + 3) && am_wd pl (.methodLink own i objectInit)
    | _ => false
  | .new k => match raw with
    | .new i => decide (nx = pc + 3) && (match vwCl[k]?, am_cw[k]? with
      | some q, some w => am_wd pl (.classLink own i q.1) && am_wd w.1 (.instantiable q.1 q.2.2) && am_wd w.2 (.initialized q.1)
      | _, _ => false)
    | _ => false
  | .newarray t => decide (raw = .newarray t ∧ nx = pc + 2)
  | .anewarray k => match raw with
    | .anewarray i => decide (nx = pc + 3) && (match vwCl[k]? with
      | some q => am_wd pl (.classLink own i q.1) && decide (k ∈ [1, 3, 4, 6, 7, 8])
      | none => false)
    | _ => false
  | .invokestatic k => match raw with
    | .invokestatic i => decide (nx = pc + 3) && (match am_ys[k]?, am_ms[k]? with
      | some y, some w => am_mlk own i y pl && am_wd w.2.1 (.static y)
      | _, _ => false)
    | _ => false
  | .invokevirtual k => match raw with
    | .invokevirtual i => decide (nx = pc + 3) && (match am_ys[k]?, am_ms[k]? with
      | some y, some w => am_mlk own i y pl && am_wd w.2.1 (.instanceMethod y) && am_wd w.2.2.1 (.selects y.cls y y)
      | _, _ => false)
    | _ => false
  | .invokespecial k => match raw with
    | .invokespecial i => decide (nx = pc + 3) && (match am_ys[k]?, am_ms[k]? with
      | some y, some w => am_mlk own i y pl && am_wd w.2.1 (.instanceMethod y) && decide (y.name = "<init>")
      | _, _ => false)
    | _ => false
  | .invokedynamic _ => match raw with
    | .invokestatic i => decide (nx = pc + 3) && am_wd pl (.methodLink own i arraycopyName)
    | _ => false
  | .ireturn => decide (raw = .ireturn ∧ ret = some .int ∧ nx = pc + 1)
  | .freturn => decide (raw = .ireturn ∧ ret = some .boolean ∧ nx = pc + 1)
  | .lreturn => decide (raw = .ireturn ∧ ret = some .char ∧ nx = pc + 1)
  | .dreturn => decide (raw = .ireturn ∧ ret = some .byte ∧ nx = pc + 1)
  | .areturn => decide (raw = .areturn ∧ nx = pc + 1) && (match ret with
    | some (.object _) => true
    | _ => false)
  | .return_ => decide (raw = .return_ ∧ ret = none ∧ nx = pc + 1)
  | .saload => decide (raw = .baload ∧ nx = pc + 1)
  | .athrow => true
  | i => decide (raw = i ∧ nx = pc + 1)
def am_rowok (own : String) (init : Bool) (ret : Option FieldType) (cc : ByteArray) (c : Nat × Instr × Nat) (w : Instr × Nat) : Bool := decide (decode cc c.1 = .ok (w.1, c.2.2 - c.1)) && decide (c.1 < c.2.2) && am_lk own init ret c.1 c.2.2 w.1 c.2.1 w.2
def am_rows (own : String) (init : Bool) (ret : Option FieldType) (cc : ByteArray) : am_C → List (Instr × Nat) → Bool
  | [], [] => true
  | c :: l, w :: r => am_rowok own init ret cc c w && am_rows own init ret cc l r
  | _, _ => false
/-- a method's own words: its code, that it is there, its number of arguments -/
def am_mok (k : Nat) : Bool := match am_ys[k]?, am_bs[k]?, am_rs[k]?, am_ms[k]?, am_ML[k]?, am_AR[k]?, am_RC[k]? with
  | some y, some b, some r, some w, some n, some a, some z => am_wd w.1 (.code y b n r) && am_wd w.2.2.2 (.initialized y.cls) && decide (y.cls ≠ "java/lang/invoke/MethodHandle" ∧ y.cls ≠ "java/lang/invoke/VarHandle" ∧ plainFor y = true ∧ a ≤ n ∧ n ≤ 20 ∧ (parseMethodDescriptor y.desc).map (fun d => d.parameters.length) = some (if am_wd w.2.1 (.static y) = true then a else a - 1)) && (am_wd w.2.1 (.static y) || (decide (0 < a) && (match vwCl[z]? with
    | some q => decide (q.1 = y.cls)
    | none => decide (z = 13 ∧ y.cls = "java/lang/String"))))
  | _, _, _, _, _, _, _ => false
def am_mrows (k : Nat) : Bool := match am_ys[k]?, am_bs[k]?, am_rs[k]?, am_cs[k]?, am_ps[k]? with
  | some y, some b, some r, some l, some q => am_rows y.cls (decide (y.name = "<init>")) r b l q
  | _, _, _, _, _ => false
end
section
/-! the check itself -/
theorem am_rows_split (own : String) (init : Bool) (ret : Option FieldType) (cc : ByteArray) : ∀ (n : Nat) (l : am_C) (r : List (Instr × Nat)), am_rows own init ret cc (l.take n) (r.take n) = true → am_rows own init ret cc (l.drop n) (r.drop n) = true → am_rows own init ret cc l r = true
  | 0, _, _, _, h => h
  | _ + 1, [], [], _, _ => rfl
  | _ + 1, [], _ :: _, h, _ => by simp [am_rows] at h
  | _ + 1, _ :: _, [], h, _ => by simp [am_rows] at h
  | n + 1, c :: l, w :: r, h, h2 => by
    simp only [List.take_succ_cons, am_rows, Bool.and_eq_true] at h ⊢
    exact ⟨h.1, am_rows_split own init ret cc n l r h.2 h2⟩
theorem am_r0 : am_mrows 0 = true := by decide +kernel
theorem am_o0 : am_mok 0 = true := by decide +kernel
theorem am_r1 : am_mrows 1 = true := by decide +kernel
theorem am_o1 : am_mok 1 = true := by decide +kernel
theorem am_r2 : am_mrows 2 = true := by decide +kernel
theorem am_o2 : am_mok 2 = true := by decide +kernel
theorem am_r3 : am_mrows 3 = true := by decide +kernel
theorem am_o3 : am_mok 3 = true := by decide +kernel
theorem am_r4 : am_mrows 4 = true := by decide +kernel
theorem am_o4 : am_mok 4 = true := by decide +kernel
theorem am_r5 : am_mrows 5 = true := by decide +kernel
theorem am_o5 : am_mok 5 = true := by decide +kernel
theorem am_r6 : am_mrows 6 = true := by decide +kernel
theorem am_o6 : am_mok 6 = true := by decide +kernel
theorem am_r7 : am_mrows 7 = true := by decide +kernel
theorem am_o7 : am_mok 7 = true := by decide +kernel
theorem am_r8 : am_mrows 8 = true := by decide +kernel
theorem am_o8 : am_mok 8 = true := by decide +kernel
theorem am_r9 : am_mrows 9 = true := by decide +kernel
theorem am_o9 : am_mok 9 = true := by decide +kernel
theorem am_r10 : am_mrows 10 = true := by decide +kernel
theorem am_o10 : am_mok 10 = true := by decide +kernel
theorem am_r11 : am_mrows 11 = true := by decide +kernel
theorem am_o11 : am_mok 11 = true := by decide +kernel
theorem am_r12 : am_mrows 12 = true := by decide +kernel
theorem am_o12 : am_mok 12 = true := by decide +kernel
theorem am_r13 : am_mrows 13 = true := by decide +kernel
theorem am_o13 : am_mok 13 = true := by decide +kernel
theorem am_r14 : am_mrows 14 = true := by decide +kernel
theorem am_o14 : am_mok 14 = true := by decide +kernel
theorem am_r15 : am_mrows 15 = true := by decide +kernel
theorem am_o15 : am_mok 15 = true := by decide +kernel
theorem am_r16 : am_mrows 16 = true := by decide +kernel
theorem am_o16 : am_mok 16 = true := by decide +kernel
theorem am_r17 : am_mrows 17 = true := by decide +kernel
theorem am_o17 : am_mok 17 = true := by decide +kernel
theorem am_r18 : am_mrows 18 = true := by decide +kernel
theorem am_o18 : am_mok 18 = true := by decide +kernel
theorem am_r19 : am_mrows 19 = true := by decide +kernel
theorem am_o19 : am_mok 19 = true := by decide +kernel
theorem am_r20 : am_mrows 20 = true := by decide +kernel
theorem am_o20 : am_mok 20 = true := by decide +kernel
theorem am_r21 : am_mrows 21 = true := by decide +kernel
theorem am_o21 : am_mok 21 = true := by decide +kernel
theorem am_r22 : am_mrows 22 = true := by decide +kernel
theorem am_o22 : am_mok 22 = true := by decide +kernel
theorem am_r23 : am_mrows 23 = true := by decide +kernel
theorem am_o23 : am_mok 23 = true := by decide +kernel
theorem am_r24 : am_mrows 24 = true := by decide +kernel
theorem am_o24 : am_mok 24 = true := by decide +kernel
theorem am_r25 : am_mrows 25 = true := by decide +kernel
theorem am_o25 : am_mok 25 = true := by decide +kernel
theorem am_r26 : am_mrows 26 = true := by decide +kernel
theorem am_o26 : am_mok 26 = true := by decide +kernel
theorem am_r27 : am_mrows 27 = true := by decide +kernel
theorem am_o27 : am_mok 27 = true := by decide +kernel
theorem am_r28 : am_mrows 28 = true := by decide +kernel
theorem am_o28 : am_mok 28 = true := by decide +kernel
theorem am_r29 : am_mrows 29 = true := by decide +kernel
theorem am_o29 : am_mok 29 = true := by decide +kernel
theorem am_r30 : am_mrows 30 = true := by decide +kernel
theorem am_o30 : am_mok 30 = true := by decide +kernel
theorem am_r31 : am_mrows 31 = true := by decide +kernel
theorem am_o31 : am_mok 31 = true := by decide +kernel
theorem am_r32 : am_mrows 32 = true := by decide +kernel
theorem am_o32 : am_mok 32 = true := by decide +kernel
theorem am_r33 : am_mrows 33 = true := by decide +kernel
theorem am_o33 : am_mok 33 = true := by decide +kernel
theorem am_r34 : am_mrows 34 = true := by decide +kernel
theorem am_o34 : am_mok 34 = true := by decide +kernel
theorem am_r35 : am_mrows 35 = true := by decide +kernel
theorem am_o35 : am_mok 35 = true := by decide +kernel
theorem am_r36 : am_mrows 36 = true := by decide +kernel
theorem am_o36 : am_mok 36 = true := by decide +kernel
theorem am_r37 : am_mrows 37 = true := by decide +kernel
theorem am_o37 : am_mok 37 = true := by decide +kernel
theorem am_r38 : am_mrows 38 = true := by decide +kernel
theorem am_o38 : am_mok 38 = true := by decide +kernel
theorem am_r39 : am_mrows 39 = true := by decide +kernel
theorem am_o39 : am_mok 39 = true := by decide +kernel
theorem am_r40 : am_mrows 40 = true := by decide +kernel
theorem am_o40 : am_mok 40 = true := by decide +kernel
theorem am_r41 : am_mrows 41 = true := by decide +kernel
theorem am_o41 : am_mok 41 = true := by decide +kernel
theorem am_r42 : am_mrows 42 = true := by decide +kernel
theorem am_o42 : am_mok 42 = true := by decide +kernel
theorem am_r43 : am_mrows 43 = true := by decide +kernel
theorem am_o43 : am_mok 43 = true := by decide +kernel
theorem am_r44 : am_mrows 44 = true := by decide +kernel
theorem am_o44 : am_mok 44 = true := by decide +kernel
theorem am_r45 : am_mrows 45 = true := by decide +kernel
theorem am_o45 : am_mok 45 = true := by decide +kernel
theorem am_r46 : am_mrows 46 = true := by decide +kernel
theorem am_o46 : am_mok 46 = true := by decide +kernel
theorem am_r47 : am_mrows 47 = true := by decide +kernel
theorem am_o47 : am_mok 47 = true := by decide +kernel
theorem am_r48 : am_mrows 48 = true := by decide +kernel
theorem am_o48 : am_mok 48 = true := by decide +kernel
theorem am_r49 : am_mrows 49 = true := by decide +kernel
theorem am_o49 : am_mok 49 = true := by decide +kernel
theorem am_r50 : am_mrows 50 = true := by decide +kernel
theorem am_o50 : am_mok 50 = true := by decide +kernel
theorem am_r51 : am_mrows 51 = true := by decide +kernel
theorem am_o51 : am_mok 51 = true := by decide +kernel
theorem am_r52 : am_mrows 52 = true := by decide +kernel
theorem am_o52 : am_mok 52 = true := by decide +kernel
theorem am_r53 : am_mrows 53 = true := by decide +kernel
theorem am_o53 : am_mok 53 = true := by decide +kernel
theorem am_r54 : am_mrows 54 = true := by decide +kernel
theorem am_o54 : am_mok 54 = true := by decide +kernel
theorem am_r55 : am_mrows 55 = true := by decide +kernel
theorem am_o55 : am_mok 55 = true := by decide +kernel
theorem am_r56 : am_mrows 56 = true := by decide +kernel
theorem am_o56 : am_mok 56 = true := by decide +kernel
theorem am_r57 : am_mrows 57 = true := by decide +kernel
theorem am_o57 : am_mok 57 = true := by decide +kernel
theorem am_r58 : am_mrows 58 = true := by decide +kernel
theorem am_o58 : am_mok 58 = true := by decide +kernel
theorem am_r59 : am_mrows 59 = true := by decide +kernel
theorem am_o59 : am_mok 59 = true := by decide +kernel
theorem am_r60 : am_mrows 60 = true := by decide +kernel
theorem am_o60 : am_mok 60 = true := by decide +kernel
theorem am_r61 : am_mrows 61 = true := by decide +kernel
theorem am_o61 : am_mok 61 = true := by decide +kernel
theorem am_r62 : am_mrows 62 = true := by decide +kernel
theorem am_o62 : am_mok 62 = true := by decide +kernel
theorem am_r63 : am_mrows 63 = true := by decide +kernel
theorem am_o63 : am_mok 63 = true := by decide +kernel
theorem am_r64 : am_mrows 64 = true := by decide +kernel
theorem am_o64 : am_mok 64 = true := by decide +kernel
theorem am_r65 : am_mrows 65 = true := by decide +kernel
theorem am_o65 : am_mok 65 = true := by decide +kernel
theorem am_r66 : am_mrows 66 = true := by decide +kernel
theorem am_o66 : am_mok 66 = true := by decide +kernel
theorem am_r67 : am_mrows 67 = true := by decide +kernel
theorem am_o67 : am_mok 67 = true := by decide +kernel
theorem am_r68 : am_mrows 68 = true := by decide +kernel
theorem am_o68 : am_mok 68 = true := by decide +kernel
theorem am_r69 : am_mrows 69 = true := by decide +kernel
theorem am_o69 : am_mok 69 = true := by decide +kernel
theorem am_r70 : am_mrows 70 = true := by decide +kernel
theorem am_o70 : am_mok 70 = true := by decide +kernel
theorem am_r71 : am_mrows 71 = true := by decide +kernel
theorem am_o71 : am_mok 71 = true := by decide +kernel
theorem am_r72 : am_mrows 72 = true := by decide +kernel
theorem am_o72 : am_mok 72 = true := by decide +kernel
theorem am_r73 : am_mrows 73 = true := by decide +kernel
theorem am_o73 : am_mok 73 = true := by decide +kernel
theorem am_r74 : am_mrows 74 = true := by decide +kernel
theorem am_o74 : am_mok 74 = true := by decide +kernel
theorem am_r75 : am_mrows 75 = true := by decide +kernel
theorem am_o75 : am_mok 75 = true := by decide +kernel
theorem am_r76 : am_mrows 76 = true := by decide +kernel
theorem am_o76 : am_mok 76 = true := by decide +kernel
end
section
/-! the check, going on -/
theorem am_r77 : am_mrows 77 = true := by decide +kernel
theorem am_o77 : am_mok 77 = true := by decide +kernel
theorem am_r78 : am_mrows 78 = true := by decide +kernel
theorem am_o78 : am_mok 78 = true := by decide +kernel
theorem am_r79 : am_mrows 79 = true := by decide +kernel
theorem am_o79 : am_mok 79 = true := by decide +kernel
theorem am_r80 : am_mrows 80 = true := by decide +kernel
theorem am_o80 : am_mok 80 = true := by decide +kernel
theorem am_r81 : am_mrows 81 = true := by decide +kernel
theorem am_o81 : am_mok 81 = true := by decide +kernel
theorem am_r82 : am_mrows 82 = true := by decide +kernel
theorem am_o82 : am_mok 82 = true := by decide +kernel
theorem am_r83 : am_mrows 83 = true := by decide +kernel
theorem am_o83 : am_mok 83 = true := by decide +kernel
theorem am_r84 : am_mrows 84 = true := by decide +kernel
theorem am_o84 : am_mok 84 = true := by decide +kernel
theorem am_r85 : am_mrows 85 = true := by decide +kernel
theorem am_o85 : am_mok 85 = true := by decide +kernel
theorem am_r86 : am_mrows 86 = true := by decide +kernel
theorem am_o86 : am_mok 86 = true := by decide +kernel
theorem am_r87 : am_mrows 87 = true := by decide +kernel
theorem am_o87 : am_mok 87 = true := by decide +kernel
theorem am_r88 : am_mrows 88 = true := by decide +kernel
theorem am_o88 : am_mok 88 = true := by decide +kernel
theorem am_r89 : am_mrows 89 = true := by decide +kernel
theorem am_o89 : am_mok 89 = true := by decide +kernel
theorem am_r90 : am_mrows 90 = true := by decide +kernel
theorem am_o90 : am_mok 90 = true := by decide +kernel
theorem am_r91 : am_mrows 91 = true := by decide +kernel
theorem am_o91 : am_mok 91 = true := by decide +kernel
theorem am_r92 : am_mrows 92 = true := by decide +kernel
theorem am_o92 : am_mok 92 = true := by decide +kernel
theorem am_r93 : am_mrows 93 = true := by decide +kernel
theorem am_o93 : am_mok 93 = true := by decide +kernel
theorem am_r94 : am_mrows 94 = true := by decide +kernel
theorem am_o94 : am_mok 94 = true := by decide +kernel
theorem am_r95 : am_mrows 95 = true := by decide +kernel
theorem am_o95 : am_mok 95 = true := by decide +kernel
theorem am_r96 : am_mrows 96 = true := by decide +kernel
theorem am_o96 : am_mok 96 = true := by decide +kernel
theorem am_r97 : am_mrows 97 = true := by decide +kernel
theorem am_o97 : am_mok 97 = true := by decide +kernel
theorem am_r98 : am_mrows 98 = true := by decide +kernel
theorem am_o98 : am_mok 98 = true := by decide +kernel
theorem am_r99 : am_mrows 99 = true := by decide +kernel
theorem am_o99 : am_mok 99 = true := by decide +kernel
theorem am_r100 : am_mrows 100 = true := by decide +kernel
theorem am_o100 : am_mok 100 = true := by decide +kernel
theorem am_r101 : am_mrows 101 = true := by decide +kernel
theorem am_o101 : am_mok 101 = true := by decide +kernel
theorem am_r102 : am_mrows 102 = true := by decide +kernel
theorem am_o102 : am_mok 102 = true := by decide +kernel
theorem am_r103 : am_mrows 103 = true := by decide +kernel
theorem am_o103 : am_mok 103 = true := by decide +kernel
theorem am_r104 : am_mrows 104 = true := by decide +kernel
theorem am_o104 : am_mok 104 = true := by decide +kernel
theorem am_r105 : am_mrows 105 = true := by decide +kernel
theorem am_o105 : am_mok 105 = true := by decide +kernel
theorem am_r106 : am_mrows 106 = true := by decide +kernel
theorem am_o106 : am_mok 106 = true := by decide +kernel
theorem am_r107 : am_mrows 107 = true := by decide +kernel
theorem am_o107 : am_mok 107 = true := by decide +kernel
theorem am_r108 : am_mrows 108 = true := by decide +kernel
theorem am_o108 : am_mok 108 = true := by decide +kernel
theorem am_r109 : am_mrows 109 = true := by decide +kernel
theorem am_o109 : am_mok 109 = true := by decide +kernel
theorem am_r110 : am_mrows 110 = true := by decide +kernel
theorem am_o110 : am_mok 110 = true := by decide +kernel
theorem am_r111 : am_mrows 111 = true := by decide +kernel
theorem am_o111 : am_mok 111 = true := by decide +kernel
theorem am_r112 : am_mrows 112 = true := by decide +kernel
theorem am_o112 : am_mok 112 = true := by decide +kernel
theorem am_r113 : am_mrows 113 = true := by decide +kernel
theorem am_o113 : am_mok 113 = true := by decide +kernel
theorem am_r114 : am_mrows 114 = true := by decide +kernel
theorem am_o114 : am_mok 114 = true := by decide +kernel
theorem am_r115 : am_mrows 115 = true := by decide +kernel
theorem am_o115 : am_mok 115 = true := by decide +kernel
theorem am_r116 : am_mrows 116 = true := by decide +kernel
theorem am_o116 : am_mok 116 = true := by decide +kernel
theorem am_r117 : am_mrows 117 = true := by decide +kernel
theorem am_o117 : am_mok 117 = true := by decide +kernel
theorem am_r118 : am_mrows 118 = true := by decide +kernel
theorem am_o118 : am_mok 118 = true := by decide +kernel
theorem am_r119 : am_mrows 119 = true := by decide +kernel
theorem am_o119 : am_mok 119 = true := by decide +kernel
theorem am_r120 : am_mrows 120 = true := by decide +kernel
theorem am_o120 : am_mok 120 = true := by decide +kernel
theorem am_r121 : am_mrows 121 = true := by decide +kernel
theorem am_o121 : am_mok 121 = true := by decide +kernel
theorem am_r122 : am_mrows 122 = true := by decide +kernel
theorem am_o122 : am_mok 122 = true := by decide +kernel
theorem am_r123 : am_mrows 123 = true := by decide +kernel
theorem am_o123 : am_mok 123 = true := by decide +kernel
theorem am_r124 : am_mrows 124 = true := by decide +kernel
theorem am_o124 : am_mok 124 = true := by decide +kernel
theorem am_r125 : am_mrows 125 = true := by decide +kernel
theorem am_o125 : am_mok 125 = true := by decide +kernel
theorem am_r126 : am_mrows 126 = true := by decide +kernel
theorem am_o126 : am_mok 126 = true := by decide +kernel
theorem am_r127 : am_mrows 127 = true := by decide +kernel
theorem am_o127 : am_mok 127 = true := by decide +kernel
theorem am_r128 : am_mrows 128 = true := by decide +kernel
theorem am_o128 : am_mok 128 = true := by decide +kernel
theorem am_r129 : am_mrows 129 = true := by decide +kernel
theorem am_o129 : am_mok 129 = true := by decide +kernel
theorem am_r130 : am_mrows 130 = true := by decide +kernel
theorem am_o130 : am_mok 130 = true := by decide +kernel
theorem am_r131 : am_mrows 131 = true := by decide +kernel
theorem am_o131 : am_mok 131 = true := by decide +kernel
theorem am_r132 : am_mrows 132 = true := by decide +kernel
theorem am_o132 : am_mok 132 = true := by decide +kernel
theorem am_r133 : am_mrows 133 = true := by decide +kernel
theorem am_o133 : am_mok 133 = true := by decide +kernel
theorem am_r134 : am_mrows 134 = true := by decide +kernel
theorem am_o134 : am_mok 134 = true := by decide +kernel
theorem am_r135 : am_mrows 135 = true := by decide +kernel
theorem am_o135 : am_mok 135 = true := by decide +kernel
theorem am_r136 : am_mrows 136 = true := by decide +kernel
theorem am_o136 : am_mok 136 = true := by decide +kernel
theorem am_r137 : am_mrows 137 = true := by decide +kernel
theorem am_o137 : am_mok 137 = true := by decide +kernel
theorem am_r138 : am_mrows 138 = true := by decide +kernel
theorem am_o138 : am_mok 138 = true := by decide +kernel
theorem am_r139 : am_mrows 139 = true := by decide +kernel
theorem am_o139 : am_mok 139 = true := by decide +kernel
theorem am_r140 : am_mrows 140 = true := by decide +kernel
theorem am_o140 : am_mok 140 = true := by decide +kernel
theorem am_r141 : am_mrows 141 = true := by decide +kernel
theorem am_o141 : am_mok 141 = true := by decide +kernel
theorem am_r142 : am_mrows 142 = true := by decide +kernel
theorem am_o142 : am_mok 142 = true := by decide +kernel
end
section
/-! the check, going on -/
theorem am_r143 : am_mrows 143 = true := by decide +kernel
theorem am_o143 : am_mok 143 = true := by decide +kernel
theorem am_r144 : am_mrows 144 = true := by decide +kernel
theorem am_o144 : am_mok 144 = true := by decide +kernel
theorem am_r145 : am_mrows 145 = true := by decide +kernel
theorem am_o145 : am_mok 145 = true := by decide +kernel
theorem am_r146 : am_mrows 146 = true := by decide +kernel
theorem am_o146 : am_mok 146 = true := by decide +kernel
theorem am_r147 : am_mrows 147 = true := by decide +kernel
theorem am_o147 : am_mok 147 = true := by decide +kernel
theorem am_r148 : am_mrows 148 = true := by decide +kernel
theorem am_o148 : am_mok 148 = true := by decide +kernel
theorem am_r149 : am_mrows 149 = true := by decide +kernel
theorem am_o149 : am_mok 149 = true := by decide +kernel
theorem am_r150 : am_mrows 150 = true := by decide +kernel
theorem am_o150 : am_mok 150 = true := by decide +kernel
theorem am_r151 : am_mrows 151 = true := by decide +kernel
theorem am_o151 : am_mok 151 = true := by decide +kernel
theorem am_r152 : am_mrows 152 = true := by decide +kernel
theorem am_o152 : am_mok 152 = true := by decide +kernel
theorem am_r153 : am_mrows 153 = true := by decide +kernel
theorem am_o153 : am_mok 153 = true := by decide +kernel
theorem am_r154 : am_mrows 154 = true := by decide +kernel
theorem am_o154 : am_mok 154 = true := by decide +kernel
theorem am_r155 : am_mrows 155 = true := by decide +kernel
theorem am_o155 : am_mok 155 = true := by decide +kernel
theorem am_r156 : am_mrows 156 = true := by decide +kernel
theorem am_o156 : am_mok 156 = true := by decide +kernel
theorem am_r157 : am_mrows 157 = true := by decide +kernel
theorem am_o157 : am_mok 157 = true := by decide +kernel
theorem am_r158 : am_mrows 158 = true := by decide +kernel
theorem am_o158 : am_mok 158 = true := by decide +kernel
theorem am_r159 : am_mrows 159 = true := by decide +kernel
theorem am_o159 : am_mok 159 = true := by decide +kernel
theorem am_r160 : am_mrows 160 = true := by decide +kernel
theorem am_o160 : am_mok 160 = true := by decide +kernel
theorem am_r161 : am_mrows 161 = true := by decide +kernel
theorem am_o161 : am_mok 161 = true := by decide +kernel
theorem am_r162 : am_mrows 162 = true := by decide +kernel
theorem am_o162 : am_mok 162 = true := by decide +kernel
theorem am_r163 : am_mrows 163 = true := by decide +kernel
theorem am_o163 : am_mok 163 = true := by decide +kernel
theorem am_r164 : am_mrows 164 = true := by decide +kernel
theorem am_o164 : am_mok 164 = true := by decide +kernel
theorem am_r165 : am_mrows 165 = true := by decide +kernel
theorem am_o165 : am_mok 165 = true := by decide +kernel
theorem am_r166 : am_mrows 166 = true := by decide +kernel
theorem am_o166 : am_mok 166 = true := by decide +kernel
theorem am_r167 : am_mrows 167 = true := by decide +kernel
theorem am_o167 : am_mok 167 = true := by decide +kernel
theorem am_r168 : am_mrows 168 = true := by decide +kernel
theorem am_o168 : am_mok 168 = true := by decide +kernel
theorem am_r169 : am_mrows 169 = true := by decide +kernel
theorem am_o169 : am_mok 169 = true := by decide +kernel
theorem am_r170 : am_mrows 170 = true := by decide +kernel
theorem am_o170 : am_mok 170 = true := by decide +kernel
theorem am_r171 : am_mrows 171 = true := by decide +kernel
theorem am_o171 : am_mok 171 = true := by decide +kernel
theorem am_r172 : am_mrows 172 = true := by decide +kernel
theorem am_o172 : am_mok 172 = true := by decide +kernel
theorem am_r173 : am_mrows 173 = true := by decide +kernel
theorem am_o173 : am_mok 173 = true := by decide +kernel
theorem am_r174 : am_mrows 174 = true := by decide +kernel
theorem am_o174 : am_mok 174 = true := by decide +kernel
theorem am_r175 : am_mrows 175 = true := by decide +kernel
theorem am_o175 : am_mok 175 = true := by decide +kernel
theorem am_r176 : am_mrows 176 = true := by decide +kernel
theorem am_o176 : am_mok 176 = true := by decide +kernel
theorem am_r177 : am_mrows 177 = true := by decide +kernel
theorem am_o177 : am_mok 177 = true := by decide +kernel
theorem am_r178 : am_mrows 178 = true := by decide +kernel
theorem am_o178 : am_mok 178 = true := by decide +kernel
theorem am_r179 : am_mrows 179 = true := by decide +kernel
theorem am_o179 : am_mok 179 = true := by decide +kernel
theorem am_r180 : am_mrows 180 = true := by decide +kernel
theorem am_o180 : am_mok 180 = true := by decide +kernel
theorem am_r181 : am_mrows 181 = true := by decide +kernel
theorem am_o181 : am_mok 181 = true := by decide +kernel
theorem am_r182 : am_mrows 182 = true := by decide +kernel
theorem am_o182 : am_mok 182 = true := by decide +kernel
theorem am_r183 : am_mrows 183 = true := by decide +kernel
theorem am_o183 : am_mok 183 = true := by decide +kernel
theorem am_r184 : am_mrows 184 = true := by decide +kernel
theorem am_o184 : am_mok 184 = true := by decide +kernel
theorem am_r185 : am_mrows 185 = true := by decide +kernel
theorem am_o185 : am_mok 185 = true := by decide +kernel
theorem am_r186 : am_mrows 186 = true := by decide +kernel
theorem am_o186 : am_mok 186 = true := by decide +kernel
theorem am_r187 : am_mrows 187 = true := by decide +kernel
theorem am_o187 : am_mok 187 = true := by decide +kernel
theorem am_r188 : am_mrows 188 = true := by decide +kernel
theorem am_o188 : am_mok 188 = true := by decide +kernel
theorem am_r189 : am_mrows 189 = true := by decide +kernel
theorem am_o189 : am_mok 189 = true := by decide +kernel
theorem am_r190 : am_mrows 190 = true := by decide +kernel
theorem am_o190 : am_mok 190 = true := by decide +kernel
theorem am_r191 : am_mrows 191 = true := by decide +kernel
theorem am_o191 : am_mok 191 = true := by decide +kernel
theorem am_r192 : am_mrows 192 = true := by decide +kernel
theorem am_o192 : am_mok 192 = true := by decide +kernel
theorem am_r193 : am_mrows 193 = true := by decide +kernel
theorem am_o193 : am_mok 193 = true := by decide +kernel
theorem am_r194 : am_mrows 194 = true := by decide +kernel
theorem am_o194 : am_mok 194 = true := by decide +kernel
theorem am_r195 : am_mrows 195 = true := by decide +kernel
theorem am_o195 : am_mok 195 = true := by decide +kernel
theorem am_r196 : am_mrows 196 = true := by decide +kernel
theorem am_o196 : am_mok 196 = true := by decide +kernel
end
section
/-! the check, going on -/
theorem am_r197 : am_mrows 197 = true := by decide +kernel
theorem am_o197 : am_mok 197 = true := by decide +kernel
theorem am_r198 : am_mrows 198 = true := by decide +kernel
theorem am_o198 : am_mok 198 = true := by decide +kernel
theorem am_r199 : am_mrows 199 = true := by decide +kernel
theorem am_o199 : am_mok 199 = true := by decide +kernel
theorem am_r200 : am_mrows 200 = true := by decide +kernel
theorem am_o200 : am_mok 200 = true := by decide +kernel
theorem am_r201 : am_mrows 201 = true := by decide +kernel
theorem am_o201 : am_mok 201 = true := by decide +kernel
theorem am_r202 : am_mrows 202 = true := by decide +kernel
theorem am_o202 : am_mok 202 = true := by decide +kernel
theorem am_r203 : am_mrows 203 = true := by decide +kernel
theorem am_o203 : am_mok 203 = true := by decide +kernel
theorem am_r204 : am_mrows 204 = true := by decide +kernel
theorem am_o204 : am_mok 204 = true := by decide +kernel
theorem am_r205 : am_mrows 205 = true := by decide +kernel
theorem am_o205 : am_mok 205 = true := by decide +kernel
theorem am_r206 : am_mrows 206 = true := by decide +kernel
theorem am_o206 : am_mok 206 = true := by decide +kernel
theorem am_r207 : am_mrows 207 = true := by decide +kernel
theorem am_o207 : am_mok 207 = true := by decide +kernel
theorem am_r208 : am_mrows 208 = true := by decide +kernel
theorem am_o208 : am_mok 208 = true := by decide +kernel
theorem am_r209 : am_mrows 209 = true := by decide +kernel
theorem am_o209 : am_mok 209 = true := by decide +kernel
theorem am_r210 : am_mrows 210 = true := by decide +kernel
theorem am_o210 : am_mok 210 = true := by decide +kernel
theorem am_r211 : am_mrows 211 = true := by decide +kernel
theorem am_o211 : am_mok 211 = true := by decide +kernel
theorem am_r212 : am_mrows 212 = true := by decide +kernel
theorem am_o212 : am_mok 212 = true := by decide +kernel
theorem am_r213 : am_mrows 213 = true := by decide +kernel
theorem am_o213 : am_mok 213 = true := by decide +kernel
theorem am_r214 : am_mrows 214 = true := by decide +kernel
theorem am_o214 : am_mok 214 = true := by decide +kernel
theorem am_r215 : am_mrows 215 = true := by decide +kernel
theorem am_o215 : am_mok 215 = true := by decide +kernel
theorem am_r216 : am_mrows 216 = true := by decide +kernel
theorem am_o216 : am_mok 216 = true := by decide +kernel
theorem am_r217 : am_mrows 217 = true := by decide +kernel
theorem am_o217 : am_mok 217 = true := by decide +kernel
theorem am_r218 : am_mrows 218 = true := by decide +kernel
theorem am_o218 : am_mok 218 = true := by decide +kernel
theorem am_r219 : am_mrows 219 = true := by decide +kernel
theorem am_o219 : am_mok 219 = true := by decide +kernel
theorem am_r220 : am_mrows 220 = true := by decide +kernel
theorem am_o220 : am_mok 220 = true := by decide +kernel
theorem am_r221 : am_mrows 221 = true := by decide +kernel
theorem am_o221 : am_mok 221 = true := by decide +kernel
theorem am_r222 : am_mrows 222 = true := by decide +kernel
theorem am_o222 : am_mok 222 = true := by decide +kernel
theorem am_r223 : am_mrows 223 = true := by decide +kernel
theorem am_o223 : am_mok 223 = true := by decide +kernel
theorem am_r224 : am_mrows 224 = true := by decide +kernel
theorem am_o224 : am_mok 224 = true := by decide +kernel
theorem am_r225 : am_mrows 225 = true := by decide +kernel
theorem am_o225 : am_mok 225 = true := by decide +kernel
theorem am_r226 : am_mrows 226 = true := by decide +kernel
theorem am_o226 : am_mok 226 = true := by decide +kernel
theorem am_r227 : am_mrows 227 = true := by decide +kernel
theorem am_o227 : am_mok 227 = true := by decide +kernel
theorem am_r228 : am_mrows 228 = true := by decide +kernel
theorem am_o228 : am_mok 228 = true := by decide +kernel
theorem am_r229 : am_mrows 229 = true := by decide +kernel
theorem am_o229 : am_mok 229 = true := by decide +kernel
theorem am_r230 : am_mrows 230 = true := by decide +kernel
theorem am_o230 : am_mok 230 = true := by decide +kernel
theorem am_r231 : am_mrows 231 = true := by decide +kernel
theorem am_o231 : am_mok 231 = true := by decide +kernel
theorem am_r232 : am_mrows 232 = true := by decide +kernel
theorem am_o232 : am_mok 232 = true := by decide +kernel
theorem am_r233 : am_mrows 233 = true := by decide +kernel
theorem am_o233 : am_mok 233 = true := by decide +kernel
theorem am_r234 : am_mrows 234 = true := by decide +kernel
theorem am_o234 : am_mok 234 = true := by decide +kernel
theorem am_r235 : am_mrows 235 = true := by decide +kernel
theorem am_o235 : am_mok 235 = true := by decide +kernel
theorem am_r236 : am_mrows 236 = true := by decide +kernel
theorem am_o236 : am_mok 236 = true := by decide +kernel
theorem am_r237 : am_mrows 237 = true := by decide +kernel
theorem am_o237 : am_mok 237 = true := by decide +kernel
theorem am_r238 : am_mrows 238 = true := by decide +kernel
theorem am_o238 : am_mok 238 = true := by decide +kernel
theorem am_r239 : am_mrows 239 = true := by decide +kernel
theorem am_o239 : am_mok 239 = true := by decide +kernel
theorem am_r240 : am_mrows 240 = true := by decide +kernel
theorem am_o240 : am_mok 240 = true := by decide +kernel
theorem am_r241 : am_mrows 241 = true := by decide +kernel
theorem am_o241 : am_mok 241 = true := by decide +kernel
theorem am_r242 : am_mrows 242 = true := by decide +kernel
theorem am_o242 : am_mok 242 = true := by decide +kernel
theorem am_r243 : am_mrows 243 = true := by decide +kernel
theorem am_o243 : am_mok 243 = true := by decide +kernel
theorem am_r244 : am_mrows 244 = true := by decide +kernel
theorem am_o244 : am_mok 244 = true := by decide +kernel
theorem am_r245 : am_mrows 245 = true := by decide +kernel
theorem am_o245 : am_mok 245 = true := by decide +kernel
theorem am_r246 : am_mrows 246 = true := by decide +kernel
theorem am_o246 : am_mok 246 = true := by decide +kernel
theorem am_r247 : am_mrows 247 = true := by decide +kernel
theorem am_o247 : am_mok 247 = true := by decide +kernel
theorem am_r248 : am_mrows 248 = true := by decide +kernel
theorem am_o248 : am_mok 248 = true := by decide +kernel
theorem am_r249 : am_mrows 249 = true := by decide +kernel
theorem am_o249 : am_mok 249 = true := by decide +kernel
theorem am_r250 : am_mrows 250 = true := by decide +kernel
theorem am_o250 : am_mok 250 = true := by decide +kernel
theorem am_r251 : am_mrows 251 = true := by decide +kernel
theorem am_o251 : am_mok 251 = true := by decide +kernel
theorem am_r252 : am_mrows 252 = true := by decide +kernel
theorem am_o252 : am_mok 252 = true := by decide +kernel
theorem am_r253 : am_mrows 253 = true := by decide +kernel
theorem am_o253 : am_mok 253 = true := by decide +kernel
end
section
/-! the check of the law's own code -/
theorem am_l0 : am_rows RL false (some .boolean) code ((kc_L_law.drop 0).take 40) ((kp_L_law.drop 0).take 40) = true := by decide +kernel
theorem am_l1 : am_rows RL false (some .boolean) code ((kc_L_law.drop 40).take 40) ((kp_L_law.drop 40).take 40) = true := by decide +kernel
theorem am_l2 : am_rows RL false (some .boolean) code ((kc_L_law.drop 80).take 40) ((kp_L_law.drop 80).take 40) = true := by decide +kernel
theorem am_l3 : am_rows RL false (some .boolean) code ((kc_L_law.drop 120).take 40) ((kp_L_law.drop 120).take 40) = true := by decide +kernel
theorem am_l4 : am_rows RL false (some .boolean) code ((kc_L_law.drop 160).take 40) ((kp_L_law.drop 160).take 40) = true := by decide +kernel
theorem am_l5 : am_rows RL false (some .boolean) code ((kc_L_law.drop 200).take 40) ((kp_L_law.drop 200).take 40) = true := by decide +kernel
theorem am_l6 : am_rows RL false (some .boolean) code ((kc_L_law.drop 240).take 40) ((kp_L_law.drop 240).take 40) = true := by decide +kernel
theorem am_l7 : am_rows RL false (some .boolean) code ((kc_L_law.drop 280).take 40) ((kp_L_law.drop 280).take 40) = true := by decide +kernel
theorem am_l8 : am_rows RL false (some .boolean) code ((kc_L_law.drop 320).take 40) ((kp_L_law.drop 320).take 40) = true := by decide +kernel
theorem am_l9 : am_rows RL false (some .boolean) code ((kc_L_law.drop 360).take 40) ((kp_L_law.drop 360).take 40) = true := by decide +kernel
theorem am_l10 : am_rows RL false (some .boolean) code ((kc_L_law.drop 400).take 40) ((kp_L_law.drop 400).take 40) = true := by decide +kernel
theorem am_l11 : am_rows RL false (some .boolean) code ((kc_L_law.drop 440).take 40) ((kp_L_law.drop 440).take 40) = true := by decide +kernel
theorem am_l12 : am_rows RL false (some .boolean) code ((kc_L_law.drop 480).take 40) ((kp_L_law.drop 480).take 40) = true := by decide +kernel
theorem am_l13 : am_rows RL false (some .boolean) code ((kc_L_law.drop 520).take 40) ((kp_L_law.drop 520).take 40) = true := by decide +kernel
theorem am_l14 : am_rows RL false (some .boolean) code ((kc_L_law.drop 560).take 40) ((kp_L_law.drop 560).take 40) = true := by decide +kernel
theorem am_l15 : am_rows RL false (some .boolean) code ((kc_L_law.drop 600).take 40) ((kp_L_law.drop 600).take 40) = true := by decide +kernel
theorem am_l16 : am_rows RL false (some .boolean) code ((kc_L_law.drop 640).take 40) ((kp_L_law.drop 640).take 40) = true := by decide +kernel
theorem am_l17 : am_rows RL false (some .boolean) code ((kc_L_law.drop 680).take 40) ((kp_L_law.drop 680).take 40) = true := by decide +kernel
theorem am_l18 : am_rows RL false (some .boolean) code ((kc_L_law.drop 720).take 40) ((kp_L_law.drop 720).take 40) = true := by decide +kernel
theorem am_l19 : am_rows RL false (some .boolean) code ((kc_L_law.drop 760).take 40) ((kp_L_law.drop 760).take 40) = true := by decide +kernel
theorem am_l20 : am_rows RL false (some .boolean) code ((kc_L_law.drop 800).take 40) ((kp_L_law.drop 800).take 40) = true := by decide +kernel
theorem am_l21 : am_rows RL false (some .boolean) code ((kc_L_law.drop 840).take 40) ((kp_L_law.drop 840).take 40) = true := by decide +kernel
theorem am_l22 : am_rows RL false (some .boolean) code ((kc_L_law.drop 880).take 40) ((kp_L_law.drop 880).take 40) = true := by decide +kernel
theorem am_l23 : am_rows RL false (some .boolean) code ((kc_L_law.drop 920).take 40) ((kp_L_law.drop 920).take 40) = true := by decide +kernel
theorem am_l24 : am_rows RL false (some .boolean) code ((kc_L_law.drop 960).take 40) ((kp_L_law.drop 960).take 40) = true := by decide +kernel
theorem am_l25 : am_rows RL false (some .boolean) code ((kc_L_law.drop 1000).take 40) ((kp_L_law.drop 1000).take 40) = true := by decide +kernel
theorem am_l26 : am_rows RL false (some .boolean) code ((kc_L_law.drop 1040).take 40) ((kp_L_law.drop 1040).take 40) = true := by decide +kernel
end
section
/-! the law's rows together -/
theorem am_lrows : am_rows RL false (some .boolean) code kc_L_law kp_L_law = true := by
  refine am_rows_split _ _ _ _ 40 _ _ (by simpa only [List.drop_drop, List.drop_zero] using am_l0) ?_
  refine am_rows_split _ _ _ _ 40 _ _ (by simpa only [List.drop_drop, List.drop_zero] using am_l1) ?_
  simp only [List.drop_drop]
  refine am_rows_split _ _ _ _ 40 _ _ (by simpa only [List.drop_drop, List.drop_zero] using am_l2) ?_
  simp only [List.drop_drop]
  refine am_rows_split _ _ _ _ 40 _ _ (by simpa only [List.drop_drop, List.drop_zero] using am_l3) ?_
  simp only [List.drop_drop]
  refine am_rows_split _ _ _ _ 40 _ _ (by simpa only [List.drop_drop, List.drop_zero] using am_l4) ?_
  simp only [List.drop_drop]
  refine am_rows_split _ _ _ _ 40 _ _ (by simpa only [List.drop_drop, List.drop_zero] using am_l5) ?_
  simp only [List.drop_drop]
  refine am_rows_split _ _ _ _ 40 _ _ (by simpa only [List.drop_drop, List.drop_zero] using am_l6) ?_
  simp only [List.drop_drop]
  refine am_rows_split _ _ _ _ 40 _ _ (by simpa only [List.drop_drop, List.drop_zero] using am_l7) ?_
  simp only [List.drop_drop]
  refine am_rows_split _ _ _ _ 40 _ _ (by simpa only [List.drop_drop, List.drop_zero] using am_l8) ?_
  simp only [List.drop_drop]
  refine am_rows_split _ _ _ _ 40 _ _ (by simpa only [List.drop_drop, List.drop_zero] using am_l9) ?_
  simp only [List.drop_drop]
  refine am_rows_split _ _ _ _ 40 _ _ (by simpa only [List.drop_drop, List.drop_zero] using am_l10) ?_
  simp only [List.drop_drop]
  refine am_rows_split _ _ _ _ 40 _ _ (by simpa only [List.drop_drop, List.drop_zero] using am_l11) ?_
  simp only [List.drop_drop]
  refine am_rows_split _ _ _ _ 40 _ _ (by simpa only [List.drop_drop, List.drop_zero] using am_l12) ?_
  simp only [List.drop_drop]
  refine am_rows_split _ _ _ _ 40 _ _ (by simpa only [List.drop_drop, List.drop_zero] using am_l13) ?_
  simp only [List.drop_drop]
  refine am_rows_split _ _ _ _ 40 _ _ (by simpa only [List.drop_drop, List.drop_zero] using am_l14) ?_
  simp only [List.drop_drop]
  refine am_rows_split _ _ _ _ 40 _ _ (by simpa only [List.drop_drop, List.drop_zero] using am_l15) ?_
  simp only [List.drop_drop]
  refine am_rows_split _ _ _ _ 40 _ _ (by simpa only [List.drop_drop, List.drop_zero] using am_l16) ?_
  simp only [List.drop_drop]
  refine am_rows_split _ _ _ _ 40 _ _ (by simpa only [List.drop_drop, List.drop_zero] using am_l17) ?_
  simp only [List.drop_drop]
  refine am_rows_split _ _ _ _ 40 _ _ (by simpa only [List.drop_drop, List.drop_zero] using am_l18) ?_
  simp only [List.drop_drop]
  refine am_rows_split _ _ _ _ 40 _ _ (by simpa only [List.drop_drop, List.drop_zero] using am_l19) ?_
  simp only [List.drop_drop]
  refine am_rows_split _ _ _ _ 40 _ _ (by simpa only [List.drop_drop, List.drop_zero] using am_l20) ?_
  simp only [List.drop_drop]
  refine am_rows_split _ _ _ _ 40 _ _ (by simpa only [List.drop_drop, List.drop_zero] using am_l21) ?_
  simp only [List.drop_drop]
  refine am_rows_split _ _ _ _ 40 _ _ (by simpa only [List.drop_drop, List.drop_zero] using am_l22) ?_
  simp only [List.drop_drop]
  refine am_rows_split _ _ _ _ 40 _ _ (by simpa only [List.drop_drop, List.drop_zero] using am_l23) ?_
  simp only [List.drop_drop]
  refine am_rows_split _ _ _ _ 40 _ _ (by simpa only [List.drop_drop, List.drop_zero] using am_l24) ?_
  simp only [List.drop_drop]
  refine am_rows_split _ _ _ _ 40 _ _ (by simpa only [List.drop_drop, List.drop_zero] using am_l25) ?_
  simp only [List.drop_drop]
  refine am_rows_split _ _ _ _ 40 _ _ (by simpa only [List.drop_drop, List.drop_zero] using am_l26) ?_
  simp only [List.drop_drop]
  decide +kernel
end
section
/-! THE SMALL MACHINE: ints in a memory of (object, place), references in a list that hardly ever changes; instructions are linked -/
abbrev am_E : Type := Nat × Nat × List (Option Nat)
abbrev am_K : Type := List am_E
abbrev am_M : Type := Nat → Nat → Int32
abbrev am_L : Type := List (Option Value)
abbrev am_P : Type := Option Value → am_K → am_M → Prop
abbrev am_N : Type := (Nat × am_L × List Value × am_K × am_M) ⊕ ((Nat × List Value × List Value) ⊕ Option Value)
def am_up (mem : am_M) (o k : Nat) (v : Int32) : am_M := fun a => if a = o then upd (mem a) k v else mem a
def am_z (mem : am_M) (o : Nat) : am_M := fun a => if a = o then (fun _ => 0) else mem a
def am_cp (mem : am_M) (a b sp dp n : Nat) : am_M := fun q => if q = b then va_cpy (mem a) (mem b) sp dp n else mem q
def am_go (nx : Nat) (L : am_L) (st : List Value) (sk : am_K) (mem : am_M) : Option am_N := some (.inl (nx, L, st, sk, mem))
def am_i1 (f : Int32 → Int32) (nx : Nat) (L : am_L) (st : List Value) (sk : am_K) (mem : am_M) : Option am_N := match st with
  | .int x :: r => am_go nx L (.int (f x) :: r) sk mem
  | _ => none
def am_i2 (f : Int32 → Int32 → Int32) (nx : Nat) (L : am_L) (st : List Value) (sk : am_K) (mem : am_M) : Option am_N := match st with
  | .int y :: .int x :: r => am_go nx L (.int (f x y) :: r) sk mem
  | _ => none
def am_i2z (f : Int32 → Int32 → Int32) (nx : Nat) (L : am_L) (st : List Value) (sk : am_K) (mem : am_M) : Option am_N := match st with
  | .int y :: .int x :: r => if y = 0 then none else am_go nx L (.int (f x y) :: r) sk mem
  | _ => none
def am_ild (kd nx : Nat) (L : am_L) (st : List Value) (sk : am_K) (mem : am_M) : Option am_N := match st with
  | .int i :: .ref q :: r => match sk[q]? with
    | some (k, n, _) => if k = kd then (if i < 0 ∨ n ≤ i.toNatClampNeg then none else am_go nx L (.int (mem q i.toNatClampNeg) :: r) sk mem) else none
    | none => none
  | _ => none
def am_fit (kd : Nat) (x : Int32) : Bool := if kd = 21 then decide (x = 0 ∨ x = 1) else if kd = 22 then decide (vp_nar .char x = x) else true
def am_ist (kd nx : Nat) (L : am_L) (st : List Value) (sk : am_K) (mem : am_M) : Option am_N := match st with
  | .int x :: .int i :: .ref q :: r => match sk[q]? with
    | some (k, n, _) => if k = kd ∧ 29 ≤ q ∧ am_fit kd x = true then (if i < 0 ∨ n ≤ i.toNatClampNeg then none else am_go nx L r sk (am_up mem q i.toNatClampNeg x)) else none
    | none => none
  | _ => none
def am_ald (nx : Nat) (L : am_L) (st : List Value) (sk : am_K) (mem : am_M) : Option am_N := match st with
  | .int i :: .ref q :: r => match sk[q]? with
    | some (k, n, rs) => if 30 ≤ k ∧ 29 ≤ q then (if i < 0 ∨ n ≤ i.toNatClampNeg then none else match rs[i.toNatClampNeg]? with
      | some (some z) => am_go nx L (.ref z :: r) sk mem
      | _ => none) else none
    | none => none
  | _ => none
def am_ast (nx : Nat) (L : am_L) (st : List Value) (sk : am_K) (mem : am_M) : Option am_N := match st with
  | .ref z :: .int i :: .ref q :: r => match sk[q]?, sk[z]? with
    | some (k, n, rs), some (kz, _, _) => if k = kz + 30 ∧ 29 ≤ q ∧ 29 ≤ z ∧ rs.length = n ∧ kz < 13 then (if i < 0 ∨ n ≤ i.toNatClampNeg then none else am_go nx L r (sk.set q (k, n, rs.set i.toNatClampNeg (some z))) mem) else none
    | _, _ => none
  | _ => none
def am_get (f nx : Nat) (L : am_L) (st : List Value) (sk : am_K) (mem : am_M) : Option am_N := match st with
  | .ref q :: r => match sk[q]? with
    | some (k, n, rs) => if k = f / 64 ∧ f % 64 < n then (if am_ft k (f % 64) = 2 then (match rs[f % 64]? with
      | some (some z) => am_go nx L (.ref z :: r) sk mem
      | _ => none) else am_go nx L (.int (mem q (f % 64)) :: r) sk mem) else none
    | none => none
  | _ => none
def am_put (f nx : Nat) (L : am_L) (st : List Value) (sk : am_K) (mem : am_M) : Option am_N := match st with
  | .int x :: .ref q :: r => match sk[q]? with
    | some (k, n, _) => if k = f / 64 ∧ f % 64 < n ∧ 29 ≤ q ∧ (am_ft k (f % 64) = 0 ∨ am_ft k (f % 64) = 1 ∧ (x = 0 ∨ x = 1)) then am_go nx L r sk (am_up mem q (f % 64) x) else none
    | none => none
  | _ => none
def am_putR (f nx : Nat) (L : am_L) (st : List Value) (sk : am_K) (mem : am_M) : Option am_N := match st with
  | .ref z :: .ref q :: r => match sk[q]? with
    | some (k, n, rs) => if k = f / 64 ∧ f % 64 < n ∧ 29 ≤ q ∧ 29 ≤ z ∧ z < sk.length ∧ am_ft k (f % 64) = 2 ∧ rs.length = n then am_go nx L r (sk.set q (k, n, rs.set (f % 64) (some z))) mem else none
    | none => none
  | _ => none
def am_alen (nx : Nat) (L : am_L) (st : List Value) (sk : am_K) (mem : am_M) : Option am_N := match st with
  | .ref q :: r => match sk[q]? with
    | some (k, n, _) => if 20 ≤ k ∧ k < 90 then am_go nx L (.int (Int32.ofNat n) :: r) sk mem else none
    | none => none
  | _ => none
def am_new (c nx : Nat) (L : am_L) (st : List Value) (sk : am_K) (mem : am_M) : Option am_N := match am_NS[c]? with
  | some n => am_go nx L (.ref sk.length :: st) (sk ++ [(c, n, List.replicate n none)]) (am_z mem sk.length)
  | none => none
def am_newa (kd nx : Nat) (L : am_L) (st : List Value) (sk : am_K) (mem : am_M) : Option am_N := match st with
  | .int n :: r => if n < 0 ∨ 100000 < n.toNatClampNeg then none else am_go nx L (.ref sk.length :: r) (sk ++ [(kd, n.toNatClampNeg, [])]) (am_z mem sk.length)
  | _ => none
def am_newq (c nx : Nat) (L : am_L) (st : List Value) (sk : am_K) (mem : am_M) : Option am_N := match st with
  | .int n :: r => if n < 0 ∨ 100000 < n.toNatClampNeg then none else am_go nx L (.ref sk.length :: r) (sk ++ [(30 + c, n.toNatClampNeg, List.replicate n.toNatClampNeg none)]) (am_z mem sk.length)
  | _ => none
def am_inv (k : Nat) (st : List Value) : Option am_N := match am_AR[k]? with
  | some a => if a ≤ st.length ∧ st.length ≤ a + 8 then some (.inr (.inl (k, (st.take a).reverse, st.drop a))) else none
  | none => none
def am_invV (k : Nat) (st : List Value) (sk : am_K) : Option am_N := match am_AR[k]? with
  | some a => match (st.take a).reverse with
    | .ref q :: _ => match sk[q]? with
      | some (kd, _, _) => if am_RC[k]? = some kd then am_inv k st else none
      | none => none
    | _ => none
  | none => none
def am_copy (nx : Nat) (L : am_L) (st : List Value) (sk : am_K) (mem : am_M) : Option am_N := match st with
  | .int n :: .int dp :: .ref b :: .int sp :: .ref a :: r => match sk[a]?, sk[b]? with
    | some (ka, na, _), some (kb, nb, _) => if ka = 20 ∧ kb = 20 ∧ 29 ≤ a ∧ 29 ≤ b ∧ ¬ sp < 0 ∧ ¬ dp < 0 ∧ ¬ n < 0 ∧ sp.toNatClampNeg + n.toNatClampNeg ≤ na ∧ dp.toNatClampNeg + n.toNatClampNeg ≤ nb ∧ r.length ≤ 8 then am_go nx L r sk (am_cp mem a b sp.toNatClampNeg dp.toNatClampNeg n.toNatClampNeg) else none
    | _, _ => none
  | _ => none
def am_ilo (i nx : Nat) (L : am_L) (st : List Value) (sk : am_K) (mem : am_M) : Option am_N := match L[i]? with
  | some (some (.int x)) => am_go nx L (.int x :: st) sk mem
  | _ => none
def am_alo (i nx : Nat) (L : am_L) (st : List Value) (sk : am_K) (mem : am_M) : Option am_N := match L[i]? with
  | some (some (.ref x)) => if x = 28 then none else am_go nx L (.ref x :: st) sk mem
  | _ => none
def am_iso (i nx : Nat) (L : am_L) (st : List Value) (sk : am_K) (mem : am_M) : Option am_N := match st with
  | .int x :: r => if i < L.length then am_go nx (L.set i (some (.int x))) r sk mem else none
  | _ => none
def am_aso (i nx : Nat) (L : am_L) (st : List Value) (sk : am_K) (mem : am_M) : Option am_N := match st with
  | .ref x :: r => if i < L.length ∧ x ≠ 28 then am_go nx (L.set i (some (.ref x))) r sk mem else none
  | _ => none
def am_inc (i : Nat) (c : Int) (nx : Nat) (L : am_L) (st : List Value) (sk : am_K) (mem : am_M) : Option am_N := match L[i]? with
  | some (some (.int x)) => am_go nx (L.set i (some (.int (x + Int32.ofInt c)))) st sk mem
  | _ => none
def am_cd (c : ClassFile.Cond) (x y : Int32) : Bool := match c with
  | .eq => decide (x = y)
  | .ne => !decide (x = y)
  | .lt => decide (x < y)
  | .ge => decide (y ≤ x)
  | .gt => decide (y < x)
  | .le => decide (x ≤ y)
def am_if1 (c : ClassFile.Cond) (t : Int) (nx : Nat) (L : am_L) (st : List Value) (sk : am_K) (mem : am_M) : Option am_N := match st with
  | .int x :: r => am_go (if am_cd c x 0 = true then t.toNat else nx) L r sk mem
  | _ => none
def am_if2 (c : ClassFile.Cond) (t : Int) (nx : Nat) (L : am_L) (st : List Value) (sk : am_K) (mem : am_M) : Option am_N := match st with
  | .int y :: .int x :: r => am_go (if am_cd c x y = true then t.toNat else nx) L r sk mem
  | _ => none
def am_tsw (d lo hi : Int) (ts : Array Int) (L : am_L) (st : List Value) (sk : am_K) (mem : am_M) : Option am_N := match st with
  | .int x :: r => if x.toInt < lo ∨ hi < x.toInt then am_go d.toNat L r sk mem else match ts[(x.toInt - lo).toNat]? with
    | some t => am_go t.toNat L r sk mem
    | none => none
  | _ => none
def am_lsw (d : Int) (ps : Array (Int × Int)) (L : am_L) (st : List Value) (sk : am_K) (mem : am_M) : Option am_N := match st with
  | .int x :: r => am_go (Op.lookupswitch.offset ps.toList d x.toInt).toNat L r sk mem
  | _ => none
def am_gsv : Nat → Value
  | 0 => .ref 0
  | 1 => .int 1
  | _ => .ref 28
def am_stp (ins : Instr) (nx : Nat) (L : am_L) (st : List Value) (sk : am_K) (mem : am_M) : Option am_N := match ins with
  | .iconst v => am_go nx L (.int (Int32.ofInt v) :: st) sk mem
  | .iload i => am_ilo i nx L st sk mem
  | .aload i => am_alo i nx L st sk mem
  | .istore i => am_iso i nx L st sk mem
  | .astore i => am_aso i nx L st sk mem
  | .iinc i c => am_inc i c nx L st sk mem
  | .iadd => am_i2 (fun x y => x + y) nx L st sk mem
  | .isub => am_i2 (fun x y => x - y) nx L st sk mem
  | .imul => am_i2 (fun x y => x * y) nx L st sk mem
  | .iand => am_i2 (fun x y => x &&& y) nx L st sk mem
  | .ior => am_i2 (fun x y => x ||| y) nx L st sk mem
  | .ixor => am_i2 (fun x y => x ^^^ y) nx L st sk mem
  | .ishl => am_i2 (fun x y => x <<< (y &&& 31)) nx L st sk mem
  | .ishr => am_i2 (fun x y => x >>> (y &&& 31)) nx L st sk mem
  | .iushr => am_i2 (fun x y => (x.toUInt32 >>> (y.toUInt32 &&& Int32.toUInt32 31)).toInt32) nx L st sk mem
  | .idiv => am_i2z (fun x y => x / y) nx L st sk mem
  | .irem => am_i2z (fun x y => x - x / y * y) nx L st sk mem
  | .ineg => am_i1 (fun x => -x) nx L st sk mem
  | .i2s => am_i1 (fun x => x.toInt16.toInt32) nx L st sk mem
  | .i2b => am_i1 (fun x => x.toInt8.toInt32) nx L st sk mem
  | .i2c => am_i1 (fun x => (x.toUInt32 % 65536).toInt32) nx L st sk mem
  | .dup => match st with
    | v :: r => if v.category = 1 then am_go nx L (v :: v :: r) sk mem else none
    | _ => none
  | .dup2 => match st with
    | v :: w :: r => if v.category = 1 ∧ w.category = 1 then am_go nx L (v :: w :: v :: w :: r) sk mem else none
    | _ => none
  | .pop => match st with
    | .int _ :: r => am_go nx L r sk mem
    | _ => none
  | .pop2 => match st with
    | .ref q :: r => if r.length ≤ 8 ∧ q ≠ 28 then am_go nx L r sk mem else none
    | _ => none
  | .ldc i => if i < 13 then am_go nx L (.ref (2 + i) :: st) sk mem else none
  | .getstatic i => am_go nx L (am_gsv i :: st) sk mem
  | .getfield f => am_get f nx L st sk mem
  | .putfield f => am_put f nx L st sk mem
  | .putstatic f => am_putR f nx L st sk mem
  | .iaload => am_ild 20 nx L st sk mem
  | .baload => am_ild 21 nx L st sk mem
  | .caload => am_ild 22 nx L st sk mem
  | .saload => am_ild 23 nx L st sk mem
  | .iastore => am_ist 20 nx L st sk mem
  | .bastore => am_ist 21 nx L st sk mem
  | .castore => am_ist 22 nx L st sk mem
  | .aaload => am_ald nx L st sk mem
  | .aastore => am_ast nx L st sk mem
  | .arraylength => am_alen nx L st sk mem
  | .new c => am_new c nx L st sk mem
  | .newarray t => match t with
    | .int => am_newa 20 nx L st sk mem
    | .boolean => am_newa 21 nx L st sk mem
    | .char => am_newa 22 nx L st sk mem
    | _ => none
  | .anewarray c => am_newq c nx L st sk mem
  | .invokestatic k => am_inv k st
  | .invokespecial k => am_invV k st sk
  | .invokevirtual k => am_invV k st sk
  | .invokedynamic _ => am_copy nx L st sk mem
  | .ifCond c t => am_if1 c t nx L st sk mem
  | .if_icmp c t => am_if2 c t nx L st sk mem
  | .goto t => am_go t.toNat L st sk mem
  | .tableswitch d lo hi ts => am_tsw d lo hi ts L st sk mem
  | .lookupswitch d ps => am_lsw d ps L st sk mem
  | .ireturn => match st with
    | [.int x] => some (.inr (.inr (some (.int x))))
    | _ => none
  | .freturn => match st with
    | [.int x] => if x = 0 ∨ x = 1 then some (.inr (.inr (some (.int x)))) else none
    | _ => none
  | .lreturn => match st with
    | [.int x] => if vp_nar .char x = x then some (.inr (.inr (some (.int x)))) else none
    | _ => none
  | .dreturn => match st with
    | [.int x] => if vp_nar .byte x = x then some (.inr (.inr (some (.int x)))) else none
    | _ => none
  | .areturn => match st with
    | [.ref x] => if x = 28 then none else some (.inr (.inr (some (.ref x))))
    | _ => none
  | .return_ => match st with
    | [] => some (.inr (.inr none))
    | _ => none
  | _ => none
def am_at : am_C → Nat → Option (Instr × Nat)
  | [], _ => none
  | (q, i, n) :: l, pc => if q = pc then some (i, n) else am_at l pc
/-- what must hold from here on that the run ends in Q -/
def am_run (code : am_C) (call : Nat → List Value → am_K → am_M → am_P → Prop) : Nat → Nat → am_L → List Value → am_K → am_M → am_P → Prop
  | 0, _, _, _, _, _, _ => False
  | n + 1, pc, L, st, sk, mem, Q => match am_at code pc with
    | none => False
    | some (ins, nx) => match am_stp ins nx L st sk mem with
      | none => False
      | some (.inl (pc', L', st', sk', mem')) => am_run code call n pc' L' st' sk' mem' Q
      | some (.inr (.inl (k, as, r))) => call k as sk mem (fun v sk' mem' => am_run code call n nx L (v.toList ++ r) sk' mem' Q)
      | some (.inr (.inr v)) => Q v sk mem
end
section
/-! THE SMALL MACHINE AND THE REAL ONE: what ties a small heap to a real one -/
def am_re (ad : Nat → Nat) (fm : Value) : Value → Value
  | .ref k => if k = 28 then fm else .ref (ad k)
  | v => v
theorem am_re_ref {ad : Nat → Nat} {fm : Value} {k : Nat} (h : k ≠ 28) : am_re ad fm (.ref k) = .ref (ad k) := by simp [am_re, h]
theorem am_re_cat {ad : Nat → Nat} {fm v : Value} (hf : fm.category = 1) (h : v.category = 1) : (am_re ad fm v).category = 1 := by
  cases v <;> first | exact h | skip
  rename_i k
  show (if k = 28 then fm else Value.ref (ad k)).category = 1
  split
  · exact hf
  · rfl
def am_lv (ad : Nat → Nat) (fm : Value) (L : am_L) : List (Nat × Value) := (List.range L.length).filterMap (fun i => match L[i]? with
  | some (some v) => some (i, am_re ad fm v)
  | _ => none)
theorem am_lv_mem {ad : Nat → Nat} {fm : Value} {L : am_L} {i : Nat} {w : Value} : (i, w) ∈ am_lv ad fm L ↔ ∃ v, L[i]? = some (some v) ∧ w = am_re ad fm v := by
  constructor
  · intro h
    obtain ⟨j, -, hj⟩ := List.mem_filterMap.mp h
    split at hj
    · rename_i v hv
      cases hj
      exact ⟨v, hv, rfl⟩
    · cases hj
  · rintro ⟨v, hv, rfl⟩
    refine List.mem_filterMap.mpr ⟨i, List.mem_range.mpr (List.getElem?_eq_some_iff.mp hv).1, ?_⟩
    simp [hv]
abbrev am_lh (ad : Nat → Nat) (fm : Value) (L : am_L) (ls : Array Slot) : Prop := lv_has ls L.length (am_lv ad fm L)
/-- a value that the small machine knows: an int, or a cell among the first N -/
def am_okv (N : Nat) : Value → Prop
  | .int _ => True
  | .ref z => z < N
  | _ => False
theorem am_okv.cat {N : Nat} {v : Value} (h : am_okv N v) : v.category = 1 := by
  cases v <;> first | rfl | exact h.elim
theorem am_okv.up {N M : Nat} {v : Value} (h : am_okv N v) (hN : N ≤ M) : am_okv M v := by
  cases v <;> first | exact trivial | exact h.elim | exact Nat.lt_of_lt_of_le h hN
theorem am_re_ext {ad ad' : Nat → Nat} {fm : Value} {N : Nat} (h : ∀ o, o < N → ad' o = ad o) {v : Value} (hv : am_okv N v) : am_re ad' fm v = am_re ad fm v := by
  cases v <;> first | rfl | exact hv.elim | skip
  rename_i z
  simp only [am_re, h z hv]
def am_okL (N : Nat) (L : am_L) : Prop := ∀ (i : Nat) (v : Value), L[i]? = some (some v) → am_okv N v
def am_okS (N : Nat) (st : List Value) : Prop := ∀ v ∈ st, am_okv N v
theorem am_lv_ext {ad ad' : Nat → Nat} {fm : Value} {N : Nat} (h : ∀ o, o < N → ad' o = ad o) {L : am_L} (hL : am_okL N L) : am_lv ad' fm L = am_lv ad fm L := by
  unfold am_lv
  congr 1
  funext i
  split
  · rename_i v hv
    rw [am_re_ext h (hL i v hv)]
  · rfl
theorem am_st_ext {ad ad' : Nat → Nat} {fm : Value} {N : Nat} (h : ∀ o, o < N → ad' o = ad o) {st : List Value} (hs : am_okS N st) : st.map (am_re ad' fm) = st.map (am_re ad fm) := List.map_congr_left (fun v hv => am_re_ext h (hs v hv))
theorem am_lh_get {ad : Nat → Nat} {fm : Value} {L : am_L} {ls : Array Slot} {i : Nat} {v : Value} (h : am_lh ad fm L ls) (hv : L[i]? = some (some v)) : ls[i]? = some (.val (am_re ad fm v)) := h.2.2 (i, _) (am_lv_mem.mpr ⟨v, hv, rfl⟩)
theorem am_lh_set {ad : Nat → Nat} {fm : Value} {L : am_L} {ls' : Array Slot} {i N : Nat} {v : Value} (hf : fm.category = 1) (hL : am_okL N L) (hi : i < L.length) (h' : lv_has ls' L.length ((i, am_re ad fm v) :: (am_lv ad fm L).filter (fun q => !(q.1 == i) && !(q.1 + 1 == i && q.2.category == 2)))) : am_lh ad fm (L.set i (some v)) ls' := by
  refine ⟨?_, h'.2.1, ?_⟩
  · rw [h'.1, List.length_set]
  · rintro ⟨j, w⟩ hq
    obtain ⟨u, hu, rfl⟩ := am_lv_mem.mp hq
    by_cases hj : j = i
    · subst hj
      rw [List.getElem?_set_self hi] at hu
      cases hu
      exact h'.2.2 (j, _) List.mem_cons_self
    · rw [List.getElem?_set_ne (Ne.symm hj)] at hu
      refine h'.2.2 (j, _) (List.mem_cons_of_mem _ (List.mem_filter.mpr ⟨am_lv_mem.mpr ⟨u, hu, rfl⟩, ?_⟩))
      have hc := am_re_cat (ad := ad) hf (hL j u hu).cat
      simp [hj, hc]
theorem am_okL.set {N i : Nat} {L : am_L} {v : Value} (h : am_okL N L) (hv : am_okv N v) : am_okL N (L.set i (some v)) := by
  intro j u hu
  by_cases hj : i = j
  · subst hj
    by_cases hi : i < L.length
    · rw [List.getElem?_set_self hi] at hu
      cases hu
      exact hv
    · rw [List.getElem?_eq_none (by rw [List.length_set]; omega)] at hu
      cases hu
  · rw [List.getElem?_set_ne hj] at hu
    exact h j u hu
def am_sz : am_K → Nat
  | [] => 0
  | e :: l => e.2.1 + am_sz l
theorem am_sz_app (a b : am_K) : am_sz (a ++ b) = am_sz a + am_sz b := by
  induction a with
  | nil => simp [am_sz]
  | cons e l ih => simp only [List.cons_append, am_sz, ih]; omega
theorem am_sz_set {k : am_K} {o : Nat} {e e' : am_E} (h : k[o]? = some e) (hn : e'.2.1 = e.2.1) : am_sz (k.set o e') = am_sz k := by
  induction k generalizing o with
  | nil => rfl
  | cons x l ih =>
    cases o with
    | zero =>
      simp only [List.getElem?_cons_zero, Option.some.injEq] at h
      subst h
      simp only [List.set_cons_zero, am_sz, hn]
    | succ o =>
      simp only [List.getElem?_cons_succ] at h
      simp only [List.set_cons_succ, am_sz, ih h]
def am_ty (k : Nat) : FieldType := if k = 20 then .int else if k = 21 then .boolean else if k = 22 then .char else if k = 23 then .byte else .object (vwCl.getD (k - 30) ("", fun _ => ("", "", "", false), 0)).1
def am_fv (ad : Nat → Nat) (c : Nat) (rs : List (Option Nat)) (m : Nat → Int32) (k : Nat) : Value := if am_ft c k = 2 then (match rs[k]? with
  | some (some z) => .ref (ad z)
  | _ => .null) else .int (m k)
def am_cell (ad : Nat → Nat) (aC : Nat → ClassId) (o : Nat) (e : am_E) (m : Nat → Int32) : va_E := if e.1 < 13 then .inr (e.1, (List.range e.2.1).map (am_fv ad e.1 e.2.2 m)) else if e.1 < 30 then .inl (aC o, e.2.1, .inl m) else .inl (aC o, e.2.1, .inr (.inr (.inr (.inr (fun j => match e.2.2[j]? with
  | some (some z) => some (ad z)
  | _ => none)))))
def am_w (ad : Nat → Nat) (aC : Nat → ClassId) (sk : am_K) (mem : am_M) : va_W := (List.range (sk.length - 29)).map (fun j => (ad (j + 29), am_cell ad aC (j + 29) (sk.getD (j + 29) (0, 0, [])) (mem (j + 29))))
theorem am_w_len (ad : Nat → Nat) (aC : Nat → ClassId) (sk : am_K) (mem : am_M) : (am_w ad aC sk mem).length = sk.length - 29 := by simp [am_w]
theorem am_w_get (ad : Nat → Nat) (aC : Nat → ClassId) (sk : am_K) (mem : am_M) (j : Nat) (h : j < sk.length - 29) : (am_w ad aC sk mem)[j]? = some (ad (j + 29), am_cell ad aC (j + 29) (sk.getD (j + 29) (0, 0, [])) (mem (j + 29))) := by
  simp [am_w, List.getElem?_map, List.getElem?_range h]
theorem am_w_at {ad : Nat → Nat} {aC : Nat → ClassId} {sk : am_K} {mem : am_M} {o : Nat} {e : am_E} (h : sk[o]? = some e) (ho : 29 ≤ o) : (am_w ad aC sk mem)[o - 29]? = some (ad o, am_cell ad aC o e (mem o)) := by
  have hl := (List.getElem?_eq_some_iff.mp h).1
  rw [am_w_get _ _ _ _ _ (by omega), show o - 29 + 29 = o by omega]
  simp [List.getD_eq_getElem?_getD, h]
theorem am_w_ext {ad ad' : Nat → Nat} {aC aC' : Nat → ClassId} {sk sk' : am_K} {mem mem' : am_M} (hl : sk'.length = sk.length) (h : ∀ o, 29 ≤ o → o < sk.length → ad' o = ad o ∧ am_cell ad' aC' o (sk'.getD o (0, 0, [])) (mem' o) = am_cell ad aC o (sk.getD o (0, 0, [])) (mem o)) : am_w ad' aC' sk' mem' = am_w ad aC sk mem := by
  apply List.ext_getElem?
  intro j
  by_cases hj : j < sk.length - 29
  · rw [am_w_get _ _ _ _ _ (by omega), am_w_get _ _ _ _ _ hj]
    obtain ⟨h1, h2⟩ := h (j + 29) (by omega) (by omega)
    rw [h1, h2]
  · rw [List.getElem?_eq_none (by rw [am_w_len]; omega), List.getElem?_eq_none (by rw [am_w_len]; omega)]
theorem am_w_set {ad : Nat → Nat} {aC : Nat → ClassId} {sk sk' : am_K} {mem mem' : am_M} {o : Nat} {x : va_E} (ho : 29 ≤ o) (hlt : o < sk.length) (hl : sk'.length = sk.length) (hx : am_cell ad aC o (sk'.getD o (0, 0, [])) (mem' o) = x) (h : ∀ a, a ≠ o → sk'.getD a (0, 0, []) = sk.getD a (0, 0, []) ∧ mem' a = mem a) : (am_w ad aC sk mem).set (o - 29) (ad o, x) = am_w ad aC sk' mem' := by
  apply List.ext_getElem?
  intro j
  by_cases hj : j < sk.length - 29
  · rw [am_w_get _ _ sk' _ _ (by omega)]
    by_cases hjo : j = o - 29
    · subst hjo
      rw [List.getElem?_set_self (by rw [am_w_len]; omega), show o - 29 + 29 = o by omega, hx]
    · rw [List.getElem?_set_ne (Ne.symm hjo), am_w_get _ _ _ _ _ hj]
      obtain ⟨h1, h2⟩ := h (j + 29) (by omega)
      rw [h1, h2]
  · rw [List.getElem?_eq_none (by rw [List.length_set, am_w_len]; omega), List.getElem?_eq_none (by rw [am_w_len]; omega)]
def am_byt : List (List Int32) := [[100, 105, 109], [108, 105, 102, 101], [112, 114, 105, 99, 101], [108, 97, 119], [104, 100, 99], [107, 119, 99], [104, 100], [104, 99], [124], [38], [60, 61, 62], [43, 45], [42, 47]]
def am_len : List Nat := [3, 4, 5, 3, 3, 3, 2, 2, 1, 1, 3, 2, 2]
def am_ka (j : Nat) : Int32 := ([-1, 0, 0, 1, 2, 0] : List Int32).getD j 0
def am_ro (n : Nat) : am_K := [(20, 6, []), (20, n, []), (13, 2, [some 15, none]), (13, 2, [some 16, none]), (13, 2, [some 17, none]), (13, 2, [some 18, none]), (13, 2, [some 19, none]), (13, 2, [some 20, none]), (13, 2, [some 21, none]), (13, 2, [some 22, none]), (13, 2, [some 23, none]), (13, 2, [some 24, none]), (13, 2, [some 25, none]), (13, 2, [some 26, none]), (13, 2, [some 27, none]), (23, 3, []), (23, 4, []), (23, 5, []), (23, 3, []), (23, 3, []), (23, 3, []), (23, 2, []), (23, 2, []), (23, 1, []), (23, 1, []), (23, 3, []), (23, 2, []), (23, 2, []), (91, 0, [])]
/-- the part of the small heap that nobody writes -/
def am_RO (n : Nat) (xs : Nat → Int32) (sk : am_K) (mem : am_M) : Prop := 29 ≤ sk.length ∧ (∀ o, o < 29 → sk[o]? = (am_ro n)[o]?) ∧ (∀ j, j < 6 → mem 0 j = am_ka j) ∧ (∀ j, j < n → mem 1 j = xs j) ∧ (∀ i, i < 13 → mem (2 + i) 1 = 0) ∧ ∀ i, i < 13 → ∀ j, j < am_len.getD i 0 → mem (15 + i) j = (am_byt.getD i []).getD j 0
def am_wf (sk : am_K) : Prop := (∀ (o : Nat) (e : am_E), sk[o]? = some e → ∀ z, some z ∈ e.2.2 → z < sk.length ∧ z ≠ 28) ∧ ∀ (o : Nat) (e : am_E), 29 ≤ o → sk[o]? = some e → e.1 ≠ 13 ∧ e.1 ≠ 23
def am_At (D : va_G) (fm : Value) (n : Nat) (xs : Nat → Int32) (A : Nat → Prop) (s : State) (ad : Nat → Nat) (aC : Nat → ClassId) (sk : am_K) (mem : am_M) (H : Heap) : Prop := va_P D vwCl (am_w ad aC sk mem) H ∧ va_D A (am_w ad aC sk mem) ∧ (∀ (o : Nat) (e : am_E), 29 ≤ o → sk[o]? = some e → 13 ≤ e.1 → ArrOfT s (aC o) (am_ty e.1) ∧ va_RA s (aC o) (am_ty e.1)) ∧ am_RO n xs sk mem ∧ am_wf sk
def am_Fx (fm : Value) (n : Nat) (xs : Nat → Int32) (ad : Nat → Nat) (A : Nat → Prop) (U : State) (H : Heap) : Prop :=
  (va_Z "TownLamps" "KIND_ABOVE" "[I" (.ref (ad 0)) A U H ∧ va_T .int (ad 0) 6 (fun j => .int (am_ka j)) A U H) ∧ (va_X (ad 1) n xs U H ∧ ¬ A (ad 1)) ∧ vk_S 13 am_len am_byt (fun i => ad (2 + i)) (fun i => ad (15 + i)) A U H ∧ (∀ (i : Nat) (q : Nat × String), am_str[i]? = some q → vk_R "TownLamps$Reader" q.1 q.2 (ad (2 + i)) U) ∧ va_Z "java/lang/String" "COMPACT_STRINGS" "Z" (.int 1) A U H ∧ va_Z "jdk/internal/util/Preconditions" "SIOOBE_FORMATTER" "Ljava/util/function/BiFunction;" fm A U H ∧ (∀ q ∈ am_nest, va_Nw (.methodLinkNest q.1 q.2.1 q.2.2.1 q.2.2.2) U) ∧ ∀ c ∈ [1, 3, 4, 6, 7, 8], ∀ q : vw_C, vwCl[c]? = some q → va_AO q.1 U
theorem am_Fx.go {fm : Value} {n : Nat} {xs : Nat → Int32} {ad : Nat → Nat} {A B : Nat → Prop} {s U : State} {H H1 : Heap} (hW : s.WarmedH U.vm) (hq : ∀ a : Nat, a < H.size → ¬ A a → H1[a]? = H[a]?) (hAB : ∀ q, B q → A q) (h : am_Fx fm n xs ad A s H) : am_Fx fm n xs ad B U H1 := by
  obtain ⟨⟨h1, h2⟩, ⟨h3, h3'⟩, h4, h5, h6, h7, h8, h9⟩ := h
  have hv := hW.alike
  refine ⟨⟨((h1.moved hv).kept hq).narrow hAB, ((h2.moved hv).kept hq).narrow hAB⟩, ⟨(h3.moved hv).kept ?_, fun z => h3' (hAB _ z)⟩, ((h4.moved hv).kept hq).narrow hAB, fun i q e => (h5 i q e).warm hW, ((h6.moved hv).kept hq).narrow hAB, ((h7.moved hv).kept hq).narrow hAB, fun q hm => (h8 q hm).warmM hW, fun c hc q hq => (h9 c hc q hq).moved hv⟩
  obtain ⟨scr, e1, -⟩ := h3
  exact hq _ (Array.getElem?_eq_some_iff.mp e1).1 h3'
theorem am_Fx.same {fm : Value} {n : Nat} {xs : Nat → Int32} {ad : Nat → Nat} {A : Nat → Prop} {s U : State} {H : Heap} (hv : U.vm = s.vm) (h : am_Fx fm n xs ad A s H) : am_Fx fm n xs ad A U H := by
  refine am_Fx.go (s := s) ?_ (fun _ _ _ => rfl) (fun _ z => z) h
  rw [hv]
  exact State.WarmedH.refl s
theorem am_Fx.congr {fm : Value} {n : Nat} {xs : Nat → Int32} {ad ad' : Nat → Nat} {A : Nat → Prop} {s : State} {H : Heap} (ha : ∀ o, o < 29 → ad' o = ad o) (h : am_Fx fm n xs ad A s H) : am_Fx fm n xs ad' A s H := by
  obtain ⟨⟨h1, h2⟩, ⟨h3, h3'⟩, h4, h5, h6, h7, h8, h9⟩ := h
  have a0 := ha 0 (by omega)
  have a1 := ha 1 (by omega)
  refine ⟨by rw [a0]; exact ⟨h1, h2⟩, by rw [a1]; exact ⟨h3, h3'⟩, ⟨fun i hi => ?_, fun i j hi hj e => ?_⟩, fun i q e => ?_, h6, h7, h8, h9⟩
  · show va_O "java/lang/String" (ad' (2 + i)) A s H ∧ va_OF "java/lang/String" "coder" "B" (.int 0) (ad' (2 + i)) A s H ∧ va_OF "java/lang/String" "value" "[B" (.ref (ad' (15 + i))) (ad' (2 + i)) A s H ∧ va_T .byte (ad' (15 + i)) (am_len.getD i 0) (fun j => .int ((am_byt.getD i []).getD j 0)) A s H
    rw [ha (2 + i) (by omega), ha (15 + i) (by omega)]
    exact h4.1 i hi
  · have e' : ad' (2 + i) = ad' (2 + j) := e
    rw [ha (2 + i) (by omega), ha (2 + j) (by omega)] at e'
    exact h4.2 i j hi hj e'
  · have hi : i < 13 := (List.getElem?_eq_some_iff.mp e).1
    rw [ha (2 + i) (by omega)]
    exact h5 i q e
/-- a cell of the small heap is written -/
theorem am_At.set {D : va_G} {fm : Value} {n : Nat} {xs : Nat → Int32} {A : Nat → Prop} {s : State} {ad : Nat → Nat} {aC : Nat → ClassId} {sk sk' : am_K} {mem mem' : am_M} {H H1 : Heap} {o : Nat} {x : va_E} (hA : am_At D fm n xs A s ad aC sk mem H) (ho : 29 ≤ o) (hlt : o < sk.length) (hl : sk'.length = sk.length) (hx : am_cell ad aC o (sk'.getD o (0, 0, [])) (mem' o) = x) (h : ∀ a, a ≠ o → sk'.getD a (0, 0, []) = sk.getD a (0, 0, []) ∧ mem' a = mem a) (hk : (sk'.getD o (0, 0, [])).1 = (sk.getD o (0, 0, [])).1) (hwf : am_wf sk')
    (hP : va_P D vwCl ((am_w ad aC sk mem).set (o - 29) (ad o, x)) H1) (hD : va_D A ((am_w ad aC sk mem).set (o - 29) (ad o, x))) : am_At D fm n xs A s ad aC sk' mem' H1 := by
  have e := am_w_set (ad := ad) (aC := aC) (sk := sk) (sk' := sk') (mem := mem) (mem' := mem') (x := x) ho hlt hl hx h
  rw [e] at hP hD
  obtain ⟨-, -, h3, ⟨r0, r1, r2, r3, r4, r5⟩, -⟩ := hA
  refine ⟨hP, hD, fun a q ha hq hk13 => ?_, ⟨by omega, fun a ha => ?_, fun j hj => ?_, fun j hj => ?_, fun i hi => ?_, fun i hi j hj => ?_⟩, hwf⟩
  · have hal : a < sk.length := by rw [← hl]; exact (List.getElem?_eq_some_iff.mp hq).1
    have hq2 : sk'.getD a (0, 0, []) = q := by simp [List.getD_eq_getElem?_getD, hq]
    have hs : sk[a]? = some (sk.getD a (0, 0, [])) := by simp [List.getD_eq_getElem?_getD, List.getElem?_eq_getElem hal]
    have hkk : (sk.getD a (0, 0, [])).1 = q.1 := by
      by_cases e2 : a = o
      · subst e2
        rw [← hk, hq2]
      · rw [← (h a e2).1, hq2]
    have := h3 a _ ha hs (by rw [hkk]; exact hk13)
    rw [hkk] at this
    exact this
  · have hne : a ≠ o := by omega
    have hal : a < sk.length := by omega
    have g := (h a hne).1
    simp only [List.getD_eq_getElem?_getD, List.getElem?_eq_getElem hal, List.getElem?_eq_getElem (show a < sk'.length by omega), Option.getD_some] at g
    rw [List.getElem?_eq_getElem (show a < sk'.length by omega), g, ← List.getElem?_eq_getElem hal]
    exact r1 a ha
  · rw [(h 0 (by omega)).2]; exact r2 j hj
  · rw [(h 1 (by omega)).2]; exact r3 j hj
  · rw [(h (2 + i) (by omega)).2]; exact r4 i hi
  · rw [(h (15 + i) (by omega)).2]; exact r5 i hi j hj
theorem am_cell_ext {ad ad' : Nat → Nat} {aC aC' : Nat → ClassId} {o N : Nat} {e : am_E} {m : Nat → Int32} (h : ∀ q, q < N → ad' q = ad q) (hc : aC' o = aC o) (he : ∀ z, some z ∈ e.2.2 → z < N) : am_cell ad' aC' o e m = am_cell ad aC o e m := by
  unfold am_cell
  split
  · congr 2
    apply List.map_congr_left
    intro k _
    unfold am_fv
    split
    · split
      · rename_i z hz
        rw [h z (he z (List.mem_of_getElem? hz))]
      · rfl
    · rfl
  · split
    · rw [hc]
    · rw [hc]
      have e1 : (fun (j : Nat) => match e.2.2[j]? with
          | some (some z) => some (ad' z)
          | _ => none) = (fun (j : Nat) => match e.2.2[j]? with
          | some (some z) => some (ad z)
          | _ => none) := by
        funext j
        split
        · rename_i z hz
          rw [h z (he z (List.mem_of_getElem? hz))]
        · rfl
      rw [e1]
def am_ad (ad : Nat → Nat) (N q : Nat) : Nat → Nat := fun o => if o = N then q else ad o
/-- a cell is made -/
theorem am_At.push {D : va_G} {fm : Value} {n : Nat} {xs : Nat → Int32} {A : Nat → Prop} {s : State} {ad : Nat → Nat} {aC : Nat → ClassId} {sk : am_K} {mem : am_M} {H H1 : Heap} {q cA : Nat} {x : va_E} {e : am_E} (hA : am_At D fm n xs A s ad aC sk mem H) (hn : ∀ z, some z ∉ e.2.2) (h23 : e.1 ≠ 13 ∧ e.1 ≠ 23) (hx : am_cell (am_ad ad sk.length q) (am_ad aC sk.length cA) sk.length e (fun _ => 0) = x) (hty : 13 ≤ e.1 → ArrOfT s cA (am_ty e.1) ∧ va_RA s cA (am_ty e.1))
    (hP : va_P D vwCl (am_w ad aC sk mem ++ [(q, x)]) H1) (hD : va_D A (am_w ad aC sk mem ++ [(q, x)])) : am_At D fm n xs A s (am_ad ad sk.length q) (am_ad aC sk.length cA) (sk ++ [e]) (am_z mem sk.length) H1 := by
  obtain ⟨-, -, h3, ⟨r0, r1, r2, r3, r4, r5⟩, hwf⟩ := hA
  have hE : am_w ad aC sk mem ++ [(q, x)] = am_w (am_ad ad sk.length q) (am_ad aC sk.length cA) (sk ++ [e]) (am_z mem sk.length) := by
    apply List.ext_getElem?
    intro j
    by_cases hj : j < sk.length - 29
    · rw [List.getElem?_append_left (by rw [am_w_len]; exact hj), am_w_get _ _ _ _ _ hj, am_w_get _ _ _ _ _ (by rw [List.length_append, List.length_singleton]; omega)]
      have hal : j + 29 < sk.length := by omega
      have hs : sk[j + 29]? = some (sk.getD (j + 29) (0, 0, [])) := by simp [List.getD_eq_getElem?_getD, List.getElem?_eq_getElem hal]
      have e1 : (sk ++ [e]).getD (j + 29) (0, 0, []) = sk.getD (j + 29) (0, 0, []) := by simp [List.getD_eq_getElem?_getD, List.getElem?_append_left hal]
      have e2 : am_z mem sk.length (j + 29) = mem (j + 29) := by simp only [am_z, if_neg (show ¬ j + 29 = sk.length by omega)]
      have e3 : am_ad ad sk.length q (j + 29) = ad (j + 29) := by simp only [am_ad, if_neg (show ¬ j + 29 = sk.length by omega)]
      rw [e1, e2, e3, am_cell_ext (ad := ad) (aC := aC) (ad' := am_ad ad sk.length q) (aC' := am_ad aC sk.length cA) (N := sk.length) (fun z hz => by simp only [am_ad, if_neg (show ¬ z = sk.length by omega)]) (by simp only [am_ad, if_neg (show ¬ j + 29 = sk.length by omega)]) (fun z hz => (hwf.1 _ _ hs z hz).1)]
    · by_cases hj2 : j = sk.length - 29
      · subst hj2
        rw [List.getElem?_append_right (by rw [am_w_len]; omega), am_w_len, Nat.sub_self, am_w_get _ _ _ _ _ (by rw [List.length_append, List.length_singleton]; omega), show sk.length - 29 + 29 = sk.length by omega]
        have e1 : (sk ++ [e]).getD sk.length (0, 0, []) = e := by simp [List.getD_eq_getElem?_getD]
        have e2 : am_z mem sk.length sk.length = fun _ => 0 := by simp [am_z]
        have e3 : am_ad ad sk.length q sk.length = q := by simp [am_ad]
        rw [e1, e2, e3, hx]
        rfl
      · rw [List.getElem?_eq_none (by rw [List.length_append, am_w_len, List.length_singleton]; omega), List.getElem?_eq_none (by rw [am_w_len, List.length_append, List.length_singleton]; omega)]
  rw [hE] at hP hD
  refine ⟨hP, hD, fun a y ha hy hk13 => ?_, ⟨by rw [List.length_append]; omega, fun a ha => by rw [List.getElem?_append_left (by omega)]; exact r1 a ha, fun j hj => ?_, fun j hj => ?_, fun i hi => ?_, fun i hi j hj => ?_⟩, fun a y hy z hz => ?_, fun a y ha hy => ?_⟩
  · by_cases hal : a < sk.length
    · rw [List.getElem?_append_left hal] at hy
      have := h3 a y ha hy hk13
      simp only [am_ad, if_neg (show ¬ a = sk.length by omega)]
      exact this
    · have hal2 : a = sk.length := by
        have := (List.getElem?_eq_some_iff.mp hy).1
        rw [List.length_append, List.length_singleton] at this
        omega
      subst hal2
      rw [List.getElem?_append_right (Nat.le_refl _), Nat.sub_self] at hy
      cases hy
      simp only [am_ad, if_pos]
      exact hty hk13
  · simp only [am_z, if_neg (show ¬ 0 = sk.length by omega)]; exact r2 j hj
  · simp only [am_z, if_neg (show ¬ 1 = sk.length by omega)]; exact r3 j hj
  · simp only [am_z, if_neg (show ¬ 2 + i = sk.length by omega)]; exact r4 i hi
  · simp only [am_z, if_neg (show ¬ 15 + i = sk.length by omega)]; exact r5 i hi j hj
  · by_cases hal : a < sk.length
    · rw [List.getElem?_append_left hal] at hy
      have := hwf.1 a y hy z hz
      exact ⟨by rw [List.length_append]; omega, this.2⟩
    · have hal2 : a = sk.length := by
        have := (List.getElem?_eq_some_iff.mp hy).1
        rw [List.length_append, List.length_singleton] at this
        omega
      subst hal2
      rw [List.getElem?_append_right (Nat.le_refl _), Nat.sub_self] at hy
      cases hy
      exact absurd hz (hn z)
  · by_cases hal : a < sk.length
    · rw [List.getElem?_append_left hal] at hy
      exact hwf.2 a y ha hy
    · have hal2 : a = sk.length := by
        have := (List.getElem?_eq_some_iff.mp hy).1
        rw [List.length_append, List.length_singleton] at this
        omega
      subst hal2
      rw [List.getElem?_append_right (Nat.le_refl _), Nat.sub_self] at hy
      cases hy
      exact h23
end
section
/-! one step of the small machine, done by the real one -/
def am_K1 (p : Program) (l : Launch) (e : Env) (R : Room) (s : State) (m : MethodId) (args : Array Value) (below : List Frame) (meth : Method) (c : Code) (Qf : State → Prop) (D : va_G) (fm : Value) (n : Nat) (xs : Nat → Int32) (A : Nat → Prop) (pc : Nat) (L : am_L) (st : List Value) (sk : am_K) (mem : am_M) (ad : Nat → Nat) (aC : Nat → ClassId) (cells slots : Nat) : Prop :=
  ∀ (H : Heap) (locs : List Loc) (ls : Array Slot), am_At D fm n xs A s ad aC sk mem H → am_Fx fm n xs ad A s s.heap → am_lh ad fm L ls → va_S A s.heap H locs → W p l e R s m args below meth c H locs cells slots Qf (F0 m pc ls (st.map (am_re ad fm)))
def am_Me (p : Program) (s : State) (m : MethodId) (args : Array Value) (meth : Method) (c : Code) (D : va_G) (fm : Value) (A : Nat → Prop) (cc : ByteArray) (own : String) (init : Bool) (nL : Nat) : Prop :=
  p.tables.exec = Jvm.exec ∧ c.code = cc ∧ s.vm.findClass own = some m.cls ∧ (∀ w ∈ am_tb, w.before args s = true) ∧ (init = true → meth.name = "<init>") ∧ va_K D vwCl [] s ∧ (∀ q, s.heap.size ≤ q → A q) ∧ fm.category = 1 ∧ c.maxLocals = nL
theorem am_i1_inv {f : Int32 → Int32} {nx : Nat} {L : am_L} {st : List Value} {sk : am_K} {mem : am_M} {z : am_N} (h : am_i1 f nx L st sk mem = some z) : ∃ x r, st = .int x :: r ∧ z = .inl (nx, L, .int (f x) :: r, sk, mem) := by
  unfold am_i1 am_go at h
  split at h <;> cases h
  exact ⟨_, _, rfl, rfl⟩
theorem am_i2_inv {f : Int32 → Int32 → Int32} {nx : Nat} {L : am_L} {st : List Value} {sk : am_K} {mem : am_M} {z : am_N} (h : am_i2 f nx L st sk mem = some z) : ∃ x y r, st = .int y :: .int x :: r ∧ z = .inl (nx, L, .int (f x y) :: r, sk, mem) := by
  unfold am_i2 am_go at h
  split at h <;> cases h
  exact ⟨_, _, _, rfl, rfl⟩
theorem am_i2z_inv {f : Int32 → Int32 → Int32} {nx : Nat} {L : am_L} {st : List Value} {sk : am_K} {mem : am_M} {z : am_N} (h : am_i2z f nx L st sk mem = some z) : ∃ x y r, st = .int y :: .int x :: r ∧ ¬ y = 0 ∧ z = .inl (nx, L, .int (f x y) :: r, sk, mem) := by
  unfold am_i2z am_go at h
  split at h
  · split at h <;> cases h
    exact ⟨_, _, _, rfl, by assumption, rfl⟩
  · cases h
theorem am_ild_inv {kd nx : Nat} {L : am_L} {st : List Value} {sk : am_K} {mem : am_M} {z : am_N} (h : am_ild kd nx L st sk mem = some z) : ∃ i q r N rs, st = .int i :: .ref q :: r ∧ sk[q]? = some (kd, N, rs) ∧ vp_in i N ∧ z = .inl (nx, L, .int (mem q i.toNatClampNeg) :: r, sk, mem) := by
  unfold am_ild am_go at h
  split at h
  · split at h
    · split at h
      · split at h <;> cases h
        rename_i e1 e2 e3
        subst e2
        exact ⟨_, _, _, _, _, rfl, e1, e3, rfl⟩
      · cases h
    · cases h
  · cases h
theorem am_ist_inv {kd nx : Nat} {L : am_L} {st : List Value} {sk : am_K} {mem : am_M} {z : am_N} (h : am_ist kd nx L st sk mem = some z) : ∃ x i q r N rs, st = .int x :: .int i :: .ref q :: r ∧ sk[q]? = some (kd, N, rs) ∧ 29 ≤ q ∧ am_fit kd x = true ∧ vp_in i N ∧ z = .inl (nx, L, r, sk, am_up mem q i.toNatClampNeg x) := by
  unfold am_ist am_go at h
  split at h
  · split at h
    · split at h
      · split at h <;> cases h
        rename_i e1 e2 e5
        obtain ⟨e2, e3, e4⟩ := e2
        subst e2
        exact ⟨_, _, _, _, _, _, rfl, e1, e3, e4, e5, rfl⟩
      · cases h
    · cases h
  · cases h
theorem am_ald_inv {nx : Nat} {L : am_L} {st : List Value} {sk : am_K} {mem : am_M} {z : am_N} (h : am_ald nx L st sk mem = some z) : ∃ i q r k N rs y, st = .int i :: .ref q :: r ∧ sk[q]? = some (k, N, rs) ∧ 30 ≤ k ∧ 29 ≤ q ∧ vp_in i N ∧ rs[i.toNatClampNeg]? = some (some y) ∧ z = .inl (nx, L, .ref y :: r, sk, mem) := by
  unfold am_ald am_go at h
  split at h
  · split at h
    · split at h
      · split at h
        · cases h
        · split at h <;> cases h
          rename_i e1 e2 e4 _ _ e3
          exact ⟨_, _, _, _, _, _, _, rfl, e1, e2.1, e2.2, e4, e3, rfl⟩
      · cases h
    · cases h
  · cases h
theorem am_ast_inv {nx : Nat} {L : am_L} {st : List Value} {sk : am_K} {mem : am_M} {z : am_N} (h : am_ast nx L st sk mem = some z) : ∃ y i q r N rs kz a b, st = .ref y :: .int i :: .ref q :: r ∧ sk[q]? = some (kz + 30, N, rs) ∧ sk[y]? = some (kz, a, b) ∧ 29 ≤ q ∧ 29 ≤ y ∧ rs.length = N ∧ kz < 13 ∧ vp_in i N ∧ z = .inl (nx, L, r, sk.set q (kz + 30, N, rs.set i.toNatClampNeg (some y)), mem) := by
  unfold am_ast am_go at h
  split at h
  · split at h
    · split at h
      · split at h <;> cases h
        rename_i e1 e3 e2 e9
        obtain ⟨e2, e4, e5, e6, e7⟩ := e2
        subst e2
        exact ⟨_, _, _, _, _, _, _, _, _, rfl, e1, e3, e4, e5, e6, e7, e9, rfl⟩
      · cases h
    · cases h
  · cases h
theorem am_get_inv {f nx : Nat} {L : am_L} {st : List Value} {sk : am_K} {mem : am_M} {z : am_N} (h : am_get f nx L st sk mem = some z) : ∃ q r N rs, st = .ref q :: r ∧ sk[q]? = some (f / 64, N, rs) ∧ f % 64 < N ∧ ((am_ft (f / 64) (f % 64) = 2 ∧ ∃ y, rs[f % 64]? = some (some y) ∧ z = .inl (nx, L, .ref y :: r, sk, mem)) ∨ (¬ am_ft (f / 64) (f % 64) = 2 ∧ z = .inl (nx, L, .int (mem q (f % 64)) :: r, sk, mem))) := by
  unfold am_get am_go at h
  split at h
  · split at h
    · split at h
      · rename_i e1 e2
        obtain ⟨e2, e3⟩ := e2
        subst e2
        split at h
        · split at h <;> cases h
          rename_i e5 _ _ e4
          exact ⟨_, _, _, _, rfl, e1, e3, Or.inl ⟨e5, _, e4, rfl⟩⟩
        · cases h
          exact ⟨_, _, _, _, rfl, e1, e3, Or.inr ⟨by assumption, rfl⟩⟩
      · cases h
    · cases h
  · cases h
theorem am_put_inv {f nx : Nat} {L : am_L} {st : List Value} {sk : am_K} {mem : am_M} {z : am_N} (h : am_put f nx L st sk mem = some z) : ∃ x q r N rs, st = .int x :: .ref q :: r ∧ sk[q]? = some (f / 64, N, rs) ∧ f % 64 < N ∧ 29 ≤ q ∧ (am_ft (f / 64) (f % 64) = 0 ∨ am_ft (f / 64) (f % 64) = 1 ∧ (x = 0 ∨ x = 1)) ∧ z = .inl (nx, L, r, sk, am_up mem q (f % 64) x) := by
  unfold am_put am_go at h
  split at h
  · split at h
    · split at h <;> cases h
      rename_i e1 e2
      obtain ⟨e2, e3, e4, e5⟩ := e2
      subst e2
      exact ⟨_, _, _, _, _, rfl, e1, e3, e4, e5, rfl⟩
    · cases h
  · cases h
theorem am_putR_inv {f nx : Nat} {L : am_L} {st : List Value} {sk : am_K} {mem : am_M} {z : am_N} (h : am_putR f nx L st sk mem = some z) : ∃ y q r N rs, st = .ref y :: .ref q :: r ∧ sk[q]? = some (f / 64, N, rs) ∧ f % 64 < N ∧ 29 ≤ q ∧ 29 ≤ y ∧ y < sk.length ∧ am_ft (f / 64) (f % 64) = 2 ∧ rs.length = N ∧ z = .inl (nx, L, r, sk.set q (f / 64, N, rs.set (f % 64) (some y)), mem) := by
  unfold am_putR am_go at h
  split at h
  · split at h
    · split at h <;> cases h
      rename_i e1 e2
      obtain ⟨e2, e3, e4, e5, e6, e7, e8⟩ := e2
      subst e2
      exact ⟨_, _, _, _, _, rfl, e1, e3, e4, e5, e6, e7, e8, rfl⟩
    · cases h
  · cases h
theorem am_alen_inv {nx : Nat} {L : am_L} {st : List Value} {sk : am_K} {mem : am_M} {z : am_N} (h : am_alen nx L st sk mem = some z) : ∃ q r k N rs, st = .ref q :: r ∧ sk[q]? = some (k, N, rs) ∧ 20 ≤ k ∧ k < 90 ∧ z = .inl (nx, L, .int (Int32.ofNat N) :: r, sk, mem) := by
  unfold am_alen am_go at h
  split at h
  · split at h
    · split at h <;> cases h
      rename_i e1 e2
      exact ⟨_, _, _, _, _, rfl, e1, e2.1, e2.2, rfl⟩
    · cases h
  · cases h
theorem am_new_inv {k nx : Nat} {L : am_L} {st : List Value} {sk : am_K} {mem : am_M} {z : am_N} (h : am_new k nx L st sk mem = some z) : ∃ N, am_NS[k]? = some N ∧ z = .inl (nx, L, .ref sk.length :: st, sk ++ [(k, N, List.replicate N none)], am_z mem sk.length) := by
  unfold am_new am_go at h
  split at h <;> cases h
  exact ⟨_, by assumption, rfl⟩
theorem am_newa_inv {kd nx : Nat} {L : am_L} {st : List Value} {sk : am_K} {mem : am_M} {z : am_N} (h : am_newa kd nx L st sk mem = some z) : ∃ i r, st = .int i :: r ∧ ¬ i < 0 ∧ i.toNatClampNeg ≤ 100000 ∧ z = .inl (nx, L, .ref sk.length :: r, sk ++ [(kd, i.toNatClampNeg, [])], am_z mem sk.length) := by
  unfold am_newa am_go at h
  split at h
  · split at h <;> cases h
    rename_i e1
    exact ⟨_, _, rfl, fun q => e1 (Or.inl q), by omega, rfl⟩
  · cases h
theorem am_newq_inv {k nx : Nat} {L : am_L} {st : List Value} {sk : am_K} {mem : am_M} {z : am_N} (h : am_newq k nx L st sk mem = some z) : ∃ i r, st = .int i :: r ∧ ¬ i < 0 ∧ i.toNatClampNeg ≤ 100000 ∧ z = .inl (nx, L, .ref sk.length :: r, sk ++ [(30 + k, i.toNatClampNeg, List.replicate i.toNatClampNeg none)], am_z mem sk.length) := by
  unfold am_newq am_go at h
  split at h
  · split at h <;> cases h
    rename_i e1
    exact ⟨_, _, rfl, fun q => e1 (Or.inl q), by omega, rfl⟩
  · cases h
theorem am_inv_inv {k : Nat} {st : List Value} {z : am_N} (h : am_inv k st = some z) : ∃ a, am_AR[k]? = some a ∧ a ≤ st.length ∧ st.length ≤ a + 8 ∧ z = .inr (.inl (k, (st.take a).reverse, st.drop a)) := by
  unfold am_inv at h
  split at h
  · split at h <;> cases h
    rename_i e1 e2
    exact ⟨_, e1, e2.1, e2.2, rfl⟩
  · cases h
theorem am_invV_inv {k : Nat} {st : List Value} {sk : am_K} {z : am_N} (h : am_invV k st sk = some z) : ∃ a q r kd N rs, am_AR[k]? = some a ∧ a ≤ st.length ∧ st.length ≤ a + 8 ∧ (st.take a).reverse = .ref q :: r ∧ sk[q]? = some (kd, N, rs) ∧ am_RC[k]? = some kd ∧ z = .inr (.inl (k, (st.take a).reverse, st.drop a)) := by
  unfold am_invV at h
  split at h
  · split at h
    · split at h
      · split at h
        · rename_i e1 _ _ _ e2 _ _ _ _ e3 e4
          obtain ⟨b, g1, g2, g3, g4⟩ := am_inv_inv h
          have e5 := Option.some.inj (e1.symm.trans g1)
          subst e5
          exact ⟨_, _, _, _, _, _, g1, g2, g3, e2, e3, e4, g4⟩
        · cases h
      · cases h
    · cases h
  · cases h
theorem am_copy_inv {nx : Nat} {L : am_L} {st : List Value} {sk : am_K} {mem : am_M} {z : am_N} (h : am_copy nx L st sk mem = some z) : ∃ i dp b sp a r na nb ra rb, st = .int i :: .int dp :: .ref b :: .int sp :: .ref a :: r ∧ sk[a]? = some (20, na, ra) ∧ sk[b]? = some (20, nb, rb) ∧ 29 ≤ a ∧ 29 ≤ b ∧ ¬ sp < 0 ∧ ¬ dp < 0 ∧ ¬ i < 0 ∧ sp.toNatClampNeg + i.toNatClampNeg ≤ na ∧ dp.toNatClampNeg + i.toNatClampNeg ≤ nb ∧ r.length ≤ 8 ∧ z = .inl (nx, L, r, sk, am_cp mem a b sp.toNatClampNeg dp.toNatClampNeg i.toNatClampNeg) := by
  unfold am_copy am_go at h
  split at h
  · split at h
    · split at h <;> cases h
      rename_i e1 e2 e3
      obtain ⟨f1, f2, f3, f4, f5, f6, f7, f8, f9, f10⟩ := e3
      subst f1; subst f2
      exact ⟨_, _, _, _, _, _, _, _, _, _, rfl, e1, e2, f3, f4, f5, f6, f7, f8, f9, f10, rfl⟩
    · cases h
  · cases h
theorem am_ilo_inv {i nx : Nat} {L : am_L} {st : List Value} {sk : am_K} {mem : am_M} {z : am_N} (h : am_ilo i nx L st sk mem = some z) : ∃ x, L[i]? = some (some (.int x)) ∧ z = .inl (nx, L, .int x :: st, sk, mem) := by
  unfold am_ilo am_go at h
  split at h <;> cases h
  exact ⟨_, by assumption, rfl⟩
theorem am_alo_inv {i nx : Nat} {L : am_L} {st : List Value} {sk : am_K} {mem : am_M} {z : am_N} (h : am_alo i nx L st sk mem = some z) : ∃ x, L[i]? = some (some (.ref x)) ∧ x ≠ 28 ∧ z = .inl (nx, L, .ref x :: st, sk, mem) := by
  unfold am_alo am_go at h
  split at h
  · split at h <;> cases h
    exact ⟨_, by assumption, by assumption, rfl⟩
  · cases h
theorem am_iso_inv {i nx : Nat} {L : am_L} {st : List Value} {sk : am_K} {mem : am_M} {z : am_N} (h : am_iso i nx L st sk mem = some z) : ∃ x r, st = .int x :: r ∧ i < L.length ∧ z = .inl (nx, L.set i (some (.int x)), r, sk, mem) := by
  unfold am_iso am_go at h
  split at h
  · split at h <;> cases h
    exact ⟨_, _, rfl, by assumption, rfl⟩
  · cases h
theorem am_aso_inv {i nx : Nat} {L : am_L} {st : List Value} {sk : am_K} {mem : am_M} {z : am_N} (h : am_aso i nx L st sk mem = some z) : ∃ x r, st = .ref x :: r ∧ i < L.length ∧ x ≠ 28 ∧ z = .inl (nx, L.set i (some (.ref x)), r, sk, mem) := by
  unfold am_aso am_go at h
  split at h
  · split at h <;> cases h
    rename_i e1
    exact ⟨_, _, rfl, e1.1, e1.2, rfl⟩
  · cases h
theorem am_inc_inv {i nx : Nat} {k : Int} {L : am_L} {st : List Value} {sk : am_K} {mem : am_M} {z : am_N} (h : am_inc i k nx L st sk mem = some z) : ∃ x, L[i]? = some (some (.int x)) ∧ z = .inl (nx, L.set i (some (.int (x + Int32.ofInt k))), st, sk, mem) := by
  unfold am_inc am_go at h
  split at h <;> cases h
  exact ⟨_, by assumption, rfl⟩
theorem am_if1_inv {k : ClassFile.Cond} {t : Int} {nx : Nat} {L : am_L} {st : List Value} {sk : am_K} {mem : am_M} {z : am_N} (h : am_if1 k t nx L st sk mem = some z) : ∃ x r, st = .int x :: r ∧ z = .inl (if am_cd k x 0 = true then t.toNat else nx, L, r, sk, mem) := by
  unfold am_if1 am_go at h
  split at h <;> cases h
  exact ⟨_, _, rfl, rfl⟩
theorem am_if2_inv {k : ClassFile.Cond} {t : Int} {nx : Nat} {L : am_L} {st : List Value} {sk : am_K} {mem : am_M} {z : am_N} (h : am_if2 k t nx L st sk mem = some z) : ∃ x y r, st = .int y :: .int x :: r ∧ z = .inl (if am_cd k x y = true then t.toNat else nx, L, r, sk, mem) := by
  unfold am_if2 am_go at h
  split at h <;> cases h
  exact ⟨_, _, _, rfl, rfl⟩
theorem am_tsw_inv {d lo hi : Int} {ts : Array Int} {L : am_L} {st : List Value} {sk : am_K} {mem : am_M} {z : am_N} (h : am_tsw d lo hi ts L st sk mem = some z) : ∃ x r, st = .int x :: r ∧ (((x.toInt < lo ∨ hi < x.toInt) ∧ z = .inl (d.toNat, L, r, sk, mem)) ∨ (¬ (x.toInt < lo ∨ hi < x.toInt) ∧ ∃ t, ts[(x.toInt - lo).toNat]? = some t ∧ z = .inl (t.toNat, L, r, sk, mem))) := by
  unfold am_tsw am_go at h
  split at h
  · split at h
    · cases h
      exact ⟨_, _, rfl, Or.inl ⟨by assumption, rfl⟩⟩
    · split at h <;> cases h
      exact ⟨_, _, rfl, Or.inr ⟨by assumption, _, by assumption, rfl⟩⟩
  · cases h
theorem am_lsw_inv {d : Int} {ps : Array (Int × Int)} {L : am_L} {st : List Value} {sk : am_K} {mem : am_M} {z : am_N} (h : am_lsw d ps L st sk mem = some z) : ∃ x r, st = .int x :: r ∧ z = .inl ((Op.lookupswitch.offset ps.toList d x.toInt).toNat, L, r, sk, mem) := by
  unfold am_lsw am_go at h
  split at h <;> cases h
  exact ⟨_, _, rfl, rfl⟩
end
section
/-! the real machine does what the small one does: one instruction -/
section AMS
variable {p : Program} {l : Launch} {e : Env} {R : Room} {s : State} {m : MethodId} {args : Array Value} {below : List Frame} {meth : Method} {c : Code} {Qf : State → Prop} {D : va_G} {fm : Value} {n : Nat} {xs : Nat → Int32} {A : Nat → Prop} {cc : ByteArray} {own : String} {init : Bool} {ret : Option FieldType} {nL : Nat}
variable {pc nx : Nat} {L : am_L} {st : List Value} {sk : am_K} {mem : am_M} {ad : Nat → Nat} {aC : Nat → ClassId} {cells slots : Nat} {raw norm : Instr} {pl : Nat}
theorem am_K1ty {cA : ClassId} {ty : FieldType} (h : va_K D vwCl [] s) (h2 : ArrOfT s cA ty ∧ va_RA s cA ty) : va_K D vwCl [(cA, ty)] s := ⟨h.1, fun k q hq => by
  match k, hq with
  | 0, hq => cases hq; exact h2
  | k + 1, hq => simp at hq⟩
theorem am_row_dec (h : am_rowok own init ret cc (pc, norm, nx) (raw, pl) = true) : decode cc pc = .ok (raw, nx - pc) ∧ pc < nx ∧ am_lk own init ret pc nx raw norm pl = true := by
  unfold am_rowok at h
  simp only [Bool.and_eq_true, decide_eq_true_eq] at h
  exact ⟨h.1.1, h.1.2, h.2⟩
theorem am_wd_of {w : Cond} (h : am_wd pl w = true) : lw_tbl[pl]? = some w := of_decide_eq_true h
theorem am_hts {w : Cond} (hm : am_Me p s m args meth c D fm A cc own init nL) (h : am_wd pl w = true) (g : goodWord w = true) : w.before args s = true := hm.2.2.2.1 w (am_tb_at pl (am_wd_of h) g)
theorem am_ro_kind {o : Nat} {x : am_E} (ho : o < 29) (h : (am_ro n)[o]? = some x) : (o = 0 ∧ x = (20, 6, [])) ∨ (o = 1 ∧ x = (20, n, [])) ∨ (∃ i, i < 13 ∧ o = 2 + i ∧ x = (13, 2, [some (15 + i), none])) ∨ (∃ i, i < 13 ∧ o = 15 + i ∧ x = (23, am_len.getD i 0, [])) ∨ (o = 28 ∧ x = (91, 0, [])) := by
  match o, ho, h with
  | 0, _, h => cases h; exact Or.inl ⟨rfl, rfl⟩
  | 1, _, h => cases h; exact Or.inr (Or.inl ⟨rfl, rfl⟩)
  | 2, _, h => cases h; exact Or.inr (Or.inr (Or.inl ⟨0, by decide, rfl, rfl⟩))
  | 3, _, h => cases h; exact Or.inr (Or.inr (Or.inl ⟨1, by decide, rfl, rfl⟩))
  | 4, _, h => cases h; exact Or.inr (Or.inr (Or.inl ⟨2, by decide, rfl, rfl⟩))
  | 5, _, h => cases h; exact Or.inr (Or.inr (Or.inl ⟨3, by decide, rfl, rfl⟩))
  | 6, _, h => cases h; exact Or.inr (Or.inr (Or.inl ⟨4, by decide, rfl, rfl⟩))
  | 7, _, h => cases h; exact Or.inr (Or.inr (Or.inl ⟨5, by decide, rfl, rfl⟩))
  | 8, _, h => cases h; exact Or.inr (Or.inr (Or.inl ⟨6, by decide, rfl, rfl⟩))
  | 9, _, h => cases h; exact Or.inr (Or.inr (Or.inl ⟨7, by decide, rfl, rfl⟩))
  | 10, _, h => cases h; exact Or.inr (Or.inr (Or.inl ⟨8, by decide, rfl, rfl⟩))
  | 11, _, h => cases h; exact Or.inr (Or.inr (Or.inl ⟨9, by decide, rfl, rfl⟩))
  | 12, _, h => cases h; exact Or.inr (Or.inr (Or.inl ⟨10, by decide, rfl, rfl⟩))
  | 13, _, h => cases h; exact Or.inr (Or.inr (Or.inl ⟨11, by decide, rfl, rfl⟩))
  | 14, _, h => cases h; exact Or.inr (Or.inr (Or.inl ⟨12, by decide, rfl, rfl⟩))
  | 15, _, h => cases h; exact Or.inr (Or.inr (Or.inr (Or.inl ⟨0, by decide, rfl, rfl⟩)))
  | 16, _, h => cases h; exact Or.inr (Or.inr (Or.inr (Or.inl ⟨1, by decide, rfl, rfl⟩)))
  | 17, _, h => cases h; exact Or.inr (Or.inr (Or.inr (Or.inl ⟨2, by decide, rfl, rfl⟩)))
  | 18, _, h => cases h; exact Or.inr (Or.inr (Or.inr (Or.inl ⟨3, by decide, rfl, rfl⟩)))
  | 19, _, h => cases h; exact Or.inr (Or.inr (Or.inr (Or.inl ⟨4, by decide, rfl, rfl⟩)))
  | 20, _, h => cases h; exact Or.inr (Or.inr (Or.inr (Or.inl ⟨5, by decide, rfl, rfl⟩)))
  | 21, _, h => cases h; exact Or.inr (Or.inr (Or.inr (Or.inl ⟨6, by decide, rfl, rfl⟩)))
  | 22, _, h => cases h; exact Or.inr (Or.inr (Or.inr (Or.inl ⟨7, by decide, rfl, rfl⟩)))
  | 23, _, h => cases h; exact Or.inr (Or.inr (Or.inr (Or.inl ⟨8, by decide, rfl, rfl⟩)))
  | 24, _, h => cases h; exact Or.inr (Or.inr (Or.inr (Or.inl ⟨9, by decide, rfl, rfl⟩)))
  | 25, _, h => cases h; exact Or.inr (Or.inr (Or.inr (Or.inl ⟨10, by decide, rfl, rfl⟩)))
  | 26, _, h => cases h; exact Or.inr (Or.inr (Or.inr (Or.inl ⟨11, by decide, rfl, rfl⟩)))
  | 27, _, h => cases h; exact Or.inr (Or.inr (Or.inr (Or.inl ⟨12, by decide, rfl, rfl⟩)))
  | 28, _, h => cases h; exact Or.inr (Or.inr (Or.inr (Or.inr ⟨rfl, rfl⟩)))
  | o + 29, ho, _ => omega
theorem am_sum {fm : Value} (hf : fm.category = 1) {N : Nat} {r : List Value} (hr : am_okS N r) : ((r.map (am_re ad fm)).map fun v => v.category).sum = r.length := by
  induction r with
  | nil => rfl
  | cons v r ih =>
    have h1 := am_re_cat (ad := ad) hf (hr v List.mem_cons_self).cat
    have h2 := ih (fun w hw => hr w (List.mem_cons_of_mem _ hw))
    simp only [List.map_cons, List.sum_cons, List.length_cons, h1, h2]
    omega
theorem am_fv_int {c0 N k : Nat} {rs : List (Option Nat)} {f : Nat → Int32} {x : Int32} (hk : k < N) (h2 : ¬ am_ft c0 k = 2) : ((List.range N).map (am_fv ad c0 rs f)).set k (.int x) = (List.range N).map (am_fv ad c0 rs (upd f k x)) := by
  apply List.ext_getElem?
  intro j
  by_cases hj : j < N
  · by_cases e1 : k = j
    · subst e1
      rw [List.getElem?_set_self (by simp [hk]), List.getElem?_map, List.getElem?_range hj]
      simp [am_fv, h2, upd]
    · rw [List.getElem?_set_ne e1, List.getElem?_map, List.getElem?_map, List.getElem?_range hj]
      have e2 : ¬ j = k := fun q => e1 q.symm
      simp [am_fv, upd, e2]
  · rw [List.getElem?_eq_none (by simp; omega), List.getElem?_eq_none (by simp; omega)]
theorem am_fv_ref {c0 N k y : Nat} {rs : List (Option Nat)} {f : Nat → Int32} (hk : k < N) (hl : rs.length = N) (h2 : am_ft c0 k = 2) : ((List.range N).map (am_fv ad c0 rs f)).set k (.ref (ad y)) = (List.range N).map (am_fv ad c0 (rs.set k (some y)) f) := by
  apply List.ext_getElem?
  intro j
  by_cases hj : j < N
  · by_cases e1 : k = j
    · subst e1
      rw [List.getElem?_set_self (by simp [hk]), List.getElem?_map, List.getElem?_range hj]
      simp [am_fv, h2, List.getElem?_set_self (show k < rs.length by omega)]
    · rw [List.getElem?_set_ne e1, List.getElem?_map, List.getElem?_map, List.getElem?_range hj]
      simp [am_fv, List.getElem?_set_ne e1]
  · rw [List.getElem?_eq_none (by simp; omega), List.getElem?_eq_none (by simp; omega)]
theorem am_keep {pc' : Nat} {L' : am_L} {st' : List Value} {mem' : am_M} (kk : ∀ (ad' : Nat → Nat) (aC' : Nat → ClassId), (∀ o, o < sk.length → ad' o = ad o ∧ aC' o = aC o) → am_K1 p l e R s m args below meth c Qf D fm n xs A pc' L' st' sk mem' ad' aC' (cells + (sk.length - sk.length)) (slots + (am_sz sk - am_sz sk))) : am_K1 p l e R s m args below meth c Qf D fm n xs A pc' L' st' sk mem' ad aC cells slots := by
  have h := kk ad aC (fun _ _ => ⟨rfl, rfl⟩)
  rw [Nat.sub_self, Nat.sub_self] at h
  exact h
theorem am_keep2 {sk' : am_K} {pc' : Nat} {L' : am_L} {st' : List Value} {mem' : am_M} (hl : sk'.length = sk.length) (hs : am_sz sk' = am_sz sk) (kk : ∀ (ad' : Nat → Nat) (aC' : Nat → ClassId), (∀ o, o < sk.length → ad' o = ad o ∧ aC' o = aC o) → am_K1 p l e R s m args below meth c Qf D fm n xs A pc' L' st' sk' mem' ad' aC' (cells + (sk'.length - sk.length)) (slots + (am_sz sk' - am_sz sk))) : am_K1 p l e R s m args below meth c Qf D fm n xs A pc' L' st' sk' mem' ad aC cells slots := by
  have h := kk ad aC (fun _ _ => ⟨rfl, rfl⟩)
  rw [hl, hs, Nat.sub_self, Nat.sub_self] at h
  exact h
theorem am_look {d pc' : Int} {pcn : Nat} : ∀ (ps qs : List (Int × Int)) (d' : Int) (x : Int), ps.length = qs.length → (ps.zip qs).all (fun q => decide (q.1.1 = q.2.1 ∧ (pcn : Int) + q.2.2 = (q.1.2.toNat : Int))) = true → (pcn : Int) + d' = (d.toNat : Int) → (pcn : Int) + Op.lookupswitch.offset qs d' x = ((Op.lookupswitch.offset ps d x).toNat : Int)
  | [], [], _, _, _, _, h => h
  | [], _ :: _, _, _, h, _, _ => by simp at h
  | _ :: _, [], _, _, h, _, _ => by simp at h
  | (a, o) :: ps, (b, o') :: qs, d', x, hl, ha, hd => by
    simp only [List.zip_cons_cons, List.all_cons, Bool.and_eq_true, decide_eq_true_eq] at ha
    obtain ⟨⟨h1, h2⟩, h3⟩ := ha
    rw [Op.lookupswitch.offset_cons, Op.lookupswitch.offset_cons, h1]
    split
    · exact h2
    · exact am_look (d := d) (pc' := pc') ps qs d' x (by simpa using hl) h3 hd
theorem am_x_iadd {x y : Int32} (hm : am_Me p s m args meth c D fm A cc own init nL) (hrow : am_rowok own init ret cc (pc, .iadd, nx) (raw, pl) = true) (kk : am_K1 p l e R s m args below meth c Qf D fm n xs A nx L (.int (x + y) :: st) sk mem ad aC cells slots) : am_K1 p l e R s m args below meth c Qf D fm n xs A pc L (.int y :: .int x :: st) sk mem ad aC cells slots := by
  obtain ⟨h1, h2, h3⟩ := am_row_dec hrow
  simp only [am_lk, decide_eq_true_eq] at h3
  obtain ⟨rfl, rfl⟩ := h3
  rw [show pc + 1 - pc = 1 by omega] at h1
  exact fun H locs ls hA hF hl hS => lv_iadd hm.1 hm.2.1 h1 (kk H locs ls hA hF hl hS)
theorem am_x_isub {x y : Int32} (hm : am_Me p s m args meth c D fm A cc own init nL) (hrow : am_rowok own init ret cc (pc, .isub, nx) (raw, pl) = true) (kk : am_K1 p l e R s m args below meth c Qf D fm n xs A nx L (.int (x - y) :: st) sk mem ad aC cells slots) : am_K1 p l e R s m args below meth c Qf D fm n xs A pc L (.int y :: .int x :: st) sk mem ad aC cells slots := by
  obtain ⟨h1, h2, h3⟩ := am_row_dec hrow
  simp only [am_lk, decide_eq_true_eq] at h3
  obtain ⟨rfl, rfl⟩ := h3
  rw [show pc + 1 - pc = 1 by omega] at h1
  exact fun H locs ls hA hF hl hS => lv_isub hm.1 hm.2.1 h1 (kk H locs ls hA hF hl hS)
theorem am_x_imul {x y : Int32} (hm : am_Me p s m args meth c D fm A cc own init nL) (hrow : am_rowok own init ret cc (pc, .imul, nx) (raw, pl) = true) (kk : am_K1 p l e R s m args below meth c Qf D fm n xs A nx L (.int (x * y) :: st) sk mem ad aC cells slots) : am_K1 p l e R s m args below meth c Qf D fm n xs A pc L (.int y :: .int x :: st) sk mem ad aC cells slots := by
  obtain ⟨h1, h2, h3⟩ := am_row_dec hrow
  simp only [am_lk, decide_eq_true_eq] at h3
  obtain ⟨rfl, rfl⟩ := h3
  rw [show pc + 1 - pc = 1 by omega] at h1
  exact fun H locs ls hA hF hl hS => lv_imul hm.1 hm.2.1 h1 (kk H locs ls hA hF hl hS)
theorem am_x_iand {x y : Int32} (hm : am_Me p s m args meth c D fm A cc own init nL) (hrow : am_rowok own init ret cc (pc, .iand, nx) (raw, pl) = true) (kk : am_K1 p l e R s m args below meth c Qf D fm n xs A nx L (.int (x &&& y) :: st) sk mem ad aC cells slots) : am_K1 p l e R s m args below meth c Qf D fm n xs A pc L (.int y :: .int x :: st) sk mem ad aC cells slots := by
  obtain ⟨h1, h2, h3⟩ := am_row_dec hrow
  simp only [am_lk, decide_eq_true_eq] at h3
  obtain ⟨rfl, rfl⟩ := h3
  rw [show pc + 1 - pc = 1 by omega] at h1
  exact fun H locs ls hA hF hl hS => lv_iand hm.1 hm.2.1 h1 (kk H locs ls hA hF hl hS)
theorem am_x_ior {x y : Int32} (hm : am_Me p s m args meth c D fm A cc own init nL) (hrow : am_rowok own init ret cc (pc, .ior, nx) (raw, pl) = true) (kk : am_K1 p l e R s m args below meth c Qf D fm n xs A nx L (.int (x ||| y) :: st) sk mem ad aC cells slots) : am_K1 p l e R s m args below meth c Qf D fm n xs A pc L (.int y :: .int x :: st) sk mem ad aC cells slots := by
  obtain ⟨h1, h2, h3⟩ := am_row_dec hrow
  simp only [am_lk, decide_eq_true_eq] at h3
  obtain ⟨rfl, rfl⟩ := h3
  rw [show pc + 1 - pc = 1 by omega] at h1
  exact fun H locs ls hA hF hl hS => lv_ior hm.1 hm.2.1 h1 (kk H locs ls hA hF hl hS)
theorem am_x_ixor {x y : Int32} (hm : am_Me p s m args meth c D fm A cc own init nL) (hrow : am_rowok own init ret cc (pc, .ixor, nx) (raw, pl) = true) (kk : am_K1 p l e R s m args below meth c Qf D fm n xs A nx L (.int (x ^^^ y) :: st) sk mem ad aC cells slots) : am_K1 p l e R s m args below meth c Qf D fm n xs A pc L (.int y :: .int x :: st) sk mem ad aC cells slots := by
  obtain ⟨h1, h2, h3⟩ := am_row_dec hrow
  simp only [am_lk, decide_eq_true_eq] at h3
  obtain ⟨rfl, rfl⟩ := h3
  rw [show pc + 1 - pc = 1 by omega] at h1
  exact fun H locs ls hA hF hl hS => lv_ixor hm.1 hm.2.1 h1 (kk H locs ls hA hF hl hS)
theorem am_x_ishl {x y : Int32} (hm : am_Me p s m args meth c D fm A cc own init nL) (hrow : am_rowok own init ret cc (pc, .ishl, nx) (raw, pl) = true) (kk : am_K1 p l e R s m args below meth c Qf D fm n xs A nx L (.int (x <<< (y &&& 31)) :: st) sk mem ad aC cells slots) : am_K1 p l e R s m args below meth c Qf D fm n xs A pc L (.int y :: .int x :: st) sk mem ad aC cells slots := by
  obtain ⟨h1, h2, h3⟩ := am_row_dec hrow
  simp only [am_lk, decide_eq_true_eq] at h3
  obtain ⟨rfl, rfl⟩ := h3
  rw [show pc + 1 - pc = 1 by omega] at h1
  exact fun H locs ls hA hF hl hS => lv_ishl hm.1 hm.2.1 h1 (kk H locs ls hA hF hl hS)
theorem am_x_ishr {x y : Int32} (hm : am_Me p s m args meth c D fm A cc own init nL) (hrow : am_rowok own init ret cc (pc, .ishr, nx) (raw, pl) = true) (kk : am_K1 p l e R s m args below meth c Qf D fm n xs A nx L (.int (x >>> (y &&& 31)) :: st) sk mem ad aC cells slots) : am_K1 p l e R s m args below meth c Qf D fm n xs A pc L (.int y :: .int x :: st) sk mem ad aC cells slots := by
  obtain ⟨h1, h2, h3⟩ := am_row_dec hrow
  simp only [am_lk, decide_eq_true_eq] at h3
  obtain ⟨rfl, rfl⟩ := h3
  rw [show pc + 1 - pc = 1 by omega] at h1
  exact fun H locs ls hA hF hl hS => lv_ishr hm.1 hm.2.1 h1 (kk H locs ls hA hF hl hS)
theorem am_x_iushr {x y : Int32} (hm : am_Me p s m args meth c D fm A cc own init nL) (hrow : am_rowok own init ret cc (pc, .iushr, nx) (raw, pl) = true) (kk : am_K1 p l e R s m args below meth c Qf D fm n xs A nx L (.int ((x.toUInt32 >>> (y.toUInt32 &&& Int32.toUInt32 31)).toInt32) :: st) sk mem ad aC cells slots) : am_K1 p l e R s m args below meth c Qf D fm n xs A pc L (.int y :: .int x :: st) sk mem ad aC cells slots := by
  obtain ⟨h1, h2, h3⟩ := am_row_dec hrow
  simp only [am_lk, decide_eq_true_eq] at h3
  obtain ⟨rfl, rfl⟩ := h3
  rw [show pc + 1 - pc = 1 by omega] at h1
  exact fun H locs ls hA hF hl hS => lv_iushr hm.1 hm.2.1 h1 rfl (kk H locs ls hA hF hl hS)
theorem am_x_idiv {x y : Int32} (hm : am_Me p s m args meth c D fm A cc own init nL) (hrow : am_rowok own init ret cc (pc, .idiv, nx) (raw, pl) = true) (hy : ¬ y = 0) (kk : am_K1 p l e R s m args below meth c Qf D fm n xs A nx L (.int (x / y) :: st) sk mem ad aC cells slots) : am_K1 p l e R s m args below meth c Qf D fm n xs A pc L (.int y :: .int x :: st) sk mem ad aC cells slots := by
  obtain ⟨h1, h2, h3⟩ := am_row_dec hrow
  simp only [am_lk, decide_eq_true_eq] at h3
  obtain ⟨rfl, rfl⟩ := h3
  rw [show pc + 1 - pc = 1 by omega] at h1
  exact fun H locs ls hA hF hl hS => lv_idiv hm.1 hm.2.1 h1 hy (kk H locs ls hA hF hl hS)
theorem am_x_irem {x y : Int32} (hm : am_Me p s m args meth c D fm A cc own init nL) (hrow : am_rowok own init ret cc (pc, .irem, nx) (raw, pl) = true) (hy : ¬ y = 0) (kk : am_K1 p l e R s m args below meth c Qf D fm n xs A nx L (.int (x - x / y * y) :: st) sk mem ad aC cells slots) : am_K1 p l e R s m args below meth c Qf D fm n xs A pc L (.int y :: .int x :: st) sk mem ad aC cells slots := by
  obtain ⟨h1, h2, h3⟩ := am_row_dec hrow
  simp only [am_lk, decide_eq_true_eq] at h3
  obtain ⟨rfl, rfl⟩ := h3
  rw [show pc + 1 - pc = 1 by omega] at h1
  exact fun H locs ls hA hF hl hS => lv_irem hm.1 hm.2.1 h1 hy (kk H locs ls hA hF hl hS)
theorem am_x_ineg {x : Int32} (hm : am_Me p s m args meth c D fm A cc own init nL) (hrow : am_rowok own init ret cc (pc, .ineg, nx) (raw, pl) = true) (kk : am_K1 p l e R s m args below meth c Qf D fm n xs A nx L (.int (-x) :: st) sk mem ad aC cells slots) : am_K1 p l e R s m args below meth c Qf D fm n xs A pc L (.int x :: st) sk mem ad aC cells slots := by
  obtain ⟨h1, h2, h3⟩ := am_row_dec hrow
  simp only [am_lk, decide_eq_true_eq] at h3
  obtain ⟨rfl, rfl⟩ := h3
  rw [show pc + 1 - pc = 1 by omega] at h1
  exact fun H locs ls hA hF hl hS => lv_ineg hm.1 hm.2.1 h1 (kk H locs ls hA hF hl hS)
theorem am_x_i2s {x : Int32} (hm : am_Me p s m args meth c D fm A cc own init nL) (hrow : am_rowok own init ret cc (pc, .i2s, nx) (raw, pl) = true) (kk : am_K1 p l e R s m args below meth c Qf D fm n xs A nx L (.int (x.toInt16.toInt32) :: st) sk mem ad aC cells slots) : am_K1 p l e R s m args below meth c Qf D fm n xs A pc L (.int x :: st) sk mem ad aC cells slots := by
  obtain ⟨h1, h2, h3⟩ := am_row_dec hrow
  simp only [am_lk, decide_eq_true_eq] at h3
  obtain ⟨rfl, rfl⟩ := h3
  rw [show pc + 1 - pc = 1 by omega] at h1
  exact fun H locs ls hA hF hl hS => lv_i2s hm.1 hm.2.1 h1 rfl (kk H locs ls hA hF hl hS)
theorem am_x_i2b {x : Int32} (hm : am_Me p s m args meth c D fm A cc own init nL) (hrow : am_rowok own init ret cc (pc, .i2b, nx) (raw, pl) = true) (kk : am_K1 p l e R s m args below meth c Qf D fm n xs A nx L (.int (x.toInt8.toInt32) :: st) sk mem ad aC cells slots) : am_K1 p l e R s m args below meth c Qf D fm n xs A pc L (.int x :: st) sk mem ad aC cells slots := by
  obtain ⟨h1, h2, h3⟩ := am_row_dec hrow
  simp only [am_lk, decide_eq_true_eq] at h3
  obtain ⟨rfl, rfl⟩ := h3
  rw [show pc + 1 - pc = 1 by omega] at h1
  exact fun H locs ls hA hF hl hS => lv_i2b hm.1 hm.2.1 h1 rfl (kk H locs ls hA hF hl hS)
theorem am_x_i2c {x : Int32} (hm : am_Me p s m args meth c D fm A cc own init nL) (hrow : am_rowok own init ret cc (pc, .i2c, nx) (raw, pl) = true) (kk : am_K1 p l e R s m args below meth c Qf D fm n xs A nx L (.int ((x.toUInt32 % 65536).toInt32) :: st) sk mem ad aC cells slots) : am_K1 p l e R s m args below meth c Qf D fm n xs A pc L (.int x :: st) sk mem ad aC cells slots := by
  obtain ⟨h1, h2, h3⟩ := am_row_dec hrow
  simp only [am_lk, decide_eq_true_eq] at h3
  obtain ⟨rfl, rfl⟩ := h3
  rw [show pc + 1 - pc = 1 by omega] at h1
  exact fun H locs ls hA hF hl hS => lv_i2c hm.1 hm.2.1 h1 rfl (kk H locs ls hA hF hl hS)
theorem am_x_dup {v : Value} (hm : am_Me p s m args meth c D fm A cc own init nL) (hrow : am_rowok own init ret cc (pc, .dup, nx) (raw, pl) = true) (hv : v.category = 1) (kk : am_K1 p l e R s m args below meth c Qf D fm n xs A nx L (v :: v :: st) sk mem ad aC cells slots) : am_K1 p l e R s m args below meth c Qf D fm n xs A pc L (v :: st) sk mem ad aC cells slots := by
  obtain ⟨h1, h2, h3⟩ := am_row_dec hrow
  simp only [am_lk, decide_eq_true_eq] at h3
  obtain ⟨rfl, rfl⟩ := h3
  rw [show pc + 1 - pc = 1 by omega] at h1
  exact fun H locs ls hA hF hl hS => lv_dup hm.1 hm.2.1 h1 (am_re_cat hm.2.2.2.2.2.2.2.1 hv) (kk H locs ls hA hF hl hS)
theorem am_x_dup2 {v w : Value} (hm : am_Me p s m args meth c D fm A cc own init nL) (hrow : am_rowok own init ret cc (pc, .dup2, nx) (raw, pl) = true) (hv : v.category = 1) (hw : w.category = 1) (kk : am_K1 p l e R s m args below meth c Qf D fm n xs A nx L (v :: w :: v :: w :: st) sk mem ad aC cells slots) : am_K1 p l e R s m args below meth c Qf D fm n xs A pc L (v :: w :: st) sk mem ad aC cells slots := by
  obtain ⟨h1, h2, h3⟩ := am_row_dec hrow
  simp only [am_lk, decide_eq_true_eq] at h3
  obtain ⟨rfl, rfl⟩ := h3
  rw [show pc + 1 - pc = 1 by omega] at h1
  exact fun H locs ls hA hF hl hS => lv_dup2_11 hm.1 hm.2.1 h1 (am_re_cat hm.2.2.2.2.2.2.2.1 hv) (am_re_cat hm.2.2.2.2.2.2.2.1 hw) (kk H locs ls hA hF hl hS)
theorem am_x_pop {x : Int32} (hm : am_Me p s m args meth c D fm A cc own init nL) (hrow : am_rowok own init ret cc (pc, .pop, nx) (raw, pl) = true) (kk : am_K1 p l e R s m args below meth c Qf D fm n xs A nx L st sk mem ad aC cells slots) : am_K1 p l e R s m args below meth c Qf D fm n xs A pc L (.int x :: st) sk mem ad aC cells slots := by
  obtain ⟨h1, h2, h3⟩ := am_row_dec hrow
  simp only [am_lk, decide_eq_true_eq] at h3
  obtain ⟨rfl, rfl⟩ := h3
  rw [show pc + 1 - pc = 1 by omega] at h1
  exact fun H locs ls hA hF hl hS => lv_pop hm.1 hm.2.1 h1 rfl (kk H locs ls hA hF hl hS)
theorem am_x_iconst {v : Int} (hm : am_Me p s m args meth c D fm A cc own init nL) (hrow : am_rowok own init ret cc (pc, .iconst v, nx) (raw, pl) = true) (kk : am_K1 p l e R s m args below meth c Qf D fm n xs A nx L (.int (Int32.ofInt v) :: st) sk mem ad aC cells slots) : am_K1 p l e R s m args below meth c Qf D fm n xs A pc L st sk mem ad aC cells slots := by
  obtain ⟨h1, h2, h3⟩ := am_row_dec hrow
  simp only [am_lk] at h3
  split at h3
  · simp only [decide_eq_true_eq] at h3
    obtain ⟨rfl, rfl⟩ := h3
    rw [show pc + 1 - pc = 1 by omega] at h1
    exact fun H locs ls hA hF hl hS => lv_iconst hm.1 hm.2.1 h1 rfl (kk H locs ls hA hF hl hS)
  · simp only [decide_eq_true_eq] at h3
    obtain ⟨h4, rfl⟩ := h3
    rw [show pc + 2 - pc = 2 by omega] at h1
    exact fun H locs ls hA hF hl hS => lv_bipush hm.1 hm.2.1 h1 h4 (kk H locs ls hA hF hl hS)
  · simp only [decide_eq_true_eq] at h3
    obtain ⟨h4, rfl⟩ := h3
    rw [show pc + 3 - pc = 3 by omega] at h1
    exact fun H locs ls hA hF hl hS => lv_sipush hm.1 hm.2.1 h1 h4 (kk H locs ls hA hF hl hS)
  · simp only [Bool.and_eq_true, decide_eq_true_eq] at h3
    obtain ⟨h4, rfl⟩ := h3
    rw [show pc + 2 - pc = 2 by omega] at h1
    exact fun H locs ls hA hF hl hS => lv_ldc hm.1 hm.2.1 hm.2.2.1 (am_hts hm h4 rfl) h1 (kk H locs ls hA hF hl hS)
  · simp only [Bool.and_eq_true, decide_eq_true_eq] at h3
    obtain ⟨h4, rfl⟩ := h3
    rw [show pc + 3 - pc = 3 by omega] at h1
    exact fun H locs ls hA hF hl hS => lv_ldcw hm.1 hm.2.1 hm.2.2.1 (am_hts hm h4 rfl) h1 (kk H locs ls hA hF hl hS)
  · cases h3
theorem am_x_iload {i : Nat} {x : Int32} (hm : am_Me p s m args meth c D fm A cc own init nL) (hrow : am_rowok own init ret cc (pc, .iload i, nx) (raw, pl) = true) (hi : L[i]? = some (some (.int x))) (kk : am_K1 p l e R s m args below meth c Qf D fm n xs A nx L (.int x :: st) sk mem ad aC cells slots) : am_K1 p l e R s m args below meth c Qf D fm n xs A pc L st sk mem ad aC cells slots := by
  obtain ⟨h1, h2, h3⟩ := am_row_dec hrow
  simp only [am_lk] at h3
  split at h3
  · simp only [decide_eq_true_eq] at h3
    obtain ⟨rfl, rfl⟩ := h3
    rw [show pc + 2 - pc = 2 by omega] at h1
    exact fun H locs ls hA hF hl hS => lv_iload hm.1 hm.2.1 h1 (am_lh_get hl hi) (kk H locs ls hA hF hl hS)
  · simp only [decide_eq_true_eq] at h3
    obtain ⟨h4, rfl⟩ := h3
    rw [show pc + 1 - pc = 1 by omega] at h1
    exact fun H locs ls hA hF hl hS => lv_iload_n hm.1 hm.2.1 h1 h4.symm (am_lh_get hl hi) (kk H locs ls hA hF hl hS)
  · cases h3
theorem am_x_aload {i x : Nat} (hm : am_Me p s m args meth c D fm A cc own init nL) (hrow : am_rowok own init ret cc (pc, .aload i, nx) (raw, pl) = true) (hi : L[i]? = some (some (.ref x))) (hx : x ≠ 28) (kk : am_K1 p l e R s m args below meth c Qf D fm n xs A nx L (.ref x :: st) sk mem ad aC cells slots) : am_K1 p l e R s m args below meth c Qf D fm n xs A pc L st sk mem ad aC cells slots := by
  obtain ⟨h1, h2, h3⟩ := am_row_dec hrow
  simp only [am_lk] at h3
  split at h3
  · simp only [decide_eq_true_eq] at h3
    obtain ⟨rfl, rfl⟩ := h3
    rw [show pc + 2 - pc = 2 by omega] at h1
    exact fun H locs ls hA hF hl hS => by
      have g := am_lh_get hl hi
      have k2 := kk H locs ls hA hF hl hS
      rw [List.map_cons] at k2
      rw [am_re_ref hx] at g k2
      exact lv_aload hm.1 hm.2.1 h1 g k2
  · simp only [decide_eq_true_eq] at h3
    obtain ⟨h4, rfl⟩ := h3
    rw [show pc + 1 - pc = 1 by omega] at h1
    exact fun H locs ls hA hF hl hS => by
      have g := am_lh_get hl hi
      have k2 := kk H locs ls hA hF hl hS
      rw [List.map_cons] at k2
      rw [am_re_ref hx] at g k2
      exact lv_aload_n hm.1 hm.2.1 h1 h4.symm g k2
  · cases h3
theorem am_x_istore {i N : Nat} {x : Int32} (hm : am_Me p s m args meth c D fm A cc own init nL) (hrow : am_rowok own init ret cc (pc, .istore i, nx) (raw, pl) = true) (hi : i < L.length) (hL : am_okL N L) (kk : am_K1 p l e R s m args below meth c Qf D fm n xs A nx (L.set i (some (.int x))) st sk mem ad aC cells slots) : am_K1 p l e R s m args below meth c Qf D fm n xs A pc L (.int x :: st) sk mem ad aC cells slots := by
  obtain ⟨h1, h2, h3⟩ := am_row_dec hrow
  simp only [am_lk] at h3
  split at h3
  · simp only [decide_eq_true_eq] at h3
    obtain ⟨rfl, rfl⟩ := h3
    rw [show pc + 2 - pc = 2 by omega] at h1
    exact fun H locs ls hA hF hl hS => lv_istore hm.1 hm.2.1 h1 hl hi rfl (fun ls1 hl1 => kk H locs ls1 hA hF (am_lh_set hm.2.2.2.2.2.2.2.1 hL hi hl1) hS)
  · simp only [decide_eq_true_eq] at h3
    obtain ⟨h4, rfl⟩ := h3
    rw [show pc + 1 - pc = 1 by omega] at h1
    exact fun H locs ls hA hF hl hS => lv_istore_n hm.1 hm.2.1 h1 h4.symm hl hi rfl (fun ls1 hl1 => kk H locs ls1 hA hF (am_lh_set hm.2.2.2.2.2.2.2.1 hL hi hl1) hS)
  · cases h3
theorem am_x_astore {i x N : Nat} (hm : am_Me p s m args meth c D fm A cc own init nL) (hrow : am_rowok own init ret cc (pc, .astore i, nx) (raw, pl) = true) (hx : x ≠ 28) (hi : i < L.length) (hL : am_okL N L) (kk : am_K1 p l e R s m args below meth c Qf D fm n xs A nx (L.set i (some (.ref x))) st sk mem ad aC cells slots) : am_K1 p l e R s m args below meth c Qf D fm n xs A pc L (.ref x :: st) sk mem ad aC cells slots := by
  obtain ⟨h1, h2, h3⟩ := am_row_dec hrow
  simp only [am_lk] at h3
  split at h3
  · simp only [decide_eq_true_eq] at h3
    obtain ⟨rfl, rfl⟩ := h3
    rw [show pc + 2 - pc = 2 by omega] at h1
    exact fun H locs ls hA hF hl hS => by
      rw [List.map_cons, am_re_ref hx]
      exact lv_astore hm.1 hm.2.1 h1 hl hi rfl (fun ls1 hl1 => kk H locs ls1 hA hF (am_lh_set hm.2.2.2.2.2.2.2.1 hL hi (by rw [am_re_ref hx]; exact hl1)) hS)
  · simp only [decide_eq_true_eq] at h3
    obtain ⟨h4, rfl⟩ := h3
    rw [show pc + 1 - pc = 1 by omega] at h1
    exact fun H locs ls hA hF hl hS => by
      rw [List.map_cons, am_re_ref hx]
      exact lv_astore_n hm.1 hm.2.1 h1 h4.symm hl hi rfl (fun ls1 hl1 => kk H locs ls1 hA hF (am_lh_set hm.2.2.2.2.2.2.2.1 hL hi (by rw [am_re_ref hx]; exact hl1)) hS)
  · cases h3
theorem am_x_iinc {i N : Nat} {k : Int} {x : Int32} (hm : am_Me p s m args meth c D fm A cc own init nL) (hrow : am_rowok own init ret cc (pc, .iinc i k, nx) (raw, pl) = true) (hi : L[i]? = some (some (.int x))) (hL : am_okL N L) (kk : am_K1 p l e R s m args below meth c Qf D fm n xs A nx (L.set i (some (.int (x + Int32.ofInt k)))) st sk mem ad aC cells slots) : am_K1 p l e R s m args below meth c Qf D fm n xs A pc L st sk mem ad aC cells slots := by
  obtain ⟨h1, h2, h3⟩ := am_row_dec hrow
  simp only [am_lk, decide_eq_true_eq] at h3
  obtain ⟨rfl, rfl⟩ := h3
  rw [show pc + 3 - pc = 3 by omega] at h1
  intro H locs ls hA hF hl hS
  have hlt := (List.getElem?_eq_some_iff.mp hi).1
  obtain ⟨j, hj⟩ := List.getElem?_of_mem (am_lv_mem (ad := ad) (fm := fm).mpr ⟨_, hi, rfl⟩)
  exact lv_iinc hm.1 hm.2.1 h1 hl hj rfl hlt rfl (fun ls1 hl1 => kk H locs ls1 hA hF (am_lh_set hm.2.2.2.2.2.2.2.1 hL hlt hl1) hS)
theorem am_x_goto {t : Int} (hm : am_Me p s m args meth c D fm A cc own init nL) (hrow : am_rowok own init ret cc (pc, .goto t, nx) (raw, pl) = true) (kk : am_K1 p l e R s m args below meth c Qf D fm n xs A t.toNat L st sk mem ad aC cells slots) : am_K1 p l e R s m args below meth c Qf D fm n xs A pc L st sk mem ad aC cells slots := by
  obtain ⟨h1, h2, h3⟩ := am_row_dec hrow
  simp only [am_lk] at h3
  split at h3
  · simp only [decide_eq_true_eq] at h3
    obtain ⟨h4, rfl⟩ := h3
    rw [show pc + 3 - pc = 3 by omega] at h1
    exact fun H locs ls hA hF hl hS => lv_goto hm.1 hm.2.1 h1 h4 (kk H locs ls hA hF hl hS)
  · cases h3
theorem am_x_if1 {k : ClassFile.Cond} {t : Int} {x y : Int32} (hm : am_Me p s m args meth c D fm A cc own init nL) (hrow : am_rowok own init ret cc (pc, .ifCond k t, nx) (raw, pl) = true) (kk : am_K1 p l e R s m args below meth c Qf D fm n xs A (if am_cd k x 0 = true then t.toNat else nx) L st sk mem ad aC cells slots) : am_K1 p l e R s m args below meth c Qf D fm n xs A pc L (.int x :: st) sk mem ad aC cells slots := by
  obtain ⟨h1, h2, h3⟩ := am_row_dec hrow
  simp only [am_lk] at h3
  split at h3
  · simp only [decide_eq_true_eq] at h3
    obtain ⟨rfl, h4, rfl⟩ := h3
    rw [show pc + 3 - pc = 3 by omega] at h1
    intro H locs ls hA hF hl hS
    have k2 := kk H locs ls hA hF hl hS
    cases k
    · exact lv_if_eq hm.1 hm.2.1 h1 h4 (fun q => by simpa [am_cd, q] using k2) (fun q => by simpa [am_cd, q] using k2)
    · exact lv_if_ne hm.1 hm.2.1 h1 h4 (fun q => by simpa [am_cd, q] using k2) (fun q => by simpa [am_cd, q] using k2)
    · exact lv_if_lt hm.1 hm.2.1 h1 h4 (fun q => by simpa [am_cd, q] using k2) (fun q => by simpa [am_cd, q] using k2)
    · exact lv_if_ge hm.1 hm.2.1 h1 h4 (fun q => by simpa [am_cd, q] using k2) (fun q => by simpa [am_cd, q] using k2)
    · exact lv_if_gt hm.1 hm.2.1 h1 h4 (fun q => by simpa [am_cd, q] using k2) (fun q => by simpa [am_cd, q] using k2)
    · exact lv_if_le hm.1 hm.2.1 h1 h4 (fun q => by simpa [am_cd, q] using k2) (fun q => by simpa [am_cd, q] using k2)
  · cases h3
theorem am_x_if2 {k : ClassFile.Cond} {t : Int} {x y : Int32} (hm : am_Me p s m args meth c D fm A cc own init nL) (hrow : am_rowok own init ret cc (pc, .if_icmp k t, nx) (raw, pl) = true) (kk : am_K1 p l e R s m args below meth c Qf D fm n xs A (if am_cd k x y = true then t.toNat else nx) L st sk mem ad aC cells slots) : am_K1 p l e R s m args below meth c Qf D fm n xs A pc L (.int y :: .int x :: st) sk mem ad aC cells slots := by
  obtain ⟨h1, h2, h3⟩ := am_row_dec hrow
  simp only [am_lk] at h3
  split at h3
  · simp only [decide_eq_true_eq] at h3
    obtain ⟨rfl, h4, rfl⟩ := h3
    rw [show pc + 3 - pc = 3 by omega] at h1
    intro H locs ls hA hF hl hS
    have k2 := kk H locs ls hA hF hl hS
    cases k
    · exact lv_icmp_eq hm.1 hm.2.1 h1 h4 (fun q => by simpa [am_cd, q] using k2) (fun q => by simpa [am_cd, q] using k2)
    · exact lv_icmp_ne hm.1 hm.2.1 h1 h4 (fun q => by simpa [am_cd, q] using k2) (fun q => by simpa [am_cd, q] using k2)
    · exact lv_icmp_lt hm.1 hm.2.1 h1 h4 (fun q => by simpa [am_cd, q] using k2) (fun q => by simpa [am_cd, q] using k2)
    · exact lv_icmp_ge hm.1 hm.2.1 h1 h4 (fun q => by simpa [am_cd, q] using k2) (fun q => by simpa [am_cd, q] using k2)
    · exact lv_icmp_gt hm.1 hm.2.1 h1 h4 (fun q => by simpa [am_cd, q] using k2) (fun q => by simpa [am_cd, q] using k2)
    · exact lv_icmp_le hm.1 hm.2.1 h1 h4 (fun q => by simpa [am_cd, q] using k2) (fun q => by simpa [am_cd, q] using k2)
  · cases h3
theorem am_x_tsw {d lo hi : Int} {ts : Array Int} {x : Int32} (hm : am_Me p s m args meth c D fm A cc own init nL) (hrow : am_rowok own init ret cc (pc, .tableswitch d lo hi ts, nx) (raw, pl) = true) (kk : ((x.toInt < lo ∨ hi < x.toInt) ∧ am_K1 p l e R s m args below meth c Qf D fm n xs A d.toNat L st sk mem ad aC cells slots) ∨ (¬ (x.toInt < lo ∨ hi < x.toInt) ∧ ∃ t, ts[(x.toInt - lo).toNat]? = some t ∧ am_K1 p l e R s m args below meth c Qf D fm n xs A t.toNat L st sk mem ad aC cells slots)) : am_K1 p l e R s m args below meth c Qf D fm n xs A pc L (.int x :: st) sk mem ad aC cells slots := by
  obtain ⟨h1, h2, h3⟩ := am_row_dec hrow
  simp only [am_lk] at h3
  split at h3
  · rename_i d' lo' hi' os
    simp only [Bool.and_eq_true, decide_eq_true_eq] at h3
    obtain ⟨⟨h4, rfl, rfl, h5⟩, h6⟩ := h3
    intro H locs ls hA hF hl hS
    rcases kk with ⟨q, kk⟩ | ⟨q, t, ht, kk⟩
    · exact lv_tableOut hm.1 hm.2.1 h1 q h4 (kk H locs ls hA hF hl hS)
    · have hlt : (x.toInt - lo).toNat < os.size := by
        have := (Array.getElem?_eq_some_iff.mp ht).1
        simp only [Array.length_toList] at h5
        omega
      have ho : os[(x.toInt - lo).toNat]? = some os[(x.toInt - lo).toNat] := Array.getElem?_eq_getElem hlt
      have hz : (t, os[(x.toInt - lo).toNat]) ∈ ts.toList.zip os.toList := by
        refine List.mem_of_getElem? (i := (x.toInt - lo).toNat) ?_
        rw [List.getElem?_zip_eq_some]
        exact ⟨by rw [Array.getElem?_toList]; exact ht, by rw [Array.getElem?_toList]; exact ho⟩
      have h7 := List.all_eq_true.mp h6 _ hz
      simp only [decide_eq_true_eq] at h7
      exact lv_tableIn hm.1 hm.2.1 h1 (fun z => q (Or.inl z)) (fun z => q (Or.inr z)) ho h7 (kk H locs ls hA hF hl hS)
  · cases h3
theorem am_x_lsw {d : Int} {ps : Array (Int × Int)} {x : Int32} (hm : am_Me p s m args meth c D fm A cc own init nL) (hrow : am_rowok own init ret cc (pc, .lookupswitch d ps, nx) (raw, pl) = true) (kk : am_K1 p l e R s m args below meth c Qf D fm n xs A (Op.lookupswitch.offset ps.toList d x.toInt).toNat L st sk mem ad aC cells slots) : am_K1 p l e R s m args below meth c Qf D fm n xs A pc L (.int x :: st) sk mem ad aC cells slots := by
  obtain ⟨h1, h2, h3⟩ := am_row_dec hrow
  simp only [am_lk] at h3
  split at h3
  · rename_i d' qs
    simp only [Bool.and_eq_true, decide_eq_true_eq] at h3
    obtain ⟨⟨⟨h4, h5⟩, h6⟩, h7⟩ := h3
    exact fun H locs ls hA hF hl hS => lv_lookup hm.1 hm.2.1 h1 h7 rfl (am_look (d := d) (pc' := 0) ps.toList qs.toList d' x.toInt h5 h6 h4) (kk H locs ls hA hF hl hS)
  · cases h3
end AMS
end
section
/-! the real machine does what the small one does: instructions on the heap -/
theorem am_wf.set {sk : am_K} {o k N : Nat} {rs : List (Option Nat)} {x : am_E} (h : am_wf sk) (hq : sk[o]? = some (k, N, rs)) (hx : x.1 = k) (hr : ∀ z, some z ∈ x.2.2 → some z ∈ rs ∨ (z < sk.length ∧ z ≠ 28)) : am_wf (sk.set o x) := by
  have hlt := (List.getElem?_eq_some_iff.mp hq).1
  refine ⟨fun a e he z hz => ?_, fun a e ha he => ?_⟩
  · rw [List.length_set]
    by_cases h1 : o = a
    · subst h1
      rw [List.getElem?_set_self hlt] at he
      cases he
      rcases hr z hz with h2 | h2
      · exact h.1 o _ hq z h2
      · exact h2
    · rw [List.getElem?_set_ne h1] at he
      exact h.1 a e he z hz
  · by_cases h1 : o = a
    · subst h1
      rw [List.getElem?_set_self hlt] at he
      cases he
      rw [hx]
      exact h.2 o _ ha hq
    · rw [List.getElem?_set_ne h1] at he
      exact h.2 a e ha he
section AMH
variable {p : Program} {l : Launch} {e : Env} {R : Room} {s : State} {m : MethodId} {args : Array Value} {below : List Frame} {meth : Method} {c : Code} {Qf : State → Prop} {D : va_G} {fm : Value} {n : Nat} {xs : Nat → Int32} {A : Nat → Prop} {cc : ByteArray} {own : String} {init : Bool} {ret : Option FieldType} {nL : Nat}
variable {pc nx : Nat} {L : am_L} {st : List Value} {sk : am_K} {mem : am_M} {ad : Nat → Nat} {aC : Nat → ClassId} {cells slots : Nat} {raw norm : Instr} {pl : Nat}
theorem am_x_ldc {i : Nat} (hm : am_Me p s m args meth c D fm A cc own init nL) (hrow : am_rowok own init ret cc (pc, .ldc i, nx) (raw, pl) = true) (hi : i < 13) (kk : am_K1 p l e R s m args below meth c Qf D fm n xs A nx L (.ref (2 + i) :: st) sk mem ad aC cells slots) : am_K1 p l e R s m args below meth c Qf D fm n xs A pc L st sk mem ad aC cells slots := by
  obtain ⟨h1, h2, h3⟩ := am_row_dec hrow
  simp only [am_lk] at h3
  split at h3
  · simp only [Bool.and_eq_true, decide_eq_true_eq] at h3
    obtain ⟨⟨rfl, rfl⟩, h4⟩ := h3
    rw [show pc + 2 - pc = 2 by omega] at h1
    split at h4
    · rename_i q hq
      simp only [decide_eq_true_eq] at h4
      subst h4
      intro H locs ls hA hF hl hS
      have k2 := kk H locs ls hA hF hl hS
      rw [List.map_cons, am_re_ref (by omega)] at k2
      exact va_ldcS hm.1 hm.2.1 hm.2.2.1 (hF.2.2.2.1 i q hq) h1 k2
    · cases h4
  · cases h3
theorem am_x_gets {i : Nat} (hm : am_Me p s m args meth c D fm A cc own init nL) (hrow : am_rowok own init ret cc (pc, .getstatic i, nx) (raw, pl) = true) (kk : am_K1 p l e R s m args below meth c Qf D fm n xs A nx L (am_gsv i :: st) sk mem ad aC cells slots) : am_K1 p l e R s m args below meth c Qf D fm n xs A pc L st sk mem ad aC cells slots := by
  obtain ⟨h1, h2, h3⟩ := am_row_dec hrow
  simp only [am_lk] at h3
  split at h3
  · simp only [Bool.and_eq_true, decide_eq_true_eq] at h3
    obtain ⟨rfl, h4⟩ := h3
    rw [show pc + 3 - pc = 3 by omega] at h1
    intro H locs ls hA hF hl hS
    have k2 := kk H locs ls hA hF hl hS
    cases i with
    | zero => exact va_gets hm.1 hm.2.1 hF.1.1 hS hm.2.2.1 (am_hts hm (show am_wd pl (.fieldLink own _ "TownLamps" "KIND_ABOVE" "[I") = true from h4) rfl) (fun _ z => z) h1 k2
    | succ i =>
      cases i with
      | zero => exact va_gets hm.1 hm.2.1 hF.2.2.2.2.1 hS hm.2.2.1 (am_hts hm (show am_wd pl (.fieldLink own _ "java/lang/String" "COMPACT_STRINGS" "Z") = true from h4) rfl) (fun _ z => z) h1 k2
      | succ i => exact va_gets hm.1 hm.2.1 hF.2.2.2.2.2.1 hS hm.2.2.1 (am_hts hm (show am_wd pl (.fieldLink own _ "jdk/internal/util/Preconditions" "SIOOBE_FORMATTER" "Ljava/util/function/BiFunction;") = true from h4) rfl) (fun _ z => z) h1 k2
  · cases h3
theorem am_x_iald {i : Int32} {q N : Nat} {rs : List (Option Nat)} (hm : am_Me p s m args meth c D fm A cc own init nL) (hrow : am_rowok own init ret cc (pc, .iaload, nx) (raw, pl) = true) (hq : sk[q]? = some (20, N, rs)) (hin : vp_in i N) (kk : am_K1 p l e R s m args below meth c Qf D fm n xs A nx L (.int (mem q i.toNatClampNeg) :: st) sk mem ad aC cells slots) : am_K1 p l e R s m args below meth c Qf D fm n xs A pc L (.int i :: .ref q :: st) sk mem ad aC cells slots := by
  obtain ⟨h1, h2, h3⟩ := am_row_dec hrow
  simp only [am_lk, decide_eq_true_eq] at h3
  obtain ⟨rfl, rfl⟩ := h3
  rw [show pc + 1 - pc = 1 by omega] at h1
  intro H locs ls hA hF hl hS
  have k2 := kk H locs ls hA hF hl hS
  rw [List.map_cons] at k2
  by_cases h29 : 29 ≤ q
  · have hw := am_w_at (ad := ad) (aC := aC) (mem := mem) hq h29
    rw [show am_cell ad aC q (20, N, rs) (mem q) = .inl (aC q, N, .inl (mem q)) by simp [am_cell]] at hw
    have hT := hA.2.2.1 q _ h29 hq (Nat.le_of_ble_eq_true rfl)
    rw [List.map_cons, List.map_cons, am_re_ref (by omega)]
    exact va_iald hm.1 hm.2.1 (am_K1ty hm.2.2.2.2.2.1 hT) hA.1 (q - 29) 0 hw rfl hin h1 k2
  · have hr := hA.2.2.2.1
    rcases am_ro_kind (n := n) (by omega) ((hr.2.1 q (by omega)).symm.trans hq) with ⟨e1, e2⟩ | ⟨e1, e2⟩ | ⟨i1, -, -, e2⟩ | ⟨i1, -, -, e2⟩ | ⟨-, e2⟩
    · subst e1
      cases e2
      have hlt : i.toNatClampNeg < 6 := Nat.not_le.mp fun z => hin (Or.inr z)
      exact va_ti hm.1 hm.2.1 hF.1.2 hS hin (by rw [hr.2.2.1 _ hlt]; rfl) h1 k2
    · subst e1
      cases e2
      have hlt : i.toNatClampNeg < n := Nat.not_le.mp fun z => hin (Or.inr z)
      have k3 := k2
      rw [show am_re ad fm (.int (mem 1 i.toNatClampNeg)) = .int (xs i.toNatClampNeg) from congrArg Value.int (hr.2.2.2.1 _ hlt)] at k3
      obtain ⟨scr, e3, -⟩ := id hF.2.1.1
      exact va_sld hm.1 hm.2.1 hF.2.1.1 (Array.getElem?_eq_some_iff.mp e3).1 hF.2.1.2 hS hin h1 k3
    · cases e2
    · cases e2
    · cases e2
theorem am_x_zald {i : Int32} {q N : Nat} {rs : List (Option Nat)} (hm : am_Me p s m args meth c D fm A cc own init nL) (hrow : am_rowok own init ret cc (pc, .baload, nx) (raw, pl) = true) (hq : sk[q]? = some (21, N, rs)) (hin : vp_in i N) (kk : am_K1 p l e R s m args below meth c Qf D fm n xs A nx L (.int (mem q i.toNatClampNeg) :: st) sk mem ad aC cells slots) : am_K1 p l e R s m args below meth c Qf D fm n xs A pc L (.int i :: .ref q :: st) sk mem ad aC cells slots := by
  obtain ⟨h1, h2, h3⟩ := am_row_dec hrow
  simp only [am_lk, decide_eq_true_eq] at h3
  obtain ⟨rfl, rfl⟩ := h3
  rw [show pc + 1 - pc = 1 by omega] at h1
  intro H locs ls hA hF hl hS
  have k2 := kk H locs ls hA hF hl hS
  rw [List.map_cons] at k2
  by_cases h29 : 29 ≤ q
  · have hw := am_w_at (ad := ad) (aC := aC) (mem := mem) hq h29
    rw [show am_cell ad aC q (21, N, rs) (mem q) = .inl (aC q, N, .inl (mem q)) by simp [am_cell]] at hw
    have hT := hA.2.2.1 q _ h29 hq (Nat.le_of_ble_eq_true rfl)
    rw [List.map_cons, List.map_cons, am_re_ref (by omega)]
    exact va_zald hm.1 hm.2.1 (am_K1ty hm.2.2.2.2.2.1 hT) hA.1 (q - 29) 0 hw rfl hin h1 k2
  · have hr := hA.2.2.2.1
    rcases am_ro_kind (n := n) (by omega) ((hr.2.1 q (by omega)).symm.trans hq) with ⟨e1, e2⟩ | ⟨e1, e2⟩ | ⟨i1, -, -, e2⟩ | ⟨i1, -, -, e2⟩ | ⟨-, e2⟩ <;> cases e2
theorem am_x_cald {i : Int32} {q N : Nat} {rs : List (Option Nat)} (hm : am_Me p s m args meth c D fm A cc own init nL) (hrow : am_rowok own init ret cc (pc, .caload, nx) (raw, pl) = true) (hq : sk[q]? = some (22, N, rs)) (hin : vp_in i N) (kk : am_K1 p l e R s m args below meth c Qf D fm n xs A nx L (.int (mem q i.toNatClampNeg) :: st) sk mem ad aC cells slots) : am_K1 p l e R s m args below meth c Qf D fm n xs A pc L (.int i :: .ref q :: st) sk mem ad aC cells slots := by
  obtain ⟨h1, h2, h3⟩ := am_row_dec hrow
  simp only [am_lk, decide_eq_true_eq] at h3
  obtain ⟨rfl, rfl⟩ := h3
  rw [show pc + 1 - pc = 1 by omega] at h1
  intro H locs ls hA hF hl hS
  have k2 := kk H locs ls hA hF hl hS
  rw [List.map_cons] at k2
  by_cases h29 : 29 ≤ q
  · have hw := am_w_at (ad := ad) (aC := aC) (mem := mem) hq h29
    rw [show am_cell ad aC q (22, N, rs) (mem q) = .inl (aC q, N, .inl (mem q)) by simp [am_cell]] at hw
    have hT := hA.2.2.1 q _ h29 hq (Nat.le_of_ble_eq_true rfl)
    rw [List.map_cons, List.map_cons, am_re_ref (by omega)]
    exact va_cald hm.1 hm.2.1 (am_K1ty hm.2.2.2.2.2.1 hT) hA.1 (q - 29) 0 hw rfl hin h1 k2
  · have hr := hA.2.2.2.1
    rcases am_ro_kind (n := n) (by omega) ((hr.2.1 q (by omega)).symm.trans hq) with ⟨e1, e2⟩ | ⟨e1, e2⟩ | ⟨i1, -, -, e2⟩ | ⟨i1, -, -, e2⟩ | ⟨-, e2⟩ <;> cases e2
theorem am_x_bald {i : Int32} {q N : Nat} {rs : List (Option Nat)} (hm : am_Me p s m args meth c D fm A cc own init nL) (hrow : am_rowok own init ret cc (pc, .saload, nx) (raw, pl) = true) (hq : sk[q]? = some (23, N, rs)) (hin : vp_in i N) (kk : am_K1 p l e R s m args below meth c Qf D fm n xs A nx L (.int (mem q i.toNatClampNeg) :: st) sk mem ad aC cells slots) : am_K1 p l e R s m args below meth c Qf D fm n xs A pc L (.int i :: .ref q :: st) sk mem ad aC cells slots := by
  obtain ⟨h1, h2, h3⟩ := am_row_dec hrow
  simp only [am_lk, decide_eq_true_eq] at h3
  obtain ⟨rfl, rfl⟩ := h3
  rw [show pc + 1 - pc = 1 by omega] at h1
  intro H locs ls hA hF hl hS
  have k2 := kk H locs ls hA hF hl hS
  rw [List.map_cons] at k2
  by_cases h29 : 29 ≤ q
  · exact absurd rfl (hA.2.2.2.2.2 q _ h29 hq).2
  · have hr := hA.2.2.2.1
    rcases am_ro_kind (n := n) (by omega) ((hr.2.1 q (by omega)).symm.trans hq) with ⟨e1, e2⟩ | ⟨e1, e2⟩ | ⟨i1, -, -, e2⟩ | ⟨i1, hi1, e1, e2⟩ | ⟨-, e2⟩
    · cases e2
    · cases e2
    · cases e2
    · subst e1
      cases e2
      have hlt : i.toNatClampNeg < am_len.getD i1 0 := Nat.not_le.mp fun z => hin (Or.inr z)
      rw [List.map_cons, List.map_cons, am_re_ref (by omega)]
      exact va_tb hm.1 hm.2.1 (hF.2.2.1.1 i1 hi1).2.2.2 hS hin (by rw [hr.2.2.2.2.2 i1 hi1 _ hlt]; rfl) h1 k2
    · cases e2
theorem am_x_iast {x i : Int32} {q N : Nat} {rs : List (Option Nat)} (hm : am_Me p s m args meth c D fm A cc own init nL) (hrow : am_rowok own init ret cc (pc, .iastore, nx) (raw, pl) = true) (hq : sk[q]? = some (20, N, rs)) (h29 : 29 ≤ q) (hfit : am_fit 20 x = true) (hin : vp_in i N) (kk : am_K1 p l e R s m args below meth c Qf D fm n xs A nx L st sk (am_up mem q i.toNatClampNeg x) ad aC cells slots) : am_K1 p l e R s m args below meth c Qf D fm n xs A pc L (.int x :: .int i :: .ref q :: st) sk mem ad aC cells slots := by
  obtain ⟨h1, h2, h3⟩ := am_row_dec hrow
  simp only [am_lk, decide_eq_true_eq] at h3
  obtain ⟨rfl, rfl⟩ := h3
  rw [show pc + 1 - pc = 1 by omega] at h1
  intro H locs ls hA hF hl hS
  have hlt := (List.getElem?_eq_some_iff.mp hq).1
  have hg : sk.getD q (0, 0, []) = (20, N, rs) := by simp [List.getD_eq_getElem?_getD, hq]
  have hw := am_w_at (ad := ad) (aC := aC) (mem := mem) hq h29
  rw [show am_cell ad aC q (20, N, rs) (mem q) = .inl (aC q, N, .inl (mem q)) by simp [am_cell]] at hw
  have hT := hA.2.2.1 q _ h29 hq (Nat.le_of_ble_eq_true rfl)
  rw [List.map_cons, List.map_cons, List.map_cons, am_re_ref (by omega)]
  refine va_iast hm.1 hm.2.1 (am_K1ty hm.2.2.2.2.2.1 hT) hA.1 hA.2.1 hS (q - 29) 0 hw rfl hin h1 (fun H1 locs1 hP hD hS1 => ?_)
  have hA1 : am_At D fm n xs A s ad aC sk (am_up mem q i.toNatClampNeg x) H1 := by
    exact am_At.set hA h29 hlt rfl (by rw [hg]; simp [am_cell, am_up]) (fun a ha => ⟨rfl, by simp [am_up, ha]⟩) rfl hA.2.2.2.2 hP hD
  exact kk H1 locs1 ls hA1 hF hl hS1
theorem am_x_zast {x i : Int32} {q N : Nat} {rs : List (Option Nat)} (hm : am_Me p s m args meth c D fm A cc own init nL) (hrow : am_rowok own init ret cc (pc, .bastore, nx) (raw, pl) = true) (hq : sk[q]? = some (21, N, rs)) (h29 : 29 ≤ q) (hfit : am_fit 21 x = true) (hin : vp_in i N) (kk : am_K1 p l e R s m args below meth c Qf D fm n xs A nx L st sk (am_up mem q i.toNatClampNeg x) ad aC cells slots) : am_K1 p l e R s m args below meth c Qf D fm n xs A pc L (.int x :: .int i :: .ref q :: st) sk mem ad aC cells slots := by
  obtain ⟨h1, h2, h3⟩ := am_row_dec hrow
  simp only [am_lk, decide_eq_true_eq] at h3
  obtain ⟨rfl, rfl⟩ := h3
  rw [show pc + 1 - pc = 1 by omega] at h1
  intro H locs ls hA hF hl hS
  have hlt := (List.getElem?_eq_some_iff.mp hq).1
  have hg : sk.getD q (0, 0, []) = (21, N, rs) := by simp [List.getD_eq_getElem?_getD, hq]
  have hw := am_w_at (ad := ad) (aC := aC) (mem := mem) hq h29
  rw [show am_cell ad aC q (21, N, rs) (mem q) = .inl (aC q, N, .inl (mem q)) by simp [am_cell]] at hw
  have hT := hA.2.2.1 q _ h29 hq (Nat.le_of_ble_eq_true rfl)
  rw [List.map_cons, List.map_cons, List.map_cons, am_re_ref (by omega)]
  refine va_zast hm.1 hm.2.1 (am_K1ty hm.2.2.2.2.2.1 hT) hA.1 hA.2.1 hS (q - 29) 0 hw rfl hin h1 (fun H1 locs1 hP hD hS1 => ?_)
  have hA1 : am_At D fm n xs A s ad aC sk (am_up mem q i.toNatClampNeg x) H1 := by
    have hx : vp_nar .boolean x = x := by
      simp only [am_fit, if_pos, decide_eq_true_eq] at hfit
      rcases hfit with rfl | rfl <;> rfl
    rw [hx] at hP hD
    exact am_At.set hA h29 hlt rfl (by rw [hg]; simp [am_cell, am_up]) (fun a ha => ⟨rfl, by simp [am_up, ha]⟩) rfl hA.2.2.2.2 hP hD
  exact kk H1 locs1 ls hA1 hF hl hS1
theorem am_x_cast {x i : Int32} {q N : Nat} {rs : List (Option Nat)} (hm : am_Me p s m args meth c D fm A cc own init nL) (hrow : am_rowok own init ret cc (pc, .castore, nx) (raw, pl) = true) (hq : sk[q]? = some (22, N, rs)) (h29 : 29 ≤ q) (hfit : am_fit 22 x = true) (hin : vp_in i N) (kk : am_K1 p l e R s m args below meth c Qf D fm n xs A nx L st sk (am_up mem q i.toNatClampNeg x) ad aC cells slots) : am_K1 p l e R s m args below meth c Qf D fm n xs A pc L (.int x :: .int i :: .ref q :: st) sk mem ad aC cells slots := by
  obtain ⟨h1, h2, h3⟩ := am_row_dec hrow
  simp only [am_lk, decide_eq_true_eq] at h3
  obtain ⟨rfl, rfl⟩ := h3
  rw [show pc + 1 - pc = 1 by omega] at h1
  intro H locs ls hA hF hl hS
  have hlt := (List.getElem?_eq_some_iff.mp hq).1
  have hg : sk.getD q (0, 0, []) = (22, N, rs) := by simp [List.getD_eq_getElem?_getD, hq]
  have hw := am_w_at (ad := ad) (aC := aC) (mem := mem) hq h29
  rw [show am_cell ad aC q (22, N, rs) (mem q) = .inl (aC q, N, .inl (mem q)) by simp [am_cell]] at hw
  have hT := hA.2.2.1 q _ h29 hq (Nat.le_of_ble_eq_true rfl)
  rw [List.map_cons, List.map_cons, List.map_cons, am_re_ref (by omega)]
  refine va_cast hm.1 hm.2.1 (am_K1ty hm.2.2.2.2.2.1 hT) hA.1 hA.2.1 hS (q - 29) 0 hw rfl hin h1 (fun H1 locs1 hP hD hS1 => ?_)
  have hA1 : am_At D fm n xs A s ad aC sk (am_up mem q i.toNatClampNeg x) H1 := by
    have hx : vp_nar .char x = x := by simpa [am_fit] using hfit
    rw [hx] at hP hD
    exact am_At.set hA h29 hlt rfl (by rw [hg]; simp [am_cell, am_up]) (fun a ha => ⟨rfl, by simp [am_up, ha]⟩) rfl hA.2.2.2.2 hP hD
  exact kk H1 locs1 ls hA1 hF hl hS1
theorem am_x_ald {i : Int32} {q k N y : Nat} {rs : List (Option Nat)} (hm : am_Me p s m args meth c D fm A cc own init nL) (hrow : am_rowok own init ret cc (pc, .aaload, nx) (raw, pl) = true) (hq : sk[q]? = some (k, N, rs)) (hk : 30 ≤ k) (h29 : 29 ≤ q) (hin : vp_in i N) (hy : rs[i.toNatClampNeg]? = some (some y)) (kk : am_K1 p l e R s m args below meth c Qf D fm n xs A nx L (.ref y :: st) sk mem ad aC cells slots) : am_K1 p l e R s m args below meth c Qf D fm n xs A pc L (.int i :: .ref q :: st) sk mem ad aC cells slots := by
  obtain ⟨h1, h2, h3⟩ := am_row_dec hrow
  simp only [am_lk, decide_eq_true_eq] at h3
  obtain ⟨rfl, rfl⟩ := h3
  rw [show pc + 1 - pc = 1 by omega] at h1
  intro H locs ls hA hF hl hS
  have hy28 : y ≠ 28 := (hA.2.2.2.2.1 q _ hq y (List.mem_of_getElem? hy)).2
  have k2 := kk H locs ls hA hF hl hS
  rw [List.map_cons, am_re_ref hy28] at k2
  have hw := am_w_at (ad := ad) (aC := aC) (mem := mem) hq h29
  simp only [am_cell, if_neg (show ¬ k < 13 by omega), if_neg (show ¬ k < 30 by omega)] at hw
  have hT := hA.2.2.1 q _ h29 hq (by show 13 ≤ k; omega)
  have ht : am_ty k = .object (vwCl.getD (k - 30) ("", fun _ => ("", "", "", false), 0)).1 := by simp only [am_ty, if_neg (show ¬ k = 20 by omega), if_neg (show ¬ k = 21 by omega), if_neg (show ¬ k = 22 by omega), if_neg (show ¬ k = 23 by omega)]
  simp only [ht] at hT
  rw [List.map_cons, List.map_cons, am_re_ref (by omega)]
  refine va_aldq hm.1 hm.2.1 (am_K1ty hm.2.2.2.2.2.1 hT) hA.1 (q - 29) 0 hw rfl hin h1 ?_
  simp only [hy]
  exact k2
theorem am_x_ast {i : Int32} {q k N y a : Nat} {b rs : List (Option Nat)} (hm : am_Me p s m args meth c D fm A cc own init nL) (hrow : am_rowok own init ret cc (pc, .aastore, nx) (raw, pl) = true) (hq : sk[q]? = some (k + 30, N, rs)) (hyk : sk[y]? = some (k, a, b)) (h29 : 29 ≤ q) (hy29 : 29 ≤ y) (hrs : rs.length = N) (hk : k < 13) (hin : vp_in i N) (kk : am_K1 p l e R s m args below meth c Qf D fm n xs A nx L st (sk.set q (k + 30, N, rs.set i.toNatClampNeg (some y))) mem ad aC cells slots) : am_K1 p l e R s m args below meth c Qf D fm n xs A pc L (.ref y :: .int i :: .ref q :: st) sk mem ad aC cells slots := by
  obtain ⟨h1, h2, h3⟩ := am_row_dec hrow
  simp only [am_lk, decide_eq_true_eq] at h3
  obtain ⟨rfl, rfl⟩ := h3
  rw [show pc + 1 - pc = 1 by omega] at h1
  intro H locs ls hA hF hl hS
  have hlt := (List.getElem?_eq_some_iff.mp hq).1
  have hlty := (List.getElem?_eq_some_iff.mp hyk).1
  have hw := am_w_at (ad := ad) (aC := aC) (mem := mem) hq h29
  simp only [am_cell, if_neg (show ¬ k + 30 < 13 by omega), if_neg (show ¬ k + 30 < 30 by omega)] at hw
  have hwy := am_w_at (ad := ad) (aC := aC) (mem := mem) hyk hy29
  simp only [am_cell, if_pos hk] at hwy
  have hT := hA.2.2.1 q _ h29 hq (by show 13 ≤ k + 30; omega)
  have ht : am_ty (k + 30) = .object (vwCl.getD k ("", fun _ => ("", "", "", false), 0)).1 := by simp only [am_ty, if_neg (show ¬ k + 30 = 20 by omega), if_neg (show ¬ k + 30 = 21 by omega), if_neg (show ¬ k + 30 = 22 by omega), if_neg (show ¬ k + 30 = 23 by omega), Nat.add_sub_cancel]
  simp only [ht] at hT
  have hc : vwCl[k]? = some (vwCl.getD k ("", fun _ => ("", "", "", false), 0)) := by
    have : k < vwCl.length := hk
    simp [List.getD_eq_getElem?_getD, List.getElem?_eq_getElem this]
  rw [List.map_cons, List.map_cons, List.map_cons, am_re_ref (k := y) (by omega), am_re_ref (k := q) (by omega)]
  refine va_astq hm.1 hm.2.1 (am_K1ty hm.2.2.2.2.2.1 hT) hA.1 hA.2.1 hS (q - 29) 0 (y - 29) k hw rfl hwy hc hin h1 (fun H1 locs1 hP hD hS1 => ?_)
  have hilt : i.toNatClampNeg < N := Nat.not_le.mp fun z => hin (Or.inr z)
  have hg : (sk.set q (k + 30, N, rs.set i.toNatClampNeg (some y))).getD q (0, 0, []) = (k + 30, N, rs.set i.toNatClampNeg (some y)) := by simp [List.getD_eq_getElem?_getD, List.getElem?_set_self hlt]
  have hA1 : am_At D fm n xs A s ad aC (sk.set q (k + 30, N, rs.set i.toNatClampNeg (some y))) mem H1 := by
    refine am_At.set hA h29 hlt (List.length_set) ?_ (fun a ha => ⟨by simp [List.getD_eq_getElem?_getD, List.getElem?_set_ne (Ne.symm ha)], rfl⟩) (by rw [hg]; simp [List.getD_eq_getElem?_getD, hq]) ?_ hP hD
    · rw [hg]
      simp only [am_cell, if_neg (show ¬ k + 30 < 13 by omega), if_neg (show ¬ k + 30 < 30 by omega)]
      congr 6
      refine congrArg Sum.inr (funext fun j => ?_)
      by_cases hj : j = i.toNatClampNeg
      · subst hj
        simp [va_up, List.getElem?_set_self (show i.toNatClampNeg < rs.length by omega)]
      · simp [va_up, hj, List.getElem?_set_ne (Ne.symm hj)]
    · exact am_wf.set hA.2.2.2.2 hq rfl (fun z hz => by
        rcases List.mem_or_eq_of_mem_set hz with h | h
        · exact Or.inl h
        · cases h; exact Or.inr ⟨hlty, by omega⟩)
  exact kk H1 locs1 ls hA1 hF hl hS1
theorem am_x_get {f q N : Nat} {v : Value} {rs : List (Option Nat)} (hm : am_Me p s m args meth c D fm A cc own init nL) (hrow : am_rowok own init ret cc (pc, .getfield f, nx) (raw, pl) = true) (hq : sk[q]? = some (f / 64, N, rs)) (hk : f % 64 < N) (hv : (am_ft (f / 64) (f % 64) = 2 ∧ ∃ y, rs[f % 64]? = some (some y) ∧ v = .ref y) ∨ (¬ am_ft (f / 64) (f % 64) = 2 ∧ v = .int (mem q (f % 64)))) (kk : am_K1 p l e R s m args below meth c Qf D fm n xs A nx L (v :: st) sk mem ad aC cells slots) : am_K1 p l e R s m args below meth c Qf D fm n xs A pc L (.ref q :: st) sk mem ad aC cells slots := by
  obtain ⟨h1, h2, h3⟩ := am_row_dec hrow
  simp only [am_lk] at h3
  split at h3
  · simp only [Bool.and_eq_true, decide_eq_true_eq] at h3
    obtain ⟨rfl, h4⟩ := h3
    rw [show pc + 3 - pc = 3 by omega] at h1
    intro H locs ls hA hF hl hS
    have k2 := kk H locs ls hA hF hl hS
    split at h4
    · rename_i h13
      simp only [Bool.and_eq_true, decide_eq_true_eq] at h4
      obtain ⟨h4, h5⟩ := h4
      have hlt29 : q < 29 := by
        rcases Nat.lt_or_ge q 29 with z | z
        · exact z
        · exact absurd h13 (hA.2.2.2.2.2 q _ z hq).1
      have hr := hA.2.2.2.1
      rcases am_ro_kind (n := n) hlt29 ((hr.2.1 q hlt29).symm.trans hq) with ⟨e1, e2⟩ | ⟨e1, e2⟩ | ⟨i1, hi1, e1, e2⟩ | ⟨i1, hi1, e1, e2⟩ | ⟨-, e2⟩
      · simp [h13] at e2
      · simp [h13] at e2
      · subst e1
        simp only [Prod.mk.injEq] at e2
        obtain ⟨-, -, rfl⟩ := e2
        rw [List.map_cons, am_re_ref (by omega)]
        rcases (show f % 64 = 0 ∨ f % 64 = 1 by omega) with h0 | h0
        · rw [h0] at hv h4
          rw [h13] at hv
          rcases hv with ⟨-, y, hy, rfl⟩ | ⟨h2, -⟩
          · simp only [List.getElem?_cons_zero, Option.some.injEq] at hy
            subst hy
            rw [List.map_cons, am_re_ref (by omega)] at k2
            exact vk_getf hm.1 hm.2.1 (hF.2.2.1.1 i1 hi1).2.2.1 hS hm.2.2.1 (am_hts hm h4 rfl) (fun _ z => z) h1 k2
          · exact absurd rfl h2
        · rw [h0] at hv h4
          rw [h13] at hv
          rcases hv with ⟨h2, -⟩ | ⟨-, rfl⟩
          · cases h2
          · rw [hr.2.2.2.2.1 i1 hi1] at k2
            exact vk_getf hm.1 hm.2.1 (hF.2.2.1.1 i1 hi1).2.1 hS hm.2.2.1 (am_hts hm h4 rfl) (fun _ z => z) h1 k2
      · simp [h13] at e2
      · simp [h13] at e2
    · split at h4
      · rename_i w hw0
        simp only [Bool.and_eq_true, decide_eq_true_eq] at h4
        obtain ⟨h4, h5⟩ := h4
        obtain ⟨c13, -, cin, -, -, cf⟩ := am_cls hw0
        have h29 : 29 ≤ q := by
          rcases Nat.lt_or_ge q 29 with z | z
          · have hr := hA.2.2.2.1
            rcases am_ro_kind (n := n) z ((hr.2.1 q z).symm.trans hq) with ⟨e1, e2⟩ | ⟨e1, e2⟩ | ⟨i1, hi1, e1, e2⟩ | ⟨i1, hi1, e1, e2⟩ | ⟨-, e2⟩ <;> (have e3 := congrArg Prod.fst e2; simp only at e3; omega)
          · exact z
        have hw := am_w_at (ad := ad) (aC := aC) (mem := mem) hq h29
        simp only [am_cell, if_pos c13] at hw
        rw [List.map_cons, am_re_ref (by omega)]
        have hfv : am_fv ad (f / 64) rs (mem q) (f % 64) = am_re ad fm v := by
          rcases hv with ⟨h2, y, hy, rfl⟩ | ⟨h2, rfl⟩
          · rw [am_re_ref (hA.2.2.2.2.1 q _ hq y (List.mem_of_getElem? hy)).2]
            simp [am_fv, h2, hy]
          · simp [am_fv, h2, am_re]
        refine va_get (D := D) (ci := f / 64) (v := am_re ad fm v) (C := w.1) (T := w.2.1) (N := w.2.2) hm.1 hm.2.1 hm.2.2.2.1 cin hm.2.2.1 hm.2.2.2.2.2.1 hA.1 (q - 29) hw hw0 (f % 64) h5 (am_hts hm h4 rfl) (fun x hx => by rw [(cf _ h5).2.2.2.1] at hx; exact hx) ?_ h1 k2
        rw [List.getElem?_map, List.getElem?_range hk]
        simp [hfv]
      · cases h4
  · cases h3
theorem am_x_put {f q N : Nat} {x : Int32} {rs : List (Option Nat)} (hm : am_Me p s m args meth c D fm A cc own init nL) (hrow : am_rowok own init ret cc (pc, .putfield f, nx) (raw, pl) = true) (hq : sk[q]? = some (f / 64, N, rs)) (hk : f % 64 < N) (h29 : 29 ≤ q) (hv : am_ft (f / 64) (f % 64) = 0 ∨ am_ft (f / 64) (f % 64) = 1 ∧ (x = 0 ∨ x = 1)) (kk : am_K1 p l e R s m args below meth c Qf D fm n xs A nx L st sk (am_up mem q (f % 64) x) ad aC cells slots) : am_K1 p l e R s m args below meth c Qf D fm n xs A pc L (.int x :: .ref q :: st) sk mem ad aC cells slots := by
  obtain ⟨h1, h2, h3⟩ := am_row_dec hrow
  simp only [am_lk] at h3
  split at h3
  · simp only [Bool.and_eq_true, decide_eq_true_eq] at h3
    obtain ⟨rfl, h4⟩ := h3
    rw [show pc + 3 - pc = 3 by omega] at h1
    intro H locs ls hA hF hl hS
    split at h4
    · rename_i w hw0
      simp only [Bool.and_eq_true, decide_eq_true_eq] at h4
      obtain ⟨h4, h5, h6⟩ := h4
      obtain ⟨c13, -, cin, cnm, cty, cf⟩ := am_cls hw0
      have hlt := (List.getElem?_eq_some_iff.mp hq).1
      have hg : sk.getD q (0, 0, []) = (f / 64, N, rs) := by simp [List.getD_eq_getElem?_getD, hq]
      have hw := am_w_at (ad := ad) (aC := aC) (mem := mem) hq h29
      simp only [am_cell, if_pos c13] at hw
      have hnf : narrow (am_tyf (f / 64) (f % 64)) (.int x) = .int x ∧ fits (am_tyf (f / 64) (f % 64)) (.int x) = true := by
        rcases hv with h0 | ⟨h0, rfl | rfl⟩
        · rw [(cf _ h5).1 h0]; exact ⟨rfl, rfl⟩
        · rw [(cf _ h5).2.1 h0]; exact ⟨rfl, rfl⟩
        · rw [(cf _ h5).2.1 h0]; exact ⟨rfl, rfl⟩
      have hn2 : ¬ am_ft (f / 64) (f % 64) = 2 := by
        rcases hv with h0 | ⟨h0, -⟩ <;> omega
      rw [List.map_cons, List.map_cons, am_re_ref (by omega)]
      refine va_put (D := D) (ci := f / 64) (v := .int x) (ty := am_tyf (f / 64) (f % 64)) (C := w.1) (T := w.2.1) (N := w.2.2) hm.1 hm.2.1 hm.2.2.2.1 cin (am_tyf (f / 64)) cty cnm hm.2.2.1 hm.2.2.2.2.2.1 hA.1 hA.2.1 hS (q - 29) hw hw0 (f % 64) h5 (am_hts hm h4 rfl) (fun y hy => by rw [(cf _ h5).2.2.2.1] at hy; exact hy) h6 (cty _ h5) hnf.1 hnf.2 (by simpa using hk) h1 (fun H1 locs1 hP hD hS1 => ?_)
      rw [am_fv_int hk hn2] at hP hD
      exact kk H1 locs1 ls (am_At.set hA h29 hlt rfl (by rw [hg]; simp [am_cell, am_up, c13]) (fun a ha => ⟨rfl, by simp [am_up, ha]⟩) rfl hA.2.2.2.2 hP hD) hF hl hS1
    · cases h4
  · cases h3
theorem am_x_putR {f q N y : Nat} {rs : List (Option Nat)} (hm : am_Me p s m args meth c D fm A cc own init nL) (hrow : am_rowok own init ret cc (pc, .putstatic f, nx) (raw, pl) = true) (hq : sk[q]? = some (f / 64, N, rs)) (hk : f % 64 < N) (h29 : 29 ≤ q) (hy29 : 29 ≤ y) (hyl : y < sk.length) (hv : am_ft (f / 64) (f % 64) = 2) (hrs : rs.length = N) (kk : am_K1 p l e R s m args below meth c Qf D fm n xs A nx L st (sk.set q (f / 64, N, rs.set (f % 64) (some y))) mem ad aC cells slots) : am_K1 p l e R s m args below meth c Qf D fm n xs A pc L (.ref y :: .ref q :: st) sk mem ad aC cells slots := by
  obtain ⟨h1, h2, h3⟩ := am_row_dec hrow
  simp only [am_lk] at h3
  split at h3
  · simp only [Bool.and_eq_true, decide_eq_true_eq] at h3
    obtain ⟨⟨rfl, hini⟩, h4⟩ := h3
    rw [show pc + 3 - pc = 3 by omega] at h1
    intro H locs ls hA hF hl hS
    split at h4
    · rename_i w hw0
      simp only [Bool.and_eq_true, decide_eq_true_eq] at h4
      obtain ⟨h4, h5, h6, h7⟩ := h4
      obtain ⟨c13, -, cin, cnm, cty, cf⟩ := am_cls hw0
      have hlt := (List.getElem?_eq_some_iff.mp hq).1
      have hg : (sk.set q (f / 64, N, rs.set (f % 64) (some y))).getD q (0, 0, []) = (f / 64, N, rs.set (f % 64) (some y)) := by simp [List.getD_eq_getElem?_getD, List.getElem?_set_self hlt]
      have hw := am_w_at (ad := ad) (aC := aC) (mem := mem) hq h29
      simp only [am_cell, if_pos c13] at hw
      have hnf := ((cf _ h5).2.2.1 hv).2 (ad y)
      rw [List.map_cons, List.map_cons, am_re_ref (k := y) (by omega), am_re_ref (k := q) (by omega)]
      refine va_putF (D := D) (ci := f / 64) (v := .ref (ad y)) (ty := am_tyf (f / 64) (f % 64)) (C := w.1) (T := w.2.1) (N := w.2.2) hm.1 hm.2.1 hm.2.2.2.1 cin (am_tyf (f / 64)) cty cnm hm.2.2.1 hm.2.2.2.2.2.1 hA.1 hA.2.1 hS (q - 29) hw hw0 (f % 64) h5 (am_hts hm h4 rfl) (fun z hz => by rw [(cf _ h5).2.2.2.1] at hz; exact hz) h6 (hm.2.2.2.2.1 hini) ((cf _ h5).2.2.2.1.trans h7) (cty _ h5) hnf.1 hnf.2 (by simpa using hk) h1 (fun H1 locs1 hP hD hS1 => ?_)
      rw [am_fv_ref hk hrs hv] at hP hD
      refine kk H1 locs1 ls (am_At.set hA h29 hlt (List.length_set) (by rw [hg]; simp [am_cell, c13]) (fun a ha => ⟨by simp [List.getD_eq_getElem?_getD, List.getElem?_set_ne (Ne.symm ha)], rfl⟩) (by rw [hg]; simp [List.getD_eq_getElem?_getD, hq]) ?_ hP hD) hF hl hS1
      exact am_wf.set hA.2.2.2.2 hq rfl (fun z hz => by
        rcases List.mem_or_eq_of_mem_set hz with h | h
        · exact Or.inl h
        · cases h; exact Or.inr ⟨hyl, by omega⟩)
    · cases h4
  · cases h3
theorem am_x_alen {q k N : Nat} {rs : List (Option Nat)} (hm : am_Me p s m args meth c D fm A cc own init nL) (hrow : am_rowok own init ret cc (pc, .arraylength, nx) (raw, pl) = true) (hq : sk[q]? = some (k, N, rs)) (hk : 20 ≤ k) (hk9 : k < 90) (kk : am_K1 p l e R s m args below meth c Qf D fm n xs A nx L (.int (Int32.ofNat N) :: st) sk mem ad aC cells slots) : am_K1 p l e R s m args below meth c Qf D fm n xs A pc L (.ref q :: st) sk mem ad aC cells slots := by
  obtain ⟨h1, h2, h3⟩ := am_row_dec hrow
  simp only [am_lk, decide_eq_true_eq] at h3
  obtain ⟨rfl, rfl⟩ := h3
  rw [show pc + 1 - pc = 1 by omega] at h1
  intro H locs ls hA hF hl hS
  have k2 := kk H locs ls hA hF hl hS
  by_cases h29 : 29 ≤ q
  · have hw := am_w_at (ad := ad) (aC := aC) (mem := mem) hq h29
    have hT := hA.2.2.1 q _ h29 hq (by show 13 ≤ k; omega)
    rw [List.map_cons, am_re_ref (by omega)]
    by_cases h30 : k < 30
    · simp only [am_cell, if_neg (show ¬ k < 13 by omega), if_pos h30] at hw
      exact va_alen hm.1 hm.2.1 (am_K1ty hm.2.2.2.2.2.1 hT) hA.1 (q - 29) 0 hw rfl rfl h1 k2
    · simp only [am_cell, if_neg (show ¬ k < 13 by omega), if_neg h30] at hw
      exact va_alen hm.1 hm.2.1 (am_K1ty hm.2.2.2.2.2.1 hT) hA.1 (q - 29) 0 hw rfl rfl h1 k2
  · have hr := hA.2.2.2.1
    rcases am_ro_kind (n := n) (by omega) ((hr.2.1 q (by omega)).symm.trans hq) with ⟨e1, e2⟩ | ⟨e1, e2⟩ | ⟨i1, hi1, e1, e2⟩ | ⟨i1, hi1, e1, e2⟩ | ⟨-, e2⟩
    · subst e1
      cases e2
      exact va_tlen hm.1 hm.2.1 hF.1.2 hS rfl h1 k2
    · subst e1
      cases e2
      obtain ⟨scr, e3, -⟩ := id hF.2.1.1
      exact va_slen hm.1 hm.2.1 hF.2.1.1 (Array.getElem?_eq_some_iff.mp e3).1 hF.2.1.2 hS h1 k2
    · cases e2
      omega
    · subst e1
      cases e2
      rw [List.map_cons, am_re_ref (by omega)]
      exact va_tlen hm.1 hm.2.1 (hF.2.2.1.1 i1 hi1).2.2.2 hS rfl h1 k2
    · cases e2
      omega
theorem am_x_pop2 {q N : Nat} (hm : am_Me p s m args meth c D fm A cc own init nL) (hrow : am_rowok own init ret cc (pc, .pop2, nx) (raw, pl) = true) (hq : q ≠ 28) (hst : am_okS N st) (hr8 : st.length ≤ 8) (hLn : L.length = nL) (hRf : 1 ≤ R.frames) (hRl : 64 ≤ R.locals) (kk : am_K1 p l e R s m args below meth c Qf D fm n xs A nx L st sk mem ad aC cells slots) : am_K1 p l e R s m args below meth c Qf D fm n xs A pc L (.ref q :: st) sk mem ad aC cells slots := by
  obtain ⟨h1, h2, h3⟩ := am_row_dec hrow
  simp only [am_lk] at h3
  split at h3
  · simp only [Bool.and_eq_true, decide_eq_true_eq] at h3
    obtain ⟨rfl, h4⟩ := h3
    rw [show pc + 3 - pc = 3 by omega] at h1
    intro H locs ls hA hF hl hS
    have k2 := kk H locs ls hA hF hl hS
    have hsum := am_sum (ad := ad) (fm := fm) hm.2.2.2.2.2.2.2.1 hst
    have hroom := lv_room (m := m) (pc := pc) (ls := ls) (rest := (.ref (ad q) : Value) :: st.map (am_re ad fm)) (st := st.map (am_re ad fm)) (by rw [hsum]; exact hr8)
    rw [List.map_cons, am_re_ref hq]
    refine W.objInit hm.1 hm.2.1 hm.2.2.1 (am_hts hm h4 rfl) (hm.2.2.2.1 _ (am_tb_at 89 (w := .instanceMethod objectInit) (by decide +kernel) rfl)) (hm.2.2.2.1 _ (am_tb_at 90 (w := .code objectInit ⟨#[0xb1]⟩ 1 none) (by decide +kernel) rfl)) rfl (by show ls.size = c.maxLocals; rw [hl.1, hLn]; exact hm.2.2.2.2.2.2.2.2.symm) rfl h1 hRf ?_ k2
    exact Nat.le_trans (Nat.add_le_add_right hroom 12) (by omega)
  · cases h3
theorem am_x_copy {j : Nat} {i dp sp : Int32} {a b na nb N : Nat} {ra rb : List (Option Nat)} (hm : am_Me p s m args meth c D fm A cc own init nL) (hrow : am_rowok own init ret cc (pc, .invokedynamic j, nx) (raw, pl) = true) (hqa : sk[a]? = some (20, na, ra)) (hqb : sk[b]? = some (20, nb, rb)) (ha29 : 29 ≤ a) (hb29 : 29 ≤ b) (g1 : ¬ sp < 0) (g2 : ¬ dp < 0) (g3 : ¬ i < 0) (g4 : sp.toNatClampNeg + i.toNatClampNeg ≤ na) (g5 : dp.toNatClampNeg + i.toNatClampNeg ≤ nb) (hst : am_okS N st) (hr8 : st.length ≤ 8) (hLn : L.length = nL) (hRf : 1 ≤ R.frames) (hRl : 64 ≤ R.locals) (kk : am_K1 p l e R s m args below meth c Qf D fm n xs A nx L st sk (am_cp mem a b sp.toNatClampNeg dp.toNatClampNeg i.toNatClampNeg) ad aC cells slots) : am_K1 p l e R s m args below meth c Qf D fm n xs A pc L (.int i :: .int dp :: .ref b :: .int sp :: .ref a :: st) sk mem ad aC cells slots := by
  obtain ⟨h1, h2, h3⟩ := am_row_dec hrow
  simp only [am_lk] at h3
  split at h3
  · simp only [Bool.and_eq_true, decide_eq_true_eq] at h3
    obtain ⟨rfl, h4⟩ := h3
    rw [show pc + 3 - pc = 3 by omega] at h1
    intro H locs ls hA hF hl hS
    have hltb := (List.getElem?_eq_some_iff.mp hqb).1
    have hg : sk.getD b (0, 0, []) = (20, nb, rb) := by simp [List.getD_eq_getElem?_getD, hqb]
    have hwa := am_w_at (ad := ad) (aC := aC) (mem := mem) hqa ha29
    rw [show am_cell ad aC a (20, na, ra) (mem a) = .inl (aC a, na, .inl (mem a)) by simp [am_cell]] at hwa
    have hwb := am_w_at (ad := ad) (aC := aC) (mem := mem) hqb hb29
    rw [show am_cell ad aC b (20, nb, rb) (mem b) = .inl (aC b, nb, .inl (mem b)) by simp [am_cell]] at hwb
    have hTa := hA.2.2.1 a _ ha29 hqa (Nat.le_of_ble_eq_true rfl)
    have hTb := hA.2.2.1 b _ hb29 hqb (Nat.le_of_ble_eq_true rfl)
    have hsum := am_sum (ad := ad) (fm := fm) hm.2.2.2.2.2.2.2.1 hst
    have hnf : nativeFrameWords "java/lang/System" "arraycopy" 5 = 7 := by decide +kernel
    rw [List.map_cons, List.map_cons, List.map_cons, List.map_cons, List.map_cons, am_re_ref (k := a) (by omega), am_re_ref (k := b) (by omega)]
    refine va_copyi (ty := .int) hm.1 hm.2.1 (by rw [hl.1, hLn]; exact hm.2.2.2.2.2.2.2.2) hm.2.2.1 (am_hts hm h4 rfl) (hm.2.2.2.1 _ (am_tb_at 929 (w := .native arraycopyName) (by decide +kernel) rfl)) (hm.2.2.2.1 _ (am_tb_at 928 (w := .static arraycopyName) (by decide +kernel) rfl)) (hm.2.2.2.1 _ (am_tb_at 81 (w := .initialized "java/lang/System") (by decide +kernel) rfl)) ((am_K1ty hm.2.2.2.2.2.1 hTa).app (am_K1ty hm.2.2.2.2.2.1 hTb)) hA.1 hA.2.1 hS (a - 29) (b - 29) 0 1 hwa hwb rfl rfl rfl g1 g2 g3 g4 g5 (fun _ _ => rfl) hRf (by rw [hsum, hnf]; omega) h1 (fun H1 locs1 hP hD hS1 => ?_)
    exact kk H1 locs1 ls (am_At.set hA hb29 hltb rfl (by rw [hg]; simp [am_cell, am_cp]) (fun z hz => ⟨rfl, by simp [am_cp, hz]⟩) rfl hA.2.2.2.2 hP hD) hF hl hS1
  · cases h3
theorem am_x_new {k N : Nat} (hm : am_Me p s m args meth c D fm A cc own init nL) (hrow : am_rowok own init ret cc (pc, .new k, nx) (raw, pl) = true) (hN : am_NS[k]? = some N) (hst : am_okS sk.length st) (hL : am_okL sk.length L) (hc : cells + 1 ≤ R.cells) (hs : slots + N ≤ R.slots) (kk : (∀ (ad2 : Nat → Nat) (aC2 : Nat → ClassId), (∀ o, o < sk.length → ad2 o = ad o ∧ aC2 o = aC o) → am_K1 p l e R s m args below meth c Qf D fm n xs A nx L (.ref sk.length :: st) (sk ++ [(k, N, List.replicate N (none : Option Nat))]) (am_z mem sk.length) ad2 aC2 (cells + ((sk ++ [(k, N, List.replicate N (none : Option Nat))]).length - sk.length)) (slots + (am_sz (sk ++ [(k, N, List.replicate N (none : Option Nat))]) - am_sz sk)))) : am_K1 p l e R s m args below meth c Qf D fm n xs A pc L st sk mem ad aC cells slots := by
  obtain ⟨h1, h2, h3⟩ := am_row_dec hrow
  simp only [am_lk] at h3
  split at h3
  · simp only [Bool.and_eq_true, decide_eq_true_eq] at h3
    obtain ⟨rfl, h4⟩ := h3
    rw [show pc + 3 - pc = 3 by omega] at h1
    intro H locs ls hA hF hl hS
    split at h4
    · rename_i w cw hw0 hcw
      simp only [Bool.and_eq_true] at h4
      obtain ⟨⟨h4, h5⟩, h6⟩ := h4
      obtain ⟨c13, cN, cin, cnm, cty, cf⟩ := am_cls hw0
      have hNN : N = w.2.2 := Option.some.inj (hN.symm.trans cN)
      subst hNN
      refine va_new (ci := k) (fs := (List.range w.2.2).map (am_fv ad k (List.replicate w.2.2 none) (fun _ => 0))) (C := w.1) (T := w.2.1) (N := w.2.2) hm.1 hm.2.1 hm.2.2.2.1 cin (am_tyf k) cty hm.2.2.1 (am_hts hm h4 rfl) (am_hts hm h5 rfl) (am_hts hm h6 rfl) hm.2.2.2.2.2.1 hA.1 hA.2.1 hS hm.2.2.2.2.2.2.1 hw0 (fun j hj => ?_) hc hs h1 (fun q H1 hP hD hS1 => ?_)
      · have g1 : vp_V ((List.range w.2.2).map (am_fv ad k (List.replicate w.2.2 none) (fun _ => 0))) j = am_fv ad k (List.replicate w.2.2 none) (fun _ => 0) j := by
          simp [vp_V, List.getD_eq_getElem?_getD, List.getElem?_map, List.getElem?_range hj]
        rw [g1]
        obtain ⟨t0, t1, t2, -, t3⟩ := cf j hj
        rcases (show am_ft k j = 0 ∨ am_ft k j = 1 ∨ am_ft k j = 2 by omega) with h0 | h0 | h0
        · rw [t0 h0]; simp [am_fv, h0, defaultValue]
        · rw [t1 h0]; simp [am_fv, h0, defaultValue]
        · rw [(t2 h0).1]; simp [am_fv, h0, List.getElem?_replicate, hj]
      · have cA : ClassId := 0
        have hcell : am_cell (am_ad ad sk.length q) (am_ad aC sk.length cA) sk.length (k, w.2.2, List.replicate w.2.2 none) (fun _ => 0) = .inr (k, (List.range w.2.2).map (am_fv ad k (List.replicate w.2.2 none) (fun _ => 0))) := by
          simp only [am_cell, if_pos c13]
          congr 2
          apply List.map_congr_left
          intro j _
          unfold am_fv
          split
          · split
            · rename_i z hz
              have := List.mem_of_getElem? hz
              simp at this
            · rfl
          · rfl
        have HAT := am_At.push (fm := fm) (n := n) (xs := xs) (cA := cA) hA (e := (k, w.2.2, List.replicate w.2.2 none)) (fun z hz => by simp at hz) ⟨by show k ≠ 13; omega, by show k ≠ 23; omega⟩ hcell (fun h => absurd (show 13 ≤ k from h) (by omega)) hP hD

        have hk2 := kk (am_ad ad sk.length q) (am_ad aC sk.length cA) (fun o ho => by simp only [am_ad, if_neg (show ¬ o = sk.length by omega)]; exact ⟨trivial, trivial⟩)
        rw [show List.length (sk ++ ([(k, w.2.2, List.replicate w.2.2 (none : Option Nat))] : am_K)) - List.length sk = 1 by simp, show am_sz (sk ++ ([(k, w.2.2, List.replicate w.2.2 (none : Option Nat))] : am_K)) - am_sz sk = w.2.2 by simp [am_sz_app, am_sz]] at hk2
        have hext : ∀ o, o < sk.length → am_ad ad sk.length q o = ad o := fun o ho => by simp only [am_ad, if_neg (show ¬ o = sk.length by omega)]
        have h29 := hA.2.2.2.1.1
        have k3 := hk2 H1 locs ls HAT (hF.congr (fun o ho => hext o (by omega))) (by show lv_has ls L.length (am_lv (am_ad ad sk.length q) fm L); rw [am_lv_ext hext hL]; exact hl) hS1
        rw [List.map_cons, am_re_ref (show sk.length ≠ 28 by omega), show am_ad ad sk.length q sk.length = q by simp [am_ad], am_st_ext hext hst] at k3
        exact k3
    · cases h4
  · cases h3
theorem am_x_newi {i : Int32} (hm : am_Me p s m args meth c D fm A cc own init nL) (hrow : am_rowok own init ret cc (pc, .newarray .int, nx) (raw, pl) = true) (hi : ¬ i < 0) (hi2 : i.toNatClampNeg ≤ 100000) (hst : am_okS sk.length st) (hL : am_okL sk.length L) (hc : cells + 1 ≤ R.cells) (hs : slots + i.toNatClampNeg ≤ R.slots) (kk : (∀ (ad2 : Nat → Nat) (aC2 : Nat → ClassId), (∀ o, o < sk.length → ad2 o = ad o ∧ aC2 o = aC o) → am_K1 p l e R s m args below meth c Qf D fm n xs A nx L (.ref sk.length :: st) (sk ++ [(20, i.toNatClampNeg, ([] : List (Option Nat)))]) (am_z mem sk.length) ad2 aC2 (cells + ((sk ++ [(20, i.toNatClampNeg, ([] : List (Option Nat)))]).length - sk.length)) (slots + (am_sz (sk ++ [(20, i.toNatClampNeg, ([] : List (Option Nat)))]) - am_sz sk)))) : am_K1 p l e R s m args below meth c Qf D fm n xs A pc L (.int i :: st) sk mem ad aC cells slots := by
  obtain ⟨h1, h2, h3⟩ := am_row_dec hrow
  simp only [am_lk, decide_eq_true_eq] at h3
  obtain ⟨rfl, rfl⟩ := h3
  rw [show pc + 2 - pc = 2 by omega] at h1
  intro H locs ls hA hF hl hS
  rw [List.map_cons]
  have hcb : componentBytes .int ≤ 8 := by decide
  refine va_newa (atype := .int) (ty := .int) (a0 := (i.toNatClampNeg, .inl (fun _ => 0))) hm.1 hm.2.1 (hm.2.2.2.1 _ (am_tb_at 122 (w := .arrayClass .int) (by decide +kernel) rfl)) rfl hm.2.2.2.2.2.1 hA.1 hA.2.1 hS hm.2.2.2.2.2.2.1 (fun cA => vp_cell_i cA _ _) hi rfl (Nat.le_trans (Nat.mul_le_mul hi2 hcb) (by decide)) hc hs h1 (fun q cA H1 hK1 hP hD hS1 => ?_)
  have HT : ArrOfT s cA (am_ty 20) ∧ va_RA s cA (am_ty 20) := hK1.2 0 _ rfl
  have HAT := am_At.push (fm := fm) (n := n) (xs := xs) (cA := cA) hA (e := (20, i.toNatClampNeg, ([] : List (Option Nat)))) (fun z hz => by simp at hz) ⟨Nat.ne_of_beq_eq_false rfl, Nat.ne_of_beq_eq_false rfl⟩ (by simp [am_cell, am_ad]) (fun _ => HT) hP hD
  have hk2 := kk (am_ad ad sk.length q) (am_ad aC sk.length cA) (fun o ho => by simp only [am_ad, if_neg (show ¬ o = sk.length by omega)]; exact ⟨trivial, trivial⟩)
  rw [show List.length (sk ++ ([(20, i.toNatClampNeg, ([] : List (Option Nat)))] : am_K)) - List.length sk = 1 by simp, show am_sz (sk ++ ([(20, i.toNatClampNeg, ([] : List (Option Nat)))] : am_K)) - am_sz sk = i.toNatClampNeg by simp [am_sz_app, am_sz]] at hk2
  have hext : ∀ o, o < sk.length → am_ad ad sk.length q o = ad o := fun o ho => by simp only [am_ad, if_neg (show ¬ o = sk.length by omega)]
  have h29 := hA.2.2.2.1.1
  have k3 := hk2 H1 locs ls HAT (hF.congr (fun o ho => hext o (by omega))) (by show lv_has ls L.length (am_lv (am_ad ad sk.length q) fm L); rw [am_lv_ext hext hL]; exact hl) hS1
  rw [List.map_cons, am_re_ref (show sk.length ≠ 28 by omega), show am_ad ad sk.length q sk.length = q by simp [am_ad], am_st_ext hext hst] at k3
  exact k3
theorem am_x_newz {i : Int32} (hm : am_Me p s m args meth c D fm A cc own init nL) (hrow : am_rowok own init ret cc (pc, .newarray .boolean, nx) (raw, pl) = true) (hi : ¬ i < 0) (hi2 : i.toNatClampNeg ≤ 100000) (hst : am_okS sk.length st) (hL : am_okL sk.length L) (hc : cells + 1 ≤ R.cells) (hs : slots + i.toNatClampNeg ≤ R.slots) (kk : (∀ (ad2 : Nat → Nat) (aC2 : Nat → ClassId), (∀ o, o < sk.length → ad2 o = ad o ∧ aC2 o = aC o) → am_K1 p l e R s m args below meth c Qf D fm n xs A nx L (.ref sk.length :: st) (sk ++ [(21, i.toNatClampNeg, ([] : List (Option Nat)))]) (am_z mem sk.length) ad2 aC2 (cells + ((sk ++ [(21, i.toNatClampNeg, ([] : List (Option Nat)))]).length - sk.length)) (slots + (am_sz (sk ++ [(21, i.toNatClampNeg, ([] : List (Option Nat)))]) - am_sz sk)))) : am_K1 p l e R s m args below meth c Qf D fm n xs A pc L (.int i :: st) sk mem ad aC cells slots := by
  obtain ⟨h1, h2, h3⟩ := am_row_dec hrow
  simp only [am_lk, decide_eq_true_eq] at h3
  obtain ⟨rfl, rfl⟩ := h3
  rw [show pc + 2 - pc = 2 by omega] at h1
  intro H locs ls hA hF hl hS
  rw [List.map_cons]
  have hcb : componentBytes .boolean ≤ 8 := by decide
  refine va_newa (atype := .boolean) (ty := .boolean) (a0 := (i.toNatClampNeg, .inl (fun _ => 0))) hm.1 hm.2.1 (hm.2.2.2.1 _ (am_tb_at 393 (w := .arrayClass .boolean) (by decide +kernel) rfl)) rfl hm.2.2.2.2.2.1 hA.1 hA.2.1 hS hm.2.2.2.2.2.2.1 (fun cA => vp_cell_i cA _ _) hi rfl (Nat.le_trans (Nat.mul_le_mul hi2 hcb) (by decide)) hc hs h1 (fun q cA H1 hK1 hP hD hS1 => ?_)
  have HT : ArrOfT s cA (am_ty 21) ∧ va_RA s cA (am_ty 21) := hK1.2 0 _ rfl
  have HAT := am_At.push (fm := fm) (n := n) (xs := xs) (cA := cA) hA (e := (21, i.toNatClampNeg, ([] : List (Option Nat)))) (fun z hz => by simp at hz) ⟨Nat.ne_of_beq_eq_false rfl, Nat.ne_of_beq_eq_false rfl⟩ (by simp [am_cell, am_ad]) (fun _ => HT) hP hD
  have hk2 := kk (am_ad ad sk.length q) (am_ad aC sk.length cA) (fun o ho => by simp only [am_ad, if_neg (show ¬ o = sk.length by omega)]; exact ⟨trivial, trivial⟩)
  rw [show List.length (sk ++ ([(21, i.toNatClampNeg, ([] : List (Option Nat)))] : am_K)) - List.length sk = 1 by simp, show am_sz (sk ++ ([(21, i.toNatClampNeg, ([] : List (Option Nat)))] : am_K)) - am_sz sk = i.toNatClampNeg by simp [am_sz_app, am_sz]] at hk2
  have hext : ∀ o, o < sk.length → am_ad ad sk.length q o = ad o := fun o ho => by simp only [am_ad, if_neg (show ¬ o = sk.length by omega)]
  have h29 := hA.2.2.2.1.1
  have k3 := hk2 H1 locs ls HAT (hF.congr (fun o ho => hext o (by omega))) (by show lv_has ls L.length (am_lv (am_ad ad sk.length q) fm L); rw [am_lv_ext hext hL]; exact hl) hS1
  rw [List.map_cons, am_re_ref (show sk.length ≠ 28 by omega), show am_ad ad sk.length q sk.length = q by simp [am_ad], am_st_ext hext hst] at k3
  exact k3
theorem am_x_newc {i : Int32} (hm : am_Me p s m args meth c D fm A cc own init nL) (hrow : am_rowok own init ret cc (pc, .newarray .char, nx) (raw, pl) = true) (hi : ¬ i < 0) (hi2 : i.toNatClampNeg ≤ 100000) (hst : am_okS sk.length st) (hL : am_okL sk.length L) (hc : cells + 1 ≤ R.cells) (hs : slots + i.toNatClampNeg ≤ R.slots) (kk : (∀ (ad2 : Nat → Nat) (aC2 : Nat → ClassId), (∀ o, o < sk.length → ad2 o = ad o ∧ aC2 o = aC o) → am_K1 p l e R s m args below meth c Qf D fm n xs A nx L (.ref sk.length :: st) (sk ++ [(22, i.toNatClampNeg, ([] : List (Option Nat)))]) (am_z mem sk.length) ad2 aC2 (cells + ((sk ++ [(22, i.toNatClampNeg, ([] : List (Option Nat)))]).length - sk.length)) (slots + (am_sz (sk ++ [(22, i.toNatClampNeg, ([] : List (Option Nat)))]) - am_sz sk)))) : am_K1 p l e R s m args below meth c Qf D fm n xs A pc L (.int i :: st) sk mem ad aC cells slots := by
  obtain ⟨h1, h2, h3⟩ := am_row_dec hrow
  simp only [am_lk, decide_eq_true_eq] at h3
  obtain ⟨rfl, rfl⟩ := h3
  rw [show pc + 2 - pc = 2 by omega] at h1
  intro H locs ls hA hF hl hS
  rw [List.map_cons]
  have hcb : componentBytes .char ≤ 8 := by decide
  refine va_newa (atype := .char) (ty := .char) (a0 := (i.toNatClampNeg, .inl (fun _ => 0))) hm.1 hm.2.1 (hm.2.2.2.1 _ (am_tb_at 1325 (w := .arrayClass .char) (by decide +kernel) rfl)) rfl hm.2.2.2.2.2.1 hA.1 hA.2.1 hS hm.2.2.2.2.2.2.1 (fun cA => vp_cell_i cA _ _) hi rfl (Nat.le_trans (Nat.mul_le_mul hi2 hcb) (by decide)) hc hs h1 (fun q cA H1 hK1 hP hD hS1 => ?_)
  have HT : ArrOfT s cA (am_ty 22) ∧ va_RA s cA (am_ty 22) := hK1.2 0 _ rfl
  have HAT := am_At.push (fm := fm) (n := n) (xs := xs) (cA := cA) hA (e := (22, i.toNatClampNeg, ([] : List (Option Nat)))) (fun z hz => by simp at hz) ⟨Nat.ne_of_beq_eq_false rfl, Nat.ne_of_beq_eq_false rfl⟩ (by simp [am_cell, am_ad]) (fun _ => HT) hP hD
  have hk2 := kk (am_ad ad sk.length q) (am_ad aC sk.length cA) (fun o ho => by simp only [am_ad, if_neg (show ¬ o = sk.length by omega)]; exact ⟨trivial, trivial⟩)
  rw [show List.length (sk ++ ([(22, i.toNatClampNeg, ([] : List (Option Nat)))] : am_K)) - List.length sk = 1 by simp, show am_sz (sk ++ ([(22, i.toNatClampNeg, ([] : List (Option Nat)))] : am_K)) - am_sz sk = i.toNatClampNeg by simp [am_sz_app, am_sz]] at hk2
  have hext : ∀ o, o < sk.length → am_ad ad sk.length q o = ad o := fun o ho => by simp only [am_ad, if_neg (show ¬ o = sk.length by omega)]
  have h29 := hA.2.2.2.1.1
  have k3 := hk2 H1 locs ls HAT (hF.congr (fun o ho => hext o (by omega))) (by show lv_has ls L.length (am_lv (am_ad ad sk.length q) fm L); rw [am_lv_ext hext hL]; exact hl) hS1
  rw [List.map_cons, am_re_ref (show sk.length ≠ 28 by omega), show am_ad ad sk.length q sk.length = q by simp [am_ad], am_st_ext hext hst] at k3
  exact k3
theorem am_x_newq {k : Nat} {i : Int32} (hm : am_Me p s m args meth c D fm A cc own init nL) (hrow : am_rowok own init ret cc (pc, .anewarray k, nx) (raw, pl) = true) (hi : ¬ i < 0) (hi2 : i.toNatClampNeg ≤ 100000) (hst : am_okS sk.length st) (hL : am_okL sk.length L) (hc : cells + 1 ≤ R.cells) (hs : slots + i.toNatClampNeg ≤ R.slots) (kk : (∀ (ad2 : Nat → Nat) (aC2 : Nat → ClassId), (∀ o, o < sk.length → ad2 o = ad o ∧ aC2 o = aC o) → am_K1 p l e R s m args below meth c Qf D fm n xs A nx L (.ref sk.length :: st) (sk ++ [(30 + k, i.toNatClampNeg, List.replicate i.toNatClampNeg (none : Option Nat))]) (am_z mem sk.length) ad2 aC2 (cells + ((sk ++ [(30 + k, i.toNatClampNeg, List.replicate i.toNatClampNeg (none : Option Nat))]).length - sk.length)) (slots + (am_sz (sk ++ [(30 + k, i.toNatClampNeg, List.replicate i.toNatClampNeg (none : Option Nat))]) - am_sz sk)))) : am_K1 p l e R s m args below meth c Qf D fm n xs A pc L (.int i :: st) sk mem ad aC cells slots := by
  obtain ⟨h1, h2, h3⟩ := am_row_dec hrow
  simp only [am_lk] at h3
  split at h3
  · simp only [Bool.and_eq_true, decide_eq_true_eq] at h3
    obtain ⟨rfl, h4⟩ := h3
    rw [show pc + 3 - pc = 3 by omega] at h1
    intro H locs ls hA hF hl hS
    split at h4
    · rename_i w hw0
      simp only [Bool.and_eq_true, decide_eq_true_eq] at h4
      obtain ⟨h4, h5⟩ := h4
      obtain ⟨c13, -⟩ := am_cls hw0
      rw [List.map_cons]
      refine va_newq hm.1 hm.2.1 hm.2.2.1 (am_hts hm h4 rfl) (hF.2.2.2.2.2.2.2 k h5 w hw0) hm.2.2.2.2.2.1 hA.1 hA.2.1 hS hm.2.2.2.2.2.2.1 hi rfl (by omega) hc hs h1 (fun q cA H1 hK1 hP hD hS1 => ?_)
      have ht : am_ty (30 + k) = .object w.1 := by
        have : vwCl.getD k ("", fun _ => ("", "", "", false), 0) = w := by simp [List.getD_eq_getElem?_getD, hw0]
        simp only [am_ty, if_neg (show ¬ 30 + k = 20 by omega), if_neg (show ¬ 30 + k = 21 by omega), if_neg (show ¬ 30 + k = 22 by omega), if_neg (show ¬ 30 + k = 23 by omega), Nat.add_sub_cancel_left, this]
      have HT : ArrOfT s cA (am_ty (30 + k)) ∧ va_RA s cA (am_ty (30 + k)) := by rw [ht]; exact hK1.2 0 _ rfl
      have hcell : am_cell (am_ad ad sk.length q) (am_ad aC sk.length cA) sk.length (30 + k, i.toNatClampNeg, List.replicate i.toNatClampNeg none) (fun _ => 0) = .inl (cA, i.toNatClampNeg, .inr (.inr (.inr (.inr (fun _ => none))))) := by
        simp only [am_cell, if_neg (show ¬ 30 + k < 13 by omega), if_neg (show ¬ 30 + k < 30 by omega), show am_ad aC sk.length cA sk.length = cA by simp [am_ad]]
        congr 6
        refine congrArg Sum.inr (funext fun j => ?_)
        split
        · rename_i z hz
          have := List.mem_of_getElem? hz
          simp at this
        · rfl
      have HAT := am_At.push (fm := fm) (n := n) (xs := xs) (cA := cA) hA (e := (30 + k, i.toNatClampNeg, List.replicate i.toNatClampNeg none)) (fun z hz => by simp at hz) ⟨by show 30 + k ≠ 13; omega, by show 30 + k ≠ 23; omega⟩ hcell (fun _ => HT) hP hD
      have hk2 := kk (am_ad ad sk.length q) (am_ad aC sk.length cA) (fun o ho => by simp only [am_ad, if_neg (show ¬ o = sk.length by omega)]; exact ⟨trivial, trivial⟩)
      rw [show List.length (sk ++ ([(30 + k, i.toNatClampNeg, List.replicate i.toNatClampNeg (none : Option Nat))] : am_K)) - List.length sk = 1 by simp, show am_sz (sk ++ ([(30 + k, i.toNatClampNeg, List.replicate i.toNatClampNeg (none : Option Nat))] : am_K)) - am_sz sk = i.toNatClampNeg by simp [am_sz_app, am_sz]] at hk2
      have hext : ∀ o, o < sk.length → am_ad ad sk.length q o = ad o := fun o ho => by simp only [am_ad, if_neg (show ¬ o = sk.length by omega)]
      have h29 := hA.2.2.2.1.1
      have k3 := hk2 H1 locs ls HAT (hF.congr (fun o ho => hext o (by omega))) (by show lv_has ls L.length (am_lv (am_ad ad sk.length q) fm L); rw [am_lv_ext hext hL]; exact hl) hS1
      rw [List.map_cons, am_re_ref (show sk.length ≠ 28 by omega), show am_ad ad sk.length q sk.length = q by simp [am_ad], am_st_ext hext hst] at k3
      exact k3
    · cases h4
  · cases h3
end AMH
end
section
/-! one step, whatever the instruction -/
section AMT
variable {p : Program} {l : Launch} {e : Env} {R : Room} {s : State} {m : MethodId} {args : Array Value} {below : List Frame} {meth : Method} {c : Code} {Qf : State → Prop} {D : va_G} {fm : Value} {n : Nat} {xs : Nat → Int32} {A : Nat → Prop} {cc : ByteArray} {own : String} {init : Bool} {ret : Option FieldType} {nL : Nat}
variable {pc nx : Nat} {L : am_L} {st : List Value} {sk : am_K} {mem : am_M} {ad : Nat → Nat} {aC : Nat → ClassId} {cells slots : Nat} {raw norm : Instr} {pl : Nat}
set_option maxHeartbeats 4000000 in
theorem am_step {pc' : Nat} {L' : am_L} {st' : List Value} {sk' : am_K} {mem' : am_M} (hm : am_Me p s m args meth c D fm A cc own init nL) (hrow : am_rowok own init ret cc (pc, norm, nx) (raw, pl) = true) (hstp : am_stp norm nx L st sk mem = some (.inl (pc', L', st', sk', mem'))) (hst : am_okS sk.length st) (hL : am_okL sk.length L) (hLn : L.length = nL) (hRf : 1 ≤ R.frames) (hRl : 64 ≤ R.locals) (hc : cells + (sk'.length - sk.length) ≤ R.cells) (hs : slots + (am_sz sk' - am_sz sk) ≤ R.slots)
    (kk : ∀ (ad' : Nat → Nat) (aC' : Nat → ClassId), (∀ o, o < sk.length → ad' o = ad o ∧ aC' o = aC o) → am_K1 p l e R s m args below meth c Qf D fm n xs A pc' L' st' sk' mem' ad' aC' (cells + (sk'.length - sk.length)) (slots + (am_sz sk' - am_sz sk))) : am_K1 p l e R s m args below meth c Qf D fm n xs A pc L st sk mem ad aC cells slots := by
  cases norm
  case iadd =>
    obtain ⟨x, y, r, rfl, hz⟩ := am_i2_inv (show am_i2 (fun x y => x + y) nx L st sk mem = some _ from hstp)
    cases hz
    exact am_x_iadd hm hrow (am_keep kk)
  case isub =>
    obtain ⟨x, y, r, rfl, hz⟩ := am_i2_inv (show am_i2 (fun x y => x - y) nx L st sk mem = some _ from hstp)
    cases hz
    exact am_x_isub hm hrow (am_keep kk)
  case imul =>
    obtain ⟨x, y, r, rfl, hz⟩ := am_i2_inv (show am_i2 (fun x y => x * y) nx L st sk mem = some _ from hstp)
    cases hz
    exact am_x_imul hm hrow (am_keep kk)
  case iand =>
    obtain ⟨x, y, r, rfl, hz⟩ := am_i2_inv (show am_i2 (fun x y => x &&& y) nx L st sk mem = some _ from hstp)
    cases hz
    exact am_x_iand hm hrow (am_keep kk)
  case ior =>
    obtain ⟨x, y, r, rfl, hz⟩ := am_i2_inv (show am_i2 (fun x y => x ||| y) nx L st sk mem = some _ from hstp)
    cases hz
    exact am_x_ior hm hrow (am_keep kk)
  case ixor =>
    obtain ⟨x, y, r, rfl, hz⟩ := am_i2_inv (show am_i2 (fun x y => x ^^^ y) nx L st sk mem = some _ from hstp)
    cases hz
    exact am_x_ixor hm hrow (am_keep kk)
  case ishl =>
    obtain ⟨x, y, r, rfl, hz⟩ := am_i2_inv (show am_i2 (fun x y => x <<< (y &&& 31)) nx L st sk mem = some _ from hstp)
    cases hz
    exact am_x_ishl hm hrow (am_keep kk)
  case ishr =>
    obtain ⟨x, y, r, rfl, hz⟩ := am_i2_inv (show am_i2 (fun x y => x >>> (y &&& 31)) nx L st sk mem = some _ from hstp)
    cases hz
    exact am_x_ishr hm hrow (am_keep kk)
  case iushr =>
    obtain ⟨x, y, r, rfl, hz⟩ := am_i2_inv (show am_i2 (fun x y => (x.toUInt32 >>> (y.toUInt32 &&& Int32.toUInt32 31)).toInt32) nx L st sk mem = some _ from hstp)
    cases hz
    exact am_x_iushr hm hrow (am_keep kk)
  case idiv =>
    obtain ⟨x, y, r, rfl, hy, hz⟩ := am_i2z_inv (show am_i2z (fun x y => x / y) nx L st sk mem = some _ from hstp)
    cases hz
    exact am_x_idiv hm hrow hy (am_keep kk)
  case irem =>
    obtain ⟨x, y, r, rfl, hy, hz⟩ := am_i2z_inv (show am_i2z (fun x y => x - x / y * y) nx L st sk mem = some _ from hstp)
    cases hz
    exact am_x_irem hm hrow hy (am_keep kk)
  case ineg =>
    obtain ⟨x, r, rfl, hz⟩ := am_i1_inv (show am_i1 (fun x => -x) nx L st sk mem = some _ from hstp)
    cases hz
    exact am_x_ineg hm hrow (am_keep kk)
  case i2s =>
    obtain ⟨x, r, rfl, hz⟩ := am_i1_inv (show am_i1 (fun x => x.toInt16.toInt32) nx L st sk mem = some _ from hstp)
    cases hz
    exact am_x_i2s hm hrow (am_keep kk)
  case i2b =>
    obtain ⟨x, r, rfl, hz⟩ := am_i1_inv (show am_i1 (fun x => x.toInt8.toInt32) nx L st sk mem = some _ from hstp)
    cases hz
    exact am_x_i2b hm hrow (am_keep kk)
  case i2c =>
    obtain ⟨x, r, rfl, hz⟩ := am_i1_inv (show am_i1 (fun x => (x.toUInt32 % 65536).toInt32) nx L st sk mem = some _ from hstp)
    cases hz
    exact am_x_i2c hm hrow (am_keep kk)
  case iconst v =>
    cases (show am_go nx L (.int (Int32.ofInt v) :: st) sk mem = some _ from hstp)
    exact am_x_iconst hm hrow (am_keep kk)
  case iload i =>
    obtain ⟨x, hi, hz⟩ := am_ilo_inv (show am_ilo i nx L st sk mem = some _ from hstp)
    cases hz
    exact am_x_iload hm hrow hi (am_keep kk)
  case aload i =>
    obtain ⟨x, hi, hx, hz⟩ := am_alo_inv (show am_alo i nx L st sk mem = some _ from hstp)
    cases hz
    exact am_x_aload hm hrow hi hx (am_keep kk)
  case istore i =>
    obtain ⟨x, r, rfl, hi, hz⟩ := am_iso_inv (show am_iso i nx L st sk mem = some _ from hstp)
    cases hz
    exact am_x_istore hm hrow hi hL (am_keep kk)
  case astore i =>
    obtain ⟨x, r, rfl, hi, hx, hz⟩ := am_aso_inv (show am_aso i nx L st sk mem = some _ from hstp)
    cases hz
    exact am_x_astore hm hrow hx hi hL (am_keep kk)
  case iinc i k =>
    obtain ⟨x, hi, hz⟩ := am_inc_inv (show am_inc i k nx L st sk mem = some _ from hstp)
    cases hz
    exact am_x_iinc hm hrow hi hL (am_keep kk)
  case dup =>
    cases st with
    | nil => exact nomatch (show (none : Option am_N) = some _ from hstp)
    | cons v r =>
      have hv := (hst v List.mem_cons_self).cat
      have h2 : (if v.category = 1 then am_go nx L (v :: v :: r) sk mem else none) = some (.inl (pc', L', st', sk', mem')) := hstp
      rw [if_pos hv] at h2
      cases h2
      exact am_x_dup hm hrow hv (am_keep kk)
  case dup2 =>
    cases st with
    | nil => exact nomatch (show (none : Option am_N) = some _ from hstp)
    | cons v r =>
      cases r with
      | nil => exact nomatch (show (none : Option am_N) = some _ from hstp)
      | cons w r =>
        have hv := (hst v List.mem_cons_self).cat
        have hw := (hst w (List.mem_cons_of_mem _ List.mem_cons_self)).cat
        have h2 : (if v.category = 1 ∧ w.category = 1 then am_go nx L (v :: w :: v :: w :: r) sk mem else none) = some (.inl (pc', L', st', sk', mem')) := hstp
        rw [if_pos ⟨hv, hw⟩] at h2
        cases h2
        exact am_x_dup2 hm hrow hv hw (am_keep kk)
  case pop =>
    cases st with
    | nil => exact nomatch (show (none : Option am_N) = some _ from hstp)
    | cons v r =>
      cases v with
      | int x =>
        cases (show am_go nx L r sk mem = some _ from hstp)
        exact am_x_pop hm hrow (am_keep kk)
      | _ => exact nomatch (show (none : Option am_N) = some _ from hstp)
  case pop2 =>
    cases st with
    | nil => exact nomatch (show (none : Option am_N) = some _ from hstp)
    | cons v r =>
      cases v with
      | ref q =>
        have h2 : (if r.length ≤ 8 ∧ q ≠ 28 then am_go nx L r sk mem else none) = some (.inl (pc', L', st', sk', mem')) := hstp
        split at h2
        · rename_i h3
          cases h2
          exact am_x_pop2 hm hrow h3.2 (fun w hw => hst w (List.mem_cons_of_mem _ hw)) h3.1 hLn hRf hRl (am_keep kk)
        · cases h2
      | _ => exact nomatch (show (none : Option am_N) = some _ from hstp)
  case ldc i =>
    have h2 : (if i < 13 then am_go nx L (.ref (2 + i) :: st) sk mem else none) = some (.inl (pc', L', st', sk', mem')) := hstp
    split at h2
    · rename_i h3
      cases h2
      exact am_x_ldc hm hrow h3 (am_keep kk)
    · cases h2
  case getstatic i =>
    have h2 : am_go nx L (am_gsv i :: st) sk mem = some (.inl (pc', L', st', sk', mem')) := hstp
    cases h2
    exact am_x_gets hm hrow (am_keep kk)
  case getfield f =>
    obtain ⟨q, r, N, rs, rfl, h1, h2, h3⟩ := am_get_inv (show am_get f nx L st sk mem = some _ from hstp)
    rcases h3 with ⟨h3, y, hy, hz⟩ | ⟨h3, hz⟩
    · cases hz
      exact am_x_get hm hrow h1 h2 (Or.inl ⟨h3, y, hy, rfl⟩) (am_keep kk)
    · cases hz
      exact am_x_get hm hrow h1 h2 (Or.inr ⟨h3, rfl⟩) (am_keep kk)
  case putfield f =>
    obtain ⟨x, q, r, N, rs, rfl, h1, h2, h3, h4, hz⟩ := am_put_inv (show am_put f nx L st sk mem = some _ from hstp)
    cases hz
    exact am_x_put hm hrow h1 h2 h3 h4 (am_keep kk)
  case putstatic f =>
    obtain ⟨y, q, r, N, rs, rfl, h1, h2, h3, h4, h5, h6, h7, hz⟩ := am_putR_inv (show am_putR f nx L st sk mem = some _ from hstp)
    cases hz
    exact am_x_putR hm hrow h1 h2 h3 h4 h5 h6 h7 (am_keep2 List.length_set (am_sz_set h1 rfl) kk)
  case iaload =>
    obtain ⟨i, q, r, N, rs, rfl, h1, h2, hz⟩ := am_ild_inv (show am_ild 20 nx L st sk mem = some _ from hstp)
    cases hz
    exact am_x_iald hm hrow h1 h2 (am_keep kk)
  case baload =>
    obtain ⟨i, q, r, N, rs, rfl, h1, h2, hz⟩ := am_ild_inv (show am_ild 21 nx L st sk mem = some _ from hstp)
    cases hz
    exact am_x_zald hm hrow h1 h2 (am_keep kk)
  case caload =>
    obtain ⟨i, q, r, N, rs, rfl, h1, h2, hz⟩ := am_ild_inv (show am_ild 22 nx L st sk mem = some _ from hstp)
    cases hz
    exact am_x_cald hm hrow h1 h2 (am_keep kk)
  case saload =>
    obtain ⟨i, q, r, N, rs, rfl, h1, h2, hz⟩ := am_ild_inv (show am_ild 23 nx L st sk mem = some _ from hstp)
    cases hz
    exact am_x_bald hm hrow h1 h2 (am_keep kk)
  case iastore =>
    obtain ⟨y, i, q, r, N, rs, rfl, h1, h2, h3, h4, hz⟩ := am_ist_inv (show am_ist 20 nx L st sk mem = some _ from hstp)
    cases hz
    exact am_x_iast hm hrow h1 h2 h3 h4 (am_keep kk)
  case bastore =>
    obtain ⟨y, i, q, r, N, rs, rfl, h1, h2, h3, h4, hz⟩ := am_ist_inv (show am_ist 21 nx L st sk mem = some _ from hstp)
    cases hz
    exact am_x_zast hm hrow h1 h2 h3 h4 (am_keep kk)
  case castore =>
    obtain ⟨y, i, q, r, N, rs, rfl, h1, h2, h3, h4, hz⟩ := am_ist_inv (show am_ist 22 nx L st sk mem = some _ from hstp)
    cases hz
    exact am_x_cast hm hrow h1 h2 h3 h4 (am_keep kk)
  case aaload =>
    obtain ⟨i, q, r, k, N, rs, y, rfl, h1, h2, h3, h4, h5, hz⟩ := am_ald_inv (show am_ald nx L st sk mem = some _ from hstp)
    cases hz
    exact am_x_ald hm hrow h1 h2 h3 h4 h5 (am_keep kk)
  case aastore =>
    obtain ⟨y, i, q, r, N, rs, kz, a, b, rfl, h1, h2, h3, h4, h5, h6, h7, hz⟩ := am_ast_inv (show am_ast nx L st sk mem = some _ from hstp)
    cases hz
    exact am_x_ast hm hrow h1 h2 h3 h4 h5 h6 h7 (am_keep2 List.length_set (am_sz_set h1 rfl) kk)
  case arraylength =>
    obtain ⟨q, r, k, N, rs, rfl, h1, h2, h3, hz⟩ := am_alen_inv (show am_alen nx L st sk mem = some _ from hstp)
    cases hz
    exact am_x_alen hm hrow h1 h2 h3 (am_keep kk)
  case new k =>
    obtain ⟨N, h1, hz⟩ := am_new_inv (show am_new k nx L st sk mem = some _ from hstp)
    cases hz
    have e1 : List.length (sk ++ ([(k, N, List.replicate N (none : Option Nat))] : am_K)) - List.length sk = 1 := by simp
    have e2 : am_sz (sk ++ ([(k, N, List.replicate N (none : Option Nat))] : am_K)) - am_sz sk = N := by simp [am_sz_app, am_sz]
    exact am_x_new hm hrow h1 hst hL (by rw [e1] at hc; exact hc) (by rw [e2] at hs; exact hs) kk
  case newarray t =>
    cases t
    · obtain ⟨i, r, rfl, h1, h2, hz⟩ := am_newa_inv (show am_newa 21 nx L st sk mem = some _ from hstp)
      cases hz
      have e1 : List.length (sk ++ ([(21, i.toNatClampNeg, ([] : List (Option Nat)))] : am_K)) - List.length sk = 1 := by simp
      have e2 : am_sz (sk ++ ([(21, i.toNatClampNeg, ([] : List (Option Nat)))] : am_K)) - am_sz sk = i.toNatClampNeg := by simp [am_sz_app, am_sz]
      exact am_x_newz hm hrow h1 h2 (fun w hw => hst w (List.mem_cons_of_mem _ hw)) hL (by rw [e1] at hc; exact hc) (by rw [e2] at hs; exact hs) kk
    · obtain ⟨i, r, rfl, h1, h2, hz⟩ := am_newa_inv (show am_newa 22 nx L st sk mem = some _ from hstp)
      cases hz
      have e1 : List.length (sk ++ ([(22, i.toNatClampNeg, ([] : List (Option Nat)))] : am_K)) - List.length sk = 1 := by simp
      have e2 : am_sz (sk ++ ([(22, i.toNatClampNeg, ([] : List (Option Nat)))] : am_K)) - am_sz sk = i.toNatClampNeg := by simp [am_sz_app, am_sz]
      exact am_x_newc hm hrow h1 h2 (fun w hw => hst w (List.mem_cons_of_mem _ hw)) hL (by rw [e1] at hc; exact hc) (by rw [e2] at hs; exact hs) kk
    · exact nomatch (show (none : Option am_N) = some _ from hstp)
    · exact nomatch (show (none : Option am_N) = some _ from hstp)
    · exact nomatch (show (none : Option am_N) = some _ from hstp)
    · exact nomatch (show (none : Option am_N) = some _ from hstp)
    · obtain ⟨i, r, rfl, h1, h2, hz⟩ := am_newa_inv (show am_newa 20 nx L st sk mem = some _ from hstp)
      cases hz
      have e1 : List.length (sk ++ ([(20, i.toNatClampNeg, ([] : List (Option Nat)))] : am_K)) - List.length sk = 1 := by simp
      have e2 : am_sz (sk ++ ([(20, i.toNatClampNeg, ([] : List (Option Nat)))] : am_K)) - am_sz sk = i.toNatClampNeg := by simp [am_sz_app, am_sz]
      exact am_x_newi hm hrow h1 h2 (fun w hw => hst w (List.mem_cons_of_mem _ hw)) hL (by rw [e1] at hc; exact hc) (by rw [e2] at hs; exact hs) kk
    · exact nomatch (show (none : Option am_N) = some _ from hstp)
  case anewarray k =>
    obtain ⟨i, r, rfl, h1, h2, hz⟩ := am_newq_inv (show am_newq k nx L st sk mem = some _ from hstp)
    cases hz
    have e1 : List.length (sk ++ ([(30 + k, i.toNatClampNeg, List.replicate i.toNatClampNeg (none : Option Nat))] : am_K)) - List.length sk = 1 := by simp
    have e2 : am_sz (sk ++ ([(30 + k, i.toNatClampNeg, List.replicate i.toNatClampNeg (none : Option Nat))] : am_K)) - am_sz sk = i.toNatClampNeg := by simp [am_sz_app, am_sz]
    exact am_x_newq hm hrow h1 h2 (fun w hw => hst w (List.mem_cons_of_mem _ hw)) hL (by rw [e1] at hc; exact hc) (by rw [e2] at hs; exact hs) kk
  case invokestatic k =>
    obtain ⟨a, -, -, -, hz⟩ := am_inv_inv (show am_inv k st = some _ from hstp)
    cases hz
  case invokespecial k =>
    obtain ⟨a, q, r, kd, N, rs, -, -, -, -, -, -, hz⟩ := am_invV_inv (show am_invV k st sk = some _ from hstp)
    cases hz
  case invokevirtual k =>
    obtain ⟨a, q, r, kd, N, rs, -, -, -, -, -, -, hz⟩ := am_invV_inv (show am_invV k st sk = some _ from hstp)
    cases hz
  case invokedynamic k =>
    obtain ⟨i, dp, b, sp, a, r, na, nb, ra, rb, rfl, h1, h2, h3, h4, h5, h6, h7, h8, h9, h10, hz⟩ := am_copy_inv (show am_copy nx L st sk mem = some _ from hstp)
    cases hz
    exact am_x_copy hm hrow h1 h2 h3 h4 h5 h6 h7 h8 h9 (fun w hw => hst w (List.mem_cons_of_mem _ (List.mem_cons_of_mem _ (List.mem_cons_of_mem _ (List.mem_cons_of_mem _ (List.mem_cons_of_mem _ hw)))))) h10 hLn hRf hRl (am_keep kk)
  case ifCond k t =>
    obtain ⟨x, r, rfl, hz⟩ := am_if1_inv (show am_if1 k t nx L st sk mem = some _ from hstp)
    cases hz
    exact am_x_if1 (y := 0) hm hrow (am_keep kk)
  case if_icmp k t =>
    obtain ⟨x, y, r, rfl, hz⟩ := am_if2_inv (show am_if2 k t nx L st sk mem = some _ from hstp)
    cases hz
    exact am_x_if2 hm hrow (am_keep kk)
  case goto t =>
    cases (show am_go t.toNat L st sk mem = some _ from hstp)
    exact am_x_goto hm hrow (am_keep kk)
  case tableswitch d lo hi ts =>
    obtain ⟨x, r, rfl, hz⟩ := am_tsw_inv (show am_tsw d lo hi ts L st sk mem = some _ from hstp)
    rcases hz with ⟨h1, hz⟩ | ⟨h1, t, ht, hz⟩
    · cases hz
      exact am_x_tsw hm hrow (Or.inl ⟨h1, am_keep kk⟩)
    · cases hz
      exact am_x_tsw hm hrow (Or.inr ⟨h1, t, ht, am_keep kk⟩)
  case lookupswitch d ps =>
    obtain ⟨x, r, rfl, hz⟩ := am_lsw_inv (show am_lsw d ps L st sk mem = some _ from hstp)
    cases hz
    exact am_x_lsw hm hrow (am_keep kk)
  case ireturn =>
    simp only [am_stp] at hstp
    repeat' (split at hstp)
    all_goals cases hstp
  case freturn =>
    simp only [am_stp] at hstp
    repeat' (split at hstp)
    all_goals cases hstp
  case lreturn =>
    simp only [am_stp] at hstp
    repeat' (split at hstp)
    all_goals cases hstp
  case dreturn =>
    simp only [am_stp] at hstp
    repeat' (split at hstp)
    all_goals cases hstp
  case areturn =>
    simp only [am_stp] at hstp
    repeat' (split at hstp)
    all_goals cases hstp
  case return_ =>
    simp only [am_stp] at hstp
    repeat' (split at hstp)
    all_goals cases hstp
  all_goals exact nomatch (show (none : Option am_N) = some _ from hstp)
end AMT
end
section
/-! what every step keeps; the run is one run; depth -/
theorem am_okS.tl {N : Nat} {v : Value} {r : List Value} (h : am_okS N (v :: r)) : am_okS N r := fun w hw => h w (List.mem_cons_of_mem _ hw)
theorem am_okS.hd {N : Nat} {v : Value} {r : List Value} (h : am_okS N (v :: r)) : am_okv N v := h v List.mem_cons_self
theorem am_okS.cons {N : Nat} {v : Value} {r : List Value} (hv : am_okv N v) (h : am_okS N r) : am_okS N (v :: r) := fun w hw => by
  rcases List.mem_cons.mp hw with rfl | hw
  · exact hv
  · exact h w hw
theorem am_okS.up {N M : Nat} {r : List Value} (h : am_okS N r) (hN : N ≤ M) : am_okS M r := fun w hw => (h w hw).up hN
theorem am_okL.up {N M : Nat} {L : am_L} (h : am_okL N L) (hN : N ≤ M) : am_okL M L := fun i v hv => (h i v hv).up hN
def am_kp (sk : am_K) (L L' : am_L) (st' : List Value) (sk' : am_K) : Prop := am_okS sk'.length st' ∧ am_okL sk'.length L' ∧ L'.length = L.length ∧ sk.length ≤ sk'.length ∧ am_sz sk ≤ am_sz sk' ∧ am_wf sk'
theorem am_kp0 {sk : am_K} {L L' : am_L} {st' : List Value} (hwf : am_wf sk) (h1 : am_okS sk.length st') (h2 : am_okL sk.length L') (h3 : L'.length = L.length) : am_kp sk L L' st' sk := ⟨h1, h2, h3, Nat.le_refl _, Nat.le_refl _, hwf⟩
theorem am_kp1 {sk : am_K} {L : am_L} {st : List Value} {e : am_E} (hwf : am_wf sk) (h29 : 29 ≤ sk.length) (hn : ∀ z, some z ∉ e.2.2) (h23 : e.1 ≠ 13 ∧ e.1 ≠ 23) (h1 : am_okS sk.length st) (h2 : am_okL sk.length L) : am_kp sk L L (.ref sk.length :: st) (sk ++ [e]) := by
  have hl : (sk ++ [e]).length = sk.length + 1 := by simp
  refine ⟨am_okS.cons (by show sk.length < _; omega) (h1.up (by omega)), h2.up (by omega), rfl, by omega, by rw [am_sz_app]; omega, fun a y hy z hz => ?_, fun a y ha hy => ?_⟩
  · by_cases hal : a < sk.length
    · rw [List.getElem?_append_left hal] at hy
      have := hwf.1 a y hy z hz
      exact ⟨by omega, this.2⟩
    · have hal2 : a = sk.length := by
        have := (List.getElem?_eq_some_iff.mp hy).1
        omega
      subst hal2
      rw [List.getElem?_append_right (Nat.le_refl _), Nat.sub_self] at hy
      cases hy
      exact absurd hz (hn z)
  · by_cases hal : a < sk.length
    · rw [List.getElem?_append_left hal] at hy
      exact hwf.2 a y ha hy
    · have hal2 : a = sk.length := by
        have := (List.getElem?_eq_some_iff.mp hy).1
        omega
      subst hal2
      rw [List.getElem?_append_right (Nat.le_refl _), Nat.sub_self] at hy
      cases hy
      exact h23
set_option maxHeartbeats 4000000 in
theorem am_stp_ok {norm : Instr} {nx pc' : Nat} {L L' : am_L} {st st' : List Value} {sk sk' : am_K} {mem mem' : am_M} (hstp : am_stp norm nx L st sk mem = some (.inl (pc', L', st', sk', mem'))) (hwf : am_wf sk) (h29 : 29 ≤ sk.length) (hst : am_okS sk.length st) (hL : am_okL sk.length L) : am_kp sk L L' st' sk' := by
  cases norm
  case iadd =>
    obtain ⟨x, y, r, rfl, hz⟩ := am_i2_inv (show am_i2 (fun x y => x + y) nx L st sk mem = some _ from hstp)
    cases hz
    exact am_kp0 hwf (am_okS.cons trivial hst.tl.tl) hL rfl
  case isub =>
    obtain ⟨x, y, r, rfl, hz⟩ := am_i2_inv (show am_i2 (fun x y => x - y) nx L st sk mem = some _ from hstp)
    cases hz
    exact am_kp0 hwf (am_okS.cons trivial hst.tl.tl) hL rfl
  case imul =>
    obtain ⟨x, y, r, rfl, hz⟩ := am_i2_inv (show am_i2 (fun x y => x * y) nx L st sk mem = some _ from hstp)
    cases hz
    exact am_kp0 hwf (am_okS.cons trivial hst.tl.tl) hL rfl
  case iand =>
    obtain ⟨x, y, r, rfl, hz⟩ := am_i2_inv (show am_i2 (fun x y => x &&& y) nx L st sk mem = some _ from hstp)
    cases hz
    exact am_kp0 hwf (am_okS.cons trivial hst.tl.tl) hL rfl
  case ior =>
    obtain ⟨x, y, r, rfl, hz⟩ := am_i2_inv (show am_i2 (fun x y => x ||| y) nx L st sk mem = some _ from hstp)
    cases hz
    exact am_kp0 hwf (am_okS.cons trivial hst.tl.tl) hL rfl
  case ixor =>
    obtain ⟨x, y, r, rfl, hz⟩ := am_i2_inv (show am_i2 (fun x y => x ^^^ y) nx L st sk mem = some _ from hstp)
    cases hz
    exact am_kp0 hwf (am_okS.cons trivial hst.tl.tl) hL rfl
  case ishl =>
    obtain ⟨x, y, r, rfl, hz⟩ := am_i2_inv (show am_i2 (fun x y => x <<< (y &&& 31)) nx L st sk mem = some _ from hstp)
    cases hz
    exact am_kp0 hwf (am_okS.cons trivial hst.tl.tl) hL rfl
  case ishr =>
    obtain ⟨x, y, r, rfl, hz⟩ := am_i2_inv (show am_i2 (fun x y => x >>> (y &&& 31)) nx L st sk mem = some _ from hstp)
    cases hz
    exact am_kp0 hwf (am_okS.cons trivial hst.tl.tl) hL rfl
  case iushr =>
    obtain ⟨x, y, r, rfl, hz⟩ := am_i2_inv (show am_i2 (fun x y => (x.toUInt32 >>> (y.toUInt32 &&& Int32.toUInt32 31)).toInt32) nx L st sk mem = some _ from hstp)
    cases hz
    exact am_kp0 hwf (am_okS.cons trivial hst.tl.tl) hL rfl
  case idiv =>
    obtain ⟨x, y, r, rfl, hy, hz⟩ := am_i2z_inv (show am_i2z (fun x y => x / y) nx L st sk mem = some _ from hstp)
    cases hz
    exact am_kp0 hwf (am_okS.cons trivial hst.tl.tl) hL rfl
  case irem =>
    obtain ⟨x, y, r, rfl, hy, hz⟩ := am_i2z_inv (show am_i2z (fun x y => x - x / y * y) nx L st sk mem = some _ from hstp)
    cases hz
    exact am_kp0 hwf (am_okS.cons trivial hst.tl.tl) hL rfl
  case ineg =>
    obtain ⟨x, r, rfl, hz⟩ := am_i1_inv (show am_i1 (fun x => -x) nx L st sk mem = some _ from hstp)
    cases hz
    exact am_kp0 hwf (am_okS.cons trivial hst.tl) hL rfl
  case i2s =>
    obtain ⟨x, r, rfl, hz⟩ := am_i1_inv (show am_i1 (fun x => x.toInt16.toInt32) nx L st sk mem = some _ from hstp)
    cases hz
    exact am_kp0 hwf (am_okS.cons trivial hst.tl) hL rfl
  case i2b =>
    obtain ⟨x, r, rfl, hz⟩ := am_i1_inv (show am_i1 (fun x => x.toInt8.toInt32) nx L st sk mem = some _ from hstp)
    cases hz
    exact am_kp0 hwf (am_okS.cons trivial hst.tl) hL rfl
  case i2c =>
    obtain ⟨x, r, rfl, hz⟩ := am_i1_inv (show am_i1 (fun x => (x.toUInt32 % 65536).toInt32) nx L st sk mem = some _ from hstp)
    cases hz
    exact am_kp0 hwf (am_okS.cons trivial hst.tl) hL rfl
  case iconst v =>
    cases (show am_go nx L (.int (Int32.ofInt v) :: st) sk mem = some _ from hstp)
    exact am_kp0 hwf (am_okS.cons trivial hst) hL rfl
  case iload i =>
    obtain ⟨x, hi, hz⟩ := am_ilo_inv (show am_ilo i nx L st sk mem = some _ from hstp)
    cases hz
    exact am_kp0 hwf (am_okS.cons trivial hst) hL rfl
  case aload i =>
    obtain ⟨x, hi, hx, hz⟩ := am_alo_inv (show am_alo i nx L st sk mem = some _ from hstp)
    cases hz
    exact am_kp0 hwf (am_okS.cons (hL i _ hi) hst) hL rfl
  case istore i =>
    obtain ⟨x, r, rfl, hi, hz⟩ := am_iso_inv (show am_iso i nx L st sk mem = some _ from hstp)
    cases hz
    exact am_kp0 hwf hst.tl (hL.set hst.hd) List.length_set
  case astore i =>
    obtain ⟨x, r, rfl, hi, hx, hz⟩ := am_aso_inv (show am_aso i nx L st sk mem = some _ from hstp)
    cases hz
    exact am_kp0 hwf hst.tl (hL.set hst.hd) List.length_set
  case iinc i k =>
    obtain ⟨x, hi, hz⟩ := am_inc_inv (show am_inc i k nx L st sk mem = some _ from hstp)
    cases hz
    exact am_kp0 hwf hst (hL.set trivial) List.length_set
  case dup =>
    cases st with
    | nil => exact nomatch (show (none : Option am_N) = some _ from hstp)
    | cons v r =>
      have h2 : (if v.category = 1 then am_go nx L (v :: v :: r) sk mem else none) = some (.inl (pc', L', st', sk', mem')) := hstp
      rw [if_pos hst.hd.cat] at h2
      cases h2
      exact am_kp0 hwf (am_okS.cons hst.hd hst) hL rfl
  case dup2 =>
    cases st with
    | nil => exact nomatch (show (none : Option am_N) = some _ from hstp)
    | cons v r =>
      cases r with
      | nil => exact nomatch (show (none : Option am_N) = some _ from hstp)
      | cons w r =>
        have h2 : (if v.category = 1 ∧ w.category = 1 then am_go nx L (v :: w :: v :: w :: r) sk mem else none) = some (.inl (pc', L', st', sk', mem')) := hstp
        rw [if_pos ⟨hst.hd.cat, hst.tl.hd.cat⟩] at h2
        cases h2
        exact am_kp0 hwf (am_okS.cons hst.hd (am_okS.cons hst.tl.hd hst)) hL rfl
  case pop =>
    cases st with
    | nil => exact nomatch (show (none : Option am_N) = some _ from hstp)
    | cons v r =>
      cases v with
      | int x =>
        cases (show am_go nx L r sk mem = some _ from hstp)
        exact am_kp0 hwf hst.tl hL rfl
      | _ => exact nomatch (show (none : Option am_N) = some _ from hstp)
  case pop2 =>
    cases st with
    | nil => exact nomatch (show (none : Option am_N) = some _ from hstp)
    | cons v r =>
      cases v with
      | ref q =>
        have h2 : (if r.length ≤ 8 ∧ q ≠ 28 then am_go nx L r sk mem else none) = some (.inl (pc', L', st', sk', mem')) := hstp
        split at h2
        · cases h2
          exact am_kp0 hwf hst.tl hL rfl
        · cases h2
      | _ => exact nomatch (show (none : Option am_N) = some _ from hstp)
  case ldc i =>
    have h2 : (if i < 13 then am_go nx L (.ref (2 + i) :: st) sk mem else none) = some (.inl (pc', L', st', sk', mem')) := hstp
    split at h2
    · cases h2
      exact am_kp0 hwf (am_okS.cons (by show 2 + i < sk.length; omega) hst) hL rfl
    · cases h2
  case getstatic i =>
    have h2 : am_go nx L (am_gsv i :: st) sk mem = some (.inl (pc', L', st', sk', mem')) := hstp
    cases h2
    refine am_kp0 hwf (am_okS.cons ?_ hst) hL rfl
    match i with
    | 0 => show 0 < sk.length; omega
    | 1 => exact trivial
    | _ + 2 => show 28 < sk.length; omega
  case getfield f =>
    obtain ⟨q, r, N, rs, rfl, h1, h2, h3⟩ := am_get_inv (show am_get f nx L st sk mem = some _ from hstp)
    rcases h3 with ⟨h3, y, hy, hz⟩ | ⟨h3, hz⟩
    · cases hz
      exact am_kp0 hwf (am_okS.cons (hwf.1 q _ h1 y (List.mem_of_getElem? hy)).1 hst.tl) hL rfl
    · cases hz
      exact am_kp0 hwf (am_okS.cons trivial hst.tl) hL rfl
  case putfield f =>
    obtain ⟨x, q, r, N, rs, rfl, h1, h2, h3, h4, hz⟩ := am_put_inv (show am_put f nx L st sk mem = some _ from hstp)
    cases hz
    exact am_kp0 hwf hst.tl.tl hL rfl
  case putstatic f =>
    obtain ⟨y, q, r, N, rs, rfl, h1, h2, h3, h4, h5, h6, h7, hz⟩ := am_putR_inv (show am_putR f nx L st sk mem = some _ from hstp)
    cases hz
    have hl : (sk.set q (f / 64, N, rs.set (f % 64) (some y))).length = sk.length := List.length_set
    refine ⟨by rw [hl]; exact hst.tl.tl, by rw [hl]; exact hL, rfl, by omega, Nat.le_of_eq (Eq.symm (am_sz_set h1 (by rfl))), am_wf.set hwf h1 rfl (fun z hz => ?_)⟩
    rcases List.mem_or_eq_of_mem_set hz with h | h
    · exact Or.inl h
    · cases h; exact Or.inr ⟨h5, fun e => by rw [e] at h4; exact absurd h4 (by decide)⟩
  case iaload =>
    obtain ⟨i, q, r, N, rs, rfl, h1, h2, hz⟩ := am_ild_inv (show am_ild 20 nx L st sk mem = some _ from hstp)
    cases hz
    exact am_kp0 hwf (am_okS.cons trivial hst.tl.tl) hL rfl
  case baload =>
    obtain ⟨i, q, r, N, rs, rfl, h1, h2, hz⟩ := am_ild_inv (show am_ild 21 nx L st sk mem = some _ from hstp)
    cases hz
    exact am_kp0 hwf (am_okS.cons trivial hst.tl.tl) hL rfl
  case caload =>
    obtain ⟨i, q, r, N, rs, rfl, h1, h2, hz⟩ := am_ild_inv (show am_ild 22 nx L st sk mem = some _ from hstp)
    cases hz
    exact am_kp0 hwf (am_okS.cons trivial hst.tl.tl) hL rfl
  case saload =>
    obtain ⟨i, q, r, N, rs, rfl, h1, h2, hz⟩ := am_ild_inv (show am_ild 23 nx L st sk mem = some _ from hstp)
    cases hz
    exact am_kp0 hwf (am_okS.cons trivial hst.tl.tl) hL rfl
  case iastore =>
    obtain ⟨y, i, q, r, N, rs, rfl, h1, h2, h3, h4, hz⟩ := am_ist_inv (show am_ist 20 nx L st sk mem = some _ from hstp)
    cases hz
    exact am_kp0 hwf hst.tl.tl.tl hL rfl
  case bastore =>
    obtain ⟨y, i, q, r, N, rs, rfl, h1, h2, h3, h4, hz⟩ := am_ist_inv (show am_ist 21 nx L st sk mem = some _ from hstp)
    cases hz
    exact am_kp0 hwf hst.tl.tl.tl hL rfl
  case castore =>
    obtain ⟨y, i, q, r, N, rs, rfl, h1, h2, h3, h4, hz⟩ := am_ist_inv (show am_ist 22 nx L st sk mem = some _ from hstp)
    cases hz
    exact am_kp0 hwf hst.tl.tl.tl hL rfl
  case aaload =>
    obtain ⟨i, q, r, k, N, rs, y, rfl, h1, h2, h3, h4, h5, hz⟩ := am_ald_inv (show am_ald nx L st sk mem = some _ from hstp)
    cases hz
    exact am_kp0 hwf (am_okS.cons (hwf.1 q _ h1 y (List.mem_of_getElem? h5)).1 hst.tl.tl) hL rfl
  case aastore =>
    obtain ⟨y, i, q, r, N, rs, kz, a, b, rfl, h1, h2, h3, h4, h5, h6, h7, hz⟩ := am_ast_inv (show am_ast nx L st sk mem = some _ from hstp)
    cases hz
    have hl : (sk.set q (kz + 30, N, rs.set i.toNatClampNeg (some y))).length = sk.length := List.length_set
    have hy := (List.getElem?_eq_some_iff.mp h2).1
    refine ⟨by rw [hl]; exact hst.tl.tl.tl, by rw [hl]; exact hL, rfl, by omega, Nat.le_of_eq (Eq.symm (am_sz_set h1 (by rfl))), am_wf.set hwf h1 rfl (fun z hz => ?_)⟩
    rcases List.mem_or_eq_of_mem_set hz with h | h
    · exact Or.inl h
    · cases h; exact Or.inr ⟨hy, fun e => by rw [e] at h4; exact absurd h4 (by decide)⟩
  case arraylength =>
    obtain ⟨q, r, k, N, rs, rfl, h1, h2, h3, hz⟩ := am_alen_inv (show am_alen nx L st sk mem = some _ from hstp)
    cases hz
    exact am_kp0 hwf (am_okS.cons trivial hst.tl) hL rfl
  case new k =>
    obtain ⟨N, h1, hz⟩ := am_new_inv (show am_new k nx L st sk mem = some _ from hstp)
    cases hz
    have hk : k < 13 := (List.getElem?_eq_some_iff.mp h1).1
    exact am_kp1 hwf h29 (fun z hz => by simp at hz) ⟨by show k ≠ 13; omega, by show k ≠ 23; omega⟩ hst hL
  case newarray t =>
    cases t
    · obtain ⟨i, r, rfl, h1, h2, hz⟩ := am_newa_inv (show am_newa 21 nx L st sk mem = some _ from hstp)
      cases hz
      exact am_kp1 hwf h29 (fun z hz => by simp at hz) ⟨Nat.ne_of_beq_eq_false rfl, Nat.ne_of_beq_eq_false rfl⟩ hst.tl hL
    · obtain ⟨i, r, rfl, h1, h2, hz⟩ := am_newa_inv (show am_newa 22 nx L st sk mem = some _ from hstp)
      cases hz
      exact am_kp1 hwf h29 (fun z hz => by simp at hz) ⟨Nat.ne_of_beq_eq_false rfl, Nat.ne_of_beq_eq_false rfl⟩ hst.tl hL
    · exact nomatch (show (none : Option am_N) = some _ from hstp)
    · exact nomatch (show (none : Option am_N) = some _ from hstp)
    · exact nomatch (show (none : Option am_N) = some _ from hstp)
    · exact nomatch (show (none : Option am_N) = some _ from hstp)
    · obtain ⟨i, r, rfl, h1, h2, hz⟩ := am_newa_inv (show am_newa 20 nx L st sk mem = some _ from hstp)
      cases hz
      exact am_kp1 hwf h29 (fun z hz => by simp at hz) ⟨Nat.ne_of_beq_eq_false rfl, Nat.ne_of_beq_eq_false rfl⟩ hst.tl hL
    · exact nomatch (show (none : Option am_N) = some _ from hstp)
  case anewarray k =>
    obtain ⟨i, r, rfl, h1, h2, hz⟩ := am_newq_inv (show am_newq k nx L st sk mem = some _ from hstp)
    cases hz
    exact am_kp1 hwf h29 (fun z hz => by simp at hz) ⟨by show 30 + k ≠ 13; omega, by show 30 + k ≠ 23; omega⟩ hst.tl hL
  case invokestatic k =>
    obtain ⟨a, -, -, -, hz⟩ := am_inv_inv (show am_inv k st = some _ from hstp)
    cases hz
  case invokespecial k =>
    obtain ⟨a, q, r, kd, N, rs, -, -, -, -, -, -, hz⟩ := am_invV_inv (show am_invV k st sk = some _ from hstp)
    cases hz
  case invokevirtual k =>
    obtain ⟨a, q, r, kd, N, rs, -, -, -, -, -, -, hz⟩ := am_invV_inv (show am_invV k st sk = some _ from hstp)
    cases hz
  case invokedynamic k =>
    obtain ⟨i, dp, b, sp, a, r, na, nb, ra, rb, rfl, h1, h2, h3, h4, h5, h6, h7, h8, h9, h10, hz⟩ := am_copy_inv (show am_copy nx L st sk mem = some _ from hstp)
    cases hz
    exact am_kp0 hwf hst.tl.tl.tl.tl.tl hL rfl
  case ifCond k t =>
    obtain ⟨x, r, rfl, hz⟩ := am_if1_inv (show am_if1 k t nx L st sk mem = some _ from hstp)
    cases hz
    exact am_kp0 hwf hst.tl hL rfl
  case if_icmp k t =>
    obtain ⟨x, y, r, rfl, hz⟩ := am_if2_inv (show am_if2 k t nx L st sk mem = some _ from hstp)
    cases hz
    exact am_kp0 hwf hst.tl.tl hL rfl
  case goto t =>
    cases (show am_go t.toNat L st sk mem = some _ from hstp)
    exact am_kp0 hwf hst hL rfl
  case tableswitch d lo hi ts =>
    obtain ⟨x, r, rfl, hz⟩ := am_tsw_inv (show am_tsw d lo hi ts L st sk mem = some _ from hstp)
    rcases hz with ⟨h1, hz⟩ | ⟨h1, t, ht, hz⟩
    · cases hz
      exact am_kp0 hwf hst.tl hL rfl
    · cases hz
      exact am_kp0 hwf hst.tl hL rfl
  case lookupswitch d ps =>
    obtain ⟨x, r, rfl, hz⟩ := am_lsw_inv (show am_lsw d ps L st sk mem = some _ from hstp)
    cases hz
    exact am_kp0 hwf hst.tl hL rfl
  case ireturn =>
    simp only [am_stp] at hstp
    repeat' (split at hstp)
    all_goals cases hstp
  case freturn =>
    simp only [am_stp] at hstp
    repeat' (split at hstp)
    all_goals cases hstp
  case lreturn =>
    simp only [am_stp] at hstp
    repeat' (split at hstp)
    all_goals cases hstp
  case dreturn =>
    simp only [am_stp] at hstp
    repeat' (split at hstp)
    all_goals cases hstp
  case areturn =>
    simp only [am_stp] at hstp
    repeat' (split at hstp)
    all_goals cases hstp
  case return_ =>
    simp only [am_stp] at hstp
    repeat' (split at hstp)
    all_goals cases hstp
  all_goals exact nomatch (show (none : Option am_N) = some _ from hstp)
/-- a call: which instruction it is -/
theorem am_stp_call {norm : Instr} {nx k : Nat} {L : am_L} {st as r : List Value} {sk : am_K} {mem : am_M} (hstp : am_stp norm nx L st sk mem = some (.inr (.inl (k, as, r)))) : ∃ a, am_AR[k]? = some a ∧ a ≤ st.length ∧ st.length ≤ a + 8 ∧ as = (st.take a).reverse ∧ r = st.drop a ∧ (norm = .invokestatic k ∨ ((norm = .invokespecial k ∨ norm = .invokevirtual k) ∧ ∃ q w kd N rs, as = .ref q :: w ∧ sk[q]? = some (kd, N, rs) ∧ am_RC[k]? = some kd)) := by
  cases norm
  case invokestatic k2 =>
    obtain ⟨a, h1, h2, h3, hz⟩ := am_inv_inv (show am_inv k2 st = some _ from hstp)
    cases hz
    exact ⟨a, h1, h2, h3, rfl, rfl, Or.inl rfl⟩
  case invokespecial k2 =>
    obtain ⟨a, q, w, kd, N, rs, h1, h2, h3, h4, h5, h6, hz⟩ := am_invV_inv (show am_invV k2 st sk = some _ from hstp)
    cases hz
    exact ⟨a, h1, h2, h3, rfl, rfl, Or.inr ⟨Or.inl rfl, q, w, kd, N, rs, h4, h5, h6⟩⟩
  case invokevirtual k2 =>
    obtain ⟨a, q, w, kd, N, rs, h1, h2, h3, h4, h5, h6, hz⟩ := am_invV_inv (show am_invV k2 st sk = some _ from hstp)
    cases hz
    exact ⟨a, h1, h2, h3, rfl, rfl, Or.inr ⟨Or.inr rfl, q, w, kd, N, rs, h4, h5, h6⟩⟩
  all_goals exfalso
  all_goals (simp only [am_stp, am_go, am_i1, am_i2, am_i2z, am_ild, am_ist, am_ald, am_ast, am_get, am_put, am_putR, am_alen, am_new, am_newa, am_newq, am_copy, am_ilo, am_alo, am_iso, am_aso, am_inc, am_if1, am_if2, am_tsw, am_lsw] at hstp)
  all_goals (repeat' (split at hstp))
  all_goals first | (cases hstp; done) | (simp at hstp; done)
def am_isret (raw : Instr) (ret : Option FieldType) (v : Option Value) : Prop := (raw = .ireturn ∧ ∃ (x : Int32) (ty : FieldType), v = some (.int x) ∧ ret = some ty ∧ narrow ty (.int x) = .int x) ∨ (raw = .areturn ∧ ∃ (q : Nat) (C : String), v = some (.ref q) ∧ ret = some (.object C) ∧ q ≠ 28) ∨ (raw = .return_ ∧ v = none ∧ ret = none)
theorem am_stp_ret {norm raw : Instr} {pc nx pl : Nat} {own : String} {init : Bool} {ret : Option FieldType} {cc : ByteArray} {L : am_L} {st : List Value} {sk : am_K} {mem : am_M} {v : Option Value} (hrow : am_rowok own init ret cc (pc, norm, nx) (raw, pl) = true) (hstp : am_stp norm nx L st sk mem = some (.inr (.inr v))) : decode cc pc = .ok (raw, 1) ∧ am_isret raw ret v ∧ st = v.toList := by
  obtain ⟨h1, h2, h3⟩ := am_row_dec hrow
  cases norm
  case ireturn =>
    simp only [am_lk, decide_eq_true_eq] at h3
    obtain ⟨rfl, rfl, rfl⟩ := h3
    rw [show pc + 1 - pc = 1 by omega] at h1
    simp only [am_stp] at hstp
    split at hstp <;> cases hstp
    exact ⟨h1, Or.inl ⟨rfl, _, _, rfl, rfl, rfl⟩, rfl⟩
  case freturn =>
    simp only [am_lk, decide_eq_true_eq] at h3
    obtain ⟨rfl, rfl, rfl⟩ := h3
    rw [show pc + 1 - pc = 1 by omega] at h1
    simp only [am_stp] at hstp
    split at hstp
    · split at hstp <;> cases hstp
      rename_i x hx
      exact ⟨h1, Or.inl ⟨rfl, x, _, rfl, rfl, by rcases hx with rfl | rfl <;> rfl⟩, rfl⟩
    · cases hstp
  case lreturn =>
    simp only [am_lk, decide_eq_true_eq] at h3
    obtain ⟨rfl, rfl, rfl⟩ := h3
    rw [show pc + 1 - pc = 1 by omega] at h1
    simp only [am_stp] at hstp
    split at hstp
    · split at hstp <;> cases hstp
      rename_i x hx
      exact ⟨h1, Or.inl ⟨rfl, x, _, rfl, rfl, congrArg Value.int hx⟩, rfl⟩
    · cases hstp
  case dreturn =>
    simp only [am_lk, decide_eq_true_eq] at h3
    obtain ⟨rfl, rfl, rfl⟩ := h3
    rw [show pc + 1 - pc = 1 by omega] at h1
    simp only [am_stp] at hstp
    split at hstp
    · split at hstp <;> cases hstp
      rename_i x hx
      exact ⟨h1, Or.inl ⟨rfl, x, _, rfl, rfl, congrArg Value.int hx⟩, rfl⟩
    · cases hstp
  case areturn =>
    simp only [am_lk, Bool.and_eq_true, decide_eq_true_eq] at h3
    obtain ⟨⟨rfl, rfl⟩, h4⟩ := h3
    rw [show pc + 1 - pc = 1 by omega] at h1
    simp only [am_stp] at hstp
    split at hstp
    · split at hstp <;> cases hstp
      rename_i q hq
      split at h4
      · exact ⟨h1, Or.inr (Or.inl ⟨rfl, q, _, rfl, rfl, hq⟩), rfl⟩
      · cases h4
    · cases hstp
  case return_ =>
    simp only [am_lk, decide_eq_true_eq] at h3
    obtain ⟨rfl, rfl, rfl⟩ := h3
    rw [show pc + 1 - pc = 1 by omega] at h1
    simp only [am_stp] at hstp
    split at hstp <;> cases hstp
    exact ⟨h1, Or.inr (Or.inr ⟨rfl, rfl, rfl⟩), rfl⟩
  all_goals exfalso
  all_goals (simp only [am_stp, am_go, am_i1, am_i2, am_i2z, am_ild, am_ist, am_ald, am_ast, am_get, am_put, am_putR, am_alen, am_new, am_newa, am_newq, am_copy, am_inv, am_invV, am_ilo, am_alo, am_iso, am_aso, am_inc, am_if1, am_if2, am_tsw, am_lsw] at hstp)
  all_goals (repeat' (split at hstp))
  all_goals first | (cases hstp; done) | (simp at hstp; done)
end
section
/-! runs -/
def am_L0 (k : Nat) (as : List Value) : am_L := as.map some ++ List.replicate ((am_ML[k]?).getD 0 - as.length) none
def am_code (k : Nat) : am_C := (am_cs[k]?).getD []
/-- method k with these arguments, calls going at most d deep: it comes to Q -/
def am_ex : Nat → Nat → List Value → am_K → am_M → am_P → Prop
  | 0, _, _, _, _, _ => False
  | d + 1, k, as, sk, mem, Q => ∃ n, am_run (am_code k) (am_ex d) n 0 (am_L0 k as) [] sk mem Q
def am_eq (v : Option Value) (sk : am_K) (mem : am_M) : am_P := fun a b c => a = v ∧ b = sk ∧ c = mem
abbrev am_CT : Type := Nat → List Value → am_K → am_M → am_P → Prop
def am_monoC (call : am_CT) : Prop := ∀ k as sk mem (Q Q' : am_P), (∀ v a b, Q v a b → Q' v a b) → call k as sk mem Q → call k as sk mem Q'
def am_detC (call : am_CT) : Prop := ∀ k as sk mem (Q : am_P), call k as sk mem Q → ∃ v sk' mem', Q v sk' mem' ∧ call k as sk mem (am_eq v sk' mem')
theorem am_run_mono {code : am_C} {call : am_CT} (hc : am_monoC call) {Q Q' : am_P} (hQ : ∀ v a b, Q v a b → Q' v a b) : ∀ (n pc : Nat) (L : am_L) (st : List Value) (sk : am_K) (mem : am_M), am_run code call n pc L st sk mem Q → am_run code call n pc L st sk mem Q'
  | 0, _, _, _, _, _, h => h
  | n + 1, pc, L, st, sk, mem, h => by
    unfold am_run at h ⊢
    split at h
    · exact h.elim
    · split at h
      · exact h.elim
      · exact am_run_mono hc hQ n _ _ _ _ _ h
      · exact hc _ _ _ _ _ _ (fun v a b h2 => am_run_mono hc hQ n _ _ _ _ _ h2) h
      · exact hQ _ _ _ h
theorem am_run_det {code : am_C} {call : am_CT} (hm : am_monoC call) (hd : am_detC call) {Q : am_P} : ∀ (n pc : Nat) (L : am_L) (st : List Value) (sk : am_K) (mem : am_M), am_run code call n pc L st sk mem Q → ∃ v sk' mem', Q v sk' mem' ∧ am_run code call n pc L st sk mem (am_eq v sk' mem')
  | 0, _, _, _, _, _, h => h.elim
  | n + 1, pc, L, st, sk, mem, h => by
    unfold am_run at h
    split at h
    · exact h.elim
    · rename_i ins nx hat
      split at h
      · exact h.elim
      · rename_i hs
        obtain ⟨v, a, b, h1, h2⟩ := am_run_det hm hd n _ _ _ _ _ h
        refine ⟨v, a, b, h1, ?_⟩
        unfold am_run
        simp only [hat, hs]
        exact h2
      · rename_i hs
        obtain ⟨w, a, b, h1, h2⟩ := hd _ _ _ _ _ h
        obtain ⟨v, a2, b2, h3, h4⟩ := am_run_det hm hd n _ _ _ _ _ h1
        refine ⟨v, a2, b2, h3, ?_⟩
        unfold am_run
        simp only [hat, hs]
        refine hm _ _ _ _ _ _ (fun v' a' b' e => ?_) h2
        obtain ⟨rfl, rfl, rfl⟩ := e
        exact h4
      · rename_i hs
        refine ⟨_, _, _, h, ?_⟩
        unfold am_run
        simp only [hat, hs]
        exact ⟨rfl, rfl, rfl⟩
theorem am_ex_mono : ∀ d, am_monoC (am_ex d)
  | 0 => fun _ _ _ _ _ _ _ h => h
  | d + 1 => fun k as sk mem Q Q' hQ h => by
    obtain ⟨n, h⟩ := h
    exact ⟨n, am_run_mono (am_ex_mono d) hQ n _ _ _ _ _ h⟩
theorem am_ex_det : ∀ d, am_detC (am_ex d)
  | 0 => fun _ _ _ _ _ h => h.elim
  | d + 1 => fun k as sk mem Q h => by
    obtain ⟨n, h⟩ := h
    obtain ⟨v, a, b, h1, h2⟩ := am_run_det (am_ex_mono d) (am_ex_det d) n _ _ _ _ _ h
    exact ⟨v, a, b, h1, n, h2⟩
/-- deeper is no less -/
theorem am_run_call {code : am_C} {call call' : am_CT} (hc : ∀ k as sk mem Q, call k as sk mem Q → call' k as sk mem Q) (hm : am_monoC call') {Q : am_P} : ∀ (n pc : Nat) (L : am_L) (st : List Value) (sk : am_K) (mem : am_M), am_run code call n pc L st sk mem Q → am_run code call' n pc L st sk mem Q
  | 0, _, _, _, _, _, h => h
  | n + 1, pc, L, st, sk, mem, h => by
    unfold am_run at h ⊢
    split at h
    · exact h.elim
    · split at h
      · exact h.elim
      · exact am_run_call hc hm n _ _ _ _ _ h
      · exact hm _ _ _ _ _ _ (fun v a b h2 => am_run_call hc hm n _ _ _ _ _ h2) (hc _ _ _ _ _ h)
      · exact h
theorem am_ex_up1 : ∀ d k as sk mem Q, am_ex d k as sk mem Q → am_ex (d + 1) k as sk mem Q
  | 0, _, _, _, _, _, h => h.elim
  | d + 1, k, as, sk, mem, Q, h => by
    obtain ⟨n, h⟩ := h
    exact ⟨n, am_run_call (am_ex_up1 d) (am_ex_mono (d + 1)) n _ _ _ _ _ h⟩
theorem am_ex_up {d d' : Nat} (hd : d ≤ d') {k : Nat} {as : List Value} {sk : am_K} {mem : am_M} {Q : am_P} (h : am_ex d k as sk mem Q) : am_ex d' k as sk mem Q := by
  induction hd with
  | refl => exact h
  | step _ ih => exact am_ex_up1 _ _ _ _ _ _ ih
/-- what a run keeps -/
def am_ret (sk : am_K) (v : Option Value) (sk' : am_K) : Prop := sk.length ≤ sk'.length ∧ am_sz sk ≤ am_sz sk' ∧ am_wf sk' ∧ ∀ x, v = some x → am_okv sk'.length x
def am_goodC (call : am_CT) : Prop := ∀ k as sk mem v sk' mem', am_wf sk → 29 ≤ sk.length → am_okS sk.length as → am_AR[k]? = some as.length → call k as sk mem (am_eq v sk' mem') → am_ret sk v sk'
theorem am_rev_ok {N a : Nat} {st : List Value} (h : am_okS N st) : am_okS N (st.take a).reverse := fun v hv => h v (List.mem_of_mem_take (List.mem_reverse.mp hv))
theorem am_drop_ok {N a : Nat} {st : List Value} (h : am_okS N st) : am_okS N (st.drop a) := fun v hv => h v (List.mem_of_mem_drop hv)
theorem am_push_ok {N : Nat} {v : Option Value} {r : List Value} (hv : ∀ x, v = some x → am_okv N x) (h : am_okS N r) : am_okS N (v.toList ++ r) := fun w hw => by
  rcases List.mem_append.mp hw with hw | hw
  · cases v with
    | none => simp at hw
    | some x =>
      simp only [Option.toList_some, List.mem_singleton] at hw
      subst hw
      exact hv _ rfl
  · exact h w hw
theorem am_stp_retv {norm : Instr} {nx : Nat} {L : am_L} {st : List Value} {sk : am_K} {mem : am_M} {v : Option Value} (hstp : am_stp norm nx L st sk mem = some (.inr (.inr v))) : st = v.toList := by
  cases norm
  case ireturn =>
    simp only [am_stp] at hstp
    split at hstp <;> cases hstp
    rfl
  case freturn =>
    simp only [am_stp] at hstp
    split at hstp
    · split at hstp <;> cases hstp
      rfl
    · cases hstp
  case lreturn =>
    simp only [am_stp] at hstp
    split at hstp
    · split at hstp <;> cases hstp
      rfl
    · cases hstp
  case dreturn =>
    simp only [am_stp] at hstp
    split at hstp
    · split at hstp <;> cases hstp
      rfl
    · cases hstp
  case areturn =>
    simp only [am_stp] at hstp
    split at hstp
    · split at hstp <;> cases hstp
      rfl
    · cases hstp
  case return_ =>
    simp only [am_stp] at hstp
    split at hstp <;> cases hstp
    rfl
  all_goals exfalso
  all_goals (simp only [am_stp, am_go, am_i1, am_i2, am_i2z, am_ild, am_ist, am_ald, am_ast, am_get, am_put, am_putR, am_alen, am_new, am_newa, am_newq, am_copy, am_inv, am_invV, am_ilo, am_alo, am_iso, am_aso, am_inc, am_if1, am_if2, am_tsw, am_lsw] at hstp)
  all_goals (repeat' (split at hstp))
  all_goals first | (cases hstp; done) | (simp at hstp; done)
theorem am_run_good {code : am_C} {call : am_CT} (hm : am_monoC call) (hd : am_detC call) (hg : am_goodC call) {v1 : Option Value} {sk1 : am_K} {mem1 : am_M} : ∀ (n pc : Nat) (L : am_L) (st : List Value) (sk : am_K) (mem : am_M), am_wf sk → 29 ≤ sk.length → am_okS sk.length st → am_okL sk.length L → am_run code call n pc L st sk mem (am_eq v1 sk1 mem1) → am_ret sk v1 sk1
  | 0, _, _, _, _, _, _, _, _, _, h => h.elim
  | n + 1, pc, L, st, sk, mem, hwf, h29, hst, hL, h => by
    unfold am_run at h
    split at h
    · exact h.elim
    · rename_i ins nx hat
      split at h
      · exact h.elim
      · rename_i hs
        obtain ⟨k1, k2, k3, k4, k5, k6⟩ := am_stp_ok hs hwf h29 hst hL
        obtain ⟨r1, r2, r3, r4⟩ := am_run_good hm hd hg n _ _ _ _ _ k6 (by omega) k1 k2 h
        exact ⟨by omega, by omega, r3, r4⟩
      · rename_i k as r hs
        obtain ⟨a, g1, g2, g3, rfl, rfl, -⟩ := am_stp_call hs
        obtain ⟨w, a1, b1, h1, h2⟩ := hd _ _ _ _ _ h
        have has : ((st.take a).reverse).length = a := by simp; omega
        obtain ⟨q1, q2, q3, q4⟩ := hg _ _ _ _ _ _ _ hwf h29 (am_rev_ok hst) (by rw [has]; exact g1) h2
        obtain ⟨r1, r2, r3, r4⟩ := am_run_good hm hd hg n _ _ _ _ _ q3 (by omega) (am_push_ok q4 ((am_drop_ok hst).up q1)) (hL.up q1) h1
        exact ⟨by omega, by omega, r3, r4⟩
      · rename_i hs
        obtain ⟨rfl, rfl, rfl⟩ := h
        have hv := am_stp_retv hs
        refine ⟨Nat.le_refl _, Nat.le_refl _, hwf, fun x hx => ?_⟩
        subst hx
        rw [hv] at hst
        exact hst x (by simp)
theorem am_L0_ok {k N : Nat} {as : List Value} (h : am_okS N as) : am_okL N (am_L0 k as) := by
  intro i v hv
  unfold am_L0 at hv
  by_cases hi : i < as.length
  · rw [List.getElem?_append_left (by simpa using hi), List.getElem?_map] at hv
    cases ha : as[i]? with
    | none => rw [ha] at hv; cases hv
    | some w =>
      rw [ha] at hv
      cases hv
      exact h _ (List.mem_of_getElem? ha)
  · rw [List.getElem?_append_right (by simpa using hi)] at hv
    have := List.mem_of_getElem? hv
    simp at this
theorem am_ex_good : ∀ d, am_goodC (am_ex d)
  | 0 => fun _ _ _ _ _ _ _ _ _ _ _ h => h.elim
  | d + 1 => fun k as sk mem v sk' mem' hwf h29 has _ h => by
    obtain ⟨n, h⟩ := h
    exact am_run_good (am_ex_mono d) (am_ex_det d) (am_ex_good d) n _ _ _ _ _ hwf h29 (fun _ hv => by cases hv) (am_L0_ok has) h
end
section
/-! calls, and a method's contract out of its run on the small machine -/
def am_Pc (D : va_G) (fm : Value) (n : Nat) (xs : Nat → Int32) (ad : Nat → Nat) (aC : Nat → ClassId) (sk : am_K) (mem : am_M) (as : List Value) (sz : Nat) : Array Value → State → Prop := va_Pc (as.map (am_re ad fm)) (fun U => U.heap.size = sz ∧ am_At D fm n xs (fun _ => True) U ad aC sk mem U.heap ∧ va_K D vwCl [] U ∧ am_Fx fm n xs ad (va_A (am_w ad aC sk mem) sz) U U.heap)
def am_Qc (D : va_G) (fm : Value) (n : Nat) (xs : Nat → Int32) (ad : Nat → Nat) (aC : Nat → ClassId) (sk : am_K) (mem : am_M) (sz : Nat) (v : Option Value) (sk' : am_K) (mem' : am_M) : Array Value → State → Outcome → State → Prop := fun _ st oc t => (∃ (ad' : Nat → Nat) (aC' : Nat → ClassId), (∀ o, o < sk.length → ad' o = ad o ∧ aC' o = aC o) ∧ oc = .returned (v.map (am_re ad' fm)) ∧ am_At D fm n xs (va_A (am_w ad aC sk mem) sz) t ad' aC' sk' mem' t.heap) ∧ va_F (va_A (am_w ad aC sk mem) sz) st t
def am_IH (l : Launch) (d : Nat) : Prop := ∀ (k : Nat) (as : List Value) (sk : am_K) (mem : am_M) (v : Option Value) (sk' : am_K) (mem' : am_M), k < 254 → am_ex d k as sk mem (am_eq v sk' mem') → am_wf sk → 29 ≤ sk.length → am_okS sk.length as → am_AR[k]? = some as.length → ∀ (D : va_G) (fm : Value) (n : Nat) (xs : Nat → Int32) (ad : Nat → Nat) (aC : Nat → ClassId) (sz : Nat) (y : MethodName) (b : ByteArray) (r : Option FieldType) (nl : Nat), am_ys[k]? = some y → am_bs[k]? = some b → am_rs[k]? = some r → am_ML[k]? = some nl → fm.category = 1 → Met l y (Cond.code y b nl r :: am_tb) { frames := d, cells := sk'.length - sk.length, slots := am_sz sk' - am_sz sk, locals := 64 * d } (am_Pc D fm n xs ad aC sk mem as sz) (am_Qc D fm n xs ad aC sk mem sz v sk' mem') (sk'.length - sk.length) (am_sz sk' - am_sz sk) (va_A (am_w ad aC sk mem) sz)
theorem am_At.moved {D : va_G} {fm : Value} {n : Nat} {xs : Nat → Int32} {A : Nat → Prop} {s U : State} {ad : Nat → Nat} {aC : Nat → ClassId} {sk : am_K} {mem : am_M} {H : Heap} (hv : s.vm.Alike U.vm) (h : am_At D fm n xs A s ad aC sk mem H) : am_At D fm n xs A U ad aC sk mem H := ⟨h.1, h.2.1, fun o e h1 h2 h3 => ⟨arrOfT_moved hv (h.2.2.1 o e h1 h2 h3).1, (h.2.2.1 o e h1 h2 h3).2.moved hv⟩, h.2.2.2⟩
theorem am_At.weaken {D : va_G} {fm : Value} {n : Nat} {xs : Nat → Int32} {A B : Nat → Prop} {s : State} {ad : Nat → Nat} {aC : Nat → ClassId} {sk : am_K} {mem : am_M} {H : Heap} (hAB : ∀ q, A q → B q) (h : am_At D fm n xs A s ad aC sk mem H) : am_At D fm n xs B s ad aC sk mem H := ⟨h.1, h.2.1.weaken (fun _ _ _ z => hAB _ z), h.2.2⟩
theorem am_blind (D : va_G) (fm : Value) (n : Nat) (xs : Nat → Int32) (ad : Nat → Nat) (aC : Nat → ClassId) (sk : am_K) (mem : am_M) (as : List Value) (sz : Nat) : FrameBlind (am_Pc D fm n xs ad aC sk mem as sz) := by
  intro a U g mk h
  obtain ⟨h1, h2, h3, h4, h5⟩ := h
  exact ⟨h1, h2, h3.moved (U := U.calling g mk a) (Vm.Alike.refl U.vm), va_K.moved (u := U) (U := U.calling g mk a) (Vm.Alike.refl U.vm) h4, h5.same (s := U) (U := U.calling g mk a) rfl⟩
section AMC
variable {p : Program} {l : Launch} {e : Env} {R : Room} {s : State} {m : MethodId} {args : Array Value} {below : List Frame} {meth : Method} {c : Code} {Qf : State → Prop} {D : va_G} {fm : Value} {n : Nat} {xs : Nat → Int32} {A : Nat → Prop} {cc : ByteArray} {own : String} {init : Bool} {ret : Option FieldType} {nL : Nat}
variable {pc nx : Nat} {L : am_L} {st : List Value} {sk : am_K} {mem : am_M} {ad : Nat → Nat} {aC : Nat → ClassId} {cells slots : Nat} {raw norm : Instr} {pl : Nat}
theorem am_wA {H : Heap} {locs : List Loc} (hA : am_At D fm n xs A s ad aC sk mem H) (hS : va_S A s.heap H locs) (hn : ∀ q, s.heap.size ≤ q → A q) : ∀ q, va_A (am_w ad aC sk mem) H.size q → A q := by
  intro q h
  rcases h with ⟨k, x, h⟩ | h
  · exact hA.2.1.2 k (q, x) h
  · exact hn q (Nat.le_trans hS.1 h)
/-- behind a call -/
theorem am_after {H : Heap} {locs : List Loc} {ls : Array Slot} {st0 rest : List Value} {a : Array Value} {mc ms : Nat} {v : Option Value} {sk' : am_K} {mem' : am_M} (hr : va_Run p l e R s m args below meth c H locs cells slots mc ms (F0 m pc ls st0) rest (am_Qc D fm n xs ad aC sk mem H.size v sk' mem' a) (va_A (am_w ad aC sk mem) H.size)) (hA : am_At D fm n xs A s ad aC sk mem H) (hS : va_S A s.heap H locs) (hn : ∀ q, s.heap.size ≤ q → A q)
    (kk : ∀ (ad' : Nat → Nat) (aC' : Nat → ClassId) (H1 : Heap) (locs1 : List Loc), (∀ o, o < sk.length → ad' o = ad o ∧ aC' o = aC o) → am_At D fm n xs A s ad' aC' sk' mem' H1 → va_S A s.heap H1 locs1 → W p l e R s m args below meth c H1 locs1 (cells + mc) (slots + ms) Qf (F0 m (pc + 3) ls ((v.map (am_re ad' fm)).toList ++ rest))) : W p l e R s m args below meth c H locs cells slots Qf (F0 m pc ls st0) := by
  have hF := am_wA hA hS hn
  intro T hT X
  obtain ⟨v', st₀, t, T', L1, h0, X', hL, e1, e2, ⟨⟨ad', aC', he, hv, hAt⟩, hz, hk⟩, st⟩ := hr T hT X
  cases hv
  rw [h0] at hz hk
  have hal : t.vm.Alike s.vm := by rw [← e2]; exact X'.warmed.alike.symm
  have hAt2 : am_At D fm n xs A s ad' aC' sk' mem' T'.heap := by
    rw [e1]
    exact (hAt.moved hal).weaken hF
  obtain ⟨t2, a1, b1⟩ := kk ad' aC' T'.heap (locs ++ L1) he hAt2 ⟨Nat.le_trans hS.1 (by rw [e1]; exact hz), fun q h1 h2 => by rw [e1, hk q (Nat.lt_of_lt_of_le h1 hS.1) (fun z => h2 (hF q z))]; exact hS.2.1 q h1 h2, fun q hq => by
      rcases List.mem_append.mp hq with h | h
      · exact hS.2.2 q h
      · exact hF _ (hL q h)⟩ T' rfl X'
  exact ⟨t2, st t2 a1, b1⟩
theorem am_mok_of {k : Nat} {y : MethodName} {b : ByteArray} {r : Option FieldType} {nl a : Nat} (h : am_mok k = true) (hy : am_ys[k]? = some y) (hb : am_bs[k]? = some b) (hr : am_rs[k]? = some r) (hn : am_ML[k]? = some nl) (ha : am_AR[k]? = some a) : ∃ w z, am_ms[k]? = some w ∧ am_RC[k]? = some z ∧ am_wd w.1 (.code y b nl r) = true ∧ am_wd w.2.2.2 (.initialized y.cls) = true ∧ y.cls ≠ "java/lang/invoke/MethodHandle" ∧ y.cls ≠ "java/lang/invoke/VarHandle" ∧ plainFor y = true ∧ a ≤ nl ∧ nl ≤ 20 ∧ (parseMethodDescriptor y.desc).map (fun d => d.parameters.length) = some (if am_wd w.2.1 (.static y) = true then a else a - 1) ∧ (am_wd w.2.1 (.static y) = true ∨ (0 < a ∧ (match vwCl[z]? with
    | some q => decide (q.1 = y.cls)
    | none => decide (z = 13 ∧ y.cls = "java/lang/String")) = true)) := by
  unfold am_mok at h
  rw [hy, hb, hr, hn, ha] at h
  split at h
  · rename_i y' b' r' w n' a' z e1 e2 e3 e4 e5 e6 e7
    cases e1; cases e2; cases e3; cases e5; cases e6
    simp only [Bool.and_eq_true, Bool.or_eq_true, decide_eq_true_eq] at h
    obtain ⟨⟨⟨h1, h2⟩, h3, h4, h5, h6, h7, h8⟩, h9⟩ := h
    exact ⟨w, z, e4, e7, h1, h2, h3, h4, h5, h6, h7, h8, h9⟩
  · cases h
theorem am_ws_good {k : Nat} {y : MethodName} {b : ByteArray} {r : Option FieldType} {nl pl1 : Nat} (h : am_wd pl1 (.code y b nl r) = true) : GoodIn am_tb (Cond.code y b nl r :: am_tb) := by
  intro w hw
  rcases List.mem_cons.mp hw with rfl | hw
  · exact ⟨am_tb_at pl1 (am_wd_of h) rfl, Or.inl rfl⟩
  · exact ⟨hw, good_of_word (List.mem_filter.mp hw).2⟩
theorem am_not_both {y : MethodName} {p1 p2 : Nat} (h1 : am_wd p1 (.static y) = true) (h2 : am_wd p1 (.instanceMethod y) = true) : False := by
  have e := (am_wd_of h1).symm.trans (am_wd_of h2)
  cases e
theorem am_init_all : (List.range 254).all (fun k => match am_ys[k]?, am_rs[k]? with
    | some y, some r => !decide (y.name = "<init>") || decide (r = none)
    | _, _ => false) = true := by decide +kernel
theorem am_init_ret {k : Nat} {y : MethodName} {r : Option FieldType} (hk : k < 254) (hy : am_ys[k]? = some y) (hr : am_rs[k]? = some r) (h : y.name = "<init>") : r = none := by
  have := List.all_eq_true.mp am_init_all k (List.mem_range.mpr hk)
  rw [hy, hr] at this
  simp only [h, decide_true, Bool.not_true, Bool.false_or, decide_eq_true_eq] at this
  exact this
set_option maxHeartbeats 2000000 in
/-- a call, whichever of the three it is -/
theorem am_call {d k : Nat} {as r : List Value} {v : Option Value} {sk' : am_K} {mem' : am_M} (hm : am_Me p s m args meth c D fm A cc own init nL) (hrow : am_rowok own init ret cc (pc, norm, nx) (raw, pl) = true) (IH : am_IH l d) (hok : ∀ k, k < 254 → am_mok k = true) (hstp : am_stp norm nx L st sk mem = some (.inr (.inl (k, as, r)))) (hex : am_ex d k as sk mem (am_eq v sk' mem')) (hwf : am_wf sk) (h29 : 29 ≤ sk.length) (hst : am_okS sk.length st) (hL : am_okL sk.length L) (hLn : L.length = nL) (hRf : d + 1 ≤ R.frames) (hRl : 64 * (d + 1) ≤ R.locals) (hc : cells + (sk'.length - sk.length) ≤ R.cells) (hs : slots + (am_sz sk' - am_sz sk) ≤ R.slots) (hk : k < 254)
    (kk : ∀ (ad' : Nat → Nat) (aC' : Nat → ClassId), (∀ o, o < sk.length → ad' o = ad o ∧ aC' o = aC o) → am_K1 p l e R s m args below meth c Qf D fm n xs A nx L (v.toList ++ r) sk' mem' ad' aC' (cells + (sk'.length - sk.length)) (slots + (am_sz sk' - am_sz sk))) : am_K1 p l e R s m args below meth c Qf D fm n xs A pc L st sk mem ad aC cells slots := by
  obtain ⟨h1, h2, h3⟩ := am_row_dec hrow
  obtain ⟨a, ha, g2, g3, rfl, rfl, hn⟩ := am_stp_call hstp
  have hal : ((st.take a).reverse).length = a := by simp; omega
  obtain ⟨y, hy⟩ : ∃ y, am_ys[k]? = some y := ⟨_, List.getElem?_eq_getElem (show k < am_ys.length from Nat.lt_of_lt_of_le hk (by decide +kernel))⟩
  obtain ⟨b, hb⟩ : ∃ y, am_bs[k]? = some y := ⟨_, List.getElem?_eq_getElem (show k < am_bs.length from Nat.lt_of_lt_of_le hk (by decide +kernel))⟩
  obtain ⟨rt, hrt⟩ : ∃ y, am_rs[k]? = some y := ⟨_, List.getElem?_eq_getElem (show k < am_rs.length from Nat.lt_of_lt_of_le hk (by decide +kernel))⟩
  obtain ⟨nl, hnl⟩ : ∃ y, am_ML[k]? = some y := ⟨_, List.getElem?_eq_getElem (show k < am_ML.length from Nat.lt_of_lt_of_le hk (by decide +kernel))⟩
  obtain ⟨w, z, hw, hz, m1, m2, m3, m4, m5, m6, m7, m8, m9⟩ := am_mok_of (hok k hk) hy hb hrt hnl ha
  have hasok : am_okS sk.length (st.take a).reverse := am_rev_ok hst
  intro H locs ls hA hF hl hS
  have hMet := IH k _ sk mem v sk' mem' hk hex hwf h29 hasok (by rw [hal]; exact ha) D fm n xs ad aC H.size y b rt nl hy hb hrt hnl hm.2.2.2.2.2.2.2.1
  have hwA := am_wA hA hS hm.2.2.2.2.2.2.1
  have hpre : ∀ U : State, U.heap = H → s.WarmedH U.vm → am_Pc D fm n xs ad aC sk mem (st.take a).reverse H.size ((st.take a).reverse.map (am_re ad fm)).toArray U := by
    intro U hU hW
    refine ⟨rfl, by rw [hU], by rw [hU]; exact (hA.moved hW.alike).weaken (fun _ _ => trivial), va_K.moved hW.alike hm.2.2.2.2.2.1, ?_⟩
    rw [hU]
    exact am_Fx.go hW hS.2.1 hwA hF
  have hstk : st.map (am_re ad fm) = ((st.take a).reverse.map (am_re ad fm)).reverse ++ (st.drop a).map (am_re ad fm) := by
    rw [← List.map_reverse, List.reverse_reverse, ← List.map_append, List.take_append_drop]
  have hroom := lv_room (m := m) (pc := pc) (ls := ls) (rest := st.map (am_re ad fm)) (st := (st.drop a).map (am_re ad fm)) (by rw [am_sum hm.2.2.2.2.2.2.2.1 (am_drop_ok hst)]; simp; omega)
  have hfix : CallFix p m c cc nL s args am_tb own := ⟨hm.1, hm.2.1, hm.2.2.2.2.2.2.2.2, hm.2.2.1, hm.2.2.2.1⟩
  have hgood : GoodIn am_tb (Cond.code y b nl rt :: am_tb) := am_ws_good (k := k) m1
  have hR : d + 1 ≤ R.frames ∧ 8 + (nl + 11) + 64 * d ≤ R.locals := ⟨hRf, by omega⟩
  have hend : nx = pc + 3 → va_Run p l e R s m args below meth c H locs cells slots (sk'.length - sk.length) (am_sz sk' - am_sz sk) (F0 m pc ls (st.map (am_re ad fm))) ((st.drop a).map (am_re ad fm)) (am_Qc D fm n xs ad aC sk mem H.size v sk' mem' ((st.take a).reverse.map (am_re ad fm)).toArray) (va_A (am_w ad aC sk mem) H.size) → W p l e R s m args below meth c H locs cells slots Qf (F0 m pc ls (st.map (am_re ad fm))) := by
    intro e1 hrun
    subst e1
    refine am_after hrun hA hS hm.2.2.2.2.2.2.1 (fun ad' aC' H1 locs1 he hA1 hS1 => ?_)
    have hext : ∀ o, o < sk.length → ad' o = ad o := fun o ho => (he o ho).1
    have k3 := kk ad' aC' he H1 locs1 ls hA1 (hF.congr (fun o ho => hext o (by omega))) (by show lv_has ls L.length (am_lv ad' fm L); rw [am_lv_ext hext hL]; exact hl) hS1
    rw [List.map_append, am_st_ext hext (am_drop_ok hst)] at k3
    have e3 : (v.map (am_re ad' fm)).toList = v.toList.map (am_re ad' fm) := by cases v <;> rfl
    rw [e3]
    exact k3
  rcases hn with rfl | ⟨hn, q, w1, kd, N, rs, hq1, hq2, hq3⟩
  · -- static
    simp only [am_lk] at h3
    split at h3
    · rename_i idx
      simp only [Bool.and_eq_true, decide_eq_true_eq] at h3
      obtain ⟨rfl, h4⟩ := h3
      rw [show pc + 3 - pc = 3 by omega] at h1
      rw [hy, hw] at h4
      simp only [Bool.and_eq_true] at h4
      obtain ⟨h4, h5⟩ := h4
      rw [if_pos h5] at m8
      refine hend rfl ?_
      unfold am_mlk at h4
      split at h4
      · exact va_runS (As := (st.take a).reverse.map (am_re ad fm)) hfix hMet ⟨callB_of a hm.2.2.2.1 hgood rfl rfl rfl (am_hts hm m2 rfl) (am_hts hm h4 rfl) ⟨m3, m4, m8⟩ hR, am_hts hm h5 rfl⟩ ⟨am_blind _ _ _ _ _ _ _ _ _ _, hpre⟩ rfl (by rw [List.length_map, hal]) (by show ls.size = nL; rw [hl.1, hLn]) hstk hroom h1 ⟨hc, hs⟩
      · split at h4
        · rename_i nq hnq
          simp only [decide_eq_true_eq] at h4
          obtain ⟨rfl, rfl, rfl⟩ := h4
          exact va_runSN (As := (st.take a).reverse.map (am_re ad fm)) hfix hMet ⟨va_cnB a hm.2.2.2.1 hgood rfl rfl rfl (hF.2.2.2.2.2.2.1 nq (List.mem_of_getElem? hnq)) (am_hts hm m2 rfl) ⟨m3, m4, m8⟩ hR, am_hts hm h5 rfl, trivial⟩ ⟨am_blind _ _ _ _ _ _ _ _ _ _, hpre⟩ rfl (by rw [List.length_map, hal]) (by show ls.size = nL; rw [hl.1, hLn]) hstk hroom h1 ⟨hc, hs⟩
        · cases h4
    · cases h3
  · have hq28 : q ≠ 28 := by
      intro e1
      subst e1
      have e2 := (hA.2.2.2.1.2.1 28 (by omega)).symm.trans hq2
      rcases am_ro_kind (n := n) (by omega) e2 with ⟨e3, -⟩ | ⟨e3, -⟩ | ⟨i1, hi1, e3, -⟩ | ⟨i1, hi1, e3, -⟩ | ⟨-, e3⟩
      · cases e3
      · cases e3
      · omega
      · omega
      · cases e3
        exact absurd (List.mem_of_getElem? hq3) (by decide +kernel)
    have hmap : (st.take a).reverse.map (am_re ad fm) = .ref (ad q) :: w1.map (am_re ad fm) := by rw [hq1, List.map_cons, am_re_ref hq28]
    have hlen : (w1.map (am_re ad fm)).length = a - 1 := by
      have := congrArg List.length hq1
      rw [hal, List.length_cons] at this
      rw [List.length_map]
      omega
    have hpre2 : ∀ U : State, U.heap = H → s.WarmedH U.vm → am_Pc D fm n xs ad aC sk mem (st.take a).reverse H.size (Value.ref (ad q) :: w1.map (am_re ad fm)).toArray U := by
      intro U hU hW
      have := hpre U hU hW
      rw [hmap] at this
      exact this
    have hstk2 : st.map (am_re ad fm) = (w1.map (am_re ad fm)).reverse ++ .ref (ad q) :: (st.drop a).map (am_re ad fm) := by
      rw [hstk, hmap, List.reverse_cons, List.append_assoc]
      rfl
    rcases hn with rfl | rfl
    · -- a constructor
      simp only [am_lk] at h3
      split at h3
      · rename_i idx
        simp only [Bool.and_eq_true, decide_eq_true_eq] at h3
        obtain ⟨rfl, h4⟩ := h3
        rw [show pc + 3 - pc = 3 by omega] at h1
        rw [hy, hw] at h4
        simp only [Bool.and_eq_true, decide_eq_true_eq] at h4
        obtain ⟨⟨h4, h5⟩, h6⟩ := h4
        have hns : ¬ am_wd w.2.1 (.static y) = true := fun z => am_not_both (p2 := 0) z h5
        rw [if_neg hns] at m8
        have hrn : rt = none := am_init_ret hk hy hrt h6
        subst hrn
        refine hend rfl ?_
        unfold am_mlk at h4
        split at h4
        · exact va_runI (As := w1.map (am_re ad fm)) hfix hMet ⟨callB_of (a - 1) hm.2.2.2.1 hgood rfl rfl rfl (am_hts hm m2 rfl) (am_hts hm h4 rfl) ⟨m3, m4, m8⟩ hR, h6, am_hts hm h5 rfl⟩ ⟨am_blind _ _ _ _ _ _ _ _ _ _, hpre2⟩ rfl hlen (by show ls.size = nL; rw [hl.1, hLn]) hstk2 hroom h1 ⟨hc, hs⟩
        · split at h4
          · rename_i nq hnq
            simp only [decide_eq_true_eq] at h4
            obtain ⟨rfl, rfl, rfl⟩ := h4
            exact va_runIN (As := w1.map (am_re ad fm)) hfix hMet ⟨va_cnB (a - 1) hm.2.2.2.1 hgood rfl rfl rfl (hF.2.2.2.2.2.2.1 nq (List.mem_of_getElem? hnq)) (am_hts hm m2 rfl) ⟨m3, m4, m8⟩ hR, h6, am_hts hm h5 rfl⟩ ⟨am_blind _ _ _ _ _ _ _ _ _ _, hpre2⟩ rfl hlen (by show ls.size = nL; rw [hl.1, hLn]) hstk2 hroom h1 ⟨hc, hs⟩
          · cases h4
      · cases h3
    · -- an object's own
      simp only [am_lk] at h3
      split at h3
      · rename_i idx
        simp only [Bool.and_eq_true, decide_eq_true_eq] at h3
        obtain ⟨rfl, h4⟩ := h3
        rw [show pc + 3 - pc = 3 by omega] at h1
        rw [hy, hw] at h4
        simp only [Bool.and_eq_true] at h4
        obtain ⟨⟨h4, h5⟩, h6⟩ := h4
        have hns : ¬ am_wd w.2.1 (.static y) = true := fun z => am_not_both (p2 := 0) z h5
        rw [if_neg hns] at m8
        have m9 := (m9.resolve_left hns).2
        have hkd : kd = z := Option.some.inj (hq3.symm.trans hz)
        subst hkd
        have hrecv : ∃ cell : Cell, H[ad q]? = some cell ∧ cell.vm.isStatics = false ∧ s.vm.findClass y.cls = some cell.cls := by
          split at m9
          · rename_i wc hwc
            simp only [decide_eq_true_eq] at m9
            obtain ⟨c13, -⟩ := am_cls hwc
            have hq29 : 29 ≤ q := by
              rcases Nat.lt_or_ge q 29 with z1 | z1
              · have hr := hA.2.2.2.1
                rcases am_ro_kind (n := n) z1 ((hr.2.1 q z1).symm.trans hq2) with ⟨e1, e2⟩ | ⟨e1, e2⟩ | ⟨i1, hi1, e1, e2⟩ | ⟨i1, hi1, e1, e2⟩ | ⟨-, e2⟩ <;> (have e3 := congrArg Prod.fst e2; simp only at e3; omega)
              · exact z1
            have hw2 := am_w_at (ad := ad) (aC := aC) (mem := mem) hq2 hq29
            simp only [am_cell, if_pos c13] at hw2
            have := va_recv hm.2.2.2.2.2.1 hA.1 hwc hw2
            rw [m9] at this
            exact this
          · simp only [decide_eq_true_eq] at m9
            obtain ⟨rfl, e2⟩ := m9
            rw [e2]
            have hr := hA.2.2.2.1
            have hq29 : q < 29 := by
              rcases Nat.lt_or_ge q 29 with z1 | z1
              · exact z1
              · exact absurd rfl (hA.2.2.2.2.2 q _ z1 hq2).1
            rcases am_ro_kind (n := n) hq29 ((hr.2.1 q hq29).symm.trans hq2) with ⟨e1, e2⟩ | ⟨e1, e2⟩ | ⟨i1, hi1, e1, e2⟩ | ⟨i1, hi1, e1, e2⟩ | ⟨-, e2⟩
            · cases e2
            · cases e2
            · subst e1
              exact vk_recv (i := i1) (adK := fun i => ad (2 + i)) hF.2.2.1 hi1 hS
            · cases e2
            · cases e2
        refine hend rfl ?_
        unfold am_mlk at h4
        split at h4
        · exact va_runV (C := y.cls) (As := w1.map (am_re ad fm)) hfix hMet ⟨callB_of (a - 1) hm.2.2.2.1 hgood rfl rfl rfl (am_hts hm m2 rfl) (am_hts hm h4 rfl) ⟨m3, m4, m8⟩ hR, am_hts hm h5 rfl, am_hts hm h6 rfl⟩ ⟨am_blind _ _ _ _ _ _ _ _ _ _, hrecv, hpre2⟩ rfl hlen (by show ls.size = nL; rw [hl.1, hLn]) hstk2 hroom h1 ⟨hc, hs⟩
        · split at h4
          · rename_i nq hnq
            simp only [decide_eq_true_eq] at h4
            obtain ⟨rfl, rfl, rfl⟩ := h4
            exact va_runVN (C := nq.2.2.1.cls) (As := w1.map (am_re ad fm)) hfix hMet ⟨va_cnB (a - 1) hm.2.2.2.1 hgood rfl rfl rfl (hF.2.2.2.2.2.2.1 nq (List.mem_of_getElem? hnq)) (am_hts hm m2 rfl) ⟨m3, m4, m8⟩ hR, am_hts hm h5 rfl, am_hts hm h6 rfl⟩ ⟨am_blind _ _ _ _ _ _ _ _ _ _, hrecv, hpre2⟩ rfl hlen (by show ls.size = nL; rw [hl.1, hLn]) hstk2 hroom h1 ⟨hc, hs⟩
          · cases h4
      · cases h3
end AMC
end
section
/-! a whole run of the small machine, done by the real one -/
theorem am_oks : ∀ k, k < 254 → am_mok k = true := by
  intro k hk
  match k, hk with
  | 0, _ => exact am_o0
  | 1, _ => exact am_o1
  | 2, _ => exact am_o2
  | 3, _ => exact am_o3
  | 4, _ => exact am_o4
  | 5, _ => exact am_o5
  | 6, _ => exact am_o6
  | 7, _ => exact am_o7
  | 8, _ => exact am_o8
  | 9, _ => exact am_o9
  | 10, _ => exact am_o10
  | 11, _ => exact am_o11
  | 12, _ => exact am_o12
  | 13, _ => exact am_o13
  | 14, _ => exact am_o14
  | 15, _ => exact am_o15
  | 16, _ => exact am_o16
  | 17, _ => exact am_o17
  | 18, _ => exact am_o18
  | 19, _ => exact am_o19
  | 20, _ => exact am_o20
  | 21, _ => exact am_o21
  | 22, _ => exact am_o22
  | 23, _ => exact am_o23
  | 24, _ => exact am_o24
  | 25, _ => exact am_o25
  | 26, _ => exact am_o26
  | 27, _ => exact am_o27
  | 28, _ => exact am_o28
  | 29, _ => exact am_o29
  | 30, _ => exact am_o30
  | 31, _ => exact am_o31
  | 32, _ => exact am_o32
  | 33, _ => exact am_o33
  | 34, _ => exact am_o34
  | 35, _ => exact am_o35
  | 36, _ => exact am_o36
  | 37, _ => exact am_o37
  | 38, _ => exact am_o38
  | 39, _ => exact am_o39
  | 40, _ => exact am_o40
  | 41, _ => exact am_o41
  | 42, _ => exact am_o42
  | 43, _ => exact am_o43
  | 44, _ => exact am_o44
  | 45, _ => exact am_o45
  | 46, _ => exact am_o46
  | 47, _ => exact am_o47
  | 48, _ => exact am_o48
  | 49, _ => exact am_o49
  | 50, _ => exact am_o50
  | 51, _ => exact am_o51
  | 52, _ => exact am_o52
  | 53, _ => exact am_o53
  | 54, _ => exact am_o54
  | 55, _ => exact am_o55
  | 56, _ => exact am_o56
  | 57, _ => exact am_o57
  | 58, _ => exact am_o58
  | 59, _ => exact am_o59
  | 60, _ => exact am_o60
  | 61, _ => exact am_o61
  | 62, _ => exact am_o62
  | 63, _ => exact am_o63
  | 64, _ => exact am_o64
  | 65, _ => exact am_o65
  | 66, _ => exact am_o66
  | 67, _ => exact am_o67
  | 68, _ => exact am_o68
  | 69, _ => exact am_o69
  | 70, _ => exact am_o70
  | 71, _ => exact am_o71
  | 72, _ => exact am_o72
  | 73, _ => exact am_o73
  | 74, _ => exact am_o74
  | 75, _ => exact am_o75
  | 76, _ => exact am_o76
  | 77, _ => exact am_o77
  | 78, _ => exact am_o78
  | 79, _ => exact am_o79
  | 80, _ => exact am_o80
  | 81, _ => exact am_o81
  | 82, _ => exact am_o82
  | 83, _ => exact am_o83
  | 84, _ => exact am_o84
  | 85, _ => exact am_o85
  | 86, _ => exact am_o86
  | 87, _ => exact am_o87
  | 88, _ => exact am_o88
  | 89, _ => exact am_o89
  | 90, _ => exact am_o90
  | 91, _ => exact am_o91
  | 92, _ => exact am_o92
  | 93, _ => exact am_o93
  | 94, _ => exact am_o94
  | 95, _ => exact am_o95
  | 96, _ => exact am_o96
  | 97, _ => exact am_o97
  | 98, _ => exact am_o98
  | 99, _ => exact am_o99
  | 100, _ => exact am_o100
  | 101, _ => exact am_o101
  | 102, _ => exact am_o102
  | 103, _ => exact am_o103
  | 104, _ => exact am_o104
  | 105, _ => exact am_o105
  | 106, _ => exact am_o106
  | 107, _ => exact am_o107
  | 108, _ => exact am_o108
  | 109, _ => exact am_o109
  | 110, _ => exact am_o110
  | 111, _ => exact am_o111
  | 112, _ => exact am_o112
  | 113, _ => exact am_o113
  | 114, _ => exact am_o114
  | 115, _ => exact am_o115
  | 116, _ => exact am_o116
  | 117, _ => exact am_o117
  | 118, _ => exact am_o118
  | 119, _ => exact am_o119
  | 120, _ => exact am_o120
  | 121, _ => exact am_o121
  | 122, _ => exact am_o122
  | 123, _ => exact am_o123
  | 124, _ => exact am_o124
  | 125, _ => exact am_o125
  | 126, _ => exact am_o126
  | 127, _ => exact am_o127
  | 128, _ => exact am_o128
  | 129, _ => exact am_o129
  | 130, _ => exact am_o130
  | 131, _ => exact am_o131
  | 132, _ => exact am_o132
  | 133, _ => exact am_o133
  | 134, _ => exact am_o134
  | 135, _ => exact am_o135
  | 136, _ => exact am_o136
  | 137, _ => exact am_o137
  | 138, _ => exact am_o138
  | 139, _ => exact am_o139
  | 140, _ => exact am_o140
  | 141, _ => exact am_o141
  | 142, _ => exact am_o142
  | 143, _ => exact am_o143
  | 144, _ => exact am_o144
  | 145, _ => exact am_o145
  | 146, _ => exact am_o146
  | 147, _ => exact am_o147
  | 148, _ => exact am_o148
  | 149, _ => exact am_o149
  | 150, _ => exact am_o150
  | 151, _ => exact am_o151
  | 152, _ => exact am_o152
  | 153, _ => exact am_o153
  | 154, _ => exact am_o154
  | 155, _ => exact am_o155
  | 156, _ => exact am_o156
  | 157, _ => exact am_o157
  | 158, _ => exact am_o158
  | 159, _ => exact am_o159
  | 160, _ => exact am_o160
  | 161, _ => exact am_o161
  | 162, _ => exact am_o162
  | 163, _ => exact am_o163
  | 164, _ => exact am_o164
  | 165, _ => exact am_o165
  | 166, _ => exact am_o166
  | 167, _ => exact am_o167
  | 168, _ => exact am_o168
  | 169, _ => exact am_o169
  | 170, _ => exact am_o170
  | 171, _ => exact am_o171
  | 172, _ => exact am_o172
  | 173, _ => exact am_o173
  | 174, _ => exact am_o174
  | 175, _ => exact am_o175
  | 176, _ => exact am_o176
  | 177, _ => exact am_o177
  | 178, _ => exact am_o178
  | 179, _ => exact am_o179
  | 180, _ => exact am_o180
  | 181, _ => exact am_o181
  | 182, _ => exact am_o182
  | 183, _ => exact am_o183
  | 184, _ => exact am_o184
  | 185, _ => exact am_o185
  | 186, _ => exact am_o186
  | 187, _ => exact am_o187
  | 188, _ => exact am_o188
  | 189, _ => exact am_o189
  | 190, _ => exact am_o190
  | 191, _ => exact am_o191
  | 192, _ => exact am_o192
  | 193, _ => exact am_o193
  | 194, _ => exact am_o194
  | 195, _ => exact am_o195
  | 196, _ => exact am_o196
  | 197, _ => exact am_o197
  | 198, _ => exact am_o198
  | 199, _ => exact am_o199
  | 200, _ => exact am_o200
  | 201, _ => exact am_o201
  | 202, _ => exact am_o202
  | 203, _ => exact am_o203
  | 204, _ => exact am_o204
  | 205, _ => exact am_o205
  | 206, _ => exact am_o206
  | 207, _ => exact am_o207
  | 208, _ => exact am_o208
  | 209, _ => exact am_o209
  | 210, _ => exact am_o210
  | 211, _ => exact am_o211
  | 212, _ => exact am_o212
  | 213, _ => exact am_o213
  | 214, _ => exact am_o214
  | 215, _ => exact am_o215
  | 216, _ => exact am_o216
  | 217, _ => exact am_o217
  | 218, _ => exact am_o218
  | 219, _ => exact am_o219
  | 220, _ => exact am_o220
  | 221, _ => exact am_o221
  | 222, _ => exact am_o222
  | 223, _ => exact am_o223
  | 224, _ => exact am_o224
  | 225, _ => exact am_o225
  | 226, _ => exact am_o226
  | 227, _ => exact am_o227
  | 228, _ => exact am_o228
  | 229, _ => exact am_o229
  | 230, _ => exact am_o230
  | 231, _ => exact am_o231
  | 232, _ => exact am_o232
  | 233, _ => exact am_o233
  | 234, _ => exact am_o234
  | 235, _ => exact am_o235
  | 236, _ => exact am_o236
  | 237, _ => exact am_o237
  | 238, _ => exact am_o238
  | 239, _ => exact am_o239
  | 240, _ => exact am_o240
  | 241, _ => exact am_o241
  | 242, _ => exact am_o242
  | 243, _ => exact am_o243
  | 244, _ => exact am_o244
  | 245, _ => exact am_o245
  | 246, _ => exact am_o246
  | 247, _ => exact am_o247
  | 248, _ => exact am_o248
  | 249, _ => exact am_o249
  | 250, _ => exact am_o250
  | 251, _ => exact am_o251
  | 252, _ => exact am_o252
  | 253, _ => exact am_o253
  | k + 254, hk => omega
theorem am_mrs : ∀ k, k < 254 → am_mrows k = true := by
  intro k hk
  match k, hk with
  | 0, _ => exact am_r0
  | 1, _ => exact am_r1
  | 2, _ => exact am_r2
  | 3, _ => exact am_r3
  | 4, _ => exact am_r4
  | 5, _ => exact am_r5
  | 6, _ => exact am_r6
  | 7, _ => exact am_r7
  | 8, _ => exact am_r8
  | 9, _ => exact am_r9
  | 10, _ => exact am_r10
  | 11, _ => exact am_r11
  | 12, _ => exact am_r12
  | 13, _ => exact am_r13
  | 14, _ => exact am_r14
  | 15, _ => exact am_r15
  | 16, _ => exact am_r16
  | 17, _ => exact am_r17
  | 18, _ => exact am_r18
  | 19, _ => exact am_r19
  | 20, _ => exact am_r20
  | 21, _ => exact am_r21
  | 22, _ => exact am_r22
  | 23, _ => exact am_r23
  | 24, _ => exact am_r24
  | 25, _ => exact am_r25
  | 26, _ => exact am_r26
  | 27, _ => exact am_r27
  | 28, _ => exact am_r28
  | 29, _ => exact am_r29
  | 30, _ => exact am_r30
  | 31, _ => exact am_r31
  | 32, _ => exact am_r32
  | 33, _ => exact am_r33
  | 34, _ => exact am_r34
  | 35, _ => exact am_r35
  | 36, _ => exact am_r36
  | 37, _ => exact am_r37
  | 38, _ => exact am_r38
  | 39, _ => exact am_r39
  | 40, _ => exact am_r40
  | 41, _ => exact am_r41
  | 42, _ => exact am_r42
  | 43, _ => exact am_r43
  | 44, _ => exact am_r44
  | 45, _ => exact am_r45
  | 46, _ => exact am_r46
  | 47, _ => exact am_r47
  | 48, _ => exact am_r48
  | 49, _ => exact am_r49
  | 50, _ => exact am_r50
  | 51, _ => exact am_r51
  | 52, _ => exact am_r52
  | 53, _ => exact am_r53
  | 54, _ => exact am_r54
  | 55, _ => exact am_r55
  | 56, _ => exact am_r56
  | 57, _ => exact am_r57
  | 58, _ => exact am_r58
  | 59, _ => exact am_r59
  | 60, _ => exact am_r60
  | 61, _ => exact am_r61
  | 62, _ => exact am_r62
  | 63, _ => exact am_r63
  | 64, _ => exact am_r64
  | 65, _ => exact am_r65
  | 66, _ => exact am_r66
  | 67, _ => exact am_r67
  | 68, _ => exact am_r68
  | 69, _ => exact am_r69
  | 70, _ => exact am_r70
  | 71, _ => exact am_r71
  | 72, _ => exact am_r72
  | 73, _ => exact am_r73
  | 74, _ => exact am_r74
  | 75, _ => exact am_r75
  | 76, _ => exact am_r76
  | 77, _ => exact am_r77
  | 78, _ => exact am_r78
  | 79, _ => exact am_r79
  | 80, _ => exact am_r80
  | 81, _ => exact am_r81
  | 82, _ => exact am_r82
  | 83, _ => exact am_r83
  | 84, _ => exact am_r84
  | 85, _ => exact am_r85
  | 86, _ => exact am_r86
  | 87, _ => exact am_r87
  | 88, _ => exact am_r88
  | 89, _ => exact am_r89
  | 90, _ => exact am_r90
  | 91, _ => exact am_r91
  | 92, _ => exact am_r92
  | 93, _ => exact am_r93
  | 94, _ => exact am_r94
  | 95, _ => exact am_r95
  | 96, _ => exact am_r96
  | 97, _ => exact am_r97
  | 98, _ => exact am_r98
  | 99, _ => exact am_r99
  | 100, _ => exact am_r100
  | 101, _ => exact am_r101
  | 102, _ => exact am_r102
  | 103, _ => exact am_r103
  | 104, _ => exact am_r104
  | 105, _ => exact am_r105
  | 106, _ => exact am_r106
  | 107, _ => exact am_r107
  | 108, _ => exact am_r108
  | 109, _ => exact am_r109
  | 110, _ => exact am_r110
  | 111, _ => exact am_r111
  | 112, _ => exact am_r112
  | 113, _ => exact am_r113
  | 114, _ => exact am_r114
  | 115, _ => exact am_r115
  | 116, _ => exact am_r116
  | 117, _ => exact am_r117
  | 118, _ => exact am_r118
  | 119, _ => exact am_r119
  | 120, _ => exact am_r120
  | 121, _ => exact am_r121
  | 122, _ => exact am_r122
  | 123, _ => exact am_r123
  | 124, _ => exact am_r124
  | 125, _ => exact am_r125
  | 126, _ => exact am_r126
  | 127, _ => exact am_r127
  | 128, _ => exact am_r128
  | 129, _ => exact am_r129
  | 130, _ => exact am_r130
  | 131, _ => exact am_r131
  | 132, _ => exact am_r132
  | 133, _ => exact am_r133
  | 134, _ => exact am_r134
  | 135, _ => exact am_r135
  | 136, _ => exact am_r136
  | 137, _ => exact am_r137
  | 138, _ => exact am_r138
  | 139, _ => exact am_r139
  | 140, _ => exact am_r140
  | 141, _ => exact am_r141
  | 142, _ => exact am_r142
  | 143, _ => exact am_r143
  | 144, _ => exact am_r144
  | 145, _ => exact am_r145
  | 146, _ => exact am_r146
  | 147, _ => exact am_r147
  | 148, _ => exact am_r148
  | 149, _ => exact am_r149
  | 150, _ => exact am_r150
  | 151, _ => exact am_r151
  | 152, _ => exact am_r152
  | 153, _ => exact am_r153
  | 154, _ => exact am_r154
  | 155, _ => exact am_r155
  | 156, _ => exact am_r156
  | 157, _ => exact am_r157
  | 158, _ => exact am_r158
  | 159, _ => exact am_r159
  | 160, _ => exact am_r160
  | 161, _ => exact am_r161
  | 162, _ => exact am_r162
  | 163, _ => exact am_r163
  | 164, _ => exact am_r164
  | 165, _ => exact am_r165
  | 166, _ => exact am_r166
  | 167, _ => exact am_r167
  | 168, _ => exact am_r168
  | 169, _ => exact am_r169
  | 170, _ => exact am_r170
  | 171, _ => exact am_r171
  | 172, _ => exact am_r172
  | 173, _ => exact am_r173
  | 174, _ => exact am_r174
  | 175, _ => exact am_r175
  | 176, _ => exact am_r176
  | 177, _ => exact am_r177
  | 178, _ => exact am_r178
  | 179, _ => exact am_r179
  | 180, _ => exact am_r180
  | 181, _ => exact am_r181
  | 182, _ => exact am_r182
  | 183, _ => exact am_r183
  | 184, _ => exact am_r184
  | 185, _ => exact am_r185
  | 186, _ => exact am_r186
  | 187, _ => exact am_r187
  | 188, _ => exact am_r188
  | 189, _ => exact am_r189
  | 190, _ => exact am_r190
  | 191, _ => exact am_r191
  | 192, _ => exact am_r192
  | 193, _ => exact am_r193
  | 194, _ => exact am_r194
  | 195, _ => exact am_r195
  | 196, _ => exact am_r196
  | 197, _ => exact am_r197
  | 198, _ => exact am_r198
  | 199, _ => exact am_r199
  | 200, _ => exact am_r200
  | 201, _ => exact am_r201
  | 202, _ => exact am_r202
  | 203, _ => exact am_r203
  | 204, _ => exact am_r204
  | 205, _ => exact am_r205
  | 206, _ => exact am_r206
  | 207, _ => exact am_r207
  | 208, _ => exact am_r208
  | 209, _ => exact am_r209
  | 210, _ => exact am_r210
  | 211, _ => exact am_r211
  | 212, _ => exact am_r212
  | 213, _ => exact am_r213
  | 214, _ => exact am_r214
  | 215, _ => exact am_r215
  | 216, _ => exact am_r216
  | 217, _ => exact am_r217
  | 218, _ => exact am_r218
  | 219, _ => exact am_r219
  | 220, _ => exact am_r220
  | 221, _ => exact am_r221
  | 222, _ => exact am_r222
  | 223, _ => exact am_r223
  | 224, _ => exact am_r224
  | 225, _ => exact am_r225
  | 226, _ => exact am_r226
  | 227, _ => exact am_r227
  | 228, _ => exact am_r228
  | 229, _ => exact am_r229
  | 230, _ => exact am_r230
  | 231, _ => exact am_r231
  | 232, _ => exact am_r232
  | 233, _ => exact am_r233
  | 234, _ => exact am_r234
  | 235, _ => exact am_r235
  | 236, _ => exact am_r236
  | 237, _ => exact am_r237
  | 238, _ => exact am_r238
  | 239, _ => exact am_r239
  | 240, _ => exact am_r240
  | 241, _ => exact am_r241
  | 242, _ => exact am_r242
  | 243, _ => exact am_r243
  | 244, _ => exact am_r244
  | 245, _ => exact am_r245
  | 246, _ => exact am_r246
  | 247, _ => exact am_r247
  | 248, _ => exact am_r248
  | 249, _ => exact am_r249
  | 250, _ => exact am_r250
  | 251, _ => exact am_r251
  | 252, _ => exact am_r252
  | 253, _ => exact am_r253
  | k + 254, hk => omega
theorem am_rows_at {own : String} {init : Bool} {ret : Option FieldType} {cc : ByteArray} : ∀ (l : am_C) (r : List (Instr × Nat)), am_rows own init ret cc l r = true → ∀ (pc : Nat) (ins : Instr) (nx : Nat), am_at l pc = some (ins, nx) → ∃ raw pl, am_rowok own init ret cc (pc, ins, nx) (raw, pl) = true
  | [], _, _, pc, ins, nx, h => by cases h
  | _ :: _, [], h, _, _, _, _ => by cases h
  | (q, i, n) :: l, (raw, pl) :: r, h, pc, ins, nx, hat => by
    simp only [am_rows, Bool.and_eq_true] at h
    unfold am_at at hat
    split at hat
    · rename_i e1
      subst e1
      cases hat
      exact ⟨raw, pl, h.1⟩
    · exact am_rows_at l r h.2 pc ins nx hat
/-- no code calls the law -/
def am_nolaw (l : am_C) : Bool := l.all (fun q => match q.2.1 with
  | .invokestatic k => decide (k < 254)
  | .invokevirtual k => decide (k < 254)
  | .invokespecial k => decide (k < 254)
  | _ => true)
theorem am_nolaw_all : am_cs.all am_nolaw = true := by decide +kernel
theorem am_at_mem : ∀ (l : am_C) (pc : Nat) (x : Instr × Nat), am_at l pc = some x → (pc, x) ∈ l
  | [], _, _, h => by cases h
  | (q, i, n) :: l, pc, x, h => by
    unfold am_at at h
    split at h
    · rename_i e1
      subst e1
      cases h
      exact List.mem_cons_self
    · exact List.mem_cons_of_mem _ (am_at_mem l pc x h)
theorem am_nolaw_at {l : am_C} {pc nx k : Nat} {ins : Instr} (hl : am_nolaw l = true) (h : am_at l pc = some (ins, nx)) (hk : ins = .invokestatic k ∨ ins = .invokespecial k ∨ ins = .invokevirtual k) : k < 254 := by
  have := List.all_eq_true.mp hl _ (am_at_mem l pc _ h)
  rcases hk with rfl | rfl | rfl <;> simpa using this
section AMR
variable {p : Program} {l : Launch} {e : Env} {R : Room} {s : State} {m : MethodId} {args : Array Value} {below : List Frame} {meth : Method} {c : Code} {Qf : State → Prop} {D : va_G} {fm : Value} {n : Nat} {xs : Nat → Int32} {A : Nat → Prop} {cc : ByteArray} {own : String} {init : Bool} {ret : Option FieldType} {nL : Nat}
variable {pc nx : Nat} {L : am_L} {st : List Value} {sk : am_K} {mem : am_M} {ad : Nat → Nat} {aC : Nat → ClassId} {cells slots : Nat} {raw norm : Instr} {pl : Nat}
set_option maxHeartbeats 2000000 in
theorem am_sim_run {d : Nat} {code0 : am_C} {kp : List (Instr × Nat)} {sk0 sk1 : am_K} {mem1 : am_M} {v1 : Option Value} {ad0 : Nat → Nat} {aC0 : Nat → ClassId} (hm : am_Me p s m args meth c D fm A cc own init nL) (hrows : am_rows own init ret cc code0 kp = true) (hnl : am_nolaw code0 = true) (IH : am_IH l d) (hRf : d + 1 ≤ R.frames) (hRl : 64 * (d + 1) ≤ R.locals) (hRc : sk1.length - sk0.length ≤ R.cells) (hRs : am_sz sk1 - am_sz sk0 ≤ R.slots)
    (hRet : ∀ (pc : Nat) (raw : Instr) (ls : Array Slot) (H : Heap) (locs : List Loc) (ad : Nat → Nat) (aC : Nat → ClassId), decode cc pc = .ok (raw, 1) → am_isret raw ret v1 → am_At D fm n xs A s ad aC sk1 mem1 H → va_S A s.heap H locs → (∀ o, o < sk0.length → ad o = ad0 o ∧ aC o = aC0 o) → W p l e R s m args below meth c H locs (sk1.length - sk0.length) (am_sz sk1 - am_sz sk0) Qf (F0 m pc ls (v1.toList.map (am_re ad fm)))) :
    ∀ (nn pc : Nat) (L : am_L) (st : List Value) (sk : am_K) (mem : am_M) (ad : Nat → Nat) (aC : Nat → ClassId), am_run code0 (am_ex d) nn pc L st sk mem (am_eq v1 sk1 mem1) → am_wf sk → 29 ≤ sk.length → am_okS sk.length st → am_okL sk.length L → L.length = nL → sk0.length ≤ sk.length → am_sz sk0 ≤ am_sz sk → (∀ o, o < sk0.length → ad o = ad0 o ∧ aC o = aC0 o) → am_K1 p l e R s m args below meth c Qf D fm n xs A pc L st sk mem ad aC (sk.length - sk0.length) (am_sz sk - am_sz sk0) := by
  intro nn
  induction nn with
  | zero => intro pc L st sk mem ad aC h; exact h.elim
  | succ nn ih =>
    intro pc L st sk mem ad aC h hwf h29 hst hL hLn hs1 hs2 had
    unfold am_run at h
    split at h
    · exact h.elim
    · rename_i ins nx hat
      obtain ⟨raw, pl, hrow⟩ := am_rows_at _ _ hrows pc ins nx hat
      split at h
      · exact h.elim
      · rename_i pc2 L2 st2 sk2 mem2 hstp
        obtain ⟨k1, k2, k3, k4, k5, k6⟩ := am_stp_ok hstp hwf h29 hst hL
        obtain ⟨r1, r2, -, -⟩ := am_run_good (am_ex_mono d) (am_ex_det d) (am_ex_good d) nn _ _ _ _ _ k6 (by omega) k1 k2 h
        have e1 : sk.length - sk0.length + (sk2.length - sk.length) = sk2.length - sk0.length := by omega
        have e2 : am_sz sk - am_sz sk0 + (am_sz sk2 - am_sz sk) = am_sz sk2 - am_sz sk0 := by omega
        refine am_step hm hrow hstp hst hL hLn (by omega) (by omega) (by omega) (by omega) (fun ad' aC' he => ?_)
        rw [e1, e2]
        exact ih _ _ _ _ _ ad' aC' h k6 (by omega) k1 k2 (k3.trans hLn) (by omega) (by omega) (fun o ho => ⟨(he o (by omega)).1.trans (had o ho).1, (he o (by omega)).2.trans (had o ho).2⟩)
      · rename_i k as r hstp
        obtain ⟨a, g1, g2, g3, ea, er, hn⟩ := am_stp_call hstp
        obtain ⟨w, sk2, mem2, h1, h2⟩ := am_ex_det d _ _ _ _ _ h
        have has : as.length = a := by rw [ea]; simp; omega
        have hasok : am_okS sk.length as := by rw [ea]; exact am_rev_ok hst
        have hrok : am_okS sk.length r := by rw [er]; exact am_drop_ok hst
        obtain ⟨q1, q2, q3, q4⟩ := am_ex_good d _ _ _ _ _ _ _ hwf h29 hasok (by rw [has]; exact g1) h2
        have hpok := am_push_ok q4 (hrok.up q1)
        obtain ⟨r1, r2, -, -⟩ := am_run_good (am_ex_mono d) (am_ex_det d) (am_ex_good d) nn _ _ _ _ _ q3 (by omega) hpok (hL.up q1) h1
        have hk : k < 254 := am_nolaw_at hnl hat (by
          rcases hn with hn | ⟨hn | hn, -⟩
          · exact Or.inl hn
          · exact Or.inr (Or.inl hn)
          · exact Or.inr (Or.inr hn))
        have e1 : sk.length - sk0.length + (sk2.length - sk.length) = sk2.length - sk0.length := by omega
        have e2 : am_sz sk - am_sz sk0 + (am_sz sk2 - am_sz sk) = am_sz sk2 - am_sz sk0 := by omega
        refine am_call hm hrow IH am_oks hstp h2 hwf h29 hst hL hLn hRf hRl (by omega) (by omega) hk (fun ad' aC' he => ?_)
        rw [e1, e2]
        exact ih _ _ _ _ _ ad' aC' h1 q3 (by omega) hpok (hL.up q1) hLn (by omega) (by omega) (fun o ho => ⟨(he o (by omega)).1.trans (had o ho).1, (he o (by omega)).2.trans (had o ho).2⟩)
      · rename_i v hstp
        obtain ⟨rfl, rfl, rfl⟩ := h
        obtain ⟨h1, h2, h3⟩ := am_stp_ret hrow hstp
        intro H locs ls hA hF hl hS
        rw [h3]
        exact hRet pc raw ls H locs ad aC h1 h2 hA hS had
end AMR
theorem am_args_mem : ∀ (vs : List Value) (i j : Nat) (v : Value), (∀ w ∈ vs, w.category = 1) → vs[j]? = some v → (i + j, v) ∈ lv_args i vs
  | [], _, _, _, _, h => by simp at h
  | w :: vs, i, 0, v, hc, h => by
    simp only [List.getElem?_cons_zero, Option.some.injEq] at h
    subst h
    unfold lv_args
    simp [hc w List.mem_cons_self]
  | w :: vs, i, j + 1, v, hc, h => by
    have h1 := am_args_mem vs (i + 1) j v (fun x hx => hc x (List.mem_cons_of_mem _ hx)) (by simpa using h)
    unfold lv_args
    have h2 := hc w List.mem_cons_self
    rw [show i + (j + 1) = i + 1 + j by omega]
    simp only [h2]
    exact List.mem_cons_of_mem _ h1
theorem am_sl_len : ∀ (vs : List Value), (∀ w ∈ vs, w.category = 1) → (lg_sl vs).length = vs.length
  | [], _ => rfl
  | w :: vs, hc => by
    have h1 := am_sl_len vs (fun x hx => hc x (List.mem_cons_of_mem _ hx))
    have h2 := hc w List.mem_cons_self
    unfold lg_sl at h1 ⊢
    simp only [List.flatMap_cons, h2, List.length_append, h1, List.length_cons]
    simp
    omega
theorem am_entry {ad : Nat → Nat} {fm : Value} {k N nl : Nat} {as : List Value} {ls : Array Slot} (hf : fm.category = 1) (hN : am_okS N as) (hnl : am_ML[k]? = some nl) (hle : as.length ≤ nl) (h : lv_has ls nl (lv_args 0 (as.map (am_re ad fm)))) : am_lh ad fm (am_L0 k as) ls := by
  have hlen : (am_L0 k as).length = nl := by simp [am_L0, hnl]; omega
  refine ⟨h.1.trans hlen.symm, h.2.1, ?_⟩
  rintro ⟨i, w⟩ hq
  obtain ⟨v, hv, rfl⟩ := am_lv_mem.mp hq
  unfold am_L0 at hv
  by_cases hi : i < as.length
  · rw [List.getElem?_append_left (by simpa using hi), List.getElem?_map] at hv
    cases ha : as[i]? with
    | none => rw [ha] at hv; cases hv
    | some u =>
      rw [ha] at hv
      cases hv
      have h1 := am_args_mem (as.map (am_re ad fm)) 0 i (am_re ad fm v) (fun x hx => by
        obtain ⟨y, hy, rfl⟩ := List.mem_map.mp hx
        exact am_re_cat hf (hN y hy).cat) (by rw [List.getElem?_map, ha]; rfl)
      rw [Nat.zero_add] at h1
      exact h.2.2 _ h1
  · rw [List.getElem?_append_right (by simpa using hi)] at hv
    have := List.mem_of_getElem? hv
    simp at this
set_option maxHeartbeats 2000000 in
/-- every method's contract, at every depth -/
theorem am_met (l : Launch) : ∀ d, am_IH l d
  | 0 => fun _ _ _ _ _ _ _ _ h => h.elim
  | d + 1 => by
    have IH := am_met l d
    intro k as sk mem v sk' mem' hk hex hwf h29 has hAR D fm n xs ad aC sz y b r nl hy hb hr hnl hfm
    obtain ⟨nn, hrun⟩ := hex
    obtain ⟨w, z, hw, hz, m1, m2, m3, m4, m5, m6, m7, m8, m9⟩ := am_mok_of (am_oks k hk) hy hb hr hnl hAR
    have hrows := am_mrs k hk
    unfold am_mrows at hrows
    rw [hy, hb, hr] at hrows
    split at hrows
    · rename_i y' b' r' cl kp e1 e2 e3 e4 e5
      cases e1; cases e2; cases e3
      have hcode : am_code k = cl := by simp [am_code, e4]
      rw [hcode] at hrun
      have hnol : am_nolaw cl = true := List.all_eq_true.mp am_nolaw_all cl (List.mem_of_getElem? e4)
      refine va_MetF (cc := b) (maxL := nl) (ret := r) m5 rfl ?_
      intro p e s m args below meth c s₁ B hml hv
      obtain ⟨rfl, hsz, hAt, hK, hFx⟩ := hv
      have hts := atoms_spec (ws := Cond.code y b nl r :: am_tb) B.pre
      have hown : s.vm.findClass y.cls = some m.cls := findClass_of_methodNamed B.named
      have hlocks := B.notSynchronized
      subst hsz
      have hAt2 : am_At D fm n xs (va_A (am_w ad aC sk mem) s.heap.size) s ad aC sk mem s.heap := ⟨hAt.1, hAt.2.1.self, hAt.2.2⟩
      have hcat : ∀ w ∈ as.map (am_re ad fm), w.category = 1 := fun x hx => by
        obtain ⟨y, hy, rfl⟩ := List.mem_map.mp hx
        exact am_re_cat hfm (has y hy).cat
      have hl := lv_entry (as.map (am_re ad fm)) (n := nl) (by rw [am_sl_len _ hcat, List.length_map]; exact m6)
      rw [lg_entry_eq]
      generalize (lg_sl (as.map (am_re ad fm)) ++ List.replicate (nl - (lg_sl (as.map (am_re ad fm))).length) Slot.unset).toArray = ls at hl ⊢
      have hm : am_Me p s m (as.map (am_re ad fm)).toArray meth c D fm (va_A (am_w ad aC sk mem) s.heap.size) b y.cls (decide (y.name = "<init>")) nl := ⟨B.exec, B.bytes, hown, fun w hw => hts w (List.mem_cons_of_mem _ hw), fun h => (name_of_methodNamed B.named B.method).1.trans (by simpa using h), hK, fun q h => Or.inr h, hfm, hml⟩
      have hret := am_run_good (am_ex_mono d) (am_ex_det d) (am_ex_good d) nn _ _ _ _ _ hwf h29 (fun _ hv => by cases hv) (am_L0_ok has) hrun
      have key := am_sim_run (p := p) (e := e) (R := (headSpec (Cond.code y b nl r :: am_tb) { frames := d + 1, cells := sk'.length - sk.length, slots := am_sz sk' - am_sz sk, locals := 64 * (d + 1) }).room) (below := below) (n := n) (xs := xs) (ret := r) (Qf := MQ below (am_Qc D fm n xs ad aC sk mem s.heap.size v sk' mem') (as.map (am_re ad fm)).toArray s (sk'.length - sk.length) (am_sz sk' - am_sz sk) (va_A (am_w ad aC sk mem) s.heap.size)) (sk0 := sk) (sk1 := sk') (mem1 := mem') (v1 := v) (ad0 := ad) (aC0 := aC) hm hrows hnol IH (Nat.le_refl _) (Nat.le_refl _) (Nat.le_refl _) (Nat.le_refl _) ?_ nn 0 (am_L0 k as) [] sk mem ad aC hrun hwf h29 (fun _ hv => by cases hv) (am_L0_ok has) (by simp [am_L0, hnl]; omega) (Nat.le_refl _) (Nat.le_refl _) (fun _ _ => ⟨rfl, rfl⟩)
      · have key2 := key s.heap [] ls hAt2 hFx (am_entry hfm has hnl m6 hl) va_S.rf
        rw [Nat.sub_self, Nat.sub_self] at key2
        exact key2
      · intro pc raw ls1 H locs ad' aC' hd hir hA1 hS1 he
        have hpost : ∀ t : State, t.heap = H → s.WarmedH t.vm → am_Qc D fm n xs ad aC sk mem s.heap.size v sk' mem' (as.map (am_re ad fm)).toArray s (.returned (v.map (am_re ad' fm))) t := fun t ht hW => ⟨⟨ad', aC', he, rfl, by rw [ht]; exact hA1.moved hW.alike⟩, hS1.F ht⟩
        rcases hir with ⟨rfl, x, ty, rfl, hrt, hnar⟩ | ⟨rfl, q, C, rfl, hrt, hq⟩ | ⟨rfl, rfl, hrt⟩
        · exact W.zret (v := x) (ty := ty) B.exec B.bytes (B.returns.trans hrt) hnar hpost hS1.2.2 hd
        · have h5 := hpost
          rw [show (some (Value.ref q)).map (am_re ad' fm) = some (.ref (ad' q)) by simp [am_re_ref hq]] at h5
          show W _ _ _ _ _ _ _ _ _ _ _ _ _ _ _ (F0 m pc ls1 [am_re ad' fm (.ref q)])
          rw [am_re_ref hq]
          exact W.aret (v := .ref (ad' q)) (rt := .object C) B.exec B.bytes (B.returns.trans hrt) (Or.inl ⟨C, rfl⟩) (Or.inr ⟨_, rfl⟩) h5 hS1.2.2 hd
        · exact W.vret B.exec B.bytes (B.returns.trans hrt) hpost hS1.2.2 hd
    · cases hrows
end
section
/-! the law on the real machine, out of its run on the small one -/
/-! THE CLAIM OUT OF ONE WALK OF THE LAW'S BODY. Your part is whole_start (and what it stands on); all else here is the same for every law, but numbers. -/
def R_law : String := "TownLampsLaw"
def lw_P (b : Addr) (xs : List Int32) (args : Array Value) (s : State) : Prop := args = #[.ref b] ∧ s.IntsAt b xs ∧ xs.length ≤ 384 ∧ (Jvm.Cond.and given_1 narrow_1).before args s = true
def lw_Q (_ : Array Value) (s : State) (o : Outcome) (t : State) : Prop := o = .returned (some (.int 1)) ∧ Framed s o t [] 600000 7302250
def lw_Z (below : List Frame) (a : Array Value) (s : State) : State → Prop := fun t => ∃ o, t.status = .running ∧ Ended t below o ∧ lw_Q a s o t
/-- the law's own end, with 1 on the stack, nothing written that was there before, its room as the claim has it -/
theorem lw_ret {p : Program} {l : Launch} {e : Env} {s : State} {m : MethodId} {below : List Frame} {meth : Method} {c : Code} {b : Nat} (hx : p.tables.exec = Jvm.exec) (hb : c.code = code) (hr : meth.sig.returnType = ret) (hlocks : meth.locks = false) {pc : Nat} {H : Heap} {ls : Array Slot} (hdg : decode code pc = .ok (.ireturn, 1)) : W p l e room_1 s m #[Value.ref b] below meth c H [] 600000 7302250 (lw_Z below #[Value.ref b] s) (F0 m pc ls [.int 1]) := by
  intro T hT X
  obtain ⟨fs, hret, hrun, hended, hW, hframe⟩ := X.leave (v := some (.int 1)) (hlocks := hlocks) (fun h => by rw [hr] at h; cases h)
  have hmeth' : T.vm.method? m = some meth := X.method'
  refine ⟨T.setFrames fs, ?_, .returned (some (.int 1)), hrun, hended, rfl, ⟨_, rfl⟩, hW, hframe⟩
  jvm_step X.here [X.here.top, hx, hb, hdg, hmeth', hr, ret, narrow_b1]
  (try refine ⟨rfl, ?_⟩); (try refine ⟨rfl, ?_⟩)
  first | (intro acts; rw [hret _ acts rfl rfl rfl]) | rw [hret _ _ rfl rfl rfl]
  exact Steps.refl _
/-- what holds at the law's entry: the machine, the code, the tables' words (any of lw_tbl by 'hts w (by decide +kernel)'), the script of L ints xs at the cell b, what the Statement gives of the start (any of its parts by flat_of_before) -/
def lw_At (p : Program) (s : State) (m : MethodId) (meth : Method) (c : Code) (b L : Nat) (xs : Nat → Int32) : Prop :=
  p.tables.exec = Jvm.exec ∧ c.code = code ∧ meth.sig.returnType = ret ∧ c.maxLocals = 4 ∧ s.vm.findClass R_law = some m.cls ∧ (∀ w ∈ lw_tbl, w.before #[Value.ref b] s = true) ∧ va_X b L xs s s.heap ∧ b < s.heap.size ∧ meth.locks = false ∧ (Jvm.Cond.and given_1 narrow_1).before #[Value.ref b] s = true
def am_m0 (xs : Nat → Int32) : am_M := fun o k => if o = 0 then am_ka k else if o = 1 then xs k else if 15 ≤ o ∧ o < 28 then (am_byt.getD (o - 15) []).getD k 0 else 0
def am_tm (i : Nat) : Term := .string "TownLamps$Reader" (am_str.getD i (0, "")).1
abbrev am_nar : List Cond := flatC (Jvm.Cond.and given_1 narrow_1)
theorem am_n1 : ∀ i, i < 13 → Cond.exactly (am_tm i) "java/lang/String" ∈ am_nar := by decide +kernel
theorem am_n2 : ∀ i, i < 13 → Cond.eq (.field (am_tm i) "java/lang/String" "coder" "B") (.int 0) ∈ am_nar := by decide +kernel
theorem am_n3 : ∀ i, i < 13 → Cond.arrayOf (.field (am_tm i) "java/lang/String" "value" "[B") .byte ∈ am_nar := by decide +kernel
theorem am_n4 : ∀ i, i < 13 → Cond.eq (.length (.field (am_tm i) "java/lang/String" "value" "[B")) (.int (Int32.ofNat (am_len.getD i 0))) ∈ am_nar := by decide +kernel
theorem am_n5 : ∀ i, i < 13 → ∀ j, j < am_len.getD i 0 → Cond.eq (.elem (.field (am_tm i) "java/lang/String" "value" "[B") (.int (Int32.ofNat j))) (.int ((am_byt.getD i []).getD j 0)) ∈ am_nar := by decide +kernel
def am_pp : List (List Nat) := [[0, 111, 121, 130, 140, 151, 162, 174, 186, 199, 215, 231, 248], [0, 0, 122, 131, 141, 152, 163, 175, 187, 200, 216, 232, 249], [0, 0, 0, 132, 142, 153, 164, 176, 188, 201, 217, 233, 250], [0, 0, 0, 0, 143, 154, 165, 177, 189, 202, 218, 234, 251], [0, 0, 0, 0, 0, 155, 166, 178, 190, 203, 219, 235, 252], [0, 0, 0, 0, 0, 0, 167, 179, 191, 204, 220, 236, 253], [0, 0, 0, 0, 0, 0, 0, 180, 192, 205, 221, 237, 254], [0, 0, 0, 0, 0, 0, 0, 0, 193, 206, 222, 238, 255], [0, 0, 0, 0, 0, 0, 0, 0, 0, 207, 223, 239, 256], [0, 0, 0, 0, 0, 0, 0, 0, 0, 0, 224, 240, 257], [0, 0, 0, 0, 0, 0, 0, 0, 0, 0, 0, 241, 258], [0, 0, 0, 0, 0, 0, 0, 0, 0, 0, 0, 0, 259], [0, 0, 0, 0, 0, 0, 0, 0, 0, 0, 0, 0, 0]]
theorem am_n60 : (List.range 13).all (fun i => (List.range 13).all (fun j => !decide (i < j) || decide (am_nar[(am_pp.getD i []).getD j 0]? = some (Cond.not (Cond.eq (am_tm i) (am_tm j)))))) = true := by decide +kernel
theorem am_n61 {i j : Nat} (hi : i < 13) (hj : j < 13) (h : i < j) : Cond.not (Cond.eq (am_tm i) (am_tm j)) ∈ am_nar := by
  have h1 := List.all_eq_true.mp (List.all_eq_true.mp am_n60 i (List.mem_range.mpr hi)) j (List.mem_range.mpr hj)
  simp only [h, decide_true, Bool.not_true, Bool.false_or, decide_eq_true_eq] at h1
  exact List.mem_of_getElem? h1
theorem am_n6 : ∀ i, i < 13 → ∀ j, j < 13 → i ≠ j → Cond.not (Cond.eq (am_tm i) (am_tm j)) ∈ am_nar ∨ Cond.not (Cond.eq (am_tm j) (am_tm i)) ∈ am_nar := by
  intro i hi j hj h
  rcases Nat.lt_or_gt_of_ne h with h | h
  · exact Or.inl (am_n61 hi hj h)
  · exact Or.inr (am_n61 hj hi h)
theorem am_n7 : Cond.arrayOf (.static "TownLamps" "KIND_ABOVE" "[I") .int ∈ am_nar ∧ Cond.eq (.length (.static "TownLamps" "KIND_ABOVE" "[I")) (.int (Int32.ofNat 6)) ∈ am_nar ∧ Cond.eq (.static "java/lang/String" "COMPACT_STRINGS" "Z") (.int 1) ∈ am_nar ∧ Cond.isRef (.static "jdk/internal/util/Preconditions" "SIOOBE_FORMATTER" "Ljava/util/function/BiFunction;") ∈ am_nar := by decide +kernel
theorem am_n8 : ∀ j, j < 6 → Cond.eq (.elem (.static "TownLamps" "KIND_ABOVE" "[I") (.int (Int32.ofNat j))) (.int (am_ka j)) ∈ am_nar := by decide +kernel
theorem am_ro_wf (n : Nat) : am_wf (am_ro n) := by
  refine ⟨fun o e he z hz => ?_, fun o e ho he => ?_⟩
  · have ho : o < 29 := (List.getElem?_eq_some_iff.mp he).1
    show z < 29 ∧ z ≠ 28
    rcases am_ro_kind ho he with ⟨-, rfl⟩ | ⟨-, rfl⟩ | ⟨i, hi, -, rfl⟩ | ⟨i, hi, -, rfl⟩ | ⟨-, rfl⟩
    · simp at hz
    · simp at hz
    · simp only [List.mem_cons, Option.some.injEq, List.not_mem_nil, or_false, reduceCtorEq] at hz
      subst hz
      exact ⟨by omega, by omega⟩
    · simp at hz
    · simp at hz
  · have ho2 : o < 29 := (List.getElem?_eq_some_iff.mp he).1
    omega
theorem am_ro_RO (n : Nat) (xs : Nat → Int32) : am_RO n xs (am_ro n) (am_m0 xs) := by
  refine ⟨Nat.le_refl _, fun _ _ => rfl, fun j _ => rfl, fun j _ => rfl, fun i hi => ?_, fun i hi j hj => ?_⟩
  · simp only [am_m0, if_neg (show ¬ 2 + i = 0 by omega), if_neg (show ¬ 2 + i = 1 by omega), if_neg (show ¬ (15 ≤ 2 + i ∧ 2 + i < 28) by omega)]
  · simp only [am_m0, if_neg (show ¬ 15 + i = 0 by omega), if_neg (show ¬ 15 + i = 1 by omega), if_pos (show 15 ≤ 15 + i ∧ 15 + i < 28 by omega), Nat.add_sub_cancel_left]
set_option maxHeartbeats 4000000 in
theorem am_law_open {p : Program} {e : Env} {s : State} {m : MethodId} {below : List Frame} {meth : Method} {c : Code} (l : Launch) {b L : Nat} {xs : Nat → Int32} (d : Nat) (hd : d ≤ 1000) (hlaw : am_ex (d + 1) 254 [.ref 1] (am_ro L) (am_m0 xs) (fun v sk' _ => v = some (.int 1) ∧ sk'.length ≤ 1000 ∧ am_sz sk' ≤ 100000)) (C0 : lw_At p s m meth c b L xs) : W p l e room_1 s m #[Value.ref b] below meth c s.heap [] 0 0 (lw_Z below #[Value.ref b] s) (entryFrame m ([Value.ref b] : List Value).toArray 4) := by
  obtain ⟨hx, hb, hr, hml, hown, hts, hX, hbl, hlocks, hgv⟩ := id C0
  have hA : ∀ q : Nat, s.heap.size ≤ q → (fun q : Nat => s.heap.size ≤ q) q := fun _ h => h
  have hAn : ∀ a : Nat, a < s.heap.size → ¬ (fun q : Nat => s.heap.size ≤ q) a := fun _ h => Nat.not_le.mpr h
  have hs := flat_of_before _ hgv
  have hat : ∀ (i : Nat) (w : Cond), lw_tbl[i]? = some w → w.before #[Value.ref b] s = true := fun i w h => hts w (List.mem_of_getElem? h)
  obtain ⟨adK, adV, hSt, htm⟩ := vk_Sof (args := #[Value.ref b]) (s := s) (N := 13) (tm := am_tm) (len := am_len) (byt := am_byt) (A := fun q : Nat => s.heap.size ≤ q) (by decide) (fun i hi => hs _ (am_n1 i hi)) (fun i hi => hs _ (am_n2 i hi)) (fun i hi => hs _ (am_n3 i hi)) (fun i hi => hs _ (am_n4 i hi)) (fun i hi j hj => hs _ (am_n5 i hi j hj)) (fun i j hi hj hij => (am_n6 i hi j hj hij).imp (hs _) (hs _)) hAn
  obtain ⟨t0, ht0, hT0⟩ := va_Tof (args := #[Value.ref b]) (s := s) (tm := .static "TownLamps" "KIND_ABOVE" "[I") (ty := .int) (N := 6) (f := fun j => .int (am_ka j)) (A := fun q : Nat => s.heap.size ≤ q) (by decide) (hs _ am_n7.1) (va_eqt (hs _ am_n7.2.1)) (fun j hj => va_eqt (hs _ (am_n8 j hj))) hAn
  have hZ0 : va_Z "TownLamps" "KIND_ABOVE" "[I" (.ref t0) (fun q : Nat => s.heap.size ≤ q) s s.heap := va_Zref (hat 663 (.laysStatic "TownLamps" "KIND_ABOVE" "[I") (by decide +kernel)) (hat 62 (.initialized "TownLamps") (by decide +kernel)) ht0 hAn
  have hZ1 : va_Z "java/lang/String" "COMPACT_STRINGS" "Z" (.int 1) (fun q : Nat => s.heap.size ≤ q) s s.heap := va_Zof (hat 781 (.laysStatic "java/lang/String" "COMPACT_STRINGS" "Z") (by decide +kernel)) (hat 76 (.initialized "java/lang/String") (by decide +kernel)) (va_eqi (hs _ am_n7.2.2.1)) hAn
  have hZ2 : va_Zq "jdk/internal/util/Preconditions" "SIOOBE_FORMATTER" "Ljava/util/function/BiFunction;" (fun q : Nat => s.heap.size ≤ q) s s.heap := va_Zqof (hat 797 (.laysStatic "jdk/internal/util/Preconditions" "SIOOBE_FORMATTER" "Ljava/util/function/BiFunction;") (by decide +kernel)) (hat 78 (.initialized "jdk/internal/util/Preconditions") (by decide +kernel)) (hs _ am_n7.2.2.2) hAn
  obtain ⟨fm, hfm, hZ2⟩ : ∃ fm : Value, fm.category = 1 ∧ va_Z "jdk/internal/util/Preconditions" "SIOOBE_FORMATTER" "Ljava/util/function/BiFunction;" fm (fun q : Nat => s.heap.size ≤ q) s s.heap := by
    rcases hZ2 with h | ⟨t, h⟩
    · exact ⟨_, rfl, h⟩
    · exact ⟨_, rfl, h⟩
  obtain ⟨ad, had0, had1, had2, had3⟩ : ∃ ad : Nat → Nat, ad 0 = t0 ∧ ad 1 = b ∧ (∀ i, i < 13 → ad (2 + i) = adK i) ∧ ∀ i, i < 13 → ad (15 + i) = adV i := by
    refine ⟨fun o => if o = 0 then t0 else if o = 1 then b else if o < 15 then adK (o - 2) else adV (o - 15), rfl, rfl, fun i hi => ?_, fun i hi => ?_⟩
    · simp only [if_neg (show ¬ 2 + i = 0 by omega), if_neg (show ¬ 2 + i = 1 by omega), if_pos (show 2 + i < 15 by omega), Nat.add_sub_cancel_left]
    · simp only [if_neg (show ¬ 15 + i = 0 by omega), if_neg (show ¬ 15 + i = 1 by omega), if_neg (show ¬ 15 + i < 15 by omega), Nat.add_sub_cancel_left]
  obtain ⟨c0, iS0, hKn0⟩ := u_known (C := RX0) (T := TX0) (N := 3) (n := 3) (ws := lw_tbl) hts (fun w hw => (List.mem_filter.mp (am_inX0 w hw)).1) (hat 92 (.instantiable RX0 3) (by decide +kernel))
  obtain ⟨c1, iS1, hKn1⟩ := u_known (C := RX1) (T := TX1) (N := 6) (n := 6) (ws := lw_tbl) hts (fun w hw => (List.mem_filter.mp (am_inX1 w hw)).1) (hat 179 (.instantiable RX1 6) (by decide +kernel))
  obtain ⟨c2, iS2, hKn2⟩ := u_known (C := RX2) (T := TX2) (N := 9) (n := 9) (ws := lw_tbl) hts (fun w hw => (List.mem_filter.mp (am_inX2 w hw)).1) (hat 359 (.instantiable RX2 9) (by decide +kernel))
  obtain ⟨c3, iS3, hKn3⟩ := u_known (C := RX3) (T := TX3) (N := 4) (n := 4) (ws := lw_tbl) hts (fun w hw => (List.mem_filter.mp (am_inX3 w hw)).1) (hat 212 (.instantiable RX3 4) (by decide +kernel))
  obtain ⟨c4, iS4, hKn4⟩ := u_known (C := RX4) (T := TX4) (N := 7) (n := 7) (ws := lw_tbl) hts (fun w hw => (List.mem_filter.mp (am_inX4 w hw)).1) (hat 239 (.instantiable RX4 7) (by decide +kernel))
  obtain ⟨c5, iS5, hKn5⟩ := u_known (C := RX5) (T := TX5) (N := 7) (n := 7) (ws := lw_tbl) hts (fun w hw => (List.mem_filter.mp (am_inX5 w hw)).1) (hat 135 (.instantiable RX5 7) (by decide +kernel))
  obtain ⟨c6, iS6, hKn6⟩ := u_known (C := RX6) (T := TX6) (N := 3) (n := 3) (ws := lw_tbl) hts (fun w hw => (List.mem_filter.mp (am_inX6 w hw)).1) (hat 425 (.instantiable RX6 3) (by decide +kernel))
  obtain ⟨c7, iS7, hKn7⟩ := u_known (C := RX7) (T := TX7) (N := 4) (n := 4) (ws := lw_tbl) hts (fun w hw => (List.mem_filter.mp (am_inX7 w hw)).1) (hat 443 (.instantiable RX7 4) (by decide +kernel))
  obtain ⟨c8, iS8, hKn8⟩ := u_known (C := RX8) (T := TX8) (N := 4) (n := 4) (ws := lw_tbl) hts (fun w hw => (List.mem_filter.mp (am_inX8 w hw)).1) (hat 99 (.instantiable RX8 4) (by decide +kernel))
  obtain ⟨c9, iS9, hKn9⟩ := u_known (C := RX9) (T := TX9) (N := 16) (n := 16) (ws := lw_tbl) hts (fun w hw => (List.mem_filter.mp (am_inX9 w hw)).1) (hat 167 (.instantiable RX9 16) (by decide +kernel))
  obtain ⟨c10, iS10, hKn10⟩ := u_known (C := RX10) (T := TX10) (N := 6) (n := 6) (ws := lw_tbl) hts (fun w hw => (List.mem_filter.mp (am_inX10 w hw)).1) (hat 395 (.instantiable RX10 6) (by decide +kernel))
  obtain ⟨c11, iS11, hKn11⟩ := u_known (C := RX11) (T := TX11) (N := 14) (n := 14) (ws := lw_tbl) hts (fun w hw => (List.mem_filter.mp (am_inX11 w hw)).1) (hat 84 (.instantiable RX11 14) (by decide +kernel))
  obtain ⟨c12, iS12, hKn12⟩ := u_known (C := RX12) (T := TX12) (N := 44) (n := 44) (ws := lw_tbl) hts (fun w hw => (List.mem_filter.mp (am_inX12 w hw)).1) (hat 1187 (.instantiable RX12 44) (by decide +kernel))
  obtain ⟨dC, dI, hKc⟩ : ∃ (dC : Nat → ClassId) (dI : Nat → Nat → Nat), ∀ (k : Nat) (q : vw_C), vwCl[k]? = some q → u_Kn s q.1 q.2.1 q.2.2 (dC k) (dI k) := by
    refine ⟨fun k => match k with
      | 0 => c0
      | 1 => c1
      | 2 => c2
      | 3 => c3
      | 4 => c4
      | 5 => c5
      | 6 => c6
      | 7 => c7
      | 8 => c8
      | 9 => c9
      | 10 => c10
      | 11 => c11
      | _ => c12, fun k => match k with
      | 0 => iS0
      | 1 => iS1
      | 2 => iS2
      | 3 => iS3
      | 4 => iS4
      | 5 => iS5
      | 6 => iS6
      | 7 => iS7
      | 8 => iS8
      | 9 => iS9
      | 10 => iS10
      | 11 => iS11
      | _ => iS12, ?_⟩
    intro k q hq
    match k, hq with
    | 0, hq => cases hq; exact hKn0
    | 1, hq => cases hq; exact hKn1
    | 2, hq => cases hq; exact hKn2
    | 3, hq => cases hq; exact hKn3
    | 4, hq => cases hq; exact hKn4
    | 5, hq => cases hq; exact hKn5
    | 6, hq => cases hq; exact hKn6
    | 7, hq => cases hq; exact hKn7
    | 8, hq => cases hq; exact hKn8
    | 9, hq => cases hq; exact hKn9
    | 10, hq => cases hq; exact hKn10
    | 11, hq => cases hq; exact hKn11
    | 12, hq => cases hq; exact hKn12
    | k + 13, hq => simp [vwCl] at hq
  have hK : va_K (dC, dI) vwCl [] s := ⟨hKc, fun k q h => by simp at h⟩
  have hFx : am_Fx fm L xs ad (fun q : Nat => s.heap.size ≤ q) s s.heap := by
    refine ⟨by rw [had0]; exact ⟨hZ0, hT0⟩, by rw [had1]; exact ⟨hX, hAn b hbl⟩, ⟨fun i hi => ?_, fun i j hi hj e1 => ?_⟩, fun i q hq => ?_, hZ1, hZ2, fun q hq => ?_, fun k hk q hq => ?_⟩
    · show va_O "java/lang/String" (ad (2 + i)) _ s s.heap ∧ va_OF "java/lang/String" "coder" "B" (.int 0) (ad (2 + i)) _ s s.heap ∧ va_OF "java/lang/String" "value" "[B" (.ref (ad (15 + i))) (ad (2 + i)) _ s s.heap ∧ va_T .byte (ad (15 + i)) (am_len.getD i 0) (fun j => .int ((am_byt.getD i []).getD j 0)) _ s s.heap
      rw [had2 i hi, had3 i hi]
      exact hSt.1 i hi
    · have e2 : ad (2 + i) = ad (2 + j) := e1
      rw [had2 i hi, had2 j hj] at e2
      exact hSt.2 i j hi hj e2
    · have hi : i < 13 := (List.getElem?_eq_some_iff.mp hq).1
      rw [had2 i hi]
      have h2 := htm i hi
      match i, hq, h2 with
      | 0, hq, h2 => cases hq; exact vk_R.of (hat 764 (.stringRef "TownLamps$Reader" 68 "dim") (by decide +kernel)) h2
      | 1, hq, h2 => cases hq; exact vk_R.of (hat 765 (.stringRef "TownLamps$Reader" 70 "life") (by decide +kernel)) h2
      | 2, hq, h2 => cases hq; exact vk_R.of (hat 766 (.stringRef "TownLamps$Reader" 72 "price") (by decide +kernel)) h2
      | 3, hq, h2 => cases hq; exact vk_R.of (hat 767 (.stringRef "TownLamps$Reader" 74 "law") (by decide +kernel)) h2
      | 4, hq, h2 => cases hq; exact vk_R.of (hat 847 (.stringRef "TownLamps$Reader" 76 "hdc") (by decide +kernel)) h2
      | 5, hq, h2 => cases hq; exact vk_R.of (hat 848 (.stringRef "TownLamps$Reader" 78 "kwc") (by decide +kernel)) h2
      | 6, hq, h2 => cases hq; exact vk_R.of (hat 849 (.stringRef "TownLamps$Reader" 80 "hd") (by decide +kernel)) h2
      | 7, hq, h2 => cases hq; exact vk_R.of (hat 850 (.stringRef "TownLamps$Reader" 82 "hc") (by decide +kernel)) h2
      | 8, hq, h2 => cases hq; exact vk_R.of (hat 918 (.stringRef "TownLamps$Reader" 94 "|") (by decide +kernel)) h2
      | 9, hq, h2 => cases hq; exact vk_R.of (hat 919 (.stringRef "TownLamps$Reader" 96 "&") (by decide +kernel)) h2
      | 10, hq, h2 => cases hq; exact vk_R.of (hat 920 (.stringRef "TownLamps$Reader" 98 "<=>") (by decide +kernel)) h2
      | 11, hq, h2 => cases hq; exact vk_R.of (hat 921 (.stringRef "TownLamps$Reader" 100 "+-") (by decide +kernel)) h2
      | 12, hq, h2 => cases hq; exact vk_R.of (hat 922 (.stringRef "TownLamps$Reader" 102 "*/") (by decide +kernel)) h2
      | i + 13, hq, _ => exact absurd hi (by omega)
    · obtain ⟨i, hi⟩ := List.getElem?_of_mem hq
      have hil : i < 14 := (List.getElem?_eq_some_iff.mp hi).1
      match i, hi with
      | 0, hi => cases hi; exact va_Nw.of rfl (hat 100 (.methodLinkNest "TownLamps$Book" 24 ⟨"TownLamps$Text", "<init>", "()V"⟩ "TownLamps") (by decide +kernel))
      | 1, hi => cases hi; exact va_Nw.of rfl (hat 136 (.methodLinkNest "TownLamps" 18 ⟨"TownLamps$Reader", "<init>", "()V"⟩ "TownLamps") (by decide +kernel))
      | 2, hi => cases hi; exact va_Nw.of rfl (hat 141 (.methodLinkNest "TownLamps$Reader" 21 ⟨"TownLamps$Text", "<init>", "()V"⟩ "TownLamps") (by decide +kernel))
      | 3, hi => cases hi; exact va_Nw.of rfl (hat 180 (.methodLinkNest "TownLamps$Town" 72 ⟨"TownLamps$Cabinet", "<init>", "()V"⟩ "TownLamps") (by decide +kernel))
      | 4, hi => cases hi; exact va_Nw.of rfl (hat 213 (.methodLinkNest "TownLamps$Town" 73 ⟨"TownLamps$Joint", "<init>", "()V"⟩ "TownLamps") (by decide +kernel))
      | 5, hi => cases hi; exact va_Nw.of rfl (hat 240 (.methodLinkNest "TownLamps$Town" 74 ⟨"TownLamps$Lamp", "<init>", "()V"⟩ "TownLamps") (by decide +kernel))
      | 6, hi => cases hi; exact va_Nw.of rfl (hat 360 (.methodLinkNest "TownLamps" 44 ⟨"TownLamps$Faults", "<init>", "()V"⟩ "TownLamps") (by decide +kernel))
      | 7, hi => cases hi; exact va_Nw.of rfl (hat 396 (.methodLinkNest "TownLamps" 51 ⟨"TownLamps$Walk", "<init>", "()V"⟩ "TownLamps") (by decide +kernel))
      | 8, hi => cases hi; exact va_Nw.of rfl (hat 426 (.methodLinkNest "TownLamps" 82 ⟨"TownLamps$Sheet", "<init>", "()V"⟩ "TownLamps") (by decide +kernel))
      | 9, hi => cases hi; exact va_Nw.of rfl (hat 444 (.methodLinkNest "TownLamps" 83 ⟨"TownLamps$Slot", "<init>", "()V"⟩ "TownLamps") (by decide +kernel))
      | 10, hi => cases hi; exact va_Nw.of rfl (hat 449 (.methodLinkNest "TownLamps$Slot" 23 ⟨"TownLamps$Sheet", "<init>", "()V"⟩ "TownLamps") (by decide +kernel))
      | 11, hi => cases hi; exact va_Nw.of rfl (hat 704 (.methodLinkNest "TownLamps$Town" 184 ⟨"TownLamps", "wearOf", "(I)I"⟩ "TownLamps") (by decide +kernel))
      | 12, hi => cases hi; exact va_Nw.of rfl (hat 956 (.methodLinkNest "TownLamps$Faults" 54 ⟨"TownLamps", "bit", "(Z)I"⟩ "TownLamps") (by decide +kernel))
      | 13, hi => cases hi; exact va_Nw.of rfl (hat 1165 (.methodLinkNest "TownLamps$Town" 169 ⟨"TownLamps", "bit", "(Z)I"⟩ "TownLamps") (by decide +kernel))
      | i + 14, hi => exact absurd hil (by omega)
    · simp only [List.mem_cons, List.not_mem_nil, or_false] at hk
      rcases hk with rfl | rfl | rfl | rfl | rfl | rfl
      · cases hq; exact va_AO.of (hat 173 (.arrayOver (.object "TownLamps$Cabinet")) (by decide +kernel))
      · cases hq; exact va_AO.of (hat 175 (.arrayOver (.object "TownLamps$Joint")) (by decide +kernel))
      · cases hq; exact va_AO.of (hat 177 (.arrayOver (.object "TownLamps$Lamp")) (by decide +kernel))
      · cases hq; exact va_AO.of (hat 422 (.arrayOver (.object "TownLamps$Sheet")) (by decide +kernel))
      · cases hq; exact va_AO.of (hat 424 (.arrayOver (.object "TownLamps$Slot")) (by decide +kernel))
      · cases hq; exact va_AO.of (hat 98 (.arrayOver (.object "TownLamps$Text")) (by decide +kernel))
  obtain ⟨v, sk', mem', ⟨rfl, hq1, hq2⟩, hex⟩ := am_ex_det _ _ _ _ _ _ hlaw
  obtain ⟨nn, hrun⟩ := hex
  have hw0 : am_w ad (fun _ => 0) (am_ro L) (am_m0 xs) = [] := rfl
  have hAt : am_At (dC, dI) fm L xs (fun q : Nat => s.heap.size ≤ q) s ad (fun _ => 0) (am_ro L) (am_m0 xs) s.heap := by
    refine ⟨by rw [hw0]; exact fun k q h => by simp at h, by rw [hw0]; exact ⟨fun i j p q h => by simp at h, fun k q h => by simp at h⟩, fun o x ho hx => ?_, am_ro_RO L xs, am_ro_wf L⟩
    have ho2 : o < 29 := (List.getElem?_eq_some_iff.mp hx).1
    omega
  have hok : am_okS (am_ro L).length [Value.ref 1] := fun v hv => by
    simp only [List.mem_singleton] at hv
    subst hv
    show 1 < 29
    decide
  have hm : am_Me p s m #[Value.ref b] meth c (dC, dI) fm (fun q : Nat => s.heap.size ≤ q) code RL false 4 := ⟨hx, hb, hown, fun w hw => hts w (List.mem_filter.mp hw).1, (fun h => by cases h), hK, hA, hfm, hml⟩
  have hl := lv_entry ([.ref b]) (n := 4) (Nat.le_of_ble_eq_true rfl)
  rw [lg_entry_eq]
  generalize (lg_sl ([.ref b]) ++ List.replicate (4 - (lg_sl ([.ref b])).length) Slot.unset).toArray = ls at hl ⊢
  have hl2 : am_lh ad fm (am_L0 254 [.ref 1]) ls := am_entry (nl := 4) hfm hok rfl (by decide) (by
    show lv_has ls 4 (lv_args 0 [am_re ad fm (.ref 1)])
    rw [am_re_ref (by decide), had1]
    exact hl)
  have hc1 : room_1.cells = 600000 := rfl
  have hc2 : room_1.slots = 7302250 := rfl
  have hc3 : room_1.frames = 2048 := rfl
  have hc4 : room_1.locals = 84000 := rfl
  have key := am_sim_run (p := p) (l := l) (e := e) (R := room_1) (below := below) (n := L) (xs := xs) (ret := some .boolean) (Qf := lw_Z below #[Value.ref b] s) (sk0 := am_ro L) (sk1 := sk') (mem1 := mem') (v1 := some (.int 1)) (ad0 := ad) (aC0 := fun _ => 0) hm am_lrows (by decide +kernel) (am_met l d) (by omega) (by omega) (by omega) (by omega) ?_ nn 0 (am_L0 254 [.ref 1]) [] (am_ro L) (am_m0 xs) ad (fun _ => 0) hrun (am_ro_wf L) (Nat.le_refl _) (fun _ hv => by cases hv) (am_L0_ok hok) rfl (Nat.le_refl _) (Nat.le_refl _) (fun _ _ => ⟨rfl, rfl⟩)
  · have key2 := key s.heap [] ls hAt hFx hl2 va_S.rf
    rw [Nat.sub_self, Nat.sub_self] at key2
    exact key2
  · intro pc raw ls1 H locs ad' aC' hdc hir hA1 hS1 he
    rcases hir with ⟨rfl, x, ty, hv, hrt, hnar⟩ | ⟨rfl, q, C, hv, -, -⟩ | ⟨rfl, hv, -⟩
    · refine va_forget (fun q hq => hS1.2.2 q hq) ?_
      refine W.widen (k := 600000) (n := 7302250) (by omega) (by omega) ?_
      exact lw_ret hx hb hr hlocks hdc
    · cases hv
    · cases hv
end
section
/-! RULES OF THE SMALL MACHINE: one instruction each, goal first -/
def am_ev (code : am_C) (d pc : Nat) (L : am_L) (st : List Value) (sk : am_K) (mem : am_M) (Q : am_P) : Prop := ∃ n, am_run code (am_ex d) n pc L st sk mem Q
def am_b (p : Prop) [Decidable p] : Int32 := if p then 1 else 0
theorem am_b01 (p : Prop) [Decidable p] : am_b p = 0 ∨ am_b p = 1 := by
  unfold am_b
  split
  · exact Or.inr rfl
  · exact Or.inl rfl
theorem am_b_eq {p q : Prop} [Decidable p] [Decidable q] (h : p ↔ q) : am_b p = am_b q := by
  unfold am_b
  by_cases hp : p
  · rw [if_pos hp, if_pos (h.mp hp)]
  · rw [if_neg hp, if_neg (fun z => hp (h.mpr z))]
theorem am_b0 {p : Prop} [Decidable p] : am_b p = 0 ↔ ¬ p := by
  unfold am_b
  split
  · exact ⟨fun h => absurd h (by decide), fun h => absurd (by assumption) h⟩
  · exact ⟨fun _ => by assumption, fun _ => rfl⟩
theorem am_bn0 {p : Prop} [Decidable p] : ¬ am_b p = 0 ↔ p := by
  rw [am_b0]
  exact Decidable.not_not
theorem am_bt {p : Prop} [Decidable p] (h : p) : am_b p = 1 := if_pos h
theorem am_bf {p : Prop} [Decidable p] (h : ¬ p) : am_b p = 0 := if_neg h
theorem am_leaf {Q : am_P} {v v' : Int32} {sk : am_K} {mem : am_M} (h : Q (some (.int v)) sk mem) (e : v' = v) : Q (some (.int v')) sk mem := e ▸ h
theorem am_leaf2 {Q : am_P} {v v' : Int32} {sk : am_K} {mem mem' : am_M} (h : Q (some (.int v)) sk mem) (e : v' = v) (e2 : mem' = mem) : Q (some (.int v')) sk mem' := e ▸ e2 ▸ h
section EV
variable {code : am_C} {d pc nx : Nat} {L : am_L} {st : List Value} {sk : am_K} {mem : am_M} {Q : am_P}
theorem ev_go {ins : Instr} {pc' : Nat} {L' : am_L} {st' : List Value} {sk' : am_K} {mem' : am_M} (hc : am_at code pc = some (ins, nx)) (hs : am_stp ins nx L st sk mem = some (.inl (pc', L', st', sk', mem'))) (k : am_ev code d pc' L' st' sk' mem' Q) : am_ev code d pc L st sk mem Q := by
  obtain ⟨n, h⟩ := k
  refine ⟨n + 1, ?_⟩
  unfold am_run
  simp only [hc, hs]
  exact h
theorem ev_ret {ins : Instr} {v : Option Value} (hc : am_at code pc = some (ins, nx)) (hs : am_stp ins nx L st sk mem = some (.inr (.inr v))) (h : Q v sk mem) : am_ev code d pc L st sk mem Q := by
  refine ⟨1, ?_⟩
  unfold am_run
  simp only [hc, hs]
  exact h
theorem ev_call {ins : Instr} {k : Nat} {as r : List Value} (hc : am_at code pc = some (ins, nx)) (hs : am_stp ins nx L st sk mem = some (.inr (.inl (k, as, r)))) (h : am_ex d k as sk mem (fun v sk' mem' => am_ev code d nx L (v.toList ++ r) sk' mem' Q)) : am_ev code d pc L st sk mem Q := by
  obtain ⟨v, sk', mem', ⟨n, h1⟩, h2⟩ := am_ex_det d _ _ _ _ _ h
  refine ⟨n + 1, ?_⟩
  unfold am_run
  simp only [hc, hs]
  refine am_ex_mono d _ _ _ _ _ _ (fun v' a b e => ?_) h2
  obtain ⟨rfl, rfl, rfl⟩ := e
  exact h1
theorem ex_in {k : Nat} {as : List Value} {c0 : am_C} (hc : am_code k = c0) (hL : am_L0 k as = L) (h : am_ev c0 d 0 L [] sk mem Q) : am_ex (d + 1) k as sk mem Q := by
  obtain ⟨n, h⟩ := h
  refine ⟨n, ?_⟩
  rw [hc, hL]
  exact h
theorem ev_mono {Q' : am_P} (h : am_ev code d pc L st sk mem Q) (hQ : ∀ v a b, Q v a b → Q' v a b) : am_ev code d pc L st sk mem Q' := by
  obtain ⟨n, h⟩ := h
  exact ⟨n, am_run_mono (am_ex_mono d) hQ n _ _ _ _ _ h⟩
theorem ev_iconst {v : Int} {x : Int32} (hc : am_at code pc = some (.iconst v, nx)) (hv : Int32.ofInt v = x) (k : am_ev code d nx L (.int x :: st) sk mem Q) : am_ev code d pc L st sk mem Q := by
  subst hv
  exact ev_go hc rfl k
theorem ev_iload {i : Nat} {x : Int32} (hc : am_at code pc = some (.iload i, nx)) (hl : L[i]? = some (some (.int x))) (k : am_ev code d nx L (.int x :: st) sk mem Q) : am_ev code d pc L st sk mem Q := ev_go hc (by simp only [am_stp, am_ilo, hl, am_go]) k
theorem ev_aload {i q : Nat} (hc : am_at code pc = some (.aload i, nx)) (hl : L[i]? = some (some (.ref q))) (k : am_ev code d nx L (.ref q :: st) sk mem Q) (hq : q ≠ 28 := by first | decide | omega) : am_ev code d pc L st sk mem Q := ev_go hc (by simp only [am_stp, am_alo, hl, am_go, if_neg hq]) k
theorem ev_istore {i : Nat} {x : Int32} {L' : am_L} (hc : am_at code pc = some (.istore i, nx)) (hl : L.set i (some (.int x)) = L') (hi : i < L.length) (k : am_ev code d nx L' st sk mem Q) : am_ev code d pc L (.int x :: st) sk mem Q := by
  subst hl
  exact ev_go hc (by simp only [am_stp, am_iso, am_go, if_pos hi]) k
theorem ev_astore {i q : Nat} {L' : am_L} (hc : am_at code pc = some (.astore i, nx)) (hl : L.set i (some (.ref q)) = L') (hi : i < L.length) (k : am_ev code d nx L' st sk mem Q) (hq : q ≠ 28 := by first | decide | omega) : am_ev code d pc L (.ref q :: st) sk mem Q := by
  subst hl
  exact ev_go hc (by simp only [am_stp, am_aso, am_go, if_pos (And.intro hi hq)]) k
theorem ev_iinc {i : Nat} {c : Int} {x y : Int32} {L' : am_L} (hc : am_at code pc = some (.iinc i c, nx)) (hx : L[i]? = some (some (.int x))) (hy : x + Int32.ofInt c = y) (hl : L.set i (some (.int y)) = L') (k : am_ev code d nx L' st sk mem Q) : am_ev code d pc L st sk mem Q := by
  subst hy; subst hl
  exact ev_go hc (by simp only [am_stp, am_inc, hx, am_go]) k
theorem ev_iadd {x y : Int32} (hc : am_at code pc = some (.iadd, nx)) (k : am_ev code d nx L (.int (x + y) :: st) sk mem Q) : am_ev code d pc L (.int y :: .int x :: st) sk mem Q := ev_go hc rfl k
theorem ev_isub {x y : Int32} (hc : am_at code pc = some (.isub, nx)) (k : am_ev code d nx L (.int (x - y) :: st) sk mem Q) : am_ev code d pc L (.int y :: .int x :: st) sk mem Q := ev_go hc rfl k
theorem ev_imul {x y : Int32} (hc : am_at code pc = some (.imul, nx)) (k : am_ev code d nx L (.int (x * y) :: st) sk mem Q) : am_ev code d pc L (.int y :: .int x :: st) sk mem Q := ev_go hc rfl k
theorem ev_iand {x y : Int32} (hc : am_at code pc = some (.iand, nx)) (k : am_ev code d nx L (.int (x &&& y) :: st) sk mem Q) : am_ev code d pc L (.int y :: .int x :: st) sk mem Q := ev_go hc rfl k
theorem ev_ior {x y : Int32} (hc : am_at code pc = some (.ior, nx)) (k : am_ev code d nx L (.int (x ||| y) :: st) sk mem Q) : am_ev code d pc L (.int y :: .int x :: st) sk mem Q := ev_go hc rfl k
theorem ev_ixor {x y : Int32} (hc : am_at code pc = some (.ixor, nx)) (k : am_ev code d nx L (.int (x ^^^ y) :: st) sk mem Q) : am_ev code d pc L (.int y :: .int x :: st) sk mem Q := ev_go hc rfl k
theorem ev_ishl {x y : Int32} (hc : am_at code pc = some (.ishl, nx)) (k : am_ev code d nx L (.int (x <<< (y &&& 31)) :: st) sk mem Q) : am_ev code d pc L (.int y :: .int x :: st) sk mem Q := ev_go hc rfl k
theorem ev_ishr {x y : Int32} (hc : am_at code pc = some (.ishr, nx)) (k : am_ev code d nx L (.int (x >>> (y &&& 31)) :: st) sk mem Q) : am_ev code d pc L (.int y :: .int x :: st) sk mem Q := ev_go hc rfl k
theorem ev_iushr {x y : Int32} (hc : am_at code pc = some (.iushr, nx)) (k : am_ev code d nx L (.int ((x.toUInt32 >>> (y.toUInt32 &&& Int32.toUInt32 31)).toInt32) :: st) sk mem Q) : am_ev code d pc L (.int y :: .int x :: st) sk mem Q := ev_go hc rfl k
theorem ev_idiv {x y : Int32} (hc : am_at code pc = some (.idiv, nx)) (k : am_ev code d nx L (.int (x / y) :: st) sk mem Q) (hy : ¬ y = 0 := by first | decide | assumption) : am_ev code d pc L (.int y :: .int x :: st) sk mem Q := ev_go hc (by simp only [am_stp, am_i2z, if_neg hy, am_go]) k
theorem ev_irem {x y : Int32} (hc : am_at code pc = some (.irem, nx)) (k : am_ev code d nx L (.int (x - x / y * y) :: st) sk mem Q) (hy : ¬ y = 0 := by first | decide | assumption) : am_ev code d pc L (.int y :: .int x :: st) sk mem Q := ev_go hc (by simp only [am_stp, am_i2z, if_neg hy, am_go]) k
theorem ev_ineg {x : Int32} (hc : am_at code pc = some (.ineg, nx)) (k : am_ev code d nx L (.int (-x) :: st) sk mem Q) : am_ev code d pc L (.int x :: st) sk mem Q := ev_go hc rfl k
theorem ev_i2s {x : Int32} (hc : am_at code pc = some (.i2s, nx)) (k : am_ev code d nx L (.int (x.toInt16.toInt32) :: st) sk mem Q) : am_ev code d pc L (.int x :: st) sk mem Q := ev_go hc rfl k
theorem ev_i2b {x : Int32} (hc : am_at code pc = some (.i2b, nx)) (k : am_ev code d nx L (.int (x.toInt8.toInt32) :: st) sk mem Q) : am_ev code d pc L (.int x :: st) sk mem Q := ev_go hc rfl k
theorem ev_i2c {x : Int32} (hc : am_at code pc = some (.i2c, nx)) (k : am_ev code d nx L (.int ((x.toUInt32 % 65536).toInt32) :: st) sk mem Q) : am_ev code d pc L (.int x :: st) sk mem Q := ev_go hc rfl k
theorem ev_dupR {q : Nat} (hc : am_at code pc = some (.dup, nx)) (k : am_ev code d nx L (.ref q :: .ref q :: st) sk mem Q) : am_ev code d pc L (.ref q :: st) sk mem Q := ev_go hc rfl k
theorem ev_dupI {x : Int32} (hc : am_at code pc = some (.dup, nx)) (k : am_ev code d nx L (.int x :: .int x :: st) sk mem Q) : am_ev code d pc L (.int x :: st) sk mem Q := ev_go hc rfl k
theorem ev_dup2 {q : Nat} {x : Int32} (hc : am_at code pc = some (.dup2, nx)) (k : am_ev code d nx L (.int x :: .ref q :: .int x :: .ref q :: st) sk mem Q) : am_ev code d pc L (.int x :: .ref q :: st) sk mem Q := ev_go hc rfl k
theorem ev_pop {x : Int32} (hc : am_at code pc = some (.pop, nx)) (k : am_ev code d nx L st sk mem Q) : am_ev code d pc L (.int x :: st) sk mem Q := ev_go hc rfl k
theorem ev_pop2 {q : Nat} (hc : am_at code pc = some (.pop2, nx)) (k : am_ev code d nx L st sk mem Q) (hl : st.length ≤ 8 ∧ q ≠ 28 := by exact ⟨by decide, by omega⟩) : am_ev code d pc L (.ref q :: st) sk mem Q := ev_go hc (by simp only [am_stp, am_go, if_pos hl]) k
theorem ev_ldc {i : Nat} (hc : am_at code pc = some (.ldc i, nx)) (k : am_ev code d nx L (.ref (2 + i) :: st) sk mem Q) (hi : i < 13 := by decide) : am_ev code d pc L st sk mem Q := ev_go hc (by simp only [am_stp, am_go, if_pos hi]) k
theorem ev_gets {i : Nat} {v : Value} (hc : am_at code pc = some (.getstatic i, nx)) (hv : am_gsv i = v) (k : am_ev code d nx L (v :: st) sk mem Q) : am_ev code d pc L st sk mem Q := by
  subst hv
  exact ev_go hc rfl k
theorem ev_goto {t : Int} {p2 : Nat} (hc : am_at code pc = some (.goto t, nx)) (ht : t.toNat = p2) (k : am_ev code d p2 L st sk mem Q) : am_ev code d pc L st sk mem Q := by
  subst ht
  exact ev_go hc rfl k
theorem ev_getI {c j q N : Nat} {rs : List (Option Nat)} (hc : am_at code pc = some (.getfield (64 * c + j), nx)) (k : am_ev code d nx L (.int (mem q j) :: st) sk mem Q) (hq : sk[q]? = some (c, N, rs) := by assumption) (h : j < 64 ∧ j < N ∧ ¬ am_ft c j = 2 := by exact ⟨by decide, by decide, by decide⟩) : am_ev code d pc L (.ref q :: st) sk mem Q := ev_go hc (by
  have h1 : (64 * c + j) / 64 = c := by omega
  have h2 : (64 * c + j) % 64 = j := by omega
  simp only [am_stp, am_get, hq, h1, h2, h.2.1, and_self, if_pos, if_neg h.2.2, am_go]) k
theorem ev_getR {c j q N y : Nat} {rs : List (Option Nat)} (hc : am_at code pc = some (.getfield (64 * c + j), nx)) (k : am_ev code d nx L (.ref y :: st) sk mem Q) (hq : sk[q]? = some (c, N, rs) := by assumption) (hy : rs[j]? = some (some y) := by rfl) (h : j < 64 ∧ j < N ∧ am_ft c j = 2 := by exact ⟨by decide, by decide, by decide⟩) : am_ev code d pc L (.ref q :: st) sk mem Q := ev_go hc (by
  have h1 : (64 * c + j) / 64 = c := by omega
  have h2 : (64 * c + j) % 64 = j := by omega
  simp only [am_stp, am_get, hq, h1, h2, h.2.1, and_self, if_pos, h.2.2, hy, am_go]) k
theorem ev_put {c j q N : Nat} {x : Int32} {rs : List (Option Nat)} (hc : am_at code pc = some (.putfield (64 * c + j), nx)) (k : am_ev code d nx L st sk (am_up mem q j x) Q) (hq : sk[q]? = some (c, N, rs) := by assumption) (h29 : 29 ≤ q := by first | decide | omega) (h : j < 64 ∧ j < N ∧ am_ft c j = 0 := by exact ⟨by decide, by decide, by decide⟩) : am_ev code d pc L (.int x :: .ref q :: st) sk mem Q := ev_go hc (by
  have h1 : (64 * c + j) / 64 = c := by omega
  have h2 : (64 * c + j) % 64 = j := by omega
  simp only [am_stp, am_put, hq, h1, h2, h.2.1, h29, h.2.2, true_or, and_self, if_pos, am_go]) k
theorem ev_putB {c j q N : Nat} {x : Int32} {rs : List (Option Nat)} (hc : am_at code pc = some (.putfield (64 * c + j), nx)) (k : am_ev code d nx L st sk (am_up mem q j x) Q) (hx : x = 0 ∨ x = 1 := by first | assumption | exact am_b01 _ | decide) (hq : sk[q]? = some (c, N, rs) := by assumption) (h29 : 29 ≤ q := by first | decide | omega) (h : j < 64 ∧ j < N ∧ am_ft c j = 1 := by exact ⟨by decide, by decide, by decide⟩) : am_ev code d pc L (.int x :: .ref q :: st) sk mem Q := ev_go hc (by
  have h1 : (64 * c + j) / 64 = c := by omega
  have h2 : (64 * c + j) % 64 = j := by omega
  simp only [am_stp, am_put, hq, h1, h2, h.2.1, h29, h.2.2, hx, and_self, or_true, if_pos, am_go]) k
theorem ev_putR {c j q N y : Nat} {rs : List (Option Nat)} {sk' : am_K} (hc : am_at code pc = some (.putstatic (64 * c + j), nx)) (hq : sk[q]? = some (c, N, rs)) (hs : sk.set q (c, N, rs.set j (some y)) = sk') (k : am_ev code d nx L st sk' mem Q) (h29 : 29 ≤ q ∧ 29 ≤ y ∧ y < sk.length) (hr : rs.length = N) (h : j < 64 ∧ j < N ∧ am_ft c j = 2 := by exact ⟨by decide, by decide, by decide⟩) : am_ev code d pc L (.ref y :: .ref q :: st) sk mem Q := by
  subst hs
  exact ev_go hc (by
    have h1 : (64 * c + j) / 64 = c := by omega
    have h2 : (64 * c + j) % 64 = j := by omega
    simp only [am_stp, am_putR, hq, h1, h2, h.2.1, h29.1, h29.2.1, h29.2.2, h.2.2, hr, and_self, if_pos, am_go]) k
theorem ev_iald {q N : Nat} {i : Int32} {rs : List (Option Nat)} (hc : am_at code pc = some (.iaload, nx)) (k : am_ev code d nx L (.int (mem q i.toNatClampNeg) :: st) sk mem Q) (hq : sk[q]? = some (20, N, rs) := by assumption) (hin : ¬ (i < 0 ∨ N ≤ i.toNatClampNeg) := by first | decide | assumption) : am_ev code d pc L (.int i :: .ref q :: st) sk mem Q := ev_go hc (by simp only [am_stp, am_ild, hq, if_pos, if_neg hin, am_go]) k
theorem ev_zald {q N : Nat} {i : Int32} {rs : List (Option Nat)} (hc : am_at code pc = some (.baload, nx)) (k : am_ev code d nx L (.int (mem q i.toNatClampNeg) :: st) sk mem Q) (hq : sk[q]? = some (21, N, rs) := by assumption) (hin : ¬ (i < 0 ∨ N ≤ i.toNatClampNeg) := by first | decide | assumption) : am_ev code d pc L (.int i :: .ref q :: st) sk mem Q := ev_go hc (by simp only [am_stp, am_ild, hq, if_pos, if_neg hin, am_go]) k
theorem ev_cald {q N : Nat} {i : Int32} {rs : List (Option Nat)} (hc : am_at code pc = some (.caload, nx)) (k : am_ev code d nx L (.int (mem q i.toNatClampNeg) :: st) sk mem Q) (hq : sk[q]? = some (22, N, rs) := by assumption) (hin : ¬ (i < 0 ∨ N ≤ i.toNatClampNeg) := by first | decide | assumption) : am_ev code d pc L (.int i :: .ref q :: st) sk mem Q := ev_go hc (by simp only [am_stp, am_ild, hq, if_pos, if_neg hin, am_go]) k
theorem ev_bald {q N : Nat} {i : Int32} {rs : List (Option Nat)} (hc : am_at code pc = some (.saload, nx)) (k : am_ev code d nx L (.int (mem q i.toNatClampNeg) :: st) sk mem Q) (hq : sk[q]? = some (23, N, rs) := by assumption) (hin : ¬ (i < 0 ∨ N ≤ i.toNatClampNeg) := by first | decide | assumption) : am_ev code d pc L (.int i :: .ref q :: st) sk mem Q := ev_go hc (by simp only [am_stp, am_ild, hq, if_pos, if_neg hin, am_go]) k
theorem ev_iast {q N : Nat} {i x : Int32} {rs : List (Option Nat)} (hc : am_at code pc = some (.iastore, nx)) (k : am_ev code d nx L st sk (am_up mem q i.toNatClampNeg x) Q) (hq : sk[q]? = some (20, N, rs) := by assumption) (hin : ¬ (i < 0 ∨ N ≤ i.toNatClampNeg) := by first | decide | assumption) (h29 : 29 ≤ q := by first | decide | omega) : am_ev code d pc L (.int x :: .int i :: .ref q :: st) sk mem Q := ev_go hc (by simp only [am_stp, am_ist, hq, h29, am_fit, show ¬ (20 : Nat) = 21 by decide, show ¬ (20 : Nat) = 22 by decide, if_false, true_and, and_self, if_true, if_neg hin, am_go]) k
theorem ev_zast {q N : Nat} {i x : Int32} {rs : List (Option Nat)} (hc : am_at code pc = some (.bastore, nx)) (k : am_ev code d nx L st sk (am_up mem q i.toNatClampNeg x) Q) (hx : x = 0 ∨ x = 1 := by first | assumption | exact am_b01 _ | decide) (hq : sk[q]? = some (21, N, rs) := by assumption) (hin : ¬ (i < 0 ∨ N ≤ i.toNatClampNeg) := by first | decide | assumption) (h29 : 29 ≤ q := by first | decide | omega) : am_ev code d pc L (.int x :: .int i :: .ref q :: st) sk mem Q := ev_go hc (by simp only [am_stp, am_ist, hq, h29, am_fit, hx, decide_true, and_self, if_true, if_neg hin, am_go]) k
theorem ev_ald {q kd N y : Nat} {i : Int32} {rs : List (Option Nat)} (hc : am_at code pc = some (.aaload, nx)) (k : am_ev code d nx L (.ref y :: st) sk mem Q) (hq : sk[q]? = some (kd, N, rs) := by assumption) (hin : ¬ (i < 0 ∨ N ≤ i.toNatClampNeg) := by first | decide | assumption) (hy : rs[i.toNatClampNeg]? = some (some y) := by first | rfl | assumption) (h : 30 ≤ kd ∧ 29 ≤ q := by exact ⟨by decide, by first | decide | omega⟩) : am_ev code d pc L (.int i :: .ref q :: st) sk mem Q := ev_go hc (by simp only [am_stp, am_ald, hq, h.1, h.2, and_self, if_true, if_neg hin, hy, am_go]) k
theorem ev_alen {q kd N : Nat} {rs : List (Option Nat)} (hc : am_at code pc = some (.arraylength, nx)) (k : am_ev code d nx L (.int (Int32.ofNat N) :: st) sk mem Q) (hq : sk[q]? = some (kd, N, rs) := by assumption) (h : 20 ≤ kd ∧ kd < 90 := by exact ⟨by decide, by decide⟩) : am_ev code d pc L (.ref q :: st) sk mem Q := ev_go hc (by simp only [am_stp, am_alen, hq, h.1, h.2, and_self, if_true, am_go]) k
theorem ev_copy {j a b na nb : Nat} {n dp sp : Int32} {ra rb : List (Option Nat)} (hc : am_at code pc = some (.invokedynamic j, nx)) (k : am_ev code d nx L st sk (am_cp mem a b sp.toNatClampNeg dp.toNatClampNeg n.toNatClampNeg) Q) (ha : sk[a]? = some (20, na, ra)) (hb : sk[b]? = some (20, nb, rb)) (h29 : 29 ≤ a ∧ 29 ≤ b) (h1 : ¬ sp < 0) (h2 : ¬ dp < 0) (h3 : ¬ n < 0) (h4 : sp.toNatClampNeg + n.toNatClampNeg ≤ na) (h5 : dp.toNatClampNeg + n.toNatClampNeg ≤ nb) (h6 : st.length ≤ 8) : am_ev code d pc L (.int n :: .int dp :: .ref b :: .int sp :: .ref a :: st) sk mem Q := ev_go hc (by
  simp only [am_stp, am_copy, ha, hb]
  rw [if_pos ⟨trivial, trivial, h29.1, h29.2, h1, h2, h3, h4, h5, h6⟩]
  rfl) k
theorem ev_if_eq {t : Int} {p2 : Nat} {x : Int32} (hc : am_at code pc = some (.ifCond .eq t, nx)) (ht : t.toNat = p2) (k1 : x = 0 → am_ev code d p2 L st sk mem Q) (k2 : ¬ x = 0 → am_ev code d nx L st sk mem Q) : am_ev code d pc L (.int x :: st) sk mem Q := by
  subst ht
  refine ev_go hc (by rfl) ?_
  by_cases h : x = 0
  · rw [show am_cd .eq x 0 = true from decide_eq_true h]; exact k1 h
  · rw [show am_cd .eq x 0 = false from decide_eq_false h]; exact k2 h
theorem ev_if_ne {t : Int} {p2 : Nat} {x : Int32} (hc : am_at code pc = some (.ifCond .ne t, nx)) (ht : t.toNat = p2) (k1 : ¬ x = 0 → am_ev code d p2 L st sk mem Q) (k2 : x = 0 → am_ev code d nx L st sk mem Q) : am_ev code d pc L (.int x :: st) sk mem Q := by
  subst ht
  refine ev_go hc (by rfl) ?_
  by_cases h : x = 0
  · rw [show am_cd .ne x 0 = false by simp [am_cd, h]]; exact k2 h
  · rw [show am_cd .ne x 0 = true by simp [am_cd, h]]; exact k1 h
theorem ev_if_lt {t : Int} {p2 : Nat} {x : Int32} (hc : am_at code pc = some (.ifCond .lt t, nx)) (ht : t.toNat = p2) (k1 : x < 0 → am_ev code d p2 L st sk mem Q) (k2 : ¬ x < 0 → am_ev code d nx L st sk mem Q) : am_ev code d pc L (.int x :: st) sk mem Q := by
  subst ht
  refine ev_go hc (by rfl) ?_
  by_cases h : x < 0
  · rw [show am_cd .lt x 0 = true from decide_eq_true h]; exact k1 h
  · rw [show am_cd .lt x 0 = false from decide_eq_false h]; exact k2 h
theorem ev_if_ge {t : Int} {p2 : Nat} {x : Int32} (hc : am_at code pc = some (.ifCond .ge t, nx)) (ht : t.toNat = p2) (k1 : 0 ≤ x → am_ev code d p2 L st sk mem Q) (k2 : ¬ 0 ≤ x → am_ev code d nx L st sk mem Q) : am_ev code d pc L (.int x :: st) sk mem Q := by
  subst ht
  refine ev_go hc (by rfl) ?_
  by_cases h : 0 ≤ x
  · rw [show am_cd .ge x 0 = true from decide_eq_true h]; exact k1 h
  · rw [show am_cd .ge x 0 = false from decide_eq_false h]; exact k2 h
theorem ev_if_gt {t : Int} {p2 : Nat} {x : Int32} (hc : am_at code pc = some (.ifCond .gt t, nx)) (ht : t.toNat = p2) (k1 : 0 < x → am_ev code d p2 L st sk mem Q) (k2 : ¬ 0 < x → am_ev code d nx L st sk mem Q) : am_ev code d pc L (.int x :: st) sk mem Q := by
  subst ht
  refine ev_go hc (by rfl) ?_
  by_cases h : 0 < x
  · rw [show am_cd .gt x 0 = true from decide_eq_true h]; exact k1 h
  · rw [show am_cd .gt x 0 = false from decide_eq_false h]; exact k2 h
theorem ev_if_le {t : Int} {p2 : Nat} {x : Int32} (hc : am_at code pc = some (.ifCond .le t, nx)) (ht : t.toNat = p2) (k1 : x ≤ 0 → am_ev code d p2 L st sk mem Q) (k2 : ¬ x ≤ 0 → am_ev code d nx L st sk mem Q) : am_ev code d pc L (.int x :: st) sk mem Q := by
  subst ht
  refine ev_go hc (by rfl) ?_
  by_cases h : x ≤ 0
  · rw [show am_cd .le x 0 = true from decide_eq_true h]; exact k1 h
  · rw [show am_cd .le x 0 = false from decide_eq_false h]; exact k2 h
theorem ev_icmp_eq {t : Int} {p2 : Nat} {x y : Int32} (hc : am_at code pc = some (.if_icmp .eq t, nx)) (ht : t.toNat = p2) (k1 : x = y → am_ev code d p2 L st sk mem Q) (k2 : ¬ x = y → am_ev code d nx L st sk mem Q) : am_ev code d pc L (.int y :: .int x :: st) sk mem Q := by
  subst ht
  refine ev_go hc (by rfl) ?_
  by_cases h : x = y
  · rw [show am_cd .eq x y = true from decide_eq_true h]; exact k1 h
  · rw [show am_cd .eq x y = false from decide_eq_false h]; exact k2 h
theorem ev_icmp_ne {t : Int} {p2 : Nat} {x y : Int32} (hc : am_at code pc = some (.if_icmp .ne t, nx)) (ht : t.toNat = p2) (k1 : ¬ x = y → am_ev code d p2 L st sk mem Q) (k2 : x = y → am_ev code d nx L st sk mem Q) : am_ev code d pc L (.int y :: .int x :: st) sk mem Q := by
  subst ht
  refine ev_go hc (by rfl) ?_
  by_cases h : x = y
  · rw [show am_cd .ne x y = false by simp [am_cd, h]]; exact k2 h
  · rw [show am_cd .ne x y = true by simp [am_cd, h]]; exact k1 h
theorem ev_icmp_lt {t : Int} {p2 : Nat} {x y : Int32} (hc : am_at code pc = some (.if_icmp .lt t, nx)) (ht : t.toNat = p2) (k1 : x < y → am_ev code d p2 L st sk mem Q) (k2 : ¬ x < y → am_ev code d nx L st sk mem Q) : am_ev code d pc L (.int y :: .int x :: st) sk mem Q := by
  subst ht
  refine ev_go hc (by rfl) ?_
  by_cases h : x < y
  · rw [show am_cd .lt x y = true from decide_eq_true h]; exact k1 h
  · rw [show am_cd .lt x y = false from decide_eq_false h]; exact k2 h
theorem ev_icmp_ge {t : Int} {p2 : Nat} {x y : Int32} (hc : am_at code pc = some (.if_icmp .ge t, nx)) (ht : t.toNat = p2) (k1 : y ≤ x → am_ev code d p2 L st sk mem Q) (k2 : ¬ y ≤ x → am_ev code d nx L st sk mem Q) : am_ev code d pc L (.int y :: .int x :: st) sk mem Q := by
  subst ht
  refine ev_go hc (by rfl) ?_
  by_cases h : y ≤ x
  · rw [show am_cd .ge x y = true from decide_eq_true h]; exact k1 h
  · rw [show am_cd .ge x y = false from decide_eq_false h]; exact k2 h
theorem ev_icmp_gt {t : Int} {p2 : Nat} {x y : Int32} (hc : am_at code pc = some (.if_icmp .gt t, nx)) (ht : t.toNat = p2) (k1 : y < x → am_ev code d p2 L st sk mem Q) (k2 : ¬ y < x → am_ev code d nx L st sk mem Q) : am_ev code d pc L (.int y :: .int x :: st) sk mem Q := by
  subst ht
  refine ev_go hc (by rfl) ?_
  by_cases h : y < x
  · rw [show am_cd .gt x y = true from decide_eq_true h]; exact k1 h
  · rw [show am_cd .gt x y = false from decide_eq_false h]; exact k2 h
theorem ev_icmp_le {t : Int} {p2 : Nat} {x y : Int32} (hc : am_at code pc = some (.if_icmp .le t, nx)) (ht : t.toNat = p2) (k1 : x ≤ y → am_ev code d p2 L st sk mem Q) (k2 : ¬ x ≤ y → am_ev code d nx L st sk mem Q) : am_ev code d pc L (.int y :: .int x :: st) sk mem Q := by
  subst ht
  refine ev_go hc (by rfl) ?_
  by_cases h : x ≤ y
  · rw [show am_cd .le x y = true from decide_eq_true h]; exact k1 h
  · rw [show am_cd .le x y = false from decide_eq_false h]; exact k2 h
theorem ev_iret {x : Int32} (hc : am_at code pc = some (.ireturn, nx)) (h : Q (some (.int x)) sk mem) : am_ev code d pc L [.int x] sk mem Q := ev_ret hc rfl h
theorem ev_zret {x : Int32} (hc : am_at code pc = some (.freturn, nx)) (h : Q (some (.int x)) sk mem) (hx : x = 0 ∨ x = 1 := by first | assumption | exact am_b01 _ | decide) : am_ev code d pc L [.int x] sk mem Q := ev_ret hc (by simp only [am_stp, if_pos hx]) h
theorem ev_aret {q : Nat} (hc : am_at code pc = some (.areturn, nx)) (h : Q (some (.ref q)) sk mem) (hq : q ≠ 28 := by first | decide | omega) : am_ev code d pc L [.ref q] sk mem Q := ev_ret hc (by simp only [am_stp, if_neg hq]) h
theorem ev_vret (hc : am_at code pc = some (.return_, nx)) (h : Q none sk mem) : am_ev code d pc L [] sk mem Q := ev_ret hc rfl h
end EV
end
section
/-! the cells as the two constructors leave them: 29 the class, 66 104 142 its towns, 221 the reference -/
def am_S1 : am_K := [(11, 14, [some 30, some 62, some 66, some 104, some 142, none, some 180, some 189, some 193, some 194, some 195, none, some 196, some 197]), (0, 3, [some 31, some 32, some 33]), (38, 14, [some 34, some 36, some 38, some 40, some 42, some 44, some 46, some 48, some 50, some 52, some 54, some 56, some 58, some 60]), (20, 26, []), (20, 96, []), (8, 4, [none, none, none, some 35]), (20, 96, []), (8, 4, [none, none, none, some 37]), (20, 96, []), (8, 4, [none, none, none, some 39]), (20, 96, []), (8, 4, [none, none, none, some 41]), (20, 96, []), (8, 4, [none, none, none, some 43]), (20, 96, []), (8, 4, [none, none, none, some 45]), (20, 96, []), (8, 4, [none, none, none, some 47]), (20, 96, []), (8, 4, [none, none, none, some 49]), (20, 96, []), (8, 4, [none, none, none, some 51]), (20, 96, []), (8, 4, [none, none, none, some 53]), (20, 96, []), (8, 4, [none, none, none, some 55]), (20, 96, []), (8, 4, [none, none, none, some 57]), (20, 96, []), (8, 4, [none, none, none, some 59]), (20, 96, []), (8, 4, [none, none, none, some 61]), (20, 96, []), (5, 7, [some 63, none, some 64, none, none, none, none]), (20, 96, []), (8, 4, [none, none, none, some 65]), (20, 96, []), (9, 16, [some 30, some 67, none, some 68, none, some 69, none, none, none, none, some 70, none, some 71, none, none, some 72]), (31, 3, [some 73, some 74, some 75]), (33, 12, [some 76, some 77, some 78, some 79, some 80, some 81, some 82, some 83, some 84, some 85, some 86, some 87]), (34, 16, [some 88, some 89, some 90, some 91, some 92, some 93, some 94, some 95, some 96, some 97, some 98, some 99, some 100, some 101, some 102, some 103]), (20, 8, []), (20, 6, []), (20, 4, []), (1, 6, List.replicate 6 none), (1, 6, List.replicate 6 none), (1, 6, List.replicate 6 none), (3, 4, List.replicate 4 none), (3, 4, List.replicate 4 none), (3, 4, List.replicate 4 none), (3, 4, List.replicate 4 none), (3, 4, List.replicate 4 none), (3, 4, List.replicate 4 none), (3, 4, List.replicate 4 none), (3, 4, List.replicate 4 none), (3, 4, List.replicate 4 none), (3, 4, List.replicate 4 none), (3, 4, List.replicate 4 none), (3, 4, List.replicate 4 none), (4, 7, List.replicate 7 none), (4, 7, List.replicate 7 none), (4, 7, List.replicate 7 none), (4, 7, List.replicate 7 none), (4, 7, List.replicate 7 none), (4, 7, List.replicate 7 none), (4, 7, List.replicate 7 none), (4, 7, List.replicate 7 none), (4, 7, List.replicate 7 none), (4, 7, List.replicate 7 none), (4, 7, List.replicate 7 none), (4, 7, List.replicate 7 none), (4, 7, List.replicate 7 none), (4, 7, List.replicate 7 none), (4, 7, List.replicate 7 none), (4, 7, List.replicate 7 none), (9, 16, [some 30, some 105, none, some 106, none, some 107, none, none, none, none, some 108, none, some 109, none, none, some 110]), (31, 3, [some 111, some 112, some 113]), (33, 12, [some 114, some 115, some 116, some 117, some 118, some 119, some 120, some 121, some 122, some 123, some 124, some 125]), (34, 16, [some 126, some 127, some 128, some 129, some 130, some 131, some 132, some 133, some 134, some 135, some 136, some 137, some 138, some 139, some 140, some 141]), (20, 8, []), (20, 6, []), (20, 4, []), (1, 6, List.replicate 6 none), (1, 6, List.replicate 6 none), (1, 6, List.replicate 6 none), (3, 4, List.replicate 4 none), (3, 4, List.replicate 4 none), (3, 4, List.replicate 4 none), (3, 4, List.replicate 4 none), (3, 4, List.replicate 4 none), (3, 4, List.replicate 4 none), (3, 4, List.replicate 4 none), (3, 4, List.replicate 4 none), (3, 4, List.replicate 4 none), (3, 4, List.replicate 4 none), (3, 4, List.replicate 4 none), (3, 4, List.replicate 4 none), (4, 7, List.replicate 7 none), (4, 7, List.replicate 7 none), (4, 7, List.replicate 7 none), (4, 7, List.replicate 7 none), (4, 7, List.replicate 7 none), (4, 7, List.replicate 7 none), (4, 7, List.replicate 7 none), (4, 7, List.replicate 7 none), (4, 7, List.replicate 7 none), (4, 7, List.replicate 7 none), (4, 7, List.replicate 7 none), (4, 7, List.replicate 7 none), (4, 7, List.replicate 7 none), (4, 7, List.replicate 7 none), (4, 7, List.replicate 7 none), (4, 7, List.replicate 7 none), (9, 16, [some 30, some 143, none, some 144, none, some 145, none, none, none, none, some 146, none, some 147, none, none, some 148]), (31, 3, [some 149, some 150, some 151]), (33, 12, [some 152, some 153, some 154, some 155, some 156, some 157, some 158, some 159, some 160, some 161, some 162, some 163]), (34, 16, [some 164, some 165, some 166, some 167, some 168, some 169, some 170, some 171, some 172, some 173, some 174, some 175, some 176, some 177, some 178, some 179]), (20, 8, []), (20, 6, []), (20, 4, []), (1, 6, List.replicate 6 none), (1, 6, List.replicate 6 none), (1, 6, List.replicate 6 none), (3, 4, List.replicate 4 none), (3, 4, List.replicate 4 none), (3, 4, List.replicate 4 none), (3, 4, List.replicate 4 none), (3, 4, List.replicate 4 none), (3, 4, List.replicate 4 none), (3, 4, List.replicate 4 none), (3, 4, List.replicate 4 none), (3, 4, List.replicate 4 none), (3, 4, List.replicate 4 none), (3, 4, List.replicate 4 none), (3, 4, List.replicate 4 none), (4, 7, List.replicate 7 none), (4, 7, List.replicate 7 none), (4, 7, List.replicate 7 none), (4, 7, List.replicate 7 none), (4, 7, List.replicate 7 none), (4, 7, List.replicate 7 none), (4, 7, List.replicate 7 none), (4, 7, List.replicate 7 none), (4, 7, List.replicate 7 none), (4, 7, List.replicate 7 none), (4, 7, List.replicate 7 none), (4, 7, List.replicate 7 none), (4, 7, List.replicate 7 none), (4, 7, List.replicate 7 none), (4, 7, List.replicate 7 none), (4, 7, List.replicate 7 none), (2, 9, [some 181, some 182, some 183, some 184, some 185, some 186, some 187, some 188, none]), (20, 3, []), (20, 3, []), (20, 12, []), (20, 12, []), (21, 3, []), (21, 12, []), (21, 12, []), (21, 16, []), (10, 6, [some 190, some 191, some 192, none, none, none]), (20, 6, []), (20, 6, []), (20, 6, []), (36, 4, [some 198, some 200, some 202, some 204]), (37, 5, [some 206, some 209, some 212, some 215, some 218]), (20, 60, []), (20, 8, []), (20, 16, []), (6, 3, [none, none, some 199]), (20, 24, []), (6, 3, [none, none, some 201]), (20, 24, []), (6, 3, [none, none, some 203]), (20, 24, []), (6, 3, [none, none, some 205]), (20, 24, []), (7, 4, [none, none, none, some 207]), (6, 3, [none, none, some 208]), (20, 24, []), (7, 4, [none, none, none, some 210]), (6, 3, [none, none, some 211]), (20, 24, []), (7, 4, [none, none, none, some 213]), (6, 3, [none, none, some 214]), (20, 24, []), (7, 4, [none, none, none, some 216]), (6, 3, [none, none, some 217]), (20, 24, []), (7, 4, [none, none, none, some 219]), (6, 3, [none, none, some 220]), (20, 24, []), (12, 44, [some 222, some 223, some 224, none, some 225, some 226, none, none, none, none, none, none, none, some 227, some 228, some 229, none, none, some 230, none, some 231, some 232, some 233, some 234, some 235, some 236, some 237, some 238, some 239, some 240, some 241, some 242, some 243, some 244, none, some 245, some 246, some 247, some 248, some 249, some 250, some 251, some 252, none]), (20, 1561, []), (20, 1561, []), (20, 1561, []), (21, 16, []), (20, 96, []), (22, 15, []), (20, 5, []), (20, 96, []), (20, 96, []), (21, 10, []), (20, 96, []), (20, 4, []), (20, 12, []), (20, 12, []), (20, 3, []), (20, 3, []), (21, 3, []), (21, 12, []), (21, 16, []), (21, 12, []), (20, 8, []), (20, 6, []), (20, 6, []), (20, 4, []), (20, 4, []), (20, 96, []), (20, 5, []), (20, 5, []), (20, 120, []), (20, 24, []), (20, 60, [])]
def am_SK (n : Nat) : am_K := am_ro n ++ am_S1
theorem k_29 (n : Nat) : (am_SK n)[29]? = some (11, 14, [some 30, some 62, some 66, some 104, some 142, none, some 180, some 189, some 193, some 194, some 195, none, some 196, some 197]) := rfl
theorem k_30 (n : Nat) : (am_SK n)[30]? = some (0, 3, [some 31, some 32, some 33]) := rfl
theorem k_31 (n : Nat) : (am_SK n)[31]? = some (38, 14, [some 34, some 36, some 38, some 40, some 42, some 44, some 46, some 48, some 50, some 52, some 54, some 56, some 58, some 60]) := rfl
theorem k_32 (n : Nat) : (am_SK n)[32]? = some (20, 26, []) := rfl
theorem k_33 (n : Nat) : (am_SK n)[33]? = some (20, 96, []) := rfl
theorem k_34 (n : Nat) : (am_SK n)[34]? = some (8, 4, [none, none, none, some 35]) := rfl
theorem k_35 (n : Nat) : (am_SK n)[35]? = some (20, 96, []) := rfl
theorem k_36 (n : Nat) : (am_SK n)[36]? = some (8, 4, [none, none, none, some 37]) := rfl
theorem k_37 (n : Nat) : (am_SK n)[37]? = some (20, 96, []) := rfl
theorem k_38 (n : Nat) : (am_SK n)[38]? = some (8, 4, [none, none, none, some 39]) := rfl
theorem k_39 (n : Nat) : (am_SK n)[39]? = some (20, 96, []) := rfl
theorem k_40 (n : Nat) : (am_SK n)[40]? = some (8, 4, [none, none, none, some 41]) := rfl
theorem k_41 (n : Nat) : (am_SK n)[41]? = some (20, 96, []) := rfl
theorem k_42 (n : Nat) : (am_SK n)[42]? = some (8, 4, [none, none, none, some 43]) := rfl
theorem k_43 (n : Nat) : (am_SK n)[43]? = some (20, 96, []) := rfl
theorem k_44 (n : Nat) : (am_SK n)[44]? = some (8, 4, [none, none, none, some 45]) := rfl
theorem k_45 (n : Nat) : (am_SK n)[45]? = some (20, 96, []) := rfl
theorem k_46 (n : Nat) : (am_SK n)[46]? = some (8, 4, [none, none, none, some 47]) := rfl
theorem k_47 (n : Nat) : (am_SK n)[47]? = some (20, 96, []) := rfl
theorem k_48 (n : Nat) : (am_SK n)[48]? = some (8, 4, [none, none, none, some 49]) := rfl
theorem k_49 (n : Nat) : (am_SK n)[49]? = some (20, 96, []) := rfl
theorem k_50 (n : Nat) : (am_SK n)[50]? = some (8, 4, [none, none, none, some 51]) := rfl
theorem k_51 (n : Nat) : (am_SK n)[51]? = some (20, 96, []) := rfl
theorem k_52 (n : Nat) : (am_SK n)[52]? = some (8, 4, [none, none, none, some 53]) := rfl
theorem k_53 (n : Nat) : (am_SK n)[53]? = some (20, 96, []) := rfl
theorem k_54 (n : Nat) : (am_SK n)[54]? = some (8, 4, [none, none, none, some 55]) := rfl
theorem k_55 (n : Nat) : (am_SK n)[55]? = some (20, 96, []) := rfl
theorem k_56 (n : Nat) : (am_SK n)[56]? = some (8, 4, [none, none, none, some 57]) := rfl
theorem k_57 (n : Nat) : (am_SK n)[57]? = some (20, 96, []) := rfl
theorem k_58 (n : Nat) : (am_SK n)[58]? = some (8, 4, [none, none, none, some 59]) := rfl
theorem k_59 (n : Nat) : (am_SK n)[59]? = some (20, 96, []) := rfl
theorem k_60 (n : Nat) : (am_SK n)[60]? = some (8, 4, [none, none, none, some 61]) := rfl
theorem k_61 (n : Nat) : (am_SK n)[61]? = some (20, 96, []) := rfl
theorem k_62 (n : Nat) : (am_SK n)[62]? = some (5, 7, [some 63, none, some 64, none, none, none, none]) := rfl
theorem k_63 (n : Nat) : (am_SK n)[63]? = some (20, 96, []) := rfl
theorem k_64 (n : Nat) : (am_SK n)[64]? = some (8, 4, [none, none, none, some 65]) := rfl
theorem k_65 (n : Nat) : (am_SK n)[65]? = some (20, 96, []) := rfl
theorem k_66 (n : Nat) : (am_SK n)[66]? = some (9, 16, [some 30, some 67, none, some 68, none, some 69, none, none, none, none, some 70, none, some 71, none, none, some 72]) := rfl
theorem k_67 (n : Nat) : (am_SK n)[67]? = some (31, 3, [some 73, some 74, some 75]) := rfl
theorem k_68 (n : Nat) : (am_SK n)[68]? = some (33, 12, [some 76, some 77, some 78, some 79, some 80, some 81, some 82, some 83, some 84, some 85, some 86, some 87]) := rfl
theorem k_69 (n : Nat) : (am_SK n)[69]? = some (34, 16, [some 88, some 89, some 90, some 91, some 92, some 93, some 94, some 95, some 96, some 97, some 98, some 99, some 100, some 101, some 102, some 103]) := rfl
theorem k_70 (n : Nat) : (am_SK n)[70]? = some (20, 8, []) := rfl
theorem k_71 (n : Nat) : (am_SK n)[71]? = some (20, 6, []) := rfl
theorem k_72 (n : Nat) : (am_SK n)[72]? = some (20, 4, []) := rfl
theorem k_73 (n : Nat) : (am_SK n)[73]? = some (1, 6, List.replicate 6 none) := rfl
theorem k_74 (n : Nat) : (am_SK n)[74]? = some (1, 6, List.replicate 6 none) := rfl
theorem k_75 (n : Nat) : (am_SK n)[75]? = some (1, 6, List.replicate 6 none) := rfl
theorem k_76 (n : Nat) : (am_SK n)[76]? = some (3, 4, List.replicate 4 none) := rfl
theorem k_77 (n : Nat) : (am_SK n)[77]? = some (3, 4, List.replicate 4 none) := rfl
theorem k_78 (n : Nat) : (am_SK n)[78]? = some (3, 4, List.replicate 4 none) := rfl
theorem k_79 (n : Nat) : (am_SK n)[79]? = some (3, 4, List.replicate 4 none) := rfl
theorem k_80 (n : Nat) : (am_SK n)[80]? = some (3, 4, List.replicate 4 none) := rfl
theorem k_81 (n : Nat) : (am_SK n)[81]? = some (3, 4, List.replicate 4 none) := rfl
theorem k_82 (n : Nat) : (am_SK n)[82]? = some (3, 4, List.replicate 4 none) := rfl
theorem k_83 (n : Nat) : (am_SK n)[83]? = some (3, 4, List.replicate 4 none) := rfl
theorem k_84 (n : Nat) : (am_SK n)[84]? = some (3, 4, List.replicate 4 none) := rfl
theorem k_85 (n : Nat) : (am_SK n)[85]? = some (3, 4, List.replicate 4 none) := rfl
theorem k_86 (n : Nat) : (am_SK n)[86]? = some (3, 4, List.replicate 4 none) := rfl
theorem k_87 (n : Nat) : (am_SK n)[87]? = some (3, 4, List.replicate 4 none) := rfl
theorem k_88 (n : Nat) : (am_SK n)[88]? = some (4, 7, List.replicate 7 none) := rfl
theorem k_89 (n : Nat) : (am_SK n)[89]? = some (4, 7, List.replicate 7 none) := rfl
theorem k_90 (n : Nat) : (am_SK n)[90]? = some (4, 7, List.replicate 7 none) := rfl
theorem k_91 (n : Nat) : (am_SK n)[91]? = some (4, 7, List.replicate 7 none) := rfl
theorem k_92 (n : Nat) : (am_SK n)[92]? = some (4, 7, List.replicate 7 none) := rfl
theorem k_93 (n : Nat) : (am_SK n)[93]? = some (4, 7, List.replicate 7 none) := rfl
theorem k_94 (n : Nat) : (am_SK n)[94]? = some (4, 7, List.replicate 7 none) := rfl
theorem k_95 (n : Nat) : (am_SK n)[95]? = some (4, 7, List.replicate 7 none) := rfl
theorem k_96 (n : Nat) : (am_SK n)[96]? = some (4, 7, List.replicate 7 none) := rfl
theorem k_97 (n : Nat) : (am_SK n)[97]? = some (4, 7, List.replicate 7 none) := rfl
theorem k_98 (n : Nat) : (am_SK n)[98]? = some (4, 7, List.replicate 7 none) := rfl
theorem k_99 (n : Nat) : (am_SK n)[99]? = some (4, 7, List.replicate 7 none) := rfl
theorem k_100 (n : Nat) : (am_SK n)[100]? = some (4, 7, List.replicate 7 none) := rfl
theorem k_101 (n : Nat) : (am_SK n)[101]? = some (4, 7, List.replicate 7 none) := rfl
theorem k_102 (n : Nat) : (am_SK n)[102]? = some (4, 7, List.replicate 7 none) := rfl
theorem k_103 (n : Nat) : (am_SK n)[103]? = some (4, 7, List.replicate 7 none) := rfl
theorem k_104 (n : Nat) : (am_SK n)[104]? = some (9, 16, [some 30, some 105, none, some 106, none, some 107, none, none, none, none, some 108, none, some 109, none, none, some 110]) := rfl
theorem k_105 (n : Nat) : (am_SK n)[105]? = some (31, 3, [some 111, some 112, some 113]) := rfl
theorem k_106 (n : Nat) : (am_SK n)[106]? = some (33, 12, [some 114, some 115, some 116, some 117, some 118, some 119, some 120, some 121, some 122, some 123, some 124, some 125]) := rfl
theorem k_107 (n : Nat) : (am_SK n)[107]? = some (34, 16, [some 126, some 127, some 128, some 129, some 130, some 131, some 132, some 133, some 134, some 135, some 136, some 137, some 138, some 139, some 140, some 141]) := rfl
theorem k_108 (n : Nat) : (am_SK n)[108]? = some (20, 8, []) := rfl
theorem k_109 (n : Nat) : (am_SK n)[109]? = some (20, 6, []) := rfl
theorem k_110 (n : Nat) : (am_SK n)[110]? = some (20, 4, []) := rfl
theorem k_111 (n : Nat) : (am_SK n)[111]? = some (1, 6, List.replicate 6 none) := rfl
theorem k_112 (n : Nat) : (am_SK n)[112]? = some (1, 6, List.replicate 6 none) := rfl
theorem k_113 (n : Nat) : (am_SK n)[113]? = some (1, 6, List.replicate 6 none) := rfl
theorem k_114 (n : Nat) : (am_SK n)[114]? = some (3, 4, List.replicate 4 none) := rfl
theorem k_115 (n : Nat) : (am_SK n)[115]? = some (3, 4, List.replicate 4 none) := rfl
theorem k_116 (n : Nat) : (am_SK n)[116]? = some (3, 4, List.replicate 4 none) := rfl
theorem k_117 (n : Nat) : (am_SK n)[117]? = some (3, 4, List.replicate 4 none) := rfl
theorem k_118 (n : Nat) : (am_SK n)[118]? = some (3, 4, List.replicate 4 none) := rfl
theorem k_119 (n : Nat) : (am_SK n)[119]? = some (3, 4, List.replicate 4 none) := rfl
theorem k_120 (n : Nat) : (am_SK n)[120]? = some (3, 4, List.replicate 4 none) := rfl
theorem k_121 (n : Nat) : (am_SK n)[121]? = some (3, 4, List.replicate 4 none) := rfl
theorem k_122 (n : Nat) : (am_SK n)[122]? = some (3, 4, List.replicate 4 none) := rfl
theorem k_123 (n : Nat) : (am_SK n)[123]? = some (3, 4, List.replicate 4 none) := rfl
theorem k_124 (n : Nat) : (am_SK n)[124]? = some (3, 4, List.replicate 4 none) := rfl
theorem k_125 (n : Nat) : (am_SK n)[125]? = some (3, 4, List.replicate 4 none) := rfl
theorem k_126 (n : Nat) : (am_SK n)[126]? = some (4, 7, List.replicate 7 none) := rfl
theorem k_127 (n : Nat) : (am_SK n)[127]? = some (4, 7, List.replicate 7 none) := rfl
theorem k_128 (n : Nat) : (am_SK n)[128]? = some (4, 7, List.replicate 7 none) := rfl
theorem k_129 (n : Nat) : (am_SK n)[129]? = some (4, 7, List.replicate 7 none) := rfl
theorem k_130 (n : Nat) : (am_SK n)[130]? = some (4, 7, List.replicate 7 none) := rfl
theorem k_131 (n : Nat) : (am_SK n)[131]? = some (4, 7, List.replicate 7 none) := rfl
theorem k_132 (n : Nat) : (am_SK n)[132]? = some (4, 7, List.replicate 7 none) := rfl
theorem k_133 (n : Nat) : (am_SK n)[133]? = some (4, 7, List.replicate 7 none) := rfl
theorem k_134 (n : Nat) : (am_SK n)[134]? = some (4, 7, List.replicate 7 none) := rfl
theorem k_135 (n : Nat) : (am_SK n)[135]? = some (4, 7, List.replicate 7 none) := rfl
theorem k_136 (n : Nat) : (am_SK n)[136]? = some (4, 7, List.replicate 7 none) := rfl
theorem k_137 (n : Nat) : (am_SK n)[137]? = some (4, 7, List.replicate 7 none) := rfl
theorem k_138 (n : Nat) : (am_SK n)[138]? = some (4, 7, List.replicate 7 none) := rfl
theorem k_139 (n : Nat) : (am_SK n)[139]? = some (4, 7, List.replicate 7 none) := rfl
theorem k_140 (n : Nat) : (am_SK n)[140]? = some (4, 7, List.replicate 7 none) := rfl
theorem k_141 (n : Nat) : (am_SK n)[141]? = some (4, 7, List.replicate 7 none) := rfl
theorem k_142 (n : Nat) : (am_SK n)[142]? = some (9, 16, [some 30, some 143, none, some 144, none, some 145, none, none, none, none, some 146, none, some 147, none, none, some 148]) := rfl
theorem k_143 (n : Nat) : (am_SK n)[143]? = some (31, 3, [some 149, some 150, some 151]) := rfl
theorem k_144 (n : Nat) : (am_SK n)[144]? = some (33, 12, [some 152, some 153, some 154, some 155, some 156, some 157, some 158, some 159, some 160, some 161, some 162, some 163]) := rfl
theorem k_145 (n : Nat) : (am_SK n)[145]? = some (34, 16, [some 164, some 165, some 166, some 167, some 168, some 169, some 170, some 171, some 172, some 173, some 174, some 175, some 176, some 177, some 178, some 179]) := rfl
theorem k_146 (n : Nat) : (am_SK n)[146]? = some (20, 8, []) := rfl
theorem k_147 (n : Nat) : (am_SK n)[147]? = some (20, 6, []) := rfl
theorem k_148 (n : Nat) : (am_SK n)[148]? = some (20, 4, []) := rfl
theorem k_149 (n : Nat) : (am_SK n)[149]? = some (1, 6, List.replicate 6 none) := rfl
theorem k_150 (n : Nat) : (am_SK n)[150]? = some (1, 6, List.replicate 6 none) := rfl
theorem k_151 (n : Nat) : (am_SK n)[151]? = some (1, 6, List.replicate 6 none) := rfl
theorem k_152 (n : Nat) : (am_SK n)[152]? = some (3, 4, List.replicate 4 none) := rfl
theorem k_153 (n : Nat) : (am_SK n)[153]? = some (3, 4, List.replicate 4 none) := rfl
theorem k_154 (n : Nat) : (am_SK n)[154]? = some (3, 4, List.replicate 4 none) := rfl
theorem k_155 (n : Nat) : (am_SK n)[155]? = some (3, 4, List.replicate 4 none) := rfl
theorem k_156 (n : Nat) : (am_SK n)[156]? = some (3, 4, List.replicate 4 none) := rfl
theorem k_157 (n : Nat) : (am_SK n)[157]? = some (3, 4, List.replicate 4 none) := rfl
theorem k_158 (n : Nat) : (am_SK n)[158]? = some (3, 4, List.replicate 4 none) := rfl
theorem k_159 (n : Nat) : (am_SK n)[159]? = some (3, 4, List.replicate 4 none) := rfl
theorem k_160 (n : Nat) : (am_SK n)[160]? = some (3, 4, List.replicate 4 none) := rfl
theorem k_161 (n : Nat) : (am_SK n)[161]? = some (3, 4, List.replicate 4 none) := rfl
theorem k_162 (n : Nat) : (am_SK n)[162]? = some (3, 4, List.replicate 4 none) := rfl
theorem k_163 (n : Nat) : (am_SK n)[163]? = some (3, 4, List.replicate 4 none) := rfl
theorem k_164 (n : Nat) : (am_SK n)[164]? = some (4, 7, List.replicate 7 none) := rfl
theorem k_165 (n : Nat) : (am_SK n)[165]? = some (4, 7, List.replicate 7 none) := rfl
theorem k_166 (n : Nat) : (am_SK n)[166]? = some (4, 7, List.replicate 7 none) := rfl
theorem k_167 (n : Nat) : (am_SK n)[167]? = some (4, 7, List.replicate 7 none) := rfl
theorem k_168 (n : Nat) : (am_SK n)[168]? = some (4, 7, List.replicate 7 none) := rfl
theorem k_169 (n : Nat) : (am_SK n)[169]? = some (4, 7, List.replicate 7 none) := rfl
theorem k_170 (n : Nat) : (am_SK n)[170]? = some (4, 7, List.replicate 7 none) := rfl
theorem k_171 (n : Nat) : (am_SK n)[171]? = some (4, 7, List.replicate 7 none) := rfl
theorem k_172 (n : Nat) : (am_SK n)[172]? = some (4, 7, List.replicate 7 none) := rfl
theorem k_173 (n : Nat) : (am_SK n)[173]? = some (4, 7, List.replicate 7 none) := rfl
theorem k_174 (n : Nat) : (am_SK n)[174]? = some (4, 7, List.replicate 7 none) := rfl
theorem k_175 (n : Nat) : (am_SK n)[175]? = some (4, 7, List.replicate 7 none) := rfl
theorem k_176 (n : Nat) : (am_SK n)[176]? = some (4, 7, List.replicate 7 none) := rfl
theorem k_177 (n : Nat) : (am_SK n)[177]? = some (4, 7, List.replicate 7 none) := rfl
theorem k_178 (n : Nat) : (am_SK n)[178]? = some (4, 7, List.replicate 7 none) := rfl
theorem k_179 (n : Nat) : (am_SK n)[179]? = some (4, 7, List.replicate 7 none) := rfl
theorem k_180 (n : Nat) : (am_SK n)[180]? = some (2, 9, [some 181, some 182, some 183, some 184, some 185, some 186, some 187, some 188, none]) := rfl
theorem k_181 (n : Nat) : (am_SK n)[181]? = some (20, 3, []) := rfl
theorem k_182 (n : Nat) : (am_SK n)[182]? = some (20, 3, []) := rfl
theorem k_183 (n : Nat) : (am_SK n)[183]? = some (20, 12, []) := rfl
theorem k_184 (n : Nat) : (am_SK n)[184]? = some (20, 12, []) := rfl
theorem k_185 (n : Nat) : (am_SK n)[185]? = some (21, 3, []) := rfl
theorem k_186 (n : Nat) : (am_SK n)[186]? = some (21, 12, []) := rfl
theorem k_187 (n : Nat) : (am_SK n)[187]? = some (21, 12, []) := rfl
theorem k_188 (n : Nat) : (am_SK n)[188]? = some (21, 16, []) := rfl
theorem k_189 (n : Nat) : (am_SK n)[189]? = some (10, 6, [some 190, some 191, some 192, none, none, none]) := rfl
theorem k_190 (n : Nat) : (am_SK n)[190]? = some (20, 6, []) := rfl
theorem k_191 (n : Nat) : (am_SK n)[191]? = some (20, 6, []) := rfl
theorem k_192 (n : Nat) : (am_SK n)[192]? = some (20, 6, []) := rfl
theorem k_193 (n : Nat) : (am_SK n)[193]? = some (36, 4, [some 198, some 200, some 202, some 204]) := rfl
theorem k_194 (n : Nat) : (am_SK n)[194]? = some (37, 5, [some 206, some 209, some 212, some 215, some 218]) := rfl
theorem k_195 (n : Nat) : (am_SK n)[195]? = some (20, 60, []) := rfl
theorem k_196 (n : Nat) : (am_SK n)[196]? = some (20, 8, []) := rfl
theorem k_197 (n : Nat) : (am_SK n)[197]? = some (20, 16, []) := rfl
theorem k_198 (n : Nat) : (am_SK n)[198]? = some (6, 3, [none, none, some 199]) := rfl
theorem k_199 (n : Nat) : (am_SK n)[199]? = some (20, 24, []) := rfl
theorem k_200 (n : Nat) : (am_SK n)[200]? = some (6, 3, [none, none, some 201]) := rfl
theorem k_201 (n : Nat) : (am_SK n)[201]? = some (20, 24, []) := rfl
theorem k_202 (n : Nat) : (am_SK n)[202]? = some (6, 3, [none, none, some 203]) := rfl
theorem k_203 (n : Nat) : (am_SK n)[203]? = some (20, 24, []) := rfl
theorem k_204 (n : Nat) : (am_SK n)[204]? = some (6, 3, [none, none, some 205]) := rfl
theorem k_205 (n : Nat) : (am_SK n)[205]? = some (20, 24, []) := rfl
theorem k_206 (n : Nat) : (am_SK n)[206]? = some (7, 4, [none, none, none, some 207]) := rfl
theorem k_207 (n : Nat) : (am_SK n)[207]? = some (6, 3, [none, none, some 208]) := rfl
theorem k_208 (n : Nat) : (am_SK n)[208]? = some (20, 24, []) := rfl
theorem k_209 (n : Nat) : (am_SK n)[209]? = some (7, 4, [none, none, none, some 210]) := rfl
theorem k_210 (n : Nat) : (am_SK n)[210]? = some (6, 3, [none, none, some 211]) := rfl
theorem k_211 (n : Nat) : (am_SK n)[211]? = some (20, 24, []) := rfl
theorem k_212 (n : Nat) : (am_SK n)[212]? = some (7, 4, [none, none, none, some 213]) := rfl
theorem k_213 (n : Nat) : (am_SK n)[213]? = some (6, 3, [none, none, some 214]) := rfl
theorem k_214 (n : Nat) : (am_SK n)[214]? = some (20, 24, []) := rfl
theorem k_215 (n : Nat) : (am_SK n)[215]? = some (7, 4, [none, none, none, some 216]) := rfl
theorem k_216 (n : Nat) : (am_SK n)[216]? = some (6, 3, [none, none, some 217]) := rfl
theorem k_217 (n : Nat) : (am_SK n)[217]? = some (20, 24, []) := rfl
theorem k_218 (n : Nat) : (am_SK n)[218]? = some (7, 4, [none, none, none, some 219]) := rfl
theorem k_219 (n : Nat) : (am_SK n)[219]? = some (6, 3, [none, none, some 220]) := rfl
theorem k_220 (n : Nat) : (am_SK n)[220]? = some (20, 24, []) := rfl
theorem k_221 (n : Nat) : (am_SK n)[221]? = some (12, 44, [some 222, some 223, some 224, none, some 225, some 226, none, none, none, none, none, none, none, some 227, some 228, some 229, none, none, some 230, none, some 231, some 232, some 233, some 234, some 235, some 236, some 237, some 238, some 239, some 240, some 241, some 242, some 243, some 244, none, some 245, some 246, some 247, some 248, some 249, some 250, some 251, some 252, none]) := rfl
theorem k_222 (n : Nat) : (am_SK n)[222]? = some (20, 1561, []) := rfl
theorem k_223 (n : Nat) : (am_SK n)[223]? = some (20, 1561, []) := rfl
theorem k_224 (n : Nat) : (am_SK n)[224]? = some (20, 1561, []) := rfl
theorem k_225 (n : Nat) : (am_SK n)[225]? = some (21, 16, []) := rfl
theorem k_226 (n : Nat) : (am_SK n)[226]? = some (20, 96, []) := rfl
theorem k_227 (n : Nat) : (am_SK n)[227]? = some (22, 15, []) := rfl
theorem k_228 (n : Nat) : (am_SK n)[228]? = some (20, 5, []) := rfl
theorem k_229 (n : Nat) : (am_SK n)[229]? = some (20, 96, []) := rfl
theorem k_230 (n : Nat) : (am_SK n)[230]? = some (20, 96, []) := rfl
theorem k_231 (n : Nat) : (am_SK n)[231]? = some (21, 10, []) := rfl
theorem k_232 (n : Nat) : (am_SK n)[232]? = some (20, 96, []) := rfl
theorem k_233 (n : Nat) : (am_SK n)[233]? = some (20, 4, []) := rfl
theorem k_234 (n : Nat) : (am_SK n)[234]? = some (20, 12, []) := rfl
theorem k_235 (n : Nat) : (am_SK n)[235]? = some (20, 12, []) := rfl
theorem k_236 (n : Nat) : (am_SK n)[236]? = some (20, 3, []) := rfl
theorem k_237 (n : Nat) : (am_SK n)[237]? = some (20, 3, []) := rfl
theorem k_238 (n : Nat) : (am_SK n)[238]? = some (21, 3, []) := rfl
theorem k_239 (n : Nat) : (am_SK n)[239]? = some (21, 12, []) := rfl
theorem k_240 (n : Nat) : (am_SK n)[240]? = some (21, 16, []) := rfl
set_option maxRecDepth 4000 in
theorem k_241 (n : Nat) : (am_SK n)[241]? = some (21, 12, []) := rfl
set_option maxRecDepth 4000 in
theorem k_242 (n : Nat) : (am_SK n)[242]? = some (20, 8, []) := rfl
set_option maxRecDepth 4000 in
theorem k_243 (n : Nat) : (am_SK n)[243]? = some (20, 6, []) := rfl
set_option maxRecDepth 4000 in
theorem k_244 (n : Nat) : (am_SK n)[244]? = some (20, 6, []) := rfl
set_option maxRecDepth 4000 in
theorem k_245 (n : Nat) : (am_SK n)[245]? = some (20, 4, []) := rfl
set_option maxRecDepth 4000 in
theorem k_246 (n : Nat) : (am_SK n)[246]? = some (20, 4, []) := rfl
set_option maxRecDepth 4000 in
theorem k_247 (n : Nat) : (am_SK n)[247]? = some (20, 96, []) := rfl
set_option maxRecDepth 4000 in
theorem k_248 (n : Nat) : (am_SK n)[248]? = some (20, 5, []) := rfl
set_option maxRecDepth 4000 in
theorem k_249 (n : Nat) : (am_SK n)[249]? = some (20, 5, []) := rfl
set_option maxRecDepth 4000 in
theorem k_250 (n : Nat) : (am_SK n)[250]? = some (20, 120, []) := rfl
set_option maxRecDepth 4000 in
theorem k_251 (n : Nat) : (am_SK n)[251]? = some (20, 24, []) := rfl
set_option maxRecDepth 4000 in
theorem k_252 (n : Nat) : (am_SK n)[252]? = some (20, 60, []) := rfl
theorem k_0 (n : Nat) : (am_SK n)[0]? = some (20, 6, []) := rfl
theorem k_1 (n : Nat) : (am_SK n)[1]? = some (20, n, []) := rfl
theorem k_2 (n : Nat) : (am_SK n)[2]? = some (13, 2, [some 15, none]) := rfl
theorem k_15 (n : Nat) : (am_SK n)[15]? = some (23, 3, []) := rfl
theorem k_3 (n : Nat) : (am_SK n)[3]? = some (13, 2, [some 16, none]) := rfl
theorem k_16 (n : Nat) : (am_SK n)[16]? = some (23, 4, []) := rfl
theorem k_4 (n : Nat) : (am_SK n)[4]? = some (13, 2, [some 17, none]) := rfl
theorem k_17 (n : Nat) : (am_SK n)[17]? = some (23, 5, []) := rfl
theorem k_5 (n : Nat) : (am_SK n)[5]? = some (13, 2, [some 18, none]) := rfl
theorem k_18 (n : Nat) : (am_SK n)[18]? = some (23, 3, []) := rfl
theorem k_6 (n : Nat) : (am_SK n)[6]? = some (13, 2, [some 19, none]) := rfl
theorem k_19 (n : Nat) : (am_SK n)[19]? = some (23, 3, []) := rfl
theorem k_7 (n : Nat) : (am_SK n)[7]? = some (13, 2, [some 20, none]) := rfl
theorem k_20 (n : Nat) : (am_SK n)[20]? = some (23, 3, []) := rfl
theorem k_8 (n : Nat) : (am_SK n)[8]? = some (13, 2, [some 21, none]) := rfl
theorem k_21 (n : Nat) : (am_SK n)[21]? = some (23, 2, []) := rfl
theorem k_9 (n : Nat) : (am_SK n)[9]? = some (13, 2, [some 22, none]) := rfl
theorem k_22 (n : Nat) : (am_SK n)[22]? = some (23, 2, []) := rfl
theorem k_10 (n : Nat) : (am_SK n)[10]? = some (13, 2, [some 23, none]) := rfl
theorem k_23 (n : Nat) : (am_SK n)[23]? = some (23, 1, []) := rfl
theorem k_11 (n : Nat) : (am_SK n)[11]? = some (13, 2, [some 24, none]) := rfl
theorem k_24 (n : Nat) : (am_SK n)[24]? = some (23, 1, []) := rfl
theorem k_12 (n : Nat) : (am_SK n)[12]? = some (13, 2, [some 25, none]) := rfl
theorem k_25 (n : Nat) : (am_SK n)[25]? = some (23, 3, []) := rfl
theorem k_13 (n : Nat) : (am_SK n)[13]? = some (13, 2, [some 26, none]) := rfl
theorem k_26 (n : Nat) : (am_SK n)[26]? = some (23, 2, []) := rfl
theorem k_14 (n : Nat) : (am_SK n)[14]? = some (13, 2, [some 27, none]) := rfl
theorem k_27 (n : Nat) : (am_SK n)[27]? = some (23, 2, []) := rfl
/-- a town of the class: 66 now, 104 the image, 142 the trial -/
def am_T (t : Nat) : Prop := t = 66 ∨ t = 104 ∨ t = 142
theorem am_T.ge {t : Nat} (h : am_T t) : 66 ≤ t ∧ t ≤ 142 := by rcases h with rfl | rfl | rfl <;> decide
theorem kt_0 {t : Nat} (n : Nat) (h : am_T t) : (am_SK n)[t]? = some (9, 16, [some 30, some (t + 1), none, some (t + 2), none, some (t + 3), none, none, none, none, some (t + 4), none, some (t + 5), none, none, some (t + 6)]) := by rcases h with rfl | rfl | rfl <;> rfl
theorem kt_1 {t : Nat} (n : Nat) (h : am_T t) : (am_SK n)[t + 1]? = some (31, 3, [some (t + 7), some (t + 8), some (t + 9)]) := by rcases h with rfl | rfl | rfl <;> rfl
theorem kt_2 {t : Nat} (n : Nat) (h : am_T t) : (am_SK n)[t + 2]? = some (33, 12, [some (t + 10), some (t + 11), some (t + 12), some (t + 13), some (t + 14), some (t + 15), some (t + 16), some (t + 17), some (t + 18), some (t + 19), some (t + 20), some (t + 21)]) := by rcases h with rfl | rfl | rfl <;> rfl
theorem kt_3 {t : Nat} (n : Nat) (h : am_T t) : (am_SK n)[t + 3]? = some (34, 16, [some (t + 22), some (t + 23), some (t + 24), some (t + 25), some (t + 26), some (t + 27), some (t + 28), some (t + 29), some (t + 30), some (t + 31), some (t + 32), some (t + 33), some (t + 34), some (t + 35), some (t + 36), some (t + 37)]) := by rcases h with rfl | rfl | rfl <;> rfl
theorem kt_4 {t : Nat} (n : Nat) (h : am_T t) : (am_SK n)[t + 4]? = some (20, 8, []) := by rcases h with rfl | rfl | rfl <;> rfl
theorem kt_5 {t : Nat} (n : Nat) (h : am_T t) : (am_SK n)[t + 5]? = some (20, 6, []) := by rcases h with rfl | rfl | rfl <;> rfl
theorem kt_6 {t : Nat} (n : Nat) (h : am_T t) : (am_SK n)[t + 6]? = some (20, 4, []) := by rcases h with rfl | rfl | rfl <;> rfl
theorem kt_cab {t c : Nat} (n : Nat) (h : am_T t) (hc : c < 3) : (am_SK n)[t + 7 + c]? = some (1, 6, List.replicate 6 none) := by
  revert c
  rcases h with rfl | rfl | rfl
  · intro c hc; match c, hc with
    | 0, _ => rfl
    | 1, _ => rfl
    | 2, _ => rfl
    | c + 3, hc => omega
  · intro c hc; match c, hc with
    | 0, _ => rfl
    | 1, _ => rfl
    | 2, _ => rfl
    | c + 3, hc => omega
  · intro c hc; match c, hc with
    | 0, _ => rfl
    | 1, _ => rfl
    | 2, _ => rfl
    | c + 3, hc => omega
theorem kt_joint {t c : Nat} (n : Nat) (h : am_T t) (hc : c < 12) : (am_SK n)[t + 10 + c]? = some (3, 4, List.replicate 4 none) := by
  revert c
  rcases h with rfl | rfl | rfl
  · intro c hc; match c, hc with
    | 0, _ => rfl
    | 1, _ => rfl
    | 2, _ => rfl
    | 3, _ => rfl
    | 4, _ => rfl
    | 5, _ => rfl
    | 6, _ => rfl
    | 7, _ => rfl
    | 8, _ => rfl
    | 9, _ => rfl
    | 10, _ => rfl
    | 11, _ => rfl
    | c + 12, hc => omega
  · intro c hc; match c, hc with
    | 0, _ => rfl
    | 1, _ => rfl
    | 2, _ => rfl
    | 3, _ => rfl
    | 4, _ => rfl
    | 5, _ => rfl
    | 6, _ => rfl
    | 7, _ => rfl
    | 8, _ => rfl
    | 9, _ => rfl
    | 10, _ => rfl
    | 11, _ => rfl
    | c + 12, hc => omega
  · intro c hc; match c, hc with
    | 0, _ => rfl
    | 1, _ => rfl
    | 2, _ => rfl
    | 3, _ => rfl
    | 4, _ => rfl
    | 5, _ => rfl
    | 6, _ => rfl
    | 7, _ => rfl
    | 8, _ => rfl
    | 9, _ => rfl
    | 10, _ => rfl
    | 11, _ => rfl
    | c + 12, hc => omega
theorem kt_lamp {t c : Nat} (n : Nat) (h : am_T t) (hc : c < 16) : (am_SK n)[t + 22 + c]? = some (4, 7, List.replicate 7 none) := by
  revert c
  rcases h with rfl | rfl | rfl
  · intro c hc; match c, hc with
    | 0, _ => rfl
    | 1, _ => rfl
    | 2, _ => rfl
    | 3, _ => rfl
    | 4, _ => rfl
    | 5, _ => rfl
    | 6, _ => rfl
    | 7, _ => rfl
    | 8, _ => rfl
    | 9, _ => rfl
    | 10, _ => rfl
    | 11, _ => rfl
    | 12, _ => rfl
    | 13, _ => rfl
    | 14, _ => rfl
    | 15, _ => rfl
    | c + 16, hc => omega
  · intro c hc; match c, hc with
    | 0, _ => rfl
    | 1, _ => rfl
    | 2, _ => rfl
    | 3, _ => rfl
    | 4, _ => rfl
    | 5, _ => rfl
    | 6, _ => rfl
    | 7, _ => rfl
    | 8, _ => rfl
    | 9, _ => rfl
    | 10, _ => rfl
    | 11, _ => rfl
    | 12, _ => rfl
    | 13, _ => rfl
    | 14, _ => rfl
    | 15, _ => rfl
    | c + 16, hc => omega
  · intro c hc; match c, hc with
    | 0, _ => rfl
    | 1, _ => rfl
    | 2, _ => rfl
    | 3, _ => rfl
    | 4, _ => rfl
    | 5, _ => rfl
    | 6, _ => rfl
    | 7, _ => rfl
    | 8, _ => rfl
    | 9, _ => rfl
    | 10, _ => rfl
    | 11, _ => rfl
    | 12, _ => rfl
    | 13, _ => rfl
    | 14, _ => rfl
    | 15, _ => rfl
    | c + 16, hc => omega
theorem kr_cab {t c : Nat} (hc : c < 3) : ([some (t + 7), some (t + 8), some (t + 9)] : List (Option Nat))[c]? = some (some (t + 7 + c)) := by
  match c, hc with
  | 0, _ => rfl
  | 1, _ => rfl
  | 2, _ => rfl
  | c + 3, hc => omega
theorem kr_joint {t c : Nat} (hc : c < 12) : ([some (t + 10), some (t + 11), some (t + 12), some (t + 13), some (t + 14), some (t + 15), some (t + 16), some (t + 17), some (t + 18), some (t + 19), some (t + 20), some (t + 21)] : List (Option Nat))[c]? = some (some (t + 10 + c)) := by
  match c, hc with
  | 0, _ => rfl
  | 1, _ => rfl
  | 2, _ => rfl
  | 3, _ => rfl
  | 4, _ => rfl
  | 5, _ => rfl
  | 6, _ => rfl
  | 7, _ => rfl
  | 8, _ => rfl
  | 9, _ => rfl
  | 10, _ => rfl
  | 11, _ => rfl
  | c + 12, hc => omega
theorem kr_lamp {t c : Nat} (hc : c < 16) : ([some (t + 22), some (t + 23), some (t + 24), some (t + 25), some (t + 26), some (t + 27), some (t + 28), some (t + 29), some (t + 30), some (t + 31), some (t + 32), some (t + 33), some (t + 34), some (t + 35), some (t + 36), some (t + 37)] : List (Option Nat))[c]? = some (some (t + 22 + c)) := by
  match c, hc with
  | 0, _ => rfl
  | 1, _ => rfl
  | 2, _ => rfl
  | 3, _ => rfl
  | 4, _ => rfl
  | 5, _ => rfl
  | 6, _ => rfl
  | 7, _ => rfl
  | 8, _ => rfl
  | 9, _ => rfl
  | 10, _ => rfl
  | 11, _ => rfl
  | 12, _ => rfl
  | 13, _ => rfl
  | 14, _ => rfl
  | 15, _ => rfl
  | c + 16, hc => omega
section EVN
variable {code : am_C} {d pc nx : Nat} {L : am_L} {st : List Value} {sk : am_K} {mem : am_M} {Q : am_P}
theorem am_nin {m N : Nat} (hm : m < N) (hN : N < 2 ^ 31) : ¬ (nI m < 0 ∨ N ≤ (nI m).toNatClampNeg) := nI_in hm hN
theorem ev_ialdN {q N m : Nat} {i : Int32} {rs : List (Option Nat)} (hc : am_at code pc = some (.iaload, nx)) (hi : i = nI m) (k : am_ev code d nx L (.int (mem q m) :: st) sk mem Q) (hq : sk[q]? = some (20, N, rs) := by assumption) (hm : m < N := by first | omega | assumption) (hN : N < 2 ^ 31 := by decide) : am_ev code d pc L (.int i :: .ref q :: st) sk mem Q := by
  subst hi
  refine ev_iald hc ?_ hq (am_nin hm hN)
  rw [nI_clamp (Nat.lt_trans hm hN)]
  exact k
theorem ev_zaldN {q N m : Nat} {i : Int32} {rs : List (Option Nat)} (hc : am_at code pc = some (.baload, nx)) (hi : i = nI m) (k : am_ev code d nx L (.int (mem q m) :: st) sk mem Q) (hq : sk[q]? = some (21, N, rs) := by assumption) (hm : m < N := by first | omega | assumption) (hN : N < 2 ^ 31 := by decide) : am_ev code d pc L (.int i :: .ref q :: st) sk mem Q := by
  subst hi
  refine ev_zald hc ?_ hq (am_nin hm hN)
  rw [nI_clamp (Nat.lt_trans hm hN)]
  exact k
theorem ev_iastN {q N m : Nat} {i x : Int32} {rs : List (Option Nat)} (hc : am_at code pc = some (.iastore, nx)) (hi : i = nI m) (k : am_ev code d nx L st sk (am_up mem q m x) Q) (hq : sk[q]? = some (20, N, rs) := by assumption) (hm : m < N := by first | omega | assumption) (hN : N < 2 ^ 31 := by decide) (h29 : 29 ≤ q := by first | decide | omega) : am_ev code d pc L (.int x :: .int i :: .ref q :: st) sk mem Q := by
  subst hi
  refine ev_iast hc ?_ hq (am_nin hm hN) h29
  rw [nI_clamp (Nat.lt_trans hm hN)]
  exact k
theorem ev_zastN {q N m : Nat} {i x : Int32} {rs : List (Option Nat)} (hc : am_at code pc = some (.bastore, nx)) (hi : i = nI m) (k : am_ev code d nx L st sk (am_up mem q m x) Q) (hx : x = 0 ∨ x = 1 := by first | assumption | exact am_b01 _ | decide) (hq : sk[q]? = some (21, N, rs) := by assumption) (hm : m < N := by first | omega | assumption) (hN : N < 2 ^ 31 := by decide) (h29 : 29 ≤ q := by first | decide | omega) : am_ev code d pc L (.int x :: .int i :: .ref q :: st) sk mem Q := by
  subst hi
  refine ev_zast hc ?_ hx hq (am_nin hm hN) h29
  rw [nI_clamp (Nat.lt_trans hm hN)]
  exact k
theorem ev_aldN {q kd N y m : Nat} {i : Int32} {rs : List (Option Nat)} (hc : am_at code pc = some (.aaload, nx)) (hi : i = nI m) (k : am_ev code d nx L (.ref y :: st) sk mem Q) (hy : rs[m]? = some (some y)) (hq : sk[q]? = some (kd, N, rs) := by assumption) (hm : m < N := by first | omega | assumption) (hN : N < 2 ^ 31 := by decide) (h : 30 ≤ kd ∧ 29 ≤ q := by exact ⟨by decide, by first | decide | omega⟩) : am_ev code d pc L (.int i :: .ref q :: st) sk mem Q := by
  subst hi
  exact ev_ald hc k hq (am_nin hm hN) (by rw [nI_clamp (Nat.lt_trans hm hN)]; exact hy) h
end EVN
end
section
/-! the reference: what its row holds, and its small methods -/
abbrev am_R : Type := Nat → Int32
def nn (x : Int32) : Nat := x.toNatClampNeg
theorem nn_nI {a : Nat} (h : a < 2 ^ 31) : nn (nI a) = a := nI_clamp h
theorem c_X12_in {d n : Nat} {mem : am_M} {Q : am_P} (v a b : Int32) (hQ : Q (some (.int (am_b (a ≤ v ∧ v ≤ b)))) (am_SK n) mem) : am_ex (d + 1) 143 [.int v, .int a, .int b] (am_SK n) mem Q := by
  refine ex_in (c0 := kc_X12_in) rfl (L := [some (.int v), some (.int a), some (.int b)]) rfl ?_
  refine ev_iload rfl rfl ?_
  refine ev_iload rfl rfl ?_
  refine ev_icmp_lt (p2 := 14) rfl rfl (fun cnd2 => ?_) (fun cnd2 => ?_)
  · skip
    refine ev_iconst (x := 0) rfl rfl ?_
    refine ev_zret rfl ?_
    refine am_leaf hQ ?_
    simp only [am_b, Int32.lt_iff_toInt_lt, Int32.le_iff_toInt_le] at *
    split <;> first | rfl | (exfalso; omega)
  · skip
    refine ev_iload rfl rfl ?_
    refine ev_iload rfl rfl ?_
    refine ev_icmp_gt (p2 := 14) rfl rfl (fun cnd7 => ?_) (fun cnd7 => ?_)
    · skip
      refine ev_iconst (x := 0) rfl rfl ?_
      refine ev_zret rfl ?_
      refine am_leaf hQ ?_
      simp only [am_b, Int32.lt_iff_toInt_lt, Int32.le_iff_toInt_le] at *
      split <;> first | rfl | (exfalso; omega)
    · skip
      refine ev_iconst (x := 1) rfl rfl ?_
      refine ev_goto (p2 := 15) rfl rfl ?_
      refine ev_zret rfl ?_
      refine am_leaf hQ ?_
      simp only [am_b, Int32.lt_iff_toInt_lt, Int32.le_iff_toInt_le] at *
      split <;> first | rfl | (exfalso; omega)
theorem c_X12_within {d n : Nat} {mem : am_M} {Q : am_P} (v a b : Int32) (hQ : Q (some (.int (if v < a then a else if b < v then b else v))) (am_SK n) mem) : am_ex (d + 1) 144 [.int v, .int a, .int b] (am_SK n) mem Q := by
  refine ex_in (c0 := kc_X12_within) rfl (L := [some (.int v), some (.int a), some (.int b)]) rfl ?_
  refine ev_iload rfl rfl ?_
  refine ev_iload rfl rfl ?_
  refine ev_icmp_ge (p2 := 9) rfl rfl (fun cnd2 => ?_) (fun cnd2 => ?_)
  · skip
    refine ev_iload rfl rfl ?_
    refine ev_iload rfl rfl ?_
    refine ev_icmp_le (p2 := 18) rfl rfl (fun cnd11 => ?_) (fun cnd11 => ?_)
    · skip
      refine ev_iload rfl rfl ?_
      refine ev_iret rfl ?_
      refine am_leaf hQ ?_
      simp only [Int32.lt_iff_toInt_lt, Int32.le_iff_toInt_le] at *
      repeat' split
      all_goals first | rfl | (exfalso; omega)
    · skip
      refine ev_iload rfl rfl ?_
      refine ev_goto (p2 := 19) rfl rfl ?_
      refine ev_iret rfl ?_
      refine am_leaf hQ ?_
      simp only [Int32.lt_iff_toInt_lt, Int32.le_iff_toInt_le] at *
      repeat' split
      all_goals first | rfl | (exfalso; omega)
  · skip
    refine ev_iload rfl rfl ?_
    refine ev_goto (p2 := 19) rfl rfl ?_
    refine ev_iret rfl ?_
    refine am_leaf hQ ?_
    simp only [Int32.lt_iff_toInt_lt, Int32.le_iff_toInt_le] at *
    repeat' split
    all_goals first | rfl | (exfalso; omega)
theorem c_X12_isPlace {d n : Nat} {mem : am_M} {Q : am_P} (p : Int32) (hQ : Q (some (.int (am_b (0 ≤ p ∧ p / 100 ≤ 30 ∧ p - p / 100 * 100 ≤ 30)))) (am_SK n) mem) : am_ex (d + 1) 149 [.int p] (am_SK n) mem Q := by
  refine ex_in (c0 := kc_X12_isPlace) rfl (L := [some (.int p)]) rfl ?_
  refine ev_iload rfl rfl ?_
  refine ev_if_lt (p2 := 26) rfl rfl (fun cnd1 => ?_) (fun cnd1 => ?_)
  · skip
    refine ev_iconst (x := 0) rfl rfl ?_
    refine ev_zret rfl ?_
    refine am_leaf hQ ?_
    simp only [am_b, Int32.lt_iff_toInt_lt, Int32.le_iff_toInt_le] at *
    split <;> first | rfl | (exfalso; omega)
  · skip
    refine ev_iload rfl rfl ?_
    refine ev_iconst (x := 100) rfl rfl ?_
    refine ev_idiv rfl ?_
    refine ev_iconst (x := 30) rfl rfl ?_
    refine ev_icmp_gt (p2 := 26) rfl rfl (fun cnd10 => ?_) (fun cnd10 => ?_)
    · skip
      refine ev_iconst (x := 0) rfl rfl ?_
      refine ev_zret rfl ?_
      refine am_leaf hQ ?_
      simp only [am_b, Int32.lt_iff_toInt_lt, Int32.le_iff_toInt_le] at *
      split <;> first | rfl | (exfalso; omega)
    · skip
      refine ev_iload rfl rfl ?_
      refine ev_iconst (x := 100) rfl rfl ?_
      refine ev_irem rfl ?_
      refine ev_iconst (x := 30) rfl rfl ?_
      refine ev_icmp_gt (p2 := 26) rfl rfl (fun cnd19 => ?_) (fun cnd19 => ?_)
      · skip
        refine ev_iconst (x := 0) rfl rfl ?_
        refine ev_zret rfl ?_
        refine am_leaf hQ ?_
        simp only [am_b, Int32.lt_iff_toInt_lt, Int32.le_iff_toInt_le] at *
        split <;> first | rfl | (exfalso; omega)
      · skip
        refine ev_iconst (x := 1) rfl rfl ?_
        refine ev_goto (p2 := 27) rfl rfl ?_
        refine ev_zret rfl ?_
        refine am_leaf hQ ?_
        simp only [am_b, Int32.lt_iff_toInt_lt, Int32.le_iff_toInt_le] at *
        split <;> first | rfl | (exfalso; omega)
theorem c_X12_isCab {d n : Nat} {mem : am_M} {Q : am_P} (p : Int32) (hQ : Q (some (.int (am_b (0 ≤ p ∧ p ≤ mem 222 3 - 1)))) (am_SK n) mem) : am_ex (d + 2) 146 [.ref 221, .int p] (am_SK n) mem Q := by
  refine ex_in (c0 := kc_X12_isCab) rfl (L := [some (.ref 221), some (.int p)]) rfl ?_
  refine ev_iload rfl rfl ?_
  refine ev_iconst (x := 0) rfl rfl ?_
  refine ev_aload rfl rfl ?_
  refine ev_getR (c := 12) (j := 0) rfl ?_ (hq := k_221 n)
  refine ev_iconst (x := 3) rfl rfl ?_
  refine ev_iald rfl ?_ (hq := k_222 n)
  refine ev_iconst (x := 1) rfl rfl ?_
  refine ev_isub rfl ?_
  refine ev_call rfl rfl ?_
  refine c_X12_in _ _ _ ?_
  change am_ev _ _ _ _ (_ :: _) _ _ _
  refine ev_zret rfl ?_
  exact hQ
theorem c_X12_isJoint {d n : Nat} {mem : am_M} {Q : am_P} (p : Int32) (hQ : Q (some (.int (am_b (0 ≤ p ∧ p ≤ mem 222 4 - 1)))) (am_SK n) mem) : am_ex (d + 2) 147 [.ref 221, .int p] (am_SK n) mem Q := by
  refine ex_in (c0 := kc_X12_isJoint) rfl (L := [some (.ref 221), some (.int p)]) rfl ?_
  refine ev_iload rfl rfl ?_
  refine ev_iconst (x := 0) rfl rfl ?_
  refine ev_aload rfl rfl ?_
  refine ev_getR (c := 12) (j := 0) rfl ?_ (hq := k_221 n)
  refine ev_iconst (x := 4) rfl rfl ?_
  refine ev_iald rfl ?_ (hq := k_222 n)
  refine ev_iconst (x := 1) rfl rfl ?_
  refine ev_isub rfl ?_
  refine ev_call rfl rfl ?_
  refine c_X12_in _ _ _ ?_
  change am_ev _ _ _ _ (_ :: _) _ _ _
  refine ev_zret rfl ?_
  exact hQ
theorem c_X12_isLamp {d n : Nat} {mem : am_M} {Q : am_P} (p : Int32) (hQ : Q (some (.int (am_b (0 ≤ p ∧ p ≤ mem 222 5 - 1)))) (am_SK n) mem) : am_ex (d + 2) 148 [.ref 221, .int p] (am_SK n) mem Q := by
  refine ex_in (c0 := kc_X12_isLamp) rfl (L := [some (.ref 221), some (.int p)]) rfl ?_
  refine ev_iload rfl rfl ?_
  refine ev_iconst (x := 0) rfl rfl ?_
  refine ev_aload rfl rfl ?_
  refine ev_getR (c := 12) (j := 0) rfl ?_ (hq := k_221 n)
  refine ev_iconst (x := 5) rfl rfl ?_
  refine ev_iald rfl ?_ (hq := k_222 n)
  refine ev_iconst (x := 1) rfl rfl ?_
  refine ev_isub rfl ?_
  refine ev_call rfl rfl ?_
  refine c_X12_in _ _ _ ?_
  change am_ev _ _ _ _ (_ :: _) _ _ _
  refine ev_zret rfl ?_
  exact hQ
theorem c_X12_cab6 {d n : Nat} {mem : am_M} {Q : am_P} (a w : Nat) (h : 23 + 6 * a + w < 1561) (hQ : Q (some (.int (mem 222 (23 + 6 * a + w)))) (am_SK n) mem) : am_ex (d + 1) 150 [.ref 221, .int (nI a), .int (nI w)] (am_SK n) mem Q := by
  refine ex_in (c0 := kc_X12_cab6) rfl (L := [some (.ref 221), some (.int (nI a)), some (.int (nI w))]) rfl ?_
  refine ev_aload rfl rfl ?_
  refine ev_getR (c := 12) (j := 0) rfl ?_ (hq := k_221 n)
  refine ev_iconst (x := nI 23) rfl rfl ?_
  refine ev_iconst (x := nI 6) rfl rfl ?_
  refine ev_iload rfl rfl ?_
  refine ev_imul rfl ?_
  refine ev_iadd rfl ?_
  refine ev_iload rfl rfl ?_
  refine ev_iadd rfl ?_
  refine ev_ialdN rfl (m := 23 + 6 * a + w) (by simp only [nI_add, pk_mul]) ?_ (hq := k_222 n)
  refine ev_iret rfl ?_
  exact hQ
theorem c_X12_joint3 {d n : Nat} {mem : am_M} {Q : am_P} (a w : Nat) (h : 41 + 3 * a + w < 1561) (hQ : Q (some (.int (mem 222 (41 + 3 * a + w)))) (am_SK n) mem) : am_ex (d + 1) 151 [.ref 221, .int (nI a), .int (nI w)] (am_SK n) mem Q := by
  refine ex_in (c0 := kc_X12_joint3) rfl (L := [some (.ref 221), some (.int (nI a)), some (.int (nI w))]) rfl ?_
  refine ev_aload rfl rfl ?_
  refine ev_getR (c := 12) (j := 0) rfl ?_ (hq := k_221 n)
  refine ev_iconst (x := nI 41) rfl rfl ?_
  refine ev_iconst (x := nI 3) rfl rfl ?_
  refine ev_iload rfl rfl ?_
  refine ev_imul rfl ?_
  refine ev_iadd rfl ?_
  refine ev_iload rfl rfl ?_
  refine ev_iadd rfl ?_
  refine ev_ialdN rfl (m := 41 + 3 * a + w) (by simp only [nI_add, pk_mul]) ?_ (hq := k_222 n)
  refine ev_iret rfl ?_
  exact hQ
theorem c_X12_lamp7 {d n : Nat} {mem : am_M} {Q : am_P} (a w : Nat) (h : 77 + 7 * a + w < 1561) (hQ : Q (some (.int (mem 222 (77 + 7 * a + w)))) (am_SK n) mem) : am_ex (d + 1) 152 [.ref 221, .int (nI a), .int (nI w)] (am_SK n) mem Q := by
  refine ex_in (c0 := kc_X12_lamp7) rfl (L := [some (.ref 221), some (.int (nI a)), some (.int (nI w))]) rfl ?_
  refine ev_aload rfl rfl ?_
  refine ev_getR (c := 12) (j := 0) rfl ?_ (hq := k_221 n)
  refine ev_iconst (x := nI 77) rfl rfl ?_
  refine ev_iconst (x := nI 7) rfl rfl ?_
  refine ev_iload rfl rfl ?_
  refine ev_imul rfl ?_
  refine ev_iadd rfl ?_
  refine ev_iload rfl rfl ?_
  refine ev_iadd rfl ?_
  refine ev_ialdN rfl (m := 77 + 7 * a + w) (by simp only [nI_add, pk_mul]) ?_ (hq := k_222 n)
  refine ev_iret rfl ?_
  exact hQ
/-- a small whole number in a place -/
def isN (x : Int32) (b : Nat) : Prop := x = nI (nn x) ∧ nn x < b
def wfC (R : am_R) (c : Nat) : Prop := isN (R (23 + 6 * c)) 3031 ∧ isN (R (23 + 6 * c + 1)) 24 ∧ isN (R (23 + 6 * c + 2)) 24 ∧ (-3 ≤ (R (23 + 6 * c + 3)).toInt ∧ (R (23 + 6 * c + 3)).toInt ≤ 3) ∧ isN (R (23 + 6 * c + 4)) 2 ∧ isN (R (23 + 6 * c + 5)) 100000000
def wfJ (R : am_R) (j : Nat) : Prop := (R (41 + 3 * j) = nI (nn (R (41 + 3 * j))) ∧ (nn (R (41 + 3 * j)) < j ∨ (100 ≤ nn (R (41 + 3 * j)) ∧ nn (R (41 + 3 * j)) < 100 + nn (R 3)))) ∧ isN (R (41 + 3 * j + 1)) 3031 ∧ isN (R (41 + 3 * j + 2)) 2
def wfL (R : am_R) (l : Nat) : Prop := isN (R (77 + 7 * l)) 6 ∧ isN (R (77 + 7 * l + 1)) (nn (R 4)) ∧ (isN (R (77 + 7 * l + 2)) 100 ∧ 1 ≤ nn (R (77 + 7 * l + 2))) ∧ isN (R (77 + 7 * l + 3)) 4 ∧ isN (R (77 + 7 * l + 4)) 30001 ∧ isN (R (77 + 7 * l + 5)) 2 ∧ isN (R (77 + 7 * l + 6)) 2
def wfR (R : am_R) : Prop := (isN (R 0) 24 ∧ isN (R 1) 5000 ∧ (isN (R 2) 100 ∧ 1 ≤ nn (R 2))) ∧ (isN (R 3) 4 ∧ isN (R 4) 13 ∧ isN (R 5) 17 ∧ isN (R 6) 15 ∧ isN (R 7) 9 ∧ isN (R 8) 7) ∧ (∀ c, c < nn (R 3) → wfC R c) ∧ (∀ j, j < nn (R 4) → wfJ R j) ∧ (∀ l, l < nn (R 5) → wfL R l) ∧ (∀ k, k < nn (R 7) → isN (R (9 + k)) (nn (R 5))) ∧ ∀ k, k < nn (R 8) → isN (R (17 + k)) (nn (R 4))
/-- the cabinet that feeds a joint -/
def S_cab (R : am_R) (j : Nat) : Nat := if h : nn (R (41 + 3 * j)) < j then S_cab R (nn (R (41 + 3 * j))) else nn (R (41 + 3 * j)) - 100
termination_by j
/-- nothing from a joint up to its cabinet is broken -/
def S_way (R : am_R) (j : Nat) : Bool := if R (41 + 3 * j + 2) = 1 then false else if h : nn (R (41 + 3 * j)) < j then S_way R (nn (R (41 + 3 * j))) else decide (R (23 + 6 * (nn (R (41 + 3 * j)) - 100) + 4) = 0)
termination_by j
theorem S_cab_lt {R : am_R} (h : wfR R) : ∀ j, j < nn (R 4) → S_cab R j < nn (R 3) := by
  intro j
  induction j using Nat.strongRecOn with
  | ind j ih =>
    intro hj
    unfold S_cab
    obtain ⟨⟨-, hf⟩, -⟩ := h.2.2.2.1 j hj
    split
    · exact ih _ (by assumption) (by omega)
    · omega
theorem l_X12_cabOf {d n : Nat} {mem : am_M} {Q : am_P} (hw : wfR (mem 222)) (j : Nat) (hj : j < nn (mem 222 4)) (x : Option Value) (hQ : Q (some (.int (nI (S_cab (mem 222) j)))) (am_SK n) mem) : am_ev kc_X12_cabOf (d + 1) 2 [some (.ref 221), x, some (.int (nI j))] [] (am_SK n) mem Q := by
  induction j using Nat.strongRecOn generalizing x with
  | ind j ih =>
    obtain ⟨⟨e1, hf⟩, -⟩ := hw.2.2.2.1 j hj
    have hr4 : nn (mem 222 4) < 13 := hw.2.1.2.1.2
    have hr3 : nn (mem 222 3) < 4 := hw.2.1.1.2
    generalize hfe : nn (mem 222 (41 + 3 * j)) = f at e1 hf
    refine ev_aload rfl rfl ?_
    refine ev_iload rfl rfl ?_
    refine ev_iconst (x := nI 0) rfl rfl ?_
    refine ev_call rfl rfl ?_
    refine c_X12_joint3 (a := j) (w := 0) (by omega) ?_
    rw [show mem 222 (41 + 3 * j + 0) = nI f from e1]
    change am_ev _ _ _ _ (_ :: _) _ _ _
    refine ev_iconst (x := nI 100) rfl rfl ?_
    refine ev_icmp_ge (p2 := 23) rfl rfl (fun cnd10 => ?_) (fun cnd10 => ?_)
    · skip
      refine ev_aload rfl rfl ?_
      refine ev_iload rfl rfl ?_
      refine ev_iconst (x := nI 0) rfl rfl ?_
      refine ev_call rfl rfl ?_
      refine c_X12_joint3 (a := j) (w := 0) (by omega) ?_
      rw [show mem 222 (41 + 3 * j + 0) = nI f from e1]
      change am_ev _ _ _ _ (_ :: _) _ _ _
      refine ev_iconst (x := nI 100) rfl rfl ?_
      refine ev_isub rfl ?_
      refine ev_iret rfl ?_
      have c2 : 100 ≤ f := (nI_leI (by omega) (by omega)).mp cnd10
      rw [S_cab, dif_neg (by rw [hfe]; omega), hfe] at hQ
      rw [pk_sub c2]
      exact hQ
    · skip
      refine ev_aload rfl rfl ?_
      refine ev_iload rfl rfl ?_
      refine ev_iconst (x := nI 0) rfl rfl ?_
      refine ev_call rfl rfl ?_
      refine c_X12_joint3 (a := j) (w := 0) (by omega) ?_
      rw [show mem 222 (41 + 3 * j + 0) = nI f from e1]
      change am_ev _ _ _ _ (_ :: _) _ _ _
      refine ev_istore rfl rfl (Nat.le_of_ble_eq_true rfl) ?_
      refine ev_goto (p2 := 2) rfl rfl ?_
      have c2 : ¬ 100 ≤ f := fun z => cnd10 ((nI_leI (by omega) (by omega)).mpr z)
      have hlt : f < j := by omega
      refine ih f hlt (by omega) _ ?_
      rw [S_cab, dif_pos (by rw [hfe]; exact hlt), hfe] at hQ
      exact hQ
end
section
/-! the reference: night, cabinets, who should burn, who is fed -/
def ob (b : Bool) : Int32 := if b = true then 1 else 0
theorem ob01 (b : Bool) : ob b = 0 ∨ ob b = 1 := by cases b <;> decide
theorem ob0 {b : Bool} : ob b = 0 ↔ b = false := by cases b <;> decide
theorem obn0 {b : Bool} : ¬ ob b = 0 ↔ b = true := by cases b <;> decide
theorem nI_z {a : Nat} (h : a < 2 ^ 31) : nI a = 0 ↔ a = 0 := nI_eq h (by decide)
theorem am_add_toInt {x y : Int32} (h1 : -2147483648 ≤ x.toInt + y.toInt) (h2 : x.toInt + y.toInt < 2147483648) : (x + y).toInt = x.toInt + y.toInt := by
  rw [Int32.toInt_add]; exact Int.bmod_eq_of_le (by omega) (by omega)
theorem am_sub_toInt {x y : Int32} (h1 : -2147483648 ≤ x.toInt - y.toInt) (h2 : x.toInt - y.toInt < 2147483648) : (x - y).toInt = x.toInt - y.toInt := by
  rw [Int32.toInt_sub]; exact Int.bmod_eq_of_le (by omega) (by omega)
theorem am_nI_of {x : Int32} {m : Nat} (hm : m < 2 ^ 31) (h : x.toInt = (m : Int)) : x = nI m := by
  apply Int32.toInt_inj.mp
  rw [h, nI_toInt hm]
/-- the hour of a cabinet's own clock -/
def S_tm (h : Nat) (sh : Int) : Nat := (((h : Int) - sh + 24) % 24).toNat
theorem S_tm_lt (h : Nat) (sh : Int) : S_tm h sh < 24 := by unfold S_tm; omega
theorem S_tm_eq {h : Nat} {y : Int32} (hh : h < 24) (h1 : -3 ≤ y.toInt) (h2 : y.toInt ≤ 3) : (nI h - y + nI 24) - (nI h - y + nI 24) / nI 24 * nI 24 = nI (S_tm h y.toInt) := by
  have e0 : (nI h).toInt = (h : Int) := nI_toInt (by omega)
  have e1 : (nI h - y).toInt = (h : Int) - y.toInt := by rw [am_sub_toInt (by omega) (by omega), e0]
  have e24 : (nI 24).toInt = 24 := rfl
  have e2 : (nI h - y + nI 24).toInt = (h : Int) - y.toInt + 24 := by rw [am_add_toInt (by omega) (by omega), e1, e24]
  have e3 : nI h - y + nI 24 = nI ((h : Int) - y.toInt + 24).toNat := am_nI_of (by omega) (by rw [e2]; omega)
  rw [e3, pk_rem (by omega) (by decide) (by decide)]
  congr 1
  unfold S_tm
  omega
def S_nt (on off t : Nat) : Bool := decide ((on < off ∧ on ≤ t ∧ t < off) ∨ (off < on ∧ (on ≤ t ∨ t < off)))
def S_night (R : am_R) (c : Nat) : Bool := S_nt (nn (R (23 + 6 * c + 1))) (nn (R (23 + 6 * c + 2))) (S_tm (nn (R 0)) (R (23 + 6 * c + 3)).toInt)
def S_should (R : am_R) (l : Nat) : Bool := if nn (R (77 + 7 * l)) = 2 then true else if nn (R (77 + 7 * l)) = 4 then decide (nn (R 1) % nn (R 2) = 0) else S_night R (S_cab R (nn (R (77 + 7 * l + 1))))
def S_fed (R : am_R) (l : Nat) : Bool := if R (77 + 7 * l + 5) = 1 then false else S_way R (nn (R (77 + 7 * l + 1)))
def S_burns (R : am_R) (l : Nat) : Bool := S_should R l && S_fed R l
theorem c_X12_isNight {d n : Nat} {mem : am_M} {Q : am_P} (hw : wfR (mem 222)) (c : Nat) (hc : c < nn (mem 222 3)) (hQ : Q (some (.int (ob (S_night (mem 222) c)))) (am_SK n) mem) : am_ex (d + 2) 154 [.ref 221, .int (nI c)] (am_SK n) mem Q := by
  have hr3 : nn (mem 222 3) < 4 := hw.2.1.1.2
  obtain ⟨-, ⟨e1, g1⟩, ⟨e2, g2⟩, ⟨g3, g4⟩, -⟩ := hw.2.2.1 c hc
  have hh := hw.1.1
  unfold S_night at hQ
  have htm := S_tm_eq (y := mem 222 (23 + 6 * c + 3)) hh.2 g3 g4
  generalize hte : S_tm (nn (mem 222 0)) (mem 222 (23 + 6 * c + 3)).toInt = t at htm hQ
  have ht : t < 24 := by rw [← hte]; exact S_tm_lt _ _
  rw [← hh.1] at htm
  generalize nn (mem 222 (23 + 6 * c + 1)) = on at e1 g1 hQ
  generalize nn (mem 222 (23 + 6 * c + 2)) = off at e2 g2 hQ
  refine ex_in (c0 := kc_X12_isNight) rfl (L := [some (.ref 221), some (.int (nI c)), none, none, none]) rfl ?_
  refine ev_aload rfl rfl ?_
  refine ev_getR (c := 12) (j := 0) rfl ?_ (hq := k_221 n)
  refine ev_iconst (x := nI 0) rfl rfl ?_
  refine ev_ialdN rfl (m := 0) (rfl) ?_ (hq := k_222 n)
  refine ev_aload rfl rfl ?_
  refine ev_iload rfl rfl ?_
  refine ev_iconst (x := nI 3) rfl rfl ?_
  refine ev_call rfl rfl ?_
  refine c_X12_cab6 (a := c) (w := 3) (by omega) ?_
  change am_ev _ _ _ _ (_ :: _) _ _ _
  refine ev_isub rfl ?_
  refine ev_iconst (x := nI 24) rfl rfl ?_
  refine ev_iadd rfl ?_
  refine ev_iconst (x := nI 24) rfl rfl ?_
  refine ev_irem rfl ?_
  rw [htm]
  refine ev_istore rfl rfl (Nat.le_of_ble_eq_true rfl) ?_
  refine ev_aload rfl rfl ?_
  refine ev_iload rfl rfl ?_
  refine ev_iconst (x := nI 1) rfl rfl ?_
  refine ev_call rfl rfl ?_
  refine c_X12_cab6 (a := c) (w := 1) (by omega) ?_
  rw [e1]
  change am_ev _ _ _ _ (_ :: _) _ _ _
  refine ev_istore rfl rfl (Nat.le_of_ble_eq_true rfl) ?_
  refine ev_aload rfl rfl ?_
  refine ev_iload rfl rfl ?_
  refine ev_iconst (x := nI 2) rfl rfl ?_
  refine ev_call rfl rfl ?_
  refine c_X12_cab6 (a := c) (w := 2) (by omega) ?_
  rw [e2]
  change am_ev _ _ _ _ (_ :: _) _ _ _
  refine ev_istore rfl rfl (Nat.le_of_ble_eq_true rfl) ?_
  refine ev_iload rfl rfl ?_
  refine ev_iload rfl rfl ?_
  refine ev_icmp_ge (p2 := 60) rfl rfl (fun cnd38 => ?_) (fun cnd38 => ?_)
  · skip
    refine ev_iload rfl rfl ?_
    refine ev_iload rfl rfl ?_
    refine ev_icmp_le (p2 := 81) rfl rfl (fun cnd63 => ?_) (fun cnd63 => ?_)
    · skip
      refine ev_iconst (x := nI 0) rfl rfl ?_
      refine ev_zret rfl ?_
      refine am_leaf hQ ?_
      simp only [Int32.lt_iff_toInt_lt, Int32.le_iff_toInt_le, nI_toInt (show on < 2 ^ 31 by omega), nI_toInt (show off < 2 ^ 31 by omega), nI_toInt (show t < 2 ^ 31 by omega)] at *
      first | (rw [show S_nt on off t = true from decide_eq_true (by omega)]; rfl) | (rw [show S_nt on off t = false from decide_eq_false (by omega)]; rfl)
    · skip
      refine ev_iload rfl rfl ?_
      refine ev_iload rfl rfl ?_
      refine ev_icmp_ge (p2 := 77) rfl rfl (fun cnd68 => ?_) (fun cnd68 => ?_)
      · skip
        refine ev_iconst (x := nI 1) rfl rfl ?_
        refine ev_goto (p2 := 82) rfl rfl ?_
        refine ev_zret rfl ?_
        refine am_leaf hQ ?_
        simp only [Int32.lt_iff_toInt_lt, Int32.le_iff_toInt_le, nI_toInt (show on < 2 ^ 31 by omega), nI_toInt (show off < 2 ^ 31 by omega), nI_toInt (show t < 2 ^ 31 by omega)] at *
        first | (rw [show S_nt on off t = true from decide_eq_true (by omega)]; rfl) | (rw [show S_nt on off t = false from decide_eq_false (by omega)]; rfl)
      · skip
        refine ev_iload rfl rfl ?_
        refine ev_iload rfl rfl ?_
        refine ev_icmp_ge (p2 := 81) rfl rfl (fun cnd74 => ?_) (fun cnd74 => ?_)
        · skip
          refine ev_iconst (x := nI 0) rfl rfl ?_
          refine ev_zret rfl ?_
          refine am_leaf hQ ?_
          simp only [Int32.lt_iff_toInt_lt, Int32.le_iff_toInt_le, nI_toInt (show on < 2 ^ 31 by omega), nI_toInt (show off < 2 ^ 31 by omega), nI_toInt (show t < 2 ^ 31 by omega)] at *
          first | (rw [show S_nt on off t = true from decide_eq_true (by omega)]; rfl) | (rw [show S_nt on off t = false from decide_eq_false (by omega)]; rfl)
        · skip
          refine ev_iconst (x := nI 1) rfl rfl ?_
          refine ev_goto (p2 := 82) rfl rfl ?_
          refine ev_zret rfl ?_
          refine am_leaf hQ ?_
          simp only [Int32.lt_iff_toInt_lt, Int32.le_iff_toInt_le, nI_toInt (show on < 2 ^ 31 by omega), nI_toInt (show off < 2 ^ 31 by omega), nI_toInt (show t < 2 ^ 31 by omega)] at *
          first | (rw [show S_nt on off t = true from decide_eq_true (by omega)]; rfl) | (rw [show S_nt on off t = false from decide_eq_false (by omega)]; rfl)
  · skip
    refine ev_iload rfl rfl ?_
    refine ev_iload rfl rfl ?_
    refine ev_icmp_lt (p2 := 56) rfl rfl (fun cnd43 => ?_) (fun cnd43 => ?_)
    · skip
      refine ev_iconst (x := nI 0) rfl rfl ?_
      refine ev_goto (p2 := 82) rfl rfl ?_
      refine ev_zret rfl ?_
      refine am_leaf hQ ?_
      simp only [Int32.lt_iff_toInt_lt, Int32.le_iff_toInt_le, nI_toInt (show on < 2 ^ 31 by omega), nI_toInt (show off < 2 ^ 31 by omega), nI_toInt (show t < 2 ^ 31 by omega)] at *
      first | (rw [show S_nt on off t = true from decide_eq_true (by omega)]; rfl) | (rw [show S_nt on off t = false from decide_eq_false (by omega)]; rfl)
    · skip
      refine ev_iload rfl rfl ?_
      refine ev_iload rfl rfl ?_
      refine ev_icmp_ge (p2 := 56) rfl rfl (fun cnd49 => ?_) (fun cnd49 => ?_)
      · skip
        refine ev_iconst (x := nI 0) rfl rfl ?_
        refine ev_goto (p2 := 82) rfl rfl ?_
        refine ev_zret rfl ?_
        refine am_leaf hQ ?_
        simp only [Int32.lt_iff_toInt_lt, Int32.le_iff_toInt_le, nI_toInt (show on < 2 ^ 31 by omega), nI_toInt (show off < 2 ^ 31 by omega), nI_toInt (show t < 2 ^ 31 by omega)] at *
        first | (rw [show S_nt on off t = true from decide_eq_true (by omega)]; rfl) | (rw [show S_nt on off t = false from decide_eq_false (by omega)]; rfl)
      · skip
        refine ev_iconst (x := nI 1) rfl rfl ?_
        refine ev_goto (p2 := 82) rfl rfl ?_
        refine ev_zret rfl ?_
        refine am_leaf hQ ?_
        simp only [Int32.lt_iff_toInt_lt, Int32.le_iff_toInt_le, nI_toInt (show on < 2 ^ 31 by omega), nI_toInt (show off < 2 ^ 31 by omega), nI_toInt (show t < 2 ^ 31 by omega)] at *
        first | (rw [show S_nt on off t = true from decide_eq_true (by omega)]; rfl) | (rw [show S_nt on off t = false from decide_eq_false (by omega)]; rfl)
theorem c_X12_cabOf {d n : Nat} {mem : am_M} {Q : am_P} (hw : wfR (mem 222)) (j : Nat) (hj : j < nn (mem 222 4)) (hQ : Q (some (.int (nI (S_cab (mem 222) j)))) (am_SK n) mem) : am_ex (d + 2) 155 [.ref 221, .int (nI j)] (am_SK n) mem Q := by
  refine ex_in (c0 := kc_X12_cabOf) rfl (L := [some (.ref 221), some (.int (nI j)), none]) rfl ?_
  refine ev_iload rfl rfl ?_
  refine ev_istore rfl rfl (Nat.le_of_ble_eq_true rfl) ?_
  exact l_X12_cabOf hw j hj _ hQ
theorem c_X12_shouldBurn {d n : Nat} {mem : am_M} {Q : am_P} (hw : wfR (mem 222)) (l : Nat) (hl : l < nn (mem 222 5)) (hQ : Q (some (.int (ob (S_should (mem 222) l)))) (am_SK n) mem) : am_ex (d + 3) 156 [.ref 221, .int (nI l)] (am_SK n) mem Q := by
  have hr5 : nn (mem 222 5) < 17 := hw.2.1.2.2.1.2
  obtain ⟨⟨e1, g1⟩, ⟨e2, g2⟩, -⟩ := hw.2.2.2.2.1 l hl
  obtain ⟨⟨e3, g3⟩, ⟨e4, g4⟩, g5⟩ := hw.1.2
  have hcab := S_cab_lt hw _ g2
  have hy0 : ¬ nI (nn (mem 222 2)) = 0 := by rw [nI_z (by omega)]; omega
  unfold S_should at hQ
  generalize nn (mem 222 (77 + 7 * l)) = kd at e1 g1 hQ
  refine ex_in (c0 := kc_X12_shouldBurn) rfl (L := [some (.ref 221), some (.int (nI l)), none]) rfl ?_
  refine ev_aload rfl rfl ?_
  refine ev_iload rfl rfl ?_
  refine ev_iconst (x := nI 0) rfl rfl ?_
  refine ev_call rfl rfl ?_
  refine c_X12_lamp7 (a := l) (w := 0) (by omega) ?_
  rw [show mem 222 (77 + 7 * l + 0) = nI kd from e1]
  change am_ev _ _ _ _ (_ :: _) _ _ _
  refine ev_istore rfl rfl (Nat.le_of_ble_eq_true rfl) ?_
  refine ev_iload rfl rfl ?_
  refine ev_iconst (x := nI 2) rfl rfl ?_
  refine ev_icmp_ne (p2 := 14) rfl rfl (fun cnd9 => ?_) (fun cnd9 => ?_)
  · skip
    refine ev_iload rfl rfl ?_
    refine ev_iconst (x := nI 4) rfl rfl ?_
    refine ev_icmp_ne (p2 := 43) rfl rfl (fun cnd16 => ?_) (fun cnd16 => ?_)
    · skip
      refine ev_aload rfl rfl ?_
      refine ev_aload rfl rfl ?_
      refine ev_aload rfl rfl ?_
      refine ev_iload rfl rfl ?_
      refine ev_iconst (x := nI 1) rfl rfl ?_
      refine ev_call rfl rfl ?_
      refine c_X12_lamp7 (a := l) (w := 1) (by omega) ?_
      rw [e2]
      change am_ev _ _ _ _ (_ :: _) _ _ _
      refine ev_call rfl rfl ?_
      refine c_X12_cabOf hw _ g2 ?_
      change am_ev _ _ _ _ (_ :: _) _ _ _
      refine ev_call rfl rfl ?_
      refine c_X12_isNight hw _ hcab ?_
      change am_ev _ _ _ _ (_ :: _) _ _ _
      refine ev_zret rfl ?_
      refine am_leaf hQ ?_
      rw [nI_eq (by omega) (by decide)] at cnd9
      first | (rw [if_pos cnd9]; rfl) | skip
      all_goals rw [nI_eq (by omega) (by decide)] at cnd16
      all_goals rw [if_neg cnd9]
      all_goals first | (rw [if_neg cnd16]; done) | rw [if_pos cnd16]
      all_goals rw [nI_z (Nat.lt_trans (Nat.mod_lt _ g5) (by omega))] at cnd32
      all_goals first | (rw [decide_eq_true cnd32]; rfl) | (rw [decide_eq_false cnd32]; rfl)
    · skip
      refine ev_aload rfl rfl ?_
      refine ev_getR (c := 12) (j := 0) rfl ?_ (hq := k_221 n)
      refine ev_iconst (x := nI 1) rfl rfl ?_
      refine ev_ialdN rfl (m := 1) (rfl) ?_ (hq := k_222 n)
      refine ev_aload rfl rfl ?_
      refine ev_getR (c := 12) (j := 0) rfl ?_ (hq := k_221 n)
      refine ev_iconst (x := nI 2) rfl rfl ?_
      refine ev_ialdN rfl (m := 2) (rfl) ?_ (hq := k_222 n)
      rw [e3, e4]
      refine ev_irem rfl ?_
      rw [pk_rem (by omega) (by omega) (by omega)]
      refine ev_if_ne (p2 := 39) rfl rfl (fun cnd32 => ?_) (fun cnd32 => ?_)
      · skip
        refine ev_iconst (x := nI 0) rfl rfl ?_
        refine ev_goto (p2 := 57) rfl rfl ?_
        refine ev_zret rfl ?_
        refine am_leaf hQ ?_
        rw [nI_eq (by omega) (by decide)] at cnd9
        first | (rw [if_pos cnd9]; rfl) | skip
        all_goals rw [nI_eq (by omega) (by decide)] at cnd16
        all_goals rw [if_neg cnd9]
        all_goals first | (rw [if_neg cnd16]; done) | rw [if_pos cnd16]
        all_goals rw [nI_z (Nat.lt_trans (Nat.mod_lt _ g5) (by omega))] at cnd32
        all_goals first | (rw [decide_eq_true cnd32]; rfl) | (rw [decide_eq_false cnd32]; rfl)
      · skip
        refine ev_iconst (x := nI 1) rfl rfl ?_
        refine ev_goto (p2 := 57) rfl rfl ?_
        refine ev_zret rfl ?_
        refine am_leaf hQ ?_
        rw [nI_eq (by omega) (by decide)] at cnd9
        first | (rw [if_pos cnd9]; rfl) | skip
        all_goals rw [nI_eq (by omega) (by decide)] at cnd16
        all_goals rw [if_neg cnd9]
        all_goals first | (rw [if_neg cnd16]; done) | rw [if_pos cnd16]
        all_goals rw [nI_z (Nat.lt_trans (Nat.mod_lt _ g5) (by omega))] at cnd32
        all_goals first | (rw [decide_eq_true cnd32]; rfl) | (rw [decide_eq_false cnd32]; rfl)
  · skip
    refine ev_iconst (x := nI 1) rfl rfl ?_
    refine ev_zret rfl ?_
    refine am_leaf hQ ?_
    rw [nI_eq (by omega) (by decide)] at cnd9
    first | (rw [if_pos cnd9]; rfl) | skip
    all_goals rw [nI_eq (by omega) (by decide)] at cnd16
    all_goals rw [if_neg cnd9]
    all_goals first | (rw [if_neg cnd16]; done) | rw [if_pos cnd16]
    all_goals rw [nI_z (Nat.lt_trans (Nat.mod_lt _ g5) (by omega))] at cnd32
    all_goals first | (rw [decide_eq_true cnd32]; rfl) | (rw [decide_eq_false cnd32]; rfl)
/-- from a joint or a cabinet (by its number and 100) up -/
def S_wayF (R : am_R) (f : Nat) : Bool := if f < 100 then S_way R f else decide (R (23 + 6 * (f - 100) + 4) = 0)
theorem l_X12_isFed_top {d n : Nat} {mem : am_M} {Q : am_P} (hw : wfR (mem 222)) (f : Nat) (hf : 100 ≤ f ∧ f < 100 + nn (mem 222 3)) (x : Option Value) (hQ : Q (some (.int (ob (decide (mem 222 (23 + 6 * (f - 100) + 4) = 0))))) (am_SK n) mem) : am_ev kc_X12_isFed (d + 1) 19 [some (.ref 221), x, some (.int (nI f))] [] (am_SK n) mem Q := by
  have hr3 : nn (mem 222 3) < 4 := hw.2.1.1.2
  have hf31 : f < 2 ^ 31 := by omega
  refine ev_iload rfl rfl ?_
  refine ev_iconst (x := nI 100) rfl rfl ?_
  refine ev_icmp_ge (p2 := 47) rfl rfl (fun cnd22 => ?_) (fun cnd22 => ?_)
  · skip
    refine ev_aload rfl rfl ?_
    refine ev_iload rfl rfl ?_
    refine ev_iconst (x := nI 100) rfl rfl ?_
    refine ev_isub rfl ?_
    rw [pk_sub hf.1]
    refine ev_iconst (x := nI 4) rfl rfl ?_
    refine ev_call rfl rfl ?_
    refine c_X12_cab6 (a := f - 100) (w := 4) (by omega) ?_
    change am_ev _ _ _ _ (_ :: _) _ _ _
    refine ev_if_ne (p2 := 63) rfl rfl (fun cnd56 => ?_) (fun cnd56 => ?_)
    · skip
      refine ev_iconst (x := nI 0) rfl rfl ?_
      refine ev_zret rfl ?_
      refine am_leaf hQ ?_
      first | (rw [decide_eq_true cnd56]; rfl) | (rw [decide_eq_false cnd56]; rfl)
    · skip
      refine ev_iconst (x := nI 1) rfl rfl ?_
      refine ev_goto (p2 := 64) rfl rfl ?_
      refine ev_zret rfl ?_
      refine am_leaf hQ ?_
      first | (rw [decide_eq_true cnd56]; rfl) | (rw [decide_eq_false cnd56]; rfl)
  · exact absurd ((nI_leI (by decide) hf31).mpr hf.1) cnd22
theorem l_X12_isFed {d n : Nat} {mem : am_M} {Q : am_P} (hw : wfR (mem 222)) (f : Nat) (hf : f < nn (mem 222 4)) (x : Option Value) (hQ : Q (some (.int (ob (S_way (mem 222) f)))) (am_SK n) mem) : am_ev kc_X12_isFed (d + 1) 19 [some (.ref 221), x, some (.int (nI f))] [] (am_SK n) mem Q := by
  induction f using Nat.strongRecOn generalizing x with
  | ind f ih =>
    have hr4 : nn (mem 222 4) < 13 := hw.2.1.2.1.2
    have hr3 : nn (mem 222 3) < 4 := hw.2.1.1.2
    have hf31 : f < 2 ^ 31 := by omega
    refine ev_iload rfl rfl ?_
    refine ev_iconst (x := nI 100) rfl rfl ?_
    refine ev_icmp_ge (p2 := 47) rfl rfl (fun cnd22 => ?_) (fun cnd22 => ?_)
    · exact absurd ((nI_leI (by decide) hf31).mp cnd22) (by omega)
    · skip
      refine ev_aload rfl rfl ?_
      refine ev_iload rfl rfl ?_
      refine ev_iconst (x := nI 2) rfl rfl ?_
      refine ev_call rfl rfl ?_
      refine c_X12_joint3 (a := f) (w := 2) (by omega) ?_
      change am_ev _ _ _ _ (_ :: _) _ _ _
      refine ev_iconst (x := nI 1) rfl rfl ?_
      refine ev_icmp_ne (p2 := 37) rfl rfl (fun cnd32 => ?_) (fun cnd32 => ?_)
      · skip
        refine ev_aload rfl rfl ?_
        refine ev_iload rfl rfl ?_
        refine ev_iconst (x := nI 0) rfl rfl ?_
        refine ev_call rfl rfl ?_
        refine c_X12_joint3 (a := f) (w := 0) (by omega) ?_
        change am_ev _ _ _ _ (_ :: _) _ _ _
        refine ev_istore rfl rfl (Nat.le_of_ble_eq_true rfl) ?_
        refine ev_goto (p2 := 19) rfl rfl ?_
        obtain ⟨⟨e1, g1⟩, -, -⟩ := hw.2.2.2.1 f hf
        rw [show mem 222 (41 + 3 * f + 0) = nI (nn (mem 222 (41 + 3 * f))) from e1]
        rw [S_way, if_neg (show ¬ mem 222 (41 + 3 * f + 2) = 1 from cnd32)] at hQ
        rcases g1 with g1 | g1
        · rw [dif_pos g1] at hQ
          exact ih _ g1 (by omega) _ hQ
        · rw [dif_neg (by omega)] at hQ
          exact l_X12_isFed_top hw _ g1 _ hQ
      · skip
        refine ev_iconst (x := nI 0) rfl rfl ?_
        refine ev_zret rfl ?_
        rw [S_way, if_pos (show mem 222 (41 + 3 * f + 2) = 1 from cnd32)] at hQ
        exact hQ
theorem c_X12_isFed {d n : Nat} {mem : am_M} {Q : am_P} (hw : wfR (mem 222)) (l : Nat) (hl : l < nn (mem 222 5)) (hQ : Q (some (.int (ob (S_fed (mem 222) l)))) (am_SK n) mem) : am_ex (d + 2) 157 [.ref 221, .int (nI l)] (am_SK n) mem Q := by
  have hr5 : nn (mem 222 5) < 17 := hw.2.1.2.2.1.2
  obtain ⟨-, ⟨e2, g2⟩, -⟩ := hw.2.2.2.2.1 l hl
  unfold S_fed at hQ
  refine ex_in (c0 := kc_X12_isFed) rfl (L := [some (.ref 221), some (.int (nI l)), none]) rfl ?_
  refine ev_aload rfl rfl ?_
  refine ev_iload rfl rfl ?_
  refine ev_iconst (x := nI 5) rfl rfl ?_
  refine ev_call rfl rfl ?_
  refine c_X12_lamp7 (a := l) (w := 5) (by omega) ?_
  change am_ev _ _ _ _ (_ :: _) _ _ _
  refine ev_iconst (x := nI 1) rfl rfl ?_
  refine ev_icmp_ne (p2 := 12) rfl rfl (fun cnd7 => ?_) (fun cnd7 => ?_)
  · skip
    refine ev_aload rfl rfl ?_
    refine ev_iload rfl rfl ?_
    refine ev_iconst (x := nI 1) rfl rfl ?_
    refine ev_call rfl rfl ?_
    refine c_X12_lamp7 (a := l) (w := 1) (by omega) ?_
    rw [e2]
    change am_ev _ _ _ _ (_ :: _) _ _ _
    refine ev_istore rfl rfl (Nat.le_of_ble_eq_true rfl) ?_
    rw [if_neg (show ¬ mem 222 (77 + 7 * l + 5) = 1 from cnd7)] at hQ
    exact l_X12_isFed hw _ g2 _ hQ
  · skip
    refine ev_iconst (x := nI 0) rfl rfl ?_
    refine ev_zret rfl ?_
    rw [if_pos (show mem 222 (77 + 7 * l + 5) = 1 from cnd7)] at hQ
    exact hQ
theorem c_X12_burns {d n : Nat} {mem : am_M} {Q : am_P} (hw : wfR (mem 222)) (l : Nat) (hl : l < nn (mem 222 5)) (hQ : Q (some (.int (ob (S_burns (mem 222) l)))) (am_SK n) mem) : am_ex (d + 4) 158 [.ref 221, .int (nI l)] (am_SK n) mem Q := by
  refine ex_in (c0 := kc_X12_burns) rfl (L := [some (.ref 221), some (.int (nI l))]) rfl ?_
  refine ev_aload rfl rfl ?_
  refine ev_iload rfl rfl ?_
  refine ev_call rfl rfl ?_
  refine c_X12_shouldBurn hw l hl ?_
  change am_ev _ _ _ _ (_ :: _) _ _ _
  refine ev_if_eq (p2 := 20) rfl rfl (fun cnd5 => ?_) (fun cnd5 => ?_)
  · skip
    refine ev_iconst (x := nI 0) rfl rfl ?_
    refine ev_zret rfl ?_
    refine am_leaf hQ ?_
    unfold S_burns
    generalize S_should (mem 222) l = pA at *
    generalize S_fed (mem 222) l = pB at *
    cases pA <;> cases pB <;> first | rfl | exact absurd rfl (by assumption) | exact absurd (by assumption) (by decide) | (revert cnd5; decide) | (revert cnd13; decide)
  · skip
    refine ev_aload rfl rfl ?_
    refine ev_iload rfl rfl ?_
    refine ev_call rfl rfl ?_
    refine c_X12_isFed hw l hl ?_
    change am_ev _ _ _ _ (_ :: _) _ _ _
    refine ev_if_eq (p2 := 20) rfl rfl (fun cnd13 => ?_) (fun cnd13 => ?_)
    · skip
      refine ev_iconst (x := nI 0) rfl rfl ?_
      refine ev_zret rfl ?_
      refine am_leaf hQ ?_
      unfold S_burns
      generalize S_should (mem 222) l = pA at *
      generalize S_fed (mem 222) l = pB at *
      cases pA <;> cases pB <;> first | rfl | exact absurd rfl (by assumption) | exact absurd (by assumption) (by decide) | (revert cnd5; decide) | (revert cnd13; decide)
    · skip
      refine ev_iconst (x := nI 1) rfl rfl ?_
      refine ev_goto (p2 := 21) rfl rfl ?_
      refine ev_zret rfl ?_
      refine am_leaf hQ ?_
      unfold S_burns
      generalize S_should (mem 222) l = pA at *
      generalize S_fed (mem 222) l = pB at *
      cases pA <;> cases pB <;> first | rfl | exact absurd rfl (by assumption) | exact absurd (by assumption) (by decide) | (revert cnd5; decide) | (revert cnd13; decide)
end
section
/-! the reference: texts that count, and what two numbers give -/
section EVS
variable {code : am_C} {d pc nx : Nat} {L : am_L} {st : List Value} {sk : am_K} {mem : am_M} {Q : am_P}
theorem ev_tswC {dd lo hi t : Int} {ts : Array Int} {x : Int32} {p2 : Nat} (hc : am_at code pc = some (.tableswitch dd lo hi ts, nx)) (ht : (if x.toInt < lo ∨ hi < x.toInt then some dd else ts[(x.toInt - lo).toNat]?) = some t) (hp : t.toNat = p2) (k : am_ev code d p2 L st sk mem Q) : am_ev code d pc L (.int x :: st) sk mem Q := by
  subst hp
  refine ev_go hc ?_ k
  simp only [am_stp, am_tsw, am_go]
  by_cases h : x.toInt < lo ∨ hi < x.toInt
  · rw [if_pos h] at ht ⊢
    cases ht
    rfl
  · rw [if_neg h] at ht ⊢
    rw [ht]
theorem ev_lswC {dd t : Int} {ps : Array (Int × Int)} {x : Int32} {p2 : Nat} (hc : am_at code pc = some (.lookupswitch dd ps, nx)) (ht : Op.lookupswitch.offset ps.toList dd x.toInt = t) (hp : t.toNat = p2) (k : am_ev code d p2 L st sk mem Q) : am_ev code d pc L (.int x :: st) sk mem Q := by
  subst hp
  subst ht
  exact ev_go hc rfl k
end EVS
def S_key (R : am_R) (t : Nat) : Nat := nn (R (189 + 2 * t)) / 1000
def S_num (R : am_R) (t : Nat) : Nat := nn (R (189 + 2 * t)) % 1000
/-- the text that counts for a key, of the first k -/
def S_cnt (R : am_R) (key : Nat) : Nat → Option Nat
  | 0 => none
  | k + 1 => if S_key R k = key then some k else S_cnt R key k
theorem S_cnt_lt {R : am_R} {key : Nat} : ∀ {k t : Nat}, S_cnt R key k = some t → t < k
  | k + 1, t, h => by
    unfold S_cnt at h
    split at h
    · cases h; omega
    · have := S_cnt_lt h; omega
def S_cntI (o : Option Nat) : Int32 := match o with
  | some t => nI t
  | none => -1
/-- heads of the texts are small numbers -/
def wfH (R : am_R) : Prop := ∀ t, t < nn (R 6) → isN (R (189 + 2 * t)) 4000
def S_two (s a b : Int32) : Int32 := if s = -1 then ob (decide (a ≠ 0 ∨ b ≠ 0)) else if s = -2 then ob (decide (a ≠ 0 ∧ b ≠ 0)) else if s = -3 then ob (decide (a < b)) else if s = -4 then ob (decide (a = b)) else if s = -5 then ob (decide (b < a)) else if s = -6 then a + b else if s = -7 then a - b else if s = -8 then a * b else if b = 0 then 0 else a / b
theorem l_X12_counts {d n : Nat} {mem : am_M} {Q : am_P} (hw : wfR (mem 222)) (hh : wfH (mem 222)) (key k : Nat) (hkey : key < 4) (hk : k ≤ nn (mem 222 6)) (x : Int32) (hx : x = nI k - 1) (hQ : Q (some (.int (S_cntI (S_cnt (mem 222) key k)))) (am_SK n) mem) : am_ev kc_X12_counts (d + 1) 10 [some (.ref 221), some (.int (nI key)), some (.int x)] [] (am_SK n) mem Q := by
  induction k generalizing x with
  | zero =>
    subst hx
    refine ev_iload rfl rfl ?_
    refine ev_if_lt (p2 := 42) rfl rfl (fun cnd11 => ?_) (fun cnd11 => ?_)
    · skip
      refine ev_iconst (x := (-1)) rfl rfl ?_
      refine ev_iret rfl ?_
      exact hQ
    · exact absurd (by decide) cnd11
  | succ k ih =>
    have hx2 : x = nI k := by rw [hx]; exact nI_pred k
    subst hx2
    have hr6 : nn (mem 222 6) < 15 := hw.2.1.2.2.2.1.2
    obtain ⟨e1, g1⟩ := hh k (by omega)
    unfold S_cnt S_key at hQ
    generalize nn (mem 222 (189 + 2 * k)) = v at e1 g1 hQ
    refine ev_iload rfl rfl ?_
    refine ev_if_lt (p2 := 42) rfl rfl (fun cnd11 => ?_) (fun cnd11 => ?_)
    · exact absurd cnd11 (nI_pos (by omega))
    · skip
      refine ev_aload rfl rfl ?_
      refine ev_getR (c := 12) (j := 0) rfl ?_ (hq := k_221 n)
      refine ev_iconst (x := nI 189) rfl rfl ?_
      refine ev_iconst (x := nI 2) rfl rfl ?_
      refine ev_iload rfl rfl ?_
      refine ev_imul rfl ?_
      refine ev_iadd rfl ?_
      refine ev_ialdN rfl (m := 189 + 2 * k) (by simp only [nI_add, pk_mul]) ?_ (hq := k_222 n)
      rw [e1]
      refine ev_iconst (x := nI 1000) rfl rfl ?_
      refine ev_idiv rfl ?_
      rw [pk_div (by omega) (by decide) (by decide)]
      refine ev_iload rfl rfl ?_
      refine ev_icmp_ne (p2 := 36) rfl rfl (fun cnd31 => ?_) (fun cnd31 => ?_)
      · skip
        refine ev_iinc rfl rfl rfl rfl ?_
        refine ev_goto (p2 := 10) rfl rfl ?_
        refine ih (by omega) _ ?_ ?_
        · rw [Int32.sub_eq_add_neg]; exact congrArg (nI k + ·) (by decide)
        · rw [if_neg (fun z => cnd31 ((nI_eq (by omega) (by omega)).mpr z))] at hQ
          exact hQ
      · skip
        refine ev_iload rfl rfl ?_
        refine ev_iret rfl ?_
        rw [if_pos ((nI_eq (by omega) (by omega)).mp cnd31)] at hQ
        exact hQ
theorem c_X12_counts {d n : Nat} {mem : am_M} {Q : am_P} (hw : wfR (mem 222)) (hh : wfH (mem 222)) (key : Nat) (hkey : key < 4) (hQ : Q (some (.int (S_cntI (S_cnt (mem 222) key (nn (mem 222 6)))))) (am_SK n) mem) : am_ex (d + 2) 198 [.ref 221, .int (nI key)] (am_SK n) mem Q := by
  refine ex_in (c0 := kc_X12_counts) rfl (L := [some (.ref 221), some (.int (nI key)), none]) rfl ?_
  refine ev_aload rfl rfl ?_
  refine ev_getR (c := 12) (j := 0) rfl ?_ (hq := k_221 n)
  refine ev_iconst (x := nI 6) rfl rfl ?_
  refine ev_ialdN rfl (m := 6) (rfl) ?_ (hq := k_222 n)
  refine ev_iconst (x := nI 1) rfl rfl ?_
  refine ev_isub rfl ?_
  refine ev_istore rfl rfl (Nat.le_of_ble_eq_true rfl) ?_
  exact l_X12_counts hw hh key _ hkey (Nat.le_refl _) _ (by rw [← hw.2.1.2.2.2.1.1]; rfl) hQ
theorem c_X12_two {d n : Nat} {mem : am_M} {Q : am_P} (sg a b : Int32) (hsg : sg = -1 ∨ sg = -2 ∨ sg = -3 ∨ sg = -4 ∨ sg = -5 ∨ sg = -6 ∨ sg = -7 ∨ sg = -8 ∨ sg = -9) (hQ : Q (some (.int (S_two sg a b))) (am_SK n) mem) : am_ex (d + 1) 200 [.int sg, .int a, .int b] (am_SK n) mem Q := by
  rcases hsg with rfl | rfl | rfl | rfl | rfl | rfl | rfl | rfl | rfl
  · refine ex_in (c0 := kc_X12_two) rfl (L := [some (.int (-1)), some (.int a), some (.int b)]) rfl ?_
    refine ev_iload rfl rfl ?_
    refine ev_tswC (p2 := 48) rfl (by first | rfl | decide) rfl ?_
    refine ev_iload rfl rfl ?_
    refine ev_if_ne (p2 := 56) rfl rfl (fun cnd49 => ?_) (fun cnd49 => ?_)
    · skip
      refine ev_iconst (x := 1) rfl rfl ?_
      refine ev_goto (p2 := 61) rfl rfl ?_
      refine ev_iret rfl ?_
      refine am_leaf hQ ?_
      simp_all [S_two, ob]
    · skip
      refine ev_iload rfl rfl ?_
      refine ev_if_eq (p2 := 60) rfl rfl (fun cnd53 => ?_) (fun cnd53 => ?_)
      · skip
        refine ev_iconst (x := 0) rfl rfl ?_
        refine ev_iret rfl ?_
        refine am_leaf hQ ?_
        simp_all [S_two, ob]
      · skip
        refine ev_iconst (x := 1) rfl rfl ?_
        refine ev_goto (p2 := 61) rfl rfl ?_
        refine ev_iret rfl ?_
        refine am_leaf hQ ?_
        simp_all [S_two, ob]
  · refine ex_in (c0 := kc_X12_two) rfl (L := [some (.int (-2)), some (.int a), some (.int b)]) rfl ?_
    refine ev_iload rfl rfl ?_
    refine ev_tswC (p2 := 62) rfl (by first | rfl | decide) rfl ?_
    refine ev_iload rfl rfl ?_
    refine ev_if_eq (p2 := 74) rfl rfl (fun cnd63 => ?_) (fun cnd63 => ?_)
    · skip
      refine ev_iconst (x := 0) rfl rfl ?_
      refine ev_iret rfl ?_
      refine am_leaf hQ ?_
      simp_all [S_two, ob]
    · skip
      refine ev_iload rfl rfl ?_
      refine ev_if_eq (p2 := 74) rfl rfl (fun cnd67 => ?_) (fun cnd67 => ?_)
      · skip
        refine ev_iconst (x := 0) rfl rfl ?_
        refine ev_iret rfl ?_
        refine am_leaf hQ ?_
        simp_all [S_two, ob]
      · skip
        refine ev_iconst (x := 1) rfl rfl ?_
        refine ev_goto (p2 := 75) rfl rfl ?_
        refine ev_iret rfl ?_
        refine am_leaf hQ ?_
        simp_all [S_two, ob]
  · refine ex_in (c0 := kc_X12_two) rfl (L := [some (.int (-3)), some (.int a), some (.int b)]) rfl ?_
    refine ev_iload rfl rfl ?_
    refine ev_tswC (p2 := 76) rfl (by first | rfl | decide) rfl ?_
    refine ev_iload rfl rfl ?_
    refine ev_iload rfl rfl ?_
    refine ev_icmp_ge (p2 := 85) rfl rfl (fun cnd78 => ?_) (fun cnd78 => ?_)
    · skip
      refine ev_iconst (x := 0) rfl rfl ?_
      refine ev_iret rfl ?_
      refine am_leaf hQ ?_
      simp_all [S_two, ob]
    · skip
      refine ev_iconst (x := 1) rfl rfl ?_
      refine ev_goto (p2 := 86) rfl rfl ?_
      refine ev_iret rfl ?_
      refine am_leaf hQ ?_
      simp_all [S_two, ob]
  · refine ex_in (c0 := kc_X12_two) rfl (L := [some (.int (-4)), some (.int a), some (.int b)]) rfl ?_
    refine ev_iload rfl rfl ?_
    refine ev_tswC (p2 := 87) rfl (by first | rfl | decide) rfl ?_
    refine ev_iload rfl rfl ?_
    refine ev_iload rfl rfl ?_
    refine ev_icmp_ne (p2 := 96) rfl rfl (fun cnd89 => ?_) (fun cnd89 => ?_)
    · skip
      refine ev_iconst (x := 0) rfl rfl ?_
      refine ev_iret rfl ?_
      refine am_leaf hQ ?_
      simp_all [S_two, ob]
    · skip
      refine ev_iconst (x := 1) rfl rfl ?_
      refine ev_goto (p2 := 97) rfl rfl ?_
      refine ev_iret rfl ?_
      refine am_leaf hQ ?_
      simp_all [S_two, ob]
  · refine ex_in (c0 := kc_X12_two) rfl (L := [some (.int (-5)), some (.int a), some (.int b)]) rfl ?_
    refine ev_iload rfl rfl ?_
    refine ev_tswC (p2 := 98) rfl (by first | rfl | decide) rfl ?_
    refine ev_iload rfl rfl ?_
    refine ev_iload rfl rfl ?_
    refine ev_icmp_le (p2 := 107) rfl rfl (fun cnd100 => ?_) (fun cnd100 => ?_)
    · skip
      refine ev_iconst (x := 0) rfl rfl ?_
      refine ev_iret rfl ?_
      refine am_leaf hQ ?_
      simp_all [S_two, ob]
    · skip
      refine ev_iconst (x := 1) rfl rfl ?_
      refine ev_goto (p2 := 108) rfl rfl ?_
      refine ev_iret rfl ?_
      refine am_leaf hQ ?_
      simp_all [S_two, ob]
  · refine ex_in (c0 := kc_X12_two) rfl (L := [some (.int (-6)), some (.int a), some (.int b)]) rfl ?_
    refine ev_iload rfl rfl ?_
    refine ev_tswC (p2 := 109) rfl (by first | rfl | decide) rfl ?_
    refine ev_iload rfl rfl ?_
    refine ev_iload rfl rfl ?_
    refine ev_iadd rfl ?_
    refine ev_iret rfl ?_
    refine am_leaf hQ ?_
    simp_all [S_two, ob]
  · refine ex_in (c0 := kc_X12_two) rfl (L := [some (.int (-7)), some (.int a), some (.int b)]) rfl ?_
    refine ev_iload rfl rfl ?_
    refine ev_tswC (p2 := 113) rfl (by first | rfl | decide) rfl ?_
    refine ev_iload rfl rfl ?_
    refine ev_iload rfl rfl ?_
    refine ev_isub rfl ?_
    refine ev_iret rfl ?_
    refine am_leaf hQ ?_
    simp_all [S_two, ob]
  · refine ex_in (c0 := kc_X12_two) rfl (L := [some (.int (-8)), some (.int a), some (.int b)]) rfl ?_
    refine ev_iload rfl rfl ?_
    refine ev_tswC (p2 := 117) rfl (by first | rfl | decide) rfl ?_
    refine ev_iload rfl rfl ?_
    refine ev_iload rfl rfl ?_
    refine ev_imul rfl ?_
    refine ev_iret rfl ?_
    refine am_leaf hQ ?_
    simp_all [S_two, ob]
  · refine ex_in (c0 := kc_X12_two) rfl (L := [some (.int (-9)), some (.int a), some (.int b)]) rfl ?_
    refine ev_iload rfl rfl ?_
    refine ev_tswC (p2 := 121) rfl (by first | rfl | decide) rfl ?_
    refine ev_iload rfl rfl ?_
    refine ev_if_ne (p2 := 129) rfl rfl (fun cnd122 => ?_) (fun cnd122 => ?_)
    · skip
      refine ev_iload rfl rfl ?_
      refine ev_iload rfl rfl ?_
      refine ev_idiv rfl ?_
      refine ev_iret rfl ?_
      refine am_leaf hQ ?_
      simp_all [S_two, ob]
    · skip
      refine ev_iconst (x := 0) rfl rfl ?_
      refine ev_goto (p2 := 132) rfl rfl ?_
      refine ev_iret rfl ?_
      refine am_leaf hQ ?_
      simp_all [S_two, ob]
end
section
/-! the reference: what a text works out to -/
/-- a stack of numbers lies in an array from its bottom up -/
def stkAt (g : am_R) : List Int32 → Prop
  | [] => True
  | a :: r => g r.length = a ∧ stkAt g r
theorem stkAt_up {g : am_R} {i : Nat} {x : Int32} : ∀ {st : List Int32}, stkAt g st → st.length ≤ i → stkAt (upd g i x) st
  | [], _, _ => trivial
  | a :: r, h, hi => by
    have hl : r.length + 1 ≤ i := hi
    refine ⟨?_, stkAt_up h.2 (by omega)⟩
    unfold upd
    rw [if_neg (by omega)]
    exact h.1
theorem stkAt_set {g : am_R} {x : Int32} {st : List Int32} (h : stkAt g st) : stkAt (upd g st.length x) (x :: st) := by
  refine ⟨?_, stkAt_up h (Nat.le_refl _)⟩
  unfold upd
  rw [if_pos rfl]
theorem stkAt_mem {mem : am_M} {q m : Nat} {x : Int32} {st : List Int32} (h : stkAt (mem q) st) (hm : st.length = m) : stkAt (am_up mem q m x q) (x :: st) := by
  subst hm
  unfold am_up
  rw [if_pos rfl]
  exact stkAt_set h
theorem am_up_ne {mem : am_M} {q m p : Nat} {x : Int32} (h : p ≠ q) : am_up mem q m x p = mem p := by
  unfold am_up
  rw [if_neg h]
theorem nI_inc1 (k : Nat) : nI k + Int32.ofInt 1 = nI (k + 1) := nI_add k 1
theorem nI_dec1 (k : Nat) : nI (k + 1) + Int32.ofInt (-1) = nI k := by
  rw [← nI_pred k, Int32.sub_eq_add_neg]; exact congrArg (nI (k + 1) + ·) (by decide)
theorem nI_pre1 (k : Nat) : nI (k + 1) - nI 1 = nI k := nI_pred k
def S_dp (v : Int32) (m : Nat) : Nat := if v < 0 then (if v = -10 then m else m - 1) else m + 1
def S_stp (F : am_R) (v : Int32) (st : List Int32) : List Int32 := if v < 0 then (if v = -10 then (match st with | a :: r => ob (decide (a = 0)) :: r | [] => []) else (match st with | b :: a :: r => S_two v a b :: r | _ => [])) else (if nI 10000 ≤ v then F (nn v - 10000) else v) :: st
def wfA (nm : Nat) (v : Int32) (m : Nat) : Prop := (isN v (10000 + nm) ∧ m < 96) ∨ (v = -10 ∧ 1 ≤ m) ∨ ((v = -1 ∨ v = -2 ∨ v = -3 ∨ v = -4 ∨ v = -5 ∨ v = -6 ∨ v = -7 ∨ v = -8 ∨ v = -9) ∧ 2 ≤ m)
/-- the atoms from k on, r of them, over a stack -/
def S_go (R F : am_R) (t : Nat) : Nat → Nat → List Int32 → List Int32
  | 0, _, st => st
  | r + 1, k, st => S_go R F t r (k + 1) (S_stp F (R (217 + 96 * t + k)) st)
def wfG (R : am_R) (nm t : Nat) : Nat → Nat → Nat → Prop
  | 0, _, m => m = 1
  | r + 1, k, m => wfA nm (R (217 + 96 * t + k)) m ∧ wfG R nm t r (k + 1) (S_dp (R (217 + 96 * t + k)) m)
/-- a text is well formed -/
def wfT (R : am_R) (t : Nat) : Prop := isN (R (189 + 2 * t)) 4000 ∧ S_num R t ≤ 96 ∧ wfG R (if S_key R t < 2 then 3 else 2) t (S_num R t) 0 0
def S_val (R F : am_R) (t : Nat) : Int32 := (S_go R F t (S_num R t) 0 []).headD 0
theorem S_stp_F {F G : am_R} {nm m : Nat} {v : Int32} {st : List Int32} (hF : ∀ i, i < nm → F i = G i) (h : wfA nm v m) : S_stp F v st = S_stp G v st := by
  unfold S_stp
  by_cases h0 : v < 0
  · rw [if_pos h0, if_pos h0]
  · rw [if_neg h0, if_neg h0]
    by_cases h1 : nI 10000 ≤ v
    · rw [if_pos h1, if_pos h1]
      rcases h with ⟨⟨e1, g1⟩, -⟩ | ⟨rfl, -⟩ | ⟨hs, -⟩
      · have hz : nn v < 2 ^ 31 := by show v.toInt.toNat < 2 ^ 31; have := v.toInt_lt; omega
        rw [e1, nI_leI (by decide) hz] at h1
        rw [hF _ (by omega)]
      · exact absurd (by decide) h0
      · exact absurd (by rcases hs with rfl | rfl | rfl | rfl | rfl | rfl | rfl | rfl | rfl <;> decide) h0
    · rw [if_neg h1, if_neg h1]
theorem S_go_F {R F G : am_R} {nm t : Nat} (hF : ∀ i, i < nm → F i = G i) : ∀ {r k m : Nat} {st : List Int32}, wfG R nm t r k m → S_go R F t r k st = S_go R G t r k st
  | 0, _, _, _, _ => rfl
  | r + 1, k, m, st, h => by
    unfold S_go
    rw [S_stp_F hF h.1]
    exact S_go_F hF h.2
theorem S_val_F {R F G : am_R} {t : Nat} (h : wfT R t) (hF : ∀ i, i < (if S_key R t < 2 then 3 else 2) → F i = G i) : S_val R F t = S_val R G t := by
  unfold S_val
  rw [S_go_F hF h.2.2]
def S_F (a b c : Int32) : am_R := fun i => if i = 0 then a else if i = 1 then b else c
def wfTs (R : am_R) : Prop := ∀ t, t < nn (R 6) → wfT R t
theorem wfTs_H {R : am_R} (h : wfTs R) : wfH R := fun t ht => (h t ht).1
theorem S_cnt_key {R : am_R} {key : Nat} : ∀ {k t : Nat}, S_cnt R key k = some t → S_key R t = key
  | k + 1, t, h => by
    unfold S_cnt at h
    split at h
    · cases h; assumption
    · exact S_cnt_key h
theorem l_X12_worksOut {d n : Nat} {mem : am_M} {Q : am_P} (R F : am_R) (nm t num : Nat) (ht : t < 14) (hnum : num ≤ 96) (r k m : Nat) (st : List Int32) (hkr : k + r = num) (hm96 : m ≤ 96) (hm : st.length = m) (hs : stkAt (mem 232) st) (hR : mem 222 = R) (hF : mem 233 = F) (hnm : nm ≤ 4) (hwf : wfG R nm t r k m) (x : Option Value) (hQ : ∀ m2 : am_M, (∀ q, q ≠ 232 → m2 q = mem q) → Q (some (.int ((S_go R F t r k st).headD 0))) (am_SK n) m2) : am_ev kc_X12_worksOut (d + 2) 22 [some (.ref 221), some (.int (nI t)), some (.int (nI m)), some (.int (nI num)), some (.int (nI k)), x] [] (am_SK n) mem Q := by
  induction r generalizing k m st mem x with
  | zero =>
    have hkn : k = num := by omega
    subst hkn
    have hm1 : m = 1 := hwf
    subst hm1
    obtain ⟨a, rfl⟩ : ∃ a, st = [a] := by
      match st, hm with
      | [a], _ => exact ⟨a, rfl⟩
    have h0 : mem 232 0 = a := hs.1
    refine ev_iload rfl rfl ?_
    refine ev_iload rfl rfl ?_
    refine ev_icmp_ge (p2 := 157) rfl rfl (fun cnd25 => ?_) (fun cnd25 => ?_)
    · skip
      refine ev_aload rfl rfl ?_
      refine ev_getR (c := 12) (j := 21) rfl ?_ (hq := k_221 n)
      refine ev_iconst (x := nI 0) rfl rfl ?_
      refine ev_ialdN rfl (m := 0) (rfl) ?_ (hq := k_232 n)
      refine ev_iret rfl ?_
      rw [h0]
      exact hQ _ (fun _ _ => rfl)
    · exact absurd (Int32.le_refl _) cnd25
  | succ r ih =>
    obtain ⟨ha, hw2⟩ := hwf
    unfold S_go at hQ
    refine ev_iload rfl rfl ?_
    refine ev_iload rfl rfl ?_
    refine ev_icmp_ge (p2 := 157) rfl rfl (fun cnd25 => ?_) (fun cnd25 => ?_)
    · exact absurd ((nI_leI (by omega) (by omega)).mp cnd25) (by omega)
    · skip
      refine ev_aload rfl rfl ?_
      refine ev_getR (c := 12) (j := 0) rfl ?_ (hq := k_221 n)
      refine ev_iconst (x := nI 217) rfl rfl ?_
      refine ev_iconst (x := nI 96) rfl rfl ?_
      refine ev_iload rfl rfl ?_
      refine ev_imul rfl ?_
      refine ev_iadd rfl ?_
      refine ev_iload rfl rfl ?_
      refine ev_iadd rfl ?_
      refine ev_ialdN rfl (m := 217 + 96 * t + k) (by simp only [nI_add, pk_mul]) ?_ (hq := k_222 n)
      rw [hR]
      refine ev_istore rfl rfl (Nat.le_of_ble_eq_true rfl) ?_
      generalize R (217 + 96 * t + k) = v at ha hw2 hQ ⊢
      rcases ha with ⟨ha1, hm2⟩ | ha2 | ha3
      · obtain ⟨e1, g1⟩ := ha1
        generalize hav : nn v = a at e1 g1
        subst e1
        have hnl : ¬ nI a < 0 := nI_pos (by omega)
        unfold S_dp at hw2
        unfold S_stp at hQ
        rw [if_neg hnl] at hw2 hQ
        rw [hav] at hQ
        refine ev_iload rfl rfl ?_
        refine ev_if_lt (p2 := 87) rfl rfl (fun cnd48 => ?_) (fun cnd48 => ?_)
        · exact absurd cnd48 hnl
        · skip
          refine ev_aload rfl rfl ?_
          refine ev_getR (c := 12) (j := 21) rfl ?_ (hq := k_221 n)
          refine ev_iload rfl rfl ?_
          refine ev_iload rfl rfl ?_
          refine ev_iconst (x := nI 10000) rfl rfl ?_
          refine ev_icmp_ge (p2 := 69) rfl rfl (fun cnd61 => ?_) (fun cnd61 => ?_)
          · skip
            refine ev_aload rfl rfl ?_
            refine ev_getR (c := 12) (j := 22) rfl ?_ (hq := k_221 n)
            refine ev_iload rfl rfl ?_
            refine ev_iconst (x := nI 10000) rfl rfl ?_
            refine ev_isub rfl ?_
            rw [pk_sub ((nI_leI (by decide) (by omega)).mp cnd61)]
            rw [if_pos cnd61] at hQ
            refine ev_ialdN rfl (m := a - 10000) (rfl) ?_ (hq := k_233 n)
            try rw [hF]
            refine ev_iastN rfl (m := m) (rfl) ?_ (hq := k_232 n)
            refine ev_iinc rfl rfl rfl rfl ?_
            refine ev_goto (p2 := 151) rfl rfl ?_
            refine ev_iinc rfl rfl rfl rfl ?_
            refine ev_goto (p2 := 22) rfl rfl ?_
            change am_ev _ _ _ [some (.ref 221), some (.int (nI t)), some (.int (nI m + Int32.ofInt 1)), some (.int (nI num)), some (.int (nI k + Int32.ofInt 1)), some (.int (nI a))] _ _ _ _
            rw [nI_inc1, nI_inc1]
            refine ih _ _ (F (a - 10000) :: st) ?_ ?_ ?_ ?_ ?_ ?_ ?_ _ (fun m2 h2 => ?_)
            · omega
            · omega
            · exact (by rw [List.length_cons, hm])
            · exact (stkAt_mem hs hm)
            · exact (am_up_ne (by decide)).trans hR
            · exact (am_up_ne (by decide)).trans hF
            · exact hw2
            refine hQ m2 (fun q hq => ?_)
            rw [h2 q hq, am_up_ne hq]
          · skip
            refine ev_iload rfl rfl ?_
            refine ev_goto (p2 := 80) rfl rfl ?_
            try rw [hF]
            refine ev_iastN rfl (m := m) (rfl) ?_ (hq := k_232 n)
            refine ev_iinc rfl rfl rfl rfl ?_
            refine ev_goto (p2 := 151) rfl rfl ?_
            refine ev_iinc rfl rfl rfl rfl ?_
            refine ev_goto (p2 := 22) rfl rfl ?_
            rw [if_neg cnd61] at hQ
            change am_ev _ _ _ [some (.ref 221), some (.int (nI t)), some (.int (nI m + Int32.ofInt 1)), some (.int (nI num)), some (.int (nI k + Int32.ofInt 1)), some (.int (nI a))] _ _ _ _
            rw [nI_inc1, nI_inc1]
            refine ih _ _ (nI a :: st) ?_ ?_ ?_ ?_ ?_ ?_ ?_ _ (fun m2 h2 => ?_)
            · omega
            · omega
            · exact (by rw [List.length_cons, hm])
            · exact (stkAt_mem hs hm)
            · exact (am_up_ne (by decide)).trans hR
            · exact (am_up_ne (by decide)).trans hF
            · exact hw2
            refine hQ m2 (fun q hq => ?_)
            rw [h2 q hq, am_up_ne hq]
      · obtain ⟨rfl, hm1⟩ := ha2
        obtain ⟨a, r2, rfl⟩ : ∃ a r2, st = a :: r2 := by
          match st, hm with
          | [], h => exact absurd h (by simp only [List.length_nil]; omega)
          | a :: r2, _ => exact ⟨a, r2, rfl⟩
        obtain rfl : m = r2.length + 1 := hm.symm
        have hsa : mem 232 r2.length = a := hs.1
        unfold S_dp at hw2
        unfold S_stp at hQ
        rw [if_pos (by decide), if_pos rfl] at hw2 hQ
        refine ev_iload rfl rfl ?_
        refine ev_if_lt (p2 := 87) rfl rfl (fun cnd48 => ?_) (fun cnd48 => ?_)
        · skip
          refine ev_iload rfl rfl ?_
          refine ev_iconst (x := (-10)) rfl rfl ?_
          refine ev_icmp_ne (p2 := 121) rfl rfl (fun cnd91 => ?_) (fun cnd91 => ?_)
          · exact absurd rfl cnd91
          · skip
            refine ev_aload rfl rfl ?_
            refine ev_getR (c := 12) (j := 21) rfl ?_ (hq := k_221 n)
            refine ev_iload rfl rfl ?_
            refine ev_iconst (x := nI 1) rfl rfl ?_
            refine ev_isub rfl ?_
            rw [nI_pre1]
            refine ev_aload rfl rfl ?_
            refine ev_getR (c := 12) (j := 21) rfl ?_ (hq := k_221 n)
            refine ev_iload rfl rfl ?_
            refine ev_iconst (x := nI 1) rfl rfl ?_
            refine ev_isub rfl ?_
            rw [nI_pre1]
            refine ev_ialdN rfl (m := r2.length) (rfl) ?_ (hq := k_232 n)
            rw [hsa]
            refine ev_if_ne (p2 := 116) rfl rfl (fun cnd109 => ?_) (fun cnd109 => ?_)
            · skip
              refine ev_iconst (x := nI 0) rfl rfl ?_
              refine ev_iastN rfl (m := r2.length) (rfl) ?_ (hq := k_232 n)
              refine ev_goto (p2 := 151) rfl rfl ?_
              refine ev_iinc rfl rfl rfl rfl ?_
              refine ev_goto (p2 := 22) rfl rfl ?_
              have ho : ob (decide (a = 0)) = nI 0 := by rw [decide_eq_false cnd109]; rfl
              simp only [ho] at hQ
              change am_ev _ _ _ [some (.ref 221), some (.int (nI t)), some (.int (nI (r2.length + 1))), some (.int (nI num)), some (.int (nI k + Int32.ofInt 1)), some (.int (-10))] _ _ _ _
              rw [nI_inc1]
              refine ih _ _ (nI 0 :: r2) ?_ ?_ ?_ ?_ ?_ ?_ ?_ _ (fun m2 h2 => ?_)
              · omega
              · omega
              · exact rfl
              · exact (stkAt_mem hs.2 rfl)
              · exact (am_up_ne (by decide)).trans hR
              · exact (am_up_ne (by decide)).trans hF
              · exact hw2
              refine hQ m2 (fun q hq => ?_)
              rw [h2 q hq, am_up_ne hq]
            · skip
              refine ev_iconst (x := nI 1) rfl rfl ?_
              refine ev_goto (p2 := 117) rfl rfl ?_
              refine ev_iastN rfl (m := r2.length) (rfl) ?_ (hq := k_232 n)
              refine ev_goto (p2 := 151) rfl rfl ?_
              refine ev_iinc rfl rfl rfl rfl ?_
              refine ev_goto (p2 := 22) rfl rfl ?_
              have ho : ob (decide (a = 0)) = nI 1 := by rw [decide_eq_true cnd109]; rfl
              simp only [ho] at hQ
              change am_ev _ _ _ [some (.ref 221), some (.int (nI t)), some (.int (nI (r2.length + 1))), some (.int (nI num)), some (.int (nI k + Int32.ofInt 1)), some (.int (-10))] _ _ _ _
              rw [nI_inc1]
              refine ih _ _ (nI 1 :: r2) ?_ ?_ ?_ ?_ ?_ ?_ ?_ _ (fun m2 h2 => ?_)
              · omega
              · omega
              · exact rfl
              · exact (stkAt_mem hs.2 rfl)
              · exact (am_up_ne (by decide)).trans hR
              · exact (am_up_ne (by decide)).trans hF
              · exact hw2
              refine hQ m2 (fun q hq => ?_)
              rw [h2 q hq, am_up_ne hq]
        · exact absurd (by decide) cnd48
      · obtain ⟨hsg, hm1⟩ := ha3
        have hv0 : v < 0 := by rcases hsg with rfl | rfl | rfl | rfl | rfl | rfl | rfl | rfl | rfl <;> decide
        have hv10 : ¬ v = -10 := by rcases hsg with rfl | rfl | rfl | rfl | rfl | rfl | rfl | rfl | rfl <;> decide
        obtain ⟨b, a, r2, rfl⟩ : ∃ b a r2, st = b :: a :: r2 := by
          match st, hm with
          | [], h => exact absurd h (by simp only [List.length_nil]; omega)
          | [_], h => exact absurd h (by simp only [List.length_cons, List.length_nil]; omega)
          | b :: a :: r2, _ => exact ⟨b, a, r2, rfl⟩
        obtain rfl : m = r2.length + 1 + 1 := hm.symm
        have hsb : mem 232 (r2.length + 1) = b := hs.1
        have hsa : mem 232 r2.length = a := hs.2.1
        unfold S_dp at hw2
        unfold S_stp at hQ
        rw [if_pos hv0, if_neg hv10] at hw2 hQ
        refine ev_iload rfl rfl ?_
        refine ev_if_lt (p2 := 87) rfl rfl (fun cnd48 => ?_) (fun cnd48 => ?_)
        · skip
          refine ev_iload rfl rfl ?_
          refine ev_iconst (x := (-10)) rfl rfl ?_
          refine ev_icmp_ne (p2 := 121) rfl rfl (fun cnd91 => ?_) (fun cnd91 => ?_)
          · skip
            refine ev_iinc rfl rfl rfl rfl ?_
            change am_ev _ _ _ [some (.ref 221), some (.int (nI t)), some (.int (nI (r2.length + 1 + 1) + Int32.ofInt (-1))), some (.int (nI num)), some (.int (nI k)), some (.int (v))] _ _ _ _
            rw [nI_dec1]
            refine ev_aload rfl rfl ?_
            refine ev_getR (c := 12) (j := 21) rfl ?_ (hq := k_221 n)
            refine ev_iload rfl rfl ?_
            refine ev_iconst (x := nI 1) rfl rfl ?_
            refine ev_isub rfl ?_
            rw [nI_pre1]
            refine ev_iload rfl rfl ?_
            refine ev_aload rfl rfl ?_
            refine ev_getR (c := 12) (j := 21) rfl ?_ (hq := k_221 n)
            refine ev_iload rfl rfl ?_
            refine ev_iconst (x := nI 1) rfl rfl ?_
            refine ev_isub rfl ?_
            rw [nI_pre1]
            refine ev_ialdN rfl (m := r2.length) (rfl) ?_ (hq := k_232 n)
            rw [hsa]
            refine ev_aload rfl rfl ?_
            refine ev_getR (c := 12) (j := 21) rfl ?_ (hq := k_221 n)
            refine ev_iload rfl rfl ?_
            refine ev_ialdN rfl (m := r2.length + 1) (rfl) ?_ (hq := k_232 n)
            rw [hsb]
            refine ev_call rfl rfl ?_
            refine c_X12_two v a b hsg ?_
            change am_ev _ _ _ _ (_ :: _) _ _ _
            refine ev_iastN rfl (m := r2.length) (rfl) ?_ (hq := k_232 n)
            refine ev_iinc rfl rfl rfl rfl ?_
            refine ev_goto (p2 := 22) rfl rfl ?_
            change am_ev _ _ _ [some (.ref 221), some (.int (nI t)), some (.int (nI (r2.length + 1))), some (.int (nI num)), some (.int (nI k + Int32.ofInt 1)), some (.int (v))] _ _ _ _
            rw [nI_inc1]
            refine ih _ _ (S_two v a b :: r2) ?_ ?_ ?_ ?_ ?_ ?_ ?_ _ (fun m2 h2 => ?_)
            · omega
            · omega
            · exact rfl
            · exact (stkAt_mem hs.2.2 rfl)
            · exact (am_up_ne (by decide)).trans hR
            · exact (am_up_ne (by decide)).trans hF
            · exact hw2
            refine hQ m2 (fun q hq => ?_)
            rw [h2 q hq, am_up_ne hq]
          · exact absurd cnd91 hv10
        · exact absurd hv0 cnd48
theorem c_X12_worksOut {d n : Nat} {mem : am_M} {Q : am_P} (t : Nat) (ht : t < 14) (hwf : wfT (mem 222) t) (hQ : ∀ m2 : am_M, (∀ q, q ≠ 232 → m2 q = mem q) → Q (some (.int (S_val (mem 222) (mem 233) t))) (am_SK n) m2) : am_ex (d + 3) 201 [.ref 221, .int (nI t)] (am_SK n) mem Q := by
  obtain ⟨⟨e1, g1⟩, hnum, hg⟩ := hwf
  unfold S_val at hQ
  unfold S_num at hnum hg hQ
  refine ex_in (c0 := kc_X12_worksOut) rfl (L := [some (.ref 221), some (.int (nI t)), none, none, none, none]) rfl ?_
  refine ev_iconst (x := nI 0) rfl rfl ?_
  refine ev_istore rfl rfl (Nat.le_of_ble_eq_true rfl) ?_
  refine ev_aload rfl rfl ?_
  refine ev_getR (c := 12) (j := 0) rfl ?_ (hq := k_221 n)
  refine ev_iconst (x := nI 189) rfl rfl ?_
  refine ev_iconst (x := nI 2) rfl rfl ?_
  refine ev_iload rfl rfl ?_
  refine ev_imul rfl ?_
  refine ev_iadd rfl ?_
  refine ev_ialdN rfl (m := 189 + 2 * t) (by simp only [nI_add, pk_mul]) ?_ (hq := k_222 n)
  rw [e1]
  refine ev_iconst (x := nI 1000) rfl rfl ?_
  refine ev_irem rfl ?_
  rw [pk_rem (by omega) (by decide) (by decide)]
  refine ev_istore rfl rfl (Nat.le_of_ble_eq_true rfl) ?_
  refine ev_iconst (x := nI 0) rfl rfl ?_
  refine ev_istore rfl rfl (Nat.le_of_ble_eq_true rfl) ?_
  exact l_X12_worksOut (mem 222) (mem 233) _ t _ ht hnum _ 0 0 [] (Nat.zero_add _) (by decide) rfl trivial rfl rfl (by split <;> decide) hg _ hQ
end
section
/-! the reference: dimming, lives -/
theorem c_worksOutG {d n : Nat} {mem : am_M} {Q : am_P} {R G : am_R} (hR : mem 222 = R) (t : Nat) (ht : t < 14) (hwf : wfT R t) (hF : ∀ i, i < (if S_key R t < 2 then 3 else 2) → mem 233 i = G i) (hQ : ∀ m2 : am_M, (∀ q, q ≠ 232 → m2 q = mem q) → Q (some (.int (S_val R G t))) (am_SK n) m2) : am_ex (d + 3) 201 [.ref 221, .int (nI t)] (am_SK n) mem Q := by
  subst hR
  refine c_X12_worksOut t ht hwf (fun m2 h2 => ?_)
  rw [S_val_F hwf hF]
  exact hQ m2 h2
def S_clp (v a b : Int32) : Int32 := if v < a then a else if b < v then b else v
def S_dim (R : am_R) (x : Int32) : Int32 := match S_cnt R 0 (nn (R 6)) with
  | none => if nI 5 ≤ R 0 then nI 100 else nI 50
  | some t => S_clp (S_val R (S_F (R 0) (R 1) x) t) (nI 0) (nI 100)
def S_life (R : am_R) (l : Nat) : Int32 := match S_cnt R 1 (nn (R 6)) with
  | none => nI 4000
  | some t => S_clp (S_val R (S_F (R (77 + 7 * l)) (R (77 + 7 * l + 2)) (R (77 + 7 * l + 3))) t) (nI 1) (nI 30000)
theorem c_X12_dimBy {d n : Nat} {mem : am_M} {Q : am_P} (hw : wfR (mem 222)) (hT : wfTs (mem 222)) (x : Int32) (hQ : ∀ m2 : am_M, (∀ q, q ≠ 232 → q ≠ 233 → m2 q = mem q) → Q (some (.int (S_dim (mem 222) x))) (am_SK n) m2) : am_ex (d + 4) 159 [.ref 221, .int x] (am_SK n) mem Q := by
  have hr6 : nn (mem 222 6) < 15 := hw.2.1.2.2.2.1.2
  unfold S_dim at hQ
  refine ex_in (c0 := kc_X12_dimBy) rfl (L := [some (.ref 221), some (.int x), none]) rfl ?_
  cases ho : S_cnt (mem 222) 0 (nn (mem 222 6)) with
  | none =>
    simp only [ho] at hQ
    refine ev_aload rfl rfl ?_
    refine ev_iconst (x := nI 0) rfl rfl ?_
    refine ev_call rfl rfl ?_
    refine c_X12_counts hw (wfTs_H hT) 0 (by decide) ?_
    rw [ho]
    change am_ev _ _ _ _ (_ :: _) _ _ _
    refine ev_istore rfl rfl (Nat.le_of_ble_eq_true rfl) ?_
    refine ev_aload rfl rfl ?_
    refine ev_getR (c := 12) (j := 22) rfl ?_ (hq := k_221 n)
    refine ev_iconst (x := nI 0) rfl rfl ?_
    refine ev_aload rfl rfl ?_
    refine ev_getR (c := 12) (j := 0) rfl ?_ (hq := k_221 n)
    refine ev_iconst (x := nI 0) rfl rfl ?_
    refine ev_ialdN rfl (m := 0) (rfl) ?_ (hq := k_222 n)
    refine ev_iastN rfl (m := 0) (rfl) ?_ (hq := k_233 n)
    refine ev_aload rfl rfl ?_
    refine ev_getR (c := 12) (j := 22) rfl ?_ (hq := k_221 n)
    refine ev_iconst (x := nI 1) rfl rfl ?_
    refine ev_aload rfl rfl ?_
    refine ev_getR (c := 12) (j := 0) rfl ?_ (hq := k_221 n)
    refine ev_iconst (x := nI 1) rfl rfl ?_
    refine ev_ialdN rfl (m := 1) (rfl) ?_ (hq := k_222 n)
    refine ev_iastN rfl (m := 1) (rfl) ?_ (hq := k_233 n)
    refine ev_aload rfl rfl ?_
    refine ev_getR (c := 12) (j := 22) rfl ?_ (hq := k_221 n)
    refine ev_iconst (x := nI 2) rfl rfl ?_
    refine ev_iload rfl rfl ?_
    refine ev_iastN rfl (m := 2) (rfl) ?_ (hq := k_233 n)
    refine ev_iload rfl rfl ?_
    refine ev_if_ge (p2 := 61) rfl rfl (fun cnd38 => ?_) (fun cnd38 => ?_)
    · exact absurd cnd38 (by decide)
    · skip
      refine ev_aload rfl rfl ?_
      refine ev_getR (c := 12) (j := 0) rfl ?_ (hq := k_221 n)
      refine ev_iconst (x := nI 0) rfl rfl ?_
      refine ev_ialdN rfl (m := 0) (rfl) ?_ (hq := k_222 n)
      refine ev_iconst (x := nI 5) rfl rfl ?_
      refine ev_icmp_ge (p2 := 56) rfl rfl (fun cnd48 => ?_) (fun cnd48 => ?_)
      · skip
        refine ev_iconst (x := nI 100) rfl rfl ?_
        refine ev_goto (p2 := 72) rfl rfl ?_
        refine ev_iret rfl ?_
        first
          | (rw [if_pos (show nI 5 ≤ mem 222 0 from cnd48)] at hQ; refine hQ _ (fun q h1 h3 => ?_); rw [am_up_ne h3, am_up_ne h3, am_up_ne h3])
          | (rw [if_neg (show ¬ nI 5 ≤ mem 222 0 from cnd48)] at hQ; refine hQ _ (fun q h1 h3 => ?_); rw [am_up_ne h3, am_up_ne h3, am_up_ne h3])
      · skip
        refine ev_iconst (x := nI 50) rfl rfl ?_
        refine ev_goto (p2 := 72) rfl rfl ?_
        refine ev_iret rfl ?_
        first
          | (rw [if_pos (show nI 5 ≤ mem 222 0 from cnd48)] at hQ; refine hQ _ (fun q h1 h3 => ?_); rw [am_up_ne h3, am_up_ne h3, am_up_ne h3])
          | (rw [if_neg (show ¬ nI 5 ≤ mem 222 0 from cnd48)] at hQ; refine hQ _ (fun q h1 h3 => ?_); rw [am_up_ne h3, am_up_ne h3, am_up_ne h3])
  | some t =>
    simp only [ho] at hQ
    have ht := S_cnt_lt ho
    have hk := S_cnt_key ho
    have ht14 : t < 14 := by omega
    have hwt : wfT (mem 222) t := hT t ht
    refine ev_aload rfl rfl ?_
    refine ev_iconst (x := nI 0) rfl rfl ?_
    refine ev_call rfl rfl ?_
    refine c_X12_counts hw (wfTs_H hT) 0 (by decide) ?_
    rw [ho]
    change am_ev _ _ _ _ (_ :: _) _ _ _
    refine ev_istore rfl rfl (Nat.le_of_ble_eq_true rfl) ?_
    refine ev_aload rfl rfl ?_
    refine ev_getR (c := 12) (j := 22) rfl ?_ (hq := k_221 n)
    refine ev_iconst (x := nI 0) rfl rfl ?_
    refine ev_aload rfl rfl ?_
    refine ev_getR (c := 12) (j := 0) rfl ?_ (hq := k_221 n)
    refine ev_iconst (x := nI 0) rfl rfl ?_
    refine ev_ialdN rfl (m := 0) (rfl) ?_ (hq := k_222 n)
    refine ev_iastN rfl (m := 0) (rfl) ?_ (hq := k_233 n)
    refine ev_aload rfl rfl ?_
    refine ev_getR (c := 12) (j := 22) rfl ?_ (hq := k_221 n)
    refine ev_iconst (x := nI 1) rfl rfl ?_
    refine ev_aload rfl rfl ?_
    refine ev_getR (c := 12) (j := 0) rfl ?_ (hq := k_221 n)
    refine ev_iconst (x := nI 1) rfl rfl ?_
    refine ev_ialdN rfl (m := 1) (rfl) ?_ (hq := k_222 n)
    refine ev_iastN rfl (m := 1) (rfl) ?_ (hq := k_233 n)
    refine ev_aload rfl rfl ?_
    refine ev_getR (c := 12) (j := 22) rfl ?_ (hq := k_221 n)
    refine ev_iconst (x := nI 2) rfl rfl ?_
    refine ev_iload rfl rfl ?_
    refine ev_iastN rfl (m := 2) (rfl) ?_ (hq := k_233 n)
    refine ev_iload rfl rfl ?_
    refine ev_if_ge (p2 := 61) rfl rfl (fun cnd38 => ?_) (fun cnd38 => ?_)
    · skip
      refine ev_aload rfl rfl ?_
      refine ev_iload rfl rfl ?_
      refine ev_call rfl rfl ?_
      refine c_worksOutG (R := mem 222) (G := S_F (mem 222 0) (mem 222 1) x) ?_ t ht14 hwt ?_ (fun m2 h2 => ?_)
      · rfl
      · rw [hk]; intro i hi; match i, hi with | 0, _ => rfl | 1, _ => rfl | 2, _ => rfl
      change am_ev _ _ _ _ (_ :: _) _ _ _
      refine ev_iconst (x := nI 0) rfl rfl ?_
      refine ev_iconst (x := nI 100) rfl rfl ?_
      refine ev_call rfl rfl ?_
      refine c_X12_within _ _ _ ?_
      change am_ev _ _ _ _ (_ :: _) _ _ _
      refine ev_iret rfl ?_
      refine hQ _ (fun q h1 h3 => ?_)
      rw [h2 q h1, am_up_ne h3, am_up_ne h3, am_up_ne h3]
    · exact absurd (nI_pos' (by omega)) cnd38
theorem c_X12_lifeOf {d n : Nat} {mem : am_M} {Q : am_P} (hw : wfR (mem 222)) (hT : wfTs (mem 222)) (l : Nat) (hl : l < 16) (hQ : ∀ m2 : am_M, (∀ q, q ≠ 232 → q ≠ 233 → m2 q = mem q) → Q (some (.int (S_life (mem 222) l))) (am_SK n) m2) : am_ex (d + 4) 162 [.ref 221, .int (nI l)] (am_SK n) mem Q := by
  have hr6 : nn (mem 222 6) < 15 := hw.2.1.2.2.2.1.2
  unfold S_life at hQ
  refine ex_in (c0 := kc_X12_lifeOf) rfl (L := [some (.ref 221), some (.int (nI l)), none]) rfl ?_
  cases ho : S_cnt (mem 222) 1 (nn (mem 222 6)) with
  | none =>
    simp only [ho] at hQ
    refine ev_aload rfl rfl ?_
    refine ev_iconst (x := nI 1) rfl rfl ?_
    refine ev_call rfl rfl ?_
    refine c_X12_counts hw (wfTs_H hT) 1 (by decide) ?_
    rw [ho]
    change am_ev _ _ _ _ (_ :: _) _ _ _
    refine ev_istore rfl rfl (Nat.le_of_ble_eq_true rfl) ?_
    refine ev_aload rfl rfl ?_
    refine ev_getR (c := 12) (j := 22) rfl ?_ (hq := k_221 n)
    refine ev_iconst (x := nI 0) rfl rfl ?_
    refine ev_aload rfl rfl ?_
    refine ev_iload rfl rfl ?_
    refine ev_iconst (x := nI 0) rfl rfl ?_
    refine ev_call rfl rfl ?_
    refine c_X12_lamp7 (a := l) (w := 0) (by omega) ?_
    change am_ev _ _ _ _ (_ :: _) _ _ _
    refine ev_iastN rfl (m := 0) (rfl) ?_ (hq := k_233 n)
    refine ev_aload rfl rfl ?_
    refine ev_getR (c := 12) (j := 22) rfl ?_ (hq := k_221 n)
    refine ev_iconst (x := nI 1) rfl rfl ?_
    refine ev_aload rfl rfl ?_
    refine ev_iload rfl rfl ?_
    refine ev_iconst (x := nI 2) rfl rfl ?_
    refine ev_call rfl rfl ?_
    refine c_X12_lamp7 (a := l) (w := 2) (by omega) ?_
    change am_ev _ _ _ _ (_ :: _) _ _ _
    refine ev_iastN rfl (m := 1) (rfl) ?_ (hq := k_233 n)
    refine ev_aload rfl rfl ?_
    refine ev_getR (c := 12) (j := 22) rfl ?_ (hq := k_221 n)
    refine ev_iconst (x := nI 2) rfl rfl ?_
    refine ev_aload rfl rfl ?_
    refine ev_iload rfl rfl ?_
    refine ev_iconst (x := nI 3) rfl rfl ?_
    refine ev_call rfl rfl ?_
    refine c_X12_lamp7 (a := l) (w := 3) (by omega) ?_
    change am_ev _ _ _ _ (_ :: _) _ _ _
    refine ev_iastN rfl (m := 2) (rfl) ?_ (hq := k_233 n)
    refine ev_iload rfl rfl ?_
    refine ev_if_ge (p2 := 52) rfl rfl (fun cnd43 => ?_) (fun cnd43 => ?_)
    · exact absurd cnd43 (by decide)
    · skip
      refine ev_iconst (x := nI 4000) rfl rfl ?_
      refine ev_goto (p2 := 64) rfl rfl ?_
      refine ev_iret rfl ?_
      refine hQ _ (fun q h1 h3 => ?_)
      rw [am_up_ne h3, am_up_ne h3, am_up_ne h3]
  | some t =>
    simp only [ho] at hQ
    have ht := S_cnt_lt ho
    have hk := S_cnt_key ho
    have ht14 : t < 14 := by omega
    have hwt : wfT (mem 222) t := hT t ht
    refine ev_aload rfl rfl ?_
    refine ev_iconst (x := nI 1) rfl rfl ?_
    refine ev_call rfl rfl ?_
    refine c_X12_counts hw (wfTs_H hT) 1 (by decide) ?_
    rw [ho]
    change am_ev _ _ _ _ (_ :: _) _ _ _
    refine ev_istore rfl rfl (Nat.le_of_ble_eq_true rfl) ?_
    refine ev_aload rfl rfl ?_
    refine ev_getR (c := 12) (j := 22) rfl ?_ (hq := k_221 n)
    refine ev_iconst (x := nI 0) rfl rfl ?_
    refine ev_aload rfl rfl ?_
    refine ev_iload rfl rfl ?_
    refine ev_iconst (x := nI 0) rfl rfl ?_
    refine ev_call rfl rfl ?_
    refine c_X12_lamp7 (a := l) (w := 0) (by omega) ?_
    change am_ev _ _ _ _ (_ :: _) _ _ _
    refine ev_iastN rfl (m := 0) (rfl) ?_ (hq := k_233 n)
    refine ev_aload rfl rfl ?_
    refine ev_getR (c := 12) (j := 22) rfl ?_ (hq := k_221 n)
    refine ev_iconst (x := nI 1) rfl rfl ?_
    refine ev_aload rfl rfl ?_
    refine ev_iload rfl rfl ?_
    refine ev_iconst (x := nI 2) rfl rfl ?_
    refine ev_call rfl rfl ?_
    refine c_X12_lamp7 (a := l) (w := 2) (by omega) ?_
    change am_ev _ _ _ _ (_ :: _) _ _ _
    refine ev_iastN rfl (m := 1) (rfl) ?_ (hq := k_233 n)
    refine ev_aload rfl rfl ?_
    refine ev_getR (c := 12) (j := 22) rfl ?_ (hq := k_221 n)
    refine ev_iconst (x := nI 2) rfl rfl ?_
    refine ev_aload rfl rfl ?_
    refine ev_iload rfl rfl ?_
    refine ev_iconst (x := nI 3) rfl rfl ?_
    refine ev_call rfl rfl ?_
    refine c_X12_lamp7 (a := l) (w := 3) (by omega) ?_
    change am_ev _ _ _ _ (_ :: _) _ _ _
    refine ev_iastN rfl (m := 2) (rfl) ?_ (hq := k_233 n)
    refine ev_iload rfl rfl ?_
    refine ev_if_ge (p2 := 52) rfl rfl (fun cnd43 => ?_) (fun cnd43 => ?_)
    · skip
      refine ev_aload rfl rfl ?_
      refine ev_iload rfl rfl ?_
      refine ev_call rfl rfl ?_
      refine c_worksOutG (R := mem 222) (G := S_F (mem 222 (77 + 7 * l)) (mem 222 (77 + 7 * l + 2)) (mem 222 (77 + 7 * l + 3))) ?_ t ht14 hwt ?_ (fun m2 h2 => ?_)
      · rfl
      · rw [hk]; intro i hi; match i, hi with | 0, _ => rfl | 1, _ => rfl | 2, _ => rfl
      change am_ev _ _ _ _ (_ :: _) _ _ _
      refine ev_iconst (x := nI 1) rfl rfl ?_
      refine ev_iconst (x := nI 30000) rfl rfl ?_
      refine ev_call rfl rfl ?_
      refine c_X12_within _ _ _ ?_
      change am_ev _ _ _ _ (_ :: _) _ _ _
      refine ev_iret rfl ?_
      refine hQ _ (fun q h1 h3 => ?_)
      rw [h2 q h1, am_up_ne h3, am_up_ne h3, am_up_ne h3]
    · exact absurd (nI_pos' (by omega)) cnd43
end
section
/-! the reference: what a lamp draws -/
def S_drawK (R : am_R) (l : Nat) (p : Int32) : Nat → Int32
  | 1 => p * S_dim R (R (77 + 7 * l + 3)) / nI 100
  | 2 => p / nI 2
  | 3 => p * S_dim R (R (77 + 7 * l + 3)) / nI 100 - p * S_dim R (R (77 + 7 * l + 3)) / nI 100 / nI 3
  | 4 => nI 3 * (p / nI 2)
  | 5 => p + R (77 + 7 * l + 4) / nI 1000
  | _ => p
def S_draw (R : am_R) (l : Nat) : Int32 := S_drawK R l (R (77 + 7 * l + 2)) (nn (R (77 + 7 * l)))
theorem c_X12_draws {d n : Nat} {mem : am_M} {Q : am_P} (hw : wfR (mem 222)) (hT : wfTs (mem 222)) (l : Nat) (hl : l < nn (mem 222 5)) (hQ : ∀ m2 : am_M, (∀ q, q ≠ 232 → q ≠ 233 → m2 q = mem q) → Q (some (.int (S_draw (mem 222) l))) (am_SK n) m2) : am_ex (d + 5) 160 [.ref 221, .int (nI l)] (am_SK n) mem Q := by
  have hr5 : nn (mem 222 5) < 17 := hw.2.1.2.2.1.2
  obtain ⟨⟨e1, g1⟩, -⟩ := hw.2.2.2.2.1 l hl
  unfold S_draw at hQ
  generalize nn (mem 222 (77 + 7 * l)) = kd at e1 g1 hQ
  refine ex_in (c0 := kc_X12_draws) rfl (L := [some (.ref 221), some (.int (nI l)), none, none]) rfl ?_
  refine ev_aload rfl rfl ?_
  refine ev_iload rfl rfl ?_
  refine ev_iconst (x := nI 2) rfl rfl ?_
  refine ev_call rfl rfl ?_
  refine c_X12_lamp7 (a := l) (w := 2) (by omega) ?_
  change am_ev _ _ _ _ (_ :: _) _ _ _
  refine ev_istore rfl rfl (Nat.le_of_ble_eq_true rfl) ?_
  refine ev_aload rfl rfl ?_
  refine ev_iload rfl rfl ?_
  refine ev_iconst (x := nI 0) rfl rfl ?_
  refine ev_call rfl rfl ?_
  refine c_X12_lamp7 (a := l) (w := 0) (by omega) ?_
  rw [show mem 222 (77 + 7 * l + 0) = nI kd from e1]
  change am_ev _ _ _ _ (_ :: _) _ _ _
  rcases (show kd = 0 ∨ kd = 1 ∨ kd = 2 ∨ kd = 3 ∨ kd = 4 ∨ kd = 5 by omega) with rfl | rfl | rfl | rfl | rfl | rfl
  · refine ev_tswC (p2 := 109) rfl (by first | rfl | decide) rfl ?_
    refine ev_iload rfl rfl ?_
    refine ev_iret rfl ?_
    exact hQ mem (fun _ _ _ => rfl)
  · refine ev_tswC (p2 := 48) rfl (by first | rfl | decide) rfl ?_
    refine ev_iload rfl rfl ?_
    refine ev_aload rfl rfl ?_
    refine ev_aload rfl rfl ?_
    refine ev_iload rfl rfl ?_
    refine ev_iconst (x := nI 3) rfl rfl ?_
    refine ev_call rfl rfl ?_
    refine c_X12_lamp7 (a := l) (w := 3) (by omega) ?_
    change am_ev _ _ _ _ (_ :: _) _ _ _
    refine ev_call rfl rfl ?_
    refine c_X12_dimBy hw hT _ (fun m2 h2 => ?_)
    change am_ev _ _ _ _ (_ :: _) _ _ _
    refine ev_imul rfl ?_
    refine ev_iconst (x := nI 100) rfl rfl ?_
    refine ev_idiv rfl ?_
    refine ev_iret rfl ?_
    exact hQ m2 h2
  · refine ev_tswC (p2 := 64) rfl (by first | rfl | decide) rfl ?_
    refine ev_iload rfl rfl ?_
    refine ev_iconst (x := nI 2) rfl rfl ?_
    refine ev_idiv rfl ?_
    refine ev_iret rfl ?_
    exact hQ mem (fun _ _ _ => rfl)
  · refine ev_tswC (p2 := 68) rfl (by first | rfl | decide) rfl ?_
    refine ev_iload rfl rfl ?_
    refine ev_aload rfl rfl ?_
    refine ev_aload rfl rfl ?_
    refine ev_iload rfl rfl ?_
    refine ev_iconst (x := nI 3) rfl rfl ?_
    refine ev_call rfl rfl ?_
    refine c_X12_lamp7 (a := l) (w := 3) (by omega) ?_
    change am_ev _ _ _ _ (_ :: _) _ _ _
    refine ev_call rfl rfl ?_
    refine c_X12_dimBy hw hT _ (fun m2 h2 => ?_)
    change am_ev _ _ _ _ (_ :: _) _ _ _
    refine ev_imul rfl ?_
    refine ev_iconst (x := nI 100) rfl rfl ?_
    refine ev_idiv rfl ?_
    refine ev_istore rfl rfl (Nat.le_of_ble_eq_true rfl) ?_
    refine ev_iload rfl rfl ?_
    refine ev_iload rfl rfl ?_
    refine ev_iconst (x := nI 3) rfl rfl ?_
    refine ev_idiv rfl ?_
    refine ev_isub rfl ?_
    refine ev_iret rfl ?_
    exact hQ m2 h2
  · refine ev_tswC (p2 := 90) rfl (by first | rfl | decide) rfl ?_
    refine ev_iconst (x := nI 3) rfl rfl ?_
    refine ev_iload rfl rfl ?_
    refine ev_iconst (x := nI 2) rfl rfl ?_
    refine ev_idiv rfl ?_
    refine ev_imul rfl ?_
    refine ev_iret rfl ?_
    exact hQ mem (fun _ _ _ => rfl)
  · refine ev_tswC (p2 := 96) rfl (by first | rfl | decide) rfl ?_
    refine ev_iload rfl rfl ?_
    refine ev_aload rfl rfl ?_
    refine ev_iload rfl rfl ?_
    refine ev_iconst (x := nI 4) rfl rfl ?_
    refine ev_call rfl rfl ?_
    refine c_X12_lamp7 (a := l) (w := 4) (by omega) ?_
    change am_ev _ _ _ _ (_ :: _) _ _ _
    refine ev_iconst (x := nI 1000) rfl rfl ?_
    refine ev_idiv rfl ?_
    refine ev_iadd rfl ?_
    refine ev_iret rfl ?_
    exact hQ mem (fun _ _ _ => rfl)
end
section
/-! the reference: sums over the lamps -/
def S_sumF (f : Nat → Int32) : Nat → Nat → Int32 → Int32
  | 0, _, s => s
  | r + 1, k, s => S_sumF f r (k + 1) (s + f k)
def S_lt (R : am_R) (ofc : Int32) (l : Nat) : Int32 := if R (77 + 7 * l + 3) = ofc ∧ S_burns R l = true then S_draw R l else nI 0
def S_light (R : am_R) (ofc : Int32) : Int32 := S_sumF (S_lt R ofc) (nn (R 5)) 0 (nI 0)
def S_dr (R : am_R) (cab bu : Int32) (l : Nat) : Int32 := if nI (S_cab R (nn (R (77 + 7 * l + 1)))) = cab ∧ S_should R l = true ∧ (bu = 0 ∨ S_fed R l = true) then S_draw R l else nI 0
def S_drawn (R : am_R) (cab bu : Int32) : Int32 := S_sumF (S_dr R cab bu) (nn (R 5)) 0 (nI 0)
theorem l_X12_lightOf {d n : Nat} {mem : am_M} {Q : am_P} (R : am_R) (hw : wfR R) (hT : wfTs R) (ofc : Int32) (r k : Nat) (sum : Int32) (hR : mem 222 = R) (hk : k + r = nn (R 5)) (hQ : ∀ m2 : am_M, (∀ q, q ≠ 232 → q ≠ 233 → m2 q = mem q) → Q (some (.int (S_sumF (S_lt R ofc) r k sum))) (am_SK n) m2) : am_ev kc_X12_lightOf (d + 6) 4 [some (.ref 221), some (.int ofc), some (.int sum), some (.int (nI k))] [] (am_SK n) mem Q := by
  induction r generalizing k sum mem with
  | zero =>
    subst hR
    have h5 := hw.2.1.2.2.1.1
    have hkn : k = nn (mem 222 5) := by omega
    refine ev_iload rfl rfl ?_
    refine ev_aload rfl rfl ?_
    refine ev_getR (c := 12) (j := 0) rfl ?_ (hq := k_221 n)
    refine ev_iconst (x := nI 5) rfl rfl ?_
    refine ev_ialdN rfl (m := 5) (rfl) ?_ (hq := k_222 n)
    rw [h5]
    refine ev_icmp_ge (p2 := 50) rfl rfl (fun cnd11 => ?_) (fun cnd11 => ?_)
    · skip
      refine ev_iload rfl rfl ?_
      refine ev_iret rfl ?_
      exact hQ mem (fun _ _ _ => rfl)
    · exact absurd (by rw [hkn]; exact Int32.le_refl _) cnd11
  | succ r ih =>
    subst hR
    have h5 := hw.2.1.2.2.1.1
    have hr5 : nn (mem 222 5) < 17 := hw.2.1.2.2.1.2
    have hl : k < nn (mem 222 5) := by omega
    obtain ⟨-, ⟨e2, g2⟩, -⟩ := hw.2.2.2.2.1 k hl
    unfold S_sumF at hQ
    refine ev_iload rfl rfl ?_
    refine ev_aload rfl rfl ?_
    refine ev_getR (c := 12) (j := 0) rfl ?_ (hq := k_221 n)
    refine ev_iconst (x := nI 5) rfl rfl ?_
    refine ev_ialdN rfl (m := 5) (rfl) ?_ (hq := k_222 n)
    rw [h5]
    refine ev_icmp_ge (p2 := 50) rfl rfl (fun cnd11 => ?_) (fun cnd11 => ?_)
    · exact absurd ((nI_leI (by omega) (by omega)).mp cnd11) (by omega)
    · skip
      refine ev_iload rfl rfl ?_
      refine ev_aload rfl rfl ?_
      refine ev_iload rfl rfl ?_
      refine ev_iconst (x := nI 3) rfl rfl ?_
      refine ev_call rfl rfl ?_
      refine c_X12_lamp7 (a := k) (w := 3) (by omega) ?_
      change am_ev _ _ _ _ (_ :: _) _ _ _
      refine ev_iload rfl rfl ?_
      refine ev_icmp_ne (p2 := 41) rfl rfl (fun cnd22 => ?_) (fun cnd22 => ?_)
      · skip
        refine ev_iconst (x := nI 0) rfl rfl ?_
        refine ev_iadd rfl ?_
        refine ev_istore rfl rfl (Nat.le_of_ble_eq_true rfl) ?_
        refine ev_iinc rfl rfl rfl rfl ?_
        refine ev_goto (p2 := 4) rfl rfl ?_
        first
        | (rw [show S_lt (mem 222) ofc k = S_draw (mem 222) k from (if_pos ⟨cnd22, obn0.mp cnd30⟩)] at hQ
           change am_ev _ _ _ [some (.ref 221), some (.int ofc), some (.int (sum + S_draw (mem 222) k)), some (.int (nI k + Int32.ofInt 1))] _ _ _ _
           rw [nI_inc1]
           refine ih _ _ ?_ ?_ (fun m3 h3 => ?_)
           · exact h2 222 (by decide) (by decide)
           · omega
           · refine hQ m3 (fun q hq1 hq2 => ?_)
             rw [h3 q hq1 hq2, h2 q hq1 hq2])
        | (rw [show S_lt (mem 222) ofc k = nI 0 from (if_neg (fun z => cnd22 z.1))] at hQ
           change am_ev _ _ _ [some (.ref 221), some (.int ofc), some (.int (sum + nI 0)), some (.int (nI k + Int32.ofInt 1))] _ _ _ _
           rw [nI_inc1]
           refine ih _ _ ?_ ?_ (fun m3 h3 => ?_)
           · rfl
           · omega
           · refine hQ m3 (fun q hq1 hq2 => ?_)
             rw [h3 q hq1 hq2])
        | (rw [show S_lt (mem 222) ofc k = nI 0 from (if_neg (fun z => obn0.mpr z.2 cnd30))] at hQ
           change am_ev _ _ _ [some (.ref 221), some (.int ofc), some (.int (sum + nI 0)), some (.int (nI k + Int32.ofInt 1))] _ _ _ _
           rw [nI_inc1]
           refine ih _ _ ?_ ?_ (fun m3 h3 => ?_)
           · rfl
           · omega
           · refine hQ m3 (fun q hq1 hq2 => ?_)
             rw [h3 q hq1 hq2])
      · skip
        refine ev_aload rfl rfl ?_
        refine ev_iload rfl rfl ?_
        refine ev_call rfl rfl ?_
        refine c_X12_burns hw k hl ?_
        change am_ev _ _ _ _ (_ :: _) _ _ _
        refine ev_if_eq (p2 := 41) rfl rfl (fun cnd30 => ?_) (fun cnd30 => ?_)
        · skip
          refine ev_iconst (x := nI 0) rfl rfl ?_
          refine ev_iadd rfl ?_
          refine ev_istore rfl rfl (Nat.le_of_ble_eq_true rfl) ?_
          refine ev_iinc rfl rfl rfl rfl ?_
          refine ev_goto (p2 := 4) rfl rfl ?_
          first
          | (rw [show S_lt (mem 222) ofc k = S_draw (mem 222) k from (if_pos ⟨cnd22, obn0.mp cnd30⟩)] at hQ
             change am_ev _ _ _ [some (.ref 221), some (.int ofc), some (.int (sum + S_draw (mem 222) k)), some (.int (nI k + Int32.ofInt 1))] _ _ _ _
             rw [nI_inc1]
             refine ih _ _ ?_ ?_ (fun m3 h3 => ?_)
             · exact h2 222 (by decide) (by decide)
             · omega
             · refine hQ m3 (fun q hq1 hq2 => ?_)
               rw [h3 q hq1 hq2, h2 q hq1 hq2])
          | (rw [show S_lt (mem 222) ofc k = nI 0 from (if_neg (fun z => cnd22 z.1))] at hQ
             change am_ev _ _ _ [some (.ref 221), some (.int ofc), some (.int (sum + nI 0)), some (.int (nI k + Int32.ofInt 1))] _ _ _ _
             rw [nI_inc1]
             refine ih _ _ ?_ ?_ (fun m3 h3 => ?_)
             · rfl
             · omega
             · refine hQ m3 (fun q hq1 hq2 => ?_)
               rw [h3 q hq1 hq2])
          | (rw [show S_lt (mem 222) ofc k = nI 0 from (if_neg (fun z => obn0.mpr z.2 cnd30))] at hQ
             change am_ev _ _ _ [some (.ref 221), some (.int ofc), some (.int (sum + nI 0)), some (.int (nI k + Int32.ofInt 1))] _ _ _ _
             rw [nI_inc1]
             refine ih _ _ ?_ ?_ (fun m3 h3 => ?_)
             · rfl
             · omega
             · refine hQ m3 (fun q hq1 hq2 => ?_)
               rw [h3 q hq1 hq2])
        · skip
          refine ev_aload rfl rfl ?_
          refine ev_iload rfl rfl ?_
          refine ev_call rfl rfl ?_
          refine c_X12_draws hw hT k hl (fun m2 h2 => ?_)
          change am_ev _ _ _ _ (_ :: _) _ _ _
          refine ev_goto (p2 := 42) rfl rfl ?_
          refine ev_iadd rfl ?_
          refine ev_istore rfl rfl (Nat.le_of_ble_eq_true rfl) ?_
          refine ev_iinc rfl rfl rfl rfl ?_
          refine ev_goto (p2 := 4) rfl rfl ?_
          first
          | (rw [show S_lt (mem 222) ofc k = S_draw (mem 222) k from (if_pos ⟨cnd22, obn0.mp cnd30⟩)] at hQ
             change am_ev _ _ _ [some (.ref 221), some (.int ofc), some (.int (sum + S_draw (mem 222) k)), some (.int (nI k + Int32.ofInt 1))] _ _ _ _
             rw [nI_inc1]
             refine ih _ _ ?_ ?_ (fun m3 h3 => ?_)
             · exact h2 222 (by decide) (by decide)
             · omega
             · refine hQ m3 (fun q hq1 hq2 => ?_)
               rw [h3 q hq1 hq2, h2 q hq1 hq2])
          | (rw [show S_lt (mem 222) ofc k = nI 0 from (if_neg (fun z => cnd22 z.1))] at hQ
             change am_ev _ _ _ [some (.ref 221), some (.int ofc), some (.int (sum + nI 0)), some (.int (nI k + Int32.ofInt 1))] _ _ _ _
             rw [nI_inc1]
             refine ih _ _ ?_ ?_ (fun m3 h3 => ?_)
             · rfl
             · omega
             · refine hQ m3 (fun q hq1 hq2 => ?_)
               rw [h3 q hq1 hq2])
          | (rw [show S_lt (mem 222) ofc k = nI 0 from (if_neg (fun z => obn0.mpr z.2 cnd30))] at hQ
             change am_ev _ _ _ [some (.ref 221), some (.int ofc), some (.int (sum + nI 0)), some (.int (nI k + Int32.ofInt 1))] _ _ _ _
             rw [nI_inc1]
             refine ih _ _ ?_ ?_ (fun m3 h3 => ?_)
             · rfl
             · omega
             · refine hQ m3 (fun q hq1 hq2 => ?_)
               rw [h3 q hq1 hq2])
theorem c_X12_lightOf {d n : Nat} {mem : am_M} {Q : am_P} (hw : wfR (mem 222)) (hT : wfTs (mem 222)) (ofc : Int32) (hQ : ∀ m2 : am_M, (∀ q, q ≠ 232 → q ≠ 233 → m2 q = mem q) → Q (some (.int (S_light (mem 222) ofc))) (am_SK n) m2) : am_ex (d + 7) 180 [.ref 221, .int ofc] (am_SK n) mem Q := by
  refine ex_in (c0 := kc_X12_lightOf) rfl (L := [some (.ref 221), some (.int ofc), none, none]) rfl ?_
  refine ev_iconst (x := nI 0) rfl rfl ?_
  refine ev_istore rfl rfl (Nat.le_of_ble_eq_true rfl) ?_
  refine ev_iconst (x := nI 0) rfl rfl ?_
  refine ev_istore rfl rfl (Nat.le_of_ble_eq_true rfl) ?_
  exact l_X12_lightOf (mem 222) hw hT ofc _ 0 (nI 0) rfl (Nat.zero_add _) hQ
end
