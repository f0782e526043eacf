section
-- ===== PART A: goes FIRST, ahead of the names: the tables' words, and 'selects' of the private methods out of them =====
/-- a private method of a class that the tables say can be made, by its rows of tables_1 -/
def lw_okq (q : MethodName × Nat) : Prop := (q.1.cls ≠ "java/lang/invoke/MethodHandle" ∧ q.1.cls ≠ "java/lang/invoke/VarHandle") ∧ Cond.instantiable q.1.cls q.2 ∈ tables_1 ∧ Cond.privateMethod q.1 ∈ tables_1 ∧ Cond.instanceMethod q.1 ∈ tables_1
theorem lw_p0 : lw_okq (⟨"PunchedSouls", "isWorker", "(I)Z"⟩, 13) := ⟨⟨by decide +kernel, by decide +kernel⟩, List.mem_of_getElem? (i := 27) (by decide +kernel), List.mem_of_getElem? (i := 287) (by decide +kernel), List.mem_of_getElem? (i := 288) (by decide +kernel)⟩
theorem lw_p1 : lw_okq (⟨"PunchedSouls$Reader", "isClause", "()Z"⟩, 4) := ⟨⟨by decide +kernel, by decide +kernel⟩, List.mem_of_getElem? (i := 430) (by decide +kernel), List.mem_of_getElem? (i := 478) (by decide +kernel), List.mem_of_getElem? (i := 479) (by decide +kernel)⟩
theorem lw_p2 : lw_okq (⟨"PunchedSouls$Reader", "sign", "()I"⟩, 4) := ⟨⟨by decide +kernel, by decide +kernel⟩, List.mem_of_getElem? (i := 430) (by decide +kernel), List.mem_of_getElem? (i := 482) (by decide +kernel), List.mem_of_getElem? (i := 483) (by decide +kernel)⟩
theorem lw_p3 : lw_okq (⟨"PunchedSouls$Reader", "spells", "(Ljava/lang/String;)Z"⟩, 4) := ⟨⟨by decide +kernel, by decide +kernel⟩, List.mem_of_getElem? (i := 430) (by decide +kernel), List.mem_of_getElem? (i := 489) (by decide +kernel), List.mem_of_getElem? (i := 490) (by decide +kernel)⟩
theorem lw_p4 : lw_okq (⟨"PunchedSouls$Reader", "takes", "(C)Z"⟩, 4) := ⟨⟨by decide +kernel, by decide +kernel⟩, List.mem_of_getElem? (i := 430) (by decide +kernel), List.mem_of_getElem? (i := 540) (by decide +kernel), List.mem_of_getElem? (i := 541) (by decide +kernel)⟩
theorem lw_p5 : lw_okq (⟨"PunchedSouls$Reader", "number", "()I"⟩, 4) := ⟨⟨by decide +kernel, by decide +kernel⟩, List.mem_of_getElem? (i := 430) (by decide +kernel), List.mem_of_getElem? (i := 544) (by decide +kernel), List.mem_of_getElem? (i := 545) (by decide +kernel)⟩
theorem lw_p6 : lw_okq (⟨"PunchedSouls$Reader", "isEither", "(I)Z"⟩, 4) := ⟨⟨by decide +kernel, by decide +kernel⟩, List.mem_of_getElem? (i := 430) (by decide +kernel), List.mem_of_getElem? (i := 549) (by decide +kernel), List.mem_of_getElem? (i := 550) (by decide +kernel)⟩
theorem lw_p7 : lw_okq (⟨"PunchedSouls$Reader", "isFactor", "(I)Z"⟩, 4) := ⟨⟨by decide +kernel, by decide +kernel⟩, List.mem_of_getElem? (i := 430) (by decide +kernel), List.mem_of_getElem? (i := 553) (by decide +kernel), List.mem_of_getElem? (i := 554) (by decide +kernel)⟩
theorem lw_p8 : lw_okq (⟨"PunchedSouls$Reader", "isTest", "()Z"⟩, 4) := ⟨⟨by decide +kernel, by decide +kernel⟩, List.mem_of_getElem? (i := 430) (by decide +kernel), List.mem_of_getElem? (i := 557) (by decide +kernel), List.mem_of_getElem? (i := 558) (by decide +kernel)⟩
theorem lw_p9 : lw_okq (⟨"PunchedSouls", "firstSwap", "()I"⟩, 13) := ⟨⟨by decide +kernel, by decide +kernel⟩, List.mem_of_getElem? (i := 27) (by decide +kernel), List.mem_of_getElem? (i := 647) (by decide +kernel), List.mem_of_getElem? (i := 648) (by decide +kernel)⟩
theorem lw_p10 : lw_okq (⟨"PunchedSouls", "sparingSwap", "()I"⟩, 13) := ⟨⟨by decide +kernel, by decide +kernel⟩, List.mem_of_getElem? (i := 27) (by decide +kernel), List.mem_of_getElem? (i := 655) (by decide +kernel), List.mem_of_getElem? (i := 656) (by decide +kernel)⟩
theorem lw_p11 : lw_okq (⟨"PunchedSouls", "mostHolesAfterSwap", "(II)I"⟩, 13) := ⟨⟨by decide +kernel, by decide +kernel⟩, List.mem_of_getElem? (i := 27) (by decide +kernel), List.mem_of_getElem? (i := 659) (by decide +kernel), List.mem_of_getElem? (i := 660) (by decide +kernel)⟩
theorem lw_p12 : lw_okq (⟨"PunchedSouls", "weighAllWays", "()V"⟩, 13) := ⟨⟨by decide +kernel, by decide +kernel⟩, List.mem_of_getElem? (i := 27) (by decide +kernel), List.mem_of_getElem? (i := 713) (by decide +kernel), List.mem_of_getElem? (i := 714) (by decide +kernel)⟩
theorem lw_p13 : lw_okq (⟨"PunchedSouls", "firstBest", "(I)I"⟩, 13) := ⟨⟨by decide +kernel, by decide +kernel⟩, List.mem_of_getElem? (i := 27) (by decide +kernel), List.mem_of_getElem? (i := 717) (by decide +kernel), List.mem_of_getElem? (i := 718) (by decide +kernel)⟩
theorem lw_p14 : lw_okq (⟨"PunchedSouls", "with", "(II)I"⟩, 13) := ⟨⟨by decide +kernel, by decide +kernel⟩, List.mem_of_getElem? (i := 27) (by decide +kernel), List.mem_of_getElem? (i := 721) (by decide +kernel), List.mem_of_getElem? (i := 722) (by decide +kernel)⟩
theorem lw_p15 : lw_okq (⟨"PunchedSouls", "bestCard", "(I)I"⟩, 13) := ⟨⟨by decide +kernel, by decide +kernel⟩, List.mem_of_getElem? (i := 27) (by decide +kernel), List.mem_of_getElem? (i := 726) (by decide +kernel), List.mem_of_getElem? (i := 727) (by decide +kernel)⟩
def lw_privs_1 : List (MethodName × Nat) := [(⟨"PunchedSouls", "isWorker", "(I)Z"⟩, 13), (⟨"PunchedSouls$Reader", "isClause", "()Z"⟩, 4), (⟨"PunchedSouls$Reader", "sign", "()I"⟩, 4), (⟨"PunchedSouls$Reader", "spells", "(Ljava/lang/String;)Z"⟩, 4), (⟨"PunchedSouls$Reader", "takes", "(C)Z"⟩, 4), (⟨"PunchedSouls$Reader", "number", "()I"⟩, 4), (⟨"PunchedSouls$Reader", "isEither", "(I)Z"⟩, 4), (⟨"PunchedSouls$Reader", "isFactor", "(I)Z"⟩, 4), (⟨"PunchedSouls$Reader", "isTest", "()Z"⟩, 4), (⟨"PunchedSouls", "firstSwap", "()I"⟩, 13), (⟨"PunchedSouls", "sparingSwap", "()I"⟩, 13), (⟨"PunchedSouls", "mostHolesAfterSwap", "(II)I"⟩, 13), (⟨"PunchedSouls", "weighAllWays", "()V"⟩, 13), (⟨"PunchedSouls", "firstBest", "(I)I"⟩, 13), (⟨"PunchedSouls", "with", "(II)I"⟩, 13), (⟨"PunchedSouls", "bestCard", "(I)I"⟩, 13)]
theorem lw_r1 : ∀ q ∈ lw_privs_1, lw_okq q := List.forall_mem_cons.mpr ⟨lw_p0, List.forall_mem_cons.mpr ⟨lw_p1, List.forall_mem_cons.mpr ⟨lw_p2, List.forall_mem_cons.mpr ⟨lw_p3, List.forall_mem_cons.mpr ⟨lw_p4, List.forall_mem_cons.mpr ⟨lw_p5, List.forall_mem_cons.mpr ⟨lw_p6, List.forall_mem_cons.mpr ⟨lw_p7, List.forall_mem_cons.mpr ⟨lw_p8, List.forall_mem_cons.mpr ⟨lw_p9, List.forall_mem_cons.mpr ⟨lw_p10, List.forall_mem_cons.mpr ⟨lw_p11, List.forall_mem_cons.mpr ⟨lw_p12, List.forall_mem_cons.mpr ⟨lw_p13, List.forall_mem_cons.mpr ⟨lw_p14, List.forall_mem_cons.mpr ⟨lw_p15, fun _ h => absurd h List.not_mem_nil⟩⟩⟩⟩⟩⟩⟩⟩⟩⟩⟩⟩⟩⟩⟩⟩
theorem lw_p16 : lw_okq (⟨"PunchedSouls", "trialMeetsSeen", "()Z"⟩, 13) := ⟨⟨by decide +kernel, by decide +kernel⟩, List.mem_of_getElem? (i := 27) (by decide +kernel), List.mem_of_getElem? (i := 742) (by decide +kernel), List.mem_of_getElem? (i := 743) (by decide +kernel)⟩
theorem lw_p17 : lw_okq (⟨"PunchedSouls", "isPlace", "(II)Z"⟩, 13) := ⟨⟨by decide +kernel, by decide +kernel⟩, List.mem_of_getElem? (i := 27) (by decide +kernel), List.mem_of_getElem? (i := 798) (by decide +kernel), List.mem_of_getElem? (i := 799) (by decide +kernel)⟩
theorem lw_p18 : lw_okq (⟨"PunchedSoulsModel", "in", "(III)Z"⟩, 70) := ⟨⟨by decide +kernel, by decide +kernel⟩, List.mem_of_getElem? (i := 1040) (by decide +kernel), List.mem_of_getElem? (i := 1262) (by decide +kernel), List.mem_of_getElem? (i := 1263) (by decide +kernel)⟩
theorem lw_p19 : lw_okq (⟨"PunchedSoulsModel", "isWorker", "(I)Z"⟩, 70) := ⟨⟨by decide +kernel, by decide +kernel⟩, List.mem_of_getElem? (i := 1040) (by decide +kernel), List.mem_of_getElem? (i := 1270) (by decide +kernel), List.mem_of_getElem? (i := 1271) (by decide +kernel)⟩
theorem lw_p20 : lw_okq (⟨"PunchedSoulsModel", "isHoles", "(I)Z"⟩, 70) := ⟨⟨by decide +kernel, by decide +kernel⟩, List.mem_of_getElem? (i := 1040) (by decide +kernel), List.mem_of_getElem? (i := 1274) (by decide +kernel), List.mem_of_getElem? (i := 1275) (by decide +kernel)⟩
theorem lw_p21 : lw_okq (⟨"PunchedSoulsModel", "swaps", "(II)V"⟩, 70) := ⟨⟨by decide +kernel, by decide +kernel⟩, List.mem_of_getElem? (i := 1040) (by decide +kernel), List.mem_of_getElem? (i := 1282) (by decide +kernel), List.mem_of_getElem? (i := 1283) (by decide +kernel)⟩
theorem lw_p22 : lw_okq (⟨"PunchedSoulsModel", "has", "(II)Z"⟩, 70) := ⟨⟨by decide +kernel, by decide +kernel⟩, List.mem_of_getElem? (i := 1040) (by decide +kernel), List.mem_of_getElem? (i := 1290) (by decide +kernel), List.mem_of_getElem? (i := 1291) (by decide +kernel)⟩
theorem lw_p23 : lw_okq (⟨"PunchedSoulsModel", "rests", "(IZ)V"⟩, 70) := ⟨⟨by decide +kernel, by decide +kernel⟩, List.mem_of_getElem? (i := 1040) (by decide +kernel), List.mem_of_getElem? (i := 1294) (by decide +kernel), List.mem_of_getElem? (i := 1295) (by decide +kernel)⟩
theorem lw_p24 : lw_okq (⟨"PunchedSoulsModel", "goesText", "(I)Z"⟩, 70) := ⟨⟨by decide +kernel, by decide +kernel⟩, List.mem_of_getElem? (i := 1040) (by decide +kernel), List.mem_of_getElem? (i := 1310) (by decide +kernel), List.mem_of_getElem? (i := 1311) (by decide +kernel)⟩
theorem lw_p25 : lw_okq (⟨"PunchedSoulsModel", "takesClause", "(I)Z"⟩, 70) := ⟨⟨by decide +kernel, by decide +kernel⟩, List.mem_of_getElem? (i := 1040) (by decide +kernel), List.mem_of_getElem? (i := 1314) (by decide +kernel), List.mem_of_getElem? (i := 1315) (by decide +kernel)⟩
theorem lw_p26 : lw_okq (⟨"PunchedSoulsModel", "takesHead", "(I)Z"⟩, 70) := ⟨⟨by decide +kernel, by decide +kernel⟩, List.mem_of_getElem? (i := 1040) (by decide +kernel), List.mem_of_getElem? (i := 1318) (by decide +kernel), List.mem_of_getElem? (i := 1319) (by decide +kernel)⟩
theorem lw_p27 : lw_okq (⟨"PunchedSoulsModel", "next", "()I"⟩, 70) := ⟨⟨by decide +kernel, by decide +kernel⟩, List.mem_of_getElem? (i := 1040) (by decide +kernel), List.mem_of_getElem? (i := 1322) (by decide +kernel), List.mem_of_getElem? (i := 1323) (by decide +kernel)⟩
theorem lw_p28 : lw_okq (⟨"PunchedSoulsModel", "takesWord", "(II)Z"⟩, 70) := ⟨⟨by decide +kernel, by decide +kernel⟩, List.mem_of_getElem? (i := 1040) (by decide +kernel), List.mem_of_getElem? (i := 1326) (by decide +kernel), List.mem_of_getElem? (i := 1327) (by decide +kernel)⟩
theorem lw_p29 : lw_okq (⟨"PunchedSoulsModel", "takes", "(I)Z"⟩, 70) := ⟨⟨by decide +kernel, by decide +kernel⟩, List.mem_of_getElem? (i := 1040) (by decide +kernel), List.mem_of_getElem? (i := 1330) (by decide +kernel), List.mem_of_getElem? (i := 1331) (by decide +kernel)⟩
theorem lw_p30 : lw_okq (⟨"PunchedSoulsModel", "takesNumber", "()Z"⟩, 70) := ⟨⟨by decide +kernel, by decide +kernel⟩, List.mem_of_getElem? (i := 1040) (by decide +kernel), List.mem_of_getElem? (i := 1334) (by decide +kernel), List.mem_of_getElem? (i := 1335) (by decide +kernel)⟩
theorem lw_p31 : lw_okq (⟨"PunchedSoulsModel", "isDigit", "()Z"⟩, 70) := ⟨⟨by decide +kernel, by decide +kernel⟩, List.mem_of_getElem? (i := 1040) (by decide +kernel), List.mem_of_getElem? (i := 1338) (by decide +kernel), List.mem_of_getElem? (i := 1339) (by decide +kernel)⟩
def lw_privs_2 : List (MethodName × Nat) := [(⟨"PunchedSouls", "trialMeetsSeen", "()Z"⟩, 13), (⟨"PunchedSouls", "isPlace", "(II)Z"⟩, 13), (⟨"PunchedSoulsModel", "in", "(III)Z"⟩, 70), (⟨"PunchedSoulsModel", "isWorker", "(I)Z"⟩, 70), (⟨"PunchedSoulsModel", "isHoles", "(I)Z"⟩, 70), (⟨"PunchedSoulsModel", "swaps", "(II)V"⟩, 70), (⟨"PunchedSoulsModel", "has", "(II)Z"⟩, 70), (⟨"PunchedSoulsModel", "rests", "(IZ)V"⟩, 70), (⟨"PunchedSoulsModel", "goesText", "(I)Z"⟩, 70), (⟨"PunchedSoulsModel", "takesClause", "(I)Z"⟩, 70), (⟨"PunchedSoulsModel", "takesHead", "(I)Z"⟩, 70), (⟨"PunchedSoulsModel", "next", "()I"⟩, 70), (⟨"PunchedSoulsModel", "takesWord", "(II)Z"⟩, 70), (⟨"PunchedSoulsModel", "takes", "(I)Z"⟩, 70), (⟨"PunchedSoulsModel", "takesNumber", "()Z"⟩, 70), (⟨"PunchedSoulsModel", "isDigit", "()Z"⟩, 70)]
theorem lw_r2 : ∀ q ∈ lw_privs_2, lw_okq q := List.forall_mem_cons.mpr ⟨lw_p16, List.forall_mem_cons.mpr ⟨lw_p17, List.forall_mem_cons.mpr ⟨lw_p18, List.forall_mem_cons.mpr ⟨lw_p19, List.forall_mem_cons.mpr ⟨lw_p20, List.forall_mem_cons.mpr ⟨lw_p21, List.forall_mem_cons.mpr ⟨lw_p22, List.forall_mem_cons.mpr ⟨lw_p23, List.forall_mem_cons.mpr ⟨lw_p24, List.forall_mem_cons.mpr ⟨lw_p25, List.forall_mem_cons.mpr ⟨lw_p26, List.forall_mem_cons.mpr ⟨lw_p27, List.forall_mem_cons.mpr ⟨lw_p28, List.forall_mem_cons.mpr ⟨lw_p29, List.forall_mem_cons.mpr ⟨lw_p30, List.forall_mem_cons.mpr ⟨lw_p31, fun _ h => absurd h List.not_mem_nil⟩⟩⟩⟩⟩⟩⟩⟩⟩⟩⟩⟩⟩⟩⟩⟩
theorem lw_p32 : lw_okq (⟨"PunchedSoulsModel", "takesE", "(I)Z"⟩, 70) := ⟨⟨by decide +kernel, by decide +kernel⟩, List.mem_of_getElem? (i := 1040) (by decide +kernel), List.mem_of_getElem? (i := 1342) (by decide +kernel), List.mem_of_getElem? (i := 1343) (by decide +kernel)⟩
theorem lw_p33 : lw_okq (⟨"PunchedSoulsModel", "takesTest", "()Z"⟩, 70) := ⟨⟨by decide +kernel, by decide +kernel⟩, List.mem_of_getElem? (i := 1040) (by decide +kernel), List.mem_of_getElem? (i := 1346) (by decide +kernel), List.mem_of_getElem? (i := 1347) (by decide +kernel)⟩
theorem lw_p34 : lw_okq (⟨"PunchedSoulsModel", "place", "(I)I"⟩, 70) := ⟨⟨by decide +kernel, by decide +kernel⟩, List.mem_of_getElem? (i := 1040) (by decide +kernel), List.mem_of_getElem? (i := 1350) (by decide +kernel), List.mem_of_getElem? (i := 1351) (by decide +kernel)⟩
theorem lw_p35 : lw_okq (⟨"PunchedSoulsModel", "emits", "(I)V"⟩, 70) := ⟨⟨by decide +kernel, by decide +kernel⟩, List.mem_of_getElem? (i := 1040) (by decide +kernel), List.mem_of_getElem? (i := 1354) (by decide +kernel), List.mem_of_getElem? (i := 1355) (by decide +kernel)⟩
theorem lw_p36 : lw_okq (⟨"PunchedSoulsModel", "whole", "()V"⟩, 70) := ⟨⟨by decide +kernel, by decide +kernel⟩, List.mem_of_getElem? (i := 1040) (by decide +kernel), List.mem_of_getElem? (i := 1358) (by decide +kernel), List.mem_of_getElem? (i := 1359) (by decide +kernel)⟩
theorem lw_p37 : lw_okq (⟨"PunchedSoulsModel", "settle", "(I)V"⟩, 70) := ⟨⟨by decide +kernel, by decide +kernel⟩, List.mem_of_getElem? (i := 1040) (by decide +kernel), List.mem_of_getElem? (i := 1362) (by decide +kernel), List.mem_of_getElem? (i := 1363) (by decide +kernel)⟩
theorem lw_p38 : lw_okq (⟨"PunchedSoulsModel", "temper", "(II)I"⟩, 70) := ⟨⟨by decide +kernel, by decide +kernel⟩, List.mem_of_getElem? (i := 1040) (by decide +kernel), List.mem_of_getElem? (i := 1370) (by decide +kernel), List.mem_of_getElem? (i := 1371) (by decide +kernel)⟩
theorem lw_p39 : lw_okq (⟨"PunchedSoulsModel", "mood", "(II)I"⟩, 70) := ⟨⟨by decide +kernel, by decide +kernel⟩, List.mem_of_getElem? (i := 1040) (by decide +kernel), List.mem_of_getElem? (i := 1374) (by decide +kernel), List.mem_of_getElem? (i := 1375) (by decide +kernel)⟩
theorem lw_p40 : lw_okq (⟨"PunchedSoulsModel", "bits", "(I)I"⟩, 70) := ⟨⟨by decide +kernel, by decide +kernel⟩, List.mem_of_getElem? (i := 1040) (by decide +kernel), List.mem_of_getElem? (i := 1378) (by decide +kernel), List.mem_of_getElem? (i := 1379) (by decide +kernel)⟩
theorem lw_p41 : lw_okq (⟨"PunchedSoulsModel", "begin", "()I"⟩, 70) := ⟨⟨by decide +kernel, by decide +kernel⟩, List.mem_of_getElem? (i := 1040) (by decide +kernel), List.mem_of_getElem? (i := 1382) (by decide +kernel), List.mem_of_getElem? (i := 1383) (by decide +kernel)⟩
theorem lw_p42 : lw_okq (⟨"PunchedSoulsModel", "behind", "()I"⟩, 70) := ⟨⟨by decide +kernel, by decide +kernel⟩, List.mem_of_getElem? (i := 1040) (by decide +kernel), List.mem_of_getElem? (i := 1386) (by decide +kernel), List.mem_of_getElem? (i := 1387) (by decide +kernel)⟩
theorem lw_p43 : lw_okq (⟨"PunchedSoulsModel", "holds", "(III)Z"⟩, 70) := ⟨⟨by decide +kernel, by decide +kernel⟩, List.mem_of_getElem? (i := 1040) (by decide +kernel), List.mem_of_getElem? (i := 1390) (by decide +kernel), List.mem_of_getElem? (i := 1391) (by decide +kernel)⟩
theorem lw_p44 : lw_okq (⟨"PunchedSoulsModel", "factOf", "(III)I"⟩, 70) := ⟨⟨by decide +kernel, by decide +kernel⟩, List.mem_of_getElem? (i := 1040) (by decide +kernel), List.mem_of_getElem? (i := 1394) (by decide +kernel), List.mem_of_getElem? (i := 1395) (by decide +kernel)⟩
theorem lw_p45 : lw_okq (⟨"PunchedSoulsModel", "ring", "(I)I"⟩, 70) := ⟨⟨by decide +kernel, by decide +kernel⟩, List.mem_of_getElem? (i := 1040) (by decide +kernel), List.mem_of_getElem? (i := 1398) (by decide +kernel), List.mem_of_getElem? (i := 1399) (by decide +kernel)⟩
theorem lw_p46 : lw_okq (⟨"PunchedSoulsModel", "punches", "(II)I"⟩, 70) := ⟨⟨by decide +kernel, by decide +kernel⟩, List.mem_of_getElem? (i := 1040) (by decide +kernel), List.mem_of_getElem? (i := 1402) (by decide +kernel), List.mem_of_getElem? (i := 1403) (by decide +kernel)⟩
theorem lw_p47 : lw_okq (⟨"PunchedSoulsModel", "leastFree", "(I)I"⟩, 70) := ⟨⟨by decide +kernel, by decide +kernel⟩, List.mem_of_getElem? (i := 1040) (by decide +kernel), List.mem_of_getElem? (i := 1406) (by decide +kernel), List.mem_of_getElem? (i := 1407) (by decide +kernel)⟩
def lw_privs_3 : List (MethodName × Nat) := [(⟨"PunchedSoulsModel", "takesE", "(I)Z"⟩, 70), (⟨"PunchedSoulsModel", "takesTest", "()Z"⟩, 70), (⟨"PunchedSoulsModel", "place", "(I)I"⟩, 70), (⟨"PunchedSoulsModel", "emits", "(I)V"⟩, 70), (⟨"PunchedSoulsModel", "whole", "()V"⟩, 70), (⟨"PunchedSoulsModel", "settle", "(I)V"⟩, 70), (⟨"PunchedSoulsModel", "temper", "(II)I"⟩, 70), (⟨"PunchedSoulsModel", "mood", "(II)I"⟩, 70), (⟨"PunchedSoulsModel", "bits", "(I)I"⟩, 70), (⟨"PunchedSoulsModel", "begin", "()I"⟩, 70), (⟨"PunchedSoulsModel", "behind", "()I"⟩, 70), (⟨"PunchedSoulsModel", "holds", "(III)Z"⟩, 70), (⟨"PunchedSoulsModel", "factOf", "(III)I"⟩, 70), (⟨"PunchedSoulsModel", "ring", "(I)I"⟩, 70), (⟨"PunchedSoulsModel", "punches", "(II)I"⟩, 70), (⟨"PunchedSoulsModel", "leastFree", "(I)I"⟩, 70)]
theorem lw_r3 : ∀ q ∈ lw_privs_3, lw_okq q := List.forall_mem_cons.mpr ⟨lw_p32, List.forall_mem_cons.mpr ⟨lw_p33, List.forall_mem_cons.mpr ⟨lw_p34, List.forall_mem_cons.mpr ⟨lw_p35, List.forall_mem_cons.mpr ⟨lw_p36, List.forall_mem_cons.mpr ⟨lw_p37, List.forall_mem_cons.mpr ⟨lw_p38, List.forall_mem_cons.mpr ⟨lw_p39, List.forall_mem_cons.mpr ⟨lw_p40, List.forall_mem_cons.mpr ⟨lw_p41, List.forall_mem_cons.mpr ⟨lw_p42, List.forall_mem_cons.mpr ⟨lw_p43, List.forall_mem_cons.mpr ⟨lw_p44, List.forall_mem_cons.mpr ⟨lw_p45, List.forall_mem_cons.mpr ⟨lw_p46, List.forall_mem_cons.mpr ⟨lw_p47, fun _ h => absurd h List.not_mem_nil⟩⟩⟩⟩⟩⟩⟩⟩⟩⟩⟩⟩⟩⟩⟩⟩
theorem lw_p48 : lw_okq (⟨"PunchedSoulsModel", "isDays", "(I)Z"⟩, 70) := ⟨⟨by decide +kernel, by decide +kernel⟩, List.mem_of_getElem? (i := 1040) (by decide +kernel), List.mem_of_getElem? (i := 1414) (by decide +kernel), List.mem_of_getElem? (i := 1415) (by decide +kernel)⟩
theorem lw_p49 : lw_okq (⟨"PunchedSoulsModel", "goDays", "(I)V"⟩, 70) := ⟨⟨by decide +kernel, by decide +kernel⟩, List.mem_of_getElem? (i := 1040) (by decide +kernel), List.mem_of_getElem? (i := 1418) (by decide +kernel), List.mem_of_getElem? (i := 1419) (by decide +kernel)⟩
theorem lw_p50 : lw_okq (⟨"PunchedSoulsModel", "goDay", "()V"⟩, 70) := ⟨⟨by decide +kernel, by decide +kernel⟩, List.mem_of_getElem? (i := 1040) (by decide +kernel), List.mem_of_getElem? (i := 1422) (by decide +kernel), List.mem_of_getElem? (i := 1423) (by decide +kernel)⟩
theorem lw_p51 : lw_okq (⟨"PunchedSoulsModel", "round", "()I"⟩, 70) := ⟨⟨by decide +kernel, by decide +kernel⟩, List.mem_of_getElem? (i := 1040) (by decide +kernel), List.mem_of_getElem? (i := 1426) (by decide +kernel), List.mem_of_getElem? (i := 1427) (by decide +kernel)⟩
theorem lw_p52 : lw_okq (⟨"PunchedSoulsModel", "save", "()V"⟩, 70) := ⟨⟨by decide +kernel, by decide +kernel⟩, List.mem_of_getElem? (i := 1040) (by decide +kernel), List.mem_of_getElem? (i := 1434) (by decide +kernel), List.mem_of_getElem? (i := 1435) (by decide +kernel)⟩
theorem lw_p53 : lw_okq (⟨"PunchedSoulsModel", "allHoles", "()I"⟩, 70) := ⟨⟨by decide +kernel, by decide +kernel⟩, List.mem_of_getElem? (i := 1040) (by decide +kernel), List.mem_of_getElem? (i := 1438) (by decide +kernel), List.mem_of_getElem? (i := 1439) (by decide +kernel)⟩
theorem lw_p54 : lw_okq (⟨"PunchedSoulsModel", "putBack", "()V"⟩, 70) := ⟨⟨by decide +kernel, by decide +kernel⟩, List.mem_of_getElem? (i := 1040) (by decide +kernel), List.mem_of_getElem? (i := 1442) (by decide +kernel), List.mem_of_getElem? (i := 1443) (by decide +kernel)⟩
theorem lw_p55 : lw_okq (⟨"PunchedSoulsModel", "allTemper", "()I"⟩, 70) := ⟨⟨by decide +kernel, by decide +kernel⟩, List.mem_of_getElem? (i := 1040) (by decide +kernel), List.mem_of_getElem? (i := 1454) (by decide +kernel), List.mem_of_getElem? (i := 1455) (by decide +kernel)⟩
theorem lw_p56 : lw_okq (⟨"PunchedSoulsModel", "swapsOf", "()I"⟩, 70) := ⟨⟨by decide +kernel, by decide +kernel⟩, List.mem_of_getElem? (i := 1040) (by decide +kernel), List.mem_of_getElem? (i := 1458) (by decide +kernel), List.mem_of_getElem? (i := 1459) (by decide +kernel)⟩
theorem lw_p57 : lw_okq (⟨"PunchedSoulsModel", "firstSwap", "()I"⟩, 70) := ⟨⟨by decide +kernel, by decide +kernel⟩, List.mem_of_getElem? (i := 1040) (by decide +kernel), List.mem_of_getElem? (i := 1462) (by decide +kernel), List.mem_of_getElem? (i := 1463) (by decide +kernel)⟩
theorem lw_p58 : lw_okq (⟨"PunchedSoulsModel", "whoHas", "(I)I"⟩, 70) := ⟨⟨by decide +kernel, by decide +kernel⟩, List.mem_of_getElem? (i := 1040) (by decide +kernel), List.mem_of_getElem? (i := 1466) (by decide +kernel), List.mem_of_getElem? (i := 1467) (by decide +kernel)⟩
theorem lw_p59 : lw_okq (⟨"PunchedSoulsModel", "tradeOf", "()I"⟩, 70) := ⟨⟨by decide +kernel, by decide +kernel⟩, List.mem_of_getElem? (i := 1040) (by decide +kernel), List.mem_of_getElem? (i := 1470) (by decide +kernel), List.mem_of_getElem? (i := 1471) (by decide +kernel)⟩
theorem lw_p60 : lw_okq (⟨"PunchedSoulsModel", "mostHoles", "(II)I"⟩, 70) := ⟨⟨by decide +kernel, by decide +kernel⟩, List.mem_of_getElem? (i := 1040) (by decide +kernel), List.mem_of_getElem? (i := 1474) (by decide +kernel), List.mem_of_getElem? (i := 1475) (by decide +kernel)⟩
theorem lw_p61 : lw_okq (⟨"PunchedSoulsModel", "layCards", "(I)Z"⟩, 70) := ⟨⟨by decide +kernel, by decide +kernel⟩, List.mem_of_getElem? (i := 1040) (by decide +kernel), List.mem_of_getElem? (i := 1482) (by decide +kernel), List.mem_of_getElem? (i := 1483) (by decide +kernel)⟩
theorem lw_p62 : lw_okq (⟨"PunchedSoulsModel", "isSeen", "()Z"⟩, 70) := ⟨⟨by decide +kernel, by decide +kernel⟩, List.mem_of_getElem? (i := 1040) (by decide +kernel), List.mem_of_getElem? (i := 1494) (by decide +kernel), List.mem_of_getElem? (i := 1495) (by decide +kernel)⟩
theorem lw_p63 : lw_okq (⟨"PunchedSoulsModel", "lowest", "(III)J"⟩, 70) := ⟨⟨by decide +kernel, by decide +kernel⟩, List.mem_of_getElem? (i := 1040) (by decide +kernel), List.mem_of_getElem? (i := 1507) (by decide +kernel), List.mem_of_getElem? (i := 1508) (by decide +kernel)⟩
def lw_privs_4 : List (MethodName × Nat) := [(⟨"PunchedSoulsModel", "isDays", "(I)Z"⟩, 70), (⟨"PunchedSoulsModel", "goDays", "(I)V"⟩, 70), (⟨"PunchedSoulsModel", "goDay", "()V"⟩, 70), (⟨"PunchedSoulsModel", "round", "()I"⟩, 70), (⟨"PunchedSoulsModel", "save", "()V"⟩, 70), (⟨"PunchedSoulsModel", "allHoles", "()I"⟩, 70), (⟨"PunchedSoulsModel", "putBack", "()V"⟩, 70), (⟨"PunchedSoulsModel", "allTemper", "()I"⟩, 70), (⟨"PunchedSoulsModel", "swapsOf", "()I"⟩, 70), (⟨"PunchedSoulsModel", "firstSwap", "()I"⟩, 70), (⟨"PunchedSoulsModel", "whoHas", "(I)I"⟩, 70), (⟨"PunchedSoulsModel", "tradeOf", "()I"⟩, 70), (⟨"PunchedSoulsModel", "mostHoles", "(II)I"⟩, 70), (⟨"PunchedSoulsModel", "layCards", "(I)Z"⟩, 70), (⟨"PunchedSoulsModel", "isSeen", "()Z"⟩, 70), (⟨"PunchedSoulsModel", "lowest", "(III)J"⟩, 70)]
theorem lw_r4 : ∀ q ∈ lw_privs_4, lw_okq q := List.forall_mem_cons.mpr ⟨lw_p48, List.forall_mem_cons.mpr ⟨lw_p49, List.forall_mem_cons.mpr ⟨lw_p50, List.forall_mem_cons.mpr ⟨lw_p51, List.forall_mem_cons.mpr ⟨lw_p52, List.forall_mem_cons.mpr ⟨lw_p53, List.forall_mem_cons.mpr ⟨lw_p54, List.forall_mem_cons.mpr ⟨lw_p55, List.forall_mem_cons.mpr ⟨lw_p56, List.forall_mem_cons.mpr ⟨lw_p57, List.forall_mem_cons.mpr ⟨lw_p58, List.forall_mem_cons.mpr ⟨lw_p59, List.forall_mem_cons.mpr ⟨lw_p60, List.forall_mem_cons.mpr ⟨lw_p61, List.forall_mem_cons.mpr ⟨lw_p62, List.forall_mem_cons.mpr ⟨lw_p63, fun _ h => absurd h List.not_mem_nil⟩⟩⟩⟩⟩⟩⟩⟩⟩⟩⟩⟩⟩⟩⟩⟩
theorem lw_p64 : lw_okq (⟨"PunchedSoulsModel", "divisor", "(II)I"⟩, 70) := ⟨⟨by decide +kernel, by decide +kernel⟩, List.mem_of_getElem? (i := 1040) (by decide +kernel), List.mem_of_getElem? (i := 1511) (by decide +kernel), List.mem_of_getElem? (i := 1512) (by decide +kernel)⟩
theorem lw_p65 : lw_okq (⟨"PunchedSoulsModel", "isPair", "(I)Z"⟩, 70) := ⟨⟨by decide +kernel, by decide +kernel⟩, List.mem_of_getElem? (i := 1040) (by decide +kernel), List.mem_of_getElem? (i := 1524) (by decide +kernel), List.mem_of_getElem? (i := 1525) (by decide +kernel)⟩
theorem lw_p66 : lw_okq (⟨"PunchedSoulsModel", "goPlan", "(II)V"⟩, 70) := ⟨⟨by decide +kernel, by decide +kernel⟩, List.mem_of_getElem? (i := 1040) (by decide +kernel), List.mem_of_getElem? (i := 1532) (by decide +kernel), List.mem_of_getElem? (i := 1533) (by decide +kernel)⟩
theorem lw_p67 : lw_okq (⟨"PunchedSoulsModel", "isTape", "(I)Z"⟩, 70) := ⟨⟨by decide +kernel, by decide +kernel⟩, List.mem_of_getElem? (i := 1040) (by decide +kernel), List.mem_of_getElem? (i := 1548) (by decide +kernel), List.mem_of_getElem? (i := 1549) (by decide +kernel)⟩
theorem lw_p68 : lw_okq (⟨"PunchedSoulsModel", "worksAct", "(II)I"⟩, 70) := ⟨⟨by decide +kernel, by decide +kernel⟩, List.mem_of_getElem? (i := 1040) (by decide +kernel), List.mem_of_getElem? (i := 1564) (by decide +kernel), List.mem_of_getElem? (i := 1565) (by decide +kernel)⟩
theorem lw_p69 : lw_okq (⟨"PunchedSoulsModel", "body", "(I)V"⟩, 70) := ⟨⟨by decide +kernel, by decide +kernel⟩, List.mem_of_getElem? (i := 1040) (by decide +kernel), List.mem_of_getElem? (i := 1568) (by decide +kernel), List.mem_of_getElem? (i := 1569) (by decide +kernel)⟩
theorem lw_p70 : lw_okq (⟨"PunchedSoulsModel", "handWorks", "(II)I"⟩, 70) := ⟨⟨by decide +kernel, by decide +kernel⟩, List.mem_of_getElem? (i := 1040) (by decide +kernel), List.mem_of_getElem? (i := 1572) (by decide +kernel), List.mem_of_getElem? (i := 1573) (by decide +kernel)⟩
theorem lw_p71 : lw_okq (⟨"PunchedSoulsModel", "mindsAct", "(II)I"⟩, 70) := ⟨⟨by decide +kernel, by decide +kernel⟩, List.mem_of_getElem? (i := 1040) (by decide +kernel), List.mem_of_getElem? (i := 1576) (by decide +kernel), List.mem_of_getElem? (i := 1577) (by decide +kernel)⟩
theorem lw_p72 : lw_okq (⟨"PunchedSoulsModel", "lateMinds", "(II)I"⟩, 70) := ⟨⟨by decide +kernel, by decide +kernel⟩, List.mem_of_getElem? (i := 1040) (by decide +kernel), List.mem_of_getElem? (i := 1580) (by decide +kernel), List.mem_of_getElem? (i := 1581) (by decide +kernel)⟩
theorem lw_p73 : lw_okq (⟨"PunchedSoulsModel", "handMinds", "(II)I"⟩, 70) := ⟨⟨by decide +kernel, by decide +kernel⟩, List.mem_of_getElem? (i := 1040) (by decide +kernel), List.mem_of_getElem? (i := 1584) (by decide +kernel), List.mem_of_getElem? (i := 1585) (by decide +kernel)⟩
theorem lw_p74 : lw_okq (⟨"PunchedSoulsModel", "tellsAct", "(II)I"⟩, 70) := ⟨⟨by decide +kernel, by decide +kernel⟩, List.mem_of_getElem? (i := 1040) (by decide +kernel), List.mem_of_getElem? (i := 1588) (by decide +kernel), List.mem_of_getElem? (i := 1589) (by decide +kernel)⟩
theorem lw_p75 : lw_okq (⟨"PunchedSoulsModel", "handTells", "(II)I"⟩, 70) := ⟨⟨by decide +kernel, by decide +kernel⟩, List.mem_of_getElem? (i := 1040) (by decide +kernel), List.mem_of_getElem? (i := 1592) (by decide +kernel), List.mem_of_getElem? (i := 1593) (by decide +kernel)⟩
theorem lw_p76 : lw_okq (⟨"PunchedSoulsModel", "narrow", "(IJ)J"⟩, 70) := ⟨⟨by decide +kernel, by decide +kernel⟩, List.mem_of_getElem? (i := 1040) (by decide +kernel), List.mem_of_getElem? (i := 1616) (by decide +kernel), List.mem_of_getElem? (i := 1617) (by decide +kernel)⟩
def lw_privs_5 : List (MethodName × Nat) := [(⟨"PunchedSoulsModel", "divisor", "(II)I"⟩, 70), (⟨"PunchedSoulsModel", "isPair", "(I)Z"⟩, 70), (⟨"PunchedSoulsModel", "goPlan", "(II)V"⟩, 70), (⟨"PunchedSoulsModel", "isTape", "(I)Z"⟩, 70), (⟨"PunchedSoulsModel", "worksAct", "(II)I"⟩, 70), (⟨"PunchedSoulsModel", "body", "(I)V"⟩, 70), (⟨"PunchedSoulsModel", "handWorks", "(II)I"⟩, 70), (⟨"PunchedSoulsModel", "mindsAct", "(II)I"⟩, 70), (⟨"PunchedSoulsModel", "lateMinds", "(II)I"⟩, 70), (⟨"PunchedSoulsModel", "handMinds", "(II)I"⟩, 70), (⟨"PunchedSoulsModel", "tellsAct", "(II)I"⟩, 70), (⟨"PunchedSoulsModel", "handTells", "(II)I"⟩, 70), (⟨"PunchedSoulsModel", "narrow", "(IJ)J"⟩, 70)]
theorem lw_r5 : ∀ q ∈ lw_privs_5, lw_okq q := List.forall_mem_cons.mpr ⟨lw_p64, List.forall_mem_cons.mpr ⟨lw_p65, List.forall_mem_cons.mpr ⟨lw_p66, List.forall_mem_cons.mpr ⟨lw_p67, List.forall_mem_cons.mpr ⟨lw_p68, List.forall_mem_cons.mpr ⟨lw_p69, List.forall_mem_cons.mpr ⟨lw_p70, List.forall_mem_cons.mpr ⟨lw_p71, List.forall_mem_cons.mpr ⟨lw_p72, List.forall_mem_cons.mpr ⟨lw_p73, List.forall_mem_cons.mpr ⟨lw_p74, List.forall_mem_cons.mpr ⟨lw_p75, List.forall_mem_cons.mpr ⟨lw_p76, fun _ h => absurd h List.not_mem_nil⟩⟩⟩⟩⟩⟩⟩⟩⟩⟩⟩⟩⟩
def lw_privs : List (MethodName × Nat) := lw_privs_1 ++ (lw_privs_2 ++ (lw_privs_3 ++ (lw_privs_4 ++ (lw_privs_5))))
def lw_tbl : List Cond := k2_sels lw_privs ++ tables_1
theorem lw_privs_ok : ∀ q ∈ lw_privs, lw_okq q := by
  show ∀ q ∈ lw_privs_1 ++ (lw_privs_2 ++ (lw_privs_3 ++ (lw_privs_4 ++ (lw_privs_5)))), lw_okq q
  exact List.forall_mem_append.mpr ⟨lw_r1, List.forall_mem_append.mpr ⟨lw_r2, List.forall_mem_append.mpr ⟨lw_r3, List.forall_mem_append.mpr ⟨lw_r4, lw_r5⟩⟩⟩⟩
end
section
theorem goodIn_r {big : List Cond} (ws : List Cond) (ps : List Nat) (hp : ws = ps.filterMap (fun i => big[i]?)) (h : ws.all goodWord = true) : GoodIn big ws := by
  intro w hw
  have h1 := List.all_eq_true.mp h w hw
  rw [hp] at hw
  obtain ⟨i, -, hi⟩ := List.mem_filterMap.mp hw
  have hm : w ∈ big := by first | exact List.mem_of_getElem? hi | exact List.getElem?_mem hi
  exact ⟨hm, good_of_word h1⟩
theorem goodIn_app {big a b : List Cond} (ha : GoodIn big a) (hb : GoodIn big b) : GoodIn big (a ++ b) := fun w h => (List.mem_append.mp h).elim (ha w) (hb w)
theorem goodIn_ca {big a b : List Cond} {c : Cond} (ha : GoodIn big (c :: a)) (hb : GoodIn big b) : GoodIn big (c :: (a ++ b)) := fun w h => (List.mem_cons.mp h).elim (fun e => ha w (List.mem_cons.mpr (Or.inl e))) (fun h => (List.mem_append.mp h).elim (fun h => ha w (List.mem_cons.mpr (Or.inr h))) (hb w))
theorem goodIn_sub {big ws : List Cond} (hm : ∀ w ∈ ws, w ∈ big) (h : ws.all goodWord = true) : GoodIn big ws := fun w hw => ⟨hm w hw, good_of_word (List.all_eq_true.mp h w hw)⟩
def RX0 : String := "PunchedSouls$Blinker"
def TX0 : u_T := fun k => match k with
  | 0 => ("PunchedSouls$Hand", "number", "I", true)
  | _ => ("PunchedSouls$Hand", "v", "I", true)
def tyX0 : Nat → FieldType := fun k => match k with
  | 0 => .int
  | _ => .int
theorem nmX0 : ∀ a, a < 2 → ∀ b, b < 2 → a ≠ b → (TX0 a).2.1 ≠ (TX0 b).2.1 := by decide +kernel
theorem tyX0_ok : ∀ k, k < 2 → parseFieldDescriptor (TX0 k).2.2.1 = some (tyX0 k) := by decide +kernel
abbrev cX0_init : ByteArray := prog_2_method_1_code
def yX0_init : MethodName := ⟨RX0, "<init>", "(II)V"⟩
abbrev cX0_kind : ByteArray := prog_2_method_2_code
def yX0_kind : MethodName := ⟨RX0, "kind", "()I"⟩
abbrev cX0_punches : ByteArray := prog_2_method_3_code
def yX0_punches : MethodName := ⟨RX0, "punches", "(III)I"⟩
abbrev cX0_toils : ByteArray := prog_2_method_4_code
def yX0_toils : MethodName := ⟨RX0, "toils", "(Ljava/lang/StringBuilder;I)I"⟩
abbrev cX0_minds : ByteArray := prog_2_method_5_code
def yX0_minds : MethodName := ⟨RX0, "minds", "(Ljava/lang/StringBuilder;I)I"⟩
def RX1 : String := "PunchedSouls$Gate"
def TX1 : u_T := fun k => match k with
  | 0 => ("PunchedSouls$Gate", "workers", "[LPunchedSouls$Hand;", true)
  | 1 => ("PunchedSouls$Gate", "holes", "[I", true)
  | 2 => ("PunchedSouls$Gate", "has", "[I", true)
  | 3 => ("PunchedSouls$Gate", "rows", "[I", true)
  | 4 => ("PunchedSouls$Gate", "size", "I", false)
  | 5 => ("PunchedSouls$Gate", "atHome", "I", false)
  | 6 => ("PunchedSouls$Gate", "day", "I", false)
  | 7 => ("PunchedSouls$Gate", "holding", "LPunchedSouls$Works;", false)
  | 8 => ("PunchedSouls$Gate", "seen", "LPunchedSouls$Rows;", true)
  | 9 => ("PunchedSouls$Gate", "plan", "LPunchedSouls$Rows;", true)
  | _ => ("PunchedSouls$Gate", "book", "LPunchedSouls$Rows;", true)
def tyX1 : Nat → FieldType := fun k => match k with
  | 0 => .array (.object "PunchedSouls$Hand")
  | 1 => .array .int
  | 2 => .array .int
  | 3 => .array .int
  | 4 => .int
  | 5 => .int
  | 6 => .int
  | 7 => .object "PunchedSouls$Works"
  | 8 => .object "PunchedSouls$Rows"
  | 9 => .object "PunchedSouls$Rows"
  | _ => .object "PunchedSouls$Rows"
theorem nmX1 : ∀ a, a < 11 → ∀ b, b < 11 → a ≠ b → (TX1 a).2.1 ≠ (TX1 b).2.1 := by decide +kernel
theorem tyX1_ok : ∀ k, k < 11 → parseFieldDescriptor (TX1 k).2.2.1 = some (tyX1 k) := by decide +kernel
abbrev cX1_init : ByteArray := prog_3_method_1_code
def yX1_init : MethodName := ⟨RX1, "<init>", "()V"⟩
abbrev cX1_become : ByteArray := prog_3_method_2_code
def yX1_become : MethodName := ⟨RX1, "become", "(LPunchedSouls$Gate;)V"⟩
abbrev cX1_follow : ByteArray := prog_3_method_3_code
def yX1_follow : MethodName := ⟨RX1, "follow", "(LPunchedSouls$Gate;)V"⟩
abbrev cX1_hire : ByteArray := prog_3_method_4_code
def yX1_hire : MethodName := ⟨RX1, "hire", "(LPunchedSouls$Hand;)I"⟩
abbrev cX1_isAtHome : ByteArray := prog_3_method_5_code
def yX1_isAtHome : MethodName := ⟨RX1, "isAtHome", "(I)Z"⟩
abbrev cX1_keepAtHome : ByteArray := prog_3_method_6_code
def yX1_keepAtHome : MethodName := ⟨RX1, "keepAtHome", "(IZ)V"⟩
abbrev cX1_exchange : ByteArray := prog_3_method_7_code
def yX1_exchange : MethodName := ⟨RX1, "exchange", "(II)V"⟩
abbrev cX1_holder : ByteArray := prog_3_method_8_code
def yX1_holder : MethodName := ⟨RX1, "holder", "(I)I"⟩
abbrev cX1_ringOf : ByteArray := prog_3_method_9_code
def yX1_ringOf : MethodName := ⟨RX1, "ringOf", "(I)I"⟩
abbrev cX1_rings : ByteArray := prog_3_method_10_code
def yX1_rings : MethodName := ⟨RX1, "rings", "()I"⟩
abbrev cX1_allHoles : ByteArray := prog_3_method_11_code
def yX1_allHoles : MethodName := ⟨RX1, "allHoles", "()I"⟩
abbrev cX1_mostHoles : ByteArray := prog_3_method_12_code
def yX1_mostHoles : MethodName := ⟨RX1, "mostHoles", "()I"⟩
abbrev cX1_temper : ByteArray := prog_3_method_13_code
def yX1_temper : MethodName := ⟨RX1, "temper", "(II)I"⟩
abbrev cX1_allTemper : ByteArray := prog_3_method_14_code
def yX1_allTemper : MethodName := ⟨RX1, "allTemper", "()I"⟩
abbrev cX1_round : ByteArray := prog_3_method_15_code
def yX1_round : MethodName := ⟨RX1, "round", "()I"⟩
abbrev cX1_rowSlot : ByteArray := prog_3_method_16_code
def yX1_rowSlot : MethodName := ⟨RX1, "rowSlot", "(I)I"⟩
abbrev cX1_goDays : ByteArray := prog_3_method_17_code
def yX1_goDays : MethodName := ⟨RX1, "goDays", "(I)V"⟩
abbrev cX1_goDay : ByteArray := prog_3_method_18_code
def yX1_goDay : MethodName := ⟨RX1, "goDay", "()V"⟩
abbrev cX1_goRound : ByteArray := prog_3_method_19_code
def yX1_goRound : MethodName := ⟨RX1, "goRound", "()V"⟩
abbrev cX1_goPlanned : ByteArray := prog_3_method_20_code
def yX1_goPlanned : MethodName := ⟨RX1, "goPlanned", "(II)V"⟩
def RX2 : String := "PunchedSouls$Hand"
def TX2 : u_T := fun k => match k with
  | 0 => ("PunchedSouls$Hand", "number", "I", true)
  | _ => ("PunchedSouls$Hand", "v", "I", true)
def tyX2 : Nat → FieldType := fun k => match k with
  | 0 => .int
  | _ => .int
theorem nmX2 : ∀ a, a < 2 → ∀ b, b < 2 → a ≠ b → (TX2 a).2.1 ≠ (TX2 b).2.1 := by decide +kernel
theorem tyX2_ok : ∀ k, k < 2 → parseFieldDescriptor (TX2 k).2.2.1 = some (tyX2 k) := by decide +kernel
abbrev cX2_init : ByteArray := prog_4_method_1_code
def yX2_init : MethodName := ⟨RX2, "<init>", "(II)V"⟩
abbrev cX2_kind : ByteArray := prog_4_method_2_code
def yX2_kind : MethodName := ⟨RX2, "kind", "()I"⟩
abbrev cX2_temper : ByteArray := prog_4_method_3_code
def yX2_temper : MethodName := ⟨RX2, "temper", "(II)I"⟩
abbrev cX2_punches : ByteArray := prog_4_method_4_code
def yX2_punches : MethodName := ⟨RX2, "punches", "(III)I"⟩
abbrev cX2_toils : ByteArray := prog_4_method_5_code
def yX2_toils : MethodName := ⟨RX2, "toils", "(Ljava/lang/StringBuilder;I)I"⟩
abbrev cX2_minds : ByteArray := prog_4_method_6_code
def yX2_minds : MethodName := ⟨RX2, "minds", "(Ljava/lang/StringBuilder;I)I"⟩
abbrev cX2_tells : ByteArray := prog_4_method_7_code
def yX2_tells : MethodName := ⟨RX2, "tells", "(Ljava/lang/StringBuilder;I)I"⟩
abbrev cX2_further : ByteArray := prog_4_method_8_code
def yX2_further : MethodName := ⟨RX2, "further", "(II)I"⟩
def RX3 : String := "PunchedSouls$Lad"
def TX3 : u_T := fun k => match k with
  | 0 => ("PunchedSouls$Hand", "number", "I", true)
  | _ => ("PunchedSouls$Hand", "v", "I", true)
def tyX3 : Nat → FieldType := fun k => match k with
  | 0 => .int
  | _ => .int
theorem nmX3 : ∀ a, a < 2 → ∀ b, b < 2 → a ≠ b → (TX3 a).2.1 ≠ (TX3 b).2.1 := by decide +kernel
theorem tyX3_ok : ∀ k, k < 2 → parseFieldDescriptor (TX3 k).2.2.1 = some (tyX3 k) := by decide +kernel
abbrev cX3_init : ByteArray := prog_5_method_1_code
def yX3_init : MethodName := ⟨RX3, "<init>", "(II)V"⟩
abbrev cX3_kind : ByteArray := prog_5_method_2_code
def yX3_kind : MethodName := ⟨RX3, "kind", "()I"⟩
abbrev cX3_temper : ByteArray := prog_5_method_3_code
def yX3_temper : MethodName := ⟨RX3, "temper", "(II)I"⟩
abbrev cX3_punches : ByteArray := prog_5_method_4_code
def yX3_punches : MethodName := ⟨RX3, "punches", "(III)I"⟩
abbrev cX3_toils : ByteArray := prog_5_method_5_code
def yX3_toils : MethodName := ⟨RX3, "toils", "(Ljava/lang/StringBuilder;I)I"⟩
def RX4 : String := "PunchedSouls$Late"
def TX4 : u_T := fun k => match k with
  | 0 => ("PunchedSouls$Hand", "number", "I", true)
  | _ => ("PunchedSouls$Hand", "v", "I", true)
def tyX4 : Nat → FieldType := fun k => match k with
  | 0 => .int
  | _ => .int
theorem nmX4 : ∀ a, a < 2 → ∀ b, b < 2 → a ≠ b → (TX4 a).2.1 ≠ (TX4 b).2.1 := by decide +kernel
theorem tyX4_ok : ∀ k, k < 2 → parseFieldDescriptor (TX4 k).2.2.1 = some (tyX4 k) := by decide +kernel
abbrev cX4_init : ByteArray := prog_6_method_1_code
def yX4_init : MethodName := ⟨RX4, "<init>", "(II)V"⟩
abbrev cX4_kind : ByteArray := prog_6_method_2_code
def yX4_kind : MethodName := ⟨RX4, "kind", "()I"⟩
abbrev cX4_punches : ByteArray := prog_6_method_3_code
def yX4_punches : MethodName := ⟨RX4, "punches", "(III)I"⟩
abbrev cX4_minds : ByteArray := prog_6_method_4_code
def yX4_minds : MethodName := ⟨RX4, "minds", "(Ljava/lang/StringBuilder;I)I"⟩
def RX5 : String := "PunchedSouls$Minder"
def TX5 : u_T := fun k => match k with
  | 0 => ("PunchedSouls$Hand", "number", "I", true)
  | _ => ("PunchedSouls$Hand", "v", "I", true)
def tyX5 : Nat → FieldType := fun k => match k with
  | 0 => .int
  | _ => .int
theorem nmX5 : ∀ a, a < 2 → ∀ b, b < 2 → a ≠ b → (TX5 a).2.1 ≠ (TX5 b).2.1 := by decide +kernel
theorem tyX5_ok : ∀ k, k < 2 → parseFieldDescriptor (TX5 k).2.2.1 = some (tyX5 k) := by decide +kernel
abbrev cX5_init : ByteArray := prog_7_method_1_code
def yX5_init : MethodName := ⟨RX5, "<init>", "(II)V"⟩
abbrev cX5_kind : ByteArray := prog_7_method_2_code
def yX5_kind : MethodName := ⟨RX5, "kind", "()I"⟩
abbrev cX5_punches : ByteArray := prog_7_method_3_code
def yX5_punches : MethodName := ⟨RX5, "punches", "(III)I"⟩
abbrev cX5_tells : ByteArray := prog_7_method_4_code
def yX5_tells : MethodName := ⟨RX5, "tells", "(Ljava/lang/StringBuilder;I)I"⟩
def RX6 : String := "PunchedSouls$Old"
def TX6 : u_T := fun k => match k with
  | 0 => ("PunchedSouls$Hand", "number", "I", true)
  | _ => ("PunchedSouls$Hand", "v", "I", true)
def tyX6 : Nat → FieldType := fun k => match k with
  | 0 => .int
  | _ => .int
theorem nmX6 : ∀ a, a < 2 → ∀ b, b < 2 → a ≠ b → (TX6 a).2.1 ≠ (TX6 b).2.1 := by decide +kernel
theorem tyX6_ok : ∀ k, k < 2 → parseFieldDescriptor (TX6 k).2.2.1 = some (tyX6 k) := by decide +kernel
abbrev cX6_init : ByteArray := prog_8_method_1_code
def yX6_init : MethodName := ⟨RX6, "<init>", "(II)V"⟩
abbrev cX6_kind : ByteArray := prog_8_method_2_code
def yX6_kind : MethodName := ⟨RX6, "kind", "()I"⟩
abbrev cX6_temper : ByteArray := prog_8_method_3_code
def yX6_temper : MethodName := ⟨RX6, "temper", "(II)I"⟩
abbrev cX6_punches : ByteArray := prog_8_method_4_code
def yX6_punches : MethodName := ⟨RX6, "punches", "(III)I"⟩
abbrev cX6_tells : ByteArray := prog_8_method_5_code
def yX6_tells : MethodName := ⟨RX6, "tells", "(Ljava/lang/StringBuilder;I)I"⟩
def RX7 : String := "PunchedSouls$Reader"
def TX7 : u_T := fun k => match k with
  | 0 => ("PunchedSouls$Reader", "text", "[C", true)
  | 1 => ("PunchedSouls$Reader", "size", "I", true)
  | 2 => ("PunchedSouls$Reader", "works", "LPunchedSouls$Works;", true)
  | _ => ("PunchedSouls$Reader", "at", "I", false)
def tyX7 : Nat → FieldType := fun k => match k with
  | 0 => .array .char
  | 1 => .int
  | 2 => .object "PunchedSouls$Works"
  | _ => .int
theorem nmX7 : ∀ a, a < 4 → ∀ b, b < 4 → a ≠ b → (TX7 a).2.1 ≠ (TX7 b).2.1 := by decide +kernel
theorem tyX7_ok : ∀ k, k < 4 → parseFieldDescriptor (TX7 k).2.2.1 = some (tyX7 k) := by decide +kernel
abbrev cX7_init : ByteArray := prog_9_method_1_code
def yX7_init : MethodName := ⟨RX7, "<init>", "([CI)V"⟩
abbrev cX7_isWorks : ByteArray := prog_9_method_2_code
def yX7_isWorks : MethodName := ⟨RX7, "isWorks", "()Z"⟩
abbrev cX7_isClause : ByteArray := prog_9_method_3_code
def yX7_isClause : MethodName := ⟨RX7, "isClause", "()Z"⟩
abbrev cX7_isEither : ByteArray := prog_9_method_4_code
def yX7_isEither : MethodName := ⟨RX7, "isEither", "(I)Z"⟩
abbrev cX7_isFactor : ByteArray := prog_9_method_5_code
def yX7_isFactor : MethodName := ⟨RX7, "isFactor", "(I)Z"⟩
abbrev cX7_isTest : ByteArray := prog_9_method_6_code
def yX7_isTest : MethodName := ⟨RX7, "isTest", "()Z"⟩
abbrev cX7_number : ByteArray := prog_9_method_7_code
def yX7_number : MethodName := ⟨RX7, "number", "()I"⟩
abbrev cX7_spells : ByteArray := prog_9_method_8_code
def yX7_spells : MethodName := ⟨RX7, "spells", "(Ljava/lang/String;)Z"⟩
abbrev cX7_takes : ByteArray := prog_9_method_9_code
def yX7_takes : MethodName := ⟨RX7, "takes", "(C)Z"⟩
abbrev cX7_sign : ByteArray := prog_9_method_10_code
def yX7_sign : MethodName := ⟨RX7, "sign", "()I"⟩
def RX8 : String := "PunchedSouls$Rows"
def TX8 : u_T := fun k => match k with
  | 0 => ("PunchedSouls$Rows", "first", "[I", true)
  | 1 => ("PunchedSouls$Rows", "second", "[I", true)
  | 2 => ("PunchedSouls$Rows", "third", "[I", true)
  | _ => ("PunchedSouls$Rows", "size", "I", false)
def tyX8 : Nat → FieldType := fun k => match k with
  | 0 => .array .int
  | 1 => .array .int
  | 2 => .array .int
  | _ => .int
theorem nmX8 : ∀ a, a < 4 → ∀ b, b < 4 → a ≠ b → (TX8 a).2.1 ≠ (TX8 b).2.1 := by decide +kernel
theorem tyX8_ok : ∀ k, k < 4 → parseFieldDescriptor (TX8 k).2.2.1 = some (tyX8 k) := by decide +kernel
abbrev cX8_init : ByteArray := prog_10_method_1_code
def yX8_init : MethodName := ⟨RX8, "<init>", "(I)V"⟩
abbrev cX8_add : ByteArray := prog_10_method_2_code
def yX8_add : MethodName := ⟨RX8, "add", "(III)I"⟩
abbrev cX8_become : ByteArray := prog_10_method_3_code
def yX8_become : MethodName := ⟨RX8, "become", "(LPunchedSouls$Rows;)V"⟩
abbrev cX8_greatestThird : ByteArray := prog_10_method_4_code
def yX8_greatestThird : MethodName := ⟨RX8, "greatestThird", "()I"⟩
def RX9 : String := "PunchedSouls$Told"
def TX9 : u_T := fun k => match k with
  | 0 => ("PunchedSouls$Hand", "number", "I", true)
  | _ => ("PunchedSouls$Hand", "v", "I", true)
def tyX9 : Nat → FieldType := fun k => match k with
  | 0 => .int
  | _ => .int
theorem nmX9 : ∀ a, a < 2 → ∀ b, b < 2 → a ≠ b → (TX9 a).2.1 ≠ (TX9 b).2.1 := by decide +kernel
theorem tyX9_ok : ∀ k, k < 2 → parseFieldDescriptor (TX9 k).2.2.1 = some (tyX9 k) := by decide +kernel
abbrev cX9_init : ByteArray := prog_11_method_1_code
def yX9_init : MethodName := ⟨RX9, "<init>", "(II)V"⟩
abbrev cX9_kind : ByteArray := prog_11_method_2_code
def yX9_kind : MethodName := ⟨RX9, "kind", "()I"⟩
abbrev cX9_punches : ByteArray := prog_11_method_3_code
def yX9_punches : MethodName := ⟨RX9, "punches", "(III)I"⟩
abbrev cX9_minds : ByteArray := prog_11_method_4_code
def yX9_minds : MethodName := ⟨RX9, "minds", "(Ljava/lang/StringBuilder;I)I"⟩
abbrev cX9_toils : ByteArray := prog_11_method_5_code
def yX9_toils : MethodName := ⟨RX9, "toils", "(Ljava/lang/StringBuilder;I)I"⟩
def RX10 : String := "PunchedSouls$Works"
def TX10 : u_T := fun k => match k with
  | 0 => ("PunchedSouls$Works", "steps", "[I", true)
  | 1 => ("PunchedSouls$Works", "letters", "[I", true)
  | 2 => ("PunchedSouls$Works", "numbers", "[I", true)
  | 3 => ("PunchedSouls$Works", "size", "I", false)
  | _ => ("PunchedSouls$Works", "round", "I", false)
def tyX10 : Nat → FieldType := fun k => match k with
  | 0 => .array .int
  | 1 => .array .int
  | 2 => .array .int
  | 3 => .int
  | _ => .int
theorem nmX10 : ∀ a, a < 5 → ∀ b, b < 5 → a ≠ b → (TX10 a).2.1 ≠ (TX10 b).2.1 := by decide +kernel
theorem tyX10_ok : ∀ k, k < 5 → parseFieldDescriptor (TX10 k).2.2.1 = some (tyX10 k) := by decide +kernel
abbrev cX10_init : ByteArray := prog_12_method_1_code
def yX10_init : MethodName := ⟨RX10, "<init>", "(I)V"⟩
abbrev cX10_add : ByteArray := prog_12_method_2_code
def yX10_add : MethodName := ⟨RX10, "add", "(III)V"⟩
abbrev cX10_moodOf : ByteArray := prog_12_method_3_code
def yX10_moodOf : MethodName := ⟨RX10, "moodOf", "(LPunchedSouls$Hand;III)I"⟩
abbrev cX10_valueOf : ByteArray := prog_12_method_4_code
def yX10_valueOf : MethodName := ⟨RX10, "valueOf", "(ILPunchedSouls$Hand;III)I"⟩
abbrev cX10_isSo : ByteArray := prog_12_method_5_code
def yX10_isSo : MethodName := ⟨RX10, "isSo", "(III)Z"⟩
def RX11 : String := "PunchedSouls"
def TX11 : u_T := fun k => match k with
  | 0 => ("PunchedSouls", "now", "LPunchedSouls$Gate;", true)
  | 1 => ("PunchedSouls", "trial", "LPunchedSouls$Gate;", true)
  | 2 => ("PunchedSouls", "kept", "LPunchedSouls$Gate;", true)
  | 3 => ("PunchedSouls", "isKept", "Z", false)
  | 4 => ("PunchedSouls", "text", "[C", true)
  | 5 => ("PunchedSouls", "textSize", "I", false)
  | 6 => ("PunchedSouls", "worksCount", "I", false)
  | 7 => ("PunchedSouls", "ran", "Ljava/lang/StringBuilder;", true)
  | 8 => ("PunchedSouls", "tempers", "[I", true)
  | 9 => ("PunchedSouls", "greatest", "[I", true)
  | 10 => ("PunchedSouls", "sorts", "[I", true)
  | 11 => ("PunchedSouls", "lengths", "[I", true)
  | _ => ("PunchedSouls", "items", "[J", true)
def tyX11 : Nat → FieldType := fun k => match k with
  | 0 => .object "PunchedSouls$Gate"
  | 1 => .object "PunchedSouls$Gate"
  | 2 => .object "PunchedSouls$Gate"
  | 3 => .boolean
  | 4 => .array .char
  | 5 => .int
  | 6 => .int
  | 7 => .object "java/lang/StringBuilder"
  | 8 => .array .int
  | 9 => .array .int
  | 10 => .array .int
  | 11 => .array .int
  | _ => .array .long
theorem nmX11 : ∀ a, a < 13 → ∀ b, b < 13 → a ≠ b → (TX11 a).2.1 ≠ (TX11 b).2.1 := by decide +kernel
theorem tyX11_ok : ∀ k, k < 13 → parseFieldDescriptor (TX11 k).2.2.1 = some (tyX11 k) := by decide +kernel
abbrev cX11_init : ByteArray := prog_1_method_1_code
def yX11_init : MethodName := ⟨RX11, "<init>", "()V"⟩
abbrev cX11_worker : ByteArray := prog_1_method_2_code
def yX11_worker : MethodName := ⟨RX11, "worker", "(II)I"⟩
abbrev cX11_of : ByteArray := prog_1_method_3_code
def yX11_of : MethodName := ⟨RX11, "of", "(II)I"⟩
abbrev cX11_set : ByteArray := prog_1_method_4_code
def yX11_set : MethodName := ⟨RX11, "set", "(II)I"⟩
abbrev cX11_swap : ByteArray := prog_1_method_5_code
def yX11_swap : MethodName := ⟨RX11, "swap", "(II)I"⟩
abbrev cX11_stay : ByteArray := prog_1_method_6_code
def yX11_stay : MethodName := ⟨RX11, "stay", "(IZ)I"⟩
abbrev cX11_row : ByteArray := prog_1_method_7_code
def yX11_row : MethodName := ⟨RX11, "row", "(III)I"⟩
abbrev cX11_feed : ByteArray := prog_1_method_8_code
def yX11_feed : MethodName := ⟨RX11, "feed", "(I)I"⟩
abbrev cX11_works : ByteArray := prog_1_method_9_code
def yX11_works : MethodName := ⟨RX11, "works", "()I"⟩
abbrev cX11_told : ByteArray := prog_1_method_10_code
def yX11_told : MethodName := ⟨RX11, "told", "(I)I"⟩
abbrev cX11_pass : ByteArray := prog_1_method_11_code
def yX11_pass : MethodName := ⟨RX11, "pass", "(I)I"⟩
abbrev cX11_on : ByteArray := prog_1_method_12_code
def yX11_on : MethodName := ⟨RX11, "on", "(II)I"⟩
abbrev cX11_full : ByteArray := prog_1_method_13_code
def yX11_full : MethodName := ⟨RX11, "full", "(II)I"⟩
abbrev cX11_best : ByteArray := prog_1_method_14_code
def yX11_best : MethodName := ⟨RX11, "best", "(I)I"⟩
abbrev cX11_see : ByteArray := prog_1_method_15_code
def yX11_see : MethodName := ⟨RX11, "see", "(III)I"⟩
abbrev cX11_had : ByteArray := prog_1_method_16_code
def yX11_had : MethodName := ⟨RX11, "had", "(I)I"⟩
abbrev cX11_can : ByteArray := prog_1_method_17_code
def yX11_can : MethodName := ⟨RX11, "can", "(II)I"⟩
abbrev cX11_odds : ByteArray := prog_1_method_18_code
def yX11_odds : MethodName := ⟨RX11, "odds", "(III)J"⟩
abbrev cX11_mean : ByteArray := prog_1_method_19_code
def yX11_mean : MethodName := ⟨RX11, "mean", "(II)J"⟩
abbrev cX11_plan : ByteArray := prog_1_method_20_code
def yX11_plan : MethodName := ⟨RX11, "plan", "(II)I"⟩
abbrev cX11_ends : ByteArray := prog_1_method_21_code
def yX11_ends : MethodName := ⟨RX11, "ends", "(I)I"⟩
abbrev cX11_book : ByteArray := prog_1_method_22_code
def yX11_book : MethodName := ⟨RX11, "book", "(II)I"⟩
abbrev cX11_looked : ByteArray := prog_1_method_23_code
def yX11_looked : MethodName := ⟨RX11, "looked", "()I"⟩
abbrev cX11_judge : ByteArray := prog_1_method_24_code
def yX11_judge : MethodName := ⟨RX11, "judge", "(II)I"⟩
abbrev cX11_image : ByteArray := prog_1_method_25_code
def yX11_image : MethodName := ⟨RX11, "image", "()I"⟩
abbrev cX11_undo : ByteArray := prog_1_method_26_code
def yX11_undo : MethodName := ⟨RX11, "undo", "()I"⟩
abbrev cX11_act : ByteArray := prog_1_method_27_code
def yX11_act : MethodName := ⟨RX11, "act", "(III)I"⟩
abbrev cX11_trace : ByteArray := prog_1_method_28_code
def yX11_trace : MethodName := ⟨RX11, "trace", "(I)I"⟩
abbrev cX11_taken : ByteArray := prog_1_method_29_code
def yX11_taken : MethodName := ⟨RX11, "taken", "(II)I"⟩
abbrev cX11_count : ByteArray := prog_1_method_30_code
def yX11_count : MethodName := ⟨RX11, "count", "(I)I"⟩
abbrev cX11_tape : ByteArray := prog_1_method_31_code
def yX11_tape : MethodName := ⟨RX11, "tape", "(III)I"⟩
abbrev cX11_item : ByteArray := prog_1_method_32_code
def yX11_item : MethodName := ⟨RX11, "item", "(IIJ)I"⟩
abbrev cX11_read : ByteArray := prog_1_method_33_code
def yX11_read : MethodName := ⟨RX11, "read", "(II)J"⟩
abbrev cX11_shift : ByteArray := prog_1_method_34_code
def yX11_shift : MethodName := ⟨RX11, "shift", "(IIIII)I"⟩
abbrev cX11_isKind : ByteArray := prog_1_method_35_code
def yX11_isKind : MethodName := ⟨RX11, "isKind", "(I)Z"⟩
abbrev cX11_isDigit : ByteArray := prog_1_method_36_code
def yX11_isDigit : MethodName := ⟨RX11, "isDigit", "(I)Z"⟩
abbrev cX11_areHoles : ByteArray := prog_1_method_37_code
def yX11_areHoles : MethodName := ⟨RX11, "areHoles", "(I)Z"⟩
abbrev cX11_areDays : ByteArray := prog_1_method_38_code
def yX11_areDays : MethodName := ⟨RX11, "areDays", "(I)Z"⟩
abbrev cX11_isWorker : ByteArray := prog_1_method_39_code
def yX11_isWorker : MethodName := ⟨RX11, "isWorker", "(I)Z"⟩
abbrev cX11_isTape : ByteArray := prog_1_method_40_code
def yX11_isTape : MethodName := ⟨RX11, "isTape", "(I)Z"⟩
abbrev cX11_isPlace : ByteArray := prog_1_method_41_code
def yX11_isPlace : MethodName := ⟨RX11, "isPlace", "(II)Z"⟩
abbrev cX11_fitted : ByteArray := prog_1_method_42_code
def yX11_fitted : MethodName := ⟨RX11, "fitted", "(IJ)J"⟩
abbrev cX11_made : ByteArray := prog_1_method_43_code
def yX11_made : MethodName := ⟨RX11, "made", "(III)LPunchedSouls$Hand;"⟩
abbrev cX11_isUnder : ByteArray := prog_1_method_44_code
def yX11_isUnder : MethodName := ⟨RX11, "isUnder", "(LPunchedSouls$Hand;I)Z"⟩
abbrev cX11_firstSwap : ByteArray := prog_1_method_45_code
def yX11_firstSwap : MethodName := ⟨RX11, "firstSwap", "()I"⟩
abbrev cX11_sparingSwap : ByteArray := prog_1_method_46_code
def yX11_sparingSwap : MethodName := ⟨RX11, "sparingSwap", "()I"⟩
abbrev cX11_mostHolesAfterSwap : ByteArray := prog_1_method_47_code
def yX11_mostHolesAfterSwap : MethodName := ⟨RX11, "mostHolesAfterSwap", "(II)I"⟩
abbrev cX11_weighAllWays : ByteArray := prog_1_method_48_code
def yX11_weighAllWays : MethodName := ⟨RX11, "weighAllWays", "()V"⟩
abbrev cX11_firstBest : ByteArray := prog_1_method_49_code
def yX11_firstBest : MethodName := ⟨RX11, "firstBest", "(I)I"⟩
abbrev cX11_with : ByteArray := prog_1_method_50_code
def yX11_with : MethodName := ⟨RX11, "with", "(II)I"⟩
abbrev cX11_bestCard : ByteArray := prog_1_method_51_code
def yX11_bestCard : MethodName := ⟨RX11, "bestCard", "(I)I"⟩
abbrev cX11_trialMeetsSeen : ByteArray := prog_1_method_52_code
def yX11_trialMeetsSeen : MethodName := ⟨RX11, "trialMeetsSeen", "()Z"⟩
abbrev cX11_ofFraction : ByteArray := prog_1_method_53_code
def yX11_ofFraction : MethodName := ⟨RX11, "ofFraction", "(III)J"⟩
abbrev cX11_commonDivisor : ByteArray := prog_1_method_54_code
def yX11_commonDivisor : MethodName := ⟨RX11, "commonDivisor", "(II)I"⟩
def RX12 : String := "PunchedSoulsModel"
def TX12 : u_T := fun k => match k with
  | 0 => ("PunchedSoulsModel", "workers", "I", false)
  | 1 => ("PunchedSoulsModel", "resting", "I", false)
  | 2 => ("PunchedSoulsModel", "days", "I", false)
  | 3 => ("PunchedSoulsModel", "kind", "[I", true)
  | 4 => ("PunchedSoulsModel", "v", "[I", true)
  | 5 => ("PunchedSoulsModel", "card", "[I", true)
  | 6 => ("PunchedSoulsModel", "holes", "[I", true)
  | 7 => ("PunchedSoulsModel", "rows", "[I", true)
  | 8 => ("PunchedSoulsModel", "mills", "I", false)
  | 9 => ("PunchedSoulsModel", "the", "I", false)
  | 10 => ("PunchedSoulsModel", "fed", "I", false)
  | 11 => ("PunchedSoulsModel", "at", "I", false)
  | 12 => ("PunchedSoulsModel", "digits", "I", false)
  | 13 => ("PunchedSoulsModel", "text", "[I", true)
  | 14 => ("PunchedSoulsModel", "clauses", "[I", true)
  | 15 => ("PunchedSoulsModel", "word", "[I", true)
  | 16 => ("PunchedSoulsModel", "number", "[I", true)
  | 17 => ("PunchedSoulsModel", "from", "[I", true)
  | 18 => ("PunchedSoulsModel", "to", "[I", true)
  | 19 => ("PunchedSoulsModel", "sign", "[I", true)
  | 20 => ("PunchedSoulsModel", "waits", "[I", true)
  | 21 => ("PunchedSoulsModel", "signs", "I", false)
  | 22 => ("PunchedSoulsModel", "waiting", "I", false)
  | 23 => ("PunchedSoulsModel", "open", "I", false)
  | 24 => ("PunchedSoulsModel", "letters", "[I", true)
  | 25 => ("PunchedSoulsModel", "pile", "[Z", true)
  | 26 => ("PunchedSoulsModel", "hadCard", "[I", true)
  | 27 => ("PunchedSoulsModel", "keptResting", "I", false)
  | 28 => ("PunchedSoulsModel", "keptDays", "I", false)
  | 29 => ("PunchedSoulsModel", "keptCard", "[I", true)
  | 30 => ("PunchedSoulsModel", "keptHoles", "[I", true)
  | 31 => ("PunchedSoulsModel", "laid", "[I", true)
  | 32 => ("PunchedSoulsModel", "tried", "[I", true)
  | 33 => ("PunchedSoulsModel", "bestCard", "[I", true)
  | 34 => ("PunchedSoulsModel", "seen", "I", false)
  | 35 => ("PunchedSoulsModel", "seenCard", "[I", true)
  | 36 => ("PunchedSoulsModel", "seenHoles", "[I", true)
  | 37 => ("PunchedSoulsModel", "seenWhen", "[I", true)
  | 38 => ("PunchedSoulsModel", "plans", "I", false)
  | 39 => ("PunchedSoulsModel", "books", "I", false)
  | 40 => ("PunchedSoulsModel", "planWhat", "[I", true)
  | 41 => ("PunchedSoulsModel", "planNumber", "[I", true)
  | 42 => ("PunchedSoulsModel", "bookCard", "[I", true)
  | 43 => ("PunchedSoulsModel", "bookHoles", "[I", true)
  | 44 => ("PunchedSoulsModel", "hasImage", "Z", false)
  | 45 => ("PunchedSoulsModel", "imageThe", "I", false)
  | 46 => ("PunchedSoulsModel", "imageWorkers", "I", false)
  | 47 => ("PunchedSoulsModel", "imageResting", "I", false)
  | 48 => ("PunchedSoulsModel", "imageDays", "I", false)
  | 49 => ("PunchedSoulsModel", "imageSeen", "I", false)
  | 50 => ("PunchedSoulsModel", "imagePlans", "I", false)
  | 51 => ("PunchedSoulsModel", "imageBooks", "I", false)
  | 52 => ("PunchedSoulsModel", "imageKind", "[I", true)
  | 53 => ("PunchedSoulsModel", "imageV", "[I", true)
  | 54 => ("PunchedSoulsModel", "imageCard", "[I", true)
  | 55 => ("PunchedSoulsModel", "imageHoles", "[I", true)
  | 56 => ("PunchedSoulsModel", "imageRows", "[I", true)
  | 57 => ("PunchedSoulsModel", "imageSeenCard", "[I", true)
  | 58 => ("PunchedSoulsModel", "imageSeenHoles", "[I", true)
  | 59 => ("PunchedSoulsModel", "imageWhen", "[I", true)
  | 60 => ("PunchedSoulsModel", "imageWhat", "[I", true)
  | 61 => ("PunchedSoulsModel", "imageNumber", "[I", true)
  | 62 => ("PunchedSoulsModel", "imageBookCard", "[I", true)
  | 63 => ("PunchedSoulsModel", "imageBookHoles", "[I", true)
  | 64 => ("PunchedSoulsModel", "ran", "I", false)
  | 65 => ("PunchedSoulsModel", "bodies", "[I", true)
  | 66 => ("PunchedSoulsModel", "sort", "[I", true)
  | 67 => ("PunchedSoulsModel", "length", "[I", true)
  | 68 => ("PunchedSoulsModel", "item", "[J", true)
  | _ => ("PunchedSoulsModel", "aside", "[J", true)
def tyX12 : Nat → FieldType := fun k => match k with
  | 0 => .int
  | 1 => .int
  | 2 => .int
  | 3 => .array .int
  | 4 => .array .int
  | 5 => .array .int
  | 6 => .array .int
  | 7 => .array .int
  | 8 => .int
  | 9 => .int
  | 10 => .int
  | 11 => .int
  | 12 => .int
  | 13 => .array .int
  | 14 => .array .int
  | 15 => .array .int
  | 16 => .array .int
  | 17 => .array .int
  | 18 => .array .int
  | 19 => .array .int
  | 20 => .array .int
  | 21 => .int
  | 22 => .int
  | 23 => .int
  | 24 => .array .int
  | 25 => .array .boolean
  | 26 => .array .int
  | 27 => .int
  | 28 => .int
  | 29 => .array .int
  | 30 => .array .int
  | 31 => .array .int
  | 32 => .array .int
  | 33 => .array .int
  | 34 => .int
  | 35 => .array .int
  | 36 => .array .int
  | 37 => .array .int
  | 38 => .int
  | 39 => .int
  | 40 => .array .int
  | 41 => .array .int
  | 42 => .array .int
  | 43 => .array .int
  | 44 => .boolean
  | 45 => .int
  | 46 => .int
  | 47 => .int
  | 48 => .int
  | 49 => .int
  | 50 => .int
  | 51 => .int
  | 52 => .array .int
  | 53 => .array .int
  | 54 => .array .int
  | 55 => .array .int
  | 56 => .array .int
  | 57 => .array .int
  | 58 => .array .int
  | 59 => .array .int
  | 60 => .array .int
  | 61 => .array .int
  | 62 => .array .int
  | 63 => .array .int
  | 64 => .int
  | 65 => .array .int
  | 66 => .array .int
  | 67 => .array .int
  | 68 => .array .long
  | _ => .array .long
theorem nmX12 : ∀ a, a < 70 → ∀ b, b < 70 → a ≠ b → (TX12 a).2.1 ≠ (TX12 b).2.1 := by decide +kernel
theorem tyX12_ok : ∀ k, k < 70 → parseFieldDescriptor (TX12 k).2.2.1 = some (tyX12 k) := by decide +kernel
abbrev cX12_init : ByteArray := prog_14_method_1_code
def yX12_init : MethodName := ⟨RX12, "<init>", "()V"⟩
abbrev cX12_in : ByteArray := prog_14_method_2_code
def yX12_in : MethodName := ⟨RX12, "in", "(III)Z"⟩
abbrev cX12_has : ByteArray := prog_14_method_3_code
def yX12_has : MethodName := ⟨RX12, "has", "(II)Z"⟩
abbrev cX12_bits : ByteArray := prog_14_method_4_code
def yX12_bits : MethodName := ⟨RX12, "bits", "(I)I"⟩
abbrev cX12_isWorker : ByteArray := prog_14_method_5_code
def yX12_isWorker : MethodName := ⟨RX12, "isWorker", "(I)Z"⟩
abbrev cX12_isHoles : ByteArray := prog_14_method_6_code
def yX12_isHoles : MethodName := ⟨RX12, "isHoles", "(I)Z"⟩
abbrev cX12_isDays : ByteArray := prog_14_method_7_code
def yX12_isDays : MethodName := ⟨RX12, "isDays", "(I)Z"⟩
abbrev cX12_worker : ByteArray := prog_14_method_8_code
def yX12_worker : MethodName := ⟨RX12, "worker", "(II)I"⟩
abbrev cX12_set : ByteArray := prog_14_method_9_code
def yX12_set : MethodName := ⟨RX12, "set", "(II)I"⟩
abbrev cX12_swaps : ByteArray := prog_14_method_10_code
def yX12_swaps : MethodName := ⟨RX12, "swaps", "(II)V"⟩
abbrev cX12_swap : ByteArray := prog_14_method_11_code
def yX12_swap : MethodName := ⟨RX12, "swap", "(II)I"⟩
abbrev cX12_rests : ByteArray := prog_14_method_12_code
def yX12_rests : MethodName := ⟨RX12, "rests", "(IZ)V"⟩
abbrev cX12_stay : ByteArray := prog_14_method_13_code
def yX12_stay : MethodName := ⟨RX12, "stay", "(IZ)I"⟩
abbrev cX12_row : ByteArray := prog_14_method_14_code
def yX12_row : MethodName := ⟨RX12, "row", "(III)I"⟩
abbrev cX12_feed : ByteArray := prog_14_method_15_code
def yX12_feed : MethodName := ⟨RX12, "feed", "(I)I"⟩
abbrev cX12_next : ByteArray := prog_14_method_16_code
def yX12_next : MethodName := ⟨RX12, "next", "()I"⟩
abbrev cX12_takes : ByteArray := prog_14_method_17_code
def yX12_takes : MethodName := ⟨RX12, "takes", "(I)Z"⟩
abbrev cX12_takesWord : ByteArray := prog_14_method_18_code
def yX12_takesWord : MethodName := ⟨RX12, "takesWord", "(II)Z"⟩
abbrev cX12_isDigit : ByteArray := prog_14_method_19_code
def yX12_isDigit : MethodName := ⟨RX12, "isDigit", "()Z"⟩
abbrev cX12_takesNumber : ByteArray := prog_14_method_20_code
def yX12_takesNumber : MethodName := ⟨RX12, "takesNumber", "()Z"⟩
abbrev cX12_emits : ByteArray := prog_14_method_21_code
def yX12_emits : MethodName := ⟨RX12, "emits", "(I)V"⟩
abbrev cX12_whole : ByteArray := prog_14_method_22_code
def yX12_whole : MethodName := ⟨RX12, "whole", "()V"⟩
abbrev cX12_settle : ByteArray := prog_14_method_23_code
def yX12_settle : MethodName := ⟨RX12, "settle", "(I)V"⟩
abbrev cX12_place : ByteArray := prog_14_method_24_code
def yX12_place : MethodName := ⟨RX12, "place", "(I)I"⟩
abbrev cX12_takesTest : ByteArray := prog_14_method_25_code
def yX12_takesTest : MethodName := ⟨RX12, "takesTest", "()Z"⟩
abbrev cX12_takesE : ByteArray := prog_14_method_26_code
def yX12_takesE : MethodName := ⟨RX12, "takesE", "(I)Z"⟩
abbrev cX12_takesHead : ByteArray := prog_14_method_27_code
def yX12_takesHead : MethodName := ⟨RX12, "takesHead", "(I)Z"⟩
abbrev cX12_takesClause : ByteArray := prog_14_method_28_code
def yX12_takesClause : MethodName := ⟨RX12, "takesClause", "(I)Z"⟩
abbrev cX12_goesText : ByteArray := prog_14_method_29_code
def yX12_goesText : MethodName := ⟨RX12, "goesText", "(I)Z"⟩
abbrev cX12_works : ByteArray := prog_14_method_30_code
def yX12_works : MethodName := ⟨RX12, "works", "()I"⟩
abbrev cX12_begin : ByteArray := prog_14_method_31_code
def yX12_begin : MethodName := ⟨RX12, "begin", "()I"⟩
abbrev cX12_behind : ByteArray := prog_14_method_32_code
def yX12_behind : MethodName := ⟨RX12, "behind", "()I"⟩
abbrev cX12_round : ByteArray := prog_14_method_33_code
def yX12_round : MethodName := ⟨RX12, "round", "()I"⟩
abbrev cX12_factOf : ByteArray := prog_14_method_34_code
def yX12_factOf : MethodName := ⟨RX12, "factOf", "(III)I"⟩
abbrev cX12_holds : ByteArray := prog_14_method_35_code
def yX12_holds : MethodName := ⟨RX12, "holds", "(III)Z"⟩
abbrev cX12_mood : ByteArray := prog_14_method_36_code
def yX12_mood : MethodName := ⟨RX12, "mood", "(II)I"⟩
abbrev cX12_temper : ByteArray := prog_14_method_37_code
def yX12_temper : MethodName := ⟨RX12, "temper", "(II)I"⟩
abbrev cX12_allTemper : ByteArray := prog_14_method_38_code
def yX12_allTemper : MethodName := ⟨RX12, "allTemper", "()I"⟩
abbrev cX12_leastFree : ByteArray := prog_14_method_39_code
def yX12_leastFree : MethodName := ⟨RX12, "leastFree", "(I)I"⟩
abbrev cX12_punches : ByteArray := prog_14_method_40_code
def yX12_punches : MethodName := ⟨RX12, "punches", "(II)I"⟩
abbrev cX12_allHoles : ByteArray := prog_14_method_41_code
def yX12_allHoles : MethodName := ⟨RX12, "allHoles", "()I"⟩
abbrev cX12_ring : ByteArray := prog_14_method_42_code
def yX12_ring : MethodName := ⟨RX12, "ring", "(I)I"⟩
abbrev cX12_swapsOf : ByteArray := prog_14_method_43_code
def yX12_swapsOf : MethodName := ⟨RX12, "swapsOf", "()I"⟩
abbrev cX12_whoHas : ByteArray := prog_14_method_44_code
def yX12_whoHas : MethodName := ⟨RX12, "whoHas", "(I)I"⟩
abbrev cX12_firstSwap : ByteArray := prog_14_method_45_code
def yX12_firstSwap : MethodName := ⟨RX12, "firstSwap", "()I"⟩
abbrev cX12_of : ByteArray := prog_14_method_46_code
def yX12_of : MethodName := ⟨RX12, "of", "(II)I"⟩
abbrev cX12_goDay : ByteArray := prog_14_method_47_code
def yX12_goDay : MethodName := ⟨RX12, "goDay", "()V"⟩
abbrev cX12_goDays : ByteArray := prog_14_method_48_code
def yX12_goDays : MethodName := ⟨RX12, "goDays", "(I)V"⟩
abbrev cX12_pass : ByteArray := prog_14_method_49_code
def yX12_pass : MethodName := ⟨RX12, "pass", "(I)I"⟩
abbrev cX12_save : ByteArray := prog_14_method_50_code
def yX12_save : MethodName := ⟨RX12, "save", "()V"⟩
abbrev cX12_putBack : ByteArray := prog_14_method_51_code
def yX12_putBack : MethodName := ⟨RX12, "putBack", "()V"⟩
abbrev cX12_on : ByteArray := prog_14_method_52_code
def yX12_on : MethodName := ⟨RX12, "on", "(II)I"⟩
abbrev cX12_full : ByteArray := prog_14_method_53_code
def yX12_full : MethodName := ⟨RX12, "full", "(II)I"⟩
abbrev cX12_mostHoles : ByteArray := prog_14_method_54_code
def yX12_mostHoles : MethodName := ⟨RX12, "mostHoles", "(II)I"⟩
abbrev cX12_tradeOf : ByteArray := prog_14_method_55_code
def yX12_tradeOf : MethodName := ⟨RX12, "tradeOf", "()I"⟩
abbrev cX12_told : ByteArray := prog_14_method_56_code
def yX12_told : MethodName := ⟨RX12, "told", "(I)I"⟩
abbrev cX12_layCards : ByteArray := prog_14_method_57_code
def yX12_layCards : MethodName := ⟨RX12, "layCards", "(I)Z"⟩
abbrev cX12_best : ByteArray := prog_14_method_58_code
def yX12_best : MethodName := ⟨RX12, "best", "(I)I"⟩
abbrev cX12_see : ByteArray := prog_14_method_59_code
def yX12_see : MethodName := ⟨RX12, "see", "(III)I"⟩
abbrev cX12_isSeen : ByteArray := prog_14_method_60_code
def yX12_isSeen : MethodName := ⟨RX12, "isSeen", "()Z"⟩
abbrev cX12_had : ByteArray := prog_14_method_61_code
def yX12_had : MethodName := ⟨RX12, "had", "(I)I"⟩
abbrev cX12_can : ByteArray := prog_14_method_62_code
def yX12_can : MethodName := ⟨RX12, "can", "(II)I"⟩
abbrev cX12_divisor : ByteArray := prog_14_method_63_code
def yX12_divisor : MethodName := ⟨RX12, "divisor", "(II)I"⟩
abbrev cX12_lowest : ByteArray := prog_14_method_64_code
def yX12_lowest : MethodName := ⟨RX12, "lowest", "(III)J"⟩
abbrev cX12_odds : ByteArray := prog_14_method_65_code
def yX12_odds : MethodName := ⟨RX12, "odds", "(III)J"⟩
abbrev cX12_mean : ByteArray := prog_14_method_66_code
def yX12_mean : MethodName := ⟨RX12, "mean", "(II)J"⟩
abbrev cX12_isPair : ByteArray := prog_14_method_67_code
def yX12_isPair : MethodName := ⟨RX12, "isPair", "(I)Z"⟩
abbrev cX12_plan : ByteArray := prog_14_method_68_code
def yX12_plan : MethodName := ⟨RX12, "plan", "(II)I"⟩
abbrev cX12_goPlan : ByteArray := prog_14_method_69_code
def yX12_goPlan : MethodName := ⟨RX12, "goPlan", "(II)V"⟩
abbrev cX12_ends : ByteArray := prog_14_method_70_code
def yX12_ends : MethodName := ⟨RX12, "ends", "(I)I"⟩
abbrev cX12_book : ByteArray := prog_14_method_71_code
def yX12_book : MethodName := ⟨RX12, "book", "(II)I"⟩
abbrev cX12_looked : ByteArray := prog_14_method_72_code
def yX12_looked : MethodName := ⟨RX12, "looked", "()I"⟩
abbrev cX12_judge : ByteArray := prog_14_method_73_code
def yX12_judge : MethodName := ⟨RX12, "judge", "(II)I"⟩
abbrev cX12_image : ByteArray := prog_14_method_74_code
def yX12_image : MethodName := ⟨RX12, "image", "()I"⟩
abbrev cX12_undo : ByteArray := prog_14_method_75_code
def yX12_undo : MethodName := ⟨RX12, "undo", "()I"⟩
abbrev cX12_body : ByteArray := prog_14_method_76_code
def yX12_body : MethodName := ⟨RX12, "body", "(I)V"⟩
abbrev cX12_handWorks : ByteArray := prog_14_method_77_code
def yX12_handWorks : MethodName := ⟨RX12, "handWorks", "(II)I"⟩
abbrev cX12_worksAct : ByteArray := prog_14_method_78_code
def yX12_worksAct : MethodName := ⟨RX12, "worksAct", "(II)I"⟩
abbrev cX12_handMinds : ByteArray := prog_14_method_79_code
def yX12_handMinds : MethodName := ⟨RX12, "handMinds", "(II)I"⟩
abbrev cX12_lateMinds : ByteArray := prog_14_method_80_code
def yX12_lateMinds : MethodName := ⟨RX12, "lateMinds", "(II)I"⟩
abbrev cX12_mindsAct : ByteArray := prog_14_method_81_code
def yX12_mindsAct : MethodName := ⟨RX12, "mindsAct", "(II)I"⟩
abbrev cX12_handTells : ByteArray := prog_14_method_82_code
def yX12_handTells : MethodName := ⟨RX12, "handTells", "(II)I"⟩
abbrev cX12_tellsAct : ByteArray := prog_14_method_83_code
def yX12_tellsAct : MethodName := ⟨RX12, "tellsAct", "(II)I"⟩
abbrev cX12_act : ByteArray := prog_14_method_84_code
def yX12_act : MethodName := ⟨RX12, "act", "(III)I"⟩
abbrev cX12_trace : ByteArray := prog_14_method_85_code
def yX12_trace : MethodName := ⟨RX12, "trace", "(I)I"⟩
abbrev cX12_taken : ByteArray := prog_14_method_86_code
def yX12_taken : MethodName := ⟨RX12, "taken", "(II)I"⟩
abbrev cX12_count : ByteArray := prog_14_method_87_code
def yX12_count : MethodName := ⟨RX12, "count", "(I)I"⟩
abbrev cX12_isTape : ByteArray := prog_14_method_88_code
def yX12_isTape : MethodName := ⟨RX12, "isTape", "(I)Z"⟩
abbrev cX12_tape : ByteArray := prog_14_method_89_code
def yX12_tape : MethodName := ⟨RX12, "tape", "(III)I"⟩
abbrev cX12_narrow : ByteArray := prog_14_method_90_code
def yX12_narrow : MethodName := ⟨RX12, "narrow", "(IJ)J"⟩
abbrev cX12_item : ByteArray := prog_14_method_91_code
def yX12_item : MethodName := ⟨RX12, "item", "(IIJ)I"⟩
abbrev cX12_read : ByteArray := prog_14_method_92_code
def yX12_read : MethodName := ⟨RX12, "read", "(II)J"⟩
abbrev cX12_shift : ByteArray := prog_14_method_93_code
def yX12_shift : MethodName := ⟨RX12, "shift", "(IIIII)I"⟩
def RJx145de : String := "java/io/Serializable"
def TJx145de : u_T := fun k => match k with
  | _ => ("", "", "", false)
def tyJx145de : Nat → FieldType := fun k => match k with
  | _ => .int
theorem nmJx145de : ∀ a, a < 0 → ∀ b, b < 0 → a ≠ b → (TJx145de a).2.1 ≠ (TJx145de b).2.1 := by decide +kernel
theorem tyJx145de_ok : ∀ k, k < 0 → parseFieldDescriptor (TJx145de k).2.2.1 = some (tyJx145de k) := by decide +kernel
def RJ5 : String := "java/lang/AbstractStringBuilder"
def TJ5 : u_T := fun k => match k with
  | _ => ("", "", "", false)
def tyJ5 : Nat → FieldType := fun k => match k with
  | _ => .int
theorem nmJ5 : ∀ a, a < 0 → ∀ b, b < 0 → a ≠ b → (TJ5 a).2.1 ≠ (TJ5 b).2.1 := by decide +kernel
theorem tyJ5_ok : ∀ k, k < 0 → parseFieldDescriptor (TJ5 k).2.2.1 = some (tyJ5 k) := by decide +kernel
abbrev cJ5_init_d00df : ByteArray := prog_15_method_2_code
def yJ5_init_d00df : MethodName := ⟨RJ5, "<init>", "(I)V"⟩
abbrev cJ5_length_8abf5 : ByteArray := prog_15_method_6_code
def yJ5_length_8abf5 : MethodName := ⟨RJ5, "length", "()I"⟩
abbrev cJ5_ensureCapacityInternal_d00df : ByteArray := prog_15_method_9_code
def yJ5_ensureCapacityInternal_d00df : MethodName := ⟨RJ5, "ensureCapacityInternal", "(I)V"⟩
abbrev cJ5_newCapacity_0f7a4 : ByteArray := prog_15_method_10_code
def yJ5_newCapacity_0f7a4 : MethodName := ⟨RJ5, "newCapacity", "(I)I"⟩
abbrev cJ5_inflate_da8c8 : ByteArray := prog_15_method_11_code
def yJ5_inflate_da8c8 : MethodName := ⟨RJ5, "inflate", "()V"⟩
abbrev cJ5_setLength_d00df : ByteArray := prog_15_method_13_code
def yJ5_setLength_d00df : MethodName := ⟨RJ5, "setLength", "(I)V"⟩
abbrev cJ5_charAt_5068e : ByteArray := prog_15_method_14_code
def yJ5_charAt_5068e : MethodName := ⟨RJ5, "charAt", "(I)C"⟩
abbrev cJ5_append_3fe6f : ByteArray := prog_15_method_31_code
def yJ5_append_3fe6f : MethodName := ⟨RJ5, "append", "(C)Ljava/lang/AbstractStringBuilder;"⟩
abbrev cJ5_isLatin1_aae02 : ByteArray := prog_15_method_68_code
def yJ5_isLatin1_aae02 : MethodName := ⟨RJ5, "isLatin1", "()Z"⟩
def RJx2cfe8 : String := "java/lang/Appendable"
def TJx2cfe8 : u_T := fun k => match k with
  | _ => ("", "", "", false)
def tyJx2cfe8 : Nat → FieldType := fun k => match k with
  | _ => .int
theorem nmJx2cfe8 : ∀ a, a < 0 → ∀ b, b < 0 → a ≠ b → (TJx2cfe8 a).2.1 ≠ (TJx2cfe8 b).2.1 := by decide +kernel
theorem tyJx2cfe8_ok : ∀ k, k < 0 → parseFieldDescriptor (TJx2cfe8 k).2.2.1 = some (tyJx2cfe8 k) := by decide +kernel
def RJx9f9b0 : String := "java/lang/CharSequence"
def TJx9f9b0 : u_T := fun k => match k with
  | _ => ("", "", "", false)
def tyJx9f9b0 : Nat → FieldType := fun k => match k with
  | _ => .int
theorem nmJx9f9b0 : ∀ a, a < 0 → ∀ b, b < 0 → a ≠ b → (TJx9f9b0 a).2.1 ≠ (TJx9f9b0 b).2.1 := by decide +kernel
theorem tyJx9f9b0_ok : ∀ k, k < 0 → parseFieldDescriptor (TJx9f9b0 k).2.2.1 = some (tyJx9f9b0 k) := by decide +kernel
def RJ11 : String := "java/lang/Character"
def TJ11 : u_T := fun k => match k with
  | _ => ("", "", "", false)
def tyJ11 : Nat → FieldType := fun k => match k with
  | _ => .int
theorem nmJ11 : ∀ a, a < 0 → ∀ b, b < 0 → a ≠ b → (TJ11 a).2.1 ≠ (TJ11 b).2.1 := by decide +kernel
theorem tyJ11_ok : ∀ k, k < 0 → parseFieldDescriptor (TJ11 k).2.2.1 = some (tyJ11 k) := by decide +kernel
abbrev cJ11_isValidCodePoint_9a6ad : ByteArray := prog_16_method_11_code
def yJ11_isValidCodePoint_9a6ad : MethodName := ⟨RJ11, "isValidCodePoint", "(I)Z"⟩
abbrev cJ11_highSurrogate_5068e : ByteArray := prog_16_method_28_code
def yJ11_highSurrogate_5068e : MethodName := ⟨RJ11, "highSurrogate", "(I)C"⟩
abbrev cJ11_lowSurrogate_5068e : ByteArray := prog_16_method_29_code
def yJ11_lowSurrogate_5068e : MethodName := ⟨RJ11, "lowSurrogate", "(I)C"⟩
def RJx8e188 : String := "java/lang/Cloneable"
def TJx8e188 : u_T := fun k => match k with
  | _ => ("", "", "", false)
def tyJx8e188 : Nat → FieldType := fun k => match k with
  | _ => .int
theorem nmJx8e188 : ∀ a, a < 0 → ∀ b, b < 0 → a ≠ b → (TJx8e188 a).2.1 ≠ (TJx8e188 b).2.1 := by decide +kernel
theorem tyJx8e188_ok : ∀ k, k < 0 → parseFieldDescriptor (TJx8e188 k).2.2.1 = some (tyJx8e188 k) := by decide +kernel
def RJxb160c : String := "java/lang/Comparable"
def TJxb160c : u_T := fun k => match k with
  | _ => ("", "", "", false)
def tyJxb160c : Nat → FieldType := fun k => match k with
  | _ => .int
theorem nmJxb160c : ∀ a, a < 0 → ∀ b, b < 0 → a ≠ b → (TJxb160c a).2.1 ≠ (TJxb160c b).2.1 := by decide +kernel
theorem tyJxb160c_ok : ∀ k, k < 0 → parseFieldDescriptor (TJxb160c k).2.2.1 = some (tyJxb160c k) := by decide +kernel
def RJ6 : String := "java/lang/Integer"
def TJ6 : u_T := fun k => match k with
  | _ => ("", "", "", false)
def tyJ6 : Nat → FieldType := fun k => match k with
  | _ => .int
theorem nmJ6 : ∀ a, a < 0 → ∀ b, b < 0 → a ≠ b → (TJ6 a).2.1 ≠ (TJ6 b).2.1 := by decide +kernel
theorem tyJ6_ok : ∀ k, k < 0 → parseFieldDescriptor (TJ6 k).2.2.1 = some (tyJ6 k) := by decide +kernel
abbrev cJ6_bitCount_0f7a4 : ByteArray := prog_18_method_49_code
def yJ6_bitCount_0f7a4 : MethodName := ⟨RJ6, "bitCount", "(I)I"⟩
def RJ9 : String := "java/lang/Math"
def TJ9 : u_T := fun k => match k with
  | _ => ("", "", "", false)
def tyJ9 : Nat → FieldType := fun k => match k with
  | _ => .int
theorem nmJ9 : ∀ a, a < 0 → ∀ b, b < 0 → a ≠ b → (TJ9 a).2.1 ≠ (TJ9 b).2.1 := by decide +kernel
theorem tyJ9_ok : ∀ k, k < 0 → parseFieldDescriptor (TJ9 k).2.2.1 = some (tyJ9 k) := by decide +kernel
abbrev cJ9_max_7cf53 : ByteArray := prog_19_method_65_code
def yJ9_max_7cf53 : MethodName := ⟨RJ9, "max", "(II)I"⟩
abbrev cJ9_min_7cf53 : ByteArray := prog_19_method_69_code
def yJ9_min_7cf53 : MethodName := ⟨RJ9, "min", "(II)I"⟩
def RJ0 : String := "java/lang/String"
def TJ0 : u_T := fun k => match k with
  | _ => ("", "", "", false)
def tyJ0 : Nat → FieldType := fun k => match k with
  | _ => .int
theorem nmJ0 : ∀ a, a < 0 → ∀ b, b < 0 → a ≠ b → (TJ0 a).2.1 ≠ (TJ0 b).2.1 := by decide +kernel
theorem tyJ0_ok : ∀ k, k < 0 → parseFieldDescriptor (TJ0 k).2.2.1 = some (tyJ0 k) := by decide +kernel
abbrev cJ0_length_8abf5 : ByteArray := prog_20_method_54_code
def yJ0_length_8abf5 : MethodName := ⟨RJ0, "length", "()I"⟩
abbrev cJ0_charAt_5068e : ByteArray := prog_20_method_56_code
def yJ0_charAt_5068e : MethodName := ⟨RJ0, "charAt", "(I)C"⟩
abbrev cJ0_indexOf_0f7a4 : ByteArray := prog_20_method_79_code
def yJ0_indexOf_0f7a4 : MethodName := ⟨RJ0, "indexOf", "(I)I"⟩
abbrev cJ0_indexOf_7cf53 : ByteArray := prog_20_method_80_code
def yJ0_indexOf_7cf53 : MethodName := ⟨RJ0, "indexOf", "(II)I"⟩
abbrev cJ0_coder_7d493 : ByteArray := prog_20_method_152_code
def yJ0_coder_7d493 : MethodName := ⟨RJ0, "coder", "()B"⟩
abbrev cJ0_isLatin1_aae02 : ByteArray := prog_20_method_154_code
def yJ0_isLatin1_aae02 : MethodName := ⟨RJ0, "isLatin1", "()Z"⟩
abbrev cJ0_checkIndex_df160 : ByteArray := prog_20_method_155_code
def yJ0_checkIndex_df160 : MethodName := ⟨RJ0, "checkIndex", "(II)V"⟩
abbrev cJ0_checkBoundsOffCount_cabcc : ByteArray := prog_20_method_157_code
def yJ0_checkBoundsOffCount_cabcc : MethodName := ⟨RJ0, "checkBoundsOffCount", "(III)I"⟩
abbrev cJ0_checkBoundsBeginEnd_23922 : ByteArray := prog_20_method_158_code
def yJ0_checkBoundsBeginEnd_23922 : MethodName := ⟨RJ0, "checkBoundsBeginEnd", "(III)V"⟩
def RJ4 : String := "java/lang/StringBuilder"
def TJ4 : u_T := fun k => match k with
  | 0 => ("java/lang/AbstractStringBuilder", "value", "[B", false)
  | 1 => ("java/lang/AbstractStringBuilder", "coder", "B", false)
  | 2 => ("java/lang/AbstractStringBuilder", "maybeLatin1", "Z", false)
  | _ => ("java/lang/AbstractStringBuilder", "count", "I", false)
def tyJ4 : Nat → FieldType := fun k => match k with
  | 0 => .array .byte
  | 1 => .byte
  | 2 => .boolean
  | _ => .int
theorem nmJ4 : ∀ a, a < 4 → ∀ b, b < 4 → a ≠ b → (TJ4 a).2.1 ≠ (TJ4 b).2.1 := by decide +kernel
theorem tyJ4_ok : ∀ k, k < 4 → parseFieldDescriptor (TJ4 k).2.2.1 = some (tyJ4 k) := by decide +kernel
abbrev cJ4_init_da8c8 : ByteArray := prog_21_method_1_code
def yJ4_init_da8c8 : MethodName := ⟨RJ4, "<init>", "()V"⟩
abbrev cJ4_append_cf468 : ByteArray := prog_21_method_14_code
def yJ4_append_cf468 : MethodName := ⟨RJ4, "append", "(C)Ljava/lang/StringBuilder;"⟩
abbrev cJ4_charAt_5068e : ByteArray := prog_21_method_88_code
def yJ4_charAt_5068e : MethodName := ⟨RJ4, "charAt", "(I)C"⟩
abbrev cJ4_setLength_d00df : ByteArray := prog_21_method_89_code
def yJ4_setLength_d00df : MethodName := ⟨RJ4, "setLength", "(I)V"⟩
abbrev cJ4_length_8abf5 : ByteArray := prog_21_method_93_code
def yJ4_length_8abf5 : MethodName := ⟨RJ4, "length", "()I"⟩
def RJ1 : String := "java/lang/StringLatin1"
def TJ1 : u_T := fun k => match k with
  | _ => ("", "", "", false)
def tyJ1 : Nat → FieldType := fun k => match k with
  | _ => .int
theorem nmJ1 : ∀ a, a < 0 → ∀ b, b < 0 → a ≠ b → (TJ1 a).2.1 ≠ (TJ1 b).2.1 := by decide +kernel
theorem tyJ1_ok : ∀ k, k < 0 → parseFieldDescriptor (TJ1 k).2.2.1 = some (tyJ1 k) := by decide +kernel
abbrev cJ1_charAt_3b067 : ByteArray := prog_22_method_2_code
def yJ1_charAt_3b067 : MethodName := ⟨RJ1, "charAt", "([BI)C"⟩
abbrev cJ1_canEncode_fc78d : ByteArray := prog_22_method_3_code
def yJ1_canEncode_fc78d : MethodName := ⟨RJ1, "canEncode", "(C)Z"⟩
abbrev cJ1_canEncode_9a6ad : ByteArray := prog_22_method_4_code
def yJ1_canEncode_9a6ad : MethodName := ⟨RJ1, "canEncode", "(I)Z"⟩
abbrev cJ1_indexOf_4cfef : ByteArray := prog_22_method_22_code
def yJ1_indexOf_4cfef : MethodName := ⟨RJ1, "indexOf", "([BIII)I"⟩
abbrev cJ1_indexOfChar_4cfef : ByteArray := prog_22_method_23_code
def yJ1_indexOfChar_4cfef : MethodName := ⟨RJ1, "indexOfChar", "([BIII)I"⟩
abbrev cJ1_fillNull_b72d1 : ByteArray := prog_22_method_48_code
def yJ1_fillNull_b72d1 : MethodName := ⟨RJ1, "fillNull", "([BII)V"⟩
abbrev cJ1_inflate_0e8fd : ByteArray := prog_22_method_50_code
def yJ1_inflate_0e8fd : MethodName := ⟨RJ1, "inflate", "([BI[BII)V"⟩
def RJ2 : String := "java/lang/StringUTF16"
def TJ2 : u_T := fun k => match k with
  | _ => ("", "", "", false)
def tyJ2 : Nat → FieldType := fun k => match k with
  | _ => .int
theorem nmJ2 : ∀ a, a < 0 → ∀ b, b < 0 → a ≠ b → (TJ2 a).2.1 ≠ (TJ2 b).2.1 := by decide +kernel
theorem tyJ2_ok : ∀ k, k < 0 → parseFieldDescriptor (TJ2 k).2.2.1 = some (tyJ2 k) := by decide +kernel
abbrev cJ2_newBytesFor_77867 : ByteArray := prog_23_method_2_code
def yJ2_newBytesFor_77867 : MethodName := ⟨RJ2, "newBytesFor", "(I)[B"⟩
abbrev cJ2_newBytesLength_0f7a4 : ByteArray := prog_23_method_3_code
def yJ2_newBytesLength_0f7a4 : MethodName := ⟨RJ2, "newBytesLength", "(I)I"⟩
abbrev cJ2_putChar_b72d1 : ByteArray := prog_23_method_4_code
def yJ2_putChar_b72d1 : MethodName := ⟨RJ2, "putChar", "([BII)V"⟩
abbrev cJ2_getChar_3b067 : ByteArray := prog_23_method_5_code
def yJ2_getChar_3b067 : MethodName := ⟨RJ2, "getChar", "([BI)C"⟩
abbrev cJ2_length_9d52b : ByteArray := prog_23_method_6_code
def yJ2_length_9d52b : MethodName := ⟨RJ2, "length", "([B)I"⟩
abbrev cJ2_indexOf_4cfef : ByteArray := prog_23_method_40_code
def yJ2_indexOf_4cfef : MethodName := ⟨RJ2, "indexOf", "([BIII)I"⟩
abbrev cJ2_indexOfChar_4cfef : ByteArray := prog_23_method_47_code
def yJ2_indexOfChar_4cfef : MethodName := ⟨RJ2, "indexOfChar", "([BIII)I"⟩
abbrev cJ2_indexOfCharUnsafe_4cfef : ByteArray := prog_23_method_48_code
def yJ2_indexOfCharUnsafe_4cfef : MethodName := ⟨RJ2, "indexOfCharUnsafe", "([BIII)I"⟩
abbrev cJ2_indexOfSupplementary_4cfef : ByteArray := prog_23_method_49_code
def yJ2_indexOfSupplementary_4cfef : MethodName := ⟨RJ2, "indexOfSupplementary", "([BIII)I"⟩
abbrev cJ2_fillNull_b72d1 : ByteArray := prog_23_method_70_code
def yJ2_fillNull_b72d1 : MethodName := ⟨RJ2, "fillNull", "([BII)V"⟩
abbrev cJ2_putCharSB_b72d1 : ByteArray := prog_23_method_71_code
def yJ2_putCharSB_b72d1 : MethodName := ⟨RJ2, "putCharSB", "([BII)V"⟩
abbrev cJ2_charAt_3b067 : ByteArray := prog_23_method_83_code
def yJ2_charAt_3b067 : MethodName := ⟨RJ2, "charAt", "([BI)C"⟩
abbrev cJ2_inflate_0e8fd : ByteArray := prog_23_method_86_code
def yJ2_inflate_0e8fd : MethodName := ⟨RJ2, "inflate", "([BI[BII)V"⟩
abbrev cJ2_checkIndex_2214a : ByteArray := prog_23_method_91_code
def yJ2_checkIndex_2214a : MethodName := ⟨RJ2, "checkIndex", "(I[B)V"⟩
abbrev cJ2_checkBoundsBeginEnd_d044e : ByteArray := prog_23_method_93_code
def yJ2_checkBoundsBeginEnd_d044e : MethodName := ⟨RJ2, "checkBoundsBeginEnd", "(II[B)V"⟩
abbrev cJ2_checkBoundsOffCount_d044e : ByteArray := prog_23_method_94_code
def yJ2_checkBoundsOffCount_d044e : MethodName := ⟨RJ2, "checkBoundsOffCount", "(II[B)V"⟩
def RJ10 : String := "java/lang/System"
def TJ10 : u_T := fun k => match k with
  | _ => ("", "", "", false)
def tyJ10 : Nat → FieldType := fun k => match k with
  | _ => .int
theorem nmJ10 : ∀ a, a < 0 → ∀ b, b < 0 → a ≠ b → (TJ10 a).2.1 ≠ (TJ10 b).2.1 := by decide +kernel
theorem tyJ10_ok : ∀ k, k < 0 → parseFieldDescriptor (TJ10 k).2.2.1 = some (tyJ10 k) := by decide +kernel
def RJxfd54e : String := "java/lang/constant/Constable"
def TJxfd54e : u_T := fun k => match k with
  | _ => ("", "", "", false)
def tyJxfd54e : Nat → FieldType := fun k => match k with
  | _ => .int
theorem nmJxfd54e : ∀ a, a < 0 → ∀ b, b < 0 → a ≠ b → (TJxfd54e a).2.1 ≠ (TJxfd54e b).2.1 := by decide +kernel
theorem tyJxfd54e_ok : ∀ k, k < 0 → parseFieldDescriptor (TJxfd54e k).2.2.1 = some (tyJxfd54e k) := by decide +kernel
def RJx3cf43 : String := "java/lang/constant/ConstantDesc"
def TJx3cf43 : u_T := fun k => match k with
  | _ => ("", "", "", false)
def tyJx3cf43 : Nat → FieldType := fun k => match k with
  | _ => .int
theorem nmJx3cf43 : ∀ a, a < 0 → ∀ b, b < 0 → a ≠ b → (TJx3cf43 a).2.1 ≠ (TJx3cf43 b).2.1 := by decide +kernel
theorem tyJx3cf43_ok : ∀ k, k < 0 → parseFieldDescriptor (TJx3cf43 k).2.2.1 = some (tyJx3cf43 k) := by decide +kernel
def RJ7 : String := "java/util/Arrays"
def TJ7 : u_T := fun k => match k with
  | _ => ("", "", "", false)
def tyJ7 : Nat → FieldType := fun k => match k with
  | _ => .int
theorem nmJ7 : ∀ a, a < 0 → ∀ b, b < 0 → a ≠ b → (TJ7 a).2.1 ≠ (TJ7 b).2.1 := by decide +kernel
theorem tyJ7_ok : ∀ k, k < 0 → parseFieldDescriptor (TJ7 k).2.2.1 = some (tyJ7 k) := by decide +kernel
abbrev cJ7_rangeCheck_23922 : ByteArray := prog_25_method_30_code
def yJ7_rangeCheck_23922 : MethodName := ⟨RJ7, "rangeCheck", "(III)V"⟩
abbrev cJ7_fill_53178 : ByteArray := prog_25_method_103_code
def yJ7_fill_53178 : MethodName := ⟨RJ7, "fill", "([II)V"⟩
abbrev cJ7_fill_eb02e : ByteArray := prog_25_method_110_code
def yJ7_fill_eb02e : MethodName := ⟨RJ7, "fill", "([BIIB)V"⟩
abbrev cJ7_copyOf_9075b : ByteArray := prog_25_method_121_code
def yJ7_copyOf_9075b : MethodName := ⟨RJ7, "copyOf", "([BI)[B"⟩
def RJ8 : String := "jdk/internal/util/ArraysSupport"
def TJ8 : u_T := fun k => match k with
  | _ => ("", "", "", false)
def tyJ8 : Nat → FieldType := fun k => match k with
  | _ => .int
theorem nmJ8 : ∀ a, a < 0 → ∀ b, b < 0 → a ≠ b → (TJ8 a).2.1 ≠ (TJ8 b).2.1 := by decide +kernel
theorem tyJ8_ok : ∀ k, k < 0 → parseFieldDescriptor (TJ8 k).2.2.1 = some (tyJ8 k) := by decide +kernel
abbrev cJ8_newLength_cabcc : ByteArray := prog_26_method_27_code
def yJ8_newLength_cabcc : MethodName := ⟨RJ8, "newLength", "(III)I"⟩
abbrev cJ8_hugeLength_7cf53 : ByteArray := prog_26_method_28_code
def yJ8_hugeLength_7cf53 : MethodName := ⟨RJ8, "hugeLength", "(II)I"⟩
def RJ3 : String := "jdk/internal/util/Preconditions"
def TJ3 : u_T := fun k => match k with
  | _ => ("", "", "", false)
def tyJ3 : Nat → FieldType := fun k => match k with
  | _ => .int
theorem nmJ3 : ∀ a, a < 0 → ∀ b, b < 0 → a ≠ b → (TJ3 a).2.1 ≠ (TJ3 b).2.1 := by decide +kernel
theorem tyJ3_ok : ∀ k, k < 0 → parseFieldDescriptor (TJ3 k).2.2.1 = some (tyJ3 k) := by decide +kernel
abbrev cJ3_checkIndex_8e157 : ByteArray := prog_27_method_11_code
def yJ3_checkIndex_8e157 : MethodName := ⟨RJ3, "checkIndex", "(IILjava/util/function/BiFunction;)I"⟩
abbrev cJ3_checkFromToIndex_8c36e : ByteArray := prog_27_method_12_code
def yJ3_checkFromToIndex_8c36e : MethodName := ⟨RJ3, "checkFromToIndex", "(IIILjava/util/function/BiFunction;)I"⟩
abbrev cJ3_checkFromIndexSize_8c36e : ByteArray := prog_27_method_13_code
def yJ3_checkFromIndexSize_8c36e : MethodName := ⟨RJ3, "checkFromIndexSize", "(IIILjava/util/function/BiFunction;)I"⟩
def RL : String := "PunchedSoulsLaw"
abbrev cL_law : ByteArray := code
def yL_law : MethodName := ⟨RL, "law", "([I)Z"⟩
abbrev vwCl : List vw_C := [(RJ4, TJ4, 4), (RX0, TX0, 2), (RX1, TX1, 11), (RX2, TX2, 2), (RX3, TX3, 2), (RX4, TX4, 2), (RX5, TX5, 2), (RX6, TX6, 2), (RX7, TX7, 4), (RX8, TX8, 4), (RX9, TX9, 2), (RX10, TX10, 5), (RX11, TX11, 13), (RX12, TX12, 70)]
end
section
/-! ===== an abstract heap of numbered places over the machine's: what a place holds is data; addresses are hidden in a map ===== -/
def zGW : List Cond := lw_tbl.filter goodWord
theorem zGW_in {w : Cond} (h : w ∈ lw_tbl) (hg : goodWord w = true) : w ∈ zGW := List.mem_filter.mpr ⟨h, hg⟩
theorem zGW_at (i : Nat) {w : Cond} (h : lw_tbl[i]? = some w) (hg : goodWord w = true) : w ∈ zGW := zGW_in (List.mem_of_getElem? h) hg
theorem zGW_ok {w : Cond} (h : w ∈ zGW) : (w.onTables && w.keeps) = true ∨ ∃ ty, w = .arrayClass ty := good_of_word (List.mem_filter.mp h).2
/-- a method: its name, code, locals, answer's type -/
abbrev zM : Type := MethodName × ByteArray × Nat × Option FieldType
abbrev zws (M : zM) : List Cond := .code M.1 M.2.1 M.2.2.1 M.2.2.2 :: zGW
theorem z_good {M' M : zM} (h : Cond.code M.1 M.2.1 M.2.2.1 M.2.2.2 ∈ zGW) : GoodIn (zws M') (zws M) := by
  intro w hw
  rcases List.mem_cons.mp hw with rfl | hw
  · exact ⟨List.mem_cons_of_mem _ h, zGW_ok h⟩
  · exact ⟨List.mem_cons_of_mem _ hw, zGW_ok hw⟩
/-- kinds, lengths, ints, longs, references, by place -/
abbrev Sg : Type := (Nat → Nat) × (Nat → Nat) × (Nat → Nat → Int32) × (Nat → Nat → Int64) × (Nat → Nat → Option Nat)
/-- classes' numbers, fields' slots, array classes, String constants and their bytes -/
abbrev zG : Type := (Nat → ClassId) × (Nat → Nat → Nat) × (Nat → ClassId) × (Nat → Nat) × (Nat → Nat)
def ph (ad : Nat → Nat) (v : Value) : Value := match v with
  | .ref a => .ref (ad a)
  | w => w
theorem ph_cat (ad : Nat → Nat) (v : Value) : (ph ad v).category = v.category := by cases v <;> rfl
def zty (ci : Nat) : Nat → FieldType := match ci with
  | 0 => tyJ4
  | 1 => tyX0
  | 2 => tyX1
  | 3 => tyX2
  | 4 => tyX3
  | 5 => tyX4
  | 6 => tyX5
  | 7 => tyX6
  | 8 => tyX7
  | 9 => tyX8
  | 10 => tyX9
  | 11 => tyX10
  | 12 => tyX11
  | _ => tyX12
/-- an array's items, by its kind less 20 -/
def zat (t : Nat) : FieldType := match t with
  | 0 => .byte
  | 1 => .char
  | 2 => .int
  | 3 => .long
  | 4 => .boolean
  | _ => .object "PunchedSouls$Hand"
def zisR (ty : FieldType) : Bool := match ty with
  | .object _ => true
  | .array _ => true
  | _ => false
def zfv (ad : Nat → Nat) (σ : Sg) (ci p k : Nat) : Value := if zisR (zty ci k) = true then va_rf ((σ.2.2.2.2 p k).map ad) else .int (σ.2.2.1 p k)
def zel (ad : Nat → Nat) (σ : Sg) (t p j : Nat) : Value := if t = 3 then .long (σ.2.2.2.1 p j) else if t = 5 then va_rf ((σ.2.2.2.2 p j).map ad) else .int (σ.2.2.1 p j)
def zOK (G : zG) (ad : Nat → Nat) (σ : Sg) (H : Heap) (p : Nat) : Prop :=
  (∀ (ci : Nat) (q : vw_C), σ.1 p = ci + 1 → vwCl[ci]? = some q → t_OB (ad p) (G.1 ci) q.2.2 (G.2.1 ci) H (zfv ad σ ci p)) ∧
  (∀ t : Nat, t < 6 → σ.1 p = 20 + t → H[ad p]? = some (arrV (G.2.2.1 t) (σ.2.1 p) (zel ad σ t p)))
def zRl (G : zG) (b0 : Nat) (ad : Nat → Nat) (σ : Sg) (H : Heap) : Prop :=
  (∀ p, σ.1 p ≠ 0 → ad p < H.size ∧ (σ.1 p < 30 → b0 ≤ ad p ∧ zOK G ad σ H p)) ∧ (∀ p q, σ.1 p ≠ 0 → σ.1 p < 30 → σ.1 q ≠ 0 → σ.1 q < 30 → ad p = ad q → p = q) ∧ (∀ p k q, σ.1 p ≠ 0 → σ.2.2.2.2 p k = some q → σ.1 q ≠ 0) ∧
  (∀ i, i < 4 → σ.1 (900 + i) = 30 ∧ ad (900 + i) = G.2.2.2.1 i ∧ σ.1 (910 + i) = 31 ∧ ad (910 + i) = G.2.2.2.2 i)
def zlv (σ : Sg) (v : Value) : Prop := ∀ q, v = .ref q → σ.1 q ≠ 0
def zK (G : zG) (s : State) : Prop := (∀ (ci : Nat) (q : vw_C), vwCl[ci]? = some q → u_Kn s q.1 q.2.1 q.2.2 (G.1 ci) (G.2.1 ci)) ∧ (∀ t : Nat, t < 6 → ArrOfT s (G.2.2.1 t) (zat t) ∧ va_RA s (G.2.2.1 t) (zat t)) ∧ va_Nw (.methodLinkNest "PunchedSouls" 11 ⟨"PunchedSouls$Gate", "<init>", "()V"⟩ "PunchedSouls") s ∧ va_Nw (.methodLinkNest "PunchedSouls$Reader" 81 ⟨"PunchedSouls", "isDigit", "(I)Z"⟩ "PunchedSouls") s
theorem zK.moved {G : zG} {s U : State} (hW : s.WarmedH U.vm) (h : zK G s) : zK G U :=
  ⟨fun ci q hq => u_Kn_moved hW.alike (h.1 ci q hq), fun t ht => ⟨arrOfT_moved hW.alike (h.2.1 t ht).1, (h.2.1 t ht).2.moved hW.alike⟩, va_Nw.warmM hW h.2.2.1, va_Nw.warmM hW h.2.2.2⟩
theorem zcl_lt {ci : Nat} {q : vw_C} (h : vwCl[ci]? = some q) : ci < 14 := (List.getElem?_eq_some_iff.mp h).1
theorem zty_ok {ci : Nat} {q : vw_C} (h : vwCl[ci]? = some q) : ∀ k, k < q.2.2 → parseFieldDescriptor (q.2.1 k).2.2.1 = some (zty ci k) := by
  match ci, h with
  | 0, h => cases h; exact tyJ4_ok
  | 1, h => cases h; exact tyX0_ok
  | 2, h => cases h; exact tyX1_ok
  | 3, h => cases h; exact tyX2_ok
  | 4, h => cases h; exact tyX3_ok
  | 5, h => cases h; exact tyX4_ok
  | 6, h => cases h; exact tyX5_ok
  | 7, h => cases h; exact tyX6_ok
  | 8, h => cases h; exact tyX7_ok
  | 9, h => cases h; exact tyX8_ok
  | 10, h => cases h; exact tyX9_ok
  | 11, h => cases h; exact tyX10_ok
  | 12, h => cases h; exact tyX11_ok
  | 13, h => cases h; exact tyX12_ok
  | n + 14, h => exact absurd (zcl_lt h) (by omega)
theorem znm {ci : Nat} {q : vw_C} (h : vwCl[ci]? = some q) : ∀ a, a < q.2.2 → ∀ b, b < q.2.2 → a ≠ b → (q.2.1 a).2.1 ≠ (q.2.1 b).2.1 := by
  match ci, h with
  | 0, h => cases h; exact nmJ4
  | 1, h => cases h; exact nmX0
  | 2, h => cases h; exact nmX1
  | 3, h => cases h; exact nmX2
  | 4, h => cases h; exact nmX3
  | 5, h => cases h; exact nmX4
  | 6, h => cases h; exact nmX5
  | 7, h => cases h; exact nmX6
  | 8, h => cases h; exact nmX7
  | 9, h => cases h; exact nmX8
  | 10, h => cases h; exact nmX9
  | 11, h => cases h; exact nmX10
  | 12, h => cases h; exact nmX11
  | 13, h => cases h; exact nmX12
  | n + 14, h => exact absurd (zcl_lt h) (by omega)
/-- a list's words are among the tables' by their places -/
theorem z_inAt {ws : List Cond} (ps : List Nat) (hp : ws = ps.filterMap (fun i => lw_tbl[i]?)) (hg : ws.all goodWord = true) : ∀ w ∈ ws, w ∈ zGW := by
  intro w hw
  have h1 := List.all_eq_true.mp hg w hw
  rw [hp] at hw
  obtain ⟨i, -, hi⟩ := List.mem_filterMap.mp hw
  exact zGW_at i hi h1
def zlens : List Nat := [6, 5, 5, 6]
def zbyts : List (List Int32) := [[114, 111, 117, 110, 100, 32], [115, 111, 117, 114, 32], [103, 108, 97, 100, 32], [112, 99, 107, 118, 104, 100]]
/-- what lies in the old heap: two statics, four String constants -/
def zEx (G : zG) (b0 : Nat) (U : State) (H : Heap) : Prop :=
  va_Z "java/lang/String" "COMPACT_STRINGS" "Z" (.int 1) (fun q => b0 ≤ q) U H ∧ va_Zq "jdk/internal/util/Preconditions" "SIOOBE_FORMATTER" "Ljava/util/function/BiFunction;" (fun q => b0 ≤ q) U H ∧
  vk_S 4 zlens zbyts G.2.2.2.1 G.2.2.2.2 (fun q => b0 ≤ q) U H ∧ vk_R "PunchedSouls$Reader" 43 "round " (G.2.2.2.1 0) U ∧ vk_R "PunchedSouls$Reader" 45 "sour " (G.2.2.2.1 1) U ∧ vk_R "PunchedSouls$Reader" 47 "glad " (G.2.2.2.1 2) U ∧ vk_R "PunchedSouls$Reader" 73 "pckvhd" (G.2.2.2.1 3) U
theorem zEx.moved {G : zG} {b0 : Nat} {s U : State} {H : Heap} (hW : s.WarmedH U.vm) (h : zEx G b0 s H) : zEx G b0 U H := by
  obtain ⟨h1, h2, h3, h4, h5, h6, h7⟩ := h
  exact ⟨va_Z.moved hW.alike h1, va_Zq.moved hW.alike h2, vk_S.moved hW.alike h3, h4.warm hW, h5.warm hW, h6.warm hW, h7.warm hW⟩
theorem zEx.kept {G : zG} {b0 : Nat} {U : State} {H H1 : Heap} (hq : ∀ a : Nat, a < H.size → ¬ b0 ≤ a → H1[a]? = H[a]?) (h : zEx G b0 U H) : zEx G b0 U H1 := by
  obtain ⟨h1, h2, h3, h4, h5, h6, h7⟩ := h
  exact ⟨h1.kept hq, h2.kept hq, h3.kept hq, h4, h5, h6, h7⟩
theorem zEx.vm {G : zG} {b0 : Nat} {s U : State} {H : Heap} (hv : U.vm = s.vm) (h : zEx G b0 s H) : zEx G b0 U H := by
  obtain ⟨h1, h2, h3, h4, h5, h6, h7⟩ := h
  have ha : s.vm.Alike U.vm := by rw [hv]; exact Vm.Alike.refl _
  exact ⟨va_Z.moved ha h1, va_Zq.moved ha h2, vk_S.moved ha h3, h4.same hv, h5.same hv, h6.same hv, h7.same hv⟩
theorem zK.vm {G : zG} {s U : State} (hv : U.vm = s.vm) (h : zK G s) : zK G U := by
  have ha : s.vm.Alike U.vm := by rw [hv]; exact Vm.Alike.refl _
  exact ⟨fun ci q hq => u_Kn_moved ha (h.1 ci q hq), fun t ht => ⟨arrOfT_moved ha (h.2.1 t ht).1, (h.2.1 t ht).2.moved ha⟩, va_Nw.same rfl hv.symm h.2.2.1, va_Nw.same rfl hv.symm h.2.2.2⟩
end
section
theorem zin0 : ∀ w ∈ u_ws RJ4 TJ4 4, w ∈ zGW := z_inAt [209, 211, 213, 215] (by decide +kernel) (by decide +kernel)
theorem zin1 : ∀ w ∈ u_ws RX0 TX0 2, w ∈ zGW := z_inAt [328, 329] (by decide +kernel) (by decide +kernel)
theorem zin2 : ∀ w ∈ u_ws RX1 TX1 11, w ∈ zGW := z_inAt [164, 166, 168, 170, 172, 174, 176, 178, 180, 182, 184] (by decide +kernel) (by decide +kernel)
theorem zin3 : ∀ w ∈ u_ws RX2 TX2 2, w ∈ zGW := z_inAt [352, 353] (by decide +kernel) (by decide +kernel)
theorem zin4 : ∀ w ∈ u_ws RX3 TX3 2, w ∈ zGW := z_inAt [310, 311] (by decide +kernel) (by decide +kernel)
theorem zin5 : ∀ w ∈ u_ws RX4 TX4 2, w ∈ zGW := z_inAt [299, 301] (by decide +kernel) (by decide +kernel)
theorem zin6 : ∀ w ∈ u_ws RX5 TX5 2, w ∈ zGW := z_inAt [337, 338] (by decide +kernel) (by decide +kernel)
theorem zin7 : ∀ w ∈ u_ws RX6 TX6 2, w ∈ zGW := z_inAt [319, 320] (by decide +kernel) (by decide +kernel)
theorem zin8 : ∀ w ∈ u_ws RX7 TX7 4, w ∈ zGW := z_inAt [541, 543, 545, 547] (by decide +kernel) (by decide +kernel)
theorem zin9 : ∀ w ∈ u_ws RX8 TX8 4, w ∈ zGW := z_inAt [133, 135, 137, 139] (by decide +kernel) (by decide +kernel)
theorem zin10 : ∀ w ∈ u_ws RX9 TX9 2, w ∈ zGW := z_inAt [346, 347] (by decide +kernel) (by decide +kernel)
theorem zin11 : ∀ w ∈ u_ws RX10 TX10 5, w ∈ zGW := z_inAt [524, 526, 528, 530, 532] (by decide +kernel) (by decide +kernel)
theorem zin12 : ∀ w ∈ u_ws RX11 TX11 13, w ∈ zGW := z_inAt [236, 238, 240, 242, 244, 246, 248, 250, 252, 254, 256, 258, 260] (by decide +kernel) (by decide +kernel)
theorem zin13 : ∀ w ∈ u_ws RX12 TX12 70, w ∈ zGW := z_inAt [1192, 1194, 1196, 1198, 1200, 1202, 1204, 1206, 1208, 1210, 1212, 1214, 1216, 1218, 1220, 1222, 1224, 1226, 1228, 1230, 1232, 1234, 1236, 1238, 1240, 1242, 1244, 1246, 1248, 1250, 1252, 1254, 1256, 1258, 1260, 1262, 1264, 1266, 1268, 1270, 1272, 1274, 1276, 1278, 1280, 1282, 1284, 1286, 1288, 1290, 1292, 1294, 1296, 1298, 1300, 1302, 1304, 1306, 1308, 1310, 1312, 1314, 1316, 1318, 1320, 1322, 1324, 1326, 1328, 1330] (by decide +kernel) (by decide +kernel)
theorem zin {ci : Nat} {q : vw_C} (h : vwCl[ci]? = some q) : ∀ w ∈ u_ws q.1 q.2.1 q.2.2, w ∈ zGW := by
  match ci, h with
  | 0, h => cases h; exact zin0
  | 1, h => cases h; exact zin1
  | 2, h => cases h; exact zin2
  | 3, h => cases h; exact zin3
  | 4, h => cases h; exact zin4
  | 5, h => cases h; exact zin5
  | 6, h => cases h; exact zin6
  | 7, h => cases h; exact zin7
  | 8, h => cases h; exact zin8
  | 9, h => cases h; exact zin9
  | 10, h => cases h; exact zin10
  | 11, h => cases h; exact zin11
  | 12, h => cases h; exact zin12
  | 13, h => cases h; exact zin13
  | n + 14, h => exact absurd (zcl_lt h) (by omega)
end
section
/-! ===== the judgement inside a method over the abstract heap, and straight code by its weakest precondition ===== -/
abbrev zX : Type := Program × Launch × Env × Room × State × MethodId × Array Value × List Frame × Method × Code × (State → Prop) × zG × Nat × Nat × Sg × (Nat → Nat)
def zS (X : zX) (σ : Sg) (cells slots pc : Nat) (lv : List (Nat × Value)) (st : List Value) : Prop := match X with
  | (p, l, e, R, s, m, args, below, meth, c, Q, G, b0, nL, σ0, ad0) =>
    ∀ (ad : Nat → Nat) (H : Heap) (locs : List Loc) (ls : Array Slot), (∀ q, σ0.1 q ≠ 0 → ad q = ad0 q ∧ σ.1 q = σ0.1 q) → zRl G b0 ad σ H → (∀ x ∈ lv, zlv σ x.2) → (∀ v ∈ st, zlv σ v) →
      va_S (fun q => b0 ≤ q) s.heap H locs → lv_has ls nL (lv.map fun x => (x.1, ph ad x.2)) → W p l e R s m args below meth c H locs cells slots Q (F0 m pc ls (st.map (ph ad)))
def zC (X : zX) (M : zM) : Prop := match X with
  | (p, _, _, _, s, m, args, _, meth, c, _, G, b0, nL, _, _) =>
    p.tables.exec = Jvm.exec ∧ c.code = M.2.1 ∧ c.maxLocals = nL ∧ s.vm.findClass M.1.cls = some m.cls ∧ (∀ w ∈ zws M, w.before args s = true) ∧ zK G s ∧ meth.locks = false ∧ b0 ≤ s.heap.size ∧ nL = M.2.2.1 ∧ meth.sig.returnType = M.2.2.2 ∧ meth.name = M.1.name ∧ zEx G b0 s s.heap
def up2 {α : Type} (f : Nat → Nat → α) (p k : Nat) (v : α) : Nat → Nat → α := fun p' k' => bif Nat.beq p' p && Nat.beq k' k then v else f p' k'
theorem up2_ne {α : Type} (f : Nat → Nat → α) {p q : Nat} (k : Nat) (v : α) (h : q ≠ p) : up2 f p k v q = f q := by
  funext j
  have h1 : Nat.beq q p = false := by
    cases hb : Nat.beq q p with
    | false => rfl
    | true => exact absurd (Nat.eq_of_beq_eq_true hb) h
  simp [up2, h1]
theorem up2_at {α : Type} (f : Nat → Nat → α) (p k : Nat) (v : α) (j : Nat) : up2 f p k v p j = if j = k then v else f p j := by
  have h0 : Nat.beq p p = true := Nat.beq_refl p
  by_cases h : j = k
  · subst h
    have h2 : Nat.beq j j = true := Nat.beq_refl j
    simp [up2, h0, h2]
  · have h1 : Nat.beq j k = false := by
      cases hb : Nat.beq j k with
      | false => rfl
      | true => exact absurd (Nat.eq_of_beq_eq_true hb) h
    simp [up2, h0, h1, h]
theorem up2_self {α : Type} (f : Nat → Nat → α) (p k : Nat) (v : α) : up2 f p k v p k = v := by rw [up2_at, if_pos rfl]
/-! destructors, in continuation style, so that they compute -/
def zi1 (st : List Value) (k : Int32 → List Value → Prop) : Prop := match st with
  | .int x :: r => k x r
  | _ => False
def zi2 (st : List Value) (k : Int32 → Int32 → List Value → Prop) : Prop := zi1 st fun y r => zi1 r fun x r => k x y r
def zl1 (st : List Value) (k : Int64 → List Value → Prop) : Prop := match st with
  | .long x :: r => k x r
  | _ => False
def zl2 (st : List Value) (k : Int64 → Int64 → List Value → Prop) : Prop := zl1 st fun y r => zl1 r fun x r => k x y r
def zr1 (st : List Value) (k : Nat → List Value → Prop) : Prop := match st with
  | .ref x :: r => k x r
  | _ => False
def zv1 (st : List Value) (k : Value → List Value → Prop) : Prop := match st with
  | .int x :: r => k (.int x) r
  | .ref x :: r => k (.ref x) r
  | .null :: r => k .null r
  | _ => False
theorem zi1_sp {st : List Value} {k : Int32 → List Value → Prop} (h : zi1 st k) : ∃ x r, st = .int x :: r ∧ k x r := by
  unfold zi1 at h
  split at h
  · exact ⟨_, _, rfl, h⟩
  · exact h.elim
theorem zl1_sp {st : List Value} {k : Int64 → List Value → Prop} (h : zl1 st k) : ∃ x r, st = .long x :: r ∧ k x r := by
  unfold zl1 at h
  split at h
  · exact ⟨_, _, rfl, h⟩
  · exact h.elim
theorem zr1_sp {st : List Value} {k : Nat → List Value → Prop} (h : zr1 st k) : ∃ x r, st = .ref x :: r ∧ k x r := by
  unfold zr1 at h
  split at h
  · exact ⟨_, _, rfl, h⟩
  · exact h.elim
theorem zi2_sp {st : List Value} {k : Int32 → Int32 → List Value → Prop} (h : zi2 st k) : ∃ x y r, st = .int y :: .int x :: r ∧ k x y r := by
  obtain ⟨y, r, e1, h1⟩ := zi1_sp h
  obtain ⟨x, r2, e2, h2⟩ := zi1_sp h1
  subst e2
  subst e1
  exact ⟨x, y, r2, rfl, h2⟩
theorem zl2_sp {st : List Value} {k : Int64 → Int64 → List Value → Prop} (h : zl2 st k) : ∃ x y r, st = .long y :: .long x :: r ∧ k x y r := by
  obtain ⟨y, r, e1, h1⟩ := zl1_sp h
  obtain ⟨x, r2, e2, h2⟩ := zl1_sp h1
  subst e2
  subst e1
  exact ⟨x, y, r2, rfl, h2⟩
theorem zv1_sp {st : List Value} {k : Value → List Value → Prop} (h : zv1 st k) : ∃ v r, st = v :: r ∧ k v r ∧ v.category = 1 := by
  unfold zv1 at h
  split at h
  · exact ⟨_, _, rfl, h, rfl⟩
  · exact ⟨_, _, rfl, h, rfl⟩
  · exact ⟨_, _, rfl, h, rfl⟩
  · exact h.elim
/-- a local by its number -/
def zld (lv : List (Nat × Value)) (i : Nat) (k : Value → Prop) : Prop := match lv with
  | [] => False
  | q :: l => bif Nat.beq q.1 i then k q.2 else zld l i k
theorem zld_sp : ∀ {lv : List (Nat × Value)} {i : Nat} {k : Value → Prop}, zld lv i k → ∃ v, (i, v) ∈ lv ∧ k v
  | [], _, _, h => h.elim
  | q :: l, i, k, h => by
    unfold zld at h
    cases hb : Nat.beq q.1 i with
    | true =>
      rw [hb] at h
      have := Nat.eq_of_beq_eq_true hb
      subst this
      exact ⟨q.2, List.mem_cons_self, h⟩
    | false =>
      rw [hb] at h
      obtain ⟨v, h1, h2⟩ := zld_sp h
      exact ⟨v, List.mem_cons_of_mem _ h1, h2⟩
def zfil (f : Nat × Value → Bool) : List (Nat × Value) → (List (Nat × Value) → Prop) → Prop
  | [], k => k []
  | q :: l, k => zfil f l (fun l' => bif f q then k (q :: l') else k l')
theorem zfil_sp (f : Nat × Value → Bool) : ∀ (l : List (Nat × Value)) (k : List (Nat × Value) → Prop), zfil f l k → k (l.filter f)
  | [], k, h => h
  | q :: l, k, h => by
    have h1 := zfil_sp f l _ h
    cases hq : f q with
    | true => rw [hq] at h1; rw [List.filter_cons_of_pos hq]; exact h1
    | false => rw [hq] at h1; rw [List.filter_cons_of_neg (by simp [hq])]; exact h1
abbrev zf1 (i : Nat) : Nat × Value → Bool := fun q => !(q.1 == i) && !(q.1 + 1 == i && q.2.category == 2)
abbrev zf2 (i : Nat) : Nat × Value → Bool := fun q => !(q.1 == i) && (!(q.1 == i + 1) && !(q.1 + 1 == i && q.2.category == 2))
theorem zmapf (ad : Nat → Nat) (f : Nat × Value → Bool) (hf : ∀ q, f (q.1, ph ad q.2) = f q) (l : List (Nat × Value)) : (l.map fun x => (x.1, ph ad x.2)).filter f = (l.filter f).map fun x => (x.1, ph ad x.2) := by
  rw [List.filter_map]
  congr 1
  apply List.filter_congr
  intro q _
  exact hf q
theorem zf1_ph (ad : Nat → Nat) (i : Nat) (q : Nat × Value) : zf1 i (q.1, ph ad q.2) = zf1 i q := by simp only [zf1, ph_cat]
theorem zf2_ph (ad : Nat → Nat) (i : Nat) (q : Nat × Value) : zf2 i (q.1, ph ad q.2) = zf2 i q := by simp only [zf2, ph_cat]
/-- a constant as a number's name -/
def zcC (n : Int) (k : Int32 → Prop) : Prop := match n with
  | .ofNat a => k (nI a)
  | .negSucc a => k (-(nI (a + 1)))
def zcB (w : Nat) (n : Int) (k : Int32 → Prop) : Prop := match n with
  | .ofNat a => bif Nat.ble a w then k (nI a) else False
  | .negSucc a => bif Nat.ble a w then k (-(nI (a + 1))) else False
theorem zcC_sp {n : Int} {k : Int32 → Prop} (h : zcC n k) : k (Int32.ofInt n) := by
  cases n with
  | ofNat a => exact h
  | negSucc a =>
    have e : Int32.ofInt (Int.negSucc a) = -(nI (a + 1)) := by
      rw [show (Int.negSucc a) = -((a + 1 : Nat) : Int) from rfl, Int32.ofInt_neg]; rfl
    rw [e]; exact h
theorem zcB8 : (∀ a : Nat, a < 128 → (Int8.ofInt (Int.ofNat a)).toInt32 = nI a) ∧ (∀ a : Nat, a < 128 → (Int8.ofInt (Int.negSucc a)).toInt32 = -(nI (a + 1))) := by decide +kernel
theorem zcB16a {a : Nat} (h : a < 32768) : (Int16.ofInt (Int.ofNat a)).toInt32 = nI a := by
  apply Int32.toInt_inj.mp
  rw [Int16.toInt_toInt32, nI_toInt (by omega), Int16.toInt_ofInt]
  show Int.bmod (a : Int) 65536 = a
  simp only [Int.bmod]
  split <;> omega
theorem zcB16b {a : Nat} (h : a < 32768) : (Int16.ofInt (Int.negSucc a)).toInt32 = -(nI (a + 1)) := by
  apply Int32.toInt_inj.mp
  rw [Int16.toInt_toInt32, sb_negT (by omega), Int16.toInt_ofInt]
  show Int.bmod (Int.negSucc a) 65536 = _
  rw [Int.negSucc_eq]
  simp only [Int.bmod]
  split <;> omega
theorem zcB_sp8 {n : Int} {k : Int32 → Prop} (h : zcB 127 n k) : k ((Int8.ofInt n).toInt32) := by
  cases n with
  | ofNat a =>
    unfold zcB at h
    cases hb : Nat.ble a 127 with
    | false => simp only [hb] at h; exact h.elim
    | true => simp only [hb] at h; rw [zcB8.1 a (Nat.lt_succ_of_le (Nat.le_of_ble_eq_true hb))]; exact h
  | negSucc a =>
    unfold zcB at h
    cases hb : Nat.ble a 127 with
    | false => simp only [hb] at h; exact h.elim
    | true => simp only [hb] at h; rw [zcB8.2 a (Nat.lt_succ_of_le (Nat.le_of_ble_eq_true hb))]; exact h
theorem zcB_sp16 {n : Int} {k : Int32 → Prop} (h : zcB 32767 n k) : k ((Int16.ofInt n).toInt32) := by
  cases n with
  | ofNat a =>
    unfold zcB at h
    cases hb : Nat.ble a 32767 with
    | false => simp only [hb] at h; exact h.elim
    | true => simp only [hb] at h; rw [zcB16a (Nat.lt_succ_of_le (Nat.le_of_ble_eq_true hb))]; exact h
  | negSucc a =>
    unfold zcB at h
    cases hb : Nat.ble a 32767 with
    | false => simp only [hb] at h; exact h.elim
    | true => simp only [hb] at h; rw [zcB16b (Nat.lt_succ_of_le (Nat.le_of_ble_eq_true hb))]; exact h
def zfin (n : Fin 4) (k : Nat → Prop) : Prop := match n with
  | 0 => k 0
  | 1 => k 1
  | 2 => k 2
  | 3 => k 3
theorem zfin_sp {n : Fin 4} {k : Nat → Prop} (h : zfin n k) : k n.val := by
  match n, h with
  | 0, h => exact h
  | 1, h => exact h
  | 2, h => exact h
  | 3, h => exact h
def zvr (v : Value) (k : Value → Prop) : Prop := match v with
  | .ref a => k (.ref a)
  | .null => k .null
  | _ => False
theorem zvr_sp {v : Value} {k : Value → Prop} (h : zvr v k) : ((∃ a, v = .ref a) ∨ v = .null) ∧ k v := by
  unfold zvr at h
  split at h
  · exact ⟨Or.inl ⟨_, rfl⟩, h⟩
  · exact ⟨Or.inr rfl, h⟩
  · exact h.elim
def zop (o : Option Nat) (a : Prop) (k : Nat → Prop) : Prop := match o with
  | none => a
  | some q => k q
theorem zop_sp {o : Option Nat} {a : Prop} {k : Nat → Prop} (h : zop o a k) : (o = none ∧ a) ∨ ∃ q, o = some q ∧ k q := by
  unfold zop at h
  split at h
  · exact Or.inl ⟨rfl, h⟩
  · exact Or.inr ⟨_, rfl, h⟩
/-- links of a class: fields (entry, class number, slot, type's code, final), whole constants -/
abbrev zLk : Type := List (Nat × Nat × Nat × Nat × Bool) × List (Nat × Int32) × List (Nat × Int64)
def zlkF (l : List (Nat × Nat × Nat × Nat × Bool)) (i : Nat) (k : Nat → Nat → Nat → Bool → Prop) : Prop := match l with
  | [] => False
  | (a, ci, j, tc, fin) :: l => bif Nat.beq a i then k ci j tc fin else zlkF l i k
def zlkI (l : List (Nat × Int32)) (i : Nat) (k : Int32 → Prop) : Prop := match l with
  | [] => False
  | (a, v) :: l => bif Nat.beq a i then k v else zlkI l i k
def zlkL (l : List (Nat × Int64)) (i : Nat) (k : Int64 → Prop) : Prop := match l with
  | [] => False
  | (a, v) :: l => bif Nat.beq a i then k v else zlkL l i k
theorem zlkF_sp : ∀ {l : List (Nat × Nat × Nat × Nat × Bool)} {i : Nat} {k : Nat → Nat → Nat → Bool → Prop}, zlkF l i k → ∃ ci j tc fin, (i, ci, j, tc, fin) ∈ l ∧ k ci j tc fin
  | [], _, _, h => h.elim
  | (a, ci, j, tc, fin) :: l, i, k, h => by
    unfold zlkF at h
    cases hb : Nat.beq a i with
    | true =>
      rw [hb] at h
      have := Nat.eq_of_beq_eq_true hb
      subst this
      exact ⟨ci, j, tc, fin, List.mem_cons_self, h⟩
    | false =>
      rw [hb] at h
      obtain ⟨c, d, e, f, h1, h2⟩ := zlkF_sp h
      exact ⟨c, d, e, f, List.mem_cons_of_mem _ h1, h2⟩
theorem zlkI_sp : ∀ {l : List (Nat × Int32)} {i : Nat} {k : Int32 → Prop}, zlkI l i k → ∃ v, (i, v) ∈ l ∧ k v
  | [], _, _, h => h.elim
  | (a, v) :: l, i, k, h => by
    unfold zlkI at h
    cases hb : Nat.beq a i with
    | true =>
      rw [hb] at h
      have := Nat.eq_of_beq_eq_true hb
      subst this
      exact ⟨v, List.mem_cons_self, h⟩
    | false =>
      rw [hb] at h
      obtain ⟨v, h1, h2⟩ := zlkI_sp h
      exact ⟨v, List.mem_cons_of_mem _ h1, h2⟩
theorem zlkL_sp : ∀ {l : List (Nat × Int64)} {i : Nat} {k : Int64 → Prop}, zlkL l i k → ∃ v, (i, v) ∈ l ∧ k v
  | [], _, _, h => h.elim
  | (a, v) :: l, i, k, h => by
    unfold zlkL at h
    cases hb : Nat.beq a i with
    | true =>
      rw [hb] at h
      have := Nat.eq_of_beq_eq_true hb
      subst this
      exact ⟨v, List.mem_cons_self, h⟩
    | false =>
      rw [hb] at h
      obtain ⟨v, h1, h2⟩ := zlkL_sp h
      exact ⟨v, List.mem_cons_of_mem _ h1, h2⟩
/-- a field's entry: its class, its slot, its link, its type's code (0 int, 1 a reference, 2 boolean, 3 byte), whether it is final (then declared by the class itself) -/
def zFe (own : String) (q : Nat × Nat × Nat × Nat × Bool) : Prop := ∃ (c : vw_C) (rf : String), vwCl[q.2.1]? = some c ∧ q.2.2.1 < c.2.2 ∧ Cond.fieldLink own q.1 rf (c.2.1 q.2.2.1).2.1 (c.2.1 q.2.2.1).2.2.1 ∈ zGW ∧
  (rf = (c.2.1 q.2.2.1).1 ∨ Cond.sameField rf (c.2.1 q.2.2.1).1 (c.2.1 q.2.2.1).2.1 (c.2.1 q.2.2.1).2.2.1 ∈ zGW) ∧ (c.2.1 q.2.2.1).2.2.2 = q.2.2.2.2 ∧
  (q.2.2.2.1 = 1 ↔ zisR (zty q.2.1 q.2.2.1) = true) ∧ (q.2.2.2.1 = 0 → zty q.2.1 q.2.2.1 = .int) ∧ (q.2.2.2.1 = 2 → zty q.2.1 q.2.2.1 = .boolean) ∧ (q.2.2.2.1 = 3 → zty q.2.1 q.2.2.1 = .byte)
def zlkOK (own : String) (lk : zLk) : Prop := (∀ q ∈ lk.1, zFe own q) ∧ (∀ q ∈ lk.2.1, Cond.constant own q.1 q.2 ∈ zGW) ∧ (∀ q ∈ lk.2.2, Cond.constantLong own q.1 q.2 ∈ zGW)
end
section
theorem zOK_same {G : zG} {ad ad' : Nat → Nat} {σ σ' : Sg} {H H' : Heap} {p : Nat} (h : zOK G ad σ H p) (e1 : σ'.1 p = σ.1 p) (e2 : σ'.2.1 p = σ.2.1 p) (e3 : σ'.2.2.1 p = σ.2.2.1 p) (e4 : σ'.2.2.2.1 p = σ.2.2.2.1 p) (e5 : σ'.2.2.2.2 p = σ.2.2.2.2 p) (ea : ad' p = ad p) (eR : ∀ k q, σ.2.2.2.2 p k = some q → ad' q = ad q) (eH : H'[ad p]? = H[ad p]?) : zOK G ad' σ' H' p := by
  have em : ∀ k, (σ'.2.2.2.2 p k).map ad' = (σ.2.2.2.2 p k).map ad := by
    intro k
    rw [e5]
    cases hk : σ.2.2.2.2 p k with
    | none => rfl
    | some q => simp [eR k q hk]
  refine ⟨fun ci q hk hq => ?_, fun t ht hk => ?_⟩
  · rw [e1] at hk
    rw [ea]
    exact ((h.1 ci q hk hq).kept eH).to (fun k _ => by simp only [zfv, e3, em])
  · rw [e1] at hk
    rw [ea, eH, h.2 t ht hk, e2]
    congr 2
    funext j
    simp only [zel, e3, e4, em]
theorem zRl_put {G : zG} {b0 : Nat} {ad : Nat → Nat} {σ σ' : Sg} {H H' : Heap} {p : Nat} (h : zRl G b0 ad σ H) (hp : σ.1 p ≠ 0) (hp3 : σ.1 p < 30) (eK : σ'.1 = σ.1) (eN : σ'.2.1 = σ.2.1) (e3 : ∀ q, q ≠ p → σ'.2.2.1 q = σ.2.2.1 q) (e4 : ∀ q, q ≠ p → σ'.2.2.2.1 q = σ.2.2.2.1 q) (e5 : ∀ q, q ≠ p → σ'.2.2.2.2 q = σ.2.2.2.2 q) (hz : H'.size = H.size) (ho : ∀ q, q ≠ ad p → H'[q]? = H[q]?) (hok : zOK G ad σ' H' p) (hR : ∀ k q, σ'.2.2.2.2 p k = some q → σ.1 q ≠ 0) : zRl G b0 ad σ' H' := by
  refine ⟨fun q hq => ?_, fun q r hq hq3 hr hr3 => ?_, fun q k r hq hr => ?_, fun i hi => ?_⟩
  · rw [eK] at hq
    obtain ⟨h1, h2⟩ := h.1 q hq
    refine ⟨by rw [hz]; exact h1, fun hq3 => ?_⟩
    rw [eK] at hq3
    obtain ⟨h2, h3⟩ := h2 hq3
    refine ⟨h2, ?_⟩
    by_cases e : q = p
    · subst e; exact hok
    · exact zOK_same h3 (by rw [eK]) (by rw [eN]) (e3 q e) (e4 q e) (e5 q e) rfl (fun _ _ _ => rfl) (ho _ (fun z => e (h.2.1 q p hq hq3 hp hp3 z)))
  · rw [eK] at hq hr hq3 hr3
    exact h.2.1 q r hq hq3 hr hr3
  · rw [eK] at hq ⊢
    by_cases e : q = p
    · subst e; exact hR k r hr
    · rw [e5 q e] at hr; exact h.2.2.1 q k r hq hr
  · rw [eK]; exact h.2.2.2 i hi
theorem zl_t {σ : Sg} {a : Value} {r : List Value} (h : ∀ v ∈ a :: r, zlv σ v) : ∀ v ∈ r, zlv σ v := fun v hv => h v (List.mem_cons_of_mem _ hv)
theorem zl_c {σ : Sg} {a : Value} {r : List Value} (ha : zlv σ a) (h : ∀ v ∈ r, zlv σ v) : ∀ v ∈ a :: r, zlv σ v := fun v hv => (List.mem_cons.mp hv).elim (fun e => e ▸ ha) (h v)
theorem zl_i {σ : Sg} {x : Int32} {r : List Value} (h : ∀ v ∈ r, zlv σ v) : ∀ v ∈ .int x :: r, zlv σ v := zl_c (fun q e => by cases e) h
theorem zl_l {σ : Sg} {x : Int64} {r : List Value} (h : ∀ v ∈ r, zlv σ v) : ∀ v ∈ .long x :: r, zlv σ v := zl_c (fun q e => by cases e) h
theorem zl_n {σ : Sg} {r : List Value} (h : ∀ v ∈ r, zlv σ v) : ∀ v ∈ .null :: r, zlv σ v := zl_c (fun q e => by cases e) h
theorem zl_h {σ : Sg} {a : Value} {r : List Value} (h : ∀ v ∈ a :: r, zlv σ v) : zlv σ a := h a List.mem_cons_self
theorem zl_f {σ : Sg} {f : Nat × Value → Bool} {i : Nat} {v : Value} {lv : List (Nat × Value)} (hv : zlv σ v) (h : ∀ x ∈ lv, zlv σ x.2) : ∀ x ∈ (i, v) :: lv.filter f, zlv σ x.2 := fun x hx => (List.mem_cons.mp hx).elim (fun e => by rw [e]; exact hv) (fun q => h x (List.mem_filter.mp q).1)
theorem z_at {ls : Array Slot} {nL : Nat} {lv : List (Nat × Value)} {ad : Nat → Nat} (h : lv_has ls nL (lv.map fun x => (x.1, ph ad x.2))) {i : Nat} {v : Value} (hi : (i, v) ∈ lv) : ls[i]? = some (.val (ph ad v)) := h.2.2 (i, ph ad v) (List.mem_map.mpr ⟨(i, v), hi, rfl⟩)
def zlen (i : Instr) : Nat := match i with
  | .aload _ | .iload _ | .lload _ | .astore _ | .istore _ | .lstore _ | .bipush _ | .ldc _ => 2
  | .sipush _ | .iinc _ _ | .getfield _ | .putfield _ | .ldc2_w _ => 3
  | _ => 1
/-- what must hold ahead of an instruction so that k holds behind it -/
def z1 (nL : Nat) (lk : zLk) (ini : Bool) (i : Instr) (σ : Sg) (lv : List (Nat × Value)) (st : List Value) (k : Sg → List (Nat × Value) → List Value → Prop) : Prop := match i with
  | .aload n => zld lv n fun v => zvr v fun v => k σ lv (v :: st)
  | .aload_n n => zfin n fun n => zld lv n fun v => zvr v fun v => k σ lv (v :: st)
  | .iload n => zld lv n fun v => zi1 [v] fun x _ => k σ lv (.int x :: st)
  | .iload_n n => zfin n fun n => zld lv n fun v => zi1 [v] fun x _ => k σ lv (.int x :: st)
  | .lload n => zld lv n fun v => zl1 [v] fun x _ => k σ lv (.long x :: st)
  | .lload_n n => zfin n fun n => zld lv n fun v => zl1 [v] fun x _ => k σ lv (.long x :: st)
  | .istore n => bif Nat.blt n nL then zi1 st fun x r => zfil (zf1 n) lv fun l => k σ ((n, .int x) :: l) r else False
  | .istore_n n => zfin n fun n => bif Nat.blt n nL then zi1 st fun x r => zfil (zf1 n) lv fun l => k σ ((n, .int x) :: l) r else False
  | .astore n => bif Nat.blt n nL then zr1 st fun x r => zfil (zf1 n) lv fun l => k σ ((n, .ref x) :: l) r else False
  | .astore_n n => zfin n fun n => bif Nat.blt n nL then zr1 st fun x r => zfil (zf1 n) lv fun l => k σ ((n, .ref x) :: l) r else False
  | .iconst n => zcC n fun v => k σ lv (.int v :: st)
  | .bipush n => zcB 127 n fun v => k σ lv (.int v :: st)
  | .sipush n => zcB 32767 n fun v => k σ lv (.int v :: st)
  | .lconst n => k σ lv (.long (lN n.val) :: st)
  | .ldc n => zlkI lk.2.1 n fun v => k σ lv (.int v :: st)
  | .ldc2_w n => zlkL lk.2.2 n fun v => k σ lv (.long v :: st)
  | .iinc n c => zld lv n fun v => zi1 [v] fun x _ => zcC c fun c => bif Nat.blt n nL then zfil (zf1 n) lv fun l => k σ ((n, .int (x + c)) :: l) st else False
  | .iadd => zi2 st fun x y r => k σ lv (.int (x + y) :: r)
  | .isub => zi2 st fun x y r => k σ lv (.int (x - y) :: r)
  | .imul => zi2 st fun x y r => k σ lv (.int (x * y) :: r)
  | .iand => zi2 st fun x y r => k σ lv (.int (x &&& y) :: r)
  | .ior => zi2 st fun x y r => k σ lv (.int (x ||| y) :: r)
  | .ixor => zi2 st fun x y r => k σ lv (.int (x ^^^ y) :: r)
  | .ishl => zi2 st fun x y r => k σ lv (.int (x <<< (y &&& 31)) :: r)
  | .ishr => zi2 st fun x y r => k σ lv (.int (x >>> (y &&& 31)) :: r)
  | .ineg => zi1 st fun x r => k σ lv (.int (-x) :: r)
  | .i2b => zi1 st fun x r => k σ lv (.int (x.toInt8.toInt32) :: r)
  | .i2s => zi1 st fun x r => k σ lv (.int (x.toInt16.toInt32) :: r)
  | .i2c => zi1 st fun x r => k σ lv (.int ((x.toUInt32 % 65536).toInt32) :: r)
  | .land => zl2 st fun x y r => k σ lv (.long (x &&& y) :: r)
  | .lor => zl2 st fun x y r => k σ lv (.long (x ||| y) :: r)
  | .idiv => zi2 st fun x y r => ¬ y = 0 ∧ k σ lv (.int (x / y) :: r)
  | .irem => zi2 st fun x y r => ¬ y = 0 ∧ k σ lv (.int (x - x / y * y) :: r)
  | .i2l => zi1 st fun x r => k σ lv (.long x.toInt64 :: r)
  | .l2i => zl1 st fun x r => k σ lv (.int x.toInt32 :: r)
  | .lshl => zi1 st fun y r => zl1 r fun x r => k σ lv (.long (x <<< (y.toInt64 &&& 63)) :: r)
  | .lcmp => zl2 st fun x y r => k σ lv (.int (lg_cmp x y) :: r)
  | .dup => zv1 st fun v r => k σ lv (v :: v :: r)
  | .pop => zv1 st fun _ r => k σ lv r
  | .dup_x1 => zv1 st fun v r => zv1 r fun w r => k σ lv (v :: w :: v :: r)
  | .dup2 => zv1 st fun v r => zv1 r fun w r => k σ lv (v :: w :: v :: w :: r)
  | .getfield n => zlkF lk.1 n fun ci j tc _ => zr1 st fun p r => match σ with
    | (K, N, I, L, R) => bif Nat.beq (K p) (ci + 1) then (bif Nat.beq tc 1 then zop (R p j) (k (K, N, I, L, R) lv (.null :: r)) (fun q => k (K, N, I, L, R) lv (.ref q :: r)) else k (K, N, I, L, R) lv (.int (I p j) :: r)) else False
  | .putfield n => zlkF lk.1 n fun ci j tc fin => bif fin && !ini then False else zv1 st fun v r => zr1 r fun p r => match σ with
    | (K, N, I, L, R) => bif Nat.beq (K p) (ci + 1) then (match v with
      | .ref q => bif Nat.beq tc 1 then k (K, N, I, L, up2 R p j (some q)) lv r else False
      | .int x => (bif Nat.beq tc 0 then k (K, N, up2 I p j x, L, R) lv r else bif Nat.beq tc 2 then (narrow .boolean (.int x) = .int x ∧ fits .boolean (.int x) = true) ∧ k (K, N, up2 I p j x, L, R) lv r else bif Nat.beq tc 3 then (narrow .byte (.int x) = .int x ∧ fits .byte (.int x) = true) ∧ k (K, N, up2 I p j x, L, R) lv r else False)
      | _ => False) else False
  | .iaload => zi1 st fun i r => zr1 r fun p r => match σ with
    | (K, N, I, L, R) => bif Nat.beq (K p) 22 then vp_in i (N p) ∧ k (K, N, I, L, R) lv (.int (I p i.toNatClampNeg) :: r) else False
  | .caload => zi1 st fun i r => zr1 r fun p r => match σ with
    | (K, N, I, L, R) => bif Nat.beq (K p) 21 then vp_in i (N p) ∧ k (K, N, I, L, R) lv (.int (I p i.toNatClampNeg) :: r) else False
  | .baload => zi1 st fun i r => zr1 r fun p r => match σ with
    | (K, N, I, L, R) => bif Nat.beq (K p) 20 || Nat.beq (K p) 24 then vp_in i (N p) ∧ k (K, N, I, L, R) lv (.int (I p i.toNatClampNeg) :: r) else False
  | .laload => zi1 st fun i r => zr1 r fun p r => match σ with
    | (K, N, I, L, R) => bif Nat.beq (K p) 23 then vp_in i (N p) ∧ k (K, N, I, L, R) lv (.long (L p i.toNatClampNeg) :: r) else False
  | .iastore => zi1 st fun x r => zi1 r fun i r => zr1 r fun p r => match σ with
    | (K, N, I, L, R) => bif Nat.beq (K p) 22 then vp_in i (N p) ∧ k (K, N, up2 I p i.toNatClampNeg x, L, R) lv r else False
  | .castore => zi1 st fun x r => zi1 r fun i r => zr1 r fun p r => match σ with
    | (K, N, I, L, R) => bif Nat.beq (K p) 21 then vp_in i (N p) ∧ k (K, N, up2 I p i.toNatClampNeg (vp_nar .char x), L, R) lv r else False
  | .bastore => zi1 st fun x r => zi1 r fun i r => zr1 r fun p r => match σ with
    | (K, N, I, L, R) => bif Nat.beq (K p) 20 then vp_in i (N p) ∧ k (K, N, up2 I p i.toNatClampNeg (vp_nar .byte x), L, R) lv r else bif Nat.beq (K p) 24 then vp_in i (N p) ∧ k (K, N, up2 I p i.toNatClampNeg (vp_nar .boolean x), L, R) lv r else False
  | .lastore => zl1 st fun x r => zi1 r fun i r => zr1 r fun p r => match σ with
    | (K, N, I, L, R) => bif Nat.beq (K p) 23 then vp_in i (N p) ∧ k (K, N, I, up2 L p i.toNatClampNeg x, R) lv r else False
  | .arraylength => zr1 st fun p r => match σ with
    | (K, N, I, L, R) => bif Nat.ble 20 (K p) && Nat.ble (K p) 25 then k (K, N, I, L, R) lv (.int (nI (N p)) :: r) else False
  | _ => False
end
section
def zini (M : zM) (lk : zLk) : Prop := M.1.name = "<init>" ∧ ∀ q ∈ lk.1, ∀ c : vw_C, vwCl[q.2.1]? = some c → (c.2.1 q.2.2.1).1 = M.1.cls
section
variable {p : Program} {l : Launch} {e : Env} {R : Room} {s : State} {m : MethodId} {args : Array Value} {below : List Frame} {meth : Method} {c : Code} {Q : State → Prop} {G : zG} {b0 nL : Nat} {σ0 : Sg} {ad0 : Nat → Nat} {M : zM} {pc : Nat} {H : Heap} {locs : List Loc} {cells slots : Nat} {ls : Array Slot} {rest : List Value} {ad : Nat → Nat} {σ : Sg}
theorem zg_same {q : Nat × Nat × Nat × Nat × Bool} {cq : vw_C} {rf : String} (hts : ∀ w ∈ zws M, w.before args s = true) (h : rf = (cq.2.1 q.2.2.1).1 ∨ Cond.sameField rf (cq.2.1 q.2.2.1).1 (cq.2.1 q.2.2.1).2.1 (cq.2.1 q.2.2.1).2.2.1 ∈ zGW) : ∀ x, s.fieldFound? (cq.2.1 q.2.2.1).1 (cq.2.1 q.2.2.1).2.1 (cq.2.1 q.2.2.1).2.2.1 = some x → s.fieldFound? rf (cq.2.1 q.2.2.1).2.1 (cq.2.1 q.2.2.1).2.2.1 = some x := by
  intro x hx
  rcases h with h | h
  · rw [h]; exact hx
  · exact u_same (hts _ (List.mem_cons_of_mem _ h)) x hx
/-- getfield -/
theorem zg_get (hx : p.tables.exec = Jvm.exec) (hb : c.code = M.2.1) (hown : s.vm.findClass M.1.cls = some m.cls) (hts : ∀ w ∈ zws M, w.before args s = true) (hK : zK G s) {q : Nat × Nat × Nat × Nat × Bool} (hq : zFe M.1.cls q) (hR : zRl G b0 ad σ H) {a : Nat} (ha : σ.1 a = q.2.1 + 1) (hd : decode M.2.1 pc = .ok (.getfield q.1, 3))
    (kk : W p l e R s m args below meth c H locs cells slots Q (F0 m (pc + 3) ls (zfv ad σ q.2.1 a q.2.2.1 :: rest))) : W p l e R s m args below meth c H locs cells slots Q (F0 m pc ls (.ref (ad a) :: rest)) := by
  obtain ⟨cq, rf, hc, hk, hlink, hsame, -⟩ := hq
  obtain ⟨hS, hfc, kC, hkC, hkind⟩ := hK.1 q.2.1 cq hc
  obtain ⟨cf, kf, fi, f, hi, hsl⟩ := hS q.2.2.1 hk
  obtain ⟨cell, q1, q2, q3, q4⟩ := ((hR.1 a (by rw [ha]; exact Nat.succ_ne_zero _)).2 (by rw [ha]; have := zcl_lt hc; omega)).2.1 q.2.1 cq ha hc
  refine W.getf hx hb hown (hts _ (List.mem_cons_of_mem _ hlink)) (zg_same hts hsame _ hi) (u_facts hfc hkC (u_lays hts (fun w h => List.mem_cons_of_mem _ (zin hc w h)) hk) hi).1 q1 (by rw [q3]; exact fun h => by cases h) (v := zfv ad σ q.2.1 a q.2.2.1) ?_ rfl rfl hd kk
  rw [hsl]
  exact q4 q.2.2.1 hk
theorem zg_apart (hts : ∀ w ∈ zws M, w.before args s = true) (hK : zK G s) {ci : Nat} {cq : vw_C} (hc : vwCl[ci]? = some cq) : ∀ x y, x < cq.2.2 → y < cq.2.2 → x ≠ y → (G.2.1 ci) x ≠ (G.2.1 ci) y := by
  intro x y hx hy hne
  obtain ⟨hS, -⟩ := hK.1 ci _ hc
  obtain ⟨_, _, _, fa, hia, ea⟩ := hS x hx
  obtain ⟨_, _, _, fb, hib, eb⟩ := hS y hy
  rw [← ea, ← eb]
  have hin : ∀ w ∈ u_ws cq.1 cq.2.1 cq.2.2, w ∈ zws M := fun w h => List.mem_cons_of_mem _ (zin hc w h)
  refine u_apart (u_lays hts hin hx) (u_lays hts hin hy) hia hib ?_
  rw [(State.fieldFound?_type hia (zty_ok hc x hx)).1, (State.fieldFound?_type hib (zty_ok hc y hy)).1]
  exact znm hc x hx y hy hne
/-- putfield, to a picture that has the value there -/
theorem zg_put (hx : p.tables.exec = Jvm.exec) (hb : c.code = M.2.1) (hown : s.vm.findClass M.1.cls = some m.cls) (hts : ∀ w ∈ zws M, w.before args s = true) (hK : zK G s) {q : Nat × Nat × Nat × Nat × Bool} (hq : zFe M.1.cls q) (hR : zRl G b0 ad σ H) {a : Nat} (ha : σ.1 a = q.2.1 + 1) {σ' : Sg} {v : Value}
    (hfin : q.2.2.2.2 = true → meth.name = "<init>" ∧ ∀ cq : vw_C, vwCl[q.2.1]? = some cq → (cq.2.1 q.2.2.1).1 = M.1.cls) (hn : narrow (zty q.2.1 q.2.2.1) v = v) (hfit : fits (zty q.2.1 q.2.2.1) v = true) (hS0 : va_S (fun q => b0 ≤ q) s.heap H locs)
    (eK : σ'.1 = σ.1) (eN : σ'.2.1 = σ.2.1) (e3 : ∀ q, q ≠ a → σ'.2.2.1 q = σ.2.2.1 q) (e4 : ∀ q, q ≠ a → σ'.2.2.2.1 q = σ.2.2.2.1 q) (e5 : ∀ q, q ≠ a → σ'.2.2.2.2 q = σ.2.2.2.2 q) (hval : ∀ j, updV (zfv ad σ q.2.1 a) q.2.2.1 v j = zfv ad σ' q.2.1 a j) (hRf : ∀ k q, σ'.2.2.2.2 a k = some q → σ.1 q ≠ 0) (hd : decode M.2.1 pc = .ok (.putfield q.1, 3))
    (kk : ∀ (H1 : Heap) (locs1 : List Loc), zRl G b0 ad σ' H1 → va_S (fun q => b0 ≤ q) s.heap H1 locs1 → W p l e R s m args below meth c H1 locs1 cells slots Q (F0 m (pc + 3) ls rest)) : W p l e R s m args below meth c H locs cells slots Q (F0 m pc ls (v :: .ref (ad a) :: rest)) := by
  obtain ⟨cq, rf, hc, hk, hlink, hsame, hfl, -⟩ := hq
  have hap := zg_apart hts hK hc
  obtain ⟨hS, hfc, kC, hkC, hkind⟩ := hK.1 q.2.1 cq hc
  obtain ⟨cf, kf, fi, f, hi, hsl⟩ := hS q.2.2.1 hk
  have ha0 : σ.1 a ≠ 0 := by rw [ha]; exact Nat.succ_ne_zero _
  have ha3 : σ.1 a < 30 := by rw [ha]; have := zcl_lt hc; omega
  obtain ⟨hb1, hok, -⟩ := (hR.1 a ha0).2 ha3
  obtain ⟨cell, q1, q2, q3, q4⟩ := hok q.2.1 cq ha hc
  have hin : ∀ w ∈ u_ws cq.1 cq.2.1 cq.2.2, w ∈ zws M := fun w h => List.mem_cons_of_mem _ (zin hc w h)
  have hlay := hts _ (hin _ (u_in_lay hk))
  have hst := (u_facts hfc hkC (u_lays hts hin hk) hi).1
  have hlk := hts _ (List.mem_cons_of_mem _ hlink)
  have goal : ∀ H' : Heap, H'[ad a]? = some (cell.setSlot f.slot v) → H'.size = H.size → (∀ q, q ≠ ad a → H'[q]? = H[q]?) → W p l e R s m args below meth c H' (locs ++ [⟨ad a, f.slot⟩]) cells slots Q (F0 m (pc + 3) ls rest) := by
    intro H' e1 e2 e3'
    refine kk H' _ (zRl_put hR ha0 ha3 eK eN e3 e4 e5 e2 e3' ⟨fun ci cq' h1 h2 => ?_, fun t ht h1 => ?_⟩ hRf) (hS0.put e2 e3' hb1)
    · rw [eK] at h1
      have : ci = q.2.1 := by rw [ha] at h1; omega
      subst this
      cases hc.symm.trans h2
      rw [hsl] at e1
      exact (t_OB.to (V := updV (zfv ad σ q.2.1 a) q.2.2.1 v) ⟨_, e1, q2, q3, t_set q4 hap hk v⟩ (fun j _ => hval j))
    · rw [eK] at h1
      have := zcl_lt hc
      omega
  unfold u_lay at hlay
  by_cases hf : (cq.2.1 q.2.2.1).2.2.2 = true
  · rw [if_pos hf] at hlay
    obtain ⟨hnm, hdecl⟩ := hfin (by rw [← hfl]; exact hf)
    have hcf : m.cls = cf := by
      obtain ⟨_, _, c', _, _, _, -, -, hf', -, -, -, hown2, -⟩ := Cond.laysFinal_spec hlay
      have e1 : c' = cf := by have := hi.symm.trans hf'; simp at this; exact this.1.symm
      rw [hdecl cq hc] at hown2
      rw [← e1]; exact Option.some.inj (hown.symm.trans hown2)
    have h6 := u_fits hfc hkC hkind (Or.inr hlay) hi (zty_ok hc _ hk) hn hfit
    exact W.putFinK hx hb hown hlk (zg_same hts hsame _ hi) hst hcf hnm (by rw [q2]; exact h6) q1 q3 (by rw [hsl]; exact k2_hasslot (q4 q.2.2.1 hk)) rfl rfl hd goal
  · rw [if_neg hf] at hlay
    have h6 := u_store hfc hkC hkind hlay hi (zty_ok hc _ hk) hn hfit
    exact W.putK hx hb (f := f) ⟨hown, hlk, ⟨_, _, _, zg_same hts hsame _ hi⟩, hst⟩ (by rw [q2]; exact h6) q1 q3 (by rw [hsl]; exact k2_hasslot (q4 q.2.2.1 hk)) rfl rfl hd goal
theorem zg_arr (hK : zK G s) (hR : zRl G b0 ad σ H) {a t : Nat} (ht : t < 6) (ha : σ.1 a = 20 + t) : b0 ≤ ad a ∧ H[ad a]? = some (arrV (G.2.2.1 t) (σ.2.1 a) (zel ad σ t a)) ∧ s.isArrayOf (arrV (G.2.2.1 t) (σ.2.1 a) (zel ad σ t a)) (zat t) := by
  obtain ⟨h1, h3⟩ := (hR.1 a (by omega)).2 (by omega)
  exact ⟨h1, h3.2 t ht ha, (hK.2.1 t ht).1 _ _⟩
theorem zg_arrput (hR : zRl G b0 ad σ H) {a t j : Nat} (ht : t < 6) (ha : σ.1 a = 20 + t) {σ' : Sg} {v : Value} {H' : Heap} (hS0 : va_S (fun q => b0 ≤ q) s.heap H locs)
    (eK : σ'.1 = σ.1) (eN : σ'.2.1 = σ.2.1) (e3 : ∀ q, q ≠ a → σ'.2.2.1 q = σ.2.2.1 q) (e4 : ∀ q, q ≠ a → σ'.2.2.2.1 q = σ.2.2.2.1 q) (e5 : ∀ q, q ≠ a → σ'.2.2.2.2 q = σ.2.2.2.2 q) (hval : ∀ i, updV (zel ad σ t a) j v i = zel ad σ' t a i) (hRf : ∀ k q, σ'.2.2.2.2 a k = some q → σ.1 q ≠ 0)
    (e1 : H'[ad a]? = some ((arrV (G.2.2.1 t) (σ.2.1 a) (zel ad σ t a)).setSlot j v)) (e2 : H'.size = H.size) (e3' : ∀ q, q ≠ ad a → H'[q]? = H[q]?) : zRl G b0 ad σ' H' ∧ va_S (fun q => b0 ≤ q) s.heap H' (locs ++ [⟨ad a, j⟩]) := by
  have ha0 : σ.1 a ≠ 0 := by omega
  have ha3 : σ.1 a < 30 := by omega
  refine ⟨zRl_put hR ha0 ha3 eK eN e3 e4 e5 e2 e3' ⟨fun ci cq' h1 h2 => ?_, fun t' ht' h1 => ?_⟩ hRf, hS0.put e2 e3' ((hR.1 a ha0).2 ha3).1⟩
  · rw [eK] at h1
    have := zcl_lt h2
    omega
  · rw [eK] at h1
    have : t' = t := by omega
    subst this
    rw [e1, eN, arrV_store]
    congr 2
    funext i
    exact hval i
end
end
section
set_option maxHeartbeats 4000000 in
theorem z1_ok {X : zX} {M : zM} {lk : zLk} {ini : Bool} (hX : zC X M) (hlk : zlkOK M.1.cls lk) (hini : ini = true → zini M lk) {i : Instr} {pc : Nat} (hd : decode M.2.1 pc = .ok (i, zlen i)) {σ : Sg} {cells slots : Nat} {lv : List (Nat × Value)} {st : List Value}
    {k : Sg → List (Nat × Value) → List Value → Prop} (hk : ∀ σ' lv' st', k σ' lv' st' → zS X σ' cells slots (pc + zlen i) lv' st') (h : z1 M.2.2.1 lk ini i σ lv st k) : zS X σ cells slots pc lv st := by
  obtain ⟨p, l, e, R, s, m, args, below, meth, c, Q, G, b0, nL, σ0, ad0⟩ := X
  obtain ⟨hx, hb, hml, hown, hts, hK, hlocks, hb0, hnL, hrt, hnm, hEx⟩ := hX
  subst hnL
  intro ad H locs ls a1 a2 a3 a4 a5 a6
  cases i with
  | aload n =>
    unfold z1 at h
    dsimp only at h
    obtain ⟨v, h1, h⟩ := zld_sp h
    obtain ⟨h2, h⟩ := zvr_sp h
    rcases h2 with ⟨q, rfl⟩ | rfl
    · exact lv_aload hx hb hd (z_at a6 h1) (hk _ _ _ h ad H locs ls a1 a2 a3 (zl_c (a3 _ h1) a4) a5 a6)
    · exact lv_aloadN hx hb hd (z_at a6 h1) (hk _ _ _ h ad H locs ls a1 a2 a3 (zl_n a4) a5 a6)
  | aload_n n =>
    unfold z1 at h
    dsimp only at h
    have h := zfin_sp h
    obtain ⟨v, h1, h⟩ := zld_sp h
    obtain ⟨h2, h⟩ := zvr_sp h
    rcases h2 with ⟨q, rfl⟩ | rfl
    · exact lv_aload_n hx hb hd rfl (z_at a6 h1) (hk _ _ _ h ad H locs ls a1 a2 a3 (zl_c (a3 _ h1) a4) a5 a6)
    · exact lv_aload_nN hx hb hd rfl (z_at a6 h1) (hk _ _ _ h ad H locs ls a1 a2 a3 (zl_n a4) a5 a6)
  | iload n =>
    unfold z1 at h
    dsimp only at h
    obtain ⟨v, h1, h⟩ := zld_sp h
    obtain ⟨x, r, h2, h⟩ := zi1_sp h
    cases h2
    exact lv_iload hx hb hd (z_at a6 h1) (hk _ _ _ h ad H locs ls a1 a2 a3 (zl_i a4) a5 a6)
  | iload_n n =>
    unfold z1 at h
    dsimp only at h
    have h := zfin_sp h
    obtain ⟨v, h1, h⟩ := zld_sp h
    obtain ⟨x, r, h2, h⟩ := zi1_sp h
    cases h2
    exact lv_iload_n hx hb hd rfl (z_at a6 h1) (hk _ _ _ h ad H locs ls a1 a2 a3 (zl_i a4) a5 a6)
  | lload n =>
    unfold z1 at h
    dsimp only at h
    obtain ⟨v, h1, h⟩ := zld_sp h
    obtain ⟨x, r, h2, h⟩ := zl1_sp h
    cases h2
    exact lv_lload hx hb hd (z_at a6 h1) (hk _ _ _ h ad H locs ls a1 a2 a3 (zl_l a4) a5 a6)
  | lload_n n =>
    unfold z1 at h
    dsimp only at h
    have h := zfin_sp h
    obtain ⟨v, h1, h⟩ := zld_sp h
    obtain ⟨x, r, h2, h⟩ := zl1_sp h
    cases h2
    exact lv_lload_n hx hb hd rfl (z_at a6 h1) (hk _ _ _ h ad H locs ls a1 a2 a3 (zl_l a4) a5 a6)
  | istore n =>
    unfold z1 at h
    dsimp only at h
    cases hbn : Nat.blt n M.2.2.1 with
    | false => rw [hbn] at h; exact h.elim
    | true =>
      rw [hbn] at h
      obtain ⟨x, r, rfl, h⟩ := zi1_sp h
      have h := zfil_sp _ _ _ h
      refine lv_istore hx hb hd a6 (Nat.le_of_ble_eq_true hbn) rfl (fun ls hl => ?_)
      refine hk _ _ _ h ad H locs ls a1 a2 (zl_f (fun q e => by cases e) a3) (zl_t a4) a5 ?_
      rw [zmapf ad _ (zf1_ph ad _)] at hl
      exact hl
  | istore_n n =>
    unfold z1 at h
    dsimp only at h
    have h := zfin_sp h
    cases hbn : Nat.blt n.val M.2.2.1 with
    | false => rw [hbn] at h; exact h.elim
    | true =>
      rw [hbn] at h
      obtain ⟨x, r, rfl, h⟩ := zi1_sp h
      have h := zfil_sp _ _ _ h
      refine lv_istore_n hx hb hd rfl a6 (Nat.le_of_ble_eq_true hbn) rfl (fun ls hl => ?_)
      refine hk _ _ _ h ad H locs ls a1 a2 (zl_f (fun q e => by cases e) a3) (zl_t a4) a5 ?_
      rw [zmapf ad _ (zf1_ph ad _)] at hl
      exact hl
  | astore n =>
    unfold z1 at h
    dsimp only at h
    cases hbn : Nat.blt n M.2.2.1 with
    | false => rw [hbn] at h; exact h.elim
    | true =>
      rw [hbn] at h
      obtain ⟨x, r, rfl, h⟩ := zr1_sp h
      have h := zfil_sp _ _ _ h
      refine lv_astore hx hb hd a6 (Nat.le_of_ble_eq_true hbn) rfl (fun ls hl => ?_)
      refine hk _ _ _ h ad H locs ls a1 a2 (zl_f (zl_h a4) a3) (zl_t a4) a5 ?_
      rw [zmapf ad _ (zf1_ph ad _)] at hl
      exact hl
  | astore_n n =>
    unfold z1 at h
    dsimp only at h
    have h := zfin_sp h
    cases hbn : Nat.blt n.val M.2.2.1 with
    | false => rw [hbn] at h; exact h.elim
    | true =>
      rw [hbn] at h
      obtain ⟨x, r, rfl, h⟩ := zr1_sp h
      have h := zfil_sp _ _ _ h
      refine lv_astore_n hx hb hd rfl a6 (Nat.le_of_ble_eq_true hbn) rfl (fun ls hl => ?_)
      refine hk _ _ _ h ad H locs ls a1 a2 (zl_f (zl_h a4) a3) (zl_t a4) a5 ?_
      rw [zmapf ad _ (zf1_ph ad _)] at hl
      exact hl
  | iconst n =>
    unfold z1 at h
    dsimp only at h
    exact lv_iconst hx hb hd rfl (hk _ _ _ (zcC_sp h) ad H locs ls a1 a2 a3 (zl_i a4) a5 a6)
  | bipush n =>
    unfold z1 at h
    dsimp only at h
    exact lv_bipush hx hb hd rfl (hk _ _ _ (zcB_sp8 h) ad H locs ls a1 a2 a3 (zl_i a4) a5 a6)
  | sipush n =>
    unfold z1 at h
    dsimp only at h
    exact lv_sipush hx hb hd rfl (hk _ _ _ (zcB_sp16 h) ad H locs ls a1 a2 a3 (zl_i a4) a5 a6)
  | lconst n =>
    unfold z1 at h
    dsimp only at h
    exact lv_lconst hx hb hd rfl (hk _ _ _ h ad H locs ls a1 a2 a3 (zl_l a4) a5 a6)
  | ldc n =>
    unfold z1 at h
    dsimp only at h
    obtain ⟨v, h1, h⟩ := zlkI_sp h
    exact lv_ldc hx hb hown (hts _ (List.mem_cons_of_mem _ (hlk.2.1 _ h1))) hd (hk _ _ _ h ad H locs ls a1 a2 a3 (zl_i a4) a5 a6)
  | ldc2_w n =>
    unfold z1 at h
    dsimp only at h
    obtain ⟨v, h1, h⟩ := zlkL_sp h
    exact lv_ldc2 hx hb hown (hts _ (List.mem_cons_of_mem _ (hlk.2.2 _ h1))) hd (hk _ _ _ h ad H locs ls a1 a2 a3 (zl_l a4) a5 a6)
  | iinc n kc =>
    unfold z1 at h
    dsimp only at h
    obtain ⟨v, h1, h⟩ := zld_sp h
    obtain ⟨x, r, h2, hq1⟩ := zi1_sp h
    obtain ⟨rfl, rfl⟩ : v = .int x ∧ [] = r := by cases h2; exact ⟨rfl, rfl⟩
    clear h
    have h := zcC_sp hq1
    clear hq1
    cases hbn : Nat.blt n M.2.2.1 with
    | false => rw [hbn] at h; exact h.elim
    | true =>
      rw [hbn] at h
      have h := zfil_sp _ _ _ h
      obtain ⟨j, hj⟩ := List.getElem?_of_mem (List.mem_map.mpr ⟨_, h1, rfl⟩ : (n, ph ad (.int x)) ∈ lv.map fun x => (x.1, ph ad x.2))
      refine lv_iinc hx hb hd a6 (k := j) hj rfl (Nat.le_of_ble_eq_true hbn) rfl (fun ls hl => ?_)
      refine hk _ _ _ h ad H locs ls a1 a2 (zl_f (fun q e => by cases e) a3) a4 a5 ?_
      rw [zmapf ad _ (zf1_ph ad _)] at hl
      exact hl
  | iadd =>
    unfold z1 at h
    dsimp only at h
    obtain ⟨x, y, r, rfl, h⟩ := zi2_sp h
    exact lv_iadd hx hb hd (hk _ _ _ h ad H locs ls a1 a2 a3 (zl_i (zl_t (zl_t a4))) a5 a6)
  | isub =>
    unfold z1 at h
    dsimp only at h
    obtain ⟨x, y, r, rfl, h⟩ := zi2_sp h
    exact lv_isub hx hb hd (hk _ _ _ h ad H locs ls a1 a2 a3 (zl_i (zl_t (zl_t a4))) a5 a6)
  | imul =>
    unfold z1 at h
    dsimp only at h
    obtain ⟨x, y, r, rfl, h⟩ := zi2_sp h
    exact lv_imul hx hb hd (hk _ _ _ h ad H locs ls a1 a2 a3 (zl_i (zl_t (zl_t a4))) a5 a6)
  | iand =>
    unfold z1 at h
    dsimp only at h
    obtain ⟨x, y, r, rfl, h⟩ := zi2_sp h
    exact lv_iand hx hb hd (hk _ _ _ h ad H locs ls a1 a2 a3 (zl_i (zl_t (zl_t a4))) a5 a6)
  | ior =>
    unfold z1 at h
    dsimp only at h
    obtain ⟨x, y, r, rfl, h⟩ := zi2_sp h
    exact lv_ior hx hb hd (hk _ _ _ h ad H locs ls a1 a2 a3 (zl_i (zl_t (zl_t a4))) a5 a6)
  | ixor =>
    unfold z1 at h
    dsimp only at h
    obtain ⟨x, y, r, rfl, h⟩ := zi2_sp h
    exact lv_ixor hx hb hd (hk _ _ _ h ad H locs ls a1 a2 a3 (zl_i (zl_t (zl_t a4))) a5 a6)
  | ishl =>
    unfold z1 at h
    dsimp only at h
    obtain ⟨x, y, r, rfl, h⟩ := zi2_sp h
    exact lv_ishl hx hb hd (hk _ _ _ h ad H locs ls a1 a2 a3 (zl_i (zl_t (zl_t a4))) a5 a6)
  | ishr =>
    unfold z1 at h
    dsimp only at h
    obtain ⟨x, y, r, rfl, h⟩ := zi2_sp h
    exact lv_ishr hx hb hd (hk _ _ _ h ad H locs ls a1 a2 a3 (zl_i (zl_t (zl_t a4))) a5 a6)
  | ineg =>
    unfold z1 at h
    dsimp only at h
    obtain ⟨x, r, rfl, h⟩ := zi1_sp h
    exact lv_ineg hx hb hd (hk _ _ _ h ad H locs ls a1 a2 a3 (zl_i (zl_t a4)) a5 a6)
  | i2b =>
    unfold z1 at h
    dsimp only at h
    obtain ⟨x, r, rfl, h⟩ := zi1_sp h
    exact lv_i2b hx hb hd rfl (hk _ _ _ h ad H locs ls a1 a2 a3 (zl_i (zl_t a4)) a5 a6)
  | i2s =>
    unfold z1 at h
    dsimp only at h
    obtain ⟨x, r, rfl, h⟩ := zi1_sp h
    exact lv_i2s hx hb hd rfl (hk _ _ _ h ad H locs ls a1 a2 a3 (zl_i (zl_t a4)) a5 a6)
  | i2c =>
    unfold z1 at h
    dsimp only at h
    obtain ⟨x, r, rfl, h⟩ := zi1_sp h
    exact lv_i2c hx hb hd rfl (hk _ _ _ h ad H locs ls a1 a2 a3 (zl_i (zl_t a4)) a5 a6)
  | land =>
    unfold z1 at h
    dsimp only at h
    obtain ⟨x, y, r, rfl, h⟩ := zl2_sp h
    exact lv_land hx hb hd (hk _ _ _ h ad H locs ls a1 a2 a3 (zl_l (zl_t (zl_t a4))) a5 a6)
  | lor =>
    unfold z1 at h
    dsimp only at h
    obtain ⟨x, y, r, rfl, h⟩ := zl2_sp h
    exact lv_lor hx hb hd (hk _ _ _ h ad H locs ls a1 a2 a3 (zl_l (zl_t (zl_t a4))) a5 a6)
  | idiv =>
    unfold z1 at h
    dsimp only at h
    obtain ⟨x, y, r, rfl, h0, h⟩ := zi2_sp h
    exact lv_idiv hx hb hd h0 (hk _ _ _ h ad H locs ls a1 a2 a3 (zl_i (zl_t (zl_t a4))) a5 a6)
  | irem =>
    unfold z1 at h
    dsimp only at h
    obtain ⟨x, y, r, rfl, h0, h⟩ := zi2_sp h
    exact lv_irem hx hb hd h0 (hk _ _ _ h ad H locs ls a1 a2 a3 (zl_i (zl_t (zl_t a4))) a5 a6)
  | i2l =>
    unfold z1 at h
    dsimp only at h
    obtain ⟨x, r, rfl, h⟩ := zi1_sp h
    exact lv_i2l hx hb hd rfl (hk _ _ _ h ad H locs ls a1 a2 a3 (zl_l (zl_t a4)) a5 a6)
  | l2i =>
    unfold z1 at h
    dsimp only at h
    obtain ⟨x, r, rfl, h⟩ := zl1_sp h
    exact lv_l2i hx hb hd rfl (hk _ _ _ h ad H locs ls a1 a2 a3 (zl_i (zl_t a4)) a5 a6)
  | lshl =>
    unfold z1 at h
    dsimp only at h
    obtain ⟨y, r1, e1, h1⟩ := zi1_sp h
    obtain ⟨x, r, e2, h2⟩ := zl1_sp h1
    subst e2
    subst e1
    exact lv_lshl hx hb hd rfl (hk _ _ _ h2 ad H locs ls a1 a2 a3 (zl_l (zl_t (zl_t a4))) a5 a6)
  | lcmp =>
    unfold z1 at h
    dsimp only at h
    obtain ⟨x, y, r, rfl, h⟩ := zl2_sp h
    exact W.lcmp hx hb hd (hk _ _ _ h ad H locs ls a1 a2 a3 (zl_i (zl_t (zl_t a4))) a5 a6)
  | dup =>
    unfold z1 at h
    dsimp only at h
    obtain ⟨v, r, rfl, h, hc⟩ := zv1_sp h
    exact lv_dup hx hb hd (by rw [ph_cat]; exact hc) (hk _ _ _ h ad H locs ls a1 a2 a3 (zl_c (zl_h a4) a4) a5 a6)
  | pop =>
    unfold z1 at h
    dsimp only at h
    obtain ⟨v, r, rfl, h, hc⟩ := zv1_sp h
    exact lv_pop hx hb hd (by rw [ph_cat]; exact hc) (hk _ _ _ h ad H locs ls a1 a2 a3 (zl_t a4) a5 a6)
  | dup_x1 =>
    unfold z1 at h
    dsimp only at h
    obtain ⟨v, r1, e1, h1, hc⟩ := zv1_sp h
    obtain ⟨w, r, e2, h2, hc2⟩ := zv1_sp h1
    subst e2
    subst e1
    exact lv_dup_x1 hx hb hd (by rw [ph_cat]; exact hc) (by rw [ph_cat]; exact hc2) (hk _ _ _ h2 ad H locs ls a1 a2 a3 (zl_c (zl_h a4) (zl_c (zl_h (zl_t a4)) (zl_c (zl_h a4) (zl_t (zl_t a4))))) a5 a6)
  | dup2 =>
    unfold z1 at h
    dsimp only at h
    obtain ⟨v, r1, e1, h1, hc⟩ := zv1_sp h
    obtain ⟨w, r, e2, h2, hc2⟩ := zv1_sp h1
    subst e2
    subst e1
    exact lv_dup2_11 hx hb hd (by rw [ph_cat]; exact hc) (by rw [ph_cat]; exact hc2) (hk _ _ _ h2 ad H locs ls a1 a2 a3 (zl_c (zl_h a4) (zl_c (zl_h (zl_t a4)) a4)) a5 a6)
  | getfield n =>
    unfold z1 at h
    dsimp only at h
    obtain ⟨ci, j, tc, fin, hm, h⟩ := zlkF_sp h
    obtain ⟨q, r, e1, h5⟩ := zr1_sp h
    clear h
    subst e1
    obtain ⟨K, N, I, L, Rf⟩ := σ
    dsimp only at h5
    have h := h5
    clear h5
    cases hbk : Nat.beq (K q) (ci + 1) with
    | false => rw [hbk] at h; exact h.elim
    | true =>
      rw [hbk] at h
      have hKq := Nat.eq_of_beq_eq_true hbk
      have hfe := hlk.1 _ hm
      refine zg_get (M := M) hx hb hown hts hK hfe a2 hKq hd ?_
      obtain ⟨cq, rf, -, -, -, -, -, htc, -⟩ := hfe
      dsimp only at htc ⊢
      cases hbt : Nat.beq tc 1 with
      | true =>
        rw [hbt] at h
        have htr := htc.mp (Nat.eq_of_beq_eq_true hbt)
        rcases zop_sp h with ⟨h1, h⟩ | ⟨w, h1, h⟩
        · have e1 : zfv ad (K, N, I, L, Rf) ci q j = .null := by simp [zfv, htr, h1, va_rf]
          rw [e1]
          exact hk _ _ _ h ad H locs ls a1 a2 a3 (zl_n (zl_t a4)) a5 a6
        · have e1 : zfv ad (K, N, I, L, Rf) ci q j = .ref (ad w) := by simp [zfv, htr, h1, va_rf]
          rw [e1]
          refine hk _ _ _ h ad H locs ls a1 a2 a3 (zl_c (fun z e => ?_) (zl_t a4)) a5 a6
          cases e
          exact a2.2.2.1 q j w (by show K q ≠ 0; omega) h1
      | false =>
        rw [hbt] at h
        have htr : ¬ zisR (zty ci j) = true := fun z => by rw [htc.mpr z] at hbt; cases hbt
        have e1 : zfv ad (K, N, I, L, Rf) ci q j = .int (I q j) := by simp [zfv, htr]
        rw [e1]
        exact hk _ _ _ h ad H locs ls a1 a2 a3 (zl_i (zl_t a4)) a5 a6
  | putfield n =>
    unfold z1 at h
    dsimp only at h
    obtain ⟨ci, j, tc, fin, hm, h⟩ := zlkF_sp h
    cases hfi : (fin && !ini) with
    | true => rw [hfi] at h; exact h.elim
    | false =>
      rw [hfi] at h
      simp only [cond_false] at h
      have hfin : fin = true → meth.name = "<init>" ∧ ∀ cq : vw_C, vwCl[ci]? = some cq → (cq.2.1 j).1 = M.1.cls := by
        intro hf
        have hi : ini = true := by
          cases ini with
          | true => rfl
          | false => rw [hf] at hfi; cases hfi
        obtain ⟨z1, z2⟩ := hini hi
        exact ⟨hnm.trans z1, fun cq hq => z2 _ hm cq hq⟩
      obtain ⟨v, r1, e1, h1, -⟩ := zv1_sp h
      obtain ⟨q, r, e2, h2⟩ := zr1_sp h1
      clear h h1
      subst e2
      subst e1
      obtain ⟨K, N, I, L, Rf⟩ := σ
      dsimp only at h2
      cases hbk : Nat.beq (K q) (ci + 1) with
      | false => rw [hbk] at h2; exact h2.elim
      | true =>
        rw [hbk] at h2
        have hKq := Nat.eq_of_beq_eq_true hbk
        have hfe := hlk.1 _ hm
        have hfe2 := hfe
        obtain ⟨cq, rf, -, -, -, -, -, htc, ht0, ht2, ht3⟩ := hfe2
        dsimp only at htc ht0 ht2 ht3
        have hint : ∀ x : Int32, ¬ zisR (zty ci j) = true → narrow (zty ci j) (.int x) = .int x → fits (zty ci j) (.int x) = true → k (K, N, up2 I q j x, L, Rf) lv r → W p l e R s m args below meth c H locs cells slots Q (F0 m pc ls ((.int x :: .ref q :: r).map (ph ad))) := by
          intro x htr hn hf hk'
          refine zg_put (M := M) (v := .int x) (σ' := (K, N, up2 I q j x, L, Rf)) hx hb hown hts hK hfe a2 hKq hfin hn hf a5 rfl rfl (fun w hw => up2_ne _ _ _ hw) (fun _ _ => rfl) (fun _ _ => rfl) (fun i => ?_) (fun k w hw => a2.2.2.1 q k w (by show K q ≠ 0; omega) hw) hd (fun H1 locs1 b1 b2 => hk _ _ _ hk' ad H1 locs1 ls a1 b1 a3 (zl_t (zl_t a4)) b2 a6)
          show updV _ j _ i = _
          by_cases hij : i = j
          · subst hij
            simp [updV, zfv, htr, up2_self]
          · simp [updV, zfv, hij, up2_at]
        cases v with
        | ref w =>
          dsimp only at h2
          cases hbt : Nat.beq tc 1 with
          | false => rw [hbt] at h2; exact h2.elim
          | true =>
            rw [hbt] at h2
            have htr := htc.mp (Nat.eq_of_beq_eq_true hbt)
            have hn : narrow (zty ci j) (.ref (ad w)) = .ref (ad w) := by
              cases hz : zty ci j <;> rw [hz] at htr <;> first | rfl | cases htr
            have hf : fits (zty ci j) (.ref (ad w)) = true := by
              cases hz : zty ci j <;> rw [hz] at htr <;> first | rfl | cases htr
            refine zg_put (M := M) (v := .ref (ad w)) (σ' := (K, N, I, L, up2 Rf q j (some w))) hx hb hown hts hK hfe a2 hKq hfin hn hf a5 rfl rfl (fun _ _ => rfl) (fun _ _ => rfl) (fun z hz => up2_ne _ _ _ hz) (fun i => ?_) (fun k z hz => ?_) hd (fun H1 locs1 b1 b2 => hk _ _ _ h2 ad H1 locs1 ls a1 b1 a3 (zl_t (zl_t a4)) b2 a6)
            · show updV _ j _ i = _
              by_cases hij : i = j
              · subst hij
                simp [updV, zfv, htr, up2_self, va_rf]
              · simp [updV, zfv, hij, up2_at]
            · change up2 Rf q j (some w) q k = some z at hz
              rw [up2_at] at hz
              by_cases hkj : k = j
              · rw [if_pos hkj] at hz
                cases hz
                exact zl_h a4 _ rfl
              · rw [if_neg hkj] at hz
                exact a2.2.2.1 q k z (by show K q ≠ 0; omega) hz
        | int x =>
          dsimp only at h2
          cases hb0' : Nat.beq tc 0 with
          | true =>
            rw [hb0'] at h2
            have e0 := ht0 (Nat.eq_of_beq_eq_true hb0')
            exact hint x (by rw [e0]; decide) (by rw [e0]; rfl) (by rw [e0]; rfl) h2
          | false =>
            rw [hb0'] at h2
            cases hb2 : Nat.beq tc 2 with
            | true =>
              rw [hb2] at h2
              have e0 := ht2 (Nat.eq_of_beq_eq_true hb2)
              exact hint x (by rw [e0]; decide) (by rw [e0]; exact h2.1.1) (by rw [e0]; exact h2.1.2) h2.2
            | false =>
              rw [hb2] at h2
              cases hb3 : Nat.beq tc 3 with
              | true =>
                rw [hb3] at h2
                have e0 := ht3 (Nat.eq_of_beq_eq_true hb3)
                exact hint x (by rw [e0]; decide) (by rw [e0]; exact h2.1.1) (by rw [e0]; exact h2.1.2) h2.2
              | false => rw [hb3] at h2; exact h2.elim
        | _ => exact h2.elim
  | iaload =>
    unfold z1 at h
    dsimp only at h
    obtain ⟨i, r1, e1, h1⟩ := zi1_sp h
    obtain ⟨q, r, e2, h2⟩ := zr1_sp h1
    subst e2
    subst e1
    obtain ⟨K, N, I, L, Rf⟩ := σ
    dsimp only at h2
    cases hbk : Nat.beq (K q) 22 with
    | false => rw [hbk] at h2; exact h2.elim
    | true =>
      rw [hbk] at h2
      obtain ⟨hin, h2⟩ := h2
      obtain ⟨g1, g2, g3⟩ := zg_arr hK a2 (t := 2) (by decide) (Nat.eq_of_beq_eq_true hbk)
      have hlt : i.toNatClampNeg < N q := Nat.not_le.mp fun z => hin (Or.inr z)
      exact W.iald (v := .int (I q i.toNatClampNeg)) hx hb g2 g3 (fun z => by cases z) (by rw [arrV_size]; exact hin) (by rw [arrV_read _ _ hlt]; rfl) rfl rfl hd (hk _ _ _ h2 ad H locs ls a1 a2 a3 (zl_i (zl_t (zl_t a4))) a5 a6)
  | caload =>
    unfold z1 at h
    dsimp only at h
    obtain ⟨i, r1, e1, h1⟩ := zi1_sp h
    obtain ⟨q, r, e2, h2⟩ := zr1_sp h1
    subst e2
    subst e1
    obtain ⟨K, N, I, L, Rf⟩ := σ
    dsimp only at h2
    cases hbk : Nat.beq (K q) 21 with
    | false => rw [hbk] at h2; exact h2.elim
    | true =>
      rw [hbk] at h2
      obtain ⟨hin, h2⟩ := h2
      obtain ⟨g1, g2, g3⟩ := zg_arr hK a2 (t := 1) (by decide) (Nat.eq_of_beq_eq_true hbk)
      have hlt : i.toNatClampNeg < N q := Nat.not_le.mp fun z => hin (Or.inr z)
      exact W.cald (v := .int (I q i.toNatClampNeg)) hx hb g2 g3 (fun z => by cases z) (by rw [arrV_size]; exact hin) (by rw [arrV_read _ _ hlt]; rfl) rfl rfl hd (hk _ _ _ h2 ad H locs ls a1 a2 a3 (zl_i (zl_t (zl_t a4))) a5 a6)
  | laload =>
    unfold z1 at h
    dsimp only at h
    obtain ⟨i, r1, e1, h1⟩ := zi1_sp h
    obtain ⟨q, r, e2, h2⟩ := zr1_sp h1
    subst e2
    subst e1
    obtain ⟨K, N, I, L, Rf⟩ := σ
    dsimp only at h2
    cases hbk : Nat.beq (K q) 23 with
    | false => rw [hbk] at h2; exact h2.elim
    | true =>
      rw [hbk] at h2
      obtain ⟨hin, h2⟩ := h2
      obtain ⟨g1, g2, g3⟩ := zg_arr hK a2 (t := 3) (by decide) (Nat.eq_of_beq_eq_true hbk)
      have hlt : i.toNatClampNeg < N q := Nat.not_le.mp fun z => hin (Or.inr z)
      exact W.lald (v := .long (L q i.toNatClampNeg)) hx hb g2 g3 (fun z => by cases z) (by rw [arrV_size]; exact hin) (by rw [arrV_read _ _ hlt]; rfl) rfl rfl hd (hk _ _ _ h2 ad H locs ls a1 a2 a3 (zl_l (zl_t (zl_t a4))) a5 a6)
  | baload =>
    unfold z1 at h
    dsimp only at h
    obtain ⟨i, r1, e1, h1⟩ := zi1_sp h
    obtain ⟨q, r, e2, h2⟩ := zr1_sp h1
    subst e2
    subst e1
    obtain ⟨K, N, I, L, Rf⟩ := σ
    dsimp only at h2
    cases hbk : (Nat.beq (K q) 20 || Nat.beq (K q) 24) with
    | false => rw [hbk] at h2; exact h2.elim
    | true =>
      rw [hbk] at h2
      obtain ⟨hin, h2⟩ := h2
      have hlt : i.toNatClampNeg < N q := Nat.not_le.mp fun z => hin (Or.inr z)
      rcases Bool.or_eq_true _ _ ▸ hbk with hbk | hbk
      · obtain ⟨g1, g2, g3⟩ := zg_arr hK a2 (t := 0) (by decide) (Nat.eq_of_beq_eq_true hbk)
        exact W.bald (v := .int (I q i.toNatClampNeg)) hx hb g2 g3 (fun z => by cases z) (by rw [arrV_size]; exact hin) (by rw [arrV_read _ _ hlt]; rfl) rfl rfl hd (hk _ _ _ h2 ad H locs ls a1 a2 a3 (zl_i (zl_t (zl_t a4))) a5 a6)
      · obtain ⟨g1, g2, g3⟩ := zg_arr hK a2 (t := 4) (by decide) (Nat.eq_of_beq_eq_true hbk)
        exact W.zald (v := .int (I q i.toNatClampNeg)) hx hb g2 g3 (fun z => by cases z) (by rw [arrV_size]; exact hin) (by rw [arrV_read _ _ hlt]; rfl) rfl rfl hd (hk _ _ _ h2 ad H locs ls a1 a2 a3 (zl_i (zl_t (zl_t a4))) a5 a6)
  | iastore =>
    unfold z1 at h
    dsimp only at h
    obtain ⟨x, r0, e0, h1⟩ := zi1_sp h
    obtain ⟨i, r1, e1, h2⟩ := zi1_sp h1
    obtain ⟨q, r, e2, h3⟩ := zr1_sp h2
    subst e2
    subst e1
    subst e0
    obtain ⟨K, N, I, L, Rf⟩ := σ
    dsimp only at h3
    cases hbk : Nat.beq (K q) 22 with
    | false => rw [hbk] at h3; exact h3.elim
    | true =>
      rw [hbk] at h3
      obtain ⟨hin, h3⟩ := h3
      obtain ⟨g1, g2, g3⟩ := zg_arr hK a2 (t := 2) (by decide) (Nat.eq_of_beq_eq_true hbk)
      have hval : ∀ w, updV (zel ad (K, N, I, L, Rf) 2 q) i.toNatClampNeg (.int x) w = zel ad (K, N, up2 I q i.toNatClampNeg x, L, Rf) 2 q w := by
        intro w
        by_cases hwi : w = i.toNatClampNeg
        · subst hwi
          simp [updV, zel, up2_self, vp_nar]
          try rfl
        · simp [updV, zel, hwi, up2_at]
      refine W.iast hx hb g2 g3 (fun z => by cases z) (by rw [arrV_size]; exact hin) rfl rfl hd (fun H1 y1 y2 y3 => ?_)
      obtain ⟨b1, b2⟩ := zg_arrput (t := 2) (σ' := (K, N, up2 I q i.toNatClampNeg x, L, Rf)) a2 (by decide) (Nat.eq_of_beq_eq_true hbk) a5 rfl rfl (fun w hw => up2_ne _ _ _ hw) (fun _ _ => rfl) (fun _ _ => rfl) hval (fun k w hw => a2.2.2.1 q k w (by have := Nat.eq_of_beq_eq_true hbk; show K q ≠ 0; omega) hw) y1 y2 y3
      exact hk _ _ _ h3 ad H1 _ ls a1 b1 a3 (zl_t (zl_t (zl_t a4))) b2 a6
  | castore =>
    unfold z1 at h
    dsimp only at h
    obtain ⟨x, r0, e0, h1⟩ := zi1_sp h
    obtain ⟨i, r1, e1, h2⟩ := zi1_sp h1
    obtain ⟨q, r, e2, h3⟩ := zr1_sp h2
    subst e2
    subst e1
    subst e0
    obtain ⟨K, N, I, L, Rf⟩ := σ
    dsimp only at h3
    cases hbk : Nat.beq (K q) 21 with
    | false => rw [hbk] at h3; exact h3.elim
    | true =>
      rw [hbk] at h3
      obtain ⟨hin, h3⟩ := h3
      obtain ⟨g1, g2, g3⟩ := zg_arr hK a2 (t := 1) (by decide) (Nat.eq_of_beq_eq_true hbk)
      have hval : ∀ w, updV (zel ad (K, N, I, L, Rf) 1 q) i.toNatClampNeg (narrow .char (.int x)) w = zel ad (K, N, up2 I q i.toNatClampNeg (vp_nar .char x), L, Rf) 1 q w := by
        intro w
        by_cases hwi : w = i.toNatClampNeg
        · subst hwi
          simp [updV, zel, up2_self, vp_nar]
          try rfl
        · simp [updV, zel, hwi, up2_at]
      refine W.cast hx hb g2 g3 (fun z => by cases z) (by rw [arrV_size]; exact hin) rfl rfl hd (fun H1 y1 y2 y3 => ?_)
      obtain ⟨b1, b2⟩ := zg_arrput (t := 1) (σ' := (K, N, up2 I q i.toNatClampNeg (vp_nar .char x), L, Rf)) a2 (by decide) (Nat.eq_of_beq_eq_true hbk) a5 rfl rfl (fun w hw => up2_ne _ _ _ hw) (fun _ _ => rfl) (fun _ _ => rfl) hval (fun k w hw => a2.2.2.1 q k w (by have := Nat.eq_of_beq_eq_true hbk; show K q ≠ 0; omega) hw) y1 y2 y3
      exact hk _ _ _ h3 ad H1 _ ls a1 b1 a3 (zl_t (zl_t (zl_t a4))) b2 a6
  | lastore =>
    unfold z1 at h
    dsimp only at h
    obtain ⟨x, r0, e0, h1⟩ := zl1_sp h
    obtain ⟨i, r1, e1, h2⟩ := zi1_sp h1
    obtain ⟨q, r, e2, h3⟩ := zr1_sp h2
    subst e2
    subst e1
    subst e0
    obtain ⟨K, N, I, L, Rf⟩ := σ
    dsimp only at h3
    cases hbk : Nat.beq (K q) 23 with
    | false => rw [hbk] at h3; exact h3.elim
    | true =>
      rw [hbk] at h3
      obtain ⟨hin, h3⟩ := h3
      obtain ⟨g1, g2, g3⟩ := zg_arr hK a2 (t := 3) (by decide) (Nat.eq_of_beq_eq_true hbk)
      have hval : ∀ w, updV (zel ad (K, N, I, L, Rf) 3 q) i.toNatClampNeg (.long x) w = zel ad (K, N, I, up2 L q i.toNatClampNeg x, Rf) 3 q w := by
        intro w
        by_cases hwi : w = i.toNatClampNeg
        · subst hwi
          simp [updV, zel, up2_self, vp_nar]
          try rfl
        · simp [updV, zel, hwi, up2_at]
      refine W.last hx hb g2 g3 (fun z => by cases z) (by rw [arrV_size]; exact hin) rfl rfl hd (fun H1 y1 y2 y3 => ?_)
      obtain ⟨b1, b2⟩ := zg_arrput (t := 3) (σ' := (K, N, I, up2 L q i.toNatClampNeg x, Rf)) a2 (by decide) (Nat.eq_of_beq_eq_true hbk) a5 rfl rfl (fun _ _ => rfl) (fun w hw => up2_ne _ _ _ hw) (fun _ _ => rfl) hval (fun k w hw => a2.2.2.1 q k w (by have := Nat.eq_of_beq_eq_true hbk; show K q ≠ 0; omega) hw) y1 y2 y3
      exact hk _ _ _ h3 ad H1 _ ls a1 b1 a3 (zl_t (zl_t (zl_t a4))) b2 a6
  | bastore =>
    unfold z1 at h
    dsimp only at h
    obtain ⟨x, r0, e0, h1⟩ := zi1_sp h
    obtain ⟨i, r1, e1, h2⟩ := zi1_sp h1
    obtain ⟨q, r, e2, h3⟩ := zr1_sp h2
    subst e2
    subst e1
    subst e0
    obtain ⟨K, N, I, L, Rf⟩ := σ
    dsimp only at h3
    cases hbk : Nat.beq (K q) 20 with
    | true =>
      rw [hbk] at h3
      obtain ⟨hin, h3⟩ := h3
      obtain ⟨g1, g2, g3⟩ := zg_arr hK a2 (t := 0) (by decide) (Nat.eq_of_beq_eq_true hbk)
      have hval : ∀ w, updV (zel ad (K, N, I, L, Rf) 0 q) i.toNatClampNeg (narrow .byte (.int x)) w = zel ad (K, N, up2 I q i.toNatClampNeg (vp_nar .byte x), L, Rf) 0 q w := by
        intro w
        by_cases hwi : w = i.toNatClampNeg
        · subst hwi
          simp [updV, zel, up2_self, vp_nar]
          try rfl
        · simp [updV, zel, hwi, up2_at]
      refine W.bast hx hb g2 g3 (fun z => by cases z) (by rw [arrV_size]; exact hin) rfl rfl hd (fun H1 y1 y2 y3 => ?_)
      obtain ⟨b1, b2⟩ := zg_arrput (t := 0) (σ' := (K, N, up2 I q i.toNatClampNeg (vp_nar .byte x), L, Rf)) a2 (by decide) (Nat.eq_of_beq_eq_true hbk) a5 rfl rfl (fun w hw => up2_ne _ _ _ hw) (fun _ _ => rfl) (fun _ _ => rfl) hval (fun k w hw => a2.2.2.1 q k w (by have := Nat.eq_of_beq_eq_true hbk; show K q ≠ 0; omega) hw) y1 y2 y3
      exact hk _ _ _ h3 ad H1 _ ls a1 b1 a3 (zl_t (zl_t (zl_t a4))) b2 a6
    | false =>
      rw [hbk] at h3
      clear hbk
      cases hbk : Nat.beq (K q) 24 with
      | false => rw [hbk] at h3; exact h3.elim
      | true =>
        rw [hbk] at h3
        obtain ⟨hin, h3⟩ := h3
        obtain ⟨g1, g2, g3⟩ := zg_arr hK a2 (t := 4) (by decide) (Nat.eq_of_beq_eq_true hbk)
        have hval : ∀ w, updV (zel ad (K, N, I, L, Rf) 4 q) i.toNatClampNeg (narrow .boolean (.int x)) w = zel ad (K, N, up2 I q i.toNatClampNeg (vp_nar .boolean x), L, Rf) 4 q w := by
          intro w
          by_cases hwi : w = i.toNatClampNeg
          · subst hwi
            simp [updV, zel, up2_self, vp_nar]
            try rfl
          · simp [updV, zel, hwi, up2_at]
        refine W.zast hx hb g2 g3 (fun z => by cases z) (by rw [arrV_size]; exact hin) rfl rfl hd (fun H1 y1 y2 y3 => ?_)
        obtain ⟨b1, b2⟩ := zg_arrput (t := 4) (σ' := (K, N, up2 I q i.toNatClampNeg (vp_nar .boolean x), L, Rf)) a2 (by decide) (Nat.eq_of_beq_eq_true hbk) a5 rfl rfl (fun w hw => up2_ne _ _ _ hw) (fun _ _ => rfl) (fun _ _ => rfl) hval (fun k w hw => a2.2.2.1 q k w (by have := Nat.eq_of_beq_eq_true hbk; show K q ≠ 0; omega) hw) y1 y2 y3
        exact hk _ _ _ h3 ad H1 _ ls a1 b1 a3 (zl_t (zl_t (zl_t a4))) b2 a6
  | arraylength =>
    unfold z1 at h
    dsimp only at h
    obtain ⟨q, r, e1, h5⟩ := zr1_sp h
    clear h
    subst e1
    obtain ⟨K, N, I, L, Rf⟩ := σ
    dsimp only at h5
    have h := h5
    clear h5
    cases hbk : (Nat.ble 20 (K q) && Nat.ble (K q) 25) with
    | false => rw [hbk] at h; exact h.elim
    | true =>
      rw [hbk] at h
      rw [Bool.and_eq_true] at hbk
      have k1 := Nat.le_of_ble_eq_true hbk.1
      have k2 := Nat.le_of_ble_eq_true hbk.2
      obtain ⟨g1, g2, g3⟩ := zg_arr hK a2 (a := q) (t := K q - 20) (by omega) (by show K q = 20 + (K q - 20); omega)
      exact W.alen (n := nI (N q)) hx hb g2 g3 (by rw [arrV_size]; rfl) rfl rfl hd (hk _ _ _ h ad H locs ls a1 a2 a3 (zl_i (zl_t a4)) a5 a6)
  | _ => exact False.elim h
/-- a stretch of straight code: decoded, and its precondition -/
def zdec (cc : ByteArray) : Nat → List Instr → Option Nat
  | pc, [] => some pc
  | pc, i :: r => if decode cc pc = .ok (i, zlen i) then zdec cc (pc + zlen i) r else none
def zwp (nL : Nat) (lk : zLk) (ini : Bool) : List Instr → Sg → List (Nat × Value) → List Value → (Sg → List (Nat × Value) → List Value → Prop) → Prop
  | [], σ, lv, st, k => k σ lv st
  | i :: r, σ, lv, st, k => z1 nL lk ini i σ lv st (fun σ lv st => zwp nL lk ini r σ lv st k)
theorem z_blk {X : zX} {M : zM} {lk : zLk} {ini : Bool} (hX : zC X M) (hlk : zlkOK M.1.cls lk) (hini : ini = true → zini M lk) {cells slots : Nat} {pc' : Nat} : ∀ (is : List Instr) {pc : Nat}, zdec M.2.1 pc is = some pc' → ∀ {σ : Sg} {lv : List (Nat × Value)} {st : List Value}, zwp M.2.2.1 lk ini is σ lv st (fun σ lv st => zS X σ cells slots pc' lv st) → zS X σ cells slots pc lv st
  | [], pc, hd, σ, lv, st, h => by
    cases hd
    exact h
  | i :: r, pc, hd, σ, lv, st, h => by
    unfold zdec at hd
    split at hd
    · rename_i hi
      exact z1_ok hX hlk hini hi (fun σ' lv' st' h' => z_blk hX hlk hini r hd h') h
    · cases hd
end
section
/-! ===== contracts over the abstract heap; branches, ends, calls ===== -/
abbrev zE : Type := Launch × zG × Nat
def zPre (G : zG) (b0 : Nat) (ad : Nat → Nat) (σ : Sg) (av : List Value) : Array Value → State → Prop := fun a U => a = (av.map (ph ad)).toArray ∧ zRl G b0 ad σ U.heap ∧ (∀ v ∈ av, zlv σ v) ∧ zK G U ∧ b0 ≤ U.heap.size ∧ zEx G b0 U U.heap
def zPo (G : zG) (b0 : Nat) (ad : Nat → Nat) (σ : Sg) (Po : Option Value → Sg → Prop) : Array Value → State → Outcome → State → Prop := fun _ st oc t =>
  ∃ (r : Option Value) (σ' : Sg) (ad' : Nat → Nat), oc = .returned (r.map (ph ad')) ∧ Po r σ' ∧ (∀ q, σ.1 q ≠ 0 → ad' q = ad q ∧ σ'.1 q = σ.1 q) ∧ zRl G b0 ad' σ' t.heap ∧ (∀ v, r = some v → zlv σ' v) ∧ va_F (fun q => b0 ≤ q) st t
abbrev zrm (d mc ms : Nat) : Room := { frames := d, cells := mc, slots := ms, locals := 50 * d }
/-- the contract of a method at an abstract heap: it returns, with an answer and a heap as Po says -/
def zCt (E : zE) (M : zM) (d mc ms : Nat) (σ : Sg) (av : List Value) (Po : Option Value → Sg → Prop) : Prop :=
  ∀ ad : Nat → Nat, Met E.1 M.1 (zws M) (zrm d mc ms) (zPre E.2.1 E.2.2 ad σ av) (zPo E.2.1 E.2.2 ad σ Po) mc ms (fun q => E.2.2 ≤ q)
/-- what is known inside a method -/
def zD (X : zX) (E : zE) (M : zM) (d mc ms : Nat) (Po : Option Value → Sg → Prop) : Prop := zC X M ∧ match X with
  | (_, l, _, R, s, _, args, below, _, _, Q, G, b0, _, σ0, ad0) => l = E.1 ∧ G = E.2.1 ∧ b0 = E.2.2 ∧ R = zrm d mc ms ∧ Q = MQ below (zPo G b0 ad0 σ0 Po) args s mc ms (fun q => b0 ≤ q)
theorem lv_args_ph (ad : Nat → Nat) : ∀ (av : List Value) (i : Nat), lv_args i (av.map (ph ad)) = (lv_args i av).map fun x => (x.1, ph ad x.2)
  | [], _ => rfl
  | v :: r, i => by
    show (_ :: _) = (_ :: _)
    rw [lv_args_ph ad r, ph_cat]
theorem lv_args_live {P : Value → Prop} : ∀ (av : List Value) (i : Nat), (∀ v ∈ av, P v) → ∀ x ∈ lv_args i av, P x.2
  | [], _, _, x, hx => by cases hx
  | v :: r, i, h, x, hx => by
    rcases List.mem_cons.mp hx with e | hx
    · rw [e]; exact h v List.mem_cons_self
    · exact lv_args_live r _ (fun w hw => h w (List.mem_cons_of_mem _ hw)) x hx
theorem lg_sl_len (ad : Nat → Nat) : ∀ av : List Value, (lg_sl (av.map (ph ad))).length = (lg_sl av).length
  | [] => rfl
  | v :: r => by
    have h := lg_sl_len ad r
    cases v <;> simp_all [lg_sl, ph, Value.category]
/-- a contract out of the walk of the body -/
theorem z_intro {E : zE} {M : zM} {d mc ms : Nat} {σ : Sg} {av : List Value} {Po : Option Value → Sg → Prop} (hy : plainName M.1.cls = true) (hn : (lg_sl av).length ≤ M.2.2.1) (body : ∀ X : zX, zD X E M d mc ms Po → zS X σ 0 0 0 (lv_args 0 av) []) : zCt E M d mc ms σ av Po := by
  intro ad
  refine Met.ofW (cc := M.2.1) (maxL := M.2.2.1) (ret := M.2.2.2) (ws' := zGW) hy rfl ?_
  intro p e s m args below meth c s₁ B hml hv
  obtain ⟨rfl, hR, hl, hK, hb0, hEx⟩ := hv
  have h := body (p, E.1, e, (headSpec (zws M) (zrm d mc ms)).room, s, m, (av.map (ph ad)).toArray, below, meth, c, MQ below (zPo E.2.1 E.2.2 ad σ Po) (av.map (ph ad)).toArray s mc ms (fun q => E.2.2 ≤ q), E.2.1, E.2.2, M.2.2.1, σ, ad)
    ⟨⟨B.exec, B.bytes, hml, findClass_of_methodNamed B.named, atoms_spec (ws := zws M) B.pre, hK, B.notSynchronized, hb0, rfl, B.returns, (name_of_methodNamed B.named B.method).1, hEx⟩, rfl, rfl, rfl, rfl, rfl⟩
  have hent := lv_entry (av.map (ph ad)) (n := M.2.2.1) (by rw [lg_sl_len]; exact hn)
  rw [lg_entry_eq]
  exact h ad s.heap [] _ (fun q _ => ⟨rfl, rfl⟩) hR (lv_args_live av 0 hl) (fun v hv => by cases hv) va_S.rf (by rw [← lv_args_ph]; exact hent)
section
variable {X : zX} {E : zE} {M : zM} {d mc ms : Nat} {Po : Option Value → Sg → Prop} {σ : Sg} {cells slots pc : Nat} {lv : List (Nat × Value)} {st : List Value}
def zcmp (op : ClassFile.Cond) (x y : Int32) : Prop := match op with
  | .eq => x = y
  | .ne => ¬ x = y
  | .lt => x < y
  | .ge => y ≤ x
  | .gt => y < x
  | .le => x ≤ y
theorem z_icmp (hX : zD X E M d mc ms Po) {op : ClassFile.Cond} {off : Int} {x y : Int32} (tgt : Nat) (hd : decode M.2.1 pc = .ok (.if_icmp op off, 3)) (ht : (pc : Int) + off = (tgt : Int)) (kt : zcmp op x y → zS X σ cells slots tgt lv st) (kf : ¬ zcmp op x y → zS X σ cells slots (pc + 3) lv st) : zS X σ cells slots pc lv (.int y :: .int x :: st) := by
  obtain ⟨p, l, e, R, s, m, args, below, meth, c, Q, G, b0, nL, σ0, ad0⟩ := X
  obtain ⟨⟨hx, hb, hml, hown, hts, hK, hlocks, hb0, hnL, hrt, hnm, hEx⟩, -⟩ := hX
  intro ad H locs ls a1 a2 a3 a4 a5 a6
  have kt' := fun h => kt h ad H locs ls a1 a2 a3 (zl_t (zl_t a4)) a5 a6
  have kf' := fun h => kf h ad H locs ls a1 a2 a3 (zl_t (zl_t a4)) a5 a6
  cases op with
  | eq => exact lv_icmp_eq hx hb hd ht kt' kf'
  | ne => exact lv_icmp_ne hx hb hd ht kt' (fun h => kf' (fun z => z h))
  | lt => exact lv_icmp_lt hx hb hd ht kt' kf'
  | ge => exact lv_icmp_ge hx hb hd ht kt' kf'
  | gt => exact lv_icmp_gt hx hb hd ht kt' kf'
  | le => exact lv_icmp_le hx hb hd ht kt' kf'
theorem z_if (hX : zD X E M d mc ms Po) {op : ClassFile.Cond} {off : Int} {x : Int32} (tgt : Nat) (hd : decode M.2.1 pc = .ok (.ifCond op off, 3)) (ht : (pc : Int) + off = (tgt : Int)) (kt : zcmp op x 0 → zS X σ cells slots tgt lv st) (kf : ¬ zcmp op x 0 → zS X σ cells slots (pc + 3) lv st) : zS X σ cells slots pc lv (.int x :: st) := by
  obtain ⟨p, l, e, R, s, m, args, below, meth, c, Q, G, b0, nL, σ0, ad0⟩ := X
  obtain ⟨⟨hx, hb, hml, hown, hts, hK, hlocks, hb0, hnL, hrt, hnm, hEx⟩, -⟩ := hX
  intro ad H locs ls a1 a2 a3 a4 a5 a6
  have kt' := fun h => kt h ad H locs ls a1 a2 a3 (zl_t a4) a5 a6
  have kf' := fun h => kf h ad H locs ls a1 a2 a3 (zl_t a4) a5 a6
  cases op with
  | eq => exact lv_if_eq hx hb hd ht kt' kf'
  | ne => exact lv_if_ne hx hb hd ht kt' (fun h => kf' (fun z => z h))
  | lt => exact lv_if_lt hx hb hd ht kt' kf'
  | ge => exact lv_if_ge hx hb hd ht kt' kf'
  | gt => exact lv_if_gt hx hb hd ht kt' kf'
  | le => exact lv_if_le hx hb hd ht kt' kf'
theorem z_goto (hX : zD X E M d mc ms Po) {off : Int} (tgt : Nat) (hd : decode M.2.1 pc = .ok (.goto off, 3)) (ht : (pc : Int) + off = (tgt : Int)) (k : zS X σ cells slots tgt lv st) : zS X σ cells slots pc lv st := by
  obtain ⟨p, l, e, R, s, m, args, below, meth, c, Q, G, b0, nL, σ0, ad0⟩ := X
  obtain ⟨⟨hx, hb, hml, hown, hts, hK, hlocks, hb0, hnL, hrt, hnm, hEx⟩, -⟩ := hX
  intro ad H locs ls a1 a2 a3 a4 a5 a6
  exact lv_goto hx hb hd ht (k ad H locs ls a1 a2 a3 a4 a5 a6)
theorem z_tsw (hX : zD X E M d mc ms Po) {dflt lo hi : Int} {offs : Array Int} {len : Nat} {x : Int32} (tgt : Nat) (hd : decode M.2.1 pc = .ok (.tableswitch dflt lo hi offs, len)) {off : Int} (ho : (x.toInt < lo ∨ hi < x.toInt) ∧ off = dflt ∨ (¬ x.toInt < lo ∧ ¬ hi < x.toInt) ∧ offs[(x.toInt - lo).toNat]? = some off) (ht : (pc : Int) + off = (tgt : Int)) (k : zS X σ cells slots tgt lv st) : zS X σ cells slots pc lv (.int x :: st) := by
  obtain ⟨p, l, e, R, s, m, args, below, meth, c, Q, G, b0, nL, σ0, ad0⟩ := X
  obtain ⟨⟨hx, hb, hml, hown, hts, hK, hlocks, hb0, hnL, hrt, hnm, hEx⟩, -⟩ := hX
  intro ad H locs ls a1 a2 a3 a4 a5 a6
  have k' := k ad H locs ls a1 a2 a3 (zl_t a4) a5 a6
  rcases ho with ⟨h, rfl⟩ | ⟨h, h2⟩
  · exact lv_tableOut hx hb hd h ht k'
  · exact lv_tableIn hx hb hd h.1 h.2 h2 ht k'
theorem z_lsw (hX : zD X E M d mc ms Po) {dflt : Int} {ps : Array (Int × Int)} {len : Nat} {x : Int32} {off : Int} (tgt : Nat) (hd : decode M.2.1 pc = .ok (.lookupswitch dflt ps, len)) (hp : (ps.toList.zip (ps.toList.drop 1)).all (fun (a, next) => a.1 < next.1) = true) (ho : Op.lookupswitch.offset ps.toList dflt x.toInt = off) (ht : (pc : Int) + off = (tgt : Int)) (k : zS X σ cells slots tgt lv st) : zS X σ cells slots pc lv (.int x :: st) := by
  obtain ⟨p, l, e, R, s, m, args, below, meth, c, Q, G, b0, nL, σ0, ad0⟩ := X
  obtain ⟨⟨hx, hb, hml, hown, hts, hK, hlocks, hb0, hnL, hrt, hnm, hEx⟩, -⟩ := hX
  intro ad H locs ls a1 a2 a3 a4 a5 a6
  exact lv_lookup hx hb hd hp ho ht (k ad H locs ls a1 a2 a3 (zl_t a4) a5 a6)
/-! ends -/
theorem z_iret (hX : zD X E M d mc ms Po) {v : Int32} {ty : FieldType} (hd : decode M.2.1 pc = .ok (.ireturn, 1)) (hty : M.2.2.2 = some ty) (hn : narrow ty (.int v) = .int v) (hc : cells ≤ mc) (hs : slots ≤ ms) (hp : Po (some (.int v)) σ) : zS X σ cells slots pc lv [.int v] := by
  obtain ⟨p, l, e, R, s, m, args, below, meth, c, Q, G, b0, nL, σ0, ad0⟩ := X
  obtain ⟨⟨hx, hb, hml, hown, hts, hK, hlocks, hb0, hnL, hrt, hnm, hEx⟩, h1, h2, h3, h4, h5⟩ := hX
  intro ad H locs ls a1 a2 a3 a4 a5 a6
  subst h5
  refine W.widen hc hs ?_
  exact W.zret (v := v) hx hb (hrt.trans hty) hn (fun t ht hW => ⟨some (.int v), σ, ad, rfl, hp, a1, by rw [ht]; exact a2, (fun w hw => by cases hw; exact fun q z => (by cases z)), a5.F ht⟩) a5.2.2 hd hlocks
theorem z_lret (hX : zD X E M d mc ms Po) {v : Int64} (hd : decode M.2.1 pc = .ok (.lreturn, 1)) (hty : M.2.2.2 = some .long) (hc : cells ≤ mc) (hs : slots ≤ ms) (hp : Po (some (.long v)) σ) : zS X σ cells slots pc lv [.long v] := by
  obtain ⟨p, l, e, R, s, m, args, below, meth, c, Q, G, b0, nL, σ0, ad0⟩ := X
  obtain ⟨⟨hx, hb, hml, hown, hts, hK, hlocks, hb0, hnL, hrt, hnm, hEx⟩, h1, h2, h3, h4, h5⟩ := hX
  intro ad H locs ls a1 a2 a3 a4 a5 a6
  subst h5
  refine W.widen hc hs ?_
  exact W.lret (v := v) hx hb (hrt.trans hty) (fun t ht hW => ⟨some (.long v), σ, ad, rfl, hp, a1, by rw [ht]; exact a2, (fun w hw => by cases hw; exact fun q z => (by cases z)), a5.F ht⟩) a5.2.2 hd hlocks
theorem z_vret (hX : zD X E M d mc ms Po) (hd : decode M.2.1 pc = .ok (.return_, 1)) (hty : M.2.2.2 = none) (hc : cells ≤ mc) (hs : slots ≤ ms) (hp : Po none σ) : zS X σ cells slots pc lv [] := by
  obtain ⟨p, l, e, R, s, m, args, below, meth, c, Q, G, b0, nL, σ0, ad0⟩ := X
  obtain ⟨⟨hx, hb, hml, hown, hts, hK, hlocks, hb0, hnL, hrt, hnm, hEx⟩, h1, h2, h3, h4, h5⟩ := hX
  intro ad H locs ls a1 a2 a3 a4 a5 a6
  subst h5
  refine W.widen hc hs ?_
  exact W.vret hx hb (hrt.trans hty) (fun t ht hW => ⟨none, σ, ad, rfl, hp, a1, by rw [ht]; exact a2, (fun w hw => by cases hw), a5.F ht⟩) a5.2.2 hd hlocks
theorem z_aret (hX : zD X E M d mc ms Po) {v : Nat} {ty : FieldType} (hd : decode M.2.1 pc = .ok (.areturn, 1)) (hty : M.2.2.2 = some ty) (hr : (∃ n, ty = .object n) ∨ ∃ t, ty = .array t) (hc : cells ≤ mc) (hs : slots ≤ ms) (hp : Po (some (.ref v)) σ) : zS X σ cells slots pc lv [.ref v] := by
  obtain ⟨p, l, e, R, s, m, args, below, meth, c, Q, G, b0, nL, σ0, ad0⟩ := X
  obtain ⟨⟨hx, hb, hml, hown, hts, hK, hlocks, hb0, hnL, hrt, hnm, hEx⟩, h1, h2, h3, h4, h5⟩ := hX
  intro ad H locs ls a1 a2 a3 a4 a5 a6
  subst h5
  refine W.widen hc hs ?_
  exact W.aret (v := .ref (ad v)) hx hb (hrt.trans hty) hr (Or.inr ⟨_, rfl⟩) (fun t ht hW => ⟨some (.ref v), σ, ad, rfl, hp, a1, by rw [ht]; exact a2, (fun w hw => by cases hw; exact zl_h a4), a5.F ht⟩) a5.2.2 hd hlocks
/-! calls -/
theorem z_phl {ad ad' : Nat → Nat} {σ : Sg} (h : ∀ q, σ.1 q ≠ 0 → ad' q = ad q) {v : Value} (hv : zlv σ v) : ph ad' v = ph ad v := by
  cases v with
  | ref q => show Value.ref _ = .ref _; rw [h q (hv q rfl)]
  | _ => rfl
theorem z_run (hX : zD X E M d mc ms Po) {mc' ms' : Nat} {rest : List Value} {Po' : Option Value → Sg → Prop} {A : Array Value} (hsub : ∀ v ∈ rest, v ∈ st)
    (hr : match X with
      | (p, l, e, R, s, m, args, below, meth, c, _, G, b0, nL, _, _) => ∀ (ad : Nat → Nat) (H : Heap) (locs : List Loc) (ls : Array Slot), zRl G b0 ad σ H → (∀ v ∈ st, zlv σ v) → va_S (fun q => b0 ≤ q) s.heap H locs → ls.size = nL → ∃ A : Array Value, va_Run p l e R s m args below meth c H locs cells slots mc' ms' (F0 m pc ls (st.map (ph ad))) (rest.map (ph ad)) (zPo G b0 ad σ Po' A) (fun q => b0 ≤ q))
    (kk : ∀ (r : Option Value) (σ' : Sg), Po' r σ' → zS X σ' (cells + mc') (slots + ms') (pc + 3) lv (r.toList ++ rest)) : zS X σ cells slots pc lv st := by
  obtain ⟨p, l, e, R, s, m, args, below, meth, c, Q, G, b0, nL, σ0, ad0⟩ := X
  intro ad H locs ls a1 a2 a3 a4 a5 a6
  obtain ⟨A, hr⟩ := hr ad H locs ls a2 a4 a5 a6.1
  intro T hT Xs
  obtain ⟨v, st₀, t, T', L, h0, X', hL, e1, e2, ⟨r, σ', ad', hv, hpo, hk, hrl, hlv, hF⟩, hst⟩ := hr T hT Xs
  have hv' : v = r.map (ph ad') := Outcome.returned.inj hv
  subst hv'
  have hlive : ∀ w : Value, zlv σ w → zlv σ' w := fun w hw q hq => by rw [(hk q (hw q hq)).2]; exact hw q hq
  have hS' : va_S (fun q => b0 ≤ q) s.heap T'.heap (locs ++ L) := by
    rw [e1]
    obtain ⟨f1, f2⟩ := hF
    rw [h0] at f1 f2
    refine ⟨Nat.le_trans a5.1 f1, fun q h1 h2 => ?_, fun q hq => ?_⟩
    · rw [f2 q (Nat.lt_of_lt_of_le h1 a5.1) h2]; exact a5.2.1 q h1 h2
    · rcases List.mem_append.mp hq with h | h
      · exact a5.2.2 q h
      · exact hL q h
  have hlvm : (lv.map fun x => (x.1, ph ad' x.2)) = lv.map fun x => (x.1, ph ad x.2) := List.map_congr_left fun x hx => by rw [z_phl (fun q hq => (hk q hq).1) (a3 x hx)]
  have hrm : rest.map (ph ad') = rest.map (ph ad) := List.map_congr_left fun w hw => z_phl (fun q hq => (hk q hq).1) (a4 w (hsub w hw))
  have hsm : (r.toList ++ rest).map (ph ad') = (r.map (ph ad')).toList ++ rest.map (ph ad) := by
    rw [List.map_append, hrm]
    cases r <;> rfl
  have K := kk r σ' hpo ad' T'.heap (locs ++ L) ls (fun q hq => by
      have h1 := a1 q hq
      have h2 : σ.1 q ≠ 0 := by rw [h1.2]; exact hq
      exact ⟨(hk q h2).1.trans h1.1, (hk q h2).2.trans h1.2⟩) (by rw [e1]; exact hrl) (fun x hx => hlive _ (a3 x hx)) (fun w hw => by
      rcases List.mem_append.mp hw with h | h
      · cases r with
        | none => cases h
        | some z => rw [Option.toList, List.mem_singleton] at h; rw [h]; exact hlv z rfl
      · exact hlive _ (a4 w (hsub w h))) hS' (by rw [hlvm]; exact a6)
  rw [hsm] at K
  obtain ⟨t2, k1, k2⟩ := K T' rfl X'
  exact ⟨t2, hst t2 k1, k2⟩
end
end
section
/-! ===== calls by their kinds; new objects and arrays ===== -/
theorem zPre_blind {G : zG} {b0 : Nat} {ad : Nat → Nat} {σ : Sg} {av : List Value} : FrameBlind (zPre G b0 ad σ av) := fun a U g mk h => ⟨h.1, h.2.1, h.2.2.1, zK.vm (s := U) rfl h.2.2.2.1, h.2.2.2.2.1, zEx.vm (s := U) rfl h.2.2.2.2.2⟩
theorem zPre_at {G : zG} {b0 : Nat} {ad : Nat → Nat} {σ : Sg} {av : List Value} {s : State} {H : Heap} {locs : List Loc} (hR : zRl G b0 ad σ H) (hl : ∀ v ∈ av, zlv σ v) (hK : zK G s) (hb0 : b0 ≤ s.heap.size) (hEx : zEx G b0 s s.heap) (hS : va_S (fun q => b0 ≤ q) s.heap H locs) :
    ∀ U : State, U.heap = H → s.WarmedH U.vm → zPre G b0 ad σ av (av.map (ph ad)).toArray U := by
  intro U hU hW
  refine ⟨rfl, by rw [hU]; exact hR, hl, hK.moved hW, by rw [hU]; exact Nat.le_trans hb0 hS.1, ?_⟩
  rw [hU]
  exact (hEx.kept hS.2.1).moved hW
theorem z_recv {G : zG} {b0 : Nat} {ad : Nat → Nat} {σ : Sg} {s : State} {H : Heap} (hR : zRl G b0 ad σ H) (hK : zK G s) {a ci : Nat} {cq : vw_C} (hk : σ.1 a = ci + 1) (hcq : vwCl[ci]? = some cq) : ∃ cell : Cell, H[ad a]? = some cell ∧ cell.vm.isStatics = false ∧ s.vm.findClass cq.1 = some cell.cls := by
  obtain ⟨cell, g1, g2, g3, -⟩ := ((hR.1 a (by omega)).2 (by have := zcl_lt hcq; omega)).2.1 ci cq hk hcq
  exact ⟨cell, g1, by rw [g3]; rfl, by rw [g2]; exact (hK.1 ci cq hcq).2.1⟩
/-- the words of a call of M' from a class -/
def zVw (own : String) (idx : Nat) (M : zM) (n : Nat) : Prop := Cond.code M.1 M.2.1 M.2.2.1 M.2.2.2 ∈ zGW ∧ Cond.methodLink own idx M.1 ∈ zGW ∧ Cond.instanceMethod M.1 ∈ zGW ∧ Cond.selects M.1.cls M.1 M.1 ∈ zGW ∧ Cond.initialized M.1.cls ∈ zGW ∧
  (M.1.cls ≠ "java/lang/invoke/MethodHandle" ∧ M.1.cls ≠ "java/lang/invoke/VarHandle" ∧ (parseMethodDescriptor M.1.desc).map (fun d => d.parameters.length) = some n)
def zSw (own : String) (idx : Nat) (M : zM) (n : Nat) : Prop := Cond.code M.1 M.2.1 M.2.2.1 M.2.2.2 ∈ zGW ∧ Cond.methodLink own idx M.1 ∈ zGW ∧ Cond.static M.1 ∈ zGW ∧ Cond.initialized M.1.cls ∈ zGW ∧
  (M.1.cls ≠ "java/lang/invoke/MethodHandle" ∧ M.1.cls ≠ "java/lang/invoke/VarHandle" ∧ (parseMethodDescriptor M.1.desc).map (fun d => d.parameters.length) = some n)
def zIw (own : String) (idx : Nat) (M : zM) (n : Nat) : Prop := Cond.code M.1 M.2.1 M.2.2.1 M.2.2.2 ∈ zGW ∧ Cond.methodLink own idx M.1 ∈ zGW ∧ Cond.instanceMethod M.1 ∈ zGW ∧ M.1.name = "<init>" ∧ M.2.2.2 = none ∧ Cond.initialized M.1.cls ∈ zGW ∧
  (M.1.cls ≠ "java/lang/invoke/MethodHandle" ∧ M.1.cls ≠ "java/lang/invoke/VarHandle" ∧ (parseMethodDescriptor M.1.desc).map (fun d => d.parameters.length) = some n)
theorem z_catm (ad : Nat → Nat) (rest : List Value) : ((rest.map (ph ad)).map fun v => v.category) = rest.map fun v => v.category := by
  rw [List.map_map]
  exact List.map_congr_left fun v _ => ph_cat ad v
section
variable {X : zX} {E : zE} {M : zM} {d mc ms : Nat} {Po : Option Value → Sg → Prop} {σ : Sg} {cells slots pc : Nat} {lv : List (Nat × Value)} {st : List Value}
theorem z_callV (hX : zD X E M d mc ms Po) {M' : zM} {d' mc' ms' n idx a ci : Nat} {Po' : Option Value → Sg → Prop} {As rest : List Value} {cq : vw_C} (hw : zVw M.1.cls idx M' n) (hM : zCt E M' d' mc' ms' σ (.ref a :: As) Po') (hst : st = As.reverse ++ .ref a :: rest) (hn : As.length = n) (hk : σ.1 a = ci + 1) (hcq : vwCl[ci]? = some cq) (hcl : cq.1 = M'.1.cls) (hd : decode M.2.1 pc = .ok (.invokevirtual idx, 3))
    (hdep : d' + 1 ≤ d) (hL : M'.2.2.1 ≤ 31) (hc : cells + mc' ≤ mc) (hs : slots + ms' ≤ ms) (hrm : (rest.map fun v => v.category).sum ≤ 8) (kk : ∀ (r : Option Value) (σ' : Sg), Po' r σ' → zS X σ' (cells + mc') (slots + ms') (pc + 3) lv (r.toList ++ rest)) : zS X σ cells slots pc lv st := by
  subst hst
  refine z_run (A := #[]) hX (rest := rest) (Po' := Po') (fun v hv => List.mem_append_right _ (List.mem_cons_of_mem _ hv)) ?_ kk
  obtain ⟨p, l, e, R, s, m, args, below, meth, c, Q, G, b0, nL, σ0, ad0⟩ := X
  obtain ⟨⟨hx, hb, hml, hown, hts, hK, hlocks, hb0, hnL, hrt, hnm, hEx⟩, h1, h2, h3, h4, h5⟩ := hX
  subst h1 h2 h3 h4
  intro ad H locs ls b1 b2 b3 b4
  obtain ⟨w1, w2, w3, w4, w5, w6⟩ := hw
  have ok : ∀ {w : Cond}, w ∈ zGW → w.before args s = true := fun h => hts _ (List.mem_cons_of_mem _ h)
  have hl : ∀ v ∈ (.ref a :: As), zlv σ v := fun v hv => by
    rcases List.mem_cons.mp hv with e | hv
    · rw [e]; exact b2 _ (List.mem_append_right _ List.mem_cons_self)
    · exact b2 _ (List.mem_append_left _ (List.mem_reverse.mpr hv))
  have hr := z_recv b1 hK hk hcq
  rw [hcl] at hr
  exact ⟨_, va_runV (As := As.map (ph ad)) (b := ad a) (rest := rest.map (ph ad)) (n := n) (C := M'.1.cls) ⟨hx, hb, hml, hown, hts⟩ (hM ad) ⟨callB_of n hts (z_good w1) rfl rfl rfl (ok w5) (ok w2) w6 ⟨hdep, by show 8 + (M'.2.2.1 + 11) + 50 * d' ≤ 50 * d; omega⟩, ok w3, ok w4⟩
    ⟨zPre_blind, hr, zPre_at b1 hl hK hb0 hEx b3⟩ rfl (by rw [List.length_map]; exact hn) b4 (by show List.map (ph ad) (As.reverse ++ .ref a :: rest) = _; rw [List.map_append, List.map_reverse]; rfl) (lv_room (by rw [z_catm]; exact hrm)) hd ⟨hc, hs⟩⟩
theorem z_callS (hX : zD X E M d mc ms Po) {M' : zM} {d' mc' ms' n idx : Nat} {Po' : Option Value → Sg → Prop} {As rest : List Value} (hw : zSw M.1.cls idx M' n) (hM : zCt E M' d' mc' ms' σ As Po') (hst : st = As.reverse ++ rest) (hn : As.length = n) (hd : decode M.2.1 pc = .ok (.invokestatic idx, 3))
    (hdep : d' + 1 ≤ d) (hL : M'.2.2.1 ≤ 31) (hc : cells + mc' ≤ mc) (hs : slots + ms' ≤ ms) (hrm : (rest.map fun v => v.category).sum ≤ 8) (kk : ∀ (r : Option Value) (σ' : Sg), Po' r σ' → zS X σ' (cells + mc') (slots + ms') (pc + 3) lv (r.toList ++ rest)) : zS X σ cells slots pc lv st := by
  subst hst
  refine z_run (A := #[]) hX (rest := rest) (Po' := Po') (fun v hv => List.mem_append_right _ hv) ?_ kk
  obtain ⟨p, l, e, R, s, m, args, below, meth, c, Q, G, b0, nL, σ0, ad0⟩ := X
  obtain ⟨⟨hx, hb, hml, hown, hts, hK, hlocks, hb0, hnL, hrt, hnm, hEx⟩, h1, h2, h3, h4, h5⟩ := hX
  subst h1 h2 h3 h4
  intro ad H locs ls b1 b2 b3 b4
  obtain ⟨w1, w2, w3, w5, w6⟩ := hw
  have ok : ∀ {w : Cond}, w ∈ zGW → w.before args s = true := fun h => hts _ (List.mem_cons_of_mem _ h)
  have hl : ∀ v ∈ As, zlv σ v := fun v hv => b2 _ (List.mem_append_left _ (List.mem_reverse.mpr hv))
  exact ⟨_, va_runS (As := As.map (ph ad)) (rest := rest.map (ph ad)) (n := n) ⟨hx, hb, hml, hown, hts⟩ (hM ad) ⟨callB_of n hts (z_good w1) rfl rfl rfl (ok w5) (ok w2) w6 ⟨hdep, by show 8 + (M'.2.2.1 + 11) + 50 * d' ≤ 50 * d; omega⟩, ok w3⟩
    ⟨zPre_blind, zPre_at b1 hl hK hb0 hEx b3⟩ rfl (by rw [List.length_map]; exact hn) b4 (by show List.map (ph ad) (As.reverse ++ rest) = _; rw [List.map_append, List.map_reverse]) (lv_room (by rw [z_catm]; exact hrm)) hd ⟨hc, hs⟩⟩
theorem z_callI (hX : zD X E M d mc ms Po) {M' : zM} {d' mc' ms' n idx a : Nat} {Po' : Option Value → Sg → Prop} {As rest : List Value} (hw : zIw M.1.cls idx M' n) (hM : zCt E M' d' mc' ms' σ (.ref a :: As) Po') (hst : st = As.reverse ++ .ref a :: rest) (hn : As.length = n) (hd : decode M.2.1 pc = .ok (.invokespecial idx, 3))
    (hdep : d' + 1 ≤ d) (hL : M'.2.2.1 ≤ 31) (hc : cells + mc' ≤ mc) (hs : slots + ms' ≤ ms) (hrm : (rest.map fun v => v.category).sum ≤ 8) (kk : ∀ (r : Option Value) (σ' : Sg), Po' r σ' → zS X σ' (cells + mc') (slots + ms') (pc + 3) lv (r.toList ++ rest)) : zS X σ cells slots pc lv st := by
  subst hst
  refine z_run (A := #[]) hX (rest := rest) (Po' := Po') (fun v hv => List.mem_append_right _ (List.mem_cons_of_mem _ hv)) ?_ kk
  obtain ⟨p, l, e, R, s, m, args, below, meth, c, Q, G, b0, nL, σ0, ad0⟩ := X
  obtain ⟨⟨hx, hb, hml, hown, hts, hK, hlocks, hb0, hnL, hrt, hnm, hEx⟩, h1, h2, h3, h4, h5⟩ := hX
  subst h1 h2 h3 h4
  intro ad H locs ls b1 b2 b3 b4
  obtain ⟨w1, w2, w3, w4, w4', w5, w6⟩ := hw
  have ok : ∀ {w : Cond}, w ∈ zGW → w.before args s = true := fun h => hts _ (List.mem_cons_of_mem _ h)
  have hl : ∀ v ∈ (.ref a :: As), zlv σ v := fun v hv => by
    rcases List.mem_cons.mp hv with e | hv
    · rw [e]; exact b2 _ (List.mem_append_right _ List.mem_cons_self)
    · exact b2 _ (List.mem_append_left _ (List.mem_reverse.mpr hv))
  have hws : zws M' = Cond.code M'.1 M'.2.1 M'.2.2.1 none :: zGW := by rw [← w4']
  exact ⟨_, va_runI (As := As.map (ph ad)) (b := ad a) (rest := rest.map (ph ad)) (n := n) ⟨hx, hb, hml, hown, hts⟩ (hM ad) ⟨callB_of n hts (z_good w1) hws rfl rfl (ok w5) (ok w2) w6 ⟨hdep, by show 8 + (M'.2.2.1 + 11) + 50 * d' ≤ 50 * d; omega⟩, w4, ok w3⟩
    ⟨zPre_blind, zPre_at b1 hl hK hb0 hEx b3⟩ rfl (by rw [List.length_map]; exact hn) b4 (by show List.map (ph ad) (As.reverse ++ .ref a :: rest) = _; rw [List.map_append, List.map_reverse]; rfl) (lv_room (by rw [z_catm]; exact hrm)) hd ⟨hc, hs⟩⟩
end
end
section
abbrev mX11_init : zM := (yX11_init, cX11_init, 1, none)
abbrev mX1_init : zM := (yX1_init, cX1_init, 1, none)
abbrev mX8_init : zM := (yX8_init, cX8_init, 2, none)
abbrev mJ4_init_da8c8 : zM := (yJ4_init_da8c8, cJ4_init_da8c8, 1, none)
abbrev mJ5_init_d00df : zM := (yJ5_init_d00df, cJ5_init_d00df, 2, none)
abbrev mJ2_newBytesFor_77867 : zM := (yJ2_newBytesFor_77867, cJ2_newBytesFor_77867, 1, some (.array .byte))
abbrev mJ2_newBytesLength_0f7a4 : zM := (yJ2_newBytesLength_0f7a4, cJ2_newBytesLength_0f7a4, 1, some .int)
abbrev mJ7_fill_53178 : zM := (yJ7_fill_53178, cJ7_fill_53178, 4, none)
abbrev mX11_worker : zM := (yX11_worker, cX11_worker, 3, some .int)
abbrev mX11_isKind : zM := (yX11_isKind, cX11_isKind, 1, some .boolean)
abbrev mX11_isDigit : zM := (yX11_isDigit, cX11_isDigit, 1, some .boolean)
abbrev mX11_made : zM := (yX11_made, cX11_made, 3, some (.object "PunchedSouls$Hand"))
abbrev mX4_init : zM := (yX4_init, cX4_init, 3, none)
abbrev mX2_init : zM := (yX2_init, cX2_init, 3, none)
abbrev mX3_init : zM := (yX3_init, cX3_init, 3, none)
abbrev mX6_init : zM := (yX6_init, cX6_init, 3, none)
abbrev mX0_init : zM := (yX0_init, cX0_init, 3, none)
abbrev mX5_init : zM := (yX5_init, cX5_init, 3, none)
abbrev mX9_init : zM := (yX9_init, cX9_init, 3, none)
abbrev mX1_hire : zM := (yX1_hire, cX1_hire, 3, some .int)
abbrev mX11_of : zM := (yX11_of, cX11_of, 5, some .int)
abbrev mX11_isWorker : zM := (yX11_isWorker, cX11_isWorker, 2, some .boolean)
abbrev mX0_kind : zM := (yX0_kind, cX0_kind, 1, some .int)
abbrev mX3_kind : zM := (yX3_kind, cX3_kind, 1, some .int)
abbrev mX4_kind : zM := (yX4_kind, cX4_kind, 1, some .int)
abbrev mX5_kind : zM := (yX5_kind, cX5_kind, 1, some .int)
abbrev mX6_kind : zM := (yX6_kind, cX6_kind, 1, some .int)
abbrev mX9_kind : zM := (yX9_kind, cX9_kind, 1, some .int)
abbrev mX2_kind : zM := (yX2_kind, cX2_kind, 1, some .int)
abbrev mX1_isAtHome : zM := (yX1_isAtHome, cX1_isAtHome, 2, some .boolean)
abbrev mX1_ringOf : zM := (yX1_ringOf, cX1_ringOf, 4, some .int)
abbrev mX1_temper : zM := (yX1_temper, cX1_temper, 6, some .int)
abbrev mJ6_bitCount_0f7a4 : zM := (yJ6_bitCount_0f7a4, cJ6_bitCount_0f7a4, 1, some .int)
abbrev mX10_moodOf : zM := (yX10_moodOf, cX10_moodOf, 10, some .int)
abbrev mX10_valueOf : zM := (yX10_valueOf, cX10_valueOf, 5, some .int)
abbrev mX10_isSo : zM := (yX10_isSo, cX10_isSo, 3, some .boolean)
abbrev mX3_temper : zM := (yX3_temper, cX3_temper, 3, some .int)
abbrev mX6_temper : zM := (yX6_temper, cX6_temper, 3, some .int)
abbrev mX2_temper : zM := (yX2_temper, cX2_temper, 3, some .int)
abbrev mX1_rowSlot : zM := (yX1_rowSlot, cX1_rowSlot, 2, some .int)
abbrev mX0_punches : zM := (yX0_punches, cX0_punches, 5, some .int)
abbrev mX4_punches : zM := (yX4_punches, cX4_punches, 4, some .int)
abbrev mX2_further : zM := (yX2_further, cX2_further, 2, some .int)
abbrev mX3_punches : zM := (yX3_punches, cX3_punches, 4, some .int)
abbrev mX5_punches : zM := (yX5_punches, cX5_punches, 5, some .int)
abbrev mX6_punches : zM := (yX6_punches, cX6_punches, 5, some .int)
abbrev mX9_punches : zM := (yX9_punches, cX9_punches, 4, some .int)
abbrev mX2_punches : zM := (yX2_punches, cX2_punches, 4, some .int)
abbrev mX11_set : zM := (yX11_set, cX11_set, 4, some .int)
abbrev mX11_areHoles : zM := (yX11_areHoles, cX11_areHoles, 1, some .boolean)
abbrev mX11_swap : zM := (yX11_swap, cX11_swap, 3, some .int)
abbrev mX1_exchange : zM := (yX1_exchange, cX1_exchange, 4, none)
abbrev mX11_stay : zM := (yX11_stay, cX11_stay, 4, some .int)
abbrev mX1_keepAtHome : zM := (yX1_keepAtHome, cX1_keepAtHome, 3, none)
abbrev mX11_row : zM := (yX11_row, cX11_row, 6, some .int)
abbrev mX11_feed : zM := (yX11_feed, cX11_feed, 2, some .int)
abbrev mX11_works : zM := (yX11_works, cX11_works, 2, some .int)
abbrev mX7_init : zM := (yX7_init, cX7_init, 3, none)
abbrev mX10_init : zM := (yX10_init, cX10_init, 2, none)
abbrev mX7_isWorks : zM := (yX7_isWorks, cX7_isWorks, 2, some .boolean)
abbrev mX7_isClause : zM := (yX7_isClause, cX7_isClause, 3, some .boolean)
abbrev mX7_sign : zM := (yX7_sign, cX7_sign, 1, some .int)
abbrev mX7_spells : zM := (yX7_spells, cX7_spells, 3, some .boolean)
abbrev mJ0_length_8abf5 : zM := (yJ0_length_8abf5, cJ0_length_8abf5, 1, some .int)
abbrev mJ0_coder_7d493 : zM := (yJ0_coder_7d493, cJ0_coder_7d493, 1, some .byte)
abbrev mJ0_charAt_5068e : zM := (yJ0_charAt_5068e, cJ0_charAt_5068e, 2, some .char)
abbrev mJ0_isLatin1_aae02 : zM := (yJ0_isLatin1_aae02, cJ0_isLatin1_aae02, 1, some .boolean)
abbrev mJ1_charAt_3b067 : zM := (yJ1_charAt_3b067, cJ1_charAt_3b067, 2, some .char)
abbrev mJ0_checkIndex_df160 : zM := (yJ0_checkIndex_df160, cJ0_checkIndex_df160, 2, none)
abbrev mJ3_checkIndex_8e157 : zM := (yJ3_checkIndex_8e157, cJ3_checkIndex_8e157, 3, some .int)
abbrev mJ2_charAt_3b067 : zM := (yJ2_charAt_3b067, cJ2_charAt_3b067, 2, some .char)
abbrev mJ2_checkIndex_2214a : zM := (yJ2_checkIndex_2214a, cJ2_checkIndex_2214a, 2, none)
abbrev mJ2_length_9d52b : zM := (yJ2_length_9d52b, cJ2_length_9d52b, 1, some .int)
abbrev mJ2_getChar_3b067 : zM := (yJ2_getChar_3b067, cJ2_getChar_3b067, 2, some .char)
abbrev mX7_takes : zM := (yX7_takes, cX7_takes, 2, some .boolean)
abbrev mX7_number : zM := (yX7_number, cX7_number, 3, some .int)
abbrev mX7_isEither : zM := (yX7_isEither, cX7_isEither, 5, some .boolean)
abbrev mX7_isFactor : zM := (yX7_isFactor, cX7_isFactor, 3, some .boolean)
abbrev mX7_isTest : zM := (yX7_isTest, cX7_isTest, 4, some .boolean)
abbrev mJ0_indexOf_0f7a4 : zM := (yJ0_indexOf_0f7a4, cJ0_indexOf_0f7a4, 2, some .int)
abbrev mJ0_indexOf_7cf53 : zM := (yJ0_indexOf_7cf53, cJ0_indexOf_7cf53, 3, some .int)
abbrev mJ1_indexOf_4cfef : zM := (yJ1_indexOf_4cfef, cJ1_indexOf_4cfef, 4, some .int)
abbrev mJ1_canEncode_9a6ad : zM := (yJ1_canEncode_9a6ad, cJ1_canEncode_9a6ad, 1, some .boolean)
abbrev mJ9_max_7cf53 : zM := (yJ9_max_7cf53, cJ9_max_7cf53, 2, some .int)
abbrev mJ9_min_7cf53 : zM := (yJ9_min_7cf53, cJ9_min_7cf53, 2, some .int)
abbrev mJ1_indexOfChar_4cfef : zM := (yJ1_indexOfChar_4cfef, cJ1_indexOfChar_4cfef, 6, some .int)
abbrev mJ2_indexOf_4cfef : zM := (yJ2_indexOf_4cfef, cJ2_indexOf_4cfef, 4, some .int)
abbrev mJ2_indexOfChar_4cfef : zM := (yJ2_indexOfChar_4cfef, cJ2_indexOfChar_4cfef, 4, some .int)
abbrev mJ2_checkBoundsBeginEnd_d044e : zM := (yJ2_checkBoundsBeginEnd_d044e, cJ2_checkBoundsBeginEnd_d044e, 3, none)
abbrev mJ0_checkBoundsBeginEnd_23922 : zM := (yJ0_checkBoundsBeginEnd_23922, cJ0_checkBoundsBeginEnd_23922, 3, none)
abbrev mJ3_checkFromToIndex_8c36e : zM := (yJ3_checkFromToIndex_8c36e, cJ3_checkFromToIndex_8c36e, 4, some .int)
abbrev mJ2_indexOfCharUnsafe_4cfef : zM := (yJ2_indexOfCharUnsafe_4cfef, cJ2_indexOfCharUnsafe_4cfef, 5, some .int)
abbrev mJ2_indexOfSupplementary_4cfef : zM := (yJ2_indexOfSupplementary_4cfef, cJ2_indexOfSupplementary_4cfef, 7, some .int)
abbrev mJ11_isValidCodePoint_9a6ad : zM := (yJ11_isValidCodePoint_9a6ad, cJ11_isValidCodePoint_9a6ad, 2, some .boolean)
abbrev mJ11_highSurrogate_5068e : zM := (yJ11_highSurrogate_5068e, cJ11_highSurrogate_5068e, 1, some .char)
abbrev mJ11_lowSurrogate_5068e : zM := (yJ11_lowSurrogate_5068e, cJ11_lowSurrogate_5068e, 1, some .char)
abbrev mX10_add : zM := (yX10_add, cX10_add, 4, none)
abbrev mX11_told : zM := (yX11_told, cX11_told, 2, some .int)
abbrev mX1_round : zM := (yX1_round, cX1_round, 1, some .int)
abbrev mX1_allHoles : zM := (yX1_allHoles, cX1_allHoles, 3, some .int)
abbrev mX1_allTemper : zM := (yX1_allTemper, cX1_allTemper, 3, some .int)
abbrev mX1_rings : zM := (yX1_rings, cX1_rings, 6, some .int)
abbrev mX11_firstSwap : zM := (yX11_firstSwap, cX11_firstSwap, 2, some .int)
abbrev mX1_holder : zM := (yX1_holder, cX1_holder, 4, some .int)
abbrev mX11_sparingSwap : zM := (yX11_sparingSwap, cX11_sparingSwap, 6, some .int)
abbrev mX11_mostHolesAfterSwap : zM := (yX11_mostHolesAfterSwap, cX11_mostHolesAfterSwap, 3, some .int)
abbrev mX1_follow : zM := (yX1_follow, cX1_follow, 3, none)
abbrev mX1_goDays : zM := (yX1_goDays, cX1_goDays, 3, none)
abbrev mX1_goDay : zM := (yX1_goDay, cX1_goDay, 3, none)
abbrev mX1_goRound : zM := (yX1_goRound, cX1_goRound, 2, none)
abbrev mX1_mostHoles : zM := (yX1_mostHoles, cX1_mostHoles, 3, some .int)
abbrev mX11_pass : zM := (yX11_pass, cX11_pass, 2, some .int)
abbrev mX11_areDays : zM := (yX11_areDays, cX11_areDays, 1, some .boolean)
abbrev mX11_on : zM := (yX11_on, cX11_on, 5, some .int)
abbrev mX11_full : zM := (yX11_full, cX11_full, 4, some .int)
abbrev mX11_best : zM := (yX11_best, cX11_best, 2, some .int)
abbrev mX11_weighAllWays : zM := (yX11_weighAllWays, cX11_weighAllWays, 4, none)
abbrev mX11_firstBest : zM := (yX11_firstBest, cX11_firstBest, 5, some .int)
abbrev mX11_with : zM := (yX11_with, cX11_with, 4, some .int)
abbrev mX11_bestCard : zM := (yX11_bestCard, cX11_bestCard, 4, some .int)
abbrev mX11_see : zM := (yX11_see, cX11_see, 4, some .int)
abbrev mX8_add : zM := (yX8_add, cX8_add, 4, some .int)
abbrev mX11_had : zM := (yX11_had, cX11_had, 4, some .int)
abbrev mX11_trialMeetsSeen : zM := (yX11_trialMeetsSeen, cX11_trialMeetsSeen, 5, some .boolean)
abbrev mX8_greatestThird : zM := (yX8_greatestThird, cX8_greatestThird, 3, some .int)
abbrev mX11_can : zM := (yX11_can, cX11_can, 7, some .int)
abbrev mX11_odds : zM := (yX11_odds, cX11_odds, 6, some .long)
abbrev mX11_ofFraction : zM := (yX11_ofFraction, cX11_ofFraction, 4, some .long)
abbrev mX11_commonDivisor : zM := (yX11_commonDivisor, cX11_commonDivisor, 6, some .int)
abbrev mX11_mean : zM := (yX11_mean, cX11_mean, 3, some .long)
abbrev mX11_plan : zM := (yX11_plan, cX11_plan, 3, some .int)
abbrev mX11_ends : zM := (yX11_ends, cX11_ends, 3, some .int)
abbrev mX1_goPlanned : zM := (yX1_goPlanned, cX1_goPlanned, 3, none)
abbrev mX11_book : zM := (yX11_book, cX11_book, 3, some .int)
abbrev mX11_looked : zM := (yX11_looked, cX11_looked, 3, some .int)
abbrev mX11_judge : zM := (yX11_judge, cX11_judge, 4, some .int)
abbrev mX11_isTape : zM := (yX11_isTape, cX11_isTape, 1, some .boolean)
abbrev mX11_isPlace : zM := (yX11_isPlace, cX11_isPlace, 3, some .boolean)
abbrev mX11_image : zM := (yX11_image, cX11_image, 1, some .int)
abbrev mX1_become : zM := (yX1_become, cX1_become, 2, none)
abbrev mX8_become : zM := (yX8_become, cX8_become, 2, none)
abbrev mX11_undo : zM := (yX11_undo, cX11_undo, 1, some .int)
abbrev mX11_act : zM := (yX11_act, cX11_act, 5, some .int)
abbrev mJ4_setLength_d00df : zM := (yJ4_setLength_d00df, cJ4_setLength_d00df, 2, none)
abbrev mJ5_setLength_d00df : zM := (yJ5_setLength_d00df, cJ5_setLength_d00df, 2, none)
abbrev mJ5_ensureCapacityInternal_d00df : zM := (yJ5_ensureCapacityInternal_d00df, cJ5_ensureCapacityInternal_d00df, 3, none)
abbrev mJ5_newCapacity_0f7a4 : zM := (yJ5_newCapacity_0f7a4, cJ5_newCapacity_0f7a4, 6, some .int)
abbrev mJ8_newLength_cabcc : zM := (yJ8_newLength_cabcc, cJ8_newLength_cabcc, 4, some .int)
abbrev mJ8_hugeLength_7cf53 : zM := (yJ8_hugeLength_7cf53, cJ8_hugeLength_7cf53, 3, some .int)
abbrev mJ7_copyOf_9075b : zM := (yJ7_copyOf_9075b, cJ7_copyOf_9075b, 3, some (.array .byte))
abbrev mJ5_isLatin1_aae02 : zM := (yJ5_isLatin1_aae02, cJ5_isLatin1_aae02, 1, some .boolean)
abbrev mJ1_fillNull_b72d1 : zM := (yJ1_fillNull_b72d1, cJ1_fillNull_b72d1, 3, none)
abbrev mJ7_fill_eb02e : zM := (yJ7_fill_eb02e, cJ7_fill_eb02e, 5, none)
abbrev mJ7_rangeCheck_23922 : zM := (yJ7_rangeCheck_23922, cJ7_rangeCheck_23922, 3, none)
abbrev mJ2_fillNull_b72d1 : zM := (yJ2_fillNull_b72d1, cJ2_fillNull_b72d1, 3, none)
abbrev mX0_toils : zM := (yX0_toils, cX0_toils, 3, some .int)
abbrev mJ4_append_cf468 : zM := (yJ4_append_cf468, cJ4_append_cf468, 2, some (.object "java/lang/StringBuilder"))
abbrev mJ5_append_3fe6f : zM := (yJ5_append_3fe6f, cJ5_append_3fe6f, 2, some (.object "java/lang/AbstractStringBuilder"))
abbrev mJ1_canEncode_fc78d : zM := (yJ1_canEncode_fc78d, cJ1_canEncode_fc78d, 1, some .boolean)
abbrev mJ5_inflate_da8c8 : zM := (yJ5_inflate_da8c8, cJ5_inflate_da8c8, 2, none)
abbrev mJ1_inflate_0e8fd : zM := (yJ1_inflate_0e8fd, cJ1_inflate_0e8fd, 5, none)
abbrev mJ2_inflate_0e8fd : zM := (yJ2_inflate_0e8fd, cJ2_inflate_0e8fd, 6, none)
abbrev mJ2_checkBoundsOffCount_d044e : zM := (yJ2_checkBoundsOffCount_d044e, cJ2_checkBoundsOffCount_d044e, 3, none)
abbrev mJ0_checkBoundsOffCount_cabcc : zM := (yJ0_checkBoundsOffCount_cabcc, cJ0_checkBoundsOffCount_cabcc, 3, some .int)
abbrev mJ3_checkFromIndexSize_8c36e : zM := (yJ3_checkFromIndexSize_8c36e, cJ3_checkFromIndexSize_8c36e, 4, some .int)
abbrev mJ2_putChar_b72d1 : zM := (yJ2_putChar_b72d1, cJ2_putChar_b72d1, 3, none)
abbrev mJ2_putCharSB_b72d1 : zM := (yJ2_putCharSB_b72d1, cJ2_putCharSB_b72d1, 3, none)
abbrev mX3_toils : zM := (yX3_toils, cX3_toils, 3, some .int)
abbrev mX9_toils : zM := (yX9_toils, cX9_toils, 3, some .int)
abbrev mX2_toils : zM := (yX2_toils, cX2_toils, 3, some .int)
abbrev mX0_minds : zM := (yX0_minds, cX0_minds, 3, some .int)
abbrev mX4_minds : zM := (yX4_minds, cX4_minds, 3, some .int)
abbrev mX9_minds : zM := (yX9_minds, cX9_minds, 3, some .int)
abbrev mX2_minds : zM := (yX2_minds, cX2_minds, 3, some .int)
abbrev mX5_tells : zM := (yX5_tells, cX5_tells, 3, some .int)
abbrev mX6_tells : zM := (yX6_tells, cX6_tells, 3, some .int)
abbrev mX2_tells : zM := (yX2_tells, cX2_tells, 3, some .int)
abbrev mX11_trace : zM := (yX11_trace, cX11_trace, 2, some .int)
abbrev mJ4_length_8abf5 : zM := (yJ4_length_8abf5, cJ4_length_8abf5, 1, some .int)
abbrev mJ5_length_8abf5 : zM := (yJ5_length_8abf5, cJ5_length_8abf5, 1, some .int)
abbrev mJ4_charAt_5068e : zM := (yJ4_charAt_5068e, cJ4_charAt_5068e, 2, some .char)
abbrev mJ5_charAt_5068e : zM := (yJ5_charAt_5068e, cJ5_charAt_5068e, 5, some .char)
abbrev mX11_taken : zM := (yX11_taken, cX11_taken, 4, some .int)
abbrev mX11_isUnder : zM := (yX11_isUnder, cX11_isUnder, 2, some .boolean)
abbrev mX11_count : zM := (yX11_count, cX11_count, 2, some .int)
abbrev mX11_tape : zM := (yX11_tape, cX11_tape, 5, some .int)
abbrev mX11_item : zM := (yX11_item, cX11_item, 5, some .int)
abbrev mX11_fitted : zM := (yX11_fitted, cX11_fitted, 3, some .long)
abbrev mX11_read : zM := (yX11_read, cX11_read, 3, some .long)
abbrev mX11_shift : zM := (yX11_shift, cX11_shift, 6, some .int)
abbrev mX12_init : zM := (yX12_init, cX12_init, 1, none)
abbrev mX12_worker : zM := (yX12_worker, cX12_worker, 4, some .int)
abbrev mX12_in : zM := (yX12_in, cX12_in, 4, some .boolean)
abbrev mX12_set : zM := (yX12_set, cX12_set, 4, some .int)
abbrev mX12_isWorker : zM := (yX12_isWorker, cX12_isWorker, 2, some .boolean)
abbrev mX12_isHoles : zM := (yX12_isHoles, cX12_isHoles, 2, some .boolean)
abbrev mX12_swap : zM := (yX12_swap, cX12_swap, 3, some .int)
abbrev mX12_swaps : zM := (yX12_swaps, cX12_swaps, 4, none)
abbrev mX12_stay : zM := (yX12_stay, cX12_stay, 4, some .int)
abbrev mX12_has : zM := (yX12_has, cX12_has, 3, some .boolean)
abbrev mX12_rests : zM := (yX12_rests, cX12_rests, 3, none)
abbrev mX12_row : zM := (yX12_row, cX12_row, 5, some .int)
abbrev mX12_feed : zM := (yX12_feed, cX12_feed, 2, some .int)
abbrev mX12_works : zM := (yX12_works, cX12_works, 2, some .int)
abbrev mX12_goesText : zM := (yX12_goesText, cX12_goesText, 3, some .boolean)
abbrev mX12_takesClause : zM := (yX12_takesClause, cX12_takesClause, 2, some .boolean)
abbrev mX12_takesHead : zM := (yX12_takesHead, cX12_takesHead, 2, some .boolean)
abbrev mX12_next : zM := (yX12_next, cX12_next, 1, some .int)
abbrev mX12_takesWord : zM := (yX12_takesWord, cX12_takesWord, 4, some .boolean)
abbrev mX12_takes : zM := (yX12_takes, cX12_takes, 2, some .boolean)
abbrev mX12_takesNumber : zM := (yX12_takesNumber, cX12_takesNumber, 2, some .boolean)
abbrev mX12_isDigit : zM := (yX12_isDigit, cX12_isDigit, 1, some .boolean)
abbrev mX12_takesE : zM := (yX12_takesE, cX12_takesE, 4, some .boolean)
abbrev mX12_takesTest : zM := (yX12_takesTest, cX12_takesTest, 3, some .boolean)
abbrev mX12_place : zM := (yX12_place, cX12_place, 2, some .int)
abbrev mX12_emits : zM := (yX12_emits, cX12_emits, 2, none)
abbrev mX12_whole : zM := (yX12_whole, cX12_whole, 1, none)
abbrev mX12_settle : zM := (yX12_settle, cX12_settle, 2, none)
abbrev mX12_of : zM := (yX12_of, cX12_of, 3, some .int)
abbrev mX12_temper : zM := (yX12_temper, cX12_temper, 4, some .int)
abbrev mX12_mood : zM := (yX12_mood, cX12_mood, 5, some .int)
abbrev mX12_bits : zM := (yX12_bits, cX12_bits, 4, some .int)
abbrev mX12_begin : zM := (yX12_begin, cX12_begin, 1, some .int)
abbrev mX12_behind : zM := (yX12_behind, cX12_behind, 1, some .int)
abbrev mX12_holds : zM := (yX12_holds, cX12_holds, 9, some .boolean)
abbrev mX12_factOf : zM := (yX12_factOf, cX12_factOf, 4, some .int)
abbrev mX12_ring : zM := (yX12_ring, cX12_ring, 4, some .int)
abbrev mX12_punches : zM := (yX12_punches, cX12_punches, 6, some .int)
abbrev mX12_leastFree : zM := (yX12_leastFree, cX12_leastFree, 3, some .int)
abbrev mX12_pass : zM := (yX12_pass, cX12_pass, 2, some .int)
abbrev mX12_isDays : zM := (yX12_isDays, cX12_isDays, 2, some .boolean)
abbrev mX12_goDays : zM := (yX12_goDays, cX12_goDays, 3, none)
abbrev mX12_goDay : zM := (yX12_goDay, cX12_goDay, 2, none)
abbrev mX12_round : zM := (yX12_round, cX12_round, 3, some .int)
abbrev mX12_on : zM := (yX12_on, cX12_on, 4, some .int)
abbrev mX12_save : zM := (yX12_save, cX12_save, 2, none)
abbrev mX12_allHoles : zM := (yX12_allHoles, cX12_allHoles, 3, some .int)
abbrev mX12_putBack : zM := (yX12_putBack, cX12_putBack, 2, none)
abbrev mX12_full : zM := (yX12_full, cX12_full, 4, some .int)
abbrev mX12_told : zM := (yX12_told, cX12_told, 2, some .int)
abbrev mX12_allTemper : zM := (yX12_allTemper, cX12_allTemper, 3, some .int)
abbrev mX12_swapsOf : zM := (yX12_swapsOf, cX12_swapsOf, 5, some .int)
abbrev mX12_firstSwap : zM := (yX12_firstSwap, cX12_firstSwap, 2, some .int)
abbrev mX12_whoHas : zM := (yX12_whoHas, cX12_whoHas, 3, some .int)
abbrev mX12_tradeOf : zM := (yX12_tradeOf, cX12_tradeOf, 6, some .int)
abbrev mX12_mostHoles : zM := (yX12_mostHoles, cX12_mostHoles, 5, some .int)
abbrev mX12_best : zM := (yX12_best, cX12_best, 8, some .int)
abbrev mX12_layCards : zM := (yX12_layCards, cX12_layCards, 5, some .boolean)
abbrev mX12_see : zM := (yX12_see, cX12_see, 4, some .int)
abbrev mX12_had : zM := (yX12_had, cX12_had, 5, some .int)
abbrev mX12_isSeen : zM := (yX12_isSeen, cX12_isSeen, 3, some .boolean)
abbrev mX12_can : zM := (yX12_can, cX12_can, 7, some .int)
abbrev mX12_odds : zM := (yX12_odds, cX12_odds, 6, some .long)
abbrev mX12_lowest : zM := (yX12_lowest, cX12_lowest, 5, some .long)
abbrev mX12_divisor : zM := (yX12_divisor, cX12_divisor, 6, some .int)
abbrev mX12_mean : zM := (yX12_mean, cX12_mean, 3, some .long)
abbrev mX12_plan : zM := (yX12_plan, cX12_plan, 3, some .int)
abbrev mX12_isPair : zM := (yX12_isPair, cX12_isPair, 2, some .boolean)
abbrev mX12_ends : zM := (yX12_ends, cX12_ends, 3, some .int)
abbrev mX12_goPlan : zM := (yX12_goPlan, cX12_goPlan, 3, none)
abbrev mX12_book : zM := (yX12_book, cX12_book, 3, some .int)
abbrev mX12_looked : zM := (yX12_looked, cX12_looked, 2, some .int)
abbrev mX12_judge : zM := (yX12_judge, cX12_judge, 4, some .int)
abbrev mX12_isTape : zM := (yX12_isTape, cX12_isTape, 2, some .boolean)
abbrev mX12_image : zM := (yX12_image, cX12_image, 2, some .int)
abbrev mX12_undo : zM := (yX12_undo, cX12_undo, 2, some .int)
abbrev mX12_act : zM := (yX12_act, cX12_act, 4, some .int)
abbrev mX12_worksAct : zM := (yX12_worksAct, cX12_worksAct, 3, some .int)
abbrev mX12_body : zM := (yX12_body, cX12_body, 2, none)
abbrev mX12_handWorks : zM := (yX12_handWorks, cX12_handWorks, 3, some .int)
abbrev mX12_mindsAct : zM := (yX12_mindsAct, cX12_mindsAct, 4, some .int)
abbrev mX12_lateMinds : zM := (yX12_lateMinds, cX12_lateMinds, 3, some .int)
abbrev mX12_handMinds : zM := (yX12_handMinds, cX12_handMinds, 3, some .int)
abbrev mX12_tellsAct : zM := (yX12_tellsAct, cX12_tellsAct, 4, some .int)
abbrev mX12_handTells : zM := (yX12_handTells, cX12_handTells, 3, some .int)
abbrev mX12_trace : zM := (yX12_trace, cX12_trace, 2, some .int)
abbrev mX12_taken : zM := (yX12_taken, cX12_taken, 4, some .int)
abbrev mX12_count : zM := (yX12_count, cX12_count, 2, some .int)
abbrev mX12_tape : zM := (yX12_tape, cX12_tape, 5, some .int)
abbrev mX12_item : zM := (yX12_item, cX12_item, 5, some .int)
abbrev mX12_narrow : zM := (yX12_narrow, cX12_narrow, 4, some .long)
abbrev mX12_read : zM := (yX12_read, cX12_read, 3, some .long)
abbrev mX12_shift : zM := (yX12_shift, cX12_shift, 7, some .int)
theorem fe_X8_9 : zFe RX8 (9, 9, 0, 1, true) := ⟨(RX8, TX8, 4), "PunchedSouls$Rows", rfl, by decide, zGW_at 125 (by decide +kernel) (by decide +kernel), Or.inl rfl, rfl, by decide +kernel, by decide +kernel, by decide +kernel, by decide +kernel⟩
theorem fe_X11_227 : zFe RX11 (227, 9, 0, 1, true) := ⟨(RX8, TX8, 4), "PunchedSouls$Rows", rfl, by decide, zGW_at 126 (by decide +kernel) (by decide +kernel), Or.inl rfl, rfl, by decide +kernel, by decide +kernel, by decide +kernel, by decide +kernel⟩
theorem fe_X8_15 : zFe RX8 (15, 9, 1, 1, true) := ⟨(RX8, TX8, 4), "PunchedSouls$Rows", rfl, by decide, zGW_at 127 (by decide +kernel) (by decide +kernel), Or.inl rfl, rfl, by decide +kernel, by decide +kernel, by decide +kernel, by decide +kernel⟩
theorem fe_X11_230 : zFe RX11 (230, 9, 1, 1, true) := ⟨(RX8, TX8, 4), "PunchedSouls$Rows", rfl, by decide, zGW_at 128 (by decide +kernel) (by decide +kernel), Or.inl rfl, rfl, by decide +kernel, by decide +kernel, by decide +kernel, by decide +kernel⟩
theorem fe_X8_18 : zFe RX8 (18, 9, 2, 1, true) := ⟨(RX8, TX8, 4), "PunchedSouls$Rows", rfl, by decide, zGW_at 129 (by decide +kernel) (by decide +kernel), Or.inl rfl, rfl, by decide +kernel, by decide +kernel, by decide +kernel, by decide +kernel⟩
theorem fe_X11_327 : zFe RX11 (327, 9, 2, 1, true) := ⟨(RX8, TX8, 4), "PunchedSouls$Rows", rfl, by decide, zGW_at 130 (by decide +kernel) (by decide +kernel), Or.inl rfl, rfl, by decide +kernel, by decide +kernel, by decide +kernel, by decide +kernel⟩
theorem fe_X8_21 : zFe RX8 (21, 9, 3, 0, false) := ⟨(RX8, TX8, 4), "PunchedSouls$Rows", rfl, by decide, zGW_at 131 (by decide +kernel) (by decide +kernel), Or.inl rfl, rfl, by decide +kernel, by decide +kernel, by decide +kernel, by decide +kernel⟩
theorem fe_X11_206 : zFe RX11 (206, 9, 3, 0, false) := ⟨(RX8, TX8, 4), "PunchedSouls$Rows", rfl, by decide, zGW_at 132 (by decide +kernel) (by decide +kernel), Or.inl rfl, rfl, by decide +kernel, by decide +kernel, by decide +kernel, by decide +kernel⟩
theorem fe_X1_11 : zFe RX1 (11, 2, 0, 1, true) := ⟨(RX1, TX1, 11), "PunchedSouls$Gate", rfl, by decide, zGW_at 143 (by decide +kernel) (by decide +kernel), Or.inl rfl, rfl, by decide +kernel, by decide +kernel, by decide +kernel, by decide +kernel⟩
theorem fe_X11_80 : zFe RX11 (80, 2, 0, 1, true) := ⟨(RX1, TX1, 11), "PunchedSouls$Gate", rfl, by decide, zGW_at 144 (by decide +kernel) (by decide +kernel), Or.inl rfl, rfl, by decide +kernel, by decide +kernel, by decide +kernel, by decide +kernel⟩
theorem fe_X1_17 : zFe RX1 (17, 2, 1, 1, true) := ⟨(RX1, TX1, 11), "PunchedSouls$Gate", rfl, by decide, zGW_at 145 (by decide +kernel) (by decide +kernel), Or.inl rfl, rfl, by decide +kernel, by decide +kernel, by decide +kernel, by decide +kernel⟩
theorem fe_X11_110 : zFe RX11 (110, 2, 1, 1, true) := ⟨(RX1, TX1, 11), "PunchedSouls$Gate", rfl, by decide, zGW_at 146 (by decide +kernel) (by decide +kernel), Or.inl rfl, rfl, by decide +kernel, by decide +kernel, by decide +kernel, by decide +kernel⟩
theorem fe_X1_21 : zFe RX1 (21, 2, 2, 1, true) := ⟨(RX1, TX1, 11), "PunchedSouls$Gate", rfl, by decide, zGW_at 147 (by decide +kernel) (by decide +kernel), Or.inl rfl, rfl, by decide +kernel, by decide +kernel, by decide +kernel, by decide +kernel⟩
theorem fe_X11_84 : zFe RX11 (84, 2, 2, 1, true) := ⟨(RX1, TX1, 11), "PunchedSouls$Gate", rfl, by decide, zGW_at 148 (by decide +kernel) (by decide +kernel), Or.inl rfl, rfl, by decide +kernel, by decide +kernel, by decide +kernel, by decide +kernel⟩
theorem fe_X1_24 : zFe RX1 (24, 2, 3, 1, true) := ⟨(RX1, TX1, 11), "PunchedSouls$Gate", rfl, by decide, zGW_at 149 (by decide +kernel) (by decide +kernel), Or.inl rfl, rfl, by decide +kernel, by decide +kernel, by decide +kernel, by decide +kernel⟩
theorem fe_X11_131 : zFe RX11 (131, 2, 3, 1, true) := ⟨(RX1, TX1, 11), "PunchedSouls$Gate", rfl, by decide, zGW_at 150 (by decide +kernel) (by decide +kernel), Or.inl rfl, rfl, by decide +kernel, by decide +kernel, by decide +kernel, by decide +kernel⟩
theorem fe_X11_65 : zFe RX11 (65, 2, 4, 0, false) := ⟨(RX1, TX1, 11), "PunchedSouls$Gate", rfl, by decide, zGW_at 151 (by decide +kernel) (by decide +kernel), Or.inl rfl, rfl, by decide +kernel, by decide +kernel, by decide +kernel, by decide +kernel⟩
theorem fe_X1_56 : zFe RX1 (56, 2, 4, 0, false) := ⟨(RX1, TX1, 11), "PunchedSouls$Gate", rfl, by decide, zGW_at 152 (by decide +kernel) (by decide +kernel), Or.inl rfl, rfl, by decide +kernel, by decide +kernel, by decide +kernel, by decide +kernel⟩
theorem fe_X1_60 : zFe RX1 (60, 2, 5, 0, false) := ⟨(RX1, TX1, 11), "PunchedSouls$Gate", rfl, by decide, zGW_at 153 (by decide +kernel) (by decide +kernel), Or.inl rfl, rfl, by decide +kernel, by decide +kernel, by decide +kernel, by decide +kernel⟩
theorem fe_X1_63 : zFe RX1 (63, 2, 6, 0, false) := ⟨(RX1, TX1, 11), "PunchedSouls$Gate", rfl, by decide, zGW_at 154 (by decide +kernel) (by decide +kernel), Or.inl rfl, rfl, by decide +kernel, by decide +kernel, by decide +kernel, by decide +kernel⟩
theorem fe_X11_107 : zFe RX11 (107, 2, 6, 0, false) := ⟨(RX1, TX1, 11), "PunchedSouls$Gate", rfl, by decide, zGW_at 155 (by decide +kernel) (by decide +kernel), Or.inl rfl, rfl, by decide +kernel, by decide +kernel, by decide +kernel, by decide +kernel⟩
theorem fe_X1_66 : zFe RX1 (66, 2, 7, 1, false) := ⟨(RX1, TX1, 11), "PunchedSouls$Gate", rfl, by decide, zGW_at 156 (by decide +kernel) (by decide +kernel), Or.inl rfl, rfl, by decide +kernel, by decide +kernel, by decide +kernel, by decide +kernel⟩
theorem fe_X11_156 : zFe RX11 (156, 2, 7, 1, false) := ⟨(RX1, TX1, 11), "PunchedSouls$Gate", rfl, by decide, zGW_at 157 (by decide +kernel) (by decide +kernel), Or.inl rfl, rfl, by decide +kernel, by decide +kernel, by decide +kernel, by decide +kernel⟩
theorem fe_X1_32 : zFe RX1 (32, 2, 8, 1, true) := ⟨(RX1, TX1, 11), "PunchedSouls$Gate", rfl, by decide, zGW_at 158 (by decide +kernel) (by decide +kernel), Or.inl rfl, rfl, by decide +kernel, by decide +kernel, by decide +kernel, by decide +kernel⟩
theorem fe_X11_202 : zFe RX11 (202, 2, 8, 1, true) := ⟨(RX1, TX1, 11), "PunchedSouls$Gate", rfl, by decide, zGW_at 159 (by decide +kernel) (by decide +kernel), Or.inl rfl, rfl, by decide +kernel, by decide +kernel, by decide +kernel, by decide +kernel⟩
theorem fe_X1_36 : zFe RX1 (36, 2, 9, 1, true) := ⟨(RX1, TX1, 11), "PunchedSouls$Gate", rfl, by decide, zGW_at 160 (by decide +kernel) (by decide +kernel), Or.inl rfl, rfl, by decide +kernel, by decide +kernel, by decide +kernel, by decide +kernel⟩
theorem fe_X11_224 : zFe RX11 (224, 2, 9, 1, true) := ⟨(RX1, TX1, 11), "PunchedSouls$Gate", rfl, by decide, zGW_at 161 (by decide +kernel) (by decide +kernel), Or.inl rfl, rfl, by decide +kernel, by decide +kernel, by decide +kernel, by decide +kernel⟩
theorem fe_X1_39 : zFe RX1 (39, 2, 10, 1, true) := ⟨(RX1, TX1, 11), "PunchedSouls$Gate", rfl, by decide, zGW_at 162 (by decide +kernel) (by decide +kernel), Or.inl rfl, rfl, by decide +kernel, by decide +kernel, by decide +kernel, by decide +kernel⟩
theorem fe_X11_236 : zFe RX11 (236, 2, 10, 1, true) := ⟨(RX1, TX1, 11), "PunchedSouls$Gate", rfl, by decide, zGW_at 163 (by decide +kernel) (by decide +kernel), Or.inl rfl, rfl, by decide +kernel, by decide +kernel, by decide +kernel, by decide +kernel⟩
theorem fe_J5_15 : zFe RJ5 (15, 0, 0, 1, false) := ⟨(RJ4, TJ4, 4), "java/lang/AbstractStringBuilder", rfl, by decide, zGW_at 205 (by decide +kernel) (by decide +kernel), Or.inl rfl, rfl, by decide +kernel, by decide +kernel, by decide +kernel, by decide +kernel⟩
theorem fe_J5_22 : zFe RJ5 (22, 0, 1, 3, false) := ⟨(RJ4, TJ4, 4), "java/lang/AbstractStringBuilder", rfl, by decide, zGW_at 206 (by decide +kernel) (by decide +kernel), Or.inl rfl, rfl, by decide +kernel, by decide +kernel, by decide +kernel, by decide +kernel⟩
theorem fe_J5_73 : zFe RJ5 (73, 0, 2, 2, false) := ⟨(RJ4, TJ4, 4), "java/lang/AbstractStringBuilder", rfl, by decide, zGW_at 207 (by decide +kernel) (by decide +kernel), Or.inl rfl, rfl, by decide +kernel, by decide +kernel, by decide +kernel, by decide +kernel⟩
theorem fe_J5_79 : zFe RJ5 (79, 0, 3, 0, false) := ⟨(RJ4, TJ4, 4), "java/lang/AbstractStringBuilder", rfl, by decide, zGW_at 208 (by decide +kernel) (by decide +kernel), Or.inl rfl, rfl, by decide +kernel, by decide +kernel, by decide +kernel, by decide +kernel⟩
theorem fe_X11_12 : zFe RX11 (12, 12, 0, 1, true) := ⟨(RX11, TX11, 13), "PunchedSouls", rfl, by decide, zGW_at 223 (by decide +kernel) (by decide +kernel), Or.inl rfl, rfl, by decide +kernel, by decide +kernel, by decide +kernel, by decide +kernel⟩
theorem fe_X11_18 : zFe RX11 (18, 12, 1, 1, true) := ⟨(RX11, TX11, 13), "PunchedSouls", rfl, by decide, zGW_at 224 (by decide +kernel) (by decide +kernel), Or.inl rfl, rfl, by decide +kernel, by decide +kernel, by decide +kernel, by decide +kernel⟩
theorem fe_X11_21 : zFe RX11 (21, 12, 2, 1, true) := ⟨(RX11, TX11, 13), "PunchedSouls", rfl, by decide, zGW_at 225 (by decide +kernel) (by decide +kernel), Or.inl rfl, rfl, by decide +kernel, by decide +kernel, by decide +kernel, by decide +kernel⟩
theorem fe_X11_249 : zFe RX11 (249, 12, 3, 2, false) := ⟨(RX11, TX11, 13), "PunchedSouls", rfl, by decide, zGW_at 226 (by decide +kernel) (by decide +kernel), Or.inl rfl, rfl, by decide +kernel, by decide +kernel, by decide +kernel, by decide +kernel⟩
theorem fe_X11_24 : zFe RX11 (24, 12, 4, 1, true) := ⟨(RX11, TX11, 13), "PunchedSouls", rfl, by decide, zGW_at 227 (by decide +kernel) (by decide +kernel), Or.inl rfl, rfl, by decide +kernel, by decide +kernel, by decide +kernel, by decide +kernel⟩
theorem fe_X11_134 : zFe RX11 (134, 12, 5, 0, false) := ⟨(RX11, TX11, 13), "PunchedSouls", rfl, by decide, zGW_at 228 (by decide +kernel) (by decide +kernel), Or.inl rfl, rfl, by decide +kernel, by decide +kernel, by decide +kernel, by decide +kernel⟩
theorem fe_X11_137 : zFe RX11 (137, 12, 6, 0, false) := ⟨(RX11, TX11, 13), "PunchedSouls", rfl, by decide, zGW_at 229 (by decide +kernel) (by decide +kernel), Or.inl rfl, rfl, by decide +kernel, by decide +kernel, by decide +kernel, by decide +kernel⟩
theorem fe_X11_31 : zFe RX11 (31, 12, 7, 1, true) := ⟨(RX11, TX11, 13), "PunchedSouls", rfl, by decide, zGW_at 230 (by decide +kernel) (by decide +kernel), Or.inl rfl, rfl, by decide +kernel, by decide +kernel, by decide +kernel, by decide +kernel⟩
theorem fe_X11_35 : zFe RX11 (35, 12, 8, 1, true) := ⟨(RX11, TX11, 13), "PunchedSouls", rfl, by decide, zGW_at 231 (by decide +kernel) (by decide +kernel), Or.inl rfl, rfl, by decide +kernel, by decide +kernel, by decide +kernel, by decide +kernel⟩
theorem fe_X11_39 : zFe RX11 (39, 12, 9, 1, true) := ⟨(RX11, TX11, 13), "PunchedSouls", rfl, by decide, zGW_at 232 (by decide +kernel) (by decide +kernel), Or.inl rfl, rfl, by decide +kernel, by decide +kernel, by decide +kernel, by decide +kernel⟩
theorem fe_X11_42 : zFe RX11 (42, 12, 10, 1, true) := ⟨(RX11, TX11, 13), "PunchedSouls", rfl, by decide, zGW_at 233 (by decide +kernel) (by decide +kernel), Or.inl rfl, rfl, by decide +kernel, by decide +kernel, by decide +kernel, by decide +kernel⟩
theorem fe_X11_45 : zFe RX11 (45, 12, 11, 1, true) := ⟨(RX11, TX11, 13), "PunchedSouls", rfl, by decide, zGW_at 234 (by decide +kernel) (by decide +kernel), Or.inl rfl, rfl, by decide +kernel, by decide +kernel, by decide +kernel, by decide +kernel⟩
theorem fe_X11_48 : zFe RX11 (48, 12, 12, 1, true) := ⟨(RX11, TX11, 13), "PunchedSouls", rfl, by decide, zGW_at 235 (by decide +kernel) (by decide +kernel), Or.inl rfl, rfl, by decide +kernel, by decide +kernel, by decide +kernel, by decide +kernel⟩
theorem fe_X2_9 : zFe RX2 (9, 3, 0, 0, true) := ⟨(RX2, TX2, 2), "PunchedSouls$Hand", rfl, by decide, zGW_at 286 (by decide +kernel) (by decide +kernel), Or.inl rfl, rfl, by decide +kernel, by decide +kernel, by decide +kernel, by decide +kernel⟩
theorem fe_X3_9 : zFe RX3 (9, 4, 0, 0, true) := ⟨(RX3, TX3, 2), "PunchedSouls$Lad", rfl, by decide, zGW_at 287 (by decide +kernel) (by decide +kernel), Or.inr (zGW_at 288 (by decide +kernel) (by decide +kernel)), rfl, by decide +kernel, by decide +kernel, by decide +kernel, by decide +kernel⟩
theorem fe_X5_25 : zFe RX5 (25, 6, 0, 0, true) := ⟨(RX5, TX5, 2), "PunchedSouls$Minder", rfl, by decide, zGW_at 289 (by decide +kernel) (by decide +kernel), Or.inr (zGW_at 290 (by decide +kernel) (by decide +kernel)), rfl, by decide +kernel, by decide +kernel, by decide +kernel, by decide +kernel⟩
theorem fe_X10_31 : zFe RX10 (31, 3, 0, 0, true) := ⟨(RX2, TX2, 2), "PunchedSouls$Hand", rfl, by decide, zGW_at 291 (by decide +kernel) (by decide +kernel), Or.inl rfl, rfl, by decide +kernel, by decide +kernel, by decide +kernel, by decide +kernel⟩
theorem fe_X2_15 : zFe RX2 (15, 3, 1, 0, true) := ⟨(RX2, TX2, 2), "PunchedSouls$Hand", rfl, by decide, zGW_at 292 (by decide +kernel) (by decide +kernel), Or.inl rfl, rfl, by decide +kernel, by decide +kernel, by decide +kernel, by decide +kernel⟩
theorem fe_X3_15 : zFe RX3 (15, 4, 1, 0, true) := ⟨(RX3, TX3, 2), "PunchedSouls$Lad", rfl, by decide, zGW_at 293 (by decide +kernel) (by decide +kernel), Or.inr (zGW_at 294 (by decide +kernel) (by decide +kernel)), rfl, by decide +kernel, by decide +kernel, by decide +kernel, by decide +kernel⟩
theorem fe_X11_93 : zFe RX11 (93, 3, 1, 0, true) := ⟨(RX2, TX2, 2), "PunchedSouls$Hand", rfl, by decide, zGW_at 295 (by decide +kernel) (by decide +kernel), Or.inl rfl, rfl, by decide +kernel, by decide +kernel, by decide +kernel, by decide +kernel⟩
theorem fe_X10_40 : zFe RX10 (40, 3, 1, 0, true) := ⟨(RX2, TX2, 2), "PunchedSouls$Hand", rfl, by decide, zGW_at 296 (by decide +kernel) (by decide +kernel), Or.inl rfl, rfl, by decide +kernel, by decide +kernel, by decide +kernel, by decide +kernel⟩
theorem fe_X9_26 : zFe RX9 (26, 10, 1, 0, true) := ⟨(RX9, TX9, 2), "PunchedSouls$Told", rfl, by decide, zGW_at 297 (by decide +kernel) (by decide +kernel), Or.inr (zGW_at 298 (by decide +kernel) (by decide +kernel)), rfl, by decide +kernel, by decide +kernel, by decide +kernel, by decide +kernel⟩
theorem fe_X10_7 : zFe RX10 (7, 11, 0, 1, true) := ⟨(RX10, TX10, 5), "PunchedSouls$Works", rfl, by decide, zGW_at 518 (by decide +kernel) (by decide +kernel), Or.inl rfl, rfl, by decide +kernel, by decide +kernel, by decide +kernel, by decide +kernel⟩
theorem fe_X10_13 : zFe RX10 (13, 11, 1, 1, true) := ⟨(RX10, TX10, 5), "PunchedSouls$Works", rfl, by decide, zGW_at 519 (by decide +kernel) (by decide +kernel), Or.inl rfl, rfl, by decide +kernel, by decide +kernel, by decide +kernel, by decide +kernel⟩
theorem fe_X10_16 : zFe RX10 (16, 11, 2, 1, true) := ⟨(RX10, TX10, 5), "PunchedSouls$Works", rfl, by decide, zGW_at 520 (by decide +kernel) (by decide +kernel), Or.inl rfl, rfl, by decide +kernel, by decide +kernel, by decide +kernel, by decide +kernel⟩
theorem fe_X10_19 : zFe RX10 (19, 11, 3, 0, false) := ⟨(RX10, TX10, 5), "PunchedSouls$Works", rfl, by decide, zGW_at 521 (by decide +kernel) (by decide +kernel), Or.inl rfl, rfl, by decide +kernel, by decide +kernel, by decide +kernel, by decide +kernel⟩
theorem fe_X7_56 : zFe RX7 (56, 11, 4, 0, false) := ⟨(RX10, TX10, 5), "PunchedSouls$Works", rfl, by decide, zGW_at 522 (by decide +kernel) (by decide +kernel), Or.inl rfl, rfl, by decide +kernel, by decide +kernel, by decide +kernel, by decide +kernel⟩
theorem fe_X1_95 : zFe RX1 (95, 11, 4, 0, false) := ⟨(RX10, TX10, 5), "PunchedSouls$Works", rfl, by decide, zGW_at 523 (by decide +kernel) (by decide +kernel), Or.inl rfl, rfl, by decide +kernel, by decide +kernel, by decide +kernel, by decide +kernel⟩
theorem fe_X7_9 : zFe RX7 (9, 8, 0, 1, true) := ⟨(RX7, TX7, 4), "PunchedSouls$Reader", rfl, by decide, zGW_at 535 (by decide +kernel) (by decide +kernel), Or.inl rfl, rfl, by decide +kernel, by decide +kernel, by decide +kernel, by decide +kernel⟩
theorem fe_X7_15 : zFe RX7 (15, 8, 1, 0, true) := ⟨(RX7, TX7, 4), "PunchedSouls$Reader", rfl, by decide, zGW_at 536 (by decide +kernel) (by decide +kernel), Or.inl rfl, rfl, by decide +kernel, by decide +kernel, by decide +kernel, by decide +kernel⟩
theorem fe_X7_24 : zFe RX7 (24, 8, 2, 1, true) := ⟨(RX7, TX7, 4), "PunchedSouls$Reader", rfl, by decide, zGW_at 537 (by decide +kernel) (by decide +kernel), Or.inl rfl, rfl, by decide +kernel, by decide +kernel, by decide +kernel, by decide +kernel⟩
theorem fe_X11_152 : zFe RX11 (152, 8, 2, 1, true) := ⟨(RX7, TX7, 4), "PunchedSouls$Reader", rfl, by decide, zGW_at 538 (by decide +kernel) (by decide +kernel), Or.inl rfl, rfl, by decide +kernel, by decide +kernel, by decide +kernel, by decide +kernel⟩
theorem fe_X7_32 : zFe RX7 (32, 8, 3, 0, false) := ⟨(RX7, TX7, 4), "PunchedSouls$Reader", rfl, by decide, zGW_at 539 (by decide +kernel) (by decide +kernel), Or.inl rfl, rfl, by decide +kernel, by decide +kernel, by decide +kernel, by decide +kernel⟩
theorem fe_X11_149 : zFe RX11 (149, 8, 3, 0, false) := ⟨(RX7, TX7, 4), "PunchedSouls$Reader", rfl, by decide, zGW_at 540 (by decide +kernel) (by decide +kernel), Or.inl rfl, rfl, by decide +kernel, by decide +kernel, by decide +kernel, by decide +kernel⟩
theorem fe_X12_7 : zFe RX12 (7, 13, 0, 0, false) := ⟨(RX12, TX12, 70), "PunchedSoulsModel", rfl, by decide, zGW_at 1122 (by decide +kernel) (by decide +kernel), Or.inl rfl, rfl, by decide +kernel, by decide +kernel, by decide +kernel, by decide +kernel⟩
theorem fe_X12_13 : zFe RX12 (13, 13, 1, 0, false) := ⟨(RX12, TX12, 70), "PunchedSoulsModel", rfl, by decide, zGW_at 1123 (by decide +kernel) (by decide +kernel), Or.inl rfl, rfl, by decide +kernel, by decide +kernel, by decide +kernel, by decide +kernel⟩
theorem fe_X12_16 : zFe RX12 (16, 13, 2, 0, false) := ⟨(RX12, TX12, 70), "PunchedSoulsModel", rfl, by decide, zGW_at 1124 (by decide +kernel) (by decide +kernel), Or.inl rfl, rfl, by decide +kernel, by decide +kernel, by decide +kernel, by decide +kernel⟩
theorem fe_X12_19 : zFe RX12 (19, 13, 3, 1, true) := ⟨(RX12, TX12, 70), "PunchedSoulsModel", rfl, by decide, zGW_at 1125 (by decide +kernel) (by decide +kernel), Or.inl rfl, rfl, by decide +kernel, by decide +kernel, by decide +kernel, by decide +kernel⟩
theorem fe_X12_23 : zFe RX12 (23, 13, 4, 1, true) := ⟨(RX12, TX12, 70), "PunchedSoulsModel", rfl, by decide, zGW_at 1126 (by decide +kernel) (by decide +kernel), Or.inl rfl, rfl, by decide +kernel, by decide +kernel, by decide +kernel, by decide +kernel⟩
theorem fe_X12_26 : zFe RX12 (26, 13, 5, 1, true) := ⟨(RX12, TX12, 70), "PunchedSoulsModel", rfl, by decide, zGW_at 1127 (by decide +kernel) (by decide +kernel), Or.inl rfl, rfl, by decide +kernel, by decide +kernel, by decide +kernel, by decide +kernel⟩
theorem fe_X12_29 : zFe RX12 (29, 13, 6, 1, true) := ⟨(RX12, TX12, 70), "PunchedSoulsModel", rfl, by decide, zGW_at 1128 (by decide +kernel) (by decide +kernel), Or.inl rfl, rfl, by decide +kernel, by decide +kernel, by decide +kernel, by decide +kernel⟩
theorem fe_X12_32 : zFe RX12 (32, 13, 7, 1, true) := ⟨(RX12, TX12, 70), "PunchedSoulsModel", rfl, by decide, zGW_at 1129 (by decide +kernel) (by decide +kernel), Or.inl rfl, rfl, by decide +kernel, by decide +kernel, by decide +kernel, by decide +kernel⟩
theorem fe_X12_35 : zFe RX12 (35, 13, 8, 0, false) := ⟨(RX12, TX12, 70), "PunchedSoulsModel", rfl, by decide, zGW_at 1130 (by decide +kernel) (by decide +kernel), Or.inl rfl, rfl, by decide +kernel, by decide +kernel, by decide +kernel, by decide +kernel⟩
theorem fe_X12_38 : zFe RX12 (38, 13, 9, 0, false) := ⟨(RX12, TX12, 70), "PunchedSoulsModel", rfl, by decide, zGW_at 1131 (by decide +kernel) (by decide +kernel), Or.inl rfl, rfl, by decide +kernel, by decide +kernel, by decide +kernel, by decide +kernel⟩
theorem fe_X12_41 : zFe RX12 (41, 13, 10, 0, false) := ⟨(RX12, TX12, 70), "PunchedSoulsModel", rfl, by decide, zGW_at 1132 (by decide +kernel) (by decide +kernel), Or.inl rfl, rfl, by decide +kernel, by decide +kernel, by decide +kernel, by decide +kernel⟩
theorem fe_X12_44 : zFe RX12 (44, 13, 11, 0, false) := ⟨(RX12, TX12, 70), "PunchedSoulsModel", rfl, by decide, zGW_at 1133 (by decide +kernel) (by decide +kernel), Or.inl rfl, rfl, by decide +kernel, by decide +kernel, by decide +kernel, by decide +kernel⟩
theorem fe_X12_47 : zFe RX12 (47, 13, 12, 0, false) := ⟨(RX12, TX12, 70), "PunchedSoulsModel", rfl, by decide, zGW_at 1134 (by decide +kernel) (by decide +kernel), Or.inl rfl, rfl, by decide +kernel, by decide +kernel, by decide +kernel, by decide +kernel⟩
theorem fe_X12_50 : zFe RX12 (50, 13, 13, 1, true) := ⟨(RX12, TX12, 70), "PunchedSoulsModel", rfl, by decide, zGW_at 1135 (by decide +kernel) (by decide +kernel), Or.inl rfl, rfl, by decide +kernel, by decide +kernel, by decide +kernel, by decide +kernel⟩
theorem fe_X12_53 : zFe RX12 (53, 13, 14, 1, true) := ⟨(RX12, TX12, 70), "PunchedSoulsModel", rfl, by decide, zGW_at 1136 (by decide +kernel) (by decide +kernel), Or.inl rfl, rfl, by decide +kernel, by decide +kernel, by decide +kernel, by decide +kernel⟩
theorem fe_X12_56 : zFe RX12 (56, 13, 15, 1, true) := ⟨(RX12, TX12, 70), "PunchedSoulsModel", rfl, by decide, zGW_at 1137 (by decide +kernel) (by decide +kernel), Or.inl rfl, rfl, by decide +kernel, by decide +kernel, by decide +kernel, by decide +kernel⟩
theorem fe_X12_59 : zFe RX12 (59, 13, 16, 1, true) := ⟨(RX12, TX12, 70), "PunchedSoulsModel", rfl, by decide, zGW_at 1138 (by decide +kernel) (by decide +kernel), Or.inl rfl, rfl, by decide +kernel, by decide +kernel, by decide +kernel, by decide +kernel⟩
theorem fe_X12_62 : zFe RX12 (62, 13, 17, 1, true) := ⟨(RX12, TX12, 70), "PunchedSoulsModel", rfl, by decide, zGW_at 1139 (by decide +kernel) (by decide +kernel), Or.inl rfl, rfl, by decide +kernel, by decide +kernel, by decide +kernel, by decide +kernel⟩
theorem fe_X12_65 : zFe RX12 (65, 13, 18, 1, true) := ⟨(RX12, TX12, 70), "PunchedSoulsModel", rfl, by decide, zGW_at 1140 (by decide +kernel) (by decide +kernel), Or.inl rfl, rfl, by decide +kernel, by decide +kernel, by decide +kernel, by decide +kernel⟩
theorem fe_X12_68 : zFe RX12 (68, 13, 19, 1, true) := ⟨(RX12, TX12, 70), "PunchedSoulsModel", rfl, by decide, zGW_at 1141 (by decide +kernel) (by decide +kernel), Or.inl rfl, rfl, by decide +kernel, by decide +kernel, by decide +kernel, by decide +kernel⟩
theorem fe_X12_71 : zFe RX12 (71, 13, 20, 1, true) := ⟨(RX12, TX12, 70), "PunchedSoulsModel", rfl, by decide, zGW_at 1142 (by decide +kernel) (by decide +kernel), Or.inl rfl, rfl, by decide +kernel, by decide +kernel, by decide +kernel, by decide +kernel⟩
theorem fe_X12_74 : zFe RX12 (74, 13, 21, 0, false) := ⟨(RX12, TX12, 70), "PunchedSoulsModel", rfl, by decide, zGW_at 1143 (by decide +kernel) (by decide +kernel), Or.inl rfl, rfl, by decide +kernel, by decide +kernel, by decide +kernel, by decide +kernel⟩
theorem fe_X12_77 : zFe RX12 (77, 13, 22, 0, false) := ⟨(RX12, TX12, 70), "PunchedSoulsModel", rfl, by decide, zGW_at 1144 (by decide +kernel) (by decide +kernel), Or.inl rfl, rfl, by decide +kernel, by decide +kernel, by decide +kernel, by decide +kernel⟩
theorem fe_X12_80 : zFe RX12 (80, 13, 23, 0, false) := ⟨(RX12, TX12, 70), "PunchedSoulsModel", rfl, by decide, zGW_at 1145 (by decide +kernel) (by decide +kernel), Or.inl rfl, rfl, by decide +kernel, by decide +kernel, by decide +kernel, by decide +kernel⟩
theorem fe_X12_83 : zFe RX12 (83, 13, 24, 1, true) := ⟨(RX12, TX12, 70), "PunchedSoulsModel", rfl, by decide, zGW_at 1146 (by decide +kernel) (by decide +kernel), Or.inl rfl, rfl, by decide +kernel, by decide +kernel, by decide +kernel, by decide +kernel⟩
theorem fe_X12_86 : zFe RX12 (86, 13, 25, 1, true) := ⟨(RX12, TX12, 70), "PunchedSoulsModel", rfl, by decide, zGW_at 1147 (by decide +kernel) (by decide +kernel), Or.inl rfl, rfl, by decide +kernel, by decide +kernel, by decide +kernel, by decide +kernel⟩
theorem fe_X12_90 : zFe RX12 (90, 13, 26, 1, true) := ⟨(RX12, TX12, 70), "PunchedSoulsModel", rfl, by decide, zGW_at 1148 (by decide +kernel) (by decide +kernel), Or.inl rfl, rfl, by decide +kernel, by decide +kernel, by decide +kernel, by decide +kernel⟩
theorem fe_X12_93 : zFe RX12 (93, 13, 27, 0, false) := ⟨(RX12, TX12, 70), "PunchedSoulsModel", rfl, by decide, zGW_at 1149 (by decide +kernel) (by decide +kernel), Or.inl rfl, rfl, by decide +kernel, by decide +kernel, by decide +kernel, by decide +kernel⟩
theorem fe_X12_96 : zFe RX12 (96, 13, 28, 0, false) := ⟨(RX12, TX12, 70), "PunchedSoulsModel", rfl, by decide, zGW_at 1150 (by decide +kernel) (by decide +kernel), Or.inl rfl, rfl, by decide +kernel, by decide +kernel, by decide +kernel, by decide +kernel⟩
theorem fe_X12_99 : zFe RX12 (99, 13, 29, 1, true) := ⟨(RX12, TX12, 70), "PunchedSoulsModel", rfl, by decide, zGW_at 1151 (by decide +kernel) (by decide +kernel), Or.inl rfl, rfl, by decide +kernel, by decide +kernel, by decide +kernel, by decide +kernel⟩
theorem fe_X12_102 : zFe RX12 (102, 13, 30, 1, true) := ⟨(RX12, TX12, 70), "PunchedSoulsModel", rfl, by decide, zGW_at 1152 (by decide +kernel) (by decide +kernel), Or.inl rfl, rfl, by decide +kernel, by decide +kernel, by decide +kernel, by decide +kernel⟩
theorem fe_X12_105 : zFe RX12 (105, 13, 31, 1, true) := ⟨(RX12, TX12, 70), "PunchedSoulsModel", rfl, by decide, zGW_at 1153 (by decide +kernel) (by decide +kernel), Or.inl rfl, rfl, by decide +kernel, by decide +kernel, by decide +kernel, by decide +kernel⟩
theorem fe_X12_108 : zFe RX12 (108, 13, 32, 1, true) := ⟨(RX12, TX12, 70), "PunchedSoulsModel", rfl, by decide, zGW_at 1154 (by decide +kernel) (by decide +kernel), Or.inl rfl, rfl, by decide +kernel, by decide +kernel, by decide +kernel, by decide +kernel⟩
theorem fe_X12_111 : zFe RX12 (111, 13, 33, 1, true) := ⟨(RX12, TX12, 70), "PunchedSoulsModel", rfl, by decide, zGW_at 1155 (by decide +kernel) (by decide +kernel), Or.inl rfl, rfl, by decide +kernel, by decide +kernel, by decide +kernel, by decide +kernel⟩
theorem fe_X12_114 : zFe RX12 (114, 13, 34, 0, false) := ⟨(RX12, TX12, 70), "PunchedSoulsModel", rfl, by decide, zGW_at 1156 (by decide +kernel) (by decide +kernel), Or.inl rfl, rfl, by decide +kernel, by decide +kernel, by decide +kernel, by decide +kernel⟩
theorem fe_X12_117 : zFe RX12 (117, 13, 35, 1, true) := ⟨(RX12, TX12, 70), "PunchedSoulsModel", rfl, by decide, zGW_at 1157 (by decide +kernel) (by decide +kernel), Or.inl rfl, rfl, by decide +kernel, by decide +kernel, by decide +kernel, by decide +kernel⟩
theorem fe_X12_120 : zFe RX12 (120, 13, 36, 1, true) := ⟨(RX12, TX12, 70), "PunchedSoulsModel", rfl, by decide, zGW_at 1158 (by decide +kernel) (by decide +kernel), Or.inl rfl, rfl, by decide +kernel, by decide +kernel, by decide +kernel, by decide +kernel⟩
theorem fe_X12_123 : zFe RX12 (123, 13, 37, 1, true) := ⟨(RX12, TX12, 70), "PunchedSoulsModel", rfl, by decide, zGW_at 1159 (by decide +kernel) (by decide +kernel), Or.inl rfl, rfl, by decide +kernel, by decide +kernel, by decide +kernel, by decide +kernel⟩
theorem fe_X12_126 : zFe RX12 (126, 13, 38, 0, false) := ⟨(RX12, TX12, 70), "PunchedSoulsModel", rfl, by decide, zGW_at 1160 (by decide +kernel) (by decide +kernel), Or.inl rfl, rfl, by decide +kernel, by decide +kernel, by decide +kernel, by decide +kernel⟩
theorem fe_X12_129 : zFe RX12 (129, 13, 39, 0, false) := ⟨(RX12, TX12, 70), "PunchedSoulsModel", rfl, by decide, zGW_at 1161 (by decide +kernel) (by decide +kernel), Or.inl rfl, rfl, by decide +kernel, by decide +kernel, by decide +kernel, by decide +kernel⟩
theorem fe_X12_132 : zFe RX12 (132, 13, 40, 1, true) := ⟨(RX12, TX12, 70), "PunchedSoulsModel", rfl, by decide, zGW_at 1162 (by decide +kernel) (by decide +kernel), Or.inl rfl, rfl, by decide +kernel, by decide +kernel, by decide +kernel, by decide +kernel⟩
theorem fe_X12_135 : zFe RX12 (135, 13, 41, 1, true) := ⟨(RX12, TX12, 70), "PunchedSoulsModel", rfl, by decide, zGW_at 1163 (by decide +kernel) (by decide +kernel), Or.inl rfl, rfl, by decide +kernel, by decide +kernel, by decide +kernel, by decide +kernel⟩
theorem fe_X12_138 : zFe RX12 (138, 13, 42, 1, true) := ⟨(RX12, TX12, 70), "PunchedSoulsModel", rfl, by decide, zGW_at 1164 (by decide +kernel) (by decide +kernel), Or.inl rfl, rfl, by decide +kernel, by decide +kernel, by decide +kernel, by decide +kernel⟩
theorem fe_X12_141 : zFe RX12 (141, 13, 43, 1, true) := ⟨(RX12, TX12, 70), "PunchedSoulsModel", rfl, by decide, zGW_at 1165 (by decide +kernel) (by decide +kernel), Or.inl rfl, rfl, by decide +kernel, by decide +kernel, by decide +kernel, by decide +kernel⟩
theorem fe_X12_144 : zFe RX12 (144, 13, 44, 2, false) := ⟨(RX12, TX12, 70), "PunchedSoulsModel", rfl, by decide, zGW_at 1166 (by decide +kernel) (by decide +kernel), Or.inl rfl, rfl, by decide +kernel, by decide +kernel, by decide +kernel, by decide +kernel⟩
theorem fe_X12_148 : zFe RX12 (148, 13, 45, 0, false) := ⟨(RX12, TX12, 70), "PunchedSoulsModel", rfl, by decide, zGW_at 1167 (by decide +kernel) (by decide +kernel), Or.inl rfl, rfl, by decide +kernel, by decide +kernel, by decide +kernel, by decide +kernel⟩
theorem fe_X12_151 : zFe RX12 (151, 13, 46, 0, false) := ⟨(RX12, TX12, 70), "PunchedSoulsModel", rfl, by decide, zGW_at 1168 (by decide +kernel) (by decide +kernel), Or.inl rfl, rfl, by decide +kernel, by decide +kernel, by decide +kernel, by decide +kernel⟩
theorem fe_X12_154 : zFe RX12 (154, 13, 47, 0, false) := ⟨(RX12, TX12, 70), "PunchedSoulsModel", rfl, by decide, zGW_at 1169 (by decide +kernel) (by decide +kernel), Or.inl rfl, rfl, by decide +kernel, by decide +kernel, by decide +kernel, by decide +kernel⟩
theorem fe_X12_157 : zFe RX12 (157, 13, 48, 0, false) := ⟨(RX12, TX12, 70), "PunchedSoulsModel", rfl, by decide, zGW_at 1170 (by decide +kernel) (by decide +kernel), Or.inl rfl, rfl, by decide +kernel, by decide +kernel, by decide +kernel, by decide +kernel⟩
theorem fe_X12_160 : zFe RX12 (160, 13, 49, 0, false) := ⟨(RX12, TX12, 70), "PunchedSoulsModel", rfl, by decide, zGW_at 1171 (by decide +kernel) (by decide +kernel), Or.inl rfl, rfl, by decide +kernel, by decide +kernel, by decide +kernel, by decide +kernel⟩
theorem fe_X12_163 : zFe RX12 (163, 13, 50, 0, false) := ⟨(RX12, TX12, 70), "PunchedSoulsModel", rfl, by decide, zGW_at 1172 (by decide +kernel) (by decide +kernel), Or.inl rfl, rfl, by decide +kernel, by decide +kernel, by decide +kernel, by decide +kernel⟩
theorem fe_X12_166 : zFe RX12 (166, 13, 51, 0, false) := ⟨(RX12, TX12, 70), "PunchedSoulsModel", rfl, by decide, zGW_at 1173 (by decide +kernel) (by decide +kernel), Or.inl rfl, rfl, by decide +kernel, by decide +kernel, by decide +kernel, by decide +kernel⟩
theorem fe_X12_169 : zFe RX12 (169, 13, 52, 1, true) := ⟨(RX12, TX12, 70), "PunchedSoulsModel", rfl, by decide, zGW_at 1174 (by decide +kernel) (by decide +kernel), Or.inl rfl, rfl, by decide +kernel, by decide +kernel, by decide +kernel, by decide +kernel⟩
theorem fe_X12_172 : zFe RX12 (172, 13, 53, 1, true) := ⟨(RX12, TX12, 70), "PunchedSoulsModel", rfl, by decide, zGW_at 1175 (by decide +kernel) (by decide +kernel), Or.inl rfl, rfl, by decide +kernel, by decide +kernel, by decide +kernel, by decide +kernel⟩
theorem fe_X12_175 : zFe RX12 (175, 13, 54, 1, true) := ⟨(RX12, TX12, 70), "PunchedSoulsModel", rfl, by decide, zGW_at 1176 (by decide +kernel) (by decide +kernel), Or.inl rfl, rfl, by decide +kernel, by decide +kernel, by decide +kernel, by decide +kernel⟩
theorem fe_X12_178 : zFe RX12 (178, 13, 55, 1, true) := ⟨(RX12, TX12, 70), "PunchedSoulsModel", rfl, by decide, zGW_at 1177 (by decide +kernel) (by decide +kernel), Or.inl rfl, rfl, by decide +kernel, by decide +kernel, by decide +kernel, by decide +kernel⟩
theorem fe_X12_181 : zFe RX12 (181, 13, 56, 1, true) := ⟨(RX12, TX12, 70), "PunchedSoulsModel", rfl, by decide, zGW_at 1178 (by decide +kernel) (by decide +kernel), Or.inl rfl, rfl, by decide +kernel, by decide +kernel, by decide +kernel, by decide +kernel⟩
theorem fe_X12_184 : zFe RX12 (184, 13, 57, 1, true) := ⟨(RX12, TX12, 70), "PunchedSoulsModel", rfl, by decide, zGW_at 1179 (by decide +kernel) (by decide +kernel), Or.inl rfl, rfl, by decide +kernel, by decide +kernel, by decide +kernel, by decide +kernel⟩
theorem fe_X12_187 : zFe RX12 (187, 13, 58, 1, true) := ⟨(RX12, TX12, 70), "PunchedSoulsModel", rfl, by decide, zGW_at 1180 (by decide +kernel) (by decide +kernel), Or.inl rfl, rfl, by decide +kernel, by decide +kernel, by decide +kernel, by decide +kernel⟩
theorem fe_X12_190 : zFe RX12 (190, 13, 59, 1, true) := ⟨(RX12, TX12, 70), "PunchedSoulsModel", rfl, by decide, zGW_at 1181 (by decide +kernel) (by decide +kernel), Or.inl rfl, rfl, by decide +kernel, by decide +kernel, by decide +kernel, by decide +kernel⟩
theorem fe_X12_193 : zFe RX12 (193, 13, 60, 1, true) := ⟨(RX12, TX12, 70), "PunchedSoulsModel", rfl, by decide, zGW_at 1182 (by decide +kernel) (by decide +kernel), Or.inl rfl, rfl, by decide +kernel, by decide +kernel, by decide +kernel, by decide +kernel⟩
theorem fe_X12_196 : zFe RX12 (196, 13, 61, 1, true) := ⟨(RX12, TX12, 70), "PunchedSoulsModel", rfl, by decide, zGW_at 1183 (by decide +kernel) (by decide +kernel), Or.inl rfl, rfl, by decide +kernel, by decide +kernel, by decide +kernel, by decide +kernel⟩
theorem fe_X12_199 : zFe RX12 (199, 13, 62, 1, true) := ⟨(RX12, TX12, 70), "PunchedSoulsModel", rfl, by decide, zGW_at 1184 (by decide +kernel) (by decide +kernel), Or.inl rfl, rfl, by decide +kernel, by decide +kernel, by decide +kernel, by decide +kernel⟩
theorem fe_X12_202 : zFe RX12 (202, 13, 63, 1, true) := ⟨(RX12, TX12, 70), "PunchedSoulsModel", rfl, by decide, zGW_at 1185 (by decide +kernel) (by decide +kernel), Or.inl rfl, rfl, by decide +kernel, by decide +kernel, by decide +kernel, by decide +kernel⟩
theorem fe_X12_205 : zFe RX12 (205, 13, 64, 0, false) := ⟨(RX12, TX12, 70), "PunchedSoulsModel", rfl, by decide, zGW_at 1186 (by decide +kernel) (by decide +kernel), Or.inl rfl, rfl, by decide +kernel, by decide +kernel, by decide +kernel, by decide +kernel⟩
theorem fe_X12_208 : zFe RX12 (208, 13, 65, 1, true) := ⟨(RX12, TX12, 70), "PunchedSoulsModel", rfl, by decide, zGW_at 1187 (by decide +kernel) (by decide +kernel), Or.inl rfl, rfl, by decide +kernel, by decide +kernel, by decide +kernel, by decide +kernel⟩
theorem fe_X12_211 : zFe RX12 (211, 13, 66, 1, true) := ⟨(RX12, TX12, 70), "PunchedSoulsModel", rfl, by decide, zGW_at 1188 (by decide +kernel) (by decide +kernel), Or.inl rfl, rfl, by decide +kernel, by decide +kernel, by decide +kernel, by decide +kernel⟩
theorem fe_X12_214 : zFe RX12 (214, 13, 67, 1, true) := ⟨(RX12, TX12, 70), "PunchedSoulsModel", rfl, by decide, zGW_at 1189 (by decide +kernel) (by decide +kernel), Or.inl rfl, rfl, by decide +kernel, by decide +kernel, by decide +kernel, by decide +kernel⟩
theorem fe_X12_217 : zFe RX12 (217, 13, 68, 1, true) := ⟨(RX12, TX12, 70), "PunchedSoulsModel", rfl, by decide, zGW_at 1190 (by decide +kernel) (by decide +kernel), Or.inl rfl, rfl, by decide +kernel, by decide +kernel, by decide +kernel, by decide +kernel⟩
theorem fe_X12_221 : zFe RX12 (221, 13, 69, 1, true) := ⟨(RX12, TX12, 70), "PunchedSoulsModel", rfl, by decide, zGW_at 1191 (by decide +kernel) (by decide +kernel), Or.inl rfl, rfl, by decide +kernel, by decide +kernel, by decide +kernel, by decide +kernel⟩
def lkX8 : zLk := ([(9, 9, 0, 1, true), (15, 9, 1, 1, true), (18, 9, 2, 1, true), (21, 9, 3, 0, false)], [], [])
theorem lkX8_ok : zlkOK RX8 lkX8 := ⟨List.forall_mem_cons.mpr ⟨fe_X8_9, List.forall_mem_cons.mpr ⟨fe_X8_15, List.forall_mem_cons.mpr ⟨fe_X8_18, List.forall_mem_cons.mpr ⟨fe_X8_21, fun _ h => absurd h List.not_mem_nil⟩⟩⟩⟩, fun _ h => absurd h List.not_mem_nil, fun _ h => absurd h List.not_mem_nil⟩
def liX8 : zLk := ([(9, 9, 0, 1, true), (15, 9, 1, 1, true), (18, 9, 2, 1, true), (21, 9, 3, 0, false)], [], [])
theorem liX8_ok : zlkOK RX8 liX8 := ⟨List.forall_mem_cons.mpr ⟨fe_X8_9, List.forall_mem_cons.mpr ⟨fe_X8_15, List.forall_mem_cons.mpr ⟨fe_X8_18, List.forall_mem_cons.mpr ⟨fe_X8_21, fun _ h => absurd h List.not_mem_nil⟩⟩⟩⟩, fun _ h => absurd h List.not_mem_nil, fun _ h => absurd h List.not_mem_nil⟩
def lkX11 : zLk := ([(227, 9, 0, 1, true), (230, 9, 1, 1, true), (327, 9, 2, 1, true), (206, 9, 3, 0, false), (80, 2, 0, 1, true), (110, 2, 1, 1, true), (84, 2, 2, 1, true), (131, 2, 3, 1, true), (65, 2, 4, 0, false), (107, 2, 6, 0, false), (156, 2, 7, 1, false), (202, 2, 8, 1, true), (224, 2, 9, 1, true), (236, 2, 10, 1, true), (12, 12, 0, 1, true), (18, 12, 1, 1, true), (21, 12, 2, 1, true), (249, 12, 3, 2, false), (24, 12, 4, 1, true), (134, 12, 5, 0, false), (137, 12, 6, 0, false), (31, 12, 7, 1, true), (35, 12, 8, 1, true), (39, 12, 9, 1, true), (42, 12, 10, 1, true), (45, 12, 11, 1, true), (48, 12, 12, 1, true), (93, 3, 1, 0, true), (152, 8, 2, 1, true), (149, 8, 3, 0, false)], [], [(218, -9223372036854775808)])
theorem lkX11_ok : zlkOK RX11 lkX11 := ⟨List.forall_mem_cons.mpr ⟨fe_X11_227, List.forall_mem_cons.mpr ⟨fe_X11_230, List.forall_mem_cons.mpr ⟨fe_X11_327, List.forall_mem_cons.mpr ⟨fe_X11_206, List.forall_mem_cons.mpr ⟨fe_X11_80, List.forall_mem_cons.mpr ⟨fe_X11_110, List.forall_mem_cons.mpr ⟨fe_X11_84, List.forall_mem_cons.mpr ⟨fe_X11_131, List.forall_mem_cons.mpr ⟨fe_X11_65, List.forall_mem_cons.mpr ⟨fe_X11_107, List.forall_mem_cons.mpr ⟨fe_X11_156, List.forall_mem_cons.mpr ⟨fe_X11_202, List.forall_mem_cons.mpr ⟨fe_X11_224, List.forall_mem_cons.mpr ⟨fe_X11_236, List.forall_mem_cons.mpr ⟨fe_X11_12, List.forall_mem_cons.mpr ⟨fe_X11_18, List.forall_mem_cons.mpr ⟨fe_X11_21, List.forall_mem_cons.mpr ⟨fe_X11_249, List.forall_mem_cons.mpr ⟨fe_X11_24, List.forall_mem_cons.mpr ⟨fe_X11_134, List.forall_mem_cons.mpr ⟨fe_X11_137, List.forall_mem_cons.mpr ⟨fe_X11_31, List.forall_mem_cons.mpr ⟨fe_X11_35, List.forall_mem_cons.mpr ⟨fe_X11_39, List.forall_mem_cons.mpr ⟨fe_X11_42, List.forall_mem_cons.mpr ⟨fe_X11_45, List.forall_mem_cons.mpr ⟨fe_X11_48, List.forall_mem_cons.mpr ⟨fe_X11_93, List.forall_mem_cons.mpr ⟨fe_X11_152, List.forall_mem_cons.mpr ⟨fe_X11_149, fun _ h => absurd h List.not_mem_nil⟩⟩⟩⟩⟩⟩⟩⟩⟩⟩⟩⟩⟩⟩⟩⟩⟩⟩⟩⟩⟩⟩⟩⟩⟩⟩⟩⟩⟩⟩, fun _ h => absurd h List.not_mem_nil, List.forall_mem_cons.mpr ⟨zGW_at 835 (by decide +kernel) (by decide +kernel), fun _ h => absurd h List.not_mem_nil⟩⟩
def liX11 : zLk := ([(12, 12, 0, 1, true), (18, 12, 1, 1, true), (21, 12, 2, 1, true), (249, 12, 3, 2, false), (24, 12, 4, 1, true), (134, 12, 5, 0, false), (137, 12, 6, 0, false), (31, 12, 7, 1, true), (35, 12, 8, 1, true), (39, 12, 9, 1, true), (42, 12, 10, 1, true), (45, 12, 11, 1, true), (48, 12, 12, 1, true)], [], [(218, -9223372036854775808)])
theorem liX11_ok : zlkOK RX11 liX11 := ⟨List.forall_mem_cons.mpr ⟨fe_X11_12, List.forall_mem_cons.mpr ⟨fe_X11_18, List.forall_mem_cons.mpr ⟨fe_X11_21, List.forall_mem_cons.mpr ⟨fe_X11_249, List.forall_mem_cons.mpr ⟨fe_X11_24, List.forall_mem_cons.mpr ⟨fe_X11_134, List.forall_mem_cons.mpr ⟨fe_X11_137, List.forall_mem_cons.mpr ⟨fe_X11_31, List.forall_mem_cons.mpr ⟨fe_X11_35, List.forall_mem_cons.mpr ⟨fe_X11_39, List.forall_mem_cons.mpr ⟨fe_X11_42, List.forall_mem_cons.mpr ⟨fe_X11_45, List.forall_mem_cons.mpr ⟨fe_X11_48, fun _ h => absurd h List.not_mem_nil⟩⟩⟩⟩⟩⟩⟩⟩⟩⟩⟩⟩⟩, fun _ h => absurd h List.not_mem_nil, List.forall_mem_cons.mpr ⟨zGW_at 835 (by decide +kernel) (by decide +kernel), fun _ h => absurd h List.not_mem_nil⟩⟩
def lkX1 : zLk := ([(11, 2, 0, 1, true), (17, 2, 1, 1, true), (21, 2, 2, 1, true), (24, 2, 3, 1, true), (56, 2, 4, 0, false), (60, 2, 5, 0, false), (63, 2, 6, 0, false), (66, 2, 7, 1, false), (32, 2, 8, 1, true), (36, 2, 9, 1, true), (39, 2, 10, 1, true), (95, 11, 4, 0, false)], [], [])
theorem lkX1_ok : zlkOK RX1 lkX1 := ⟨List.forall_mem_cons.mpr ⟨fe_X1_11, List.forall_mem_cons.mpr ⟨fe_X1_17, List.forall_mem_cons.mpr ⟨fe_X1_21, List.forall_mem_cons.mpr ⟨fe_X1_24, List.forall_mem_cons.mpr ⟨fe_X1_56, List.forall_mem_cons.mpr ⟨fe_X1_60, List.forall_mem_cons.mpr ⟨fe_X1_63, List.forall_mem_cons.mpr ⟨fe_X1_66, List.forall_mem_cons.mpr ⟨fe_X1_32, List.forall_mem_cons.mpr ⟨fe_X1_36, List.forall_mem_cons.mpr ⟨fe_X1_39, List.forall_mem_cons.mpr ⟨fe_X1_95, fun _ h => absurd h List.not_mem_nil⟩⟩⟩⟩⟩⟩⟩⟩⟩⟩⟩⟩, fun _ h => absurd h List.not_mem_nil, fun _ h => absurd h List.not_mem_nil⟩
def liX1 : zLk := ([(11, 2, 0, 1, true), (17, 2, 1, 1, true), (21, 2, 2, 1, true), (24, 2, 3, 1, true), (56, 2, 4, 0, false), (60, 2, 5, 0, false), (63, 2, 6, 0, false), (66, 2, 7, 1, false), (32, 2, 8, 1, true), (36, 2, 9, 1, true), (39, 2, 10, 1, true)], [], [])
theorem liX1_ok : zlkOK RX1 liX1 := ⟨List.forall_mem_cons.mpr ⟨fe_X1_11, List.forall_mem_cons.mpr ⟨fe_X1_17, List.forall_mem_cons.mpr ⟨fe_X1_21, List.forall_mem_cons.mpr ⟨fe_X1_24, List.forall_mem_cons.mpr ⟨fe_X1_56, List.forall_mem_cons.mpr ⟨fe_X1_60, List.forall_mem_cons.mpr ⟨fe_X1_63, List.forall_mem_cons.mpr ⟨fe_X1_66, List.forall_mem_cons.mpr ⟨fe_X1_32, List.forall_mem_cons.mpr ⟨fe_X1_36, List.forall_mem_cons.mpr ⟨fe_X1_39, fun _ h => absurd h List.not_mem_nil⟩⟩⟩⟩⟩⟩⟩⟩⟩⟩⟩, fun _ h => absurd h List.not_mem_nil, fun _ h => absurd h List.not_mem_nil⟩
def lkJ2 : zLk := ([], [(20, 1073741823), (227, 65536)], [])
theorem lkJ2_ok : zlkOK RJ2 lkJ2 := ⟨fun _ h => absurd h List.not_mem_nil, List.forall_mem_cons.mpr ⟨zGW_at 204 (by decide +kernel) (by decide +kernel), List.forall_mem_cons.mpr ⟨zGW_at 667 (by decide +kernel) (by decide +kernel), fun _ h => absurd h List.not_mem_nil⟩⟩, fun _ h => absurd h List.not_mem_nil⟩
def liJ2 : zLk := ([], [(20, 1073741823), (227, 65536)], [])
theorem liJ2_ok : zlkOK RJ2 liJ2 := ⟨fun _ h => absurd h List.not_mem_nil, List.forall_mem_cons.mpr ⟨zGW_at 204 (by decide +kernel) (by decide +kernel), List.forall_mem_cons.mpr ⟨zGW_at 667 (by decide +kernel) (by decide +kernel), fun _ h => absurd h List.not_mem_nil⟩⟩, fun _ h => absurd h List.not_mem_nil⟩
def lkJ5 : zLk := ([(15, 0, 0, 1, false), (22, 0, 1, 3, false), (73, 0, 2, 2, false), (79, 0, 3, 0, false)], [(39, 2147483647)], [])
theorem lkJ5_ok : zlkOK RJ5 lkJ5 := ⟨List.forall_mem_cons.mpr ⟨fe_J5_15, List.forall_mem_cons.mpr ⟨fe_J5_22, List.forall_mem_cons.mpr ⟨fe_J5_73, List.forall_mem_cons.mpr ⟨fe_J5_79, fun _ h => absurd h List.not_mem_nil⟩⟩⟩⟩, List.forall_mem_cons.mpr ⟨zGW_at 923 (by decide +kernel) (by decide +kernel), fun _ h => absurd h List.not_mem_nil⟩, fun _ h => absurd h List.not_mem_nil⟩
def liJ5 : zLk := ([(15, 0, 0, 1, false), (22, 0, 1, 3, false), (73, 0, 2, 2, false), (79, 0, 3, 0, false)], [(39, 2147483647)], [])
theorem liJ5_ok : zlkOK RJ5 liJ5 := ⟨List.forall_mem_cons.mpr ⟨fe_J5_15, List.forall_mem_cons.mpr ⟨fe_J5_22, List.forall_mem_cons.mpr ⟨fe_J5_73, List.forall_mem_cons.mpr ⟨fe_J5_79, fun _ h => absurd h List.not_mem_nil⟩⟩⟩⟩, List.forall_mem_cons.mpr ⟨zGW_at 923 (by decide +kernel) (by decide +kernel), fun _ h => absurd h List.not_mem_nil⟩, fun _ h => absurd h List.not_mem_nil⟩
def lkX2 : zLk := ([(9, 3, 0, 0, true), (15, 3, 1, 0, true)], [], [])
theorem lkX2_ok : zlkOK RX2 lkX2 := ⟨List.forall_mem_cons.mpr ⟨fe_X2_9, List.forall_mem_cons.mpr ⟨fe_X2_15, fun _ h => absurd h List.not_mem_nil⟩⟩, fun _ h => absurd h List.not_mem_nil, fun _ h => absurd h List.not_mem_nil⟩
def liX2 : zLk := ([(9, 3, 0, 0, true), (15, 3, 1, 0, true)], [], [])
theorem liX2_ok : zlkOK RX2 liX2 := ⟨List.forall_mem_cons.mpr ⟨fe_X2_9, List.forall_mem_cons.mpr ⟨fe_X2_15, fun _ h => absurd h List.not_mem_nil⟩⟩, fun _ h => absurd h List.not_mem_nil, fun _ h => absurd h List.not_mem_nil⟩
def lkX3 : zLk := ([(9, 4, 0, 0, true), (15, 4, 1, 0, true)], [], [])
theorem lkX3_ok : zlkOK RX3 lkX3 := ⟨List.forall_mem_cons.mpr ⟨fe_X3_9, List.forall_mem_cons.mpr ⟨fe_X3_15, fun _ h => absurd h List.not_mem_nil⟩⟩, fun _ h => absurd h List.not_mem_nil, fun _ h => absurd h List.not_mem_nil⟩
def liX3 : zLk := ([], [], [])
theorem liX3_ok : zlkOK RX3 liX3 := ⟨fun _ h => absurd h List.not_mem_nil, fun _ h => absurd h List.not_mem_nil, fun _ h => absurd h List.not_mem_nil⟩
def lkX5 : zLk := ([(25, 6, 0, 0, true)], [], [])
theorem lkX5_ok : zlkOK RX5 lkX5 := ⟨List.forall_mem_cons.mpr ⟨fe_X5_25, fun _ h => absurd h List.not_mem_nil⟩, fun _ h => absurd h List.not_mem_nil, fun _ h => absurd h List.not_mem_nil⟩
def liX5 : zLk := ([], [], [])
theorem liX5_ok : zlkOK RX5 liX5 := ⟨fun _ h => absurd h List.not_mem_nil, fun _ h => absurd h List.not_mem_nil, fun _ h => absurd h List.not_mem_nil⟩
def lkX10 : zLk := ([(31, 3, 0, 0, true), (40, 3, 1, 0, true), (7, 11, 0, 1, true), (13, 11, 1, 1, true), (16, 11, 2, 1, true), (19, 11, 3, 0, false)], [], [])
theorem lkX10_ok : zlkOK RX10 lkX10 := ⟨List.forall_mem_cons.mpr ⟨fe_X10_31, List.forall_mem_cons.mpr ⟨fe_X10_40, List.forall_mem_cons.mpr ⟨fe_X10_7, List.forall_mem_cons.mpr ⟨fe_X10_13, List.forall_mem_cons.mpr ⟨fe_X10_16, List.forall_mem_cons.mpr ⟨fe_X10_19, fun _ h => absurd h List.not_mem_nil⟩⟩⟩⟩⟩⟩, fun _ h => absurd h List.not_mem_nil, fun _ h => absurd h List.not_mem_nil⟩
def liX10 : zLk := ([(7, 11, 0, 1, true), (13, 11, 1, 1, true), (16, 11, 2, 1, true), (19, 11, 3, 0, false)], [], [])
theorem liX10_ok : zlkOK RX10 liX10 := ⟨List.forall_mem_cons.mpr ⟨fe_X10_7, List.forall_mem_cons.mpr ⟨fe_X10_13, List.forall_mem_cons.mpr ⟨fe_X10_16, List.forall_mem_cons.mpr ⟨fe_X10_19, fun _ h => absurd h List.not_mem_nil⟩⟩⟩⟩, fun _ h => absurd h List.not_mem_nil, fun _ h => absurd h List.not_mem_nil⟩
def lkX9 : zLk := ([(26, 10, 1, 0, true)], [], [])
theorem lkX9_ok : zlkOK RX9 lkX9 := ⟨List.forall_mem_cons.mpr ⟨fe_X9_26, fun _ h => absurd h List.not_mem_nil⟩, fun _ h => absurd h List.not_mem_nil, fun _ h => absurd h List.not_mem_nil⟩
def liX9 : zLk := ([], [], [])
theorem liX9_ok : zlkOK RX9 liX9 := ⟨fun _ h => absurd h List.not_mem_nil, fun _ h => absurd h List.not_mem_nil, fun _ h => absurd h List.not_mem_nil⟩
def lkJ6 : zLk := ([], [(265, 1431655765), (266, 858993459), (267, 252645135)], [])
theorem lkJ6_ok : zlkOK RJ6 lkJ6 := ⟨fun _ h => absurd h List.not_mem_nil, List.forall_mem_cons.mpr ⟨zGW_at 405 (by decide +kernel) (by decide +kernel), List.forall_mem_cons.mpr ⟨zGW_at 406 (by decide +kernel) (by decide +kernel), List.forall_mem_cons.mpr ⟨zGW_at 407 (by decide +kernel) (by decide +kernel), fun _ h => absurd h List.not_mem_nil⟩⟩⟩, fun _ h => absurd h List.not_mem_nil⟩
def liJ6 : zLk := ([], [(265, 1431655765), (266, 858993459), (267, 252645135)], [])
theorem liJ6_ok : zlkOK RJ6 liJ6 := ⟨fun _ h => absurd h List.not_mem_nil, List.forall_mem_cons.mpr ⟨zGW_at 405 (by decide +kernel) (by decide +kernel), List.forall_mem_cons.mpr ⟨zGW_at 406 (by decide +kernel) (by decide +kernel), List.forall_mem_cons.mpr ⟨zGW_at 407 (by decide +kernel) (by decide +kernel), fun _ h => absurd h List.not_mem_nil⟩⟩⟩, fun _ h => absurd h List.not_mem_nil⟩
def lkX7 : zLk := ([(56, 11, 4, 0, false), (9, 8, 0, 1, true), (15, 8, 1, 0, true), (24, 8, 2, 1, true), (32, 8, 3, 0, false)], [], [])
theorem lkX7_ok : zlkOK RX7 lkX7 := ⟨List.forall_mem_cons.mpr ⟨fe_X7_56, List.forall_mem_cons.mpr ⟨fe_X7_9, List.forall_mem_cons.mpr ⟨fe_X7_15, List.forall_mem_cons.mpr ⟨fe_X7_24, List.forall_mem_cons.mpr ⟨fe_X7_32, fun _ h => absurd h List.not_mem_nil⟩⟩⟩⟩⟩, fun _ h => absurd h List.not_mem_nil, fun _ h => absurd h List.not_mem_nil⟩
def liX7 : zLk := ([(9, 8, 0, 1, true), (15, 8, 1, 0, true), (24, 8, 2, 1, true), (32, 8, 3, 0, false)], [], [])
theorem liX7_ok : zlkOK RX7 liX7 := ⟨List.forall_mem_cons.mpr ⟨fe_X7_9, List.forall_mem_cons.mpr ⟨fe_X7_15, List.forall_mem_cons.mpr ⟨fe_X7_24, List.forall_mem_cons.mpr ⟨fe_X7_32, fun _ h => absurd h List.not_mem_nil⟩⟩⟩⟩, fun _ h => absurd h List.not_mem_nil, fun _ h => absurd h List.not_mem_nil⟩
def lkJ11 : zLk := ([], [(110, 55232), (76, 56320)], [])
theorem lkJ11_ok : zlkOK RJ11 lkJ11 := ⟨fun _ h => absurd h List.not_mem_nil, List.forall_mem_cons.mpr ⟨zGW_at 692 (by decide +kernel) (by decide +kernel), List.forall_mem_cons.mpr ⟨zGW_at 696 (by decide +kernel) (by decide +kernel), fun _ h => absurd h List.not_mem_nil⟩⟩, fun _ h => absurd h List.not_mem_nil⟩
def liJ11 : zLk := ([], [(110, 55232), (76, 56320)], [])
theorem liJ11_ok : zlkOK RJ11 liJ11 := ⟨fun _ h => absurd h List.not_mem_nil, List.forall_mem_cons.mpr ⟨zGW_at 692 (by decide +kernel) (by decide +kernel), List.forall_mem_cons.mpr ⟨zGW_at 696 (by decide +kernel) (by decide +kernel), fun _ h => absurd h List.not_mem_nil⟩⟩, fun _ h => absurd h List.not_mem_nil⟩
def lkJ8 : zLk := ([], [(200, 2147483639)], [])
theorem lkJ8_ok : zlkOK RJ8 lkJ8 := ⟨fun _ h => absurd h List.not_mem_nil, List.forall_mem_cons.mpr ⟨zGW_at 919 (by decide +kernel) (by decide +kernel), fun _ h => absurd h List.not_mem_nil⟩, fun _ h => absurd h List.not_mem_nil⟩
def liJ8 : zLk := ([], [(200, 2147483639)], [])
theorem liJ8_ok : zlkOK RJ8 liJ8 := ⟨fun _ h => absurd h List.not_mem_nil, List.forall_mem_cons.mpr ⟨zGW_at 919 (by decide +kernel) (by decide +kernel), fun _ h => absurd h List.not_mem_nil⟩, fun _ h => absurd h List.not_mem_nil⟩
def lkX12 : zLk := ([(7, 13, 0, 0, false), (13, 13, 1, 0, false), (16, 13, 2, 0, false), (19, 13, 3, 1, true), (23, 13, 4, 1, true), (26, 13, 5, 1, true), (29, 13, 6, 1, true), (32, 13, 7, 1, true), (35, 13, 8, 0, false), (38, 13, 9, 0, false), (41, 13, 10, 0, false), (44, 13, 11, 0, false), (47, 13, 12, 0, false), (50, 13, 13, 1, true), (53, 13, 14, 1, true), (56, 13, 15, 1, true), (59, 13, 16, 1, true), (62, 13, 17, 1, true), (65, 13, 18, 1, true), (68, 13, 19, 1, true), (71, 13, 20, 1, true), (74, 13, 21, 0, false), (77, 13, 22, 0, false), (80, 13, 23, 0, false), (83, 13, 24, 1, true), (86, 13, 25, 1, true), (90, 13, 26, 1, true), (93, 13, 27, 0, false), (96, 13, 28, 0, false), (99, 13, 29, 1, true), (102, 13, 30, 1, true), (105, 13, 31, 1, true), (108, 13, 32, 1, true), (111, 13, 33, 1, true), (114, 13, 34, 0, false), (117, 13, 35, 1, true), (120, 13, 36, 1, true), (123, 13, 37, 1, true), (126, 13, 38, 0, false), (129, 13, 39, 0, false), (132, 13, 40, 1, true), (135, 13, 41, 1, true), (138, 13, 42, 1, true), (141, 13, 43, 1, true), (144, 13, 44, 2, false), (148, 13, 45, 0, false), (151, 13, 46, 0, false), (154, 13, 47, 0, false), (157, 13, 48, 0, false), (160, 13, 49, 0, false), (163, 13, 50, 0, false), (166, 13, 51, 0, false), (169, 13, 52, 1, true), (172, 13, 53, 1, true), (175, 13, 54, 1, true), (178, 13, 55, 1, true), (181, 13, 56, 1, true), (184, 13, 57, 1, true), (187, 13, 58, 1, true), (190, 13, 59, 1, true), (193, 13, 60, 1, true), (196, 13, 61, 1, true), (199, 13, 62, 1, true), (202, 13, 63, 1, true), (205, 13, 64, 0, false), (208, 13, 65, 1, true), (211, 13, 66, 1, true), (214, 13, 67, 1, true), (217, 13, 68, 1, true), (221, 13, 69, 1, true)], [], [(373, -9223372036854775808)])
theorem lkX12_ok : zlkOK RX12 lkX12 := ⟨List.forall_mem_cons.mpr ⟨fe_X12_7, List.forall_mem_cons.mpr ⟨fe_X12_13, List.forall_mem_cons.mpr ⟨fe_X12_16, List.forall_mem_cons.mpr ⟨fe_X12_19, List.forall_mem_cons.mpr ⟨fe_X12_23, List.forall_mem_cons.mpr ⟨fe_X12_26, List.forall_mem_cons.mpr ⟨fe_X12_29, List.forall_mem_cons.mpr ⟨fe_X12_32, List.forall_mem_cons.mpr ⟨fe_X12_35, List.forall_mem_cons.mpr ⟨fe_X12_38, List.forall_mem_cons.mpr ⟨fe_X12_41, List.forall_mem_cons.mpr ⟨fe_X12_44, List.forall_mem_cons.mpr ⟨fe_X12_47, List.forall_mem_cons.mpr ⟨fe_X12_50, List.forall_mem_cons.mpr ⟨fe_X12_53, List.forall_mem_cons.mpr ⟨fe_X12_56, List.forall_mem_cons.mpr ⟨fe_X12_59, List.forall_mem_cons.mpr ⟨fe_X12_62, List.forall_mem_cons.mpr ⟨fe_X12_65, List.forall_mem_cons.mpr ⟨fe_X12_68, List.forall_mem_cons.mpr ⟨fe_X12_71, List.forall_mem_cons.mpr ⟨fe_X12_74, List.forall_mem_cons.mpr ⟨fe_X12_77, List.forall_mem_cons.mpr ⟨fe_X12_80, List.forall_mem_cons.mpr ⟨fe_X12_83, List.forall_mem_cons.mpr ⟨fe_X12_86, List.forall_mem_cons.mpr ⟨fe_X12_90, List.forall_mem_cons.mpr ⟨fe_X12_93, List.forall_mem_cons.mpr ⟨fe_X12_96, List.forall_mem_cons.mpr ⟨fe_X12_99, List.forall_mem_cons.mpr ⟨fe_X12_102, List.forall_mem_cons.mpr ⟨fe_X12_105, List.forall_mem_cons.mpr ⟨fe_X12_108, List.forall_mem_cons.mpr ⟨fe_X12_111, List.forall_mem_cons.mpr ⟨fe_X12_114, List.forall_mem_cons.mpr ⟨fe_X12_117, List.forall_mem_cons.mpr ⟨fe_X12_120, List.forall_mem_cons.mpr ⟨fe_X12_123, List.forall_mem_cons.mpr ⟨fe_X12_126, List.forall_mem_cons.mpr ⟨fe_X12_129, List.forall_mem_cons.mpr ⟨fe_X12_132, List.forall_mem_cons.mpr ⟨fe_X12_135, List.forall_mem_cons.mpr ⟨fe_X12_138, List.forall_mem_cons.mpr ⟨fe_X12_141, List.forall_mem_cons.mpr ⟨fe_X12_144, List.forall_mem_cons.mpr ⟨fe_X12_148, List.forall_mem_cons.mpr ⟨fe_X12_151, List.forall_mem_cons.mpr ⟨fe_X12_154, List.forall_mem_cons.mpr ⟨fe_X12_157, List.forall_mem_cons.mpr ⟨fe_X12_160, List.forall_mem_cons.mpr ⟨fe_X12_163, List.forall_mem_cons.mpr ⟨fe_X12_166, List.forall_mem_cons.mpr ⟨fe_X12_169, List.forall_mem_cons.mpr ⟨fe_X12_172, List.forall_mem_cons.mpr ⟨fe_X12_175, List.forall_mem_cons.mpr ⟨fe_X12_178, List.forall_mem_cons.mpr ⟨fe_X12_181, List.forall_mem_cons.mpr ⟨fe_X12_184, List.forall_mem_cons.mpr ⟨fe_X12_187, List.forall_mem_cons.mpr ⟨fe_X12_190, List.forall_mem_cons.mpr ⟨fe_X12_193, List.forall_mem_cons.mpr ⟨fe_X12_196, List.forall_mem_cons.mpr ⟨fe_X12_199, List.forall_mem_cons.mpr ⟨fe_X12_202, List.forall_mem_cons.mpr ⟨fe_X12_205, List.forall_mem_cons.mpr ⟨fe_X12_208, List.forall_mem_cons.mpr ⟨fe_X12_211, List.forall_mem_cons.mpr ⟨fe_X12_214, List.forall_mem_cons.mpr ⟨fe_X12_217, List.forall_mem_cons.mpr ⟨fe_X12_221, fun _ h => absurd h List.not_mem_nil⟩⟩⟩⟩⟩⟩⟩⟩⟩⟩⟩⟩⟩⟩⟩⟩⟩⟩⟩⟩⟩⟩⟩⟩⟩⟩⟩⟩⟩⟩⟩⟩⟩⟩⟩⟩⟩⟩⟩⟩⟩⟩⟩⟩⟩⟩⟩⟩⟩⟩⟩⟩⟩⟩⟩⟩⟩⟩⟩⟩⟩⟩⟩⟩⟩⟩⟩⟩⟩⟩, fun _ h => absurd h List.not_mem_nil, List.forall_mem_cons.mpr ⟨zGW_at 1582 (by decide +kernel) (by decide +kernel), fun _ h => absurd h List.not_mem_nil⟩⟩
def liX12 : zLk := ([(7, 13, 0, 0, false), (13, 13, 1, 0, false), (16, 13, 2, 0, false), (19, 13, 3, 1, true), (23, 13, 4, 1, true), (26, 13, 5, 1, true), (29, 13, 6, 1, true), (32, 13, 7, 1, true), (35, 13, 8, 0, false), (38, 13, 9, 0, false), (41, 13, 10, 0, false), (44, 13, 11, 0, false), (47, 13, 12, 0, false), (50, 13, 13, 1, true), (53, 13, 14, 1, true), (56, 13, 15, 1, true), (59, 13, 16, 1, true), (62, 13, 17, 1, true), (65, 13, 18, 1, true), (68, 13, 19, 1, true), (71, 13, 20, 1, true), (74, 13, 21, 0, false), (77, 13, 22, 0, false), (80, 13, 23, 0, false), (83, 13, 24, 1, true), (86, 13, 25, 1, true), (90, 13, 26, 1, true), (93, 13, 27, 0, false), (96, 13, 28, 0, false), (99, 13, 29, 1, true), (102, 13, 30, 1, true), (105, 13, 31, 1, true), (108, 13, 32, 1, true), (111, 13, 33, 1, true), (114, 13, 34, 0, false), (117, 13, 35, 1, true), (120, 13, 36, 1, true), (123, 13, 37, 1, true), (126, 13, 38, 0, false), (129, 13, 39, 0, false), (132, 13, 40, 1, true), (135, 13, 41, 1, true), (138, 13, 42, 1, true), (141, 13, 43, 1, true), (144, 13, 44, 2, false), (148, 13, 45, 0, false), (151, 13, 46, 0, false), (154, 13, 47, 0, false), (157, 13, 48, 0, false), (160, 13, 49, 0, false), (163, 13, 50, 0, false), (166, 13, 51, 0, false), (169, 13, 52, 1, true), (172, 13, 53, 1, true), (175, 13, 54, 1, true), (178, 13, 55, 1, true), (181, 13, 56, 1, true), (184, 13, 57, 1, true), (187, 13, 58, 1, true), (190, 13, 59, 1, true), (193, 13, 60, 1, true), (196, 13, 61, 1, true), (199, 13, 62, 1, true), (202, 13, 63, 1, true), (205, 13, 64, 0, false), (208, 13, 65, 1, true), (211, 13, 66, 1, true), (214, 13, 67, 1, true), (217, 13, 68, 1, true), (221, 13, 69, 1, true)], [], [(373, -9223372036854775808)])
theorem liX12_ok : zlkOK RX12 liX12 := ⟨List.forall_mem_cons.mpr ⟨fe_X12_7, List.forall_mem_cons.mpr ⟨fe_X12_13, List.forall_mem_cons.mpr ⟨fe_X12_16, List.forall_mem_cons.mpr ⟨fe_X12_19, List.forall_mem_cons.mpr ⟨fe_X12_23, List.forall_mem_cons.mpr ⟨fe_X12_26, List.forall_mem_cons.mpr ⟨fe_X12_29, List.forall_mem_cons.mpr ⟨fe_X12_32, List.forall_mem_cons.mpr ⟨fe_X12_35, List.forall_mem_cons.mpr ⟨fe_X12_38, List.forall_mem_cons.mpr ⟨fe_X12_41, List.forall_mem_cons.mpr ⟨fe_X12_44, List.forall_mem_cons.mpr ⟨fe_X12_47, List.forall_mem_cons.mpr ⟨fe_X12_50, List.forall_mem_cons.mpr ⟨fe_X12_53, List.forall_mem_cons.mpr ⟨fe_X12_56, List.forall_mem_cons.mpr ⟨fe_X12_59, List.forall_mem_cons.mpr ⟨fe_X12_62, List.forall_mem_cons.mpr ⟨fe_X12_65, List.forall_mem_cons.mpr ⟨fe_X12_68, List.forall_mem_cons.mpr ⟨fe_X12_71, List.forall_mem_cons.mpr ⟨fe_X12_74, List.forall_mem_cons.mpr ⟨fe_X12_77, List.forall_mem_cons.mpr ⟨fe_X12_80, List.forall_mem_cons.mpr ⟨fe_X12_83, List.forall_mem_cons.mpr ⟨fe_X12_86, List.forall_mem_cons.mpr ⟨fe_X12_90, List.forall_mem_cons.mpr ⟨fe_X12_93, List.forall_mem_cons.mpr ⟨fe_X12_96, List.forall_mem_cons.mpr ⟨fe_X12_99, List.forall_mem_cons.mpr ⟨fe_X12_102, List.forall_mem_cons.mpr ⟨fe_X12_105, List.forall_mem_cons.mpr ⟨fe_X12_108, List.forall_mem_cons.mpr ⟨fe_X12_111, List.forall_mem_cons.mpr ⟨fe_X12_114, List.forall_mem_cons.mpr ⟨fe_X12_117, List.forall_mem_cons.mpr ⟨fe_X12_120, List.forall_mem_cons.mpr ⟨fe_X12_123, List.forall_mem_cons.mpr ⟨fe_X12_126, List.forall_mem_cons.mpr ⟨fe_X12_129, List.forall_mem_cons.mpr ⟨fe_X12_132, List.forall_mem_cons.mpr ⟨fe_X12_135, List.forall_mem_cons.mpr ⟨fe_X12_138, List.forall_mem_cons.mpr ⟨fe_X12_141, List.forall_mem_cons.mpr ⟨fe_X12_144, List.forall_mem_cons.mpr ⟨fe_X12_148, List.forall_mem_cons.mpr ⟨fe_X12_151, List.forall_mem_cons.mpr ⟨fe_X12_154, List.forall_mem_cons.mpr ⟨fe_X12_157, List.forall_mem_cons.mpr ⟨fe_X12_160, List.forall_mem_cons.mpr ⟨fe_X12_163, List.forall_mem_cons.mpr ⟨fe_X12_166, List.forall_mem_cons.mpr ⟨fe_X12_169, List.forall_mem_cons.mpr ⟨fe_X12_172, List.forall_mem_cons.mpr ⟨fe_X12_175, List.forall_mem_cons.mpr ⟨fe_X12_178, List.forall_mem_cons.mpr ⟨fe_X12_181, List.forall_mem_cons.mpr ⟨fe_X12_184, List.forall_mem_cons.mpr ⟨fe_X12_187, List.forall_mem_cons.mpr ⟨fe_X12_190, List.forall_mem_cons.mpr ⟨fe_X12_193, List.forall_mem_cons.mpr ⟨fe_X12_196, List.forall_mem_cons.mpr ⟨fe_X12_199, List.forall_mem_cons.mpr ⟨fe_X12_202, List.forall_mem_cons.mpr ⟨fe_X12_205, List.forall_mem_cons.mpr ⟨fe_X12_208, List.forall_mem_cons.mpr ⟨fe_X12_211, List.forall_mem_cons.mpr ⟨fe_X12_214, List.forall_mem_cons.mpr ⟨fe_X12_217, List.forall_mem_cons.mpr ⟨fe_X12_221, fun _ h => absurd h List.not_mem_nil⟩⟩⟩⟩⟩⟩⟩⟩⟩⟩⟩⟩⟩⟩⟩⟩⟩⟩⟩⟩⟩⟩⟩⟩⟩⟩⟩⟩⟩⟩⟩⟩⟩⟩⟩⟩⟩⟩⟩⟩⟩⟩⟩⟩⟩⟩⟩⟩⟩⟩⟩⟩⟩⟩⟩⟩⟩⟩⟩⟩⟩⟩⟩⟩⟩⟩⟩⟩⟩⟩, fun _ h => absurd h List.not_mem_nil, List.forall_mem_cons.mpr ⟨zGW_at 1582 (by decide +kernel) (by decide +kernel), fun _ h => absurd h List.not_mem_nil⟩⟩
def lkL : zLk := ([], [], [(140, 4294967295)])
theorem lkL_ok : zlkOK RL lkL := ⟨fun _ h => absurd h List.not_mem_nil, fun _ h => absurd h List.not_mem_nil, List.forall_mem_cons.mpr ⟨zGW_at 1704 (by decide +kernel) (by decide +kernel), fun _ h => absurd h List.not_mem_nil⟩⟩
def liL : zLk := ([], [], [(140, 4294967295)])
theorem liL_ok : zlkOK RL liL := ⟨fun _ h => absurd h List.not_mem_nil, fun _ h => absurd h List.not_mem_nil, List.forall_mem_cons.mpr ⟨zGW_at 1704 (by decide +kernel) (by decide +kernel), fun _ h => absurd h List.not_mem_nil⟩⟩
theorem kw_L_9 : zIw RL 9 mX11_init 0 := ⟨zGW_at 107 (by decide +kernel) (by decide +kernel), zGW_at 105 (by decide +kernel) (by decide +kernel), zGW_at 106 (by decide +kernel) (by decide +kernel), rfl, rfl, zGW_at 78 (by decide +kernel) (by decide +kernel), ⟨by decide +kernel, by decide +kernel, by decide +kernel⟩⟩
theorem kw_X1_29 : zIw RX1 29 mX8_init 1 := ⟨zGW_at 123 (by decide +kernel) (by decide +kernel), zGW_at 121 (by decide +kernel) (by decide +kernel), zGW_at 122 (by decide +kernel) (by decide +kernel), rfl, rfl, zGW_at 80 (by decide +kernel) (by decide +kernel), ⟨by decide +kernel, by decide +kernel, by decide +kernel⟩⟩
theorem kw_X11_30 : zIw RX11 30 mJ4_init_da8c8 0 := ⟨zGW_at 191 (by decide +kernel) (by decide +kernel), zGW_at 189 (by decide +kernel) (by decide +kernel), zGW_at 190 (by decide +kernel) (by decide +kernel), rfl, rfl, zGW_at 82 (by decide +kernel) (by decide +kernel), ⟨by decide +kernel, by decide +kernel, by decide +kernel⟩⟩
theorem kw_J4_1 : zIw RJ4 1 mJ5_init_d00df 1 := ⟨zGW_at 194 (by decide +kernel) (by decide +kernel), zGW_at 192 (by decide +kernel) (by decide +kernel), zGW_at 193 (by decide +kernel) (by decide +kernel), rfl, rfl, zGW_at 81 (by decide +kernel) (by decide +kernel), ⟨by decide +kernel, by decide +kernel, by decide +kernel⟩⟩
theorem kw_J5_26 : zSw RJ5 26 mJ2_newBytesFor_77867 1 := ⟨zGW_at 200 (by decide +kernel) (by decide +kernel), zGW_at 198 (by decide +kernel) (by decide +kernel), zGW_at 199 (by decide +kernel) (by decide +kernel), zGW_at 84 (by decide +kernel) (by decide +kernel), ⟨by decide +kernel, by decide +kernel, by decide +kernel⟩⟩
theorem kw_J2_11 : zSw RJ2 11 mJ2_newBytesLength_0f7a4 1 := ⟨zGW_at 203 (by decide +kernel) (by decide +kernel), zGW_at 201 (by decide +kernel) (by decide +kernel), zGW_at 202 (by decide +kernel) (by decide +kernel), zGW_at 84 (by decide +kernel) (by decide +kernel), ⟨by decide +kernel, by decide +kernel, by decide +kernel⟩⟩
theorem kw_X11_52 : zSw RX11 52 mJ7_fill_53178 2 := ⟨zGW_at 222 (by decide +kernel) (by decide +kernel), zGW_at 220 (by decide +kernel) (by decide +kernel), zGW_at 221 (by decide +kernel) (by decide +kernel), zGW_at 85 (by decide +kernel) (by decide +kernel), ⟨by decide +kernel, by decide +kernel, by decide +kernel⟩⟩
theorem kw_L_13 : zVw RL 13 mX11_worker 2 := ⟨zGW_at 267 (by decide +kernel) (by decide +kernel), zGW_at 264 (by decide +kernel) (by decide +kernel), zGW_at 265 (by decide +kernel) (by decide +kernel), zGW_at 266 (by decide +kernel) (by decide +kernel), zGW_at 78 (by decide +kernel) (by decide +kernel), ⟨by decide +kernel, by decide +kernel, by decide +kernel⟩⟩
theorem kw_X11_58 : zSw RX11 58 mX11_isKind 1 := ⟨zGW_at 270 (by decide +kernel) (by decide +kernel), zGW_at 268 (by decide +kernel) (by decide +kernel), zGW_at 269 (by decide +kernel) (by decide +kernel), zGW_at 78 (by decide +kernel) (by decide +kernel), ⟨by decide +kernel, by decide +kernel, by decide +kernel⟩⟩
theorem kw_X11_62 : zSw RX11 62 mX11_isDigit 1 := ⟨zGW_at 273 (by decide +kernel) (by decide +kernel), zGW_at 271 (by decide +kernel) (by decide +kernel), zGW_at 272 (by decide +kernel) (by decide +kernel), zGW_at 78 (by decide +kernel) (by decide +kernel), ⟨by decide +kernel, by decide +kernel, by decide +kernel⟩⟩
theorem kw_X11_69 : zSw RX11 69 mX11_made 3 := ⟨zGW_at 276 (by decide +kernel) (by decide +kernel), zGW_at 274 (by decide +kernel) (by decide +kernel), zGW_at 275 (by decide +kernel) (by decide +kernel), zGW_at 78 (by decide +kernel) (by decide +kernel), ⟨by decide +kernel, by decide +kernel, by decide +kernel⟩⟩
theorem kw_X11_289 : zIw RX11 289 mX4_init 2 := ⟨zGW_at 281 (by decide +kernel) (by decide +kernel), zGW_at 279 (by decide +kernel) (by decide +kernel), zGW_at 280 (by decide +kernel) (by decide +kernel), rfl, rfl, zGW_at 88 (by decide +kernel) (by decide +kernel), ⟨by decide +kernel, by decide +kernel, by decide +kernel⟩⟩
theorem kw_X4_3 : zIw RX4 3 mX2_init 2 := ⟨zGW_at 284 (by decide +kernel) (by decide +kernel), zGW_at 282 (by decide +kernel) (by decide +kernel), zGW_at 283 (by decide +kernel) (by decide +kernel), rfl, rfl, zGW_at 87 (by decide +kernel) (by decide +kernel), ⟨by decide +kernel, by decide +kernel, by decide +kernel⟩⟩
theorem kw_X11_293 : zIw RX11 293 mX3_init 2 := ⟨zGW_at 308 (by decide +kernel) (by decide +kernel), zGW_at 306 (by decide +kernel) (by decide +kernel), zGW_at 307 (by decide +kernel) (by decide +kernel), rfl, rfl, zGW_at 89 (by decide +kernel) (by decide +kernel), ⟨by decide +kernel, by decide +kernel, by decide +kernel⟩⟩
theorem kw_X3_3 : zIw RX3 3 mX2_init 2 := ⟨zGW_at 284 (by decide +kernel) (by decide +kernel), zGW_at 309 (by decide +kernel) (by decide +kernel), zGW_at 283 (by decide +kernel) (by decide +kernel), rfl, rfl, zGW_at 87 (by decide +kernel) (by decide +kernel), ⟨by decide +kernel, by decide +kernel, by decide +kernel⟩⟩
theorem kw_X11_296 : zIw RX11 296 mX6_init 2 := ⟨zGW_at 317 (by decide +kernel) (by decide +kernel), zGW_at 315 (by decide +kernel) (by decide +kernel), zGW_at 316 (by decide +kernel) (by decide +kernel), rfl, rfl, zGW_at 90 (by decide +kernel) (by decide +kernel), ⟨by decide +kernel, by decide +kernel, by decide +kernel⟩⟩
theorem kw_X6_3 : zIw RX6 3 mX2_init 2 := ⟨zGW_at 284 (by decide +kernel) (by decide +kernel), zGW_at 318 (by decide +kernel) (by decide +kernel), zGW_at 283 (by decide +kernel) (by decide +kernel), rfl, rfl, zGW_at 87 (by decide +kernel) (by decide +kernel), ⟨by decide +kernel, by decide +kernel, by decide +kernel⟩⟩
theorem kw_X11_299 : zIw RX11 299 mX0_init 2 := ⟨zGW_at 326 (by decide +kernel) (by decide +kernel), zGW_at 324 (by decide +kernel) (by decide +kernel), zGW_at 325 (by decide +kernel) (by decide +kernel), rfl, rfl, zGW_at 91 (by decide +kernel) (by decide +kernel), ⟨by decide +kernel, by decide +kernel, by decide +kernel⟩⟩
theorem kw_X0_3 : zIw RX0 3 mX4_init 2 := ⟨zGW_at 281 (by decide +kernel) (by decide +kernel), zGW_at 327 (by decide +kernel) (by decide +kernel), zGW_at 280 (by decide +kernel) (by decide +kernel), rfl, rfl, zGW_at 88 (by decide +kernel) (by decide +kernel), ⟨by decide +kernel, by decide +kernel, by decide +kernel⟩⟩
theorem kw_X11_302 : zIw RX11 302 mX5_init 2 := ⟨zGW_at 335 (by decide +kernel) (by decide +kernel), zGW_at 333 (by decide +kernel) (by decide +kernel), zGW_at 334 (by decide +kernel) (by decide +kernel), rfl, rfl, zGW_at 92 (by decide +kernel) (by decide +kernel), ⟨by decide +kernel, by decide +kernel, by decide +kernel⟩⟩
theorem kw_X5_3 : zIw RX5 3 mX3_init 2 := ⟨zGW_at 308 (by decide +kernel) (by decide +kernel), zGW_at 336 (by decide +kernel) (by decide +kernel), zGW_at 307 (by decide +kernel) (by decide +kernel), rfl, rfl, zGW_at 89 (by decide +kernel) (by decide +kernel), ⟨by decide +kernel, by decide +kernel, by decide +kernel⟩⟩
theorem kw_X11_305 : zIw RX11 305 mX9_init 2 := ⟨zGW_at 344 (by decide +kernel) (by decide +kernel), zGW_at 342 (by decide +kernel) (by decide +kernel), zGW_at 343 (by decide +kernel) (by decide +kernel), rfl, rfl, zGW_at 93 (by decide +kernel) (by decide +kernel), ⟨by decide +kernel, by decide +kernel, by decide +kernel⟩⟩
theorem kw_X9_3 : zIw RX9 3 mX6_init 2 := ⟨zGW_at 317 (by decide +kernel) (by decide +kernel), zGW_at 345 (by decide +kernel) (by decide +kernel), zGW_at 316 (by decide +kernel) (by decide +kernel), rfl, rfl, zGW_at 90 (by decide +kernel) (by decide +kernel), ⟨by decide +kernel, by decide +kernel, by decide +kernel⟩⟩
theorem kw_X11_306 : zIw RX11 306 mX2_init 2 := ⟨zGW_at 284 (by decide +kernel) (by decide +kernel), zGW_at 351 (by decide +kernel) (by decide +kernel), zGW_at 283 (by decide +kernel) (by decide +kernel), rfl, rfl, zGW_at 87 (by decide +kernel) (by decide +kernel), ⟨by decide +kernel, by decide +kernel, by decide +kernel⟩⟩
theorem kw_X11_73 : zVw RX11 73 mX1_hire 1 := ⟨zGW_at 358 (by decide +kernel) (by decide +kernel), zGW_at 355 (by decide +kernel) (by decide +kernel), zGW_at 356 (by decide +kernel) (by decide +kernel), zGW_at 357 (by decide +kernel) (by decide +kernel), zGW_at 79 (by decide +kernel) (by decide +kernel), ⟨by decide +kernel, by decide +kernel, by decide +kernel⟩⟩
theorem kw_L_18 : zVw RL 18 mX11_of 2 := ⟨zGW_at 362 (by decide +kernel) (by decide +kernel), zGW_at 359 (by decide +kernel) (by decide +kernel), zGW_at 360 (by decide +kernel) (by decide +kernel), zGW_at 361 (by decide +kernel) (by decide +kernel), zGW_at 78 (by decide +kernel) (by decide +kernel), ⟨by decide +kernel, by decide +kernel, by decide +kernel⟩⟩
theorem kw_X11_77 : zVw RX11 77 mX11_isWorker 1 := ⟨zGW_at 366 (by decide +kernel) (by decide +kernel), zGW_at 363 (by decide +kernel) (by decide +kernel), zGW_at 365 (by decide +kernel) (by decide +kernel), zGW_at 0 (by decide +kernel) (by decide +kernel), zGW_at 78 (by decide +kernel) (by decide +kernel), ⟨by decide +kernel, by decide +kernel, by decide +kernel⟩⟩
theorem kw_X11_87 : zVw RX11 87 mX2_kind 0 := ⟨zGW_at 389 (by decide +kernel) (by decide +kernel), zGW_at 367 (by decide +kernel) (by decide +kernel), zGW_at 368 (by decide +kernel) (by decide +kernel), zGW_at 369 (by decide +kernel) (by decide +kernel), zGW_at 87 (by decide +kernel) (by decide +kernel), ⟨by decide +kernel, by decide +kernel, by decide +kernel⟩⟩
theorem kw_X11_96 : zVw RX11 96 mX1_isAtHome 1 := ⟨zGW_at 393 (by decide +kernel) (by decide +kernel), zGW_at 390 (by decide +kernel) (by decide +kernel), zGW_at 391 (by decide +kernel) (by decide +kernel), zGW_at 392 (by decide +kernel) (by decide +kernel), zGW_at 79 (by decide +kernel) (by decide +kernel), ⟨by decide +kernel, by decide +kernel, by decide +kernel⟩⟩
theorem kw_X11_99 : zVw RX11 99 mX1_ringOf 1 := ⟨zGW_at 397 (by decide +kernel) (by decide +kernel), zGW_at 394 (by decide +kernel) (by decide +kernel), zGW_at 395 (by decide +kernel) (by decide +kernel), zGW_at 396 (by decide +kernel) (by decide +kernel), zGW_at 79 (by decide +kernel) (by decide +kernel), ⟨by decide +kernel, by decide +kernel, by decide +kernel⟩⟩
theorem kw_X11_103 : zVw RX11 103 mX1_temper 2 := ⟨zGW_at 401 (by decide +kernel) (by decide +kernel), zGW_at 398 (by decide +kernel) (by decide +kernel), zGW_at 399 (by decide +kernel) (by decide +kernel), zGW_at 400 (by decide +kernel) (by decide +kernel), zGW_at 79 (by decide +kernel) (by decide +kernel), ⟨by decide +kernel, by decide +kernel, by decide +kernel⟩⟩
theorem kw_X1_74 : zSw RX1 74 mJ6_bitCount_0f7a4 1 := ⟨zGW_at 404 (by decide +kernel) (by decide +kernel), zGW_at 402 (by decide +kernel) (by decide +kernel), zGW_at 403 (by decide +kernel) (by decide +kernel), zGW_at 94 (by decide +kernel) (by decide +kernel), ⟨by decide +kernel, by decide +kernel, by decide +kernel⟩⟩
theorem kw_X1_85 : zVw RX1 85 mX10_moodOf 4 := ⟨zGW_at 411 (by decide +kernel) (by decide +kernel), zGW_at 408 (by decide +kernel) (by decide +kernel), zGW_at 409 (by decide +kernel) (by decide +kernel), zGW_at 410 (by decide +kernel) (by decide +kernel), zGW_at 95 (by decide +kernel) (by decide +kernel), ⟨by decide +kernel, by decide +kernel, by decide +kernel⟩⟩
theorem kw_X10_23 : zSw RX10 23 mX10_valueOf 5 := ⟨zGW_at 414 (by decide +kernel) (by decide +kernel), zGW_at 412 (by decide +kernel) (by decide +kernel), zGW_at 413 (by decide +kernel) (by decide +kernel), zGW_at 95 (by decide +kernel) (by decide +kernel), ⟨by decide +kernel, by decide +kernel, by decide +kernel⟩⟩
theorem kw_X10_36 : zVw RX10 36 mX2_kind 0 := ⟨zGW_at 389 (by decide +kernel) (by decide +kernel), zGW_at 415 (by decide +kernel) (by decide +kernel), zGW_at 368 (by decide +kernel) (by decide +kernel), zGW_at 369 (by decide +kernel) (by decide +kernel), zGW_at 87 (by decide +kernel) (by decide +kernel), ⟨by decide +kernel, by decide +kernel, by decide +kernel⟩⟩
theorem kw_X10_27 : zSw RX10 27 mX10_isSo 3 := ⟨zGW_at 418 (by decide +kernel) (by decide +kernel), zGW_at 416 (by decide +kernel) (by decide +kernel), zGW_at 417 (by decide +kernel) (by decide +kernel), zGW_at 95 (by decide +kernel) (by decide +kernel), ⟨by decide +kernel, by decide +kernel, by decide +kernel⟩⟩
theorem kw_X1_91 : zVw RX1 91 mX2_temper 2 := ⟨zGW_at 433 (by decide +kernel) (by decide +kernel), zGW_at 419 (by decide +kernel) (by decide +kernel), zGW_at 420 (by decide +kernel) (by decide +kernel), zGW_at 421 (by decide +kernel) (by decide +kernel), zGW_at 87 (by decide +kernel) (by decide +kernel), ⟨by decide +kernel, by decide +kernel, by decide +kernel⟩⟩
theorem kw_X11_113 : zVw RX11 113 mX1_rowSlot 1 := ⟨zGW_at 437 (by decide +kernel) (by decide +kernel), zGW_at 434 (by decide +kernel) (by decide +kernel), zGW_at 435 (by decide +kernel) (by decide +kernel), zGW_at 436 (by decide +kernel) (by decide +kernel), zGW_at 79 (by decide +kernel) (by decide +kernel), ⟨by decide +kernel, by decide +kernel, by decide +kernel⟩⟩
theorem kw_X11_116 : zVw RX11 116 mX2_punches 3 := ⟨zGW_at 470 (by decide +kernel) (by decide +kernel), zGW_at 438 (by decide +kernel) (by decide +kernel), zGW_at 439 (by decide +kernel) (by decide +kernel), zGW_at 440 (by decide +kernel) (by decide +kernel), zGW_at 87 (by decide +kernel) (by decide +kernel), ⟨by decide +kernel, by decide +kernel, by decide +kernel⟩⟩
theorem kw_L_22 : zVw RL 22 mX11_set 2 := ⟨zGW_at 474 (by decide +kernel) (by decide +kernel), zGW_at 471 (by decide +kernel) (by decide +kernel), zGW_at 472 (by decide +kernel) (by decide +kernel), zGW_at 473 (by decide +kernel) (by decide +kernel), zGW_at 78 (by decide +kernel) (by decide +kernel), ⟨by decide +kernel, by decide +kernel, by decide +kernel⟩⟩
theorem kw_X11_120 : zSw RX11 120 mX11_areHoles 1 := ⟨zGW_at 477 (by decide +kernel) (by decide +kernel), zGW_at 475 (by decide +kernel) (by decide +kernel), zGW_at 476 (by decide +kernel) (by decide +kernel), zGW_at 78 (by decide +kernel) (by decide +kernel), ⟨by decide +kernel, by decide +kernel, by decide +kernel⟩⟩
theorem kw_L_26 : zVw RL 26 mX11_swap 2 := ⟨zGW_at 481 (by decide +kernel) (by decide +kernel), zGW_at 478 (by decide +kernel) (by decide +kernel), zGW_at 479 (by decide +kernel) (by decide +kernel), zGW_at 480 (by decide +kernel) (by decide +kernel), zGW_at 78 (by decide +kernel) (by decide +kernel), ⟨by decide +kernel, by decide +kernel, by decide +kernel⟩⟩
theorem kw_X11_123 : zVw RX11 123 mX1_exchange 2 := ⟨zGW_at 485 (by decide +kernel) (by decide +kernel), zGW_at 482 (by decide +kernel) (by decide +kernel), zGW_at 483 (by decide +kernel) (by decide +kernel), zGW_at 484 (by decide +kernel) (by decide +kernel), zGW_at 79 (by decide +kernel) (by decide +kernel), ⟨by decide +kernel, by decide +kernel, by decide +kernel⟩⟩
theorem kw_L_30 : zVw RL 30 mX11_stay 2 := ⟨zGW_at 489 (by decide +kernel) (by decide +kernel), zGW_at 486 (by decide +kernel) (by decide +kernel), zGW_at 487 (by decide +kernel) (by decide +kernel), zGW_at 488 (by decide +kernel) (by decide +kernel), zGW_at 78 (by decide +kernel) (by decide +kernel), ⟨by decide +kernel, by decide +kernel, by decide +kernel⟩⟩
theorem kw_X11_127 : zVw RX11 127 mX1_keepAtHome 2 := ⟨zGW_at 493 (by decide +kernel) (by decide +kernel), zGW_at 490 (by decide +kernel) (by decide +kernel), zGW_at 491 (by decide +kernel) (by decide +kernel), zGW_at 492 (by decide +kernel) (by decide +kernel), zGW_at 79 (by decide +kernel) (by decide +kernel), ⟨by decide +kernel, by decide +kernel, by decide +kernel⟩⟩
theorem kw_L_35 : zVw RL 35 mX11_row 3 := ⟨zGW_at 497 (by decide +kernel) (by decide +kernel), zGW_at 494 (by decide +kernel) (by decide +kernel), zGW_at 495 (by decide +kernel) (by decide +kernel), zGW_at 496 (by decide +kernel) (by decide +kernel), zGW_at 78 (by decide +kernel) (by decide +kernel), ⟨by decide +kernel, by decide +kernel, by decide +kernel⟩⟩
theorem kw_L_40 : zVw RL 40 mX11_feed 1 := ⟨zGW_at 501 (by decide +kernel) (by decide +kernel), zGW_at 498 (by decide +kernel) (by decide +kernel), zGW_at 499 (by decide +kernel) (by decide +kernel), zGW_at 500 (by decide +kernel) (by decide +kernel), zGW_at 78 (by decide +kernel) (by decide +kernel), ⟨by decide +kernel, by decide +kernel, by decide +kernel⟩⟩
theorem kw_L_45 : zVw RL 45 mX11_works 0 := ⟨zGW_at 505 (by decide +kernel) (by decide +kernel), zGW_at 502 (by decide +kernel) (by decide +kernel), zGW_at 503 (by decide +kernel) (by decide +kernel), zGW_at 504 (by decide +kernel) (by decide +kernel), zGW_at 78 (by decide +kernel) (by decide +kernel), ⟨by decide +kernel, by decide +kernel, by decide +kernel⟩⟩
theorem kw_X11_142 : zIw RX11 142 mX7_init 2 := ⟨zGW_at 510 (by decide +kernel) (by decide +kernel), zGW_at 508 (by decide +kernel) (by decide +kernel), zGW_at 509 (by decide +kernel) (by decide +kernel), rfl, rfl, zGW_at 96 (by decide +kernel) (by decide +kernel), ⟨by decide +kernel, by decide +kernel, by decide +kernel⟩⟩
theorem kw_X7_21 : zIw RX7 21 mX10_init 1 := ⟨zGW_at 516 (by decide +kernel) (by decide +kernel), zGW_at 514 (by decide +kernel) (by decide +kernel), zGW_at 515 (by decide +kernel) (by decide +kernel), rfl, rfl, zGW_at 95 (by decide +kernel) (by decide +kernel), ⟨by decide +kernel, by decide +kernel, by decide +kernel⟩⟩
theorem kw_X11_145 : zVw RX11 145 mX7_isWorks 0 := ⟨zGW_at 553 (by decide +kernel) (by decide +kernel), zGW_at 550 (by decide +kernel) (by decide +kernel), zGW_at 551 (by decide +kernel) (by decide +kernel), zGW_at 552 (by decide +kernel) (by decide +kernel), zGW_at 96 (by decide +kernel) (by decide +kernel), ⟨by decide +kernel, by decide +kernel, by decide +kernel⟩⟩
theorem kw_X7_28 : zVw RX7 28 mX7_isClause 0 := ⟨zGW_at 557 (by decide +kernel) (by decide +kernel), zGW_at 554 (by decide +kernel) (by decide +kernel), zGW_at 556 (by decide +kernel) (by decide +kernel), zGW_at 1 (by decide +kernel) (by decide +kernel), zGW_at 96 (by decide +kernel) (by decide +kernel), ⟨by decide +kernel, by decide +kernel, by decide +kernel⟩⟩
theorem kw_X7_39 : zVw RX7 39 mX7_sign 0 := ⟨zGW_at 561 (by decide +kernel) (by decide +kernel), zGW_at 558 (by decide +kernel) (by decide +kernel), zGW_at 560 (by decide +kernel) (by decide +kernel), zGW_at 2 (by decide +kernel) (by decide +kernel), zGW_at 96 (by decide +kernel) (by decide +kernel), ⟨by decide +kernel, by decide +kernel, by decide +kernel⟩⟩
theorem kw_X7_49 : zVw RX7 49 mX7_spells 1 := ⟨zGW_at 568 (by decide +kernel) (by decide +kernel), zGW_at 565 (by decide +kernel) (by decide +kernel), zGW_at 567 (by decide +kernel) (by decide +kernel), zGW_at 3 (by decide +kernel) (by decide +kernel), zGW_at 96 (by decide +kernel) (by decide +kernel), ⟨by decide +kernel, by decide +kernel, by decide +kernel⟩⟩
theorem kw_X7_84 : zVw RX7 84 mJ0_length_8abf5 0 := ⟨zGW_at 572 (by decide +kernel) (by decide +kernel), zGW_at 569 (by decide +kernel) (by decide +kernel), zGW_at 570 (by decide +kernel) (by decide +kernel), zGW_at 571 (by decide +kernel) (by decide +kernel), zGW_at 83 (by decide +kernel) (by decide +kernel), ⟨by decide +kernel, by decide +kernel, by decide +kernel⟩⟩
theorem kw_J0_335 : zVw RJ0 335 mJ0_coder_7d493 0 := ⟨zGW_at 576 (by decide +kernel) (by decide +kernel), zGW_at 573 (by decide +kernel) (by decide +kernel), zGW_at 574 (by decide +kernel) (by decide +kernel), zGW_at 575 (by decide +kernel) (by decide +kernel), zGW_at 83 (by decide +kernel) (by decide +kernel), ⟨by decide +kernel, by decide +kernel, by decide +kernel⟩⟩
theorem kw_X7_87 : zVw RX7 87 mJ0_charAt_5068e 1 := ⟨zGW_at 581 (by decide +kernel) (by decide +kernel), zGW_at 578 (by decide +kernel) (by decide +kernel), zGW_at 579 (by decide +kernel) (by decide +kernel), zGW_at 580 (by decide +kernel) (by decide +kernel), zGW_at 83 (by decide +kernel) (by decide +kernel), ⟨by decide +kernel, by decide +kernel, by decide +kernel⟩⟩
theorem kw_J0_492 : zVw RJ0 492 mJ0_isLatin1_aae02 0 := ⟨zGW_at 585 (by decide +kernel) (by decide +kernel), zGW_at 582 (by decide +kernel) (by decide +kernel), zGW_at 583 (by decide +kernel) (by decide +kernel), zGW_at 584 (by decide +kernel) (by decide +kernel), zGW_at 83 (by decide +kernel) (by decide +kernel), ⟨by decide +kernel, by decide +kernel, by decide +kernel⟩⟩
theorem kw_J0_495 : zSw RJ0 495 mJ1_charAt_3b067 2 := ⟨zGW_at 588 (by decide +kernel) (by decide +kernel), zGW_at 586 (by decide +kernel) (by decide +kernel), zGW_at 587 (by decide +kernel) (by decide +kernel), zGW_at 97 (by decide +kernel) (by decide +kernel), ⟨by decide +kernel, by decide +kernel, by decide +kernel⟩⟩
theorem kw_J1_9 : zSw RJ1 9 mJ0_checkIndex_df160 2 := ⟨zGW_at 591 (by decide +kernel) (by decide +kernel), zGW_at 589 (by decide +kernel) (by decide +kernel), zGW_at 590 (by decide +kernel) (by decide +kernel), zGW_at 83 (by decide +kernel) (by decide +kernel), ⟨by decide +kernel, by decide +kernel, by decide +kernel⟩⟩
theorem kw_J0_1059 : zSw RJ0 1059 mJ3_checkIndex_8e157 3 := ⟨zGW_at 596 (by decide +kernel) (by decide +kernel), zGW_at 594 (by decide +kernel) (by decide +kernel), zGW_at 595 (by decide +kernel) (by decide +kernel), zGW_at 98 (by decide +kernel) (by decide +kernel), ⟨by decide +kernel, by decide +kernel, by decide +kernel⟩⟩
theorem kw_J0_498 : zSw RJ0 498 mJ2_charAt_3b067 2 := ⟨zGW_at 599 (by decide +kernel) (by decide +kernel), zGW_at 597 (by decide +kernel) (by decide +kernel), zGW_at 598 (by decide +kernel) (by decide +kernel), zGW_at 84 (by decide +kernel) (by decide +kernel), ⟨by decide +kernel, by decide +kernel, by decide +kernel⟩⟩
theorem kw_J2_67 : zSw RJ2 67 mJ2_checkIndex_2214a 2 := ⟨zGW_at 602 (by decide +kernel) (by decide +kernel), zGW_at 600 (by decide +kernel) (by decide +kernel), zGW_at 601 (by decide +kernel) (by decide +kernel), zGW_at 84 (by decide +kernel) (by decide +kernel), ⟨by decide +kernel, by decide +kernel, by decide +kernel⟩⟩
theorem kw_J2_48 : zSw RJ2 48 mJ2_length_9d52b 1 := ⟨zGW_at 605 (by decide +kernel) (by decide +kernel), zGW_at 603 (by decide +kernel) (by decide +kernel), zGW_at 604 (by decide +kernel) (by decide +kernel), zGW_at 84 (by decide +kernel) (by decide +kernel), ⟨by decide +kernel, by decide +kernel, by decide +kernel⟩⟩
theorem kw_J2_414 : zSw RJ2 414 mJ0_checkIndex_df160 2 := ⟨zGW_at 591 (by decide +kernel) (by decide +kernel), zGW_at 606 (by decide +kernel) (by decide +kernel), zGW_at 590 (by decide +kernel) (by decide +kernel), zGW_at 83 (by decide +kernel) (by decide +kernel), ⟨by decide +kernel, by decide +kernel, by decide +kernel⟩⟩
theorem kw_J2_71 : zSw RJ2 71 mJ2_getChar_3b067 2 := ⟨zGW_at 609 (by decide +kernel) (by decide +kernel), zGW_at 607 (by decide +kernel) (by decide +kernel), zGW_at 608 (by decide +kernel) (by decide +kernel), zGW_at 84 (by decide +kernel) (by decide +kernel), ⟨by decide +kernel, by decide +kernel, by decide +kernel⟩⟩
theorem kw_X7_35 : zVw RX7 35 mX7_takes 1 := ⟨zGW_at 619 (by decide +kernel) (by decide +kernel), zGW_at 616 (by decide +kernel) (by decide +kernel), zGW_at 618 (by decide +kernel) (by decide +kernel), zGW_at 4 (by decide +kernel) (by decide +kernel), zGW_at 96 (by decide +kernel) (by decide +kernel), ⟨by decide +kernel, by decide +kernel, by decide +kernel⟩⟩
theorem kw_X7_53 : zVw RX7 53 mX7_number 0 := ⟨zGW_at 623 (by decide +kernel) (by decide +kernel), zGW_at 620 (by decide +kernel) (by decide +kernel), zGW_at 622 (by decide +kernel) (by decide +kernel), zGW_at 5 (by decide +kernel) (by decide +kernel), zGW_at 96 (by decide +kernel) (by decide +kernel), ⟨by decide +kernel, by decide +kernel, by decide +kernel⟩⟩
theorem kw_X7_59 : zVw RX7 59 mX7_isEither 1 := ⟨zGW_at 628 (by decide +kernel) (by decide +kernel), zGW_at 625 (by decide +kernel) (by decide +kernel), zGW_at 627 (by decide +kernel) (by decide +kernel), zGW_at 6 (by decide +kernel) (by decide +kernel), zGW_at 96 (by decide +kernel) (by decide +kernel), ⟨by decide +kernel, by decide +kernel, by decide +kernel⟩⟩
theorem kw_X7_67 : zVw RX7 67 mX7_isFactor 1 := ⟨zGW_at 632 (by decide +kernel) (by decide +kernel), zGW_at 629 (by decide +kernel) (by decide +kernel), zGW_at 631 (by decide +kernel) (by decide +kernel), zGW_at 7 (by decide +kernel) (by decide +kernel), zGW_at 96 (by decide +kernel) (by decide +kernel), ⟨by decide +kernel, by decide +kernel, by decide +kernel⟩⟩
theorem kw_X7_70 : zVw RX7 70 mX7_isTest 0 := ⟨zGW_at 636 (by decide +kernel) (by decide +kernel), zGW_at 633 (by decide +kernel) (by decide +kernel), zGW_at 635 (by decide +kernel) (by decide +kernel), zGW_at 8 (by decide +kernel) (by decide +kernel), zGW_at 96 (by decide +kernel) (by decide +kernel), ⟨by decide +kernel, by decide +kernel, by decide +kernel⟩⟩
theorem kw_X7_75 : zVw RX7 75 mJ0_indexOf_0f7a4 1 := ⟨zGW_at 641 (by decide +kernel) (by decide +kernel), zGW_at 638 (by decide +kernel) (by decide +kernel), zGW_at 639 (by decide +kernel) (by decide +kernel), zGW_at 640 (by decide +kernel) (by decide +kernel), zGW_at 83 (by decide +kernel) (by decide +kernel), ⟨by decide +kernel, by decide +kernel, by decide +kernel⟩⟩
theorem kw_J0_633 : zVw RJ0 633 mJ0_indexOf_7cf53 2 := ⟨zGW_at 645 (by decide +kernel) (by decide +kernel), zGW_at 642 (by decide +kernel) (by decide +kernel), zGW_at 643 (by decide +kernel) (by decide +kernel), zGW_at 644 (by decide +kernel) (by decide +kernel), zGW_at 83 (by decide +kernel) (by decide +kernel), ⟨by decide +kernel, by decide +kernel, by decide +kernel⟩⟩
theorem kw_J0_505 : zVw RJ0 505 mJ0_length_8abf5 0 := ⟨zGW_at 572 (by decide +kernel) (by decide +kernel), zGW_at 646 (by decide +kernel) (by decide +kernel), zGW_at 570 (by decide +kernel) (by decide +kernel), zGW_at 571 (by decide +kernel) (by decide +kernel), zGW_at 83 (by decide +kernel) (by decide +kernel), ⟨by decide +kernel, by decide +kernel, by decide +kernel⟩⟩
theorem kw_J0_637 : zSw RJ0 637 mJ1_indexOf_4cfef 4 := ⟨zGW_at 649 (by decide +kernel) (by decide +kernel), zGW_at 647 (by decide +kernel) (by decide +kernel), zGW_at 648 (by decide +kernel) (by decide +kernel), zGW_at 97 (by decide +kernel) (by decide +kernel), ⟨by decide +kernel, by decide +kernel, by decide +kernel⟩⟩
theorem kw_J1_88 : zSw RJ1 88 mJ1_canEncode_9a6ad 1 := ⟨zGW_at 652 (by decide +kernel) (by decide +kernel), zGW_at 650 (by decide +kernel) (by decide +kernel), zGW_at 651 (by decide +kernel) (by decide +kernel), zGW_at 97 (by decide +kernel) (by decide +kernel), ⟨by decide +kernel, by decide +kernel, by decide +kernel⟩⟩
theorem kw_J1_92 : zSw RJ1 92 mJ9_max_7cf53 2 := ⟨zGW_at 655 (by decide +kernel) (by decide +kernel), zGW_at 653 (by decide +kernel) (by decide +kernel), zGW_at 654 (by decide +kernel) (by decide +kernel), zGW_at 99 (by decide +kernel) (by decide +kernel), ⟨by decide +kernel, by decide +kernel, by decide +kernel⟩⟩
theorem kw_J1_38 : zSw RJ1 38 mJ9_min_7cf53 2 := ⟨zGW_at 658 (by decide +kernel) (by decide +kernel), zGW_at 656 (by decide +kernel) (by decide +kernel), zGW_at 657 (by decide +kernel) (by decide +kernel), zGW_at 99 (by decide +kernel) (by decide +kernel), ⟨by decide +kernel, by decide +kernel, by decide +kernel⟩⟩
theorem kw_J1_95 : zSw RJ1 95 mJ1_indexOfChar_4cfef 4 := ⟨zGW_at 661 (by decide +kernel) (by decide +kernel), zGW_at 659 (by decide +kernel) (by decide +kernel), zGW_at 660 (by decide +kernel) (by decide +kernel), zGW_at 97 (by decide +kernel) (by decide +kernel), ⟨by decide +kernel, by decide +kernel, by decide +kernel⟩⟩
theorem kw_J0_640 : zSw RJ0 640 mJ2_indexOf_4cfef 4 := ⟨zGW_at 664 (by decide +kernel) (by decide +kernel), zGW_at 662 (by decide +kernel) (by decide +kernel), zGW_at 663 (by decide +kernel) (by decide +kernel), zGW_at 84 (by decide +kernel) (by decide +kernel), ⟨by decide +kernel, by decide +kernel, by decide +kernel⟩⟩
theorem kw_J2_224 : zSw RJ2 224 mJ9_max_7cf53 2 := ⟨zGW_at 655 (by decide +kernel) (by decide +kernel), zGW_at 665 (by decide +kernel) (by decide +kernel), zGW_at 654 (by decide +kernel) (by decide +kernel), zGW_at 99 (by decide +kernel) (by decide +kernel), ⟨by decide +kernel, by decide +kernel, by decide +kernel⟩⟩
theorem kw_J2_183 : zSw RJ2 183 mJ9_min_7cf53 2 := ⟨zGW_at 658 (by decide +kernel) (by decide +kernel), zGW_at 666 (by decide +kernel) (by decide +kernel), zGW_at 657 (by decide +kernel) (by decide +kernel), zGW_at 99 (by decide +kernel) (by decide +kernel), ⟨by decide +kernel, by decide +kernel, by decide +kernel⟩⟩
theorem kw_J2_228 : zSw RJ2 228 mJ2_indexOfChar_4cfef 4 := ⟨zGW_at 670 (by decide +kernel) (by decide +kernel), zGW_at 668 (by decide +kernel) (by decide +kernel), zGW_at 669 (by decide +kernel) (by decide +kernel), zGW_at 84 (by decide +kernel) (by decide +kernel), ⟨by decide +kernel, by decide +kernel, by decide +kernel⟩⟩
theorem kw_J2_96 : zSw RJ2 96 mJ2_checkBoundsBeginEnd_d044e 3 := ⟨zGW_at 673 (by decide +kernel) (by decide +kernel), zGW_at 671 (by decide +kernel) (by decide +kernel), zGW_at 672 (by decide +kernel) (by decide +kernel), zGW_at 84 (by decide +kernel) (by decide +kernel), ⟨by decide +kernel, by decide +kernel, by decide +kernel⟩⟩
theorem kw_J2_241 : zSw RJ2 241 mJ0_checkBoundsBeginEnd_23922 3 := ⟨zGW_at 676 (by decide +kernel) (by decide +kernel), zGW_at 674 (by decide +kernel) (by decide +kernel), zGW_at 675 (by decide +kernel) (by decide +kernel), zGW_at 83 (by decide +kernel) (by decide +kernel), ⟨by decide +kernel, by decide +kernel, by decide +kernel⟩⟩
theorem kw_J0_1062 : zSw RJ0 1062 mJ3_checkFromToIndex_8c36e 4 := ⟨zGW_at 679 (by decide +kernel) (by decide +kernel), zGW_at 677 (by decide +kernel) (by decide +kernel), zGW_at 678 (by decide +kernel) (by decide +kernel), zGW_at 98 (by decide +kernel) (by decide +kernel), ⟨by decide +kernel, by decide +kernel, by decide +kernel⟩⟩
theorem kw_J2_244 : zSw RJ2 244 mJ2_indexOfCharUnsafe_4cfef 4 := ⟨zGW_at 682 (by decide +kernel) (by decide +kernel), zGW_at 680 (by decide +kernel) (by decide +kernel), zGW_at 681 (by decide +kernel) (by decide +kernel), zGW_at 84 (by decide +kernel) (by decide +kernel), ⟨by decide +kernel, by decide +kernel, by decide +kernel⟩⟩
theorem kw_J2_232 : zSw RJ2 232 mJ2_indexOfSupplementary_4cfef 4 := ⟨zGW_at 685 (by decide +kernel) (by decide +kernel), zGW_at 683 (by decide +kernel) (by decide +kernel), zGW_at 684 (by decide +kernel) (by decide +kernel), zGW_at 84 (by decide +kernel) (by decide +kernel), ⟨by decide +kernel, by decide +kernel, by decide +kernel⟩⟩
theorem kw_J2_164 : zSw RJ2 164 mJ11_isValidCodePoint_9a6ad 1 := ⟨zGW_at 688 (by decide +kernel) (by decide +kernel), zGW_at 686 (by decide +kernel) (by decide +kernel), zGW_at 687 (by decide +kernel) (by decide +kernel), zGW_at 100 (by decide +kernel) (by decide +kernel), ⟨by decide +kernel, by decide +kernel, by decide +kernel⟩⟩
theorem kw_J2_157 : zSw RJ2 157 mJ11_highSurrogate_5068e 1 := ⟨zGW_at 691 (by decide +kernel) (by decide +kernel), zGW_at 689 (by decide +kernel) (by decide +kernel), zGW_at 690 (by decide +kernel) (by decide +kernel), zGW_at 100 (by decide +kernel) (by decide +kernel), ⟨by decide +kernel, by decide +kernel, by decide +kernel⟩⟩
theorem kw_J2_161 : zSw RJ2 161 mJ11_lowSurrogate_5068e 1 := ⟨zGW_at 695 (by decide +kernel) (by decide +kernel), zGW_at 693 (by decide +kernel) (by decide +kernel), zGW_at 694 (by decide +kernel) (by decide +kernel), zGW_at 100 (by decide +kernel) (by decide +kernel), ⟨by decide +kernel, by decide +kernel, by decide +kernel⟩⟩
theorem kw_X7_63 : zVw RX7 63 mX10_add 3 := ⟨zGW_at 700 (by decide +kernel) (by decide +kernel), zGW_at 697 (by decide +kernel) (by decide +kernel), zGW_at 698 (by decide +kernel) (by decide +kernel), zGW_at 699 (by decide +kernel) (by decide +kernel), zGW_at 95 (by decide +kernel) (by decide +kernel), ⟨by decide +kernel, by decide +kernel, by decide +kernel⟩⟩
theorem kw_L_50 : zVw RL 50 mX11_told 1 := ⟨zGW_at 704 (by decide +kernel) (by decide +kernel), zGW_at 701 (by decide +kernel) (by decide +kernel), zGW_at 702 (by decide +kernel) (by decide +kernel), zGW_at 703 (by decide +kernel) (by decide +kernel), zGW_at 78 (by decide +kernel) (by decide +kernel), ⟨by decide +kernel, by decide +kernel, by decide +kernel⟩⟩
theorem kw_X11_159 : zVw RX11 159 mX1_round 0 := ⟨zGW_at 708 (by decide +kernel) (by decide +kernel), zGW_at 705 (by decide +kernel) (by decide +kernel), zGW_at 706 (by decide +kernel) (by decide +kernel), zGW_at 707 (by decide +kernel) (by decide +kernel), zGW_at 79 (by decide +kernel) (by decide +kernel), ⟨by decide +kernel, by decide +kernel, by decide +kernel⟩⟩
theorem kw_X11_162 : zVw RX11 162 mX1_allHoles 0 := ⟨zGW_at 712 (by decide +kernel) (by decide +kernel), zGW_at 709 (by decide +kernel) (by decide +kernel), zGW_at 710 (by decide +kernel) (by decide +kernel), zGW_at 711 (by decide +kernel) (by decide +kernel), zGW_at 79 (by decide +kernel) (by decide +kernel), ⟨by decide +kernel, by decide +kernel, by decide +kernel⟩⟩
theorem kw_X11_165 : zVw RX11 165 mX1_allTemper 0 := ⟨zGW_at 716 (by decide +kernel) (by decide +kernel), zGW_at 713 (by decide +kernel) (by decide +kernel), zGW_at 714 (by decide +kernel) (by decide +kernel), zGW_at 715 (by decide +kernel) (by decide +kernel), zGW_at 79 (by decide +kernel) (by decide +kernel), ⟨by decide +kernel, by decide +kernel, by decide +kernel⟩⟩
theorem kw_X1_94 : zVw RX1 94 mX1_temper 2 := ⟨zGW_at 401 (by decide +kernel) (by decide +kernel), zGW_at 717 (by decide +kernel) (by decide +kernel), zGW_at 399 (by decide +kernel) (by decide +kernel), zGW_at 400 (by decide +kernel) (by decide +kernel), zGW_at 79 (by decide +kernel) (by decide +kernel), ⟨by decide +kernel, by decide +kernel, by decide +kernel⟩⟩
theorem kw_X11_168 : zVw RX11 168 mX1_rings 0 := ⟨zGW_at 721 (by decide +kernel) (by decide +kernel), zGW_at 718 (by decide +kernel) (by decide +kernel), zGW_at 719 (by decide +kernel) (by decide +kernel), zGW_at 720 (by decide +kernel) (by decide +kernel), zGW_at 79 (by decide +kernel) (by decide +kernel), ⟨by decide +kernel, by decide +kernel, by decide +kernel⟩⟩
theorem kw_X1_70 : zVw RX1 70 mX1_ringOf 1 := ⟨zGW_at 397 (by decide +kernel) (by decide +kernel), zGW_at 722 (by decide +kernel) (by decide +kernel), zGW_at 395 (by decide +kernel) (by decide +kernel), zGW_at 396 (by decide +kernel) (by decide +kernel), zGW_at 79 (by decide +kernel) (by decide +kernel), ⟨by decide +kernel, by decide +kernel, by decide +kernel⟩⟩
theorem kw_X11_171 : zVw RX11 171 mX11_firstSwap 0 := ⟨zGW_at 726 (by decide +kernel) (by decide +kernel), zGW_at 723 (by decide +kernel) (by decide +kernel), zGW_at 725 (by decide +kernel) (by decide +kernel), zGW_at 9 (by decide +kernel) (by decide +kernel), zGW_at 78 (by decide +kernel) (by decide +kernel), ⟨by decide +kernel, by decide +kernel, by decide +kernel⟩⟩
theorem kw_X11_212 : zVw RX11 212 mX1_holder 1 := ⟨zGW_at 730 (by decide +kernel) (by decide +kernel), zGW_at 727 (by decide +kernel) (by decide +kernel), zGW_at 728 (by decide +kernel) (by decide +kernel), zGW_at 729 (by decide +kernel) (by decide +kernel), zGW_at 79 (by decide +kernel) (by decide +kernel), ⟨by decide +kernel, by decide +kernel, by decide +kernel⟩⟩
theorem kw_X11_174 : zVw RX11 174 mX11_sparingSwap 0 := ⟨zGW_at 734 (by decide +kernel) (by decide +kernel), zGW_at 731 (by decide +kernel) (by decide +kernel), zGW_at 733 (by decide +kernel) (by decide +kernel), zGW_at 10 (by decide +kernel) (by decide +kernel), zGW_at 78 (by decide +kernel) (by decide +kernel), ⟨by decide +kernel, by decide +kernel, by decide +kernel⟩⟩
theorem kw_X11_307 : zVw RX11 307 mX11_mostHolesAfterSwap 2 := ⟨zGW_at 738 (by decide +kernel) (by decide +kernel), zGW_at 735 (by decide +kernel) (by decide +kernel), zGW_at 737 (by decide +kernel) (by decide +kernel), zGW_at 11 (by decide +kernel) (by decide +kernel), zGW_at 78 (by decide +kernel) (by decide +kernel), ⟨by decide +kernel, by decide +kernel, by decide +kernel⟩⟩
theorem kw_X11_184 : zVw RX11 184 mX1_follow 1 := ⟨zGW_at 742 (by decide +kernel) (by decide +kernel), zGW_at 739 (by decide +kernel) (by decide +kernel), zGW_at 740 (by decide +kernel) (by decide +kernel), zGW_at 741 (by decide +kernel) (by decide +kernel), zGW_at 79 (by decide +kernel) (by decide +kernel), ⟨by decide +kernel, by decide +kernel, by decide +kernel⟩⟩
theorem kw_X11_180 : zVw RX11 180 mX1_goDays 1 := ⟨zGW_at 749 (by decide +kernel) (by decide +kernel), zGW_at 746 (by decide +kernel) (by decide +kernel), zGW_at 747 (by decide +kernel) (by decide +kernel), zGW_at 748 (by decide +kernel) (by decide +kernel), zGW_at 79 (by decide +kernel) (by decide +kernel), ⟨by decide +kernel, by decide +kernel, by decide +kernel⟩⟩
theorem kw_X1_98 : zVw RX1 98 mX1_goDay 0 := ⟨zGW_at 753 (by decide +kernel) (by decide +kernel), zGW_at 750 (by decide +kernel) (by decide +kernel), zGW_at 751 (by decide +kernel) (by decide +kernel), zGW_at 752 (by decide +kernel) (by decide +kernel), zGW_at 79 (by decide +kernel) (by decide +kernel), ⟨by decide +kernel, by decide +kernel, by decide +kernel⟩⟩
theorem kw_X1_101 : zVw RX1 101 mX1_isAtHome 1 := ⟨zGW_at 393 (by decide +kernel) (by decide +kernel), zGW_at 754 (by decide +kernel) (by decide +kernel), zGW_at 391 (by decide +kernel) (by decide +kernel), zGW_at 392 (by decide +kernel) (by decide +kernel), zGW_at 79 (by decide +kernel) (by decide +kernel), ⟨by decide +kernel, by decide +kernel, by decide +kernel⟩⟩
theorem kw_X1_105 : zVw RX1 105 mX1_rowSlot 1 := ⟨zGW_at 437 (by decide +kernel) (by decide +kernel), zGW_at 755 (by decide +kernel) (by decide +kernel), zGW_at 435 (by decide +kernel) (by decide +kernel), zGW_at 436 (by decide +kernel) (by decide +kernel), zGW_at 79 (by decide +kernel) (by decide +kernel), ⟨by decide +kernel, by decide +kernel, by decide +kernel⟩⟩
theorem kw_X1_108 : zVw RX1 108 mX2_punches 3 := ⟨zGW_at 470 (by decide +kernel) (by decide +kernel), zGW_at 756 (by decide +kernel) (by decide +kernel), zGW_at 439 (by decide +kernel) (by decide +kernel), zGW_at 440 (by decide +kernel) (by decide +kernel), zGW_at 87 (by decide +kernel) (by decide +kernel), ⟨by decide +kernel, by decide +kernel, by decide +kernel⟩⟩
theorem kw_X1_112 : zVw RX1 112 mX1_round 0 := ⟨zGW_at 708 (by decide +kernel) (by decide +kernel), zGW_at 757 (by decide +kernel) (by decide +kernel), zGW_at 706 (by decide +kernel) (by decide +kernel), zGW_at 707 (by decide +kernel) (by decide +kernel), zGW_at 79 (by decide +kernel) (by decide +kernel), ⟨by decide +kernel, by decide +kernel, by decide +kernel⟩⟩
theorem kw_X1_115 : zVw RX1 115 mX1_goRound 0 := ⟨zGW_at 761 (by decide +kernel) (by decide +kernel), zGW_at 758 (by decide +kernel) (by decide +kernel), zGW_at 759 (by decide +kernel) (by decide +kernel), zGW_at 760 (by decide +kernel) (by decide +kernel), zGW_at 79 (by decide +kernel) (by decide +kernel), ⟨by decide +kernel, by decide +kernel, by decide +kernel⟩⟩
theorem kw_X1_118 : zVw RX1 118 mX1_exchange 2 := ⟨zGW_at 485 (by decide +kernel) (by decide +kernel), zGW_at 762 (by decide +kernel) (by decide +kernel), zGW_at 483 (by decide +kernel) (by decide +kernel), zGW_at 484 (by decide +kernel) (by decide +kernel), zGW_at 79 (by decide +kernel) (by decide +kernel), ⟨by decide +kernel, by decide +kernel, by decide +kernel⟩⟩
theorem kw_X11_310 : zVw RX11 310 mX1_mostHoles 0 := ⟨zGW_at 766 (by decide +kernel) (by decide +kernel), zGW_at 763 (by decide +kernel) (by decide +kernel), zGW_at 764 (by decide +kernel) (by decide +kernel), zGW_at 765 (by decide +kernel) (by decide +kernel), zGW_at 79 (by decide +kernel) (by decide +kernel), ⟨by decide +kernel, by decide +kernel, by decide +kernel⟩⟩
theorem kw_X1_79 : zSw RX1 79 mJ9_max_7cf53 2 := ⟨zGW_at 655 (by decide +kernel) (by decide +kernel), zGW_at 767 (by decide +kernel) (by decide +kernel), zGW_at 654 (by decide +kernel) (by decide +kernel), zGW_at 99 (by decide +kernel) (by decide +kernel), ⟨by decide +kernel, by decide +kernel, by decide +kernel⟩⟩
theorem kw_L_54 : zVw RL 54 mX11_pass 1 := ⟨zGW_at 771 (by decide +kernel) (by decide +kernel), zGW_at 768 (by decide +kernel) (by decide +kernel), zGW_at 769 (by decide +kernel) (by decide +kernel), zGW_at 770 (by decide +kernel) (by decide +kernel), zGW_at 78 (by decide +kernel) (by decide +kernel), ⟨by decide +kernel, by decide +kernel, by decide +kernel⟩⟩
theorem kw_X11_177 : zSw RX11 177 mX11_areDays 1 := ⟨zGW_at 774 (by decide +kernel) (by decide +kernel), zGW_at 772 (by decide +kernel) (by decide +kernel), zGW_at 773 (by decide +kernel) (by decide +kernel), zGW_at 78 (by decide +kernel) (by decide +kernel), ⟨by decide +kernel, by decide +kernel, by decide +kernel⟩⟩
theorem kw_L_58 : zVw RL 58 mX11_on 2 := ⟨zGW_at 778 (by decide +kernel) (by decide +kernel), zGW_at 775 (by decide +kernel) (by decide +kernel), zGW_at 776 (by decide +kernel) (by decide +kernel), zGW_at 777 (by decide +kernel) (by decide +kernel), zGW_at 78 (by decide +kernel) (by decide +kernel), ⟨by decide +kernel, by decide +kernel, by decide +kernel⟩⟩
theorem kw_L_62 : zVw RL 62 mX11_full 2 := ⟨zGW_at 782 (by decide +kernel) (by decide +kernel), zGW_at 779 (by decide +kernel) (by decide +kernel), zGW_at 780 (by decide +kernel) (by decide +kernel), zGW_at 781 (by decide +kernel) (by decide +kernel), zGW_at 78 (by decide +kernel) (by decide +kernel), ⟨by decide +kernel, by decide +kernel, by decide +kernel⟩⟩
theorem kw_X11_188 : zSw RX11 188 mJ6_bitCount_0f7a4 1 := ⟨zGW_at 404 (by decide +kernel) (by decide +kernel), zGW_at 783 (by decide +kernel) (by decide +kernel), zGW_at 403 (by decide +kernel) (by decide +kernel), zGW_at 94 (by decide +kernel) (by decide +kernel), ⟨by decide +kernel, by decide +kernel, by decide +kernel⟩⟩
theorem kw_X11_193 : zVw RX11 193 mX1_goDay 0 := ⟨zGW_at 753 (by decide +kernel) (by decide +kernel), zGW_at 784 (by decide +kernel) (by decide +kernel), zGW_at 751 (by decide +kernel) (by decide +kernel), zGW_at 752 (by decide +kernel) (by decide +kernel), zGW_at 79 (by decide +kernel) (by decide +kernel), ⟨by decide +kernel, by decide +kernel, by decide +kernel⟩⟩
theorem kw_L_66 : zVw RL 66 mX11_best 1 := ⟨zGW_at 788 (by decide +kernel) (by decide +kernel), zGW_at 785 (by decide +kernel) (by decide +kernel), zGW_at 786 (by decide +kernel) (by decide +kernel), zGW_at 787 (by decide +kernel) (by decide +kernel), zGW_at 78 (by decide +kernel) (by decide +kernel), ⟨by decide +kernel, by decide +kernel, by decide +kernel⟩⟩
theorem kw_X11_196 : zVw RX11 196 mX11_weighAllWays 0 := ⟨zGW_at 792 (by decide +kernel) (by decide +kernel), zGW_at 789 (by decide +kernel) (by decide +kernel), zGW_at 791 (by decide +kernel) (by decide +kernel), zGW_at 12 (by decide +kernel) (by decide +kernel), zGW_at 78 (by decide +kernel) (by decide +kernel), ⟨by decide +kernel, by decide +kernel, by decide +kernel⟩⟩
theorem kw_X11_313 : zVw RX11 313 mX11_firstBest 1 := ⟨zGW_at 796 (by decide +kernel) (by decide +kernel), zGW_at 793 (by decide +kernel) (by decide +kernel), zGW_at 795 (by decide +kernel) (by decide +kernel), zGW_at 13 (by decide +kernel) (by decide +kernel), zGW_at 78 (by decide +kernel) (by decide +kernel), ⟨by decide +kernel, by decide +kernel, by decide +kernel⟩⟩
theorem kw_X11_316 : zVw RX11 316 mX11_with 2 := ⟨zGW_at 800 (by decide +kernel) (by decide +kernel), zGW_at 797 (by decide +kernel) (by decide +kernel), zGW_at 799 (by decide +kernel) (by decide +kernel), zGW_at 14 (by decide +kernel) (by decide +kernel), zGW_at 78 (by decide +kernel) (by decide +kernel), ⟨by decide +kernel, by decide +kernel, by decide +kernel⟩⟩
theorem kw_X11_319 : zSw RX11 319 mJ9_max_7cf53 2 := ⟨zGW_at 655 (by decide +kernel) (by decide +kernel), zGW_at 801 (by decide +kernel) (by decide +kernel), zGW_at 654 (by decide +kernel) (by decide +kernel), zGW_at 99 (by decide +kernel) (by decide +kernel), ⟨by decide +kernel, by decide +kernel, by decide +kernel⟩⟩
theorem kw_X11_199 : zVw RX11 199 mX11_bestCard 1 := ⟨zGW_at 805 (by decide +kernel) (by decide +kernel), zGW_at 802 (by decide +kernel) (by decide +kernel), zGW_at 804 (by decide +kernel) (by decide +kernel), zGW_at 15 (by decide +kernel) (by decide +kernel), zGW_at 78 (by decide +kernel) (by decide +kernel), ⟨by decide +kernel, by decide +kernel, by decide +kernel⟩⟩
theorem kw_L_70 : zVw RL 70 mX11_see 3 := ⟨zGW_at 809 (by decide +kernel) (by decide +kernel), zGW_at 806 (by decide +kernel) (by decide +kernel), zGW_at 807 (by decide +kernel) (by decide +kernel), zGW_at 808 (by decide +kernel) (by decide +kernel), zGW_at 78 (by decide +kernel) (by decide +kernel), ⟨by decide +kernel, by decide +kernel, by decide +kernel⟩⟩
theorem kw_X11_209 : zVw RX11 209 mX8_add 3 := ⟨zGW_at 813 (by decide +kernel) (by decide +kernel), zGW_at 810 (by decide +kernel) (by decide +kernel), zGW_at 811 (by decide +kernel) (by decide +kernel), zGW_at 812 (by decide +kernel) (by decide +kernel), zGW_at 80 (by decide +kernel) (by decide +kernel), ⟨by decide +kernel, by decide +kernel, by decide +kernel⟩⟩
theorem kw_L_74 : zVw RL 74 mX11_had 1 := ⟨zGW_at 817 (by decide +kernel) (by decide +kernel), zGW_at 814 (by decide +kernel) (by decide +kernel), zGW_at 815 (by decide +kernel) (by decide +kernel), zGW_at 816 (by decide +kernel) (by decide +kernel), zGW_at 78 (by decide +kernel) (by decide +kernel), ⟨by decide +kernel, by decide +kernel, by decide +kernel⟩⟩
theorem kw_X11_215 : zVw RX11 215 mX11_trialMeetsSeen 0 := ⟨zGW_at 821 (by decide +kernel) (by decide +kernel), zGW_at 818 (by decide +kernel) (by decide +kernel), zGW_at 820 (by decide +kernel) (by decide +kernel), zGW_at 16 (by decide +kernel) (by decide +kernel), zGW_at 78 (by decide +kernel) (by decide +kernel), ⟨by decide +kernel, by decide +kernel, by decide +kernel⟩⟩
theorem kw_X11_324 : zVw RX11 324 mX8_greatestThird 0 := ⟨zGW_at 825 (by decide +kernel) (by decide +kernel), zGW_at 822 (by decide +kernel) (by decide +kernel), zGW_at 823 (by decide +kernel) (by decide +kernel), zGW_at 824 (by decide +kernel) (by decide +kernel), zGW_at 80 (by decide +kernel) (by decide +kernel), ⟨by decide +kernel, by decide +kernel, by decide +kernel⟩⟩
theorem kw_X8_31 : zSw RX8 31 mJ9_max_7cf53 2 := ⟨zGW_at 655 (by decide +kernel) (by decide +kernel), zGW_at 826 (by decide +kernel) (by decide +kernel), zGW_at 654 (by decide +kernel) (by decide +kernel), zGW_at 99 (by decide +kernel) (by decide +kernel), ⟨by decide +kernel, by decide +kernel, by decide +kernel⟩⟩
theorem kw_L_78 : zVw RL 78 mX11_can 2 := ⟨zGW_at 830 (by decide +kernel) (by decide +kernel), zGW_at 827 (by decide +kernel) (by decide +kernel), zGW_at 828 (by decide +kernel) (by decide +kernel), zGW_at 829 (by decide +kernel) (by decide +kernel), zGW_at 78 (by decide +kernel) (by decide +kernel), ⟨by decide +kernel, by decide +kernel, by decide +kernel⟩⟩
theorem kw_L_82 : zVw RL 82 mX11_odds 3 := ⟨zGW_at 834 (by decide +kernel) (by decide +kernel), zGW_at 831 (by decide +kernel) (by decide +kernel), zGW_at 832 (by decide +kernel) (by decide +kernel), zGW_at 833 (by decide +kernel) (by decide +kernel), zGW_at 78 (by decide +kernel) (by decide +kernel), ⟨by decide +kernel, by decide +kernel, by decide +kernel⟩⟩
theorem kw_X11_220 : zSw RX11 220 mX11_ofFraction 3 := ⟨zGW_at 838 (by decide +kernel) (by decide +kernel), zGW_at 836 (by decide +kernel) (by decide +kernel), zGW_at 837 (by decide +kernel) (by decide +kernel), zGW_at 78 (by decide +kernel) (by decide +kernel), ⟨by decide +kernel, by decide +kernel, by decide +kernel⟩⟩
theorem kw_X11_330 : zSw RX11 330 mX11_commonDivisor 2 := ⟨zGW_at 841 (by decide +kernel) (by decide +kernel), zGW_at 839 (by decide +kernel) (by decide +kernel), zGW_at 840 (by decide +kernel) (by decide +kernel), zGW_at 78 (by decide +kernel) (by decide +kernel), ⟨by decide +kernel, by decide +kernel, by decide +kernel⟩⟩
theorem kw_L_87 : zVw RL 87 mX11_mean 2 := ⟨zGW_at 845 (by decide +kernel) (by decide +kernel), zGW_at 842 (by decide +kernel) (by decide +kernel), zGW_at 843 (by decide +kernel) (by decide +kernel), zGW_at 844 (by decide +kernel) (by decide +kernel), zGW_at 78 (by decide +kernel) (by decide +kernel), ⟨by decide +kernel, by decide +kernel, by decide +kernel⟩⟩
theorem kw_L_92 : zVw RL 92 mX11_plan 2 := ⟨zGW_at 849 (by decide +kernel) (by decide +kernel), zGW_at 846 (by decide +kernel) (by decide +kernel), zGW_at 847 (by decide +kernel) (by decide +kernel), zGW_at 848 (by decide +kernel) (by decide +kernel), zGW_at 78 (by decide +kernel) (by decide +kernel), ⟨by decide +kernel, by decide +kernel, by decide +kernel⟩⟩
theorem kw_L_96 : zVw RL 96 mX11_ends 1 := ⟨zGW_at 853 (by decide +kernel) (by decide +kernel), zGW_at 850 (by decide +kernel) (by decide +kernel), zGW_at 851 (by decide +kernel) (by decide +kernel), zGW_at 852 (by decide +kernel) (by decide +kernel), zGW_at 78 (by decide +kernel) (by decide +kernel), ⟨by decide +kernel, by decide +kernel, by decide +kernel⟩⟩
theorem kw_X11_233 : zVw RX11 233 mX1_goPlanned 2 := ⟨zGW_at 857 (by decide +kernel) (by decide +kernel), zGW_at 854 (by decide +kernel) (by decide +kernel), zGW_at 855 (by decide +kernel) (by decide +kernel), zGW_at 856 (by decide +kernel) (by decide +kernel), zGW_at 79 (by decide +kernel) (by decide +kernel), ⟨by decide +kernel, by decide +kernel, by decide +kernel⟩⟩
theorem kw_X1_122 : zVw RX1 122 mX1_keepAtHome 2 := ⟨zGW_at 493 (by decide +kernel) (by decide +kernel), zGW_at 858 (by decide +kernel) (by decide +kernel), zGW_at 491 (by decide +kernel) (by decide +kernel), zGW_at 492 (by decide +kernel) (by decide +kernel), zGW_at 79 (by decide +kernel) (by decide +kernel), ⟨by decide +kernel, by decide +kernel, by decide +kernel⟩⟩
theorem kw_L_100 : zVw RL 100 mX11_book 2 := ⟨zGW_at 862 (by decide +kernel) (by decide +kernel), zGW_at 859 (by decide +kernel) (by decide +kernel), zGW_at 860 (by decide +kernel) (by decide +kernel), zGW_at 861 (by decide +kernel) (by decide +kernel), zGW_at 78 (by decide +kernel) (by decide +kernel), ⟨by decide +kernel, by decide +kernel, by decide +kernel⟩⟩
theorem kw_L_104 : zVw RL 104 mX11_looked 0 := ⟨zGW_at 866 (by decide +kernel) (by decide +kernel), zGW_at 863 (by decide +kernel) (by decide +kernel), zGW_at 864 (by decide +kernel) (by decide +kernel), zGW_at 865 (by decide +kernel) (by decide +kernel), zGW_at 78 (by decide +kernel) (by decide +kernel), ⟨by decide +kernel, by decide +kernel, by decide +kernel⟩⟩
theorem kw_L_108 : zVw RL 108 mX11_judge 2 := ⟨zGW_at 870 (by decide +kernel) (by decide +kernel), zGW_at 867 (by decide +kernel) (by decide +kernel), zGW_at 868 (by decide +kernel) (by decide +kernel), zGW_at 869 (by decide +kernel) (by decide +kernel), zGW_at 78 (by decide +kernel) (by decide +kernel), ⟨by decide +kernel, by decide +kernel, by decide +kernel⟩⟩
theorem kw_X11_239 : zSw RX11 239 mX11_isTape 1 := ⟨zGW_at 873 (by decide +kernel) (by decide +kernel), zGW_at 871 (by decide +kernel) (by decide +kernel), zGW_at 872 (by decide +kernel) (by decide +kernel), zGW_at 78 (by decide +kernel) (by decide +kernel), ⟨by decide +kernel, by decide +kernel, by decide +kernel⟩⟩
theorem kw_X11_242 : zVw RX11 242 mX11_isPlace 2 := ⟨zGW_at 877 (by decide +kernel) (by decide +kernel), zGW_at 874 (by decide +kernel) (by decide +kernel), zGW_at 876 (by decide +kernel) (by decide +kernel), zGW_at 17 (by decide +kernel) (by decide +kernel), zGW_at 78 (by decide +kernel) (by decide +kernel), ⟨by decide +kernel, by decide +kernel, by decide +kernel⟩⟩
theorem kw_L_112 : zVw RL 112 mX11_image 0 := ⟨zGW_at 881 (by decide +kernel) (by decide +kernel), zGW_at 878 (by decide +kernel) (by decide +kernel), zGW_at 879 (by decide +kernel) (by decide +kernel), zGW_at 880 (by decide +kernel) (by decide +kernel), zGW_at 78 (by decide +kernel) (by decide +kernel), ⟨by decide +kernel, by decide +kernel, by decide +kernel⟩⟩
theorem kw_X11_246 : zVw RX11 246 mX1_become 1 := ⟨zGW_at 885 (by decide +kernel) (by decide +kernel), zGW_at 882 (by decide +kernel) (by decide +kernel), zGW_at 883 (by decide +kernel) (by decide +kernel), zGW_at 884 (by decide +kernel) (by decide +kernel), zGW_at 79 (by decide +kernel) (by decide +kernel), ⟨by decide +kernel, by decide +kernel, by decide +kernel⟩⟩
theorem kw_X1_42 : zVw RX1 42 mX1_follow 1 := ⟨zGW_at 742 (by decide +kernel) (by decide +kernel), zGW_at 886 (by decide +kernel) (by decide +kernel), zGW_at 740 (by decide +kernel) (by decide +kernel), zGW_at 741 (by decide +kernel) (by decide +kernel), zGW_at 79 (by decide +kernel) (by decide +kernel), ⟨by decide +kernel, by decide +kernel, by decide +kernel⟩⟩
theorem kw_X1_46 : zVw RX1 46 mX8_become 1 := ⟨zGW_at 890 (by decide +kernel) (by decide +kernel), zGW_at 887 (by decide +kernel) (by decide +kernel), zGW_at 888 (by decide +kernel) (by decide +kernel), zGW_at 889 (by decide +kernel) (by decide +kernel), zGW_at 80 (by decide +kernel) (by decide +kernel), ⟨by decide +kernel, by decide +kernel, by decide +kernel⟩⟩
theorem kw_L_116 : zVw RL 116 mX11_undo 0 := ⟨zGW_at 895 (by decide +kernel) (by decide +kernel), zGW_at 892 (by decide +kernel) (by decide +kernel), zGW_at 893 (by decide +kernel) (by decide +kernel), zGW_at 894 (by decide +kernel) (by decide +kernel), zGW_at 78 (by decide +kernel) (by decide +kernel), ⟨by decide +kernel, by decide +kernel, by decide +kernel⟩⟩
theorem kw_L_120 : zVw RL 120 mX11_act 3 := ⟨zGW_at 899 (by decide +kernel) (by decide +kernel), zGW_at 896 (by decide +kernel) (by decide +kernel), zGW_at 897 (by decide +kernel) (by decide +kernel), zGW_at 898 (by decide +kernel) (by decide +kernel), zGW_at 78 (by decide +kernel) (by decide +kernel), ⟨by decide +kernel, by decide +kernel, by decide +kernel⟩⟩
theorem kw_X11_253 : zVw RX11 253 mJ4_setLength_d00df 1 := ⟨zGW_at 903 (by decide +kernel) (by decide +kernel), zGW_at 900 (by decide +kernel) (by decide +kernel), zGW_at 901 (by decide +kernel) (by decide +kernel), zGW_at 902 (by decide +kernel) (by decide +kernel), zGW_at 82 (by decide +kernel) (by decide +kernel), ⟨by decide +kernel, by decide +kernel, by decide +kernel⟩⟩
theorem kw_J5_114 : zSw RJ5 114 mJ8_newLength_cabcc 3 := ⟨zGW_at 917 (by decide +kernel) (by decide +kernel), zGW_at 915 (by decide +kernel) (by decide +kernel), zGW_at 916 (by decide +kernel) (by decide +kernel), zGW_at 102 (by decide +kernel) (by decide +kernel), ⟨by decide +kernel, by decide +kernel, by decide +kernel⟩⟩
theorem kw_J8_194 : zSw RJ8 194 mJ9_max_7cf53 2 := ⟨zGW_at 655 (by decide +kernel) (by decide +kernel), zGW_at 918 (by decide +kernel) (by decide +kernel), zGW_at 654 (by decide +kernel) (by decide +kernel), zGW_at 99 (by decide +kernel) (by decide +kernel), ⟨by decide +kernel, by decide +kernel, by decide +kernel⟩⟩
theorem kw_J8_201 : zSw RJ8 201 mJ8_hugeLength_7cf53 2 := ⟨zGW_at 922 (by decide +kernel) (by decide +kernel), zGW_at 920 (by decide +kernel) (by decide +kernel), zGW_at 921 (by decide +kernel) (by decide +kernel), zGW_at 102 (by decide +kernel) (by decide +kernel), ⟨by decide +kernel, by decide +kernel, by decide +kernel⟩⟩
theorem kw_J5_108 : zSw RJ5 108 mJ7_copyOf_9075b 2 := ⟨zGW_at 926 (by decide +kernel) (by decide +kernel), zGW_at 924 (by decide +kernel) (by decide +kernel), zGW_at 925 (by decide +kernel) (by decide +kernel), zGW_at 85 (by decide +kernel) (by decide +kernel), ⟨by decide +kernel, by decide +kernel, by decide +kernel⟩⟩
theorem kw_J7_304 : zSw RJ7 304 mJ9_min_7cf53 2 := ⟨zGW_at 658 (by decide +kernel) (by decide +kernel), zGW_at 934 (by decide +kernel) (by decide +kernel), zGW_at 657 (by decide +kernel) (by decide +kernel), zGW_at 99 (by decide +kernel) (by decide +kernel), ⟨by decide +kernel, by decide +kernel, by decide +kernel⟩⟩
theorem kw_J5_133 : zSw RJ5 133 mJ1_fillNull_b72d1 3 := ⟨zGW_at 943 (by decide +kernel) (by decide +kernel), zGW_at 941 (by decide +kernel) (by decide +kernel), zGW_at 942 (by decide +kernel) (by decide +kernel), zGW_at 97 (by decide +kernel) (by decide +kernel), ⟨by decide +kernel, by decide +kernel, by decide +kernel⟩⟩
theorem kw_J1_236 : zSw RJ1 236 mJ7_fill_eb02e 4 := ⟨zGW_at 946 (by decide +kernel) (by decide +kernel), zGW_at 944 (by decide +kernel) (by decide +kernel), zGW_at 945 (by decide +kernel) (by decide +kernel), zGW_at 85 (by decide +kernel) (by decide +kernel), ⟨by decide +kernel, by decide +kernel, by decide +kernel⟩⟩
theorem kw_J7_13 : zSw RJ7 13 mJ7_rangeCheck_23922 3 := ⟨zGW_at 949 (by decide +kernel) (by decide +kernel), zGW_at 947 (by decide +kernel) (by decide +kernel), zGW_at 948 (by decide +kernel) (by decide +kernel), zGW_at 85 (by decide +kernel) (by decide +kernel), ⟨by decide +kernel, by decide +kernel, by decide +kernel⟩⟩
theorem kw_J5_137 : zSw RJ5 137 mJ2_fillNull_b72d1 3 := ⟨zGW_at 952 (by decide +kernel) (by decide +kernel), zGW_at 950 (by decide +kernel) (by decide +kernel), zGW_at 951 (by decide +kernel) (by decide +kernel), zGW_at 84 (by decide +kernel) (by decide +kernel), ⟨by decide +kernel, by decide +kernel, by decide +kernel⟩⟩
theorem kw_J2_380 : zSw RJ2 380 mJ7_fill_eb02e 4 := ⟨zGW_at 946 (by decide +kernel) (by decide +kernel), zGW_at 953 (by decide +kernel) (by decide +kernel), zGW_at 945 (by decide +kernel) (by decide +kernel), zGW_at 85 (by decide +kernel) (by decide +kernel), ⟨by decide +kernel, by decide +kernel, by decide +kernel⟩⟩
theorem kw_X11_256 : zVw RX11 256 mX2_toils 2 := ⟨zGW_at 1013 (by decide +kernel) (by decide +kernel), zGW_at 954 (by decide +kernel) (by decide +kernel), zGW_at 955 (by decide +kernel) (by decide +kernel), zGW_at 956 (by decide +kernel) (by decide +kernel), zGW_at 87 (by decide +kernel) (by decide +kernel), ⟨by decide +kernel, by decide +kernel, by decide +kernel⟩⟩
theorem kw_X0_19 : zVw RX0 19 mJ4_append_cf468 1 := ⟨zGW_at 964 (by decide +kernel) (by decide +kernel), zGW_at 961 (by decide +kernel) (by decide +kernel), zGW_at 962 (by decide +kernel) (by decide +kernel), zGW_at 963 (by decide +kernel) (by decide +kernel), zGW_at 82 (by decide +kernel) (by decide +kernel), ⟨by decide +kernel, by decide +kernel, by decide +kernel⟩⟩
theorem kw_J5_191 : zSw RJ5 191 mJ1_canEncode_fc78d 1 := ⟨zGW_at 970 (by decide +kernel) (by decide +kernel), zGW_at 968 (by decide +kernel) (by decide +kernel), zGW_at 969 (by decide +kernel) (by decide +kernel), zGW_at 97 (by decide +kernel) (by decide +kernel), ⟨by decide +kernel, by decide +kernel, by decide +kernel⟩⟩
theorem kw_J5_125 : zSw RJ5 125 mJ1_inflate_0e8fd 5 := ⟨zGW_at 977 (by decide +kernel) (by decide +kernel), zGW_at 975 (by decide +kernel) (by decide +kernel), zGW_at 976 (by decide +kernel) (by decide +kernel), zGW_at 97 (by decide +kernel) (by decide +kernel), ⟨by decide +kernel, by decide +kernel, by decide +kernel⟩⟩
theorem kw_J1_240 : zSw RJ1 240 mJ2_inflate_0e8fd 5 := ⟨zGW_at 980 (by decide +kernel) (by decide +kernel), zGW_at 978 (by decide +kernel) (by decide +kernel), zGW_at 979 (by decide +kernel) (by decide +kernel), zGW_at 84 (by decide +kernel) (by decide +kernel), ⟨by decide +kernel, by decide +kernel, by decide +kernel⟩⟩
theorem kw_J2_173 : zSw RJ2 173 mJ2_checkBoundsOffCount_d044e 3 := ⟨zGW_at 983 (by decide +kernel) (by decide +kernel), zGW_at 981 (by decide +kernel) (by decide +kernel), zGW_at 982 (by decide +kernel) (by decide +kernel), zGW_at 84 (by decide +kernel) (by decide +kernel), ⟨by decide +kernel, by decide +kernel, by decide +kernel⟩⟩
theorem kw_J2_419 : zSw RJ2 419 mJ0_checkBoundsOffCount_cabcc 3 := ⟨zGW_at 986 (by decide +kernel) (by decide +kernel), zGW_at 984 (by decide +kernel) (by decide +kernel), zGW_at 985 (by decide +kernel) (by decide +kernel), zGW_at 83 (by decide +kernel) (by decide +kernel), ⟨by decide +kernel, by decide +kernel, by decide +kernel⟩⟩
theorem kw_J0_1065 : zSw RJ0 1065 mJ3_checkFromIndexSize_8c36e 4 := ⟨zGW_at 989 (by decide +kernel) (by decide +kernel), zGW_at 987 (by decide +kernel) (by decide +kernel), zGW_at 988 (by decide +kernel) (by decide +kernel), zGW_at 98 (by decide +kernel) (by decide +kernel), ⟨by decide +kernel, by decide +kernel, by decide +kernel⟩⟩
theorem kw_J2_111 : zSw RJ2 111 mJ2_putChar_b72d1 3 := ⟨zGW_at 992 (by decide +kernel) (by decide +kernel), zGW_at 990 (by decide +kernel) (by decide +kernel), zGW_at 991 (by decide +kernel) (by decide +kernel), zGW_at 84 (by decide +kernel) (by decide +kernel), ⟨by decide +kernel, by decide +kernel, by decide +kernel⟩⟩
theorem kw_J5_197 : zSw RJ5 197 mJ2_putCharSB_b72d1 3 := ⟨zGW_at 995 (by decide +kernel) (by decide +kernel), zGW_at 993 (by decide +kernel) (by decide +kernel), zGW_at 994 (by decide +kernel) (by decide +kernel), zGW_at 84 (by decide +kernel) (by decide +kernel), ⟨by decide +kernel, by decide +kernel, by decide +kernel⟩⟩
theorem kw_X3_18 : zVw RX3 18 mJ4_append_cf468 1 := ⟨zGW_at 964 (by decide +kernel) (by decide +kernel), zGW_at 1002 (by decide +kernel) (by decide +kernel), zGW_at 962 (by decide +kernel) (by decide +kernel), zGW_at 963 (by decide +kernel) (by decide +kernel), zGW_at 82 (by decide +kernel) (by decide +kernel), ⟨by decide +kernel, by decide +kernel, by decide +kernel⟩⟩
theorem kw_X9_13 : zVw RX9 13 mJ4_append_cf468 1 := ⟨zGW_at 964 (by decide +kernel) (by decide +kernel), zGW_at 1010 (by decide +kernel) (by decide +kernel), zGW_at 962 (by decide +kernel) (by decide +kernel), zGW_at 963 (by decide +kernel) (by decide +kernel), zGW_at 82 (by decide +kernel) (by decide +kernel), ⟨by decide +kernel, by decide +kernel, by decide +kernel⟩⟩
theorem kw_X2_18 : zVw RX2 18 mJ4_append_cf468 1 := ⟨zGW_at 964 (by decide +kernel) (by decide +kernel), zGW_at 1014 (by decide +kernel) (by decide +kernel), zGW_at 962 (by decide +kernel) (by decide +kernel), zGW_at 963 (by decide +kernel) (by decide +kernel), zGW_at 82 (by decide +kernel) (by decide +kernel), ⟨by decide +kernel, by decide +kernel, by decide +kernel⟩⟩
theorem kw_X11_260 : zVw RX11 260 mX2_minds 2 := ⟨zGW_at 1037 (by decide +kernel) (by decide +kernel), zGW_at 1015 (by decide +kernel) (by decide +kernel), zGW_at 1016 (by decide +kernel) (by decide +kernel), zGW_at 1017 (by decide +kernel) (by decide +kernel), zGW_at 87 (by decide +kernel) (by decide +kernel), ⟨by decide +kernel, by decide +kernel, by decide +kernel⟩⟩
theorem kw_X4_13 : zVw RX4 13 mJ4_append_cf468 1 := ⟨zGW_at 964 (by decide +kernel) (by decide +kernel), zGW_at 1025 (by decide +kernel) (by decide +kernel), zGW_at 962 (by decide +kernel) (by decide +kernel), zGW_at 963 (by decide +kernel) (by decide +kernel), zGW_at 82 (by decide +kernel) (by decide +kernel), ⟨by decide +kernel, by decide +kernel, by decide +kernel⟩⟩
theorem kw_X2_24 : zVw RX2 24 mX2_toils 2 := ⟨zGW_at 1013 (by decide +kernel) (by decide +kernel), zGW_at 1038 (by decide +kernel) (by decide +kernel), zGW_at 955 (by decide +kernel) (by decide +kernel), zGW_at 956 (by decide +kernel) (by decide +kernel), zGW_at 87 (by decide +kernel) (by decide +kernel), ⟨by decide +kernel, by decide +kernel, by decide +kernel⟩⟩
theorem kw_X11_263 : zVw RX11 263 mX2_tells 2 := ⟨zGW_at 1062 (by decide +kernel) (by decide +kernel), zGW_at 1039 (by decide +kernel) (by decide +kernel), zGW_at 1040 (by decide +kernel) (by decide +kernel), zGW_at 1041 (by decide +kernel) (by decide +kernel), zGW_at 87 (by decide +kernel) (by decide +kernel), ⟨by decide +kernel, by decide +kernel, by decide +kernel⟩⟩
theorem kw_X5_19 : zVw RX5 19 mJ4_append_cf468 1 := ⟨zGW_at 964 (by decide +kernel) (by decide +kernel), zGW_at 1049 (by decide +kernel) (by decide +kernel), zGW_at 962 (by decide +kernel) (by decide +kernel), zGW_at 963 (by decide +kernel) (by decide +kernel), zGW_at 82 (by decide +kernel) (by decide +kernel), ⟨by decide +kernel, by decide +kernel, by decide +kernel⟩⟩
theorem kw_X6_9 : zVw RX6 9 mJ4_append_cf468 1 := ⟨zGW_at 964 (by decide +kernel) (by decide +kernel), zGW_at 1056 (by decide +kernel) (by decide +kernel), zGW_at 962 (by decide +kernel) (by decide +kernel), zGW_at 963 (by decide +kernel) (by decide +kernel), zGW_at 82 (by decide +kernel) (by decide +kernel), ⟨by decide +kernel, by decide +kernel, by decide +kernel⟩⟩
theorem kw_X2_28 : zVw RX2 28 mX2_minds 2 := ⟨zGW_at 1037 (by decide +kernel) (by decide +kernel), zGW_at 1063 (by decide +kernel) (by decide +kernel), zGW_at 1016 (by decide +kernel) (by decide +kernel), zGW_at 1017 (by decide +kernel) (by decide +kernel), zGW_at 87 (by decide +kernel) (by decide +kernel), ⟨by decide +kernel, by decide +kernel, by decide +kernel⟩⟩
theorem kw_L_124 : zVw RL 124 mX11_trace 1 := ⟨zGW_at 1067 (by decide +kernel) (by decide +kernel), zGW_at 1064 (by decide +kernel) (by decide +kernel), zGW_at 1065 (by decide +kernel) (by decide +kernel), zGW_at 1066 (by decide +kernel) (by decide +kernel), zGW_at 78 (by decide +kernel) (by decide +kernel), ⟨by decide +kernel, by decide +kernel, by decide +kernel⟩⟩
theorem kw_X11_266 : zVw RX11 266 mJ4_length_8abf5 0 := ⟨zGW_at 1071 (by decide +kernel) (by decide +kernel), zGW_at 1068 (by decide +kernel) (by decide +kernel), zGW_at 1069 (by decide +kernel) (by decide +kernel), zGW_at 1070 (by decide +kernel) (by decide +kernel), zGW_at 82 (by decide +kernel) (by decide +kernel), ⟨by decide +kernel, by decide +kernel, by decide +kernel⟩⟩
theorem kw_X11_269 : zVw RX11 269 mJ4_charAt_5068e 1 := ⟨zGW_at 1078 (by decide +kernel) (by decide +kernel), zGW_at 1075 (by decide +kernel) (by decide +kernel), zGW_at 1076 (by decide +kernel) (by decide +kernel), zGW_at 1077 (by decide +kernel) (by decide +kernel), zGW_at 82 (by decide +kernel) (by decide +kernel), ⟨by decide +kernel, by decide +kernel, by decide +kernel⟩⟩
theorem kw_J5_138 : zSw RJ5 138 mJ9_min_7cf53 2 := ⟨zGW_at 658 (by decide +kernel) (by decide +kernel), zGW_at 1082 (by decide +kernel) (by decide +kernel), zGW_at 657 (by decide +kernel) (by decide +kernel), zGW_at 99 (by decide +kernel) (by decide +kernel), ⟨by decide +kernel, by decide +kernel, by decide +kernel⟩⟩
theorem kw_J5_144 : zSw RJ5 144 mJ0_checkIndex_df160 2 := ⟨zGW_at 591 (by decide +kernel) (by decide +kernel), zGW_at 1083 (by decide +kernel) (by decide +kernel), zGW_at 590 (by decide +kernel) (by decide +kernel), zGW_at 83 (by decide +kernel) (by decide +kernel), ⟨by decide +kernel, by decide +kernel, by decide +kernel⟩⟩
theorem kw_J5_148 : zSw RJ5 148 mJ2_getChar_3b067 2 := ⟨zGW_at 609 (by decide +kernel) (by decide +kernel), zGW_at 1084 (by decide +kernel) (by decide +kernel), zGW_at 608 (by decide +kernel) (by decide +kernel), zGW_at 84 (by decide +kernel) (by decide +kernel), ⟨by decide +kernel, by decide +kernel, by decide +kernel⟩⟩
theorem kw_L_128 : zVw RL 128 mX11_taken 2 := ⟨zGW_at 1088 (by decide +kernel) (by decide +kernel), zGW_at 1085 (by decide +kernel) (by decide +kernel), zGW_at 1086 (by decide +kernel) (by decide +kernel), zGW_at 1087 (by decide +kernel) (by decide +kernel), zGW_at 78 (by decide +kernel) (by decide +kernel), ⟨by decide +kernel, by decide +kernel, by decide +kernel⟩⟩
theorem kw_X11_273 : zSw RX11 273 mX11_isUnder 2 := ⟨zGW_at 1091 (by decide +kernel) (by decide +kernel), zGW_at 1089 (by decide +kernel) (by decide +kernel), zGW_at 1090 (by decide +kernel) (by decide +kernel), zGW_at 78 (by decide +kernel) (by decide +kernel), ⟨by decide +kernel, by decide +kernel, by decide +kernel⟩⟩
theorem kw_L_132 : zVw RL 132 mX11_count 1 := ⟨zGW_at 1095 (by decide +kernel) (by decide +kernel), zGW_at 1092 (by decide +kernel) (by decide +kernel), zGW_at 1093 (by decide +kernel) (by decide +kernel), zGW_at 1094 (by decide +kernel) (by decide +kernel), zGW_at 78 (by decide +kernel) (by decide +kernel), ⟨by decide +kernel, by decide +kernel, by decide +kernel⟩⟩
theorem kw_L_136 : zVw RL 136 mX11_tape 3 := ⟨zGW_at 1099 (by decide +kernel) (by decide +kernel), zGW_at 1096 (by decide +kernel) (by decide +kernel), zGW_at 1097 (by decide +kernel) (by decide +kernel), zGW_at 1098 (by decide +kernel) (by decide +kernel), zGW_at 78 (by decide +kernel) (by decide +kernel), ⟨by decide +kernel, by decide +kernel, by decide +kernel⟩⟩
theorem kw_L_142 : zVw RL 142 mX11_item 3 := ⟨zGW_at 1103 (by decide +kernel) (by decide +kernel), zGW_at 1100 (by decide +kernel) (by decide +kernel), zGW_at 1101 (by decide +kernel) (by decide +kernel), zGW_at 1102 (by decide +kernel) (by decide +kernel), zGW_at 78 (by decide +kernel) (by decide +kernel), ⟨by decide +kernel, by decide +kernel, by decide +kernel⟩⟩
theorem kw_X11_277 : zSw RX11 277 mX11_fitted 2 := ⟨zGW_at 1106 (by decide +kernel) (by decide +kernel), zGW_at 1104 (by decide +kernel) (by decide +kernel), zGW_at 1105 (by decide +kernel) (by decide +kernel), zGW_at 78 (by decide +kernel) (by decide +kernel), ⟨by decide +kernel, by decide +kernel, by decide +kernel⟩⟩
theorem kw_L_147 : zVw RL 147 mX11_read 2 := ⟨zGW_at 1110 (by decide +kernel) (by decide +kernel), zGW_at 1107 (by decide +kernel) (by decide +kernel), zGW_at 1108 (by decide +kernel) (by decide +kernel), zGW_at 1109 (by decide +kernel) (by decide +kernel), zGW_at 78 (by decide +kernel) (by decide +kernel), ⟨by decide +kernel, by decide +kernel, by decide +kernel⟩⟩
theorem kw_L_151 : zVw RL 151 mX11_shift 5 := ⟨zGW_at 1114 (by decide +kernel) (by decide +kernel), zGW_at 1111 (by decide +kernel) (by decide +kernel), zGW_at 1112 (by decide +kernel) (by decide +kernel), zGW_at 1113 (by decide +kernel) (by decide +kernel), zGW_at 78 (by decide +kernel) (by decide +kernel), ⟨by decide +kernel, by decide +kernel, by decide +kernel⟩⟩
theorem kw_L_12 : zIw RL 12 mX12_init 0 := ⟨zGW_at 1120 (by decide +kernel) (by decide +kernel), zGW_at 1118 (by decide +kernel) (by decide +kernel), zGW_at 1119 (by decide +kernel) (by decide +kernel), rfl, rfl, zGW_at 86 (by decide +kernel) (by decide +kernel), ⟨by decide +kernel, by decide +kernel, by decide +kernel⟩⟩
theorem kw_L_17 : zVw RL 17 mX12_worker 2 := ⟨zGW_at 1337 (by decide +kernel) (by decide +kernel), zGW_at 1334 (by decide +kernel) (by decide +kernel), zGW_at 1335 (by decide +kernel) (by decide +kernel), zGW_at 1336 (by decide +kernel) (by decide +kernel), zGW_at 86 (by decide +kernel) (by decide +kernel), ⟨by decide +kernel, by decide +kernel, by decide +kernel⟩⟩
theorem kw_X12_228 : zVw RX12 228 mX12_in 3 := ⟨zGW_at 1341 (by decide +kernel) (by decide +kernel), zGW_at 1338 (by decide +kernel) (by decide +kernel), zGW_at 1340 (by decide +kernel) (by decide +kernel), zGW_at 18 (by decide +kernel) (by decide +kernel), zGW_at 86 (by decide +kernel) (by decide +kernel), ⟨by decide +kernel, by decide +kernel, by decide +kernel⟩⟩
theorem kw_L_25 : zVw RL 25 mX12_set 2 := ⟨zGW_at 1345 (by decide +kernel) (by decide +kernel), zGW_at 1342 (by decide +kernel) (by decide +kernel), zGW_at 1343 (by decide +kernel) (by decide +kernel), zGW_at 1344 (by decide +kernel) (by decide +kernel), zGW_at 86 (by decide +kernel) (by decide +kernel), ⟨by decide +kernel, by decide +kernel, by decide +kernel⟩⟩
theorem kw_X12_232 : zVw RX12 232 mX12_isWorker 1 := ⟨zGW_at 1349 (by decide +kernel) (by decide +kernel), zGW_at 1346 (by decide +kernel) (by decide +kernel), zGW_at 1348 (by decide +kernel) (by decide +kernel), zGW_at 19 (by decide +kernel) (by decide +kernel), zGW_at 86 (by decide +kernel) (by decide +kernel), ⟨by decide +kernel, by decide +kernel, by decide +kernel⟩⟩
theorem kw_X12_236 : zVw RX12 236 mX12_isHoles 1 := ⟨zGW_at 1353 (by decide +kernel) (by decide +kernel), zGW_at 1350 (by decide +kernel) (by decide +kernel), zGW_at 1352 (by decide +kernel) (by decide +kernel), zGW_at 20 (by decide +kernel) (by decide +kernel), zGW_at 86 (by decide +kernel) (by decide +kernel), ⟨by decide +kernel, by decide +kernel, by decide +kernel⟩⟩
theorem kw_L_29 : zVw RL 29 mX12_swap 2 := ⟨zGW_at 1357 (by decide +kernel) (by decide +kernel), zGW_at 1354 (by decide +kernel) (by decide +kernel), zGW_at 1355 (by decide +kernel) (by decide +kernel), zGW_at 1356 (by decide +kernel) (by decide +kernel), zGW_at 86 (by decide +kernel) (by decide +kernel), ⟨by decide +kernel, by decide +kernel, by decide +kernel⟩⟩
theorem kw_X12_239 : zVw RX12 239 mX12_swaps 2 := ⟨zGW_at 1361 (by decide +kernel) (by decide +kernel), zGW_at 1358 (by decide +kernel) (by decide +kernel), zGW_at 1360 (by decide +kernel) (by decide +kernel), zGW_at 21 (by decide +kernel) (by decide +kernel), zGW_at 86 (by decide +kernel) (by decide +kernel), ⟨by decide +kernel, by decide +kernel, by decide +kernel⟩⟩
theorem kw_L_34 : zVw RL 34 mX12_stay 2 := ⟨zGW_at 1365 (by decide +kernel) (by decide +kernel), zGW_at 1362 (by decide +kernel) (by decide +kernel), zGW_at 1363 (by decide +kernel) (by decide +kernel), zGW_at 1364 (by decide +kernel) (by decide +kernel), zGW_at 86 (by decide +kernel) (by decide +kernel), ⟨by decide +kernel, by decide +kernel, by decide +kernel⟩⟩
theorem kw_X12_224 : zVw RX12 224 mX12_has 2 := ⟨zGW_at 1369 (by decide +kernel) (by decide +kernel), zGW_at 1366 (by decide +kernel) (by decide +kernel), zGW_at 1368 (by decide +kernel) (by decide +kernel), zGW_at 22 (by decide +kernel) (by decide +kernel), zGW_at 86 (by decide +kernel) (by decide +kernel), ⟨by decide +kernel, by decide +kernel, by decide +kernel⟩⟩
theorem kw_X12_243 : zVw RX12 243 mX12_rests 2 := ⟨zGW_at 1373 (by decide +kernel) (by decide +kernel), zGW_at 1370 (by decide +kernel) (by decide +kernel), zGW_at 1372 (by decide +kernel) (by decide +kernel), zGW_at 23 (by decide +kernel) (by decide +kernel), zGW_at 86 (by decide +kernel) (by decide +kernel), ⟨by decide +kernel, by decide +kernel, by decide +kernel⟩⟩
theorem kw_L_39 : zVw RL 39 mX12_row 3 := ⟨zGW_at 1377 (by decide +kernel) (by decide +kernel), zGW_at 1374 (by decide +kernel) (by decide +kernel), zGW_at 1375 (by decide +kernel) (by decide +kernel), zGW_at 1376 (by decide +kernel) (by decide +kernel), zGW_at 86 (by decide +kernel) (by decide +kernel), ⟨by decide +kernel, by decide +kernel, by decide +kernel⟩⟩
theorem kw_L_44 : zVw RL 44 mX12_feed 1 := ⟨zGW_at 1381 (by decide +kernel) (by decide +kernel), zGW_at 1378 (by decide +kernel) (by decide +kernel), zGW_at 1379 (by decide +kernel) (by decide +kernel), zGW_at 1380 (by decide +kernel) (by decide +kernel), zGW_at 86 (by decide +kernel) (by decide +kernel), ⟨by decide +kernel, by decide +kernel, by decide +kernel⟩⟩
theorem kw_L_49 : zVw RL 49 mX12_works 0 := ⟨zGW_at 1385 (by decide +kernel) (by decide +kernel), zGW_at 1382 (by decide +kernel) (by decide +kernel), zGW_at 1383 (by decide +kernel) (by decide +kernel), zGW_at 1384 (by decide +kernel) (by decide +kernel), zGW_at 86 (by decide +kernel) (by decide +kernel), ⟨by decide +kernel, by decide +kernel, by decide +kernel⟩⟩
theorem kw_X12_290 : zVw RX12 290 mX12_goesText 1 := ⟨zGW_at 1389 (by decide +kernel) (by decide +kernel), zGW_at 1386 (by decide +kernel) (by decide +kernel), zGW_at 1388 (by decide +kernel) (by decide +kernel), zGW_at 24 (by decide +kernel) (by decide +kernel), zGW_at 86 (by decide +kernel) (by decide +kernel), ⟨by decide +kernel, by decide +kernel, by decide +kernel⟩⟩
theorem kw_X12_287 : zVw RX12 287 mX12_takesClause 1 := ⟨zGW_at 1393 (by decide +kernel) (by decide +kernel), zGW_at 1390 (by decide +kernel) (by decide +kernel), zGW_at 1392 (by decide +kernel) (by decide +kernel), zGW_at 25 (by decide +kernel) (by decide +kernel), zGW_at 86 (by decide +kernel) (by decide +kernel), ⟨by decide +kernel, by decide +kernel, by decide +kernel⟩⟩
theorem kw_X12_281 : zVw RX12 281 mX12_takesHead 1 := ⟨zGW_at 1397 (by decide +kernel) (by decide +kernel), zGW_at 1394 (by decide +kernel) (by decide +kernel), zGW_at 1396 (by decide +kernel) (by decide +kernel), zGW_at 26 (by decide +kernel) (by decide +kernel), zGW_at 86 (by decide +kernel) (by decide +kernel), ⟨by decide +kernel, by decide +kernel, by decide +kernel⟩⟩
theorem kw_X12_247 : zVw RX12 247 mX12_next 0 := ⟨zGW_at 1401 (by decide +kernel) (by decide +kernel), zGW_at 1398 (by decide +kernel) (by decide +kernel), zGW_at 1400 (by decide +kernel) (by decide +kernel), zGW_at 27 (by decide +kernel) (by decide +kernel), zGW_at 86 (by decide +kernel) (by decide +kernel), ⟨by decide +kernel, by decide +kernel, by decide +kernel⟩⟩
theorem kw_X12_278 : zVw RX12 278 mX12_takesWord 2 := ⟨zGW_at 1405 (by decide +kernel) (by decide +kernel), zGW_at 1402 (by decide +kernel) (by decide +kernel), zGW_at 1404 (by decide +kernel) (by decide +kernel), zGW_at 28 (by decide +kernel) (by decide +kernel), zGW_at 86 (by decide +kernel) (by decide +kernel), ⟨by decide +kernel, by decide +kernel, by decide +kernel⟩⟩
theorem kw_X12_251 : zVw RX12 251 mX12_takes 1 := ⟨zGW_at 1409 (by decide +kernel) (by decide +kernel), zGW_at 1406 (by decide +kernel) (by decide +kernel), zGW_at 1408 (by decide +kernel) (by decide +kernel), zGW_at 29 (by decide +kernel) (by decide +kernel), zGW_at 86 (by decide +kernel) (by decide +kernel), ⟨by decide +kernel, by decide +kernel, by decide +kernel⟩⟩
theorem kw_X12_266 : zVw RX12 266 mX12_takesNumber 0 := ⟨zGW_at 1413 (by decide +kernel) (by decide +kernel), zGW_at 1410 (by decide +kernel) (by decide +kernel), zGW_at 1412 (by decide +kernel) (by decide +kernel), zGW_at 30 (by decide +kernel) (by decide +kernel), zGW_at 86 (by decide +kernel) (by decide +kernel), ⟨by decide +kernel, by decide +kernel, by decide +kernel⟩⟩
theorem kw_X12_254 : zVw RX12 254 mX12_isDigit 0 := ⟨zGW_at 1417 (by decide +kernel) (by decide +kernel), zGW_at 1414 (by decide +kernel) (by decide +kernel), zGW_at 1416 (by decide +kernel) (by decide +kernel), zGW_at 31 (by decide +kernel) (by decide +kernel), zGW_at 86 (by decide +kernel) (by decide +kernel), ⟨by decide +kernel, by decide +kernel, by decide +kernel⟩⟩
theorem kw_X12_284 : zVw RX12 284 mX12_takesE 1 := ⟨zGW_at 1421 (by decide +kernel) (by decide +kernel), zGW_at 1418 (by decide +kernel) (by decide +kernel), zGW_at 1420 (by decide +kernel) (by decide +kernel), zGW_at 32 (by decide +kernel) (by decide +kernel), zGW_at 86 (by decide +kernel) (by decide +kernel), ⟨by decide +kernel, by decide +kernel, by decide +kernel⟩⟩
theorem kw_X12_272 : zVw RX12 272 mX12_takesTest 0 := ⟨zGW_at 1425 (by decide +kernel) (by decide +kernel), zGW_at 1422 (by decide +kernel) (by decide +kernel), zGW_at 1424 (by decide +kernel) (by decide +kernel), zGW_at 33 (by decide +kernel) (by decide +kernel), zGW_at 86 (by decide +kernel) (by decide +kernel), ⟨by decide +kernel, by decide +kernel, by decide +kernel⟩⟩
theorem kw_X12_262 : zVw RX12 262 mX12_place 1 := ⟨zGW_at 1429 (by decide +kernel) (by decide +kernel), zGW_at 1426 (by decide +kernel) (by decide +kernel), zGW_at 1428 (by decide +kernel) (by decide +kernel), zGW_at 34 (by decide +kernel) (by decide +kernel), zGW_at 86 (by decide +kernel) (by decide +kernel), ⟨by decide +kernel, by decide +kernel, by decide +kernel⟩⟩
theorem kw_X12_258 : zVw RX12 258 mX12_emits 1 := ⟨zGW_at 1433 (by decide +kernel) (by decide +kernel), zGW_at 1430 (by decide +kernel) (by decide +kernel), zGW_at 1432 (by decide +kernel) (by decide +kernel), zGW_at 35 (by decide +kernel) (by decide +kernel), zGW_at 86 (by decide +kernel) (by decide +kernel), ⟨by decide +kernel, by decide +kernel, by decide +kernel⟩⟩
theorem kw_X12_269 : zVw RX12 269 mX12_whole 0 := ⟨zGW_at 1437 (by decide +kernel) (by decide +kernel), zGW_at 1434 (by decide +kernel) (by decide +kernel), zGW_at 1436 (by decide +kernel) (by decide +kernel), zGW_at 36 (by decide +kernel) (by decide +kernel), zGW_at 86 (by decide +kernel) (by decide +kernel), ⟨by decide +kernel, by decide +kernel, by decide +kernel⟩⟩
theorem kw_X12_275 : zVw RX12 275 mX12_settle 1 := ⟨zGW_at 1441 (by decide +kernel) (by decide +kernel), zGW_at 1438 (by decide +kernel) (by decide +kernel), zGW_at 1440 (by decide +kernel) (by decide +kernel), zGW_at 37 (by decide +kernel) (by decide +kernel), zGW_at 86 (by decide +kernel) (by decide +kernel), ⟨by decide +kernel, by decide +kernel, by decide +kernel⟩⟩
theorem kw_L_21 : zVw RL 21 mX12_of 2 := ⟨zGW_at 1445 (by decide +kernel) (by decide +kernel), zGW_at 1442 (by decide +kernel) (by decide +kernel), zGW_at 1443 (by decide +kernel) (by decide +kernel), zGW_at 1444 (by decide +kernel) (by decide +kernel), zGW_at 86 (by decide +kernel) (by decide +kernel), ⟨by decide +kernel, by decide +kernel, by decide +kernel⟩⟩
theorem kw_X12_313 : zVw RX12 313 mX12_temper 2 := ⟨zGW_at 1449 (by decide +kernel) (by decide +kernel), zGW_at 1446 (by decide +kernel) (by decide +kernel), zGW_at 1448 (by decide +kernel) (by decide +kernel), zGW_at 38 (by decide +kernel) (by decide +kernel), zGW_at 86 (by decide +kernel) (by decide +kernel), ⟨by decide +kernel, by decide +kernel, by decide +kernel⟩⟩
theorem kw_X12_309 : zVw RX12 309 mX12_mood 2 := ⟨zGW_at 1453 (by decide +kernel) (by decide +kernel), zGW_at 1450 (by decide +kernel) (by decide +kernel), zGW_at 1452 (by decide +kernel) (by decide +kernel), zGW_at 39 (by decide +kernel) (by decide +kernel), zGW_at 86 (by decide +kernel) (by decide +kernel), ⟨by decide +kernel, by decide +kernel, by decide +kernel⟩⟩
theorem kw_X12_299 : zVw RX12 299 mX12_bits 1 := ⟨zGW_at 1457 (by decide +kernel) (by decide +kernel), zGW_at 1454 (by decide +kernel) (by decide +kernel), zGW_at 1456 (by decide +kernel) (by decide +kernel), zGW_at 40 (by decide +kernel) (by decide +kernel), zGW_at 86 (by decide +kernel) (by decide +kernel), ⟨by decide +kernel, by decide +kernel, by decide +kernel⟩⟩
theorem kw_X12_293 : zVw RX12 293 mX12_begin 0 := ⟨zGW_at 1461 (by decide +kernel) (by decide +kernel), zGW_at 1458 (by decide +kernel) (by decide +kernel), zGW_at 1460 (by decide +kernel) (by decide +kernel), zGW_at 41 (by decide +kernel) (by decide +kernel), zGW_at 86 (by decide +kernel) (by decide +kernel), ⟨by decide +kernel, by decide +kernel, by decide +kernel⟩⟩
theorem kw_X12_296 : zVw RX12 296 mX12_behind 0 := ⟨zGW_at 1465 (by decide +kernel) (by decide +kernel), zGW_at 1462 (by decide +kernel) (by decide +kernel), zGW_at 1464 (by decide +kernel) (by decide +kernel), zGW_at 42 (by decide +kernel) (by decide +kernel), zGW_at 86 (by decide +kernel) (by decide +kernel), ⟨by decide +kernel, by decide +kernel, by decide +kernel⟩⟩
theorem kw_X12_306 : zVw RX12 306 mX12_holds 3 := ⟨zGW_at 1469 (by decide +kernel) (by decide +kernel), zGW_at 1466 (by decide +kernel) (by decide +kernel), zGW_at 1468 (by decide +kernel) (by decide +kernel), zGW_at 43 (by decide +kernel) (by decide +kernel), zGW_at 86 (by decide +kernel) (by decide +kernel), ⟨by decide +kernel, by decide +kernel, by decide +kernel⟩⟩
theorem kw_X12_302 : zVw RX12 302 mX12_factOf 3 := ⟨zGW_at 1473 (by decide +kernel) (by decide +kernel), zGW_at 1470 (by decide +kernel) (by decide +kernel), zGW_at 1472 (by decide +kernel) (by decide +kernel), zGW_at 44 (by decide +kernel) (by decide +kernel), zGW_at 86 (by decide +kernel) (by decide +kernel), ⟨by decide +kernel, by decide +kernel, by decide +kernel⟩⟩
theorem kw_X12_319 : zVw RX12 319 mX12_ring 1 := ⟨zGW_at 1477 (by decide +kernel) (by decide +kernel), zGW_at 1474 (by decide +kernel) (by decide +kernel), zGW_at 1476 (by decide +kernel) (by decide +kernel), zGW_at 45 (by decide +kernel) (by decide +kernel), zGW_at 86 (by decide +kernel) (by decide +kernel), ⟨by decide +kernel, by decide +kernel, by decide +kernel⟩⟩
theorem kw_X12_325 : zVw RX12 325 mX12_punches 2 := ⟨zGW_at 1481 (by decide +kernel) (by decide +kernel), zGW_at 1478 (by decide +kernel) (by decide +kernel), zGW_at 1480 (by decide +kernel) (by decide +kernel), zGW_at 46 (by decide +kernel) (by decide +kernel), zGW_at 86 (by decide +kernel) (by decide +kernel), ⟨by decide +kernel, by decide +kernel, by decide +kernel⟩⟩
theorem kw_X12_316 : zVw RX12 316 mX12_leastFree 1 := ⟨zGW_at 1485 (by decide +kernel) (by decide +kernel), zGW_at 1482 (by decide +kernel) (by decide +kernel), zGW_at 1484 (by decide +kernel) (by decide +kernel), zGW_at 47 (by decide +kernel) (by decide +kernel), zGW_at 86 (by decide +kernel) (by decide +kernel), ⟨by decide +kernel, by decide +kernel, by decide +kernel⟩⟩
theorem kw_L_57 : zVw RL 57 mX12_pass 1 := ⟨zGW_at 1489 (by decide +kernel) (by decide +kernel), zGW_at 1486 (by decide +kernel) (by decide +kernel), zGW_at 1487 (by decide +kernel) (by decide +kernel), zGW_at 1488 (by decide +kernel) (by decide +kernel), zGW_at 86 (by decide +kernel) (by decide +kernel), ⟨by decide +kernel, by decide +kernel, by decide +kernel⟩⟩
theorem kw_X12_334 : zVw RX12 334 mX12_isDays 1 := ⟨zGW_at 1493 (by decide +kernel) (by decide +kernel), zGW_at 1490 (by decide +kernel) (by decide +kernel), zGW_at 1492 (by decide +kernel) (by decide +kernel), zGW_at 48 (by decide +kernel) (by decide +kernel), zGW_at 86 (by decide +kernel) (by decide +kernel), ⟨by decide +kernel, by decide +kernel, by decide +kernel⟩⟩
theorem kw_X12_337 : zVw RX12 337 mX12_goDays 1 := ⟨zGW_at 1497 (by decide +kernel) (by decide +kernel), zGW_at 1494 (by decide +kernel) (by decide +kernel), zGW_at 1496 (by decide +kernel) (by decide +kernel), zGW_at 49 (by decide +kernel) (by decide +kernel), zGW_at 86 (by decide +kernel) (by decide +kernel), ⟨by decide +kernel, by decide +kernel, by decide +kernel⟩⟩
theorem kw_X12_331 : zVw RX12 331 mX12_goDay 0 := ⟨zGW_at 1501 (by decide +kernel) (by decide +kernel), zGW_at 1498 (by decide +kernel) (by decide +kernel), zGW_at 1500 (by decide +kernel) (by decide +kernel), zGW_at 50 (by decide +kernel) (by decide +kernel), zGW_at 86 (by decide +kernel) (by decide +kernel), ⟨by decide +kernel, by decide +kernel, by decide +kernel⟩⟩
theorem kw_X12_328 : zVw RX12 328 mX12_round 0 := ⟨zGW_at 1505 (by decide +kernel) (by decide +kernel), zGW_at 1502 (by decide +kernel) (by decide +kernel), zGW_at 1504 (by decide +kernel) (by decide +kernel), zGW_at 51 (by decide +kernel) (by decide +kernel), zGW_at 86 (by decide +kernel) (by decide +kernel), ⟨by decide +kernel, by decide +kernel, by decide +kernel⟩⟩
theorem kw_L_61 : zVw RL 61 mX12_on 2 := ⟨zGW_at 1509 (by decide +kernel) (by decide +kernel), zGW_at 1506 (by decide +kernel) (by decide +kernel), zGW_at 1507 (by decide +kernel) (by decide +kernel), zGW_at 1508 (by decide +kernel) (by decide +kernel), zGW_at 86 (by decide +kernel) (by decide +kernel), ⟨by decide +kernel, by decide +kernel, by decide +kernel⟩⟩
theorem kw_X12_340 : zVw RX12 340 mX12_save 0 := ⟨zGW_at 1513 (by decide +kernel) (by decide +kernel), zGW_at 1510 (by decide +kernel) (by decide +kernel), zGW_at 1512 (by decide +kernel) (by decide +kernel), zGW_at 52 (by decide +kernel) (by decide +kernel), zGW_at 86 (by decide +kernel) (by decide +kernel), ⟨by decide +kernel, by decide +kernel, by decide +kernel⟩⟩
theorem kw_X12_343 : zVw RX12 343 mX12_allHoles 0 := ⟨zGW_at 1517 (by decide +kernel) (by decide +kernel), zGW_at 1514 (by decide +kernel) (by decide +kernel), zGW_at 1516 (by decide +kernel) (by decide +kernel), zGW_at 53 (by decide +kernel) (by decide +kernel), zGW_at 86 (by decide +kernel) (by decide +kernel), ⟨by decide +kernel, by decide +kernel, by decide +kernel⟩⟩
theorem kw_X12_346 : zVw RX12 346 mX12_putBack 0 := ⟨zGW_at 1521 (by decide +kernel) (by decide +kernel), zGW_at 1518 (by decide +kernel) (by decide +kernel), zGW_at 1520 (by decide +kernel) (by decide +kernel), zGW_at 54 (by decide +kernel) (by decide +kernel), zGW_at 86 (by decide +kernel) (by decide +kernel), ⟨by decide +kernel, by decide +kernel, by decide +kernel⟩⟩
theorem kw_L_65 : zVw RL 65 mX12_full 2 := ⟨zGW_at 1525 (by decide +kernel) (by decide +kernel), zGW_at 1522 (by decide +kernel) (by decide +kernel), zGW_at 1523 (by decide +kernel) (by decide +kernel), zGW_at 1524 (by decide +kernel) (by decide +kernel), zGW_at 86 (by decide +kernel) (by decide +kernel), ⟨by decide +kernel, by decide +kernel, by decide +kernel⟩⟩
theorem kw_L_53 : zVw RL 53 mX12_told 1 := ⟨zGW_at 1529 (by decide +kernel) (by decide +kernel), zGW_at 1526 (by decide +kernel) (by decide +kernel), zGW_at 1527 (by decide +kernel) (by decide +kernel), zGW_at 1528 (by decide +kernel) (by decide +kernel), zGW_at 86 (by decide +kernel) (by decide +kernel), ⟨by decide +kernel, by decide +kernel, by decide +kernel⟩⟩
theorem kw_X12_352 : zVw RX12 352 mX12_allTemper 0 := ⟨zGW_at 1533 (by decide +kernel) (by decide +kernel), zGW_at 1530 (by decide +kernel) (by decide +kernel), zGW_at 1532 (by decide +kernel) (by decide +kernel), zGW_at 55 (by decide +kernel) (by decide +kernel), zGW_at 86 (by decide +kernel) (by decide +kernel), ⟨by decide +kernel, by decide +kernel, by decide +kernel⟩⟩
theorem kw_X12_355 : zVw RX12 355 mX12_swapsOf 0 := ⟨zGW_at 1537 (by decide +kernel) (by decide +kernel), zGW_at 1534 (by decide +kernel) (by decide +kernel), zGW_at 1536 (by decide +kernel) (by decide +kernel), zGW_at 56 (by decide +kernel) (by decide +kernel), zGW_at 86 (by decide +kernel) (by decide +kernel), ⟨by decide +kernel, by decide +kernel, by decide +kernel⟩⟩
theorem kw_X12_358 : zVw RX12 358 mX12_firstSwap 0 := ⟨zGW_at 1541 (by decide +kernel) (by decide +kernel), zGW_at 1538 (by decide +kernel) (by decide +kernel), zGW_at 1540 (by decide +kernel) (by decide +kernel), zGW_at 57 (by decide +kernel) (by decide +kernel), zGW_at 86 (by decide +kernel) (by decide +kernel), ⟨by decide +kernel, by decide +kernel, by decide +kernel⟩⟩
theorem kw_X12_322 : zVw RX12 322 mX12_whoHas 1 := ⟨zGW_at 1545 (by decide +kernel) (by decide +kernel), zGW_at 1542 (by decide +kernel) (by decide +kernel), zGW_at 1544 (by decide +kernel) (by decide +kernel), zGW_at 58 (by decide +kernel) (by decide +kernel), zGW_at 86 (by decide +kernel) (by decide +kernel), ⟨by decide +kernel, by decide +kernel, by decide +kernel⟩⟩
theorem kw_X12_361 : zVw RX12 361 mX12_tradeOf 0 := ⟨zGW_at 1549 (by decide +kernel) (by decide +kernel), zGW_at 1546 (by decide +kernel) (by decide +kernel), zGW_at 1548 (by decide +kernel) (by decide +kernel), zGW_at 59 (by decide +kernel) (by decide +kernel), zGW_at 86 (by decide +kernel) (by decide +kernel), ⟨by decide +kernel, by decide +kernel, by decide +kernel⟩⟩
theorem kw_X12_349 : zVw RX12 349 mX12_mostHoles 2 := ⟨zGW_at 1553 (by decide +kernel) (by decide +kernel), zGW_at 1550 (by decide +kernel) (by decide +kernel), zGW_at 1552 (by decide +kernel) (by decide +kernel), zGW_at 60 (by decide +kernel) (by decide +kernel), zGW_at 86 (by decide +kernel) (by decide +kernel), ⟨by decide +kernel, by decide +kernel, by decide +kernel⟩⟩
theorem kw_L_69 : zVw RL 69 mX12_best 1 := ⟨zGW_at 1557 (by decide +kernel) (by decide +kernel), zGW_at 1554 (by decide +kernel) (by decide +kernel), zGW_at 1555 (by decide +kernel) (by decide +kernel), zGW_at 1556 (by decide +kernel) (by decide +kernel), zGW_at 86 (by decide +kernel) (by decide +kernel), ⟨by decide +kernel, by decide +kernel, by decide +kernel⟩⟩
theorem kw_X12_364 : zVw RX12 364 mX12_layCards 1 := ⟨zGW_at 1561 (by decide +kernel) (by decide +kernel), zGW_at 1558 (by decide +kernel) (by decide +kernel), zGW_at 1560 (by decide +kernel) (by decide +kernel), zGW_at 61 (by decide +kernel) (by decide +kernel), zGW_at 86 (by decide +kernel) (by decide +kernel), ⟨by decide +kernel, by decide +kernel, by decide +kernel⟩⟩
theorem kw_L_73 : zVw RL 73 mX12_see 3 := ⟨zGW_at 1565 (by decide +kernel) (by decide +kernel), zGW_at 1562 (by decide +kernel) (by decide +kernel), zGW_at 1563 (by decide +kernel) (by decide +kernel), zGW_at 1564 (by decide +kernel) (by decide +kernel), zGW_at 86 (by decide +kernel) (by decide +kernel), ⟨by decide +kernel, by decide +kernel, by decide +kernel⟩⟩
theorem kw_L_77 : zVw RL 77 mX12_had 1 := ⟨zGW_at 1569 (by decide +kernel) (by decide +kernel), zGW_at 1566 (by decide +kernel) (by decide +kernel), zGW_at 1567 (by decide +kernel) (by decide +kernel), zGW_at 1568 (by decide +kernel) (by decide +kernel), zGW_at 86 (by decide +kernel) (by decide +kernel), ⟨by decide +kernel, by decide +kernel, by decide +kernel⟩⟩
theorem kw_X12_367 : zVw RX12 367 mX12_isSeen 0 := ⟨zGW_at 1573 (by decide +kernel) (by decide +kernel), zGW_at 1570 (by decide +kernel) (by decide +kernel), zGW_at 1572 (by decide +kernel) (by decide +kernel), zGW_at 62 (by decide +kernel) (by decide +kernel), zGW_at 86 (by decide +kernel) (by decide +kernel), ⟨by decide +kernel, by decide +kernel, by decide +kernel⟩⟩
theorem kw_L_81 : zVw RL 81 mX12_can 2 := ⟨zGW_at 1577 (by decide +kernel) (by decide +kernel), zGW_at 1574 (by decide +kernel) (by decide +kernel), zGW_at 1575 (by decide +kernel) (by decide +kernel), zGW_at 1576 (by decide +kernel) (by decide +kernel), zGW_at 86 (by decide +kernel) (by decide +kernel), ⟨by decide +kernel, by decide +kernel, by decide +kernel⟩⟩
theorem kw_L_86 : zVw RL 86 mX12_odds 3 := ⟨zGW_at 1581 (by decide +kernel) (by decide +kernel), zGW_at 1578 (by decide +kernel) (by decide +kernel), zGW_at 1579 (by decide +kernel) (by decide +kernel), zGW_at 1580 (by decide +kernel) (by decide +kernel), zGW_at 86 (by decide +kernel) (by decide +kernel), ⟨by decide +kernel, by decide +kernel, by decide +kernel⟩⟩
theorem kw_X12_375 : zVw RX12 375 mX12_lowest 3 := ⟨zGW_at 1586 (by decide +kernel) (by decide +kernel), zGW_at 1583 (by decide +kernel) (by decide +kernel), zGW_at 1585 (by decide +kernel) (by decide +kernel), zGW_at 63 (by decide +kernel) (by decide +kernel), zGW_at 86 (by decide +kernel) (by decide +kernel), ⟨by decide +kernel, by decide +kernel, by decide +kernel⟩⟩
theorem kw_X12_370 : zVw RX12 370 mX12_divisor 2 := ⟨zGW_at 1590 (by decide +kernel) (by decide +kernel), zGW_at 1587 (by decide +kernel) (by decide +kernel), zGW_at 1589 (by decide +kernel) (by decide +kernel), zGW_at 64 (by decide +kernel) (by decide +kernel), zGW_at 86 (by decide +kernel) (by decide +kernel), ⟨by decide +kernel, by decide +kernel, by decide +kernel⟩⟩
theorem kw_L_91 : zVw RL 91 mX12_mean 2 := ⟨zGW_at 1594 (by decide +kernel) (by decide +kernel), zGW_at 1591 (by decide +kernel) (by decide +kernel), zGW_at 1592 (by decide +kernel) (by decide +kernel), zGW_at 1593 (by decide +kernel) (by decide +kernel), zGW_at 86 (by decide +kernel) (by decide +kernel), ⟨by decide +kernel, by decide +kernel, by decide +kernel⟩⟩
theorem kw_X12_379 : zVw RX12 379 mX12_on 2 := ⟨zGW_at 1509 (by decide +kernel) (by decide +kernel), zGW_at 1595 (by decide +kernel) (by decide +kernel), zGW_at 1507 (by decide +kernel) (by decide +kernel), zGW_at 1508 (by decide +kernel) (by decide +kernel), zGW_at 86 (by decide +kernel) (by decide +kernel), ⟨by decide +kernel, by decide +kernel, by decide +kernel⟩⟩
theorem kw_L_95 : zVw RL 95 mX12_plan 2 := ⟨zGW_at 1599 (by decide +kernel) (by decide +kernel), zGW_at 1596 (by decide +kernel) (by decide +kernel), zGW_at 1597 (by decide +kernel) (by decide +kernel), zGW_at 1598 (by decide +kernel) (by decide +kernel), zGW_at 86 (by decide +kernel) (by decide +kernel), ⟨by decide +kernel, by decide +kernel, by decide +kernel⟩⟩
theorem kw_X12_382 : zVw RX12 382 mX12_isPair 1 := ⟨zGW_at 1603 (by decide +kernel) (by decide +kernel), zGW_at 1600 (by decide +kernel) (by decide +kernel), zGW_at 1602 (by decide +kernel) (by decide +kernel), zGW_at 65 (by decide +kernel) (by decide +kernel), zGW_at 86 (by decide +kernel) (by decide +kernel), ⟨by decide +kernel, by decide +kernel, by decide +kernel⟩⟩
theorem kw_L_99 : zVw RL 99 mX12_ends 1 := ⟨zGW_at 1607 (by decide +kernel) (by decide +kernel), zGW_at 1604 (by decide +kernel) (by decide +kernel), zGW_at 1605 (by decide +kernel) (by decide +kernel), zGW_at 1606 (by decide +kernel) (by decide +kernel), zGW_at 86 (by decide +kernel) (by decide +kernel), ⟨by decide +kernel, by decide +kernel, by decide +kernel⟩⟩
theorem kw_X12_385 : zVw RX12 385 mX12_goPlan 2 := ⟨zGW_at 1611 (by decide +kernel) (by decide +kernel), zGW_at 1608 (by decide +kernel) (by decide +kernel), zGW_at 1610 (by decide +kernel) (by decide +kernel), zGW_at 66 (by decide +kernel) (by decide +kernel), zGW_at 86 (by decide +kernel) (by decide +kernel), ⟨by decide +kernel, by decide +kernel, by decide +kernel⟩⟩
theorem kw_L_103 : zVw RL 103 mX12_book 2 := ⟨zGW_at 1615 (by decide +kernel) (by decide +kernel), zGW_at 1612 (by decide +kernel) (by decide +kernel), zGW_at 1613 (by decide +kernel) (by decide +kernel), zGW_at 1614 (by decide +kernel) (by decide +kernel), zGW_at 86 (by decide +kernel) (by decide +kernel), ⟨by decide +kernel, by decide +kernel, by decide +kernel⟩⟩
theorem kw_L_107 : zVw RL 107 mX12_looked 0 := ⟨zGW_at 1619 (by decide +kernel) (by decide +kernel), zGW_at 1616 (by decide +kernel) (by decide +kernel), zGW_at 1617 (by decide +kernel) (by decide +kernel), zGW_at 1618 (by decide +kernel) (by decide +kernel), zGW_at 86 (by decide +kernel) (by decide +kernel), ⟨by decide +kernel, by decide +kernel, by decide +kernel⟩⟩
theorem kw_L_111 : zVw RL 111 mX12_judge 2 := ⟨zGW_at 1623 (by decide +kernel) (by decide +kernel), zGW_at 1620 (by decide +kernel) (by decide +kernel), zGW_at 1621 (by decide +kernel) (by decide +kernel), zGW_at 1622 (by decide +kernel) (by decide +kernel), zGW_at 86 (by decide +kernel) (by decide +kernel), ⟨by decide +kernel, by decide +kernel, by decide +kernel⟩⟩
theorem kw_X12_388 : zVw RX12 388 mX12_isTape 1 := ⟨zGW_at 1627 (by decide +kernel) (by decide +kernel), zGW_at 1624 (by decide +kernel) (by decide +kernel), zGW_at 1626 (by decide +kernel) (by decide +kernel), zGW_at 67 (by decide +kernel) (by decide +kernel), zGW_at 86 (by decide +kernel) (by decide +kernel), ⟨by decide +kernel, by decide +kernel, by decide +kernel⟩⟩
theorem kw_L_115 : zVw RL 115 mX12_image 0 := ⟨zGW_at 1631 (by decide +kernel) (by decide +kernel), zGW_at 1628 (by decide +kernel) (by decide +kernel), zGW_at 1629 (by decide +kernel) (by decide +kernel), zGW_at 1630 (by decide +kernel) (by decide +kernel), zGW_at 86 (by decide +kernel) (by decide +kernel), ⟨by decide +kernel, by decide +kernel, by decide +kernel⟩⟩
theorem kw_L_119 : zVw RL 119 mX12_undo 0 := ⟨zGW_at 1635 (by decide +kernel) (by decide +kernel), zGW_at 1632 (by decide +kernel) (by decide +kernel), zGW_at 1633 (by decide +kernel) (by decide +kernel), zGW_at 1634 (by decide +kernel) (by decide +kernel), zGW_at 86 (by decide +kernel) (by decide +kernel), ⟨by decide +kernel, by decide +kernel, by decide +kernel⟩⟩
theorem kw_L_123 : zVw RL 123 mX12_act 3 := ⟨zGW_at 1639 (by decide +kernel) (by decide +kernel), zGW_at 1636 (by decide +kernel) (by decide +kernel), zGW_at 1637 (by decide +kernel) (by decide +kernel), zGW_at 1638 (by decide +kernel) (by decide +kernel), zGW_at 86 (by decide +kernel) (by decide +kernel), ⟨by decide +kernel, by decide +kernel, by decide +kernel⟩⟩
theorem kw_X12_397 : zVw RX12 397 mX12_worksAct 2 := ⟨zGW_at 1643 (by decide +kernel) (by decide +kernel), zGW_at 1640 (by decide +kernel) (by decide +kernel), zGW_at 1642 (by decide +kernel) (by decide +kernel), zGW_at 68 (by decide +kernel) (by decide +kernel), zGW_at 86 (by decide +kernel) (by decide +kernel), ⟨by decide +kernel, by decide +kernel, by decide +kernel⟩⟩
theorem kw_X12_391 : zVw RX12 391 mX12_body 1 := ⟨zGW_at 1647 (by decide +kernel) (by decide +kernel), zGW_at 1644 (by decide +kernel) (by decide +kernel), zGW_at 1646 (by decide +kernel) (by decide +kernel), zGW_at 69 (by decide +kernel) (by decide +kernel), zGW_at 86 (by decide +kernel) (by decide +kernel), ⟨by decide +kernel, by decide +kernel, by decide +kernel⟩⟩
theorem kw_X12_394 : zVw RX12 394 mX12_handWorks 2 := ⟨zGW_at 1651 (by decide +kernel) (by decide +kernel), zGW_at 1648 (by decide +kernel) (by decide +kernel), zGW_at 1650 (by decide +kernel) (by decide +kernel), zGW_at 70 (by decide +kernel) (by decide +kernel), zGW_at 86 (by decide +kernel) (by decide +kernel), ⟨by decide +kernel, by decide +kernel, by decide +kernel⟩⟩
theorem kw_X12_406 : zVw RX12 406 mX12_mindsAct 2 := ⟨zGW_at 1655 (by decide +kernel) (by decide +kernel), zGW_at 1652 (by decide +kernel) (by decide +kernel), zGW_at 1654 (by decide +kernel) (by decide +kernel), zGW_at 71 (by decide +kernel) (by decide +kernel), zGW_at 86 (by decide +kernel) (by decide +kernel), ⟨by decide +kernel, by decide +kernel, by decide +kernel⟩⟩
theorem kw_X12_403 : zVw RX12 403 mX12_lateMinds 2 := ⟨zGW_at 1659 (by decide +kernel) (by decide +kernel), zGW_at 1656 (by decide +kernel) (by decide +kernel), zGW_at 1658 (by decide +kernel) (by decide +kernel), zGW_at 72 (by decide +kernel) (by decide +kernel), zGW_at 86 (by decide +kernel) (by decide +kernel), ⟨by decide +kernel, by decide +kernel, by decide +kernel⟩⟩
theorem kw_X12_400 : zVw RX12 400 mX12_handMinds 2 := ⟨zGW_at 1663 (by decide +kernel) (by decide +kernel), zGW_at 1660 (by decide +kernel) (by decide +kernel), zGW_at 1662 (by decide +kernel) (by decide +kernel), zGW_at 73 (by decide +kernel) (by decide +kernel), zGW_at 86 (by decide +kernel) (by decide +kernel), ⟨by decide +kernel, by decide +kernel, by decide +kernel⟩⟩
theorem kw_X12_412 : zVw RX12 412 mX12_tellsAct 2 := ⟨zGW_at 1667 (by decide +kernel) (by decide +kernel), zGW_at 1664 (by decide +kernel) (by decide +kernel), zGW_at 1666 (by decide +kernel) (by decide +kernel), zGW_at 74 (by decide +kernel) (by decide +kernel), zGW_at 86 (by decide +kernel) (by decide +kernel), ⟨by decide +kernel, by decide +kernel, by decide +kernel⟩⟩
theorem kw_X12_409 : zVw RX12 409 mX12_handTells 2 := ⟨zGW_at 1671 (by decide +kernel) (by decide +kernel), zGW_at 1668 (by decide +kernel) (by decide +kernel), zGW_at 1670 (by decide +kernel) (by decide +kernel), zGW_at 75 (by decide +kernel) (by decide +kernel), zGW_at 86 (by decide +kernel) (by decide +kernel), ⟨by decide +kernel, by decide +kernel, by decide +kernel⟩⟩
theorem kw_L_127 : zVw RL 127 mX12_trace 1 := ⟨zGW_at 1675 (by decide +kernel) (by decide +kernel), zGW_at 1672 (by decide +kernel) (by decide +kernel), zGW_at 1673 (by decide +kernel) (by decide +kernel), zGW_at 1674 (by decide +kernel) (by decide +kernel), zGW_at 86 (by decide +kernel) (by decide +kernel), ⟨by decide +kernel, by decide +kernel, by decide +kernel⟩⟩
theorem kw_L_131 : zVw RL 131 mX12_taken 2 := ⟨zGW_at 1679 (by decide +kernel) (by decide +kernel), zGW_at 1676 (by decide +kernel) (by decide +kernel), zGW_at 1677 (by decide +kernel) (by decide +kernel), zGW_at 1678 (by decide +kernel) (by decide +kernel), zGW_at 86 (by decide +kernel) (by decide +kernel), ⟨by decide +kernel, by decide +kernel, by decide +kernel⟩⟩
theorem kw_L_135 : zVw RL 135 mX12_count 1 := ⟨zGW_at 1683 (by decide +kernel) (by decide +kernel), zGW_at 1680 (by decide +kernel) (by decide +kernel), zGW_at 1681 (by decide +kernel) (by decide +kernel), zGW_at 1682 (by decide +kernel) (by decide +kernel), zGW_at 86 (by decide +kernel) (by decide +kernel), ⟨by decide +kernel, by decide +kernel, by decide +kernel⟩⟩
theorem kw_L_139 : zVw RL 139 mX12_tape 3 := ⟨zGW_at 1687 (by decide +kernel) (by decide +kernel), zGW_at 1684 (by decide +kernel) (by decide +kernel), zGW_at 1685 (by decide +kernel) (by decide +kernel), zGW_at 1686 (by decide +kernel) (by decide +kernel), zGW_at 86 (by decide +kernel) (by decide +kernel), ⟨by decide +kernel, by decide +kernel, by decide +kernel⟩⟩
theorem kw_L_146 : zVw RL 146 mX12_item 3 := ⟨zGW_at 1691 (by decide +kernel) (by decide +kernel), zGW_at 1688 (by decide +kernel) (by decide +kernel), zGW_at 1689 (by decide +kernel) (by decide +kernel), zGW_at 1690 (by decide +kernel) (by decide +kernel), zGW_at 86 (by decide +kernel) (by decide +kernel), ⟨by decide +kernel, by decide +kernel, by decide +kernel⟩⟩
theorem kw_X12_415 : zVw RX12 415 mX12_narrow 2 := ⟨zGW_at 1695 (by decide +kernel) (by decide +kernel), zGW_at 1692 (by decide +kernel) (by decide +kernel), zGW_at 1694 (by decide +kernel) (by decide +kernel), zGW_at 76 (by decide +kernel) (by decide +kernel), zGW_at 86 (by decide +kernel) (by decide +kernel), ⟨by decide +kernel, by decide +kernel, by decide +kernel⟩⟩
theorem kw_L_150 : zVw RL 150 mX12_read 2 := ⟨zGW_at 1699 (by decide +kernel) (by decide +kernel), zGW_at 1696 (by decide +kernel) (by decide +kernel), zGW_at 1697 (by decide +kernel) (by decide +kernel), zGW_at 1698 (by decide +kernel) (by decide +kernel), zGW_at 86 (by decide +kernel) (by decide +kernel), ⟨by decide +kernel, by decide +kernel, by decide +kernel⟩⟩
theorem kw_L_155 : zVw RL 155 mX12_shift 5 := ⟨zGW_at 1703 (by decide +kernel) (by decide +kernel), zGW_at 1700 (by decide +kernel) (by decide +kernel), zGW_at 1701 (by decide +kernel) (by decide +kernel), zGW_at 1702 (by decide +kernel) (by decide +kernel), zGW_at 86 (by decide +kernel) (by decide +kernel), ⟨by decide +kernel, by decide +kernel, by decide +kernel⟩⟩
end
section
/-! ===== the rules in the forms that the walks use ===== -/
/-- straight code, with a mark at its end that makes the goal compute -/
theorem z_blk2 {X : zX} {M : zM} {lk : zLk} {ini : Bool} (hX : zC X M) (hlk : zlkOK M.1.cls lk) (hini : ini = true → zini M lk) {cells slots : Nat} {pc' : Nat} : ∀ (is : List Instr) {pc : Nat}, zdec M.2.1 pc is = some pc' → ∀ {σ : Sg} {lv : List (Nat × Value)} {st : List Value}, zwp M.2.2.1 lk ini is σ lv st (fun σ lv st => True ∧ zS X σ cells slots pc' lv st) → zS X σ cells slots pc lv st
  | [], pc, hd, σ, lv, st, h => by
    cases hd
    exact h.2
  | i :: r, pc, hd, σ, lv, st, h => by
    unfold zdec at hd
    split at hd
    · rename_i hi
      exact z1_ok hX hlk hini hi (fun σ' lv' st' h' => z_blk2 hX hlk hini r hd h') h
    · cases hd
section
variable {X : zX} {E : zE} {M : zM} {d mc ms : Nat} {Po : Option Value → Sg → Prop} {σ : Sg} {cells slots pc : Nat} {lv : List (Nat × Value)} {st : List Value}
theorem bk (hX : zD X E M d mc ms Po) {lk : zLk} (hlk : zlkOK M.1.cls lk) {pc' : Nat} (is : List Instr) (hd : zdec M.2.1 pc is = some pc') (h : zwp M.2.2.1 lk false is σ lv st (fun σ lv st => True ∧ zS X σ cells slots pc' lv st)) : zS X σ cells slots pc lv st := z_blk2 hX.1 hlk (fun h => by cases h) is hd h
theorem bi (hX : zD X E M d mc ms Po) {lk : zLk} (hlk : zlkOK M.1.cls lk) (hi : zini M lk) {pc' : Nat} (is : List Instr) (hd : zdec M.2.1 pc is = some pc') (h : zwp M.2.2.1 lk true is σ lv st (fun σ lv st => True ∧ zS X σ cells slots pc' lv st)) : zS X σ cells slots pc lv st := z_blk2 hX.1 hlk (fun _ => hi) is hd h
theorem ic_eq (hX : zD X E M d mc ms Po) (off : Int) {x y : Int32} (tgt : Nat) (hd : decode M.2.1 pc = .ok (.if_icmp .eq off, 3)) (ht : (pc : Int) + off = (tgt : Int)) (kt : x = y → zS X σ cells slots tgt lv st) (kf : ¬ x = y → zS X σ cells slots (pc + 3) lv st) : zS X σ cells slots pc lv (.int y :: .int x :: st) := z_icmp hX tgt hd ht kt kf
theorem ic_ne (hX : zD X E M d mc ms Po) (off : Int) {x y : Int32} (tgt : Nat) (hd : decode M.2.1 pc = .ok (.if_icmp .ne off, 3)) (ht : (pc : Int) + off = (tgt : Int)) (kt : ¬ x = y → zS X σ cells slots tgt lv st) (kf : x = y → zS X σ cells slots (pc + 3) lv st) : zS X σ cells slots pc lv (.int y :: .int x :: st) := z_icmp hX tgt hd ht kt (fun h => kf (Classical.not_not.mp h))
theorem ic_lt (hX : zD X E M d mc ms Po) (off : Int) {x y : Int32} (tgt : Nat) (hd : decode M.2.1 pc = .ok (.if_icmp .lt off, 3)) (ht : (pc : Int) + off = (tgt : Int)) (kt : x < y → zS X σ cells slots tgt lv st) (kf : ¬ x < y → zS X σ cells slots (pc + 3) lv st) : zS X σ cells slots pc lv (.int y :: .int x :: st) := z_icmp hX tgt hd ht kt kf
theorem ic_ge (hX : zD X E M d mc ms Po) (off : Int) {x y : Int32} (tgt : Nat) (hd : decode M.2.1 pc = .ok (.if_icmp .ge off, 3)) (ht : (pc : Int) + off = (tgt : Int)) (kt : y ≤ x → zS X σ cells slots tgt lv st) (kf : ¬ y ≤ x → zS X σ cells slots (pc + 3) lv st) : zS X σ cells slots pc lv (.int y :: .int x :: st) := z_icmp hX tgt hd ht kt kf
theorem ic_gt (hX : zD X E M d mc ms Po) (off : Int) {x y : Int32} (tgt : Nat) (hd : decode M.2.1 pc = .ok (.if_icmp .gt off, 3)) (ht : (pc : Int) + off = (tgt : Int)) (kt : y < x → zS X σ cells slots tgt lv st) (kf : ¬ y < x → zS X σ cells slots (pc + 3) lv st) : zS X σ cells slots pc lv (.int y :: .int x :: st) := z_icmp hX tgt hd ht kt kf
theorem ic_le (hX : zD X E M d mc ms Po) (off : Int) {x y : Int32} (tgt : Nat) (hd : decode M.2.1 pc = .ok (.if_icmp .le off, 3)) (ht : (pc : Int) + off = (tgt : Int)) (kt : x ≤ y → zS X σ cells slots tgt lv st) (kf : ¬ x ≤ y → zS X σ cells slots (pc + 3) lv st) : zS X σ cells slots pc lv (.int y :: .int x :: st) := z_icmp hX tgt hd ht kt kf
theorem if_eq (hX : zD X E M d mc ms Po) (off : Int) {x : Int32} (tgt : Nat) (hd : decode M.2.1 pc = .ok (.ifCond .eq off, 3)) (ht : (pc : Int) + off = (tgt : Int)) (kt : x = 0 → zS X σ cells slots tgt lv st) (kf : ¬ x = 0 → zS X σ cells slots (pc + 3) lv st) : zS X σ cells slots pc lv (.int x :: st) := z_if hX tgt hd ht kt kf
theorem if_ne (hX : zD X E M d mc ms Po) (off : Int) {x : Int32} (tgt : Nat) (hd : decode M.2.1 pc = .ok (.ifCond .ne off, 3)) (ht : (pc : Int) + off = (tgt : Int)) (kt : ¬ x = 0 → zS X σ cells slots tgt lv st) (kf : x = 0 → zS X σ cells slots (pc + 3) lv st) : zS X σ cells slots pc lv (.int x :: st) := z_if hX tgt hd ht kt (fun h => kf (Classical.not_not.mp h))
theorem if_lt (hX : zD X E M d mc ms Po) (off : Int) {x : Int32} (tgt : Nat) (hd : decode M.2.1 pc = .ok (.ifCond .lt off, 3)) (ht : (pc : Int) + off = (tgt : Int)) (kt : x < 0 → zS X σ cells slots tgt lv st) (kf : ¬ x < 0 → zS X σ cells slots (pc + 3) lv st) : zS X σ cells slots pc lv (.int x :: st) := z_if hX tgt hd ht kt kf
theorem if_ge (hX : zD X E M d mc ms Po) (off : Int) {x : Int32} (tgt : Nat) (hd : decode M.2.1 pc = .ok (.ifCond .ge off, 3)) (ht : (pc : Int) + off = (tgt : Int)) (kt : 0 ≤ x → zS X σ cells slots tgt lv st) (kf : ¬ 0 ≤ x → zS X σ cells slots (pc + 3) lv st) : zS X σ cells slots pc lv (.int x :: st) := z_if hX tgt hd ht kt kf
theorem if_gt (hX : zD X E M d mc ms Po) (off : Int) {x : Int32} (tgt : Nat) (hd : decode M.2.1 pc = .ok (.ifCond .gt off, 3)) (ht : (pc : Int) + off = (tgt : Int)) (kt : 0 < x → zS X σ cells slots tgt lv st) (kf : ¬ 0 < x → zS X σ cells slots (pc + 3) lv st) : zS X σ cells slots pc lv (.int x :: st) := z_if hX tgt hd ht kt kf
theorem if_le (hX : zD X E M d mc ms Po) (off : Int) {x : Int32} (tgt : Nat) (hd : decode M.2.1 pc = .ok (.ifCond .le off, 3)) (ht : (pc : Int) + off = (tgt : Int)) (kt : x ≤ 0 → zS X σ cells slots tgt lv st) (kf : ¬ x ≤ 0 → zS X σ cells slots (pc + 3) lv st) : zS X σ cells slots pc lv (.int x :: st) := z_if hX tgt hd ht kt kf
theorem gt_ (hX : zD X E M d mc ms Po) (off : Int) (tgt : Nat) (hd : decode M.2.1 pc = .ok (.goto off, 3)) (ht : (pc : Int) + off = (tgt : Int)) (k : zS X σ cells slots tgt lv st) : zS X σ cells slots pc lv st := z_goto hX tgt hd ht k
theorem z_cs {cells' slots' pc' : Nat} (hc : cells = cells') (hs : slots = slots') (hp : pc = pc') (h : zS X σ cells' slots' pc' lv st) : zS X σ cells slots pc lv st := by subst hc hs hp; exact h
theorem z_wid {cells' slots' : Nat} (hc : cells ≤ cells') (hs : slots ≤ slots') (h : zS X σ cells' slots' pc lv st) : zS X σ cells slots pc lv st := by
  obtain ⟨p, l, e, R, s, m, args, below, meth, c, Q, G, b0, nL, σ0, ad0⟩ := X
  intro ad H locs ls a1 a2 a3 a4 a5 a6
  exact W.widen hc hs (h ad H locs ls a1 a2 a3 a4 a5 a6)
/-- fewer locals are enough -/
theorem z_lv {lv' : List (Nat × Value)} (hs : ∀ x ∈ lv', x ∈ lv) (h : zS X σ cells slots pc lv' st) : zS X σ cells slots pc lv st := by
  obtain ⟨p, l, e, R, s, m, args, below, meth, c, Q, G, b0, nL, σ0, ad0⟩ := X
  intro ad H locs ls a1 a2 a3 a4 a5 a6
  refine h ad H locs ls a1 a2 (fun x hx => a3 x (hs x hx)) a4 a5 ⟨a6.1, a6.2.1, fun q hq => ?_⟩
  obtain ⟨x, hx, rfl⟩ := List.mem_map.mp hq
  exact a6.2.2 _ (List.mem_map.mpr ⟨x, hs x hx, rfl⟩)
end
/-- a contract's end weakened -/
theorem zCt.mono {E : zE} {M : zM} {d mc ms : Nat} {σ : Sg} {av : List Value} {Po Po' : Option Value → Sg → Prop} (h : zCt E M d mc ms σ av Po) (hp : ∀ r σ', Po r σ' → Po' r σ') : zCt E M d mc ms σ av Po' := by
  intro ad
  refine MetFree.mono (h ad) (fun _ _ h => h) (fun _ _ _ _ _ h => h) ?_
  rintro a st o t - ⟨⟨r, σ', ad', h1, h2, h3⟩, h4⟩
  exact ⟨⟨r, σ', ad', h1, hp _ _ h2, h3⟩, h4⟩
theorem z_lvk {X : zX} {σ : Sg} {cells slots pc : Nat} {lv lv' : List (Nat × Value)} {st : List Value} (ks : List Nat) (hl : lv_pick lv ks = lv') (h : zS X σ cells slots pc lv' st) : zS X σ cells slots pc lv st := by
  refine z_lv (fun x hx => ?_) h
  rw [← hl] at hx
  obtain ⟨k, -, hk⟩ := List.mem_filterMap.mp hx
  exact List.mem_of_getElem? hk
end
section
/-! ===== where what lies: the model's object at 100, its arrays at 101 and their slot; the class's object at 200, its arrays at 201 and their slot; gates at 300, 340, 380; String constants at 900 ..; all that is made later from 1000 on ===== -/
def zget : List Nat → Nat → Nat
  | [], _ => 0
  | a :: _, 0 => a
  | _ :: l, n + 1 => zget l n
def mKl : List Nat := [14, 0, 0, 0, 22, 22, 22, 22, 22, 0, 0, 0, 0, 0, 22, 22, 22, 22, 22, 22, 22, 22, 0, 0, 0, 22, 24, 22, 0, 0, 22, 22, 22, 22, 22, 0, 22, 22, 22, 0, 0, 22, 22, 22, 22, 0, 0, 0, 0, 0, 0, 0, 0, 22, 22, 22, 22, 22, 22, 22, 22, 22, 22, 22, 22, 0, 22, 22, 22, 23, 23]
def mNl : List Nat := [0, 0, 0, 0, 6, 6, 6, 6, 24, 0, 0, 0, 0, 0, 100, 6, 60, 60, 60, 60, 600, 101, 0, 0, 0, 13, 100, 6, 0, 0, 6, 6, 36, 6, 6, 0, 5, 5, 5, 0, 0, 10, 10, 8, 8, 0, 0, 0, 0, 0, 0, 0, 0, 6, 6, 6, 6, 24, 5, 5, 5, 10, 10, 8, 8, 0, 20, 6, 6, 360, 60]
def xKl : List Nat := [13, 0, 0, 0, 0, 21, 0, 0, 1, 22, 22, 22, 22, 23, 0, 0, 0, 0, 0, 0, 20]
def xNl : List Nat := [0, 0, 0, 0, 0, 100, 0, 0, 0, 36, 64, 6, 6, 360, 0, 0, 0, 0, 0, 0, 16]
def gKl : List Nat := [3, 25, 22, 22, 22, 0, 0, 0, 0, 0, 10, 22, 22, 22, 10, 22, 22, 22, 10, 22, 22, 22]
def gNl : List Nat := [0, 6, 6, 6, 24, 0, 0, 0, 0, 0, 0, 5, 5, 5, 0, 10, 10, 10, 0, 8, 8, 8]
def kF (K : Nat → Nat) (p : Nat) : Nat := bif Nat.blt p 1000 then (bif Nat.blt p 100 then 0 else bif Nat.blt p 200 then zget mKl (p - 100) else bif Nat.blt p 300 then zget xKl (p - 200) else bif Nat.blt p 340 then zget gKl (p - 300) else bif Nat.blt p 380 then zget gKl (p - 340) else bif Nat.blt p 420 then zget gKl (p - 380) else bif Nat.blt p 900 then 0 else bif Nat.blt p 904 then 30 else bif Nat.blt p 910 then 0 else bif Nat.blt p 914 then 31 else 0) else K p
def nF (N : Nat → Nat) (p : Nat) : Nat := bif Nat.blt p 1000 then (bif Nat.blt p 100 then 0 else bif Nat.blt p 200 then zget mNl (p - 100) else bif Nat.blt p 300 then zget xNl (p - 200) else bif Nat.blt p 340 then zget gNl (p - 300) else bif Nat.blt p 380 then zget gNl (p - 340) else bif Nat.blt p 420 then zget gNl (p - 380) else 0) else N p
/-- a reference to the place behind, if there is something -/
def rS (l : List Nat) (b k : Nat) : Option Nat := bif Nat.beq (zget l (k + 1)) 0 then none else some (b + k)
def rG (R : Nat → Nat → Option Nat) (g o k : Nat) : Option Nat := bif Nat.beq o 0 then (bif Nat.blt k 4 then some (g + 1 + k) else bif Nat.beq k 7 then R g 7 else bif Nat.beq k 8 then some (g + 10) else bif Nat.beq k 9 then some (g + 14) else bif Nat.beq k 10 then some (g + 18) else none)
  else bif Nat.beq o 1 then R (g + 1) k else bif Nat.beq o 10 || Nat.beq o 14 || Nat.beq o 18 then (bif Nat.blt k 3 then some (g + o + 1 + k) else none) else none
def rF (R : Nat → Nat → Option Nat) (p k : Nat) : Option Nat := bif Nat.blt p 1000 then (bif Nat.beq p 100 then rS mKl 101 k else bif Nat.beq p 200 then (bif Nat.beq k 0 then some 300 else bif Nat.beq k 1 then some 340 else bif Nat.beq k 2 then some 380 else rS xKl 201 k) else bif Nat.beq p 208 then (bif Nat.beq k 0 then some 220 else none) else bif Nat.blt p 300 then none else bif Nat.blt p 340 then rG R 300 (p - 300) k else bif Nat.blt p 380 then rG R 340 (p - 340) k else bif Nat.blt p 420 then rG R 380 (p - 380) k else none) else R p k
abbrev sg (K N : Nat → Nat) (R : Nat → Nat → Option Nat) (I : Nat → Nat → Int32) (L : Nat → Nat → Int64) : Sg := (kF K, nF N, I, L, rF R)
def b2i (b : Bool) : Int32 := bif b then 1 else 0
end
section
/-! ===== ints by their numbers ===== -/
theorem nI_toInt' {n : Nat} (h : n < 2 ^ 31) : (nI n).toInt = (n : Int) := nI_toInt h
theorem i_nn {x : Int32} (h : nI 0 ≤ x) : ∃ j : Nat, j < 2 ^ 31 ∧ x = nI j := nI_of (fun h2 => by
  rw [Int32.lt_iff_toInt_lt] at h2
  rw [Int32.le_iff_toInt_le] at h
  have e : (nI 0).toInt = 0 := by decide
  have e2 : (0 : Int32).toInt = 0 := by decide
  omega)
theorem i_sub1 {n : Nat} (hn : n ≤ 2 ^ 30) : (nI n - nI 1).toInt = (n : Int) - 1 := by
  rcases Nat.lt_or_ge n (2 ^ 30) with h | h
  · have := pk_sub_toInt (a := n) (b := 1) h (by decide)
    simpa using this
  · have e : n = 2 ^ 30 := by omega
    subst e
    decide
/-- within 0 and less than n -/
theorem i_in {x : Int32} {n : Nat} (hn : n ≤ 2 ^ 30) : (nI 0 ≤ x ∧ x ≤ nI n - nI 1) ↔ ∃ j, j < n ∧ x = nI j := by
  constructor
  · rintro ⟨h1, h2⟩
    obtain ⟨j, hj, rfl⟩ := i_nn h1
    refine ⟨j, ?_, rfl⟩
    rw [Int32.le_iff_toInt_le, i_sub1 hn, nI_toInt hj] at h2
    omega
  · rintro ⟨j, hj, rfl⟩
    have hj2 : j < 2 ^ 31 := by omega
    refine ⟨nI_le (Nat.zero_le _) hj2, ?_⟩
    rw [Int32.le_iff_toInt_le, i_sub1 hn, nI_toInt hj2]
    omega
theorem i_le {x : Int32} {n : Nat} (hn : n < 2 ^ 31) : (nI 0 ≤ x ∧ x ≤ nI n) ↔ ∃ j, j ≤ n ∧ x = nI j := by
  constructor
  · rintro ⟨h1, h2⟩
    obtain ⟨j, hj, rfl⟩ := i_nn h1
    exact ⟨j, (nI_leI hj hn).mp h2, rfl⟩
  · rintro ⟨j, hj, rfl⟩
    exact ⟨nI_le (Nat.zero_le _) (by omega), nI_le hj hn⟩
theorem i_nlt {x y : Int32} : ¬ x < y ↔ y ≤ x := Int32.not_lt
theorem i_nle {x y : Int32} : ¬ x ≤ y ↔ y < x := Int32.not_le
theorem nI_inj {a b : Nat} (ha : a < 2 ^ 31) (hb : b < 2 ^ 31) (h : nI a = nI b) : a = b := (nI_eq ha hb).mp h
theorem vin (m : Nat) {j n : Nat} (hj : j < m) (e : n = m := by rfl) (hm : m < 2 ^ 31 := by decide) : vp_in (nI j) n := by
  subst e
  exact vp_in_nI hj hm
theorem cl {j : Nat} (h : j < 2 ^ 31) : (nI j).toNatClampNeg = j := nI_clamp h
theorem sh31 : ∀ k, k < 32 → ((nI k &&& 31).toBitVec.smod 32).toNat = k := by decide +kernel
theorem i_shr {h k : Nat} (hh : h < 2 ^ 31) (hk : k < 32) : nI h >>> (nI k &&& 31) = nI (h / 2 ^ k) := pk_shrN hh _ k (sh31 k hk)
theorem i_shl {h k : Nat} (hk : k < 32) (hh : h * 2 ^ k < 2 ^ 32) : nI h <<< (nI k &&& 31) = nI (h * 2 ^ k) := pk_shlN _ k (sh31 k hk) hh
theorem i_and1 {h : Nat} (hh : h < 2 ^ 32) : nI h &&& nI 1 = nI (h % 2) := pk_andN hh (m := nI 1) 1 (by decide)
/-- a bit, asked as the classes do -/
theorem i_bit {h k : Nat} (hh : h < 2 ^ 31) (hk : k < 32) : (nI h >>> (nI k &&& 31) &&& nI 1 = nI 1) ↔ h.testBit k = true := by
  rw [i_shr hh hk, i_and1 (Nat.lt_of_le_of_lt (Nat.div_le_self _ _) (by omega)), nI_eq (by omega) (by decide), Nat.testBit_eq_decide_div_mod_eq]
  simp
theorem i_mod {a d : Nat} (ha : a < 2 ^ 31) (h0 : 0 < d) (hd : d < 2 ^ 31) : nI a - nI a / nI d * nI d = nI (a % d) := pk_rem ha h0 hd
theorem i_div {a d : Nat} (ha : a < 2 ^ 31) (h0 : 0 < d) (hd : d < 2 ^ 31) : nI a / nI d = nI (a / d) := pk_div ha h0 hd
end
section
theorem c_M_in (E : zE) (σ : Sg) (a : Nat) (v lo hi : Int32) : zCt E mX12_in 0 0 0 σ [.ref a, .int v, .int lo, .int hi] (fun r σ' => σ' = σ ∧ (((lo ≤ v ∧ v ≤ hi) ∧ r = some (.int 1)) ∨ (¬ ((lo ≤ v ∧ v ≤ hi)) ∧ r = some (.int 0)))) := by
  refine z_intro (by decide) (Nat.le_of_ble_eq_true rfl) (fun X hX => ?_)
  refine bk hX lkX12_ok (pc' := 2) [.iload_n 1, .iload_n 2] (by decide +kernel) (And.intro trivial ?_)
  refine ic_lt hX (12) 14 (by decide +kernel) (by decide) (fun c1 => ?_) (fun c1 => ?_)
  · refine bk hX lkX12_ok (pc' := 15) [.iconst 0] (by decide +kernel) (And.intro trivial ?_)
    exact z_iret hX (by decide +kernel) rfl (rfl) (by decide) (by decide) (by first | exact ⟨rfl, Or.inr ⟨fun h => absurd h.1 (i_nle.mpr c1), rfl⟩⟩ | exact ⟨rfl, Or.inr ⟨fun h => absurd h.2 (i_nle.mpr c2), rfl⟩⟩ | exact ⟨rfl, Or.inl ⟨⟨i_nlt.mp c1, i_nlt.mp c2⟩, rfl⟩⟩)
  · refine bk hX lkX12_ok (pc' := 7) [.iload_n 1, .iload_n 3] (by decide +kernel) (And.intro trivial ?_)
    refine ic_gt hX (7) 14 (by decide +kernel) (by decide) (fun c2 => ?_) (fun c2 => ?_)
    · refine bk hX lkX12_ok (pc' := 15) [.iconst 0] (by decide +kernel) (And.intro trivial ?_)
      exact z_iret hX (by decide +kernel) rfl (rfl) (by decide) (by decide) (by first | exact ⟨rfl, Or.inr ⟨fun h => absurd h.1 (i_nle.mpr c1), rfl⟩⟩ | exact ⟨rfl, Or.inr ⟨fun h => absurd h.2 (i_nle.mpr c2), rfl⟩⟩ | exact ⟨rfl, Or.inl ⟨⟨i_nlt.mp c1, i_nlt.mp c2⟩, rfl⟩⟩)
    · refine bk hX lkX12_ok (pc' := 11) [.iconst 1] (by decide +kernel) (And.intro trivial ?_)
      refine gt_ hX (4) 15 (by decide +kernel) (by decide) ?_
      exact z_iret hX (by decide +kernel) rfl (rfl) (by decide) (by decide) (by first | exact ⟨rfl, Or.inr ⟨fun h => absurd h.1 (i_nle.mpr c1), rfl⟩⟩ | exact ⟨rfl, Or.inr ⟨fun h => absurd h.2 (i_nle.mpr c2), rfl⟩⟩ | exact ⟨rfl, Or.inl ⟨⟨i_nlt.mp c1, i_nlt.mp c2⟩, rfl⟩⟩)
theorem c_M_has (E : zE) (σ : Sg) (a : Nat) (set k : Int32) : zCt E mX12_has 0 0 0 σ [.ref a, .int set, .int k] (fun r σ' => σ' = σ ∧ (((set >>> (k &&& 31) &&& nI 1 = nI 1) ∧ r = some (.int 1)) ∨ (¬ ((set >>> (k &&& 31) &&& nI 1 = nI 1)) ∧ r = some (.int 0)))) := by
  refine z_intro (by decide) (Nat.le_of_ble_eq_true rfl) (fun X hX => ?_)
  refine bk hX lkX12_ok (pc' := 6) [.iload_n 1, .iload_n 2, .ishr, .iconst 1, .iand, .iconst 1] (by decide +kernel) (And.intro trivial ?_)
  refine ic_ne hX (7) 13 (by decide +kernel) (by decide) (fun hq => ?_) (fun hq => ?_)
  · refine bk hX lkX12_ok (pc' := 14) [.iconst 0] (by decide +kernel) (And.intro trivial ?_)
    exact z_iret hX (by decide +kernel) rfl (rfl) (by decide) (by decide) (by first | exact ⟨rfl, Or.inl ⟨hq, rfl⟩⟩ | exact ⟨rfl, Or.inr ⟨hq, rfl⟩⟩)
  · refine bk hX lkX12_ok (pc' := 10) [.iconst 1] (by decide +kernel) (And.intro trivial ?_)
    refine gt_ hX (4) 14 (by decide +kernel) (by decide) ?_
    exact z_iret hX (by decide +kernel) rfl (rfl) (by decide) (by decide) (by first | exact ⟨rfl, Or.inl ⟨hq, rfl⟩⟩ | exact ⟨rfl, Or.inr ⟨hq, rfl⟩⟩)
theorem c_M_isWorker (E : zE) (K N : Nat → Nat) (Rf : Nat → Nat → Option Nat) (I : Nat → Nat → Int32) (L : Nat → Nat → Int64) (p : Int32) {n : Nat} (hn : n ≤ 6) (hw : I 100 0 = nI n) : zCt E mX12_isWorker 1 0 0 (sg K N Rf I L) [.ref 100, .int p] (fun r σ' => σ' = (sg K N Rf I L) ∧ (((∃ j, j < n ∧ p = nI j) ∧ r = some (.int 1)) ∨ (¬ ((∃ j, j < n ∧ p = nI j)) ∧ r = some (.int 0)))) := by
  refine z_intro (by decide) (Nat.le_of_ble_eq_true rfl) (fun X hX => ?_)
  refine bk hX lkX12_ok (pc' := 9) [.aload_n 0, .iload_n 1, .iconst 0, .aload_n 0, .getfield 7, .iconst 1, .isub] (by decide +kernel) (And.intro trivial ?_)
  refine z_callV hX kw_X12_228 (c_M_in E _ _ _ _ _) rfl rfl rfl rfl rfl (by decide +kernel) (by decide) (by decide) (by decide) (by decide) (Nat.le_of_ble_eq_true rfl) ?_
  rintro _ _ ⟨rfl, hh⟩
  rw [hw, i_in (by omega)] at hh
  rcases hh with ⟨hq, rfl⟩ | ⟨hq, rfl⟩
  · exact z_iret hX (by decide +kernel) rfl (rfl) (by decide) (by decide) (by first | exact ⟨rfl, Or.inl ⟨hq, rfl⟩⟩ | exact ⟨rfl, Or.inr ⟨hq, rfl⟩⟩)
  · exact z_iret hX (by decide +kernel) rfl (rfl) (by decide) (by decide) (by first | exact ⟨rfl, Or.inl ⟨hq, rfl⟩⟩ | exact ⟨rfl, Or.inr ⟨hq, rfl⟩⟩)
theorem c_M_isHoles (E : zE) (σ : Sg) (hk : σ.1 100 = 14) (p : Int32) : zCt E mX12_isHoles 1 0 0 σ [.ref 100, .int p] (fun r σ' => σ' = σ ∧ (((∃ j, j ≤ 1023 ∧ p = nI j) ∧ r = some (.int 1)) ∨ (¬ ((∃ j, j ≤ 1023 ∧ p = nI j)) ∧ r = some (.int 0)))) := by
  refine z_intro (by decide) (Nat.le_of_ble_eq_true rfl) (fun X hX => ?_)
  refine bk hX lkX12_ok (pc' := 6) [.aload_n 0, .iload_n 1, .iconst 0, .sipush 1023] (by decide +kernel) (And.intro trivial ?_)
  refine z_callV hX kw_X12_228 (c_M_in E _ _ _ _ _) rfl rfl hk rfl rfl (by decide +kernel) (by decide) (by decide) (by decide) (by decide) (Nat.le_of_ble_eq_true rfl) ?_
  rintro _ _ ⟨rfl, hh⟩
  rw [i_le (by decide)] at hh
  rcases hh with ⟨hq, rfl⟩ | ⟨hq, rfl⟩
  · exact z_iret hX (by decide +kernel) rfl (rfl) (by decide) (by decide) (by first | exact ⟨rfl, Or.inl ⟨hq, rfl⟩⟩ | exact ⟨rfl, Or.inr ⟨hq, rfl⟩⟩)
  · exact z_iret hX (by decide +kernel) rfl (rfl) (by decide) (by decide) (by first | exact ⟨rfl, Or.inl ⟨hq, rfl⟩⟩ | exact ⟨rfl, Or.inr ⟨hq, rfl⟩⟩)
theorem c_M_isDays (E : zE) (σ : Sg) (hk : σ.1 100 = 14) (p : Int32) : zCt E mX12_isDays 1 0 0 σ [.ref 100, .int p] (fun r σ' => σ' = σ ∧ (((∃ j, j ≤ 60 ∧ p = nI j) ∧ r = some (.int 1)) ∨ (¬ ((∃ j, j ≤ 60 ∧ p = nI j)) ∧ r = some (.int 0)))) := by
  refine z_intro (by decide) (Nat.le_of_ble_eq_true rfl) (fun X hX => ?_)
  refine bk hX lkX12_ok (pc' := 5) [.aload_n 0, .iload_n 1, .iconst 0, .bipush 60] (by decide +kernel) (And.intro trivial ?_)
  refine z_callV hX kw_X12_228 (c_M_in E _ _ _ _ _) rfl rfl hk rfl rfl (by decide +kernel) (by decide) (by decide) (by decide) (by decide) (Nat.le_of_ble_eq_true rfl) ?_
  rintro _ _ ⟨rfl, hh⟩
  rw [i_le (by decide)] at hh
  rcases hh with ⟨hq, rfl⟩ | ⟨hq, rfl⟩
  · exact z_iret hX (by decide +kernel) rfl (rfl) (by decide) (by decide) (by first | exact ⟨rfl, Or.inl ⟨hq, rfl⟩⟩ | exact ⟨rfl, Or.inr ⟨hq, rfl⟩⟩)
  · exact z_iret hX (by decide +kernel) rfl (rfl) (by decide) (by decide) (by first | exact ⟨rfl, Or.inl ⟨hq, rfl⟩⟩ | exact ⟨rfl, Or.inr ⟨hq, rfl⟩⟩)
theorem c_M_isTape (E : zE) (σ : Sg) (hk : σ.1 100 = 14) (p : Int32) : zCt E mX12_isTape 1 0 0 σ [.ref 100, .int p] (fun r σ' => σ' = σ ∧ (((∃ j, j ≤ 5 ∧ p = nI j) ∧ r = some (.int 1)) ∨ (¬ ((∃ j, j ≤ 5 ∧ p = nI j)) ∧ r = some (.int 0)))) := by
  refine z_intro (by decide) (Nat.le_of_ble_eq_true rfl) (fun X hX => ?_)
  refine bk hX lkX12_ok (pc' := 4) [.aload_n 0, .iload_n 1, .iconst 0, .iconst 5] (by decide +kernel) (And.intro trivial ?_)
  refine z_callV hX kw_X12_228 (c_M_in E _ _ _ _ _) rfl rfl hk rfl rfl (by decide +kernel) (by decide) (by decide) (by decide) (by decide) (Nat.le_of_ble_eq_true rfl) ?_
  rintro _ _ ⟨rfl, hh⟩
  rw [i_le (by decide)] at hh
  rcases hh with ⟨hq, rfl⟩ | ⟨hq, rfl⟩
  · exact z_iret hX (by decide +kernel) rfl (rfl) (by decide) (by decide) (by first | exact ⟨rfl, Or.inl ⟨hq, rfl⟩⟩ | exact ⟨rfl, Or.inr ⟨hq, rfl⟩⟩)
  · exact z_iret hX (by decide +kernel) rfl (rfl) (by decide) (by decide) (by first | exact ⟨rfl, Or.inl ⟨hq, rfl⟩⟩ | exact ⟨rfl, Or.inr ⟨hq, rfl⟩⟩)
theorem c_M_swaps (E : zE) (K N : Nat → Nat) (Rf : Nat → Nat → Option Nat) (I : Nat → Nat → Int32) (L : Nat → Nat → Int64) (i j : Nat) (hi : i < 6) (hj : j < 6) : zCt E mX12_swaps 0 0 0 (sg K N Rf I L) [.ref 100, .int (nI i), .int (nI j)] (fun r σ' => σ' = sg K N Rf (up2 (up2 I 106 i (I 106 j)) 106 j (I 106 i)) L ∧ r = none) := by
  have ei : (nI i).toNatClampNeg = i := nI_clamp (by omega)
  have ej : (nI j).toNatClampNeg = j := nI_clamp (by omega)
  refine z_intro (by decide) (Nat.le_of_ble_eq_true rfl) (fun X hX => ?_)
  refine bk hX lkX12_ok (pc' := 26) [.aload_n 0, .getfield 26, .iload_n 1, .iaload, .istore_n 3, .aload_n 0, .getfield 26, .iload_n 1, .aload_n 0, .getfield 26, .iload_n 2, .iaload, .iastore, .aload_n 0, .getfield 26, .iload_n 2, .iload_n 3, .iastore] (by decide +kernel) (And.intro (by exact vin 6 hi) (And.intro (by exact vin 6 hj) (And.intro (by exact vin 6 hi) (And.intro (by exact vin 6 hj) (And.intro trivial ?_)))))
  exact z_vret hX (by decide +kernel) rfl (by decide) (by decide) (by rw [ei, ej]; exact ⟨rfl, rfl⟩)
theorem c_M_rests (E : zE) (K N : Nat → Nat) (Rf : Nat → Nat → Option Nat) (I : Nat → Nat → Int32) (L : Nat → Nat → Int64) (p is : Int32) : zCt E mX12_rests 0 0 0 (sg K N Rf I L) [.ref 100, .int p, .int is] (fun r σ' => σ' = sg K N Rf (up2 I 100 1 (if is = 0 then I 100 1 &&& (nI 1 <<< (p &&& 31) ^^^ -nI 1) else I 100 1 ||| nI 1 <<< (p &&& 31))) L ∧ r = none) := by
  refine z_intro (by decide) (Nat.le_of_ble_eq_true rfl) (fun X hX => ?_)
  refine bk hX lkX12_ok (pc' := 2) [.aload_n 0, .iload_n 2] (by decide +kernel) (And.intro trivial ?_)
  refine if_eq hX (14) 16 (by decide +kernel) (by decide) (fun c1 => ?_) (fun c1 => ?_)
  · refine bk hX lkX12_ok (pc' := 29) [.aload_n 0, .getfield 13, .iconst 1, .iload_n 1, .ishl, .iconst (Int.negSucc 0), .ixor, .iand, .putfield 13] (by decide +kernel) (And.intro trivial ?_)
    exact z_vret hX (by decide +kernel) rfl (by decide) (by decide) (by first | (rw [if_pos c1]; exact ⟨rfl, rfl⟩) | (rw [if_neg c1]; exact ⟨rfl, rfl⟩))
  · refine bk hX lkX12_ok (pc' := 13) [.aload_n 0, .getfield 13, .iconst 1, .iload_n 1, .ishl, .ior] (by decide +kernel) (And.intro trivial ?_)
    refine gt_ hX (13) 26 (by decide +kernel) (by decide) ?_
    refine bk hX lkX12_ok (pc' := 29) [.putfield 13] (by decide +kernel) (And.intro trivial ?_)
    exact z_vret hX (by decide +kernel) rfl (by decide) (by decide) (by first | (rw [if_pos c1]; exact ⟨rfl, rfl⟩) | (rw [if_neg c1]; exact ⟨rfl, rfl⟩))
end
section
/-- how many of the first k bits are set -/
def pcN (h : Nat) : Nat → Nat
  | 0 => 0
  | k + 1 => pcN h k + (if h.testBit k = true then 1 else 0)
theorem pcN_le (h : Nat) : ∀ k, pcN h k ≤ k
  | 0 => Nat.le_refl 0
  | k + 1 => by
    have := pcN_le h k
    unfold pcN
    split <;> omega
theorem c_M_bits (E : zE) (σ : Sg) (hk : σ.1 100 = 14) {h : Nat} (hh : h < 1024) : zCt E mX12_bits 1 0 0 σ [.ref 100, .int (nI h)] (fun r σ' => σ' = σ ∧ r = some (.int (nI (pcN h 10)))) := by
  refine z_intro (by decide) (Nat.le_of_ble_eq_true rfl) (fun X hX => ?_)
  have hl : ∀ m k, k + m = 10 → zS X σ 0 0 4 [(0, .ref 100), (1, .int (nI h)), (2, .int (nI (pcN h k))), (3, .int (nI k))] [] := by
    intro m
    induction m with
    | zero =>
      intro k hkm
      obtain rfl : k = 10 := by omega
      refine bk hX lkX12_ok (pc' := 7) [.iload_n 3, .bipush 10] (by decide +kernel) (And.intro trivial ?_)
      refine ic_ge hX (26) 33 (by decide +kernel) (by decide) (fun c_7 => ?_) (fun c => absurd (nI_le (a := 10) (b := 10) (by omega) (by decide)) c)
      refine bk hX lkX12_ok (pc' := 34) [.iload_n 2] (by decide +kernel) (And.intro trivial ?_)
      exact z_iret hX (by decide +kernel) rfl (rfl) (by decide) (by decide) (⟨rfl, rfl⟩)
    | succ m ih =>
      intro k hkm
      refine bk hX lkX12_ok (pc' := 7) [.iload_n 3, .bipush 10] (by decide +kernel) (And.intro trivial ?_)
      refine ic_ge hX (26) 33 (by decide +kernel) (by decide) (fun c => absurd c (nI_ge (a := k) (b := 10) (by omega) (by decide))) (fun c_7 => ?_)
      refine bk hX lkX12_ok (pc' := 14) [.iload_n 2, .aload_n 0, .iload_n 1, .iload_n 3] (by decide +kernel) (And.intro trivial ?_)
      refine z_callV hX kw_X12_224 (c_M_has E _ _ _ _) rfl rfl hk rfl rfl (by decide +kernel) (by decide) (by decide) (by decide) (by decide) (Nat.le_of_ble_eq_true rfl) ?_
      rintro _ _ ⟨rfl, hh⟩
      rw [i_bit (by omega) (by omega)] at hh
      rcases hh with ⟨hb, rfl⟩ | ⟨hb, rfl⟩
      · refine if_eq hX (7) 24 (by decide +kernel) (by decide) (fun c => absurd c (by decide)) (fun c_17 => ?_)
        refine bk hX lkX12_ok (pc' := 21) [.iconst 1] (by decide +kernel) (And.intro trivial ?_)
        refine gt_ hX (4) 25 (by decide +kernel) (by decide) ?_
        refine bk hX lkX12_ok (pc' := 30) [.iadd, .istore_n 2, .iinc 3 1] (by decide +kernel) (And.intro trivial ?_)
        refine gt_ hX (-26) 4 (by decide +kernel) (by decide) ?_
        refine z_lvk (lv' := [(0, _), (1, _), (2, _), (3, _)]) [2, 3, 1, 0] rfl ?_
        first | (have e : pcN h (k + 1) = pcN h k + 1 := by rw [pcN, if_pos hb]) | (have e : pcN h (k + 1) = pcN h k := by rw [pcN, if_neg hb]; omega)
        rw [nI_add]
        have := ih (k + 1) (by omega)
        rw [e] at this
        first | exact this | (simp only [show (1 : Int32) = nI 1 from rfl, show (0 : Int32) = nI 0 from rfl, nI_add, Nat.add_zero]; exact this)
      · refine if_eq hX (7) 24 (by decide +kernel) (by decide) (fun c_17 => ?_) (fun c => absurd (by decide) c)
        refine bk hX lkX12_ok (pc' := 30) [.iconst 0, .iadd, .istore_n 2, .iinc 3 1] (by decide +kernel) (And.intro trivial ?_)
        refine gt_ hX (-26) 4 (by decide +kernel) (by decide) ?_
        refine z_lvk (lv' := [(0, _), (1, _), (2, _), (3, _)]) [2, 3, 1, 0] rfl ?_
        first | (have e : pcN h (k + 1) = pcN h k + 1 := by rw [pcN, if_pos hb]) | (have e : pcN h (k + 1) = pcN h k := by rw [pcN, if_neg hb]; omega)
        rw [nI_add]
        have := ih (k + 1) (by omega)
        rw [e] at this
        first | exact this | (simp only [show (1 : Int32) = nI 1 from rfl, show (0 : Int32) = nI 0 from rfl, nI_add, Nat.add_zero]; exact this)
  refine bk hX lkX12_ok (pc' := 4) [.iconst 0, .istore_n 2, .iconst 0, .istore_n 3] (by decide +kernel) (And.intro trivial ?_)
  refine z_lvk (lv' := [(0, _), (1, _), (2, _), (3, _)]) [2, 3, 1, 0] rfl ?_
  exact hl 10 0 rfl
end
section
/-! ===== the gate by numbers: how many workers, kinds, v's, cards, holes, rows, at home (bits), day ===== -/
abbrev Gv : Type := Nat × (Nat → Nat) × (Nat → Nat) × (Nat → Nat) × (Nat → Nat) × (Nat → Nat) × Int32 × Nat
abbrev gn (g : Gv) : Nat := g.1
abbrev gk (g : Gv) : Nat → Nat := g.2.1
abbrev gv (g : Gv) : Nat → Nat := g.2.2.1
abbrev gc (g : Gv) : Nat → Nat := g.2.2.2.1
abbrev gh (g : Gv) : Nat → Nat := g.2.2.2.2.1
abbrev gr (g : Gv) : Nat → Nat := g.2.2.2.2.2.1
abbrev ga (g : Gv) : Int32 := g.2.2.2.2.2.2.1
abbrev gd (g : Gv) : Nat := g.2.2.2.2.2.2.2
def gwf (g : Gv) : Prop := gn g ≤ 6 ∧ (∀ p, p < gn g → gk g p ≤ 6 ∧ gv g p ≤ 9 ∧ gc g p < gn g ∧ gh g p < 1024 ∧ (∀ j, j < 4 → gr g (4 * p + j) ≤ 9)) ∧ (∀ p q, p < gn g → q < gn g → gc g p = gc g q → p = q)
def upN (f : Nat → Nat) (k v : Nat) : Nat → Nat := fun j => if j = k then v else f j
def lfL (h : Nat) : Nat → Nat → Nat
  | 0, _ => 0
  | m + 1, k => if h.testBit k = true then lfL h m (k + 1) else 2 ^ k
/-- the least free slot, as a bit -/
def lf (h : Nat) : Nat := lfL h 10 0
/-- what a worker of a kind, with v, punches on a day on a card with such holes; rs: its row's slot -/
def pn (k v d s rs : Nat) : Nat := if k = 1 then (if d % 3 = 0 then 0 else 2 ^ (d % 10)) else if k = 2 then 2 ^ ((v + d) % 10) else if k = 3 then lf s else if k = 4 then (if d % 3 = 0 then 0 else 2 ^ (d % 10) ||| 2 ^ ((d + 1) % 10)) else if k = 5 then 2 ^ (if s.testBit ((v + d) % 10) = true then ((v + d) % 10 + 5) % 10 else (v + d) % 10) else if k = 6 then lf s ||| 2 ^ rs else 2 ^ (d % 10)
def atB (x : Int32) (p : Nat) : Bool := decide (x >>> (nI p &&& 31) &&& nI 1 = nI 1)
/-- the holes when the first p workers have punched -/
def hoS (g : Gv) : Nat → Nat → Nat
  | 0 => gh g
  | p + 1 => if atB (ga g) p = true then hoS g p else upN (hoS g p) (gc g p) (hoS g p (gc g p) ||| pn (gk g p) (gv g p) (gd g) (hoS g p (gc g p)) (gr g (4 * p + gd g % 4)))
def rotC (n : Nat) (c : Nat → Nat) : Nat → Nat := fun p => if p < n then c ((p + 1) % n) else c p
/-- a day, by the round -/
def dayS (r : Nat) (g : Gv) : Gv := (gn g, gk g, gv g, (if r = 0 ∨ (gd g + 1) % r ≠ 0 then gc g else rotC (gn g) (gc g)), hoS g (gn g), gr g, ga g, gd g + 1)
def daysS (r : Nat) : Nat → Gv → Gv
  | 0, g => g
  | k + 1, g => dayS r (daysS r k g)
theorem lfL_lt (h : Nat) : ∀ m k, k + m = 10 → lfL h m k < 1024
  | 0, _, _ => Nat.le_of_ble_eq_true rfl
  | m + 1, k, e => by
    unfold lfL
    split
    · exact lfL_lt h m (k + 1) (by omega)
    · exact Nat.lt_of_lt_of_le (Nat.pow_lt_pow_right (a := 2) (by decide) (show k < 10 by omega)) (Nat.le_refl 1024)
theorem lf_lt (h : Nat) : lf h < 1024 := lfL_lt h 10 0 rfl
theorem or_lt {a b : Nat} (ha : a < 1024) (hb : b < 1024) : a ||| b < 1024 := Nat.or_lt_two_pow (n := 10) ha hb
theorem p2_lt {k : Nat} (h : k < 10) : 2 ^ k < 1024 := Nat.lt_of_lt_of_le (Nat.pow_lt_pow_right (a := 2) (by decide) h) (Nat.le_refl 1024)
theorem pn_lt (k v d s rs : Nat) (hr : rs ≤ 9) : pn k v d s rs < 1024 := by
  have h10 : ∀ x : Nat, 2 ^ (x % 10) < 1024 := fun x => p2_lt (Nat.mod_lt _ (by decide))
  unfold pn
  split
  · split
    · decide
    · exact h10 _
  · split
    · exact h10 _
    · split
      · exact lf_lt s
      · split
        · split
          · decide
          · exact or_lt (h10 _) (h10 _)
        · split
          · refine p2_lt ?_
            split <;> exact Nat.mod_lt _ (by decide)
          · split
            · exact or_lt (lf_lt s) (p2_lt (by omega))
            · exact h10 _
theorem hoS_lt {g : Gv} (hg : gwf g) : ∀ p, p ≤ gn g → ∀ c, c < gn g → hoS g p c < 1024
  | 0, _, c, hc => (hg.2.1 c hc).2.2.2.1
  | p + 1, hp, c, hc => by
    have ih := hoS_lt hg p (by omega)
    unfold hoS
    split
    · exact ih c hc
    · unfold upN
      split
      · exact or_lt (ih _ (hg.2.1 p (by omega)).2.2.1) (pn_lt _ _ _ _ _ ((hg.2.1 p (by omega)).2.2.2.2 _ (Nat.mod_lt _ (by decide))))
      · exact ih c hc
theorem rotC_inj {n : Nat} {c : Nat → Nat} (hc : ∀ p q, p < n → q < n → c p = c q → p = q) : ∀ p q, p < n → q < n → rotC n c p = rotC n c q → p = q := by
  intro p q hp hq h
  unfold rotC at h
  rw [if_pos hp, if_pos hq] at h
  have h1 := hc _ _ (Nat.mod_lt _ (by omega)) (Nat.mod_lt _ (by omega)) h
  rcases Nat.lt_or_ge (p + 1) n with a | a <;> rcases Nat.lt_or_ge (q + 1) n with b | b
  · rw [Nat.mod_eq_of_lt a, Nat.mod_eq_of_lt b] at h1; omega
  · have : q + 1 = n := by omega
    rw [Nat.mod_eq_of_lt a, this, Nat.mod_self] at h1; omega
  · have : p + 1 = n := by omega
    rw [Nat.mod_eq_of_lt b, this, Nat.mod_self] at h1; omega
  · omega
theorem gwf_day {g : Gv} (hg : gwf g) (r : Nat) : gwf (dayS r g) := by
  obtain ⟨a1, a2, a3⟩ := hg
  refine ⟨a1, fun p hp => ⟨(a2 p hp).1, (a2 p hp).2.1, ?_, hoS_lt ⟨a1, a2, a3⟩ _ (Nat.le_refl _) p hp, (a2 p hp).2.2.2.2⟩, ?_⟩
  · show (if r = 0 ∨ (gd g + 1) % r ≠ 0 then gc g else rotC (gn g) (gc g)) p < gn g
    split
    · exact (a2 p hp).2.2.1
    · have hp' : p < gn g := hp
      unfold rotC
      rw [if_pos hp']
      exact (a2 _ (Nat.mod_lt _ (by omega))).2.2.1
  · show ∀ p q, p < gn g → q < gn g → (if r = 0 ∨ (gd g + 1) % r ≠ 0 then gc g else rotC (gn g) (gc g)) p = (if r = 0 ∨ (gd g + 1) % r ≠ 0 then gc g else rotC (gn g) (gc g)) q → p = q
    split
    · exact a3
    · exact rotC_inj a3
theorem gn_days (r : Nat) : ∀ (k : Nat) (g : Gv), gn (daysS r k g) = gn g
  | 0, _ => rfl
  | k + 1, g => gn_days r k g
theorem gd_days (r : Nat) : ∀ (k : Nat) (g : Gv), gd (daysS r k g) = gd g + k
  | 0, _ => rfl
  | k + 1, g => by
    show gd (daysS r k g) + 1 = _
    rw [gd_days r k g]; omega
theorem gwf_days {g : Gv} (hg : gwf g) (r : Nat) : ∀ k, gwf (daysS r k g)
  | 0 => hg
  | k + 1 => gwf_day (gwf_days hg r k) r
def mG (g : Gv) (I : Nat → Nat → Int32) : Prop := I 100 0 = nI (gn g) ∧ I 100 1 = ga g ∧ I 100 2 = nI (gd g) ∧ ∀ p, p < gn g → I 104 p = nI (gk g p) ∧ I 105 p = nI (gv g p) ∧ I 106 p = nI (gc g p) ∧ I 107 p = nI (gh g p) ∧ ∀ j, j < 4 → I 108 (4 * p + j) = nI (gr g (4 * p + j))
theorem i_or (a b : Nat) : nI a ||| nI b = nI (a ||| b) := by
  apply Int32.toBitVec_inj.1
  show BitVec.ofNat 32 a ||| BitVec.ofNat 32 b = BitVec.ofNat 32 (a ||| b)
  apply BitVec.eq_of_getLsbD_eq
  intro i hi
  simp [hi]
theorem i_1shl {k : Nat} (hk : k < 10) : nI 1 <<< (nI k &&& 31) = nI (2 ^ k) := by
  rw [i_shl (by omega) (by rw [Nat.one_mul]; exact Nat.pow_lt_pow_right (by decide) (by omega)), Nat.one_mul]
end
section
theorem c_M_leastFree (E : zE) (σ : Sg) (hk : σ.1 100 = 14) {h : Nat} (hh : h < 1024) : zCt E mX12_leastFree 1 0 0 σ [.ref 100, .int (nI h)] (fun r σ' => σ' = σ ∧ r = some (.int (nI (lf h)))) := by
  refine z_intro (by decide) (Nat.le_of_ble_eq_true rfl) (fun X hX => ?_)
  have hl : ∀ m k, k + m = 10 → lfL h m k = lf h → zS X σ 0 0 2 [(0, .ref 100), (1, .int (nI h)), (2, .int (nI k))] [] := by
    intro m
    induction m with
    | zero =>
      intro k hkm hf
      obtain rfl : k = 10 := by omega
      refine bk hX lkX12_ok (pc' := 5) [.iload_n 2, .bipush 10] (by decide +kernel) (And.intro trivial ?_)
      refine ic_ge hX (22) 27 (by decide +kernel) (by decide) (fun c_5 => ?_) (fun c => absurd (nI_le (a := 10) (b := 10) (by omega) (by decide)) c)
      refine bk hX lkX12_ok (pc' := 28) [.iconst 0] (by decide +kernel) (And.intro trivial ?_)
      exact z_iret hX (by decide +kernel) rfl (rfl) (by decide) (by decide) (by rw [← hf]; exact ⟨rfl, rfl⟩)
    | succ m ih =>
      intro k hkm hf
      unfold lfL at hf
      refine bk hX lkX12_ok (pc' := 5) [.iload_n 2, .bipush 10] (by decide +kernel) (And.intro trivial ?_)
      refine ic_ge hX (22) 27 (by decide +kernel) (by decide) (fun c => absurd c (nI_ge (a := k) (b := 10) (by omega) (by decide))) (fun c_5 => ?_)
      refine bk hX lkX12_ok (pc' := 11) [.aload_n 0, .iload_n 1, .iload_n 2] (by decide +kernel) (And.intro trivial ?_)
      refine z_callV hX kw_X12_224 (c_M_has E _ _ _ _) rfl rfl hk rfl rfl (by decide +kernel) (by decide) (by decide) (by decide) (by decide) (Nat.le_of_ble_eq_true rfl) ?_
      rintro _ _ ⟨rfl, hh⟩
      rw [i_bit (by omega) (by omega)] at hh
      rcases hh with ⟨hb, rfl⟩ | ⟨hb, rfl⟩
      · refine if_ne hX (7) 21 (by decide +kernel) (by decide) (fun c_14 => ?_) (fun c => absurd c (by decide))
        refine bk hX lkX12_ok (pc' := 24) [.iinc 2 1] (by decide +kernel) (And.intro trivial ?_)
        refine gt_ hX (-22) 2 (by decide +kernel) (by decide) ?_
        refine z_lvk (lv' := [(0, _), (1, _), (2, _)]) [1, 2, 0] rfl ?_
        rw [nI_add]
        rw [if_pos hb] at hf
        exact ih (k + 1) (by omega) hf
      · refine if_ne hX (7) 21 (by decide +kernel) (by decide) (fun c => absurd (by decide) c) (fun c_14 => ?_)
        refine bk hX lkX12_ok (pc' := 20) [.iconst 1, .iload_n 2, .ishl] (by decide +kernel) (And.intro trivial ?_)
        exact z_iret hX (by decide +kernel) rfl (rfl) (by decide) (by decide) (by rw [if_neg hb] at hf; rw [i_1shl (by omega), hf]; exact ⟨rfl, rfl⟩)
  refine bk hX lkX12_ok (pc' := 2) [.iconst 0, .istore_n 2] (by decide +kernel) (And.intro trivial ?_)
  refine z_lvk (lv' := [(0, _), (1, _), (2, _)]) [1, 2, 0] rfl ?_
  exact hl 10 0 rfl rfl
set_option maxHeartbeats 1000000 in
theorem c_M_punches (E : zE) (K N : Nat → Nat) (Rf : Nat → Nat → Option Nat) (I : Nat → Nat → Int32) (L : Nat → Nat → Int64) {g : Gv} (hg : gwf g) (hG : mG g I) (hd : gd g < 1000000) (i : Nat) (hi : i < gn g) {s : Nat} (hs : s < 1024) : zCt E mX12_punches 2 0 0 (sg K N Rf I L) [.ref 100, .int (nI i), .int (nI s)] (fun r σ' => σ' = (sg K N Rf I L) ∧ r = some (.int (nI (pn (gk g i) (gv g i) (gd g) s (gr g (4 * i + gd g % 4)))))) := by
  have h6 : gn g ≤ 6 := hg.1
  obtain ⟨hk6, hv9, hcn, hho, hro⟩ := hg.2.1 i hi
  obtain ⟨-, -, hday, hp⟩ := hG
  obtain ⟨hki, hvi, -, -, hrw⟩ := hp i hi
  have ci : (nI i).toNatClampNeg = i := cl (by omega)
  have b10 : gd g % 10 < 10 := Nat.mod_lt _ (by decide)
  have b10' : (gd g + 1) % 10 < 10 := Nat.mod_lt _ (by decide)
  have bv10 : (gv g i + gd g) % 10 < 10 := Nat.mod_lt _ (by decide)
  have b105 : ((gv g i + gd g) % 10 + 5) % 10 < 10 := Nat.mod_lt _ (by decide)
  have b105' : (gv g i + gd g + 5) % 10 < 10 := Nat.mod_lt _ (by decide)
  have b4 : gd g % 4 < 4 := Nat.mod_lt _ (by decide)
  have hbr : gr g (4 * i + gd g % 4) < 10 := Nat.lt_succ_of_le (hro _ b4)
  have m10 : nI (gd g) - nI (gd g) / nI 10 * nI 10 = nI (gd g % 10) := i_mod (by omega) (by decide) (by decide)
  have m3 : nI (gd g) - nI (gd g) / nI 3 * nI 3 = nI (gd g % 3) := i_mod (by omega) (by decide) (by decide)
  have m4 : nI (gd g) - nI (gd g) / nI 4 * nI 4 = nI (gd g % 4) := i_mod (by omega) (by decide) (by decide)
  have m10' : nI (gd g + 1) - nI (gd g + 1) / nI 10 * nI 10 = nI ((gd g + 1) % 10) := i_mod (by omega) (by decide) (by decide)
  have mv10 : nI (gv g i + gd g) - nI (gv g i + gd g) / nI 10 * nI 10 = nI ((gv g i + gd g) % 10) := i_mod (by omega) (by decide) (by decide)
  have m105 : nI ((gv g i + gd g) % 10 + 5) - nI ((gv g i + gd g) % 10 + 5) / nI 10 * nI 10 = nI (((gv g i + gd g) % 10 + 5) % 10) := i_mod (by omega) (by decide) (by decide)
  have hrr := hrw _ b4
  have e4 : (nI (4 * i + gd g % 4)).toNatClampNeg = 4 * i + gd g % 4 := cl (by omega)
  refine z_intro (by decide) (Nat.le_of_ble_eq_true rfl) (fun X hX => ?_)
  refine bk hX lkX12_ok (pc' := 32) [.iconst 1, .aload_n 0, .getfield 16, .bipush 10, .irem, .ishl, .istore_n 3, .aload_n 0, .getfield 23, .iload_n 1, .iaload, .aload_n 0, .getfield 16, .iadd, .bipush 10, .irem, .istore 4, .aload_n 0, .getfield 16, .iconst 3, .irem] (by decide +kernel) (And.intro (by decide) (And.intro (by exact vin 6 (by omega)) (And.intro (by decide) (And.intro (by decide) (And.intro trivial ?_)))))
  simp only [hday, hvi, ci, m10, m3, nI_add, mv10]
  refine if_ne hX (7) 39 (by decide +kernel) (by decide) (fun hl3 => ?_) (fun hl3 => ?_)
  · have hl3 : ¬ gd g % 3 = 0 := fun h => hl3 (by rw [h]; rfl)
    refine bk hX lkX12_ok (pc' := 48) [.iconst 0, .istore 5, .aload_n 0, .getfield 19, .iload_n 1, .iaload] (by decide +kernel) (And.intro (by exact vin 6 (by omega)) (And.intro trivial ?_))
    simp only [ci]
    have hk7 : gk g i = 0 ∨ gk g i = 1 ∨ gk g i = 2 ∨ gk g i = 3 ∨ gk g i = 4 ∨ gk g i = 5 ∨ gk g i = 6 := by omega
    rcases hk7 with e | e | e | e | e | e | e
    · rw [hki, e]
      refine z_tsw hX 182 (dflt := 134) (lo := 1) (hi := 6) (offs := #[40, 51, 56, 62, 85, 110]) (len := 40) (off := 134) (by decide +kernel) (by decide) (by decide) ?_
      refine bk hX lkX12_ok (pc' := 183) [.iload_n 3] (by decide +kernel) (And.intro trivial ?_)
      exact z_iret hX (by decide +kernel) rfl (rfl) (by decide) (by decide) (by
  first
    | exact absurd c_90 (by decide)
    | exact absurd c_112 (by decide)
    | exact absurd c_90 (fun h => h (by decide))
    | exact absurd c_112 (fun h => h (by decide))
    | (refine ⟨rfl, ?_⟩
       simp [pn, e, hl3, i_or, i_1shl, b10, bv10, b10', hb, b105', hbr]
       done)
    | (refine ⟨rfl, ?_⟩
       simp [pn, e, hl3, i_or, i_1shl, b10, bv10, b10']
       done)
    | (refine ⟨rfl, ?_⟩
       simp [pn, e, i_or, i_1shl, b10, bv10, b10', hbr]
       done))
    · rw [hki, e]
      refine z_tsw hX 88 (dflt := 134) (lo := 1) (hi := 6) (offs := #[40, 51, 56, 62, 85, 110]) (len := 40) (off := 40) (by decide +kernel) (by decide) (by decide) ?_
      refine bk hX lkX12_ok (pc' := 90) [.iload 5] (by decide +kernel) (And.intro trivial ?_)
      refine if_eq hX (7) 97 (by decide +kernel) (by decide) (fun c_90 => ?_) (fun c_90 => ?_)
      · refine bk hX lkX12_ok (pc' := 98) [.iload_n 3] (by decide +kernel) (And.intro trivial ?_)
        exact z_iret hX (by decide +kernel) rfl (rfl) (by decide) (by decide) (by
  first
    | exact absurd c_90 (by decide)
    | exact absurd c_112 (by decide)
    | exact absurd c_90 (fun h => h (by decide))
    | exact absurd c_112 (fun h => h (by decide))
    | (refine ⟨rfl, ?_⟩
       simp [pn, e, hl3, i_or, i_1shl, b10, bv10, b10', hb, b105', hbr]
       done)
    | (refine ⟨rfl, ?_⟩
       simp [pn, e, hl3, i_or, i_1shl, b10, bv10, b10']
       done)
    | (refine ⟨rfl, ?_⟩
       simp [pn, e, i_or, i_1shl, b10, bv10, b10', hbr]
       done))
      · refine bk hX lkX12_ok (pc' := 94) [.iconst 0] (by decide +kernel) (And.intro trivial ?_)
        refine gt_ hX (4) 98 (by decide +kernel) (by decide) ?_
        exact z_iret hX (by decide +kernel) rfl (rfl) (by decide) (by decide) (by
  first
    | exact absurd c_90 (by decide)
    | exact absurd c_112 (by decide)
    | exact absurd c_90 (fun h => h (by decide))
    | exact absurd c_112 (fun h => h (by decide))
    | (refine ⟨rfl, ?_⟩
       simp [pn, e, hl3, i_or, i_1shl, b10, bv10, b10', hb, b105', hbr]
       done)
    | (refine ⟨rfl, ?_⟩
       simp [pn, e, hl3, i_or, i_1shl, b10, bv10, b10']
       done)
    | (refine ⟨rfl, ?_⟩
       simp [pn, e, i_or, i_1shl, b10, bv10, b10', hbr]
       done))
    · rw [hki, e]
      refine z_tsw hX 99 (dflt := 134) (lo := 1) (hi := 6) (offs := #[40, 51, 56, 62, 85, 110]) (len := 40) (off := 51) (by decide +kernel) (by decide) (by decide) ?_
      refine bk hX lkX12_ok (pc' := 103) [.iconst 1, .iload 4, .ishl] (by decide +kernel) (And.intro trivial ?_)
      exact z_iret hX (by decide +kernel) rfl (rfl) (by decide) (by decide) (by
  first
    | exact absurd c_90 (by decide)
    | exact absurd c_112 (by decide)
    | exact absurd c_90 (fun h => h (by decide))
    | exact absurd c_112 (fun h => h (by decide))
    | (refine ⟨rfl, ?_⟩
       simp [pn, e, hl3, i_or, i_1shl, b10, bv10, b10', hb, b105', hbr]
       done)
    | (refine ⟨rfl, ?_⟩
       simp [pn, e, hl3, i_or, i_1shl, b10, bv10, b10']
       done)
    | (refine ⟨rfl, ?_⟩
       simp [pn, e, i_or, i_1shl, b10, bv10, b10', hbr]
       done))
    · rw [hki, e]
      refine z_tsw hX 104 (dflt := 134) (lo := 1) (hi := 6) (offs := #[40, 51, 56, 62, 85, 110]) (len := 40) (off := 56) (by decide +kernel) (by decide) (by decide) ?_
      refine bk hX lkX12_ok (pc' := 106) [.aload_n 0, .iload_n 2] (by decide +kernel) (And.intro trivial ?_)
      refine z_callV hX kw_X12_316 (c_M_leastFree E _ rfl hs) rfl rfl rfl rfl rfl (by decide +kernel) (by decide) (by decide) (by decide) (by decide) (Nat.le_of_ble_eq_true rfl) ?_
      rintro _ _ ⟨rfl, rfl⟩
      exact z_iret hX (by decide +kernel) rfl (rfl) (by decide) (by decide) (by
  first
    | exact absurd c_90 (by decide)
    | exact absurd c_112 (by decide)
    | exact absurd c_90 (fun h => h (by decide))
    | exact absurd c_112 (fun h => h (by decide))
    | (refine ⟨rfl, ?_⟩
       simp [pn, e, hl3, i_or, i_1shl, b10, bv10, b10', hb, b105', hbr]
       done)
    | (refine ⟨rfl, ?_⟩
       simp [pn, e, hl3, i_or, i_1shl, b10, bv10, b10']
       done)
    | (refine ⟨rfl, ?_⟩
       simp [pn, e, i_or, i_1shl, b10, bv10, b10', hbr]
       done))
    · rw [hki, e]
      refine z_tsw hX 110 (dflt := 134) (lo := 1) (hi := 6) (offs := #[40, 51, 56, 62, 85, 110]) (len := 40) (off := 62) (by decide +kernel) (by decide) (by decide) ?_
      refine bk hX lkX12_ok (pc' := 112) [.iload 5] (by decide +kernel) (And.intro trivial ?_)
      refine if_eq hX (7) 119 (by decide +kernel) (by decide) (fun c_112 => ?_) (fun c_112 => ?_)
      · refine bk hX lkX12_ok (pc' := 131) [.iload_n 3, .iconst 1, .aload_n 0, .getfield 16, .iconst 1, .iadd, .bipush 10, .irem, .ishl] (by decide +kernel) (And.intro (by decide) (And.intro trivial ?_))
        simp only [hday, nI_add, m10']
        refine bk hX lkX12_ok (pc' := 132) [.ior] (by decide +kernel) (And.intro trivial ?_)
        exact z_iret hX (by decide +kernel) rfl (rfl) (by decide) (by decide) (by
  first
    | exact absurd c_90 (by decide)
    | exact absurd c_112 (by decide)
    | exact absurd c_90 (fun h => h (by decide))
    | exact absurd c_112 (fun h => h (by decide))
    | (refine ⟨rfl, ?_⟩
       simp [pn, e, hl3, i_or, i_1shl, b10, bv10, b10', hb, b105', hbr]
       done)
    | (refine ⟨rfl, ?_⟩
       simp [pn, e, hl3, i_or, i_1shl, b10, bv10, b10']
       done)
    | (refine ⟨rfl, ?_⟩
       simp [pn, e, i_or, i_1shl, b10, bv10, b10', hbr]
       done))
      · refine bk hX lkX12_ok (pc' := 116) [.iconst 0] (by decide +kernel) (And.intro trivial ?_)
        refine gt_ hX (16) 132 (by decide +kernel) (by decide) ?_
        exact z_iret hX (by decide +kernel) rfl (rfl) (by decide) (by decide) (by
  first
    | exact absurd c_90 (by decide)
    | exact absurd c_112 (by decide)
    | exact absurd c_90 (fun h => h (by decide))
    | exact absurd c_112 (fun h => h (by decide))
    | (refine ⟨rfl, ?_⟩
       simp [pn, e, hl3, i_or, i_1shl, b10, bv10, b10', hb, b105', hbr]
       done)
    | (refine ⟨rfl, ?_⟩
       simp [pn, e, hl3, i_or, i_1shl, b10, bv10, b10']
       done)
    | (refine ⟨rfl, ?_⟩
       simp [pn, e, i_or, i_1shl, b10, bv10, b10', hbr]
       done))
    · rw [hki, e]
      refine z_tsw hX 133 (dflt := 134) (lo := 1) (hi := 6) (offs := #[40, 51, 56, 62, 85, 110]) (len := 40) (off := 85) (by decide +kernel) (by decide) (by decide) ?_
      refine bk hX lkX12_ok (pc' := 138) [.iconst 1, .aload_n 0, .iload_n 2, .iload 4] (by decide +kernel) (And.intro trivial ?_)
      refine z_callV hX kw_X12_224 (c_M_has E _ _ _ _) rfl rfl rfl rfl rfl (by decide +kernel) (by decide) (by decide) (by decide) (by decide) (Nat.le_of_ble_eq_true rfl) ?_
      rintro _ _ ⟨rfl, hh⟩
      rw [i_bit (by omega) (by omega)] at hh
      rcases hh with ⟨hb, rfl⟩ | ⟨hb, rfl⟩
      · refine if_eq hX (13) 154 (by decide +kernel) (by decide) (fun c => absurd c (by decide)) (fun c_141 => ?_)
        refine bk hX lkX12_ok (pc' := 151) [.iload 4, .iconst 5, .iadd, .bipush 10, .irem] (by decide +kernel) (And.intro (by decide) (And.intro trivial ?_))
        simp only [nI_add, m105]
        refine gt_ hX (5) 156 (by decide +kernel) (by decide) ?_
        refine bk hX lkX12_ok (pc' := 157) [.ishl] (by decide +kernel) (And.intro trivial ?_)
        exact z_iret hX (by decide +kernel) rfl (rfl) (by decide) (by decide) (by
  first
    | exact absurd c_90 (by decide)
    | exact absurd c_112 (by decide)
    | exact absurd c_90 (fun h => h (by decide))
    | exact absurd c_112 (fun h => h (by decide))
    | (refine ⟨rfl, ?_⟩
       simp [pn, e, hl3, i_or, i_1shl, b10, bv10, b10', hb, b105', hbr]
       done)
    | (refine ⟨rfl, ?_⟩
       simp [pn, e, hl3, i_or, i_1shl, b10, bv10, b10']
       done)
    | (refine ⟨rfl, ?_⟩
       simp [pn, e, i_or, i_1shl, b10, bv10, b10', hbr]
       done))
      · refine if_eq hX (13) 154 (by decide +kernel) (by decide) (fun c_141 => ?_) (fun c => absurd (by decide) c)
        refine bk hX lkX12_ok (pc' := 157) [.iload 4, .ishl] (by decide +kernel) (And.intro trivial ?_)
        exact z_iret hX (by decide +kernel) rfl (rfl) (by decide) (by decide) (by
  first
    | exact absurd c_90 (by decide)
    | exact absurd c_112 (by decide)
    | exact absurd c_90 (fun h => h (by decide))
    | exact absurd c_112 (fun h => h (by decide))
    | (refine ⟨rfl, ?_⟩
       simp [pn, e, hl3, i_or, i_1shl, b10, bv10, b10', hb, b105', hbr]
       done)
    | (refine ⟨rfl, ?_⟩
       simp [pn, e, hl3, i_or, i_1shl, b10, bv10, b10']
       done)
    | (refine ⟨rfl, ?_⟩
       simp [pn, e, i_or, i_1shl, b10, bv10, b10', hbr]
       done))
    · rw [hki, e]
      refine z_tsw hX 158 (dflt := 134) (lo := 1) (hi := 6) (offs := #[40, 51, 56, 62, 85, 110]) (len := 40) (off := 110) (by decide +kernel) (by decide) (by decide) ?_
      refine bk hX lkX12_ok (pc' := 160) [.aload_n 0, .iload_n 2] (by decide +kernel) (And.intro trivial ?_)
      refine z_callV hX kw_X12_316 (c_M_leastFree E _ rfl hs) rfl rfl rfl rfl rfl (by decide +kernel) (by decide) (by decide) (by decide) (by decide) (Nat.le_of_ble_eq_true rfl) ?_
      rintro _ _ ⟨rfl, rfl⟩
      refine bk hX lkX12_ok (pc' := 179) [.iconst 1, .aload_n 0, .getfield 32, .iconst 4, .iload_n 1, .imul, .aload_n 0, .getfield 16, .iconst 4, .irem, .iadd, .iaload] (by decide +kernel) (And.intro (by decide) (And.intro (by (simp only [hday, m4, pk_mul, nI_add]; exact vin 24 (by omega))) (And.intro trivial ?_)))
      simp only [hday, m4, pk_mul, nI_add, e4, hrr]
      refine bk hX lkX12_ok (pc' := 181) [.ishl, .ior] (by decide +kernel) (And.intro trivial ?_)
      exact z_iret hX (by decide +kernel) rfl (rfl) (by decide) (by decide) (by
  first
    | exact absurd c_90 (by decide)
    | exact absurd c_112 (by decide)
    | exact absurd c_90 (fun h => h (by decide))
    | exact absurd c_112 (fun h => h (by decide))
    | (refine ⟨rfl, ?_⟩
       simp [pn, e, hl3, i_or, i_1shl, b10, bv10, b10', hb, b105', hbr]
       done)
    | (refine ⟨rfl, ?_⟩
       simp [pn, e, hl3, i_or, i_1shl, b10, bv10, b10']
       done)
    | (refine ⟨rfl, ?_⟩
       simp [pn, e, i_or, i_1shl, b10, bv10, b10', hbr]
       done))
  · have hl3 : gd g % 3 = 0 := nI_inj (by omega) (by decide) hl3
    refine bk hX lkX12_ok (pc' := 36) [.iconst 1] (by decide +kernel) (And.intro trivial ?_)
    refine gt_ hX (4) 40 (by decide +kernel) (by decide) ?_
    refine bk hX lkX12_ok (pc' := 48) [.istore 5, .aload_n 0, .getfield 19, .iload_n 1, .iaload] (by decide +kernel) (And.intro (by exact vin 6 (by omega)) (And.intro trivial ?_))
    simp only [ci]
    have hk7 : gk g i = 0 ∨ gk g i = 1 ∨ gk g i = 2 ∨ gk g i = 3 ∨ gk g i = 4 ∨ gk g i = 5 ∨ gk g i = 6 := by omega
    rcases hk7 with e | e | e | e | e | e | e
    · rw [hki, e]
      refine z_tsw hX 182 (dflt := 134) (lo := 1) (hi := 6) (offs := #[40, 51, 56, 62, 85, 110]) (len := 40) (off := 134) (by decide +kernel) (by decide) (by decide) ?_
      refine bk hX lkX12_ok (pc' := 183) [.iload_n 3] (by decide +kernel) (And.intro trivial ?_)
      exact z_iret hX (by decide +kernel) rfl (rfl) (by decide) (by decide) (by
  first
    | exact absurd c_90 (by decide)
    | exact absurd c_112 (by decide)
    | exact absurd c_90 (fun h => h (by decide))
    | exact absurd c_112 (fun h => h (by decide))
    | (refine ⟨rfl, ?_⟩
       simp [pn, e, hl3, i_or, i_1shl, b10, bv10, b10', hb, b105', hbr]
       done)
    | (refine ⟨rfl, ?_⟩
       simp [pn, e, hl3, i_or, i_1shl, b10, bv10, b10']
       done)
    | (refine ⟨rfl, ?_⟩
       simp [pn, e, i_or, i_1shl, b10, bv10, b10', hbr]
       done))
    · rw [hki, e]
      refine z_tsw hX 88 (dflt := 134) (lo := 1) (hi := 6) (offs := #[40, 51, 56, 62, 85, 110]) (len := 40) (off := 40) (by decide +kernel) (by decide) (by decide) ?_
      refine bk hX lkX12_ok (pc' := 90) [.iload 5] (by decide +kernel) (And.intro trivial ?_)
      refine if_eq hX (7) 97 (by decide +kernel) (by decide) (fun c_90 => ?_) (fun c_90 => ?_)
      · refine bk hX lkX12_ok (pc' := 98) [.iload_n 3] (by decide +kernel) (And.intro trivial ?_)
        exact z_iret hX (by decide +kernel) rfl (rfl) (by decide) (by decide) (by
  first
    | exact absurd c_90 (by decide)
    | exact absurd c_112 (by decide)
    | exact absurd c_90 (fun h => h (by decide))
    | exact absurd c_112 (fun h => h (by decide))
    | (refine ⟨rfl, ?_⟩
       simp [pn, e, hl3, i_or, i_1shl, b10, bv10, b10', hb, b105', hbr]
       done)
    | (refine ⟨rfl, ?_⟩
       simp [pn, e, hl3, i_or, i_1shl, b10, bv10, b10']
       done)
    | (refine ⟨rfl, ?_⟩
       simp [pn, e, i_or, i_1shl, b10, bv10, b10', hbr]
       done))
      · refine bk hX lkX12_ok (pc' := 94) [.iconst 0] (by decide +kernel) (And.intro trivial ?_)
        refine gt_ hX (4) 98 (by decide +kernel) (by decide) ?_
        exact z_iret hX (by decide +kernel) rfl (rfl) (by decide) (by decide) (by
  first
    | exact absurd c_90 (by decide)
    | exact absurd c_112 (by decide)
    | exact absurd c_90 (fun h => h (by decide))
    | exact absurd c_112 (fun h => h (by decide))
    | (refine ⟨rfl, ?_⟩
       simp [pn, e, hl3, i_or, i_1shl, b10, bv10, b10', hb, b105', hbr]
       done)
    | (refine ⟨rfl, ?_⟩
       simp [pn, e, hl3, i_or, i_1shl, b10, bv10, b10']
       done)
    | (refine ⟨rfl, ?_⟩
       simp [pn, e, i_or, i_1shl, b10, bv10, b10', hbr]
       done))
    · rw [hki, e]
      refine z_tsw hX 99 (dflt := 134) (lo := 1) (hi := 6) (offs := #[40, 51, 56, 62, 85, 110]) (len := 40) (off := 51) (by decide +kernel) (by decide) (by decide) ?_
      refine bk hX lkX12_ok (pc' := 103) [.iconst 1, .iload 4, .ishl] (by decide +kernel) (And.intro trivial ?_)
      exact z_iret hX (by decide +kernel) rfl (rfl) (by decide) (by decide) (by
  first
    | exact absurd c_90 (by decide)
    | exact absurd c_112 (by decide)
    | exact absurd c_90 (fun h => h (by decide))
    | exact absurd c_112 (fun h => h (by decide))
    | (refine ⟨rfl, ?_⟩
       simp [pn, e, hl3, i_or, i_1shl, b10, bv10, b10', hb, b105', hbr]
       done)
    | (refine ⟨rfl, ?_⟩
       simp [pn, e, hl3, i_or, i_1shl, b10, bv10, b10']
       done)
    | (refine ⟨rfl, ?_⟩
       simp [pn, e, i_or, i_1shl, b10, bv10, b10', hbr]
       done))
    · rw [hki, e]
      refine z_tsw hX 104 (dflt := 134) (lo := 1) (hi := 6) (offs := #[40, 51, 56, 62, 85, 110]) (len := 40) (off := 56) (by decide +kernel) (by decide) (by decide) ?_
      refine bk hX lkX12_ok (pc' := 106) [.aload_n 0, .iload_n 2] (by decide +kernel) (And.intro trivial ?_)
      refine z_callV hX kw_X12_316 (c_M_leastFree E _ rfl hs) rfl rfl rfl rfl rfl (by decide +kernel) (by decide) (by decide) (by decide) (by decide) (Nat.le_of_ble_eq_true rfl) ?_
      rintro _ _ ⟨rfl, rfl⟩
      exact z_iret hX (by decide +kernel) rfl (rfl) (by decide) (by decide) (by
  first
    | exact absurd c_90 (by decide)
    | exact absurd c_112 (by decide)
    | exact absurd c_90 (fun h => h (by decide))
    | exact absurd c_112 (fun h => h (by decide))
    | (refine ⟨rfl, ?_⟩
       simp [pn, e, hl3, i_or, i_1shl, b10, bv10, b10', hb, b105', hbr]
       done)
    | (refine ⟨rfl, ?_⟩
       simp [pn, e, hl3, i_or, i_1shl, b10, bv10, b10']
       done)
    | (refine ⟨rfl, ?_⟩
       simp [pn, e, i_or, i_1shl, b10, bv10, b10', hbr]
       done))
    · rw [hki, e]
      refine z_tsw hX 110 (dflt := 134) (lo := 1) (hi := 6) (offs := #[40, 51, 56, 62, 85, 110]) (len := 40) (off := 62) (by decide +kernel) (by decide) (by decide) ?_
      refine bk hX lkX12_ok (pc' := 112) [.iload 5] (by decide +kernel) (And.intro trivial ?_)
      refine if_eq hX (7) 119 (by decide +kernel) (by decide) (fun c_112 => ?_) (fun c_112 => ?_)
      · refine bk hX lkX12_ok (pc' := 131) [.iload_n 3, .iconst 1, .aload_n 0, .getfield 16, .iconst 1, .iadd, .bipush 10, .irem, .ishl] (by decide +kernel) (And.intro (by decide) (And.intro trivial ?_))
        simp only [hday, nI_add, m10']
        refine bk hX lkX12_ok (pc' := 132) [.ior] (by decide +kernel) (And.intro trivial ?_)
        exact z_iret hX (by decide +kernel) rfl (rfl) (by decide) (by decide) (by
  first
    | exact absurd c_90 (by decide)
    | exact absurd c_112 (by decide)
    | exact absurd c_90 (fun h => h (by decide))
    | exact absurd c_112 (fun h => h (by decide))
    | (refine ⟨rfl, ?_⟩
       simp [pn, e, hl3, i_or, i_1shl, b10, bv10, b10', hb, b105', hbr]
       done)
    | (refine ⟨rfl, ?_⟩
       simp [pn, e, hl3, i_or, i_1shl, b10, bv10, b10']
       done)
    | (refine ⟨rfl, ?_⟩
       simp [pn, e, i_or, i_1shl, b10, bv10, b10', hbr]
       done))
      · refine bk hX lkX12_ok (pc' := 116) [.iconst 0] (by decide +kernel) (And.intro trivial ?_)
        refine gt_ hX (16) 132 (by decide +kernel) (by decide) ?_
        exact z_iret hX (by decide +kernel) rfl (rfl) (by decide) (by decide) (by
  first
    | exact absurd c_90 (by decide)
    | exact absurd c_112 (by decide)
    | exact absurd c_90 (fun h => h (by decide))
    | exact absurd c_112 (fun h => h (by decide))
    | (refine ⟨rfl, ?_⟩
       simp [pn, e, hl3, i_or, i_1shl, b10, bv10, b10', hb, b105', hbr]
       done)
    | (refine ⟨rfl, ?_⟩
       simp [pn, e, hl3, i_or, i_1shl, b10, bv10, b10']
       done)
    | (refine ⟨rfl, ?_⟩
       simp [pn, e, i_or, i_1shl, b10, bv10, b10', hbr]
       done))
    · rw [hki, e]
      refine z_tsw hX 133 (dflt := 134) (lo := 1) (hi := 6) (offs := #[40, 51, 56, 62, 85, 110]) (len := 40) (off := 85) (by decide +kernel) (by decide) (by decide) ?_
      refine bk hX lkX12_ok (pc' := 138) [.iconst 1, .aload_n 0, .iload_n 2, .iload 4] (by decide +kernel) (And.intro trivial ?_)
      refine z_callV hX kw_X12_224 (c_M_has E _ _ _ _) rfl rfl rfl rfl rfl (by decide +kernel) (by decide) (by decide) (by decide) (by decide) (Nat.le_of_ble_eq_true rfl) ?_
      rintro _ _ ⟨rfl, hh⟩
      rw [i_bit (by omega) (by omega)] at hh
      rcases hh with ⟨hb, rfl⟩ | ⟨hb, rfl⟩
      · refine if_eq hX (13) 154 (by decide +kernel) (by decide) (fun c => absurd c (by decide)) (fun c_141 => ?_)
        refine bk hX lkX12_ok (pc' := 151) [.iload 4, .iconst 5, .iadd, .bipush 10, .irem] (by decide +kernel) (And.intro (by decide) (And.intro trivial ?_))
        simp only [nI_add, m105]
        refine gt_ hX (5) 156 (by decide +kernel) (by decide) ?_
        refine bk hX lkX12_ok (pc' := 157) [.ishl] (by decide +kernel) (And.intro trivial ?_)
        exact z_iret hX (by decide +kernel) rfl (rfl) (by decide) (by decide) (by
  first
    | exact absurd c_90 (by decide)
    | exact absurd c_112 (by decide)
    | exact absurd c_90 (fun h => h (by decide))
    | exact absurd c_112 (fun h => h (by decide))
    | (refine ⟨rfl, ?_⟩
       simp [pn, e, hl3, i_or, i_1shl, b10, bv10, b10', hb, b105', hbr]
       done)
    | (refine ⟨rfl, ?_⟩
       simp [pn, e, hl3, i_or, i_1shl, b10, bv10, b10']
       done)
    | (refine ⟨rfl, ?_⟩
       simp [pn, e, i_or, i_1shl, b10, bv10, b10', hbr]
       done))
      · refine if_eq hX (13) 154 (by decide +kernel) (by decide) (fun c_141 => ?_) (fun c => absurd (by decide) c)
        refine bk hX lkX12_ok (pc' := 157) [.iload 4, .ishl] (by decide +kernel) (And.intro trivial ?_)
        exact z_iret hX (by decide +kernel) rfl (rfl) (by decide) (by decide) (by
  first
    | exact absurd c_90 (by decide)
    | exact absurd c_112 (by decide)
    | exact absurd c_90 (fun h => h (by decide))
    | exact absurd c_112 (fun h => h (by decide))
    | (refine ⟨rfl, ?_⟩
       simp [pn, e, hl3, i_or, i_1shl, b10, bv10, b10', hb, b105', hbr]
       done)
    | (refine ⟨rfl, ?_⟩
       simp [pn, e, hl3, i_or, i_1shl, b10, bv10, b10']
       done)
    | (refine ⟨rfl, ?_⟩
       simp [pn, e, i_or, i_1shl, b10, bv10, b10', hbr]
       done))
    · rw [hki, e]
      refine z_tsw hX 158 (dflt := 134) (lo := 1) (hi := 6) (offs := #[40, 51, 56, 62, 85, 110]) (len := 40) (off := 110) (by decide +kernel) (by decide) (by decide) ?_
      refine bk hX lkX12_ok (pc' := 160) [.aload_n 0, .iload_n 2] (by decide +kernel) (And.intro trivial ?_)
      refine z_callV hX kw_X12_316 (c_M_leastFree E _ rfl hs) rfl rfl rfl rfl rfl (by decide +kernel) (by decide) (by decide) (by decide) (by decide) (Nat.le_of_ble_eq_true rfl) ?_
      rintro _ _ ⟨rfl, rfl⟩
      refine bk hX lkX12_ok (pc' := 179) [.iconst 1, .aload_n 0, .getfield 32, .iconst 4, .iload_n 1, .imul, .aload_n 0, .getfield 16, .iconst 4, .irem, .iadd, .iaload] (by decide +kernel) (And.intro (by decide) (And.intro (by (simp only [hday, m4, pk_mul, nI_add]; exact vin 24 (by omega))) (And.intro trivial ?_)))
      simp only [hday, m4, pk_mul, nI_add, e4, hrr]
      refine bk hX lkX12_ok (pc' := 181) [.ishl, .ior] (by decide +kernel) (And.intro trivial ?_)
      exact z_iret hX (by decide +kernel) rfl (rfl) (by decide) (by decide) (by
  first
    | exact absurd c_90 (by decide)
    | exact absurd c_112 (by decide)
    | exact absurd c_90 (fun h => h (by decide))
    | exact absurd c_112 (fun h => h (by decide))
    | (refine ⟨rfl, ?_⟩
       simp [pn, e, hl3, i_or, i_1shl, b10, bv10, b10', hb, b105', hbr]
       done)
    | (refine ⟨rfl, ?_⟩
       simp [pn, e, hl3, i_or, i_1shl, b10, bv10, b10']
       done)
    | (refine ⟨rfl, ?_⟩
       simp [pn, e, i_or, i_1shl, b10, bv10, b10', hbr]
       done))
end
section
/-! ===== works by their clauses: word (0 glad, 1 sour, 2 round), number, signs ===== -/
abbrev Wk : Type := List (Nat × Nat × List Nat)
/-- a sign as the model writes it: 0 not, 1 and, 2 or, 10 and more a test -/
def tk2 (t : Nat) : Int32 := if t = 0 then -nI 33 else if t = 1 then -nI 38 else if t = 2 then -nI 124 else nI (t - 10)
/-- a sign is well made -/
def tkok (t : Nat) : Bool := decide (t < 3) || (decide (10 ≤ t) && decide (t < 6010) && decide ((t - 10) / 100 % 10 ≤ 2))
/-- how deep the pile is behind the signs -/
def shp : List Nat → Nat → Option Nat
  | [], n => some n
  | t :: r, n => if t = 0 then (if 1 ≤ n then shp r n else none) else if t = 1 ∨ t = 2 then (if 2 ≤ n then shp r (n - 1) else none) else shp r (n + 1)
def wkok (c : Nat × Nat × List Nat) : Prop := c.1 < 2 → c.2.2.all tkok = true ∧ shp c.2.2 0 = some 1 ∧ c.2.2.length ≤ 100 ∧ (c.2.2.filter (fun t => decide (10 ≤ t))).length ≤ 25
def wkd (w : Wk) (c : Nat) : Nat × Nat × List Nat := w.getD c (0, 0, [])
/-- the works number f lies in the model's rows -/
def mWk (w : Wk) (f : Nat) (I : Nat → Nat → Int32) : Prop := f < 6 ∧ I 115 f = nI w.length ∧ w.length ≤ 10 ∧ ∀ c, c < w.length → (wkd w c).1 ≤ 2 ∧ (wkd w c).2.1 ≤ 99 ∧ I 116 (10 * f + c) = nI (wkd w c).1 ∧ I 117 (10 * f + c) = nI (wkd w c).2.1 ∧
  ((wkd w c).1 < 2 → wkok (wkd w c) ∧ ∃ b, I 118 (10 * f + c) = nI b ∧ I 119 (10 * f + c) = nI (b + (wkd w c).2.2.length) ∧ b + (wkd w c).2.2.length ≤ 600 ∧ ∀ j, j < (wkd w c).2.2.length → I 120 (b + j) = tk2 ((wkd w c).2.2.getD j 0))
/-- the works that holds -/
def mH (w : Wk) (I : Nat → Nat → Int32) : Prop := (I 100 9 = -nI 1 ∧ w = []) ∨ ∃ f, I 100 9 = nI f ∧ mWk w f I
def rdN (w : Wk) : Nat → Nat
  | 0 => 0
  | c + 1 => if (wkd w c).1 = 2 then (wkd w c).2.1 else rdN w c
def rdS (w : Wk) : Nat := rdN w w.length
theorem mH_len {w : Wk} {I : Nat → Nat → Int32} (h : mH w I) : w.length ≤ 10 := by
  rcases h with ⟨-, rfl⟩ | ⟨f, -, -, -, h, -⟩
  · exact Nat.zero_le _
  · exact h
theorem rdN_le {w : Wk} {I : Nat → Nat → Int32} (h : mH w I) : ∀ c, c ≤ w.length → rdN w c ≤ 99
  | 0, _ => Nat.zero_le _
  | c + 1, hc => by
    unfold rdN
    split
    · rcases h with ⟨-, rfl⟩ | ⟨f, -, -, -, -, h⟩
      · cases hc
      · exact (h c (by omega)).2.1
    · exact rdN_le h c (by omega)
/-- the begin of the works that holds -/
def mB (w : Wk) (b : Nat) (I : Nat → Nat → Int32) : Prop := b + w.length ≤ 60 ∧ ∀ c, c < w.length → (wkd w c).1 ≤ 2 ∧ (wkd w c).2.1 ≤ 99 ∧ I 116 (b + c) = nI (wkd w c).1 ∧ I 117 (b + c) = nI (wkd w c).2.1 ∧
  ((wkd w c).1 < 2 → wkok (wkd w c) ∧ ∃ d, I 118 (b + c) = nI d ∧ I 119 (b + c) = nI (d + (wkd w c).2.2.length) ∧ d + (wkd w c).2.2.length ≤ 600 ∧ ∀ j, j < (wkd w c).2.2.length → I 120 (d + j) = tk2 ((wkd w c).2.2.getD j 0))
def mHB (w : Wk) (b : Nat) (I : Nat → Nat → Int32) : Prop := (I 100 9 = -nI 1 ∧ w = [] ∧ b = 0) ∨ ∃ f, I 100 9 = nI f ∧ mWk w f I ∧ b = 10 * f
theorem mH_B {w : Wk} {I : Nat → Nat → Int32} (h : mH w I) : ∃ b, mHB w b I := by
  rcases h with ⟨h1, h2⟩ | ⟨f, h1, h2⟩
  · exact ⟨0, Or.inl ⟨h1, h2, rfl⟩⟩
  · exact ⟨_, Or.inr ⟨f, h1, h2, rfl⟩⟩
theorem mHB_B {w : Wk} {b : Nat} {I : Nat → Nat → Int32} (h : mHB w b I) : mB w b I := by
  rcases h with ⟨-, rfl, rfl⟩ | ⟨f, -, ⟨h1, -, h3, h4⟩, rfl⟩
  · exact ⟨by decide, fun c hc => by cases hc⟩
  · exact ⟨by omega, h4⟩
theorem mHB_H {w : Wk} {b : Nat} {I : Nat → Nat → Int32} (h : mHB w b I) : mH w I := by
  rcases h with ⟨h1, h2, -⟩ | ⟨f, h1, h2, -⟩
  · exact Or.inl ⟨h1, h2⟩
  · exact Or.inr ⟨f, h1, h2⟩
/-- the works' rows are untouched -/
theorem mHB_eq {w : Wk} {b : Nat} {I I' : Nat → Nat → Int32} (h : mHB w b I) (h0 : I' 100 9 = I 100 9) (h1 : I' 115 = I 115) (h2 : I' 116 = I 116) (h3 : I' 117 = I 117) (h4 : I' 118 = I 118) (h5 : I' 119 = I 119) (h6 : I' 120 = I 120) : mHB w b I' := by
  rcases h with ⟨g1, g2, g3⟩ | ⟨f, g1, g2, g3⟩
  · exact Or.inl ⟨by rw [h0]; exact g1, g2, g3⟩
  · refine Or.inr ⟨f, by rw [h0]; exact g1, ?_, g3⟩
    unfold mWk
    rw [h1, h2, h3, h4, h5, h6]
    exact g2
end
section
theorem c_M_begin (E : zE) (K N : Nat → Nat) (Rf : Nat → Nat → Option Nat) (I : Nat → Nat → Int32) (L : Nat → Nat → Int64) {w : Wk} {b : Nat} (hB : mHB w b I) : zCt E mX12_begin 0 0 0 (sg K N Rf I L) [.ref 100] (fun r σ' => σ' = (sg K N Rf I L) ∧ r = some (.int (nI b))) := by
  refine z_intro (by decide) (Nat.le_of_ble_eq_true rfl) (fun X hX => ?_)
  rcases hB with ⟨ht, rfl, rfl⟩ | ⟨f, ht, ⟨hf, -⟩, rfl⟩
  · refine bk hX lkX12_ok (pc' := 4) [.aload_n 0, .getfield 38] (by decide +kernel) (And.intro trivial ?_)
    rw [ht]
    refine if_ge hX (7) 11 (by decide +kernel) (by decide) (fun c => absurd c (by decide)) (fun c_4 => ?_)
    refine bk hX lkX12_ok (pc' := 8) [.iconst 0] (by decide +kernel) (And.intro trivial ?_)
    refine gt_ hX (10) 18 (by decide +kernel) (by decide) ?_
    exact z_iret hX (by decide +kernel) rfl (rfl) (by decide) (by decide) (⟨rfl, rfl⟩)
  · refine bk hX lkX12_ok (pc' := 4) [.aload_n 0, .getfield 38] (by decide +kernel) (And.intro trivial ?_)
    rw [ht]
    refine if_ge hX (7) 11 (by decide +kernel) (by decide) (fun c_4 => ?_) (fun c => absurd (nI_le (a := 0) (b := f) (by omega) (by omega)) c)
    refine bk hX lkX12_ok (pc' := 18) [.bipush 10, .aload_n 0, .getfield 38, .imul] (by decide +kernel) (And.intro trivial ?_)
    exact z_iret hX (by decide +kernel) rfl (rfl) (by decide) (by decide) (by rw [ht, pk_mul]; exact ⟨rfl, rfl⟩)
theorem c_M_behind (E : zE) (K N : Nat → Nat) (Rf : Nat → Nat → Option Nat) (I : Nat → Nat → Int32) (L : Nat → Nat → Int64) {w : Wk} {b : Nat} (hB : mHB w b I) : zCt E mX12_behind 0 0 0 (sg K N Rf I L) [.ref 100] (fun r σ' => σ' = (sg K N Rf I L) ∧ r = some (.int (nI (b + w.length)))) := by
  refine z_intro (by decide) (Nat.le_of_ble_eq_true rfl) (fun X hX => ?_)
  rcases hB with ⟨ht, rfl, rfl⟩ | ⟨f, ht, ⟨hf, hc, -⟩, rfl⟩
  · refine bk hX lkX12_ok (pc' := 4) [.aload_n 0, .getfield 38] (by decide +kernel) (And.intro trivial ?_)
    rw [ht]
    refine if_ge hX (7) 11 (by decide +kernel) (by decide) (fun c => absurd c (by decide)) (fun c_4 => ?_)
    refine bk hX lkX12_ok (pc' := 8) [.iconst 0] (by decide +kernel) (And.intro trivial ?_)
    refine gt_ hX (20) 28 (by decide +kernel) (by decide) ?_
    exact z_iret hX (by decide +kernel) rfl (rfl) (by decide) (by decide) (⟨rfl, rfl⟩)
  · refine bk hX lkX12_ok (pc' := 4) [.aload_n 0, .getfield 38] (by decide +kernel) (And.intro trivial ?_)
    rw [ht]
    refine if_ge hX (7) 11 (by decide +kernel) (by decide) (fun c_4 => ?_) (fun c => absurd (nI_le (a := 0) (b := f) (by omega) (by omega)) c)
    refine bk hX lkX12_ok (pc' := 28) [.bipush 10, .aload_n 0, .getfield 38, .imul, .aload_n 0, .getfield 53, .aload_n 0, .getfield 38, .iaload, .iadd] (by decide +kernel) (And.intro (by rw [ht]; exact vin 6 hf) (And.intro trivial ?_))
    exact z_iret hX (by decide +kernel) rfl (rfl) (by decide) (by decide) (by rw [ht, cl (by omega), hc, pk_mul, nI_add]; exact ⟨rfl, rfl⟩)
theorem c_M_round (E : zE) (K N : Nat → Nat) (Rf : Nat → Nat → Option Nat) (I : Nat → Nat → Int32) (L : Nat → Nat → Int64) {w : Wk} {b : Nat} (hB : mHB w b I) : zCt E mX12_round 1 0 0 (sg K N Rf I L) [.ref 100] (fun r σ' => σ' = (sg K N Rf I L) ∧ r = some (.int (nI (rdS w)))) := by
  obtain ⟨hb60, hcl⟩ := mHB_B hB
  refine z_intro (by decide) (Nat.le_of_ble_eq_true rfl) (fun X hX => ?_)
  have hl : ∀ m j, j + m = w.length → zS X (sg K N Rf I L) 0 0 7 [(0, .ref 100), (1, .int (nI (rdN w j))), (2, .int (nI (b + j)))] [] := by
    intro m
    induction m with
    | zero =>
      intro j hj
      obtain rfl : j = w.length := by omega
      refine bk hX lkX12_ok (pc' := 9) [.iload_n 2, .aload_n 0] (by decide +kernel) (And.intro trivial ?_)
      refine z_callV hX kw_X12_296 (c_M_behind E K N Rf I L hB) rfl rfl rfl rfl rfl (by decide +kernel) (by decide) (by decide) (by decide) (by decide) (Nat.le_of_ble_eq_true rfl) ?_
      rintro _ _ ⟨rfl, rfl⟩
      refine ic_ge hX (30) 42 (by decide +kernel) (by decide) (fun c_12 => ?_) (fun c => absurd (nI_le (by omega) (by omega)) c)
      refine bk hX lkX12_ok (pc' := 43) [.iload_n 1] (by decide +kernel) (And.intro trivial ?_)
      exact z_iret hX (by decide +kernel) rfl (rfl) (by decide) (by decide) (⟨rfl, rfl⟩)
    | succ m ih =>
      intro j hj
      obtain ⟨-, -, hw1, hw2, -⟩ := hcl j (by omega)
      have hn := hcl j (by omega)
      refine bk hX lkX12_ok (pc' := 9) [.iload_n 2, .aload_n 0] (by decide +kernel) (And.intro trivial ?_)
      refine z_callV hX kw_X12_296 (c_M_behind E K N Rf I L hB) rfl rfl rfl rfl rfl (by decide +kernel) (by decide) (by decide) (by decide) (by decide) (Nat.le_of_ble_eq_true rfl) ?_
      rintro _ _ ⟨rfl, rfl⟩
      refine ic_ge hX (30) 42 (by decide +kernel) (by decide) (fun c => absurd c (nI_ge (by omega) (by omega))) (fun c_12 => ?_)
      refine bk hX lkX12_ok (pc' := 22) [.aload_n 0, .getfield 56, .iload_n 2, .iaload, .iconst 2] (by decide +kernel) (And.intro (by exact vin 60 (by omega)) (And.intro trivial ?_))
      rw [cl (by omega), hw1]
      refine ic_ne hX (12) 34 (by decide +kernel) (by decide) (fun c2 => ?_) (fun c2 => ?_)
      · refine bk hX lkX12_ok (pc' := 39) [.iload_n 1, .istore_n 1, .iinc 2 1] (by decide +kernel) (And.intro trivial ?_)
        refine gt_ hX (-32) 7 (by decide +kernel) (by decide) ?_
        refine z_lvk (lv' := [(0, _), (1, _), (2, _)]) [2, 1, 0] rfl ?_
        have hi := ih (j + 1) (by omega)
        unfold rdN at hi
        first
          | (rw [if_pos (nI_inj (by omega) (by decide) c2)] at hi; rw [nI_add]; exact hi)
          | (rw [if_neg (fun h => c2 (by rw [h]))] at hi; rw [nI_add]; exact hi)
      · refine bk hX lkX12_ok (pc' := 31) [.aload_n 0, .getfield 59, .iload_n 2, .iaload] (by decide +kernel) (And.intro (by exact vin 60 (by omega)) (And.intro trivial ?_))
        rw [cl (by omega), hw2]
        refine gt_ hX (4) 35 (by decide +kernel) (by decide) ?_
        refine bk hX lkX12_ok (pc' := 39) [.istore_n 1, .iinc 2 1] (by decide +kernel) (And.intro trivial ?_)
        refine gt_ hX (-32) 7 (by decide +kernel) (by decide) ?_
        refine z_lvk (lv' := [(0, _), (1, _), (2, _)]) [2, 1, 0] rfl ?_
        have hi := ih (j + 1) (by omega)
        unfold rdN at hi
        first
          | (rw [if_pos (nI_inj (by omega) (by decide) c2)] at hi; rw [nI_add]; exact hi)
          | (rw [if_neg (fun h => c2 (by rw [h]))] at hi; rw [nI_add]; exact hi)
  refine bk hX lkX12_ok (pc' := 3) [.iconst 0, .istore_n 1, .aload_n 0] (by decide +kernel) (And.intro trivial ?_)
  refine z_callV hX kw_X12_293 (c_M_begin E K N Rf I L hB) rfl rfl rfl rfl rfl (by decide +kernel) (by decide) (by decide) (by decide) (by decide) (Nat.le_of_ble_eq_true rfl) ?_
  rintro _ _ ⟨rfl, rfl⟩
  refine bk hX lkX12_ok (pc' := 7) [.istore_n 2] (by decide +kernel) (And.intro trivial ?_)
  refine z_lvk (lv' := [(0, _), (1, _), (2, _)]) [2, 1, 0] rfl ?_
  exact hl w.length 0 (by omega)
end
section
def frD (n : Nat) (I I' : Nat → Nat → Int32) : Prop := (∀ q, q ≠ 107 → q ≠ 106 → q ≠ 127 → q ≠ 100 → I' q = I q) ∧ (∀ k, k ≠ 2 → I' 100 k = I 100 k) ∧ (∀ k, n ≤ k → I' 107 k = I 107 k ∧ I' 106 k = I 106 k)
theorem mG_ho {g : Gv} {I I1 : Nat → Nat → Int32} (hG : mG g I) (h1 : ∀ q, q ≠ 107 → I1 q = I q) {f : Nat → Nat} (h2 : ∀ c, c < gn g → I1 107 c = nI (f c)) : mG (gn g, gk g, gv g, gc g, f, gr g, ga g, gd g) I1 := by
  obtain ⟨a1, a2, a3, a4⟩ := hG
  refine ⟨?_, ?_, ?_, fun p hp => ?_⟩
  · rw [h1 100 (by decide)]; exact a1
  · rw [h1 100 (by decide)]; exact a2
  · rw [h1 100 (by decide)]; exact a3
  · obtain ⟨b1, b2, b3, b4, b5⟩ := a4 p hp
    refine ⟨?_, ?_, ?_, h2 p hp, fun j hj => ?_⟩
    · rw [h1 104 (by decide)]; exact b1
    · rw [h1 105 (by decide)]; exact b2
    · rw [h1 106 (by decide)]; exact b3
    · rw [h1 108 (by decide)]; exact b5 j hj
theorem gwf_ho {g : Gv} (hg : gwf g) {f : Nat → Nat} (h2 : ∀ c, c < gn g → f c < 1024) : gwf (gn g, gk g, gv g, gc g, f, gr g, ga g, gd g) := by
  obtain ⟨a1, a2, a3⟩ := hg
  exact ⟨a1, fun p hp => ⟨(a2 p hp).1, (a2 p hp).2.1, (a2 p hp).2.2.1, h2 p hp, (a2 p hp).2.2.2.2⟩, a3⟩
theorem hoS_s (g : Gv) (p : Nat) : hoS g (p + 1) = if atB (ga g) p = true then hoS g p else upN (hoS g p) (gc g p) (hoS g p (gc g p) ||| pn (gk g p) (gv g p) (gd g) (hoS g p (gc g p)) (gr g (4 * p + gd g % 4))) := rfl
theorem atB_t {x : Int32} {p : Nat} (h : x >>> (nI p &&& 31) &&& nI 1 = nI 1) : atB x p = true := decide_eq_true h
theorem atB_f {x : Int32} {p : Nat} (h : ¬ x >>> (nI p &&& 31) &&& nI 1 = nI 1) : ¬ atB x p = true := fun z => h (of_decide_eq_true z)
set_option maxHeartbeats 2000000 in
theorem c_M_goDay (E : zE) (K N : Nat → Nat) (Rf : Nat → Nat → Option Nat) (I : Nat → Nat → Int32) (L : Nat → Nat → Int64) {g : Gv} (hg : gwf g) (hG : mG g I) (hd : gd g < 100000) {w : Wk} {b : Nat} (hB : mHB w b I) : zCt E mX12_goDay 3 0 0 (sg K N Rf I L) [.ref 100] (fun r σ' => ∃ I', σ' = sg K N Rf I' L ∧ r = none ∧ mG (dayS (rdS w) g) I' ∧ frD (gn g) I I') := by
  have h6 : gn g ≤ 6 := hg.1
  have hr99 : rdS w ≤ 99 := rdN_le (mHB_H hB) _ (Nat.le_refl _)
  refine z_intro (by decide) (Nat.le_of_ble_eq_true rfl) (fun X hX => ?_)
  -- the cards go round
  have hl3 : ∀ (I3 : Nat → Nat → Int32), (I3 100 0 = nI (gn g)) → (∀ c, c < gn g → I3 127 c = nI (gc g c)) → (∀ I4 : Nat → Nat → Int32, (∀ q, q ≠ 106 → I4 q = I3 q) → (∀ c, c < gn g → I4 106 c = nI (gc g ((c + 1) % gn g))) → (∀ c, gn g ≤ c → I4 106 c = I3 106 c) → (∃ I', sg K N Rf I4 L = sg K N Rf I' L ∧ (none : Option Value) = none ∧ mG (dayS (rdS w) g) I' ∧ frD (gn g) I I')) →
      ∀ m p (I4 : Nat → Nat → Int32), p + m = gn g → (∀ q, q ≠ 106 → I4 q = I3 q) → (∀ c, c < p → I4 106 c = nI (gc g ((c + 1) % gn g))) → (∀ c, p ≤ c → I4 106 c = I3 106 c) → zS X (sg K N Rf I4 L) 0 0 118 [(0, .ref 100), (1, .int (nI p))] [] := by
    intro I3 hw hhad hend m
    induction m with
    | zero =>
      intro p I4 hp q1 q2 q3
      obtain rfl : p = gn g := by omega
      have e0 : I4 100 0 = nI (gn g) := by rw [q1 100 (by decide)]; exact hw
      refine bk hX lkX12_ok (pc' := 123) [.iload_n 1, .aload_n 0, .getfield 7] (by decide +kernel) (And.intro trivial ?_)
      rw [e0]
      refine ic_ge hX (28) 151 (by decide +kernel) (by decide) (fun c_123 => ?_) (fun c => absurd (nI_le (Nat.le_refl _) (by omega)) c)
      exact z_vret hX (by decide +kernel) rfl (by decide) (by decide) (hend I4 q1 q2 q3)
    | succ m ih =>
      intro p I4 hp q1 q2 q3
      have e0 : I4 100 0 = nI (gn g) := by rw [q1 100 (by decide)]; exact hw
      have em : nI (p + 1) - nI (p + 1) / nI (gn g) * nI (gn g) = nI ((p + 1) % gn g) := i_mod (by omega) (by omega) (by omega)
      have hml : (p + 1) % gn g < gn g := Nat.mod_lt _ (by omega)
      have eh : I4 127 ((p + 1) % gn g) = nI (gc g ((p + 1) % gn g)) := by rw [q1 127 (by decide)]; exact hhad _ hml
      refine bk hX lkX12_ok (pc' := 123) [.iload_n 1, .aload_n 0, .getfield 7] (by decide +kernel) (And.intro trivial ?_)
      rw [e0]
      refine ic_ge hX (28) 151 (by decide +kernel) (by decide) (fun c => absurd c (nI_ge (by omega) (by omega))) (fun c_123 => ?_)
      refine bk hX lkX12_ok (pc' := 148) [.aload_n 0, .getfield 26, .iload_n 1, .aload_n 0, .getfield 90, .iload_n 1, .iconst 1, .iadd, .aload_n 0, .getfield 7, .irem, .iaload, .iastore, .iinc 1 1] (by decide +kernel) (And.intro (by rw [e0]; exact nI_ne0 (by omega) (by omega)) (And.intro (by simp only [e0, nI_add, em]; exact vin 6 (by omega)) (And.intro (by exact vin 6 (by omega)) (And.intro trivial ?_))))
      refine gt_ hX (-30) 118 (by decide +kernel) (by decide) ?_
      refine z_lvk (lv' := [(0, _), (1, _)]) [1, 0] rfl ?_
      simp only [e0, nI_add, em, cl (show (p + 1) % gn g < 2 ^ 31 by omega), cl (show p < 2 ^ 31 by omega), eh]
      refine ih (p + 1) _ (by omega) (fun q hq => ?_) (fun c hc => ?_) (fun c hc => ?_)
      · rw [up2_ne _ _ _ hq]; exact q1 q hq
      · rw [up2_at]
        by_cases hcp : c = p
        · rw [if_pos hcp, hcp]
        · rw [if_neg hcp]; exact q2 c (by omega)
      · rw [up2_at, if_neg (by omega)]; exact q3 c (by omega)
  -- who had which card
  have hl2 : ∀ (I2 : Nat → Nat → Int32), (I2 100 0 = nI (gn g)) → (∀ c, c < gn g → I2 106 c = nI (gc g c)) → (∀ I3 : Nat → Nat → Int32, (∀ q, q ≠ 127 → I3 q = I2 q) → ∀ I4 : Nat → Nat → Int32, (∀ q, q ≠ 106 → I4 q = I3 q) → (∀ c, c < gn g → I4 106 c = nI (gc g ((c + 1) % gn g))) → (∀ c, gn g ≤ c → I4 106 c = I3 106 c) → (∃ I', sg K N Rf I4 L = sg K N Rf I' L ∧ (none : Option Value) = none ∧ mG (dayS (rdS w) g) I' ∧ frD (gn g) I I')) →
      ∀ m p (I3 : Nat → Nat → Int32), p + m = gn g → (∀ q, q ≠ 127 → I3 q = I2 q) → (∀ c, c < p → I3 127 c = nI (gc g c)) → zS X (sg K N Rf I3 L) 0 0 90 [(0, .ref 100), (1, .int (nI p))] [] := by
    intro I2 hw hcd hend m
    induction m with
    | zero =>
      intro p I3 hp q1 q2
      obtain rfl : p = gn g := by omega
      have e0 : I3 100 0 = nI (gn g) := by rw [q1 100 (by decide)]; exact hw
      refine bk hX lkX12_ok (pc' := 95) [.iload_n 1, .aload_n 0, .getfield 7] (by decide +kernel) (And.intro trivial ?_)
      rw [e0]
      refine ic_ge hX (21) 116 (by decide +kernel) (by decide) (fun c_95 => ?_) (fun c => absurd (nI_le (Nat.le_refl _) (by omega)) c)
      refine bk hX lkX12_ok (pc' := 118) [.iconst 0, .istore_n 1] (by decide +kernel) (And.intro trivial ?_)
      refine z_lvk (lv' := [(0, _), (1, _)]) [1, 0] rfl ?_
      exact hl3 I3 e0 q2 (hend I3 q1) (gn g) 0 I3 (by omega) (fun q hq => rfl) (fun c hc => absurd hc (Nat.not_lt_zero _)) (fun c hc => rfl)
    | succ m ih =>
      intro p I3 hp q1 q2
      have e0 : I3 100 0 = nI (gn g) := by rw [q1 100 (by decide)]; exact hw
      have ec : I3 106 p = nI (gc g p) := by rw [q1 106 (by decide)]; exact hcd p (by omega)
      refine bk hX lkX12_ok (pc' := 95) [.iload_n 1, .aload_n 0, .getfield 7] (by decide +kernel) (And.intro trivial ?_)
      rw [e0]
      refine ic_ge hX (21) 116 (by decide +kernel) (by decide) (fun c => absurd c (nI_ge (by omega) (by omega))) (fun c_95 => ?_)
      refine bk hX lkX12_ok (pc' := 113) [.aload_n 0, .getfield 90, .iload_n 1, .aload_n 0, .getfield 26, .iload_n 1, .iaload, .iastore, .iinc 1 1] (by decide +kernel) (And.intro (by exact vin 6 (by omega)) (And.intro (by exact vin 6 (by omega)) (And.intro trivial ?_)))
      refine gt_ hX (-23) 90 (by decide +kernel) (by decide) ?_
      refine z_lvk (lv' := [(0, _), (1, _)]) [1, 0] rfl ?_
      simp only [nI_add, cl (show p < 2 ^ 31 by omega), ec]
      refine ih (p + 1) _ (by omega) (fun q hq => ?_) (fun c hc => ?_)
      · rw [up2_ne _ _ _ hq]; exact q1 q hq
      · rw [up2_at]
        by_cases hcp : c = p
        · rw [if_pos hcp, hcp]
        · rw [if_neg hcp]; exact q2 c (by omega)
  -- punches
  have hl1 : ∀ m p (I1 : Nat → Nat → Int32), p + m = gn g → (∀ q, q ≠ 107 → I1 q = I q) → (∀ c, c < gn g → I1 107 c = nI (hoS g p c)) → (∀ c, gn g ≤ c → I1 107 c = I 107 c) → zS X (sg K N Rf I1 L) 0 0 2 [(0, .ref 100), (1, .int (nI p))] [] := by
    intro m
    induction m with
    | zero =>
      intro p I1 hp q1 q2 q3
      obtain rfl : p = gn g := by omega
      have e0 : I1 100 0 = nI (gn g) := by rw [q1 100 (by decide)]; exact hG.1
      have e2 : I1 100 2 = nI (gd g) := by rw [q1 100 (by decide)]; exact hG.2.2.1
      have hB1 : mHB w b (up2 I1 100 2 (nI (gd g + 1))) := mHB_eq hB (by rw [up2_at, if_neg (by decide), q1 100 (by decide)]) (by rw [up2_ne _ _ _ (by decide), q1 _ (by decide)]) (by rw [up2_ne _ _ _ (by decide), q1 _ (by decide)]) (by rw [up2_ne _ _ _ (by decide), q1 _ (by decide)]) (by rw [up2_ne _ _ _ (by decide), q1 _ (by decide)]) (by rw [up2_ne _ _ _ (by decide), q1 _ (by decide)]) (by rw [up2_ne _ _ _ (by decide), q1 _ (by decide)])
      have hG1 : ∀ cf : Nat → Nat, (∀ I4 : Nat → Nat → Int32, (∀ q, q ≠ 106 → q ≠ 127 → I4 q = up2 I1 100 2 (nI (gd g + 1)) q) → (∀ c, c < gn g → I4 106 c = nI (cf c)) → (∀ c, gn g ≤ c → I4 106 c = I1 106 c) → mG (gn g, gk g, gv g, cf, hoS g (gn g), gr g, ga g, gd g + 1) I4 ∧ frD (gn g) I I4) := by
        intro cf I4 z1 z2 z3
        have z0 : ∀ q, q ≠ 100 → q ≠ 106 → q ≠ 127 → I4 q = I1 q := fun q h0 h1 h2 => by rw [z1 q h1 h2, up2_ne _ _ _ h0]
        have z100 : ∀ k, I4 100 k = if k = 2 then nI (gd g + 1) else I1 100 k := fun k => by rw [z1 100 (by decide) (by decide), up2_at]
        refine ⟨⟨?_, ?_, ?_, fun p hp => ?_⟩, fun q h1 h2 h3 h4 => ?_, fun k hk => ?_, fun k hk => ⟨?_, ?_⟩⟩
        · rw [z100, if_neg (by decide)]; exact e0
        · rw [z100, if_neg (by decide), q1 100 (by decide)]; exact hG.2.1
        · rw [z100, if_pos rfl]
        · obtain ⟨b1, b2, b3, b4, b5⟩ := hG.2.2.2 p hp
          refine ⟨?_, ?_, z2 p hp, ?_, fun j hj => ?_⟩
          · rw [z0 _ (by decide) (by decide) (by decide), q1 _ (by decide)]; exact b1
          · rw [z0 _ (by decide) (by decide) (by decide), q1 _ (by decide)]; exact b2
          · rw [z0 _ (by decide) (by decide) (by decide)]; exact q2 p hp
          · rw [z0 _ (by decide) (by decide) (by decide), q1 _ (by decide)]; exact b5 j hj
        · rw [z0 q h4 h2 h3, q1 q h1]
        · rw [z100, if_neg hk, q1 100 (by decide)]
        · rw [z0 _ (by decide) (by decide) (by decide)]; exact q3 k hk
        · rw [z3 k hk, q1 _ (by decide)]
      have hcd : ∀ c, c < gn g → up2 I1 100 2 (nI (gd g + 1)) 106 c = nI (gc g c) := fun c hc => by rw [up2_ne _ _ _ (by decide), q1 _ (by decide)]; exact (hG.2.2.2 c hc).2.2.1
      have hstay : (rdS w = 0 ∨ (gd g + 1) % rdS w ≠ 0) → (∃ I', sg K N Rf (up2 I1 100 2 (nI (gd g + 1))) L = sg K N Rf I' L ∧ (none : Option Value) = none ∧ mG (dayS (rdS w) g) I' ∧ frD (gn g) I I') := by
        intro hc
        obtain ⟨x1, x2⟩ := hG1 (gc g) _ (fun _ _ _ => rfl) hcd (fun c _ => by rw [up2_ne _ _ _ (by decide)])
        exact ⟨_, rfl, rfl, by unfold dayS; rw [if_pos hc]; exact x1, x2⟩
      refine bk hX lkX12_ok (pc' := 7) [.iload_n 1, .aload_n 0, .getfield 7] (by decide +kernel) (And.intro trivial ?_)
      rw [e0]
      refine ic_ge hX (51) 58 (by decide +kernel) (by decide) (fun c_7 => ?_) (fun c => absurd (nI_le (Nat.le_refl _) (by omega)) c)
      refine bk hX lkX12_ok (pc' := 68) [.aload_n 0, .dup, .getfield 16, .iconst 1, .iadd, .putfield 16] (by decide +kernel) (And.intro trivial ?_)
      simp only [e2, nI_add]
      refine bk hX lkX12_ok (pc' := 69) [.aload_n 0] (by decide +kernel) (And.intro trivial ?_)
      refine z_callV hX kw_X12_328 (c_M_round E K N Rf _ L hB1) rfl rfl rfl rfl rfl (by decide +kernel) (by decide) (by decide) (by decide) (by decide) (Nat.le_of_ble_eq_true rfl) ?_
      rintro _ _ ⟨rfl, rfl⟩
      refine if_eq hX (15) 87 (by decide +kernel) (by decide) (fun c72 => ?_) (fun c72 => ?_)
      · exact z_vret hX (by decide +kernel) rfl (by decide) (by decide) (hstay (by first | exact Or.inl (nI_inj (by omega) (by decide) c72) | exact Or.inr (fun z => c84 (by rw [z]; rfl))))
      · refine bk hX lkX12_ok (pc' := 80) [.aload_n 0, .getfield 16, .aload_n 0] (by decide +kernel) (And.intro trivial ?_)
        refine z_callV hX kw_X12_328 (c_M_round E K N Rf _ L hB1) rfl rfl rfl rfl rfl (by decide +kernel) (by decide) (by decide) (by decide) (by decide) (Nat.le_of_ble_eq_true rfl) ?_
        rintro _ _ ⟨rfl, rfl⟩
        refine bk hX lkX12_ok (pc' := 84) [.irem] (by decide +kernel) (And.intro (by exact c72) (And.intro trivial ?_))
        simp only [up2_self]
        rw [i_mod (by omega) (Nat.pos_of_ne_zero (fun z => c72 (by rw [z]; rfl))) (by omega)]
        refine if_eq hX (4) 88 (by decide +kernel) (by decide) (fun c84 => ?_) (fun c84 => ?_)
        · refine bk hX lkX12_ok (pc' := 90) [.iconst 0, .istore_n 1] (by decide +kernel) (And.intro trivial ?_)
          refine z_lvk (lv' := [(0, _), (1, _)]) [1, 0] rfl ?_
          have hcc : ¬ (rdS w = 0 ∨ (gd g + 1) % rdS w ≠ 0) := fun z => z.elim (fun z => c72 (by rw [z]; rfl)) (fun z => z (nI_inj (Nat.lt_of_le_of_lt (Nat.mod_le _ _) (by omega)) (by decide) c84))
          refine hl2 _ ?_ hcd (fun I3 y1 I4 y2 y3 y4 => ?_) (gn g) 0 _ (by omega) (fun q hq => rfl) (fun c hc => absurd hc (Nat.not_lt_zero _))
          · rw [up2_at, if_neg (by decide)]; exact e0
          · obtain ⟨x1, x2⟩ := hG1 (rotC (gn g) (gc g)) I4 (fun q h1 h2 => by rw [y2 q h1, y1 q h2]) (fun c hc => by rw [y3 c hc]; unfold rotC; rw [if_pos hc]) (fun c hc => by rw [y4 c hc, y1 _ (by decide), up2_ne _ _ _ (by decide)])
            exact ⟨_, rfl, rfl, by unfold dayS; rw [if_neg hcc]; exact x1, x2⟩
        · exact z_vret hX (by decide +kernel) rfl (by decide) (by decide) (hstay (by first | exact Or.inl (nI_inj (by omega) (by decide) c72) | exact Or.inr (fun z => c84 (by rw [z]; rfl))))
    | succ m ih =>
      intro p I1 hp q1 q2 q3
      have hpn : p < gn g := by omega
      have e0 : I1 100 0 = nI (gn g) := by rw [q1 100 (by decide)]; exact hG.1
      have e1 : I1 100 1 = ga g := by rw [q1 100 (by decide)]; exact hG.2.1
      have ec : I1 106 p = nI (gc g p) := by rw [q1 _ (by decide)]; exact (hG.2.2.2 p hpn).2.2.1
      have hcn : gc g p < gn g := (hg.2.1 p hpn).2.2.1
      have eh : I1 107 (gc g p) = nI (hoS g p (gc g p)) := q2 _ hcn
      have hlt := hoS_lt hg p (by omega)
      have cp : (nI p).toNatClampNeg = p := cl (by omega)
      have cc : (nI (gc g p)).toNatClampNeg = gc g p := cl (by omega)
      refine bk hX lkX12_ok (pc' := 7) [.iload_n 1, .aload_n 0, .getfield 7] (by decide +kernel) (And.intro trivial ?_)
      rw [e0]
      refine ic_ge hX (51) 58 (by decide +kernel) (by decide) (fun c => absurd c (nI_ge (by omega) (by omega))) (fun c_7 => ?_)
      refine bk hX lkX12_ok (pc' := 16) [.aload_n 0, .aload_n 0, .getfield 13, .iload_n 1] (by decide +kernel) (And.intro trivial ?_)
      refine z_callV hX kw_X12_224 (c_M_has E _ _ _ _) rfl rfl rfl rfl rfl (by decide +kernel) (by decide) (by decide) (by decide) (by decide) (Nat.le_of_ble_eq_true rfl) ?_
      rintro _ _ ⟨rfl, hh⟩
      rw [e1] at hh
      rcases hh with ⟨hb, rfl⟩ | ⟨hb, rfl⟩
      · refine if_ne hX (33) 52 (by decide +kernel) (by decide) (fun c_19 => ?_) (fun c => absurd c (by decide))
        refine bk hX lkX12_ok (pc' := 55) [.iinc 1 1] (by decide +kernel) (And.intro trivial ?_)
        refine gt_ hX (-53) 2 (by decide +kernel) (by decide) ?_
        refine z_lvk (lv' := [(0, _), (1, _)]) [1, 0] rfl ?_
        first
          | (simp only [nI_add]
             refine ih (p + 1) I1 (by omega) q1 (fun c hc => ?_) q3
             rw [hoS_s, if_pos (atB_t hb)]
             exact q2 c hc)
          | (simp only [nI_add, cc, i_or]
             refine ih (p + 1) _ (by omega) (fun q hq => ?_) (fun c hc => ?_) (fun c hc => ?_)
             · rw [up2_ne _ _ _ hq]; exact q1 q hq
             · rw [hoS_s, if_neg (atB_f hb), up2_at]
               unfold upN
               by_cases hcc : c = gc g p
               · rw [if_pos hcc, if_pos hcc]
               · rw [if_neg hcc, if_neg hcc]; exact q2 c hc
             · rw [up2_at, if_neg (by omega)]; exact q3 c hc)
      · refine if_ne hX (33) 52 (by decide +kernel) (by decide) (fun c => absurd (by decide) c) (fun c_19 => ?_)
        refine bk hX lkX12_ok (pc' := 47) [.aload_n 0, .getfield 29, .aload_n 0, .getfield 26, .iload_n 1, .iaload, .dup2, .iaload, .aload_n 0, .iload_n 1, .aload_n 0, .getfield 29, .aload_n 0, .getfield 26, .iload_n 1, .iaload, .iaload] (by decide +kernel) (And.intro (by exact vin 6 (by omega)) (And.intro (by simp only [cp, ec]; exact vin 6 (by omega)) (And.intro (by exact vin 6 (by omega)) (And.intro (by simp only [cp, ec]; exact vin 6 (by omega)) (And.intro trivial ?_)))))
        simp only [cp, ec, cc, eh]
        refine z_callV hX kw_X12_325 (c_M_punches E K N Rf I1 L (gwf_ho hg hlt) (mG_ho hG q1 q2) (show gd g < 1000000 by omega) p hpn (hlt _ hcn)) rfl rfl rfl rfl rfl (by decide +kernel) (by decide) (by decide) (by decide) (by decide) (Nat.le_of_ble_eq_true rfl) ?_
        rintro _ _ ⟨rfl, rfl⟩
        refine bk hX lkX12_ok (pc' := 55) [.ior, .iastore, .iinc 1 1] (by decide +kernel) (And.intro (by exact vin 6 (by omega)) (And.intro trivial ?_))
        refine gt_ hX (-53) 2 (by decide +kernel) (by decide) ?_
        refine z_lvk (lv' := [(0, _), (1, _)]) [1, 0] rfl ?_
        first
          | (simp only [nI_add]
             refine ih (p + 1) I1 (by omega) q1 (fun c hc => ?_) q3
             rw [hoS_s, if_pos (atB_t hb)]
             exact q2 c hc)
          | (simp only [nI_add, cc, i_or]
             refine ih (p + 1) _ (by omega) (fun q hq => ?_) (fun c hc => ?_) (fun c hc => ?_)
             · rw [up2_ne _ _ _ hq]; exact q1 q hq
             · rw [hoS_s, if_neg (atB_f hb), up2_at]
               unfold upN
               by_cases hcc : c = gc g p
               · rw [if_pos hcc, if_pos hcc]
               · rw [if_neg hcc, if_neg hcc]; exact q2 c hc
             · rw [up2_at, if_neg (by omega)]; exact q3 c hc)
  refine bk hX lkX12_ok (pc' := 2) [.iconst 0, .istore_n 1] (by decide +kernel) (And.intro trivial ?_)
  refine z_lvk (lv' := [(0, _), (1, _)]) [1, 0] rfl ?_
  exact hl1 (gn g) 0 I (by omega) (fun _ _ => rfl) (fun c hc => (hG.2.2.2 c hc).2.2.2.1) (fun _ _ => rfl)
end
section
theorem frD_rf (n : Nat) (I : Nat → Nat → Int32) : frD n I I := ⟨fun _ _ _ _ _ => rfl, fun _ _ => rfl, fun _ _ => ⟨rfl, rfl⟩⟩
theorem frD_tr {n : Nat} {I I1 I2 : Nat → Nat → Int32} (h1 : frD n I I1) (h2 : frD n I1 I2) : frD n I I2 := by
  obtain ⟨a1, a2, a3⟩ := h1
  obtain ⟨b1, b2, b3⟩ := h2
  exact ⟨fun q c1 c2 c3 c4 => (b1 q c1 c2 c3 c4).trans (a1 q c1 c2 c3 c4), fun k hk => (b2 k hk).trans (a2 k hk), fun k hk => ⟨(b3 k hk).1.trans (a3 k hk).1, (b3 k hk).2.trans (a3 k hk).2⟩⟩
theorem mHB_frD {n : Nat} {I I1 : Nat → Nat → Int32} {w : Wk} {b : Nat} (h : mHB w b I) (h1 : frD n I I1) : mHB w b I1 := by
  obtain ⟨a1, a2, a3⟩ := h1
  refine mHB_eq h (a2 _ (by decide)) ?_ ?_ ?_ ?_ ?_ ?_ <;> exact a1 _ (by decide) (by decide) (by decide) (by decide)
theorem c_M_goDays (E : zE) (K N : Nat → Nat) (Rf : Nat → Nat → Option Nat) (I : Nat → Nat → Int32) (L : Nat → Nat → Int64) {g : Gv} (hg : gwf g) (hG : mG g I) {w : Wk} {b : Nat} (hB : mHB w b I) {k : Nat} (hd : gd g + k ≤ 100000) (hk : k ≤ 1000) : zCt E mX12_goDays 4 0 0 (sg K N Rf I L) [.ref 100, .int (nI k)] (fun r σ' => ∃ I', σ' = sg K N Rf I' L ∧ r = none ∧ mG (daysS (rdS w) k g) I' ∧ frD (gn g) I I') := by
  refine z_intro (by decide) (Nat.le_of_ble_eq_true rfl) (fun X hX => ?_)
  have hl : ∀ m j (I1 : Nat → Nat → Int32), j + m = k → mG (daysS (rdS w) j g) I1 → frD (gn g) I I1 → zS X (sg K N Rf I1 L) 0 0 2 [(0, .ref 100), (1, .int (nI k)), (2, .int (nI j))] [] := by
    intro m
    induction m with
    | zero =>
      intro j I1 hj h1 h2
      obtain rfl : j = k := by omega
      refine bk hX lkX12_ok (pc' := 4) [.iload_n 2, .iload_n 1] (by decide +kernel) (And.intro trivial ?_)
      refine ic_ge hX (13) 17 (by decide +kernel) (by decide) (fun c_4 => ?_) (fun c => absurd (nI_le (Nat.le_refl _) (by omega)) c)
      exact z_vret hX (by decide +kernel) rfl (by decide) (by decide) (⟨I1, rfl, rfl, h1, h2⟩)
    | succ m ih =>
      intro j I1 hj h1 h2
      refine bk hX lkX12_ok (pc' := 4) [.iload_n 2, .iload_n 1] (by decide +kernel) (And.intro trivial ?_)
      refine ic_ge hX (13) 17 (by decide +kernel) (by decide) (fun c => absurd c (nI_ge (by omega) (by omega))) (fun c_4 => ?_)
      refine bk hX lkX12_ok (pc' := 8) [.aload_n 0] (by decide +kernel) (And.intro trivial ?_)
      refine z_callV hX kw_X12_331 (c_M_goDay E K N Rf I1 L (gwf_days hg _ j) h1 (by rw [gd_days]; omega) (mHB_frD hB h2)) rfl rfl rfl rfl rfl (by decide +kernel) (by decide) (by decide) (by decide) (by decide) (Nat.le_of_ble_eq_true rfl) ?_
      rintro _ _ ⟨I2, rfl, rfl, h3, h4⟩
      rw [gn_days] at h4
      refine bk hX lkX12_ok (pc' := 14) [.iinc 2 1] (by decide +kernel) (And.intro trivial ?_)
      refine gt_ hX (-12) 2 (by decide +kernel) (by decide) ?_
      refine z_lvk (lv' := [(0, _), (1, _), (2, _)]) [1, 2, 0] rfl ?_
      rw [nI_add]
      exact ih (j + 1) I2 (by omega) h3 (frD_tr h2 h4)
  refine bk hX lkX12_ok (pc' := 2) [.iconst 0, .istore_n 2] (by decide +kernel) (And.intro trivial ?_)
  refine z_lvk (lv' := [(0, _), (1, _), (2, _)]) [1, 2, 0] rfl ?_
  exact hl k 0 I (by omega) hG (frD_rf _ _)
def svI (I : Nat → Nat → Int32) (n : Nat) : Nat → Nat → Int32 := fun q k => if q = 130 ∧ k < n then I 106 k else if q = 131 ∧ k < n then I 107 k else if q = 100 ∧ k = 27 then I 100 1 else if q = 100 ∧ k = 28 then I 100 2 else I q k
def pbI (I : Nat → Nat → Int32) (n : Nat) : Nat → Nat → Int32 := fun q k => if q = 106 ∧ k < n then I 130 k else if q = 107 ∧ k < n then I 131 k else if q = 100 ∧ k = 1 then I 100 27 else if q = 100 ∧ k = 2 then I 100 28 else I q k
theorem up2_v {α : Type} (f : Nat → Nat → α) (p k : Nat) (v : α) (q j : Nat) : up2 f p k v q j = if q = p ∧ j = k then v else f q j := by
  by_cases h : q = p
  · subst h; rw [up2_at]; simp
  · rw [up2_ne _ _ _ h, if_neg (fun z => h z.1)]
theorem svI_0 (I : Nat → Nat → Int32) : up2 (up2 I 100 27 (I 100 1)) 100 28 (I 100 2) = svI I 0 := by
  funext q k
  simp only [up2_v, svI]
  grind
theorem svI_s (I : Nat → Nat → Int32) (n : Nat) : up2 (up2 (svI I n) 130 n (I 106 n)) 131 n (I 107 n) = svI I (n + 1) := by
  funext q k
  simp only [up2_v, svI]
  grind
theorem pbI_0 (I : Nat → Nat → Int32) : up2 (up2 I 100 1 (I 100 27)) 100 2 (I 100 28) = pbI I 0 := by
  funext q k
  simp only [up2_v, pbI]
  grind
theorem pbI_s (I : Nat → Nat → Int32) (n : Nat) : up2 (up2 (pbI I n) 106 n (I 130 n)) 107 n (I 131 n) = pbI I (n + 1) := by
  funext q k
  simp only [up2_v, pbI]
  grind
theorem c_M_save (E : zE) (K N : Nat → Nat) (Rf : Nat → Nat → Option Nat) (I : Nat → Nat → Int32) (L : Nat → Nat → Int64) : zCt E mX12_save 0 0 0 (sg K N Rf I L) [.ref 100] (fun r σ' => σ' = sg K N Rf (svI I 6) L ∧ r = none) := by
  refine z_intro (by decide) (Nat.le_of_ble_eq_true rfl) (fun X hX => ?_)
  have hl : ∀ m p, p + m = 6 → zS X (sg K N Rf (svI I p) L) 0 0 18 [(0, .ref 100), (1, .int (nI p))] [] := by
    intro m
    induction m with
    | zero =>
      intro p hp
      obtain rfl : p = 6 := by omega
      refine bk hX lkX12_ok (pc' := 21) [.iload_n 1, .bipush 6] (by decide +kernel) (And.intro trivial ?_)
      refine ic_ge hX (33) 54 (by decide +kernel) (by decide) (fun c_21 => ?_) (fun c => absurd (nI_le (a := 6) (b := 6) (by decide) (by decide)) c)
      exact z_vret hX (by decide +kernel) rfl (by decide) (by decide) (⟨rfl, rfl⟩)
    | succ m ih =>
      intro p hp
      have cp : (nI p).toNatClampNeg = p := cl (by omega)
      have ea : svI I p 106 p = I 106 p := by simp [svI]
      have eb : up2 (svI I p) 130 p (I 106 p) 107 p = I 107 p := by simp [up2_v, svI]
      refine bk hX lkX12_ok (pc' := 21) [.iload_n 1, .bipush 6] (by decide +kernel) (And.intro trivial ?_)
      refine ic_ge hX (33) 54 (by decide +kernel) (by decide) (fun c => absurd c (nI_ge (a := p) (b := 6) (by omega) (by decide))) (fun c_21 => ?_)
      refine bk hX lkX12_ok (pc' := 51) [.aload_n 0, .getfield 99, .iload_n 1, .aload_n 0, .getfield 26, .iload_n 1, .iaload, .iastore, .aload_n 0, .getfield 102, .iload_n 1, .aload_n 0, .getfield 29, .iload_n 1, .iaload, .iastore, .iinc 1 1] (by decide +kernel) (And.intro (by exact vin 6 (by omega)) (And.intro (by exact vin 6 (by omega)) (And.intro (by exact vin 6 (by omega)) (And.intro (by exact vin 6 (by omega)) (And.intro trivial ?_)))))
      refine gt_ hX (-33) 18 (by decide +kernel) (by decide) ?_
      refine z_lvk (lv' := [(0, _), (1, _)]) [1, 0] rfl ?_
      simp only [cp, ea, eb, nI_add]
      have hi := ih (p + 1) (by omega)
      rw [← svI_s] at hi
      exact hi
  refine bk hX lkX12_ok (pc' := 18) [.aload_n 0, .aload_n 0, .getfield 13, .putfield 93, .aload_n 0, .aload_n 0, .getfield 16, .putfield 96, .iconst 0, .istore_n 1] (by decide +kernel) (And.intro trivial ?_)
  refine z_lvk (lv' := [(0, _), (1, _)]) [1, 0] rfl ?_
  have hi := hl 6 0 rfl
  rw [← svI_0 I] at hi
  exact hi
theorem c_M_putBack (E : zE) (K N : Nat → Nat) (Rf : Nat → Nat → Option Nat) (I : Nat → Nat → Int32) (L : Nat → Nat → Int64) : zCt E mX12_putBack 0 0 0 (sg K N Rf I L) [.ref 100] (fun r σ' => σ' = sg K N Rf (pbI I 6) L ∧ r = none) := by
  refine z_intro (by decide) (Nat.le_of_ble_eq_true rfl) (fun X hX => ?_)
  have hl : ∀ m p, p + m = 6 → zS X (sg K N Rf (pbI I p) L) 0 0 18 [(0, .ref 100), (1, .int (nI p))] [] := by
    intro m
    induction m with
    | zero =>
      intro p hp
      obtain rfl : p = 6 := by omega
      refine bk hX lkX12_ok (pc' := 21) [.iload_n 1, .bipush 6] (by decide +kernel) (And.intro trivial ?_)
      refine ic_ge hX (33) 54 (by decide +kernel) (by decide) (fun c_21 => ?_) (fun c => absurd (nI_le (a := 6) (b := 6) (by decide) (by decide)) c)
      exact z_vret hX (by decide +kernel) rfl (by decide) (by decide) (⟨rfl, rfl⟩)
    | succ m ih =>
      intro p hp
      have cp : (nI p).toNatClampNeg = p := cl (by omega)
      have ea : pbI I p 130 p = I 130 p := by simp [pbI]
      have eb : up2 (pbI I p) 106 p (I 130 p) 131 p = I 131 p := by simp [up2_v, pbI]
      refine bk hX lkX12_ok (pc' := 21) [.iload_n 1, .bipush 6] (by decide +kernel) (And.intro trivial ?_)
      refine ic_ge hX (33) 54 (by decide +kernel) (by decide) (fun c => absurd c (nI_ge (a := p) (b := 6) (by omega) (by decide))) (fun c_21 => ?_)
      refine bk hX lkX12_ok (pc' := 51) [.aload_n 0, .getfield 26, .iload_n 1, .aload_n 0, .getfield 99, .iload_n 1, .iaload, .iastore, .aload_n 0, .getfield 29, .iload_n 1, .aload_n 0, .getfield 102, .iload_n 1, .iaload, .iastore, .iinc 1 1] (by decide +kernel) (And.intro (by exact vin 6 (by omega)) (And.intro (by exact vin 6 (by omega)) (And.intro (by exact vin 6 (by omega)) (And.intro (by exact vin 6 (by omega)) (And.intro trivial ?_)))))
      refine gt_ hX (-33) 18 (by decide +kernel) (by decide) ?_
      refine z_lvk (lv' := [(0, _), (1, _)]) [1, 0] rfl ?_
      simp only [cp, ea, eb, nI_add]
      have hi := ih (p + 1) (by omega)
      rw [← pbI_s] at hi
      exact hi
  refine bk hX lkX12_ok (pc' := 18) [.aload_n 0, .aload_n 0, .getfield 93, .putfield 13, .aload_n 0, .aload_n 0, .getfield 96, .putfield 16, .iconst 0, .istore_n 1] (by decide +kernel) (And.intro trivial ?_)
  refine z_lvk (lv' := [(0, _), (1, _)]) [1, 0] rfl ?_
  have hi := hl 6 0 rfl
  rw [← pbI_0 I] at hi
  exact hi
end
section
/-! ===== tests, expressions, mood, temper ===== -/
/-- the six facts of a worker p and a card c -/
def fx (g : Gv) (p c f : Nat) : Nat := if f = 0 then p else if f = 1 then c else if f = 2 then gk g p else if f = 3 then gv g p else if f = 4 then pcN (gh g c) 10 else gd g % 10
def tst (g : Gv) (p c t : Nat) : Bool := if t / 100 % 10 = 0 then decide (fx g p c (t / 1000) < t % 100) else if t / 100 % 10 = 1 then decide (fx g p c (t / 1000) = t % 100) else decide (t % 100 < fx g p c (t / 1000))
def evS (g : Gv) (p c : Nat) : List Nat → List Bool → List Bool
  | [], st => st
  | t :: r, st => if t = 0 then (match st with
      | b :: s => evS g p c r ((!b) :: s)
      | s => s) else if t = 1 then (match st with
      | b :: x :: s => evS g p c r ((x && b) :: s)
      | s => s) else if t = 2 then (match st with
      | b :: x :: s => evS g p c r ((x || b) :: s)
      | s => s) else evS g p c r (tst g p c (t - 10) :: st)
/-- whether an expression holds -/
def evE (g : Gv) (p c : Nat) (ts : List Nat) : Bool := (evS g p c ts []).headD false
/-- place i of the pile, from its bottom -/
def pl (st : List Bool) (i : Nat) : Bool := st.getD (st.length - 1 - i) false
theorem pl_top (x : Bool) (st : List Bool) : pl (x :: st) st.length = x := by simp [pl]
theorem pl_low (x : Bool) (st : List Bool) {i : Nat} (h : i < st.length) : pl (x :: st) i = pl st i := by
  unfold pl
  rw [show (x :: st).length - 1 - i = (st.length - 1 - i) + 1 by simp; omega]
  rfl
theorem b2i_t {b : Bool} (h : ¬ b2i b = 0) : b = true := by cases b with
  | true => rfl
  | false => exact absurd rfl h
theorem b2i_f {b : Bool} (h : b2i b = 0) : b = false := by cases b with
  | false => rfl
  | true => exact absurd h (by decide)
theorem i_m1 {n : Nat} (h : 1 ≤ n) : nI n - nI 1 = nI (n - 1) := pk_sub h
theorem i_m1' {n : Nat} (h : 1 ≤ n) : nI n + -nI 1 = nI (n - 1) := by rw [← i_m1 h, Int32.sub_eq_add_neg]
theorem shp_s (t : Nat) (r : List Nat) (n : Nat) : shp (t :: r) n = if t = 0 then (if 1 ≤ n then shp r n else none) else if t = 1 ∨ t = 2 then (if 2 ≤ n then shp r (n - 1) else none) else shp r (n + 1) := rfl
theorem fx_lt {g : Gv} (hg : gwf g) {p c : Nat} (hp : p < gn g) (hc : c < gn g) (f : Nat) : fx g p c f < 100 := by
  have h6 := hg.1
  have h1 := (hg.2.1 p hp)
  have h2 := pcN_le (gh g c) 10
  unfold fx
  repeat' split
  all_goals omega
theorem c_M_factOf (E : zE) (K N : Nat → Nat) (Rf : Nat → Nat → Option Nat) (I : Nat → Nat → Int32) (L : Nat → Nat → Int64) {g : Gv} (hg : gwf g) (hG : mG g I) (hd : gd g < 1000000) {p c f : Nat} (hp : p < gn g) (hc : c < gn g) (hf : f ≤ 5) : zCt E mX12_factOf 2 0 0 (sg K N Rf I L) [.ref 100, .int (nI f), .int (nI p), .int (nI c)] (fun r σ' => σ' = (sg K N Rf I L) ∧ r = some (.int (nI (fx g p c f)))) := by
  have h6 := hg.1
  have cp : (nI p).toNatClampNeg = p := cl (by omega)
  have cc : (nI c).toNatClampNeg = c := cl (by omega)
  have hhc := (hg.2.1 c hc).2.2.2.1
  have hf6 : f = 0 ∨ f = 1 ∨ f = 2 ∨ f = 3 ∨ f = 4 ∨ f = 5 := by omega
  refine z_intro (by decide) (Nat.le_of_ble_eq_true rfl) (fun X hX => ?_)
  refine bk hX lkX12_ok (pc' := 1) [.iload_n 1] (by decide +kernel) (And.intro trivial ?_)
  rcases hf6 with rfl | rfl | rfl | rfl | rfl | rfl
  · refine z_tsw hX 36 (dflt := 64) (lo := 0) (hi := 4) (offs := #[35, 37, 39, 46, 53]) (len := 35) (off := 35) (by decide +kernel) (by decide) (by decide) ?_
    refine bk hX lkX12_ok (pc' := 37) [.iload_n 2] (by decide +kernel) (And.intro trivial ?_)
    exact z_iret hX (by decide +kernel) rfl (rfl) (by decide) (by decide) (⟨rfl, rfl⟩)
  · refine z_tsw hX 38 (dflt := 64) (lo := 0) (hi := 4) (offs := #[35, 37, 39, 46, 53]) (len := 35) (off := 37) (by decide +kernel) (by decide) (by decide) ?_
    refine bk hX lkX12_ok (pc' := 39) [.iload_n 3] (by decide +kernel) (And.intro trivial ?_)
    exact z_iret hX (by decide +kernel) rfl (rfl) (by decide) (by decide) (⟨rfl, rfl⟩)
  · refine z_tsw hX 40 (dflt := 64) (lo := 0) (hi := 4) (offs := #[35, 37, 39, 46, 53]) (len := 35) (off := 39) (by decide +kernel) (by decide) (by decide) ?_
    refine bk hX lkX12_ok (pc' := 46) [.aload_n 0, .getfield 19, .iload_n 2, .iaload] (by decide +kernel) (And.intro (by exact vin 6 (by omega)) (And.intro trivial ?_))
    exact z_iret hX (by decide +kernel) rfl (rfl) (by decide) (by decide) (⟨rfl, by rw [cp]; exact congrArg (fun z => some (Value.int z)) (hG.2.2.2 p hp).1⟩)
  · refine z_tsw hX 47 (dflt := 64) (lo := 0) (hi := 4) (offs := #[35, 37, 39, 46, 53]) (len := 35) (off := 46) (by decide +kernel) (by decide) (by decide) ?_
    refine bk hX lkX12_ok (pc' := 53) [.aload_n 0, .getfield 23, .iload_n 2, .iaload] (by decide +kernel) (And.intro (by exact vin 6 (by omega)) (And.intro trivial ?_))
    exact z_iret hX (by decide +kernel) rfl (rfl) (by decide) (by decide) (⟨rfl, by rw [cp]; exact congrArg (fun z => some (Value.int z)) (hG.2.2.2 p hp).2.1⟩)
  · refine z_tsw hX 54 (dflt := 64) (lo := 0) (hi := 4) (offs := #[35, 37, 39, 46, 53]) (len := 35) (off := 53) (by decide +kernel) (by decide) (by decide) ?_
    refine bk hX lkX12_ok (pc' := 61) [.aload_n 0, .aload_n 0, .getfield 29, .iload_n 3, .iaload] (by decide +kernel) (And.intro (by exact vin 6 (by omega)) (And.intro trivial ?_))
    rw [cc, show I (101 + 6) c = nI (gh g c) from (hG.2.2.2 c hc).2.2.2.1]
    refine z_callV hX kw_X12_299 (c_M_bits E _ rfl hhc) rfl rfl rfl rfl rfl (by decide +kernel) (by decide) (by decide) (by decide) (by decide) (Nat.le_of_ble_eq_true rfl) ?_
    rintro _ _ ⟨rfl, rfl⟩
    exact z_iret hX (by decide +kernel) rfl (rfl) (by decide) (by decide) (⟨rfl, rfl⟩)
  · refine z_tsw hX 65 (dflt := 64) (lo := 0) (hi := 4) (offs := #[35, 37, 39, 46, 53]) (len := 35) (off := 64) (by decide +kernel) (by decide) (by decide) ?_
    refine bk hX lkX12_ok (pc' := 72) [.aload_n 0, .getfield 16, .bipush 10, .irem] (by decide +kernel) (And.intro (by decide) (And.intro trivial ?_))
    exact z_iret hX (by decide +kernel) rfl (rfl) (by decide) (by decide) (⟨rfl, by rw [show I 100 2 = nI (gd g) from hG.2.2.1, i_mod (by omega) (by decide) (by decide)]; rfl⟩)
theorem mG_pile {g : Gv} {I I1 : Nat → Nat → Int32} (hG : mG g I) (h1 : ∀ q, q ≠ 126 → I1 q = I q) : mG g I1 := by
  obtain ⟨a1, a2, a3, a4⟩ := hG
  unfold mG
  rw [h1 100 (by decide), h1 104 (by decide), h1 105 (by decide), h1 106 (by decide), h1 107 (by decide), h1 108 (by decide)]
  exact ⟨a1, a2, a3, a4⟩
set_option maxHeartbeats 4000000 in
theorem c_M_holds (E : zE) (K N : Nat → Nat) (Rf : Nat → Nat → Option Nat) (I : Nat → Nat → Int32) (L : Nat → Nat → Int64) {g : Gv} (hg : gwf g) (hG : mG g I) (hd : gd g < 1000000) {p c i d : Nat} {ts : List Nat} (hp : p < gn g) (hc : c < gn g) (hi : i < 60) (hfr : I 118 i = nI d) (hto : I 119 i = nI (d + ts.length)) (h600 : d + ts.length ≤ 600) (hsg : ∀ j, j < ts.length → I 120 (d + j) = tk2 (ts.getD j 0)) (hok : ts.all tkok = true) (hsh : shp ts 0 = some 1) (hl100 : ts.length ≤ 100) :
    zCt E mX12_holds 3 0 0 (sg K N Rf I L) [.ref 100, .int (nI i), .int (nI p), .int (nI c)] (fun r σ' => ∃ I', σ' = sg K N Rf I' L ∧ (∀ q, q ≠ 126 → I' q = I q) ∧ r = some (.int (b2i (evE g p c ts)))) := by
  have h6 := hg.1
  have ci : (nI i).toNatClampNeg = i := cl (by omega)
  refine z_intro (by decide) (Nat.le_of_ble_eq_true rfl) (fun X hX => ?_)
  have hl : ∀ (rs : List Nat) (j : Nat) (st : List Bool) (I1 : Nat → Nat → Int32), ts.drop j = rs → j + rs.length = ts.length → evS g p c rs st = evS g p c ts [] → shp rs st.length = some 1 → st.length + rs.length ≤ 100 → (∀ q, q ≠ 126 → I1 q = I q) → (∀ k, k < st.length → I1 126 k = b2i (pl st k)) →
      zS X (sg K N Rf I1 L) 0 0 11 [(0, .ref 100), (1, .int (nI i)), (2, .int (nI p)), (3, .int (nI c)), (4, .int (nI st.length)), (5, .int (nI (d + j)))] [] := by
    intro rs
    induction rs with
    | nil =>
      intro j st I1 hdr hj hev hs hle q1 q2
      simp only [List.length_nil, Nat.add_zero] at hj
      have e1 : I1 119 i = nI (d + ts.length) := by rw [q1 _ (by decide)]; exact hto
      have hst1 : st.length = 1 := by simpa [shp] using hs
      have ep : I1 126 0 = b2i (evE g p c ts) := by
        rw [q2 0 (by omega)]
        unfold evE
        rw [← hev]
        match st, hst1 with
        | [x], _ => rfl
      refine bk hX lkX12_ok (pc' := 19) [.iload 5, .aload_n 0, .getfield 65, .iload_n 1, .iaload] (by decide +kernel) (And.intro (by exact vin 60 (by omega)) (And.intro trivial ?_))
      simp only [ci, e1]
      refine ic_ge hX (234) 253 (by decide +kernel) (by decide) (fun c_19 => ?_) (fun c => absurd (nI_le (by omega) (by omega)) c)
      refine bk hX lkX12_ok (pc' := 259) [.aload_n 0, .getfield 86, .iconst 0, .baload] (by decide +kernel) (And.intro (by exact vin 100 (by decide)) (And.intro trivial ?_))
      exact z_iret hX (by decide +kernel) rfl (by show narrow .boolean (.int (I1 126 0)) = .int (I1 126 0); rw [ep]; cases evE g p c ts <;> rfl) (by decide) (by decide) (⟨I1, rfl, q1, congrArg (fun z => some (Value.int z)) ep⟩)
    | cons t rs ih =>
      intro j st I1 hdr hj hev hs hle q1 q2
      simp only [List.length_cons] at hj hle
      have e1 : I1 119 i = nI (d + ts.length) := by rw [q1 _ (by decide)]; exact hto
      have hjl : j < ts.length := by omega
      have h0 : ts[j]? = some t := by
        have h9 : (ts.drop j)[0]? = some t := by rw [hdr]; rfl
        rw [List.getElem?_drop] at h9
        simpa using h9
      have ht : ts.getD j 0 = t := by simp [List.getD, h0]
      have htk := List.all_eq_true.mp hok t (List.mem_of_getElem? h0)
      have hsj : I1 120 (d + j) = tk2 t := by rw [q1 _ (by decide), hsg j hjl, ht]
      have htc : t = 0 ∨ t = 1 ∨ t = 2 ∨ (10 ≤ t ∧ t < 6010 ∧ (t - 10) / 100 % 10 ≤ 2) := by
        simp only [tkok, Bool.or_eq_true, Bool.and_eq_true, decide_eq_true_eq] at htk
        omega
      rcases htc with rfl | rfl | rfl | ⟨ht10, ht6, htm⟩
      · match st, hs, hev, hle, q2 with
        | [], hs, _, _, _ => simp [shp] at hs
        | b :: s, hs, hev, hle, q2 =>
          have hsl : s.length < 100 := by simp only [List.length_cons] at hle; omega
          have cs : (nI s.length).toNatClampNeg = s.length := cl (by omega)
          have htop : I1 126 s.length = b2i b := by rw [q2 _ (by simp), pl_top]
          refine bk hX lkX12_ok (pc' := 19) [.iload 5, .aload_n 0, .getfield 65, .iload_n 1, .iaload] (by decide +kernel) (And.intro (by exact vin 60 (by omega)) (And.intro trivial ?_))
          simp only [ci, e1]
          refine ic_ge hX (234) 253 (by decide +kernel) (by decide) (fun c => absurd c (nI_ge (by omega) (by omega))) (fun c_19 => ?_)
          refine bk hX lkX12_ok (pc' := 31) [.aload_n 0, .getfield 68, .iload 5, .iaload, .istore 6] (by decide +kernel) (And.intro (by exact vin 600 (by omega)) (And.intro trivial ?_))
          rw [cl (by omega), show I1 (101 + 19) (d + j) = _ from hsj]
          refine bk hX lkX12_ok (pc' := 35) [.iload 6, .bipush (Int.negSucc 32)] (by decide +kernel) (And.intro trivial ?_)
          refine ic_ne hX (32) 67 (by decide +kernel) (by decide) (fun c => absurd (rfl) c) (fun c_35 => ?_)
          have en : nI (b :: s).length - nI 1 = nI s.length := i_m1 (by simp)
          refine bk hX lkX12_ok (pc' := 55) [.aload_n 0, .getfield 86, .iload 4, .iconst 1, .isub, .aload_n 0, .getfield 86, .iload 4, .iconst 1, .isub, .baload] (by decide +kernel) (And.intro (by rw [en]; exact vin 100 (by omega)) (And.intro trivial ?_))
          rw [en, cs, show I1 (101 + 25) s.length = _ from htop]
          refine if_ne hX (7) 62 (by decide +kernel) (by decide) (fun c55 => ?_) (fun c55 => ?_)
          · refine bk hX lkX12_ok (pc' := 64) [.iconst 0, .bastore] (by decide +kernel) (And.intro (by exact vin 100 (by omega)) (And.intro trivial ?_))
            refine gt_ hX (183) 247 (by decide +kernel) (by decide) ?_
            refine bk hX lkX12_ok (pc' := 250) [.iinc 5 1] (by decide +kernel) (And.intro trivial ?_)
            refine gt_ hX (-239) 11 (by decide +kernel) (by decide) ?_
            refine z_lvk (lv' := [(0, _), (1, _), (2, _), (3, _), (4, _), (5, _)]) [2, 3, 4, 5, 6, 0] rfl ?_
            simp only [cs, nI_add]
            refine ih (j + 1) ((!b) :: s) _ (by rw [← List.drop_drop, hdr]; rfl) (by omega) (by rw [← hev]; simp [evS]) (by rw [shp_s] at hs; simpa using hs) (by simp only [List.length_cons] at hle ⊢; omega) (fun q hq => ?_) (fun k hk => ?_)
            · rw [up2_ne _ _ _ hq]; exact q1 q hq
            · rw [up2_at]
              by_cases hk2 : k = s.length
              · rw [if_pos hk2, hk2, pl_top]
                first | (rw [b2i_t c55]; rfl) | (rw [b2i_f c55]; rfl)
              · simp only [List.length_cons] at hk
                rw [if_neg hk2, pl_low _ _ (by omega)]
                rw [q2 k (by simp only [List.length_cons]; omega)]
                rw [pl_low _ _ (by omega)]
          · refine bk hX lkX12_ok (pc' := 59) [.iconst 1] (by decide +kernel) (And.intro trivial ?_)
            refine gt_ hX (4) 63 (by decide +kernel) (by decide) ?_
            refine bk hX lkX12_ok (pc' := 64) [.bastore] (by decide +kernel) (And.intro (by exact vin 100 (by omega)) (And.intro trivial ?_))
            refine gt_ hX (183) 247 (by decide +kernel) (by decide) ?_
            refine bk hX lkX12_ok (pc' := 250) [.iinc 5 1] (by decide +kernel) (And.intro trivial ?_)
            refine gt_ hX (-239) 11 (by decide +kernel) (by decide) ?_
            refine z_lvk (lv' := [(0, _), (1, _), (2, _), (3, _), (4, _), (5, _)]) [2, 3, 4, 5, 6, 0] rfl ?_
            simp only [cs, nI_add]
            refine ih (j + 1) ((!b) :: s) _ (by rw [← List.drop_drop, hdr]; rfl) (by omega) (by rw [← hev]; simp [evS]) (by rw [shp_s] at hs; simpa using hs) (by simp only [List.length_cons] at hle ⊢; omega) (fun q hq => ?_) (fun k hk => ?_)
            · rw [up2_ne _ _ _ hq]; exact q1 q hq
            · rw [up2_at]
              by_cases hk2 : k = s.length
              · rw [if_pos hk2, hk2, pl_top]
                first | (rw [b2i_t c55]; rfl) | (rw [b2i_f c55]; rfl)
              · simp only [List.length_cons] at hk
                rw [if_neg hk2, pl_low _ _ (by omega)]
                rw [q2 k (by simp only [List.length_cons]; omega)]
                rw [pl_low _ _ (by omega)]
      · match st, hs, hev, hle, q2 with
        | [], hs, _, _, _ => simp [shp] at hs
        | [_], hs, _, _, _ => simp [shp] at hs
        | b :: x :: s, hs, hev, hle, q2 =>
          have hsl : s.length + 1 < 100 := by simp only [List.length_cons] at hle; omega
          have cs : (nI s.length).toNatClampNeg = s.length := cl (by omega)
          have cs1 : (nI (s.length + 1)).toNatClampNeg = s.length + 1 := cl (by omega)
          have hx : I1 126 s.length = b2i x := by rw [q2 _ (by simp only [List.length_cons]; omega), pl_low _ _ (by simp), pl_top]
          have hbb : I1 126 (s.length + 1) = b2i b := by rw [q2 _ (by simp), show s.length + 1 = (x :: s).length from rfl, pl_top]
          refine bk hX lkX12_ok (pc' := 19) [.iload 5, .aload_n 0, .getfield 65, .iload_n 1, .iaload] (by decide +kernel) (And.intro (by exact vin 60 (by omega)) (And.intro trivial ?_))
          simp only [ci, e1]
          refine ic_ge hX (234) 253 (by decide +kernel) (by decide) (fun c => absurd c (nI_ge (by omega) (by omega))) (fun c_19 => ?_)
          refine bk hX lkX12_ok (pc' := 31) [.aload_n 0, .getfield 68, .iload 5, .iaload, .istore 6] (by decide +kernel) (And.intro (by exact vin 600 (by omega)) (And.intro trivial ?_))
          rw [cl (by omega), show I1 (101 + 19) (d + j) = _ from hsj]
          refine bk hX lkX12_ok (pc' := 35) [.iload 6, .bipush (Int.negSucc 32)] (by decide +kernel) (And.intro trivial ?_)
          refine ic_ne hX (32) 67 (by decide +kernel) (by decide) (fun c_35 => ?_) (fun c => absurd c (by decide))
          refine bk hX lkX12_ok (pc' := 69) [.iload 6] (by decide +kernel) (And.intro trivial ?_)
          refine if_ge hX (82) 151 (by decide +kernel) (by decide) (fun c => absurd c (by decide)) (fun c_69 => ?_)
          refine bk hX lkX12_ok (pc' := 75) [.iinc 4 (Int.negSucc 0)] (by decide +kernel) (And.intro trivial ?_)
          rw [i_m1' (by simp)]
          simp only [List.length_cons, Nat.add_sub_cancel]
          have en : nI (s.length + 1) - nI 1 = nI s.length := i_m1 (by omega)
          refine bk hX lkX12_ok (pc' := 83) [.aload_n 0, .getfield 86, .iload 4, .iconst 1, .isub] (by decide +kernel) (And.intro trivial ?_)
          rw [en]
          refine bk hX lkX12_ok (pc' := 87) [.iload 6, .bipush (Int.negSucc 37)] (by decide +kernel) (And.intro trivial ?_)
          refine ic_ne hX (33) 120 (by decide +kernel) (by decide) (fun c => absurd (rfl) c) (fun c_87 => ?_)
          refine bk hX lkX12_ok (pc' := 99) [.aload_n 0, .getfield 86, .iload 4, .iconst 1, .isub, .baload] (by decide +kernel) (And.intro (by rw [en]; exact vin 100 (by omega)) (And.intro trivial ?_))
          rw [en, cs, show I1 (101 + 25) s.length = _ from hx]
          refine if_eq hX (17) 116 (by decide +kernel) (by decide) (fun cx => ?_) (fun cx => ?_)
          · refine bk hX lkX12_ok (pc' := 117) [.iconst 0] (by decide +kernel) (And.intro trivial ?_)
            refine gt_ hX (30) 147 (by decide +kernel) (by decide) ?_
            refine bk hX lkX12_ok (pc' := 148) [.bastore] (by decide +kernel) (And.intro (by exact vin 100 (by omega)) (And.intro trivial ?_))
            refine gt_ hX (99) 247 (by decide +kernel) (by decide) ?_
            refine bk hX lkX12_ok (pc' := 250) [.iinc 5 1] (by decide +kernel) (And.intro trivial ?_)
            refine gt_ hX (-239) 11 (by decide +kernel) (by decide) ?_
            refine z_lvk (lv' := [(0, _), (1, _), (2, _), (3, _), (4, _), (5, _)]) [3, 4, 5, 6, 1, 0] rfl ?_
            simp only [cs, nI_add]
            refine ih (j + 1) ((x && b) :: s) _ (by rw [← List.drop_drop, hdr]; rfl) (by omega) (by rw [← hev]; simp [evS]) (by rw [shp_s] at hs; simpa using hs) (by simp only [List.length_cons] at hle ⊢; omega) (fun q hq => ?_) (fun k hk => ?_)
            · rw [up2_ne _ _ _ hq]; exact q1 q hq
            · rw [up2_at]
              by_cases hk2 : k = s.length
              · rw [if_pos hk2, hk2, pl_top]
                first | (rw [b2i_t cx, b2i_t cb]; rfl) | (rw [b2i_f cx, b2i_f cb]; rfl) | (rw [b2i_t cx, b2i_f cb]; rfl) | (rw [b2i_f cx, b2i_t cb]; rfl) | (rw [b2i_f cx]; cases b <;> rfl) | (rw [b2i_t cx]; cases b <;> rfl)
              · simp only [List.length_cons] at hk
                rw [if_neg hk2, pl_low _ _ (by omega)]
                rw [q2 k (by simp only [List.length_cons]; omega)]
                rw [pl_low _ _ (by simp only [List.length_cons]; omega), pl_low _ _ (by omega)]
          · refine bk hX lkX12_ok (pc' := 109) [.aload_n 0, .getfield 86, .iload 4, .baload] (by decide +kernel) (And.intro (by exact vin 100 (by omega)) (And.intro trivial ?_))
            rw [cs1, show I1 (101 + 25) (s.length + 1) = _ from hbb]
            refine if_eq hX (7) 116 (by decide +kernel) (by decide) (fun cb => ?_) (fun cb => ?_)
            · refine bk hX lkX12_ok (pc' := 117) [.iconst 0] (by decide +kernel) (And.intro trivial ?_)
              refine gt_ hX (30) 147 (by decide +kernel) (by decide) ?_
              refine bk hX lkX12_ok (pc' := 148) [.bastore] (by decide +kernel) (And.intro (by exact vin 100 (by omega)) (And.intro trivial ?_))
              refine gt_ hX (99) 247 (by decide +kernel) (by decide) ?_
              refine bk hX lkX12_ok (pc' := 250) [.iinc 5 1] (by decide +kernel) (And.intro trivial ?_)
              refine gt_ hX (-239) 11 (by decide +kernel) (by decide) ?_
              refine z_lvk (lv' := [(0, _), (1, _), (2, _), (3, _), (4, _), (5, _)]) [3, 4, 5, 6, 1, 0] rfl ?_
              simp only [cs, nI_add]
              refine ih (j + 1) ((x && b) :: s) _ (by rw [← List.drop_drop, hdr]; rfl) (by omega) (by rw [← hev]; simp [evS]) (by rw [shp_s] at hs; simpa using hs) (by simp only [List.length_cons] at hle ⊢; omega) (fun q hq => ?_) (fun k hk => ?_)
              · rw [up2_ne _ _ _ hq]; exact q1 q hq
              · rw [up2_at]
                by_cases hk2 : k = s.length
                · rw [if_pos hk2, hk2, pl_top]
                  first | (rw [b2i_t cx, b2i_t cb]; rfl) | (rw [b2i_f cx, b2i_f cb]; rfl) | (rw [b2i_t cx, b2i_f cb]; rfl) | (rw [b2i_f cx, b2i_t cb]; rfl) | (rw [b2i_f cx]; cases b <;> rfl) | (rw [b2i_t cx]; cases b <;> rfl)
                · simp only [List.length_cons] at hk
                  rw [if_neg hk2, pl_low _ _ (by omega)]
                  rw [q2 k (by simp only [List.length_cons]; omega)]
                  rw [pl_low _ _ (by simp only [List.length_cons]; omega), pl_low _ _ (by omega)]
            · refine bk hX lkX12_ok (pc' := 113) [.iconst 1] (by decide +kernel) (And.intro trivial ?_)
              refine gt_ hX (34) 147 (by decide +kernel) (by decide) ?_
              refine bk hX lkX12_ok (pc' := 148) [.bastore] (by decide +kernel) (And.intro (by exact vin 100 (by omega)) (And.intro trivial ?_))
              refine gt_ hX (99) 247 (by decide +kernel) (by decide) ?_
              refine bk hX lkX12_ok (pc' := 250) [.iinc 5 1] (by decide +kernel) (And.intro trivial ?_)
              refine gt_ hX (-239) 11 (by decide +kernel) (by decide) ?_
              refine z_lvk (lv' := [(0, _), (1, _), (2, _), (3, _), (4, _), (5, _)]) [3, 4, 5, 6, 1, 0] rfl ?_
              simp only [cs, nI_add]
              refine ih (j + 1) ((x && b) :: s) _ (by rw [← List.drop_drop, hdr]; rfl) (by omega) (by rw [← hev]; simp [evS]) (by rw [shp_s] at hs; simpa using hs) (by simp only [List.length_cons] at hle ⊢; omega) (fun q hq => ?_) (fun k hk => ?_)
              · rw [up2_ne _ _ _ hq]; exact q1 q hq
              · rw [up2_at]
                by_cases hk2 : k = s.length
                · rw [if_pos hk2, hk2, pl_top]
                  first | (rw [b2i_t cx, b2i_t cb]; rfl) | (rw [b2i_f cx, b2i_f cb]; rfl) | (rw [b2i_t cx, b2i_f cb]; rfl) | (rw [b2i_f cx, b2i_t cb]; rfl) | (rw [b2i_f cx]; cases b <;> rfl) | (rw [b2i_t cx]; cases b <;> rfl)
                · simp only [List.length_cons] at hk
                  rw [if_neg hk2, pl_low _ _ (by omega)]
                  rw [q2 k (by simp only [List.length_cons]; omega)]
                  rw [pl_low _ _ (by simp only [List.length_cons]; omega), pl_low _ _ (by omega)]
      · match st, hs, hev, hle, q2 with
        | [], hs, _, _, _ => simp [shp] at hs
        | [_], hs, _, _, _ => simp [shp] at hs
        | b :: x :: s, hs, hev, hle, q2 =>
          have hsl : s.length + 1 < 100 := by simp only [List.length_cons] at hle; omega
          have cs : (nI s.length).toNatClampNeg = s.length := cl (by omega)
          have cs1 : (nI (s.length + 1)).toNatClampNeg = s.length + 1 := cl (by omega)
          have hx : I1 126 s.length = b2i x := by rw [q2 _ (by simp only [List.length_cons]; omega), pl_low _ _ (by simp), pl_top]
          have hbb : I1 126 (s.length + 1) = b2i b := by rw [q2 _ (by simp), show s.length + 1 = (x :: s).length from rfl, pl_top]
          refine bk hX lkX12_ok (pc' := 19) [.iload 5, .aload_n 0, .getfield 65, .iload_n 1, .iaload] (by decide +kernel) (And.intro (by exact vin 60 (by omega)) (And.intro trivial ?_))
          simp only [ci, e1]
          refine ic_ge hX (234) 253 (by decide +kernel) (by decide) (fun c => absurd c (nI_ge (by omega) (by omega))) (fun c_19 => ?_)
          refine bk hX lkX12_ok (pc' := 31) [.aload_n 0, .getfield 68, .iload 5, .iaload, .istore 6] (by decide +kernel) (And.intro (by exact vin 600 (by omega)) (And.intro trivial ?_))
          rw [cl (by omega), show I1 (101 + 19) (d + j) = _ from hsj]
          refine bk hX lkX12_ok (pc' := 35) [.iload 6, .bipush (Int.negSucc 32)] (by decide +kernel) (And.intro trivial ?_)
          refine ic_ne hX (32) 67 (by decide +kernel) (by decide) (fun c_35 => ?_) (fun c => absurd c (by decide))
          refine bk hX lkX12_ok (pc' := 69) [.iload 6] (by decide +kernel) (And.intro trivial ?_)
          refine if_ge hX (82) 151 (by decide +kernel) (by decide) (fun c => absurd c (by decide)) (fun c_69 => ?_)
          refine bk hX lkX12_ok (pc' := 75) [.iinc 4 (Int.negSucc 0)] (by decide +kernel) (And.intro trivial ?_)
          rw [i_m1' (by simp)]
          simp only [List.length_cons, Nat.add_sub_cancel]
          have en : nI (s.length + 1) - nI 1 = nI s.length := i_m1 (by omega)
          refine bk hX lkX12_ok (pc' := 83) [.aload_n 0, .getfield 86, .iload 4, .iconst 1, .isub] (by decide +kernel) (And.intro trivial ?_)
          rw [en]
          refine bk hX lkX12_ok (pc' := 87) [.iload 6, .bipush (Int.negSucc 37)] (by decide +kernel) (And.intro trivial ?_)
          refine ic_ne hX (33) 120 (by decide +kernel) (by decide) (fun c_87 => ?_) (fun c => absurd c (by decide))
          refine bk hX lkX12_ok (pc' := 129) [.aload_n 0, .getfield 86, .iload 4, .iconst 1, .isub, .baload] (by decide +kernel) (And.intro (by rw [en]; exact vin 100 (by omega)) (And.intro trivial ?_))
          rw [en, cs, show I1 (101 + 25) s.length = _ from hx]
          refine if_ne hX (13) 142 (by decide +kernel) (by decide) (fun cx => ?_) (fun cx => ?_)
          · refine bk hX lkX12_ok (pc' := 143) [.iconst 1] (by decide +kernel) (And.intro trivial ?_)
            refine gt_ hX (4) 147 (by decide +kernel) (by decide) ?_
            refine bk hX lkX12_ok (pc' := 148) [.bastore] (by decide +kernel) (And.intro (by exact vin 100 (by omega)) (And.intro trivial ?_))
            refine gt_ hX (99) 247 (by decide +kernel) (by decide) ?_
            refine bk hX lkX12_ok (pc' := 250) [.iinc 5 1] (by decide +kernel) (And.intro trivial ?_)
            refine gt_ hX (-239) 11 (by decide +kernel) (by decide) ?_
            refine z_lvk (lv' := [(0, _), (1, _), (2, _), (3, _), (4, _), (5, _)]) [3, 4, 5, 6, 1, 0] rfl ?_
            simp only [cs, nI_add]
            refine ih (j + 1) ((x || b) :: s) _ (by rw [← List.drop_drop, hdr]; rfl) (by omega) (by rw [← hev]; simp [evS]) (by rw [shp_s] at hs; simpa using hs) (by simp only [List.length_cons] at hle ⊢; omega) (fun q hq => ?_) (fun k hk => ?_)
            · rw [up2_ne _ _ _ hq]; exact q1 q hq
            · rw [up2_at]
              by_cases hk2 : k = s.length
              · rw [if_pos hk2, hk2, pl_top]
                first | (rw [b2i_t cx, b2i_t cb]; rfl) | (rw [b2i_f cx, b2i_f cb]; rfl) | (rw [b2i_t cx, b2i_f cb]; rfl) | (rw [b2i_f cx, b2i_t cb]; rfl) | (rw [b2i_f cx]; cases b <;> rfl) | (rw [b2i_t cx]; cases b <;> rfl)
              · simp only [List.length_cons] at hk
                rw [if_neg hk2, pl_low _ _ (by omega)]
                rw [q2 k (by simp only [List.length_cons]; omega)]
                rw [pl_low _ _ (by simp only [List.length_cons]; omega), pl_low _ _ (by omega)]
          · refine bk hX lkX12_ok (pc' := 139) [.aload_n 0, .getfield 86, .iload 4, .baload] (by decide +kernel) (And.intro (by exact vin 100 (by omega)) (And.intro trivial ?_))
            rw [cs1, show I1 (101 + 25) (s.length + 1) = _ from hbb]
            refine if_eq hX (7) 146 (by decide +kernel) (by decide) (fun cb => ?_) (fun cb => ?_)
            · refine bk hX lkX12_ok (pc' := 148) [.iconst 0, .bastore] (by decide +kernel) (And.intro (by exact vin 100 (by omega)) (And.intro trivial ?_))
              refine gt_ hX (99) 247 (by decide +kernel) (by decide) ?_
              refine bk hX lkX12_ok (pc' := 250) [.iinc 5 1] (by decide +kernel) (And.intro trivial ?_)
              refine gt_ hX (-239) 11 (by decide +kernel) (by decide) ?_
              refine z_lvk (lv' := [(0, _), (1, _), (2, _), (3, _), (4, _), (5, _)]) [3, 4, 5, 6, 1, 0] rfl ?_
              simp only [cs, nI_add]
              refine ih (j + 1) ((x || b) :: s) _ (by rw [← List.drop_drop, hdr]; rfl) (by omega) (by rw [← hev]; simp [evS]) (by rw [shp_s] at hs; simpa using hs) (by simp only [List.length_cons] at hle ⊢; omega) (fun q hq => ?_) (fun k hk => ?_)
              · rw [up2_ne _ _ _ hq]; exact q1 q hq
              · rw [up2_at]
                by_cases hk2 : k = s.length
                · rw [if_pos hk2, hk2, pl_top]
                  first | (rw [b2i_t cx, b2i_t cb]; rfl) | (rw [b2i_f cx, b2i_f cb]; rfl) | (rw [b2i_t cx, b2i_f cb]; rfl) | (rw [b2i_f cx, b2i_t cb]; rfl) | (rw [b2i_f cx]; cases b <;> rfl) | (rw [b2i_t cx]; cases b <;> rfl)
                · simp only [List.length_cons] at hk
                  rw [if_neg hk2, pl_low _ _ (by omega)]
                  rw [q2 k (by simp only [List.length_cons]; omega)]
                  rw [pl_low _ _ (by simp only [List.length_cons]; omega), pl_low _ _ (by omega)]
            · refine bk hX lkX12_ok (pc' := 143) [.iconst 1] (by decide +kernel) (And.intro trivial ?_)
              refine gt_ hX (4) 147 (by decide +kernel) (by decide) ?_
              refine bk hX lkX12_ok (pc' := 148) [.bastore] (by decide +kernel) (And.intro (by exact vin 100 (by omega)) (And.intro trivial ?_))
              refine gt_ hX (99) 247 (by decide +kernel) (by decide) ?_
              refine bk hX lkX12_ok (pc' := 250) [.iinc 5 1] (by decide +kernel) (And.intro trivial ?_)
              refine gt_ hX (-239) 11 (by decide +kernel) (by decide) ?_
              refine z_lvk (lv' := [(0, _), (1, _), (2, _), (3, _), (4, _), (5, _)]) [3, 4, 5, 6, 1, 0] rfl ?_
              simp only [cs, nI_add]
              refine ih (j + 1) ((x || b) :: s) _ (by rw [← List.drop_drop, hdr]; rfl) (by omega) (by rw [← hev]; simp [evS]) (by rw [shp_s] at hs; simpa using hs) (by simp only [List.length_cons] at hle ⊢; omega) (fun q hq => ?_) (fun k hk => ?_)
              · rw [up2_ne _ _ _ hq]; exact q1 q hq
              · rw [up2_at]
                by_cases hk2 : k = s.length
                · rw [if_pos hk2, hk2, pl_top]
                  first | (rw [b2i_t cx, b2i_t cb]; rfl) | (rw [b2i_f cx, b2i_f cb]; rfl) | (rw [b2i_t cx, b2i_f cb]; rfl) | (rw [b2i_f cx, b2i_t cb]; rfl) | (rw [b2i_f cx]; cases b <;> rfl) | (rw [b2i_t cx]; cases b <;> rfl)
                · simp only [List.length_cons] at hk
                  rw [if_neg hk2, pl_low _ _ (by omega)]
                  rw [q2 k (by simp only [List.length_cons]; omega)]
                  rw [pl_low _ _ (by simp only [List.length_cons]; omega), pl_low _ _ (by omega)]
      · have htk2 : tk2 t = nI (t - 10) := by unfold tk2; rw [if_neg (by omega), if_neg (by omega), if_neg (by omega)]
        rw [htk2] at hsj
        refine bk hX lkX12_ok (pc' := 19) [.iload 5, .aload_n 0, .getfield 65, .iload_n 1, .iaload] (by decide +kernel) (And.intro (by exact vin 60 (by omega)) (And.intro trivial ?_))
        simp only [ci, e1]
        refine ic_ge hX (234) 253 (by decide +kernel) (by decide) (fun c => absurd c (nI_ge (by omega) (by omega))) (fun c_19 => ?_)
        refine bk hX lkX12_ok (pc' := 31) [.aload_n 0, .getfield 68, .iload 5, .iaload, .istore 6] (by decide +kernel) (And.intro (by exact vin 600 (by omega)) (And.intro trivial ?_))
        rw [cl (by omega), show I1 (101 + 19) (d + j) = _ from hsj]
        refine bk hX lkX12_ok (pc' := 35) [.iload 6, .bipush (Int.negSucc 32)] (by decide +kernel) (And.intro trivial ?_)
        refine ic_ne hX (32) 67 (by decide +kernel) (by decide) (fun c_35 => ?_) (fun c => absurd c (fun z => absurd (show (0 : Int32) ≤ -nI 33 by rw [← z]; exact nI_pos' (by omega)) (by decide)))
        refine bk hX lkX12_ok (pc' := 69) [.iload 6] (by decide +kernel) (And.intro trivial ?_)
        refine if_ge hX (82) 151 (by decide +kernel) (by decide) (fun c_69 => ?_) (fun c => absurd (nI_pos' (by omega)) c)
        refine bk hX lkX12_ok (pc' := 160) [.aload_n 0, .iload 6, .sipush 1000, .idiv, .iload_n 2, .iload_n 3] (by decide +kernel) (And.intro (by decide) (And.intro trivial ?_))
        rw [i_div (a := t - 10) (d := 1000) (by omega) (by decide) (by decide)]
        refine z_callV hX kw_X12_302 (c_M_factOf E K N Rf I1 L hg (mG_pile hG q1) hd hp hc (f := (t - 10) / 1000) (by omega)) rfl rfl rfl rfl rfl (by decide +kernel) (by decide) (by decide) (by decide) (by decide) (Nat.le_of_ble_eq_true rfl) ?_
        rintro _ _ ⟨rfl, rfl⟩
        refine bk hX lkX12_ok (pc' := 175) [.istore 7, .iload 6, .bipush 100, .idiv, .bipush 10, .irem, .istore 8] (by decide +kernel) (And.intro (by decide) (And.intro (by decide) (And.intro trivial ?_)))
        rw [i_div (a := t - 10) (d := 100) (by omega) (by decide) (by decide), i_mod (a := (t - 10) / 100) (d := 10) (by omega) (by decide) (by decide)]
        refine bk hX lkX12_ok (pc' := 183) [.aload_n 0, .getfield 86, .iload 4, .iload 8] (by decide +kernel) (And.intro trivial ?_)
        refine if_ne hX (21) 204 (by decide +kernel) (by decide) (fun cm => ?_) (fun cm => ?_)
        · refine bk hX lkX12_ok (pc' := 207) [.iload 8, .iconst 1] (by decide +kernel) (And.intro trivial ?_)
          refine ic_ne hX (21) 228 (by decide +kernel) (by decide) (fun cm2 => ?_) (fun cm2 => ?_)
          · refine bk hX lkX12_ok (pc' := 235) [.iload 7, .iload 6, .bipush 100, .irem] (by decide +kernel) (And.intro (by decide) (And.intro trivial ?_))
            rw [i_mod (a := t - 10) (d := 100) (by omega) (by decide) (by decide)]
            refine ic_le hX (7) 242 (by decide +kernel) (by decide) (fun cr => ?_) (fun cr => ?_)
            · refine bk hX lkX12_ok (pc' := 250) [.iconst 0, .bastore, .iinc 4 1, .iinc 5 1] (by decide +kernel) (And.intro (by exact vin 100 (by omega)) (And.intro trivial ?_))
              refine gt_ hX (-239) 11 (by decide +kernel) (by decide) ?_
              refine z_lvk (lv' := [(0, _), (1, _), (2, _), (3, _), (4, _), (5, _)]) [5, 6, 7, 8, 1, 0] rfl ?_
              simp only [cl (show st.length < 2 ^ 31 by omega), nI_add]
              refine ih (j + 1) (tst g p c (t - 10) :: st) _ (by rw [← List.drop_drop, hdr]; rfl) (by omega) (by rw [← hev]; simp [evS, show ¬ t = 0 by omega, show ¬ t = 1 by omega, show ¬ t = 2 by omega]) (by rw [shp_s, if_neg (by omega), if_neg (by omega)] at hs; exact hs) (by simp only [List.length_cons]; omega) (fun q hq => ?_) (fun k hk => ?_)
              · rw [up2_ne _ _ _ hq]; exact q1 q hq
              · rw [up2_at]
                by_cases hk2 : k = st.length
                · rw [if_pos hk2, hk2, pl_top]
                  have hfl := fx_lt hg hp hc ((t - 10) / 1000)
                  have hm0 : (t - 10) / 100 % 10 < 2 ^ 31 := by omega
                  unfold tst
                  first
                    | (rw [if_pos (nI_inj hm0 (by decide) cm), decide_eq_true ((nI_ltI (by omega) (by omega)).mp (i_nle.mp cr))]; rfl)
                    | (rw [if_pos (nI_inj hm0 (by decide) cm), decide_eq_false (fun z => absurd cr (i_nle.mpr (nI_lt z (by omega))))]; rfl)
                    | (rw [if_neg (fun z => cm (by rw [z]; rfl)), if_pos (nI_inj hm0 (by decide) cm2), decide_eq_true (nI_inj (by omega) (by omega) cr)]; rfl)
                    | (rw [if_neg (fun z => cm (by rw [z]; rfl)), if_pos (nI_inj hm0 (by decide) cm2), decide_eq_false (fun z => cr (by rw [z]))]; rfl)
                    | (rw [if_neg (fun z => cm (by rw [z]; rfl)), if_neg (fun z => cm2 (by rw [z])), decide_eq_true ((nI_ltI (by omega) (by omega)).mp (i_nle.mp cr))]; rfl)
                    | (rw [if_neg (fun z => cm (by rw [z]; rfl)), if_neg (fun z => cm2 (by rw [z])), decide_eq_false (fun z => absurd cr (i_nle.mpr (nI_lt z (by omega))))]; rfl)
                · simp only [List.length_cons] at hk
                  rw [if_neg hk2, pl_low _ _ (by omega)]
                  exact q2 k (by omega)
            · refine bk hX lkX12_ok (pc' := 239) [.iconst 1] (by decide +kernel) (And.intro trivial ?_)
              refine gt_ hX (4) 243 (by decide +kernel) (by decide) ?_
              refine bk hX lkX12_ok (pc' := 250) [.bastore, .iinc 4 1, .iinc 5 1] (by decide +kernel) (And.intro (by exact vin 100 (by omega)) (And.intro trivial ?_))
              refine gt_ hX (-239) 11 (by decide +kernel) (by decide) ?_
              refine z_lvk (lv' := [(0, _), (1, _), (2, _), (3, _), (4, _), (5, _)]) [5, 6, 7, 8, 1, 0] rfl ?_
              simp only [cl (show st.length < 2 ^ 31 by omega), nI_add]
              refine ih (j + 1) (tst g p c (t - 10) :: st) _ (by rw [← List.drop_drop, hdr]; rfl) (by omega) (by rw [← hev]; simp [evS, show ¬ t = 0 by omega, show ¬ t = 1 by omega, show ¬ t = 2 by omega]) (by rw [shp_s, if_neg (by omega), if_neg (by omega)] at hs; exact hs) (by simp only [List.length_cons]; omega) (fun q hq => ?_) (fun k hk => ?_)
              · rw [up2_ne _ _ _ hq]; exact q1 q hq
              · rw [up2_at]
                by_cases hk2 : k = st.length
                · rw [if_pos hk2, hk2, pl_top]
                  have hfl := fx_lt hg hp hc ((t - 10) / 1000)
                  have hm0 : (t - 10) / 100 % 10 < 2 ^ 31 := by omega
                  unfold tst
                  first
                    | (rw [if_pos (nI_inj hm0 (by decide) cm), decide_eq_true ((nI_ltI (by omega) (by omega)).mp (i_nle.mp cr))]; rfl)
                    | (rw [if_pos (nI_inj hm0 (by decide) cm), decide_eq_false (fun z => absurd cr (i_nle.mpr (nI_lt z (by omega))))]; rfl)
                    | (rw [if_neg (fun z => cm (by rw [z]; rfl)), if_pos (nI_inj hm0 (by decide) cm2), decide_eq_true (nI_inj (by omega) (by omega) cr)]; rfl)
                    | (rw [if_neg (fun z => cm (by rw [z]; rfl)), if_pos (nI_inj hm0 (by decide) cm2), decide_eq_false (fun z => cr (by rw [z]))]; rfl)
                    | (rw [if_neg (fun z => cm (by rw [z]; rfl)), if_neg (fun z => cm2 (by rw [z])), decide_eq_true ((nI_ltI (by omega) (by omega)).mp (i_nle.mp cr))]; rfl)
                    | (rw [if_neg (fun z => cm (by rw [z]; rfl)), if_neg (fun z => cm2 (by rw [z])), decide_eq_false (fun z => absurd cr (i_nle.mpr (nI_lt z (by omega))))]; rfl)
                · simp only [List.length_cons] at hk
                  rw [if_neg hk2, pl_low _ _ (by omega)]
                  exact q2 k (by omega)
          · refine bk hX lkX12_ok (pc' := 217) [.iload 7, .iload 6, .bipush 100, .irem] (by decide +kernel) (And.intro (by decide) (And.intro trivial ?_))
            rw [i_mod (a := t - 10) (d := 100) (by omega) (by decide) (by decide)]
            refine ic_ne hX (7) 224 (by decide +kernel) (by decide) (fun cr => ?_) (fun cr => ?_)
            · refine bk hX lkX12_ok (pc' := 225) [.iconst 0] (by decide +kernel) (And.intro trivial ?_)
              refine gt_ hX (18) 243 (by decide +kernel) (by decide) ?_
              refine bk hX lkX12_ok (pc' := 250) [.bastore, .iinc 4 1, .iinc 5 1] (by decide +kernel) (And.intro (by exact vin 100 (by omega)) (And.intro trivial ?_))
              refine gt_ hX (-239) 11 (by decide +kernel) (by decide) ?_
              refine z_lvk (lv' := [(0, _), (1, _), (2, _), (3, _), (4, _), (5, _)]) [5, 6, 7, 8, 1, 0] rfl ?_
              simp only [cl (show st.length < 2 ^ 31 by omega), nI_add]
              refine ih (j + 1) (tst g p c (t - 10) :: st) _ (by rw [← List.drop_drop, hdr]; rfl) (by omega) (by rw [← hev]; simp [evS, show ¬ t = 0 by omega, show ¬ t = 1 by omega, show ¬ t = 2 by omega]) (by rw [shp_s, if_neg (by omega), if_neg (by omega)] at hs; exact hs) (by simp only [List.length_cons]; omega) (fun q hq => ?_) (fun k hk => ?_)
              · rw [up2_ne _ _ _ hq]; exact q1 q hq
              · rw [up2_at]
                by_cases hk2 : k = st.length
                · rw [if_pos hk2, hk2, pl_top]
                  have hfl := fx_lt hg hp hc ((t - 10) / 1000)
                  have hm0 : (t - 10) / 100 % 10 < 2 ^ 31 := by omega
                  unfold tst
                  first
                    | (rw [if_pos (nI_inj hm0 (by decide) cm), decide_eq_true ((nI_ltI (by omega) (by omega)).mp (i_nle.mp cr))]; rfl)
                    | (rw [if_pos (nI_inj hm0 (by decide) cm), decide_eq_false (fun z => absurd cr (i_nle.mpr (nI_lt z (by omega))))]; rfl)
                    | (rw [if_neg (fun z => cm (by rw [z]; rfl)), if_pos (nI_inj hm0 (by decide) cm2), decide_eq_true (nI_inj (by omega) (by omega) cr)]; rfl)
                    | (rw [if_neg (fun z => cm (by rw [z]; rfl)), if_pos (nI_inj hm0 (by decide) cm2), decide_eq_false (fun z => cr (by rw [z]))]; rfl)
                    | (rw [if_neg (fun z => cm (by rw [z]; rfl)), if_neg (fun z => cm2 (by rw [z])), decide_eq_true ((nI_ltI (by omega) (by omega)).mp (i_nle.mp cr))]; rfl)
                    | (rw [if_neg (fun z => cm (by rw [z]; rfl)), if_neg (fun z => cm2 (by rw [z])), decide_eq_false (fun z => absurd cr (i_nle.mpr (nI_lt z (by omega))))]; rfl)
                · simp only [List.length_cons] at hk
                  rw [if_neg hk2, pl_low _ _ (by omega)]
                  exact q2 k (by omega)
            · refine bk hX lkX12_ok (pc' := 221) [.iconst 1] (by decide +kernel) (And.intro trivial ?_)
              refine gt_ hX (22) 243 (by decide +kernel) (by decide) ?_
              refine bk hX lkX12_ok (pc' := 250) [.bastore, .iinc 4 1, .iinc 5 1] (by decide +kernel) (And.intro (by exact vin 100 (by omega)) (And.intro trivial ?_))
              refine gt_ hX (-239) 11 (by decide +kernel) (by decide) ?_
              refine z_lvk (lv' := [(0, _), (1, _), (2, _), (3, _), (4, _), (5, _)]) [5, 6, 7, 8, 1, 0] rfl ?_
              simp only [cl (show st.length < 2 ^ 31 by omega), nI_add]
              refine ih (j + 1) (tst g p c (t - 10) :: st) _ (by rw [← List.drop_drop, hdr]; rfl) (by omega) (by rw [← hev]; simp [evS, show ¬ t = 0 by omega, show ¬ t = 1 by omega, show ¬ t = 2 by omega]) (by rw [shp_s, if_neg (by omega), if_neg (by omega)] at hs; exact hs) (by simp only [List.length_cons]; omega) (fun q hq => ?_) (fun k hk => ?_)
              · rw [up2_ne _ _ _ hq]; exact q1 q hq
              · rw [up2_at]
                by_cases hk2 : k = st.length
                · rw [if_pos hk2, hk2, pl_top]
                  have hfl := fx_lt hg hp hc ((t - 10) / 1000)
                  have hm0 : (t - 10) / 100 % 10 < 2 ^ 31 := by omega
                  unfold tst
                  first
                    | (rw [if_pos (nI_inj hm0 (by decide) cm), decide_eq_true ((nI_ltI (by omega) (by omega)).mp (i_nle.mp cr))]; rfl)
                    | (rw [if_pos (nI_inj hm0 (by decide) cm), decide_eq_false (fun z => absurd cr (i_nle.mpr (nI_lt z (by omega))))]; rfl)
                    | (rw [if_neg (fun z => cm (by rw [z]; rfl)), if_pos (nI_inj hm0 (by decide) cm2), decide_eq_true (nI_inj (by omega) (by omega) cr)]; rfl)
                    | (rw [if_neg (fun z => cm (by rw [z]; rfl)), if_pos (nI_inj hm0 (by decide) cm2), decide_eq_false (fun z => cr (by rw [z]))]; rfl)
                    | (rw [if_neg (fun z => cm (by rw [z]; rfl)), if_neg (fun z => cm2 (by rw [z])), decide_eq_true ((nI_ltI (by omega) (by omega)).mp (i_nle.mp cr))]; rfl)
                    | (rw [if_neg (fun z => cm (by rw [z]; rfl)), if_neg (fun z => cm2 (by rw [z])), decide_eq_false (fun z => absurd cr (i_nle.mpr (nI_lt z (by omega))))]; rfl)
                · simp only [List.length_cons] at hk
                  rw [if_neg hk2, pl_low _ _ (by omega)]
                  exact q2 k (by omega)
        · refine bk hX lkX12_ok (pc' := 193) [.iload 7, .iload 6, .bipush 100, .irem] (by decide +kernel) (And.intro (by decide) (And.intro trivial ?_))
          rw [i_mod (a := t - 10) (d := 100) (by omega) (by decide) (by decide)]
          refine ic_ge hX (7) 200 (by decide +kernel) (by decide) (fun cr => ?_) (fun cr => ?_)
          · refine bk hX lkX12_ok (pc' := 201) [.iconst 0] (by decide +kernel) (And.intro trivial ?_)
            refine gt_ hX (42) 243 (by decide +kernel) (by decide) ?_
            refine bk hX lkX12_ok (pc' := 250) [.bastore, .iinc 4 1, .iinc 5 1] (by decide +kernel) (And.intro (by exact vin 100 (by omega)) (And.intro trivial ?_))
            refine gt_ hX (-239) 11 (by decide +kernel) (by decide) ?_
            refine z_lvk (lv' := [(0, _), (1, _), (2, _), (3, _), (4, _), (5, _)]) [5, 6, 7, 8, 1, 0] rfl ?_
            simp only [cl (show st.length < 2 ^ 31 by omega), nI_add]
            refine ih (j + 1) (tst g p c (t - 10) :: st) _ (by rw [← List.drop_drop, hdr]; rfl) (by omega) (by rw [← hev]; simp [evS, show ¬ t = 0 by omega, show ¬ t = 1 by omega, show ¬ t = 2 by omega]) (by rw [shp_s, if_neg (by omega), if_neg (by omega)] at hs; exact hs) (by simp only [List.length_cons]; omega) (fun q hq => ?_) (fun k hk => ?_)
            · rw [up2_ne _ _ _ hq]; exact q1 q hq
            · rw [up2_at]
              by_cases hk2 : k = st.length
              · rw [if_pos hk2, hk2, pl_top]
                have hfl := fx_lt hg hp hc ((t - 10) / 1000)
                have hm0 : (t - 10) / 100 % 10 < 2 ^ 31 := by omega
                unfold tst
                first
                  | (rw [if_pos (nI_inj hm0 (by decide) cm), decide_eq_true ((nI_ltI (by omega) (by omega)).mp (i_nle.mp cr))]; rfl)
                  | (rw [if_pos (nI_inj hm0 (by decide) cm), decide_eq_false (fun z => absurd cr (i_nle.mpr (nI_lt z (by omega))))]; rfl)
                  | (rw [if_neg (fun z => cm (by rw [z]; rfl)), if_pos (nI_inj hm0 (by decide) cm2), decide_eq_true (nI_inj (by omega) (by omega) cr)]; rfl)
                  | (rw [if_neg (fun z => cm (by rw [z]; rfl)), if_pos (nI_inj hm0 (by decide) cm2), decide_eq_false (fun z => cr (by rw [z]))]; rfl)
                  | (rw [if_neg (fun z => cm (by rw [z]; rfl)), if_neg (fun z => cm2 (by rw [z])), decide_eq_true ((nI_ltI (by omega) (by omega)).mp (i_nle.mp cr))]; rfl)
                  | (rw [if_neg (fun z => cm (by rw [z]; rfl)), if_neg (fun z => cm2 (by rw [z])), decide_eq_false (fun z => absurd cr (i_nle.mpr (nI_lt z (by omega))))]; rfl)
              · simp only [List.length_cons] at hk
                rw [if_neg hk2, pl_low _ _ (by omega)]
                exact q2 k (by omega)
          · refine bk hX lkX12_ok (pc' := 197) [.iconst 1] (by decide +kernel) (And.intro trivial ?_)
            refine gt_ hX (46) 243 (by decide +kernel) (by decide) ?_
            refine bk hX lkX12_ok (pc' := 250) [.bastore, .iinc 4 1, .iinc 5 1] (by decide +kernel) (And.intro (by exact vin 100 (by omega)) (And.intro trivial ?_))
            refine gt_ hX (-239) 11 (by decide +kernel) (by decide) ?_
            refine z_lvk (lv' := [(0, _), (1, _), (2, _), (3, _), (4, _), (5, _)]) [5, 6, 7, 8, 1, 0] rfl ?_
            simp only [cl (show st.length < 2 ^ 31 by omega), nI_add]
            refine ih (j + 1) (tst g p c (t - 10) :: st) _ (by rw [← List.drop_drop, hdr]; rfl) (by omega) (by rw [← hev]; simp [evS, show ¬ t = 0 by omega, show ¬ t = 1 by omega, show ¬ t = 2 by omega]) (by rw [shp_s, if_neg (by omega), if_neg (by omega)] at hs; exact hs) (by simp only [List.length_cons]; omega) (fun q hq => ?_) (fun k hk => ?_)
            · rw [up2_ne _ _ _ hq]; exact q1 q hq
            · rw [up2_at]
              by_cases hk2 : k = st.length
              · rw [if_pos hk2, hk2, pl_top]
                have hfl := fx_lt hg hp hc ((t - 10) / 1000)
                have hm0 : (t - 10) / 100 % 10 < 2 ^ 31 := by omega
                unfold tst
                first
                  | (rw [if_pos (nI_inj hm0 (by decide) cm), decide_eq_true ((nI_ltI (by omega) (by omega)).mp (i_nle.mp cr))]; rfl)
                  | (rw [if_pos (nI_inj hm0 (by decide) cm), decide_eq_false (fun z => absurd cr (i_nle.mpr (nI_lt z (by omega))))]; rfl)
                  | (rw [if_neg (fun z => cm (by rw [z]; rfl)), if_pos (nI_inj hm0 (by decide) cm2), decide_eq_true (nI_inj (by omega) (by omega) cr)]; rfl)
                  | (rw [if_neg (fun z => cm (by rw [z]; rfl)), if_pos (nI_inj hm0 (by decide) cm2), decide_eq_false (fun z => cr (by rw [z]))]; rfl)
                  | (rw [if_neg (fun z => cm (by rw [z]; rfl)), if_neg (fun z => cm2 (by rw [z])), decide_eq_true ((nI_ltI (by omega) (by omega)).mp (i_nle.mp cr))]; rfl)
                  | (rw [if_neg (fun z => cm (by rw [z]; rfl)), if_neg (fun z => cm2 (by rw [z])), decide_eq_false (fun z => absurd cr (i_nle.mpr (nI_lt z (by omega))))]; rfl)
              · simp only [List.length_cons] at hk
                rw [if_neg hk2, pl_low _ _ (by omega)]
                exact q2 k (by omega)
  refine bk hX lkX12_ok (pc' := 11) [.iconst 0, .istore 4, .aload_n 0, .getfield 62, .iload_n 1, .iaload, .istore 5] (by decide +kernel) (And.intro (by exact vin 60 (by omega)) (And.intro trivial ?_))
  refine z_lvk (lv' := [(0, _), (1, _), (2, _), (3, _), (4, _), (5, _)]) [2, 3, 4, 5, 1, 0] rfl ?_
  simp only [ci]
  rw [show I (101 + 17) i = nI d from hfr]
  exact hl ts 0 [] I rfl (by omega) rfl hsh (by simpa using hl100) (fun _ _ => rfl) (fun k hk => absurd hk (Nat.not_lt_zero _))
end
section
/-- what the clauses add: the first j of them -/
def clN (g : Gv) (w : Wk) (p c : Nat) : Nat → Int32
  | 0 => 0
  | j + 1 => clN g w p c j + (if (wkd w j).1 < 2 ∧ evE g p c (wkd w j).2.2 = true then (if (wkd w j).1 = 0 then nI (wkd w j).2.1 else -nI (wkd w j).2.1) else 0)
theorem clN_s (g : Gv) (w : Wk) (p c j : Nat) : clN g w p c (j + 1) = clN g w p c j + (if (wkd w j).1 < 2 ∧ evE g p c (wkd w j).2.2 = true then (if (wkd w j).1 = 0 then nI (wkd w j).2.1 else -nI (wkd w j).2.1) else 0) := rfl
def moS (g : Gv) (w : Wk) (p c : Nat) : Int32 := (nI 10 - nI (pcN (gh g c) 10)) + clN g w p c w.length
def tmS (g : Gv) (w : Wk) (p c : Nat) : Int32 := if gk g p = 2 ∨ gk g p = 5 then (if c = p then moS g w p c else moS g w p c + nI (gv g p)) else if gk g p = 3 ∨ gk g p = 6 then moS g w p c / nI 2 else moS g w p c
/-- temper of the first j workers, together -/
def atN (g : Gv) (w : Wk) : Nat → Int32
  | 0 => 0
  | j + 1 => atN g w j + tmS g w j (gc g j)
theorem mHB_pile {w : Wk} {b : Nat} {I I1 : Nat → Nat → Int32} (h : mHB w b I) (h1 : ∀ q, q ≠ 126 → I1 q = I q) : mHB w b I1 := by
  refine mHB_eq h (by rw [h1 100 (by decide)]) ?_ ?_ ?_ ?_ ?_ ?_ <;> exact h1 _ (by decide)
theorem b2i_or (b : Bool) : (b = true ∧ b2i b = 1) ∨ (¬ b = true ∧ b2i b = 0) := by cases b with
  | true => exact Or.inl ⟨rfl, rfl⟩
  | false => exact Or.inr ⟨by decide, rfl⟩
set_option maxHeartbeats 2000000 in
theorem c_M_mood (E : zE) (K N : Nat → Nat) (Rf : Nat → Nat → Option Nat) (I : Nat → Nat → Int32) (L : Nat → Nat → Int64) {g : Gv} (hg : gwf g) (hG : mG g I) (hd : gd g < 1000000) {w : Wk} {b : Nat} (hB : mHB w b I) {p c : Nat} (hp : p < gn g) (hc : c < gn g) : zCt E mX12_mood 4 0 0 (sg K N Rf I L) [.ref 100, .int (nI p), .int (nI c)] (fun r σ' => ∃ I', σ' = sg K N Rf I' L ∧ (∀ q, q ≠ 126 → I' q = I q) ∧ r = some (.int (moS g w p c))) := by
  have h6 := hg.1
  obtain ⟨hb60, hcl⟩ := mHB_B hB
  have cc : (nI c).toNatClampNeg = c := cl (by omega)
  have hhc := (hg.2.1 c hc).2.2.2.1
  refine z_intro (by decide) (Nat.le_of_ble_eq_true rfl) (fun X hX => ?_)
  have hl : ∀ m j (I1 : Nat → Nat → Int32), j + m = w.length → (∀ q, q ≠ 126 → I1 q = I q) → zS X (sg K N Rf I1 L) 0 0 20 [(0, .ref 100), (1, .int (nI p)), (2, .int (nI c)), (3, .int ((nI 10 - nI (pcN (gh g c) 10)) + clN g w p c j)), (4, .int (nI (b + j)))] [] := by
    intro m
    induction m with
    | zero =>
      intro j I1 hj q1
      obtain rfl : j = w.length := by omega
      refine bk hX lkX12_ok (pc' := 23) [.iload 4, .aload_n 0] (by decide +kernel) (And.intro trivial ?_)
      refine z_callV hX kw_X12_296 (c_M_behind E K N Rf I1 L (mHB_pile hB q1)) rfl rfl rfl rfl rfl (by decide +kernel) (by decide) (by decide) (by decide) (by decide) (Nat.le_of_ble_eq_true rfl) ?_
      rintro _ _ ⟨rfl, rfl⟩
      refine ic_ge hX (65) 91 (by decide +kernel) (by decide) (fun c_26 => ?_) (fun c => absurd (nI_le (by omega) (by omega)) c)
      refine bk hX lkX12_ok (pc' := 92) [.iload_n 3] (by decide +kernel) (And.intro trivial ?_)
      exact z_iret hX (by decide +kernel) rfl (rfl) (by decide) (by decide) (⟨I1, rfl, q1, rfl⟩)
    | succ m ih =>
      intro j I1 hj q1
      obtain ⟨hw2, hn99, hw, hn, hex⟩ := hcl j (by omega)
      have cj : (nI (b + j)).toNatClampNeg = b + j := cl (by omega)
      have ew : I1 116 (b + j) = nI (wkd w j).1 := by rw [q1 _ (by decide)]; exact hw
      have en : I1 117 (b + j) = nI (wkd w j).2.1 := by rw [q1 _ (by decide)]; exact hn
      refine bk hX lkX12_ok (pc' := 23) [.iload 4, .aload_n 0] (by decide +kernel) (And.intro trivial ?_)
      refine z_callV hX kw_X12_296 (c_M_behind E K N Rf I1 L (mHB_pile hB q1)) rfl rfl rfl rfl rfl (by decide +kernel) (by decide) (by decide) (by decide) (by decide) (Nat.le_of_ble_eq_true rfl) ?_
      rintro _ _ ⟨rfl, rfl⟩
      refine ic_ge hX (65) 91 (by decide +kernel) (by decide) (fun c => absurd c (nI_ge (by omega) (by omega))) (fun c_26 => ?_)
      refine bk hX lkX12_ok (pc' := 37) [.aload_n 0, .getfield 56, .iload 4, .iaload, .iconst 1] (by decide +kernel) (And.intro (by exact vin 60 (by omega)) (And.intro trivial ?_))
      rw [cj, show I1 (101 + 15) (b + j) = _ from ew]
      refine ic_gt hX (48) 85 (by decide +kernel) (by decide) (fun c37 => ?_) (fun c37 => ?_)
      · refine bk hX lkX12_ok (pc' := 88) [.iinc 4 1] (by decide +kernel) (And.intro trivial ?_)
        refine gt_ hX (-68) 20 (by decide +kernel) (by decide) ?_
        refine z_lvk (lv' := [(0, _), (1, _), (2, _), (3, _), (4, _)]) [1, 2, 3, 4, 0] rfl ?_
        rw [nI_add]
        first
          | (have hi := ih (j + 1) I1 (by omega) q1
             rw [clN_s, if_neg (fun z => absurd (nI_lt (a := 1) (b := (wkd w j).1) (by omega) (by omega)) (fun y => absurd z.1 (by have := (nI_ltI (a := 1) (b := (wkd w j).1) (by omega) (by omega)).mp c37; omega))), Int32.add_zero] at hi
             exact hi)
          | (have hi := ih (j + 1) I1 (by omega) q1
             have h2w : ¬ (wkd w j).1 < 2 := by have := (nI_ltI (a := 1) (b := (wkd w j).1) (by omega) (by omega)).mp c37; omega
             rw [clN_s, if_neg (fun z => h2w z.1), Int32.add_zero] at hi
             exact hi)
          | (have hi := ih (j + 1) I2 (by omega) q4
             rw [clN_s, if_neg (fun z => by rw [z.2] at ce; exact absurd ce (by decide)), Int32.add_zero] at hi
             exact hi)
          | (have hi := ih (j + 1) I2 (by omega) q4
             rw [clN_s, if_pos ⟨hwl, b2i_t ce⟩, if_pos (nI_inj (by omega) (by decide) c62), ← Int32.add_assoc] at hi
             exact hi)
          | (have hi := ih (j + 1) I2 (by omega) q4
             rw [clN_s, if_pos ⟨hwl, b2i_t ce⟩, if_neg (fun z => c62 (by rw [z]; rfl)), ← Int32.add_assoc] at hi
             exact hi)
      · have hwl : (wkd w j).1 < 2 := by
          rcases Nat.lt_or_ge (wkd w j).1 2 with z | z
          · exact z
          · exact absurd (nI_lt (a := 1) (b := (wkd w j).1) (by omega) (by omega)) c37
        obtain ⟨hok, d, h1, h2, h3, h4⟩ := hex hwl
        obtain ⟨hok1, hok2, hok3, -⟩ := hok hwl
        refine bk hX lkX12_ok (pc' := 45) [.aload_n 0, .iload 4, .iload_n 1, .iload_n 2] (by decide +kernel) (And.intro trivial ?_)
        refine z_callV hX kw_X12_306 (c_M_holds E K N Rf I1 L hg (mG_pile hG q1) hd hp hc (by omega) (by rw [q1 _ (by decide)]; exact h1) (by rw [q1 _ (by decide)]; exact h2) h3 (fun k hk => by rw [q1 _ (by decide)]; exact h4 k hk) hok1 hok2 hok3) rfl rfl rfl rfl rfl (by decide +kernel) (by decide) (by decide) (by decide) (by decide) (Nat.le_of_ble_eq_true rfl) ?_
        rintro _ _ ⟨I2, rfl, q3, rfl⟩
        have q4 : ∀ q, q ≠ 126 → I2 q = I q := fun q hq => (q3 q hq).trans (q1 q hq)
        have ew2 : I2 116 (b + j) = nI (wkd w j).1 := by rw [q4 _ (by decide)]; exact hw
        have en2 : I2 117 (b + j) = nI (wkd w j).2.1 := by rw [q4 _ (by decide)]; exact hn
        refine if_ne hX (6) 54 (by decide +kernel) (by decide) (fun ce => ?_) (fun ce => ?_)
        · refine bk hX lkX12_ok (pc' := 62) [.iload_n 3, .aload_n 0, .getfield 56, .iload 4, .iaload] (by decide +kernel) (And.intro (by exact vin 60 (by omega)) (And.intro trivial ?_))
          rw [cj, show I2 (101 + 15) (b + j) = _ from ew2]
          refine if_ne hX (13) 75 (by decide +kernel) (by decide) (fun c62 => ?_) (fun c62 => ?_)
          · refine bk hX lkX12_ok (pc' := 82) [.aload_n 0, .getfield 59, .iload 4, .iaload] (by decide +kernel) (And.intro (by exact vin 60 (by omega)) (And.intro trivial ?_))
            rw [cj, show I2 (101 + 16) (b + j) = _ from en2]
            refine bk hX lkX12_ok (pc' := 88) [.ineg, .iadd, .istore_n 3, .iinc 4 1] (by decide +kernel) (And.intro trivial ?_)
            refine gt_ hX (-68) 20 (by decide +kernel) (by decide) ?_
            refine z_lvk (lv' := [(0, _), (1, _), (2, _), (3, _), (4, _)]) [2, 3, 4, 1, 0] rfl ?_
            rw [nI_add]
            first
              | (have hi := ih (j + 1) I1 (by omega) q1
                 rw [clN_s, if_neg (fun z => absurd (nI_lt (a := 1) (b := (wkd w j).1) (by omega) (by omega)) (fun y => absurd z.1 (by have := (nI_ltI (a := 1) (b := (wkd w j).1) (by omega) (by omega)).mp c37; omega))), Int32.add_zero] at hi
                 exact hi)
              | (have hi := ih (j + 1) I1 (by omega) q1
                 have h2w : ¬ (wkd w j).1 < 2 := by have := (nI_ltI (a := 1) (b := (wkd w j).1) (by omega) (by omega)).mp c37; omega
                 rw [clN_s, if_neg (fun z => h2w z.1), Int32.add_zero] at hi
                 exact hi)
              | (have hi := ih (j + 1) I2 (by omega) q4
                 rw [clN_s, if_neg (fun z => by rw [z.2] at ce; exact absurd ce (by decide)), Int32.add_zero] at hi
                 exact hi)
              | (have hi := ih (j + 1) I2 (by omega) q4
                 rw [clN_s, if_pos ⟨hwl, b2i_t ce⟩, if_pos (nI_inj (by omega) (by decide) c62), ← Int32.add_assoc] at hi
                 exact hi)
              | (have hi := ih (j + 1) I2 (by omega) q4
                 rw [clN_s, if_pos ⟨hwl, b2i_t ce⟩, if_neg (fun z => c62 (by rw [z]; rfl)), ← Int32.add_assoc] at hi
                 exact hi)
          · refine bk hX lkX12_ok (pc' := 72) [.aload_n 0, .getfield 59, .iload 4, .iaload] (by decide +kernel) (And.intro (by exact vin 60 (by omega)) (And.intro trivial ?_))
            rw [cj, show I2 (101 + 16) (b + j) = _ from en2]
            refine gt_ hX (11) 83 (by decide +kernel) (by decide) ?_
            refine bk hX lkX12_ok (pc' := 88) [.iadd, .istore_n 3, .iinc 4 1] (by decide +kernel) (And.intro trivial ?_)
            refine gt_ hX (-68) 20 (by decide +kernel) (by decide) ?_
            refine z_lvk (lv' := [(0, _), (1, _), (2, _), (3, _), (4, _)]) [2, 3, 4, 1, 0] rfl ?_
            rw [nI_add]
            first
              | (have hi := ih (j + 1) I1 (by omega) q1
                 rw [clN_s, if_neg (fun z => absurd (nI_lt (a := 1) (b := (wkd w j).1) (by omega) (by omega)) (fun y => absurd z.1 (by have := (nI_ltI (a := 1) (b := (wkd w j).1) (by omega) (by omega)).mp c37; omega))), Int32.add_zero] at hi
                 exact hi)
              | (have hi := ih (j + 1) I1 (by omega) q1
                 have h2w : ¬ (wkd w j).1 < 2 := by have := (nI_ltI (a := 1) (b := (wkd w j).1) (by omega) (by omega)).mp c37; omega
                 rw [clN_s, if_neg (fun z => h2w z.1), Int32.add_zero] at hi
                 exact hi)
              | (have hi := ih (j + 1) I2 (by omega) q4
                 rw [clN_s, if_neg (fun z => by rw [z.2] at ce; exact absurd ce (by decide)), Int32.add_zero] at hi
                 exact hi)
              | (have hi := ih (j + 1) I2 (by omega) q4
                 rw [clN_s, if_pos ⟨hwl, b2i_t ce⟩, if_pos (nI_inj (by omega) (by decide) c62), ← Int32.add_assoc] at hi
                 exact hi)
              | (have hi := ih (j + 1) I2 (by omega) q4
                 rw [clN_s, if_pos ⟨hwl, b2i_t ce⟩, if_neg (fun z => c62 (by rw [z]; rfl)), ← Int32.add_assoc] at hi
                 exact hi)
        · refine gt_ hX (34) 85 (by decide +kernel) (by decide) ?_
          refine bk hX lkX12_ok (pc' := 88) [.iinc 4 1] (by decide +kernel) (And.intro trivial ?_)
          refine gt_ hX (-68) 20 (by decide +kernel) (by decide) ?_
          refine z_lvk (lv' := [(0, _), (1, _), (2, _), (3, _), (4, _)]) [1, 2, 3, 4, 0] rfl ?_
          rw [nI_add]
          first
            | (have hi := ih (j + 1) I1 (by omega) q1
               rw [clN_s, if_neg (fun z => absurd (nI_lt (a := 1) (b := (wkd w j).1) (by omega) (by omega)) (fun y => absurd z.1 (by have := (nI_ltI (a := 1) (b := (wkd w j).1) (by omega) (by omega)).mp c37; omega))), Int32.add_zero] at hi
               exact hi)
            | (have hi := ih (j + 1) I1 (by omega) q1
               have h2w : ¬ (wkd w j).1 < 2 := by have := (nI_ltI (a := 1) (b := (wkd w j).1) (by omega) (by omega)).mp c37; omega
               rw [clN_s, if_neg (fun z => h2w z.1), Int32.add_zero] at hi
               exact hi)
            | (have hi := ih (j + 1) I2 (by omega) q4
               rw [clN_s, if_neg (fun z => by rw [z.2] at ce; exact absurd ce (by decide)), Int32.add_zero] at hi
               exact hi)
            | (have hi := ih (j + 1) I2 (by omega) q4
               rw [clN_s, if_pos ⟨hwl, b2i_t ce⟩, if_pos (nI_inj (by omega) (by decide) c62), ← Int32.add_assoc] at hi
               exact hi)
            | (have hi := ih (j + 1) I2 (by omega) q4
               rw [clN_s, if_pos ⟨hwl, b2i_t ce⟩, if_neg (fun z => c62 (by rw [z]; rfl)), ← Int32.add_assoc] at hi
               exact hi)
  refine bk hX lkX12_ok (pc' := 9) [.bipush 10, .aload_n 0, .aload_n 0, .getfield 29, .iload_n 2, .iaload] (by decide +kernel) (And.intro (by exact vin 6 (by omega)) (And.intro trivial ?_))
  rw [cc, show I (101 + 6) c = nI (gh g c) from (hG.2.2.2 c hc).2.2.2.1]
  refine z_callV hX kw_X12_299 (c_M_bits E _ rfl hhc) rfl rfl rfl rfl rfl (by decide +kernel) (by decide) (by decide) (by decide) (by decide) (Nat.le_of_ble_eq_true rfl) ?_
  rintro _ _ ⟨rfl, rfl⟩
  refine bk hX lkX12_ok (pc' := 15) [.isub, .istore_n 3, .aload_n 0] (by decide +kernel) (And.intro trivial ?_)
  refine z_callV hX kw_X12_293 (c_M_begin E K N Rf I L hB) rfl rfl rfl rfl rfl (by decide +kernel) (by decide) (by decide) (by decide) (by decide) (Nat.le_of_ble_eq_true rfl) ?_
  rintro _ _ ⟨rfl, rfl⟩
  refine bk hX lkX12_ok (pc' := 20) [.istore 4] (by decide +kernel) (And.intro trivial ?_)
  refine z_lvk (lv' := [(0, _), (1, _), (2, _), (3, _), (4, _)]) [2, 3, 4, 1, 0] rfl ?_
  have hi := hl w.length 0 I (by omega) (fun _ _ => rfl)
  rw [show clN g w p c 0 = 0 from rfl, Int32.add_zero] at hi
  exact hi
theorem c_M_temper (E : zE) (K N : Nat → Nat) (Rf : Nat → Nat → Option Nat) (I : Nat → Nat → Int32) (L : Nat → Nat → Int64) {g : Gv} (hg : gwf g) (hG : mG g I) (hd : gd g < 1000000) {w : Wk} {b : Nat} (hB : mHB w b I) {p c : Nat} (hp : p < gn g) (hc : c < gn g) : zCt E mX12_temper 5 0 0 (sg K N Rf I L) [.ref 100, .int (nI p), .int (nI c)] (fun r σ' => ∃ I', σ' = sg K N Rf I' L ∧ (∀ q, q ≠ 126 → I' q = I q) ∧ r = some (.int (tmS g w p c))) := by
  have h6 := hg.1
  have hk6 := (hg.2.1 p hp).1
  have cp : (nI p).toNatClampNeg = p := cl (by omega)
  refine z_intro (by decide) (Nat.le_of_ble_eq_true rfl) (fun X hX => ?_)
  refine bk hX lkX12_ok (pc' := 3) [.aload_n 0, .iload_n 1, .iload_n 2] (by decide +kernel) (And.intro trivial ?_)
  refine z_callV hX kw_X12_309 (c_M_mood E K N Rf I L hg hG hd hB hp hc) rfl rfl rfl rfl rfl (by decide +kernel) (by decide) (by decide) (by decide) (by decide) (Nat.le_of_ble_eq_true rfl) ?_
  rintro _ _ ⟨I2, rfl, q3, rfl⟩
  have hG2 := mG_pile hG q3
  refine bk hX lkX12_ok (pc' := 13) [.istore_n 3, .aload_n 0, .getfield 19, .iload_n 1, .iaload] (by decide +kernel) (And.intro (by exact vin 6 (by omega)) (And.intro trivial ?_))
  rw [cp, show I2 (101 + 3) p = nI (gk g p) from (hG2.2.2.2 p hp).1]
  have hk7 : gk g p = 0 ∨ gk g p = 1 ∨ gk g p = 2 ∨ gk g p = 3 ∨ gk g p = 4 ∨ gk g p = 5 ∨ gk g p = 6 := by omega
  rcases hk7 with e | e | e | e | e | e | e
  · rw [e]
    refine z_tsw hX 70 (dflt := 57) (lo := 2) (hi := 6) (offs := #[35, 53, 57, 35, 53]) (len := 35) (off := 57) (by decide +kernel) (by decide) (by decide) ?_
    refine bk hX lkX12_ok (pc' := 71) [.iload_n 3] (by decide +kernel) (And.intro trivial ?_)
    exact z_iret hX (by decide +kernel) rfl (rfl) (by decide) (by decide) (by
  refine ⟨I2, rfl, q3, ?_⟩
  simp only [tmS, e]
  first
    | rfl
    | (rw [if_neg (by decide), if_neg (by decide)])
    | (rw [if_neg (by decide), if_pos (by decide)])
    | (rw [if_pos (by decide), if_pos (nI_inj (by omega) (by omega) cc)])
    | (rw [if_pos (by decide), if_neg (fun z => cc (by rw [z])), cp, show I2 (101 + 4) p = nI (gv g p) from (hG2.2.2.2 p hp).2.1]))
  · rw [e]
    refine z_tsw hX 70 (dflt := 57) (lo := 2) (hi := 6) (offs := #[35, 53, 57, 35, 53]) (len := 35) (off := 57) (by decide +kernel) (by decide) (by decide) ?_
    refine bk hX lkX12_ok (pc' := 71) [.iload_n 3] (by decide +kernel) (And.intro trivial ?_)
    exact z_iret hX (by decide +kernel) rfl (rfl) (by decide) (by decide) (by
  refine ⟨I2, rfl, q3, ?_⟩
  simp only [tmS, e]
  first
    | rfl
    | (rw [if_neg (by decide), if_neg (by decide)])
    | (rw [if_neg (by decide), if_pos (by decide)])
    | (rw [if_pos (by decide), if_pos (nI_inj (by omega) (by omega) cc)])
    | (rw [if_pos (by decide), if_neg (fun z => cc (by rw [z])), cp, show I2 (101 + 4) p = nI (gv g p) from (hG2.2.2.2 p hp).2.1]))
  · rw [e]
    refine z_tsw hX 48 (dflt := 57) (lo := 2) (hi := 6) (offs := #[35, 53, 57, 35, 53]) (len := 35) (off := 35) (by decide +kernel) (by decide) (by decide) ?_
    refine bk hX lkX12_ok (pc' := 50) [.iload_n 2, .iload_n 1] (by decide +kernel) (And.intro trivial ?_)
    refine ic_ne hX (7) 57 (by decide +kernel) (by decide) (fun cc => ?_) (fun cc => ?_)
    · refine bk hX lkX12_ok (pc' := 65) [.iload_n 3, .aload_n 0, .getfield 23, .iload_n 1, .iaload, .iadd] (by decide +kernel) (And.intro (by exact vin 6 (by omega)) (And.intro trivial ?_))
      exact z_iret hX (by decide +kernel) rfl (rfl) (by decide) (by decide) (by
  refine ⟨I2, rfl, q3, ?_⟩
  simp only [tmS, e]
  first
    | rfl
    | (rw [if_neg (by decide), if_neg (by decide)])
    | (rw [if_neg (by decide), if_pos (by decide)])
    | (rw [if_pos (by decide), if_pos (nI_inj (by omega) (by omega) cc)])
    | (rw [if_pos (by decide), if_neg (fun z => cc (by rw [z])), cp, show I2 (101 + 4) p = nI (gv g p) from (hG2.2.2.2 p hp).2.1]))
    · refine bk hX lkX12_ok (pc' := 54) [.iload_n 3] (by decide +kernel) (And.intro trivial ?_)
      refine gt_ hX (11) 65 (by decide +kernel) (by decide) ?_
      exact z_iret hX (by decide +kernel) rfl (rfl) (by decide) (by decide) (by
  refine ⟨I2, rfl, q3, ?_⟩
  simp only [tmS, e]
  first
    | rfl
    | (rw [if_neg (by decide), if_neg (by decide)])
    | (rw [if_neg (by decide), if_pos (by decide)])
    | (rw [if_pos (by decide), if_pos (nI_inj (by omega) (by omega) cc)])
    | (rw [if_pos (by decide), if_neg (fun z => cc (by rw [z])), cp, show I2 (101 + 4) p = nI (gv g p) from (hG2.2.2.2 p hp).2.1]))
  · rw [e]
    refine z_tsw hX 66 (dflt := 57) (lo := 2) (hi := 6) (offs := #[35, 53, 57, 35, 53]) (len := 35) (off := 53) (by decide +kernel) (by decide) (by decide) ?_
    refine bk hX lkX12_ok (pc' := 69) [.iload_n 3, .iconst 2, .idiv] (by decide +kernel) (And.intro (by decide) (And.intro trivial ?_))
    exact z_iret hX (by decide +kernel) rfl (rfl) (by decide) (by decide) (by
  refine ⟨I2, rfl, q3, ?_⟩
  simp only [tmS, e]
  first
    | rfl
    | (rw [if_neg (by decide), if_neg (by decide)])
    | (rw [if_neg (by decide), if_pos (by decide)])
    | (rw [if_pos (by decide), if_pos (nI_inj (by omega) (by omega) cc)])
    | (rw [if_pos (by decide), if_neg (fun z => cc (by rw [z])), cp, show I2 (101 + 4) p = nI (gv g p) from (hG2.2.2.2 p hp).2.1]))
  · rw [e]
    refine z_tsw hX 70 (dflt := 57) (lo := 2) (hi := 6) (offs := #[35, 53, 57, 35, 53]) (len := 35) (off := 57) (by decide +kernel) (by decide) (by decide) ?_
    refine bk hX lkX12_ok (pc' := 71) [.iload_n 3] (by decide +kernel) (And.intro trivial ?_)
    exact z_iret hX (by decide +kernel) rfl (rfl) (by decide) (by decide) (by
  refine ⟨I2, rfl, q3, ?_⟩
  simp only [tmS, e]
  first
    | rfl
    | (rw [if_neg (by decide), if_neg (by decide)])
    | (rw [if_neg (by decide), if_pos (by decide)])
    | (rw [if_pos (by decide), if_pos (nI_inj (by omega) (by omega) cc)])
    | (rw [if_pos (by decide), if_neg (fun z => cc (by rw [z])), cp, show I2 (101 + 4) p = nI (gv g p) from (hG2.2.2.2 p hp).2.1]))
  · rw [e]
    refine z_tsw hX 48 (dflt := 57) (lo := 2) (hi := 6) (offs := #[35, 53, 57, 35, 53]) (len := 35) (off := 35) (by decide +kernel) (by decide) (by decide) ?_
    refine bk hX lkX12_ok (pc' := 50) [.iload_n 2, .iload_n 1] (by decide +kernel) (And.intro trivial ?_)
    refine ic_ne hX (7) 57 (by decide +kernel) (by decide) (fun cc => ?_) (fun cc => ?_)
    · refine bk hX lkX12_ok (pc' := 65) [.iload_n 3, .aload_n 0, .getfield 23, .iload_n 1, .iaload, .iadd] (by decide +kernel) (And.intro (by exact vin 6 (by omega)) (And.intro trivial ?_))
      exact z_iret hX (by decide +kernel) rfl (rfl) (by decide) (by decide) (by
  refine ⟨I2, rfl, q3, ?_⟩
  simp only [tmS, e]
  first
    | rfl
    | (rw [if_neg (by decide), if_neg (by decide)])
    | (rw [if_neg (by decide), if_pos (by decide)])
    | (rw [if_pos (by decide), if_pos (nI_inj (by omega) (by omega) cc)])
    | (rw [if_pos (by decide), if_neg (fun z => cc (by rw [z])), cp, show I2 (101 + 4) p = nI (gv g p) from (hG2.2.2.2 p hp).2.1]))
    · refine bk hX lkX12_ok (pc' := 54) [.iload_n 3] (by decide +kernel) (And.intro trivial ?_)
      refine gt_ hX (11) 65 (by decide +kernel) (by decide) ?_
      exact z_iret hX (by decide +kernel) rfl (rfl) (by decide) (by decide) (by
  refine ⟨I2, rfl, q3, ?_⟩
  simp only [tmS, e]
  first
    | rfl
    | (rw [if_neg (by decide), if_neg (by decide)])
    | (rw [if_neg (by decide), if_pos (by decide)])
    | (rw [if_pos (by decide), if_pos (nI_inj (by omega) (by omega) cc)])
    | (rw [if_pos (by decide), if_neg (fun z => cc (by rw [z])), cp, show I2 (101 + 4) p = nI (gv g p) from (hG2.2.2.2 p hp).2.1]))
  · rw [e]
    refine z_tsw hX 66 (dflt := 57) (lo := 2) (hi := 6) (offs := #[35, 53, 57, 35, 53]) (len := 35) (off := 53) (by decide +kernel) (by decide) (by decide) ?_
    refine bk hX lkX12_ok (pc' := 69) [.iload_n 3, .iconst 2, .idiv] (by decide +kernel) (And.intro (by decide) (And.intro trivial ?_))
    exact z_iret hX (by decide +kernel) rfl (rfl) (by decide) (by decide) (by
  refine ⟨I2, rfl, q3, ?_⟩
  simp only [tmS, e]
  first
    | rfl
    | (rw [if_neg (by decide), if_neg (by decide)])
    | (rw [if_neg (by decide), if_pos (by decide)])
    | (rw [if_pos (by decide), if_pos (nI_inj (by omega) (by omega) cc)])
    | (rw [if_pos (by decide), if_neg (fun z => cc (by rw [z])), cp, show I2 (101 + 4) p = nI (gv g p) from (hG2.2.2.2 p hp).2.1]))
theorem c_M_allTemper (E : zE) (K N : Nat → Nat) (Rf : Nat → Nat → Option Nat) (I : Nat → Nat → Int32) (L : Nat → Nat → Int64) {g : Gv} (hg : gwf g) (hG : mG g I) (hd : gd g < 1000000) {w : Wk} {b : Nat} (hB : mHB w b I) : zCt E mX12_allTemper 6 0 0 (sg K N Rf I L) [.ref 100] (fun r σ' => ∃ I', σ' = sg K N Rf I' L ∧ (∀ q, q ≠ 126 → I' q = I q) ∧ r = some (.int (atN g w (gn g)))) := by
  have h6 := hg.1
  refine z_intro (by decide) (Nat.le_of_ble_eq_true rfl) (fun X hX => ?_)
  have hl : ∀ m j (I1 : Nat → Nat → Int32), j + m = gn g → (∀ q, q ≠ 126 → I1 q = I q) → zS X (sg K N Rf I1 L) 0 0 4 [(0, .ref 100), (1, .int (atN g w j)), (2, .int (nI j))] [] := by
    intro m
    induction m with
    | zero =>
      intro j I1 hj q1
      obtain rfl : j = gn g := by omega
      have e0 : I1 100 0 = nI (gn g) := by rw [q1 100 (by decide)]; exact hG.1
      refine bk hX lkX12_ok (pc' := 9) [.iload_n 2, .aload_n 0, .getfield 7] (by decide +kernel) (And.intro trivial ?_)
      rw [e0]
      refine ic_ge hX (23) 32 (by decide +kernel) (by decide) (fun c_9 => ?_) (fun c => absurd (nI_le (by omega) (by omega)) c)
      refine bk hX lkX12_ok (pc' := 33) [.iload_n 1] (by decide +kernel) (And.intro trivial ?_)
      exact z_iret hX (by decide +kernel) rfl (rfl) (by decide) (by decide) (⟨I1, rfl, q1, rfl⟩)
    | succ m ih =>
      intro j I1 hj q1
      have e0 : I1 100 0 = nI (gn g) := by rw [q1 100 (by decide)]; exact hG.1
      have hjn : j < gn g := by omega
      have ec : I1 106 j = nI (gc g j) := by rw [q1 _ (by decide)]; exact (hG.2.2.2 j hjn).2.2.1
      refine bk hX lkX12_ok (pc' := 9) [.iload_n 2, .aload_n 0, .getfield 7] (by decide +kernel) (And.intro trivial ?_)
      rw [e0]
      refine ic_ge hX (23) 32 (by decide +kernel) (by decide) (fun c => absurd c (nI_ge (by omega) (by omega))) (fun c_9 => ?_)
      refine bk hX lkX12_ok (pc' := 21) [.iload_n 1, .aload_n 0, .iload_n 2, .aload_n 0, .getfield 26, .iload_n 2, .iaload] (by decide +kernel) (And.intro (by exact vin 6 (by omega)) (And.intro trivial ?_))
      rw [cl (by omega), show I1 (101 + 5) j = _ from ec]
      refine z_callV hX kw_X12_313 (c_M_temper E K N Rf I1 L hg (mG_pile hG q1) hd (mHB_pile hB q1) hjn (hg.2.1 j hjn).2.2.1) rfl rfl rfl rfl rfl (by decide +kernel) (by decide) (by decide) (by decide) (by decide) (Nat.le_of_ble_eq_true rfl) ?_
      rintro _ _ ⟨I2, rfl, q3, rfl⟩
      refine bk hX lkX12_ok (pc' := 29) [.iadd, .istore_n 1, .iinc 2 1] (by decide +kernel) (And.intro trivial ?_)
      refine gt_ hX (-25) 4 (by decide +kernel) (by decide) ?_
      refine z_lvk (lv' := [(0, _), (1, _), (2, _)]) [2, 1, 0] rfl ?_
      rw [nI_add]
      exact ih (j + 1) I2 (by omega) (fun q hq => (q3 q hq).trans (q1 q hq))
  refine bk hX lkX12_ok (pc' := 4) [.iconst 0, .istore_n 1, .iconst 0, .istore_n 2] (by decide +kernel) (And.intro trivial ?_)
  refine z_lvk (lv' := [(0, _), (1, _), (2, _)]) [2, 1, 0] rfl ?_
  exact hl (gn g) 0 I (by omega) (fun _ _ => rfl)
/-- holes of the first j cards, together -/
def ahN (g : Gv) : Nat → Nat
  | 0 => 0
  | j + 1 => ahN g j + pcN (gh g j) 10
theorem ahN_le (g : Gv) : ∀ j, ahN g j ≤ 10 * j
  | 0 => Nat.le_refl 0
  | j + 1 => by
    have := ahN_le g j
    have := pcN_le (gh g j) 10
    show ahN g j + pcN (gh g j) 10 ≤ _
    omega
theorem c_M_allHoles (E : zE) (K N : Nat → Nat) (Rf : Nat → Nat → Option Nat) (I : Nat → Nat → Int32) (L : Nat → Nat → Int64) {g : Gv} (hg : gwf g) (hG : mG g I) : zCt E mX12_allHoles 2 0 0 (sg K N Rf I L) [.ref 100] (fun r σ' => σ' = (sg K N Rf I L) ∧ r = some (.int (nI (ahN g (gn g))))) := by
  have h6 := hg.1
  refine z_intro (by decide) (Nat.le_of_ble_eq_true rfl) (fun X hX => ?_)
  have hl : ∀ m j, j + m = gn g → zS X (sg K N Rf I L) 0 0 4 [(0, .ref 100), (1, .int (nI (ahN g j))), (2, .int (nI j))] [] := by
    intro m
    induction m with
    | zero =>
      intro j hj
      obtain rfl : j = gn g := by omega
      refine bk hX lkX12_ok (pc' := 9) [.iload_n 2, .aload_n 0, .getfield 7] (by decide +kernel) (And.intro trivial ?_)
      rw [hG.1]
      refine ic_ge hX (22) 31 (by decide +kernel) (by decide) (fun c_9 => ?_) (fun c => absurd (nI_le (by omega) (by omega)) c)
      refine bk hX lkX12_ok (pc' := 32) [.iload_n 1] (by decide +kernel) (And.intro trivial ?_)
      exact z_iret hX (by decide +kernel) rfl (rfl) (by decide) (by decide) (⟨rfl, rfl⟩)
    | succ m ih =>
      intro j hj
      have hjn : j < gn g := by omega
      refine bk hX lkX12_ok (pc' := 9) [.iload_n 2, .aload_n 0, .getfield 7] (by decide +kernel) (And.intro trivial ?_)
      rw [hG.1]
      refine ic_ge hX (22) 31 (by decide +kernel) (by decide) (fun c => absurd c (nI_ge (by omega) (by omega))) (fun c_9 => ?_)
      refine bk hX lkX12_ok (pc' := 20) [.iload_n 1, .aload_n 0, .aload_n 0, .getfield 29, .iload_n 2, .iaload] (by decide +kernel) (And.intro (by exact vin 6 (by omega)) (And.intro trivial ?_))
      rw [cl (by omega), show I (101 + 6) j = _ from (hG.2.2.2 j hjn).2.2.2.1]
      refine z_callV hX kw_X12_299 (c_M_bits E _ rfl (hg.2.1 j hjn).2.2.2.1) rfl rfl rfl rfl rfl (by decide +kernel) (by decide) (by decide) (by decide) (by decide) (Nat.le_of_ble_eq_true rfl) ?_
      rintro _ _ ⟨rfl, rfl⟩
      refine bk hX lkX12_ok (pc' := 28) [.iadd, .istore_n 1, .iinc 2 1] (by decide +kernel) (And.intro trivial ?_)
      refine gt_ hX (-24) 4 (by decide +kernel) (by decide) ?_
      refine z_lvk (lv' := [(0, _), (1, _), (2, _)]) [2, 1, 0] rfl ?_
      rw [nI_add, nI_add]
      exact ih (j + 1) (by omega)
  refine bk hX lkX12_ok (pc' := 4) [.iconst 0, .istore_n 1, .iconst 0, .istore_n 2] (by decide +kernel) (And.intro trivial ?_)
  refine z_lvk (lv' := [(0, _), (1, _), (2, _)]) [2, 1, 0] rfl ?_
  exact hl (gn g) 0 (by omega)
end
section
/-! ===== cards as a permutation of few numbers ===== -/
theorem php : ∀ (n : Nat) (f : Nat → Nat), (∀ i, i ≤ n → f i < n) → ∃ i j, i < j ∧ j ≤ n ∧ f i = f j
  | 0, f, h => absurd (h 0 (Nat.le_refl 0)) (Nat.not_lt_zero _)
  | n + 1, f, h => by
    by_cases hx : ∃ i, i ≤ n ∧ f i = f (n + 1)
    · obtain ⟨i, hi, he⟩ := hx
      exact ⟨i, n + 1, by omega, Nat.le_refl _, he⟩
    · have hx' : ∀ i, i ≤ n → f i ≠ f (n + 1) := fun i hi he => hx ⟨i, hi, he⟩
      obtain ⟨i, j, hij, hj, he⟩ := php n (fun i => if f i = n then f (n + 1) else f i) (fun i hi => by
        have h1 := h i (by omega)
        have h2 := h (n + 1) (Nat.le_refl _)
        have h3 := hx' i hi
        show (if f i = n then f (n + 1) else f i) < n
        split <;> omega)
      have h3 := hx' i (by omega)
      have h4 := hx' j hj
      refine ⟨i, j, hij, by omega, ?_⟩
      split at he <;> split at he <;> omega
def itN (c : Nat → Nat) : Nat → Nat → Nat
  | 0, x => x
  | k + 1, x => itN c k (c x)
theorem itN_out (c : Nat → Nat) : ∀ k x, itN c (k + 1) x = c (itN c k x)
  | 0, _ => rfl
  | k + 1, x => by
    show itN c (k + 1) (c x) = _
    rw [itN_out c k (c x)]
    rfl
theorem itN_lt {c : Nat → Nat} {n : Nat} (hc : ∀ p, p < n → c p < n) : ∀ k x, x < n → itN c k x < n
  | 0, _, h => h
  | k + 1, x, h => itN_lt hc k (c x) (hc x h)
theorem itN_ret {c : Nat → Nat} {n : Nat} (hc : ∀ p, p < n → c p < n) (hi : ∀ p q, p < n → q < n → c p = c q → p = q) {p : Nat} (hp : p < n) : ∃ k, k < n ∧ itN c k (c p) = p := by
  obtain ⟨i, j, hij, hj, he⟩ := php n (fun i => itN c i p) (fun i _ => itN_lt hc i p hp)
  have key : ∀ i j, i < j → itN c i p = itN c j p → itN c (j - i) p = p := by
    intro i
    induction i with
    | zero => intro j _ h; simpa [itN] using h.symm
    | succ i ih =>
      intro j hij h
      obtain ⟨m, rfl⟩ : ∃ m, j = m + 1 := ⟨j - 1, by omega⟩
      rw [itN_out, itN_out] at h
      have := ih m (by omega) (hi _ _ (itN_lt hc i p hp) (itN_lt hc m p hp) h)
      rwa [show m + 1 - (i + 1) = m - i by omega]
  have h := key i j hij he
  refine ⟨j - i - 1, by omega, ?_⟩
  have e : j - i = (j - i - 1) + 1 := by omega
  rw [e] at h
  exact h
/-- steps till p is there again -/
def rgL (c : Nat → Nat) (p : Nat) : Nat → Nat → Nat → Nat
  | 0, _, n => n
  | m + 1, o, n => if o = p then n else rgL c p m (c o) (n + 1)
def rg (c : Nat → Nat) (p : Nat) : Nat := rgL c p 6 (c p) 1
theorem rgL_of {c : Nat → Nat} {p : Nat} : ∀ k m o n, itN c k o = p → k ≤ m → rgL c p m o n = rgL c p k o n
  | 0, m, o, n, h, _ => by
    cases m with
    | zero => rfl
    | succ m => show (if o = p then n else _) = n; rw [if_pos (show o = p from h)]
  | k + 1, m, o, n, h, hm => by
    obtain ⟨m', rfl⟩ : ∃ m', m = m' + 1 := ⟨m - 1, by omega⟩
    show (if o = p then n else rgL c p m' (c o) (n + 1)) = (if o = p then n else rgL c p k (c o) (n + 1))
    split
    · rfl
    · exact rgL_of k m' (c o) (n + 1) h (by omega)
theorem rgL_le {c : Nat → Nat} {p : Nat} : ∀ m o n, rgL c p m o n ≤ n + m
  | 0, _, n => Nat.le_refl n
  | m + 1, o, n => by
    show (if o = p then n else rgL c p m (c o) (n + 1)) ≤ _
    split
    · omega
    · have := rgL_le (c := c) (p := p) m (c o) (n + 1)
      omega
theorem rgL_ge {c : Nat → Nat} {p : Nat} : ∀ m o n, n ≤ rgL c p m o n
  | 0, _, n => Nat.le_refl n
  | m + 1, o, n => by
    show n ≤ (if o = p then n else rgL c p m (c o) (n + 1))
    split
    · omega
    · have := rgL_ge (c := c) (p := p) m (c o) (n + 1)
      omega
/-- who has a card: the first -/
def whL (c : Nat → Nat) (x : Nat) : Nat → Nat → Nat
  | 0, p => p
  | m + 1, p => if c p = x then p else whL c x m (p + 1)
def wh (c : Nat → Nat) (x : Nat) : Nat := whL c x 6 0
theorem whL_sp {c : Nat → Nat} {x q : Nat} (hq : c q = x) : ∀ m p, p ≤ q → q < p + m → c (whL c x m p) = x ∧ whL c x m p ≤ q
  | 0, p, h1, h2 => by omega
  | m + 1, p, h1, h2 => by
    show c (if c p = x then p else _) = x ∧ (if c p = x then p else _) ≤ q
    split
    · exact ⟨by assumption, h1⟩
    · have hne : p ≠ q := fun z => by subst z; contradiction
      exact whL_sp hq m (p + 1) (by omega) (by omega)
theorem wh_sp {g : Gv} (hg : gwf g) {x : Nat} (hx : x < gn g) : wh (gc g) x < gn g ∧ gc g (wh (gc g) x) = x := by
  obtain ⟨k, hk, he⟩ := itN_ret (fun p hp => (hg.2.1 p hp).2.2.1) hg.2.2 hx
  have h1 : itN (gc g) (k + 1) x = x := he
  rw [itN_out] at h1
  have hlt := itN_lt (fun p hp => (hg.2.1 p hp).2.2.1) k x hx
  have h6 := hg.1
  obtain ⟨h2, h3⟩ := whL_sp (c := gc g) h1 6 0 (Nat.zero_le _) (by omega)
  exact ⟨by unfold wh; omega, h2⟩
/-- the first swap: 10 times the least who has not its own, and who has that -/
def fsL (c : Nat → Nat) : Nat → Nat → Int32
  | 0, _ => -nI 5
  | m + 1, p => if c p = p then fsL c m (p + 1) else nI (10 * p + wh c p)
/-- marks on a ring -/
def mkL (c : Nat → Nat) : Nat → Nat → Nat → Nat
  | 0, s, _ => s
  | m + 1, s, o => if s.testBit o = true then s else mkL c m (s ||| 2 ^ o) (c o)
def swL (c : Nat → Nat) : Nat → Nat → Nat → Nat → Nat
  | 0, _, _, n => n
  | m + 1, p, s, n => if s.testBit p = true then swL c m (p + 1) s n else swL c m (p + 1) (mkL c 6 s p) (n + (rg c p - 1))
/-- bits of the first n that are not set -/
def ucN (s : Nat) : Nat → Nat
  | 0 => 0
  | k + 1 => ucN s k + (if s.testBit k = true then 0 else 1)
theorem ucN_le (s : Nat) : ∀ k, ucN s k ≤ k
  | 0 => Nat.le_refl 0
  | k + 1 => by
    have := ucN_le s k
    show ucN s k + _ ≤ _
    split <;> omega
theorem ucN_or {s o : Nat} (hs : ¬ s.testBit o = true) : ∀ k, ucN (s ||| 2 ^ o) k + (if o < k then 1 else 0) = ucN s k
  | 0 => by simp [ucN]
  | k + 1 => by
    have ih := ucN_or hs k
    show ucN (s ||| 2 ^ o) k + (if (s ||| 2 ^ o).testBit k = true then 0 else 1) + _ = ucN s k + (if s.testBit k = true then 0 else 1)
    rw [Nat.testBit_or, Nat.testBit_two_pow]
    by_cases hok : o = k
    · subst hok
      simp [hs] at ih ⊢
      omega
    · have e : decide (o = k) = false := decide_eq_false hok
      simp only [e, Bool.or_false]
      rcases Nat.lt_or_ge o k with h | h
      · rw [if_pos h] at ih
        rw [if_pos (show o < k + 1 by omega)]
        omega
      · rw [if_neg (by omega)] at ih
        rw [if_neg (show ¬ o < k + 1 by omega)]
        omega
theorem ucN_0 {s : Nat} : ∀ {k : Nat}, ucN s k = 0 → ∀ j, j < k → s.testBit j = true
  | 0, _, j, hj => absurd hj (Nat.not_lt_zero _)
  | k + 1, h, j, hj => by
    have h' : ucN s k + (if s.testBit k = true then 0 else 1) = 0 := h
    by_cases hb : s.testBit k = true
    · rw [if_pos hb] at h'
      rcases Nat.lt_or_ge j k with z | z
      · exact ucN_0 h' j z
      · have : j = k := by omega
        subst this; exact hb
    · rw [if_neg hb] at h'; omega
theorem mkL_of (c : Nat → Nat) {n : Nat} (hc : ∀ p, p < n → c p < n) : ∀ k m s o, o < n → ucN s n ≤ k → k ≤ m → mkL c m s o = mkL c k s o
  | 0, m, s, o, ho, hu, _ => by
    cases m with
    | zero => rfl
    | succ m =>
      show (if s.testBit o = true then s else _) = s
      rw [if_pos (ucN_0 (by omega) o ho)]
  | k + 1, m, s, o, ho, hu, hm => by
    obtain ⟨m', rfl⟩ : ∃ m', m = m' + 1 := ⟨m - 1, by omega⟩
    show (if s.testBit o = true then s else mkL c m' (s ||| 2 ^ o) (c o)) = (if s.testBit o = true then s else mkL c k (s ||| 2 ^ o) (c o))
    split
    · rfl
    · rename_i hs
      have := ucN_or hs n
      rw [if_pos ho] at this
      exact mkL_of c hc k m' _ (c o) (hc o ho) (by omega) (by omega)
theorem mkL_lt (c : Nat → Nat) (hc : ∀ p, p < 6 → c p < 6) : ∀ m s o, s < 64 → o < 6 → mkL c m s o < 64
  | 0, s, o, hs, _ => hs
  | m + 1, s, o, hs, ho => by
    show (if s.testBit o = true then s else mkL c m (s ||| 2 ^ o) (c o)) < 64
    split
    · exact hs
    · exact mkL_lt c hc m _ (c o) (Nat.or_lt_two_pow (n := 6) hs (Nat.pow_lt_pow_right (by decide) ho)) (hc o ho)
end
section
theorem c_M_ring (E : zE) (K N : Nat → Nat) (Rf : Nat → Nat → Option Nat) (I : Nat → Nat → Int32) (L : Nat → Nat → Int64) {g : Gv} (hg : gwf g) (hG : mG g I) {p : Nat} (hp : p < gn g) : zCt E mX12_ring 0 0 0 (sg K N Rf I L) [.ref 100, .int (nI p)] (fun r σ' => σ' = (sg K N Rf I L) ∧ r = some (.int (nI (rg (gc g) p)))) := by
  have h6 := hg.1
  have hcl : ∀ p, p < gn g → gc g p < gn g := fun p hp => (hg.2.1 p hp).2.2.1
  have hcp := hcl p hp
  obtain ⟨k0, hk0, hr0⟩ := itN_ret hcl hg.2.2 hp
  refine z_intro (by decide) (Nat.le_of_ble_eq_true rfl) (fun X hX => ?_)
  have hl : ∀ k x n, x < gn g → n ≤ 100 → k + n ≤ 100 → itN (gc g) k x = p → rgL (gc g) p k x n = rg (gc g) p → zS X (sg K N Rf I L) 0 0 9 [(0, .ref 100), (1, .int (nI p)), (2, .int (nI n)), (3, .int (nI x))] [] := by
    intro k
    induction k with
    | zero =>
      intro x n hx hn hkn hit hrg
      have hxp : x = p := hit
      subst hxp
      refine bk hX lkX12_ok (pc' := 11) [.iload_n 3, .iload_n 1] (by decide +kernel) (And.intro trivial ?_)
      refine ic_eq hX (16) 27 (by decide +kernel) (by decide) (fun c_11 => ?_) (fun c => absurd (rfl) c)
      refine bk hX lkX12_ok (pc' := 28) [.iload_n 2] (by decide +kernel) (And.intro trivial ?_)
      exact z_iret hX (by decide +kernel) rfl (rfl) (by decide) (by decide) (by rw [← hrg]; exact ⟨rfl, rfl⟩)
    | succ k ih =>
      intro x n hx hn hkn hit hrg
      have hrg2 : (if x = p then n else rgL (gc g) p k (gc g x) (n + 1)) = rg (gc g) p := hrg
      refine bk hX lkX12_ok (pc' := 11) [.iload_n 3, .iload_n 1] (by decide +kernel) (And.intro trivial ?_)
      refine ic_eq hX (16) 27 (by decide +kernel) (by decide) (fun cx => ?_) (fun cx => ?_)
      · refine bk hX lkX12_ok (pc' := 28) [.iload_n 2] (by decide +kernel) (And.intro trivial ?_)
        exact z_iret hX (by decide +kernel) rfl (rfl) (by decide) (by decide) (by rw [← hrg2, if_pos (nI_inj (by omega) (by omega) cx)]; exact ⟨rfl, rfl⟩)
      · refine bk hX lkX12_ok (pc' := 24) [.aload_n 0, .getfield 26, .iload_n 3, .iaload, .istore_n 3, .iinc 2 1] (by decide +kernel) (And.intro (by exact vin 6 (by omega)) (And.intro trivial ?_))
        refine gt_ hX (-15) 9 (by decide +kernel) (by decide) ?_
        refine z_lvk (lv' := [(0, _), (1, _), (2, _), (3, _)]) [2, 3, 0, 1] rfl ?_
        rw [if_neg (fun z => cx (by rw [z]))] at hrg2
        rw [cl (by omega), show I (101 + 5) x = _ from (hG.2.2.2 x hx).2.2.1, nI_add]
        exact ih (gc g x) (n + 1) (hcl x hx) (by omega) (by omega) hit hrg2
  refine bk hX lkX12_ok (pc' := 9) [.iconst 1, .istore_n 2, .aload_n 0, .getfield 26, .iload_n 1, .iaload, .istore_n 3] (by decide +kernel) (And.intro (by exact vin 6 (by omega)) (And.intro trivial ?_))
  refine z_lvk (lv' := [(0, _), (1, _), (2, _), (3, _)]) [2, 3, 1, 0] rfl ?_
  rw [cl (by omega), show I (101 + 5) p = _ from (hG.2.2.2 p hp).2.2.1]
  exact hl k0 (gc g p) 1 hcp (by omega) (by omega) hr0 (rgL_of k0 6 _ 1 hr0 (by omega)).symm
theorem c_M_whoHas (E : zE) (K N : Nat → Nat) (Rf : Nat → Nat → Option Nat) (I : Nat → Nat → Int32) (L : Nat → Nat → Int64) {g : Gv} (hg : gwf g) (hG : mG g I) {c : Nat} (hc : c < gn g) : zCt E mX12_whoHas 0 0 0 (sg K N Rf I L) [.ref 100, .int (nI c)] (fun r σ' => σ' = (sg K N Rf I L) ∧ r = some (.int (nI (wh (gc g) c)))) := by
  have h6 := hg.1
  obtain ⟨hw1, hw2⟩ := wh_sp hg hc
  refine z_intro (by decide) (Nat.le_of_ble_eq_true rfl) (fun X hX => ?_)
  have hl : ∀ m p, p + m = 6 → p ≤ wh (gc g) c → whL (gc g) c m p = wh (gc g) c → zS X (sg K N Rf I L) 0 0 2 [(0, .ref 100), (1, .int (nI c)), (2, .int (nI p))] [] := by
    intro m
    induction m with
    | zero =>
      intro p hp hle hw
      omega
    | succ m ih =>
      intro p hp hle hw
      have hpn : p < gn g := by omega
      have hcpn := (hg.2.1 p hpn).2.2.1
      have hw' : (if gc g p = c then p else whL (gc g) c m (p + 1)) = wh (gc g) c := hw
      refine bk hX lkX12_ok (pc' := 9) [.aload_n 0, .getfield 26, .iload_n 2, .iaload, .iload_n 1] (by decide +kernel) (And.intro (by exact vin 6 (by omega)) (And.intro trivial ?_))
      rw [cl (by omega), show I (101 + 5) p = _ from (hG.2.2.2 p hpn).2.2.1]
      refine ic_eq hX (9) 18 (by decide +kernel) (by decide) (fun cx => ?_) (fun cx => ?_)
      · refine bk hX lkX12_ok (pc' := 19) [.iload_n 2] (by decide +kernel) (And.intro trivial ?_)
        exact z_iret hX (by decide +kernel) rfl (rfl) (by decide) (by decide) (by rw [← hw', if_pos (nI_inj (by omega) (by omega) cx)]; exact ⟨rfl, rfl⟩)
      · refine bk hX lkX12_ok (pc' := 15) [.iinc 2 1] (by decide +kernel) (And.intro trivial ?_)
        refine gt_ hX (-13) 2 (by decide +kernel) (by decide) ?_
        refine z_lvk (lv' := [(0, _), (1, _), (2, _)]) [1, 2, 0] rfl ?_
        have hne : ¬ gc g p = c := fun z => cx (by rw [z])
        rw [if_neg hne] at hw'
        rw [nI_add]
        refine ih (p + 1) (by omega) ?_ hw'
        rcases Nat.lt_or_ge p (wh (gc g) c) with z | z
        · exact z
        · have : p = wh (gc g) c := by omega
          rw [← this] at hw2
          exact absurd hw2 hne
  refine bk hX lkX12_ok (pc' := 2) [.iconst 0, .istore_n 2] (by decide +kernel) (And.intro trivial ?_)
  refine z_lvk (lv' := [(0, _), (1, _), (2, _)]) [1, 2, 0] rfl ?_
  exact hl 6 0 rfl (Nat.zero_le _) rfl
theorem c_M_firstSwap (E : zE) (K N : Nat → Nat) (Rf : Nat → Nat → Option Nat) (I : Nat → Nat → Int32) (L : Nat → Nat → Int64) {g : Gv} (hg : gwf g) (hG : mG g I) : zCt E mX12_firstSwap 1 0 0 (sg K N Rf I L) [.ref 100] (fun r σ' => σ' = (sg K N Rf I L) ∧ r = some (.int (fsL (gc g) (gn g) 0))) := by
  have h6 := hg.1
  refine z_intro (by decide) (Nat.le_of_ble_eq_true rfl) (fun X hX => ?_)
  have hl : ∀ m p, p + m = gn g → fsL (gc g) m p = fsL (gc g) (gn g) 0 → zS X (sg K N Rf I L) 0 0 2 [(0, .ref 100), (1, .int (nI p))] [] := by
    intro m
    induction m with
    | zero =>
      intro p hp hf
      obtain rfl : p = gn g := by omega
      refine bk hX lkX12_ok (pc' := 7) [.iload_n 1, .aload_n 0, .getfield 7] (by decide +kernel) (And.intro trivial ?_)
      rw [hG.1]
      refine ic_ge hX (30) 37 (by decide +kernel) (by decide) (fun c_7 => ?_) (fun c => absurd (nI_le (by omega) (by omega)) c)
      refine bk hX lkX12_ok (pc' := 39) [.bipush (Int.negSucc 4)] (by decide +kernel) (And.intro trivial ?_)
      exact z_iret hX (by decide +kernel) rfl (rfl) (by decide) (by decide) (by rw [← hf]; exact ⟨rfl, rfl⟩)
    | succ m ih =>
      intro p hp hf
      have hpn : p < gn g := by omega
      have hcpn := (hg.2.1 p hpn).2.2.1
      have hf' : (if gc g p = p then fsL (gc g) m (p + 1) else nI (10 * p + wh (gc g) p)) = fsL (gc g) (gn g) 0 := hf
      refine bk hX lkX12_ok (pc' := 7) [.iload_n 1, .aload_n 0, .getfield 7] (by decide +kernel) (And.intro trivial ?_)
      rw [hG.1]
      refine ic_ge hX (30) 37 (by decide +kernel) (by decide) (fun c => absurd c (nI_ge (by omega) (by omega))) (fun c_7 => ?_)
      refine bk hX lkX12_ok (pc' := 17) [.aload_n 0, .getfield 26, .iload_n 1, .iaload, .iload_n 1] (by decide +kernel) (And.intro (by exact vin 6 (by omega)) (And.intro trivial ?_))
      rw [cl (by omega), show I (101 + 5) p = _ from (hG.2.2.2 p hpn).2.2.1]
      refine ic_eq hX (14) 31 (by decide +kernel) (by decide) (fun cx => ?_) (fun cx => ?_)
      · refine bk hX lkX12_ok (pc' := 34) [.iinc 1 1] (by decide +kernel) (And.intro trivial ?_)
        refine gt_ hX (-32) 2 (by decide +kernel) (by decide) ?_
        refine z_lvk (lv' := [(0, _), (1, _)]) [1, 0] rfl ?_
        rw [if_pos (nI_inj (by omega) (by omega) cx)] at hf'
        rw [nI_add]
        exact ih (p + 1) (by omega) hf'
      · refine bk hX lkX12_ok (pc' := 26) [.bipush 10, .iload_n 1, .imul, .aload_n 0, .iload_n 1] (by decide +kernel) (And.intro trivial ?_)
        refine z_callV hX kw_X12_322 (c_M_whoHas E K N Rf I L hg hG hpn) rfl rfl rfl rfl rfl (by decide +kernel) (by decide) (by decide) (by decide) (by decide) (Nat.le_of_ble_eq_true rfl) ?_
        rintro _ _ ⟨rfl, rfl⟩
        refine bk hX lkX12_ok (pc' := 30) [.iadd] (by decide +kernel) (And.intro trivial ?_)
        exact z_iret hX (by decide +kernel) rfl (rfl) (by decide) (by decide) (by rw [← hf', if_neg (fun z => cx (by rw [z])), pk_mul, nI_add]; exact ⟨rfl, rfl⟩)
  refine bk hX lkX12_ok (pc' := 2) [.iconst 0, .istore_n 1] (by decide +kernel) (And.intro trivial ?_)
  refine z_lvk (lv' := [(0, _), (1, _)]) [1, 0] rfl ?_
  exact hl (gn g) 0 (by omega) rfl
theorem c_M_swapsOf (E : zE) (K N : Nat → Nat) (Rf : Nat → Nat → Option Nat) (I : Nat → Nat → Int32) (L : Nat → Nat → Int64) {g : Gv} (hg : gwf g) (hG : mG g I) : zCt E mX12_swapsOf 1 0 0 (sg K N Rf I L) [.ref 100] (fun r σ' => σ' = (sg K N Rf I L) ∧ r = some (.int (nI (swL (gc g) (gn g) 0 0 0)))) := by
  have h6 := hg.1
  have hcl : ∀ p, p < gn g → gc g p < gn g := fun p hp => (hg.2.1 p hp).2.2.1
  refine z_intro (by decide) (Nat.le_of_ble_eq_true rfl) (fun X hX => ?_)
  have hl2 : ∀ (p n : Nat) (k : Nat) (s x : Nat), s < 64 → x < gn g → ucN s (gn g) ≤ k → (∀ s', s' = mkL (gc g) k s x → s' < 64 → zS X (sg K N Rf I L) 0 0 68 [(0, .ref 100), (1, .int (nI n)), (2, .int (nI s')), (3, .int (nI p))] []) → zS X (sg K N Rf I L) 0 0 39 [(0, .ref 100), (1, .int (nI n)), (2, .int (nI s)), (3, .int (nI p)), (4, .int (nI x))] [] := by
    intro p n k
    induction k with
    | zero =>
      intro s x hs hx hu hk
      refine bk hX lkX12_ok (pc' := 43) [.aload_n 0, .iload_n 2, .iload 4] (by decide +kernel) (And.intro trivial ?_)
      refine z_callV hX kw_X12_224 (c_M_has E _ _ _ _) rfl rfl rfl rfl rfl (by decide +kernel) (by decide) (by decide) (by decide) (by decide) (Nat.le_of_ble_eq_true rfl) ?_
      rintro _ _ ⟨rfl, hh⟩
      rw [i_bit (by omega) (by omega)] at hh
      rcases hh with ⟨hb, rfl⟩ | ⟨hb, rfl⟩
      · refine if_ne hX (22) 68 (by decide +kernel) (by decide) (fun c_46 => ?_) (fun c => absurd c (by decide))
        refine z_lvk (lv' := [(0, _), (1, _), (2, _), (3, _)]) [0, 1, 2, 3] rfl ?_
        exact hk s rfl hs
      · refine if_ne hX (22) 68 (by decide +kernel) (by decide) (fun c => absurd (by decide) c) (fun c_46 => ?_)
        refine bk hX lkX12_ok (pc' := 65) [.iload_n 2, .iconst 1, .iload 4, .ishl, .ior, .istore_n 2, .aload_n 0, .getfield 26, .iload 4, .iaload, .istore 4] (by decide +kernel) (And.intro (by exact vin 6 (by omega)) (And.intro trivial ?_))
        refine gt_ hX (-26) 39 (by decide +kernel) (by decide) ?_
        refine z_lvk (lv' := [(0, _), (1, _), (2, _), (3, _), (4, _)]) [2, 3, 1, 4, 0] rfl ?_
        exact absurd (ucN_0 (by omega) x hx) hb
    | succ k ih =>
      intro s x hs hx hu hk
      refine bk hX lkX12_ok (pc' := 43) [.aload_n 0, .iload_n 2, .iload 4] (by decide +kernel) (And.intro trivial ?_)
      refine z_callV hX kw_X12_224 (c_M_has E _ _ _ _) rfl rfl rfl rfl rfl (by decide +kernel) (by decide) (by decide) (by decide) (by decide) (Nat.le_of_ble_eq_true rfl) ?_
      rintro _ _ ⟨rfl, hh⟩
      rw [i_bit (by omega) (by omega)] at hh
      rcases hh with ⟨hb, rfl⟩ | ⟨hb, rfl⟩
      · refine if_ne hX (22) 68 (by decide +kernel) (by decide) (fun c_46 => ?_) (fun c => absurd c (by decide))
        refine z_lvk (lv' := [(0, _), (1, _), (2, _), (3, _)]) [0, 1, 2, 3] rfl ?_
        exact hk s (by show s = (if s.testBit x = true then s else _); rw [if_pos hb]) hs
      · refine if_ne hX (22) 68 (by decide +kernel) (by decide) (fun c => absurd (by decide) c) (fun c_46 => ?_)
        refine bk hX lkX12_ok (pc' := 65) [.iload_n 2, .iconst 1, .iload 4, .ishl, .ior, .istore_n 2, .aload_n 0, .getfield 26, .iload 4, .iaload, .istore 4] (by decide +kernel) (And.intro (by exact vin 6 (by omega)) (And.intro trivial ?_))
        refine gt_ hX (-26) 39 (by decide +kernel) (by decide) ?_
        refine z_lvk (lv' := [(0, _), (1, _), (2, _), (3, _), (4, _)]) [2, 3, 1, 4, 0] rfl ?_
        rw [cl (by omega), show I (101 + 5) x = _ from (hG.2.2.2 x hx).2.2.1, i_1shl (by omega), i_or]
        have hu2 := ucN_or hb (gn g)
        rw [if_pos hx] at hu2
        refine ih (s ||| 2 ^ x) (gc g x) (Nat.or_lt_two_pow (n := 6) hs (Nat.pow_lt_pow_right (by decide) (by omega))) (hcl x hx) (by omega) (fun s' hs' hl' => hk s' ?_ hl')
        rw [hs']
        show _ = (if s.testBit x = true then s else mkL (gc g) k (s ||| 2 ^ x) (gc g x))
        rw [if_neg hb]
  have hl : ∀ m p s n, p + m = gn g → s < 64 → n ≤ 10 * p → swL (gc g) m p s n = swL (gc g) (gn g) 0 0 0 → zS X (sg K N Rf I L) 0 0 6 [(0, .ref 100), (1, .int (nI n)), (2, .int (nI s)), (3, .int (nI p))] [] := by
    intro m
    induction m with
    | zero =>
      intro p s n hp hs hn hf
      obtain rfl : p = gn g := by omega
      refine bk hX lkX12_ok (pc' := 11) [.iload_n 3, .aload_n 0, .getfield 7] (by decide +kernel) (And.intro trivial ?_)
      rw [hG.1]
      refine ic_ge hX (63) 74 (by decide +kernel) (by decide) (fun c_11 => ?_) (fun c => absurd (nI_le (by omega) (by omega)) c)
      refine bk hX lkX12_ok (pc' := 75) [.iload_n 1] (by decide +kernel) (And.intro trivial ?_)
      exact z_iret hX (by decide +kernel) rfl (rfl) (by decide) (by decide) (by rw [← hf]; exact ⟨rfl, rfl⟩)
    | succ m ih =>
      intro p s n hp hs hn hf
      have hpn : p < gn g := by omega
      have hf' : (if s.testBit p = true then swL (gc g) m (p + 1) s n else swL (gc g) m (p + 1) (mkL (gc g) 6 s p) (n + (rg (gc g) p - 1))) = swL (gc g) (gn g) 0 0 0 := hf
      have hrl : rg (gc g) p ≤ 7 := rgL_le 6 _ 1
      have hrg1 : 1 ≤ rg (gc g) p := rgL_ge 6 _ 1
      refine bk hX lkX12_ok (pc' := 11) [.iload_n 3, .aload_n 0, .getfield 7] (by decide +kernel) (And.intro trivial ?_)
      rw [hG.1]
      refine ic_ge hX (63) 74 (by decide +kernel) (by decide) (fun c => absurd c (nI_ge (by omega) (by omega))) (fun c_11 => ?_)
      refine bk hX lkX12_ok (pc' := 17) [.aload_n 0, .iload_n 2, .iload_n 3] (by decide +kernel) (And.intro trivial ?_)
      refine z_callV hX kw_X12_224 (c_M_has E _ _ _ _) rfl rfl rfl rfl rfl (by decide +kernel) (by decide) (by decide) (by decide) (by decide) (Nat.le_of_ble_eq_true rfl) ?_
      rintro _ _ ⟨rfl, hh⟩
      rw [i_bit (by omega) (by omega)] at hh
      rcases hh with ⟨hb, rfl⟩ | ⟨hb, rfl⟩
      · refine if_eq hX (6) 26 (by decide +kernel) (by decide) (fun c => absurd c (by decide)) (fun c_20 => ?_)
        refine gt_ hX (45) 68 (by decide +kernel) (by decide) ?_
        refine bk hX lkX12_ok (pc' := 71) [.iinc 3 1] (by decide +kernel) (And.intro trivial ?_)
        refine gt_ hX (-65) 6 (by decide +kernel) (by decide) ?_
        refine z_lvk (lv' := [(0, _), (1, _), (2, _), (3, _)]) [1, 2, 3, 0] rfl ?_
        rw [if_pos hb] at hf'
        rw [nI_add]
        exact ih (p + 1) s n (by omega) hs (by omega) hf'
      · refine if_eq hX (6) 26 (by decide +kernel) (by decide) (fun c_20 => ?_) (fun c => absurd (by decide) c)
        refine bk hX lkX12_ok (pc' := 29) [.iload_n 1, .aload_n 0, .iload_n 3] (by decide +kernel) (And.intro trivial ?_)
        refine z_callV hX kw_X12_319 (c_M_ring E K N Rf I L hg hG hpn) rfl rfl rfl rfl rfl (by decide +kernel) (by decide) (by decide) (by decide) (by decide) (Nat.le_of_ble_eq_true rfl) ?_
        rintro _ _ ⟨rfl, rfl⟩
        refine bk hX lkX12_ok (pc' := 39) [.iconst 1, .isub, .iadd, .istore_n 1, .iload_n 3, .istore 4] (by decide +kernel) (And.intro trivial ?_)
        refine z_lvk (lv' := [(0, _), (1, _), (2, _), (3, _), (4, _)]) [2, 1, 3, 4, 0] rfl ?_
        rw [if_neg hb] at hf'
        rw [i_m1 hrg1, nI_add]
        refine hl2 p (n + (rg (gc g) p - 1)) 6 s p hs hpn (Nat.le_trans (ucN_le s (gn g)) h6) (fun s' hs' hl' => ?_)
        subst hs'
        refine bk hX lkX12_ok (pc' := 71) [.iinc 3 1] (by decide +kernel) (And.intro trivial ?_)
        refine gt_ hX (-65) 6 (by decide +kernel) (by decide) ?_
        refine z_lvk (lv' := [(0, _), (1, _), (2, _), (3, _)]) [1, 2, 3, 0] rfl ?_
        rw [nI_add]
        exact ih (p + 1) _ _ (by omega) hl' (by omega) hf'
  refine bk hX lkX12_ok (pc' := 6) [.iconst 0, .istore_n 1, .iconst 0, .istore_n 2, .iconst 0, .istore_n 3] (by decide +kernel) (And.intro trivial ?_)
  refine z_lvk (lv' := [(0, _), (1, _), (2, _), (3, _)]) [3, 2, 1, 0] rfl ?_
  exact hl (gn g) 0 0 0 (by omega) (by decide) (by omega) rfl
end
section
/-! ===== what is asked is put back: which cells a day, a swap .. may change, and which are for scratch alone ===== -/
def scP : List Nat := [127, 130, 131, 132, 133, 134, 126, 121]
def scF : List Nat := [11, 12, 21, 22, 23, 27, 28]
/-- alike but for scratch -/
def sE (I I' : Nat → Nat → Int32) : Prop := (∀ q, q ∉ scP → q ≠ 100 → I' q = I q) ∧ (∀ k, k ∉ scF → I' 100 k = I 100 k)
theorem sE_rf (I : Nat → Nat → Int32) : sE I I := ⟨fun _ _ _ => rfl, fun _ _ => rfl⟩
theorem sE_tr {I I1 I2 : Nat → Nat → Int32} (h1 : sE I I1) (h2 : sE I1 I2) : sE I I2 := ⟨fun q a b => (h2.1 q a b).trans (h1.1 q a b), fun k a => (h2.2 k a).trans (h1.2 k a)⟩
theorem sE_pile {I I1 : Nat → Nat → Int32} (h : ∀ q, q ≠ 126 → I1 q = I q) : sE I I1 := ⟨fun q a _ => h q (fun z => a (by rw [z]; decide)), fun k _ => by rw [h 100 (by decide)]⟩
theorem mG_sE {g : Gv} {I I1 : Nat → Nat → Int32} (hG : mG g I) (h : sE I I1) : mG g I1 := by
  obtain ⟨a1, a2, a3, a4⟩ := hG
  unfold mG
  rw [h.2 0 (by decide), h.2 1 (by decide), h.2 2 (by decide), h.1 104 (by decide) (by decide), h.1 105 (by decide) (by decide), h.1 106 (by decide) (by decide), h.1 107 (by decide) (by decide), h.1 108 (by decide) (by decide)]
  exact ⟨a1, a2, a3, a4⟩
theorem mHB_sE {w : Wk} {b : Nat} {I I1 : Nat → Nat → Int32} (hB : mHB w b I) (h : sE I I1) : mHB w b I1 := by
  refine mHB_eq hB (h.2 9 (by decide)) ?_ ?_ ?_ ?_ ?_ ?_ <;> exact h.1 _ (by decide) (by decide)
/-- what happens between save and putBack -/
def frA (I I' : Nat → Nat → Int32) : Prop := (∀ q, q ≠ 107 → q ≠ 106 → q ≠ 127 → q ≠ 126 → q ≠ 100 → I' q = I q) ∧ (∀ k, k ≠ 1 → k ≠ 2 → I' 100 k = I 100 k) ∧ (∀ k, 6 ≤ k → I' 107 k = I 107 k ∧ I' 106 k = I 106 k)
theorem frA_rf (I : Nat → Nat → Int32) : frA I I := ⟨fun _ _ _ _ _ _ => rfl, fun _ _ _ => rfl, fun _ _ => ⟨rfl, rfl⟩⟩
theorem frA_tr {I I1 I2 : Nat → Nat → Int32} (h1 : frA I I1) (h2 : frA I1 I2) : frA I I2 := ⟨fun q a b c d e => (h2.1 q a b c d e).trans (h1.1 q a b c d e), fun k a b => (h2.2.1 k a b).trans (h1.2.1 k a b), fun k a => ⟨(h2.2.2 k a).1.trans (h1.2.2 k a).1, (h2.2.2 k a).2.trans (h1.2.2 k a).2⟩⟩
theorem frA_D {n : Nat} {I I1 : Nat → Nat → Int32} (hn : n ≤ 6) (h : frD n I I1) : frA I I1 := ⟨fun q a b c _ e => h.1 q a b c e, fun k _ b => h.2.1 k b, fun k hk => h.2.2 k (by omega)⟩
theorem frA_pile {I I1 : Nat → Nat → Int32} (h : ∀ q, q ≠ 126 → I1 q = I q) : frA I I1 := ⟨fun q _ _ _ d _ => h q d, fun k _ _ => by rw [h 100 (by decide)], fun k _ => ⟨by rw [h _ (by decide)], by rw [h _ (by decide)]⟩⟩
theorem sE_sv (I : Nat → Nat → Int32) : sE I (svI I 6) := by
  refine ⟨fun q a b => ?_, fun k a => ?_⟩
  · funext k
    have h1 : q ≠ 130 := fun z => a (by rw [z]; decide)
    have h2 : q ≠ 131 := fun z => a (by rw [z]; decide)
    simp [svI, h1, h2, b]
  · have h1 : k ≠ 27 := fun z => a (by rw [z]; decide)
    have h2 : k ≠ 28 := fun z => a (by rw [z]; decide)
    simp [svI, h1, h2]
theorem ask_back {I I2 : Nat → Nat → Int32} (h : frA (svI I 6) I2) : sE I (pbI I2 6) := by
  obtain ⟨a1, a2, a3⟩ := h
  refine ⟨fun q hq h0 => ?_, fun k hk => ?_⟩
  · funext k
    have n1 : q ≠ 130 := fun z => hq (by rw [z]; decide)
    have n2 : q ≠ 131 := fun z => hq (by rw [z]; decide)
    have n3 : q ≠ 127 := fun z => hq (by rw [z]; decide)
    have n4 : q ≠ 126 := fun z => hq (by rw [z]; decide)
    by_cases hc : q = 106
    · subst hc
      by_cases hk : k < 6
      · rw [show pbI I2 6 106 k = I2 130 k by simp [pbI, hk], a1 130 (by decide) (by decide) (by decide) (by decide) (by decide)]
        simp [svI, hk]
      · rw [show pbI I2 6 106 k = I2 106 k by simp [pbI, hk], (a3 k (by omega)).2]
        simp [svI]
    · by_cases hh : q = 107
      · subst hh
        by_cases hk : k < 6
        · rw [show pbI I2 6 107 k = I2 131 k by simp [pbI, hk], a1 131 (by decide) (by decide) (by decide) (by decide) (by decide)]
          simp [svI, hk]
        · rw [show pbI I2 6 107 k = I2 107 k by simp [pbI, hk], (a3 k (by omega)).1]
          simp [svI]
      · rw [show pbI I2 6 q k = I2 q k by simp [pbI, hc, hh, h0], a1 q hh hc n3 n4 h0]
        simp [svI, n1, n2, h0]
  · have h27 : k ≠ 27 := fun z => hk (by rw [z]; decide)
    have h28 : k ≠ 28 := fun z => hk (by rw [z]; decide)
    by_cases k1 : k = 1
    · subst k1
      rw [show pbI I2 6 100 1 = I2 100 27 by simp [pbI], a2 27 (by decide) (by decide)]
      simp [svI]
    · by_cases k2 : k = 2
      · subst k2
        rw [show pbI I2 6 100 2 = I2 100 28 by simp [pbI], a2 28 (by decide) (by decide)]
        simp [svI]
      · rw [show pbI I2 6 100 k = I2 100 k by simp [pbI, k1, k2], a2 k k1 k2]
        simp [svI, h27, h28]
/-! asked by ints -/
def jx (x : Int32) : Nat := x.toNatClampNeg
def isIn (x : Int32) (n : Nat) : Bool := decide (0 ≤ x.toInt ∧ x.toInt < (n : Int))
theorem jx_nI {j : Nat} (h : j < 2 ^ 31) : jx (nI j) = j := cl h
theorem isIn_iff {x : Int32} {n : Nat} (hn : n ≤ 2 ^ 31) : isIn x n = true ↔ ∃ j, j < n ∧ x = nI j := by
  unfold isIn
  rw [decide_eq_true_iff]
  constructor
  · rintro ⟨h1, h2⟩
    obtain ⟨j, hj, rfl⟩ := nI_of (x := x) (fun z => by rw [Int32.lt_iff_toInt_lt] at z; have : (0 : Int32).toInt = 0 := rfl; omega)
    rw [nI_toInt hj] at h2
    exact ⟨j, by omega, rfl⟩
  · rintro ⟨j, hj, rfl⟩
    rw [nI_toInt (by omega)]
    omega
theorem isIn_nI {j n : Nat} (hj : j < n) (hn : n ≤ 2 ^ 31) : isIn (nI j) n = true := (isIn_iff hn).mpr ⟨j, hj, rfl⟩
theorem in10 {x : Int32} {n : Nat} (b : Nat) (hb : 1 ≤ b ∧ b ≤ 1000) (hn : n ≤ 6) : (nI b ≤ x ∧ x ≤ nI (b - 1) + nI n) ↔ isIn (x - nI b) n = true := by
  rw [isIn_iff (by omega), nI_add]
  constructor
  · rintro ⟨h1, h2⟩
    obtain ⟨j, hj, rfl⟩ := i_nn (x := x) (by
      rw [Int32.le_iff_toInt_le] at h1 ⊢
      rw [nI_toInt (by omega)] at h1 ⊢
      omega)
    rw [nI_leI (by omega) hj] at h1
    rw [nI_leI hj (by omega)] at h2
    exact ⟨j - b, by omega, by rw [pk_sub h1]⟩
  · rintro ⟨j, hj, he⟩
    have hx : x = nI (j + b) := by
      rw [← nI_add, ← he, Int32.sub_add_cancel]
    rw [hx]
    exact ⟨nI_le (by omega) (by omega), nI_le (by omega) (by omega)⟩
end
section
def passS (g : Gv) (r : Nat) (x : Int32) : Int32 × Gv := if isIn x 61 = true then (if gd g + jx x ≤ 9999 then (nI (gd g + jx x), daysS r (jx x) g) else (-nI 3, g)) else (-nI 2, g)
theorem c_M_pass (E : zE) (K N : Nat → Nat) (Rf : Nat → Nat → Option Nat) (I : Nat → Nat → Int32) (L : Nat → Nat → Int64) {g : Gv} (hg : gwf g) (hG : mG g I) {w : Wk} {b : Nat} (hB : mHB w b I) (hd : gd g ≤ 9999) (x : Int32) : zCt E mX12_pass 5 0 0 (sg K N Rf I L) [.ref 100, .int x] (fun r σ' => ∃ I', σ' = sg K N Rf I' L ∧ r = some (.int (passS g (rdS w) x).1) ∧ mG (passS g (rdS w) x).2 I' ∧ frD (gn g) I I') := by
  refine z_intro (by decide) (Nat.le_of_ble_eq_true rfl) (fun X hX => ?_)
  refine bk hX lkX12_ok (pc' := 2) [.aload_n 0, .iload_n 1] (by decide +kernel) (And.intro trivial ?_)
  refine z_callV hX kw_X12_334 (c_M_isDays E _ rfl _) rfl rfl rfl rfl rfl (by decide +kernel) (by decide) (by decide) (by decide) (by decide) (Nat.le_of_ble_eq_true rfl) ?_
  rintro _ _ ⟨rfl, hh⟩
  rcases hh with ⟨hq, rfl⟩ | ⟨hq, rfl⟩
  · refine if_ne hX (6) 11 (by decide +kernel) (by decide) (fun c_5 => ?_) (fun c => absurd c (by decide))
    obtain ⟨k, hk, rfl⟩ := hq
    have hin : isIn (nI k) 61 = true := isIn_nI (by omega) (by decide)
    have hj : jx (nI k) = k := jx_nI (by omega)
    refine bk hX lkX12_ok (pc' := 20) [.aload_n 0, .getfield 16, .iload_n 1, .iadd, .sipush 9999] (by decide +kernel) (And.intro trivial ?_)
    rw [hG.2.2.1, nI_add]
    refine ic_le hX (6) 26 (by decide +kernel) (by decide) (fun cd => ?_) (fun cd => ?_)
    · refine bk hX lkX12_ok (pc' := 28) [.aload_n 0, .iload_n 1] (by decide +kernel) (And.intro trivial ?_)
      refine z_callV hX kw_X12_337 (c_M_goDays E K N Rf I L hg hG hB (k := k) (by omega) (by omega)) rfl rfl rfl rfl rfl (by decide +kernel) (by decide) (by decide) (by decide) (by decide) (Nat.le_of_ble_eq_true rfl) ?_
      rintro _ _ ⟨I2, rfl, rfl, h3, h4⟩
      refine bk hX lkX12_ok (pc' := 35) [.aload_n 0, .getfield 16] (by decide +kernel) (And.intro trivial ?_)
      exact z_iret hX (by decide +kernel) rfl (rfl) (by decide) (by decide) (by have hn : gd g + k ≤ 9999 := (nI_leI (b := 9999) (by omega) (by decide)).mp cd; exact ⟨I2, rfl, by unfold passS; rw [if_pos hin, hj, if_pos hn, h3.2.2.1, gd_days], by unfold passS; rw [if_pos hin, hj, if_pos hn]; exact h3, h4⟩)
    · refine bk hX lkX12_ok (pc' := 25) [.bipush (Int.negSucc 2)] (by decide +kernel) (And.intro trivial ?_)
      exact z_iret hX (by decide +kernel) rfl (rfl) (by decide) (by decide) (by have hn : ¬ gd g + k ≤ 9999 := fun z => cd (nI_le (b := 9999) z (by decide)); exact ⟨I, rfl, by unfold passS; rw [if_pos hin, hj, if_neg hn], by unfold passS; rw [if_pos hin, hj, if_neg hn]; exact hG, frD_rf _ _⟩)
  · refine if_ne hX (6) 11 (by decide +kernel) (by decide) (fun c => absurd (by decide) c) (fun c_5 => ?_)
    refine bk hX lkX12_ok (pc' := 10) [.bipush (Int.negSucc 1)] (by decide +kernel) (And.intro trivial ?_)
    exact z_iret hX (by decide +kernel) rfl (rfl) (by decide) (by decide) (⟨I, rfl, by unfold passS; rw [if_neg (fun z => hq (by obtain ⟨j, h1, h2⟩ := (isIn_iff (by decide)).mp z; exact ⟨j, by omega, h2⟩))], by unfold passS; rw [if_neg (fun z => hq (by obtain ⟨j, h1, h2⟩ := (isIn_iff (by decide)).mp z; exact ⟨j, by omega, h2⟩))]; exact hG, frD_rf _ _⟩)
end
section
theorem days_in {x : Int32} : (∃ j, j ≤ 60 ∧ x = nI j) ↔ isIn x 61 = true := by
  rw [isIn_iff (by decide)]
  exact ⟨fun ⟨j, h, e⟩ => ⟨j, by omega, e⟩, fun ⟨j, h, e⟩ => ⟨j, by omega, e⟩⟩
def onS (g : Gv) (r : Nat) (x what : Int32) : Int32 := if what = 0 ∨ isIn (what - nI 10) (gn g) = true ∨ isIn (what - nI 20) (gn g) = true then (if isIn x 61 = true then (if what = 0 then nI (ahN (daysS r (jx x) g) (gn g)) else if isIn (what - nI 10) (gn g) = true then nI (gh (daysS r (jx x) g) (jx (what - nI 10))) else nI (gc (daysS r (jx x) g) (jx (what - nI 20)))) else -nI 2) else -nI 1
theorem d10_20 {x : Int32} {n : Nat} (hn : n ≤ 6) (h1 : isIn (x - nI 10) n = true) : ¬ x = 0 ∧ ¬ nI 20 ≤ x ∧ x - nI 10 = nI (jx (x - nI 10)) ∧ jx (x - nI 10) < n := by
  obtain ⟨j, hj, he⟩ := (isIn_iff (by omega)).mp h1
  have hx : x = nI (j + 10) := by rw [← nI_add, ← he, Int32.sub_add_cancel]
  refine ⟨fun z => ?_, ?_, by rw [he, jx_nI (by omega)], by rw [he, jx_nI (by omega)]; exact hj⟩
  · rw [hx] at z
    exact absurd (nI_inj (b := 0) (by omega) (by decide) z) (by omega)
  · rw [hx]; exact nI_ge (a := j + 10) (b := 20) (by omega) (by decide)
theorem d20 {x : Int32} {n : Nat} (hn : n ≤ 6) (h1 : isIn (x - nI 20) n = true) : ¬ x = 0 ∧ nI 20 ≤ x ∧ x - nI 20 = nI (jx (x - nI 20)) ∧ jx (x - nI 20) < n := by
  obtain ⟨j, hj, he⟩ := (isIn_iff (by omega)).mp h1
  have hx : x = nI (j + 20) := by rw [← nI_add, ← he, Int32.sub_add_cancel]
  refine ⟨fun z => ?_, ?_, by rw [he, jx_nI (by omega)], by rw [he, jx_nI (by omega)]; exact hj⟩
  · rw [hx] at z
    exact absurd (nI_inj (b := 0) (by omega) (by decide) z) (by omega)
  · rw [hx]; exact nI_le (a := 20) (by omega) (by omega)
theorem mG_gh {g : Gv} {I : Nat → Nat → Int32} (hG : mG g I) {c : Nat} (hc : c < gn g) : I 107 c = nI (gh g c) := (hG.2.2.2 c hc).2.2.2.1
theorem mG_gc {g : Gv} {I : Nat → Nat → Int32} (hG : mG g I) {c : Nat} (hc : c < gn g) : I 106 c = nI (gc g c) := (hG.2.2.2 c hc).2.2.1
set_option maxHeartbeats 2000000 in
theorem c_M_on (E : zE) (K N : Nat → Nat) (Rf : Nat → Nat → Option Nat) (I : Nat → Nat → Int32) (L : Nat → Nat → Int64) {g : Gv} (hg : gwf g) (hG : mG g I) {w : Wk} {b : Nat} (hB : mHB w b I) (hd : gd g ≤ 90000) (x what : Int32) : zCt E mX12_on 5 0 0 (sg K N Rf I L) [.ref 100, .int x, .int what] (fun r σ' => ∃ I', σ' = sg K N Rf I' L ∧ r = some (.int (onS g (rdS w) x what)) ∧ sE I I') := by
  have h6 := hg.1
  have hsv := sE_sv I
  have key : ∀ (hc : what = 0 ∨ isIn (what - nI 10) (gn g) = true ∨ isIn (what - nI 20) (gn g) = true) (X : zX), zD X E mX12_on 5 0 0 (fun r σ' => ∃ I', σ' = sg K N Rf I' L ∧ r = some (.int (onS g (rdS w) x what)) ∧ sE I I') → zS X (sg K N Rf I L) 0 0 40 [(0, .ref 100), (1, .int x), (2, .int what)] [] := by
    intro hc X hX
    refine bk hX lkX12_ok (pc' := 42) [.aload_n 0, .iload_n 1] (by decide +kernel) (And.intro trivial ?_)
    refine z_callV hX kw_X12_334 (c_M_isDays E _ rfl _) rfl rfl rfl rfl rfl (by decide +kernel) (by decide) (by decide) (by decide) (by decide) (Nat.le_of_ble_eq_true rfl) ?_
    rintro _ _ ⟨rfl, hh⟩
    rw [days_in] at hh
    rcases hh with ⟨hq, rfl⟩ | ⟨hq, rfl⟩
    · refine if_ne hX (6) 51 (by decide +kernel) (by decide) (fun c_45 => ?_) (fun c => absurd c (by decide))
      obtain ⟨k, hk, rfl⟩ := (isIn_iff (by decide)).mp hq
      have hj : jx (nI k) = k := jx_nI (by omega)
      refine bk hX lkX12_ok (pc' := 52) [.aload_n 0] (by decide +kernel) (And.intro trivial ?_)
      refine z_callV hX kw_X12_340 (c_M_save E K N Rf I L) rfl rfl rfl rfl rfl (by decide +kernel) (by decide) (by decide) (by decide) (by decide) (Nat.le_of_ble_eq_true rfl) ?_
      rintro _ _ ⟨rfl, rfl⟩
      refine bk hX lkX12_ok (pc' := 57) [.aload_n 0, .iload_n 1] (by decide +kernel) (And.intro trivial ?_)
      refine z_callV hX kw_X12_337 (c_M_goDays E K N Rf (svI I 6) L hg (mG_sE hG hsv) (mHB_sE hB hsv) (k := k) (by omega) (by omega)) rfl rfl rfl rfl rfl (by decide +kernel) (by decide) (by decide) (by decide) (by decide) (Nat.le_of_ble_eq_true rfl) ?_
      rintro _ _ ⟨I2, rfl, rfl, h3, h4⟩
      have hg2 := gwf_days hg (rdS w) k
      have hn2 := gn_days (rdS w) k g
      have hback := ask_back (frA_D h6 h4)
      refine bk hX lkX12_ok (pc' := 61) [.iload_n 2] (by decide +kernel) (And.intro trivial ?_)
      refine if_ne hX (10) 71 (by decide +kernel) (by decide) (fun c61 => ?_) (fun c61 => ?_)
      · refine bk hX lkX12_ok (pc' := 74) [.iload_n 2, .bipush 20] (by decide +kernel) (And.intro trivial ?_)
        refine ic_ge hX (15) 89 (by decide +kernel) (by decide) (fun c74 => ?_) (fun c74 => ?_)
        · have h20 : isIn (what - nI 20) (gn g) = true := by
            rcases hc with z | z | z
            · exact absurd z c61
            · exact absurd c74 (d10_20 h6 z).2.1
            · exact z
          have h10 : ¬ isIn (what - nI 10) (gn g) = true := fun z => (d10_20 h6 z).2.1 c74
          obtain ⟨-, -, e20, l20⟩ := d20 h6 h20
          refine bk hX lkX12_ok (pc' := 98) [.aload_n 0, .getfield 26, .iload_n 2, .bipush 20, .isub, .iaload] (by decide +kernel) (And.intro (by rw [e20]; exact vin 6 (by omega)) (And.intro trivial ?_))
          try rw [e20, cl (by omega), show I2 (101 + 5) (jx (what - nI 20)) = _ from mG_gc h3 (by rw [hn2]; exact l20)]
          refine bk hX lkX12_ok (pc' := 100) [.istore_n 3, .aload_n 0] (by decide +kernel) (And.intro trivial ?_)
          refine z_callV hX kw_X12_346 (c_M_putBack E K N Rf I2 L) rfl rfl rfl rfl rfl (by decide +kernel) (by decide) (by decide) (by decide) (by decide) (Nat.le_of_ble_eq_true rfl) ?_
          rintro _ _ ⟨rfl, rfl⟩
          refine bk hX lkX12_ok (pc' := 104) [.iload_n 3] (by decide +kernel) (And.intro trivial ?_)
          exact z_iret hX (by decide +kernel) rfl (rfl) (by decide) (by decide) (by
  refine ⟨_, rfl, ?_, hback⟩
  unfold onS
  rw [if_pos hc, if_pos hq, hj]
  first
    | (rw [if_pos c61, hn2])
    | (rw [if_neg c61, if_pos h10])
    | (rw [if_neg c61, if_neg h10]))
        · have h10 : isIn (what - nI 10) (gn g) = true := by
            rcases hc with z | z | z
            · exact absurd z c61
            · exact z
            · exact absurd (d20 h6 z).2.1 c74
          obtain ⟨-, -, e10, l10⟩ := d10_20 h6 h10
          refine bk hX lkX12_ok (pc' := 86) [.aload_n 0, .getfield 29, .iload_n 2, .bipush 10, .isub, .iaload] (by decide +kernel) (And.intro (by rw [e10]; exact vin 6 (by omega)) (And.intro trivial ?_))
          rw [e10, cl (by omega), show I2 (101 + 6) (jx (what - nI 10)) = _ from mG_gh h3 (by rw [hn2]; exact l10)]
          refine gt_ hX (12) 98 (by decide +kernel) (by decide) ?_
          try rw [e20, cl (by omega), show I2 (101 + 5) (jx (what - nI 20)) = _ from mG_gc h3 (by rw [hn2]; exact l20)]
          refine bk hX lkX12_ok (pc' := 100) [.istore_n 3, .aload_n 0] (by decide +kernel) (And.intro trivial ?_)
          refine z_callV hX kw_X12_346 (c_M_putBack E K N Rf I2 L) rfl rfl rfl rfl rfl (by decide +kernel) (by decide) (by decide) (by decide) (by decide) (Nat.le_of_ble_eq_true rfl) ?_
          rintro _ _ ⟨rfl, rfl⟩
          refine bk hX lkX12_ok (pc' := 104) [.iload_n 3] (by decide +kernel) (And.intro trivial ?_)
          exact z_iret hX (by decide +kernel) rfl (rfl) (by decide) (by decide) (by
  refine ⟨_, rfl, ?_, hback⟩
  unfold onS
  rw [if_pos hc, if_pos hq, hj]
  first
    | (rw [if_pos c61, hn2])
    | (rw [if_neg c61, if_pos h10])
    | (rw [if_neg c61, if_neg h10]))
      · refine bk hX lkX12_ok (pc' := 65) [.aload_n 0] (by decide +kernel) (And.intro trivial ?_)
        refine z_callV hX kw_X12_343 (c_M_allHoles E K N Rf I2 L hg2 h3) rfl rfl rfl rfl rfl (by decide +kernel) (by decide) (by decide) (by decide) (by decide) (Nat.le_of_ble_eq_true rfl) ?_
        rintro _ _ ⟨rfl, rfl⟩
        refine gt_ hX (30) 98 (by decide +kernel) (by decide) ?_
        try rw [e20, cl (by omega), show I2 (101 + 5) (jx (what - nI 20)) = _ from mG_gc h3 (by rw [hn2]; exact l20)]
        refine bk hX lkX12_ok (pc' := 100) [.istore_n 3, .aload_n 0] (by decide +kernel) (And.intro trivial ?_)
        refine z_callV hX kw_X12_346 (c_M_putBack E K N Rf I2 L) rfl rfl rfl rfl rfl (by decide +kernel) (by decide) (by decide) (by decide) (by decide) (Nat.le_of_ble_eq_true rfl) ?_
        rintro _ _ ⟨rfl, rfl⟩
        refine bk hX lkX12_ok (pc' := 104) [.iload_n 3] (by decide +kernel) (And.intro trivial ?_)
        exact z_iret hX (by decide +kernel) rfl (rfl) (by decide) (by decide) (by
  refine ⟨_, rfl, ?_, hback⟩
  unfold onS
  rw [if_pos hc, if_pos hq, hj]
  first
    | (rw [if_pos c61, hn2])
    | (rw [if_neg c61, if_pos h10])
    | (rw [if_neg c61, if_neg h10]))
    · refine if_ne hX (6) 51 (by decide +kernel) (by decide) (fun c => absurd (by decide) c) (fun c_45 => ?_)
      refine bk hX lkX12_ok (pc' := 50) [.bipush (Int.negSucc 1)] (by decide +kernel) (And.intro trivial ?_)
      exact z_iret hX (by decide +kernel) rfl (rfl) (by decide) (by decide) (⟨I, rfl, by unfold onS; rw [if_pos hc, if_neg hq], sE_rf _⟩)
  refine z_intro (by decide) (Nat.le_of_ble_eq_true rfl) (fun X hX => ?_)
  refine bk hX lkX12_ok (pc' := 1) [.iload_n 2] (by decide +kernel) (And.intro trivial ?_)
  refine if_eq hX (39) 40 (by decide +kernel) (by decide) (fun c1 => ?_) (fun c1 => ?_)
  · refine z_lvk (lv' := [(0, _), (1, _), (2, _)]) [0, 1, 2] rfl ?_
    first | exact key (Or.inl c1) X hX | exact key (Or.inr (Or.inl h10)) X hX | exact key (Or.inr (Or.inr h20)) X hX
  · refine bk hX lkX12_ok (pc' := 15) [.aload_n 0, .iload_n 2, .bipush 10, .bipush 9, .aload_n 0, .getfield 7, .iadd] (by decide +kernel) (And.intro trivial ?_)
    refine z_callV hX kw_X12_228 (c_M_in E _ _ _ _ _) rfl rfl rfl rfl rfl (by decide +kernel) (by decide) (by decide) (by decide) (by decide) (Nat.le_of_ble_eq_true rfl) ?_
    rintro _ _ ⟨rfl, hh⟩
    rw [hG.1, show (nI 9 : Int32) = nI (10 - 1) from rfl, in10 10 (by omega) h6] at hh
    rcases hh with ⟨h10, rfl⟩ | ⟨h10, rfl⟩
    · refine if_ne hX (22) 40 (by decide +kernel) (by decide) (fun c_18 => ?_) (fun c => absurd c (by decide))
      refine z_lvk (lv' := [(0, _), (1, _), (2, _)]) [0, 1, 2] rfl ?_
      first | exact key (Or.inl c1) X hX | exact key (Or.inr (Or.inl h10)) X hX | exact key (Or.inr (Or.inr h20)) X hX
    · refine if_ne hX (22) 40 (by decide +kernel) (by decide) (fun c => absurd (by decide) c) (fun c_18 => ?_)
      refine bk hX lkX12_ok (pc' := 32) [.aload_n 0, .iload_n 2, .bipush 20, .bipush 19, .aload_n 0, .getfield 7, .iadd] (by decide +kernel) (And.intro trivial ?_)
      refine z_callV hX kw_X12_228 (c_M_in E _ _ _ _ _) rfl rfl rfl rfl rfl (by decide +kernel) (by decide) (by decide) (by decide) (by decide) (Nat.le_of_ble_eq_true rfl) ?_
      rintro _ _ ⟨rfl, hh⟩
      rw [hG.1, show (nI 19 : Int32) = nI (20 - 1) from rfl, in10 20 (by omega) h6] at hh
      rcases hh with ⟨h20, rfl⟩ | ⟨h20, rfl⟩
      · refine if_ne hX (5) 40 (by decide +kernel) (by decide) (fun c_35 => ?_) (fun c => absurd c (by decide))
        refine z_lvk (lv' := [(0, _), (1, _), (2, _)]) [0, 1, 2] rfl ?_
        first | exact key (Or.inl c1) X hX | exact key (Or.inr (Or.inl h10)) X hX | exact key (Or.inr (Or.inr h20)) X hX
      · refine if_ne hX (5) 40 (by decide +kernel) (by decide) (fun c => absurd (by decide) c) (fun c_35 => ?_)
        refine bk hX lkX12_ok (pc' := 39) [.iconst (Int.negSucc 0)] (by decide +kernel) (And.intro trivial ?_)
        exact z_iret hX (by decide +kernel) rfl (rfl) (by decide) (by decide) (⟨I, rfl, by unfold onS; rw [if_neg (fun z => z.elim c1 (fun z => z.elim h10 h20))], sE_rf _⟩)
/-- the fewest days behind which a card has q holes or more -/
def fuK (r c q : Nat) (g : Gv) : Nat → Nat → Nat
  | 0, k => k
  | m + 1, k => if q ≤ pcN (gh (daysS r k g) c) 10 then k else fuK r c q g m (k + 1)
def fullS (g : Gv) (r : Nat) (c q : Int32) : Int32 := if isIn c (gn g) = true then (if isIn q 11 = true then (if fuK r (jx c) (jx q) g 61 0 < 61 then nI (fuK r (jx c) (jx q) g 61 0) else -nI 5) else -nI 2) else -nI 1
theorem fuK_le (r c q : Nat) (g : Gv) : ∀ m k, fuK r c q g m k ≤ k + m
  | 0, k => Nat.le_refl k
  | m + 1, k => by
    show (if _ then k else _) ≤ _
    split
    · omega
    · have := fuK_le r c q g m (k + 1)
      omega
set_option maxHeartbeats 2000000 in
theorem c_M_full (E : zE) (K N : Nat → Nat) (Rf : Nat → Nat → Option Nat) (I : Nat → Nat → Int32) (L : Nat → Nat → Int64) {g : Gv} (hg : gwf g) (hG : mG g I) {w : Wk} {b : Nat} (hB : mHB w b I) (hd : gd g ≤ 90000) (c q : Int32) : zCt E mX12_full 5 0 0 (sg K N Rf I L) [.ref 100, .int c, .int q] (fun r σ' => ∃ I', σ' = sg K N Rf I' L ∧ r = some (.int (fullS g (rdS w) c q)) ∧ sE I I') := by
  have h6 := hg.1
  have hsv := sE_sv I
  have hl : ∀ (c q : Nat), c < gn g → q ≤ 10 → ∀ X : zX, zD X E mX12_full 5 0 0 (fun r σ' => ∃ I', σ' = sg K N Rf I' L ∧ r = some (.int (fullS g (rdS w) (nI c) (nI q))) ∧ sE I I') → ∀ m k (I1 : Nat → Nat → Int32), k + m = 61 → mG (daysS (rdS w) k g) I1 → frA (svI I 6) I1 → fuK (rdS w) c q g m k = fuK (rdS w) c q g 61 0 → zS X (sg K N Rf I1 L) 0 0 30 [(0, .ref 100), (1, .int (nI c)), (2, .int (nI q)), (3, .int (nI k))] [] := by
    intro c q hc hq X hX m
    have hful : fullS g (rdS w) (nI c) (nI q) = if fuK (rdS w) c q g 61 0 < 61 then nI (fuK (rdS w) c q g 61 0) else -nI 5 := by
      unfold fullS
      rw [if_pos (isIn_nI hc (by omega)), if_pos (isIn_nI (show q < 11 by omega) (by decide)), jx_nI (by omega), jx_nI (by omega)]
    induction m with
    | zero =>
      intro k I1 hk h1 h2 hf
      obtain rfl : k = 61 := by omega
      refine bk hX lkX12_ok (pc' := 33) [.iload_n 3, .bipush 61] (by decide +kernel) (And.intro trivial ?_)
      refine ic_ge hX (27) 60 (by decide +kernel) (by decide) (fun c_33 => ?_) (fun c => absurd (nI_le (a := 61) (b := 61) (by omega) (by omega)) c)
      refine bk hX lkX12_ok (pc' := 61) [.aload_n 0] (by decide +kernel) (And.intro trivial ?_)
      refine z_callV hX kw_X12_346 (c_M_putBack E K N Rf I1 L) rfl rfl rfl rfl rfl (by decide +kernel) (by decide) (by decide) (by decide) (by decide) (Nat.le_of_ble_eq_true rfl) ?_
      rintro _ _ ⟨rfl, rfl⟩
      refine bk hX lkX12_ok (pc' := 67) [.iload_n 3, .bipush 61] (by decide +kernel) (And.intro trivial ?_)
      refine ic_ge hX (7) 74 (by decide +kernel) (by decide) (fun c_67 => ?_) (fun c => absurd (nI_le (a := 61) (b := 61) (by omega) (by omega)) c)
      refine bk hX lkX12_ok (pc' := 76) [.bipush (Int.negSucc 4)] (by decide +kernel) (And.intro trivial ?_)
      exact z_iret hX (by decide +kernel) rfl (rfl) (by decide) (by decide) (⟨_, rfl, by rw [hful, ← hf]; rfl, ask_back h2⟩)
    | succ m ih =>
      intro k I1 hk h1 h2 hf
      have hf' : (if q ≤ pcN (gh (daysS (rdS w) k g) c) 10 then k else fuK (rdS w) c q g m (k + 1)) = fuK (rdS w) c q g 61 0 := hf
      have hgk := gwf_days hg (rdS w) k
      have hnk := gn_days (rdS w) k g
      have hcl := (hgk.2.1 c (by rw [hnk]; exact hc)).2.2.2.1
      have hpc := pcN_le (gh (daysS (rdS w) k g) c) 10
      have hBk : mHB w b I1 := by
        obtain ⟨z1, z2, z3⟩ := h2
        refine mHB_eq (mHB_sE hB hsv) (z2 9 (by decide) (by decide)) ?_ ?_ ?_ ?_ ?_ ?_ <;> exact z1 _ (by decide) (by decide) (by decide) (by decide) (by decide)
      refine bk hX lkX12_ok (pc' := 33) [.iload_n 3, .bipush 61] (by decide +kernel) (And.intro trivial ?_)
      refine ic_ge hX (27) 60 (by decide +kernel) (by decide) (fun c => absurd c (nI_ge (a := k) (b := 61) (by omega) (by omega))) (fun c_33 => ?_)
      refine bk hX lkX12_ok (pc' := 43) [.aload_n 0, .aload_n 0, .getfield 29, .iload_n 1, .iaload] (by decide +kernel) (And.intro (by exact vin 6 (by omega)) (And.intro trivial ?_))
      rw [cl (by omega), show I1 (101 + 6) c = _ from mG_gh h1 (by rw [hnk]; exact hc)]
      refine z_callV hX kw_X12_299 (c_M_bits E _ rfl hcl) rfl rfl rfl rfl rfl (by decide +kernel) (by decide) (by decide) (by decide) (by decide) (Nat.le_of_ble_eq_true rfl) ?_
      rintro _ _ ⟨rfl, rfl⟩
      refine bk hX lkX12_ok (pc' := 47) [.iload_n 2] (by decide +kernel) (And.intro trivial ?_)
      refine ic_ge hX (13) 60 (by decide +kernel) (by decide) (fun cb => ?_) (fun cb => ?_)
      · refine bk hX lkX12_ok (pc' := 61) [.aload_n 0] (by decide +kernel) (And.intro trivial ?_)
        refine z_callV hX kw_X12_346 (c_M_putBack E K N Rf I1 L) rfl rfl rfl rfl rfl (by decide +kernel) (by decide) (by decide) (by decide) (by decide) (Nat.le_of_ble_eq_true rfl) ?_
        rintro _ _ ⟨rfl, rfl⟩
        refine bk hX lkX12_ok (pc' := 67) [.iload_n 3, .bipush 61] (by decide +kernel) (And.intro trivial ?_)
        refine ic_ge hX (7) 74 (by decide +kernel) (by decide) (fun c => absurd c (nI_ge (a := k) (b := 61) (by omega) (by omega))) (fun c_67 => ?_)
        refine bk hX lkX12_ok (pc' := 71) [.iload_n 3] (by decide +kernel) (And.intro trivial ?_)
        refine gt_ hX (5) 76 (by decide +kernel) (by decide) ?_
        exact z_iret hX (by decide +kernel) rfl (rfl) (by decide) (by decide) (by rw [if_pos ((nI_leI (by omega) (by omega)).mp cb)] at hf'; exact ⟨_, rfl, by rw [hful, ← hf', if_pos (by omega)], ask_back h2⟩)
      · refine bk hX lkX12_ok (pc' := 51) [.aload_n 0] (by decide +kernel) (And.intro trivial ?_)
        refine z_callV hX kw_X12_331 (c_M_goDay E K N Rf I1 L hgk h1 (by rw [gd_days]; omega) hBk) rfl rfl rfl rfl rfl (by decide +kernel) (by decide) (by decide) (by decide) (by decide) (Nat.le_of_ble_eq_true rfl) ?_
        rintro _ _ ⟨I2, rfl, rfl, h3, h4⟩
        refine bk hX lkX12_ok (pc' := 57) [.iinc 3 1] (by decide +kernel) (And.intro trivial ?_)
        refine gt_ hX (-27) 30 (by decide +kernel) (by decide) ?_
        refine z_lvk (lv' := [(0, _), (1, _), (2, _), (3, _)]) [1, 2, 3, 0] rfl ?_
        rw [if_neg (fun z => cb (nI_le z (by omega)))] at hf'
        rw [nI_add]
        exact ih (k + 1) I2 (by omega) h3 (frA_tr h2 (frA_D (by rw [hnk]; exact h6) h4)) hf'
  refine z_intro (by decide) (Nat.le_of_ble_eq_true rfl) (fun X hX => ?_)
  refine bk hX lkX12_ok (pc' := 2) [.aload_n 0, .iload_n 1] (by decide +kernel) (And.intro trivial ?_)
  refine z_callV hX kw_X12_232 (c_M_isWorker E K N Rf I L _ hg.1 hG.1) rfl rfl rfl rfl rfl (by decide +kernel) (by decide) (by decide) (by decide) (by decide) (Nat.le_of_ble_eq_true rfl) ?_
  rintro _ _ ⟨rfl, hh⟩
  rw [← isIn_iff (by omega)] at hh
  rcases hh with ⟨hc, rfl⟩ | ⟨hc, rfl⟩
  · refine if_ne hX (5) 10 (by decide +kernel) (by decide) (fun c_5 => ?_) (fun c => absurd c (by decide))
    refine bk hX lkX12_ok (pc' := 15) [.aload_n 0, .iload_n 2, .iconst 0, .bipush 10] (by decide +kernel) (And.intro trivial ?_)
    refine z_callV hX kw_X12_228 (c_M_in E _ _ _ _ _) rfl rfl rfl rfl rfl (by decide +kernel) (by decide) (by decide) (by decide) (by decide) (Nat.le_of_ble_eq_true rfl) ?_
    rintro _ _ ⟨rfl, hh⟩
    rw [i_le (n := 10) (by decide)] at hh
    rcases hh with ⟨hq, rfl⟩ | ⟨hq, rfl⟩
    · refine if_ne hX (6) 24 (by decide +kernel) (by decide) (fun c_18 => ?_) (fun c => absurd c (by decide))
      obtain ⟨c, hcn, rfl⟩ := (isIn_iff (by omega)).mp hc
      obtain ⟨q, hq10, rfl⟩ := hq
      refine bk hX lkX12_ok (pc' := 25) [.aload_n 0] (by decide +kernel) (And.intro trivial ?_)
      refine z_callV hX kw_X12_340 (c_M_save E K N Rf I L) rfl rfl rfl rfl rfl (by decide +kernel) (by decide) (by decide) (by decide) (by decide) (Nat.le_of_ble_eq_true rfl) ?_
      rintro _ _ ⟨rfl, rfl⟩
      refine bk hX lkX12_ok (pc' := 30) [.iconst 0, .istore_n 3] (by decide +kernel) (And.intro trivial ?_)
      refine z_lvk (lv' := [(0, _), (1, _), (2, _), (3, _)]) [1, 2, 3, 0] rfl ?_
      exact hl c q hcn hq10 X hX 61 0 (svI I 6) rfl (mG_sE hG hsv) (frA_rf _) rfl
    · refine if_ne hX (6) 24 (by decide +kernel) (by decide) (fun c => absurd (by decide) c) (fun c_18 => ?_)
      refine bk hX lkX12_ok (pc' := 23) [.bipush (Int.negSucc 1)] (by decide +kernel) (And.intro trivial ?_)
      exact z_iret hX (by decide +kernel) rfl (rfl) (by decide) (by decide) (⟨I, rfl, by unfold fullS; rw [if_pos hc, if_neg (fun z => hq (by obtain ⟨j, h1, h2⟩ := (isIn_iff (by decide)).mp z; exact ⟨j, by omega, h2⟩))], sE_rf _⟩)
  · refine if_ne hX (5) 10 (by decide +kernel) (by decide) (fun c => absurd (by decide) c) (fun c_5 => ?_)
    refine bk hX lkX12_ok (pc' := 9) [.iconst (Int.negSucc 0)] (by decide +kernel) (And.intro trivial ?_)
    exact z_iret hX (by decide +kernel) rfl (rfl) (by decide) (by decide) (⟨I, rfl, by unfold fullS; rw [if_neg hc], sE_rf _⟩)
end
section
/-- two swap -/
def swG (g : Gv) (i j : Nat) : Gv := (gn g, gk g, gv g, (fun k => if k = j then gc g i else if k = i then gc g j else gc g k), gh g, gr g, ga g, gd g)
theorem gwf_sw {g : Gv} (hg : gwf g) {i j : Nat} (hi : i < gn g) (hj : j < gn g) : gwf (swG g i j) := by
  obtain ⟨a1, a2, a3⟩ := hg
  refine ⟨a1, fun p hp => ⟨(a2 p hp).1, (a2 p hp).2.1, ?_, (a2 p hp).2.2.2.1, (a2 p hp).2.2.2.2⟩, fun p q hp hq h => ?_⟩
  · show (if p = j then gc g i else if p = i then gc g j else gc g p) < gn g
    have h1 := (a2 i hi).2.2.1
    have h2 := (a2 j hj).2.2.1
    have h3 := (a2 p hp).2.2.1
    split
    · exact h1
    · split
      · exact h2
      · exact h3
  · have h' : (if p = j then gc g i else if p = i then gc g j else gc g p) = (if q = j then gc g i else if q = i then gc g j else gc g q) := h
    have hp' : p < gn g := hp
    have hq' : q < gn g := hq
    by_cases e1 : p = j <;> by_cases e2 : q = j <;> by_cases e3 : p = i <;> by_cases e4 : q = i <;> simp only [e1, e2, e3, e4, if_true, if_false] at h' <;> first | omega | (have := a3 _ _ (by omega) (by omega) h'; omega) | (split at h' <;> first | omega | (have := a3 _ _ (by omega) (by omega) h'; omega) | (split at h' <;> first | omega | (have := a3 _ _ (by omega) (by omega) h'; omega)))
theorem mG_sw {g : Gv} (hg : gwf g) {I : Nat → Nat → Int32} (hG : mG g I) {i j : Nat} (hi : i < gn g) (hj : j < gn g) : mG (swG g i j) (up2 (up2 I 106 i (I 106 j)) 106 j (I 106 i)) := by
  obtain ⟨a1, a2, a3, a4⟩ := hG
  have hne : ∀ q, q ≠ 106 → up2 (up2 I 106 i (I 106 j)) 106 j (I 106 i) q = I q := fun q h => by rw [up2_ne _ _ _ h, up2_ne _ _ _ h]
  refine ⟨?_, ?_, ?_, fun p hp => ?_⟩
  · rw [hne 100 (by decide)]; exact a1
  · rw [hne 100 (by decide)]; exact a2
  · rw [hne 100 (by decide)]; exact a3
  · obtain ⟨b1, b2, b3, b4, b5⟩ := a4 p hp
    refine ⟨?_, ?_, ?_, ?_, fun k hk => ?_⟩
    · rw [hne _ (by decide)]; exact b1
    · rw [hne _ (by decide)]; exact b2
    · show _ = nI (if p = j then gc g i else if p = i then gc g j else gc g p)
      rw [up2_at, up2_at]
      split
      · exact (a4 i hi).2.2.1
      · split
        · exact (a4 j hj).2.2.1
        · exact b3
    · rw [hne _ (by decide)]; exact b4
    · rw [hne _ (by decide)]; exact b5 k hk
theorem frA_sw {I : Nat → Nat → Int32} {i j : Nat} (hi : i < 6) (hj : j < 6) : frA I (up2 (up2 I 106 i (I 106 j)) 106 j (I 106 i)) := by
  have hne : ∀ q, q ≠ 106 → up2 (up2 I 106 i (I 106 j)) 106 j (I 106 i) q = I q := fun q h => by rw [up2_ne _ _ _ h, up2_ne _ _ _ h]
  refine ⟨fun q _ h _ _ _ => hne q h, fun k _ _ => by rw [hne 100 (by decide)], fun k hk => ⟨by rw [hne _ (by decide)], ?_⟩⟩
  rw [up2_at, up2_at, if_neg (by omega), if_neg (by omega)]
/-- the greatest number of holes of the first j cards -/
def mxN (g : Gv) : Nat → Nat
  | 0 => 0
  | j + 1 => if mxN g j < pcN (gh g j) 10 then pcN (gh g j) 10 else mxN g j
theorem mxN_le (g : Gv) : ∀ j, mxN g j ≤ 10
  | 0 => Nat.zero_le _
  | j + 1 => by
    have h1 := mxN_le g j
    have h2 := pcN_le (gh g j) 10
    show (if _ then _ else _) ≤ 10
    split <;> omega
def mhS (g : Gv) (r i j : Nat) : Nat := mxN (daysS r 20 (swG g i j)) (gn g)
theorem mHB_frA {w : Wk} {b : Nat} {I I1 : Nat → Nat → Int32} (hB : mHB w b I) (h2 : frA I I1) : mHB w b I1 := by
  obtain ⟨z1, z2, z3⟩ := h2
  refine mHB_eq hB (z2 9 (by decide) (by decide)) ?_ ?_ ?_ ?_ ?_ ?_ <;> exact z1 _ (by decide) (by decide) (by decide) (by decide) (by decide)
set_option maxHeartbeats 2000000 in
theorem c_M_mostHoles (E : zE) (K N : Nat → Nat) (Rf : Nat → Nat → Option Nat) (I : Nat → Nat → Int32) (L : Nat → Nat → Int64) {g : Gv} (hg : gwf g) (hG : mG g I) {w : Wk} {b : Nat} (hB : mHB w b I) (hd : gd g ≤ 90000) {i j : Nat} (hi : i < gn g) (hj : j < gn g) : zCt E mX12_mostHoles 5 0 0 (sg K N Rf I L) [.ref 100, .int (nI i), .int (nI j)] (fun r σ' => ∃ I', σ' = sg K N Rf I' L ∧ r = some (.int (nI (mhS g (rdS w) i j))) ∧ sE I I') := by
  have h6 := hg.1
  have hsv := sE_sv I
  have hgs := gwf_sw hg hi hj
  have hg2 := gwf_days hgs (rdS w) 20
  have hn2 : gn (daysS (rdS w) 20 (swG g i j)) = gn g := gn_days (rdS w) 20 (swG g i j)
  refine z_intro (by decide) (Nat.le_of_ble_eq_true rfl) (fun X hX => ?_)
  have hl : ∀ m c (I2 : Nat → Nat → Int32), c + m = gn g → mG (daysS (rdS w) 20 (swG g i j)) I2 → frA (svI I 6) I2 → zS X (sg K N Rf I2 L) 0 0 21 [(0, .ref 100), (3, .int (nI (mxN (daysS (rdS w) 20 (swG g i j)) c))), (4, .int (nI c))] [] := by
    intro m
    induction m with
    | zero =>
      intro c I2 hc h1 h2
      obtain rfl : c = gn g := by omega
      have e0 : I2 100 0 = nI (gn g) := by rw [h1.1, hn2]
      refine bk hX lkX12_ok (pc' := 27) [.iload 4, .aload_n 0, .getfield 7] (by decide +kernel) (And.intro trivial ?_)
      rw [e0]
      refine ic_ge hX (40) 67 (by decide +kernel) (by decide) (fun c_27 => ?_) (fun c => absurd (nI_le (by omega) (by omega)) c)
      refine bk hX lkX12_ok (pc' := 68) [.aload_n 0] (by decide +kernel) (And.intro trivial ?_)
      refine z_callV hX kw_X12_346 (c_M_putBack E K N Rf I2 L) rfl rfl rfl rfl rfl (by decide +kernel) (by decide) (by decide) (by decide) (by decide) (Nat.le_of_ble_eq_true rfl) ?_
      rintro _ _ ⟨rfl, rfl⟩
      refine bk hX lkX12_ok (pc' := 72) [.iload_n 3] (by decide +kernel) (And.intro trivial ?_)
      exact z_iret hX (by decide +kernel) rfl (rfl) (by decide) (by decide) (⟨_, rfl, rfl, ask_back h2⟩)
    | succ m ih =>
      intro c I2 hc h1 h2
      have e0 : I2 100 0 = nI (gn g) := by rw [h1.1, hn2]
      have hcn : c < gn (daysS (rdS w) 20 (swG g i j)) := by rw [hn2]; omega
      have hcl := (hg2.2.1 c hcn).2.2.2.1
      have hpc := pcN_le (gh (daysS (rdS w) 20 (swG g i j)) c) 10
      have hmx := mxN_le (daysS (rdS w) 20 (swG g i j)) c
      refine bk hX lkX12_ok (pc' := 27) [.iload 4, .aload_n 0, .getfield 7] (by decide +kernel) (And.intro trivial ?_)
      rw [e0]
      refine ic_ge hX (40) 67 (by decide +kernel) (by decide) (fun c => absurd c (nI_ge (by omega) (by omega))) (fun c_27 => ?_)
      refine bk hX lkX12_ok (pc' := 38) [.aload_n 0, .aload_n 0, .getfield 29, .iload 4, .iaload] (by decide +kernel) (And.intro (by exact vin 6 (by omega)) (And.intro trivial ?_))
      rw [cl (by omega), show I2 (101 + 6) c = _ from mG_gh h1 hcn]
      refine z_callV hX kw_X12_299 (c_M_bits E _ rfl hcl) rfl rfl rfl rfl rfl (by decide +kernel) (by decide) (by decide) (by decide) (by decide) (Nat.le_of_ble_eq_true rfl) ?_
      rintro _ _ ⟨rfl, rfl⟩
      refine bk hX lkX12_ok (pc' := 42) [.iload_n 3] (by decide +kernel) (And.intro trivial ?_)
      refine ic_le hX (17) 59 (by decide +kernel) (by decide) (fun cb => ?_) (fun cb => ?_)
      · refine bk hX lkX12_ok (pc' := 64) [.iload_n 3, .istore_n 3, .iinc 4 1] (by decide +kernel) (And.intro trivial ?_)
        refine gt_ hX (-43) 21 (by decide +kernel) (by decide) ?_
        refine z_lvk (lv' := [(0, _), (3, _), (4, _)]) [2, 1, 0] rfl ?_
        have hi2 := ih (c + 1) I2 (by omega) h1 h2
        rw [nI_add]
        rw [show mxN (daysS (rdS w) 20 (swG g i j)) (c + 1) = if mxN (daysS (rdS w) 20 (swG g i j)) c < pcN (gh (daysS (rdS w) 20 (swG g i j)) c) 10 then pcN (gh (daysS (rdS w) 20 (swG g i j)) c) 10 else mxN (daysS (rdS w) 20 (swG g i j)) c from rfl] at hi2
        first
          | (rw [if_neg (fun z => absurd (nI_lt z (by omega)) (i_nlt.mpr cb))] at hi2; exact hi2)
          | (rw [if_pos ((nI_ltI (by omega) (by omega)).mp (i_nle.mp cb))] at hi2; exact hi2)
      · refine bk hX lkX12_ok (pc' := 53) [.aload_n 0, .aload_n 0, .getfield 29, .iload 4, .iaload] (by decide +kernel) (And.intro (by exact vin 6 (by omega)) (And.intro trivial ?_))
        rw [cl (by omega), show I2 (101 + 6) c = _ from mG_gh h1 hcn]
        refine z_callV hX kw_X12_299 (c_M_bits E _ rfl hcl) rfl rfl rfl rfl rfl (by decide +kernel) (by decide) (by decide) (by decide) (by decide) (Nat.le_of_ble_eq_true rfl) ?_
        rintro _ _ ⟨rfl, rfl⟩
        refine gt_ hX (4) 60 (by decide +kernel) (by decide) ?_
        refine bk hX lkX12_ok (pc' := 64) [.istore_n 3, .iinc 4 1] (by decide +kernel) (And.intro trivial ?_)
        refine gt_ hX (-43) 21 (by decide +kernel) (by decide) ?_
        refine z_lvk (lv' := [(0, _), (3, _), (4, _)]) [2, 1, 0] rfl ?_
        have hi2 := ih (c + 1) I2 (by omega) h1 h2
        rw [nI_add]
        rw [show mxN (daysS (rdS w) 20 (swG g i j)) (c + 1) = if mxN (daysS (rdS w) 20 (swG g i j)) c < pcN (gh (daysS (rdS w) 20 (swG g i j)) c) 10 then pcN (gh (daysS (rdS w) 20 (swG g i j)) c) 10 else mxN (daysS (rdS w) 20 (swG g i j)) c from rfl] at hi2
        first
          | (rw [if_neg (fun z => absurd (nI_lt z (by omega)) (i_nlt.mpr cb))] at hi2; exact hi2)
          | (rw [if_pos ((nI_ltI (by omega) (by omega)).mp (i_nle.mp cb))] at hi2; exact hi2)
  refine bk hX lkX12_ok (pc' := 1) [.aload_n 0] (by decide +kernel) (And.intro trivial ?_)
  refine z_callV hX kw_X12_340 (c_M_save E K N Rf I L) rfl rfl rfl rfl rfl (by decide +kernel) (by decide) (by decide) (by decide) (by decide) (Nat.le_of_ble_eq_true rfl) ?_
  rintro _ _ ⟨rfl, rfl⟩
  refine bk hX lkX12_ok (pc' := 7) [.aload_n 0, .iload_n 1, .iload_n 2] (by decide +kernel) (And.intro trivial ?_)
  refine z_callV hX kw_X12_239 (c_M_swaps E K N Rf (svI I 6) L i j (by omega) (by omega)) rfl rfl rfl rfl rfl (by decide +kernel) (by decide) (by decide) (by decide) (by decide) (Nat.le_of_ble_eq_true rfl) ?_
  rintro _ _ ⟨rfl, rfl⟩
  refine bk hX lkX12_ok (pc' := 13) [.aload_n 0, .bipush 20] (by decide +kernel) (And.intro trivial ?_)
  refine z_callV hX kw_X12_337 (c_M_goDays E K N Rf _ L hgs (mG_sw hg (mG_sE hG hsv) hi hj) (mHB_frA (mHB_sE hB hsv) (frA_sw (by omega) (by omega))) (k := 20) (by show gd g + 20 ≤ _; omega) (by decide)) rfl rfl rfl rfl rfl (by decide +kernel) (by decide) (by decide) (by decide) (by decide) (Nat.le_of_ble_eq_true rfl) ?_
  rintro _ _ ⟨I2, rfl, rfl, h3, h4⟩
  refine bk hX lkX12_ok (pc' := 21) [.iconst 0, .istore_n 3, .iconst 0, .istore 4] (by decide +kernel) (And.intro trivial ?_)
  refine z_lvk (lv' := [(0, _), (3, _), (4, _)]) [2, 1, 0] rfl ?_
  exact hl (gn g) 0 I2 (by omega) h3 (frA_tr (frA_sw (by omega) (by omega)) (frA_D h6 h4))
/-- the trade: found, least -/
def trB (g : Gv) (r i : Nat) : Nat → Nat → Int32 × Nat → Int32 × Nat
  | 0, _, s => s
  | m + 1, j, s => trB g r i m (j + 1) (if mhS g r i j < s.2 then (nI (10 * i + j), mhS g r i j) else s)
def trA (g : Gv) (r : Nat) : Nat → Nat → Int32 × Nat → Int32 × Nat
  | 0, _, s => s
  | m + 1, i, s => trA g r m (i + 1) (trB g r i m (i + 1) s)
def trS (g : Gv) (r : Nat) : Int32 := if gn g = 0 then -nI 5 else (trA g r (gn g) 0 (-nI 5, mhS g r 0 0)).1
theorem mhS_le (g : Gv) (r i j : Nat) : mhS g r i j ≤ 10 := mxN_le _ _
theorem trB_s (g : Gv) (r i m j : Nat) (s : Int32 × Nat) : trB g r i (m + 1) j s = trB g r i m (j + 1) (if mhS g r i j < s.2 then (nI (10 * i + j), mhS g r i j) else s) := rfl
theorem trB_le (g : Gv) (r i : Nat) : ∀ m j s, s.2 ≤ 10 → (trB g r i m j s).2 ≤ 10
  | 0, _, _, h => h
  | m + 1, j, s, h => by
    rw [trB_s]
    refine trB_le g r i m (j + 1) _ ?_
    split
    · exact mhS_le g r i j
    · exact h
set_option maxHeartbeats 2000000 in
theorem c_M_tradeOf (E : zE) (K N : Nat → Nat) (Rf : Nat → Nat → Option Nat) (I : Nat → Nat → Int32) (L : Nat → Nat → Int64) {g : Gv} (hg : gwf g) (hG : mG g I) {w : Wk} {b : Nat} (hB : mHB w b I) (hd : gd g ≤ 90000) : zCt E mX12_tradeOf 6 0 0 (sg K N Rf I L) [.ref 100] (fun r σ' => ∃ I', σ' = sg K N Rf I' L ∧ r = some (.int (trS g (rdS w))) ∧ sE I I') := by
  have h6 := hg.1
  refine z_intro (by decide) (Nat.le_of_ble_eq_true rfl) (fun X hX => ?_)
  have hl2 : ∀ (i : Nat), i < gn g → ∀ m j (s : Int32 × Nat) (I1 : Nat → Nat → Int32), j + m = gn g → s.2 ≤ 10 → sE I I1 → (∀ (I2 : Nat → Nat → Int32), sE I I2 → zS X (sg K N Rf I2 L) 0 0 79 [(0, .ref 100), (1, .int (trB g (rdS w) i m j s).1), (2, .int (nI (trB g (rdS w) i m j s).2)), (3, .int (nI i))] []) → zS X (sg K N Rf I1 L) 0 0 35 [(0, .ref 100), (1, .int s.1), (2, .int (nI s.2)), (3, .int (nI i)), (4, .int (nI j))] [] := by
    intro i hi m
    induction m with
    | zero =>
      intro j s I1 hj hs h1 hk
      obtain rfl : j = gn g := by omega
      have e0 : I1 100 0 = nI (gn g) := (mG_sE hG h1).1
      refine bk hX lkX12_ok (pc' := 41) [.iload 4, .aload_n 0, .getfield 7] (by decide +kernel) (And.intro trivial ?_)
      rw [e0]
      refine ic_ge hX (38) 79 (by decide +kernel) (by decide) (fun c_41 => ?_) (fun c => absurd (nI_le (by omega) (by omega)) c)
      refine z_lvk (lv' := [(0, _), (1, _), (2, _), (3, _)]) [0, 1, 2, 3] rfl ?_
      exact hk I1 h1
    | succ m ih =>
      intro j s I1 hj hs h1 hk
      have e0 : I1 100 0 = nI (gn g) := (mG_sE hG h1).1
      have hml := mhS_le g (rdS w) i j
      refine bk hX lkX12_ok (pc' := 41) [.iload 4, .aload_n 0, .getfield 7] (by decide +kernel) (And.intro trivial ?_)
      rw [e0]
      refine ic_ge hX (38) 79 (by decide +kernel) (by decide) (fun c => absurd c (nI_ge (by omega) (by omega))) (fun c_41 => ?_)
      refine bk hX lkX12_ok (pc' := 48) [.aload_n 0, .iload_n 3, .iload 4] (by decide +kernel) (And.intro trivial ?_)
      refine z_callV hX kw_X12_349 (c_M_mostHoles E K N Rf I1 L hg (mG_sE hG h1) (mHB_sE hB h1) hd hi (j := j) (by omega)) rfl rfl rfl rfl rfl (by decide +kernel) (by decide) (by decide) (by decide) (by decide) (Nat.le_of_ble_eq_true rfl) ?_
      rintro _ _ ⟨I2, rfl, rfl, h3⟩
      refine bk hX lkX12_ok (pc' := 56) [.istore 5, .iload 5, .iload_n 2] (by decide +kernel) (And.intro trivial ?_)
      refine ic_lt hX (6) 62 (by decide +kernel) (by decide) (fun cb => ?_) (fun cb => ?_)
      · refine bk hX lkX12_ok (pc' := 76) [.bipush 10, .iload_n 3, .imul, .iload 4, .iadd, .istore_n 1, .iload 5, .istore_n 2, .iinc 4 1] (by decide +kernel) (And.intro trivial ?_)
        refine gt_ hX (-41) 35 (by decide +kernel) (by decide) ?_
        refine z_lvk (lv' := [(0, _), (1, _), (2, _), (3, _), (4, _)]) [4, 2, 1, 5, 0] rfl ?_
        rw [trB_s] at hk
        first
          | (rw [if_pos ((nI_ltI (by omega) (by omega)).mp cb)] at hk
             rw [pk_mul, nI_add, nI_add]
             exact ih (j + 1) (nI (10 * i + j), mhS g (rdS w) i j) I2 (by omega) hml (sE_tr h1 h3) hk)
          | (rw [if_neg (fun z => cb (nI_lt z (by omega)))] at hk
             rw [nI_add]
             exact ih (j + 1) s I2 (by omega) hs (sE_tr h1 h3) hk)
      · refine gt_ hX (14) 73 (by decide +kernel) (by decide) ?_
        refine bk hX lkX12_ok (pc' := 76) [.iinc 4 1] (by decide +kernel) (And.intro trivial ?_)
        refine gt_ hX (-41) 35 (by decide +kernel) (by decide) ?_
        refine z_lvk (lv' := [(0, _), (1, _), (2, _), (3, _), (4, _)]) [2, 3, 4, 5, 0] rfl ?_
        rw [trB_s] at hk
        first
          | (rw [if_pos ((nI_ltI (by omega) (by omega)).mp cb)] at hk
             rw [pk_mul, nI_add, nI_add]
             exact ih (j + 1) (nI (10 * i + j), mhS g (rdS w) i j) I2 (by omega) hml (sE_tr h1 h3) hk)
          | (rw [if_neg (fun z => cb (nI_lt z (by omega)))] at hk
             rw [nI_add]
             exact ih (j + 1) s I2 (by omega) hs (sE_tr h1 h3) hk)
  have hl : ∀ m i (s : Int32 × Nat) (I1 : Nat → Nat → Int32), i + m = gn g → s.2 ≤ 10 → sE I I1 → (trA g (rdS w) m i s).1 = trS g (rdS w) → zS X (sg K N Rf I1 L) 0 0 22 [(0, .ref 100), (1, .int s.1), (2, .int (nI s.2)), (3, .int (nI i))] [] := by
    intro m
    induction m with
    | zero =>
      intro i s I1 hj hs h1 hf
      obtain rfl : i = gn g := by omega
      have e0 : I1 100 0 = nI (gn g) := (mG_sE hG h1).1
      refine bk hX lkX12_ok (pc' := 27) [.iload_n 3, .aload_n 0, .getfield 7] (by decide +kernel) (And.intro trivial ?_)
      rw [e0]
      refine ic_ge hX (58) 85 (by decide +kernel) (by decide) (fun c_27 => ?_) (fun c => absurd (nI_le (by omega) (by omega)) c)
      refine bk hX lkX12_ok (pc' := 86) [.iload_n 1] (by decide +kernel) (And.intro trivial ?_)
      exact z_iret hX (by decide +kernel) rfl (rfl) (by decide) (by decide) (⟨I1, rfl, by rw [← hf]; rfl, h1⟩)
    | succ m ih =>
      intro i s I1 hj hs h1 hf
      have e0 : I1 100 0 = nI (gn g) := (mG_sE hG h1).1
      refine bk hX lkX12_ok (pc' := 27) [.iload_n 3, .aload_n 0, .getfield 7] (by decide +kernel) (And.intro trivial ?_)
      rw [e0]
      refine ic_ge hX (58) 85 (by decide +kernel) (by decide) (fun c => absurd c (nI_ge (by omega) (by omega))) (fun c_27 => ?_)
      refine bk hX lkX12_ok (pc' := 35) [.iload_n 3, .iconst 1, .iadd, .istore 4] (by decide +kernel) (And.intro trivial ?_)
      refine z_lvk (lv' := [(0, _), (1, _), (2, _), (3, _), (4, _)]) [1, 2, 3, 4, 0] rfl ?_
      rw [nI_add]
      refine hl2 i (by omega) m (i + 1) s I1 (by omega) hs h1 (fun I2 h2 => ?_)
      refine bk hX lkX12_ok (pc' := 82) [.iinc 3 1] (by decide +kernel) (And.intro trivial ?_)
      refine gt_ hX (-60) 22 (by decide +kernel) (by decide) ?_
      refine z_lvk (lv' := [(0, _), (1, _), (2, _), (3, _)]) [1, 2, 3, 0] rfl ?_
      rw [nI_add]
      exact ih (i + 1) _ I2 (by omega) (trB_le g (rdS w) i m (i + 1) s hs) h2 hf
  refine bk hX lkX12_ok (pc' := 4) [.aload_n 0, .getfield 7] (by decide +kernel) (And.intro trivial ?_)
  rw [hG.1]
  refine if_ne hX (6) 10 (by decide +kernel) (by decide) (fun c0 => ?_) (fun c0 => ?_)
  · have hn0 : ¬ gn g = 0 := fun z => c0 (by rw [z]; rfl)
    refine bk hX lkX12_ok (pc' := 16) [.bipush (Int.negSucc 4), .istore_n 1, .aload_n 0, .iconst 0, .iconst 0] (by decide +kernel) (And.intro trivial ?_)
    refine z_callV hX kw_X12_349 (c_M_mostHoles E K N Rf I L hg hG hB hd (i := 0) (j := 0) (by omega) (by omega)) rfl rfl rfl rfl rfl (by decide +kernel) (by decide) (by decide) (by decide) (by decide) (Nat.le_of_ble_eq_true rfl) ?_
    rintro _ _ ⟨I2, rfl, rfl, h3⟩
    refine bk hX lkX12_ok (pc' := 22) [.istore_n 2, .iconst 0, .istore_n 3] (by decide +kernel) (And.intro trivial ?_)
    refine z_lvk (lv' := [(0, _), (1, _), (2, _), (3, _)]) [3, 2, 1, 0] rfl ?_
    exact hl (gn g) 0 (-nI 5, mhS g (rdS w) 0 0) I2 (by omega) (mhS_le _ _ _ _) h3 (by unfold trS; rw [if_neg hn0])
  · refine bk hX lkX12_ok (pc' := 9) [.bipush (Int.negSucc 4)] (by decide +kernel) (And.intro trivial ?_)
    exact z_iret hX (by decide +kernel) rfl (rfl) (by decide) (by decide) (⟨I, rfl, by unfold trS; rw [if_pos (nI_inj (b := 0) (by omega) (by decide) c0)], sE_rf _⟩)
theorem sw7 (x : Int32) : x = nI 0 ∨ x = nI 1 ∨ x = nI 2 ∨ x = nI 3 ∨ x = nI 4 ∨ x = nI 5 ∨ x = nI 6 ∨ ¬ isIn x 7 = true := by
  by_cases h7 : isIn x 7 = true
  · obtain ⟨k, hk, rfl⟩ := (isIn_iff (by decide)).mp h7
    have hk7 : k = 0 ∨ k = 1 ∨ k = 2 ∨ k = 3 ∨ k = 4 ∨ k = 5 ∨ k = 6 := by omega
    rcases hk7 with rfl | rfl | rfl | rfl | rfl | rfl | rfl <;> simp
  · exact Or.inr (Or.inr (Or.inr (Or.inr (Or.inr (Or.inr (Or.inr h7))))))
theorem sw_out {x : Int32} {n : Nat} {hi : Int} (h : ¬ isIn x n = true) (e : hi + 1 = (n : Int)) : x.toInt < 0 ∨ hi < x.toInt := by
  unfold isIn at h
  rw [decide_eq_true_iff] at h
  omega
def toldS (g : Gv) (w : Wk) (x : Int32) : Int32 := if isIn (x - nI 10) (gn g) = true then nI (gh g (jx (x - nI 10))) else if isIn x 7 = true then (if jx x = 0 then nI (gd g) else if jx x = 1 then nI (rdS w) else if jx x = 2 then nI (ahN g (gn g)) else if jx x = 3 then atN g w (gn g) else if jx x = 4 then nI (swL (gc g) (gn g) 0 0 0) else if jx x = 5 then fsL (gc g) (gn g) 0 else trS g (rdS w)) else -nI 1001
theorem toldS_k {g : Gv} {w : Wk} {k : Nat} (hk : k < 7) (h10 : ¬ isIn (nI k - nI 10) (gn g) = true) : toldS g w (nI k) = (if k = 0 then nI (gd g) else if k = 1 then nI (rdS w) else if k = 2 then nI (ahN g (gn g)) else if k = 3 then atN g w (gn g) else if k = 4 then nI (swL (gc g) (gn g) 0 0 0) else if k = 5 then fsL (gc g) (gn g) 0 else trS g (rdS w)) := by
  unfold toldS
  rw [if_neg h10, if_pos (isIn_nI hk (by decide)), jx_nI (by omega)]
theorem c_M_told (E : zE) (K N : Nat → Nat) (Rf : Nat → Nat → Option Nat) (I : Nat → Nat → Int32) (L : Nat → Nat → Int64) {g : Gv} (hg : gwf g) (hG : mG g I) {w : Wk} {b : Nat} (hB : mHB w b I) (hd : gd g ≤ 90000) (x : Int32) : zCt E mX12_told 7 0 0 (sg K N Rf I L) [.ref 100, .int x] (fun r σ' => ∃ I', σ' = sg K N Rf I' L ∧ r = some (.int (toldS g w x)) ∧ sE I I') := by
  have h6 := hg.1
  have hd2 : gd g < 1000000 := by omega
  refine z_intro (by decide) (Nat.le_of_ble_eq_true rfl) (fun X hX => ?_)
  refine bk hX lkX12_ok (pc' := 11) [.aload_n 0, .iload_n 1, .bipush 10, .bipush 9, .aload_n 0, .getfield 7, .iadd] (by decide +kernel) (And.intro trivial ?_)
  refine z_callV hX kw_X12_228 (c_M_in E _ _ _ _ _) rfl rfl rfl rfl rfl (by decide +kernel) (by decide) (by decide) (by decide) (by decide) (Nat.le_of_ble_eq_true rfl) ?_
  rintro _ _ ⟨rfl, hh⟩
  rw [hG.1, show (nI 9 : Int32) = nI (10 - 1) from rfl, in10 10 (by omega) h6] at hh
  rcases hh with ⟨h10, rfl⟩ | ⟨h10, rfl⟩
  · refine if_eq hX (13) 27 (by decide +kernel) (by decide) (fun c => absurd c (by decide)) (fun c_14 => ?_)
    obtain ⟨-, -, e10, l10⟩ := d10_20 h6 h10
    refine bk hX lkX12_ok (pc' := 26) [.aload_n 0, .getfield 29, .iload_n 1, .bipush 10, .isub, .iaload] (by decide +kernel) (And.intro (by rw [e10]; exact vin 6 (by omega)) (And.intro trivial ?_))
    exact z_iret hX (by decide +kernel) rfl (rfl) (by decide) (by decide) (⟨I, rfl, by rw [e10, cl (by omega), show I (101 + 6) (jx (x - nI 10)) = _ from mG_gh hG l10]; unfold toldS; rw [if_pos h10], sE_rf _⟩)
  · refine if_eq hX (13) 27 (by decide +kernel) (by decide) (fun c_14 => ?_) (fun c => absurd (by decide) c)
    refine bk hX lkX12_ok (pc' := 28) [.iload_n 1] (by decide +kernel) (And.intro trivial ?_)
    rcases sw7 x with rfl | rfl | rfl | rfl | rfl | rfl | rfl | h7
    · have ht := toldS_k (w := w) (k := 0) (by decide) h10
      refine z_tsw hX 72 (dflt := 79) (lo := 0) (hi := 6) (offs := #[44, 49, 54, 59, 64, 69, 74]) (len := 44) (off := 44) (by decide +kernel) (by decide) (by decide) ?_
      refine bk hX lkX12_ok (pc' := 76) [.aload_n 0, .getfield 16] (by decide +kernel) (And.intro trivial ?_)
      exact z_iret hX (by decide +kernel) rfl (rfl) (by decide) (by decide) (⟨I, rfl, by rw [ht, hG.2.2.1]; rfl, sE_rf _⟩)
    · have ht := toldS_k (w := w) (k := 1) (by decide) h10
      refine z_tsw hX 77 (dflt := 79) (lo := 0) (hi := 6) (offs := #[44, 49, 54, 59, 64, 69, 74]) (len := 44) (off := 49) (by decide +kernel) (by decide) (by decide) ?_
      refine bk hX lkX12_ok (pc' := 78) [.aload_n 0] (by decide +kernel) (And.intro trivial ?_)
      refine z_callV hX kw_X12_328 (c_M_round E K N Rf I L hB) rfl rfl rfl rfl rfl (by decide +kernel) (by decide) (by decide) (by decide) (by decide) (Nat.le_of_ble_eq_true rfl) ?_
      rintro _ _ ⟨rfl, rfl⟩
      exact z_iret hX (by decide +kernel) rfl (rfl) (by decide) (by decide) (⟨I, rfl, by rw [ht]; rfl, sE_rf _⟩)
    · have ht := toldS_k (w := w) (k := 2) (by decide) h10
      refine z_tsw hX 82 (dflt := 79) (lo := 0) (hi := 6) (offs := #[44, 49, 54, 59, 64, 69, 74]) (len := 44) (off := 54) (by decide +kernel) (by decide) (by decide) ?_
      refine bk hX lkX12_ok (pc' := 83) [.aload_n 0] (by decide +kernel) (And.intro trivial ?_)
      refine z_callV hX kw_X12_343 (c_M_allHoles E K N Rf I L hg hG) rfl rfl rfl rfl rfl (by decide +kernel) (by decide) (by decide) (by decide) (by decide) (Nat.le_of_ble_eq_true rfl) ?_
      rintro _ _ ⟨rfl, rfl⟩
      exact z_iret hX (by decide +kernel) rfl (rfl) (by decide) (by decide) (⟨I, rfl, by rw [ht]; rfl, sE_rf _⟩)
    · have ht := toldS_k (w := w) (k := 3) (by decide) h10
      refine z_tsw hX 87 (dflt := 79) (lo := 0) (hi := 6) (offs := #[44, 49, 54, 59, 64, 69, 74]) (len := 44) (off := 59) (by decide +kernel) (by decide) (by decide) ?_
      refine bk hX lkX12_ok (pc' := 88) [.aload_n 0] (by decide +kernel) (And.intro trivial ?_)
      refine z_callV hX kw_X12_352 (c_M_allTemper E K N Rf I L hg hG hd2 hB) rfl rfl rfl rfl rfl (by decide +kernel) (by decide) (by decide) (by decide) (by decide) (Nat.le_of_ble_eq_true rfl) ?_
      rintro _ _ ⟨I2, rfl, q3, rfl⟩
      exact z_iret hX (by decide +kernel) rfl (rfl) (by decide) (by decide) (⟨I2, rfl, by rw [ht]; rfl, sE_pile q3⟩)
    · have ht := toldS_k (w := w) (k := 4) (by decide) h10
      refine z_tsw hX 92 (dflt := 79) (lo := 0) (hi := 6) (offs := #[44, 49, 54, 59, 64, 69, 74]) (len := 44) (off := 64) (by decide +kernel) (by decide) (by decide) ?_
      refine bk hX lkX12_ok (pc' := 93) [.aload_n 0] (by decide +kernel) (And.intro trivial ?_)
      refine z_callV hX kw_X12_355 (c_M_swapsOf E K N Rf I L hg hG) rfl rfl rfl rfl rfl (by decide +kernel) (by decide) (by decide) (by decide) (by decide) (Nat.le_of_ble_eq_true rfl) ?_
      rintro _ _ ⟨rfl, rfl⟩
      exact z_iret hX (by decide +kernel) rfl (rfl) (by decide) (by decide) (⟨I, rfl, by rw [ht]; rfl, sE_rf _⟩)
    · have ht := toldS_k (w := w) (k := 5) (by decide) h10
      refine z_tsw hX 97 (dflt := 79) (lo := 0) (hi := 6) (offs := #[44, 49, 54, 59, 64, 69, 74]) (len := 44) (off := 69) (by decide +kernel) (by decide) (by decide) ?_
      refine bk hX lkX12_ok (pc' := 98) [.aload_n 0] (by decide +kernel) (And.intro trivial ?_)
      refine z_callV hX kw_X12_358 (c_M_firstSwap E K N Rf I L hg hG) rfl rfl rfl rfl rfl (by decide +kernel) (by decide) (by decide) (by decide) (by decide) (Nat.le_of_ble_eq_true rfl) ?_
      rintro _ _ ⟨rfl, rfl⟩
      exact z_iret hX (by decide +kernel) rfl (rfl) (by decide) (by decide) (⟨I, rfl, by rw [ht]; rfl, sE_rf _⟩)
    · have ht := toldS_k (w := w) (k := 6) (by decide) h10
      refine z_tsw hX 102 (dflt := 79) (lo := 0) (hi := 6) (offs := #[44, 49, 54, 59, 64, 69, 74]) (len := 44) (off := 74) (by decide +kernel) (by decide) (by decide) ?_
      refine bk hX lkX12_ok (pc' := 103) [.aload_n 0] (by decide +kernel) (And.intro trivial ?_)
      refine z_callV hX kw_X12_361 (c_M_tradeOf E K N Rf I L hg hG hB hd) rfl rfl rfl rfl rfl (by decide +kernel) (by decide) (by decide) (by decide) (by decide) (Nat.le_of_ble_eq_true rfl) ?_
      rintro _ _ ⟨I2, rfl, rfl, h3⟩
      exact z_iret hX (by decide +kernel) rfl (rfl) (by decide) (by decide) (⟨I2, rfl, by rw [ht]; rfl, h3⟩)
    · refine z_tsw hX 107 (dflt := 79) (lo := 0) (hi := 6) (offs := #[44, 49, 54, 59, 64, 69, 74]) (len := 44) (off := 79) (by decide +kernel) (Or.inl ⟨sw_out h7 (by decide), rfl⟩) (by decide) ?_
      refine bk hX lkX12_ok (pc' := 110) [.sipush (Int.negSucc 1000)] (by decide +kernel) (And.intro trivial ?_)
      exact z_iret hX (by decide +kernel) rfl (rfl) (by decide) (by decide) (⟨I, rfl, by unfold toldS; rw [if_neg h10, if_neg h7], sE_rf _⟩)
def ofS (g : Gv) (w : Wk) (x what : Int32) : Int32 := if isIn x (gn g) = true then (if isIn (what - nI 10) (gn g) = true then tmS g w (jx x) (jx (what - nI 10)) else if isIn what 7 = true then (if jx what = 0 then nI (gk g (jx x)) else if jx what = 1 then nI (gv g (jx x)) else if jx what = 2 then b2i (atB (ga g) (jx x)) else if jx what = 3 then nI (gc g (jx x)) else if jx what = 4 then nI (rg (gc g) (jx x)) else if jx what = 5 then tmS g w (jx x) (gc g (jx x)) else nI (pn (gk g (jx x)) (gv g (jx x)) (gd g) (gh g (gc g (jx x))) (gr g (4 * jx x + gd g % 4)))) else -nI 1001) else -nI 1001
theorem ofS_k {g : Gv} {w : Wk} {p k : Nat} (hp : p < gn g) (h6 : gn g ≤ 6) (hk : k < 7) (h10 : ¬ isIn (nI k - nI 10) (gn g) = true) : ofS g w (nI p) (nI k) = (if k = 0 then nI (gk g p) else if k = 1 then nI (gv g p) else if k = 2 then b2i (atB (ga g) p) else if k = 3 then nI (gc g p) else if k = 4 then nI (rg (gc g) p) else if k = 5 then tmS g w p (gc g p) else nI (pn (gk g p) (gv g p) (gd g) (gh g (gc g p)) (gr g (4 * p + gd g % 4)))) := by
  unfold ofS
  rw [if_pos (isIn_nI hp (by omega)), if_neg h10, if_pos (isIn_nI hk (by decide)), jx_nI (by omega), jx_nI (by omega)]
theorem c_M_of (E : zE) (K N : Nat → Nat) (Rf : Nat → Nat → Option Nat) (I : Nat → Nat → Int32) (L : Nat → Nat → Int64) {g : Gv} (hg : gwf g) (hG : mG g I) {w : Wk} {b : Nat} (hB : mHB w b I) (hd : gd g ≤ 90000) (x what : Int32) : zCt E mX12_of 6 0 0 (sg K N Rf I L) [.ref 100, .int x, .int what] (fun r σ' => ∃ I', σ' = sg K N Rf I' L ∧ r = some (.int (ofS g w x what)) ∧ sE I I') := by
  have h6 := hg.1
  have hd2 : gd g < 1000000 := by omega
  refine z_intro (by decide) (Nat.le_of_ble_eq_true rfl) (fun X hX => ?_)
  refine bk hX lkX12_ok (pc' := 2) [.aload_n 0, .iload_n 1] (by decide +kernel) (And.intro trivial ?_)
  refine z_callV hX kw_X12_232 (c_M_isWorker E K N Rf I L _ hg.1 hG.1) rfl rfl rfl rfl rfl (by decide +kernel) (by decide) (by decide) (by decide) (by decide) (Nat.le_of_ble_eq_true rfl) ?_
  rintro _ _ ⟨rfl, hh⟩
  rw [← isIn_iff (by omega)] at hh
  rcases hh with ⟨hx, rfl⟩ | ⟨hx, rfl⟩
  · refine if_ne hX (7) 12 (by decide +kernel) (by decide) (fun c_5 => ?_) (fun c => absurd c (by decide))
    obtain ⟨p, hp, rfl⟩ := (isIn_iff (by omega)).mp hx
    have hjp : jx (nI p) = p := jx_nI (by omega)
    have hcp := (hg.2.1 p hp).2.2.1
    have cp : (nI p).toNatClampNeg = p := cl (by omega)
    have cc : (nI (gc g p)).toNatClampNeg = gc g p := cl (by omega)
    refine bk hX lkX12_ok (pc' := 23) [.aload_n 0, .iload_n 2, .bipush 10, .bipush 9, .aload_n 0, .getfield 7, .iadd] (by decide +kernel) (And.intro trivial ?_)
    refine z_callV hX kw_X12_228 (c_M_in E _ _ _ _ _) rfl rfl rfl rfl rfl (by decide +kernel) (by decide) (by decide) (by decide) (by decide) (Nat.le_of_ble_eq_true rfl) ?_
    rintro _ _ ⟨rfl, hh⟩
    rw [hG.1, show (nI 9 : Int32) = nI (10 - 1) from rfl, in10 10 (by omega) h6] at hh
    rcases hh with ⟨h10, rfl⟩ | ⟨h10, rfl⟩
    · refine if_eq hX (13) 39 (by decide +kernel) (by decide) (fun c => absurd c (by decide)) (fun c_26 => ?_)
      refine bk hX lkX12_ok (pc' := 35) [.aload_n 0, .iload_n 1, .iload_n 2, .bipush 10, .isub] (by decide +kernel) (And.intro trivial ?_)
      obtain ⟨-, -, e10, l10⟩ := d10_20 h6 h10
      rw [e10]
      refine z_callV hX kw_X12_313 (c_M_temper E K N Rf I L hg hG hd2 hB hp l10) rfl rfl rfl rfl rfl (by decide +kernel) (by decide) (by decide) (by decide) (by decide) (Nat.le_of_ble_eq_true rfl) ?_
      rintro _ _ ⟨I2, rfl, q3, rfl⟩
      exact z_iret hX (by decide +kernel) rfl (rfl) (by decide) (by decide) (⟨I2, rfl, by unfold ofS; rw [if_pos hx, if_pos h10, hjp], sE_pile q3⟩)
    · refine if_eq hX (13) 39 (by decide +kernel) (by decide) (fun c_26 => ?_) (fun c => absurd (by decide) c)
      refine bk hX lkX12_ok (pc' := 40) [.iload_n 2] (by decide +kernel) (And.intro trivial ?_)
      rcases sw7 what with rfl | rfl | rfl | rfl | rfl | rfl | rfl | h7
      · have ht := ofS_k (w := w) (k := 0) hp h6 (by decide) h10
        refine z_tsw hX 84 (dflt := 118) (lo := 0) (hi := 6) (offs := #[44, 51, 58, 76, 83, 89, 101]) (len := 44) (off := 44) (by decide +kernel) (by decide) (by decide) ?_
        refine bk hX lkX12_ok (pc' := 90) [.aload_n 0, .getfield 19, .iload_n 1, .iaload] (by decide +kernel) (And.intro (by exact vin 6 (by omega)) (And.intro trivial ?_))
        exact z_iret hX (by decide +kernel) rfl (rfl) (by decide) (by decide) (⟨I, rfl, by rw [ht, cp, show I (101 + 3) p = _ from (hG.2.2.2 p hp).1]; rfl, sE_rf _⟩)
      · have ht := ofS_k (w := w) (k := 1) hp h6 (by decide) h10
        refine z_tsw hX 91 (dflt := 118) (lo := 0) (hi := 6) (offs := #[44, 51, 58, 76, 83, 89, 101]) (len := 44) (off := 51) (by decide +kernel) (by decide) (by decide) ?_
        refine bk hX lkX12_ok (pc' := 97) [.aload_n 0, .getfield 23, .iload_n 1, .iaload] (by decide +kernel) (And.intro (by exact vin 6 (by omega)) (And.intro trivial ?_))
        exact z_iret hX (by decide +kernel) rfl (rfl) (by decide) (by decide) (⟨I, rfl, by rw [ht, cp, show I (101 + 4) p = _ from (hG.2.2.2 p hp).2.1]; rfl, sE_rf _⟩)
      · have ht := ofS_k (w := w) (k := 2) hp h6 (by decide) h10
        refine z_tsw hX 98 (dflt := 118) (lo := 0) (hi := 6) (offs := #[44, 51, 58, 76, 83, 89, 101]) (len := 44) (off := 58) (by decide +kernel) (by decide) (by decide) ?_
        refine bk hX lkX12_ok (pc' := 104) [.aload_n 0, .aload_n 0, .getfield 13, .iload_n 1] (by decide +kernel) (And.intro trivial ?_)
        refine z_callV hX kw_X12_224 (c_M_has E _ _ _ _) rfl rfl rfl rfl rfl (by decide +kernel) (by decide) (by decide) (by decide) (by decide) (Nat.le_of_ble_eq_true rfl) ?_
        rintro _ _ ⟨rfl, hh⟩
        rw [hG.2.1] at hh
        rcases hh with ⟨hb, rfl⟩ | ⟨hb, rfl⟩
        · refine if_eq hX (7) 114 (by decide +kernel) (by decide) (fun c => absurd c (by decide)) (fun c_107 => ?_)
          refine bk hX lkX12_ok (pc' := 111) [.iconst 1] (by decide +kernel) (And.intro trivial ?_)
          refine gt_ hX (4) 115 (by decide +kernel) (by decide) ?_
          exact z_iret hX (by decide +kernel) rfl (rfl) (by decide) (by decide) (⟨I, rfl, by rw [ht]; first | (rw [show atB (ga g) p = true from atB_t hb]; rfl) | (rw [show atB (ga g) p = false from Bool.eq_false_iff.mpr (atB_f hb)]; rfl), sE_rf _⟩)
        · refine if_eq hX (7) 114 (by decide +kernel) (by decide) (fun c_107 => ?_) (fun c => absurd (by decide) c)
          refine bk hX lkX12_ok (pc' := 115) [.iconst 0] (by decide +kernel) (And.intro trivial ?_)
          exact z_iret hX (by decide +kernel) rfl (rfl) (by decide) (by decide) (⟨I, rfl, by rw [ht]; first | (rw [show atB (ga g) p = true from atB_t hb]; rfl) | (rw [show atB (ga g) p = false from Bool.eq_false_iff.mpr (atB_f hb)]; rfl), sE_rf _⟩)
      · have ht := ofS_k (w := w) (k := 3) hp h6 (by decide) h10
        refine z_tsw hX 116 (dflt := 118) (lo := 0) (hi := 6) (offs := #[44, 51, 58, 76, 83, 89, 101]) (len := 44) (off := 76) (by decide +kernel) (by decide) (by decide) ?_
        refine bk hX lkX12_ok (pc' := 122) [.aload_n 0, .getfield 26, .iload_n 1, .iaload] (by decide +kernel) (And.intro (by exact vin 6 (by omega)) (And.intro trivial ?_))
        exact z_iret hX (by decide +kernel) rfl (rfl) (by decide) (by decide) (⟨I, rfl, by rw [ht, cp, show I (101 + 5) p = _ from (hG.2.2.2 p hp).2.2.1]; rfl, sE_rf _⟩)
      · have ht := ofS_k (w := w) (k := 4) hp h6 (by decide) h10
        refine z_tsw hX 123 (dflt := 118) (lo := 0) (hi := 6) (offs := #[44, 51, 58, 76, 83, 89, 101]) (len := 44) (off := 83) (by decide +kernel) (by decide) (by decide) ?_
        refine bk hX lkX12_ok (pc' := 125) [.aload_n 0, .iload_n 1] (by decide +kernel) (And.intro trivial ?_)
        refine z_callV hX kw_X12_319 (c_M_ring E K N Rf I L hg hG hp) rfl rfl rfl rfl rfl (by decide +kernel) (by decide) (by decide) (by decide) (by decide) (Nat.le_of_ble_eq_true rfl) ?_
        rintro _ _ ⟨rfl, rfl⟩
        exact z_iret hX (by decide +kernel) rfl (rfl) (by decide) (by decide) (⟨I, rfl, by rw [ht]; rfl, sE_rf _⟩)
      · have ht := ofS_k (w := w) (k := 5) hp h6 (by decide) h10
        refine z_tsw hX 129 (dflt := 118) (lo := 0) (hi := 6) (offs := #[44, 51, 58, 76, 83, 89, 101]) (len := 44) (off := 89) (by decide +kernel) (by decide) (by decide) ?_
        refine bk hX lkX12_ok (pc' := 137) [.aload_n 0, .iload_n 1, .aload_n 0, .getfield 26, .iload_n 1, .iaload] (by decide +kernel) (And.intro (by exact vin 6 (by omega)) (And.intro trivial ?_))
        rw [cp, show I (101 + 5) p = _ from (hG.2.2.2 p hp).2.2.1]
        refine z_callV hX kw_X12_313 (c_M_temper E K N Rf I L hg hG hd2 hB hp hcp) rfl rfl rfl rfl rfl (by decide +kernel) (by decide) (by decide) (by decide) (by decide) (Nat.le_of_ble_eq_true rfl) ?_
        rintro _ _ ⟨I2, rfl, q3, rfl⟩
        exact z_iret hX (by decide +kernel) rfl (rfl) (by decide) (by decide) (⟨I2, rfl, by rw [ht]; rfl, sE_pile q3⟩)
      · have ht := ofS_k (w := w) (k := 6) hp h6 (by decide) h10
        refine z_tsw hX 141 (dflt := 118) (lo := 0) (hi := 6) (offs := #[44, 51, 58, 76, 83, 89, 101]) (len := 44) (off := 101) (by decide +kernel) (by decide) (by decide) ?_
        refine bk hX lkX12_ok (pc' := 154) [.aload_n 0, .iload_n 1, .aload_n 0, .getfield 29, .aload_n 0, .getfield 26, .iload_n 1, .iaload, .iaload] (by decide +kernel) (And.intro (by exact vin 6 (by omega)) (And.intro (by rw [cp, show I (101 + 5) p = _ from (hG.2.2.2 p hp).2.2.1]; exact vin 6 (by omega)) (And.intro trivial ?_)))
        rw [cp, show I (101 + 5) p = _ from (hG.2.2.2 p hp).2.2.1, cc, show I (101 + 6) (gc g p) = _ from mG_gh hG hcp]
        refine z_callV hX kw_X12_325 (c_M_punches E K N Rf I L hg hG hd2 p hp (hg.2.1 _ hcp).2.2.2.1) rfl rfl rfl rfl rfl (by decide +kernel) (by decide) (by decide) (by decide) (by decide) (Nat.le_of_ble_eq_true rfl) ?_
        rintro _ _ ⟨rfl, rfl⟩
        exact z_iret hX (by decide +kernel) rfl (rfl) (by decide) (by decide) (⟨I, rfl, by rw [ht]; rfl, sE_rf _⟩)
      · refine z_tsw hX 158 (dflt := 118) (lo := 0) (hi := 6) (offs := #[44, 51, 58, 76, 83, 89, 101]) (len := 44) (off := 118) (by decide +kernel) (Or.inl ⟨sw_out h7 (by decide), rfl⟩) (by decide) ?_
        refine bk hX lkX12_ok (pc' := 161) [.sipush (Int.negSucc 1000)] (by decide +kernel) (And.intro trivial ?_)
        exact z_iret hX (by decide +kernel) rfl (rfl) (by decide) (by decide) (⟨I, rfl, by unfold ofS; rw [if_pos hx, if_neg h10, if_neg h7], sE_rf _⟩)
  · refine if_ne hX (7) 12 (by decide +kernel) (by decide) (fun c => absurd (by decide) c) (fun c_5 => ?_)
    refine bk hX lkX12_ok (pc' := 11) [.sipush (Int.negSucc 1000)] (by decide +kernel) (And.intro trivial ?_)
    exact z_iret hX (by decide +kernel) rfl (rfl) (by decide) (by decide) (⟨I, rfl, by unfold ofS; rw [if_neg hx], sE_rf _⟩)
end
section
/-- only the gate's cells -/
def frG (I I' : Nat → Nat → Int32) : Prop := (∀ q, q ∉ [104, 105, 106, 107, 108, 127] → q ≠ 100 → I' q = I q) ∧ (∀ k, k ∉ [0, 1, 2] → I' 100 k = I 100 k)
theorem frG_rf (I : Nat → Nat → Int32) : frG I I := ⟨fun _ _ _ => rfl, fun _ _ => rfl⟩
theorem frG_D {n : Nat} {I I1 : Nat → Nat → Int32} (h : frD n I I1) : frG I I1 := ⟨fun q a b => h.1 q (fun z => a (by rw [z]; decide)) (fun z => a (by rw [z]; decide)) (fun z => a (by rw [z]; decide)) b, fun k a => h.2.1 k (fun z => a (by rw [z]; decide))⟩
theorem frG_at {I : Nat → Nat → Int32} {p k : Nat} {v : Int32} (h : p ∈ [104, 105, 106, 107, 108, 127]) : frG I (up2 I p k v) := ⟨fun q a b => up2_ne _ _ _ (fun z => a (by rw [z]; exact h)), fun j a => by rw [up2_ne _ _ _ (fun z => by rw [← z] at h; exact absurd h (by decide))]⟩
theorem frG_f {I : Nat → Nat → Int32} {k : Nat} {v : Int32} (h : k ∈ [0, 1, 2]) : frG I (up2 I 100 k v) := ⟨fun q a b => up2_ne _ _ _ b, fun j a => by rw [up2_at, if_neg (fun z => a (by rw [z]; exact h))]⟩
theorem frG_tr {I I1 I2 : Nat → Nat → Int32} (h1 : frG I I1) (h2 : frG I1 I2) : frG I I2 := ⟨fun q a b => (h2.1 q a b).trans (h1.1 q a b), fun k a => (h2.2 k a).trans (h1.2 k a)⟩
theorem hol_in {x : Int32} : (∃ j, j ≤ 1023 ∧ x = nI j) ↔ isIn x 1024 = true := by
  rw [isIn_iff (by decide)]
  exact ⟨fun ⟨j, h, e⟩ => ⟨j, by omega, e⟩, fun ⟨j, h, e⟩ => ⟨j, by omega, e⟩⟩
def setS (g : Gv) (c h : Int32) : Int32 × Gv := if isIn c (gn g) = true then (if isIn h 1024 = true then (nI (gh g (jx c)), (gn g, gk g, gv g, gc g, upN (gh g) (jx c) (jx h), gr g, ga g, gd g)) else (-nI 2, g)) else (-nI 1, g)
theorem c_M_set (E : zE) (K N : Nat → Nat) (Rf : Nat → Nat → Option Nat) (I : Nat → Nat → Int32) (L : Nat → Nat → Int64) {g : Gv} (hg : gwf g) (hG : mG g I) (c h : Int32) : zCt E mX12_set 2 0 0 (sg K N Rf I L) [.ref 100, .int c, .int h] (fun r σ' => ∃ I', σ' = sg K N Rf I' L ∧ r = some (.int (setS g c h).1) ∧ mG (setS g c h).2 I' ∧ frG I I') := by
  have h6 := hg.1
  refine z_intro (by decide) (Nat.le_of_ble_eq_true rfl) (fun X hX => ?_)
  refine bk hX lkX12_ok (pc' := 2) [.aload_n 0, .iload_n 1] (by decide +kernel) (And.intro trivial ?_)
  refine z_callV hX kw_X12_232 (c_M_isWorker E K N Rf I L _ hg.1 hG.1) rfl rfl rfl rfl rfl (by decide +kernel) (by decide) (by decide) (by decide) (by decide) (Nat.le_of_ble_eq_true rfl) ?_
  rintro _ _ ⟨rfl, hh⟩
  rw [← isIn_iff (by omega)] at hh
  rcases hh with ⟨hc, rfl⟩ | ⟨hc, rfl⟩
  · refine if_ne hX (5) 10 (by decide +kernel) (by decide) (fun c_5 => ?_) (fun c => absurd c (by decide))
    refine bk hX lkX12_ok (pc' := 12) [.aload_n 0, .iload_n 2] (by decide +kernel) (And.intro trivial ?_)
    refine z_callV hX kw_X12_236 (c_M_isHoles E _ rfl _) rfl rfl rfl rfl rfl (by decide +kernel) (by decide) (by decide) (by decide) (by decide) (Nat.le_of_ble_eq_true rfl) ?_
    rintro _ _ ⟨rfl, hh⟩
    rw [hol_in] at hh
    rcases hh with ⟨hh1, rfl⟩ | ⟨hh1, rfl⟩
    · refine if_ne hX (6) 21 (by decide +kernel) (by decide) (fun c_15 => ?_) (fun c => absurd c (by decide))
      obtain ⟨c, hcn, rfl⟩ := (isIn_iff (by omega)).mp hc
      obtain ⟨x, hx, rfl⟩ := (isIn_iff (by decide)).mp hh1
      have cc : (nI c).toNatClampNeg = c := cl (by omega)
      refine bk hX lkX12_ok (pc' := 36) [.aload_n 0, .getfield 29, .iload_n 1, .iaload, .istore_n 3, .aload_n 0, .getfield 29, .iload_n 1, .iload_n 2, .iastore, .iload_n 3] (by decide +kernel) (And.intro (by exact vin 6 (by omega)) (And.intro (by exact vin 6 (by omega)) (And.intro trivial ?_)))
      exact z_iret hX (by decide +kernel) rfl (rfl) (by decide) (by decide) (by
  refine ⟨_, rfl, ?_, ?_, frG_at (by decide)⟩
  · unfold setS; rw [if_pos hc, if_pos hh1, jx_nI (by omega), cc, show I (101 + 6) c = _ from mG_gh hG hcn]
  · unfold setS; rw [if_pos hc, if_pos hh1, jx_nI (by omega), jx_nI (by omega)]
    refine mG_ho hG (fun q hq => up2_ne _ _ _ hq) (fun k hk => ?_)
    show up2 I 107 (nI c).toNatClampNeg (nI x) 107 k = _
    rw [up2_at, cc]
    unfold upN
    split
    · rfl
    · exact mG_gh hG hk)
    · refine if_ne hX (6) 21 (by decide +kernel) (by decide) (fun c => absurd (by decide) c) (fun c_15 => ?_)
      refine bk hX lkX12_ok (pc' := 20) [.bipush (Int.negSucc 1)] (by decide +kernel) (And.intro trivial ?_)
      exact z_iret hX (by decide +kernel) rfl (rfl) (by decide) (by decide) (⟨I, rfl, by unfold setS; rw [if_pos hc, if_neg hh1], by unfold setS; rw [if_pos hc, if_neg hh1]; exact hG, frG_rf _⟩)
  · refine if_ne hX (5) 10 (by decide +kernel) (by decide) (fun c => absurd (by decide) c) (fun c_5 => ?_)
    refine bk hX lkX12_ok (pc' := 9) [.iconst (Int.negSucc 0)] (by decide +kernel) (And.intro trivial ?_)
    exact z_iret hX (by decide +kernel) rfl (rfl) (by decide) (by decide) (⟨I, rfl, by unfold setS; rw [if_neg hc], by unfold setS; rw [if_neg hc]; exact hG, frG_rf _⟩)
def swpS (g : Gv) (x y : Int32) : Int32 × Gv := if isIn x (gn g) = true ∧ isIn y (gn g) = true then (if x = y then (-nI 2, g) else (nI (gc g (jx y)), swG g (jx x) (jx y))) else (-nI 1, g)
theorem c_M_swap (E : zE) (K N : Nat → Nat) (Rf : Nat → Nat → Option Nat) (I : Nat → Nat → Int32) (L : Nat → Nat → Int64) {g : Gv} (hg : gwf g) (hG : mG g I) (x y : Int32) : zCt E mX12_swap 2 0 0 (sg K N Rf I L) [.ref 100, .int x, .int y] (fun r σ' => ∃ I', σ' = sg K N Rf I' L ∧ r = some (.int (swpS g x y).1) ∧ mG (swpS g x y).2 I' ∧ frG I I') := by
  have h6 := hg.1
  refine z_intro (by decide) (Nat.le_of_ble_eq_true rfl) (fun X hX => ?_)
  refine bk hX lkX12_ok (pc' := 2) [.aload_n 0, .iload_n 1] (by decide +kernel) (And.intro trivial ?_)
  refine z_callV hX kw_X12_232 (c_M_isWorker E K N Rf I L _ hg.1 hG.1) rfl rfl rfl rfl rfl (by decide +kernel) (by decide) (by decide) (by decide) (by decide) (Nat.le_of_ble_eq_true rfl) ?_
  rintro _ _ ⟨rfl, hh⟩
  rw [← isIn_iff (by omega)] at hh
  rcases hh with ⟨hx, rfl⟩ | ⟨hx, rfl⟩
  · refine if_eq hX (11) 16 (by decide +kernel) (by decide) (fun c => absurd c (by decide)) (fun c_5 => ?_)
    refine bk hX lkX12_ok (pc' := 10) [.aload_n 0, .iload_n 2] (by decide +kernel) (And.intro trivial ?_)
    refine z_callV hX kw_X12_232 (c_M_isWorker E K N Rf I L _ hg.1 hG.1) rfl rfl rfl rfl rfl (by decide +kernel) (by decide) (by decide) (by decide) (by decide) (Nat.le_of_ble_eq_true rfl) ?_
    rintro _ _ ⟨rfl, hh⟩
    rw [← isIn_iff (by omega)] at hh
    rcases hh with ⟨hy, rfl⟩ | ⟨hy, rfl⟩
    · refine if_ne hX (5) 18 (by decide +kernel) (by decide) (fun c_13 => ?_) (fun c => absurd c (by decide))
      refine bk hX lkX12_ok (pc' := 20) [.iload_n 1, .iload_n 2] (by decide +kernel) (And.intro trivial ?_)
      refine ic_ne hX (6) 26 (by decide +kernel) (by decide) (fun ce => ?_) (fun ce => ?_)
      · obtain ⟨i, hi, rfl⟩ := (isIn_iff (by omega)).mp hx
        obtain ⟨j, hj, rfl⟩ := (isIn_iff (by omega)).mp hy
        have hij : i ≠ j := fun z => ce (by rw [z])
        refine bk hX lkX12_ok (pc' := 29) [.aload_n 0, .iload_n 1, .iload_n 2] (by decide +kernel) (And.intro trivial ?_)
        refine z_callV hX kw_X12_239 (c_M_swaps E K N Rf I L i j (by omega) (by omega)) rfl rfl rfl rfl rfl (by decide +kernel) (by decide) (by decide) (by decide) (by decide) (Nat.le_of_ble_eq_true rfl) ?_
        rintro _ _ ⟨rfl, rfl⟩
        refine bk hX lkX12_ok (pc' := 38) [.aload_n 0, .getfield 26, .iload_n 1, .iaload] (by decide +kernel) (And.intro (by exact vin 6 (by omega)) (And.intro trivial ?_))
        exact z_iret hX (by decide +kernel) rfl (rfl) (by decide) (by decide) (by
  refine ⟨_, rfl, ?_, ?_, frG_tr (frG_at (p := 106) (by decide)) (frG_at (p := 106) (by decide))⟩
  · unfold swpS; rw [if_pos ⟨hx, hy⟩, if_neg ce, jx_nI (by omega), cl (by omega)]
    show some (Value.int (up2 (up2 I 106 i (I 106 j)) 106 j (I 106 i) 106 i)) = _
    rw [up2_at, if_neg hij, up2_at, if_pos rfl, mG_gc hG hj]
  · unfold swpS; rw [if_pos ⟨hx, hy⟩, if_neg ce, jx_nI (by omega), jx_nI (by omega)]
    exact mG_sw hg hG hi hj)
      · refine bk hX lkX12_ok (pc' := 25) [.bipush (Int.negSucc 1)] (by decide +kernel) (And.intro trivial ?_)
        exact z_iret hX (by decide +kernel) rfl (rfl) (by decide) (by decide) (⟨I, rfl, by unfold swpS; rw [if_pos ⟨hx, hy⟩, if_pos ce], by unfold swpS; rw [if_pos ⟨hx, hy⟩, if_pos ce]; exact hG, frG_rf _⟩)
    · refine if_ne hX (5) 18 (by decide +kernel) (by decide) (fun c => absurd (by decide) c) (fun c_13 => ?_)
      refine bk hX lkX12_ok (pc' := 17) [.iconst (Int.negSucc 0)] (by decide +kernel) (And.intro trivial ?_)
      exact z_iret hX (by decide +kernel) rfl (rfl) (by decide) (by decide) (by first | exact ⟨I, rfl, by unfold swpS; rw [if_neg (fun z => hx z.1)], by unfold swpS; rw [if_neg (fun z => hx z.1)]; exact hG, frG_rf _⟩ | exact ⟨I, rfl, by unfold swpS; rw [if_neg (fun z => hy z.2)], by unfold swpS; rw [if_neg (fun z => hy z.2)]; exact hG, frG_rf _⟩)
  · refine if_eq hX (11) 16 (by decide +kernel) (by decide) (fun c_5 => ?_) (fun c => absurd (by decide) c)
    refine bk hX lkX12_ok (pc' := 17) [.iconst (Int.negSucc 0)] (by decide +kernel) (And.intro trivial ?_)
    exact z_iret hX (by decide +kernel) rfl (rfl) (by decide) (by decide) (by first | exact ⟨I, rfl, by unfold swpS; rw [if_neg (fun z => hx z.1)], by unfold swpS; rw [if_neg (fun z => hx z.1)]; exact hG, frG_rf _⟩ | exact ⟨I, rfl, by unfold swpS; rw [if_neg (fun z => hy z.2)], by unfold swpS; rw [if_neg (fun z => hy z.2)]; exact hG, frG_rf _⟩)
def rstS (a : Int32) (p : Int32) (is : Int32) : Int32 := if is = 0 then a &&& (nI 1 <<< (p &&& 31) ^^^ -nI 1) else a ||| nI 1 <<< (p &&& 31)
def homG (g : Gv) (p is : Int32) : Gv := (gn g, gk g, gv g, gc g, gh g, gr g, rstS (ga g) p is, gd g)
theorem mG_hom {g : Gv} {I : Nat → Nat → Int32} (hG : mG g I) (p is : Int32) : mG (homG g p is) (up2 I 100 1 (rstS (I 100 1) p is)) := by
  obtain ⟨a1, a2, a3, a4⟩ := hG
  have hne : ∀ q, q ≠ 100 → up2 I 100 1 (rstS (I 100 1) p is) q = I q := fun q h => up2_ne _ _ _ h
  refine ⟨?_, ?_, ?_, fun p hp => ?_⟩
  · rw [up2_at, if_neg (by decide)]; exact a1
  · rw [up2_at, if_pos rfl, a2]; rfl
  · rw [up2_at, if_neg (by decide)]; exact a3
  · rw [hne 104 (by decide), hne 105 (by decide), hne 106 (by decide), hne 107 (by decide), hne 108 (by decide)]
    exact a4 p hp
theorem gwf_hom {g : Gv} (hg : gwf g) (p is : Int32) : gwf (homG g p is) := hg
def stayS (g : Gv) (x is : Int32) : Int32 × Gv := if isIn x (gn g) = true then (b2i (atB (ga g) (jx x)), homG g x is) else (-nI 1, g)
theorem c_M_stay (E : zE) (K N : Nat → Nat) (Rf : Nat → Nat → Option Nat) (I : Nat → Nat → Int32) (L : Nat → Nat → Int64) {g : Gv} (hg : gwf g) (hG : mG g I) (x is : Int32) : zCt E mX12_stay 2 0 0 (sg K N Rf I L) [.ref 100, .int x, .int is] (fun r σ' => ∃ I', σ' = sg K N Rf I' L ∧ r = some (.int (stayS g x is).1) ∧ mG (stayS g x is).2 I' ∧ frG I I') := by
  have h6 := hg.1
  refine z_intro (by decide) (Nat.le_of_ble_eq_true rfl) (fun X hX => ?_)
  refine bk hX lkX12_ok (pc' := 2) [.aload_n 0, .iload_n 1] (by decide +kernel) (And.intro trivial ?_)
  refine z_callV hX kw_X12_232 (c_M_isWorker E K N Rf I L _ hg.1 hG.1) rfl rfl rfl rfl rfl (by decide +kernel) (by decide) (by decide) (by decide) (by decide) (Nat.le_of_ble_eq_true rfl) ?_
  rintro _ _ ⟨rfl, hh⟩
  rw [← isIn_iff (by omega)] at hh
  rcases hh with ⟨hx, rfl⟩ | ⟨hx, rfl⟩
  · refine if_ne hX (5) 10 (by decide +kernel) (by decide) (fun c_5 => ?_) (fun c => absurd c (by decide))
    obtain ⟨i, hi, rfl⟩ := (isIn_iff (by omega)).mp hx
    refine bk hX lkX12_ok (pc' := 16) [.aload_n 0, .aload_n 0, .getfield 13, .iload_n 1] (by decide +kernel) (And.intro trivial ?_)
    refine z_callV hX kw_X12_224 (c_M_has E _ _ _ _) rfl rfl rfl rfl rfl (by decide +kernel) (by decide) (by decide) (by decide) (by decide) (Nat.le_of_ble_eq_true rfl) ?_
    rintro _ _ ⟨rfl, hh⟩
    rw [hG.2.1] at hh
    rcases hh with ⟨hb, rfl⟩ | ⟨hb, rfl⟩
    · refine if_eq hX (7) 26 (by decide +kernel) (by decide) (fun c => absurd c (by decide)) (fun c_19 => ?_)
      refine bk hX lkX12_ok (pc' := 23) [.iconst 1] (by decide +kernel) (And.intro trivial ?_)
      refine gt_ hX (4) 27 (by decide +kernel) (by decide) ?_
      refine bk hX lkX12_ok (pc' := 31) [.istore_n 3, .aload_n 0, .iload_n 1, .iload_n 2] (by decide +kernel) (And.intro trivial ?_)
      refine z_callV hX kw_X12_243 (c_M_rests E K N Rf I L _ _) rfl rfl rfl rfl rfl (by decide +kernel) (by decide) (by decide) (by decide) (by decide) (Nat.le_of_ble_eq_true rfl) ?_
      rintro _ _ ⟨rfl, rfl⟩
      refine bk hX lkX12_ok (pc' := 35) [.iload_n 3] (by decide +kernel) (And.intro trivial ?_)
      exact z_iret hX (by decide +kernel) rfl (rfl) (by decide) (by decide) (by
  refine ⟨_, rfl, ?_, ?_, frG_f (by decide)⟩
  · unfold stayS; rw [if_pos hx, jx_nI (by omega)]
    first
      | (rw [show atB (ga g) i = true from atB_t hb]; rfl)
      | (rw [show atB (ga g) i = false from Bool.eq_false_iff.mpr (atB_f hb)]; rfl)
  · unfold stayS; rw [if_pos hx]
    exact mG_hom hG (nI i) is)
    · refine if_eq hX (7) 26 (by decide +kernel) (by decide) (fun c_19 => ?_) (fun c => absurd (by decide) c)
      refine bk hX lkX12_ok (pc' := 31) [.iconst 0, .istore_n 3, .aload_n 0, .iload_n 1, .iload_n 2] (by decide +kernel) (And.intro trivial ?_)
      refine z_callV hX kw_X12_243 (c_M_rests E K N Rf I L _ _) rfl rfl rfl rfl rfl (by decide +kernel) (by decide) (by decide) (by decide) (by decide) (Nat.le_of_ble_eq_true rfl) ?_
      rintro _ _ ⟨rfl, rfl⟩
      refine bk hX lkX12_ok (pc' := 35) [.iload_n 3] (by decide +kernel) (And.intro trivial ?_)
      exact z_iret hX (by decide +kernel) rfl (rfl) (by decide) (by decide) (by
  refine ⟨_, rfl, ?_, ?_, frG_f (by decide)⟩
  · unfold stayS; rw [if_pos hx, jx_nI (by omega)]
    first
      | (rw [show atB (ga g) i = true from atB_t hb]; rfl)
      | (rw [show atB (ga g) i = false from Bool.eq_false_iff.mpr (atB_f hb)]; rfl)
  · unfold stayS; rw [if_pos hx]
    exact mG_hom hG (nI i) is)
  · refine if_ne hX (5) 10 (by decide +kernel) (by decide) (fun c => absurd (by decide) c) (fun c_5 => ?_)
    refine bk hX lkX12_ok (pc' := 9) [.iconst (Int.negSucc 0)] (by decide +kernel) (And.intro trivial ?_)
    exact z_iret hX (by decide +kernel) rfl (rfl) (by decide) (by decide) (⟨I, rfl, by unfold stayS; rw [if_neg hx], by unfold stayS; rw [if_neg hx]; exact hG, frG_rf _⟩)
def rowS (g : Gv) (x pt n : Int32) : Int32 × Gv := if isIn x (gn g) = true ∧ isIn pt 4 = true then (if isIn n 10 = true then (if gk g (jx x) = 6 then (nI (gr g (4 * jx x + jx pt)), (gn g, gk g, gv g, gc g, gh g, upN (gr g) (4 * jx x + jx pt) (jx n), ga g, gd g)) else (-nI 3, g)) else (-nI 2, g)) else (-nI 1, g)
theorem in_ix {x : Int32} (n : Nat) (hn : n < 2 ^ 30) : (nI 0 ≤ x ∧ x ≤ nI n) ↔ isIn x (n + 1) = true := by
  rw [i_le (by omega), isIn_iff (by omega)]
  exact ⟨fun ⟨j, h, e⟩ => ⟨j, by omega, e⟩, fun ⟨j, h, e⟩ => ⟨j, by omega, e⟩⟩
theorem c_M_row (E : zE) (K N : Nat → Nat) (Rf : Nat → Nat → Option Nat) (I : Nat → Nat → Int32) (L : Nat → Nat → Int64) {g : Gv} (hg : gwf g) (hG : mG g I) (x pt n : Int32) : zCt E mX12_row 2 0 0 (sg K N Rf I L) [.ref 100, .int x, .int pt, .int n] (fun r σ' => ∃ I', σ' = sg K N Rf I' L ∧ r = some (.int (rowS g x pt n).1) ∧ mG (rowS g x pt n).2 I' ∧ frG I I') := by
  have h6 := hg.1
  refine z_intro (by decide) (Nat.le_of_ble_eq_true rfl) (fun X hX => ?_)
  refine bk hX lkX12_ok (pc' := 2) [.aload_n 0, .iload_n 1] (by decide +kernel) (And.intro trivial ?_)
  refine z_callV hX kw_X12_232 (c_M_isWorker E K N Rf I L _ hg.1 hG.1) rfl rfl rfl rfl rfl (by decide +kernel) (by decide) (by decide) (by decide) (by decide) (Nat.le_of_ble_eq_true rfl) ?_
  rintro _ _ ⟨rfl, hh⟩
  rw [← isIn_iff (by omega)] at hh
  rcases hh with ⟨hx, rfl⟩ | ⟨hx, rfl⟩
  · refine if_eq hX (13) 18 (by decide +kernel) (by decide) (fun c => absurd c (by decide)) (fun c_5 => ?_)
    refine bk hX lkX12_ok (pc' := 12) [.aload_n 0, .iload_n 2, .iconst 0, .iconst 3] (by decide +kernel) (And.intro trivial ?_)
    refine z_callV hX kw_X12_228 (c_M_in E _ _ _ _ _) rfl rfl rfl rfl rfl (by decide +kernel) (by decide) (by decide) (by decide) (by decide) (Nat.le_of_ble_eq_true rfl) ?_
    rintro _ _ ⟨rfl, hh⟩
    rw [in_ix 3 (by decide)] at hh
    rcases hh with ⟨hpt, rfl⟩ | ⟨hpt, rfl⟩
    · refine if_ne hX (5) 20 (by decide +kernel) (by decide) (fun c_15 => ?_) (fun c => absurd c (by decide))
      refine bk hX lkX12_ok (pc' := 25) [.aload_n 0, .iload_n 3, .iconst 0, .bipush 9] (by decide +kernel) (And.intro trivial ?_)
      refine z_callV hX kw_X12_228 (c_M_in E _ _ _ _ _) rfl rfl rfl rfl rfl (by decide +kernel) (by decide) (by decide) (by decide) (by decide) (Nat.le_of_ble_eq_true rfl) ?_
      rintro _ _ ⟨rfl, hh⟩
      rw [in_ix 9 (by decide)] at hh
      rcases hh with ⟨hn, rfl⟩ | ⟨hn, rfl⟩
      · refine if_ne hX (6) 34 (by decide +kernel) (by decide) (fun c_28 => ?_) (fun c => absurd c (by decide))
        obtain ⟨p, hp, rfl⟩ := (isIn_iff (by omega)).mp hx
        obtain ⟨q, hq, rfl⟩ := (isIn_iff (by omega)).mp hpt
        obtain ⟨y, hy, rfl⟩ := (isIn_iff (by omega)).mp hn
        have hk6 := (hg.2.1 p hp).1
        have e4 : nI 4 * nI p + nI q = nI (4 * p + q) := by rw [pk_mul, nI_add]
        have c4 : (nI (4 * p + q)).toNatClampNeg = 4 * p + q := cl (by omega)
        have hrr := (hG.2.2.2 p hp).2.2.2.2 q (by omega)
        refine bk hX lkX12_ok (pc' := 42) [.aload_n 0, .getfield 19, .iload_n 1, .iaload, .bipush 6] (by decide +kernel) (And.intro (by exact vin 6 (by omega)) (And.intro trivial ?_))
        rw [cl (by omega), show I (101 + 3) p = _ from (hG.2.2.2 p hp).1]
        refine ic_eq hX (6) 48 (by decide +kernel) (by decide) (fun ck => ?_) (fun ck => ?_)
        · refine bk hX lkX12_ok (pc' := 73) [.aload_n 0, .getfield 32, .iconst 4, .iload_n 1, .imul, .iload_n 2, .iadd, .iaload, .istore 4, .aload_n 0, .getfield 32, .iconst 4, .iload_n 1, .imul, .iload_n 2, .iadd, .iload_n 3, .iastore, .iload 4] (by decide +kernel) (And.intro (by rw [e4]; exact vin 24 (by omega)) (And.intro (by rw [e4]; exact vin 24 (by omega)) (And.intro trivial ?_)))
          exact z_iret hX (by decide +kernel) rfl (rfl) (by decide) (by decide) (by
  have hk : gk g p = 6 := nI_inj (b := 6) (by omega) (by decide) ck
  rw [e4, c4]
  refine ⟨_, rfl, ?_, ?_, frG_at (by decide)⟩
  · unfold rowS; rw [if_pos ⟨hx, hpt⟩, if_pos hn, jx_nI (by omega), if_pos hk, jx_nI (by omega)]
    exact congrArg (fun z => some (Value.int z)) hrr
  · unfold rowS; rw [if_pos ⟨hx, hpt⟩, if_pos hn, jx_nI (by omega), if_pos hk, jx_nI (by omega), jx_nI (by omega)]
    obtain ⟨a1, a2, a3, a4⟩ := hG
    have hne : ∀ z, z ≠ 108 → up2 I 108 (4 * p + q) (nI y) z = I z := fun z h => up2_ne _ _ _ h
    refine ⟨?_, ?_, ?_, fun p2 hp2 => ⟨?_, ?_, ?_, ?_, fun j hj => ?_⟩⟩
    · show up2 I 108 (4 * p + q) (nI y) 100 0 = _
      rw [hne 100 (by decide)]; exact a1
    · show up2 I 108 (4 * p + q) (nI y) 100 1 = _
      rw [hne 100 (by decide)]; exact a2
    · show up2 I 108 (4 * p + q) (nI y) 100 2 = _
      rw [hne 100 (by decide)]; exact a3
    · show up2 I 108 (4 * p + q) (nI y) 104 p2 = _
      rw [hne _ (by decide)]; exact (a4 p2 hp2).1
    · show up2 I 108 (4 * p + q) (nI y) 105 p2 = _
      rw [hne _ (by decide)]; exact (a4 p2 hp2).2.1
    · show up2 I 108 (4 * p + q) (nI y) 106 p2 = _
      rw [hne _ (by decide)]; exact (a4 p2 hp2).2.2.1
    · show up2 I 108 (4 * p + q) (nI y) 107 p2 = _
      rw [hne _ (by decide)]; exact (a4 p2 hp2).2.2.2.1
    · show up2 I 108 (4 * p + q) (nI y) 108 (4 * p2 + j) = nI (upN (gr g) (4 * p + q) y (4 * p2 + j))
      rw [up2_at]
      unfold upN
      split
      · rfl
      · exact (a4 p2 hp2).2.2.2.2 j hj)
        · refine bk hX lkX12_ok (pc' := 47) [.bipush (Int.negSucc 2)] (by decide +kernel) (And.intro trivial ?_)
          exact z_iret hX (by decide +kernel) rfl (rfl) (by decide) (by decide) (⟨I, rfl, by unfold rowS; rw [if_pos ⟨hx, hpt⟩, if_pos hn, jx_nI (by omega), if_neg (fun z => ck (by rw [z]))], by unfold rowS; rw [if_pos ⟨hx, hpt⟩, if_pos hn, jx_nI (by omega), if_neg (fun z => ck (by rw [z]))]; exact hG, frG_rf _⟩)
      · refine if_ne hX (6) 34 (by decide +kernel) (by decide) (fun c => absurd (by decide) c) (fun c_28 => ?_)
        refine bk hX lkX12_ok (pc' := 33) [.bipush (Int.negSucc 1)] (by decide +kernel) (And.intro trivial ?_)
        exact z_iret hX (by decide +kernel) rfl (rfl) (by decide) (by decide) (⟨I, rfl, by unfold rowS; rw [if_pos ⟨hx, hpt⟩, if_neg hn], by unfold rowS; rw [if_pos ⟨hx, hpt⟩, if_neg hn]; exact hG, frG_rf _⟩)
    · refine if_ne hX (5) 20 (by decide +kernel) (by decide) (fun c => absurd (by decide) c) (fun c_15 => ?_)
      refine bk hX lkX12_ok (pc' := 19) [.iconst (Int.negSucc 0)] (by decide +kernel) (And.intro trivial ?_)
      exact z_iret hX (by decide +kernel) rfl (rfl) (by decide) (by decide) (by first | exact ⟨I, rfl, by unfold rowS; rw [if_neg (fun z => hx z.1)], by unfold rowS; rw [if_neg (fun z => hx z.1)]; exact hG, frG_rf _⟩ | exact ⟨I, rfl, by unfold rowS; rw [if_neg (fun z => hpt z.2)], by unfold rowS; rw [if_neg (fun z => hpt z.2)]; exact hG, frG_rf _⟩)
  · refine if_eq hX (13) 18 (by decide +kernel) (by decide) (fun c_5 => ?_) (fun c => absurd (by decide) c)
    refine bk hX lkX12_ok (pc' := 19) [.iconst (Int.negSucc 0)] (by decide +kernel) (And.intro trivial ?_)
    exact z_iret hX (by decide +kernel) rfl (rfl) (by decide) (by decide) (by first | exact ⟨I, rfl, by unfold rowS; rw [if_neg (fun z => hx z.1)], by unfold rowS; rw [if_neg (fun z => hx z.1)]; exact hG, frG_rf _⟩ | exact ⟨I, rfl, by unfold rowS; rw [if_neg (fun z => hpt z.2)], by unfold rowS; rw [if_neg (fun z => hpt z.2)]; exact hG, frG_rf _⟩)
end
section
def frX (Ps Fs : List Nat) (I I' : Nat → Nat → Int32) : Prop := (∀ q, q ∉ Ps → q ≠ 100 → I' q = I q) ∧ (∀ k, k ∉ Fs → I' 100 k = I 100 k)
theorem frX_rf (Ps Fs : List Nat) (I : Nat → Nat → Int32) : frX Ps Fs I I := ⟨fun _ _ _ => rfl, fun _ _ => rfl⟩
theorem frX_tr {Ps Fs : List Nat} {I I1 I2 : Nat → Nat → Int32} (h1 : frX Ps Fs I I1) (h2 : frX Ps Fs I1 I2) : frX Ps Fs I I2 := ⟨fun q a b => (h2.1 q a b).trans (h1.1 q a b), fun k a => (h2.2 k a).trans (h1.2 k a)⟩
theorem frX_at {Ps Fs : List Nat} {I : Nat → Nat → Int32} {p k : Nat} {v : Int32} (h : p ∈ Ps) (h0 : p ≠ 100) : frX Ps Fs I (up2 I p k v) := ⟨fun q a b => up2_ne _ _ _ (fun z => a (by rw [z]; exact h)), fun j a => by rw [up2_ne _ _ _ (fun z => h0 z.symm)]⟩
theorem frX_f {Ps Fs : List Nat} {I : Nat → Nat → Int32} {k : Nat} {v : Int32} (h : k ∈ Fs) : frX Ps Fs I (up2 I 100 k v) := ⟨fun q a b => up2_ne _ _ _ b, fun j a => by rw [up2_at, if_neg (fun z => a (by rw [z]; exact h))]⟩
/-- rows told by hand: how many, three numbers each -/
abbrev Rw : Type := Nat × (Nat → Nat) × (Nat → Nat) × (Nat → Nat)
def mSn (s : Rw) (I : Nat → Nat → Int32) : Prop := I 100 34 = nI s.1 ∧ s.1 ≤ 5 ∧ ∀ k, k < s.1 → I 136 k = nI (s.2.1 k) ∧ I 137 k = nI (s.2.2.1 k) ∧ I 138 k = nI (s.2.2.2 k)
def wSn (s : Rw) (g : Gv) : Prop := ∀ k, k < s.1 → s.2.1 k < gn g ∧ s.2.2.1 k < 1024 ∧ s.2.2.2 k ≤ 20
theorem mSn_eq {s : Rw} {I I' : Nat → Nat → Int32} (h : mSn s I) (e0 : I' 100 34 = I 100 34) (e1 : I' 136 = I 136) (e2 : I' 137 = I 137) (e3 : I' 138 = I 138) : mSn s I' := by
  unfold mSn
  rw [e0, e1, e2, e3]
  exact h
def seeS (s : Rw) (g : Gv) (c h d : Int32) : Int32 × Rw := if c = -nI 1 then (0, (0, s.2)) else if isIn c (gn g) = true then (if isIn h 1024 = true ∧ isIn d 21 = true then (if s.1 = 5 then (-nI 4, s) else (nI (s.1 + 1), (s.1 + 1, upN s.2.1 s.1 (jx c), upN s.2.2.1 s.1 (jx h), upN s.2.2.2 s.1 (jx d)))) else (-nI 2, s)) else (-nI 1, s)
theorem upN_at (f : Nat → Nat) (k v : Nat) : upN f k v k = v := by simp [upN]
theorem upN_ne (f : Nat → Nat) {k j : Nat} (v : Nat) (h : j ≠ k) : upN f k v j = f j := by simp [upN, h]
theorem c_M_see (E : zE) (K N : Nat → Nat) (Rf : Nat → Nat → Option Nat) (I : Nat → Nat → Int32) (L : Nat → Nat → Int64) {g : Gv} (hg : gwf g) (hG : mG g I) {s : Rw} (hs : mSn s I) (c h d : Int32) : zCt E mX12_see 2 0 0 (sg K N Rf I L) [.ref 100, .int c, .int h, .int d] (fun r σ' => ∃ I', σ' = sg K N Rf I' L ∧ r = some (.int (seeS s g c h d).1) ∧ mSn (seeS s g c h d).2 I' ∧ frX [136, 137, 138] [34] I I') := by
  have h6 := hg.1
  obtain ⟨hs0, hs5, hsk⟩ := hs
  refine z_intro (by decide) (Nat.le_of_ble_eq_true rfl) (fun X hX => ?_)
  refine bk hX lkX12_ok (pc' := 2) [.iload_n 1, .iconst (Int.negSucc 0)] (by decide +kernel) (And.intro trivial ?_)
  refine ic_ne hX (10) 12 (by decide +kernel) (by decide) (fun c1 => ?_) (fun c1 => ?_)
  · refine bk hX lkX12_ok (pc' := 14) [.aload_n 0, .iload_n 1] (by decide +kernel) (And.intro trivial ?_)
    refine z_callV hX kw_X12_232 (c_M_isWorker E K N Rf I L _ hg.1 hG.1) rfl rfl rfl rfl rfl (by decide +kernel) (by decide) (by decide) (by decide) (by decide) (Nat.le_of_ble_eq_true rfl) ?_
    rintro _ _ ⟨rfl, hh⟩
    rw [← isIn_iff (by omega)] at hh
    rcases hh with ⟨hc, rfl⟩ | ⟨hc, rfl⟩
    · refine if_ne hX (5) 22 (by decide +kernel) (by decide) (fun c_17 => ?_) (fun c => absurd c (by decide))
      refine bk hX lkX12_ok (pc' := 24) [.aload_n 0, .iload_n 2] (by decide +kernel) (And.intro trivial ?_)
      refine z_callV hX kw_X12_236 (c_M_isHoles E _ rfl _) rfl rfl rfl rfl rfl (by decide +kernel) (by decide) (by decide) (by decide) (by decide) (Nat.le_of_ble_eq_true rfl) ?_
      rintro _ _ ⟨rfl, hh⟩
      rw [hol_in] at hh
      rcases hh with ⟨hh1, rfl⟩ | ⟨hh1, rfl⟩
      · refine if_eq hX (14) 41 (by decide +kernel) (by decide) (fun c => absurd c (by decide)) (fun c_27 => ?_)
        refine bk hX lkX12_ok (pc' := 35) [.aload_n 0, .iload_n 3, .iconst 0, .bipush 20] (by decide +kernel) (And.intro trivial ?_)
        refine z_callV hX kw_X12_228 (c_M_in E _ _ _ _ _) rfl rfl rfl rfl rfl (by decide +kernel) (by decide) (by decide) (by decide) (by decide) (Nat.le_of_ble_eq_true rfl) ?_
        rintro _ _ ⟨rfl, hh⟩
        rw [in_ix 20 (by decide)] at hh
        rcases hh with ⟨hd1, rfl⟩ | ⟨hd1, rfl⟩
        · refine if_ne hX (6) 44 (by decide +kernel) (by decide) (fun c_38 => ?_) (fun c => absurd c (by decide))
          refine bk hX lkX12_ok (pc' := 49) [.aload_n 0, .getfield 114, .iconst 5] (by decide +kernel) (And.intro trivial ?_)
          rw [hs0]
          refine ic_ne hX (6) 55 (by decide +kernel) (by decide) (fun c5 => ?_) (fun c5 => ?_)
          · have e5 : ¬ s.1 = 5 := fun z => c5 (by rw [z])
            obtain ⟨c, hcn, rfl⟩ := (isIn_iff (by omega)).mp hc
            obtain ⟨x, hx, rfl⟩ := (isIn_iff (by omega)).mp hh1
            obtain ⟨y, hy, rfl⟩ := (isIn_iff (by omega)).mp hd1
            have cs : (nI s.1).toNatClampNeg = s.1 := cl (by omega)
            refine bk hX lkX12_ok (pc' := 99) [.aload_n 0, .getfield 117, .aload_n 0, .getfield 114, .iload_n 1, .iastore, .aload_n 0, .getfield 120, .aload_n 0, .getfield 114, .iload_n 2, .iastore, .aload_n 0, .getfield 123, .aload_n 0, .getfield 114, .iload_n 3, .iastore, .aload_n 0, .dup, .getfield 114, .iconst 1, .iadd, .putfield 114, .aload_n 0, .getfield 114] (by decide +kernel) (And.intro (by rw [hs0]; exact vin 5 (by omega)) (And.intro (by (show vp_in (up2 I 136 _ _ 100 34) _; rw [up2_ne _ _ _ (by decide), hs0]; exact vin 5 (by omega))) (And.intro (by (show vp_in (up2 (up2 I 136 _ _) 137 _ _ 100 34) _; rw [up2_ne _ _ _ (by decide), up2_ne _ _ _ (by decide), hs0]; exact vin 5 (by omega))) (And.intro trivial ?_))))
            exact z_iret hX (by decide +kernel) rfl (rfl) (by decide) (by decide) (by
  refine ⟨_, rfl, ?_, ?_, frX_tr (frX_tr (frX_tr (frX_at (by decide) (by decide)) (frX_at (by decide) (by decide))) (frX_at (by decide) (by decide))) (frX_f (by decide))⟩
  · unfold seeS; rw [if_neg c1, if_pos hc, if_pos ⟨hh1, hd1⟩, if_neg e5]
    simp [up2_v, hs0, nI_add]
  · unfold seeS; rw [if_neg c1, if_pos hc, if_pos ⟨hh1, hd1⟩, if_neg e5, jx_nI (by omega), jx_nI (by omega), jx_nI (by omega)]
    refine ⟨by simp [up2_v, hs0, nI_add], by show s.1 + 1 ≤ 5; omega, fun k hk => ?_⟩
    by_cases hk2 : k = s.1
    · subst hk2
      simp [up2_v, hs0, cs, upN]
    · have hk3 : k < s.1 + 1 := hk
      have hk4 := hsk k (by omega)
      simp [up2_v, hs0, cs, upN, hk2, hk4])
          · refine bk hX lkX12_ok (pc' := 54) [.bipush (Int.negSucc 3)] (by decide +kernel) (And.intro trivial ?_)
            exact z_iret hX (by decide +kernel) rfl (rfl) (by decide) (by decide) (by have e5 : s.1 = 5 := nI_inj (b := 5) (by omega) (by decide) c5; exact ⟨I, rfl, by unfold seeS; rw [if_neg c1, if_pos hc, if_pos ⟨hh1, hd1⟩, if_pos e5], by unfold seeS; rw [if_neg c1, if_pos hc, if_pos ⟨hh1, hd1⟩, if_pos e5]; exact ⟨hs0, hs5, hsk⟩, frX_rf _ _ _⟩)
        · refine if_ne hX (6) 44 (by decide +kernel) (by decide) (fun c => absurd (by decide) c) (fun c_38 => ?_)
          refine bk hX lkX12_ok (pc' := 43) [.bipush (Int.negSucc 1)] (by decide +kernel) (And.intro trivial ?_)
          exact z_iret hX (by decide +kernel) rfl (rfl) (by decide) (by decide) (by first | exact ⟨I, rfl, by unfold seeS; rw [if_neg c1, if_pos hc, if_neg (fun z => hh1 z.1)], by unfold seeS; rw [if_neg c1, if_pos hc, if_neg (fun z => hh1 z.1)]; exact ⟨hs0, hs5, hsk⟩, frX_rf _ _ _⟩ | exact ⟨I, rfl, by unfold seeS; rw [if_neg c1, if_pos hc, if_neg (fun z => hd1 z.2)], by unfold seeS; rw [if_neg c1, if_pos hc, if_neg (fun z => hd1 z.2)]; exact ⟨hs0, hs5, hsk⟩, frX_rf _ _ _⟩)
      · refine if_eq hX (14) 41 (by decide +kernel) (by decide) (fun c_27 => ?_) (fun c => absurd (by decide) c)
        refine bk hX lkX12_ok (pc' := 43) [.bipush (Int.negSucc 1)] (by decide +kernel) (And.intro trivial ?_)
        exact z_iret hX (by decide +kernel) rfl (rfl) (by decide) (by decide) (by first | exact ⟨I, rfl, by unfold seeS; rw [if_neg c1, if_pos hc, if_neg (fun z => hh1 z.1)], by unfold seeS; rw [if_neg c1, if_pos hc, if_neg (fun z => hh1 z.1)]; exact ⟨hs0, hs5, hsk⟩, frX_rf _ _ _⟩ | exact ⟨I, rfl, by unfold seeS; rw [if_neg c1, if_pos hc, if_neg (fun z => hd1 z.2)], by unfold seeS; rw [if_neg c1, if_pos hc, if_neg (fun z => hd1 z.2)]; exact ⟨hs0, hs5, hsk⟩, frX_rf _ _ _⟩)
    · refine if_ne hX (5) 22 (by decide +kernel) (by decide) (fun c => absurd (by decide) c) (fun c_17 => ?_)
      refine bk hX lkX12_ok (pc' := 21) [.iconst (Int.negSucc 0)] (by decide +kernel) (And.intro trivial ?_)
      exact z_iret hX (by decide +kernel) rfl (rfl) (by decide) (by decide) (⟨I, rfl, by unfold seeS; rw [if_neg c1, if_neg hc], by unfold seeS; rw [if_neg c1, if_neg hc]; exact ⟨hs0, hs5, hsk⟩, frX_rf _ _ _⟩)
  · refine bk hX lkX12_ok (pc' := 11) [.aload_n 0, .iconst 0, .putfield 114, .iconst 0] (by decide +kernel) (And.intro trivial ?_)
    exact z_iret hX (by decide +kernel) rfl (rfl) (by decide) (by decide) (by
  refine ⟨_, rfl, by unfold seeS; rw [if_pos c1]; rfl, ?_, frX_f (by decide)⟩
  unfold seeS; rw [if_pos c1]
  exact ⟨by rw [up2_self], Nat.zero_le _, fun k hk => absurd hk (Nat.not_lt_zero _)⟩)
/-- all of seen is so -/
def snB (g : Gv) (r : Nat) (s : Rw) : Nat → Bool
  | 0 => true
  | k + 1 => snB g r s k && decide (gh (daysS r (s.2.2.2 k) g) (s.2.1 k) = s.2.2.1 k)
theorem mSn_sE {s : Rw} {I I1 : Nat → Nat → Int32} (h : mSn s I) (h1 : sE I I1) : mSn s I1 := mSn_eq h (h1.2 34 (by decide)) (h1.1 _ (by decide) (by decide)) (h1.1 _ (by decide) (by decide)) (h1.1 _ (by decide) (by decide))
theorem snB_f {g : Gv} {r : Nat} {s : Rw} {j : Nat} (h : snB g r s j = false) : ∀ m, snB g r s (j + m) = false
  | 0 => h
  | m + 1 => by
    show (snB g r s (j + m) && _) = false
    rw [snB_f h m]; rfl
set_option maxHeartbeats 2000000 in
theorem c_M_isSeen (E : zE) (K N : Nat → Nat) (Rf : Nat → Nat → Option Nat) (I : Nat → Nat → Int32) (L : Nat → Nat → Int64) {g : Gv} (hg : gwf g) (hG : mG g I) {w : Wk} {b : Nat} (hB : mHB w b I) (hd : gd g ≤ 90000) {s : Rw} (hs : mSn s I) (hws : wSn s g) : zCt E mX12_isSeen 5 0 0 (sg K N Rf I L) [.ref 100] (fun r σ' => ∃ I', σ' = sg K N Rf I' L ∧ r = some (.int (b2i (snB g (rdS w) s s.1))) ∧ sE I I') := by
  have h6 := hg.1
  have hs5 := hs.2.1
  refine z_intro (by decide) (Nat.le_of_ble_eq_true rfl) (fun X hX => ?_)
  have hl : ∀ m k (I1 : Nat → Nat → Int32), k + m = s.1 → sE I I1 → zS X (sg K N Rf I1 L) 0 0 4 [(0, .ref 100), (1, .int (b2i (snB g (rdS w) s k))), (2, .int (nI k))] [] := by
    intro m
    induction m with
    | zero =>
      intro k I1 hk h1
      obtain rfl : k = s.1 := by omega
      have e0 := (mSn_sE hs h1).1
      refine bk hX lkX12_ok (pc' := 9) [.iload_n 2, .aload_n 0, .getfield 114] (by decide +kernel) (And.intro trivial ?_)
      rw [e0]
      refine ic_ge hX (57) 66 (by decide +kernel) (by decide) (fun c_9 => ?_) (fun c => absurd (nI_le (by omega) (by omega)) c)
      refine bk hX lkX12_ok (pc' := 67) [.iload_n 1] (by decide +kernel) (And.intro trivial ?_)
      exact z_iret hX (by decide +kernel) rfl (by cases snB g (rdS w) s s.1 <;> rfl) (by decide) (by decide) (⟨I1, rfl, rfl, h1⟩)
    | succ m ih =>
      intro k I1 hk h1
      have hS1 := mSn_sE hs h1
      have e0 := hS1.1
      obtain ⟨k1, k2, k3⟩ := hS1.2.2 k (by omega)
      obtain ⟨l1, l2, l3⟩ := hws k (by omega)
      have hG1 := mG_sE hG h1
      have hB1 := mHB_sE hB h1
      have hsv := sE_sv I1
      have ck : (nI k).toNatClampNeg = k := cl (by omega)
      have hg2 := gwf_days hg (rdS w) (s.2.2.2 k)
      have hn2 := gn_days (rdS w) (s.2.2.2 k) g
      have hsb : snB g (rdS w) s (k + 1) = (snB g (rdS w) s k && decide (gh (daysS (rdS w) (s.2.2.2 k) g) (s.2.1 k) = s.2.2.1 k)) := rfl
      refine bk hX lkX12_ok (pc' := 9) [.iload_n 2, .aload_n 0, .getfield 114] (by decide +kernel) (And.intro trivial ?_)
      rw [e0]
      refine ic_ge hX (57) 66 (by decide +kernel) (by decide) (fun c => absurd c (nI_ge (by omega) (by omega))) (fun c_9 => ?_)
      refine bk hX lkX12_ok (pc' := 13) [.iload_n 1] (by decide +kernel) (And.intro trivial ?_)
      refine if_eq hX (53) 66 (by decide +kernel) (by decide) (fun cb => ?_) (fun cb => ?_)
      · have hfb := b2i_f cb
        have hff := snB_f hfb (m + 1)
        rw [hk] at hff
        refine bk hX lkX12_ok (pc' := 67) [.iload_n 1] (by decide +kernel) (And.intro trivial ?_)
        exact z_iret hX (by decide +kernel) rfl (by rw [hfb]; rfl) (by decide) (by decide) (⟨I1, rfl, by rw [hff, hfb], h1⟩)
      · refine bk hX lkX12_ok (pc' := 17) [.aload_n 0] (by decide +kernel) (And.intro trivial ?_)
        refine z_callV hX kw_X12_340 (c_M_save E K N Rf I1 L) rfl rfl rfl rfl rfl (by decide +kernel) (by decide) (by decide) (by decide) (by decide) (Nat.le_of_ble_eq_true rfl) ?_
        rintro _ _ ⟨rfl, rfl⟩
        have e3 : svI I1 6 138 k = nI (s.2.2.2 k) := by rw [hsv.1 _ (by decide) (by decide)]; exact k3
        refine bk hX lkX12_ok (pc' := 27) [.aload_n 0, .aload_n 0, .getfield 123, .iload_n 2, .iaload] (by decide +kernel) (And.intro (by exact vin 5 (by omega)) (And.intro trivial ?_))
        rw [ck, show svI I1 6 (101 + 37) k = _ from e3]
        refine z_callV hX kw_X12_337 (c_M_goDays E K N Rf (svI I1 6) L hg (mG_sE hG1 hsv) (mHB_sE hB1 hsv) (k := s.2.2.2 k) (by omega) (by omega)) rfl rfl rfl rfl rfl (by decide +kernel) (by decide) (by decide) (by decide) (by decide) (Nat.le_of_ble_eq_true rfl) ?_
        rintro _ _ ⟨I2, rfl, rfl, h3, h4⟩
        have hback := ask_back (frA_D h6 h4)
        have f1 : I2 136 k = nI (s.2.1 k) := by rw [h4.1 _ (by decide) (by decide) (by decide) (by decide), hsv.1 _ (by decide) (by decide)]; exact k1
        have f2 : I2 137 k = nI (s.2.2.1 k) := by rw [h4.1 _ (by decide) (by decide) (by decide) (by decide), hsv.1 _ (by decide) (by decide)]; exact k2
        have f3 : I2 107 (s.2.1 k) = nI (gh (daysS (rdS w) (s.2.2.2 k) g) (s.2.1 k)) := mG_gh h3 (by rw [hn2]; exact l1)
        have hgl := (hg2.2.1 (s.2.1 k) (by rw [hn2]; exact l1)).2.2.2.1
        refine bk hX lkX12_ok (pc' := 47) [.aload_n 0, .getfield 29, .aload_n 0, .getfield 117, .iload_n 2, .iaload, .iaload, .aload_n 0, .getfield 120, .iload_n 2, .iaload] (by decide +kernel) (And.intro (by exact vin 5 (by omega)) (And.intro (by rw [ck, show I2 (101 + 35) k = _ from f1]; exact vin 6 (by omega)) (And.intro (by exact vin 5 (by omega)) (And.intro trivial ?_))))
        rw [ck, show I2 (101 + 35) k = _ from f1, cl (by omega), show I2 (101 + 6) (s.2.1 k) = _ from f3, show I2 (101 + 36) k = _ from f2]
        refine ic_ne hX (7) 54 (by decide +kernel) (by decide) (fun ce => ?_) (fun ce => ?_)
        · refine bk hX lkX12_ok (pc' := 57) [.iconst 0, .istore_n 1, .aload_n 0] (by decide +kernel) (And.intro trivial ?_)
          refine z_callV hX kw_X12_346 (c_M_putBack E K N Rf I2 L) rfl rfl rfl rfl rfl (by decide +kernel) (by decide) (by decide) (by decide) (by decide) (Nat.le_of_ble_eq_true rfl) ?_
          rintro _ _ ⟨rfl, rfl⟩
          refine bk hX lkX12_ok (pc' := 63) [.iinc 2 1] (by decide +kernel) (And.intro trivial ?_)
          refine gt_ hX (-59) 4 (by decide +kernel) (by decide) ?_
          refine z_lvk (lv' := [(0, _), (1, _), (2, _)]) [2, 1, 0] rfl ?_
          rw [nI_add]
          have hi := ih (k + 1) (pbI I2 6) (by omega) (sE_tr h1 hback)
          rw [hsb, b2i_t cb] at hi
          first
            | (rw [decide_eq_true (nI_inj (by omega) (by omega) ce)] at hi; exact hi)
            | (rw [decide_eq_false (fun z => ce (by rw [z]))] at hi; exact hi)
        · refine bk hX lkX12_ok (pc' := 51) [.iconst 1] (by decide +kernel) (And.intro trivial ?_)
          refine gt_ hX (4) 55 (by decide +kernel) (by decide) ?_
          refine bk hX lkX12_ok (pc' := 57) [.istore_n 1, .aload_n 0] (by decide +kernel) (And.intro trivial ?_)
          refine z_callV hX kw_X12_346 (c_M_putBack E K N Rf I2 L) rfl rfl rfl rfl rfl (by decide +kernel) (by decide) (by decide) (by decide) (by decide) (Nat.le_of_ble_eq_true rfl) ?_
          rintro _ _ ⟨rfl, rfl⟩
          refine bk hX lkX12_ok (pc' := 63) [.iinc 2 1] (by decide +kernel) (And.intro trivial ?_)
          refine gt_ hX (-59) 4 (by decide +kernel) (by decide) ?_
          refine z_lvk (lv' := [(0, _), (1, _), (2, _)]) [2, 1, 0] rfl ?_
          rw [nI_add]
          have hi := ih (k + 1) (pbI I2 6) (by omega) (sE_tr h1 hback)
          rw [hsb, b2i_t cb] at hi
          first
            | (rw [decide_eq_true (nI_inj (by omega) (by omega) ce)] at hi; exact hi)
            | (rw [decide_eq_false (fun z => ce (by rw [z]))] at hi; exact hi)
  refine bk hX lkX12_ok (pc' := 4) [.iconst 1, .istore_n 1, .iconst 0, .istore_n 2] (by decide +kernel) (And.intro trivial ?_)
  refine z_lvk (lv' := [(0, _), (1, _), (2, _)]) [2, 1, 0] rfl ?_
  exact hl s.1 0 I (by omega) (sE_rf _)
/-- had: the first j cards -/
def hdN (g : Gv) (r : Nat) (s : Rw) (p : Nat) : Nat → Nat
  | 0 => 0
  | c + 1 => hdN g r s p c ||| (if snB (swG g p (wh (gc g) c)) r s s.1 = true then 2 ^ c else 0)
def hadS (g : Gv) (r : Nat) (s : Rw) (x : Int32) : Int32 := if isIn x (gn g) = true then nI (hdN g r s (jx x) (gn g)) else -nI 1
theorem sw_back {I I2 : Nat → Nat → Int32} {i j : Nat} (h : sE (up2 (up2 I 106 i (I 106 j)) 106 j (I 106 i)) I2) : sE I (up2 (up2 I2 106 i (I2 106 j)) 106 j (I2 106 i)) := by
  obtain ⟨h1, h2⟩ := h
  have hc := h1 106 (by decide) (by decide)
  refine ⟨fun q a b => ?_, fun k a => ?_⟩
  · by_cases hq : q = 106
    · subst hq
      funext k
      simp only [up2_at, hc]
      grind
    · rw [up2_ne _ _ _ hq, up2_ne _ _ _ hq, h1 q a b, up2_ne _ _ _ hq, up2_ne _ _ _ hq]
  · rw [up2_ne _ _ _ (by decide), up2_ne _ _ _ (by decide), h2 k a, up2_ne _ _ _ (by decide), up2_ne _ _ _ (by decide)]
theorem mHB_c {w : Wk} {b : Nat} {I : Nat → Nat → Int32} {p k : Nat} {v : Int32} (hB : mHB w b I) (hp : p = 106 ∨ p = 105) : mHB w b (up2 I p k v) := by
  refine mHB_eq hB ?_ ?_ ?_ ?_ ?_ ?_ ?_ <;> rcases hp with rfl | rfl <;> rw [up2_ne _ _ _ (by decide)]
theorem mSn_c {s : Rw} {I : Nat → Nat → Int32} {p k : Nat} {v : Int32} (hB : mSn s I) (hp : p = 106 ∨ p = 105) : mSn s (up2 I p k v) := by
  refine mSn_eq hB ?_ ?_ ?_ ?_ <;> rcases hp with rfl | rfl <;> rw [up2_ne _ _ _ (by decide)]
set_option maxHeartbeats 2000000 in
theorem c_M_had (E : zE) (K N : Nat → Nat) (Rf : Nat → Nat → Option Nat) (I : Nat → Nat → Int32) (L : Nat → Nat → Int64) {g : Gv} (hg : gwf g) (hG : mG g I) {w : Wk} {b : Nat} (hB : mHB w b I) (hd : gd g ≤ 90000) {s : Rw} (hs : mSn s I) (hws : wSn s g) (x : Int32) : zCt E mX12_had 6 0 0 (sg K N Rf I L) [.ref 100, .int x] (fun r σ' => ∃ I', σ' = sg K N Rf I' L ∧ r = some (.int (hadS g (rdS w) s x)) ∧ sE I I') := by
  have h6 := hg.1
  have hl : ∀ (p : Nat), p < gn g → ∀ X : zX, zD X E mX12_had 6 0 0 (fun r σ' => ∃ I', σ' = sg K N Rf I' L ∧ r = some (.int (hadS g (rdS w) s (nI p))) ∧ sE I I') → ∀ m c (I1 : Nat → Nat → Int32), c + m = gn g → sE I I1 → zS X (sg K N Rf I1 L) 0 0 14 [(0, .ref 100), (1, .int (nI p)), (2, .int (nI (hdN g (rdS w) s p c))), (3, .int (nI c))] [] := by
    intro p hp X hX m
    have hful : hadS g (rdS w) s (nI p) = nI (hdN g (rdS w) s p (gn g)) := by
      unfold hadS; rw [if_pos (isIn_nI hp (by omega)), jx_nI (by omega)]
    induction m with
    | zero =>
      intro c I1 hc h1
      obtain rfl : c = gn g := by omega
      have e0 : I1 100 0 = nI (gn g) := (mG_sE hG h1).1
      refine bk hX lkX12_ok (pc' := 19) [.iload_n 3, .aload_n 0, .getfield 7] (by decide +kernel) (And.intro trivial ?_)
      rw [e0]
      refine ic_ge hX (47) 66 (by decide +kernel) (by decide) (fun c_19 => ?_) (fun c => absurd (nI_le (by omega) (by omega)) c)
      refine bk hX lkX12_ok (pc' := 67) [.iload_n 2] (by decide +kernel) (And.intro trivial ?_)
      exact z_iret hX (by decide +kernel) rfl (rfl) (by decide) (by decide) (⟨I1, rfl, by rw [hful], h1⟩)
    | succ m ih =>
      intro c I1 hc h1
      have hG1 := mG_sE hG h1
      have e0 : I1 100 0 = nI (gn g) := hG1.1
      have hcn : c < gn g := by omega
      obtain ⟨hw1, hw2⟩ := wh_sp hg hcn
      have hgs := gwf_sw hg hp hw1
      have hGs := mG_sw hg hG1 hp hw1
      have hBs := mHB_c (k := wh (gc g) c) (v := I1 106 p) (mHB_c (k := p) (v := I1 106 (wh (gc g) c)) (mHB_sE hB h1) (Or.inl rfl)) (Or.inl rfl)
      have hSs := mSn_c (k := wh (gc g) c) (v := I1 106 p) (mSn_c (k := p) (v := I1 106 (wh (gc g) c)) (mSn_sE hs h1) (Or.inl rfl)) (Or.inl rfl)
      have hhd : hdN g (rdS w) s p (c + 1) = hdN g (rdS w) s p c ||| (if snB (swG g p (wh (gc g) c)) (rdS w) s s.1 = true then 2 ^ c else 0) := rfl
      refine bk hX lkX12_ok (pc' := 19) [.iload_n 3, .aload_n 0, .getfield 7] (by decide +kernel) (And.intro trivial ?_)
      rw [e0]
      refine ic_ge hX (47) 66 (by decide +kernel) (by decide) (fun c => absurd c (nI_ge (by omega) (by omega))) (fun c_19 => ?_)
      refine bk hX lkX12_ok (pc' := 24) [.aload_n 0, .iload_n 3] (by decide +kernel) (And.intro trivial ?_)
      refine z_callV hX kw_X12_322 (c_M_whoHas E K N Rf I1 L hg hG1 hcn) rfl rfl rfl rfl rfl (by decide +kernel) (by decide) (by decide) (by decide) (by decide) (Nat.le_of_ble_eq_true rfl) ?_
      rintro _ _ ⟨rfl, rfl⟩
      refine bk hX lkX12_ok (pc' := 33) [.istore 4, .aload_n 0, .iload_n 1, .iload 4] (by decide +kernel) (And.intro trivial ?_)
      refine z_callV hX kw_X12_239 (c_M_swaps E K N Rf I1 L p (wh (gc g) c) (by omega) (by omega)) rfl rfl rfl rfl rfl (by decide +kernel) (by decide) (by decide) (by decide) (by decide) (Nat.le_of_ble_eq_true rfl) ?_
      rintro _ _ ⟨rfl, rfl⟩
      refine bk hX lkX12_ok (pc' := 38) [.iload_n 2, .aload_n 0] (by decide +kernel) (And.intro trivial ?_)
      refine z_callV hX kw_X12_367 (c_M_isSeen E K N Rf _ L hgs hGs hBs hd hSs hws) rfl rfl rfl rfl rfl (by decide +kernel) (by decide) (by decide) (by decide) (by decide) (Nat.le_of_ble_eq_true rfl) ?_
      rintro _ _ ⟨I2, rfl, rfl, h3⟩
      refine if_eq hX (9) 50 (by decide +kernel) (by decide) (fun cb => ?_) (fun cb => ?_)
      · refine bk hX lkX12_ok (pc' := 57) [.iconst 0, .ior, .istore_n 2, .aload_n 0, .iload_n 1, .iload 4] (by decide +kernel) (And.intro trivial ?_)
        refine z_callV hX kw_X12_239 (c_M_swaps E K N Rf I2 L p (wh (gc g) c) (by omega) (by omega)) rfl rfl rfl rfl rfl (by decide +kernel) (by decide) (by decide) (by decide) (by decide) (Nat.le_of_ble_eq_true rfl) ?_
        rintro _ _ ⟨rfl, rfl⟩
        refine bk hX lkX12_ok (pc' := 63) [.iinc 3 1] (by decide +kernel) (And.intro trivial ?_)
        refine gt_ hX (-49) 14 (by decide +kernel) (by decide) ?_
        refine z_lvk (lv' := [(0, _), (1, _), (2, _), (3, _)]) [3, 4, 1, 0] rfl ?_
        have hi := ih (c + 1) _ (by omega) (sE_tr h1 (sw_back h3))
        rw [hhd] at hi
        first
          | (rw [b2i_f cb] at hi
             rw [i_or, nI_add]
             exact hi)
          | (rw [b2i_t cb, if_pos rfl] at hi
             rw [i_1shl (by omega), i_or, nI_add]
             exact hi)
      · refine bk hX lkX12_ok (pc' := 47) [.iconst 1, .iload_n 3, .ishl] (by decide +kernel) (And.intro trivial ?_)
        refine gt_ hX (4) 51 (by decide +kernel) (by decide) ?_
        refine bk hX lkX12_ok (pc' := 57) [.ior, .istore_n 2, .aload_n 0, .iload_n 1, .iload 4] (by decide +kernel) (And.intro trivial ?_)
        refine z_callV hX kw_X12_239 (c_M_swaps E K N Rf I2 L p (wh (gc g) c) (by omega) (by omega)) rfl rfl rfl rfl rfl (by decide +kernel) (by decide) (by decide) (by decide) (by decide) (Nat.le_of_ble_eq_true rfl) ?_
        rintro _ _ ⟨rfl, rfl⟩
        refine bk hX lkX12_ok (pc' := 63) [.iinc 3 1] (by decide +kernel) (And.intro trivial ?_)
        refine gt_ hX (-49) 14 (by decide +kernel) (by decide) ?_
        refine z_lvk (lv' := [(0, _), (1, _), (2, _), (3, _)]) [3, 4, 1, 0] rfl ?_
        have hi := ih (c + 1) _ (by omega) (sE_tr h1 (sw_back h3))
        rw [hhd] at hi
        first
          | (rw [b2i_f cb] at hi
             rw [i_or, nI_add]
             exact hi)
          | (rw [b2i_t cb, if_pos rfl] at hi
             rw [i_1shl (by omega), i_or, nI_add]
             exact hi)
  refine z_intro (by decide) (Nat.le_of_ble_eq_true rfl) (fun X hX => ?_)
  refine bk hX lkX12_ok (pc' := 2) [.aload_n 0, .iload_n 1] (by decide +kernel) (And.intro trivial ?_)
  refine z_callV hX kw_X12_232 (c_M_isWorker E K N Rf I L _ hg.1 hG.1) rfl rfl rfl rfl rfl (by decide +kernel) (by decide) (by decide) (by decide) (by decide) (Nat.le_of_ble_eq_true rfl) ?_
  rintro _ _ ⟨rfl, hh⟩
  rw [← isIn_iff (by omega)] at hh
  rcases hh with ⟨hx, rfl⟩ | ⟨hx, rfl⟩
  · refine if_ne hX (5) 10 (by decide +kernel) (by decide) (fun c_5 => ?_) (fun c => absurd c (by decide))
    obtain ⟨p, hp, rfl⟩ := (isIn_iff (by omega)).mp hx
    refine bk hX lkX12_ok (pc' := 14) [.iconst 0, .istore_n 2, .iconst 0, .istore_n 3] (by decide +kernel) (And.intro trivial ?_)
    refine z_lvk (lv' := [(0, _), (1, _), (2, _), (3, _)]) [2, 3, 1, 0] rfl ?_
    exact hl p hp X hX (gn g) 0 I (by omega) (sE_rf _)
  · refine if_ne hX (5) 10 (by decide +kernel) (by decide) (fun c => absurd (by decide) c) (fun c_5 => ?_)
    refine bk hX lkX12_ok (pc' := 9) [.iconst (Int.negSucc 0)] (by decide +kernel) (And.intro trivial ?_)
    exact z_iret hX (by decide +kernel) rfl (rfl) (by decide) (by decide) (⟨I, rfl, by unfold hadS; rw [if_neg hx], sE_rf _⟩)
end
section
def vG (g : Gv) (p k : Nat) : Gv := (gn g, gk g, upN (gv g) p k, gc g, gh g, gr g, ga g, gd g)
theorem gwf_v {g : Gv} (hg : gwf g) {p k : Nat} (hk : k ≤ 9) : gwf (vG g p k) := by
  obtain ⟨a1, a2, a3⟩ := hg
  refine ⟨a1, fun q hq => ⟨(a2 q hq).1, ?_, (a2 q hq).2.2⟩, a3⟩
  show upN (gv g) p k q ≤ 9
  unfold upN
  split
  · exact hk
  · exact (a2 q hq).2.1
theorem mG_v {g : Gv} {I : Nat → Nat → Int32} (hG : mG g I) {x : Int32} {I1 : Nat → Nat → Int32} {p k : Nat} (h : sE (up2 I 105 p x) I1) : mG (vG g p k) (up2 I1 105 p (nI k)) := by
  obtain ⟨a1, a2, a3, a4⟩ := hG
  obtain ⟨h1, h2⟩ := h
  have hr : ∀ q, q ∉ scP → q ≠ 100 → q ≠ 105 → up2 I1 105 p (nI k) q = I q := fun q a b c => by rw [up2_ne _ _ _ c, h1 q a b, up2_ne _ _ _ c]
  have hf : ∀ j, j ∉ scF → up2 I1 105 p (nI k) 100 j = I 100 j := fun j a => by rw [up2_ne _ _ _ (by decide), h2 j a, up2_ne _ _ _ (by decide)]
  refine ⟨by rw [hf 0 (by decide)]; exact a1, by rw [hf 1 (by decide)]; exact a2, by rw [hf 2 (by decide)]; exact a3, fun q hq => ?_⟩
  obtain ⟨b1, b2, b3, b4, b5⟩ := a4 q hq
  refine ⟨by rw [hr _ (by decide) (by decide) (by decide)]; exact b1, ?_, by rw [hr _ (by decide) (by decide) (by decide)]; exact b3, by rw [hr _ (by decide) (by decide) (by decide)]; exact b4, fun j hj => by rw [hr _ (by decide) (by decide) (by decide)]; exact b5 j hj⟩
  show up2 I1 105 p (nI k) 105 q = nI (upN (gv g) p k q)
  rw [up2_at, h1 _ (by decide) (by decide), up2_at]
  unfold upN
  split
  · rfl
  · exact b2
theorem sE_v {I I1 : Nat → Nat → Int32} {p : Nat} {x : Int32} (h : sE (up2 I 105 p x) I1) (y : Int32) : sE (up2 I 105 p y) (up2 I1 105 p y) := by
  obtain ⟨h1, h2⟩ := h
  refine ⟨fun q a b => ?_, fun k a => ?_⟩
  · by_cases hq : q = 105
    · subst hq
      funext k
      rw [up2_at, up2_at, h1 _ a b, up2_at]
      split <;> rfl
    · rw [up2_ne _ _ _ hq, up2_ne _ _ _ hq, h1 q a b, up2_ne _ _ _ hq]
  · rw [up2_ne _ _ _ (by decide), up2_ne _ _ _ (by decide), h2 k a, up2_ne _ _ _ (by decide)]
theorem up2_id {I : Nat → Nat → Int32} (q k : Nat) : up2 I q k (I q k) = I := by
  funext a b
  rw [up2_v]
  split
  · rename_i h; rw [h.1, h.2]
  · rfl
/-- can: how many, the least -/
def cnL (g : Gv) (r : Nat) (s : Rw) (p : Nat) : Nat → Nat × Int32 → Nat × Int32
  | 0, x => x
  | k + 1, x => cnL g r s p k (if snB (vG g p k) r s s.1 = true then (x.1 + 1, nI k) else x)
def canS (g : Gv) (r : Nat) (s : Rw) (x what : Int32) : Int32 := if isIn x (gn g) = true ∧ isIn what 2 = true then (if what = 0 then nI (cnL g r s (jx x) 10 (0, -nI 5)).1 else (cnL g r s (jx x) 10 (0, -nI 5)).2) else -nI 1
set_option maxHeartbeats 2000000 in
theorem c_M_can (E : zE) (K N : Nat → Nat) (Rf : Nat → Nat → Option Nat) (I : Nat → Nat → Int32) (L : Nat → Nat → Int64) {g : Gv} (hg : gwf g) (hG : mG g I) {w : Wk} {b : Nat} (hB : mHB w b I) (hd : gd g ≤ 90000) {s : Rw} (hs : mSn s I) (hws : wSn s g) (x what : Int32) : zCt E mX12_can 6 0 0 (sg K N Rf I L) [.ref 100, .int x, .int what] (fun r σ' => ∃ I', σ' = sg K N Rf I' L ∧ r = some (.int (canS g (rdS w) s x what)) ∧ sE I I') := by
  have h6 := hg.1
  have hl : ∀ (p : Nat), p < gn g → isIn what 2 = true → ∀ X : zX, zD X E mX12_can 6 0 0 (fun r σ' => ∃ I', σ' = sg K N Rf I' L ∧ r = some (.int (canS g (rdS w) s (nI p) what)) ∧ sE I I') → ∀ k (y : Nat × Int32) (z : Int32) (I1 : Nat → Nat → Int32), k ≤ 10 → y.1 + k ≤ 10 → sE (up2 I 105 p z) I1 → cnL g (rdS w) s p k y = cnL g (rdS w) s p 10 (0, -nI 5) → zS X (sg K N Rf I1 L) 0 0 38 [(0, .ref 100), (1, .int (nI p)), (2, .int what), (3, .int (I 105 p)), (4, .int (nI y.1)), (5, .int y.2), (6, .int (nI k - nI 1))] [] := by
    intro p hp hwh X hX k
    have hful : canS g (rdS w) s (nI p) what = if what = 0 then nI (cnL g (rdS w) s p 10 (0, -nI 5)).1 else (cnL g (rdS w) s p 10 (0, -nI 5)).2 := by
      unfold canS; rw [if_pos ⟨isIn_nI hp (by omega), hwh⟩, jx_nI (by omega)]
    have cp : (nI p).toNatClampNeg = p := cl (by omega)
    induction k with
    | zero =>
      intro y z I1 hk hy h1 hf
      have hback := sE_v h1 (I 105 p)
      rw [up2_id] at hback
      refine bk hX lkX12_ok (pc' := 40) [.iload 6] (by decide +kernel) (And.intro trivial ?_)
      refine if_lt hX (34) 74 (by decide +kernel) (by decide) (fun c_40 => ?_) (fun c => absurd (by decide) c)
      refine bk hX lkX12_ok (pc' := 82) [.aload_n 0, .getfield 23, .iload_n 1, .iload_n 3, .iastore, .iload_n 2] (by decide +kernel) (And.intro (by exact vin 6 (by omega)) (And.intro trivial ?_))
      refine if_ne hX (8) 90 (by decide +kernel) (by decide) (fun cw => ?_) (fun cw => ?_)
      · refine bk hX lkX12_ok (pc' := 92) [.iload 5] (by decide +kernel) (And.intro trivial ?_)
        exact z_iret hX (by decide +kernel) rfl (rfl) (by decide) (by decide) (by rw [cp]; first | exact ⟨_, rfl, by rw [hful, if_pos cw, ← hf]; rfl, hback⟩ | exact ⟨_, rfl, by rw [hful, if_neg cw, ← hf]; rfl, hback⟩)
      · refine bk hX lkX12_ok (pc' := 87) [.iload 4] (by decide +kernel) (And.intro trivial ?_)
        refine gt_ hX (5) 92 (by decide +kernel) (by decide) ?_
        exact z_iret hX (by decide +kernel) rfl (rfl) (by decide) (by decide) (by rw [cp]; first | exact ⟨_, rfl, by rw [hful, if_pos cw, ← hf]; rfl, hback⟩ | exact ⟨_, rfl, by rw [hful, if_neg cw, ← hf]; rfl, hback⟩)
    | succ k ih =>
      intro y z I1 hk hy h1 hf
      have hGv := mG_v (k := k) hG h1
      have hBv : mHB w b (up2 I1 105 p (nI k)) := mHB_sE (mHB_c (p := 105) (k := p) (v := nI k) hB (Or.inr rfl)) (sE_v h1 (nI k))
      have hSv : mSn s (up2 I1 105 p (nI k)) := mSn_sE (mSn_c (p := 105) (k := p) (v := nI k) hs (Or.inr rfl)) (sE_v h1 (nI k))
      have hf' : cnL g (rdS w) s p k (if snB (vG g p k) (rdS w) s s.1 = true then (y.1 + 1, nI k) else y) = cnL g (rdS w) s p 10 (0, -nI 5) := hf
      rw [show nI (k + 1) - nI 1 = nI k from i_m1 (by omega)]
      refine bk hX lkX12_ok (pc' := 40) [.iload 6] (by decide +kernel) (And.intro trivial ?_)
      refine if_lt hX (34) 74 (by decide +kernel) (by decide) (fun c => absurd c (fun zz => absurd zz (nI_pos (by omega)))) (fun c_40 => ?_)
      refine bk hX lkX12_ok (pc' := 51) [.aload_n 0, .getfield 23, .iload_n 1, .iload 6, .iastore] (by decide +kernel) (And.intro (by exact vin 6 (by omega)) (And.intro trivial ?_))
      rw [cp]
      refine bk hX lkX12_ok (pc' := 52) [.aload_n 0] (by decide +kernel) (And.intro trivial ?_)
      refine z_callV hX kw_X12_367 (c_M_isSeen E K N Rf _ L (gwf_v hg (p := p) (k := k) (by omega)) hGv hBv hd hSv hws) rfl rfl rfl rfl rfl (by decide +kernel) (by decide) (by decide) (by decide) (by decide) (Nat.le_of_ble_eq_true rfl) ?_
      rintro _ _ ⟨I2, rfl, rfl, h3⟩
      refine if_ne hX (6) 61 (by decide +kernel) (by decide) (fun cb => ?_) (fun cb => ?_)
      · refine bk hX lkX12_ok (pc' := 71) [.iinc 4 1, .iload 6, .istore 5, .iinc 6 (Int.negSucc 0)] (by decide +kernel) (And.intro trivial ?_)
        refine gt_ hX (-33) 38 (by decide +kernel) (by decide) ?_
        refine z_lvk (lv' := [(0, _), (1, _), (2, _), (3, _), (4, _), (5, _), (6, _)]) [3, 4, 5, 6, 2, 1, 0] rfl ?_
        rw [← Int32.sub_eq_add_neg]
        first
          | (rw [if_pos (b2i_t cb)] at hf'
             rw [nI_add]
             exact ih (y.1 + 1, nI k) (nI k) I2 (by omega) (by show y.1 + 1 + k ≤ 10; omega) (sE_tr (sE_v h1 (nI k)) h3) hf')
          | (rw [if_neg (fun zz => by rw [zz] at cb; exact absurd cb (by decide))] at hf'
             exact ih y (nI k) I2 (by omega) (by omega) (sE_tr (sE_v h1 (nI k)) h3) hf')
      · refine gt_ hX (10) 68 (by decide +kernel) (by decide) ?_
        refine bk hX lkX12_ok (pc' := 71) [.iinc 6 (Int.negSucc 0)] (by decide +kernel) (And.intro trivial ?_)
        refine gt_ hX (-33) 38 (by decide +kernel) (by decide) ?_
        refine z_lvk (lv' := [(0, _), (1, _), (2, _), (3, _), (4, _), (5, _), (6, _)]) [1, 2, 3, 4, 5, 6, 0] rfl ?_
        rw [← Int32.sub_eq_add_neg]
        first
          | (rw [if_pos (b2i_t cb)] at hf'
             rw [nI_add]
             exact ih (y.1 + 1, nI k) (nI k) I2 (by omega) (by show y.1 + 1 + k ≤ 10; omega) (sE_tr (sE_v h1 (nI k)) h3) hf')
          | (rw [if_neg (fun zz => by rw [zz] at cb; exact absurd cb (by decide))] at hf'
             exact ih y (nI k) I2 (by omega) (by omega) (sE_tr (sE_v h1 (nI k)) h3) hf')
  refine z_intro (by decide) (Nat.le_of_ble_eq_true rfl) (fun X hX => ?_)
  refine bk hX lkX12_ok (pc' := 2) [.aload_n 0, .iload_n 1] (by decide +kernel) (And.intro trivial ?_)
  refine z_callV hX kw_X12_232 (c_M_isWorker E K N Rf I L _ hg.1 hG.1) rfl rfl rfl rfl rfl (by decide +kernel) (by decide) (by decide) (by decide) (by decide) (Nat.le_of_ble_eq_true rfl) ?_
  rintro _ _ ⟨rfl, hh⟩
  rw [← isIn_iff (by omega)] at hh
  rcases hh with ⟨hx, rfl⟩ | ⟨hx, rfl⟩
  · refine if_eq hX (13) 18 (by decide +kernel) (by decide) (fun c => absurd c (by decide)) (fun c_5 => ?_)
    refine bk hX lkX12_ok (pc' := 12) [.aload_n 0, .iload_n 2, .iconst 0, .iconst 1] (by decide +kernel) (And.intro trivial ?_)
    refine z_callV hX kw_X12_228 (c_M_in E _ _ _ _ _) rfl rfl rfl rfl rfl (by decide +kernel) (by decide) (by decide) (by decide) (by decide) (Nat.le_of_ble_eq_true rfl) ?_
    rintro _ _ ⟨rfl, hh⟩
    rw [in_ix 1 (by decide)] at hh
    rcases hh with ⟨hw1, rfl⟩ | ⟨hw1, rfl⟩
    · refine if_ne hX (5) 20 (by decide +kernel) (by decide) (fun c_15 => ?_) (fun c => absurd c (by decide))
      obtain ⟨p, hp, rfl⟩ := (isIn_iff (by omega)).mp hx
      refine bk hX lkX12_ok (pc' := 38) [.aload_n 0, .getfield 23, .iload_n 1, .iaload, .istore_n 3, .iconst 0, .istore 4, .bipush (Int.negSucc 4), .istore 5, .bipush 9, .istore 6] (by decide +kernel) (And.intro (by exact vin 6 (by omega)) (And.intro trivial ?_))
      refine z_lvk (lv' := [(0, _), (1, _), (2, _), (3, _), (4, _), (5, _), (6, _)]) [4, 5, 6, 3, 2, 1, 0] rfl ?_
      rw [cl (by omega)]
      exact hl p hp hw1 X hX 10 (0, -nI 5) (I 105 p) I (by decide) (by decide) (by rw [up2_id]; exact sE_rf _) rfl
    · refine if_ne hX (5) 20 (by decide +kernel) (by decide) (fun c => absurd (by decide) c) (fun c_15 => ?_)
      refine bk hX lkX12_ok (pc' := 19) [.iconst (Int.negSucc 0)] (by decide +kernel) (And.intro trivial ?_)
      exact z_iret hX (by decide +kernel) rfl (rfl) (by decide) (by decide) (by first | exact ⟨I, rfl, by unfold canS; rw [if_neg (fun z => hx z.1)], sE_rf _⟩ | exact ⟨I, rfl, by unfold canS; rw [if_neg (fun z => hw1 z.2)], sE_rf _⟩)
  · refine if_eq hX (13) 18 (by decide +kernel) (by decide) (fun c_5 => ?_) (fun c => absurd (by decide) c)
    refine bk hX lkX12_ok (pc' := 19) [.iconst (Int.negSucc 0)] (by decide +kernel) (And.intro trivial ?_)
    exact z_iret hX (by decide +kernel) rfl (rfl) (by decide) (by decide) (by first | exact ⟨I, rfl, by unfold canS; rw [if_neg (fun z => hx z.1)], sE_rf _⟩ | exact ⟨I, rfl, by unfold canS; rw [if_neg (fun z => hw1 z.2)], sE_rf _⟩)
theorem c_M_divisor (E : zE) (σ : Sg) (a0 : Nat) {x y : Nat} (hx : x < 2 ^ 31) (hy : y < 2 ^ 31) : zCt E mX12_divisor 0 0 0 σ [.ref a0, .int (nI x), .int (nI y)] (fun r σ' => σ' = σ ∧ r = some (.int (nI (Nat.gcd x y)))) := by
  refine z_intro (by decide) (Nat.le_of_ble_eq_true rfl) (fun X hX => ?_)
  have hl : ∀ m p q, q ≤ m → p < 2 ^ 31 → q < 2 ^ 31 → Nat.gcd p q = Nat.gcd x y → zS X σ 0 0 5 [(3, .int (nI p)), (4, .int (nI q))] [] := by
    intro m
    induction m with
    | zero =>
      intro p q hm hp hq hg
      obtain rfl : q = 0 := Nat.le_zero.mp hm
      refine bk hX lkX12_ok (pc' := 7) [.iload 4] (by decide +kernel) (And.intro trivial ?_)
      refine if_eq hX (19) 26 (by decide +kernel) (by decide) (fun c_7 => ?_) (fun c => absurd (by decide) c)
      refine bk hX lkX12_ok (pc' := 27) [.iload_n 3] (by decide +kernel) (And.intro trivial ?_)
      exact z_iret hX (by decide +kernel) rfl (rfl) (by decide) (by decide) (by rw [← hg, Nat.gcd_zero_right]; exact ⟨rfl, rfl⟩)
    | succ m ih =>
      intro p q hm hp hq hg
      refine bk hX lkX12_ok (pc' := 7) [.iload 4] (by decide +kernel) (And.intro trivial ?_)
      refine if_eq hX (19) 26 (by decide +kernel) (by decide) (fun c0 => ?_) (fun c0 => ?_)
      · refine bk hX lkX12_ok (pc' := 27) [.iload_n 3] (by decide +kernel) (And.intro trivial ?_)
        exact z_iret hX (by decide +kernel) rfl (rfl) (by decide) (by decide) (by have hz : q = 0 := nI_inj (b := 0) hq (by decide) c0; rw [← hg, hz, Nat.gcd_zero_right]; exact ⟨rfl, rfl⟩)
      · refine bk hX lkX12_ok (pc' := 23) [.iload_n 3, .iload 4, .irem, .istore 5, .iload 4, .istore_n 3, .iload 5, .istore 4] (by decide +kernel) (And.intro (by exact c0) (And.intro trivial ?_))
        refine gt_ hX (-18) 5 (by decide +kernel) (by decide) ?_
        refine z_lvk (lv' := [(3, _), (4, _)]) [1, 0] rfl ?_
        have hq0 : 0 < q := Nat.pos_of_ne_zero (fun z => c0 (by rw [z]; rfl))
        have hml := Nat.mod_lt p hq0
        rw [i_mod hp hq0 hq]
        exact ih q (p % q) (by omega) hq (by omega) (by rw [← hg, Nat.gcd_comm p q, Nat.gcd_rec q p, Nat.gcd_comm])
  refine bk hX lkX12_ok (pc' := 5) [.iload_n 1, .istore_n 3, .iload_n 2, .istore 4] (by decide +kernel) (And.intro trivial ?_)
  refine z_lvk (lv' := [(3, _), (4, _)]) [1, 0] rfl ?_
  exact hl y x y (Nat.le_refl _) hx hy rfl
def loS (x y : Nat) (part : Int32) : Int64 := if part = 0 then lN (x / Nat.gcd x y) else lN (y / Nat.gcd x y)
theorem c_M_lowest (E : zE) (σ : Sg) (hk : σ.1 100 = 14) {x y : Nat} (hx : x < 2 ^ 30) (hy : y < 2 ^ 30) (hy0 : 0 < y) (part : Int32) : zCt E mX12_lowest 1 0 0 σ [.ref 100, .int (nI x), .int (nI y), .int part] (fun r σ' => σ' = σ ∧ r = some (.long (loS x y part))) := by
  have hg0 : 0 < Nat.gcd x y := Nat.gcd_pos_of_pos_right x hy0
  have hgl : Nat.gcd x y ≤ y := Nat.gcd_le_right x hy0
  refine z_intro (by decide) (Nat.le_of_ble_eq_true rfl) (fun X hX => ?_)
  refine bk hX lkX12_ok (pc' := 3) [.aload_n 0, .iload_n 1, .iload_n 2] (by decide +kernel) (And.intro trivial ?_)
  refine z_callV hX kw_X12_370 (c_M_divisor E _ 100 (by omega) (by omega)) rfl rfl hk rfl rfl (by decide +kernel) (by decide) (by decide) (by decide) (by decide) (Nat.le_of_ble_eq_true rfl) ?_
  rintro _ _ ⟨rfl, rfl⟩
  refine bk hX lkX12_ok (pc' := 9) [.istore 4, .iload_n 3] (by decide +kernel) (And.intro trivial ?_)
  refine if_ne hX (11) 20 (by decide +kernel) (by decide) (fun cp => ?_) (fun cp => ?_)
  · refine bk hX lkX12_ok (pc' := 25) [.iload_n 2, .iload 4, .idiv, .i2l] (by decide +kernel) (And.intro (by exact nI_ne0 hg0 (by omega)) (And.intro trivial ?_))
    exact z_lret hX (by decide +kernel) rfl (by decide) (by decide) (by
  have hdl : ∀ z, z < 2 ^ 30 → z / Nat.gcd x y < 2 ^ 31 := fun z hz => Nat.lt_of_le_of_lt (Nat.div_le_self _ _) (by omega)
  rw [i_div (by omega) hg0 (by omega), nI_l (hdl _ (by assumption))]
  refine ⟨rfl, ?_⟩
  unfold loS
  first
    | rw [if_pos cp]
    | rw [if_neg cp])
  · refine bk hX lkX12_ok (pc' := 17) [.iload_n 1, .iload 4, .idiv, .i2l] (by decide +kernel) (And.intro (by exact nI_ne0 hg0 (by omega)) (And.intro trivial ?_))
    refine gt_ hX (8) 25 (by decide +kernel) (by decide) ?_
    exact z_lret hX (by decide +kernel) rfl (by decide) (by decide) (by
  have hdl : ∀ z, z < 2 ^ 30 → z / Nat.gcd x y < 2 ^ 31 := fun z hz => Nat.lt_of_le_of_lt (Nat.div_le_self _ _) (by omega)
  rw [i_div (by omega) hg0 (by omega), nI_l (hdl _ (by assumption))]
  refine ⟨rfl, ?_⟩
  unfold loS
  first
    | rw [if_pos cp]
    | rw [if_neg cp])
/-- odds: how many of the first j who stay at home leave q holes or fewer -/
def odN (g : Gv) (r k q : Nat) : Nat → Nat
  | 0 => 0
  | j + 1 => odN g r k q j + (if ahN (daysS r k (homG g (nI j) 1)) (gn g) ≤ q then 1 else 0)
theorem odN_le (g : Gv) (r k q : Nat) : ∀ j, odN g r k q j ≤ j
  | 0 => Nat.le_refl 0
  | j + 1 => by
    have := odN_le g r k q j
    show odN g r k q j + _ ≤ _
    split <;> omega
def zNO : Int64 := -9223372036854775808
def oddS (g : Gv) (r : Nat) (x q part : Int32) : Int64 := if isIn x 61 = true ∧ isIn q 61 = true ∧ isIn part 2 = true ∧ gn g ≠ 0 then loS (odN g r (jx x) (jx q) (gn g)) (gn g) part else zNO
theorem frA_hom {I : Nat → Nat → Int32} (v : Int32) : frA I (up2 I 100 1 v) := ⟨fun q _ _ _ _ h => up2_ne _ _ _ h, fun k h _ => by rw [up2_at, if_neg h], fun k _ => ⟨by rw [up2_ne _ _ _ (by decide)], by rw [up2_ne _ _ _ (by decide)]⟩⟩
set_option maxHeartbeats 2000000 in
theorem c_M_odds (E : zE) (K N : Nat → Nat) (Rf : Nat → Nat → Option Nat) (I : Nat → Nat → Int32) (L : Nat → Nat → Int64) {g : Gv} (hg : gwf g) (hG : mG g I) {w : Wk} {b : Nat} (hB : mHB w b I) (hd : gd g ≤ 90000) (x q part : Int32) : zCt E mX12_odds 5 0 0 (sg K N Rf I L) [.ref 100, .int x, .int q, .int part] (fun r σ' => ∃ I', σ' = sg K N Rf I' L ∧ r = some (.long (oddS g (rdS w) x q part)) ∧ sE I I') := by
  have h6 := hg.1
  have hl : ∀ (k q : Nat), k < 61 → q < 61 → isIn part 2 = true → gn g ≠ 0 → ∀ X : zX, zD X E mX12_odds 5 0 0 (fun r σ' => ∃ I', σ' = sg K N Rf I' L ∧ r = some (.long (oddS g (rdS w) (nI k) (nI q) part)) ∧ sE I I') → ∀ m p (I1 : Nat → Nat → Int32), p + m = gn g → sE I I1 → zS X (sg K N Rf I1 L) 0 0 46 [(0, .ref 100), (1, .int (nI k)), (2, .int (nI q)), (3, .int part), (4, .int (nI (odN g (rdS w) k q p))), (5, .int (nI p))] [] := by
    intro k q hk hq hpt hn0 X hX m
    have hful : oddS g (rdS w) (nI k) (nI q) part = loS (odN g (rdS w) k q (gn g)) (gn g) part := by
      unfold oddS; rw [if_pos ⟨isIn_nI hk (by decide), isIn_nI hq (by decide), hpt, hn0⟩, jx_nI (by omega), jx_nI (by omega)]
    induction m with
    | zero =>
      intro p I1 hp h1
      obtain rfl : p = gn g := by omega
      have e0 : I1 100 0 = nI (gn g) := (mG_sE hG h1).1
      have hol := odN_le g (rdS w) k q (gn g)
      refine bk hX lkX12_ok (pc' := 52) [.iload 5, .aload_n 0, .getfield 7] (by decide +kernel) (And.intro trivial ?_)
      rw [e0]
      refine ic_ge hX (47) 99 (by decide +kernel) (by decide) (fun c_52 => ?_) (fun c => absurd (nI_le (by omega) (by omega)) c)
      refine bk hX lkX12_ok (pc' := 107) [.aload_n 0, .iload 4, .aload_n 0, .getfield 7, .iload_n 3] (by decide +kernel) (And.intro trivial ?_)
      rw [e0]
      refine z_callV hX kw_X12_375 (c_M_lowest E _ rfl (by omega) (by omega) (by omega) _) rfl rfl rfl rfl rfl (by decide +kernel) (by decide) (by decide) (by decide) (by decide) (Nat.le_of_ble_eq_true rfl) ?_
      rintro _ _ ⟨rfl, rfl⟩
      exact z_lret hX (by decide +kernel) rfl (by decide) (by decide) (⟨I1, rfl, by rw [hful], h1⟩)
    | succ m ih =>
      intro p I1 hp h1
      have hG1 := mG_sE hG h1
      have e0 : I1 100 0 = nI (gn g) := hG1.1
      have hsv := sE_sv I1
      have hGh := mG_hom (mG_sE hG1 hsv) (nI p) (nI 1)
      have hBh : mHB w b (up2 (svI I1 6) 100 1 (rstS (svI I1 6 100 1) (nI p) (nI 1))) := mHB_frA (mHB_sE (mHB_sE hB h1) hsv) (frA_hom _)
      have hol := odN_le g (rdS w) k q p
      have hg2 := gwf_days (gwf_hom hg (nI p) (nI 1)) (rdS w) k
      have hn2 : gn (daysS (rdS w) k (homG g (nI p) (nI 1))) = gn g := gn_days (rdS w) k (homG g (nI p) (nI 1))
      have hal := ahN_le (daysS (rdS w) k (homG g (nI p) (nI 1))) (gn g)
      have hod : odN g (rdS w) k q (p + 1) = odN g (rdS w) k q p + (if ahN (daysS (rdS w) k (homG g (nI p) (nI 1))) (gn g) ≤ q then 1 else 0) := rfl
      refine bk hX lkX12_ok (pc' := 52) [.iload 5, .aload_n 0, .getfield 7] (by decide +kernel) (And.intro trivial ?_)
      rw [e0]
      refine ic_ge hX (47) 99 (by decide +kernel) (by decide) (fun c => absurd c (nI_ge (by omega) (by omega))) (fun c_52 => ?_)
      refine bk hX lkX12_ok (pc' := 56) [.aload_n 0] (by decide +kernel) (And.intro trivial ?_)
      refine z_callV hX kw_X12_340 (c_M_save E K N Rf I1 L) rfl rfl rfl rfl rfl (by decide +kernel) (by decide) (by decide) (by decide) (by decide) (Nat.le_of_ble_eq_true rfl) ?_
      rintro _ _ ⟨rfl, rfl⟩
      refine bk hX lkX12_ok (pc' := 63) [.aload_n 0, .iload 5, .iconst 1] (by decide +kernel) (And.intro trivial ?_)
      refine z_callV hX kw_X12_243 (c_M_rests E K N Rf (svI I1 6) L _ _) rfl rfl rfl rfl rfl (by decide +kernel) (by decide) (by decide) (by decide) (by decide) (Nat.le_of_ble_eq_true rfl) ?_
      rintro _ _ ⟨rfl, rfl⟩
      refine bk hX lkX12_ok (pc' := 68) [.aload_n 0, .iload_n 1] (by decide +kernel) (And.intro trivial ?_)
      refine z_callV hX kw_X12_337 (c_M_goDays E K N Rf (up2 (svI I1 6) 100 1 (rstS (svI I1 6 100 1) (nI p) (nI 1))) L (gwf_hom hg (nI p) (nI 1)) hGh hBh (k := k) (by show gd g + k ≤ _; omega) (by omega)) rfl rfl rfl rfl rfl (by decide +kernel) (by decide) (by decide) (by decide) (by decide) (Nat.le_of_ble_eq_true rfl) ?_
      rintro _ _ ⟨I2, rfl, rfl, h3, h4⟩
      have hback := ask_back (frA_tr (frA_hom _) (frA_D h6 h4))
      refine bk hX lkX12_ok (pc' := 74) [.iload 4, .aload_n 0] (by decide +kernel) (And.intro trivial ?_)
      refine z_callV hX kw_X12_343 (c_M_allHoles E K N Rf I2 L hg2 h3) rfl rfl rfl rfl rfl (by decide +kernel) (by decide) (by decide) (by decide) (by decide) (Nat.le_of_ble_eq_true rfl) ?_
      rintro _ _ ⟨rfl, rfl⟩
      rw [hn2]
      refine bk hX lkX12_ok (pc' := 78) [.iload_n 2] (by decide +kernel) (And.intro trivial ?_)
      refine ic_gt hX (7) 85 (by decide +kernel) (by decide) (fun cq => ?_) (fun cq => ?_)
      · refine bk hX lkX12_ok (pc' := 90) [.iconst 0, .iadd, .istore 4, .aload_n 0] (by decide +kernel) (And.intro trivial ?_)
        refine z_callV hX kw_X12_346 (c_M_putBack E K N Rf I2 L) rfl rfl rfl rfl rfl (by decide +kernel) (by decide) (by decide) (by decide) (by decide) (Nat.le_of_ble_eq_true rfl) ?_
        rintro _ _ ⟨rfl, rfl⟩
        refine bk hX lkX12_ok (pc' := 96) [.iinc 5 1] (by decide +kernel) (And.intro trivial ?_)
        refine gt_ hX (-50) 46 (by decide +kernel) (by decide) ?_
        refine z_lvk (lv' := [(0, _), (1, _), (2, _), (3, _), (4, _), (5, _)]) [2, 3, 4, 5, 1, 0] rfl ?_
        have hi := ih (p + 1) _ (by omega) (sE_tr h1 hback)
        rw [hod] at hi
        rw [nI_add, nI_add]
        first
          | (rw [if_neg (fun z => absurd (nI_le z (by omega)) (i_nle.mpr cq))] at hi; exact hi)
          | (rw [if_pos ((nI_leI (by omega) (by omega)).mp (i_nlt.mp cq))] at hi; exact hi)
      · refine bk hX lkX12_ok (pc' := 82) [.iconst 1] (by decide +kernel) (And.intro trivial ?_)
        refine gt_ hX (4) 86 (by decide +kernel) (by decide) ?_
        refine bk hX lkX12_ok (pc' := 90) [.iadd, .istore 4, .aload_n 0] (by decide +kernel) (And.intro trivial ?_)
        refine z_callV hX kw_X12_346 (c_M_putBack E K N Rf I2 L) rfl rfl rfl rfl rfl (by decide +kernel) (by decide) (by decide) (by decide) (by decide) (Nat.le_of_ble_eq_true rfl) ?_
        rintro _ _ ⟨rfl, rfl⟩
        refine bk hX lkX12_ok (pc' := 96) [.iinc 5 1] (by decide +kernel) (And.intro trivial ?_)
        refine gt_ hX (-50) 46 (by decide +kernel) (by decide) ?_
        refine z_lvk (lv' := [(0, _), (1, _), (2, _), (3, _), (4, _), (5, _)]) [2, 3, 4, 5, 1, 0] rfl ?_
        have hi := ih (p + 1) _ (by omega) (sE_tr h1 hback)
        rw [hod] at hi
        rw [nI_add, nI_add]
        first
          | (rw [if_neg (fun z => absurd (nI_le z (by omega)) (i_nle.mpr cq))] at hi; exact hi)
          | (rw [if_pos ((nI_leI (by omega) (by omega)).mp (i_nlt.mp cq))] at hi; exact hi)
  refine z_intro (by decide) (Nat.le_of_ble_eq_true rfl) (fun X hX => ?_)
  refine bk hX lkX12_ok (pc' := 2) [.aload_n 0, .iload_n 1] (by decide +kernel) (And.intro trivial ?_)
  refine z_callV hX kw_X12_334 (c_M_isDays E _ rfl _) rfl rfl rfl rfl rfl (by decide +kernel) (by decide) (by decide) (by decide) (by decide) (Nat.le_of_ble_eq_true rfl) ?_
  rintro _ _ ⟨rfl, hh⟩
  rw [days_in] at hh
  rcases hh with ⟨hx, rfl⟩ | ⟨hx, rfl⟩
  · refine if_eq hX (31) 36 (by decide +kernel) (by decide) (fun c => absurd c (by decide)) (fun c_5 => ?_)
    refine bk hX lkX12_ok (pc' := 13) [.aload_n 0, .iload_n 2, .iconst 0, .bipush 60] (by decide +kernel) (And.intro trivial ?_)
    refine z_callV hX kw_X12_228 (c_M_in E _ _ _ _ _) rfl rfl rfl rfl rfl (by decide +kernel) (by decide) (by decide) (by decide) (by decide) (Nat.le_of_ble_eq_true rfl) ?_
    rintro _ _ ⟨rfl, hh⟩
    rw [in_ix 60 (by decide)] at hh
    rcases hh with ⟨hq, rfl⟩ | ⟨hq, rfl⟩
    · refine if_eq hX (20) 36 (by decide +kernel) (by decide) (fun c => absurd c (by decide)) (fun c_16 => ?_)
      refine bk hX lkX12_ok (pc' := 23) [.aload_n 0, .iload_n 3, .iconst 0, .iconst 1] (by decide +kernel) (And.intro trivial ?_)
      refine z_callV hX kw_X12_228 (c_M_in E _ _ _ _ _) rfl rfl rfl rfl rfl (by decide +kernel) (by decide) (by decide) (by decide) (by decide) (Nat.le_of_ble_eq_true rfl) ?_
      rintro _ _ ⟨rfl, hh⟩
      rw [in_ix 1 (by decide)] at hh
      rcases hh with ⟨hpt, rfl⟩ | ⟨hpt, rfl⟩
      · refine if_eq hX (10) 36 (by decide +kernel) (by decide) (fun c => absurd c (by decide)) (fun c_26 => ?_)
        refine bk hX lkX12_ok (pc' := 33) [.aload_n 0, .getfield 7] (by decide +kernel) (And.intro trivial ?_)
        rw [hG.1]
        refine if_ne hX (7) 40 (by decide +kernel) (by decide) (fun c0 => ?_) (fun c0 => ?_)
        · obtain ⟨k, hk, rfl⟩ := (isIn_iff (by decide)).mp hx
          obtain ⟨q, hq1, rfl⟩ := (isIn_iff (by decide)).mp hq
          refine bk hX lkX12_ok (pc' := 46) [.iconst 0, .istore 4, .iconst 0, .istore 5] (by decide +kernel) (And.intro trivial ?_)
          refine z_lvk (lv' := [(0, _), (1, _), (2, _), (3, _), (4, _), (5, _)]) [2, 3, 4, 5, 1, 0] rfl ?_
          exact hl k q hk hq1 hpt (fun z => c0 (by rw [z]; rfl)) X hX (gn g) 0 I (by omega) (sE_rf _)
        · refine bk hX lkX12_ok (pc' := 39) [.ldc2_w 373] (by decide +kernel) (And.intro trivial ?_)
          exact z_lret hX (by decide +kernel) rfl (by decide) (by decide) (by first | exact ⟨I, rfl, by unfold oddS; rw [if_neg (fun z => hx z.1)]; rfl, sE_rf _⟩ | exact ⟨I, rfl, by unfold oddS; rw [if_neg (fun z => hq z.2.1)]; rfl, sE_rf _⟩ | exact ⟨I, rfl, by unfold oddS; rw [if_neg (fun z => hpt z.2.2.1)]; rfl, sE_rf _⟩ | exact ⟨I, rfl, by unfold oddS; rw [if_neg (fun z => z.2.2.2 (nI_inj (b := 0) (by omega) (by decide) c0))]; rfl, sE_rf _⟩)
      · refine if_eq hX (10) 36 (by decide +kernel) (by decide) (fun c_26 => ?_) (fun c => absurd (by decide) c)
        refine bk hX lkX12_ok (pc' := 39) [.ldc2_w 373] (by decide +kernel) (And.intro trivial ?_)
        exact z_lret hX (by decide +kernel) rfl (by decide) (by decide) (by first | exact ⟨I, rfl, by unfold oddS; rw [if_neg (fun z => hx z.1)]; rfl, sE_rf _⟩ | exact ⟨I, rfl, by unfold oddS; rw [if_neg (fun z => hq z.2.1)]; rfl, sE_rf _⟩ | exact ⟨I, rfl, by unfold oddS; rw [if_neg (fun z => hpt z.2.2.1)]; rfl, sE_rf _⟩ | exact ⟨I, rfl, by unfold oddS; rw [if_neg (fun z => z.2.2.2 (nI_inj (b := 0) (by omega) (by decide) c0))]; rfl, sE_rf _⟩)
    · refine if_eq hX (20) 36 (by decide +kernel) (by decide) (fun c_16 => ?_) (fun c => absurd (by decide) c)
      refine bk hX lkX12_ok (pc' := 39) [.ldc2_w 373] (by decide +kernel) (And.intro trivial ?_)
      exact z_lret hX (by decide +kernel) rfl (by decide) (by decide) (by first | exact ⟨I, rfl, by unfold oddS; rw [if_neg (fun z => hx z.1)]; rfl, sE_rf _⟩ | exact ⟨I, rfl, by unfold oddS; rw [if_neg (fun z => hq z.2.1)]; rfl, sE_rf _⟩ | exact ⟨I, rfl, by unfold oddS; rw [if_neg (fun z => hpt z.2.2.1)]; rfl, sE_rf _⟩ | exact ⟨I, rfl, by unfold oddS; rw [if_neg (fun z => z.2.2.2 (nI_inj (b := 0) (by omega) (by decide) c0))]; rfl, sE_rf _⟩)
  · refine if_eq hX (31) 36 (by decide +kernel) (by decide) (fun c_5 => ?_) (fun c => absurd (by decide) c)
    refine bk hX lkX12_ok (pc' := 39) [.ldc2_w 373] (by decide +kernel) (And.intro trivial ?_)
    exact z_lret hX (by decide +kernel) rfl (by decide) (by decide) (by first | exact ⟨I, rfl, by unfold oddS; rw [if_neg (fun z => hx z.1)]; rfl, sE_rf _⟩ | exact ⟨I, rfl, by unfold oddS; rw [if_neg (fun z => hq z.2.1)]; rfl, sE_rf _⟩ | exact ⟨I, rfl, by unfold oddS; rw [if_neg (fun z => hpt z.2.2.1)]; rfl, sE_rf _⟩ | exact ⟨I, rfl, by unfold oddS; rw [if_neg (fun z => z.2.2.2 (nI_inj (b := 0) (by omega) (by decide) c0))]; rfl, sE_rf _⟩)
def meanS (g : Gv) (r : Nat) (x part : Int32) : Int64 := if isIn x 61 = true ∧ isIn part 2 = true ∧ gn g ≠ 0 then loS (ahN (daysS r (jx x) g) (gn g)) (gn g) part else zNO
theorem c_M_mean (E : zE) (K N : Nat → Nat) (Rf : Nat → Nat → Option Nat) (I : Nat → Nat → Int32) (L : Nat → Nat → Int64) {g : Gv} (hg : gwf g) (hG : mG g I) {w : Wk} {b : Nat} (hB : mHB w b I) (hd : gd g ≤ 90000) (x part : Int32) : zCt E mX12_mean 6 0 0 (sg K N Rf I L) [.ref 100, .int x, .int part] (fun r σ' => ∃ I', σ' = sg K N Rf I' L ∧ r = some (.long (meanS g (rdS w) x part)) ∧ sE I I') := by
  have h6 := hg.1
  refine z_intro (by decide) (Nat.le_of_ble_eq_true rfl) (fun X hX => ?_)
  refine bk hX lkX12_ok (pc' := 2) [.aload_n 0, .iload_n 1] (by decide +kernel) (And.intro trivial ?_)
  refine z_callV hX kw_X12_334 (c_M_isDays E _ rfl _) rfl rfl rfl rfl rfl (by decide +kernel) (by decide) (by decide) (by decide) (by decide) (Nat.le_of_ble_eq_true rfl) ?_
  rintro _ _ ⟨rfl, hh⟩
  rw [days_in] at hh
  rcases hh with ⟨hx, rfl⟩ | ⟨hx, rfl⟩
  · refine if_eq hX (38) 43 (by decide +kernel) (by decide) (fun c => absurd c (by decide)) (fun c_5 => ?_)
    refine bk hX lkX12_ok (pc' := 12) [.aload_n 0, .iload_n 2, .iconst 0, .iconst 1] (by decide +kernel) (And.intro trivial ?_)
    refine z_callV hX kw_X12_228 (c_M_in E _ _ _ _ _) rfl rfl rfl rfl rfl (by decide +kernel) (by decide) (by decide) (by decide) (by decide) (Nat.le_of_ble_eq_true rfl) ?_
    rintro _ _ ⟨rfl, hh⟩
    rw [in_ix 1 (by decide)] at hh
    rcases hh with ⟨hpt, rfl⟩ | ⟨hpt, rfl⟩
    · refine if_eq hX (28) 43 (by decide +kernel) (by decide) (fun c => absurd c (by decide)) (fun c_15 => ?_)
      refine bk hX lkX12_ok (pc' := 22) [.aload_n 0, .getfield 7] (by decide +kernel) (And.intro trivial ?_)
      rw [hG.1]
      refine if_le hX (21) 43 (by decide +kernel) (by decide) (fun c0 => ?_) (fun c0 => ?_)
      · refine bk hX lkX12_ok (pc' := 46) [.ldc2_w 373] (by decide +kernel) (And.intro trivial ?_)
        exact z_lret hX (by decide +kernel) rfl (by decide) (by decide) (by first | exact ⟨I2, rfl, by unfold meanS; rw [if_pos ⟨hx, hpt, hn0⟩], h3⟩ | exact ⟨I, rfl, by unfold meanS; rw [if_neg (fun z => hx z.1)]; rfl, sE_rf _⟩ | exact ⟨I, rfl, by unfold meanS; rw [if_neg (fun z => hpt z.2.1)]; rfl, sE_rf _⟩ | exact ⟨I, rfl, by unfold meanS; rw [if_neg (fun z => z.2.2 (Nat.le_zero.mp ((nI_leI (b := 0) (by omega) (by decide)).mp c0)))]; rfl, sE_rf _⟩)
      · refine bk hX lkX12_ok (pc' := 29) [.aload_n 0, .aload_n 0, .iload_n 1, .iconst 0] (by decide +kernel) (And.intro trivial ?_)
        refine z_callV hX kw_X12_379 (c_M_on E K N Rf I L hg hG hB hd _ _) rfl rfl rfl rfl rfl (by decide +kernel) (by decide) (by decide) (by decide) (by decide) (Nat.le_of_ble_eq_true rfl) ?_
        rintro _ _ ⟨I2, rfl, rfl, h3⟩
        have hn0 : gn g ≠ 0 := fun z => c0 (by rw [z]; decide)
        have hal := ahN_le (daysS (rdS w) (jx x) g) (gn g)
        have hon : onS g (rdS w) x (nI 0) = nI (ahN (daysS (rdS w) (jx x) g) (gn g)) := by unfold onS; rw [if_pos (Or.inl (show nI 0 = 0 from rfl)), if_pos hx, if_pos (show nI 0 = 0 from rfl)]
        rw [hon]
        refine bk hX lkX12_ok (pc' := 37) [.aload_n 0, .getfield 7, .iload_n 2] (by decide +kernel) (And.intro trivial ?_)
        rw [show I2 100 0 = nI (gn g) from (mG_sE hG h3).1]
        refine z_callV hX kw_X12_375 (c_M_lowest E _ rfl (by omega) (by omega) (by omega) _) rfl rfl rfl rfl rfl (by decide +kernel) (by decide) (by decide) (by decide) (by decide) (Nat.le_of_ble_eq_true rfl) ?_
        rintro _ _ ⟨rfl, rfl⟩
        refine gt_ hX (6) 46 (by decide +kernel) (by decide) ?_
        exact z_lret hX (by decide +kernel) rfl (by decide) (by decide) (by first | exact ⟨I2, rfl, by unfold meanS; rw [if_pos ⟨hx, hpt, hn0⟩], h3⟩ | exact ⟨I, rfl, by unfold meanS; rw [if_neg (fun z => hx z.1)]; rfl, sE_rf _⟩ | exact ⟨I, rfl, by unfold meanS; rw [if_neg (fun z => hpt z.2.1)]; rfl, sE_rf _⟩ | exact ⟨I, rfl, by unfold meanS; rw [if_neg (fun z => z.2.2 (Nat.le_zero.mp ((nI_leI (b := 0) (by omega) (by decide)).mp c0)))]; rfl, sE_rf _⟩)
    · refine if_eq hX (28) 43 (by decide +kernel) (by decide) (fun c_15 => ?_) (fun c => absurd (by decide) c)
      refine bk hX lkX12_ok (pc' := 46) [.ldc2_w 373] (by decide +kernel) (And.intro trivial ?_)
      exact z_lret hX (by decide +kernel) rfl (by decide) (by decide) (by first | exact ⟨I2, rfl, by unfold meanS; rw [if_pos ⟨hx, hpt, hn0⟩], h3⟩ | exact ⟨I, rfl, by unfold meanS; rw [if_neg (fun z => hx z.1)]; rfl, sE_rf _⟩ | exact ⟨I, rfl, by unfold meanS; rw [if_neg (fun z => hpt z.2.1)]; rfl, sE_rf _⟩ | exact ⟨I, rfl, by unfold meanS; rw [if_neg (fun z => z.2.2 (Nat.le_zero.mp ((nI_leI (b := 0) (by omega) (by decide)).mp c0)))]; rfl, sE_rf _⟩)
  · refine if_eq hX (38) 43 (by decide +kernel) (by decide) (fun c_5 => ?_) (fun c => absurd (by decide) c)
    refine bk hX lkX12_ok (pc' := 46) [.ldc2_w 373] (by decide +kernel) (And.intro trivial ?_)
    exact z_lret hX (by decide +kernel) rfl (by decide) (by decide) (by first | exact ⟨I2, rfl, by unfold meanS; rw [if_pos ⟨hx, hpt, hn0⟩], h3⟩ | exact ⟨I, rfl, by unfold meanS; rw [if_neg (fun z => hx z.1)]; rfl, sE_rf _⟩ | exact ⟨I, rfl, by unfold meanS; rw [if_neg (fun z => hpt z.2.1)]; rfl, sE_rf _⟩ | exact ⟨I, rfl, by unfold meanS; rw [if_neg (fun z => z.2.2 (Nat.le_zero.mp ((nI_leI (b := 0) (by omega) (by decide)).mp c0)))]; rfl, sE_rf _⟩)
end
section
def mPl (s : Rw) (I : Nat → Nat → Int32) : Prop := I 100 38 = nI s.1 ∧ s.1 ≤ 10 ∧ ∀ k, k < s.1 → I 141 k = nI (s.2.1 k) ∧ I 142 k = nI (s.2.2.1 k)
def wPl (s : Rw) (g : Gv) : Prop := ∀ k, k < s.1 → s.2.1 k ≤ 3 ∧ s.2.2.1 k < 100 ∧ (s.2.1 k = 1 → s.2.2.1 k / 10 < gn g ∧ s.2.2.1 k % 10 < gn g) ∧ (2 ≤ s.2.1 k → s.2.2.1 k < gn g)
def mBk (s : Rw) (I : Nat → Nat → Int32) : Prop := I 100 39 = nI s.1 ∧ s.1 ≤ 8 ∧ ∀ k, k < s.1 → I 143 k = nI (s.2.1 k) ∧ I 144 k = nI (s.2.2.1 k)
def wBk (s : Rw) (g : Gv) : Prop := ∀ k, k < s.1 → s.2.1 k < gn g ∧ s.2.2.1 k < 1024
theorem mPl_eq {s : Rw} {I I' : Nat → Nat → Int32} (h : mPl s I) (e0 : I' 100 38 = I 100 38) (e1 : I' 141 = I 141) (e2 : I' 142 = I 142) : mPl s I' := by
  unfold mPl
  rw [e0, e1, e2]
  exact h
theorem mBk_eq {s : Rw} {I I' : Nat → Nat → Int32} (h : mBk s I) (e0 : I' 100 39 = I 100 39) (e1 : I' 143 = I 143) (e2 : I' 144 = I 144) : mBk s I' := by
  unfold mBk
  rw [e0, e1, e2]
  exact h
def prB (n : Nat) (x : Int32) : Bool := decide (0 ≤ x.toInt) && (decide (jx x / 10 < n) && decide (jx x % 10 < n))
theorem prB_iff {n : Nat} {x : Int32} : prB n x = true ↔ 0 ≤ x.toInt ∧ jx x / 10 < n ∧ jx x % 10 < n := by simp only [prB, Bool.and_eq_true, decide_eq_true_eq]
theorem i_neg {x : Int32} : x < 0 ↔ ¬ 0 ≤ x.toInt := by
  rw [Int32.lt_iff_toInt_lt]
  have : (0 : Int32).toInt = 0 := rfl
  omega
theorem i_ofn {x : Int32} (h : ¬ x < 0) : x = nI (jx x) ∧ jx x < 2 ^ 31 ∧ 0 ≤ x.toInt := by
  obtain ⟨j, hj, rfl⟩ := nI_of h
  rw [jx_nI hj, nI_toInt hj]
  exact ⟨rfl, hj, by omega⟩
theorem in_nI {j n : Nat} (hn : n ≤ 6) (hj : j < 2 ^ 31) : (isIn (nI j) n = true) ↔ j < n := by
  rw [isIn_iff (by omega)]
  exact ⟨fun ⟨k, h, e⟩ => by rw [nI_inj hj (by omega) e]; exact h, fun h => ⟨j, h, rfl⟩⟩
theorem c_M_isPair (E : zE) (K N : Nat → Nat) (Rf : Nat → Nat → Option Nat) (I : Nat → Nat → Int32) (L : Nat → Nat → Int64) {g : Gv} (hg : gwf g) (hG : mG g I) (x : Int32) : zCt E mX12_isPair 2 0 0 (sg K N Rf I L) [.ref 100, .int x] (fun r σ' => σ' = (sg K N Rf I L) ∧ (((prB (gn g) x = true) ∧ r = some (.int 1)) ∨ (¬ ((prB (gn g) x = true)) ∧ r = some (.int 0)))) := by
  have h6 := hg.1
  refine z_intro (by decide) (Nat.le_of_ble_eq_true rfl) (fun X hX => ?_)
  refine bk hX lkX12_ok (pc' := 1) [.iload_n 1] (by decide +kernel) (And.intro trivial ?_)
  refine if_lt hX (29) 30 (by decide +kernel) (by decide) (fun c0 => ?_) (fun c0 => ?_)
  · refine bk hX lkX12_ok (pc' := 31) [.iconst 0] (by decide +kernel) (And.intro trivial ?_)
    exact z_iret hX (by decide +kernel) rfl (rfl) (by decide) (by decide) (by first | exact ⟨rfl, Or.inl ⟨prB_iff.mpr ⟨hx0, h1, h2⟩, rfl⟩⟩ | exact ⟨rfl, Or.inr ⟨fun z => (i_neg.mp c0) (prB_iff.mp z).1, rfl⟩⟩ | exact ⟨rfl, Or.inr ⟨fun z => h1 (prB_iff.mp z).2.1, rfl⟩⟩ | exact ⟨rfl, Or.inr ⟨fun z => h2 (prB_iff.mp z).2.2, rfl⟩⟩)
  · obtain ⟨ex, hx31, hx0⟩ := i_ofn c0
    have ed : x / nI 10 = nI (jx x / 10) := by rw [ex, i_div (d := 10) hx31 (by decide) (by decide), jx_nI hx31]
    have em : x - x / nI 10 * nI 10 = nI (jx x % 10) := by rw [ex, i_mod (d := 10) hx31 (by decide) (by decide), jx_nI hx31]
    have hdl : jx x / 10 < 2 ^ 31 := by omega
    have hml : jx x % 10 < 2 ^ 31 := by omega
    refine bk hX lkX12_ok (pc' := 9) [.aload_n 0, .iload_n 1, .bipush 10, .idiv] (by decide +kernel) (And.intro (by decide) (And.intro trivial ?_))
    rw [ed]
    refine z_callV hX kw_X12_232 (c_M_isWorker E K N Rf I L _ hg.1 hG.1) rfl rfl rfl rfl rfl (by decide +kernel) (by decide) (by decide) (by decide) (by decide) (Nat.le_of_ble_eq_true rfl) ?_
    rintro _ _ ⟨rfl, hh⟩
    rw [← isIn_iff (by omega), in_nI h6 hdl] at hh
    rcases hh with ⟨h1, rfl⟩ | ⟨h1, rfl⟩
    · refine if_eq hX (18) 30 (by decide +kernel) (by decide) (fun c => absurd c (by decide)) (fun c_12 => ?_)
      refine bk hX lkX12_ok (pc' := 20) [.aload_n 0, .iload_n 1, .bipush 10, .irem] (by decide +kernel) (And.intro (by decide) (And.intro trivial ?_))
      rw [em]
      refine z_callV hX kw_X12_232 (c_M_isWorker E K N Rf I L _ hg.1 hG.1) rfl rfl rfl rfl rfl (by decide +kernel) (by decide) (by decide) (by decide) (by decide) (Nat.le_of_ble_eq_true rfl) ?_
      rintro _ _ ⟨rfl, hh⟩
      rw [← isIn_iff (by omega), in_nI h6 hml] at hh
      rcases hh with ⟨h2, rfl⟩ | ⟨h2, rfl⟩
      · refine if_eq hX (7) 30 (by decide +kernel) (by decide) (fun c => absurd c (by decide)) (fun c_23 => ?_)
        refine bk hX lkX12_ok (pc' := 27) [.iconst 1] (by decide +kernel) (And.intro trivial ?_)
        refine gt_ hX (4) 31 (by decide +kernel) (by decide) ?_
        exact z_iret hX (by decide +kernel) rfl (rfl) (by decide) (by decide) (by first | exact ⟨rfl, Or.inl ⟨prB_iff.mpr ⟨hx0, h1, h2⟩, rfl⟩⟩ | exact ⟨rfl, Or.inr ⟨fun z => (i_neg.mp c0) (prB_iff.mp z).1, rfl⟩⟩ | exact ⟨rfl, Or.inr ⟨fun z => h1 (prB_iff.mp z).2.1, rfl⟩⟩ | exact ⟨rfl, Or.inr ⟨fun z => h2 (prB_iff.mp z).2.2, rfl⟩⟩)
      · refine if_eq hX (7) 30 (by decide +kernel) (by decide) (fun c_23 => ?_) (fun c => absurd (by decide) c)
        refine bk hX lkX12_ok (pc' := 31) [.iconst 0] (by decide +kernel) (And.intro trivial ?_)
        exact z_iret hX (by decide +kernel) rfl (rfl) (by decide) (by decide) (by first | exact ⟨rfl, Or.inl ⟨prB_iff.mpr ⟨hx0, h1, h2⟩, rfl⟩⟩ | exact ⟨rfl, Or.inr ⟨fun z => (i_neg.mp c0) (prB_iff.mp z).1, rfl⟩⟩ | exact ⟨rfl, Or.inr ⟨fun z => h1 (prB_iff.mp z).2.1, rfl⟩⟩ | exact ⟨rfl, Or.inr ⟨fun z => h2 (prB_iff.mp z).2.2, rfl⟩⟩)
    · refine if_eq hX (18) 30 (by decide +kernel) (by decide) (fun c_12 => ?_) (fun c => absurd (by decide) c)
      refine bk hX lkX12_ok (pc' := 31) [.iconst 0] (by decide +kernel) (And.intro trivial ?_)
      exact z_iret hX (by decide +kernel) rfl (rfl) (by decide) (by decide) (by first | exact ⟨rfl, Or.inl ⟨prB_iff.mpr ⟨hx0, h1, h2⟩, rfl⟩⟩ | exact ⟨rfl, Or.inr ⟨fun z => (i_neg.mp c0) (prB_iff.mp z).1, rfl⟩⟩ | exact ⟨rfl, Or.inr ⟨fun z => h1 (prB_iff.mp z).2.1, rfl⟩⟩ | exact ⟨rfl, Or.inr ⟨fun z => h2 (prB_iff.mp z).2.2, rfl⟩⟩)
def planOk (n : Nat) (wh x : Int32) : Prop := isIn wh 4 = true ∧ (wh = nI 1 → prB n x = true) ∧ (nI 1 < wh → isIn x n = true)
def planS (s : Rw) (n : Nat) (wh x : Int32) : Int32 × Rw := if wh = -nI 1 then (0, (0, s.2)) else if isIn wh 4 = true ∧ (wh = nI 1 → prB n x = true) ∧ (nI 1 < wh → isIn x n = true) then (if wh = nI 1 ∧ jx x / 10 = jx x % 10 then (-nI 2, s) else if s.1 = 10 then (-nI 4, s) else (nI (s.1 + 1), (s.1 + 1, upN s.2.1 s.1 (jx wh), upN s.2.2.1 s.1 (if nI 0 < wh then jx x else 0), s.2.2.2))) else (-nI 1, s)
set_option maxHeartbeats 2000000 in
theorem c_M_plan (E : zE) (K N : Nat → Nat) (Rf : Nat → Nat → Option Nat) (I : Nat → Nat → Int32) (L : Nat → Nat → Int64) {g : Gv} (hg : gwf g) (hG : mG g I) {s : Rw} (hs : mPl s I) (wh x : Int32) : zCt E mX12_plan 3 0 0 (sg K N Rf I L) [.ref 100, .int wh, .int x] (fun r σ' => ∃ I', σ' = sg K N Rf I' L ∧ r = some (.int (planS s (gn g) wh x).1) ∧ mPl (planS s (gn g) wh x).2 I' ∧ frX [141, 142] [38] I I') := by
  have h6 := hg.1
  obtain ⟨hs0, hs5, hsk⟩ := hs
  have cs : (nI s.1).toNatClampNeg = s.1 := cl (by omega)
  have hno : ∀ X : zX, zD X E mX12_plan 3 0 0 (fun r σ' => ∃ I', σ' = sg K N Rf I' L ∧ r = some (.int (planS s (gn g) wh x).1) ∧ mPl (planS s (gn g) wh x).2 I' ∧ frX [141, 142] [38] I I') → ¬ wh = -nI 1 → ¬ (isIn wh 4 = true ∧ (wh = nI 1 → prB (gn g) x = true) ∧ (nI 1 < wh → isIn x (gn g) = true)) → zS X (sg K N Rf I L) 0 0 48 [(0, .ref 100), (1, .int wh), (2, .int x)] [] := by
    intro X hX c1 hn
    refine bk hX lkX12_ok (pc' := 49) [.iconst (Int.negSucc 0)] (by decide +kernel) (And.intro trivial ?_)
    exact z_iret hX (by decide +kernel) rfl (rfl) (by decide) (by decide) (⟨I, rfl, by unfold planS; rw [if_neg c1, if_neg hn], by unfold planS; rw [if_neg c1, if_neg hn]; exact ⟨hs0, hs5, hsk⟩, frX_rf _ _ _⟩)
  have hyes : ∀ X : zX, zD X E mX12_plan 3 0 0 (fun r σ' => ∃ I', σ' = sg K N Rf I' L ∧ r = some (.int (planS s (gn g) wh x).1) ∧ mPl (planS s (gn g) wh x).2 I' ∧ frX [141, 142] [38] I I') → ¬ wh = -nI 1 → (isIn wh 4 = true ∧ (wh = nI 1 → prB (gn g) x = true) ∧ (nI 1 < wh → isIn x (gn g) = true)) → zS X (sg K N Rf I L) 0 0 50 [(0, .ref 100), (1, .int wh), (2, .int x)] [] := by
    intro X hX c1 hn
    obtain ⟨k, hk4, rfl⟩ := (isIn_iff (by decide)).mp hn.1
    have hadd : ∀ y : Int32, (y = nI (if nI 0 < nI k then jx x else 0)) → ¬ (nI k = nI 1 ∧ jx x / 10 = jx x % 10) → ¬ s.1 = 10 → (∃ I', sg K N Rf (up2 (up2 (up2 I 141 s.1 (nI k)) 142 s.1 y) 100 38 (nI (s.1 + 1))) L = sg K N Rf I' L ∧ some (Value.int (nI (s.1 + 1))) = some (.int (planS s (gn g) (nI k) x).1) ∧ mPl (planS s (gn g) (nI k) x).2 I' ∧ frX [141, 142] [38] I I') := by
      intro y hy h2 h10
      refine ⟨_, rfl, by unfold planS; rw [if_neg c1, if_pos hn, if_neg h2, if_neg h10], ?_, frX_tr (frX_tr (frX_at (by decide) (by decide)) (frX_at (by decide) (by decide))) (frX_f (by decide))⟩
      unfold planS; rw [if_neg c1, if_pos hn, if_neg h2, if_neg h10, jx_nI (by omega)]
      refine ⟨by simp [up2_v], by show s.1 + 1 ≤ 10; omega, fun j hj => ?_⟩
      by_cases hj2 : j = s.1
      · subst hj2
        simp [up2_v, upN, hy]
      · have hj3 : j < s.1 + 1 := hj
        have hj4 := hsk j (by omega)
        simp [up2_v, upN, hj2, hj4]
    have hpx : nI k = nI 1 → x = nI (jx x) ∧ jx x < 2 ^ 31 := fun z => by
      have := hn.2.1 z
      simp only [prB, Bool.and_eq_true, decide_eq_true_eq] at this
      obtain ⟨ex, hx31, -⟩ := i_ofn (x := x) (fun y => (i_neg.mp y) this.1)
      exact ⟨ex, hx31⟩
    refine bk hX lkX12_ok (pc' := 52) [.iload_n 1, .iconst 1] (by decide +kernel) (And.intro trivial ?_)
    refine ic_ne hX (17) 69 (by decide +kernel) (by decide) (fun ck => ?_) (fun ck => ?_)
    · have h2 : ¬ (nI k = nI 1 ∧ jx x / 10 = jx x % 10) := fun z => by first | exact ck z.1 | exact ce (by rw [z.2])
      refine bk hX lkX12_ok (pc' := 75) [.aload_n 0, .getfield 126, .bipush 10] (by decide +kernel) (And.intro trivial ?_)
      rw [hs0]
      refine ic_ne hX (6) 81 (by decide +kernel) (by decide) (fun c10 => ?_) (fun c10 => ?_)
      · refine bk hX lkX12_ok (pc' := 91) [.aload_n 0, .getfield 132, .aload_n 0, .getfield 126, .iload_n 1, .iastore] (by decide +kernel) (And.intro (by rw [hs0]; exact vin 10 (by have : ¬ s.1 = 10 := fun z => c10 (by rw [z]); omega)) (And.intro trivial ?_))
        rw [hs0, cs]
        refine bk hX lkX12_ok (pc' := 99) [.aload_n 0, .getfield 135, .aload_n 0, .getfield 126] (by decide +kernel) (And.intro trivial ?_)
        rw [up2_ne _ _ _ (show (100 : Nat) ≠ 101 + 40 by decide), hs0]
        refine bk hX lkX12_ok (pc' := 100) [.iload_n 1] (by decide +kernel) (And.intro trivial ?_)
        refine if_le hX (7) 107 (by decide +kernel) (by decide) (fun cz => ?_) (fun cz => ?_)
        · refine bk hX lkX12_ok (pc' := 109) [.iconst 0, .iastore] (by decide +kernel) (And.intro (by exact vin 10 (by have : ¬ s.1 = 10 := fun z => c10 (by rw [z]); omega)) (And.intro trivial ?_))
          rw [cs]
          refine bk hX lkX12_ok (pc' := 119) [.aload_n 0, .dup, .getfield 126, .iconst 1, .iadd, .putfield 126] (by decide +kernel) (And.intro trivial ?_)
          rw [up2_ne _ _ _ (show (100 : Nat) ≠ 101 + 41 by decide), up2_ne _ _ _ (show (100 : Nat) ≠ 101 + 40 by decide), hs0, nI_add]
          refine bk hX lkX12_ok (pc' := 123) [.aload_n 0, .getfield 126] (by decide +kernel) (And.intro trivial ?_)
          rw [up2_self]
          exact z_iret hX (by decide +kernel) rfl (rfl) (by decide) (by decide) (by
  have e10 : ¬ s.1 = 10 := fun z => c10 (by rw [z])
  have hx := hn.2.2
  have hpos : nI 0 < nI k → x = nI (jx x) := fun h0 => by
    have hk0 : 0 < k := (nI_ltI (by decide) (by omega)).mp h0
    rcases Nat.lt_or_ge 1 k with z | z
    · obtain ⟨j, hj, hj2⟩ := (isIn_iff (by omega)).mp (hx (nI_lt (a := 1) z (by omega)))
      rw [hj2, jx_nI (by omega)]
    · exact (hpx (by rw [show k = 1 by omega])).1
  first
    | exact hadd (nI 0) (by rw [if_neg (show ¬ nI 0 < nI k from fun z => absurd z (i_nlt.mpr cz))]) h2 e10
    | exact hadd x (by rw [if_pos (show nI 0 < nI k from i_nle.mp cz)]; exact hpos (i_nle.mp cz)) h2 e10)
        · refine bk hX lkX12_ok (pc' := 104) [.iload_n 2] (by decide +kernel) (And.intro trivial ?_)
          refine gt_ hX (4) 108 (by decide +kernel) (by decide) ?_
          refine bk hX lkX12_ok (pc' := 109) [.iastore] (by decide +kernel) (And.intro (by exact vin 10 (by have : ¬ s.1 = 10 := fun z => c10 (by rw [z]); omega)) (And.intro trivial ?_))
          rw [cs]
          refine bk hX lkX12_ok (pc' := 119) [.aload_n 0, .dup, .getfield 126, .iconst 1, .iadd, .putfield 126] (by decide +kernel) (And.intro trivial ?_)
          rw [up2_ne _ _ _ (show (100 : Nat) ≠ 101 + 41 by decide), up2_ne _ _ _ (show (100 : Nat) ≠ 101 + 40 by decide), hs0, nI_add]
          refine bk hX lkX12_ok (pc' := 123) [.aload_n 0, .getfield 126] (by decide +kernel) (And.intro trivial ?_)
          rw [up2_self]
          exact z_iret hX (by decide +kernel) rfl (rfl) (by decide) (by decide) (by
  have e10 : ¬ s.1 = 10 := fun z => c10 (by rw [z])
  have hx := hn.2.2
  have hpos : nI 0 < nI k → x = nI (jx x) := fun h0 => by
    have hk0 : 0 < k := (nI_ltI (by decide) (by omega)).mp h0
    rcases Nat.lt_or_ge 1 k with z | z
    · obtain ⟨j, hj, hj2⟩ := (isIn_iff (by omega)).mp (hx (nI_lt (a := 1) z (by omega)))
      rw [hj2, jx_nI (by omega)]
    · exact (hpx (by rw [show k = 1 by omega])).1
  first
    | exact hadd (nI 0) (by rw [if_neg (show ¬ nI 0 < nI k from fun z => absurd z (i_nlt.mpr cz))]) h2 e10
    | exact hadd x (by rw [if_pos (show nI 0 < nI k from i_nle.mp cz)]; exact hpos (i_nle.mp cz)) h2 e10)
      · refine bk hX lkX12_ok (pc' := 80) [.bipush (Int.negSucc 3)] (by decide +kernel) (And.intro trivial ?_)
        exact z_iret hX (by decide +kernel) rfl (rfl) (by decide) (by decide) (by have e10 : s.1 = 10 := nI_inj (b := 10) (by omega) (by decide) c10; exact ⟨I, rfl, by unfold planS; rw [if_neg c1, if_pos hn, if_neg h2, if_pos e10], by unfold planS; rw [if_neg c1, if_pos hn, if_neg h2, if_pos e10]; exact ⟨hs0, hs5, hsk⟩, frX_rf _ _ _⟩)
    · refine bk hX lkX12_ok (pc' := 63) [.iload_n 2, .bipush 10, .idiv, .iload_n 2, .bipush 10, .irem] (by decide +kernel) (And.intro (by decide) (And.intro (by decide) (And.intro trivial ?_)))
      obtain ⟨ex, hx31⟩ := hpx ck
      have ed : x / nI 10 = nI (jx x / 10) := by rw [ex, i_div (d := 10) hx31 (by decide) (by decide), jx_nI hx31]
      have em : x - x / nI 10 * nI 10 = nI (jx x % 10) := by rw [ex, i_mod (d := 10) hx31 (by decide) (by decide), jx_nI hx31]
      rw [em, ed]
      refine ic_ne hX (6) 69 (by decide +kernel) (by decide) (fun ce => ?_) (fun ce => ?_)
      · have h2 : ¬ (nI k = nI 1 ∧ jx x / 10 = jx x % 10) := fun z => by first | exact ck z.1 | exact ce (by rw [z.2])
        refine bk hX lkX12_ok (pc' := 75) [.aload_n 0, .getfield 126, .bipush 10] (by decide +kernel) (And.intro trivial ?_)
        rw [hs0]
        refine ic_ne hX (6) 81 (by decide +kernel) (by decide) (fun c10 => ?_) (fun c10 => ?_)
        · refine bk hX lkX12_ok (pc' := 91) [.aload_n 0, .getfield 132, .aload_n 0, .getfield 126, .iload_n 1, .iastore] (by decide +kernel) (And.intro (by rw [hs0]; exact vin 10 (by have : ¬ s.1 = 10 := fun z => c10 (by rw [z]); omega)) (And.intro trivial ?_))
          rw [hs0, cs]
          refine bk hX lkX12_ok (pc' := 99) [.aload_n 0, .getfield 135, .aload_n 0, .getfield 126] (by decide +kernel) (And.intro trivial ?_)
          rw [up2_ne _ _ _ (show (100 : Nat) ≠ 101 + 40 by decide), hs0]
          refine bk hX lkX12_ok (pc' := 100) [.iload_n 1] (by decide +kernel) (And.intro trivial ?_)
          refine if_le hX (7) 107 (by decide +kernel) (by decide) (fun cz => ?_) (fun cz => ?_)
          · refine bk hX lkX12_ok (pc' := 109) [.iconst 0, .iastore] (by decide +kernel) (And.intro (by exact vin 10 (by have : ¬ s.1 = 10 := fun z => c10 (by rw [z]); omega)) (And.intro trivial ?_))
            rw [cs]
            refine bk hX lkX12_ok (pc' := 119) [.aload_n 0, .dup, .getfield 126, .iconst 1, .iadd, .putfield 126] (by decide +kernel) (And.intro trivial ?_)
            rw [up2_ne _ _ _ (show (100 : Nat) ≠ 101 + 41 by decide), up2_ne _ _ _ (show (100 : Nat) ≠ 101 + 40 by decide), hs0, nI_add]
            refine bk hX lkX12_ok (pc' := 123) [.aload_n 0, .getfield 126] (by decide +kernel) (And.intro trivial ?_)
            rw [up2_self]
            exact z_iret hX (by decide +kernel) rfl (rfl) (by decide) (by decide) (by
  have e10 : ¬ s.1 = 10 := fun z => c10 (by rw [z])
  have hx := hn.2.2
  have hpos : nI 0 < nI k → x = nI (jx x) := fun h0 => by
    have hk0 : 0 < k := (nI_ltI (by decide) (by omega)).mp h0
    rcases Nat.lt_or_ge 1 k with z | z
    · obtain ⟨j, hj, hj2⟩ := (isIn_iff (by omega)).mp (hx (nI_lt (a := 1) z (by omega)))
      rw [hj2, jx_nI (by omega)]
    · exact (hpx (by rw [show k = 1 by omega])).1
  first
    | exact hadd (nI 0) (by rw [if_neg (show ¬ nI 0 < nI k from fun z => absurd z (i_nlt.mpr cz))]) h2 e10
    | exact hadd x (by rw [if_pos (show nI 0 < nI k from i_nle.mp cz)]; exact hpos (i_nle.mp cz)) h2 e10)
          · refine bk hX lkX12_ok (pc' := 104) [.iload_n 2] (by decide +kernel) (And.intro trivial ?_)
            refine gt_ hX (4) 108 (by decide +kernel) (by decide) ?_
            refine bk hX lkX12_ok (pc' := 109) [.iastore] (by decide +kernel) (And.intro (by exact vin 10 (by have : ¬ s.1 = 10 := fun z => c10 (by rw [z]); omega)) (And.intro trivial ?_))
            rw [cs]
            refine bk hX lkX12_ok (pc' := 119) [.aload_n 0, .dup, .getfield 126, .iconst 1, .iadd, .putfield 126] (by decide +kernel) (And.intro trivial ?_)
            rw [up2_ne _ _ _ (show (100 : Nat) ≠ 101 + 41 by decide), up2_ne _ _ _ (show (100 : Nat) ≠ 101 + 40 by decide), hs0, nI_add]
            refine bk hX lkX12_ok (pc' := 123) [.aload_n 0, .getfield 126] (by decide +kernel) (And.intro trivial ?_)
            rw [up2_self]
            exact z_iret hX (by decide +kernel) rfl (rfl) (by decide) (by decide) (by
  have e10 : ¬ s.1 = 10 := fun z => c10 (by rw [z])
  have hx := hn.2.2
  have hpos : nI 0 < nI k → x = nI (jx x) := fun h0 => by
    have hk0 : 0 < k := (nI_ltI (by decide) (by omega)).mp h0
    rcases Nat.lt_or_ge 1 k with z | z
    · obtain ⟨j, hj, hj2⟩ := (isIn_iff (by omega)).mp (hx (nI_lt (a := 1) z (by omega)))
      rw [hj2, jx_nI (by omega)]
    · exact (hpx (by rw [show k = 1 by omega])).1
  first
    | exact hadd (nI 0) (by rw [if_neg (show ¬ nI 0 < nI k from fun z => absurd z (i_nlt.mpr cz))]) h2 e10
    | exact hadd x (by rw [if_pos (show nI 0 < nI k from i_nle.mp cz)]; exact hpos (i_nle.mp cz)) h2 e10)
        · refine bk hX lkX12_ok (pc' := 80) [.bipush (Int.negSucc 3)] (by decide +kernel) (And.intro trivial ?_)
          exact z_iret hX (by decide +kernel) rfl (rfl) (by decide) (by decide) (by have e10 : s.1 = 10 := nI_inj (b := 10) (by omega) (by decide) c10; exact ⟨I, rfl, by unfold planS; rw [if_neg c1, if_pos hn, if_neg h2, if_pos e10], by unfold planS; rw [if_neg c1, if_pos hn, if_neg h2, if_pos e10]; exact ⟨hs0, hs5, hsk⟩, frX_rf _ _ _⟩)
      · refine bk hX lkX12_ok (pc' := 68) [.bipush (Int.negSucc 1)] (by decide +kernel) (And.intro trivial ?_)
        exact z_iret hX (by decide +kernel) rfl (rfl) (by decide) (by decide) (by have h2 : nI k = nI 1 ∧ jx x / 10 = jx x % 10 := ⟨ck, nI_inj (by omega) (by omega) ce⟩; exact ⟨I, rfl, by unfold planS; rw [if_neg c1, if_pos hn, if_pos h2], by unfold planS; rw [if_neg c1, if_pos hn, if_pos h2]; exact ⟨hs0, hs5, hsk⟩, frX_rf _ _ _⟩)
  refine z_intro (by decide) (Nat.le_of_ble_eq_true rfl) (fun X hX => ?_)
  refine bk hX lkX12_ok (pc' := 2) [.iload_n 1, .iconst (Int.negSucc 0)] (by decide +kernel) (And.intro trivial ?_)
  refine ic_ne hX (10) 12 (by decide +kernel) (by decide) (fun c1 => ?_) (fun c1 => ?_)
  · refine bk hX lkX12_ok (pc' := 16) [.aload_n 0, .iload_n 1, .iconst 0, .iconst 3] (by decide +kernel) (And.intro trivial ?_)
    refine z_callV hX kw_X12_228 (c_M_in E _ _ _ _ _) rfl rfl rfl rfl rfl (by decide +kernel) (by decide) (by decide) (by decide) (by decide) (Nat.le_of_ble_eq_true rfl) ?_
    rintro _ _ ⟨rfl, hh⟩
    rw [in_ix 3 (by decide)] at hh
    rcases hh with ⟨h4, rfl⟩ | ⟨h4, rfl⟩
    · refine if_eq hX (29) 48 (by decide +kernel) (by decide) (fun c => absurd c (by decide)) (fun c_19 => ?_)
      refine bk hX lkX12_ok (pc' := 24) [.iload_n 1, .iconst 1] (by decide +kernel) (And.intro trivial ?_)
      refine ic_ne hX (11) 35 (by decide +kernel) (by decide) (fun ca => ?_) (fun ca => ?_)
      · refine bk hX lkX12_ok (pc' := 37) [.iload_n 1, .iconst 1] (by decide +kernel) (And.intro trivial ?_)
        refine ic_le hX (13) 50 (by decide +kernel) (by decide) (fun cb => ?_) (fun cb => ?_)
        · refine z_lvk (lv' := [(0, _), (1, _), (2, _)]) [0, 1, 2] rfl ?_
          first | exact hyes X hX c1 ⟨h4, fun _ => hpr, fun z => absurd cb (i_nle.mpr z)⟩ | exact hyes X hX c1 ⟨h4, fun z => absurd z ca, fun z => absurd cb (i_nle.mpr z)⟩ | exact hyes X hX c1 ⟨h4, fun _ => hpr, fun _ => hxw⟩ | exact hyes X hX c1 ⟨h4, fun z => absurd z ca, fun _ => hxw⟩
        · refine bk hX lkX12_ok (pc' := 42) [.aload_n 0, .iload_n 2] (by decide +kernel) (And.intro trivial ?_)
          refine z_callV hX kw_X12_232 (c_M_isWorker E K N Rf I L _ hg.1 hG.1) rfl rfl rfl rfl rfl (by decide +kernel) (by decide) (by decide) (by decide) (by decide) (Nat.le_of_ble_eq_true rfl) ?_
          rintro _ _ ⟨rfl, hh⟩
          rw [← isIn_iff (by omega)] at hh
          rcases hh with ⟨hxw, rfl⟩ | ⟨hxw, rfl⟩
          · refine if_ne hX (5) 50 (by decide +kernel) (by decide) (fun c_45 => ?_) (fun c => absurd c (by decide))
            refine z_lvk (lv' := [(0, _), (1, _), (2, _)]) [0, 1, 2] rfl ?_
            first | exact hyes X hX c1 ⟨h4, fun _ => hpr, fun z => absurd cb (i_nle.mpr z)⟩ | exact hyes X hX c1 ⟨h4, fun z => absurd z ca, fun z => absurd cb (i_nle.mpr z)⟩ | exact hyes X hX c1 ⟨h4, fun _ => hpr, fun _ => hxw⟩ | exact hyes X hX c1 ⟨h4, fun z => absurd z ca, fun _ => hxw⟩
          · refine if_ne hX (5) 50 (by decide +kernel) (by decide) (fun c => absurd (by decide) c) (fun c_45 => ?_)
            refine z_lvk (lv' := [(0, _), (1, _), (2, _)]) [0, 1, 2] rfl ?_
            first | exact hno X hX c1 (fun z => h4 z.1) | exact hno X hX c1 (fun z => hpr (z.2.1 ca)) | exact hno X hX c1 (fun z => hxw (z.2.2 (i_nle.mp cb)))
      · refine bk hX lkX12_ok (pc' := 29) [.aload_n 0, .iload_n 2] (by decide +kernel) (And.intro trivial ?_)
        refine z_callV hX kw_X12_382 (c_M_isPair E K N Rf I L hg hG _) rfl rfl rfl rfl rfl (by decide +kernel) (by decide) (by decide) (by decide) (by decide) (Nat.le_of_ble_eq_true rfl) ?_
        rintro _ _ ⟨rfl, hh⟩
        rcases hh with ⟨hpr, rfl⟩ | ⟨hpr, rfl⟩
        · refine if_eq hX (16) 48 (by decide +kernel) (by decide) (fun c => absurd c (by decide)) (fun c_32 => ?_)
          refine bk hX lkX12_ok (pc' := 37) [.iload_n 1, .iconst 1] (by decide +kernel) (And.intro trivial ?_)
          refine ic_le hX (13) 50 (by decide +kernel) (by decide) (fun cb => ?_) (fun cb => ?_)
          · refine z_lvk (lv' := [(0, _), (1, _), (2, _)]) [0, 1, 2] rfl ?_
            first | exact hyes X hX c1 ⟨h4, fun _ => hpr, fun z => absurd cb (i_nle.mpr z)⟩ | exact hyes X hX c1 ⟨h4, fun z => absurd z ca, fun z => absurd cb (i_nle.mpr z)⟩ | exact hyes X hX c1 ⟨h4, fun _ => hpr, fun _ => hxw⟩ | exact hyes X hX c1 ⟨h4, fun z => absurd z ca, fun _ => hxw⟩
          · refine bk hX lkX12_ok (pc' := 42) [.aload_n 0, .iload_n 2] (by decide +kernel) (And.intro trivial ?_)
            refine z_callV hX kw_X12_232 (c_M_isWorker E K N Rf I L _ hg.1 hG.1) rfl rfl rfl rfl rfl (by decide +kernel) (by decide) (by decide) (by decide) (by decide) (Nat.le_of_ble_eq_true rfl) ?_
            rintro _ _ ⟨rfl, hh⟩
            rw [← isIn_iff (by omega)] at hh
            rcases hh with ⟨hxw, rfl⟩ | ⟨hxw, rfl⟩
            · refine if_ne hX (5) 50 (by decide +kernel) (by decide) (fun c_45 => ?_) (fun c => absurd c (by decide))
              refine z_lvk (lv' := [(0, _), (1, _), (2, _)]) [0, 1, 2] rfl ?_
              first | exact hyes X hX c1 ⟨h4, fun _ => hpr, fun z => absurd cb (i_nle.mpr z)⟩ | exact hyes X hX c1 ⟨h4, fun z => absurd z ca, fun z => absurd cb (i_nle.mpr z)⟩ | exact hyes X hX c1 ⟨h4, fun _ => hpr, fun _ => hxw⟩ | exact hyes X hX c1 ⟨h4, fun z => absurd z ca, fun _ => hxw⟩
            · refine if_ne hX (5) 50 (by decide +kernel) (by decide) (fun c => absurd (by decide) c) (fun c_45 => ?_)
              refine z_lvk (lv' := [(0, _), (1, _), (2, _)]) [0, 1, 2] rfl ?_
              first | exact hno X hX c1 (fun z => h4 z.1) | exact hno X hX c1 (fun z => hpr (z.2.1 ca)) | exact hno X hX c1 (fun z => hxw (z.2.2 (i_nle.mp cb)))
        · refine if_eq hX (16) 48 (by decide +kernel) (by decide) (fun c_32 => ?_) (fun c => absurd (by decide) c)
          refine z_lvk (lv' := [(0, _), (1, _), (2, _)]) [0, 1, 2] rfl ?_
          first | exact hno X hX c1 (fun z => h4 z.1) | exact hno X hX c1 (fun z => hpr (z.2.1 ca)) | exact hno X hX c1 (fun z => hxw (z.2.2 (i_nle.mp cb)))
    · refine if_eq hX (29) 48 (by decide +kernel) (by decide) (fun c_19 => ?_) (fun c => absurd (by decide) c)
      refine z_lvk (lv' := [(0, _), (1, _), (2, _)]) [0, 1, 2] rfl ?_
      first | exact hno X hX c1 (fun z => h4 z.1) | exact hno X hX c1 (fun z => hpr (z.2.1 ca)) | exact hno X hX c1 (fun z => hxw (z.2.2 (i_nle.mp cb)))
  · refine bk hX lkX12_ok (pc' := 11) [.aload_n 0, .iconst 0, .putfield 126, .iconst 0] (by decide +kernel) (And.intro trivial ?_)
    exact z_iret hX (by decide +kernel) rfl (rfl) (by decide) (by decide) (by
  refine ⟨_, rfl, by unfold planS; rw [if_pos c1]; rfl, ?_, frX_f (by decide)⟩
  unfold planS; rw [if_pos c1]
  exact ⟨by rw [up2_self], Nat.zero_le _, fun k hk => absurd hk (Nat.not_lt_zero _)⟩)
/-- a row of the plan goes -/
def gpS (r : Nat) (g : Gv) (wh x : Nat) : Gv := if wh = 0 then dayS r g else if wh = 1 then swG g (x / 10) (x % 10) else homG g (nI x) (if wh = 2 then 1 else 0)
theorem gpS_n (r : Nat) (g : Gv) (wh x : Nat) : gn (gpS r g wh x) = gn g := by
  unfold gpS
  split
  · rfl
  · split <;> rfl
theorem gpS_d (r : Nat) (g : Gv) (wh x : Nat) : gd (gpS r g wh x) ≤ gd g + 1 := by
  unfold gpS
  split
  · exact Nat.le_refl _
  · split <;> exact Nat.le_succ _
theorem c_M_goPlan (E : zE) (K N : Nat → Nat) (Rf : Nat → Nat → Option Nat) (I : Nat → Nat → Int32) (L : Nat → Nat → Int64) {g : Gv} (hg : gwf g) (hG : mG g I) {w : Wk} {b : Nat} (hB : mHB w b I) (hd : gd g < 100000) {wh x : Nat} (hw3 : wh ≤ 3) (hx : x < 100) (h1 : wh = 1 → x / 10 < gn g ∧ x % 10 < gn g) (h2 : 2 ≤ wh → x < gn g) : zCt E mX12_goPlan 4 0 0 (sg K N Rf I L) [.ref 100, .int (nI wh), .int (nI x)] (fun r σ' => ∃ I', σ' = sg K N Rf I' L ∧ r = none ∧ gwf (gpS (rdS w) g wh x) ∧ mG (gpS (rdS w) g wh x) I' ∧ frA I I') := by
  have h6 := hg.1
  have hc : wh = 0 ∨ wh = 1 ∨ wh = 2 ∨ wh = 3 := by omega
  refine z_intro (by decide) (Nat.le_of_ble_eq_true rfl) (fun X hX => ?_)
  rcases hc with rfl | rfl | rfl | rfl
  · refine bk hX lkX12_ok (pc' := 1) [.iload_n 1] (by decide +kernel) (And.intro trivial ?_)
    refine if_ne hX (7) 8 (by decide +kernel) (by decide) (fun c => absurd (rfl) c) (fun c_1 => ?_)
    refine bk hX lkX12_ok (pc' := 5) [.aload_n 0] (by decide +kernel) (And.intro trivial ?_)
    refine z_callV hX kw_X12_331 (c_M_goDay E K N Rf I L hg hG hd hB) rfl rfl rfl rfl rfl (by decide +kernel) (by decide) (by decide) (by decide) (by decide) (Nat.le_of_ble_eq_true rfl) ?_
    rintro _ _ ⟨I2, rfl, rfl, h3, h4⟩
    refine bk hX lkX12_ok (pc' := 10) [.iload_n 1, .iconst 1] (by decide +kernel) (And.intro trivial ?_)
    refine ic_ne hX (15) 25 (by decide +kernel) (by decide) (fun c_10 => ?_) (fun c => absurd c (by decide))
    refine bk hX lkX12_ok (pc' := 27) [.iload_n 1, .iconst 1] (by decide +kernel) (And.intro trivial ?_)
    refine ic_le hX (18) 45 (by decide +kernel) (by decide) (fun c_27 => ?_) (fun c => absurd (by decide) c)
    exact z_vret hX (by decide +kernel) rfl (by decide) (by decide) (⟨I2, rfl, rfl, gwf_day hg _, h3, frA_D h6 h4⟩)
  · obtain ⟨ha, hb⟩ := h1 rfl
    refine bk hX lkX12_ok (pc' := 1) [.iload_n 1] (by decide +kernel) (And.intro trivial ?_)
    refine if_ne hX (7) 8 (by decide +kernel) (by decide) (fun c_1 => ?_) (fun c => absurd c (by decide))
    refine bk hX lkX12_ok (pc' := 10) [.iload_n 1, .iconst 1] (by decide +kernel) (And.intro trivial ?_)
    refine ic_ne hX (15) 25 (by decide +kernel) (by decide) (fun c => absurd (rfl) c) (fun c_10 => ?_)
    refine bk hX lkX12_ok (pc' := 22) [.aload_n 0, .iload_n 2, .bipush 10, .idiv, .iload_n 2, .bipush 10, .irem] (by decide +kernel) (And.intro (by decide) (And.intro (by decide) (And.intro trivial ?_)))
    have ed : nI x / nI 10 = nI (x / 10) := i_div (a := x) (d := 10) (by omega) (by decide) (by decide)
    have em : nI x - nI x / nI 10 * nI 10 = nI (x % 10) := i_mod (a := x) (d := 10) (by omega) (by decide) (by decide)
    rw [em, ed]
    refine z_callV hX kw_X12_239 (c_M_swaps E K N Rf I L (x / 10) (x % 10) (by omega) (by omega)) rfl rfl rfl rfl rfl (by decide +kernel) (by decide) (by decide) (by decide) (by decide) (Nat.le_of_ble_eq_true rfl) ?_
    rintro _ _ ⟨rfl, rfl⟩
    refine bk hX lkX12_ok (pc' := 27) [.iload_n 1, .iconst 1] (by decide +kernel) (And.intro trivial ?_)
    refine ic_le hX (18) 45 (by decide +kernel) (by decide) (fun c_27 => ?_) (fun c => absurd (by decide) c)
    exact z_vret hX (by decide +kernel) rfl (by decide) (by decide) (⟨_, rfl, rfl, gwf_sw hg ha hb, mG_sw hg hG ha hb, frA_sw (by omega) (by omega)⟩)
  · refine bk hX lkX12_ok (pc' := 1) [.iload_n 1] (by decide +kernel) (And.intro trivial ?_)
    refine if_ne hX (7) 8 (by decide +kernel) (by decide) (fun c_1 => ?_) (fun c => absurd c (by decide))
    refine bk hX lkX12_ok (pc' := 10) [.iload_n 1, .iconst 1] (by decide +kernel) (And.intro trivial ?_)
    refine ic_ne hX (15) 25 (by decide +kernel) (by decide) (fun c_10 => ?_) (fun c => absurd c (by decide))
    refine bk hX lkX12_ok (pc' := 27) [.iload_n 1, .iconst 1] (by decide +kernel) (And.intro trivial ?_)
    refine ic_le hX (18) 45 (by decide +kernel) (by decide) (fun c => absurd c (by decide)) (fun c_27 => ?_)
    refine bk hX lkX12_ok (pc' := 34) [.aload_n 0, .iload_n 2, .iload_n 1, .iconst 2] (by decide +kernel) (And.intro trivial ?_)
    refine ic_ne hX (7) 41 (by decide +kernel) (by decide) (fun c => absurd (rfl) c) (fun c_34 => ?_)
    refine bk hX lkX12_ok (pc' := 38) [.iconst 1] (by decide +kernel) (And.intro trivial ?_)
    refine gt_ hX (4) 42 (by decide +kernel) (by decide) ?_
    refine z_callV hX kw_X12_243 (c_M_rests E K N Rf I L _ _) rfl rfl rfl rfl rfl (by decide +kernel) (by decide) (by decide) (by decide) (by decide) (Nat.le_of_ble_eq_true rfl) ?_
    rintro _ _ ⟨rfl, rfl⟩
    exact z_vret hX (by decide +kernel) rfl (by decide) (by decide) (⟨_, rfl, rfl, gwf_hom hg _ _, mG_hom hG (nI x) (nI 1), frA_hom _⟩)
  · refine bk hX lkX12_ok (pc' := 1) [.iload_n 1] (by decide +kernel) (And.intro trivial ?_)
    refine if_ne hX (7) 8 (by decide +kernel) (by decide) (fun c_1 => ?_) (fun c => absurd c (by decide))
    refine bk hX lkX12_ok (pc' := 10) [.iload_n 1, .iconst 1] (by decide +kernel) (And.intro trivial ?_)
    refine ic_ne hX (15) 25 (by decide +kernel) (by decide) (fun c_10 => ?_) (fun c => absurd c (by decide))
    refine bk hX lkX12_ok (pc' := 27) [.iload_n 1, .iconst 1] (by decide +kernel) (And.intro trivial ?_)
    refine ic_le hX (18) 45 (by decide +kernel) (by decide) (fun c => absurd c (by decide)) (fun c_27 => ?_)
    refine bk hX lkX12_ok (pc' := 34) [.aload_n 0, .iload_n 2, .iload_n 1, .iconst 2] (by decide +kernel) (And.intro trivial ?_)
    refine ic_ne hX (7) 41 (by decide +kernel) (by decide) (fun c_34 => ?_) (fun c => absurd c (by decide))
    refine bk hX lkX12_ok (pc' := 42) [.iconst 0] (by decide +kernel) (And.intro trivial ?_)
    refine z_callV hX kw_X12_243 (c_M_rests E K N Rf I L _ _) rfl rfl rfl rfl rfl (by decide +kernel) (by decide) (by decide) (by decide) (by decide) (Nat.le_of_ble_eq_true rfl) ?_
    rintro _ _ ⟨rfl, rfl⟩
    exact z_vret hX (by decide +kernel) rfl (by decide) (by decide) (⟨_, rfl, rfl, gwf_hom hg _ _, mG_hom hG (nI x) (nI 0), frA_hom _⟩)
/-- the gate behind the first k rows of the plan -/
def epN (r : Nat) (s : Rw) (g : Gv) : Nat → Gv
  | 0 => g
  | k + 1 => gpS r (epN r s g k) (s.2.1 k) (s.2.2.1 k)
theorem epN_n (r : Nat) (s : Rw) (g : Gv) : ∀ k, gn (epN r s g k) = gn g
  | 0 => rfl
  | k + 1 => (gpS_n r _ _ _).trans (epN_n r s g k)
theorem epN_d (r : Nat) (s : Rw) (g : Gv) : ∀ k, gd (epN r s g k) ≤ gd g + k
  | 0 => Nat.le_refl _
  | k + 1 => by
    have h1 := gpS_d r (epN r s g k) (s.2.1 k) (s.2.2.1 k)
    have h2 := epN_d r s g k
    show gd (gpS r (epN r s g k) (s.2.1 k) (s.2.2.1 k)) ≤ _
    omega
def endS (g : Gv) (w : Wk) (s : Rw) (wh : Int32) : Int32 := if isIn wh 2 = true then (if wh = 0 then nI (ahN (epN (rdS w) s g s.1) (gn g)) else atN (epN (rdS w) s g s.1) w (gn g)) else -nI 1001
set_option maxHeartbeats 2000000 in
theorem c_M_ends (E : zE) (K N : Nat → Nat) (Rf : Nat → Nat → Option Nat) (I : Nat → Nat → Int32) (L : Nat → Nat → Int64) {g : Gv} (hg : gwf g) (hG : mG g I) {w : Wk} {b : Nat} (hB : mHB w b I) (hd : gd g ≤ 90000) {s : Rw} (hs : mPl s I) (hws : wPl s g) (wh : Int32) : zCt E mX12_ends 7 0 0 (sg K N Rf I L) [.ref 100, .int wh] (fun r σ' => ∃ I', σ' = sg K N Rf I' L ∧ r = some (.int (endS g w s wh)) ∧ sE I I') := by
  have h6 := hg.1
  have hs5 := hs.2.1
  have hsv := sE_sv I
  have hB0 := mHB_sE hB hsv
  refine z_intro (by decide) (Nat.le_of_ble_eq_true rfl) (fun X hX => ?_)
  have hl : isIn wh 2 = true → ∀ m k (I1 : Nat → Nat → Int32), k + m = s.1 → gwf (epN (rdS w) s g k) → mG (epN (rdS w) s g k) I1 → frA (svI I 6) I1 → zS X (sg K N Rf I1 L) 0 0 20 [(0, .ref 100), (1, .int wh), (2, .int (nI k))] [] := by
    intro hwh m
    induction m with
    | zero =>
      intro k I1 hk hgk h1 h2
      obtain rfl : k = s.1 := by omega
      have e0 : I1 100 38 = nI s.1 := by rw [h2.2.1 _ (by decide) (by decide), hsv.2 _ (by decide)]; exact hs.1
      have hnk := epN_n (rdS w) s g s.1
      have hdk := epN_d (rdS w) s g s.1
      refine bk hX lkX12_ok (pc' := 25) [.iload_n 2, .aload_n 0, .getfield 126] (by decide +kernel) (And.intro trivial ?_)
      rw [e0]
      refine ic_ge hX (25) 50 (by decide +kernel) (by decide) (fun c_25 => ?_) (fun c => absurd (nI_le (by omega) (by omega)) c)
      refine bk hX lkX12_ok (pc' := 51) [.iload_n 1] (by decide +kernel) (And.intro trivial ?_)
      refine if_ne hX (10) 61 (by decide +kernel) (by decide) (fun cw => ?_) (fun cw => ?_)
      · refine bk hX lkX12_ok (pc' := 62) [.aload_n 0] (by decide +kernel) (And.intro trivial ?_)
        refine z_callV hX kw_X12_352 (c_M_allTemper E K N Rf I1 L hgk h1 (by omega) (mHB_frA hB0 h2)) rfl rfl rfl rfl rfl (by decide +kernel) (by decide) (by decide) (by decide) (by decide) (Nat.le_of_ble_eq_true rfl) ?_
        rintro _ _ ⟨I2, rfl, q3, rfl⟩
        refine bk hX lkX12_ok (pc' := 67) [.istore_n 2, .aload_n 0] (by decide +kernel) (And.intro trivial ?_)
        refine z_callV hX kw_X12_346 (c_M_putBack E K N Rf _ L) rfl rfl rfl rfl rfl (by decide +kernel) (by decide) (by decide) (by decide) (by decide) (Nat.le_of_ble_eq_true rfl) ?_
        rintro _ _ ⟨rfl, rfl⟩
        refine bk hX lkX12_ok (pc' := 71) [.iload_n 2] (by decide +kernel) (And.intro trivial ?_)
        exact z_iret hX (by decide +kernel) rfl (rfl) (by decide) (by decide) (by first | exact ⟨_, rfl, by unfold endS; rw [if_pos hwh, if_pos cw, hnk], ask_back h2⟩ | exact ⟨_, rfl, by unfold endS; rw [if_pos hwh, if_neg cw, hnk], ask_back (frA_tr h2 (frA_pile q3))⟩)
      · refine bk hX lkX12_ok (pc' := 55) [.aload_n 0] (by decide +kernel) (And.intro trivial ?_)
        refine z_callV hX kw_X12_343 (c_M_allHoles E K N Rf I1 L hgk h1) rfl rfl rfl rfl rfl (by decide +kernel) (by decide) (by decide) (by decide) (by decide) (Nat.le_of_ble_eq_true rfl) ?_
        rintro _ _ ⟨rfl, rfl⟩
        refine gt_ hX (7) 65 (by decide +kernel) (by decide) ?_
        refine bk hX lkX12_ok (pc' := 67) [.istore_n 2, .aload_n 0] (by decide +kernel) (And.intro trivial ?_)
        refine z_callV hX kw_X12_346 (c_M_putBack E K N Rf _ L) rfl rfl rfl rfl rfl (by decide +kernel) (by decide) (by decide) (by decide) (by decide) (Nat.le_of_ble_eq_true rfl) ?_
        rintro _ _ ⟨rfl, rfl⟩
        refine bk hX lkX12_ok (pc' := 71) [.iload_n 2] (by decide +kernel) (And.intro trivial ?_)
        exact z_iret hX (by decide +kernel) rfl (rfl) (by decide) (by decide) (by first | exact ⟨_, rfl, by unfold endS; rw [if_pos hwh, if_pos cw, hnk], ask_back h2⟩ | exact ⟨_, rfl, by unfold endS; rw [if_pos hwh, if_neg cw, hnk], ask_back (frA_tr h2 (frA_pile q3))⟩)
    | succ m ih =>
      intro k I1 hk hgk h1 h2
      have e0 : I1 100 38 = nI s.1 := by rw [h2.2.1 _ (by decide) (by decide), hsv.2 _ (by decide)]; exact hs.1
      obtain ⟨k1, k2⟩ := hs.2.2 k (by omega)
      obtain ⟨l1, l2, l3, l4⟩ := hws k (by omega)
      have hnk := epN_n (rdS w) s g k
      have hdk := epN_d (rdS w) s g k
      have f1 : I1 141 k = nI (s.2.1 k) := by rw [h2.1 _ (by decide) (by decide) (by decide) (by decide) (by decide), hsv.1 _ (by decide) (by decide)]; exact k1
      have f2 : I1 142 k = nI (s.2.2.1 k) := by rw [h2.1 _ (by decide) (by decide) (by decide) (by decide) (by decide), hsv.1 _ (by decide) (by decide)]; exact k2
      refine bk hX lkX12_ok (pc' := 25) [.iload_n 2, .aload_n 0, .getfield 126] (by decide +kernel) (And.intro trivial ?_)
      rw [e0]
      refine ic_ge hX (25) 50 (by decide +kernel) (by decide) (fun c => absurd c (nI_ge (by omega) (by omega))) (fun c_25 => ?_)
      refine bk hX lkX12_ok (pc' := 41) [.aload_n 0, .aload_n 0, .getfield 132, .iload_n 2, .iaload, .aload_n 0, .getfield 135, .iload_n 2, .iaload] (by decide +kernel) (And.intro (by exact vin 10 (by omega)) (And.intro (by exact vin 10 (by omega)) (And.intro trivial ?_)))
      rw [cl (by omega), show I1 (101 + 40) k = _ from f1, show I1 (101 + 41) k = _ from f2]
      refine z_callV hX kw_X12_385 (c_M_goPlan E K N Rf I1 L hgk h1 (mHB_frA hB0 h2) (by omega) l1 l2 (by rw [hnk]; exact l3) (by rw [hnk]; exact l4)) rfl rfl rfl rfl rfl (by decide +kernel) (by decide) (by decide) (by decide) (by decide) (Nat.le_of_ble_eq_true rfl) ?_
      rintro _ _ ⟨I2, rfl, rfl, h3, h4, h5⟩
      refine bk hX lkX12_ok (pc' := 47) [.iinc 2 1] (by decide +kernel) (And.intro trivial ?_)
      refine gt_ hX (-27) 20 (by decide +kernel) (by decide) ?_
      refine z_lvk (lv' := [(0, _), (1, _), (2, _)]) [1, 2, 0] rfl ?_
      rw [nI_add]
      exact ih (k + 1) I2 (by omega) h3 h4 (frA_tr h2 h5)
  refine bk hX lkX12_ok (pc' := 4) [.aload_n 0, .iload_n 1, .iconst 0, .iconst 1] (by decide +kernel) (And.intro trivial ?_)
  refine z_callV hX kw_X12_228 (c_M_in E _ _ _ _ _) rfl rfl rfl rfl rfl (by decide +kernel) (by decide) (by decide) (by decide) (by decide) (Nat.le_of_ble_eq_true rfl) ?_
  rintro _ _ ⟨rfl, hh⟩
  rw [in_ix 1 (by decide)] at hh
  rcases hh with ⟨hwh, rfl⟩ | ⟨hwh, rfl⟩
  · refine if_ne hX (7) 14 (by decide +kernel) (by decide) (fun c_7 => ?_) (fun c => absurd c (by decide))
    refine bk hX lkX12_ok (pc' := 15) [.aload_n 0] (by decide +kernel) (And.intro trivial ?_)
    refine z_callV hX kw_X12_340 (c_M_save E K N Rf I L) rfl rfl rfl rfl rfl (by decide +kernel) (by decide) (by decide) (by decide) (by decide) (Nat.le_of_ble_eq_true rfl) ?_
    rintro _ _ ⟨rfl, rfl⟩
    refine bk hX lkX12_ok (pc' := 20) [.iconst 0, .istore_n 2] (by decide +kernel) (And.intro trivial ?_)
    refine z_lvk (lv' := [(0, _), (1, _), (2, _)]) [1, 2, 0] rfl ?_
    exact hl hwh s.1 0 (svI I 6) (by omega) hg (mG_sE hG hsv) (frA_rf _)
  · refine if_ne hX (7) 14 (by decide +kernel) (by decide) (fun c => absurd (by decide) c) (fun c_7 => ?_)
    refine bk hX lkX12_ok (pc' := 13) [.sipush (Int.negSucc 1000)] (by decide +kernel) (And.intro trivial ?_)
    exact z_iret hX (by decide +kernel) rfl (rfl) (by decide) (by decide) (⟨I, rfl, by unfold endS; rw [if_neg hwh], sE_rf _⟩)
def bookS (s : Rw) (n : Nat) (c h : Int32) : Int32 × Rw := if c = -nI 1 then (0, (0, s.2)) else if isIn c n = true then (if isIn h 1024 = true then (if s.1 = 8 then (-nI 4, s) else (nI (s.1 + 1), (s.1 + 1, upN s.2.1 s.1 (jx c), upN s.2.2.1 s.1 (jx h), s.2.2.2))) else (-nI 2, s)) else (-nI 1, s)
theorem c_M_book (E : zE) (K N : Nat → Nat) (Rf : Nat → Nat → Option Nat) (I : Nat → Nat → Int32) (L : Nat → Nat → Int64) {g : Gv} (hg : gwf g) (hG : mG g I) {s : Rw} (hs : mBk s I) (c h : Int32) : zCt E mX12_book 2 0 0 (sg K N Rf I L) [.ref 100, .int c, .int h] (fun r σ' => ∃ I', σ' = sg K N Rf I' L ∧ r = some (.int (bookS s (gn g) c h).1) ∧ mBk (bookS s (gn g) c h).2 I' ∧ frX [143, 144] [39] I I') := by
  have h6 := hg.1
  obtain ⟨hs0, hs5, hsk⟩ := hs
  refine z_intro (by decide) (Nat.le_of_ble_eq_true rfl) (fun X hX => ?_)
  refine bk hX lkX12_ok (pc' := 2) [.iload_n 1, .iconst (Int.negSucc 0)] (by decide +kernel) (And.intro trivial ?_)
  refine ic_ne hX (10) 12 (by decide +kernel) (by decide) (fun c1 => ?_) (fun c1 => ?_)
  · refine bk hX lkX12_ok (pc' := 14) [.aload_n 0, .iload_n 1] (by decide +kernel) (And.intro trivial ?_)
    refine z_callV hX kw_X12_232 (c_M_isWorker E K N Rf I L _ hg.1 hG.1) rfl rfl rfl rfl rfl (by decide +kernel) (by decide) (by decide) (by decide) (by decide) (Nat.le_of_ble_eq_true rfl) ?_
    rintro _ _ ⟨rfl, hh⟩
    rw [← isIn_iff (by omega)] at hh
    rcases hh with ⟨hc, rfl⟩ | ⟨hc, rfl⟩
    · refine if_ne hX (5) 22 (by decide +kernel) (by decide) (fun c_17 => ?_) (fun c => absurd c (by decide))
      refine bk hX lkX12_ok (pc' := 24) [.aload_n 0, .iload_n 2] (by decide +kernel) (And.intro trivial ?_)
      refine z_callV hX kw_X12_236 (c_M_isHoles E _ rfl _) rfl rfl rfl rfl rfl (by decide +kernel) (by decide) (by decide) (by decide) (by decide) (Nat.le_of_ble_eq_true rfl) ?_
      rintro _ _ ⟨rfl, hh⟩
      rw [hol_in] at hh
      rcases hh with ⟨hh1, rfl⟩ | ⟨hh1, rfl⟩
      · refine if_ne hX (6) 33 (by decide +kernel) (by decide) (fun c_27 => ?_) (fun c => absurd c (by decide))
        refine bk hX lkX12_ok (pc' := 39) [.aload_n 0, .getfield 129, .bipush 8] (by decide +kernel) (And.intro trivial ?_)
        rw [hs0]
        refine ic_ne hX (6) 45 (by decide +kernel) (by decide) (fun c5 => ?_) (fun c5 => ?_)
        · have e5 : ¬ s.1 = 8 := fun z => c5 (by rw [z])
          obtain ⟨c, hcn, rfl⟩ := (isIn_iff (by omega)).mp hc
          obtain ⟨x, hx, rfl⟩ := (isIn_iff (by omega)).mp hh1
          have cs : (nI s.1).toNatClampNeg = s.1 := cl (by omega)
          refine bk hX lkX12_ok (pc' := 79) [.aload_n 0, .getfield 138, .aload_n 0, .getfield 129, .iload_n 1, .iastore, .aload_n 0, .getfield 141, .aload_n 0, .getfield 129, .iload_n 2, .iastore, .aload_n 0, .dup, .getfield 129, .iconst 1, .iadd, .putfield 129, .aload_n 0, .getfield 129] (by decide +kernel) (And.intro (by rw [hs0]; exact vin 8 (by omega)) (And.intro (by (show vp_in (up2 I 143 _ _ 100 39) _; rw [up2_ne _ _ _ (by decide), hs0]; exact vin 8 (by omega))) (And.intro trivial ?_)))
          exact z_iret hX (by decide +kernel) rfl (rfl) (by decide) (by decide) (by
  refine ⟨_, rfl, ?_, ?_, frX_tr (frX_tr (frX_at (by decide) (by decide)) (frX_at (by decide) (by decide))) (frX_f (by decide))⟩
  · unfold bookS; rw [if_neg c1, if_pos hc, if_pos hh1, if_neg e5]
    simp [up2_v, hs0, nI_add]
  · unfold bookS; rw [if_neg c1, if_pos hc, if_pos hh1, if_neg e5, jx_nI (by omega), jx_nI (by omega)]
    refine ⟨by simp [up2_v, hs0, nI_add], by show s.1 + 1 ≤ 8; omega, fun k hk => ?_⟩
    by_cases hk2 : k = s.1
    · subst hk2
      simp [up2_v, hs0, cs, upN]
    · have hk3 : k < s.1 + 1 := hk
      have hk4 := hsk k (by omega)
      simp [up2_v, hs0, cs, upN, hk2, hk4])
        · refine bk hX lkX12_ok (pc' := 44) [.bipush (Int.negSucc 3)] (by decide +kernel) (And.intro trivial ?_)
          exact z_iret hX (by decide +kernel) rfl (rfl) (by decide) (by decide) (by have e5 : s.1 = 8 := nI_inj (b := 8) (by omega) (by decide) c5; exact ⟨I, rfl, by unfold bookS; rw [if_neg c1, if_pos hc, if_pos hh1, if_pos e5], by unfold bookS; rw [if_neg c1, if_pos hc, if_pos hh1, if_pos e5]; exact ⟨hs0, hs5, hsk⟩, frX_rf _ _ _⟩)
      · refine if_ne hX (6) 33 (by decide +kernel) (by decide) (fun c => absurd (by decide) c) (fun c_27 => ?_)
        refine bk hX lkX12_ok (pc' := 32) [.bipush (Int.negSucc 1)] (by decide +kernel) (And.intro trivial ?_)
        exact z_iret hX (by decide +kernel) rfl (rfl) (by decide) (by decide) (⟨I, rfl, by unfold bookS; rw [if_neg c1, if_pos hc, if_neg hh1], by unfold bookS; rw [if_neg c1, if_pos hc, if_neg hh1]; exact ⟨hs0, hs5, hsk⟩, frX_rf _ _ _⟩)
    · refine if_ne hX (5) 22 (by decide +kernel) (by decide) (fun c => absurd (by decide) c) (fun c_17 => ?_)
      refine bk hX lkX12_ok (pc' := 21) [.iconst (Int.negSucc 0)] (by decide +kernel) (And.intro trivial ?_)
      exact z_iret hX (by decide +kernel) rfl (rfl) (by decide) (by decide) (⟨I, rfl, by unfold bookS; rw [if_neg c1, if_neg hc], by unfold bookS; rw [if_neg c1, if_neg hc]; exact ⟨hs0, hs5, hsk⟩, frX_rf _ _ _⟩)
  · refine bk hX lkX12_ok (pc' := 11) [.aload_n 0, .iconst 0, .putfield 129, .iconst 0] (by decide +kernel) (And.intro trivial ?_)
    exact z_iret hX (by decide +kernel) rfl (rfl) (by decide) (by decide) (by
  refine ⟨_, rfl, by unfold bookS; rw [if_pos c1]; rfl, ?_, frX_f (by decide)⟩
  unfold bookS; rw [if_pos c1]
  exact ⟨by rw [up2_self], Nat.zero_le _, fun k hk => absurd hk (Nat.not_lt_zero _)⟩)
def lokL (g : Gv) (s : Rw) : Nat → Nat → Int32
  | 0, _ => -nI 5
  | m + 1, k => if gh g (s.2.1 k) = s.2.2.1 k then lokL g s m (k + 1) else nI k
theorem c_M_looked (E : zE) (K N : Nat → Nat) (Rf : Nat → Nat → Option Nat) (I : Nat → Nat → Int32) (L : Nat → Nat → Int64) {g : Gv} (hg : gwf g) (hG : mG g I) {s : Rw} (hs : mBk s I) (hws : wBk s g) : zCt E mX12_looked 0 0 0 (sg K N Rf I L) [.ref 100] (fun r σ' => σ' = (sg K N Rf I L) ∧ r = some (.int (lokL g s s.1 0))) := by
  have h6 := hg.1
  obtain ⟨hs0, hs5, hsk⟩ := hs
  refine z_intro (by decide) (Nat.le_of_ble_eq_true rfl) (fun X hX => ?_)
  have hl : ∀ m k, k + m = s.1 → lokL g s m k = lokL g s s.1 0 → zS X (sg K N Rf I L) 0 0 2 [(0, .ref 100), (1, .int (nI k))] [] := by
    intro m
    induction m with
    | zero =>
      intro k hk hf
      obtain rfl : k = s.1 := by omega
      refine bk hX lkX12_ok (pc' := 7) [.iload_n 1, .aload_n 0, .getfield 129] (by decide +kernel) (And.intro trivial ?_)
      rw [hs0]
      refine ic_ge hX (31) 38 (by decide +kernel) (by decide) (fun c_7 => ?_) (fun c => absurd (nI_le (by omega) (by omega)) c)
      refine bk hX lkX12_ok (pc' := 40) [.bipush (Int.negSucc 4)] (by decide +kernel) (And.intro trivial ?_)
      exact z_iret hX (by decide +kernel) rfl (rfl) (by decide) (by decide) (by rw [← hf]; exact ⟨rfl, rfl⟩)
    | succ m ih =>
      intro k hk hf
      obtain ⟨k1, k2⟩ := hsk k (by omega)
      obtain ⟨l1, l2⟩ := hws k (by omega)
      have hgl := (hg.2.1 _ l1).2.2.2.1
      have ck : (nI k).toNatClampNeg = k := cl (by omega)
      have hf' : (if gh g (s.2.1 k) = s.2.2.1 k then lokL g s m (k + 1) else nI k) = lokL g s s.1 0 := hf
      refine bk hX lkX12_ok (pc' := 7) [.iload_n 1, .aload_n 0, .getfield 129] (by decide +kernel) (And.intro trivial ?_)
      rw [hs0]
      refine ic_ge hX (31) 38 (by decide +kernel) (by decide) (fun c => absurd c (nI_ge (by omega) (by omega))) (fun c_7 => ?_)
      refine bk hX lkX12_ok (pc' := 27) [.aload_n 0, .getfield 29, .aload_n 0, .getfield 138, .iload_n 1, .iaload, .iaload, .aload_n 0, .getfield 141, .iload_n 1, .iaload] (by decide +kernel) (And.intro (by exact vin 8 (by omega)) (And.intro (by rw [ck, show I (101 + 42) k = _ from k1]; exact vin 6 (by omega)) (And.intro (by exact vin 8 (by omega)) (And.intro trivial ?_))))
      rw [ck, show I (101 + 42) k = _ from k1, cl (by omega), show I (101 + 6) (s.2.1 k) = _ from mG_gh hG l1, show I (101 + 43) k = _ from k2]
      refine ic_eq hX (5) 32 (by decide +kernel) (by decide) (fun ce => ?_) (fun ce => ?_)
      · refine bk hX lkX12_ok (pc' := 35) [.iinc 1 1] (by decide +kernel) (And.intro trivial ?_)
        refine gt_ hX (-33) 2 (by decide +kernel) (by decide) ?_
        refine z_lvk (lv' := [(0, _), (1, _)]) [1, 0] rfl ?_
        rw [if_pos (nI_inj (by omega) (by omega) ce)] at hf'
        rw [nI_add]
        exact ih (k + 1) (by omega) hf'
      · refine bk hX lkX12_ok (pc' := 31) [.iload_n 1] (by decide +kernel) (And.intro trivial ?_)
        exact z_iret hX (by decide +kernel) rfl (rfl) (by decide) (by decide) (by rw [if_neg (fun z => ce (by rw [z]))] at hf'; rw [← hf']; exact ⟨rfl, rfl⟩)
  refine bk hX lkX12_ok (pc' := 2) [.iconst 0, .istore_n 1] (by decide +kernel) (And.intro trivial ?_)
  refine z_lvk (lv' := [(0, _), (1, _)]) [1, 0] rfl ?_
  exact hl s.1 0 (by omega) rfl
end
section
/-- one more worker -/
def hireG (g : Gv) (k v : Nat) : Gv := (gn g + 1, upN (gk g) (gn g) k, upN (gv g) (gn g) v, upN (gc g) (gn g) (gn g), upN (gh g) (gn g) 0, (fun j => if j / 4 = gn g then 0 else gr g j), rstS (ga g) (nI (gn g)) 0, gd g)
def workS (g : Gv) (k v : Int32) : Int32 × Gv := if isIn k 7 = true then (if isIn v 10 = true then (if gn g = 6 then (-nI 4, g) else (nI (gn g), hireG g (jx k) (jx v))) else (-nI 2, g)) else (-nI 1, g)
theorem gwf_hire {g : Gv} (hg : gwf g) (hn : gn g < 6) {k v : Nat} (hk : k ≤ 6) (hv : v ≤ 9) : gwf (hireG g k v) := by
  obtain ⟨a1, a2, a3⟩ := hg
  refine ⟨by show gn g + 1 ≤ 6; omega, fun p hp => ?_, fun p q hp hq => ?_⟩
  · have hp' : p < gn g + 1 := hp
    show upN (gk g) (gn g) k p ≤ 6 ∧ upN (gv g) (gn g) v p ≤ 9 ∧ upN (gc g) (gn g) (gn g) p < gn g + 1 ∧ upN (gh g) (gn g) 0 p < 1024 ∧ ∀ j, j < 4 → (if (4 * p + j) / 4 = gn g then 0 else gr g (4 * p + j)) ≤ 9
    by_cases e : p = gn g
    · subst e
      refine ⟨by rw [upN_at]; exact hk, by rw [upN_at]; exact hv, by rw [upN_at]; omega, by rw [upN_at]; omega, fun j hj => ?_⟩
      rw [if_pos (by omega)]; omega
    · have h := a2 p (by omega)
      refine ⟨by rw [upN_ne _ _ e]; exact h.1, by rw [upN_ne _ _ e]; exact h.2.1, by rw [upN_ne _ _ e]; have := h.2.2.1; omega, by rw [upN_ne _ _ e]; exact h.2.2.2.1, fun j hj => ?_⟩
      rw [if_neg (by omega)]; exact h.2.2.2.2 j hj
  · have hp' : p < gn g + 1 := hp
    have hq' : q < gn g + 1 := hq
    show upN (gc g) (gn g) (gn g) p = upN (gc g) (gn g) (gn g) q → p = q
    by_cases e : p = gn g <;> by_cases e2 : q = gn g
    · intro _; omega
    · have := (a2 q (by omega)).2.2.1
      subst e
      rw [upN_at, upN_ne _ _ e2]
      omega
    · have := (a2 p (by omega)).2.2.1
      subst e2
      rw [upN_at, upN_ne _ _ e]
      omega
    · rw [upN_ne _ _ e, upN_ne _ _ e2]
      exact a3 p q (by omega) (by omega)
set_option maxHeartbeats 2000000 in
theorem c_M_worker (E : zE) (K N : Nat → Nat) (Rf : Nat → Nat → Option Nat) (I : Nat → Nat → Int32) (L : Nat → Nat → Int64) {g : Gv} (hg : gwf g) (hG : mG g I) (x y : Int32) : zCt E mX12_worker 1 0 0 (sg K N Rf I L) [.ref 100, .int x, .int y] (fun r σ' => ∃ I', σ' = sg K N Rf I' L ∧ r = some (.int (workS g x y).1) ∧ mG (workS g x y).2 I' ∧ frG I I') := by
  have h6 := hg.1
  have cn : (nI (gn g)).toNatClampNeg = gn g := cl (by omega)
  refine z_intro (by decide) (Nat.le_of_ble_eq_true rfl) (fun X hX => ?_)
  have hl : ∀ k v, gn g ≠ 6 → k < 7 → v < 10 → workS g x y = (nI (gn g), hireG g k v) → ∀ m i (I1 : Nat → Nat → Int32), i + m = 4 → (∀ q j, ¬ (q = 108 ∧ 4 * gn g ≤ j ∧ j < 4 * gn g + 4) → I1 q j = up2 (up2 (up2 (up2 (up2 I 104 (gn g) (nI k)) 105 (gn g) (nI v)) 106 (gn g) (nI (gn g))) 107 (gn g) 0) 100 1 (rstS (ga g) (nI (gn g)) 0) q j) → (∀ j, j < i → I1 108 (4 * gn g + j) = nI 0) → frG I I1 → zS X (sg K N Rf I1 L) 0 0 101 [(0, .ref 100), (1, .int x), (2, .int y), (3, .int (nI i))] [] := by
    intro k v hn6 hk hv hS m
    induction m with
    | zero =>
      intro i I1 hi h1 h2 h3
      obtain rfl : i = 4 := by omega
      have e0 : I1 100 0 = nI (gn g) := by rw [h1 _ _ (by omega)]; simp [up2_v, hG.1]
      refine bk hX lkX12_ok (pc' := 103) [.iload_n 3, .iconst 4] (by decide +kernel) (And.intro trivial ?_)
      refine ic_ge hX (23) 126 (by decide +kernel) (by decide) (fun c_103 => ?_) (fun c => absurd (by decide) c)
      refine bk hX lkX12_ok (pc' := 133) [.aload_n 0, .dup, .getfield 7, .iconst 1, .iadd] (by decide +kernel) (And.intro trivial ?_)
      rw [e0, nI_add]
      refine bk hX lkX12_ok (pc' := 142) [.putfield 7, .aload_n 0, .getfield 7, .iconst 1, .isub] (by decide +kernel) (And.intro trivial ?_)
      exact z_iret hX (by decide +kernel) rfl (rfl) (by decide) (by decide) (by
  rw [hS]
  refine ⟨_, rfl, by rw [up2_self, i_m1 (n := gn g + 1) (by omega)]; rfl, ?_, frG_tr h3 (frG_f (by decide))⟩
  obtain ⟨g1, g2, g3, g4⟩ := hG
  refine ⟨by rw [up2_self]; rfl, ?_, ?_, fun p hp => ?_⟩
  · rw [up2_v, if_neg (by omega), h1 _ _ (by omega)]; simp [up2_v]; rfl
  · rw [up2_v, if_neg (by omega), h1 _ _ (by omega)]; simp [up2_v, g3]; rfl
  · have hp' : p < gn g + 1 := hp
    show _ = nI (upN (gk g) (gn g) k p) ∧ _ = nI (upN (gv g) (gn g) v p) ∧ _ = nI (upN (gc g) (gn g) (gn g) p) ∧ _ = nI (upN (gh g) (gn g) 0 p) ∧ ∀ j, j < 4 → _ = nI (if (4 * p + j) / 4 = gn g then 0 else gr g (4 * p + j))
    by_cases e : p = gn g
    · subst e
      refine ⟨?_, ?_, ?_, ?_, fun j hj => ?_⟩
      · rw [up2_v, if_neg (by omega), h1 _ _ (by omega), upN_at]; simp [up2_v]
      · rw [up2_v, if_neg (by omega), h1 _ _ (by omega), upN_at]; simp [up2_v]
      · rw [up2_v, if_neg (by omega), h1 _ _ (by omega), upN_at]; simp [up2_v]
      · rw [up2_v, if_neg (by omega), h1 _ _ (by omega), upN_at]; simp [up2_v]; rfl
      · rw [up2_v, if_neg (by omega), if_pos (by omega)]; exact h2 j hj
    · obtain ⟨k1, k2, k3, k4, k5⟩ := g4 p (by omega)
      refine ⟨?_, ?_, ?_, ?_, fun j hj => ?_⟩
      · rw [up2_v, if_neg (by omega), h1 _ _ (by omega), upN_ne _ _ e]; simp [up2_v, e, k1]
      · rw [up2_v, if_neg (by omega), h1 _ _ (by omega), upN_ne _ _ e]; simp [up2_v, e, k2]
      · rw [up2_v, if_neg (by omega), h1 _ _ (by omega), upN_ne _ _ e]; simp [up2_v, e, k3]
      · rw [up2_v, if_neg (by omega), h1 _ _ (by omega), upN_ne _ _ e]; simp [up2_v, e, k4]
      · rw [up2_v, if_neg (by omega), if_neg (by omega), h1 _ _ (by omega)]; simp [up2_v, k5 j hj])
    | succ m ih =>
      intro i I1 hi h1 h2 h3
      have e0 : I1 100 0 = nI (gn g) := by rw [h1 _ _ (by omega)]; simp [up2_v, hG.1]
      have ci : (nI (4 * gn g + i)).toNatClampNeg = 4 * gn g + i := cl (by omega)
      refine bk hX lkX12_ok (pc' := 103) [.iload_n 3, .iconst 4] (by decide +kernel) (And.intro trivial ?_)
      refine ic_ge hX (23) 126 (by decide +kernel) (by decide) (fun c => absurd c (nI_ge (a := i) (b := 4) (by omega) (by decide))) (fun c_103 => ?_)
      refine bk hX lkX12_ok (pc' := 123) [.aload_n 0, .getfield 32, .iconst 4, .aload_n 0, .getfield 7, .imul, .iload_n 3, .iadd, .iconst 0, .iastore, .iinc 3 1] (by decide +kernel) (And.intro (by rw [e0, show nI 4 * nI (gn g) = nI (4 * gn g) from pk_mul _ _, nI_add]; exact vin 24 (by omega)) (And.intro trivial ?_))
      refine gt_ hX (-22) 101 (by decide +kernel) (by decide) ?_
      refine z_lvk (lv' := [(0, _), (1, _), (2, _), (3, _)]) [1, 2, 3, 0] rfl ?_
      rw [e0, show nI 4 * nI (gn g) = nI (4 * gn g) from pk_mul _ _, nI_add, nI_add, ci]
      exact ih (i + 1) _ (by omega) (fun q j hq => by rw [up2_v, if_neg (by omega)]; exact h1 q j hq) (fun j hj => by
        rw [up2_v]
        split
        · rfl
        · exact h2 j (by omega)) (frG_tr h3 (frG_at (by decide)))
  refine bk hX lkX12_ok (pc' := 5) [.aload_n 0, .iload_n 1, .iconst 0, .bipush 6] (by decide +kernel) (And.intro trivial ?_)
  refine z_callV hX kw_X12_228 (c_M_in E _ _ _ _ _) rfl rfl rfl rfl rfl (by decide +kernel) (by decide) (by decide) (by decide) (by decide) (Nat.le_of_ble_eq_true rfl) ?_
  rintro _ _ ⟨rfl, hh⟩
  rw [in_ix 6 (by decide)] at hh
  rcases hh with ⟨hx, rfl⟩ | ⟨hx, rfl⟩
  · refine if_ne hX (5) 13 (by decide +kernel) (by decide) (fun c_8 => ?_) (fun c => absurd c (by decide))
    refine bk hX lkX12_ok (pc' := 18) [.aload_n 0, .iload_n 2, .iconst 0, .bipush 9] (by decide +kernel) (And.intro trivial ?_)
    refine z_callV hX kw_X12_228 (c_M_in E _ _ _ _ _) rfl rfl rfl rfl rfl (by decide +kernel) (by decide) (by decide) (by decide) (by decide) (Nat.le_of_ble_eq_true rfl) ?_
    rintro _ _ ⟨rfl, hh⟩
    rw [in_ix 9 (by decide)] at hh
    rcases hh with ⟨hy, rfl⟩ | ⟨hy, rfl⟩
    · refine if_ne hX (6) 27 (by decide +kernel) (by decide) (fun c_21 => ?_) (fun c => absurd c (by decide))
      refine bk hX lkX12_ok (pc' := 33) [.aload_n 0, .getfield 7, .bipush 6] (by decide +kernel) (And.intro trivial ?_)
      rw [hG.1]
      refine ic_ne hX (6) 39 (by decide +kernel) (by decide) (fun c6 => ?_) (fun c6 => ?_)
      · have e6 : ¬ gn g = 6 := fun z => c6 (by rw [z])
        obtain ⟨k, hk, rfl⟩ := (isIn_iff (by decide)).mp hx
        obtain ⟨v, hv, rfl⟩ := (isIn_iff (by decide)).mp hy
        have hlt : gn g < 6 := by omega
        refine bk hX lkX12_ok (pc' := 87) [.aload_n 0, .getfield 19, .aload_n 0, .getfield 7, .iload_n 1, .iastore, .aload_n 0, .getfield 23, .aload_n 0, .getfield 7, .iload_n 2, .iastore, .aload_n 0, .getfield 26, .aload_n 0, .getfield 7, .aload_n 0, .getfield 7, .iastore, .aload_n 0, .getfield 29, .aload_n 0, .getfield 7, .iconst 0, .iastore, .aload_n 0, .dup, .getfield 13] (by decide +kernel) (And.intro (by rw [hG.1]; exact vin 6 hlt) (And.intro (by (show vp_in (up2 I 104 _ _ 100 0) _; rw [up2_ne _ _ _ (by decide), hG.1]; exact vin 6 hlt)) (And.intro (by (show vp_in (up2 (up2 I 104 _ _) 105 _ _ 100 0) _; rw [up2_ne _ _ _ (by decide), up2_ne _ _ _ (by decide), hG.1]; exact vin 6 hlt)) (And.intro (by (show vp_in (up2 (up2 (up2 I 104 _ _) 105 _ _) 106 _ _ 100 0) _; rw [up2_ne _ _ _ (by decide), up2_ne _ _ _ (by decide), up2_ne _ _ _ (by decide), hG.1]; exact vin 6 hlt)) (And.intro trivial ?_)))))
        refine bk hX lkX12_ok (pc' := 101) [.iconst 1, .aload_n 0, .getfield 7, .ishl, .iconst (Int.negSucc 0), .ixor, .iand, .putfield 13, .iconst 0, .istore_n 3] (by decide +kernel) (And.intro trivial ?_)
        refine z_lvk (lv' := [(0, _), (1, _), (2, _), (3, _)]) [1, 2, 3, 0] rfl ?_
        refine hl k v e6 hk hv (by unfold workS; rw [if_pos hx, if_pos hy, if_neg e6, jx_nI (by omega), jx_nI (by omega)]) 4 0 _ (by omega) (fun q j _ => ?_) (fun j hj => absurd hj (Nat.not_lt_zero _)) ?_
        · have e1 : I 100 1 = ga g := hG.2.1
          simp [up2_v, hG.1, cn, e1, rstS]
          rfl
        · exact frG_tr (frG_tr (frG_tr (frG_tr (frG_at (by decide)) (frG_at (by decide))) (frG_at (by decide))) (frG_at (by decide))) (frG_f (by decide))
      · refine bk hX lkX12_ok (pc' := 38) [.bipush (Int.negSucc 3)] (by decide +kernel) (And.intro trivial ?_)
        exact z_iret hX (by decide +kernel) rfl (rfl) (by decide) (by decide) (by have e6 : gn g = 6 := nI_inj (b := 6) (by omega) (by decide) c6; exact ⟨I, rfl, by unfold workS; rw [if_pos hx, if_pos hy, if_pos e6], by unfold workS; rw [if_pos hx, if_pos hy, if_pos e6]; exact hG, frG_rf _⟩)
    · refine if_ne hX (6) 27 (by decide +kernel) (by decide) (fun c => absurd (by decide) c) (fun c_21 => ?_)
      refine bk hX lkX12_ok (pc' := 26) [.bipush (Int.negSucc 1)] (by decide +kernel) (And.intro trivial ?_)
      exact z_iret hX (by decide +kernel) rfl (rfl) (by decide) (by decide) (⟨I, rfl, by unfold workS; rw [if_pos hx, if_neg hy], by unfold workS; rw [if_pos hx, if_neg hy]; exact hG, frG_rf _⟩)
  · refine if_ne hX (5) 13 (by decide +kernel) (by decide) (fun c => absurd (by decide) c) (fun c_8 => ?_)
    refine bk hX lkX12_ok (pc' := 12) [.iconst (Int.negSucc 0)] (by decide +kernel) (And.intro trivial ?_)
    exact z_iret hX (by decide +kernel) rfl (rfl) (by decide) (by decide) (⟨I, rfl, by unfold workS; rw [if_neg hx], by unfold workS; rw [if_neg hx]; exact hG, frG_rf _⟩)
/-- the text that was fed -/
def mTx (t : List Nat) (I : Nat → Nat → Int32) : Prop := I 100 10 = nI t.length ∧ t.length ≤ 100 ∧ ∀ k, k < t.length → I 114 k = nI (t.getD k 0)
def feedS (t : List Nat) (x : Int32) : Int32 × List Nat := if isIn x 128 = true then (if t.length = 100 then (-nI 4, t) else (nI (t.length + 1), t ++ [jx x])) else (-nI 2, t)
theorem c_M_feed (E : zE) (K N : Nat → Nat) (Rf : Nat → Nat → Option Nat) (I : Nat → Nat → Int32) (L : Nat → Nat → Int64) {t : List Nat} (ht : mTx t I) (x : Int32) : zCt E mX12_feed 1 0 0 (sg K N Rf I L) [.ref 100, .int x] (fun r σ' => ∃ I', σ' = sg K N Rf I' L ∧ r = some (.int (feedS t x).1) ∧ mTx (feedS t x).2 I' ∧ frX [114] [10] I I') := by
  obtain ⟨t1, t2, t3⟩ := ht
  refine z_intro (by decide) (Nat.le_of_ble_eq_true rfl) (fun X hX => ?_)
  refine bk hX lkX12_ok (pc' := 5) [.aload_n 0, .iload_n 1, .iconst 0, .bipush 127] (by decide +kernel) (And.intro trivial ?_)
  refine z_callV hX kw_X12_228 (c_M_in E _ _ _ _ _) rfl rfl rfl rfl rfl (by decide +kernel) (by decide) (by decide) (by decide) (by decide) (Nat.le_of_ble_eq_true rfl) ?_
  rintro _ _ ⟨rfl, hh⟩
  rw [in_ix 127 (by decide)] at hh
  rcases hh with ⟨hx, rfl⟩ | ⟨hx, rfl⟩
  · refine if_ne hX (6) 14 (by decide +kernel) (by decide) (fun c_8 => ?_) (fun c => absurd c (by decide))
    refine bk hX lkX12_ok (pc' := 20) [.aload_n 0, .getfield 41, .bipush 100] (by decide +kernel) (And.intro trivial ?_)
    rw [t1]
    refine ic_ne hX (6) 26 (by decide +kernel) (by decide) (fun c1 => ?_) (fun c1 => ?_)
    · have e : ¬ t.length = 100 := fun z => c1 (by rw [z])
      obtain ⟨k, hk, rfl⟩ := (isIn_iff (by decide)).mp hx
      have cn : (nI t.length).toNatClampNeg = t.length := cl (by omega)
      refine bk hX lkX12_ok (pc' := 50) [.aload_n 0, .getfield 50, .aload_n 0, .getfield 41, .iload_n 1, .iastore, .aload_n 0, .dup, .getfield 41, .iconst 1, .iadd, .putfield 41, .aload_n 0, .getfield 41] (by decide +kernel) (And.intro (by rw [t1]; exact vin 100 (by omega)) (And.intro trivial ?_))
      exact z_iret hX (by decide +kernel) rfl (rfl) (by decide) (by decide) (by
  unfold feedS
  rw [if_pos hx, if_neg e, jx_nI (by omega)]
  refine ⟨_, rfl, by simp [up2_v, t1, nI_add], ⟨by simp [up2_v, t1, nI_add], by rw [List.length_append, List.length_singleton]; omega, fun j hj => ?_⟩, frX_tr (frX_at (by decide) (by decide)) (frX_f (by decide))⟩
  rw [List.length_append, List.length_singleton] at hj
  by_cases h : j = t.length
  · subst h
    simp [up2_v, t1, cn]
  · have := t3 j (by omega)
    simp [up2_v, t1, cn, h, this, List.getElem?_append_left (show j < t.length by omega)])
    · refine bk hX lkX12_ok (pc' := 25) [.bipush (Int.negSucc 3)] (by decide +kernel) (And.intro trivial ?_)
      exact z_iret hX (by decide +kernel) rfl (rfl) (by decide) (by decide) (by have e : t.length = 100 := nI_inj (b := 100) (by omega) (by decide) c1; exact ⟨I, rfl, by unfold feedS; rw [if_pos hx, if_pos e], by unfold feedS; rw [if_pos hx, if_pos e]; exact ⟨t1, t2, t3⟩, frX_rf _ _ _⟩)
  · refine if_ne hX (6) 14 (by decide +kernel) (by decide) (fun c => absurd (by decide) c) (fun c_8 => ?_)
    refine bk hX lkX12_ok (pc' := 13) [.bipush (Int.negSucc 1)] (by decide +kernel) (And.intro trivial ?_)
    exact z_iret hX (by decide +kernel) rfl (rfl) (by decide) (by decide) (⟨I, rfl, by unfold feedS; rw [if_neg hx], by unfold feedS; rw [if_neg hx]; exact ⟨t1, t2, t3⟩, frX_rf _ _ _⟩)
def tknS (g : Gv) (x k : Int32) : Int32 := if isIn k 7 = true then (if isIn x (gn g) = true then (if jx k = 0 ∨ gk g (jx x) = jx k ∨ (jx k = 1 ∧ gk g (jx x) = 4) ∨ (jx k = 2 ∧ gk g (jx x) = 5) ∨ (jx k = 3 ∧ gk g (jx x) = 6) then nI (gk g (jx x)) else -nI 12) else -nI 11) else -nI 2
set_option maxHeartbeats 1000000 in
theorem c_M_taken (E : zE) (K N : Nat → Nat) (Rf : Nat → Nat → Option Nat) (I : Nat → Nat → Int32) (L : Nat → Nat → Int64) {g : Gv} (hg : gwf g) (hG : mG g I) (x y : Int32) : zCt E mX12_taken 2 0 0 (sg K N Rf I L) [.ref 100, .int x, .int y] (fun r σ' => σ' = (sg K N Rf I L) ∧ r = some (.int (tknS g x y))) := by
  have h6 := hg.1
  refine z_intro (by decide) (Nat.le_of_ble_eq_true rfl) (fun X hX => ?_)
  refine bk hX lkX12_ok (pc' := 5) [.aload_n 0, .iload_n 2, .iconst 0, .bipush 6] (by decide +kernel) (And.intro trivial ?_)
  refine z_callV hX kw_X12_228 (c_M_in E _ _ _ _ _) rfl rfl rfl rfl rfl (by decide +kernel) (by decide) (by decide) (by decide) (by decide) (Nat.le_of_ble_eq_true rfl) ?_
  rintro _ _ ⟨rfl, hh⟩
  rw [in_ix 6 (by decide)] at hh
  rcases hh with ⟨hy, rfl⟩ | ⟨hy, rfl⟩
  · refine if_ne hX (6) 14 (by decide +kernel) (by decide) (fun c_8 => ?_) (fun c => absurd c (by decide))
    refine bk hX lkX12_ok (pc' := 16) [.aload_n 0, .iload_n 1] (by decide +kernel) (And.intro trivial ?_)
    refine z_callV hX kw_X12_232 (c_M_isWorker E K N Rf I L _ hg.1 hG.1) rfl rfl rfl rfl rfl (by decide +kernel) (by decide) (by decide) (by decide) (by decide) (Nat.le_of_ble_eq_true rfl) ?_
    rintro _ _ ⟨rfl, hh⟩
    rw [← isIn_iff (by omega)] at hh
    rcases hh with ⟨hx, rfl⟩ | ⟨hx, rfl⟩
    · refine if_ne hX (6) 25 (by decide +kernel) (by decide) (fun c_19 => ?_) (fun c => absurd c (by decide))
      obtain ⟨k, hk, rfl⟩ := (isIn_iff (by decide)).mp hy
      obtain ⟨p, hp, rfl⟩ := (isIn_iff (by omega)).mp hx
      have cp : (nI p).toNatClampNeg = p := cl (by omega)
      obtain ⟨k1, -⟩ := hG.2.2.2 p hp
      have k6 := (hg.2.1 p hp).1
      have hS : tknS g (nI p) (nI k) = if k = 0 ∨ gk g p = k ∨ (k = 1 ∧ gk g p = 4) ∨ (k = 2 ∧ gk g p = 5) ∨ (k = 3 ∧ gk g p = 6) then nI (gk g p) else -nI 12 := by
        unfold tknS; rw [if_pos hy, if_pos hx, jx_nI (by omega), jx_nI (by omega)]
      have q : ∀ {a b : Nat}, a < 2 ^ 31 → b < 2 ^ 31 → ¬ nI a = nI b → ¬ a = b := fun ha hb h z => h (by rw [z])
      have q0 : k = 0 ↔ nI k = 0 := ⟨fun z => by rw [z]; rfl, fun z => nI_inj (by omega) (by decide) (show nI k = nI 0 from z)⟩
      have qk : gk g p = k ↔ nI (gk g p) = nI k := (nI_eq (by omega) (by omega)).symm
      have q1 : k = 1 ↔ nI k = nI 1 := (nI_eq (by omega) (by omega)).symm
      have q2 : k = 2 ↔ nI k = nI 2 := (nI_eq (by omega) (by omega)).symm
      have q3 : k = 3 ↔ nI k = nI 3 := (nI_eq (by omega) (by omega)).symm
      have q4 : gk g p = 4 ↔ nI (gk g p) = nI 4 := (nI_eq (by omega) (by omega)).symm
      have q5 : gk g p = 5 ↔ nI (gk g p) = nI 5 := (nI_eq (by omega) (by omega)).symm
      have q6 : gk g p = 6 ↔ nI (gk g p) = nI 6 := (nI_eq (by omega) (by omega)).symm
      refine bk hX lkX12_ok (pc' := 32) [.aload_n 0, .getfield 19, .iload_n 1, .iaload, .istore_n 3] (by decide +kernel) (And.intro (by exact vin 6 (by omega)) (And.intro trivial ?_))
      rw [cp, show I (101 + 3) p = _ from k1]
      refine bk hX lkX12_ok (pc' := 33) [.iload_n 2] (by decide +kernel) (And.intro trivial ?_)
      refine if_eq hX (39) 72 (by decide +kernel) (by decide) (fun c_33 => ?_) (fun c_33 => ?_)
      · refine bk hX lkX12_ok (pc' := 73) [.iload_n 3] (by decide +kernel) (And.intro trivial ?_)
        refine gt_ hX (5) 78 (by decide +kernel) (by decide) ?_
        exact z_iret hX (by decide +kernel) rfl (rfl) (by decide) (by decide) (by refine ⟨rfl, ?_⟩; rw [hS]; first | (rw [if_neg (by rw [q0, qk, q1, q2, q3, q4, q5, q6]; grind)]; done) | (rw [if_pos (by rw [q0, qk, q1, q2, q3, q4, q5, q6]; grind)]; done))
      · refine bk hX lkX12_ok (pc' := 38) [.iload_n 3, .iload_n 2] (by decide +kernel) (And.intro trivial ?_)
        refine ic_eq hX (34) 72 (by decide +kernel) (by decide) (fun c_38 => ?_) (fun c_38 => ?_)
        · refine bk hX lkX12_ok (pc' := 73) [.iload_n 3] (by decide +kernel) (And.intro trivial ?_)
          refine gt_ hX (5) 78 (by decide +kernel) (by decide) ?_
          exact z_iret hX (by decide +kernel) rfl (rfl) (by decide) (by decide) (by refine ⟨rfl, ?_⟩; rw [hS]; first | (rw [if_neg (by rw [q0, qk, q1, q2, q3, q4, q5, q6]; grind)]; done) | (rw [if_pos (by rw [q0, qk, q1, q2, q3, q4, q5, q6]; grind)]; done))
        · refine bk hX lkX12_ok (pc' := 43) [.iload_n 2, .iconst 1] (by decide +kernel) (And.intro trivial ?_)
          refine ic_ne hX (8) 51 (by decide +kernel) (by decide) (fun c_43 => ?_) (fun c_43 => ?_)
          · refine bk hX lkX12_ok (pc' := 53) [.iload_n 2, .iconst 2] (by decide +kernel) (And.intro trivial ?_)
            refine ic_ne hX (8) 61 (by decide +kernel) (by decide) (fun c_53 => ?_) (fun c_53 => ?_)
            · refine bk hX lkX12_ok (pc' := 63) [.iload_n 2, .iconst 3] (by decide +kernel) (And.intro trivial ?_)
              refine ic_ne hX (13) 76 (by decide +kernel) (by decide) (fun c_63 => ?_) (fun c_63 => ?_)
              · refine bk hX lkX12_ok (pc' := 78) [.bipush (Int.negSucc 11)] (by decide +kernel) (And.intro trivial ?_)
                exact z_iret hX (by decide +kernel) rfl (rfl) (by decide) (by decide) (by refine ⟨rfl, ?_⟩; rw [hS]; first | (rw [if_neg (by rw [q0, qk, q1, q2, q3, q4, q5, q6]; grind)]; done) | (rw [if_pos (by rw [q0, qk, q1, q2, q3, q4, q5, q6]; grind)]; done))
              · refine bk hX lkX12_ok (pc' := 69) [.iload_n 3, .bipush 6] (by decide +kernel) (And.intro trivial ?_)
                refine ic_ne hX (7) 76 (by decide +kernel) (by decide) (fun c_69 => ?_) (fun c_69 => ?_)
                · refine bk hX lkX12_ok (pc' := 78) [.bipush (Int.negSucc 11)] (by decide +kernel) (And.intro trivial ?_)
                  exact z_iret hX (by decide +kernel) rfl (rfl) (by decide) (by decide) (by refine ⟨rfl, ?_⟩; rw [hS]; first | (rw [if_neg (by rw [q0, qk, q1, q2, q3, q4, q5, q6]; grind)]; done) | (rw [if_pos (by rw [q0, qk, q1, q2, q3, q4, q5, q6]; grind)]; done))
                · refine bk hX lkX12_ok (pc' := 73) [.iload_n 3] (by decide +kernel) (And.intro trivial ?_)
                  refine gt_ hX (5) 78 (by decide +kernel) (by decide) ?_
                  exact z_iret hX (by decide +kernel) rfl (rfl) (by decide) (by decide) (by refine ⟨rfl, ?_⟩; rw [hS]; first | (rw [if_neg (by rw [q0, qk, q1, q2, q3, q4, q5, q6]; grind)]; done) | (rw [if_pos (by rw [q0, qk, q1, q2, q3, q4, q5, q6]; grind)]; done))
            · refine bk hX lkX12_ok (pc' := 58) [.iload_n 3, .iconst 5] (by decide +kernel) (And.intro trivial ?_)
              refine ic_eq hX (14) 72 (by decide +kernel) (by decide) (fun c_58 => ?_) (fun c_58 => ?_)
              · refine bk hX lkX12_ok (pc' := 73) [.iload_n 3] (by decide +kernel) (And.intro trivial ?_)
                refine gt_ hX (5) 78 (by decide +kernel) (by decide) ?_
                exact z_iret hX (by decide +kernel) rfl (rfl) (by decide) (by decide) (by refine ⟨rfl, ?_⟩; rw [hS]; first | (rw [if_neg (by rw [q0, qk, q1, q2, q3, q4, q5, q6]; grind)]; done) | (rw [if_pos (by rw [q0, qk, q1, q2, q3, q4, q5, q6]; grind)]; done))
              · refine bk hX lkX12_ok (pc' := 63) [.iload_n 2, .iconst 3] (by decide +kernel) (And.intro trivial ?_)
                refine ic_ne hX (13) 76 (by decide +kernel) (by decide) (fun c_63 => ?_) (fun c_63 => ?_)
                · refine bk hX lkX12_ok (pc' := 78) [.bipush (Int.negSucc 11)] (by decide +kernel) (And.intro trivial ?_)
                  exact z_iret hX (by decide +kernel) rfl (rfl) (by decide) (by decide) (by refine ⟨rfl, ?_⟩; rw [hS]; first | (rw [if_neg (by rw [q0, qk, q1, q2, q3, q4, q5, q6]; grind)]; done) | (rw [if_pos (by rw [q0, qk, q1, q2, q3, q4, q5, q6]; grind)]; done))
                · refine bk hX lkX12_ok (pc' := 69) [.iload_n 3, .bipush 6] (by decide +kernel) (And.intro trivial ?_)
                  refine ic_ne hX (7) 76 (by decide +kernel) (by decide) (fun c_69 => ?_) (fun c_69 => ?_)
                  · refine bk hX lkX12_ok (pc' := 78) [.bipush (Int.negSucc 11)] (by decide +kernel) (And.intro trivial ?_)
                    exact z_iret hX (by decide +kernel) rfl (rfl) (by decide) (by decide) (by refine ⟨rfl, ?_⟩; rw [hS]; first | (rw [if_neg (by rw [q0, qk, q1, q2, q3, q4, q5, q6]; grind)]; done) | (rw [if_pos (by rw [q0, qk, q1, q2, q3, q4, q5, q6]; grind)]; done))
                  · refine bk hX lkX12_ok (pc' := 73) [.iload_n 3] (by decide +kernel) (And.intro trivial ?_)
                    refine gt_ hX (5) 78 (by decide +kernel) (by decide) ?_
                    exact z_iret hX (by decide +kernel) rfl (rfl) (by decide) (by decide) (by refine ⟨rfl, ?_⟩; rw [hS]; first | (rw [if_neg (by rw [q0, qk, q1, q2, q3, q4, q5, q6]; grind)]; done) | (rw [if_pos (by rw [q0, qk, q1, q2, q3, q4, q5, q6]; grind)]; done))
          · refine bk hX lkX12_ok (pc' := 48) [.iload_n 3, .iconst 4] (by decide +kernel) (And.intro trivial ?_)
            refine ic_eq hX (24) 72 (by decide +kernel) (by decide) (fun c_48 => ?_) (fun c_48 => ?_)
            · refine bk hX lkX12_ok (pc' := 73) [.iload_n 3] (by decide +kernel) (And.intro trivial ?_)
              refine gt_ hX (5) 78 (by decide +kernel) (by decide) ?_
              exact z_iret hX (by decide +kernel) rfl (rfl) (by decide) (by decide) (by refine ⟨rfl, ?_⟩; rw [hS]; first | (rw [if_neg (by rw [q0, qk, q1, q2, q3, q4, q5, q6]; grind)]; done) | (rw [if_pos (by rw [q0, qk, q1, q2, q3, q4, q5, q6]; grind)]; done))
            · refine bk hX lkX12_ok (pc' := 53) [.iload_n 2, .iconst 2] (by decide +kernel) (And.intro trivial ?_)
              refine ic_ne hX (8) 61 (by decide +kernel) (by decide) (fun c_53 => ?_) (fun c_53 => ?_)
              · refine bk hX lkX12_ok (pc' := 63) [.iload_n 2, .iconst 3] (by decide +kernel) (And.intro trivial ?_)
                refine ic_ne hX (13) 76 (by decide +kernel) (by decide) (fun c_63 => ?_) (fun c_63 => ?_)
                · refine bk hX lkX12_ok (pc' := 78) [.bipush (Int.negSucc 11)] (by decide +kernel) (And.intro trivial ?_)
                  exact z_iret hX (by decide +kernel) rfl (rfl) (by decide) (by decide) (by refine ⟨rfl, ?_⟩; rw [hS]; first | (rw [if_neg (by rw [q0, qk, q1, q2, q3, q4, q5, q6]; grind)]; done) | (rw [if_pos (by rw [q0, qk, q1, q2, q3, q4, q5, q6]; grind)]; done))
                · refine bk hX lkX12_ok (pc' := 69) [.iload_n 3, .bipush 6] (by decide +kernel) (And.intro trivial ?_)
                  refine ic_ne hX (7) 76 (by decide +kernel) (by decide) (fun c_69 => ?_) (fun c_69 => ?_)
                  · refine bk hX lkX12_ok (pc' := 78) [.bipush (Int.negSucc 11)] (by decide +kernel) (And.intro trivial ?_)
                    exact z_iret hX (by decide +kernel) rfl (rfl) (by decide) (by decide) (by refine ⟨rfl, ?_⟩; rw [hS]; first | (rw [if_neg (by rw [q0, qk, q1, q2, q3, q4, q5, q6]; grind)]; done) | (rw [if_pos (by rw [q0, qk, q1, q2, q3, q4, q5, q6]; grind)]; done))
                  · refine bk hX lkX12_ok (pc' := 73) [.iload_n 3] (by decide +kernel) (And.intro trivial ?_)
                    refine gt_ hX (5) 78 (by decide +kernel) (by decide) ?_
                    exact z_iret hX (by decide +kernel) rfl (rfl) (by decide) (by decide) (by refine ⟨rfl, ?_⟩; rw [hS]; first | (rw [if_neg (by rw [q0, qk, q1, q2, q3, q4, q5, q6]; grind)]; done) | (rw [if_pos (by rw [q0, qk, q1, q2, q3, q4, q5, q6]; grind)]; done))
              · refine bk hX lkX12_ok (pc' := 58) [.iload_n 3, .iconst 5] (by decide +kernel) (And.intro trivial ?_)
                refine ic_eq hX (14) 72 (by decide +kernel) (by decide) (fun c_58 => ?_) (fun c_58 => ?_)
                · refine bk hX lkX12_ok (pc' := 73) [.iload_n 3] (by decide +kernel) (And.intro trivial ?_)
                  refine gt_ hX (5) 78 (by decide +kernel) (by decide) ?_
                  exact z_iret hX (by decide +kernel) rfl (rfl) (by decide) (by decide) (by refine ⟨rfl, ?_⟩; rw [hS]; first | (rw [if_neg (by rw [q0, qk, q1, q2, q3, q4, q5, q6]; grind)]; done) | (rw [if_pos (by rw [q0, qk, q1, q2, q3, q4, q5, q6]; grind)]; done))
                · refine bk hX lkX12_ok (pc' := 63) [.iload_n 2, .iconst 3] (by decide +kernel) (And.intro trivial ?_)
                  refine ic_ne hX (13) 76 (by decide +kernel) (by decide) (fun c_63 => ?_) (fun c_63 => ?_)
                  · refine bk hX lkX12_ok (pc' := 78) [.bipush (Int.negSucc 11)] (by decide +kernel) (And.intro trivial ?_)
                    exact z_iret hX (by decide +kernel) rfl (rfl) (by decide) (by decide) (by refine ⟨rfl, ?_⟩; rw [hS]; first | (rw [if_neg (by rw [q0, qk, q1, q2, q3, q4, q5, q6]; grind)]; done) | (rw [if_pos (by rw [q0, qk, q1, q2, q3, q4, q5, q6]; grind)]; done))
                  · refine bk hX lkX12_ok (pc' := 69) [.iload_n 3, .bipush 6] (by decide +kernel) (And.intro trivial ?_)
                    refine ic_ne hX (7) 76 (by decide +kernel) (by decide) (fun c_69 => ?_) (fun c_69 => ?_)
                    · refine bk hX lkX12_ok (pc' := 78) [.bipush (Int.negSucc 11)] (by decide +kernel) (And.intro trivial ?_)
                      exact z_iret hX (by decide +kernel) rfl (rfl) (by decide) (by decide) (by refine ⟨rfl, ?_⟩; rw [hS]; first | (rw [if_neg (by rw [q0, qk, q1, q2, q3, q4, q5, q6]; grind)]; done) | (rw [if_pos (by rw [q0, qk, q1, q2, q3, q4, q5, q6]; grind)]; done))
                    · refine bk hX lkX12_ok (pc' := 73) [.iload_n 3] (by decide +kernel) (And.intro trivial ?_)
                      refine gt_ hX (5) 78 (by decide +kernel) (by decide) ?_
                      exact z_iret hX (by decide +kernel) rfl (rfl) (by decide) (by decide) (by refine ⟨rfl, ?_⟩; rw [hS]; first | (rw [if_neg (by rw [q0, qk, q1, q2, q3, q4, q5, q6]; grind)]; done) | (rw [if_pos (by rw [q0, qk, q1, q2, q3, q4, q5, q6]; grind)]; done))
    · refine if_ne hX (6) 25 (by decide +kernel) (by decide) (fun c => absurd (by decide) c) (fun c_19 => ?_)
      refine bk hX lkX12_ok (pc' := 24) [.bipush (Int.negSucc 10)] (by decide +kernel) (And.intro trivial ?_)
      exact z_iret hX (by decide +kernel) rfl (rfl) (by decide) (by decide) (⟨rfl, by unfold tknS; rw [if_pos hy, if_neg hx]⟩)
  · refine if_ne hX (6) 14 (by decide +kernel) (by decide) (fun c => absurd (by decide) c) (fun c_8 => ?_)
    refine bk hX lkX12_ok (pc' := 13) [.bipush (Int.negSucc 1)] (by decide +kernel) (And.intro trivial ?_)
    exact z_iret hX (by decide +kernel) rfl (rfl) (by decide) (by decide) (⟨rfl, by unfold tknS; rw [if_neg hy]⟩)
end
section
/-! what bodies ran: the answers and the signs -/
def wkA (k v i : Nat) (x : Int32) : Int32 × List Nat := if k = 2 ∨ k = 5 then (x * nI 3 + nI i, [30, 10]) else if k = 4 then (-(x + nI i), [50, 10]) else if k = 6 then ((x + nI i) ^^^ nI v, [71, 10]) else (x + nI i, [10])
def hmA (k v i : Nat) (x : Int32) : Int32 × List Nat := ((wkA k v i x).1 - nI v, 11 :: (wkA k v i x).2)
def lmA (k v i : Nat) (x : Int32) : Int32 × List Nat := ((hmA k v i x).1 ^^^ nI 6, 20 :: (hmA k v i x).2)
def mdA (k v i : Nat) (x : Int32) : Int32 × List Nat := if k = 1 then lmA k v i x else if k = 4 then ((lmA k v i (x + nI 1)).1, 51 :: (lmA k v i (x + nI 1)).2) else if k = 6 then ((hmA k v i x).1 + (nI 2 + nI i), 70 :: ((hmA k v i x).2 ++ [10])) else hmA k v i x
def htA (k v i : Nat) (x : Int32) : Int32 × List Nat := ((mdA k v i x).1 * nI 2, 12 :: (mdA k v i x).2)
def tlA (k v i : Nat) (x : Int32) : Int32 × List Nat := if k = 3 ∨ k = 6 then ((htA k v i x).1 + (mdA k v i (nI 1)).1, 40 :: ((htA k v i x).2 ++ (mdA k v i (nI 1)).2)) else if k = 5 then ((htA k v i (x - nI i)).1, 60 :: (htA k v i (x - nI i)).2) else htA k v i x
theorem wkA_len (k v i : Nat) (x : Int32) : (wkA k v i x).2.length ≤ 2 := by
  unfold wkA
  split
  · exact Nat.le_refl 2
  · split
    · exact Nat.le_refl 2
    · split
      · exact Nat.le_refl 2
      · exact Nat.le_succ 1
theorem mdA_len (k v i : Nat) (x : Int32) : (mdA k v i x).2.length ≤ 5 := by
  have h1 := wkA_len k v i x
  have h2 := wkA_len k v i (x + nI 1)
  unfold mdA lmA hmA
  split
  · simp only [List.length_cons]; omega
  · split
    · simp only [List.length_cons]; omega
    · split
      · simp only [List.length_cons, List.length_append, List.length_nil]; omega
      · simp only [List.length_cons]; omega
theorem tlA_len (k v i : Nat) (x : Int32) : (tlA k v i x).2.length ≤ 12 := by
  have h1 := mdA_len k v i x
  have h2 := mdA_len k v i (x - nI i)
  have h3 := mdA_len k v i (nI 1)
  unfold tlA htA
  split
  · simp only [List.length_cons, List.length_append]; omega
  · split <;> simp only [List.length_cons] <;> omega
def mTr (t : List Nat) (I : Nat → Nat → Int32) : Prop := I 100 64 = nI t.length ∧ t.length ≤ 20 ∧ ∀ k, k < t.length → I 166 k = nI (t.getD k 0)
abbrev frT (I I' : Nat → Nat → Int32) : Prop := frX [166] [64] I I'
theorem mG_T {g : Gv} {I I1 : Nat → Nat → Int32} (hG : mG g I) (h : frT I I1) : mG g I1 := by
  obtain ⟨a1, a2, a3, a4⟩ := hG
  unfold mG
  rw [h.2 0 (by decide), h.2 1 (by decide), h.2 2 (by decide), h.1 104 (by decide) (by decide), h.1 105 (by decide) (by decide), h.1 106 (by decide) (by decide), h.1 107 (by decide) (by decide), h.1 108 (by decide) (by decide)]
  exact ⟨a1, a2, a3, a4⟩
theorem c_M_body (E : zE) (K N : Nat → Nat) (Rf : Nat → Nat → Option Nat) (I : Nat → Nat → Int32) (L : Nat → Nat → Int64) {t : List Nat} (ht : mTr t I) (hl : t.length < 20) (b : Nat) : zCt E mX12_body 0 0 0 (sg K N Rf I L) [.ref 100, .int (nI b)] (fun r σ' => ∃ I', σ' = sg K N Rf I' L ∧ r = none ∧ mTr (t ++ [b]) I' ∧ frT I I') := by
  obtain ⟨t1, t2, t3⟩ := ht
  have cn : (nI t.length).toNatClampNeg = t.length := cl (by omega)
  refine z_intro (by decide) (Nat.le_of_ble_eq_true rfl) (fun X hX => ?_)
  refine bk hX lkX12_ok (pc' := 6) [.aload_n 0, .getfield 205, .bipush 20] (by decide +kernel) (And.intro trivial ?_)
  rw [t1]
  refine ic_ge hX (13) 19 (by decide +kernel) (by decide) (fun c => absurd c (nI_ge (a := t.length) (b := 20) (by omega) (by decide))) (fun c_6 => ?_)
  refine bk hX lkX12_ok (pc' := 29) [.aload_n 0, .getfield 208, .aload_n 0, .getfield 205, .iload_n 1, .iastore, .aload_n 0, .dup, .getfield 205, .iconst 1, .iadd, .putfield 205] (by decide +kernel) (And.intro (by rw [t1]; exact vin 20 (by omega)) (And.intro trivial ?_))
  exact z_vret hX (by decide +kernel) rfl (by decide) (by decide) (by
  refine ⟨_, rfl, rfl, ⟨by simp [up2_v, t1, nI_add], by rw [List.length_append, List.length_singleton]; omega, fun j hj => ?_⟩, frX_tr (frX_at (by decide) (by decide)) (frX_f (by decide))⟩
  rw [List.length_append, List.length_singleton] at hj
  by_cases h : j = t.length
  · subst h
    simp [up2_v, t1, cn]
  · have := t3 j (by omega)
    simp [up2_v, t1, cn, h, this, List.getElem?_append_left (show j < t.length by omega)])
theorem c_M_handWorks (E : zE) (K N : Nat → Nat) (Rf : Nat → Nat → Option Nat) (I : Nat → Nat → Int32) (L : Nat → Nat → Int64) {t : List Nat} (ht : mTr t I) (hl : t.length < 20) (i x : Int32) : zCt E mX12_handWorks 1 0 0 (sg K N Rf I L) [.ref 100, .int i, .int x] (fun r σ' => ∃ I', σ' = sg K N Rf I' L ∧ r = some (.int (x + i)) ∧ mTr (t ++ [10]) I' ∧ frT I I') := by
  refine z_intro (by decide) (Nat.le_of_ble_eq_true rfl) (fun X hX => ?_)
  refine bk hX lkX12_ok (pc' := 3) [.aload_n 0, .bipush 10] (by decide +kernel) (And.intro trivial ?_)
  refine z_callV hX kw_X12_391 (c_M_body E K N Rf I L ht (by omega) 10) rfl rfl rfl rfl rfl (by decide +kernel) (by decide) (by decide) (by decide) (by decide) (Nat.le_of_ble_eq_true rfl) ?_
  rintro _ _ ⟨a1, rfl, rfl, a2, a3⟩
  refine bk hX lkX12_ok (pc' := 9) [.iload_n 2, .iload_n 1, .iadd] (by decide +kernel) (And.intro trivial ?_)
  exact z_iret hX (by decide +kernel) rfl (rfl) (by decide) (by decide) (⟨a1, rfl, rfl, a2, a3⟩)
set_option maxHeartbeats 1000000 in
theorem c_M_worksAct (E : zE) (K N : Nat → Nat) (Rf : Nat → Nat → Option Nat) (I : Nat → Nat → Int32) (L : Nat → Nat → Int64) {g : Gv} (hg : gwf g) (hG : mG g I) {i : Nat} (hi : i < gn g) {t : List Nat} (ht : mTr t I) (hl : t.length ≤ 18) (x : Int32) : zCt E mX12_worksAct 2 0 0 (sg K N Rf I L) [.ref 100, .int (nI i), .int x] (fun r σ' => ∃ I', σ' = sg K N Rf I' L ∧ r = some (.int (wkA (gk g i) (gv g i) i x).1) ∧ mTr (t ++ (wkA (gk g i) (gv g i) i x).2) I' ∧ frT I I') := by
  have h6 := hg.1
  have hk6 := (hg.2.1 i hi).1
  have ci : (nI i).toNatClampNeg = i := cl (by omega)
  refine z_intro (by decide) (Nat.le_of_ble_eq_true rfl) (fun X hX => ?_)
  refine bk hX lkX12_ok (pc' := 6) [.aload_n 0, .getfield 19, .iload_n 1, .iaload] (by decide +kernel) (And.intro (by exact vin 6 (by omega)) (And.intro trivial ?_))
  rw [ci, show I (101 + 3) i = nI (gk g i) from (hG.2.2.2 i hi).1]
  have hk7 : gk g i = 0 ∨ gk g i = 1 ∨ gk g i = 2 ∨ gk g i = 3 ∨ gk g i = 4 ∨ gk g i = 5 ∨ gk g i = 6 := by omega
  rcases hk7 with e | e | e | e | e | e | e
  · rw [e]
    refine z_tsw hX 89 (dflt := 83) (lo := 2) (hi := 6) (offs := #[34, 83, 49, 34, 63]) (len := 34) (off := 83) (by decide +kernel) (by decide) (by decide) ?_
    refine bk hX lkX12_ok (pc' := 92) [.aload_n 0, .iload_n 1, .iload_n 2] (by decide +kernel) (And.intro trivial ?_)
    refine z_callV hX kw_X12_394 (c_M_handWorks E K N Rf I L ht (by first | omega | (simp only [List.length_append, List.length_cons, List.length_nil]; omega)) (nI i) _) rfl rfl rfl rfl rfl (by decide +kernel) (by decide) (by decide) (by decide) (by decide) (Nat.le_of_ble_eq_true rfl) ?_
    rintro _ _ ⟨b1, rfl, rfl, b2, b3⟩
    exact z_iret hX (by decide +kernel) rfl (rfl) (by decide) (by decide) (by first
  | exact ⟨b1, rfl, by simp [wkA, e], by simpa [wkA, e] using b2, frX_tr a3 b3⟩
  | exact ⟨b1, rfl, by simp [wkA, e], by simpa [wkA, e] using b2, b3⟩)
  · rw [e]
    refine z_tsw hX 89 (dflt := 83) (lo := 2) (hi := 6) (offs := #[34, 83, 49, 34, 63]) (len := 34) (off := 83) (by decide +kernel) (by decide) (by decide) ?_
    refine bk hX lkX12_ok (pc' := 92) [.aload_n 0, .iload_n 1, .iload_n 2] (by decide +kernel) (And.intro trivial ?_)
    refine z_callV hX kw_X12_394 (c_M_handWorks E K N Rf I L ht (by first | omega | (simp only [List.length_append, List.length_cons, List.length_nil]; omega)) (nI i) _) rfl rfl rfl rfl rfl (by decide +kernel) (by decide) (by decide) (by decide) (by decide) (Nat.le_of_ble_eq_true rfl) ?_
    rintro _ _ ⟨b1, rfl, rfl, b2, b3⟩
    exact z_iret hX (by decide +kernel) rfl (rfl) (by decide) (by decide) (by first
  | exact ⟨b1, rfl, by simp [wkA, e], by simpa [wkA, e] using b2, frX_tr a3 b3⟩
  | exact ⟨b1, rfl, by simp [wkA, e], by simpa [wkA, e] using b2, b3⟩)
  · rw [e]
    refine z_tsw hX 40 (dflt := 83) (lo := 2) (hi := 6) (offs := #[34, 83, 49, 34, 63]) (len := 34) (off := 34) (by decide +kernel) (by decide) (by decide) ?_
    refine bk hX lkX12_ok (pc' := 43) [.aload_n 0, .bipush 30] (by decide +kernel) (And.intro trivial ?_)
    refine z_callV hX kw_X12_391 (c_M_body E K N Rf I L ht (by omega) 30) rfl rfl rfl rfl rfl (by decide +kernel) (by decide) (by decide) (by decide) (by decide) (Nat.le_of_ble_eq_true rfl) ?_
    rintro _ _ ⟨a1, rfl, rfl, a2, a3⟩
    refine bk hX lkX12_ok (pc' := 51) [.aload_n 0, .iload_n 1, .iload_n 2, .iconst 3, .imul] (by decide +kernel) (And.intro trivial ?_)
    refine z_callV hX kw_X12_394 (c_M_handWorks E K N Rf a1 L a2 (by first | omega | (simp only [List.length_append, List.length_cons, List.length_nil]; omega)) (nI i) _) rfl rfl rfl rfl rfl (by decide +kernel) (by decide) (by decide) (by decide) (by decide) (Nat.le_of_ble_eq_true rfl) ?_
    rintro _ _ ⟨b1, rfl, rfl, b2, b3⟩
    exact z_iret hX (by decide +kernel) rfl (rfl) (by decide) (by decide) (by first
  | exact ⟨b1, rfl, by simp [wkA, e], by simpa [wkA, e] using b2, frX_tr a3 b3⟩
  | exact ⟨b1, rfl, by simp [wkA, e], by simpa [wkA, e] using b2, b3⟩)
  · rw [e]
    refine z_tsw hX 89 (dflt := 83) (lo := 2) (hi := 6) (offs := #[34, 83, 49, 34, 63]) (len := 34) (off := 83) (by decide +kernel) (by decide) (by decide) ?_
    refine bk hX lkX12_ok (pc' := 92) [.aload_n 0, .iload_n 1, .iload_n 2] (by decide +kernel) (And.intro trivial ?_)
    refine z_callV hX kw_X12_394 (c_M_handWorks E K N Rf I L ht (by first | omega | (simp only [List.length_append, List.length_cons, List.length_nil]; omega)) (nI i) _) rfl rfl rfl rfl rfl (by decide +kernel) (by decide) (by decide) (by decide) (by decide) (Nat.le_of_ble_eq_true rfl) ?_
    rintro _ _ ⟨b1, rfl, rfl, b2, b3⟩
    exact z_iret hX (by decide +kernel) rfl (rfl) (by decide) (by decide) (by first
  | exact ⟨b1, rfl, by simp [wkA, e], by simpa [wkA, e] using b2, frX_tr a3 b3⟩
  | exact ⟨b1, rfl, by simp [wkA, e], by simpa [wkA, e] using b2, b3⟩)
  · rw [e]
    refine z_tsw hX 55 (dflt := 83) (lo := 2) (hi := 6) (offs := #[34, 83, 49, 34, 63]) (len := 34) (off := 49) (by decide +kernel) (by decide) (by decide) ?_
    refine bk hX lkX12_ok (pc' := 58) [.aload_n 0, .bipush 50] (by decide +kernel) (And.intro trivial ?_)
    refine z_callV hX kw_X12_391 (c_M_body E K N Rf I L ht (by omega) 50) rfl rfl rfl rfl rfl (by decide +kernel) (by decide) (by decide) (by decide) (by decide) (Nat.le_of_ble_eq_true rfl) ?_
    rintro _ _ ⟨a1, rfl, rfl, a2, a3⟩
    refine bk hX lkX12_ok (pc' := 64) [.aload_n 0, .iload_n 1, .iload_n 2] (by decide +kernel) (And.intro trivial ?_)
    refine z_callV hX kw_X12_394 (c_M_handWorks E K N Rf a1 L a2 (by first | omega | (simp only [List.length_append, List.length_cons, List.length_nil]; omega)) (nI i) _) rfl rfl rfl rfl rfl (by decide +kernel) (by decide) (by decide) (by decide) (by decide) (Nat.le_of_ble_eq_true rfl) ?_
    rintro _ _ ⟨b1, rfl, rfl, b2, b3⟩
    refine bk hX lkX12_ok (pc' := 68) [.ineg] (by decide +kernel) (And.intro trivial ?_)
    exact z_iret hX (by decide +kernel) rfl (rfl) (by decide) (by decide) (by first
  | exact ⟨b1, rfl, by simp [wkA, e], by simpa [wkA, e] using b2, frX_tr a3 b3⟩
  | exact ⟨b1, rfl, by simp [wkA, e], by simpa [wkA, e] using b2, b3⟩)
  · rw [e]
    refine z_tsw hX 40 (dflt := 83) (lo := 2) (hi := 6) (offs := #[34, 83, 49, 34, 63]) (len := 34) (off := 34) (by decide +kernel) (by decide) (by decide) ?_
    refine bk hX lkX12_ok (pc' := 43) [.aload_n 0, .bipush 30] (by decide +kernel) (And.intro trivial ?_)
    refine z_callV hX kw_X12_391 (c_M_body E K N Rf I L ht (by omega) 30) rfl rfl rfl rfl rfl (by decide +kernel) (by decide) (by decide) (by decide) (by decide) (Nat.le_of_ble_eq_true rfl) ?_
    rintro _ _ ⟨a1, rfl, rfl, a2, a3⟩
    refine bk hX lkX12_ok (pc' := 51) [.aload_n 0, .iload_n 1, .iload_n 2, .iconst 3, .imul] (by decide +kernel) (And.intro trivial ?_)
    refine z_callV hX kw_X12_394 (c_M_handWorks E K N Rf a1 L a2 (by first | omega | (simp only [List.length_append, List.length_cons, List.length_nil]; omega)) (nI i) _) rfl rfl rfl rfl rfl (by decide +kernel) (by decide) (by decide) (by decide) (by decide) (Nat.le_of_ble_eq_true rfl) ?_
    rintro _ _ ⟨b1, rfl, rfl, b2, b3⟩
    exact z_iret hX (by decide +kernel) rfl (rfl) (by decide) (by decide) (by first
  | exact ⟨b1, rfl, by simp [wkA, e], by simpa [wkA, e] using b2, frX_tr a3 b3⟩
  | exact ⟨b1, rfl, by simp [wkA, e], by simpa [wkA, e] using b2, b3⟩)
  · rw [e]
    refine z_tsw hX 69 (dflt := 83) (lo := 2) (hi := 6) (offs := #[34, 83, 49, 34, 63]) (len := 34) (off := 63) (by decide +kernel) (by decide) (by decide) ?_
    refine bk hX lkX12_ok (pc' := 72) [.aload_n 0, .bipush 71] (by decide +kernel) (And.intro trivial ?_)
    refine z_callV hX kw_X12_391 (c_M_body E K N Rf I L ht (by omega) 71) rfl rfl rfl rfl rfl (by decide +kernel) (by decide) (by decide) (by decide) (by decide) (Nat.le_of_ble_eq_true rfl) ?_
    rintro _ _ ⟨a1, rfl, rfl, a2, a3⟩
    refine bk hX lkX12_ok (pc' := 78) [.aload_n 0, .iload_n 1, .iload_n 2] (by decide +kernel) (And.intro trivial ?_)
    refine z_callV hX kw_X12_394 (c_M_handWorks E K N Rf a1 L a2 (by first | omega | (simp only [List.length_append, List.length_cons, List.length_nil]; omega)) (nI i) _) rfl rfl rfl rfl rfl (by decide +kernel) (by decide) (by decide) (by decide) (by decide) (Nat.le_of_ble_eq_true rfl) ?_
    rintro _ _ ⟨b1, rfl, rfl, b2, b3⟩
    refine bk hX lkX12_ok (pc' := 87) [.aload_n 0, .getfield 23, .iload_n 1, .iaload] (by decide +kernel) (And.intro (by exact vin 6 (by omega)) (And.intro trivial ?_))
    rw [ci, show b1 (101 + 4) i = nI (gv g i) from ((mG_T hG (frX_tr a3 b3)).2.2.2 i hi).2.1]
    refine bk hX lkX12_ok (pc' := 88) [.ixor] (by decide +kernel) (And.intro trivial ?_)
    exact z_iret hX (by decide +kernel) rfl (rfl) (by decide) (by decide) (by first
  | exact ⟨b1, rfl, by simp [wkA, e], by simpa [wkA, e] using b2, frX_tr a3 b3⟩
  | exact ⟨b1, rfl, by simp [wkA, e], by simpa [wkA, e] using b2, b3⟩)
theorem c_M_handMinds (E : zE) (K N : Nat → Nat) (Rf : Nat → Nat → Option Nat) (I : Nat → Nat → Int32) (L : Nat → Nat → Int64) {g : Gv} (hg : gwf g) (hG : mG g I) {i : Nat} (hi : i < gn g) {t : List Nat} (ht : mTr t I) (hl : t.length ≤ 17) (x : Int32) : zCt E mX12_handMinds 3 0 0 (sg K N Rf I L) [.ref 100, .int (nI i), .int x] (fun r σ' => ∃ I', σ' = sg K N Rf I' L ∧ r = some (.int (hmA (gk g i) (gv g i) i x).1) ∧ mTr (t ++ (hmA (gk g i) (gv g i) i x).2) I' ∧ frT I I') := by
  have h6 := hg.1
  have hk6 := (hg.2.1 i hi).1
  have ci : (nI i).toNatClampNeg = i := cl (by omega)
  refine z_intro (by decide) (Nat.le_of_ble_eq_true rfl) (fun X hX => ?_)
  refine bk hX lkX12_ok (pc' := 3) [.aload_n 0, .bipush 11] (by decide +kernel) (And.intro trivial ?_)
  refine z_callV hX kw_X12_391 (c_M_body E K N Rf I L ht (by omega) 11) rfl rfl rfl rfl rfl (by decide +kernel) (by decide) (by decide) (by decide) (by decide) (Nat.le_of_ble_eq_true rfl) ?_
  rintro _ _ ⟨a1, rfl, rfl, a2, a3⟩
  refine bk hX lkX12_ok (pc' := 9) [.aload_n 0, .iload_n 1, .iload_n 2] (by decide +kernel) (And.intro trivial ?_)
  refine z_callV hX kw_X12_397 (c_M_worksAct E K N Rf a1 L hg (mG_T hG a3) hi a2 (by first | omega | (simp only [List.length_append, List.length_cons, List.length_nil]; omega)) _) rfl rfl rfl rfl rfl (by decide +kernel) (by decide) (by decide) (by decide) (by decide) (Nat.le_of_ble_eq_true rfl) ?_
  rintro _ _ ⟨b1, rfl, rfl, b2, b3⟩
  refine bk hX lkX12_ok (pc' := 18) [.aload_n 0, .getfield 23, .iload_n 1, .iaload] (by decide +kernel) (And.intro (by exact vin 6 (by omega)) (And.intro trivial ?_))
  rw [ci, show b1 (101 + 4) i = nI (gv g i) from ((mG_T hG (frX_tr a3 b3)).2.2.2 i hi).2.1]
  refine bk hX lkX12_ok (pc' := 19) [.isub] (by decide +kernel) (And.intro trivial ?_)
  exact z_iret hX (by decide +kernel) rfl (rfl) (by decide) (by decide) (⟨b1, rfl, by simp [hmA], by simpa [hmA] using b2, frX_tr a3 b3⟩)
theorem c_M_lateMinds (E : zE) (K N : Nat → Nat) (Rf : Nat → Nat → Option Nat) (I : Nat → Nat → Int32) (L : Nat → Nat → Int64) {g : Gv} (hg : gwf g) (hG : mG g I) {i : Nat} (hi : i < gn g) {t : List Nat} (ht : mTr t I) (hl : t.length ≤ 16) (x : Int32) : zCt E mX12_lateMinds 4 0 0 (sg K N Rf I L) [.ref 100, .int (nI i), .int x] (fun r σ' => ∃ I', σ' = sg K N Rf I' L ∧ r = some (.int (lmA (gk g i) (gv g i) i x).1) ∧ mTr (t ++ (lmA (gk g i) (gv g i) i x).2) I' ∧ frT I I') := by
  have h6 := hg.1
  have hk6 := (hg.2.1 i hi).1
  have ci : (nI i).toNatClampNeg = i := cl (by omega)
  refine z_intro (by decide) (Nat.le_of_ble_eq_true rfl) (fun X hX => ?_)
  refine bk hX lkX12_ok (pc' := 3) [.aload_n 0, .bipush 20] (by decide +kernel) (And.intro trivial ?_)
  refine z_callV hX kw_X12_391 (c_M_body E K N Rf I L ht (by omega) 20) rfl rfl rfl rfl rfl (by decide +kernel) (by decide) (by decide) (by decide) (by decide) (Nat.le_of_ble_eq_true rfl) ?_
  rintro _ _ ⟨a1, rfl, rfl, a2, a3⟩
  refine bk hX lkX12_ok (pc' := 9) [.aload_n 0, .iload_n 1, .iload_n 2] (by decide +kernel) (And.intro trivial ?_)
  refine z_callV hX kw_X12_400 (c_M_handMinds E K N Rf a1 L hg (mG_T hG a3) hi a2 (by first | omega | (simp only [List.length_append, List.length_cons, List.length_nil]; omega)) _) rfl rfl rfl rfl rfl (by decide +kernel) (by decide) (by decide) (by decide) (by decide) (Nat.le_of_ble_eq_true rfl) ?_
  rintro _ _ ⟨b1, rfl, rfl, b2, b3⟩
  refine bk hX lkX12_ok (pc' := 15) [.bipush 6, .ixor] (by decide +kernel) (And.intro trivial ?_)
  exact z_iret hX (by decide +kernel) rfl (rfl) (by decide) (by decide) (⟨b1, rfl, by simp [lmA], by simpa [lmA] using b2, frX_tr a3 b3⟩)
set_option maxHeartbeats 1000000 in
theorem c_M_mindsAct (E : zE) (K N : Nat → Nat) (Rf : Nat → Nat → Option Nat) (I : Nat → Nat → Int32) (L : Nat → Nat → Int64) {g : Gv} (hg : gwf g) (hG : mG g I) {i : Nat} (hi : i < gn g) {t : List Nat} (ht : mTr t I) (hl : t.length ≤ 15) (x : Int32) : zCt E mX12_mindsAct 5 0 0 (sg K N Rf I L) [.ref 100, .int (nI i), .int x] (fun r σ' => ∃ I', σ' = sg K N Rf I' L ∧ r = some (.int (mdA (gk g i) (gv g i) i x).1) ∧ mTr (t ++ (mdA (gk g i) (gv g i) i x).2) I' ∧ frT I I') := by
  have h6 := hg.1
  have hk6 := (hg.2.1 i hi).1
  have ci : (nI i).toNatClampNeg = i := cl (by omega)
  refine z_intro (by decide) (Nat.le_of_ble_eq_true rfl) (fun X hX => ?_)
  refine bk hX lkX12_ok (pc' := 6) [.aload_n 0, .getfield 19, .iload_n 1, .iaload] (by decide +kernel) (And.intro (by exact vin 6 (by omega)) (And.intro trivial ?_))
  rw [ci, show I (101 + 3) i = nI (gk g i) from (hG.2.2.2 i hi).1]
  have hk7 : gk g i = 0 ∨ gk g i = 1 ∨ gk g i = 2 ∨ gk g i = 3 ∨ gk g i = 4 ∨ gk g i = 5 ∨ gk g i = 6 := by omega
  rcases hk7 with e | e | e | e | e | e | e
  · rw [e]
    refine z_lsw hX 84 (dflt := 78) (ps := #[(1, 34), (4, 41), (6, 56)]) (len := 34) (off := 78) (by decide +kernel) (by decide) (by decide) (by decide) ?_
    refine bk hX lkX12_ok (pc' := 87) [.aload_n 0, .iload_n 1, .iload_n 2] (by decide +kernel) (And.intro trivial ?_)
    refine z_callV hX kw_X12_400 (c_M_handMinds E K N Rf I L hg (hG) hi ht (by first | omega | (simp only [List.length_append, List.length_cons, List.length_nil]; omega)) _) rfl rfl rfl rfl rfl (by decide +kernel) (by decide) (by decide) (by decide) (by decide) (Nat.le_of_ble_eq_true rfl) ?_
    rintro _ _ ⟨b1, rfl, rfl, b2, b3⟩
    exact z_iret hX (by decide +kernel) rfl (rfl) (by decide) (by decide) (by first
  | exact ⟨b1, rfl, by simp [mdA, e], by simpa [mdA, e] using b2, b3⟩
  | exact ⟨b1, rfl, by simp [mdA, e], by simpa [mdA, e] using b2, frX_tr a3 b3⟩
  | exact ⟨b1, rfl, by simp [mdA, e], by simpa [mdA, e] using b2, frX_tr (frX_tr a3 d3) b3⟩)
  · rw [e]
    refine z_lsw hX 40 (dflt := 78) (ps := #[(1, 34), (4, 41), (6, 56)]) (len := 34) (off := 34) (by decide +kernel) (by decide) (by decide) (by decide) ?_
    refine bk hX lkX12_ok (pc' := 43) [.aload_n 0, .iload_n 1, .iload_n 2] (by decide +kernel) (And.intro trivial ?_)
    refine z_callV hX kw_X12_403 (c_M_lateMinds E K N Rf I L hg (hG) hi ht (by first | omega | (simp only [List.length_append, List.length_cons, List.length_nil]; omega)) _) rfl rfl rfl rfl rfl (by decide +kernel) (by decide) (by decide) (by decide) (by decide) (Nat.le_of_ble_eq_true rfl) ?_
    rintro _ _ ⟨b1, rfl, rfl, b2, b3⟩
    exact z_iret hX (by decide +kernel) rfl (rfl) (by decide) (by decide) (by first
  | exact ⟨b1, rfl, by simp [mdA, e], by simpa [mdA, e] using b2, b3⟩
  | exact ⟨b1, rfl, by simp [mdA, e], by simpa [mdA, e] using b2, frX_tr a3 b3⟩
  | exact ⟨b1, rfl, by simp [mdA, e], by simpa [mdA, e] using b2, frX_tr (frX_tr a3 d3) b3⟩)
  · rw [e]
    refine z_lsw hX 84 (dflt := 78) (ps := #[(1, 34), (4, 41), (6, 56)]) (len := 34) (off := 78) (by decide +kernel) (by decide) (by decide) (by decide) ?_
    refine bk hX lkX12_ok (pc' := 87) [.aload_n 0, .iload_n 1, .iload_n 2] (by decide +kernel) (And.intro trivial ?_)
    refine z_callV hX kw_X12_400 (c_M_handMinds E K N Rf I L hg (hG) hi ht (by first | omega | (simp only [List.length_append, List.length_cons, List.length_nil]; omega)) _) rfl rfl rfl rfl rfl (by decide +kernel) (by decide) (by decide) (by decide) (by decide) (Nat.le_of_ble_eq_true rfl) ?_
    rintro _ _ ⟨b1, rfl, rfl, b2, b3⟩
    exact z_iret hX (by decide +kernel) rfl (rfl) (by decide) (by decide) (by first
  | exact ⟨b1, rfl, by simp [mdA, e], by simpa [mdA, e] using b2, b3⟩
  | exact ⟨b1, rfl, by simp [mdA, e], by simpa [mdA, e] using b2, frX_tr a3 b3⟩
  | exact ⟨b1, rfl, by simp [mdA, e], by simpa [mdA, e] using b2, frX_tr (frX_tr a3 d3) b3⟩)
  · rw [e]
    refine z_lsw hX 84 (dflt := 78) (ps := #[(1, 34), (4, 41), (6, 56)]) (len := 34) (off := 78) (by decide +kernel) (by decide) (by decide) (by decide) ?_
    refine bk hX lkX12_ok (pc' := 87) [.aload_n 0, .iload_n 1, .iload_n 2] (by decide +kernel) (And.intro trivial ?_)
    refine z_callV hX kw_X12_400 (c_M_handMinds E K N Rf I L hg (hG) hi ht (by first | omega | (simp only [List.length_append, List.length_cons, List.length_nil]; omega)) _) rfl rfl rfl rfl rfl (by decide +kernel) (by decide) (by decide) (by decide) (by decide) (Nat.le_of_ble_eq_true rfl) ?_
    rintro _ _ ⟨b1, rfl, rfl, b2, b3⟩
    exact z_iret hX (by decide +kernel) rfl (rfl) (by decide) (by decide) (by first
  | exact ⟨b1, rfl, by simp [mdA, e], by simpa [mdA, e] using b2, b3⟩
  | exact ⟨b1, rfl, by simp [mdA, e], by simpa [mdA, e] using b2, frX_tr a3 b3⟩
  | exact ⟨b1, rfl, by simp [mdA, e], by simpa [mdA, e] using b2, frX_tr (frX_tr a3 d3) b3⟩)
  · rw [e]
    refine z_lsw hX 47 (dflt := 78) (ps := #[(1, 34), (4, 41), (6, 56)]) (len := 34) (off := 41) (by decide +kernel) (by decide) (by decide) (by decide) ?_
    refine bk hX lkX12_ok (pc' := 50) [.aload_n 0, .bipush 51] (by decide +kernel) (And.intro trivial ?_)
    refine z_callV hX kw_X12_391 (c_M_body E K N Rf I L ht (by omega) 51) rfl rfl rfl rfl rfl (by decide +kernel) (by decide) (by decide) (by decide) (by decide) (Nat.le_of_ble_eq_true rfl) ?_
    rintro _ _ ⟨a1, rfl, rfl, a2, a3⟩
    refine bk hX lkX12_ok (pc' := 58) [.aload_n 0, .iload_n 1, .iload_n 2, .iconst 1, .iadd] (by decide +kernel) (And.intro trivial ?_)
    refine z_callV hX kw_X12_403 (c_M_lateMinds E K N Rf a1 L hg (mG_T hG a3) hi a2 (by first | omega | (simp only [List.length_append, List.length_cons, List.length_nil]; omega)) _) rfl rfl rfl rfl rfl (by decide +kernel) (by decide) (by decide) (by decide) (by decide) (Nat.le_of_ble_eq_true rfl) ?_
    rintro _ _ ⟨b1, rfl, rfl, b2, b3⟩
    exact z_iret hX (by decide +kernel) rfl (rfl) (by decide) (by decide) (by first
  | exact ⟨b1, rfl, by simp [mdA, e], by simpa [mdA, e] using b2, b3⟩
  | exact ⟨b1, rfl, by simp [mdA, e], by simpa [mdA, e] using b2, frX_tr a3 b3⟩
  | exact ⟨b1, rfl, by simp [mdA, e], by simpa [mdA, e] using b2, frX_tr (frX_tr a3 d3) b3⟩)
  · rw [e]
    refine z_lsw hX 84 (dflt := 78) (ps := #[(1, 34), (4, 41), (6, 56)]) (len := 34) (off := 78) (by decide +kernel) (by decide) (by decide) (by decide) ?_
    refine bk hX lkX12_ok (pc' := 87) [.aload_n 0, .iload_n 1, .iload_n 2] (by decide +kernel) (And.intro trivial ?_)
    refine z_callV hX kw_X12_400 (c_M_handMinds E K N Rf I L hg (hG) hi ht (by first | omega | (simp only [List.length_append, List.length_cons, List.length_nil]; omega)) _) rfl rfl rfl rfl rfl (by decide +kernel) (by decide) (by decide) (by decide) (by decide) (Nat.le_of_ble_eq_true rfl) ?_
    rintro _ _ ⟨b1, rfl, rfl, b2, b3⟩
    exact z_iret hX (by decide +kernel) rfl (rfl) (by decide) (by decide) (by first
  | exact ⟨b1, rfl, by simp [mdA, e], by simpa [mdA, e] using b2, b3⟩
  | exact ⟨b1, rfl, by simp [mdA, e], by simpa [mdA, e] using b2, frX_tr a3 b3⟩
  | exact ⟨b1, rfl, by simp [mdA, e], by simpa [mdA, e] using b2, frX_tr (frX_tr a3 d3) b3⟩)
  · rw [e]
    refine z_lsw hX 62 (dflt := 78) (ps := #[(1, 34), (4, 41), (6, 56)]) (len := 34) (off := 56) (by decide +kernel) (by decide) (by decide) (by decide) ?_
    refine bk hX lkX12_ok (pc' := 65) [.aload_n 0, .bipush 70] (by decide +kernel) (And.intro trivial ?_)
    refine z_callV hX kw_X12_391 (c_M_body E K N Rf I L ht (by omega) 70) rfl rfl rfl rfl rfl (by decide +kernel) (by decide) (by decide) (by decide) (by decide) (Nat.le_of_ble_eq_true rfl) ?_
    rintro _ _ ⟨a1, rfl, rfl, a2, a3⟩
    refine bk hX lkX12_ok (pc' := 71) [.aload_n 0, .iload_n 1, .iload_n 2] (by decide +kernel) (And.intro trivial ?_)
    refine z_callV hX kw_X12_400 (c_M_handMinds E K N Rf a1 L hg (mG_T hG a3) hi a2 (by first | omega | (simp only [List.length_append, List.length_cons, List.length_nil]; omega)) _) rfl rfl rfl rfl rfl (by decide +kernel) (by decide) (by decide) (by decide) (by decide) (Nat.le_of_ble_eq_true rfl) ?_
    rintro _ _ ⟨d1, rfl, rfl, d2, d3⟩
    refine bk hX lkX12_ok (pc' := 79) [.istore_n 3, .iload_n 3, .aload_n 0, .iload_n 1, .iconst 2] (by decide +kernel) (And.intro trivial ?_)
    refine z_callV hX kw_X12_394 (c_M_handWorks E K N Rf d1 L d2 (by have hwl := wkA_len (gk g i) (gv g i) i x; simp only [hmA, List.length_append, List.length_cons, List.length_nil]; omega) (nI i) _) rfl rfl rfl rfl rfl (by decide +kernel) (by decide) (by decide) (by decide) (by decide) (Nat.le_of_ble_eq_true rfl) ?_
    rintro _ _ ⟨b1, rfl, rfl, b2, b3⟩
    refine bk hX lkX12_ok (pc' := 83) [.iadd] (by decide +kernel) (And.intro trivial ?_)
    exact z_iret hX (by decide +kernel) rfl (rfl) (by decide) (by decide) (by first
  | exact ⟨b1, rfl, by simp [mdA, e], by simpa [mdA, e] using b2, b3⟩
  | exact ⟨b1, rfl, by simp [mdA, e], by simpa [mdA, e] using b2, frX_tr a3 b3⟩
  | exact ⟨b1, rfl, by simp [mdA, e], by simpa [mdA, e] using b2, frX_tr (frX_tr a3 d3) b3⟩)
theorem c_M_handTells (E : zE) (K N : Nat → Nat) (Rf : Nat → Nat → Option Nat) (I : Nat → Nat → Int32) (L : Nat → Nat → Int64) {g : Gv} (hg : gwf g) (hG : mG g I) {i : Nat} (hi : i < gn g) {t : List Nat} (ht : mTr t I) (hl : t.length ≤ 14) (x : Int32) : zCt E mX12_handTells 6 0 0 (sg K N Rf I L) [.ref 100, .int (nI i), .int x] (fun r σ' => ∃ I', σ' = sg K N Rf I' L ∧ r = some (.int (htA (gk g i) (gv g i) i x).1) ∧ mTr (t ++ (htA (gk g i) (gv g i) i x).2) I' ∧ frT I I') := by
  have h6 := hg.1
  have hk6 := (hg.2.1 i hi).1
  have ci : (nI i).toNatClampNeg = i := cl (by omega)
  refine z_intro (by decide) (Nat.le_of_ble_eq_true rfl) (fun X hX => ?_)
  refine bk hX lkX12_ok (pc' := 3) [.aload_n 0, .bipush 12] (by decide +kernel) (And.intro trivial ?_)
  refine z_callV hX kw_X12_391 (c_M_body E K N Rf I L ht (by omega) 12) rfl rfl rfl rfl rfl (by decide +kernel) (by decide) (by decide) (by decide) (by decide) (Nat.le_of_ble_eq_true rfl) ?_
  rintro _ _ ⟨a1, rfl, rfl, a2, a3⟩
  refine bk hX lkX12_ok (pc' := 9) [.aload_n 0, .iload_n 1, .iload_n 2] (by decide +kernel) (And.intro trivial ?_)
  refine z_callV hX kw_X12_406 (c_M_mindsAct E K N Rf a1 L hg (mG_T hG a3) hi a2 (by first | omega | (simp only [List.length_append, List.length_cons, List.length_nil]; omega)) _) rfl rfl rfl rfl rfl (by decide +kernel) (by decide) (by decide) (by decide) (by decide) (Nat.le_of_ble_eq_true rfl) ?_
  rintro _ _ ⟨b1, rfl, rfl, b2, b3⟩
  refine bk hX lkX12_ok (pc' := 14) [.iconst 2, .imul] (by decide +kernel) (And.intro trivial ?_)
  exact z_iret hX (by decide +kernel) rfl (rfl) (by decide) (by decide) (⟨b1, rfl, by simp [htA], by simpa [htA] using b2, frX_tr a3 b3⟩)
set_option maxHeartbeats 1000000 in
theorem c_M_tellsAct (E : zE) (K N : Nat → Nat) (Rf : Nat → Nat → Option Nat) (I : Nat → Nat → Int32) (L : Nat → Nat → Int64) {g : Gv} (hg : gwf g) (hG : mG g I) {i : Nat} (hi : i < gn g) {t : List Nat} (ht : mTr t I) (hl : t.length ≤ 8) (x : Int32) : zCt E mX12_tellsAct 7 0 0 (sg K N Rf I L) [.ref 100, .int (nI i), .int x] (fun r σ' => ∃ I', σ' = sg K N Rf I' L ∧ r = some (.int (tlA (gk g i) (gv g i) i x).1) ∧ mTr (t ++ (tlA (gk g i) (gv g i) i x).2) I' ∧ frT I I') := by
  have h6 := hg.1
  have hk6 := (hg.2.1 i hi).1
  have ci : (nI i).toNatClampNeg = i := cl (by omega)
  refine z_intro (by decide) (Nat.le_of_ble_eq_true rfl) (fun X hX => ?_)
  refine bk hX lkX12_ok (pc' := 6) [.aload_n 0, .getfield 19, .iload_n 1, .iaload] (by decide +kernel) (And.intro (by exact vin 6 (by omega)) (And.intro trivial ?_))
  rw [ci, show I (101 + 3) i = nI (gk g i) from (hG.2.2.2 i hi).1]
  have hk7 : gk g i = 0 ∨ gk g i = 1 ∨ gk g i = 2 ∨ gk g i = 3 ∨ gk g i = 4 ∨ gk g i = 5 ∨ gk g i = 6 := by omega
  rcases hk7 with e | e | e | e | e | e | e
  · rw [e]
    refine z_tsw hX 73 (dflt := 67) (lo := 3) (hi := 6) (offs := #[30, 67, 52, 30]) (len := 30) (off := 67) (by decide +kernel) (by decide) (by decide) ?_
    refine bk hX lkX12_ok (pc' := 76) [.aload_n 0, .iload_n 1, .iload_n 2] (by decide +kernel) (And.intro trivial ?_)
    refine z_callV hX kw_X12_409 (c_M_handTells E K N Rf I L hg (hG) hi ht (by first | omega | (simp only [List.length_append, List.length_cons, List.length_nil]; omega)) _) rfl rfl rfl rfl rfl (by decide +kernel) (by decide) (by decide) (by decide) (by decide) (Nat.le_of_ble_eq_true rfl) ?_
    rintro _ _ ⟨b1, rfl, rfl, b2, b3⟩
    exact z_iret hX (by decide +kernel) rfl (rfl) (by decide) (by decide) (by first
  | exact ⟨b1, rfl, by simp [tlA, e], by simpa [tlA, e] using b2, b3⟩
  | exact ⟨b1, rfl, by simp [tlA, e], by simpa [tlA, e] using b2, frX_tr a3 b3⟩
  | exact ⟨b1, rfl, by simp [tlA, e], by simpa [tlA, e] using b2, frX_tr (frX_tr a3 d3) b3⟩)
  · rw [e]
    refine z_tsw hX 73 (dflt := 67) (lo := 3) (hi := 6) (offs := #[30, 67, 52, 30]) (len := 30) (off := 67) (by decide +kernel) (by decide) (by decide) ?_
    refine bk hX lkX12_ok (pc' := 76) [.aload_n 0, .iload_n 1, .iload_n 2] (by decide +kernel) (And.intro trivial ?_)
    refine z_callV hX kw_X12_409 (c_M_handTells E K N Rf I L hg (hG) hi ht (by first | omega | (simp only [List.length_append, List.length_cons, List.length_nil]; omega)) _) rfl rfl rfl rfl rfl (by decide +kernel) (by decide) (by decide) (by decide) (by decide) (Nat.le_of_ble_eq_true rfl) ?_
    rintro _ _ ⟨b1, rfl, rfl, b2, b3⟩
    exact z_iret hX (by decide +kernel) rfl (rfl) (by decide) (by decide) (by first
  | exact ⟨b1, rfl, by simp [tlA, e], by simpa [tlA, e] using b2, b3⟩
  | exact ⟨b1, rfl, by simp [tlA, e], by simpa [tlA, e] using b2, frX_tr a3 b3⟩
  | exact ⟨b1, rfl, by simp [tlA, e], by simpa [tlA, e] using b2, frX_tr (frX_tr a3 d3) b3⟩)
  · rw [e]
    refine z_tsw hX 73 (dflt := 67) (lo := 3) (hi := 6) (offs := #[30, 67, 52, 30]) (len := 30) (off := 67) (by decide +kernel) (by decide) (by decide) ?_
    refine bk hX lkX12_ok (pc' := 76) [.aload_n 0, .iload_n 1, .iload_n 2] (by decide +kernel) (And.intro trivial ?_)
    refine z_callV hX kw_X12_409 (c_M_handTells E K N Rf I L hg (hG) hi ht (by first | omega | (simp only [List.length_append, List.length_cons, List.length_nil]; omega)) _) rfl rfl rfl rfl rfl (by decide +kernel) (by decide) (by decide) (by decide) (by decide) (Nat.le_of_ble_eq_true rfl) ?_
    rintro _ _ ⟨b1, rfl, rfl, b2, b3⟩
    exact z_iret hX (by decide +kernel) rfl (rfl) (by decide) (by decide) (by first
  | exact ⟨b1, rfl, by simp [tlA, e], by simpa [tlA, e] using b2, b3⟩
  | exact ⟨b1, rfl, by simp [tlA, e], by simpa [tlA, e] using b2, frX_tr a3 b3⟩
  | exact ⟨b1, rfl, by simp [tlA, e], by simpa [tlA, e] using b2, frX_tr (frX_tr a3 d3) b3⟩)
  · rw [e]
    refine z_tsw hX 36 (dflt := 67) (lo := 3) (hi := 6) (offs := #[30, 67, 52, 30]) (len := 30) (off := 30) (by decide +kernel) (by decide) (by decide) ?_
    refine bk hX lkX12_ok (pc' := 39) [.aload_n 0, .bipush 40] (by decide +kernel) (And.intro trivial ?_)
    refine z_callV hX kw_X12_391 (c_M_body E K N Rf I L ht (by omega) 40) rfl rfl rfl rfl rfl (by decide +kernel) (by decide) (by decide) (by decide) (by decide) (Nat.le_of_ble_eq_true rfl) ?_
    rintro _ _ ⟨a1, rfl, rfl, a2, a3⟩
    refine bk hX lkX12_ok (pc' := 45) [.aload_n 0, .iload_n 1, .iload_n 2] (by decide +kernel) (And.intro trivial ?_)
    refine z_callV hX kw_X12_409 (c_M_handTells E K N Rf a1 L hg (mG_T hG a3) hi a2 (by first | omega | (simp only [List.length_append, List.length_cons, List.length_nil]; omega)) _) rfl rfl rfl rfl rfl (by decide +kernel) (by decide) (by decide) (by decide) (by decide) (Nat.le_of_ble_eq_true rfl) ?_
    rintro _ _ ⟨d1, rfl, rfl, d2, d3⟩
    refine bk hX lkX12_ok (pc' := 53) [.istore_n 3, .iload_n 3, .aload_n 0, .iload_n 1, .iconst 1] (by decide +kernel) (And.intro trivial ?_)
    refine z_callV hX kw_X12_406 (c_M_mindsAct E K N Rf d1 L hg (mG_T hG (frX_tr a3 d3)) hi d2 (by have hml := mdA_len (gk g i) (gv g i) i x; simp only [htA, List.length_append, List.length_cons, List.length_nil]; omega) _) rfl rfl rfl rfl rfl (by decide +kernel) (by decide) (by decide) (by decide) (by decide) (Nat.le_of_ble_eq_true rfl) ?_
    rintro _ _ ⟨b1, rfl, rfl, b2, b3⟩
    refine bk hX lkX12_ok (pc' := 57) [.iadd] (by decide +kernel) (And.intro trivial ?_)
    exact z_iret hX (by decide +kernel) rfl (rfl) (by decide) (by decide) (by first
  | exact ⟨b1, rfl, by simp [tlA, e], by simpa [tlA, e] using b2, b3⟩
  | exact ⟨b1, rfl, by simp [tlA, e], by simpa [tlA, e] using b2, frX_tr a3 b3⟩
  | exact ⟨b1, rfl, by simp [tlA, e], by simpa [tlA, e] using b2, frX_tr (frX_tr a3 d3) b3⟩)
  · rw [e]
    refine z_tsw hX 73 (dflt := 67) (lo := 3) (hi := 6) (offs := #[30, 67, 52, 30]) (len := 30) (off := 67) (by decide +kernel) (by decide) (by decide) ?_
    refine bk hX lkX12_ok (pc' := 76) [.aload_n 0, .iload_n 1, .iload_n 2] (by decide +kernel) (And.intro trivial ?_)
    refine z_callV hX kw_X12_409 (c_M_handTells E K N Rf I L hg (hG) hi ht (by first | omega | (simp only [List.length_append, List.length_cons, List.length_nil]; omega)) _) rfl rfl rfl rfl rfl (by decide +kernel) (by decide) (by decide) (by decide) (by decide) (Nat.le_of_ble_eq_true rfl) ?_
    rintro _ _ ⟨b1, rfl, rfl, b2, b3⟩
    exact z_iret hX (by decide +kernel) rfl (rfl) (by decide) (by decide) (by first
  | exact ⟨b1, rfl, by simp [tlA, e], by simpa [tlA, e] using b2, b3⟩
  | exact ⟨b1, rfl, by simp [tlA, e], by simpa [tlA, e] using b2, frX_tr a3 b3⟩
  | exact ⟨b1, rfl, by simp [tlA, e], by simpa [tlA, e] using b2, frX_tr (frX_tr a3 d3) b3⟩)
  · rw [e]
    refine z_tsw hX 58 (dflt := 67) (lo := 3) (hi := 6) (offs := #[30, 67, 52, 30]) (len := 30) (off := 52) (by decide +kernel) (by decide) (by decide) ?_
    refine bk hX lkX12_ok (pc' := 61) [.aload_n 0, .bipush 60] (by decide +kernel) (And.intro trivial ?_)
    refine z_callV hX kw_X12_391 (c_M_body E K N Rf I L ht (by omega) 60) rfl rfl rfl rfl rfl (by decide +kernel) (by decide) (by decide) (by decide) (by decide) (Nat.le_of_ble_eq_true rfl) ?_
    rintro _ _ ⟨a1, rfl, rfl, a2, a3⟩
    refine bk hX lkX12_ok (pc' := 69) [.aload_n 0, .iload_n 1, .iload_n 2, .iload_n 1, .isub] (by decide +kernel) (And.intro trivial ?_)
    refine z_callV hX kw_X12_409 (c_M_handTells E K N Rf a1 L hg (mG_T hG a3) hi a2 (by first | omega | (simp only [List.length_append, List.length_cons, List.length_nil]; omega)) _) rfl rfl rfl rfl rfl (by decide +kernel) (by decide) (by decide) (by decide) (by decide) (Nat.le_of_ble_eq_true rfl) ?_
    rintro _ _ ⟨b1, rfl, rfl, b2, b3⟩
    exact z_iret hX (by decide +kernel) rfl (rfl) (by decide) (by decide) (by first
  | exact ⟨b1, rfl, by simp [tlA, e], by simpa [tlA, e] using b2, b3⟩
  | exact ⟨b1, rfl, by simp [tlA, e], by simpa [tlA, e] using b2, frX_tr a3 b3⟩
  | exact ⟨b1, rfl, by simp [tlA, e], by simpa [tlA, e] using b2, frX_tr (frX_tr a3 d3) b3⟩)
  · rw [e]
    refine z_tsw hX 36 (dflt := 67) (lo := 3) (hi := 6) (offs := #[30, 67, 52, 30]) (len := 30) (off := 30) (by decide +kernel) (by decide) (by decide) ?_
    refine bk hX lkX12_ok (pc' := 39) [.aload_n 0, .bipush 40] (by decide +kernel) (And.intro trivial ?_)
    refine z_callV hX kw_X12_391 (c_M_body E K N Rf I L ht (by omega) 40) rfl rfl rfl rfl rfl (by decide +kernel) (by decide) (by decide) (by decide) (by decide) (Nat.le_of_ble_eq_true rfl) ?_
    rintro _ _ ⟨a1, rfl, rfl, a2, a3⟩
    refine bk hX lkX12_ok (pc' := 45) [.aload_n 0, .iload_n 1, .iload_n 2] (by decide +kernel) (And.intro trivial ?_)
    refine z_callV hX kw_X12_409 (c_M_handTells E K N Rf a1 L hg (mG_T hG a3) hi a2 (by first | omega | (simp only [List.length_append, List.length_cons, List.length_nil]; omega)) _) rfl rfl rfl rfl rfl (by decide +kernel) (by decide) (by decide) (by decide) (by decide) (Nat.le_of_ble_eq_true rfl) ?_
    rintro _ _ ⟨d1, rfl, rfl, d2, d3⟩
    refine bk hX lkX12_ok (pc' := 53) [.istore_n 3, .iload_n 3, .aload_n 0, .iload_n 1, .iconst 1] (by decide +kernel) (And.intro trivial ?_)
    refine z_callV hX kw_X12_406 (c_M_mindsAct E K N Rf d1 L hg (mG_T hG (frX_tr a3 d3)) hi d2 (by have hml := mdA_len (gk g i) (gv g i) i x; simp only [htA, List.length_append, List.length_cons, List.length_nil]; omega) _) rfl rfl rfl rfl rfl (by decide +kernel) (by decide) (by decide) (by decide) (by decide) (Nat.le_of_ble_eq_true rfl) ?_
    rintro _ _ ⟨b1, rfl, rfl, b2, b3⟩
    refine bk hX lkX12_ok (pc' := 57) [.iadd] (by decide +kernel) (And.intro trivial ?_)
    exact z_iret hX (by decide +kernel) rfl (rfl) (by decide) (by decide) (by first
  | exact ⟨b1, rfl, by simp [tlA, e], by simpa [tlA, e] using b2, b3⟩
  | exact ⟨b1, rfl, by simp [tlA, e], by simpa [tlA, e] using b2, frX_tr a3 b3⟩
  | exact ⟨b1, rfl, by simp [tlA, e], by simpa [tlA, e] using b2, frX_tr (frX_tr a3 d3) b3⟩)
def actS (g : Gv) (x a y : Int32) : Int32 × List Nat := if isIn x (gn g) = true ∧ isIn a 3 = true then (if a = 0 then wkA (gk g (jx x)) (gv g (jx x)) (jx x) y else if a = nI 1 then mdA (gk g (jx x)) (gv g (jx x)) (jx x) y else tlA (gk g (jx x)) (gv g (jx x)) (jx x) y) else (0, [])
theorem c_M_act (E : zE) (K N : Nat → Nat) (Rf : Nat → Nat → Option Nat) (I : Nat → Nat → Int32) (L : Nat → Nat → Int64) {g : Gv} (hg : gwf g) (hG : mG g I) (x a y : Int32) : zCt E mX12_act 8 0 0 (sg K N Rf I L) [.ref 100, .int x, .int a, .int y] (fun r σ' => ∃ I', σ' = sg K N Rf I' L ∧ r = some (.int (actS g x a y).1) ∧ mTr (actS g x a y).2 I' ∧ frT I I') := by
  have h6 := hg.1
  have hF : frT I (up2 I 100 64 (nI 0)) := frX_f (by decide)
  have hG1 : mG g (up2 I 100 64 (nI 0)) := mG_T hG hF
  have hT : mTr [] (up2 I 100 64 (nI 0)) := ⟨by rw [up2_self]; rfl, by decide, fun k hk => absurd hk (Nat.not_lt_zero _)⟩
  refine z_intro (by decide) (Nat.le_of_ble_eq_true rfl) (fun X hX => ?_)
  refine bk hX lkX12_ok (pc' := 7) [.aload_n 0, .iconst 0, .putfield 205, .aload_n 0, .iload_n 1] (by decide +kernel) (And.intro trivial ?_)
  refine z_callV hX kw_X12_232 (c_M_isWorker E K N Rf _ L _ hg.1 hG1.1) rfl rfl rfl rfl rfl (by decide +kernel) (by decide) (by decide) (by decide) (by decide) (Nat.le_of_ble_eq_true rfl) ?_
  rintro _ _ ⟨rfl, hh⟩
  rw [← isIn_iff (by omega)] at hh
  rcases hh with ⟨hx, rfl⟩ | ⟨hx, rfl⟩
  · refine if_eq hX (13) 23 (by decide +kernel) (by decide) (fun c => absurd c (by decide)) (fun c_10 => ?_)
    refine bk hX lkX12_ok (pc' := 17) [.aload_n 0, .iload_n 2, .iconst 0, .iconst 2] (by decide +kernel) (And.intro trivial ?_)
    refine z_callV hX kw_X12_228 (c_M_in E _ _ _ _ _) rfl rfl rfl rfl rfl (by decide +kernel) (by decide) (by decide) (by decide) (by decide) (Nat.le_of_ble_eq_true rfl) ?_
    rintro _ _ ⟨rfl, hh⟩
    rw [in_ix 2 (by decide)] at hh
    rcases hh with ⟨ha, rfl⟩ | ⟨ha, rfl⟩
    · refine if_ne hX (5) 25 (by decide +kernel) (by decide) (fun c_20 => ?_) (fun c => absurd c (by decide))
      obtain ⟨i, hi, rfl⟩ := (isIn_iff (by omega)).mp hx
      refine bk hX lkX12_ok (pc' := 26) [.iload_n 2] (by decide +kernel) (And.intro trivial ?_)
      refine if_ne hX (12) 38 (by decide +kernel) (by decide) (fun c0 => ?_) (fun c0 => ?_)
      · refine bk hX lkX12_ok (pc' := 40) [.iload_n 2, .iconst 1] (by decide +kernel) (And.intro trivial ?_)
        refine ic_ne hX (12) 52 (by decide +kernel) (by decide) (fun c1 => ?_) (fun c1 => ?_)
        · refine bk hX lkX12_ok (pc' := 55) [.aload_n 0, .iload_n 1, .iload_n 3] (by decide +kernel) (And.intro trivial ?_)
          refine z_callV hX kw_X12_412 (c_M_tellsAct E K N Rf _ L hg hG1 hi hT (by decide) _) rfl rfl rfl rfl rfl (by decide +kernel) (by decide) (by decide) (by decide) (by decide) (Nat.le_of_ble_eq_true rfl) ?_
          rintro _ _ ⟨b1, rfl, rfl, b2, b3⟩
          exact z_iret hX (by decide +kernel) rfl (rfl) (by decide) (by decide) (by
  have hS : actS g (nI i) a y = if a = 0 then wkA (gk g i) (gv g i) i y else if a = nI 1 then mdA (gk g i) (gv g i) i y else tlA (gk g i) (gv g i) i y := by
    unfold actS; rw [if_pos ⟨hx, ha⟩, jx_nI (by omega)]
  rw [hS]
  first
    | (rw [if_pos c0]; exact ⟨b1, rfl, rfl, b2, frX_tr hF b3⟩)
    | (rw [if_neg c0, if_pos c1]; exact ⟨b1, rfl, rfl, b2, frX_tr hF b3⟩)
    | (rw [if_neg c0, if_neg c1]; exact ⟨b1, rfl, rfl, b2, frX_tr hF b3⟩))
        · refine bk hX lkX12_ok (pc' := 46) [.aload_n 0, .iload_n 1, .iload_n 3] (by decide +kernel) (And.intro trivial ?_)
          refine z_callV hX kw_X12_406 (c_M_mindsAct E K N Rf _ L hg hG1 hi hT (by decide) _) rfl rfl rfl rfl rfl (by decide +kernel) (by decide) (by decide) (by decide) (by decide) (Nat.le_of_ble_eq_true rfl) ?_
          rintro _ _ ⟨b1, rfl, rfl, b2, b3⟩
          refine gt_ hX (9) 58 (by decide +kernel) (by decide) ?_
          exact z_iret hX (by decide +kernel) rfl (rfl) (by decide) (by decide) (by
  have hS : actS g (nI i) a y = if a = 0 then wkA (gk g i) (gv g i) i y else if a = nI 1 then mdA (gk g i) (gv g i) i y else tlA (gk g i) (gv g i) i y := by
    unfold actS; rw [if_pos ⟨hx, ha⟩, jx_nI (by omega)]
  rw [hS]
  first
    | (rw [if_pos c0]; exact ⟨b1, rfl, rfl, b2, frX_tr hF b3⟩)
    | (rw [if_neg c0, if_pos c1]; exact ⟨b1, rfl, rfl, b2, frX_tr hF b3⟩)
    | (rw [if_neg c0, if_neg c1]; exact ⟨b1, rfl, rfl, b2, frX_tr hF b3⟩))
      · refine bk hX lkX12_ok (pc' := 32) [.aload_n 0, .iload_n 1, .iload_n 3] (by decide +kernel) (And.intro trivial ?_)
        refine z_callV hX kw_X12_397 (c_M_worksAct E K N Rf _ L hg hG1 hi hT (by decide) _) rfl rfl rfl rfl rfl (by decide +kernel) (by decide) (by decide) (by decide) (by decide) (Nat.le_of_ble_eq_true rfl) ?_
        rintro _ _ ⟨b1, rfl, rfl, b2, b3⟩
        refine gt_ hX (23) 58 (by decide +kernel) (by decide) ?_
        exact z_iret hX (by decide +kernel) rfl (rfl) (by decide) (by decide) (by
  have hS : actS g (nI i) a y = if a = 0 then wkA (gk g i) (gv g i) i y else if a = nI 1 then mdA (gk g i) (gv g i) i y else tlA (gk g i) (gv g i) i y := by
    unfold actS; rw [if_pos ⟨hx, ha⟩, jx_nI (by omega)]
  rw [hS]
  first
    | (rw [if_pos c0]; exact ⟨b1, rfl, rfl, b2, frX_tr hF b3⟩)
    | (rw [if_neg c0, if_pos c1]; exact ⟨b1, rfl, rfl, b2, frX_tr hF b3⟩)
    | (rw [if_neg c0, if_neg c1]; exact ⟨b1, rfl, rfl, b2, frX_tr hF b3⟩))
    · refine if_ne hX (5) 25 (by decide +kernel) (by decide) (fun c => absurd (by decide) c) (fun c_20 => ?_)
      refine bk hX lkX12_ok (pc' := 24) [.iconst 0] (by decide +kernel) (And.intro trivial ?_)
      exact z_iret hX (by decide +kernel) rfl (rfl) (by decide) (by decide) (by first | exact ⟨_, rfl, by unfold actS; rw [if_neg (fun z => hx z.1)]; rfl, by unfold actS; rw [if_neg (fun z => hx z.1)]; exact hT, hF⟩ | exact ⟨_, rfl, by unfold actS; rw [if_neg (fun z => ha z.2)]; rfl, by unfold actS; rw [if_neg (fun z => ha z.2)]; exact hT, hF⟩)
  · refine if_eq hX (13) 23 (by decide +kernel) (by decide) (fun c_10 => ?_) (fun c => absurd (by decide) c)
    refine bk hX lkX12_ok (pc' := 24) [.iconst 0] (by decide +kernel) (And.intro trivial ?_)
    exact z_iret hX (by decide +kernel) rfl (rfl) (by decide) (by decide) (by first | exact ⟨_, rfl, by unfold actS; rw [if_neg (fun z => hx z.1)]; rfl, by unfold actS; rw [if_neg (fun z => hx z.1)]; exact hT, hF⟩ | exact ⟨_, rfl, by unfold actS; rw [if_neg (fun z => ha z.2)]; rfl, by unfold actS; rw [if_neg (fun z => ha z.2)]; exact hT, hF⟩)
def trcS (t : List Nat) (x : Int32) : Int32 := if isIn x 20 = true ∧ isIn x t.length = true then nI (t.getD (jx x) 0) else -nI 1
theorem c_M_trace (E : zE) (K N : Nat → Nat) (Rf : Nat → Nat → Option Nat) (I : Nat → Nat → Int32) (L : Nat → Nat → Int64) {t : List Nat} (ht : mTr t I) (x : Int32) : zCt E mX12_trace 1 0 0 (sg K N Rf I L) [.ref 100, .int x] (fun r σ' => σ' = (sg K N Rf I L) ∧ r = some (.int (trcS t x))) := by
  obtain ⟨t1, t2, t3⟩ := ht
  refine z_intro (by decide) (Nat.le_of_ble_eq_true rfl) (fun X hX => ?_)
  refine bk hX lkX12_ok (pc' := 5) [.aload_n 0, .iload_n 1, .iconst 0, .bipush 19] (by decide +kernel) (And.intro trivial ?_)
  refine z_callV hX kw_X12_228 (c_M_in E _ _ _ _ _) rfl rfl rfl rfl rfl (by decide +kernel) (by decide) (by decide) (by decide) (by decide) (Nat.le_of_ble_eq_true rfl) ?_
  rintro _ _ ⟨rfl, hh⟩
  rw [in_ix 19 (by decide)] at hh
  rcases hh with ⟨hx, rfl⟩ | ⟨hx, rfl⟩
  · refine if_eq hX (20) 28 (by decide +kernel) (by decide) (fun c => absurd c (by decide)) (fun c_8 => ?_)
    obtain ⟨k, hk, rfl⟩ := (isIn_iff (by decide)).mp hx
    refine bk hX lkX12_ok (pc' := 16) [.iload_n 1, .aload_n 0, .getfield 205] (by decide +kernel) (And.intro trivial ?_)
    rw [t1]
    refine ic_ge hX (12) 28 (by decide +kernel) (by decide) (fun c1 => ?_) (fun c1 => ?_)
    · refine bk hX lkX12_ok (pc' := 29) [.iconst (Int.negSucc 0)] (by decide +kernel) (And.intro trivial ?_)
      exact z_iret hX (by decide +kernel) rfl (rfl) (by decide) (by decide) (by first
  | exact ⟨rfl, by unfold trcS; rw [if_neg (fun z => hx z.1)]⟩
  | exact ⟨rfl, by unfold trcS; rw [if_pos ⟨hx, isIn_nI c2 (by omega)⟩, cl (by omega), show I (101 + 65) k = _ from t3 k c2, jx_nI (by omega)]⟩
  | exact ⟨rfl, by unfold trcS; rw [if_neg (fun z => by obtain ⟨j, hj, e⟩ := (isIn_iff (by omega)).mp z.2; exact absurd (nI_lt (show k < t.length by rw [nI_inj (by omega) (by omega) e]; exact hj) (by omega)) (i_nlt.mpr c1))]⟩)
    · have c2 : k < t.length := (nI_ltI (by omega) (by omega)).mp (i_nle.mp c1)
      refine bk hX lkX12_ok (pc' := 25) [.aload_n 0, .getfield 208, .iload_n 1, .iaload] (by decide +kernel) (And.intro (by exact vin 20 (by omega)) (And.intro trivial ?_))
      refine gt_ hX (4) 29 (by decide +kernel) (by decide) ?_
      exact z_iret hX (by decide +kernel) rfl (rfl) (by decide) (by decide) (by first
  | exact ⟨rfl, by unfold trcS; rw [if_neg (fun z => hx z.1)]⟩
  | exact ⟨rfl, by unfold trcS; rw [if_pos ⟨hx, isIn_nI c2 (by omega)⟩, cl (by omega), show I (101 + 65) k = _ from t3 k c2, jx_nI (by omega)]⟩
  | exact ⟨rfl, by unfold trcS; rw [if_neg (fun z => by obtain ⟨j, hj, e⟩ := (isIn_iff (by omega)).mp z.2; exact absurd (nI_lt (show k < t.length by rw [nI_inj (by omega) (by omega) e]; exact hj) (by omega)) (i_nlt.mpr c1))]⟩)
  · refine if_eq hX (20) 28 (by decide +kernel) (by decide) (fun c_8 => ?_) (fun c => absurd (by decide) c)
    refine bk hX lkX12_ok (pc' := 29) [.iconst (Int.negSucc 0)] (by decide +kernel) (And.intro trivial ?_)
    exact z_iret hX (by decide +kernel) rfl (rfl) (by decide) (by decide) (by first
  | exact ⟨rfl, by unfold trcS; rw [if_neg (fun z => hx z.1)]⟩
  | exact ⟨rfl, by unfold trcS; rw [if_pos ⟨hx, isIn_nI c2 (by omega)⟩, cl (by omega), show I (101 + 65) k = _ from t3 k c2, jx_nI (by omega)]⟩
  | exact ⟨rfl, by unfold trcS; rw [if_neg (fun z => by obtain ⟨j, hj, e⟩ := (isIn_iff (by omega)).mp z.2; exact absurd (nI_lt (show k < t.length by rw [nI_inj (by omega) (by omega) e]; exact hj) (by omega)) (i_nlt.mpr c1))]⟩)
def cntS (n m s p b f r : Nat) (x : Int32) : Int32 := if isIn x 7 = true then nI (if jx x = 0 then n else if jx x = 1 then m else if jx x = 2 then s else if jx x = 3 then p else if jx x = 4 then b else if jx x = 5 then f else r) else -nI 2
theorem c_M_count (E : zE) (K N : Nat → Nat) (Rf : Nat → Nat → Option Nat) (I : Nat → Nat → Int32) (L : Nat → Nat → Int64) {n m s p b f r : Nat} (h0 : I 100 0 = nI n) (h1 : I 100 8 = nI m) (h2 : I 100 34 = nI s) (h3 : I 100 38 = nI p) (h4 : I 100 39 = nI b) (h5 : I 100 10 = nI f) (h6 : I 100 64 = nI r) (x : Int32) : zCt E mX12_count 0 0 0 (sg K N Rf I L) [.ref 100, .int x] (fun o σ' => σ' = (sg K N Rf I L) ∧ o = some (.int (cntS n m s p b f r x))) := by
  refine z_intro (by decide) (Nat.le_of_ble_eq_true rfl) (fun X hX => ?_)
  refine bk hX lkX12_ok (pc' := 1) [.iload_n 1] (by decide +kernel) (And.intro trivial ?_)
  rcases sw7 x with rfl | rfl | rfl | rfl | rfl | rfl | rfl | h7
  · refine z_tsw hX 44 (dflt := 78) (lo := 0) (hi := 6) (offs := #[43, 48, 53, 58, 63, 68, 73]) (len := 43) (off := 43) (by decide +kernel) (by decide) (by decide) ?_
    refine bk hX lkX12_ok (pc' := 48) [.aload_n 0, .getfield 7] (by decide +kernel) (And.intro trivial ?_)
    exact z_iret hX (by decide +kernel) rfl (rfl) (by decide) (by decide) (⟨rfl, by rw [h0]; rfl⟩)
  · refine z_tsw hX 49 (dflt := 78) (lo := 0) (hi := 6) (offs := #[43, 48, 53, 58, 63, 68, 73]) (len := 43) (off := 48) (by decide +kernel) (by decide) (by decide) ?_
    refine bk hX lkX12_ok (pc' := 53) [.aload_n 0, .getfield 35] (by decide +kernel) (And.intro trivial ?_)
    exact z_iret hX (by decide +kernel) rfl (rfl) (by decide) (by decide) (⟨rfl, by rw [h1]; rfl⟩)
  · refine z_tsw hX 54 (dflt := 78) (lo := 0) (hi := 6) (offs := #[43, 48, 53, 58, 63, 68, 73]) (len := 43) (off := 53) (by decide +kernel) (by decide) (by decide) ?_
    refine bk hX lkX12_ok (pc' := 58) [.aload_n 0, .getfield 114] (by decide +kernel) (And.intro trivial ?_)
    exact z_iret hX (by decide +kernel) rfl (rfl) (by decide) (by decide) (⟨rfl, by rw [h2]; rfl⟩)
  · refine z_tsw hX 59 (dflt := 78) (lo := 0) (hi := 6) (offs := #[43, 48, 53, 58, 63, 68, 73]) (len := 43) (off := 58) (by decide +kernel) (by decide) (by decide) ?_
    refine bk hX lkX12_ok (pc' := 63) [.aload_n 0, .getfield 126] (by decide +kernel) (And.intro trivial ?_)
    exact z_iret hX (by decide +kernel) rfl (rfl) (by decide) (by decide) (⟨rfl, by rw [h3]; rfl⟩)
  · refine z_tsw hX 64 (dflt := 78) (lo := 0) (hi := 6) (offs := #[43, 48, 53, 58, 63, 68, 73]) (len := 43) (off := 63) (by decide +kernel) (by decide) (by decide) ?_
    refine bk hX lkX12_ok (pc' := 68) [.aload_n 0, .getfield 129] (by decide +kernel) (And.intro trivial ?_)
    exact z_iret hX (by decide +kernel) rfl (rfl) (by decide) (by decide) (⟨rfl, by rw [h4]; rfl⟩)
  · refine z_tsw hX 69 (dflt := 78) (lo := 0) (hi := 6) (offs := #[43, 48, 53, 58, 63, 68, 73]) (len := 43) (off := 68) (by decide +kernel) (by decide) (by decide) ?_
    refine bk hX lkX12_ok (pc' := 73) [.aload_n 0, .getfield 41] (by decide +kernel) (And.intro trivial ?_)
    exact z_iret hX (by decide +kernel) rfl (rfl) (by decide) (by decide) (⟨rfl, by rw [h5]; rfl⟩)
  · refine z_tsw hX 74 (dflt := 78) (lo := 0) (hi := 6) (offs := #[43, 48, 53, 58, 63, 68, 73]) (len := 43) (off := 73) (by decide +kernel) (by decide) (by decide) ?_
    refine bk hX lkX12_ok (pc' := 78) [.aload_n 0, .getfield 205] (by decide +kernel) (And.intro trivial ?_)
    exact z_iret hX (by decide +kernel) rfl (rfl) (by decide) (by decide) (⟨rfl, by rw [h6]; rfl⟩)
  · refine z_tsw hX 79 (dflt := 78) (lo := 0) (hi := 6) (offs := #[43, 48, 53, 58, 63, 68, 73]) (len := 43) (off := 78) (by decide +kernel) (Or.inl ⟨sw_out h7 (by decide), rfl⟩) (by decide) ?_
    refine bk hX lkX12_ok (pc' := 81) [.bipush (Int.negSucc 1)] (by decide +kernel) (And.intro trivial ?_)
    exact z_iret hX (by decide +kernel) rfl (rfl) (by decide) (by decide) (⟨rfl, by unfold cntS; rw [if_neg h7]⟩)
end
section
/-! tapes: sorts, lengths, items -/
abbrev Tp : Type := (Nat → Int32) × (Nat → Nat) × (Nat → Nat → Int64)
def tpw (T : Tp) : Prop := ∀ t, t < 6 → ((T.1 t = -nI 1 ∧ T.2.1 t = 0) ∨ ∃ s, s < 5 ∧ T.1 t = nI s) ∧ T.2.1 t ≤ 60
def mTp (T : Tp) (I : Nat → Nat → Int32) (L : Nat → Nat → Int64) : Prop := ∀ t, t < 6 → I 167 t = T.1 t ∧ I 168 t = nI (T.2.1 t) ∧ ∀ i, i < T.2.1 t → L 169 (60 * t + i) = T.2.2 t i
def setT (T : Tp) (t : Nat) (s : Int32) (n : Nat) : Tp := ((fun x => if x = t then s else T.1 x), upN T.2.1 t n, fun x i => if x = t then 0 else T.2.2 x i)
def frL (L L' : Nat → Nat → Int64) : Prop := ∀ q, q ≠ 169 → q ≠ 170 → L' q = L q
theorem frL_rf (L : Nat → Nat → Int64) : frL L L := fun _ _ _ => rfl
theorem frL_tr {L L1 L2 : Nat → Nat → Int64} (h1 : frL L L1) (h2 : frL L1 L2) : frL L L2 := fun q a b => (h2 q a b).trans (h1 q a b)
theorem frL_at {L : Nat → Nat → Int64} {p k : Nat} {v : Int64} (h : p = 169 ∨ p = 170) : frL L (up2 L p k v) := fun q a b => up2_ne _ _ _ (fun z => by rcases h with h | h <;> rw [h] at z <;> contradiction)
theorem tp_lt {x : Int32} (h : (x = -nI 1 ∧ True) ∨ ∃ s, s < 5 ∧ x = nI s) : (x < 0 ↔ x = -nI 1) ∧ (0 ≤ x ↔ ¬ x = -nI 1) := by
  rcases h with ⟨rfl, -⟩ | ⟨s, hs, rfl⟩
  · decide
  · have h5 : s = 0 ∨ s = 1 ∨ s = 2 ∨ s = 3 ∨ s = 4 := by omega
    rcases h5 with rfl | rfl | rfl | rfl | rfl <;> decide
theorem tpw_lt {T : Tp} (hT : tpw T) {t : Nat} (ht : t < 6) : (T.1 t < 0 ↔ T.1 t = -nI 1) ∧ (0 ≤ T.1 t ↔ ¬ T.1 t = -nI 1) := tp_lt ((hT t ht).1.elim (fun h => Or.inl ⟨h.1, trivial⟩) Or.inr)
theorem srt_in {s : Int32} : (-nI 1 ≤ s ∧ s ≤ nI 4) ↔ (s = -nI 1 ∨ isIn s 5 = true) := by
  rw [isIn_iff (by decide)]
  constructor
  · rintro ⟨h1, h2⟩
    by_cases h : nI 0 ≤ s
    · exact Or.inr (by obtain ⟨j, hj, e⟩ := (i_le (by decide)).mp ⟨h, h2⟩; exact ⟨j, by omega, e⟩)
    · left
      apply Int32.toInt_inj.mp
      rw [Int32.le_iff_toInt_le] at h h1
      have e1 : (-nI 1).toInt = -1 := by decide
      have e0 : (nI 0).toInt = 0 := by decide
      omega
  · rintro (rfl | ⟨j, hj, rfl⟩)
    · decide
    · have h5 : j = 0 ∨ j = 1 ∨ j = 2 ∨ j = 3 ∨ j = 4 := by omega
      rcases h5 with rfl | rfl | rfl | rfl | rfl <;> decide
theorem tap_in {x : Int32} : (∃ j, j ≤ 5 ∧ x = nI j) ↔ isIn x 6 = true := by
  rw [isIn_iff (by decide)]
  exact ⟨fun ⟨j, h, e⟩ => ⟨j, by omega, e⟩, fun ⟨j, h, e⟩ => ⟨j, by omega, e⟩⟩
theorem sg_m1 {s : Int32} (h : s = -nI 1 ∨ isIn s 5 = true) : (s < 0 ↔ s = -nI 1) ∧ (0 ≤ s ↔ ¬ s = -nI 1) := tp_lt (h.elim (fun h => Or.inl ⟨h, trivial⟩) (fun h => Or.inr ((isIn_iff (by decide)).mp h)))
def tapS (T : Tp) (t s n : Int32) : Int32 × Tp := if isIn t 6 = true then (if s = -nI 1 then (1, setT T (jx t) s 0) else if isIn s 5 = true then (if nI 60 < n then (-nI 2, T) else if n < 0 then (-nI 14, T) else (1, setT T (jx t) s (jx n))) else (-nI 2, T)) else (-nI 1, T)
theorem tpw_set {T : Tp} (hT : tpw T) {t n : Nat} {s : Int32} (hs : (s = -nI 1 ∧ n = 0) ∨ ∃ j, j < 5 ∧ s = nI j) (hn : n ≤ 60) : tpw (setT T t s n) := by
  intro x hx
  show (((if x = t then s else T.1 x) = -nI 1 ∧ upN T.2.1 t n x = 0) ∨ ∃ j, j < 5 ∧ (if x = t then s else T.1 x) = nI j) ∧ upN T.2.1 t n x ≤ 60
  by_cases e : x = t
  · subst e
    rw [if_pos rfl, upN_at]
    exact ⟨hs, hn⟩
  · rw [if_neg e, upN_ne _ _ e]
    exact hT x hx
theorem n_in60 {n : Int32} (h1 : ¬ nI 60 < n) (h2 : ¬ n < 0) : ∃ k, k ≤ 60 ∧ n = nI k := (i_le (by decide)).mp ⟨i_nlt.mp (show ¬ n < nI 0 from h2), i_nlt.mp h1⟩
set_option maxHeartbeats 2000000 in
theorem c_M_tape (E : zE) (K N : Nat → Nat) (Rf : Nat → Nat → Option Nat) (I : Nat → Nat → Int32) (L : Nat → Nat → Int64) {T : Tp} (hT60 : ∀ t, t < 6 → T.2.1 t ≤ 60) (hT : mTp T I L) (t s n : Int32) : zCt E mX12_tape 2 0 0 (sg K N Rf I L) [.ref 100, .int t, .int s, .int n] (fun r σ' => ∃ I' L', σ' = sg K N Rf I' L' ∧ r = some (.int (tapS T t s n).1) ∧ mTp (tapS T t s n).2 I' L' ∧ frX [167, 168] [] I I' ∧ frL L L') := by
  refine z_intro (by decide) (Nat.le_of_ble_eq_true rfl) (fun X hX => ?_)
  have hl : ∀ (a k : Nat), a < 6 → k ≤ 60 → t = nI a → tapS T t s n = (1, setT T a s k) → ∀ m i (L1 : Nat → Nat → Int64), i + m = 60 → (∀ j, j < i → L1 169 (60 * a + j) = 0) → (∀ q j, ¬ (q = 169 ∧ 60 * a ≤ j ∧ j < 60 * a + 60) → L1 q j = L q j) → zS X (sg K N Rf (up2 (up2 I 167 a s) 168 a (nI k)) L1) 0 0 69 [(0, .ref 100), (1, .int t), (2, .int s), (3, .int n), (4, .int (nI i))] [] := by
    intro a k ha hk hta hS m
    subst hta
    induction m with
    | zero =>
      intro i L1 hi h1 h2
      obtain rfl : i = 60 := by omega
      refine bk hX lkX12_ok (pc' := 73) [.iload 4, .bipush 60] (by decide +kernel) (And.intro trivial ?_)
      refine ic_ge hX (22) 95 (by decide +kernel) (by decide) (fun c_73 => ?_) (fun c => absurd (by decide) c)
      refine bk hX lkX12_ok (pc' := 96) [.iconst 1] (by decide +kernel) (And.intro trivial ?_)
      exact z_iret hX (by decide +kernel) rfl (rfl) (by decide) (by decide) (by
  rw [hS]
  refine ⟨_, _, rfl, rfl, fun x hx => ?_, frX_tr (frX_at (by decide) (by decide)) (frX_at (by decide) (by decide)), fun q q1 q2 => funext fun j => h2 q j (fun z => q1 z.1)⟩
  obtain ⟨t1, t2, t3⟩ := hT x hx
  show _ = (if x = a then s else T.1 x) ∧ _ = nI (upN T.2.1 a k x) ∧ ∀ i, i < upN T.2.1 a k x → L1 169 (60 * x + i) = if x = a then 0 else T.2.2 x i
  by_cases e : x = a
  · subst e
    rw [upN_at]
    exact ⟨by simp [up2_v], by simp [up2_v], fun i hi => by rw [if_pos rfl]; exact h1 i (by omega)⟩
  · rw [upN_ne _ _ e]
    refine ⟨by simp [up2_v, e, t1], by simp [up2_v, e, t2], fun i hi => ?_⟩
    have h60 : T.2.1 x ≤ 60 := hT60 x hx
    rw [if_neg e, h2 _ _ (by omega)]
    exact t3 i hi)
    | succ m ih =>
      intro i L1 hi h1 h2
      have ci : (nI (60 * a + i)).toNatClampNeg = 60 * a + i := cl (by omega)
      refine bk hX lkX12_ok (pc' := 73) [.iload 4, .bipush 60] (by decide +kernel) (And.intro trivial ?_)
      refine ic_ge hX (22) 95 (by decide +kernel) (by decide) (fun c => absurd c (nI_ge (a := i) (b := 60) (by omega) (by decide))) (fun c_73 => ?_)
      refine bk hX lkX12_ok (pc' := 92) [.aload_n 0, .getfield 217, .bipush 60, .iload_n 1, .imul, .iload 4, .iadd, .lconst 0, .lastore, .iinc 4 1] (by decide +kernel) (And.intro (by rw [show nI 60 * nI a = nI (60 * a) from pk_mul _ _, nI_add]; exact vin 360 (by omega)) (And.intro trivial ?_))
      refine gt_ hX (-23) 69 (by decide +kernel) (by decide) ?_
      refine z_lvk (lv' := [(0, _), (1, _), (2, _), (3, _), (4, _)]) [1, 2, 3, 4, 0] rfl ?_
      rw [show nI 60 * nI a = nI (60 * a) from pk_mul _ _, nI_add, nI_add, ci]
      exact ih (i + 1) _ (by omega) (fun j hj => by
        rw [up2_v]
        split
        · rfl
        · exact h1 j (by omega)) (fun q j hq => by rw [up2_v, if_neg (by omega)]; exact h2 q j hq)
  refine bk hX lkX12_ok (pc' := 2) [.aload_n 0, .iload_n 1] (by decide +kernel) (And.intro trivial ?_)
  refine z_callV hX kw_X12_388 (c_M_isTape E _ rfl _) rfl rfl rfl rfl rfl (by decide +kernel) (by decide) (by decide) (by decide) (by decide) (Nat.le_of_ble_eq_true rfl) ?_
  rintro _ _ ⟨rfl, hh⟩
  rw [tap_in] at hh
  rcases hh with ⟨ht, rfl⟩ | ⟨ht, rfl⟩
  · refine if_ne hX (5) 10 (by decide +kernel) (by decide) (fun c_5 => ?_) (fun c => absurd c (by decide))
    refine bk hX lkX12_ok (pc' := 14) [.aload_n 0, .iload_n 2, .iconst (Int.negSucc 0), .iconst 4] (by decide +kernel) (And.intro trivial ?_)
    refine z_callV hX kw_X12_228 (c_M_in E _ _ _ _ _) rfl rfl rfl rfl rfl (by decide +kernel) (by decide) (by decide) (by decide) (by decide) (Nat.le_of_ble_eq_true rfl) ?_
    rintro _ _ ⟨rfl, hh⟩
    rw [show (-nI 1 ≤ s ∧ s ≤ nI 4) ↔ _ from srt_in] at hh
    rcases hh with ⟨hs, rfl⟩ | ⟨hs, rfl⟩
    · refine if_eq hX (13) 30 (by decide +kernel) (by decide) (fun c => absurd c (by decide)) (fun c_17 => ?_)
      refine bk hX lkX12_ok (pc' := 21) [.iload_n 2] (by decide +kernel) (And.intro trivial ?_)
      refine if_lt hX (12) 33 (by decide +kernel) (by decide) (fun c1 => ?_) (fun c1 => ?_)
      · refine bk hX lkX12_ok (pc' := 34) [.iload_n 2] (by decide +kernel) (And.intro trivial ?_)
        refine if_lt hX (10) 44 (by decide +kernel) (by decide) (fun c3 => ?_) (fun c3 => ?_)
        · obtain ⟨a, ha, rfl⟩ := (isIn_iff (by decide)).mp ht
          have ca : (nI a).toNatClampNeg = a := cl (by omega)
          refine bk hX lkX12_ok (pc' := 57) [.aload_n 0, .getfield 211, .iload_n 1, .iload_n 2, .iastore, .aload_n 0, .getfield 214, .iload_n 1, .iload_n 2] (by decide +kernel) (And.intro (by exact vin 6 ha) (And.intro trivial ?_))
          refine if_ge hX (7) 64 (by decide +kernel) (by decide) (fun c5 => ?_) (fun c5 => ?_)
          · refine bk hX lkX12_ok (pc' := 69) [.iload_n 3, .iastore, .iconst 0, .istore 4] (by decide +kernel) (And.intro (by exact vin 6 ha) (And.intro trivial ?_))
            refine z_lvk (lv' := [(0, _), (1, _), (2, _), (3, _), (4, _)]) [1, 2, 3, 4, 0] rfl ?_
            rw [ca]
            first
              | (have h1 : s = -nI 1 := (sg_m1 hs).1.mp c3
                 exact hl a 0 ha (by omega) rfl (by unfold tapS; rw [if_pos ht, if_pos h1, jx_nI (by omega)]) 60 0 L (by omega) (fun j hj => absurd hj (Nat.not_lt_zero _)) (fun _ _ _ => rfl))
              | (have h1 : ¬ s = -nI 1 := fun z => c3 ((sg_m1 hs).1.mpr z)
                 have h2 : isIn s 5 = true := hs.resolve_left h1
                 have h3 : ¬ nI 60 < n := i_nlt.mpr c2
                 have h4 : ¬ n < 0 := i_nlt.mpr c4
                 obtain ⟨k, hk, rfl⟩ := n_in60 h3 h4
                 exact hl a k ha hk rfl (by unfold tapS; rw [if_pos ht, if_neg h1, if_pos h2, if_neg h3, if_neg h4, jx_nI (by omega), jx_nI (by omega)]) 60 0 L (by omega) (fun j hj => absurd hj (Nat.not_lt_zero _)) (fun _ _ _ => rfl))
              | exact absurd c3 c5
              | exact absurd c1 c3
              | exact absurd (i_nle.mp c5) c3
              | exact absurd c5 (i_nle.mpr c3)
          · refine bk hX lkX12_ok (pc' := 61) [.iconst 0] (by decide +kernel) (And.intro trivial ?_)
            refine gt_ hX (4) 65 (by decide +kernel) (by decide) ?_
            refine bk hX lkX12_ok (pc' := 69) [.iastore, .iconst 0, .istore 4] (by decide +kernel) (And.intro (by exact vin 6 ha) (And.intro trivial ?_))
            refine z_lvk (lv' := [(0, _), (1, _), (2, _), (3, _), (4, _)]) [1, 2, 3, 4, 0] rfl ?_
            rw [ca]
            first
              | (have h1 : s = -nI 1 := (sg_m1 hs).1.mp c3
                 exact hl a 0 ha (by omega) rfl (by unfold tapS; rw [if_pos ht, if_pos h1, jx_nI (by omega)]) 60 0 L (by omega) (fun j hj => absurd hj (Nat.not_lt_zero _)) (fun _ _ _ => rfl))
              | (have h1 : ¬ s = -nI 1 := fun z => c3 ((sg_m1 hs).1.mpr z)
                 have h2 : isIn s 5 = true := hs.resolve_left h1
                 have h3 : ¬ nI 60 < n := i_nlt.mpr c2
                 have h4 : ¬ n < 0 := i_nlt.mpr c4
                 obtain ⟨k, hk, rfl⟩ := n_in60 h3 h4
                 exact hl a k ha hk rfl (by unfold tapS; rw [if_pos ht, if_neg h1, if_pos h2, if_neg h3, if_neg h4, jx_nI (by omega), jx_nI (by omega)]) 60 0 L (by omega) (fun j hj => absurd hj (Nat.not_lt_zero _)) (fun _ _ _ => rfl))
              | exact absurd c3 c5
              | exact absurd c1 c3
              | exact absurd (i_nle.mp c5) c3
              | exact absurd c5 (i_nle.mpr c3)
        · refine bk hX lkX12_ok (pc' := 38) [.iload_n 3] (by decide +kernel) (And.intro trivial ?_)
          refine if_ge hX (6) 44 (by decide +kernel) (by decide) (fun c4 => ?_) (fun c4 => ?_)
          · obtain ⟨a, ha, rfl⟩ := (isIn_iff (by decide)).mp ht
            have ca : (nI a).toNatClampNeg = a := cl (by omega)
            refine bk hX lkX12_ok (pc' := 57) [.aload_n 0, .getfield 211, .iload_n 1, .iload_n 2, .iastore, .aload_n 0, .getfield 214, .iload_n 1, .iload_n 2] (by decide +kernel) (And.intro (by exact vin 6 ha) (And.intro trivial ?_))
            refine if_ge hX (7) 64 (by decide +kernel) (by decide) (fun c5 => ?_) (fun c5 => ?_)
            · refine bk hX lkX12_ok (pc' := 69) [.iload_n 3, .iastore, .iconst 0, .istore 4] (by decide +kernel) (And.intro (by exact vin 6 ha) (And.intro trivial ?_))
              refine z_lvk (lv' := [(0, _), (1, _), (2, _), (3, _), (4, _)]) [1, 2, 3, 4, 0] rfl ?_
              rw [ca]
              first
                | (have h1 : s = -nI 1 := (sg_m1 hs).1.mp c3
                   exact hl a 0 ha (by omega) rfl (by unfold tapS; rw [if_pos ht, if_pos h1, jx_nI (by omega)]) 60 0 L (by omega) (fun j hj => absurd hj (Nat.not_lt_zero _)) (fun _ _ _ => rfl))
                | (have h1 : ¬ s = -nI 1 := fun z => c3 ((sg_m1 hs).1.mpr z)
                   have h2 : isIn s 5 = true := hs.resolve_left h1
                   have h3 : ¬ nI 60 < n := i_nlt.mpr c2
                   have h4 : ¬ n < 0 := i_nlt.mpr c4
                   obtain ⟨k, hk, rfl⟩ := n_in60 h3 h4
                   exact hl a k ha hk rfl (by unfold tapS; rw [if_pos ht, if_neg h1, if_pos h2, if_neg h3, if_neg h4, jx_nI (by omega), jx_nI (by omega)]) 60 0 L (by omega) (fun j hj => absurd hj (Nat.not_lt_zero _)) (fun _ _ _ => rfl))
                | exact absurd c3 c5
                | exact absurd c1 c3
                | exact absurd (i_nle.mp c5) c3
                | exact absurd c5 (i_nle.mpr c3)
            · refine bk hX lkX12_ok (pc' := 61) [.iconst 0] (by decide +kernel) (And.intro trivial ?_)
              refine gt_ hX (4) 65 (by decide +kernel) (by decide) ?_
              refine bk hX lkX12_ok (pc' := 69) [.iastore, .iconst 0, .istore 4] (by decide +kernel) (And.intro (by exact vin 6 ha) (And.intro trivial ?_))
              refine z_lvk (lv' := [(0, _), (1, _), (2, _), (3, _), (4, _)]) [1, 2, 3, 4, 0] rfl ?_
              rw [ca]
              first
                | (have h1 : s = -nI 1 := (sg_m1 hs).1.mp c3
                   exact hl a 0 ha (by omega) rfl (by unfold tapS; rw [if_pos ht, if_pos h1, jx_nI (by omega)]) 60 0 L (by omega) (fun j hj => absurd hj (Nat.not_lt_zero _)) (fun _ _ _ => rfl))
                | (have h1 : ¬ s = -nI 1 := fun z => c3 ((sg_m1 hs).1.mpr z)
                   have h2 : isIn s 5 = true := hs.resolve_left h1
                   have h3 : ¬ nI 60 < n := i_nlt.mpr c2
                   have h4 : ¬ n < 0 := i_nlt.mpr c4
                   obtain ⟨k, hk, rfl⟩ := n_in60 h3 h4
                   exact hl a k ha hk rfl (by unfold tapS; rw [if_pos ht, if_neg h1, if_pos h2, if_neg h3, if_neg h4, jx_nI (by omega), jx_nI (by omega)]) 60 0 L (by omega) (fun j hj => absurd hj (Nat.not_lt_zero _)) (fun _ _ _ => rfl))
                | exact absurd c3 c5
                | exact absurd c1 c3
                | exact absurd (i_nle.mp c5) c3
                | exact absurd c5 (i_nle.mpr c3)
          · refine bk hX lkX12_ok (pc' := 43) [.bipush (Int.negSucc 13)] (by decide +kernel) (And.intro trivial ?_)
            exact z_iret hX (by decide +kernel) rfl (rfl) (by decide) (by decide) (by first
  | exact absurd c1 c3
  | (have h1 : ¬ s = -nI 1 := fun z => c1 ((sg_m1 hs).1.mpr z)
     have h2 : isIn s 5 = true := hs.resolve_left h1
     have h3 : ¬ nI 60 < n := i_nlt.mpr c2
     have h4 : n < 0 := i_nle.mp c4
     exact ⟨I, L, rfl, by unfold tapS; rw [if_pos ht, if_neg h1, if_pos h2, if_neg h3, if_pos h4], by unfold tapS; rw [if_pos ht, if_neg h1, if_pos h2, if_neg h3, if_pos h4]; exact hT, frX_rf _ _ _, frL_rf _⟩))
      · refine bk hX lkX12_ok (pc' := 27) [.iload_n 3, .bipush 60] (by decide +kernel) (And.intro trivial ?_)
        refine ic_le hX (6) 33 (by decide +kernel) (by decide) (fun c2 => ?_) (fun c2 => ?_)
        · refine bk hX lkX12_ok (pc' := 34) [.iload_n 2] (by decide +kernel) (And.intro trivial ?_)
          refine if_lt hX (10) 44 (by decide +kernel) (by decide) (fun c3 => ?_) (fun c3 => ?_)
          · obtain ⟨a, ha, rfl⟩ := (isIn_iff (by decide)).mp ht
            have ca : (nI a).toNatClampNeg = a := cl (by omega)
            refine bk hX lkX12_ok (pc' := 57) [.aload_n 0, .getfield 211, .iload_n 1, .iload_n 2, .iastore, .aload_n 0, .getfield 214, .iload_n 1, .iload_n 2] (by decide +kernel) (And.intro (by exact vin 6 ha) (And.intro trivial ?_))
            refine if_ge hX (7) 64 (by decide +kernel) (by decide) (fun c5 => ?_) (fun c5 => ?_)
            · refine bk hX lkX12_ok (pc' := 69) [.iload_n 3, .iastore, .iconst 0, .istore 4] (by decide +kernel) (And.intro (by exact vin 6 ha) (And.intro trivial ?_))
              refine z_lvk (lv' := [(0, _), (1, _), (2, _), (3, _), (4, _)]) [1, 2, 3, 4, 0] rfl ?_
              rw [ca]
              first
                | (have h1 : s = -nI 1 := (sg_m1 hs).1.mp c3
                   exact hl a 0 ha (by omega) rfl (by unfold tapS; rw [if_pos ht, if_pos h1, jx_nI (by omega)]) 60 0 L (by omega) (fun j hj => absurd hj (Nat.not_lt_zero _)) (fun _ _ _ => rfl))
                | (have h1 : ¬ s = -nI 1 := fun z => c3 ((sg_m1 hs).1.mpr z)
                   have h2 : isIn s 5 = true := hs.resolve_left h1
                   have h3 : ¬ nI 60 < n := i_nlt.mpr c2
                   have h4 : ¬ n < 0 := i_nlt.mpr c4
                   obtain ⟨k, hk, rfl⟩ := n_in60 h3 h4
                   exact hl a k ha hk rfl (by unfold tapS; rw [if_pos ht, if_neg h1, if_pos h2, if_neg h3, if_neg h4, jx_nI (by omega), jx_nI (by omega)]) 60 0 L (by omega) (fun j hj => absurd hj (Nat.not_lt_zero _)) (fun _ _ _ => rfl))
                | exact absurd c3 c5
                | exact absurd c1 c3
                | exact absurd (i_nle.mp c5) c3
                | exact absurd c5 (i_nle.mpr c3)
            · refine bk hX lkX12_ok (pc' := 61) [.iconst 0] (by decide +kernel) (And.intro trivial ?_)
              refine gt_ hX (4) 65 (by decide +kernel) (by decide) ?_
              refine bk hX lkX12_ok (pc' := 69) [.iastore, .iconst 0, .istore 4] (by decide +kernel) (And.intro (by exact vin 6 ha) (And.intro trivial ?_))
              refine z_lvk (lv' := [(0, _), (1, _), (2, _), (3, _), (4, _)]) [1, 2, 3, 4, 0] rfl ?_
              rw [ca]
              first
                | (have h1 : s = -nI 1 := (sg_m1 hs).1.mp c3
                   exact hl a 0 ha (by omega) rfl (by unfold tapS; rw [if_pos ht, if_pos h1, jx_nI (by omega)]) 60 0 L (by omega) (fun j hj => absurd hj (Nat.not_lt_zero _)) (fun _ _ _ => rfl))
                | (have h1 : ¬ s = -nI 1 := fun z => c3 ((sg_m1 hs).1.mpr z)
                   have h2 : isIn s 5 = true := hs.resolve_left h1
                   have h3 : ¬ nI 60 < n := i_nlt.mpr c2
                   have h4 : ¬ n < 0 := i_nlt.mpr c4
                   obtain ⟨k, hk, rfl⟩ := n_in60 h3 h4
                   exact hl a k ha hk rfl (by unfold tapS; rw [if_pos ht, if_neg h1, if_pos h2, if_neg h3, if_neg h4, jx_nI (by omega), jx_nI (by omega)]) 60 0 L (by omega) (fun j hj => absurd hj (Nat.not_lt_zero _)) (fun _ _ _ => rfl))
                | exact absurd c3 c5
                | exact absurd c1 c3
                | exact absurd (i_nle.mp c5) c3
                | exact absurd c5 (i_nle.mpr c3)
          · refine bk hX lkX12_ok (pc' := 38) [.iload_n 3] (by decide +kernel) (And.intro trivial ?_)
            refine if_ge hX (6) 44 (by decide +kernel) (by decide) (fun c4 => ?_) (fun c4 => ?_)
            · obtain ⟨a, ha, rfl⟩ := (isIn_iff (by decide)).mp ht
              have ca : (nI a).toNatClampNeg = a := cl (by omega)
              refine bk hX lkX12_ok (pc' := 57) [.aload_n 0, .getfield 211, .iload_n 1, .iload_n 2, .iastore, .aload_n 0, .getfield 214, .iload_n 1, .iload_n 2] (by decide +kernel) (And.intro (by exact vin 6 ha) (And.intro trivial ?_))
              refine if_ge hX (7) 64 (by decide +kernel) (by decide) (fun c5 => ?_) (fun c5 => ?_)
              · refine bk hX lkX12_ok (pc' := 69) [.iload_n 3, .iastore, .iconst 0, .istore 4] (by decide +kernel) (And.intro (by exact vin 6 ha) (And.intro trivial ?_))
                refine z_lvk (lv' := [(0, _), (1, _), (2, _), (3, _), (4, _)]) [1, 2, 3, 4, 0] rfl ?_
                rw [ca]
                first
                  | (have h1 : s = -nI 1 := (sg_m1 hs).1.mp c3
                     exact hl a 0 ha (by omega) rfl (by unfold tapS; rw [if_pos ht, if_pos h1, jx_nI (by omega)]) 60 0 L (by omega) (fun j hj => absurd hj (Nat.not_lt_zero _)) (fun _ _ _ => rfl))
                  | (have h1 : ¬ s = -nI 1 := fun z => c3 ((sg_m1 hs).1.mpr z)
                     have h2 : isIn s 5 = true := hs.resolve_left h1
                     have h3 : ¬ nI 60 < n := i_nlt.mpr c2
                     have h4 : ¬ n < 0 := i_nlt.mpr c4
                     obtain ⟨k, hk, rfl⟩ := n_in60 h3 h4
                     exact hl a k ha hk rfl (by unfold tapS; rw [if_pos ht, if_neg h1, if_pos h2, if_neg h3, if_neg h4, jx_nI (by omega), jx_nI (by omega)]) 60 0 L (by omega) (fun j hj => absurd hj (Nat.not_lt_zero _)) (fun _ _ _ => rfl))
                  | exact absurd c3 c5
                  | exact absurd c1 c3
                  | exact absurd (i_nle.mp c5) c3
                  | exact absurd c5 (i_nle.mpr c3)
              · refine bk hX lkX12_ok (pc' := 61) [.iconst 0] (by decide +kernel) (And.intro trivial ?_)
                refine gt_ hX (4) 65 (by decide +kernel) (by decide) ?_
                refine bk hX lkX12_ok (pc' := 69) [.iastore, .iconst 0, .istore 4] (by decide +kernel) (And.intro (by exact vin 6 ha) (And.intro trivial ?_))
                refine z_lvk (lv' := [(0, _), (1, _), (2, _), (3, _), (4, _)]) [1, 2, 3, 4, 0] rfl ?_
                rw [ca]
                first
                  | (have h1 : s = -nI 1 := (sg_m1 hs).1.mp c3
                     exact hl a 0 ha (by omega) rfl (by unfold tapS; rw [if_pos ht, if_pos h1, jx_nI (by omega)]) 60 0 L (by omega) (fun j hj => absurd hj (Nat.not_lt_zero _)) (fun _ _ _ => rfl))
                  | (have h1 : ¬ s = -nI 1 := fun z => c3 ((sg_m1 hs).1.mpr z)
                     have h2 : isIn s 5 = true := hs.resolve_left h1
                     have h3 : ¬ nI 60 < n := i_nlt.mpr c2
                     have h4 : ¬ n < 0 := i_nlt.mpr c4
                     obtain ⟨k, hk, rfl⟩ := n_in60 h3 h4
                     exact hl a k ha hk rfl (by unfold tapS; rw [if_pos ht, if_neg h1, if_pos h2, if_neg h3, if_neg h4, jx_nI (by omega), jx_nI (by omega)]) 60 0 L (by omega) (fun j hj => absurd hj (Nat.not_lt_zero _)) (fun _ _ _ => rfl))
                  | exact absurd c3 c5
                  | exact absurd c1 c3
                  | exact absurd (i_nle.mp c5) c3
                  | exact absurd c5 (i_nle.mpr c3)
            · refine bk hX lkX12_ok (pc' := 43) [.bipush (Int.negSucc 13)] (by decide +kernel) (And.intro trivial ?_)
              exact z_iret hX (by decide +kernel) rfl (rfl) (by decide) (by decide) (by first
  | exact absurd c1 c3
  | (have h1 : ¬ s = -nI 1 := fun z => c1 ((sg_m1 hs).1.mpr z)
     have h2 : isIn s 5 = true := hs.resolve_left h1
     have h3 : ¬ nI 60 < n := i_nlt.mpr c2
     have h4 : n < 0 := i_nle.mp c4
     exact ⟨I, L, rfl, by unfold tapS; rw [if_pos ht, if_neg h1, if_pos h2, if_neg h3, if_pos h4], by unfold tapS; rw [if_pos ht, if_neg h1, if_pos h2, if_neg h3, if_pos h4]; exact hT, frX_rf _ _ _, frL_rf _⟩))
        · refine bk hX lkX12_ok (pc' := 32) [.bipush (Int.negSucc 1)] (by decide +kernel) (And.intro trivial ?_)
          exact z_iret hX (by decide +kernel) rfl (rfl) (by decide) (by decide) (by first
  | (have h1 : ¬ s = -nI 1 := fun z => hs (Or.inl z)
     have h2 : ¬ isIn s 5 = true := fun z => hs (Or.inr z)
     exact ⟨I, L, rfl, by unfold tapS; rw [if_pos ht, if_neg h1, if_neg h2], by unfold tapS; rw [if_pos ht, if_neg h1, if_neg h2]; exact hT, frX_rf _ _ _, frL_rf _⟩)
  | (have h1 : ¬ s = -nI 1 := fun z => c1 ((sg_m1 hs).1.mpr z)
     have h2 : isIn s 5 = true := hs.resolve_left h1
     have h3 : nI 60 < n := i_nle.mp c2
     exact ⟨I, L, rfl, by unfold tapS; rw [if_pos ht, if_neg h1, if_pos h2, if_pos h3], by unfold tapS; rw [if_pos ht, if_neg h1, if_pos h2, if_pos h3]; exact hT, frX_rf _ _ _, frL_rf _⟩))
    · refine if_eq hX (13) 30 (by decide +kernel) (by decide) (fun c_17 => ?_) (fun c => absurd (by decide) c)
      refine bk hX lkX12_ok (pc' := 32) [.bipush (Int.negSucc 1)] (by decide +kernel) (And.intro trivial ?_)
      exact z_iret hX (by decide +kernel) rfl (rfl) (by decide) (by decide) (by first
  | (have h1 : ¬ s = -nI 1 := fun z => hs (Or.inl z)
     have h2 : ¬ isIn s 5 = true := fun z => hs (Or.inr z)
     exact ⟨I, L, rfl, by unfold tapS; rw [if_pos ht, if_neg h1, if_neg h2], by unfold tapS; rw [if_pos ht, if_neg h1, if_neg h2]; exact hT, frX_rf _ _ _, frL_rf _⟩)
  | (have h1 : ¬ s = -nI 1 := fun z => c1 ((sg_m1 hs).1.mpr z)
     have h2 : isIn s 5 = true := hs.resolve_left h1
     have h3 : nI 60 < n := i_nle.mp c2
     exact ⟨I, L, rfl, by unfold tapS; rw [if_pos ht, if_neg h1, if_pos h2, if_pos h3], by unfold tapS; rw [if_pos ht, if_neg h1, if_pos h2, if_pos h3]; exact hT, frX_rf _ _ _, frL_rf _⟩))
  · refine if_ne hX (5) 10 (by decide +kernel) (by decide) (fun c => absurd (by decide) c) (fun c_5 => ?_)
    refine bk hX lkX12_ok (pc' := 9) [.iconst (Int.negSucc 0)] (by decide +kernel) (And.intro trivial ?_)
    exact z_iret hX (by decide +kernel) rfl (rfl) (by decide) (by decide) (⟨I, L, rfl, by unfold tapS; rw [if_neg ht], by unfold tapS; rw [if_neg ht]; exact hT, frX_rf _ _ _, frL_rf _⟩)
end
section
theorem lg_cmp0 {x y : Int64} : lg_cmp x y = 0 ↔ x = y := by
  unfold lg_cmp
  split
  · rename_i h
    constructor
    · intro z; exact absurd z (by decide)
    · intro z; subst z; exact absurd h (by rw [gt_iff_lt, Int64.lt_iff_toInt_lt]; omega)
  · split
    · rename_i h2; simp [h2]
    · rename_i h2; simp [h2]
def narS (s : Int32) (z : Int64) : Int64 := if s = nI 0 then z.toInt32.toInt8.toInt32.toInt64 else if s = nI 1 then z.toInt32.toInt16.toInt32.toInt64 else if s = nI 2 then z.toInt32.toInt64 else if s = nI 4 then (if z = 0 then 0 else 1) else z
theorem c_M_narrow (E : zE) (σ : Sg) (a : Nat) (s : Int32) (z : Int64) : zCt E mX12_narrow 0 0 0 σ [.ref a, .int s, .long z] (fun r σ' => σ' = σ ∧ r = some (.long (narS s z))) := by
  refine z_intro (by decide) (Nat.le_of_ble_eq_true rfl) (fun X hX => ?_)
  refine bk hX lkX12_ok (pc' := 1) [.iload_n 1] (by decide +kernel) (And.intro trivial ?_)
  refine if_ne hX (10) 11 (by decide +kernel) (by decide) (fun c1 => ?_) (fun c1 => ?_)
  · refine bk hX lkX12_ok (pc' := 13) [.iload_n 1, .iconst 1] (by decide +kernel) (And.intro trivial ?_)
    refine ic_ne hX (10) 23 (by decide +kernel) (by decide) (fun c2 => ?_) (fun c2 => ?_)
    · refine bk hX lkX12_ok (pc' := 25) [.iload_n 1, .iconst 2] (by decide +kernel) (And.intro trivial ?_)
      refine ic_ne hX (9) 34 (by decide +kernel) (by decide) (fun c3 => ?_) (fun c3 => ?_)
      · refine bk hX lkX12_ok (pc' := 36) [.iload_n 1, .iconst 4] (by decide +kernel) (And.intro trivial ?_)
        refine ic_ne hX (17) 53 (by decide +kernel) (by decide) (fun c4 => ?_) (fun c4 => ?_)
        · refine bk hX lkX12_ok (pc' := 54) [.lload_n 2] (by decide +kernel) (And.intro trivial ?_)
          exact z_lret hX (by decide +kernel) rfl (by decide) (by decide) (by
  refine ⟨rfl, ?_⟩
  unfold narS
  first
    | (rw [if_pos (show s = nI 0 from c1)]; done)
    | (rw [if_neg (show ¬ s = nI 0 from c1), if_pos c2]; done)
    | (rw [if_neg (show ¬ s = nI 0 from c1), if_neg c2, if_pos c3]; done)
    | (rw [if_neg (show ¬ s = nI 0 from c1), if_neg c2, if_neg c3, if_pos c4, if_pos (show z = 0 from lg_cmp0.mp c5)]; rfl)
    | (rw [if_neg (show ¬ s = nI 0 from c1), if_neg c2, if_neg c3, if_pos c4, if_neg (fun y : z = 0 => c5 (lg_cmp0.mpr y))]; rfl)
    | (rw [if_neg (show ¬ s = nI 0 from c1), if_neg c2, if_neg c3, if_neg c4]; done))
        · refine bk hX lkX12_ok (pc' := 42) [.lload_n 2, .lconst 0, .lcmp] (by decide +kernel) (And.intro trivial ?_)
          refine if_eq hX (7) 49 (by decide +kernel) (by decide) (fun c5 => ?_) (fun c5 => ?_)
          · refine bk hX lkX12_ok (pc' := 50) [.lconst 0] (by decide +kernel) (And.intro trivial ?_)
            refine gt_ hX (4) 54 (by decide +kernel) (by decide) ?_
            exact z_lret hX (by decide +kernel) rfl (by decide) (by decide) (by
  refine ⟨rfl, ?_⟩
  unfold narS
  first
    | (rw [if_pos (show s = nI 0 from c1)]; done)
    | (rw [if_neg (show ¬ s = nI 0 from c1), if_pos c2]; done)
    | (rw [if_neg (show ¬ s = nI 0 from c1), if_neg c2, if_pos c3]; done)
    | (rw [if_neg (show ¬ s = nI 0 from c1), if_neg c2, if_neg c3, if_pos c4, if_pos (show z = 0 from lg_cmp0.mp c5)]; rfl)
    | (rw [if_neg (show ¬ s = nI 0 from c1), if_neg c2, if_neg c3, if_pos c4, if_neg (fun y : z = 0 => c5 (lg_cmp0.mpr y))]; rfl)
    | (rw [if_neg (show ¬ s = nI 0 from c1), if_neg c2, if_neg c3, if_neg c4]; done))
          · refine bk hX lkX12_ok (pc' := 46) [.lconst 1] (by decide +kernel) (And.intro trivial ?_)
            refine gt_ hX (8) 54 (by decide +kernel) (by decide) ?_
            exact z_lret hX (by decide +kernel) rfl (by decide) (by decide) (by
  refine ⟨rfl, ?_⟩
  unfold narS
  first
    | (rw [if_pos (show s = nI 0 from c1)]; done)
    | (rw [if_neg (show ¬ s = nI 0 from c1), if_pos c2]; done)
    | (rw [if_neg (show ¬ s = nI 0 from c1), if_neg c2, if_pos c3]; done)
    | (rw [if_neg (show ¬ s = nI 0 from c1), if_neg c2, if_neg c3, if_pos c4, if_pos (show z = 0 from lg_cmp0.mp c5)]; rfl)
    | (rw [if_neg (show ¬ s = nI 0 from c1), if_neg c2, if_neg c3, if_pos c4, if_neg (fun y : z = 0 => c5 (lg_cmp0.mpr y))]; rfl)
    | (rw [if_neg (show ¬ s = nI 0 from c1), if_neg c2, if_neg c3, if_neg c4]; done))
      · refine bk hX lkX12_ok (pc' := 31) [.lload_n 2, .l2i, .i2l] (by decide +kernel) (And.intro trivial ?_)
        refine gt_ hX (23) 54 (by decide +kernel) (by decide) ?_
        exact z_lret hX (by decide +kernel) rfl (by decide) (by decide) (by
  refine ⟨rfl, ?_⟩
  unfold narS
  first
    | (rw [if_pos (show s = nI 0 from c1)]; done)
    | (rw [if_neg (show ¬ s = nI 0 from c1), if_pos c2]; done)
    | (rw [if_neg (show ¬ s = nI 0 from c1), if_neg c2, if_pos c3]; done)
    | (rw [if_neg (show ¬ s = nI 0 from c1), if_neg c2, if_neg c3, if_pos c4, if_pos (show z = 0 from lg_cmp0.mp c5)]; rfl)
    | (rw [if_neg (show ¬ s = nI 0 from c1), if_neg c2, if_neg c3, if_pos c4, if_neg (fun y : z = 0 => c5 (lg_cmp0.mpr y))]; rfl)
    | (rw [if_neg (show ¬ s = nI 0 from c1), if_neg c2, if_neg c3, if_neg c4]; done))
    · refine bk hX lkX12_ok (pc' := 20) [.lload_n 2, .l2i, .i2s, .i2l] (by decide +kernel) (And.intro trivial ?_)
      refine gt_ hX (34) 54 (by decide +kernel) (by decide) ?_
      exact z_lret hX (by decide +kernel) rfl (by decide) (by decide) (by
  refine ⟨rfl, ?_⟩
  unfold narS
  first
    | (rw [if_pos (show s = nI 0 from c1)]; done)
    | (rw [if_neg (show ¬ s = nI 0 from c1), if_pos c2]; done)
    | (rw [if_neg (show ¬ s = nI 0 from c1), if_neg c2, if_pos c3]; done)
    | (rw [if_neg (show ¬ s = nI 0 from c1), if_neg c2, if_neg c3, if_pos c4, if_pos (show z = 0 from lg_cmp0.mp c5)]; rfl)
    | (rw [if_neg (show ¬ s = nI 0 from c1), if_neg c2, if_neg c3, if_pos c4, if_neg (fun y : z = 0 => c5 (lg_cmp0.mpr y))]; rfl)
    | (rw [if_neg (show ¬ s = nI 0 from c1), if_neg c2, if_neg c3, if_neg c4]; done))
  · refine bk hX lkX12_ok (pc' := 8) [.lload_n 2, .l2i, .i2b, .i2l] (by decide +kernel) (And.intro trivial ?_)
    refine gt_ hX (46) 54 (by decide +kernel) (by decide) ?_
    exact z_lret hX (by decide +kernel) rfl (by decide) (by decide) (by
  refine ⟨rfl, ?_⟩
  unfold narS
  first
    | (rw [if_pos (show s = nI 0 from c1)]; done)
    | (rw [if_neg (show ¬ s = nI 0 from c1), if_pos c2]; done)
    | (rw [if_neg (show ¬ s = nI 0 from c1), if_neg c2, if_pos c3]; done)
    | (rw [if_neg (show ¬ s = nI 0 from c1), if_neg c2, if_neg c3, if_pos c4, if_pos (show z = 0 from lg_cmp0.mp c5)]; rfl)
    | (rw [if_neg (show ¬ s = nI 0 from c1), if_neg c2, if_neg c3, if_pos c4, if_neg (fun y : z = 0 => c5 (lg_cmp0.mpr y))]; rfl)
    | (rw [if_neg (show ¬ s = nI 0 from c1), if_neg c2, if_neg c3, if_neg c4]; done))
def itmT (T : Tp) (t i : Nat) (z : Int64) : Tp := (T.1, T.2.1, fun x y => if x = t ∧ y = i then z else T.2.2 x y)
def itmS (T : Tp) (t i : Int32) (z : Int64) : Int32 × Tp := if isIn t 6 = true then (if T.1 (jx t) = -nI 1 then (-nI 11, T) else if isIn i (T.2.1 (jx t)) = true then (1, itmT T (jx t) (jx i) (narS (T.1 (jx t)) z)) else (-nI 13, T)) else (-nI 1, T)
set_option maxHeartbeats 1000000 in
set_option maxRecDepth 4000 in
theorem c_M_item (E : zE) (K N : Nat → Nat) (Rf : Nat → Nat → Option Nat) (I : Nat → Nat → Int32) (L : Nat → Nat → Int64) {T : Tp} (hw : tpw T) (hT : mTp T I L) (t i : Int32) (z : Int64) : zCt E mX12_item 2 0 0 (sg K N Rf I L) [.ref 100, .int t, .int i, .long z] (fun r σ' => ∃ L', σ' = sg K N Rf I L' ∧ r = some (.int (itmS T t i z).1) ∧ mTp (itmS T t i z).2 I L' ∧ frL L L') := by
  refine z_intro (by decide) (Nat.le_of_ble_eq_true rfl) (fun X hX => ?_)
  refine bk hX lkX12_ok (pc' := 2) [.aload_n 0, .iload_n 1] (by decide +kernel) (And.intro trivial ?_)
  refine z_callV hX kw_X12_388 (c_M_isTape E _ rfl _) rfl rfl rfl rfl rfl (by decide +kernel) (by decide) (by decide) (by decide) (by decide) (Nat.le_of_ble_eq_true rfl) ?_
  rintro _ _ ⟨rfl, hh⟩
  rw [tap_in] at hh
  rcases hh with ⟨ht, rfl⟩ | ⟨ht, rfl⟩
  · refine if_ne hX (5) 10 (by decide +kernel) (by decide) (fun c_5 => ?_) (fun c => absurd c (by decide))
    obtain ⟨a, ha, rfl⟩ := (isIn_iff (by decide)).mp ht
    have ca : (nI a).toNatClampNeg = a := cl (by omega)
    have ja : jx (nI a) = a := ca
    obtain ⟨t1, t2, t3⟩ := hT a ha
    have h60 := (hw a ha).2
    refine bk hX lkX12_ok (pc' := 16) [.aload_n 0, .getfield 211, .iload_n 1, .iaload] (by decide +kernel) (And.intro (by exact vin 6 ha) (And.intro trivial ?_))
    rw [ca, show I (101 + 66) a = _ from t1]
    refine if_ge hX (6) 22 (by decide +kernel) (by decide) (fun c1 => ?_) (fun c1 => ?_)
    · have h1 : ¬ T.1 a = -nI 1 := (tpw_lt hw ha).2.mp c1
      refine bk hX lkX12_ok (pc' := 31) [.aload_n 0, .iload_n 2, .iconst 0, .aload_n 0, .getfield 214, .iload_n 1, .iaload] (by decide +kernel) (And.intro (by exact vin 6 ha) (And.intro trivial ?_))
      rw [ca, show I (101 + 67) a = _ from t2]
      refine bk hX lkX12_ok (pc' := 33) [.iconst 1, .isub] (by decide +kernel) (And.intro trivial ?_)
      refine z_callV hX kw_X12_228 (c_M_in E _ _ _ _ _) rfl rfl rfl rfl rfl (by decide +kernel) (by decide) (by decide) (by decide) (by decide) (Nat.le_of_ble_eq_true rfl) ?_
      rintro _ _ ⟨rfl, hh⟩
      rw [i_in (by omega), ← isIn_iff (by omega)] at hh
      rcases hh with ⟨hi, rfl⟩ | ⟨hi, rfl⟩
      · refine if_ne hX (6) 42 (by decide +kernel) (by decide) (fun c_36 => ?_) (fun c => absurd c (by decide))
        obtain ⟨k, hk, rfl⟩ := (isIn_iff (by omega)).mp hi
        have ck : (nI (60 * a + k)).toNatClampNeg = 60 * a + k := cl (by omega)
        refine bk hX lkX12_ok (pc' := 59) [.aload_n 0, .getfield 217, .bipush 60, .iload_n 1, .imul, .iload_n 2, .iadd, .aload_n 0, .aload_n 0, .getfield 211, .iload_n 1, .iaload] (by decide +kernel) (And.intro (by exact vin 6 ha) (And.intro trivial ?_))
        rw [ca, show I (101 + 66) a = _ from t1, show nI 60 * nI a = nI (60 * a) from pk_mul _ _, nI_add]
        refine bk hX lkX12_ok (pc' := 60) [.lload_n 3] (by decide +kernel) (And.intro trivial ?_)
        refine z_callV hX kw_X12_415 (c_M_narrow E _ _ _ _) rfl rfl rfl rfl rfl (by decide +kernel) (by decide) (by decide) (by decide) (by decide) (Nat.le_of_ble_eq_true rfl) ?_
        rintro _ _ ⟨rfl, rfl⟩
        refine bk hX lkX12_ok (pc' := 65) [.lastore, .iconst 1] (by decide +kernel) (And.intro (by exact vin 360 (by omega)) (And.intro trivial ?_))
        exact z_iret hX (by decide +kernel) rfl (rfl) (by decide) (by decide) (by
  have hS : itmS T (nI a) (nI k) z = (1, itmT T a k (narS (T.1 a) z)) := by unfold itmS; rw [if_pos ht, ja, if_neg h1, if_pos hi, jx_nI (by omega)]
  rw [hS, ck]
  refine ⟨_, rfl, rfl, fun x hx => ?_, frL_at (Or.inl rfl)⟩
  obtain ⟨q1, q2, q3⟩ := hT x hx
  refine ⟨q1, q2, fun j hj => ?_⟩
  have hj' : j < T.2.1 x := hj
  have hx60 := (hw x hx).2
  show up2 L 169 (60 * a + k) (narS (T.1 a) z) 169 (60 * x + j) = if x = a ∧ j = k then narS (T.1 a) z else T.2.2 x j
  rw [up2_at]
  by_cases e : x = a ∧ j = k
  · rw [if_pos e, if_pos (by omega)]
  · rw [if_neg e, if_neg (by omega)]
    exact q3 j hj' )
      · refine if_ne hX (6) 42 (by decide +kernel) (by decide) (fun c => absurd (by decide) c) (fun c_36 => ?_)
        refine bk hX lkX12_ok (pc' := 41) [.bipush (Int.negSucc 12)] (by decide +kernel) (And.intro trivial ?_)
        exact z_iret hX (by decide +kernel) rfl (rfl) (by decide) (by decide) (⟨L, rfl, by unfold itmS; rw [if_pos ht, ja, if_neg h1, if_neg hi], by unfold itmS; rw [if_pos ht, ja, if_neg h1, if_neg hi]; exact hT, frL_rf _⟩)
    · refine bk hX lkX12_ok (pc' := 21) [.bipush (Int.negSucc 10)] (by decide +kernel) (And.intro trivial ?_)
      exact z_iret hX (by decide +kernel) rfl (rfl) (by decide) (by decide) (by have h1 : T.1 a = -nI 1 := (tpw_lt hw ha).1.mp (i_nle.mp c1); exact ⟨L, rfl, by unfold itmS; rw [if_pos ht, ja, if_pos h1], by unfold itmS; rw [if_pos ht, ja, if_pos h1]; exact hT, frL_rf _⟩)
  · refine if_ne hX (5) 10 (by decide +kernel) (by decide) (fun c => absurd (by decide) c) (fun c_5 => ?_)
    refine bk hX lkX12_ok (pc' := 9) [.iconst (Int.negSucc 0)] (by decide +kernel) (And.intro trivial ?_)
    exact z_iret hX (by decide +kernel) rfl (rfl) (by decide) (by decide) (⟨L, rfl, by unfold itmS; rw [if_neg ht], by unfold itmS; rw [if_neg ht]; exact hT, frL_rf _⟩)
def redS (T : Tp) (t i : Int32) : Int64 := if isIn t 6 = true ∧ isIn i (T.2.1 (jx t)) = true then T.2.2 (jx t) (jx i) else zNO
theorem c_M_read (E : zE) (K N : Nat → Nat) (Rf : Nat → Nat → Option Nat) (I : Nat → Nat → Int32) (L : Nat → Nat → Int64) {T : Tp} (hw : tpw T) (hT : mTp T I L) (t i : Int32) : zCt E mX12_read 2 0 0 (sg K N Rf I L) [.ref 100, .int t, .int i] (fun r σ' => σ' = (sg K N Rf I L) ∧ r = some (.long (redS T t i))) := by
  refine z_intro (by decide) (Nat.le_of_ble_eq_true rfl) (fun X hX => ?_)
  refine bk hX lkX12_ok (pc' := 2) [.aload_n 0, .iload_n 1] (by decide +kernel) (And.intro trivial ?_)
  refine z_callV hX kw_X12_388 (c_M_isTape E _ rfl _) rfl rfl rfl rfl rfl (by decide +kernel) (by decide) (by decide) (by decide) (by decide) (Nat.le_of_ble_eq_true rfl) ?_
  rintro _ _ ⟨rfl, hh⟩
  rw [tap_in] at hh
  rcases hh with ⟨ht, rfl⟩ | ⟨ht, rfl⟩
  · refine if_eq hX (29) 34 (by decide +kernel) (by decide) (fun c => absurd c (by decide)) (fun c_5 => ?_)
    obtain ⟨a, ha, rfl⟩ := (isIn_iff (by decide)).mp ht
    have ca : (nI a).toNatClampNeg = a := cl (by omega)
    have ja : jx (nI a) = a := ca
    obtain ⟨t1, t2, t3⟩ := hT a ha
    have h60 := (hw a ha).2
    refine bk hX lkX12_ok (pc' := 14) [.aload_n 0, .getfield 211, .iload_n 1, .iaload] (by decide +kernel) (And.intro (by exact vin 6 ha) (And.intro trivial ?_))
    rw [ca, show I (101 + 66) a = _ from t1]
    refine if_lt hX (20) 34 (by decide +kernel) (by decide) (fun c1 => ?_) (fun c1 => ?_)
    · refine bk hX lkX12_ok (pc' := 37) [.ldc2_w 373] (by decide +kernel) (And.intro trivial ?_)
      refine gt_ hX (14) 51 (by decide +kernel) (by decide) ?_
      exact z_lret hX (by decide +kernel) rfl (by decide) (by decide) (by first
  | (refine ⟨rfl, ?_⟩
     unfold redS
     rw [if_neg (fun z => ht z.1)]
     rfl)
  | (refine ⟨rfl, ?_⟩
     unfold redS
     rw [if_neg (fun z => hi (by have := z.2; rw [ja] at this; exact this))]
     rfl)
  | (refine ⟨rfl, ?_⟩
     have h0 : T.2.1 a = 0 := by
       rcases (hw a ha).1 with h | ⟨s, hs, e⟩
       · exact h.2
       · rw [e] at c1
         have h5 : s = 0 ∨ s = 1 ∨ s = 2 ∨ s = 3 ∨ s = 4 := by omega
         rcases h5 with rfl | rfl | rfl | rfl | rfl <;> exact absurd c1 (by decide)
     unfold redS
     rw [if_neg (fun z => by have := z.2; rw [ja, h0, isIn_iff (by decide)] at this; obtain ⟨j, hj, -⟩ := this; exact absurd hj (Nat.not_lt_zero _))]
     rfl)
  | (refine ⟨rfl, ?_⟩
     unfold redS
     rw [if_pos ⟨ht, by rw [ja]; exact hi⟩, ja, jx_nI (by omega), show nI 60 * nI a = nI (60 * a) from pk_mul _ _, nI_add, ck, show L (101 + 68) (60 * a + k) = _ from t3 k hk]))
    · refine bk hX lkX12_ok (pc' := 26) [.aload_n 0, .iload_n 2, .iconst 0, .aload_n 0, .getfield 214, .iload_n 1, .iaload] (by decide +kernel) (And.intro (by exact vin 6 ha) (And.intro trivial ?_))
      rw [ca, show I (101 + 67) a = _ from t2]
      refine bk hX lkX12_ok (pc' := 28) [.iconst 1, .isub] (by decide +kernel) (And.intro trivial ?_)
      refine z_callV hX kw_X12_228 (c_M_in E _ _ _ _ _) rfl rfl rfl rfl rfl (by decide +kernel) (by decide) (by decide) (by decide) (by decide) (Nat.le_of_ble_eq_true rfl) ?_
      rintro _ _ ⟨rfl, hh⟩
      rw [i_in (by omega), ← isIn_iff (by omega)] at hh
      rcases hh with ⟨hi, rfl⟩ | ⟨hi, rfl⟩
      · refine if_ne hX (9) 40 (by decide +kernel) (by decide) (fun c_31 => ?_) (fun c => absurd c (by decide))
        obtain ⟨k, hk, rfl⟩ := (isIn_iff (by omega)).mp hi
        have ck : (nI (60 * a + k)).toNatClampNeg = 60 * a + k := cl (by omega)
        refine bk hX lkX12_ok (pc' := 51) [.aload_n 0, .getfield 217, .bipush 60, .iload_n 1, .imul, .iload_n 2, .iadd, .laload] (by decide +kernel) (And.intro (by rw [show nI 60 * nI a = nI (60 * a) from pk_mul _ _, nI_add]; exact vin 360 (by omega)) (And.intro trivial ?_))
        exact z_lret hX (by decide +kernel) rfl (by decide) (by decide) (by first
  | (refine ⟨rfl, ?_⟩
     unfold redS
     rw [if_neg (fun z => ht z.1)]
     rfl)
  | (refine ⟨rfl, ?_⟩
     unfold redS
     rw [if_neg (fun z => hi (by have := z.2; rw [ja] at this; exact this))]
     rfl)
  | (refine ⟨rfl, ?_⟩
     have h0 : T.2.1 a = 0 := by
       rcases (hw a ha).1 with h | ⟨s, hs, e⟩
       · exact h.2
       · rw [e] at c1
         have h5 : s = 0 ∨ s = 1 ∨ s = 2 ∨ s = 3 ∨ s = 4 := by omega
         rcases h5 with rfl | rfl | rfl | rfl | rfl <;> exact absurd c1 (by decide)
     unfold redS
     rw [if_neg (fun z => by have := z.2; rw [ja, h0, isIn_iff (by decide)] at this; obtain ⟨j, hj, -⟩ := this; exact absurd hj (Nat.not_lt_zero _))]
     rfl)
  | (refine ⟨rfl, ?_⟩
     unfold redS
     rw [if_pos ⟨ht, by rw [ja]; exact hi⟩, ja, jx_nI (by omega), show nI 60 * nI a = nI (60 * a) from pk_mul _ _, nI_add, ck, show L (101 + 68) (60 * a + k) = _ from t3 k hk]))
      · refine if_ne hX (9) 40 (by decide +kernel) (by decide) (fun c => absurd (by decide) c) (fun c_31 => ?_)
        refine bk hX lkX12_ok (pc' := 37) [.ldc2_w 373] (by decide +kernel) (And.intro trivial ?_)
        refine gt_ hX (14) 51 (by decide +kernel) (by decide) ?_
        exact z_lret hX (by decide +kernel) rfl (by decide) (by decide) (by first
  | (refine ⟨rfl, ?_⟩
     unfold redS
     rw [if_neg (fun z => ht z.1)]
     rfl)
  | (refine ⟨rfl, ?_⟩
     unfold redS
     rw [if_neg (fun z => hi (by have := z.2; rw [ja] at this; exact this))]
     rfl)
  | (refine ⟨rfl, ?_⟩
     have h0 : T.2.1 a = 0 := by
       rcases (hw a ha).1 with h | ⟨s, hs, e⟩
       · exact h.2
       · rw [e] at c1
         have h5 : s = 0 ∨ s = 1 ∨ s = 2 ∨ s = 3 ∨ s = 4 := by omega
         rcases h5 with rfl | rfl | rfl | rfl | rfl <;> exact absurd c1 (by decide)
     unfold redS
     rw [if_neg (fun z => by have := z.2; rw [ja, h0, isIn_iff (by decide)] at this; obtain ⟨j, hj, -⟩ := this; exact absurd hj (Nat.not_lt_zero _))]
     rfl)
  | (refine ⟨rfl, ?_⟩
     unfold redS
     rw [if_pos ⟨ht, by rw [ja]; exact hi⟩, ja, jx_nI (by omega), show nI 60 * nI a = nI (60 * a) from pk_mul _ _, nI_add, ck, show L (101 + 68) (60 * a + k) = _ from t3 k hk]))
  · refine if_eq hX (29) 34 (by decide +kernel) (by decide) (fun c_5 => ?_) (fun c => absurd (by decide) c)
    refine bk hX lkX12_ok (pc' := 37) [.ldc2_w 373] (by decide +kernel) (And.intro trivial ?_)
    refine gt_ hX (14) 51 (by decide +kernel) (by decide) ?_
    exact z_lret hX (by decide +kernel) rfl (by decide) (by decide) (by first
  | (refine ⟨rfl, ?_⟩
     unfold redS
     rw [if_neg (fun z => ht z.1)]
     rfl)
  | (refine ⟨rfl, ?_⟩
     unfold redS
     rw [if_neg (fun z => hi (by have := z.2; rw [ja] at this; exact this))]
     rfl)
  | (refine ⟨rfl, ?_⟩
     have h0 : T.2.1 a = 0 := by
       rcases (hw a ha).1 with h | ⟨s, hs, e⟩
       · exact h.2
       · rw [e] at c1
         have h5 : s = 0 ∨ s = 1 ∨ s = 2 ∨ s = 3 ∨ s = 4 := by omega
         rcases h5 with rfl | rfl | rfl | rfl | rfl <;> exact absurd c1 (by decide)
     unfold redS
     rw [if_neg (fun z => by have := z.2; rw [ja, h0, isIn_iff (by decide)] at this; obtain ⟨j, hj, -⟩ := this; exact absurd hj (Nat.not_lt_zero _))]
     rfl)
  | (refine ⟨rfl, ?_⟩
     unfold redS
     rw [if_pos ⟨ht, by rw [ja]; exact hi⟩, ja, jx_nI (by omega), show nI 60 * nI a = nI (60 * a) from pk_mul _ _, nI_add, ck, show L (101 + 68) (60 * a + k) = _ from t3 k hk]))
def jdL (T : Tp) (g : Gv) (t : Nat) (i : Int32) : Nat → Nat → Int32
  | 0, _ => -nI 5
  | m + 1, c => if isIn i (T.2.1 t - c) = true then (if T.2.2 t (jx i + c) = lN (gh g c) then jdL T g t i m (c + 1) else nI c) else nI (100 + c)
def judS (T : Tp) (g : Gv) (t i : Int32) : Int32 := if isIn t 6 = true then (if T.1 (jx t) = -nI 1 ∨ T.1 (jx t) = nI 1 then jdL T g (jx t) i (gn g) 0 else -nI 12) else -nI 1
theorem in_len {i : Int32} {n c : Nat} (hn : n ≤ 60) (hc : c < 6) : (isIn i (n - c) = true) ↔ (¬ i < 0 ∧ ¬ nI n - nI c - nI 1 < i) := by
  have e1 : (nI n - nI c - nI 1).toInt = (n : Int) - c - 1 := by
    have h1 := pk_sub_toInt (a := n) (b := c + 1) (by omega) (by omega)
    rw [← nI_add, ← Int32.sub_sub] at h1
    rw [h1]
    omega
  unfold isIn
  rw [decide_eq_true_iff, Int32.lt_iff_toInt_lt, Int32.lt_iff_toInt_lt, e1]
  have e0 : (0 : Int32).toInt = 0 := rfl
  rw [e0]
  omega
set_option maxHeartbeats 1000000 in
theorem c_M_judge (E : zE) (K N : Nat → Nat) (Rf : Nat → Nat → Option Nat) (I : Nat → Nat → Int32) (L : Nat → Nat → Int64) {g : Gv} (hg : gwf g) (hG : mG g I) {T : Tp} (hw : tpw T) (hT : mTp T I L) (t i : Int32) : zCt E mX12_judge 2 0 0 (sg K N Rf I L) [.ref 100, .int t, .int i] (fun r σ' => σ' = (sg K N Rf I L) ∧ r = some (.int (judS T g t i))) := by
  have h6 := hg.1
  refine z_intro (by decide) (Nat.le_of_ble_eq_true rfl) (fun X hX => ?_)
  have hl : ∀ a, a < 6 → t = nI a → (T.1 a = -nI 1 ∨ T.1 a = nI 1) → ∀ m c, c + m = gn g → jdL T g a i m c = judS T g t i → zS X (sg K N Rf I L) 0 0 34 [(0, .ref 100), (1, .int t), (2, .int i), (3, .int (nI c))] [] := by
    intro a ha hta hs m
    subst hta
    obtain ⟨t1, t2, t3⟩ := hT a ha
    have h60 := (hw a ha).2
    have ca : (nI a).toNatClampNeg = a := cl (by omega)
    induction m with
    | zero =>
      intro c hc hf
      obtain rfl : c = gn g := by omega
      refine bk hX lkX12_ok (pc' := 39) [.iload_n 3, .aload_n 0, .getfield 7] (by decide +kernel) (And.intro trivial ?_)
      rw [hG.1]
      refine ic_ge hX (67) 106 (by decide +kernel) (by decide) (fun c_39 => ?_) (fun c => absurd (nI_le (by omega) (by omega)) c)
      refine bk hX lkX12_ok (pc' := 108) [.bipush (Int.negSucc 4)] (by decide +kernel) (And.intro trivial ?_)
      exact z_iret hX (by decide +kernel) rfl (rfl) (by decide) (by decide) (by rw [← hf]; exact ⟨rfl, rfl⟩)
    | succ m ih =>
      intro c hc hf
      have cc : (nI c).toNatClampNeg = c := cl (by omega)
      have hf' : (if isIn i (T.2.1 a - c) = true then (if T.2.2 a (jx i + c) = lN (gh g c) then jdL T g a i m (c + 1) else nI c) else nI (100 + c)) = judS T g (nI a) i := hf
      have hgl := (hg.2.1 c (by omega)).2.2.2.1
      refine bk hX lkX12_ok (pc' := 39) [.iload_n 3, .aload_n 0, .getfield 7] (by decide +kernel) (And.intro trivial ?_)
      rw [hG.1]
      refine ic_ge hX (67) 106 (by decide +kernel) (by decide) (fun c => absurd c (nI_ge (by omega) (by omega))) (fun c_39 => ?_)
      refine bk hX lkX12_ok (pc' := 48) [.aload_n 0, .getfield 211, .iload_n 1, .iaload] (by decide +kernel) (And.intro (by exact vin 6 ha) (And.intro trivial ?_))
      rw [ca, show I (101 + 66) a = _ from t1]
      refine if_lt hX (21) 69 (by decide +kernel) (by decide) (fun c1 => ?_) (fun c1 => ?_)
      · refine bk hX lkX12_ok (pc' := 73) [.bipush 100, .iload_n 3, .iadd] (by decide +kernel) (And.intro trivial ?_)
        exact z_iret hX (by decide +kernel) rfl (rfl) (by decide) (by decide) (by
  have h1 : ¬ isIn i (T.2.1 a - c) = true := by
    first
      | (have h0 : T.2.1 a = 0 := by
           rcases (hw a ha).1 with h | ⟨s, hs, e⟩
           · exact h.2
           · rw [e] at c1
             have h5 : s = 0 ∨ s = 1 ∨ s = 2 ∨ s = 3 ∨ s = 4 := by omega
             rcases h5 with rfl | rfl | rfl | rfl | rfl <;> exact absurd c1 (by decide)
         rw [h0, isIn_iff (by omega)]
         rintro ⟨j, hj, -⟩
         omega)
      | exact fun z => ((in_len h60 (by omega)).mp z).1 c2
      | exact fun z => ((in_len h60 (by omega)).mp z).2 (i_nle.mp c3)
  rw [if_neg h1] at hf'
  rw [← hf', nI_add]
  exact ⟨rfl, rfl⟩)
      · refine bk hX lkX12_ok (pc' := 52) [.iload_n 2] (by decide +kernel) (And.intro trivial ?_)
        refine if_lt hX (17) 69 (by decide +kernel) (by decide) (fun c2 => ?_) (fun c2 => ?_)
        · refine bk hX lkX12_ok (pc' := 73) [.bipush 100, .iload_n 3, .iadd] (by decide +kernel) (And.intro trivial ?_)
          exact z_iret hX (by decide +kernel) rfl (rfl) (by decide) (by decide) (by
  have h1 : ¬ isIn i (T.2.1 a - c) = true := by
    first
      | (have h0 : T.2.1 a = 0 := by
           rcases (hw a ha).1 with h | ⟨s, hs, e⟩
           · exact h.2
           · rw [e] at c1
             have h5 : s = 0 ∨ s = 1 ∨ s = 2 ∨ s = 3 ∨ s = 4 := by omega
             rcases h5 with rfl | rfl | rfl | rfl | rfl <;> exact absurd c1 (by decide)
         rw [h0, isIn_iff (by omega)]
         rintro ⟨j, hj, -⟩
         omega)
      | exact fun z => ((in_len h60 (by omega)).mp z).1 c2
      | exact fun z => ((in_len h60 (by omega)).mp z).2 (i_nle.mp c3)
  rw [if_neg h1] at hf'
  rw [← hf', nI_add]
  exact ⟨rfl, rfl⟩)
        · refine bk hX lkX12_ok (pc' := 62) [.iload_n 2, .aload_n 0, .getfield 214, .iload_n 1, .iaload] (by decide +kernel) (And.intro (by exact vin 6 ha) (And.intro trivial ?_))
          rw [ca, show I (101 + 67) a = _ from t2]
          refine bk hX lkX12_ok (pc' := 66) [.iload_n 3, .isub, .iconst 1, .isub] (by decide +kernel) (And.intro trivial ?_)
          refine ic_le hX (8) 74 (by decide +kernel) (by decide) (fun c3 => ?_) (fun c3 => ?_)
          · have h1 : isIn i (T.2.1 a - c) = true := (in_len h60 (by omega)).mpr ⟨c2, i_nlt.mpr c3⟩
            obtain ⟨k, hk, rfl⟩ := (isIn_iff (by omega)).mp h1
            have ck : (nI (60 * a + k + c)).toNatClampNeg = 60 * a + k + c := cl (by omega)
            rw [if_pos h1, jx_nI (by omega)] at hf'
            refine bk hX lkX12_ok (pc' := 95) [.aload_n 0, .getfield 217, .bipush 60, .iload_n 1, .imul, .iload_n 2, .iadd, .iload_n 3, .iadd, .laload, .aload_n 0, .getfield 29, .iload_n 3, .iaload, .i2l, .lcmp] (by decide +kernel) (And.intro (by rw [show nI 60 * nI a = nI (60 * a) from pk_mul _ _, nI_add, nI_add]; exact vin 360 (by omega)) (And.intro (by exact vin 6 (by omega)) (And.intro trivial ?_)))
            rw [show nI 60 * nI a = nI (60 * a) from pk_mul _ _, nI_add, nI_add, ck, cc, show I (101 + 6) c = _ from mG_gh hG (by omega), nI_l (by omega), show 60 * a + k + c = 60 * a + (k + c) by omega, show L (101 + 68) (60 * a + (k + c)) = _ from t3 (k + c) (by omega)]
            refine if_eq hX (5) 100 (by decide +kernel) (by decide) (fun c4 => ?_) (fun c4 => ?_)
            · refine bk hX lkX12_ok (pc' := 103) [.iinc 3 1] (by decide +kernel) (And.intro trivial ?_)
              refine gt_ hX (-69) 34 (by decide +kernel) (by decide) ?_
              refine z_lvk (lv' := [(0, _), (1, _), (2, _), (3, _)]) [1, 2, 3, 0] rfl ?_
              rw [if_pos (lg_cmp0.mp c4)] at hf'
              rw [nI_add]
              exact ih (c + 1) (by omega) hf'
            · refine bk hX lkX12_ok (pc' := 99) [.iload_n 3] (by decide +kernel) (And.intro trivial ?_)
              exact z_iret hX (by decide +kernel) rfl (rfl) (by decide) (by decide) (by rw [if_neg (fun z => c4 (lg_cmp0.mpr z))] at hf'; rw [← hf']; exact ⟨rfl, rfl⟩)
          · refine bk hX lkX12_ok (pc' := 73) [.bipush 100, .iload_n 3, .iadd] (by decide +kernel) (And.intro trivial ?_)
            exact z_iret hX (by decide +kernel) rfl (rfl) (by decide) (by decide) (by
  have h1 : ¬ isIn i (T.2.1 a - c) = true := by
    first
      | (have h0 : T.2.1 a = 0 := by
           rcases (hw a ha).1 with h | ⟨s, hs, e⟩
           · exact h.2
           · rw [e] at c1
             have h5 : s = 0 ∨ s = 1 ∨ s = 2 ∨ s = 3 ∨ s = 4 := by omega
             rcases h5 with rfl | rfl | rfl | rfl | rfl <;> exact absurd c1 (by decide)
         rw [h0, isIn_iff (by omega)]
         rintro ⟨j, hj, -⟩
         omega)
      | exact fun z => ((in_len h60 (by omega)).mp z).1 c2
      | exact fun z => ((in_len h60 (by omega)).mp z).2 (i_nle.mp c3)
  rw [if_neg h1] at hf'
  rw [← hf', nI_add]
  exact ⟨rfl, rfl⟩)
  refine bk hX lkX12_ok (pc' := 2) [.aload_n 0, .iload_n 1] (by decide +kernel) (And.intro trivial ?_)
  refine z_callV hX kw_X12_388 (c_M_isTape E _ rfl _) rfl rfl rfl rfl rfl (by decide +kernel) (by decide) (by decide) (by decide) (by decide) (Nat.le_of_ble_eq_true rfl) ?_
  rintro _ _ ⟨rfl, hh⟩
  rw [tap_in] at hh
  rcases hh with ⟨ht, rfl⟩ | ⟨ht, rfl⟩
  · refine if_ne hX (5) 10 (by decide +kernel) (by decide) (fun c_5 => ?_) (fun c => absurd c (by decide))
    obtain ⟨a, ha, rfl⟩ := (isIn_iff (by decide)).mp ht
    have ca : (nI a).toNatClampNeg = a := cl (by omega)
    have ja : jx (nI a) = a := ca
    obtain ⟨t1, t2, t3⟩ := hT a ha
    refine bk hX lkX12_ok (pc' := 16) [.aload_n 0, .getfield 211, .iload_n 1, .iaload] (by decide +kernel) (And.intro (by exact vin 6 ha) (And.intro trivial ?_))
    rw [ca, show I (101 + 66) a = _ from t1]
    refine if_lt hX (16) 32 (by decide +kernel) (by decide) (fun c1 => ?_) (fun c1 => ?_)
    · refine bk hX lkX12_ok (pc' := 34) [.iconst 0, .istore_n 3] (by decide +kernel) (And.intro trivial ?_)
      refine z_lvk (lv' := [(0, _), (1, _), (2, _), (3, _)]) [1, 2, 3, 0] rfl ?_
      have hs : T.1 a = -nI 1 ∨ T.1 a = nI 1 := by first | exact Or.inl ((tpw_lt hw ha).1.mp c1) | exact Or.inr c2
      exact hl a ha rfl hs (gn g) 0 (by omega) (by unfold judS; rw [if_pos ht, ja, if_pos hs])
    · refine bk hX lkX12_ok (pc' := 25) [.aload_n 0, .getfield 211, .iload_n 1, .iaload] (by decide +kernel) (And.intro (by exact vin 6 ha) (And.intro trivial ?_))
      rw [ca, show I (101 + 66) a = _ from t1]
      refine bk hX lkX12_ok (pc' := 26) [.iconst 1] (by decide +kernel) (And.intro trivial ?_)
      refine ic_eq hX (6) 32 (by decide +kernel) (by decide) (fun c2 => ?_) (fun c2 => ?_)
      · refine bk hX lkX12_ok (pc' := 34) [.iconst 0, .istore_n 3] (by decide +kernel) (And.intro trivial ?_)
        refine z_lvk (lv' := [(0, _), (1, _), (2, _), (3, _)]) [1, 2, 3, 0] rfl ?_
        have hs : T.1 a = -nI 1 ∨ T.1 a = nI 1 := by first | exact Or.inl ((tpw_lt hw ha).1.mp c1) | exact Or.inr c2
        exact hl a ha rfl hs (gn g) 0 (by omega) (by unfold judS; rw [if_pos ht, ja, if_pos hs])
      · refine bk hX lkX12_ok (pc' := 31) [.bipush (Int.negSucc 11)] (by decide +kernel) (And.intro trivial ?_)
        exact z_iret hX (by decide +kernel) rfl (rfl) (by decide) (by decide) (⟨rfl, by unfold judS; rw [if_pos ht, ja, if_neg (fun z => z.elim (fun y => c1 ((tpw_lt hw ha).1.mpr y)) c2)]⟩)
  · refine if_ne hX (5) 10 (by decide +kernel) (by decide) (fun c => absurd (by decide) c) (fun c_5 => ?_)
    refine bk hX lkX12_ok (pc' := 9) [.iconst (Int.negSucc 0)] (by decide +kernel) (And.intro trivial ?_)
    exact z_iret hX (by decide +kernel) rfl (rfl) (by decide) (by decide) (⟨rfl, by unfold judS; rw [if_neg ht]⟩)
end
section
def shfT (T : Tp) (t i o j k : Nat) : Tp := (T.1, T.2.1, fun x y => if x = o ∧ j ≤ y ∧ y < j + k then T.2.2 t (i + (y - j)) else T.2.2 x y)
abbrev shBad (T : Tp) (t o : Nat) (i j n : Int32) : Prop := n < 0 ∨ i < 0 ∨ j < 0 ∨ nI (T.2.1 t) - n < i ∨ nI (T.2.1 o) - n < j
def shfS (T : Tp) (t i o j n : Int32) : Int32 × Tp := if isIn t 6 = true ∧ isIn o 6 = true then (if T.1 (jx t) = -nI 1 ∨ T.1 (jx o) = -nI 1 then (-nI 11, T) else if T.1 (jx t) = T.1 (jx o) then (if shBad T (jx t) (jx o) i j n then (-nI 13, T) else (n, shfT T (jx t) (jx i) (jx o) (jx j) (jx n))) else (-nI 12, T)) else (-nI 1, T)
theorem sub_l {l k : Nat} (hl : l ≤ 60) (hk : k < 2 ^ 31) : (nI l - nI k).toInt = (l : Int) - k := by
  rw [Int32.toInt_sub, nI_toInt (by omega), nI_toInt hk]
  simp only [Int.bmod]
  split <;> omega
theorem sh_ok {T : Tp} (hw : tpw T) {t o : Nat} (ht : t < 6) (ho : o < 6) {i j n : Int32} (h : ¬ shBad T t o i j n) : ∃ k x y, n = nI k ∧ i = nI x ∧ j = nI y ∧ x + k ≤ T.2.1 t ∧ y + k ≤ T.2.1 o := by
  unfold shBad at h
  have h1 : ¬ n < 0 := fun z => h (Or.inl z)
  have h2 : ¬ i < 0 := fun z => h (Or.inr (Or.inl z))
  have h3 : ¬ j < 0 := fun z => h (Or.inr (Or.inr (Or.inl z)))
  have h4 : ¬ nI (T.2.1 t) - n < i := fun z => h (Or.inr (Or.inr (Or.inr (Or.inl z))))
  have h5 : ¬ nI (T.2.1 o) - n < j := fun z => h (Or.inr (Or.inr (Or.inr (Or.inr z))))
  obtain ⟨k, hk, rfl⟩ := nI_of h1
  obtain ⟨x, hx, rfl⟩ := nI_of h2
  obtain ⟨y, hy, rfl⟩ := nI_of h3
  rw [Int32.lt_iff_toInt_lt, sub_l (hw t ht).2 hk, nI_toInt hx] at h4
  rw [Int32.lt_iff_toInt_lt, sub_l (hw o ho).2 hk, nI_toInt hy] at h5
  exact ⟨k, x, y, rfl, rfl, rfl, by omega, by omega⟩
set_option maxHeartbeats 2000000 in
set_option maxRecDepth 4000 in
theorem c_M_shift (E : zE) (K N : Nat → Nat) (Rf : Nat → Nat → Option Nat) (I : Nat → Nat → Int32) (L : Nat → Nat → Int64) {T : Tp} (hw : tpw T) (hT : mTp T I L) (t i o j n : Int32) : zCt E mX12_shift 2 0 0 (sg K N Rf I L) [.ref 100, .int t, .int i, .int o, .int j, .int n] (fun r σ' => ∃ L', σ' = sg K N Rf I L' ∧ r = some (.int (shfS T t i o j n).1) ∧ mTp (shfS T t i o j n).2 I L' ∧ frL L L') := by
  refine z_intro (by decide) (Nat.le_of_ble_eq_true rfl) (fun X hX => ?_)
  have hl2 : ∀ a x b y k, a < 6 → b < 6 → t = nI a → i = nI x → o = nI b → j = nI y → n = nI k → x + k ≤ T.2.1 a → y + k ≤ T.2.1 b → shfS T t i o j n = (n, shfT T a x b y k) → ∀ m q (L1 : Nat → Nat → Int64), q + m = k → (∀ r, r < k → L1 170 r = T.2.2 a (x + r)) → (∀ r, r < q → L1 169 (60 * b + y + r) = T.2.2 a (x + r)) → (∀ p z, p ≠ 170 → ¬ (p = 169 ∧ 60 * b + y ≤ z ∧ z < 60 * b + y + k) → L1 p z = L p z) → zS X (sg K N Rf I L1) 0 0 141 [(0, .ref 100), (1, .int t), (2, .int i), (3, .int o), (4, .int j), (5, .int n), (6, .int (nI q))] [] := by
    intro a x b y k ha hb e1 e2 e3 e4 e5 hx hy hS m
    subst e1 e2 e3 e4 e5
    have ha60 := (hw a ha).2
    have hb60 := (hw b hb).2
    induction m with
    | zero =>
      intro q L1 hq h1 h2 h3
      obtain rfl : q = k := by omega
      refine bk hX lkX12_ok (pc' := 145) [.iload 6, .iload 5] (by decide +kernel) (And.intro trivial ?_)
      refine ic_ge hX (31) 176 (by decide +kernel) (by decide) (fun c_145 => ?_) (fun c => absurd (nI_le (by omega) (by omega)) c)
      refine bk hX lkX12_ok (pc' := 178) [.iload 5] (by decide +kernel) (And.intro trivial ?_)
      exact z_iret hX (by decide +kernel) rfl (rfl) (by decide) (by decide) (by
  rw [hS]
  refine ⟨_, rfl, rfl, fun c hc => ?_, fun p p1 p2 => funext fun z => h3 p z p2 (fun w => p1 w.1)⟩
  obtain ⟨t1, t2, t3⟩ := hT c hc
  refine ⟨t1, t2, fun u hu => ?_⟩
  have hu' : u < T.2.1 c := hu
  have hc60 := (hw c hc).2
  show L1 169 (60 * c + u) = if c = b ∧ y ≤ u ∧ u < y + q then T.2.2 a (x + (u - y)) else T.2.2 c u
  by_cases e : c = b ∧ y ≤ u ∧ u < y + q
  · rw [if_pos e]
    obtain ⟨rfl, e2, e3⟩ := e
    have := h2 (u - y) (by omega)
    rw [show 60 * c + y + (u - y) = 60 * c + u by omega] at this
    exact this
  · rw [if_neg e, h3 _ _ (by decide) (by omega)]
    exact t3 u hu' )
    | succ m ih =>
      intro q L1 hq h1 h2 h3
      have cq : (nI q).toNatClampNeg = q := cl (by omega)
      have ci : (nI (60 * b + y + q)).toNatClampNeg = 60 * b + y + q := cl (by omega)
      refine bk hX lkX12_ok (pc' := 145) [.iload 6, .iload 5] (by decide +kernel) (And.intro trivial ?_)
      refine ic_ge hX (31) 176 (by decide +kernel) (by decide) (fun c => absurd c (nI_ge (by omega) (by omega))) (fun c_145 => ?_)
      refine bk hX lkX12_ok (pc' := 173) [.aload_n 0, .getfield 217, .bipush 60, .iload_n 3, .imul, .iload 4, .iadd, .iload 6, .iadd, .aload_n 0, .getfield 221, .iload 6, .laload, .lastore, .iinc 6 1] (by decide +kernel) (And.intro (by exact vin 60 (by omega)) (And.intro (by rw [show nI 60 * nI b = nI (60 * b) from pk_mul _ _, nI_add, nI_add]; exact vin 360 (by omega)) (And.intro trivial ?_)))
      refine gt_ hX (-32) 141 (by decide +kernel) (by decide) ?_
      refine z_lvk (lv' := [(0, _), (1, _), (2, _), (3, _), (4, _), (5, _), (6, _)]) [1, 2, 3, 4, 5, 6, 0] rfl ?_
      rw [show nI 60 * nI b = nI (60 * b) from pk_mul _ _, nI_add, nI_add, nI_add, ci, cq, show L1 (101 + 69) q = _ from h1 q (by omega)]
      exact ih (q + 1) _ (by omega) (fun r hr => by rw [up2_ne _ _ _ (by decide)]; exact h1 r hr) (fun r hr => by
        rw [up2_at]
        split
        · rename_i e
          rw [show r = q by omega]
        · exact h2 r (by omega)) (fun p z hp hz => by
        rw [up2_v, if_neg (by omega)]
        exact h3 p z hp hz)
  have hl1 : ∀ a x b y k, a < 6 → b < 6 → t = nI a → i = nI x → o = nI b → j = nI y → n = nI k → x + k ≤ T.2.1 a → y + k ≤ T.2.1 b → shfS T t i o j n = (n, shfT T a x b y k) → ∀ m q (L1 : Nat → Nat → Int64), q + m = k → (∀ r, r < q → L1 170 r = T.2.2 a (x + r)) → (∀ p, p ≠ 170 → L1 p = L p) → zS X (sg K N Rf I L1) 0 0 104 [(0, .ref 100), (1, .int t), (2, .int i), (3, .int o), (4, .int j), (5, .int n), (6, .int (nI q))] [] := by
    intro a x b y k ha hb e1 e2 e3 e4 e5 hx hy hS m
    subst e1 e2 e3 e4 e5
    have ha60 := (hw a ha).2
    have hb60 := (hw b hb).2
    obtain ⟨t1, t2, t3⟩ := hT a ha
    induction m with
    | zero =>
      intro q L1 hq h1 h2
      obtain rfl : q = k := by omega
      refine bk hX lkX12_ok (pc' := 108) [.iload 6, .iload 5] (by decide +kernel) (And.intro trivial ?_)
      refine ic_ge hX (30) 138 (by decide +kernel) (by decide) (fun c_108 => ?_) (fun c => absurd (nI_le (by omega) (by omega)) c)
      refine bk hX lkX12_ok (pc' := 141) [.iconst 0, .istore 6] (by decide +kernel) (And.intro trivial ?_)
      refine z_lvk (lv' := [(0, _), (1, _), (2, _), (3, _), (4, _), (5, _), (6, _)]) [1, 2, 3, 4, 5, 6, 0] rfl ?_
      exact hl2 a x b y q ha hb rfl rfl rfl rfl rfl hx hy hS q 0 L1 (by omega) h1 (fun r hr => absurd hr (Nat.not_lt_zero _)) (fun p z hp _ => by rw [h2 p hp])
    | succ m ih =>
      intro q L1 hq h1 h2
      have cq : (nI q).toNatClampNeg = q := cl (by omega)
      have ci : (nI (60 * a + x + q)).toNatClampNeg = 60 * a + x + q := cl (by omega)
      have e3 : L1 169 (60 * a + x + q) = T.2.2 a (x + q) := by
        rw [h2 _ (by decide), show 60 * a + x + q = 60 * a + (x + q) by omega]
        exact t3 (x + q) (by omega)
      refine bk hX lkX12_ok (pc' := 108) [.iload 6, .iload 5] (by decide +kernel) (And.intro trivial ?_)
      refine ic_ge hX (30) 138 (by decide +kernel) (by decide) (fun c => absurd c (nI_ge (by omega) (by omega))) (fun c_108 => ?_)
      refine bk hX lkX12_ok (pc' := 135) [.aload_n 0, .getfield 221, .iload 6, .aload_n 0, .getfield 217, .bipush 60, .iload_n 1, .imul, .iload_n 2, .iadd, .iload 6, .iadd, .laload, .lastore, .iinc 6 1] (by decide +kernel) (And.intro (by rw [show nI 60 * nI a = nI (60 * a) from pk_mul _ _, nI_add, nI_add]; exact vin 360 (by omega)) (And.intro (by exact vin 60 (by omega)) (And.intro trivial ?_)))
      refine gt_ hX (-31) 104 (by decide +kernel) (by decide) ?_
      refine z_lvk (lv' := [(0, _), (1, _), (2, _), (3, _), (4, _), (5, _), (6, _)]) [1, 2, 3, 4, 5, 6, 0] rfl ?_
      rw [show nI 60 * nI a = nI (60 * a) from pk_mul _ _, nI_add, nI_add, nI_add, ci, cq, show L1 (101 + 68) _ = _ from e3]
      exact ih (q + 1) _ (by omega) (fun r hr => by
        rw [up2_at]
        split
        · rename_i e
          rw [e]
        · exact h1 r (by omega)) (fun p hp => by rw [up2_ne _ _ _ hp]; exact h2 p hp)
  refine bk hX lkX12_ok (pc' := 2) [.aload_n 0, .iload_n 1] (by decide +kernel) (And.intro trivial ?_)
  refine z_callV hX kw_X12_388 (c_M_isTape E _ rfl _) rfl rfl rfl rfl rfl (by decide +kernel) (by decide) (by decide) (by decide) (by decide) (Nat.le_of_ble_eq_true rfl) ?_
  rintro _ _ ⟨rfl, hh⟩
  rw [tap_in] at hh
  rcases hh with ⟨ht, rfl⟩ | ⟨ht, rfl⟩
  · refine if_eq hX (11) 16 (by decide +kernel) (by decide) (fun c => absurd c (by decide)) (fun c_5 => ?_)
    refine bk hX lkX12_ok (pc' := 10) [.aload_n 0, .iload_n 3] (by decide +kernel) (And.intro trivial ?_)
    refine z_callV hX kw_X12_388 (c_M_isTape E _ rfl _) rfl rfl rfl rfl rfl (by decide +kernel) (by decide) (by decide) (by decide) (by decide) (Nat.le_of_ble_eq_true rfl) ?_
    rintro _ _ ⟨rfl, hh⟩
    rw [tap_in] at hh
    rcases hh with ⟨ho, rfl⟩ | ⟨ho, rfl⟩
    · refine if_ne hX (5) 18 (by decide +kernel) (by decide) (fun c_13 => ?_) (fun c => absurd c (by decide))
      obtain ⟨a, ha, rfl⟩ := (isIn_iff (by decide)).mp ht
      obtain ⟨b, hb, rfl⟩ := (isIn_iff (by decide)).mp ho
      have ca : (nI a).toNatClampNeg = a := cl (by omega)
      have cb : (nI b).toNatClampNeg = b := cl (by omega)
      obtain ⟨t1, t2, t3⟩ := hT a ha
      obtain ⟨o1, o2, o3⟩ := hT b hb
      have hS : shfS T (nI a) i (nI b) j n = if T.1 a = -nI 1 ∨ T.1 b = -nI 1 then (-nI 11, T) else if T.1 a = T.1 b then (if shBad T a b i j n then (-nI 13, T) else (n, shfT T a (jx i) b (jx j) (jx n))) else (-nI 12, T) := by
        unfold shfS; rw [if_pos ⟨ht, ho⟩, jx_nI (by omega), jx_nI (by omega)]
      refine bk hX lkX12_ok (pc' := 24) [.aload_n 0, .getfield 211, .iload_n 1, .iaload] (by decide +kernel) (And.intro (by exact vin 6 ha) (And.intro trivial ?_))
      rw [ca, show I (101 + 66) a = _ from t1]
      refine if_lt hX (12) 36 (by decide +kernel) (by decide) (fun c1 => ?_) (fun c1 => ?_)
      · refine bk hX lkX12_ok (pc' := 38) [.bipush (Int.negSucc 10)] (by decide +kernel) (And.intro trivial ?_)
        exact z_iret hX (by decide +kernel) rfl (rfl) (by decide) (by decide) (by rw [hS]; first | (rw [if_pos (Or.inl ((tpw_lt hw ha).1.mp c1))]; exact ⟨L, rfl, rfl, hT, frL_rf _⟩) | (rw [if_pos (Or.inr ((tpw_lt hw hb).1.mp (i_nle.mp c2)))]; exact ⟨L, rfl, rfl, hT, frL_rf _⟩))
      · refine bk hX lkX12_ok (pc' := 33) [.aload_n 0, .getfield 211, .iload_n 3, .iaload] (by decide +kernel) (And.intro (by exact vin 6 hb) (And.intro trivial ?_))
        rw [cb, show I (101 + 66) b = _ from o1]
        refine if_ge hX (6) 39 (by decide +kernel) (by decide) (fun c2 => ?_) (fun c2 => ?_)
        · have hn : ¬ (T.1 a = -nI 1 ∨ T.1 b = -nI 1) := fun z => z.elim (fun y => c1 ((tpw_lt hw ha).1.mpr y)) (fun y => (tpw_lt hw hb).2.mp c2 y)
          rw [if_neg hn] at hS
          refine bk hX lkX12_ok (pc' := 51) [.aload_n 0, .getfield 211, .iload_n 1, .iaload, .aload_n 0, .getfield 211, .iload_n 3, .iaload] (by decide +kernel) (And.intro (by exact vin 6 ha) (And.intro (by exact vin 6 hb) (And.intro trivial ?_)))
          rw [ca, cb, show I (101 + 66) a = _ from t1, show I (101 + 66) b = _ from o1]
          refine ic_eq hX (6) 57 (by decide +kernel) (by decide) (fun c3 => ?_) (fun c3 => ?_)
          · rw [if_pos c3] at hS
            refine bk hX lkX12_ok (pc' := 59) [.iload 5] (by decide +kernel) (And.intro trivial ?_)
            refine if_lt hX (39) 98 (by decide +kernel) (by decide) (fun d1 => ?_) (fun d1 => ?_)
            · refine bk hX lkX12_ok (pc' := 100) [.bipush (Int.negSucc 12)] (by decide +kernel) (And.intro trivial ?_)
              exact z_iret hX (by decide +kernel) rfl (rfl) (by decide) (by decide) (by
  have hb : shBad T a b i j n := by first | exact Or.inl d1 | exact Or.inr (Or.inl d2) | exact Or.inr (Or.inr (Or.inl d3)) | exact Or.inr (Or.inr (Or.inr (Or.inl d4))) | exact Or.inr (Or.inr (Or.inr (Or.inr (i_nle.mp d5))))
  rw [hS, if_pos hb]; exact ⟨L, rfl, rfl, hT, frL_rf _⟩)
            · refine bk hX lkX12_ok (pc' := 63) [.iload_n 2] (by decide +kernel) (And.intro trivial ?_)
              refine if_lt hX (35) 98 (by decide +kernel) (by decide) (fun d2 => ?_) (fun d2 => ?_)
              · refine bk hX lkX12_ok (pc' := 100) [.bipush (Int.negSucc 12)] (by decide +kernel) (And.intro trivial ?_)
                exact z_iret hX (by decide +kernel) rfl (rfl) (by decide) (by decide) (by
  have hb : shBad T a b i j n := by first | exact Or.inl d1 | exact Or.inr (Or.inl d2) | exact Or.inr (Or.inr (Or.inl d3)) | exact Or.inr (Or.inr (Or.inr (Or.inl d4))) | exact Or.inr (Or.inr (Or.inr (Or.inr (i_nle.mp d5))))
  rw [hS, if_pos hb]; exact ⟨L, rfl, rfl, hT, frL_rf _⟩)
              · refine bk hX lkX12_ok (pc' := 68) [.iload 4] (by decide +kernel) (And.intro trivial ?_)
                refine if_lt hX (30) 98 (by decide +kernel) (by decide) (fun d3 => ?_) (fun d3 => ?_)
                · refine bk hX lkX12_ok (pc' := 100) [.bipush (Int.negSucc 12)] (by decide +kernel) (And.intro trivial ?_)
                  exact z_iret hX (by decide +kernel) rfl (rfl) (by decide) (by decide) (by
  have hb : shBad T a b i j n := by first | exact Or.inl d1 | exact Or.inr (Or.inl d2) | exact Or.inr (Or.inr (Or.inl d3)) | exact Or.inr (Or.inr (Or.inr (Or.inl d4))) | exact Or.inr (Or.inr (Or.inr (Or.inr (i_nle.mp d5))))
  rw [hS, if_pos hb]; exact ⟨L, rfl, rfl, hT, frL_rf _⟩)
                · refine bk hX lkX12_ok (pc' := 78) [.iload_n 2, .aload_n 0, .getfield 214, .iload_n 1, .iaload] (by decide +kernel) (And.intro (by exact vin 6 ha) (And.intro trivial ?_))
                  rw [ca, show I (101 + 67) a = _ from t2]
                  refine bk hX lkX12_ok (pc' := 81) [.iload 5, .isub] (by decide +kernel) (And.intro trivial ?_)
                  refine ic_gt hX (17) 98 (by decide +kernel) (by decide) (fun d4 => ?_) (fun d4 => ?_)
                  · refine bk hX lkX12_ok (pc' := 100) [.bipush (Int.negSucc 12)] (by decide +kernel) (And.intro trivial ?_)
                    exact z_iret hX (by decide +kernel) rfl (rfl) (by decide) (by decide) (by
  have hb : shBad T a b i j n := by first | exact Or.inl d1 | exact Or.inr (Or.inl d2) | exact Or.inr (Or.inr (Or.inl d3)) | exact Or.inr (Or.inr (Or.inr (Or.inl d4))) | exact Or.inr (Or.inr (Or.inr (Or.inr (i_nle.mp d5))))
  rw [hS, if_pos hb]; exact ⟨L, rfl, rfl, hT, frL_rf _⟩)
                  · refine bk hX lkX12_ok (pc' := 92) [.iload 4, .aload_n 0, .getfield 214, .iload_n 3, .iaload] (by decide +kernel) (And.intro (by exact vin 6 hb) (And.intro trivial ?_))
                    rw [cb, show I (101 + 67) b = _ from o2]
                    refine bk hX lkX12_ok (pc' := 95) [.iload 5, .isub] (by decide +kernel) (And.intro trivial ?_)
                    refine ic_le hX (6) 101 (by decide +kernel) (by decide) (fun d5 => ?_) (fun d5 => ?_)
                    · refine bk hX lkX12_ok (pc' := 104) [.iconst 0, .istore 6] (by decide +kernel) (And.intro trivial ?_)
                      refine z_lvk (lv' := [(0, _), (1, _), (2, _), (3, _), (4, _), (5, _), (6, _)]) [1, 2, 3, 4, 5, 6, 0] rfl ?_
                      have hbd : ¬ shBad T a b i j n := fun z => by
                        rcases z with z | z | z | z | z
                        · exact d1 z
                        · exact d2 z
                        · exact d3 z
                        · exact d4 z
                        · exact i_nlt.mpr d5 z
                      rw [if_neg hbd] at hS
                      have ha60 := (hw a ha).2
                      have hb60 := (hw b hb).2
                      obtain ⟨k, x, y, rfl, rfl, rfl, hx, hy⟩ := sh_ok hw ha hb hbd
                      rw [jx_nI (by omega), jx_nI (by omega), jx_nI (by omega)] at hS
                      exact hl1 a x b y k ha hb rfl rfl rfl rfl rfl hx hy hS k 0 L (by omega) (fun r hr => absurd hr (Nat.not_lt_zero _)) (fun _ _ => rfl)
                    · refine bk hX lkX12_ok (pc' := 100) [.bipush (Int.negSucc 12)] (by decide +kernel) (And.intro trivial ?_)
                      exact z_iret hX (by decide +kernel) rfl (rfl) (by decide) (by decide) (by
  have hb : shBad T a b i j n := by first | exact Or.inl d1 | exact Or.inr (Or.inl d2) | exact Or.inr (Or.inr (Or.inl d3)) | exact Or.inr (Or.inr (Or.inr (Or.inl d4))) | exact Or.inr (Or.inr (Or.inr (Or.inr (i_nle.mp d5))))
  rw [hS, if_pos hb]; exact ⟨L, rfl, rfl, hT, frL_rf _⟩)
          · refine bk hX lkX12_ok (pc' := 56) [.bipush (Int.negSucc 11)] (by decide +kernel) (And.intro trivial ?_)
            exact z_iret hX (by decide +kernel) rfl (rfl) (by decide) (by decide) (by rw [hS, if_neg c3]; exact ⟨L, rfl, rfl, hT, frL_rf _⟩)
        · refine bk hX lkX12_ok (pc' := 38) [.bipush (Int.negSucc 10)] (by decide +kernel) (And.intro trivial ?_)
          exact z_iret hX (by decide +kernel) rfl (rfl) (by decide) (by decide) (by rw [hS]; first | (rw [if_pos (Or.inl ((tpw_lt hw ha).1.mp c1))]; exact ⟨L, rfl, rfl, hT, frL_rf _⟩) | (rw [if_pos (Or.inr ((tpw_lt hw hb).1.mp (i_nle.mp c2)))]; exact ⟨L, rfl, rfl, hT, frL_rf _⟩))
    · refine if_ne hX (5) 18 (by decide +kernel) (by decide) (fun c => absurd (by decide) c) (fun c_13 => ?_)
      refine bk hX lkX12_ok (pc' := 17) [.iconst (Int.negSucc 0)] (by decide +kernel) (And.intro trivial ?_)
      exact z_iret hX (by decide +kernel) rfl (rfl) (by decide) (by decide) (by first | exact ⟨L, rfl, by unfold shfS; rw [if_neg (fun z => ht z.1)], by unfold shfS; rw [if_neg (fun z => ht z.1)]; exact hT, frL_rf _⟩ | exact ⟨L, rfl, by unfold shfS; rw [if_neg (fun z => ho z.2)], by unfold shfS; rw [if_neg (fun z => ho z.2)]; exact hT, frL_rf _⟩)
  · refine if_eq hX (11) 16 (by decide +kernel) (by decide) (fun c_5 => ?_) (fun c => absurd (by decide) c)
    refine bk hX lkX12_ok (pc' := 17) [.iconst (Int.negSucc 0)] (by decide +kernel) (And.intro trivial ?_)
    exact z_iret hX (by decide +kernel) rfl (rfl) (by decide) (by decide) (by first | exact ⟨L, rfl, by unfold shfS; rw [if_neg (fun z => ht z.1)], by unfold shfS; rw [if_neg (fun z => ht z.1)]; exact hT, frL_rf _⟩ | exact ⟨L, rfl, by unfold shfS; rw [if_neg (fun z => ho z.2)], by unfold shfS; rw [if_neg (fun z => ho z.2)]; exact hT, frL_rf _⟩)
end
section
/-! the image: rows that are copied -/
def imD (j : Nat) : Nat := 153 + j
def imS (j : Nat) : Nat := zget [104, 105, 106, 107, 108, 136, 137, 138, 141, 142, 143, 144] j
def imL (j : Nat) : Nat := zget [6, 6, 6, 6, 24, 5, 5, 5, 10, 10, 8, 8] j
def imG (j : Nat) : Nat := zget [0, 0, 0, 0, 1, 2, 2, 2, 3, 3, 4, 4] j
def imF (j : Nat) : Nat := zget [9, 0, 1, 2, 34, 38, 39] j
def imC (g i j : Nat) : Nat := bif Nat.blt (imG j) g then imL j else bif Nat.beq (imG j) g then i else 0
def cpS (D S c : Nat → Nat) (I0 I1 : Nat → Nat → Int32) : Prop := (∀ j, j < 12 → ∀ k, k < c j → I1 (D j) k = I0 (S j) k) ∧ (∀ q, (∀ j, j < 12 → q ≠ D j) → I1 q = I0 q)
def cpW (D S : Nat → Nat) : Prop := (∀ a, a < 12 → ∀ b, b < 12 → D a = D b → a = b) ∧ (∀ a, a < 12 → ∀ b, b < 12 → S a ≠ D b) ∧ ∀ a, a < 12 → D a ≠ 100
theorem cpW_im : cpW imD imS := by unfold cpW; decide +kernel
theorem cpW_un : cpW imS imD := by unfold cpW; decide +kernel
theorem cp1 {D S c : Nat → Nat} {I0 I1 : Nat → Nat → Int32} (hW : cpW D S) (h : cpS D S c I0 I1) (j : Nat) (hj : j < 12) {i : Nat} (hc : c j = i) : cpS D S (upN c j (i + 1)) I0 (up2 I1 (D j) i (I1 (S j) i)) := by
  refine ⟨fun b hb k hk => ?_, fun q hq => ?_⟩
  · rw [up2_v]
    by_cases e : b = j
    · subst e
      rw [upN_at] at hk
      by_cases e2 : k = i
      · subst e2
        rw [if_pos ⟨rfl, rfl⟩, h.2 _ (fun z hz => hW.2.1 b hb z hz)]
      · rw [if_neg (fun z => e2 z.2)]
        exact h.1 b hb k (by omega)
    · rw [upN_ne _ _ e] at hk
      rw [if_neg (fun z => e (hW.1 b hb j hj z.1))]
      exact h.1 b hb k hk
  · rw [up2_ne _ _ _ (hq j hj)]
    exact h.2 q hq
theorem cp_le {D S c c' : Nat → Nat} {I0 I1 : Nat → Nat → Int32} (h : cpS D S c I0 I1) (hc : ∀ j, j < 12 → c' j ≤ c j) : cpS D S c' I0 I1 := ⟨fun j hj k hk => h.1 j hj k (Nat.lt_of_lt_of_le hk (hc j hj)), h.2⟩
theorem j12 {j : Nat} (h : j < 12) : j = 0 ∨ j = 1 ∨ j = 2 ∨ j = 3 ∨ j = 4 ∨ j = 5 ∨ j = 6 ∨ j = 7 ∨ j = 8 ∨ j = 9 ∨ j = 10 ∨ j = 11 := by omega
theorem imC_0 (j : Nat) (h : j < 12) : imC 0 0 j = 0 := by rcases j12 h with rfl | rfl | rfl | rfl | rfl | rfl | rfl | rfl | rfl | rfl | rfl | rfl <;> rfl
theorem imC_5 (j : Nat) (h : j < 12) : imC 5 0 j = imL j := by rcases j12 h with rfl | rfl | rfl | rfl | rfl | rfl | rfl | rfl | rfl | rfl | rfl | rfl <;> rfl
theorem imC_s0 (i j : Nat) (hj : j < 12) : imC 0 (i + 1) j ≤ (upN (upN (upN (upN (imC 0 i) 0 (i + 1)) 1 (i + 1)) 2 (i + 1)) 3 (i + 1)) j := by
  rcases j12 hj with rfl | rfl | rfl | rfl | rfl | rfl | rfl | rfl | rfl | rfl | rfl | rfl <;> first | exact Nat.le_refl _ | exact Nat.zero_le _
theorem imC_n0 (j : Nat) (hj : j < 12) : imC 1 0 j ≤ imC 0 6 j := by
  rcases j12 hj with rfl | rfl | rfl | rfl | rfl | rfl | rfl | rfl | rfl | rfl | rfl | rfl <;> exact Nat.le_of_ble_eq_true rfl
theorem imC_s1 (i j : Nat) (hj : j < 12) : imC 1 (i + 1) j ≤ (upN (imC 1 i) 4 (i + 1)) j := by
  rcases j12 hj with rfl | rfl | rfl | rfl | rfl | rfl | rfl | rfl | rfl | rfl | rfl | rfl <;> first | exact Nat.le_refl _ | exact Nat.zero_le _
theorem imC_n1 (j : Nat) (hj : j < 12) : imC 2 0 j ≤ imC 1 24 j := by
  rcases j12 hj with rfl | rfl | rfl | rfl | rfl | rfl | rfl | rfl | rfl | rfl | rfl | rfl <;> exact Nat.le_of_ble_eq_true rfl
theorem imC_s2 (i j : Nat) (hj : j < 12) : imC 2 (i + 1) j ≤ (upN (upN (upN (imC 2 i) 5 (i + 1)) 6 (i + 1)) 7 (i + 1)) j := by
  rcases j12 hj with rfl | rfl | rfl | rfl | rfl | rfl | rfl | rfl | rfl | rfl | rfl | rfl <;> first | exact Nat.le_refl _ | exact Nat.zero_le _
theorem imC_n2 (j : Nat) (hj : j < 12) : imC 3 0 j ≤ imC 2 5 j := by
  rcases j12 hj with rfl | rfl | rfl | rfl | rfl | rfl | rfl | rfl | rfl | rfl | rfl | rfl <;> exact Nat.le_of_ble_eq_true rfl
theorem imC_s3 (i j : Nat) (hj : j < 12) : imC 3 (i + 1) j ≤ (upN (upN (imC 3 i) 8 (i + 1)) 9 (i + 1)) j := by
  rcases j12 hj with rfl | rfl | rfl | rfl | rfl | rfl | rfl | rfl | rfl | rfl | rfl | rfl <;> first | exact Nat.le_refl _ | exact Nat.zero_le _
theorem imC_n3 (j : Nat) (hj : j < 12) : imC 4 0 j ≤ imC 3 10 j := by
  rcases j12 hj with rfl | rfl | rfl | rfl | rfl | rfl | rfl | rfl | rfl | rfl | rfl | rfl <;> exact Nat.le_of_ble_eq_true rfl
theorem imC_s4 (i j : Nat) (hj : j < 12) : imC 4 (i + 1) j ≤ (upN (upN (imC 4 i) 10 (i + 1)) 11 (i + 1)) j := by
  rcases j12 hj with rfl | rfl | rfl | rfl | rfl | rfl | rfl | rfl | rfl | rfl | rfl | rfl <;> first | exact Nat.le_refl _ | exact Nat.zero_le _
theorem imC_n4 (j : Nat) (hj : j < 12) : imC 5 0 j ≤ imC 4 8 j := by
  rcases j12 hj with rfl | rfl | rfl | rfl | rfl | rfl | rfl | rfl | rfl | rfl | rfl | rfl <;> exact Nat.le_of_ble_eq_true rfl
theorem frX_cp {D S c : Nat → Nat} {Ps Fs : List Nat} {I I0 I1 : Nat → Nat → Int32} (h : cpS D S c I0 I1) (hW : cpW D S) (hD : ∀ j, j < 12 → D j ∈ Ps) (h0 : frX Ps Fs I I0) : frX Ps Fs I I1 := by
  refine ⟨fun q hq h1 => ?_, fun k hk => ?_⟩
  · rw [h.2 q (fun j hj z => hq (by rw [z]; exact hD j hj))]
    exact h0.1 q hq h1
  · rw [h.2 100 (fun j hj z => hW.2.2 j hj z.symm)]
    exact h0.2 k hk
theorem hS100 : ∀ j, j < 12 → imS j ≠ 100 := by decide +kernel
set_option maxHeartbeats 4000000 in
set_option maxRecDepth 8000 in
theorem c_M_image (E : zE) (K N : Nat → Nat) (Rf : Nat → Nat → Option Nat) (I : Nat → Nat → Int32) (L : Nat → Nat → Int64) : zCt E mX12_image 0 0 0 (sg K N Rf I L) [.ref 100] (fun r σ' => ∃ I', σ' = sg K N Rf I' L ∧ r = some (.int (I 100 0)) ∧ (∀ j, j < 12 → ∀ k, k < imL j → I' (imD j) k = I (imS j) k) ∧ (∀ j, j < 7 → I' 100 (45 + j) = I 100 (imF j)) ∧ I' 100 44 = nI 1 ∧ frX [153, 154, 155, 156, 157, 158, 159, 160, 161, 162, 163, 164] [44, 45, 46, 47, 48, 49, 50, 51] I I') := by
  refine z_intro (by decide) (Nat.le_of_ble_eq_true rfl) (fun X hX => ?_)
  have hl : ∀ I0 : Nat → Nat → Int32, (∀ k, k < 44 → I0 100 k = I 100 k) → (∀ q, q ≠ 100 → I0 q = I q) → (∀ j, j < 7 → I0 100 (45 + j) = I 100 (imF j)) → I0 100 44 = nI 1 → frX [153, 154, 155, 156, 157, 158, 159, 160, 161, 162, 163, 164] [44, 45, 46, 47, 48, 49, 50, 51] I I0 → zS X (sg K N Rf I0 L) 0 0 63 [(0, .ref 100), (1, .int (nI 0))] [] := by
    intro I0 hI0 hI1 hI2 hI3 hI4
    have hl4 : ∀ m i (I1 : Nat → Nat → Int32), i + m = 8 → cpS imD imS (imC 4 i) I0 I1 → zS X (sg K N Rf I1 L) 0 0 238 [(0, .ref 100), (1, .int (nI i))] [] := by
      intro m
      induction m with
      | zero =>
        intro i I1 hi h1
        obtain rfl : i = 8 := by omega
        refine bk hX lkX12_ok (pc' := 241) [.iload_n 1, .bipush 8] (by decide +kernel) (And.intro trivial ?_)
        refine ic_ge hX (33) 274 (by decide +kernel) (by decide) (fun c_241 => ?_) (fun c => absurd (by decide) c)
        refine bk hX lkX12_ok (pc' := 278) [.aload_n 0, .getfield 7] (by decide +kernel) (And.intro trivial ?_)
        exact z_iret hX (by decide +kernel) rfl (rfl) (by decide) (by decide) (by
    have h2 : cpS imD imS imL I0 I1 := cp_le h1 (fun j hj => by rw [← imC_5 j hj]; exact imC_n4 j hj)
    have e100 : I1 100 = I0 100 := h2.2 100 (fun j hj z => cpW_im.2.2 j hj z.symm)
    refine ⟨I1, rfl, by rw [e100, hI0 0 (by decide)], fun j hj k hk => by rw [h2.1 j hj k hk, hI1 _ (hS100 j hj)], fun j hj => by rw [e100]; exact hI2 j hj, by rw [e100]; exact hI3, frX_cp h2 cpW_im (by decide +kernel) hI4⟩)
      | succ m ih =>
        intro i I1 hi h1
        have ci : (nI i).toNatClampNeg = i := cl (by omega)
        refine bk hX lkX12_ok (pc' := 241) [.iload_n 1, .bipush 8] (by decide +kernel) (And.intro trivial ?_)
        refine ic_ge hX (33) 274 (by decide +kernel) (by decide) (fun c => absurd c (nI_ge (a := i) (b := 8) (by omega) (by decide))) (fun c_241 => ?_)
        refine bk hX lkX12_ok (pc' := 271) [.aload_n 0, .getfield 199, .iload_n 1, .aload_n 0, .getfield 138, .iload_n 1, .iaload, .iastore, .aload_n 0, .getfield 202, .iload_n 1, .aload_n 0, .getfield 141, .iload_n 1, .iaload, .iastore, .iinc 1 1] (by decide +kernel) (And.intro (by exact vin 8 (by omega)) (And.intro (by exact vin 8 (by omega)) (And.intro (by exact vin 8 (by omega)) (And.intro (by exact vin 8 (by omega)) (And.intro trivial ?_)))))
        refine gt_ hX (-33) 238 (by decide +kernel) (by decide) ?_
        refine z_lvk (lv' := [(0, _), (1, _)]) [1, 0] rfl ?_
        rw [nI_add, ci]
        exact ih (i + 1) _ (by omega) (cp_le (cp1 cpW_im (cp1 cpW_im h1 10 (by decide) (i := i) rfl) 11 (by decide) (i := i) rfl) (imC_s4 i))
    have hl3 : ∀ m i (I1 : Nat → Nat → Int32), i + m = 10 → cpS imD imS (imC 3 i) I0 I1 → zS X (sg K N Rf I1 L) 0 0 200 [(0, .ref 100), (1, .int (nI i))] [] := by
      intro m
      induction m with
      | zero =>
        intro i I1 hi h1
        obtain rfl : i = 10 := by omega
        refine bk hX lkX12_ok (pc' := 203) [.iload_n 1, .bipush 10] (by decide +kernel) (And.intro trivial ?_)
        refine ic_ge hX (33) 236 (by decide +kernel) (by decide) (fun c_203 => ?_) (fun c => absurd (by decide) c)
        refine bk hX lkX12_ok (pc' := 238) [.iconst 0, .istore_n 1] (by decide +kernel) (And.intro trivial ?_)
        refine z_lvk (lv' := [(0, _), (1, _)]) [1, 0] rfl ?_
        exact hl4 8 0 I1 (by omega) (cp_le h1 imC_n3)
      | succ m ih =>
        intro i I1 hi h1
        have ci : (nI i).toNatClampNeg = i := cl (by omega)
        refine bk hX lkX12_ok (pc' := 203) [.iload_n 1, .bipush 10] (by decide +kernel) (And.intro trivial ?_)
        refine ic_ge hX (33) 236 (by decide +kernel) (by decide) (fun c => absurd c (nI_ge (a := i) (b := 10) (by omega) (by decide))) (fun c_203 => ?_)
        refine bk hX lkX12_ok (pc' := 233) [.aload_n 0, .getfield 193, .iload_n 1, .aload_n 0, .getfield 132, .iload_n 1, .iaload, .iastore, .aload_n 0, .getfield 196, .iload_n 1, .aload_n 0, .getfield 135, .iload_n 1, .iaload, .iastore, .iinc 1 1] (by decide +kernel) (And.intro (by exact vin 10 (by omega)) (And.intro (by exact vin 10 (by omega)) (And.intro (by exact vin 10 (by omega)) (And.intro (by exact vin 10 (by omega)) (And.intro trivial ?_)))))
        refine gt_ hX (-33) 200 (by decide +kernel) (by decide) ?_
        refine z_lvk (lv' := [(0, _), (1, _)]) [1, 0] rfl ?_
        rw [nI_add, ci]
        exact ih (i + 1) _ (by omega) (cp_le (cp1 cpW_im (cp1 cpW_im h1 8 (by decide) (i := i) rfl) 9 (by decide) (i := i) rfl) (imC_s3 i))
    have hl2 : ∀ m i (I1 : Nat → Nat → Int32), i + m = 5 → cpS imD imS (imC 2 i) I0 I1 → zS X (sg K N Rf I1 L) 0 0 151 [(0, .ref 100), (1, .int (nI i))] [] := by
      intro m
      induction m with
      | zero =>
        intro i I1 hi h1
        obtain rfl : i = 5 := by omega
        refine bk hX lkX12_ok (pc' := 153) [.iload_n 1, .iconst 5] (by decide +kernel) (And.intro trivial ?_)
        refine ic_ge hX (45) 198 (by decide +kernel) (by decide) (fun c_153 => ?_) (fun c => absurd (by decide) c)
        refine bk hX lkX12_ok (pc' := 200) [.iconst 0, .istore_n 1] (by decide +kernel) (And.intro trivial ?_)
        refine z_lvk (lv' := [(0, _), (1, _)]) [1, 0] rfl ?_
        exact hl3 10 0 I1 (by omega) (cp_le h1 imC_n2)
      | succ m ih =>
        intro i I1 hi h1
        have ci : (nI i).toNatClampNeg = i := cl (by omega)
        refine bk hX lkX12_ok (pc' := 153) [.iload_n 1, .iconst 5] (by decide +kernel) (And.intro trivial ?_)
        refine ic_ge hX (45) 198 (by decide +kernel) (by decide) (fun c => absurd c (nI_ge (a := i) (b := 5) (by omega) (by decide))) (fun c_153 => ?_)
        refine bk hX lkX12_ok (pc' := 195) [.aload_n 0, .getfield 184, .iload_n 1, .aload_n 0, .getfield 117, .iload_n 1, .iaload, .iastore, .aload_n 0, .getfield 187, .iload_n 1, .aload_n 0, .getfield 120, .iload_n 1, .iaload, .iastore, .aload_n 0, .getfield 190, .iload_n 1, .aload_n 0, .getfield 123, .iload_n 1, .iaload, .iastore, .iinc 1 1] (by decide +kernel) (And.intro (by exact vin 5 (by omega)) (And.intro (by exact vin 5 (by omega)) (And.intro (by exact vin 5 (by omega)) (And.intro (by exact vin 5 (by omega)) (And.intro (by exact vin 5 (by omega)) (And.intro (by exact vin 5 (by omega)) (And.intro trivial ?_)))))))
        refine gt_ hX (-44) 151 (by decide +kernel) (by decide) ?_
        refine z_lvk (lv' := [(0, _), (1, _)]) [1, 0] rfl ?_
        rw [nI_add, ci]
        exact ih (i + 1) _ (by omega) (cp_le (cp1 cpW_im (cp1 cpW_im (cp1 cpW_im h1 5 (by decide) (i := i) rfl) 6 (by decide) (i := i) rfl) 7 (by decide) (i := i) rfl) (imC_s2 i))
    have hl1 : ∀ m i (I1 : Nat → Nat → Int32), i + m = 24 → cpS imD imS (imC 1 i) I0 I1 → zS X (sg K N Rf I1 L) 0 0 125 [(0, .ref 100), (1, .int (nI i))] [] := by
      intro m
      induction m with
      | zero =>
        intro i I1 hi h1
        obtain rfl : i = 24 := by omega
        refine bk hX lkX12_ok (pc' := 128) [.iload_n 1, .bipush 24] (by decide +kernel) (And.intro trivial ?_)
        refine ic_ge hX (21) 149 (by decide +kernel) (by decide) (fun c_128 => ?_) (fun c => absurd (by decide) c)
        refine bk hX lkX12_ok (pc' := 151) [.iconst 0, .istore_n 1] (by decide +kernel) (And.intro trivial ?_)
        refine z_lvk (lv' := [(0, _), (1, _)]) [1, 0] rfl ?_
        exact hl2 5 0 I1 (by omega) (cp_le h1 imC_n1)
      | succ m ih =>
        intro i I1 hi h1
        have ci : (nI i).toNatClampNeg = i := cl (by omega)
        refine bk hX lkX12_ok (pc' := 128) [.iload_n 1, .bipush 24] (by decide +kernel) (And.intro trivial ?_)
        refine ic_ge hX (21) 149 (by decide +kernel) (by decide) (fun c => absurd c (nI_ge (a := i) (b := 24) (by omega) (by decide))) (fun c_128 => ?_)
        refine bk hX lkX12_ok (pc' := 146) [.aload_n 0, .getfield 181, .iload_n 1, .aload_n 0, .getfield 32, .iload_n 1, .iaload, .iastore, .iinc 1 1] (by decide +kernel) (And.intro (by exact vin 24 (by omega)) (And.intro (by exact vin 24 (by omega)) (And.intro trivial ?_)))
        refine gt_ hX (-21) 125 (by decide +kernel) (by decide) ?_
        refine z_lvk (lv' := [(0, _), (1, _)]) [1, 0] rfl ?_
        rw [nI_add, ci]
        exact ih (i + 1) _ (by omega) (cp_le (cp1 cpW_im h1 4 (by decide) (i := i) rfl) (imC_s1 i))
    have hl0 : ∀ m i (I1 : Nat → Nat → Int32), i + m = 6 → cpS imD imS (imC 0 i) I0 I1 → zS X (sg K N Rf I1 L) 0 0 63 [(0, .ref 100), (1, .int (nI i))] [] := by
      intro m
      induction m with
      | zero =>
        intro i I1 hi h1
        obtain rfl : i = 6 := by omega
        refine bk hX lkX12_ok (pc' := 66) [.iload_n 1, .bipush 6] (by decide +kernel) (And.intro trivial ?_)
        refine ic_ge hX (57) 123 (by decide +kernel) (by decide) (fun c_66 => ?_) (fun c => absurd (by decide) c)
        refine bk hX lkX12_ok (pc' := 125) [.iconst 0, .istore_n 1] (by decide +kernel) (And.intro trivial ?_)
        refine z_lvk (lv' := [(0, _), (1, _)]) [1, 0] rfl ?_
        exact hl1 24 0 I1 (by omega) (cp_le h1 imC_n0)
      | succ m ih =>
        intro i I1 hi h1
        have ci : (nI i).toNatClampNeg = i := cl (by omega)
        refine bk hX lkX12_ok (pc' := 66) [.iload_n 1, .bipush 6] (by decide +kernel) (And.intro trivial ?_)
        refine ic_ge hX (57) 123 (by decide +kernel) (by decide) (fun c => absurd c (nI_ge (a := i) (b := 6) (by omega) (by decide))) (fun c_66 => ?_)
        refine bk hX lkX12_ok (pc' := 111) [.aload_n 0, .getfield 169, .iload_n 1, .aload_n 0, .getfield 19, .iload_n 1, .iaload, .iastore, .aload_n 0, .getfield 172, .iload_n 1, .aload_n 0, .getfield 23, .iload_n 1, .iaload, .iastore, .aload_n 0, .getfield 175, .iload_n 1, .aload_n 0, .getfield 26, .iload_n 1, .iaload, .iastore, .aload_n 0, .getfield 178, .iload_n 1, .aload_n 0] (by decide +kernel) (And.intro (by exact vin 6 (by omega)) (And.intro (by exact vin 6 (by omega)) (And.intro (by exact vin 6 (by omega)) (And.intro (by exact vin 6 (by omega)) (And.intro (by exact vin 6 (by omega)) (And.intro (by exact vin 6 (by omega)) (And.intro trivial ?_)))))))
        refine bk hX lkX12_ok (pc' := 120) [.getfield 29, .iload_n 1, .iaload, .iastore, .iinc 1 1] (by decide +kernel) (And.intro (by exact vin 6 (by omega)) (And.intro (by exact vin 6 (by omega)) (And.intro trivial ?_)))
        refine gt_ hX (-57) 63 (by decide +kernel) (by decide) ?_
        refine z_lvk (lv' := [(0, _), (1, _)]) [1, 0] rfl ?_
        rw [nI_add, ci]
        exact ih (i + 1) _ (by omega) (cp_le (cp1 cpW_im (cp1 cpW_im (cp1 cpW_im (cp1 cpW_im h1 0 (by decide) (i := i) rfl) 1 (by decide) (i := i) rfl) 2 (by decide) (i := i) rfl) 3 (by decide) (i := i) rfl) (imC_s0 i))
    exact hl0 6 0 I0 (by omega) ⟨fun j hj k hk => by rw [imC_0 j hj] at hk; exact absurd hk (Nat.not_lt_zero _), fun _ _ => rfl⟩
  refine bk hX lkX12_ok (pc' := 54) [.aload_n 0, .iconst 1, .putfield 144, .aload_n 0, .aload_n 0, .getfield 38, .putfield 148, .aload_n 0, .aload_n 0, .getfield 7, .putfield 151, .aload_n 0, .aload_n 0, .getfield 13, .putfield 154, .aload_n 0, .aload_n 0, .getfield 16, .putfield 157, .aload_n 0, .aload_n 0, .getfield 114, .putfield 160, .aload_n 0, .aload_n 0, .getfield 126, .putfield 163, .aload_n 0] (by decide +kernel) (And.intro (by decide) (And.intro trivial ?_))
  refine bk hX lkX12_ok (pc' := 63) [.aload_n 0, .getfield 129, .putfield 166, .iconst 0, .istore_n 1] (by decide +kernel) (And.intro trivial ?_)
  refine z_lvk (lv' := [(0, _), (1, _)]) [1, 0] rfl ?_
  refine hl _ (fun k hk => ?_) (fun q hq => ?_) (fun j hj => ?_) ?_ ?_
  · simp only [up2_v]
    repeat rw [if_neg (by omega)]
  · funext k
    simp only [up2_v]
    repeat rw [if_neg (by omega)]
  · have h7 : j = 0 ∨ j = 1 ∨ j = 2 ∨ j = 3 ∨ j = 4 ∨ j = 5 ∨ j = 6 := by omega
    rcases h7 with rfl | rfl | rfl | rfl | rfl | rfl | rfl <;> rfl
  · rfl
  · exact frX_tr (frX_tr (frX_tr (frX_tr (frX_tr (frX_tr (frX_tr (frX_f (by decide)) (frX_f (by decide))) (frX_f (by decide))) (frX_f (by decide))) (frX_f (by decide))) (frX_f (by decide))) (frX_f (by decide))) (frX_f (by decide))
theorem hD100 : ∀ j, j < 12 → imD j ≠ 100 := by decide +kernel
set_option maxHeartbeats 4000000 in
set_option maxRecDepth 8000 in
theorem c_M_undo (E : zE) (K N : Nat → Nat) (Rf : Nat → Nat → Option Nat) (I : Nat → Nat → Int32) (L : Nat → Nat → Int64) : zCt E mX12_undo 0 0 0 (sg K N Rf I L) [.ref 100] (fun r σ' => ∃ I', σ' = sg K N Rf I' L ∧ ((I 100 44 = 0 ∧ r = some (.int (-nI 3)) ∧ I' = I) ∨ (¬ I 100 44 = 0 ∧ r = some (.int (I 100 46)) ∧ (∀ j, j < 12 → ∀ k, k < imL j → I' (imS j) k = I (imD j) k) ∧ (∀ j, j < 7 → I' 100 (imF j) = I 100 (45 + j)) ∧ frX [104, 105, 106, 107, 108, 136, 137, 138, 141, 142, 143, 144] [9, 0, 1, 2, 34, 38, 39] I I'))) := by
  refine z_intro (by decide) (Nat.le_of_ble_eq_true rfl) (fun X hX => ?_)
  have hl : ¬ I 100 44 = 0 → ∀ I0 : Nat → Nat → Int32, (∀ q, q ≠ 100 → I0 q = I q) → (∀ j, j < 7 → I0 100 (imF j) = I 100 (45 + j)) → frX [104, 105, 106, 107, 108, 136, 137, 138, 141, 142, 143, 144] [9, 0, 1, 2, 34, 38, 39] I I0 → zS X (sg K N Rf I0 L) 0 0 68 [(0, .ref 100), (1, .int (nI 0))] [] := by
    intro hne I0 hI1 hI2 hI4
    have hl4 : ∀ m i (I1 : Nat → Nat → Int32), i + m = 8 → cpS imS imD (imC 4 i) I0 I1 → zS X (sg K N Rf I1 L) 0 0 243 [(0, .ref 100), (1, .int (nI i))] [] := by
      intro m
      induction m with
      | zero =>
        intro i I1 hi h1
        obtain rfl : i = 8 := by omega
        refine bk hX lkX12_ok (pc' := 246) [.iload_n 1, .bipush 8] (by decide +kernel) (And.intro trivial ?_)
        refine ic_ge hX (33) 279 (by decide +kernel) (by decide) (fun c_246 => ?_) (fun c => absurd (by decide) c)
        refine bk hX lkX12_ok (pc' := 283) [.aload_n 0, .getfield 7] (by decide +kernel) (And.intro trivial ?_)
        exact z_iret hX (by decide +kernel) rfl (rfl) (by decide) (by decide) (by
    have h2 : cpS imS imD imL I0 I1 := cp_le h1 (fun j hj => by rw [← imC_5 j hj]; exact imC_n4 j hj)
    have e100 : I1 100 = I0 100 := h2.2 100 (fun j hj z => cpW_un.2.2 j hj z.symm)
    refine ⟨I1, rfl, Or.inr ⟨hne, by rw [e100]; exact congrArg (fun z => some (Value.int z)) (hI2 1 (by decide)), fun j hj k hk => by rw [h2.1 j hj k hk, hI1 _ (hD100 j hj)], fun j hj => by rw [e100]; exact hI2 j hj, frX_cp h2 cpW_un (by decide +kernel) hI4⟩⟩)
      | succ m ih =>
        intro i I1 hi h1
        have ci : (nI i).toNatClampNeg = i := cl (by omega)
        refine bk hX lkX12_ok (pc' := 246) [.iload_n 1, .bipush 8] (by decide +kernel) (And.intro trivial ?_)
        refine ic_ge hX (33) 279 (by decide +kernel) (by decide) (fun c => absurd c (nI_ge (a := i) (b := 8) (by omega) (by decide))) (fun c_246 => ?_)
        refine bk hX lkX12_ok (pc' := 276) [.aload_n 0, .getfield 138, .iload_n 1, .aload_n 0, .getfield 199, .iload_n 1, .iaload, .iastore, .aload_n 0, .getfield 141, .iload_n 1, .aload_n 0, .getfield 202, .iload_n 1, .iaload, .iastore, .iinc 1 1] (by decide +kernel) (And.intro (by exact vin 8 (by omega)) (And.intro (by exact vin 8 (by omega)) (And.intro (by exact vin 8 (by omega)) (And.intro (by exact vin 8 (by omega)) (And.intro trivial ?_)))))
        refine gt_ hX (-33) 243 (by decide +kernel) (by decide) ?_
        refine z_lvk (lv' := [(0, _), (1, _)]) [1, 0] rfl ?_
        rw [nI_add, ci]
        exact ih (i + 1) _ (by omega) (cp_le (cp1 cpW_un (cp1 cpW_un h1 10 (by decide) (i := i) rfl) 11 (by decide) (i := i) rfl) (imC_s4 i))
    have hl3 : ∀ m i (I1 : Nat → Nat → Int32), i + m = 10 → cpS imS imD (imC 3 i) I0 I1 → zS X (sg K N Rf I1 L) 0 0 205 [(0, .ref 100), (1, .int (nI i))] [] := by
      intro m
      induction m with
      | zero =>
        intro i I1 hi h1
        obtain rfl : i = 10 := by omega
        refine bk hX lkX12_ok (pc' := 208) [.iload_n 1, .bipush 10] (by decide +kernel) (And.intro trivial ?_)
        refine ic_ge hX (33) 241 (by decide +kernel) (by decide) (fun c_208 => ?_) (fun c => absurd (by decide) c)
        refine bk hX lkX12_ok (pc' := 243) [.iconst 0, .istore_n 1] (by decide +kernel) (And.intro trivial ?_)
        refine z_lvk (lv' := [(0, _), (1, _)]) [1, 0] rfl ?_
        exact hl4 8 0 I1 (by omega) (cp_le h1 imC_n3)
      | succ m ih =>
        intro i I1 hi h1
        have ci : (nI i).toNatClampNeg = i := cl (by omega)
        refine bk hX lkX12_ok (pc' := 208) [.iload_n 1, .bipush 10] (by decide +kernel) (And.intro trivial ?_)
        refine ic_ge hX (33) 241 (by decide +kernel) (by decide) (fun c => absurd c (nI_ge (a := i) (b := 10) (by omega) (by decide))) (fun c_208 => ?_)
        refine bk hX lkX12_ok (pc' := 238) [.aload_n 0, .getfield 132, .iload_n 1, .aload_n 0, .getfield 193, .iload_n 1, .iaload, .iastore, .aload_n 0, .getfield 135, .iload_n 1, .aload_n 0, .getfield 196, .iload_n 1, .iaload, .iastore, .iinc 1 1] (by decide +kernel) (And.intro (by exact vin 10 (by omega)) (And.intro (by exact vin 10 (by omega)) (And.intro (by exact vin 10 (by omega)) (And.intro (by exact vin 10 (by omega)) (And.intro trivial ?_)))))
        refine gt_ hX (-33) 205 (by decide +kernel) (by decide) ?_
        refine z_lvk (lv' := [(0, _), (1, _)]) [1, 0] rfl ?_
        rw [nI_add, ci]
        exact ih (i + 1) _ (by omega) (cp_le (cp1 cpW_un (cp1 cpW_un h1 8 (by decide) (i := i) rfl) 9 (by decide) (i := i) rfl) (imC_s3 i))
    have hl2 : ∀ m i (I1 : Nat → Nat → Int32), i + m = 5 → cpS imS imD (imC 2 i) I0 I1 → zS X (sg K N Rf I1 L) 0 0 156 [(0, .ref 100), (1, .int (nI i))] [] := by
      intro m
      induction m with
      | zero =>
        intro i I1 hi h1
        obtain rfl : i = 5 := by omega
        refine bk hX lkX12_ok (pc' := 158) [.iload_n 1, .iconst 5] (by decide +kernel) (And.intro trivial ?_)
        refine ic_ge hX (45) 203 (by decide +kernel) (by decide) (fun c_158 => ?_) (fun c => absurd (by decide) c)
        refine bk hX lkX12_ok (pc' := 205) [.iconst 0, .istore_n 1] (by decide +kernel) (And.intro trivial ?_)
        refine z_lvk (lv' := [(0, _), (1, _)]) [1, 0] rfl ?_
        exact hl3 10 0 I1 (by omega) (cp_le h1 imC_n2)
      | succ m ih =>
        intro i I1 hi h1
        have ci : (nI i).toNatClampNeg = i := cl (by omega)
        refine bk hX lkX12_ok (pc' := 158) [.iload_n 1, .iconst 5] (by decide +kernel) (And.intro trivial ?_)
        refine ic_ge hX (45) 203 (by decide +kernel) (by decide) (fun c => absurd c (nI_ge (a := i) (b := 5) (by omega) (by decide))) (fun c_158 => ?_)
        refine bk hX lkX12_ok (pc' := 200) [.aload_n 0, .getfield 117, .iload_n 1, .aload_n 0, .getfield 184, .iload_n 1, .iaload, .iastore, .aload_n 0, .getfield 120, .iload_n 1, .aload_n 0, .getfield 187, .iload_n 1, .iaload, .iastore, .aload_n 0, .getfield 123, .iload_n 1, .aload_n 0, .getfield 190, .iload_n 1, .iaload, .iastore, .iinc 1 1] (by decide +kernel) (And.intro (by exact vin 5 (by omega)) (And.intro (by exact vin 5 (by omega)) (And.intro (by exact vin 5 (by omega)) (And.intro (by exact vin 5 (by omega)) (And.intro (by exact vin 5 (by omega)) (And.intro (by exact vin 5 (by omega)) (And.intro trivial ?_)))))))
        refine gt_ hX (-44) 156 (by decide +kernel) (by decide) ?_
        refine z_lvk (lv' := [(0, _), (1, _)]) [1, 0] rfl ?_
        rw [nI_add, ci]
        exact ih (i + 1) _ (by omega) (cp_le (cp1 cpW_un (cp1 cpW_un (cp1 cpW_un h1 5 (by decide) (i := i) rfl) 6 (by decide) (i := i) rfl) 7 (by decide) (i := i) rfl) (imC_s2 i))
    have hl1 : ∀ m i (I1 : Nat → Nat → Int32), i + m = 24 → cpS imS imD (imC 1 i) I0 I1 → zS X (sg K N Rf I1 L) 0 0 130 [(0, .ref 100), (1, .int (nI i))] [] := by
      intro m
      induction m with
      | zero =>
        intro i I1 hi h1
        obtain rfl : i = 24 := by omega
        refine bk hX lkX12_ok (pc' := 133) [.iload_n 1, .bipush 24] (by decide +kernel) (And.intro trivial ?_)
        refine ic_ge hX (21) 154 (by decide +kernel) (by decide) (fun c_133 => ?_) (fun c => absurd (by decide) c)
        refine bk hX lkX12_ok (pc' := 156) [.iconst 0, .istore_n 1] (by decide +kernel) (And.intro trivial ?_)
        refine z_lvk (lv' := [(0, _), (1, _)]) [1, 0] rfl ?_
        exact hl2 5 0 I1 (by omega) (cp_le h1 imC_n1)
      | succ m ih =>
        intro i I1 hi h1
        have ci : (nI i).toNatClampNeg = i := cl (by omega)
        refine bk hX lkX12_ok (pc' := 133) [.iload_n 1, .bipush 24] (by decide +kernel) (And.intro trivial ?_)
        refine ic_ge hX (21) 154 (by decide +kernel) (by decide) (fun c => absurd c (nI_ge (a := i) (b := 24) (by omega) (by decide))) (fun c_133 => ?_)
        refine bk hX lkX12_ok (pc' := 151) [.aload_n 0, .getfield 32, .iload_n 1, .aload_n 0, .getfield 181, .iload_n 1, .iaload, .iastore, .iinc 1 1] (by decide +kernel) (And.intro (by exact vin 24 (by omega)) (And.intro (by exact vin 24 (by omega)) (And.intro trivial ?_)))
        refine gt_ hX (-21) 130 (by decide +kernel) (by decide) ?_
        refine z_lvk (lv' := [(0, _), (1, _)]) [1, 0] rfl ?_
        rw [nI_add, ci]
        exact ih (i + 1) _ (by omega) (cp_le (cp1 cpW_un h1 4 (by decide) (i := i) rfl) (imC_s1 i))
    have hl0 : ∀ m i (I1 : Nat → Nat → Int32), i + m = 6 → cpS imS imD (imC 0 i) I0 I1 → zS X (sg K N Rf I1 L) 0 0 68 [(0, .ref 100), (1, .int (nI i))] [] := by
      intro m
      induction m with
      | zero =>
        intro i I1 hi h1
        obtain rfl : i = 6 := by omega
        refine bk hX lkX12_ok (pc' := 71) [.iload_n 1, .bipush 6] (by decide +kernel) (And.intro trivial ?_)
        refine ic_ge hX (57) 128 (by decide +kernel) (by decide) (fun c_71 => ?_) (fun c => absurd (by decide) c)
        refine bk hX lkX12_ok (pc' := 130) [.iconst 0, .istore_n 1] (by decide +kernel) (And.intro trivial ?_)
        refine z_lvk (lv' := [(0, _), (1, _)]) [1, 0] rfl ?_
        exact hl1 24 0 I1 (by omega) (cp_le h1 imC_n0)
      | succ m ih =>
        intro i I1 hi h1
        have ci : (nI i).toNatClampNeg = i := cl (by omega)
        refine bk hX lkX12_ok (pc' := 71) [.iload_n 1, .bipush 6] (by decide +kernel) (And.intro trivial ?_)
        refine ic_ge hX (57) 128 (by decide +kernel) (by decide) (fun c => absurd c (nI_ge (a := i) (b := 6) (by omega) (by decide))) (fun c_71 => ?_)
        refine bk hX lkX12_ok (pc' := 116) [.aload_n 0, .getfield 19, .iload_n 1, .aload_n 0, .getfield 169, .iload_n 1, .iaload, .iastore, .aload_n 0, .getfield 23, .iload_n 1, .aload_n 0, .getfield 172, .iload_n 1, .iaload, .iastore, .aload_n 0, .getfield 26, .iload_n 1, .aload_n 0, .getfield 175, .iload_n 1, .iaload, .iastore, .aload_n 0, .getfield 29, .iload_n 1, .aload_n 0] (by decide +kernel) (And.intro (by exact vin 6 (by omega)) (And.intro (by exact vin 6 (by omega)) (And.intro (by exact vin 6 (by omega)) (And.intro (by exact vin 6 (by omega)) (And.intro (by exact vin 6 (by omega)) (And.intro (by exact vin 6 (by omega)) (And.intro trivial ?_)))))))
        refine bk hX lkX12_ok (pc' := 125) [.getfield 178, .iload_n 1, .iaload, .iastore, .iinc 1 1] (by decide +kernel) (And.intro (by exact vin 6 (by omega)) (And.intro (by exact vin 6 (by omega)) (And.intro trivial ?_)))
        refine gt_ hX (-57) 68 (by decide +kernel) (by decide) ?_
        refine z_lvk (lv' := [(0, _), (1, _)]) [1, 0] rfl ?_
        rw [nI_add, ci]
        exact ih (i + 1) _ (by omega) (cp_le (cp1 cpW_un (cp1 cpW_un (cp1 cpW_un (cp1 cpW_un h1 0 (by decide) (i := i) rfl) 1 (by decide) (i := i) rfl) 2 (by decide) (i := i) rfl) 3 (by decide) (i := i) rfl) (imC_s0 i))
    exact hl0 6 0 I0 (by omega) ⟨fun j hj k hk => by rw [imC_0 j hj] at hk; exact absurd hk (Nat.not_lt_zero _), fun _ _ => rfl⟩
  refine bk hX lkX12_ok (pc' := 4) [.aload_n 0, .getfield 144] (by decide +kernel) (And.intro trivial ?_)
  refine if_ne hX (6) 10 (by decide +kernel) (by decide) (fun hne => ?_) (fun hne => ?_)
  · refine bk hX lkX12_ok (pc' := 66) [.aload_n 0, .aload_n 0, .getfield 148, .putfield 38, .aload_n 0, .aload_n 0, .getfield 151, .putfield 7, .aload_n 0, .aload_n 0, .getfield 154, .putfield 13, .aload_n 0, .aload_n 0, .getfield 157, .putfield 16, .aload_n 0, .aload_n 0, .getfield 160, .putfield 114, .aload_n 0, .aload_n 0, .getfield 163, .putfield 126, .aload_n 0, .aload_n 0, .getfield 166, .putfield 129] (by decide +kernel) (And.intro trivial ?_)
    refine bk hX lkX12_ok (pc' := 68) [.iconst 0, .istore_n 1] (by decide +kernel) (And.intro trivial ?_)
    refine z_lvk (lv' := [(0, _), (1, _)]) [1, 0] rfl ?_
    refine hl hne _ (fun q hq => ?_) (fun j hj => ?_) ?_
    · funext k
      simp only [up2_v]
      repeat rw [if_neg (by omega)]
    · have h7 : j = 0 ∨ j = 1 ∨ j = 2 ∨ j = 3 ∨ j = 4 ∨ j = 5 ∨ j = 6 := by omega
      rcases h7 with rfl | rfl | rfl | rfl | rfl | rfl | rfl <;> rfl
    · exact frX_tr (frX_tr (frX_tr (frX_tr (frX_tr (frX_tr (frX_f (by decide)) (frX_f (by decide))) (frX_f (by decide))) (frX_f (by decide))) (frX_f (by decide))) (frX_f (by decide))) (frX_f (by decide))
  · refine bk hX lkX12_ok (pc' := 9) [.bipush (Int.negSucc 2)] (by decide +kernel) (And.intro trivial ?_)
    exact z_iret hX (by decide +kernel) rfl (rfl) (by decide) (by decide) (⟨I, rfl, Or.inl ⟨hne, rfl, rfl⟩⟩)
end
section
/-! ===== the texts of works: what a text says, and where it is at fault ===== -/
def nx (t : List Nat) (a : Nat) : Nat := t.getD a 200
def txw (t : List Nat) : Prop := t.length ≤ 100 ∧ ∀ x ∈ t, x < 128
theorem nx_end {t : List Nat} {a : Nat} (h : ¬ a < t.length) : nx t a = 200 := by
  unfold nx
  rw [List.getD_eq_getElem?_getD, List.getElem?_eq_none (by omega)]
  rfl
theorem nx_at {t : List Nat} {a : Nat} (h : a < t.length) (d : Nat) : nx t a = t.getD a d := by
  unfold nx
  rw [List.getD_eq_getElem?_getD, List.getD_eq_getElem?_getD, List.getElem?_eq_getElem h]
  rfl
theorem nx_lt {t : List Nat} (ht : txw t) {a : Nat} (h : a < t.length) : nx t a < 128 := by
  unfold nx
  rw [List.getD_eq_getElem?_getD, List.getElem?_eq_getElem h]
  exact ht.2 _ (List.getElem_mem h)
theorem nx_le {t : List Nat} (ht : txw t) (a : Nat) : nx t a ≤ 200 := by
  by_cases h : a < t.length
  · have := nx_lt ht h; omega
  · rw [nx_end h]; exact Nat.le_refl _
theorem nx_in {t : List Nat} {a c : Nat} (h : nx t a = c) (hc : c < 128) : a < t.length := by
  by_cases h2 : a < t.length
  · exact h2
  · rw [nx_end h2] at h; omega
def nxI (c : Nat) : Int32 := if c = 200 then -nI 1 else nI c
theorem nxI_eq {c k : Nat} (hc : c ≤ 200) (hk : k < 128) : nxI c = nI k ↔ c = k := by
  unfold nxI
  split
  · rename_i h
    constructor
    · intro z
      have := congrArg Int32.toInt z
      rw [nI_toInt (by omega), show (-nI 1).toInt = -1 by decide] at this
      omega
    · intro z; omega
  · rw [nI_eq (by omega) (by omega)]
abbrev Rs : Type := Option (List Nat) × Nat
def dgB (c : Nat) : Bool := decide (48 ≤ c) && decide (c ≤ 57)
theorem dgB_iff {c : Nat} : dgB c = true ↔ 48 ≤ c ∧ c ≤ 57 := by simp [dgB]
/-- a number of one or two digits -/
def pNm (t : List Nat) (a : Nat) : Option Nat × Nat := if dgB (nx t a) = true then (if dgB (nx t (a + 1)) = true then (some (10 * (nx t a - 48) + (nx t (a + 1) - 48)), a + 2) else (some (nx t a - 48), a + 1)) else (none, a)
def plc (c : Nat) : Nat := if c = 112 then 0 else if c = 99 then 1 else if c = 107 then 2 else if c = 118 then 3 else if c = 104 then 4 else if c = 100 then 5 else 9
def pTs (t : List Nat) (a : Nat) : Rs := if plc (nx t a) = 9 then (none, a) else if 60 ≤ nx t (a + 1) ∧ nx t (a + 1) ≤ 62 then (match pNm t (a + 2) with
    | (none, b) => (none, b)
    | (some n, b) => (some [10 + (1000 * plc (nx t a) + 100 * (nx t (a + 1) - 60) + n)], b)) else (none, a + 1)
def eL (t : List Nat) (F : Nat → Rs) : Nat → Bool → Bool → Nat → List Nat → Rs
  | 0, _, _, a, _ => (none, a)
  | k + 1, o, n, a, acc => match F a with
    | (none, b) => (none, b)
    | (some ts, b) => if nx t b = 38 then eL t F k o true (b + 1) (acc ++ ts ++ (if n = true then [1] else [])) else if nx t b = 124 then eL t F k true false (b + 1) (acc ++ ts ++ (if n = true then [1] else []) ++ (if o = true then [2] else [])) else (some (acc ++ ts ++ (if n = true then [1] else []) ++ (if o = true then [2] else [])), b)
def pFa (Q : Nat) (t : List Nat) : Nat → Nat → Rs
  | 0, a => if nx t a = 33 ∨ nx t a = 40 then (none, a) else pTs t a
  | d + 1, a => if nx t a = 33 then (match pFa Q t d (a + 1) with
      | (none, b) => (none, b)
      | (some ts, b) => (some (ts ++ [0]), b)) else if nx t a = 40 then (match eL t (pFa Q t d) Q false false (a + 1) [] with
      | (none, b) => (none, b)
      | (some ts, b) => if nx t b = 41 then (some ts, b + 1) else (none, b)) else pTs t a
def pEi (Q : Nat) (t : List Nat) (d a : Nat) : Rs := eL t (pFa Q t d) Q false false a []
def tn (ts : List Nat) : Nat := (ts.filter (fun t => decide (10 ≤ t))).length
theorem tn_app (a b : List Nat) : tn (a ++ b) = tn a + tn b := by unfold tn; rw [List.filter_append, List.length_append]
/-- what was read is well made -/
def pOk (t : List Nat) (a : Nat) (ts : List Nat) (b : Nat) : Prop := a + 4 * tn ts ≤ b + 1 ∧ a < b ∧ b ≤ t.length ∧ ts.length + a ≤ b ∧ ts.all tkok = true ∧ ∀ r n, shp (ts ++ r) n = shp r (n + 1)
theorem pNm_ok {t : List Nat} {a n b : Nat} (h : pNm t a = (some n, b)) : n ≤ 99 ∧ a < b ∧ b ≤ a + 2 ∧ b ≤ t.length := by
  unfold pNm at h
  split at h
  · rename_i h1
    rw [dgB_iff] at h1
    have l1 := nx_in (t := t) (a := a) rfl (by omega)
    split at h
    · rename_i h2
      rw [dgB_iff] at h2
      have l2 := nx_in (t := t) (a := a + 1) rfl (by omega)
      cases h
      exact ⟨by omega, by omega, by omega, by omega⟩
    · cases h
      exact ⟨by omega, by omega, by omega, by omega⟩
  · cases h
theorem pNm_no {t : List Nat} {a b : Nat} (h : pNm t a = (none, b)) : b = a := by
  unfold pNm at h
  split at h
  · split at h <;> cases h
  · cases h; rfl
theorem plc_in {t : List Nat} {a : Nat} (h : ¬ plc (nx t a) = 9) : a < t.length ∧ plc (nx t a) ≤ 5 := by
  by_cases h2 : a < t.length
  · refine ⟨h2, ?_⟩
    unfold plc at h ⊢
    repeat' split
    all_goals first | decide | (simp_all; done)
  · rw [nx_end h2] at h; exact absurd rfl h
theorem pTs_ok {t : List Nat} {a : Nat} {ts : List Nat} {b : Nat} (h : pTs t a = (some ts, b)) : pOk t a ts b := by
  unfold pTs at h
  split at h
  · cases h
  · rename_i hp
    obtain ⟨l1, l5⟩ := plc_in hp
    split at h
    · rename_i h2
      split at h
      · cases h
      · rename_i n b' hn
        obtain ⟨n1, n2, n3, n4⟩ := pNm_ok hn
        cases h
        have htk : tkok (10 + (1000 * plc (nx t a) + 100 * (nx t (a + 1) - 60) + n)) = true := by
          generalize plc (nx t a) = f at l5 ⊢
          generalize nx t (a + 1) = s at h2 ⊢
          unfold tkok
          rw [Bool.or_eq_true, Bool.and_eq_true, Bool.and_eq_true, decide_eq_true_eq, decide_eq_true_eq, decide_eq_true_eq, decide_eq_true_eq]
          right
          refine ⟨⟨by omega, by omega⟩, ?_⟩
          rw [Nat.add_sub_cancel_left]
          have : (1000 * f + 100 * (s - 60) + n) / 100 = 10 * f + (s - 60) := by omega
          rw [this]
          omega
        refine ⟨?_, by omega, n4, ?_, ?_, ?_⟩
        · show a + 4 * ([_].filter _).length ≤ b + 1
          rw [List.filter_cons_of_pos (by rw [decide_eq_true_eq]; omega)]
          simp
          omega
        · simp; omega
        · simp [htk]
        · intro r m
          show shp (_ :: r) m = _
          rw [shp_s, if_neg (by omega), if_neg (by omega)]
    · cases h
theorem pTs_le {t : List Nat} {a b : Nat} (h : pTs t a = (none, b)) : a ≤ b ∧ (a ≤ t.length → b ≤ t.length) := by
  unfold pTs at h
  split at h
  · cases h; exact ⟨Nat.le_refl _, id⟩
  · rename_i hp
    obtain ⟨l1, l5⟩ := plc_in hp
    split at h
    · rename_i h2
      have l2 := nx_in (t := t) (a := a + 1) rfl (by omega)
      split at h
      · rename_i b' hn
        cases h
        have := pNm_no hn
        omega
      · cases h
    · cases h
      omega
/-- what an E gathers while it is read -/
def eIn (t : List Nat) (a0 : Nat) (o n : Bool) (a : Nat) (acc : List Nat) : Prop := a0 + 4 * tn acc ≤ a ∧ a0 ≤ a ∧ acc.length + o.toNat + n.toNat + a0 ≤ a ∧ acc.all tkok = true ∧ ∀ r m, shp (acc ++ r) m = shp r (m + o.toNat + n.toNat)
theorem eIn_0 (t : List Nat) (a : Nat) : eIn t a false false a [] := ⟨Nat.le_refl _, Nat.le_refl _, by show 0 + 0 + 0 + a ≤ a; omega, rfl, fun r m => rfl⟩
theorem shp1 (r : List Nat) (m : Nat) : shp (1 :: r) (m + 2) = shp r (m + 1) := by rw [shp_s]; simp
theorem shp2 (r : List Nat) (m : Nat) : shp (2 :: r) (m + 2) = shp r (m + 1) := by rw [shp_s]; simp
theorem eL_ok {t : List Nat} {F : Nat → Rs} (hF : ∀ a ts b, F a = (some ts, b) → pOk t a ts b) {a0 : Nat} : ∀ k o n a acc ts b, eIn t a0 o n a acc → eL t F k o n a acc = (some ts, b) → pOk t a0 ts b
  | 0, _, _, _, _, _, _, _, h => by cases h
  | k + 1, o, n, a, acc, ts, b, hi, h => by
    obtain ⟨i1, i2, i3, i4, i5⟩ := hi
    unfold eL at h
    split at h
    · cases h
    · rename_i us c hc
      obtain ⟨f1, f2, f3, f4, f5, f6⟩ := hF _ _ _ hc
      have e1 : tn (acc ++ us ++ (if n = true then [1] else [])) = tn acc + tn us := by
        rw [tn_app, tn_app]
        cases n <;> rfl
      have l1 : (acc ++ us ++ (if n = true then [1] else [])).length = acc.length + us.length + n.toNat := by
        cases n <;> simp [Nat.add_assoc]
      have a1 : (acc ++ us ++ (if n = true then [1] else [])).all tkok = true := by
        rw [List.all_append, List.all_append, i4, f5]
        cases n <;> rfl
      have s1 : ∀ r m, shp (acc ++ us ++ (if n = true then [1] else []) ++ r) m = shp r (m + o.toNat + 1) := by
        intro r m
        rw [List.append_assoc, List.append_assoc, i5, f6]
        cases n with
        | false => rfl
        | true => exact shp1 r _
      have e2 : tn (acc ++ us ++ (if n = true then [1] else []) ++ (if o = true then [2] else [])) = tn acc + tn us := by
        rw [tn_app, e1]
        cases o <;> rfl
      have l2 : (acc ++ us ++ (if n = true then [1] else []) ++ (if o = true then [2] else [])).length = acc.length + us.length + n.toNat + o.toNat := by
        rw [List.length_append, l1]
        cases o <;> simp
      have a2 : (acc ++ us ++ (if n = true then [1] else []) ++ (if o = true then [2] else [])).all tkok = true := by
        rw [List.all_append, a1]
        cases o <;> rfl
      have s2 : ∀ r m, shp (acc ++ us ++ (if n = true then [1] else []) ++ (if o = true then [2] else []) ++ r) m = shp r (m + 1) := by
        intro r m
        rw [List.append_assoc (acc ++ us ++ (if n = true then [1] else [])), s1]
        cases o with
        | false => rfl
        | true => exact shp2 r _
      split at h
      · refine eL_ok hF k o true _ _ ts b ⟨by rw [e1]; omega, by omega, by rw [l1]; show _ + _ + _ + o.toNat + 1 + a0 ≤ _; omega, a1, fun r m => ?_⟩ h
        rw [s1]; rfl
      · split at h
        · refine eL_ok hF k true false _ _ ts b ⟨by rw [e2]; omega, by omega, by rw [l2]; show _ + _ + _ + _ + 1 + 0 + a0 ≤ _; omega, a2, fun r m => ?_⟩ h
          rw [s2]; rfl
        · cases h
          exact ⟨by rw [e2]; omega, by omega, f3, by rw [l2]; omega, a2, s2⟩
theorem eL_le {t : List Nat} {F : Nat → Rs} (hF : ∀ a ts b, F a = (some ts, b) → pOk t a ts b) (hN : ∀ a b, F a = (none, b) → a ≤ b ∧ (a ≤ t.length → b ≤ t.length)) : ∀ k o n a acc b, eL t F k o n a acc = (none, b) → a ≤ b ∧ (a ≤ t.length → b ≤ t.length)
  | 0, _, _, a, _, b, h => by cases h; exact ⟨Nat.le_refl _, id⟩
  | k + 1, o, n, a, acc, b, h => by
    unfold eL at h
    split at h
    · rename_i c hc
      cases h
      exact hN _ _ hc
    · rename_i us c hc
      obtain ⟨f1, f2, f3, f4, f5, f6⟩ := hF _ _ _ hc
      split at h
      · rename_i h2
        have l2 := nx_in h2 (by decide)
        have := eL_le hF hN k _ _ _ _ b h
        omega
      · split at h
        · rename_i h2
          have l2 := nx_in h2 (by decide)
          have := eL_le hF hN k _ _ _ _ b h
          omega
        · cases h
theorem pFa_ok {Q : Nat} {t : List Nat} : ∀ d, (∀ a ts b, pFa Q t d a = (some ts, b) → pOk t a ts b) ∧ (∀ a b, pFa Q t d a = (none, b) → a ≤ b ∧ (a ≤ t.length → b ≤ t.length))
  | 0 => by
    refine ⟨fun a ts b h => ?_, fun a b h => ?_⟩
    · unfold pFa at h
      split at h
      · cases h
      · exact pTs_ok h
    · unfold pFa at h
      split at h
      · cases h; exact ⟨Nat.le_refl _, id⟩
      · exact pTs_le h
  | d + 1 => by
    obtain ⟨ih1, ih2⟩ := pFa_ok (Q := Q) (t := t) d
    refine ⟨fun a ts b h => ?_, fun a b h => ?_⟩
    · unfold pFa at h
      split at h
      · rename_i h1
        split at h
        · cases h
        · rename_i us c hc
          cases h
          obtain ⟨f1, f2, f3, f4, f5, f6⟩ := ih1 _ _ _ hc
          refine ⟨?_, by omega, f3, ?_, ?_, ?_⟩
          · rw [tn_app]; show a + 4 * (tn us + 0) ≤ _; omega
          · rw [List.length_append, List.length_singleton]; omega
          · rw [List.all_append, f5]; rfl
          · intro r m
            rw [List.append_assoc, f6]
            show shp (0 :: r) _ = _
            rw [shp_s]
            simp
      · split at h
        · split at h
          · cases h
          · rename_i us c hc
            split at h
            · rename_i h3
              cases h
              have l2 := nx_in h3 (by decide)
              obtain ⟨f1, f2, f3, f4, f5, f6⟩ := eL_ok ih1 (a0 := a + 1) _ _ _ _ _ _ _ (eIn_0 t (a + 1)) hc
              exact ⟨by omega, by omega, by omega, by omega, f5, f6⟩
            · cases h
        · exact pTs_ok h
    · unfold pFa at h
      split at h
      · rename_i h1
        have l2 := nx_in h1 (by decide)
        split at h
        · rename_i c hc
          cases h
          have := ih2 _ _ hc
          omega
        · cases h
      · split at h
        · rename_i h1
          have l2 := nx_in h1 (by decide)
          split at h
          · rename_i c hc
            cases h
            have := eL_le ih1 ih2 _ _ _ _ _ _ hc
            omega
          · rename_i us c hc
            split at h
            · cases h
            · cases h
              obtain ⟨f1, f2, f3, f4, f5, f6⟩ := eL_ok ih1 (a0 := a + 1) _ _ _ _ _ _ _ (eIn_0 t (a + 1)) hc
              omega
        · exact pTs_le h
theorem pEi_ok {Q : Nat} {t : List Nat} {d a : Nat} {ts : List Nat} {b : Nat} (h : pEi Q t d a = (some ts, b)) : pOk t a ts b := eL_ok (pFa_ok d).1 _ _ _ _ _ _ _ (eIn_0 t a) h
theorem pEi_le {Q : Nat} {t : List Nat} {d a b : Nat} (h : pEi Q t d a = (none, b)) : a ≤ b ∧ (a ≤ t.length → b ≤ t.length) := eL_le (pFa_ok d).1 (pFa_ok d).2 _ _ _ _ _ _ h
/-- a word, letter by letter -/
def pWd (t : List Nat) : List Nat → Nat → Bool × Nat
  | [], a => (true, a)
  | c :: r, a => if nx t a = c then pWd t r (a + 1) else (false, a)
theorem pWd_le {t : List Nat} : ∀ (ws : List Nat) (a : Nat), (∀ x ∈ ws, x < 128) → a ≤ (pWd t ws a).2 ∧ (pWd t ws a).2 ≤ a + ws.length ∧ (a ≤ t.length → (pWd t ws a).2 ≤ t.length) ∧ ((pWd t ws a).1 = true → (pWd t ws a).2 = a + ws.length)
  | [], a, _ => ⟨Nat.le_refl _, Nat.le_refl _, id, fun _ => rfl⟩
  | c :: r, a, h => by
    unfold pWd
    split
    · rename_i h1
      have l2 := nx_in h1 (h c List.mem_cons_self)
      have ih := pWd_le (t := t) r (a + 1) (fun x hx => h x (List.mem_cons_of_mem _ hx))
      rw [List.length_cons]
      refine ⟨by omega, by omega, fun _ => ih.2.2.1 (by omega), fun z => by rw [ih.2.2.2 z]; omega⟩
    · rw [List.length_cons]
      exact ⟨Nat.le_refl _, by omega, id, fun z => by cases z⟩
def hWd (c : Nat) : Nat := if c = 103 then 0 else if c = 115 then 1 else 2
def hLs (w : Nat) : List Nat := if w = 0 then [103, 108, 97, 100, 32] else if w = 1 then [115, 111, 117, 114, 32] else [114, 111, 117, 110, 100, 32]
abbrev Cl : Type := Nat × Nat × List Nat
def pCl (Q : Nat) (t : List Nat) (a : Nat) : Option Cl × Nat := match pWd t (hLs (hWd (nx t a))) a with
  | (false, b) => (none, b)
  | (true, b) => match pNm t b with
    | (none, c) => (none, c)
    | (some n, c) => if hWd (nx t a) = 2 then (some (2, n, []), c) else if nx t c = 32 then (match pEi Q t 4 (c + 1) with
      | (none, d) => (none, d)
      | (some ts, d) => (some (hWd (nx t a), n, ts), d)) else (none, c)
def pTx (Q : Nat) (t : List Nat) : Nat → Nat → List Cl → Option Wk × Nat
  | 0, a, _ => (none, a)
  | k + 1, a, acc => match pCl Q t a with
    | (none, b) => (none, b)
    | (some c, b) => if b = t.length then (some (acc ++ [c]), b) else if k = 0 then (none, b) else if nx t b = 59 then pTx Q t k (b + 1) (acc ++ [c]) else (none, b)
/-- the works that a text is, or where it is at fault -/
def pWk (Q M : Nat) (t : List Nat) : Option Wk × Nat := pTx Q t M 0 []
theorem hLs_ok (w : Nat) : (∀ x ∈ hLs w, x < 128) ∧ 5 ≤ (hLs w).length := by
  unfold hLs
  split
  · decide
  · split <;> decide
/-- a clause that was read -/
def cOk (t : List Nat) (a : Nat) (c : Cl) (b : Nat) : Prop := c.1 ≤ 2 ∧ c.2.1 ≤ 99 ∧ a + 6 ≤ b ∧ b ≤ t.length ∧ c.2.2.length + a + 6 ≤ b ∧ (c.1 < 2 → c.2.2.all tkok = true ∧ shp c.2.2 0 = some 1 ∧ 4 * tn c.2.2 + a + 6 ≤ b)
theorem pCl_ok {Q : Nat} {t : List Nat} {a : Nat} {c : Cl} {b : Nat} (h : pCl Q t a = (some c, b)) : cOk t a c b := by
  have hw2 : hWd (nx t a) ≤ 2 := by
    unfold hWd
    split
    · decide
    · split <;> decide
  unfold pCl at h
  split at h
  · cases h
  · rename_i b1 h1
    have hl := hLs_ok (hWd (nx t a))
    have hw := pWd_le (t := t) (hLs (hWd (nx t a))) a hl.1
    rw [h1] at hw
    have hb1 := hw.2.2.2 rfl
    split at h
    · cases h
    · rename_i n c1 hn
      obtain ⟨n1, n2, n3, n4⟩ := pNm_ok hn
      split at h
      · cases h
        refine ⟨Nat.le_refl _, n1, ?_, n4, ?_, fun z => absurd z (Nat.lt_irrefl _)⟩
        · omega
        · show 0 + a + 6 ≤ b
          omega
      · rename_i h2
        split at h
        · split at h
          · cases h
          · rename_i ts d hd
            cases h
            obtain ⟨f1, f2, f3, f4, f5, f6⟩ := pEi_ok hd
            refine ⟨hw2, n1, by omega, f3, by show ts.length + a + 6 ≤ b; omega, fun _ => ⟨f5, ?_, by show 4 * tn ts + a + 6 ≤ b; omega⟩⟩
            have := f6 [] 0
            rw [List.append_nil] at this
            exact this
        · cases h
theorem pCl_le {Q : Nat} {t : List Nat} {a b : Nat} (h : pCl Q t a = (none, b)) : a ≤ b ∧ (a ≤ t.length → b ≤ t.length) := by
  unfold pCl at h
  have hl := hLs_ok (hWd (nx t a))
  have hw := pWd_le (t := t) (hLs (hWd (nx t a))) a hl.1
  split at h
  · rename_i b1 h1
    rw [h1] at hw
    cases h
    exact ⟨hw.1, hw.2.2.1⟩
  · rename_i b1 h1
    rw [h1] at hw
    have hw1 := hw.1
    have hw3 := hw.2.2.1
    have hb1 := hw.2.2.2 rfl
    split at h
    · rename_i c1 hn
      cases h
      have := pNm_no hn
      subst this
      exact ⟨hw1, hw3⟩
    · rename_i n c1 hn
      obtain ⟨n1, n2, n3, n4⟩ := pNm_ok hn
      split at h
      · cases h
      · split at h
        · rename_i h3
          have l2 := nx_in h3 (by decide)
          split at h
          · rename_i d hd
            cases h
            have := pEi_le hd
            omega
          · cases h
        · cases h
          omega
end
section
theorem c_M_next (E : zE) (K N : Nat → Nat) (Rf : Nat → Nat → Option Nat) (I : Nat → Nat → Int32) (L : Nat → Nat → Int64) {t : List Nat} (ht : txw t) (hx : mTx t I) {a : Nat} (ha : I 100 11 = nI a) (hal : a ≤ t.length) : zCt E mX12_next 0 0 0 (sg K N Rf I L) [.ref 100] (fun r σ' => σ' = (sg K N Rf I L) ∧ r = some (.int (nxI (nx t a)))) := by
  obtain ⟨x1, x2, x3⟩ := hx
  refine z_intro (by decide) (Nat.le_of_ble_eq_true rfl) (fun X hX => ?_)
  refine bk hX lkX12_ok (pc' := 8) [.aload_n 0, .getfield 44, .aload_n 0, .getfield 41] (by decide +kernel) (And.intro trivial ?_)
  rw [ha, x1]
  refine ic_ge hX (15) 23 (by decide +kernel) (by decide) (fun c1 => ?_) (fun c1 => ?_)
  · refine bk hX lkX12_ok (pc' := 24) [.iconst (Int.negSucc 0)] (by decide +kernel) (And.intro trivial ?_)
    exact z_iret hX (by decide +kernel) rfl (rfl) (by decide) (by decide) (by first
  | exact ⟨rfl, by rw [ha, cl (by omega), show I (101 + 13) a = _ from x3 a hlt, nx_at hlt 0, ← nx_at hlt 0]; unfold nxI; rw [if_neg (by omega)]⟩
  | exact ⟨rfl, by rw [nx_end (fun z => absurd (nI_lt z (by omega)) (i_nlt.mpr c1))]; rfl⟩)
  · have hlt : a < t.length := (nI_ltI (by omega) (by omega)).mp (i_nle.mp c1)
    have h128 := nx_lt ht hlt
    refine bk hX lkX12_ok (pc' := 20) [.aload_n 0, .getfield 50, .aload_n 0, .getfield 44, .iaload] (by decide +kernel) (And.intro (by rw [ha]; exact vin 100 (by omega)) (And.intro trivial ?_))
    refine gt_ hX (4) 24 (by decide +kernel) (by decide) ?_
    exact z_iret hX (by decide +kernel) rfl (rfl) (by decide) (by decide) (by first
  | exact ⟨rfl, by rw [ha, cl (by omega), show I (101 + 13) a = _ from x3 a hlt, nx_at hlt 0, ← nx_at hlt 0]; unfold nxI; rw [if_neg (by omega)]⟩
  | exact ⟨rfl, by rw [nx_end (fun z => absurd (nI_lt z (by omega)) (i_nlt.mpr c1))]; rfl⟩)
theorem c_M_takes (E : zE) (K N : Nat → Nat) (Rf : Nat → Nat → Option Nat) (I : Nat → Nat → Int32) (L : Nat → Nat → Int64) {t : List Nat} (ht : txw t) (hx : mTx t I) {a : Nat} (ha : I 100 11 = nI a) (hal : a ≤ t.length) {c : Nat} (hc : c < 128) : zCt E mX12_takes 1 0 0 (sg K N Rf I L) [.ref 100, .int (nI c)] (fun r σ' => (nx t a = c ∧ r = some (.int 1) ∧ σ' = sg K N Rf (up2 I 100 11 (nI (a + 1))) L) ∨ (¬ nx t a = c ∧ r = some (.int 0) ∧ σ' = (sg K N Rf I L))) := by
  refine z_intro (by decide) (Nat.le_of_ble_eq_true rfl) (fun X hX => ?_)
  refine bk hX lkX12_ok (pc' := 1) [.aload_n 0] (by decide +kernel) (And.intro trivial ?_)
  refine z_callV hX kw_X12_247 (c_M_next E K N Rf I L ht hx ha hal) rfl rfl rfl rfl rfl (by decide +kernel) (by decide) (by decide) (by decide) (by decide) (Nat.le_of_ble_eq_true rfl) ?_
  rintro _ _ ⟨rfl, rfl⟩
  refine bk hX lkX12_ok (pc' := 5) [.iload_n 1] (by decide +kernel) (And.intro trivial ?_)
  refine ic_eq hX (5) 10 (by decide +kernel) (by decide) (fun c1 => ?_) (fun c1 => ?_)
  · refine bk hX lkX12_ok (pc' := 21) [.aload_n 0, .dup, .getfield 44, .iconst 1, .iadd, .putfield 44, .iconst 1] (by decide +kernel) (And.intro trivial ?_)
    exact z_iret hX (by decide +kernel) rfl (rfl) (by decide) (by decide) (Or.inl ⟨(nxI_eq (nx_le ht a) hc).mp c1, rfl, by rw [ha, nI_add]⟩)
  · refine bk hX lkX12_ok (pc' := 9) [.iconst 0] (by decide +kernel) (And.intro trivial ?_)
    exact z_iret hX (by decide +kernel) rfl (rfl) (by decide) (by decide) (Or.inr ⟨fun z => c1 ((nxI_eq (nx_le ht a) hc).mpr z), rfl, rfl⟩)
theorem mTx_at {t : List Nat} {I I' : Nat → Nat → Int32} {Ps Fs : List Nat} (hx : mTx t I) (h : frX Ps Fs I I') (h1 : 114 ∉ Ps) (h2 : 10 ∉ Fs) : mTx t I' := by
  unfold mTx
  rw [h.1 _ h1 (by decide), h.2 _ h2]
  exact hx
theorem txw_le {t : List Nat} (ht : txw t) : t.length ≤ 100 := ht.1
def mLe (I : Nat → Nat → Int32) : Prop := ∀ k, k < 13 → I 125 k = nI (zget [103, 108, 97, 100, 115, 111, 117, 114, 114, 111, 117, 110, 100] k)
theorem pWd_s (t : List Nat) (c : Nat) (r : List Nat) (a : Nat) : pWd t (c :: r) a = if nx t a = c then pWd t r (a + 1) else (false, a) := rfl
set_option maxHeartbeats 1000000 in
theorem c_M_takesWord (E : zE) (K N : Nat → Nat) (Rf : Nat → Nat → Option Nat) (I : Nat → Nat → Int32) (L : Nat → Nat → Int64) {t : List Nat} (ht : txw t) (hx : mTx t I) {a : Nat} (ha : I 100 11 = nI a) (hal : a ≤ t.length) (hL : mLe I) {f m : Nat} {ws : List Nat} (hf : f + m ≤ 13) (hm : m ≤ 5) (hws : ws.length = m) (hwk : ∀ k, k < m → ws.getD k 0 = zget [103, 108, 97, 100, 115, 111, 117, 114, 114, 111, 117, 110, 100] (f + k)) (h128 : ∀ x ∈ ws, x < 128) : zCt E mX12_takesWord 2 0 0 (sg K N Rf I L) [.ref 100, .int (nI f), .int (nI m)] (fun r σ' => ∃ I', σ' = sg K N Rf I' L ∧ r = some (.int (b2i (pWd t (ws ++ [32]) a).1)) ∧ I' 100 11 = nI (pWd t (ws ++ [32]) a).2 ∧ frX [] [11] I I') := by
  have hl100 := ht.1
  refine z_intro (by decide) (Nat.le_of_ble_eq_true rfl) (fun X hX => ?_)
  have hl : ∀ n k b (I1 : Nat → Nat → Int32), k + n = m → b ≤ t.length → I1 100 11 = nI b → frX [] [11] I I1 → pWd t (ws.drop k ++ [32]) b = pWd t (ws ++ [32]) a → zS X (sg K N Rf I1 L) 0 0 2 [(0, .ref 100), (1, .int (nI f)), (2, .int (nI m)), (3, .int (nI k))] [] := by
    intro n
    induction n with
    | zero =>
      intro k b I1 hk hb h1 h2 h3
      obtain rfl : k = m := by omega
      rw [List.drop_of_length_le (by omega), List.nil_append, pWd_s] at h3
      refine bk hX lkX12_ok (pc' := 4) [.iload_n 3, .iload_n 2] (by decide +kernel) (And.intro trivial ?_)
      refine ic_ge hX (26) 30 (by decide +kernel) (by decide) (fun c_4 => ?_) (fun c => absurd (nI_le (by omega) (by omega)) c)
      refine bk hX lkX12_ok (pc' := 33) [.aload_n 0, .bipush 32] (by decide +kernel) (And.intro trivial ?_)
      refine z_callV hX kw_X12_251 (c_M_takes E K N Rf I1 L ht (mTx_at hx h2 (by decide) (by decide)) h1 hb (c := 32) (by decide)) rfl rfl rfl rfl rfl (by decide +kernel) (by decide) (by decide) (by decide) (by decide) (Nat.le_of_ble_eq_true rfl) ?_
      rintro _ _ (⟨c1, rfl, rfl⟩ | ⟨c1, rfl, rfl⟩)
      · rw [if_pos c1] at h3
        exact z_iret hX (by decide +kernel) rfl rfl (by decide) (by decide) ⟨_, rfl, by rw [← h3]; rfl, by rw [up2_self, ← h3]; rfl, frX_tr h2 (frX_f (by decide))⟩
      · rw [if_neg c1] at h3
        exact z_iret hX (by decide +kernel) rfl rfl (by decide) (by decide) ⟨_, rfl, by rw [← h3]; rfl, by rw [← h3]; exact h1, h2⟩
    | succ n ih =>
      intro k b I1 hk hb h1 h2 h3
      have hkl : k < ws.length := by omega
      have e1 : ws.drop k = ws.getD k 0 :: ws.drop (k + 1) := by
        rw [List.getD_eq_getElem?_getD, List.getElem?_eq_getElem hkl]
        exact List.drop_eq_getElem_cons hkl
      have hc128 : ws.getD k 0 < 128 := by
        rw [List.getD_eq_getElem?_getD, List.getElem?_eq_getElem hkl]
        exact h128 _ (List.getElem_mem hkl)
      have e2 : I1 125 (f + k) = nI (ws.getD k 0) := by
        rw [h2.1 _ (by decide) (by decide), hL (f + k) (by omega), hwk k (by omega)]
      rw [e1, List.cons_append, pWd_s] at h3
      refine bk hX lkX12_ok (pc' := 4) [.iload_n 3, .iload_n 2] (by decide +kernel) (And.intro trivial ?_)
      refine ic_ge hX (26) 30 (by decide +kernel) (by decide) (fun c => absurd c (nI_ge (by omega) (by omega))) (fun c_4 => ?_)
      refine bk hX lkX12_ok (pc' := 16) [.aload_n 0, .aload_n 0, .getfield 83, .iload_n 1, .iload_n 3, .iadd, .iaload] (by decide +kernel) (And.intro (by rw [nI_add]; exact vin 13 (by omega)) (And.intro trivial ?_))
      rw [nI_add, cl (by omega), show I1 (101 + 24) (f + k) = _ from e2]
      refine z_callV hX kw_X12_251 (c_M_takes E K N Rf I1 L ht (mTx_at hx h2 (by decide) (by decide)) h1 hb hc128) rfl rfl rfl rfl rfl (by decide +kernel) (by decide) (by decide) (by decide) (by decide) (Nat.le_of_ble_eq_true rfl) ?_
      rintro _ _ (⟨c1, rfl, rfl⟩ | ⟨c1, rfl, rfl⟩)
      · rw [if_pos c1] at h3
        have hb1 := nx_in c1 hc128
        refine if_ne hX (5) 24 (by decide +kernel) (by decide) (fun c_19 => ?_) (fun c => absurd c (by decide))
        refine bk hX lkX12_ok (pc' := 27) [.iinc 3 1] (by decide +kernel) (And.intro trivial ?_)
        refine gt_ hX (-25) 2 (by decide +kernel) (by decide) ?_
        refine z_lvk (lv' := [(0, _), (1, _), (2, _), (3, _)]) [1, 2, 3, 0] rfl ?_
        rw [nI_add]
        exact ih (k + 1) (b + 1) _ (by omega) (by omega) (by rw [up2_self]) (frX_tr h2 (frX_f (by decide))) h3
      · rw [if_neg c1] at h3
        refine if_ne hX (5) 24 (by decide +kernel) (by decide) (fun c => absurd (rfl) c) (fun c_19 => ?_)
        refine bk hX lkX12_ok (pc' := 23) [.iconst 0] (by decide +kernel) (And.intro trivial ?_)
        exact z_iret hX (by decide +kernel) rfl (rfl) (by decide) (by decide) (⟨_, rfl, by rw [← h3]; rfl, by rw [← h3]; exact h1, h2⟩)
  refine bk hX lkX12_ok (pc' := 2) [.iconst 0, .istore_n 3] (by decide +kernel) (And.intro trivial ?_)
  refine z_lvk (lv' := [(0, _), (1, _), (2, _), (3, _)]) [1, 2, 3, 0] rfl ?_
  exact hl m 0 a I (by omega) hal ha (frX_rf _ _ _) rfl
theorem dg_in {c : Nat} (hc : c ≤ 200) : (nI 48 ≤ nxI c ∧ nxI c ≤ nI 57) ↔ dgB c = true := by
  rw [dgB_iff]
  unfold nxI
  split
  · rename_i h
    constructor
    · intro z; exact absurd z.1 (by decide)
    · intro z; omega
  · rw [nI_leI (by omega) (by omega), nI_leI (by omega) (by omega)]
theorem c_M_isDigit (E : zE) (K N : Nat → Nat) (Rf : Nat → Nat → Option Nat) (I : Nat → Nat → Int32) (L : Nat → Nat → Int64) {t : List Nat} (ht : txw t) (hx : mTx t I) {a : Nat} (ha : I 100 11 = nI a) (hal : a ≤ t.length) : zCt E mX12_isDigit 1 0 0 (sg K N Rf I L) [.ref 100] (fun r σ' => σ' = (sg K N Rf I L) ∧ (((dgB (nx t a) = true) ∧ r = some (.int 1)) ∨ (¬ ((dgB (nx t a) = true)) ∧ r = some (.int 0)))) := by
  refine z_intro (by decide) (Nat.le_of_ble_eq_true rfl) (fun X hX => ?_)
  refine bk hX lkX12_ok (pc' := 2) [.aload_n 0, .aload_n 0] (by decide +kernel) (And.intro trivial ?_)
  refine z_callV hX kw_X12_247 (c_M_next E K N Rf I L ht hx ha hal) rfl rfl rfl rfl rfl (by decide +kernel) (by decide) (by decide) (by decide) (by decide) (Nat.le_of_ble_eq_true rfl) ?_
  rintro _ _ ⟨rfl, rfl⟩
  refine bk hX lkX12_ok (pc' := 9) [.bipush 48, .bipush 57] (by decide +kernel) (And.intro trivial ?_)
  refine z_callV hX kw_X12_228 (c_M_in E _ _ _ _ _) rfl rfl rfl rfl rfl (by decide +kernel) (by decide) (by decide) (by decide) (by decide) (Nat.le_of_ble_eq_true rfl) ?_
  rintro _ _ ⟨rfl, hh⟩
  rw [dg_in (nx_le ht a)] at hh
  rcases hh with ⟨hq, rfl⟩ | ⟨hq, rfl⟩
  · exact z_iret hX (by decide +kernel) rfl (rfl) (by decide) (by decide) (by first | exact ⟨rfl, Or.inl ⟨hq, rfl⟩⟩ | exact ⟨rfl, Or.inr ⟨hq, rfl⟩⟩)
  · exact z_iret hX (by decide +kernel) rfl (rfl) (by decide) (by decide) (by first | exact ⟨rfl, Or.inl ⟨hq, rfl⟩⟩ | exact ⟨rfl, Or.inr ⟨hq, rfl⟩⟩)
set_option maxHeartbeats 1000000 in
theorem c_M_takesNumber (E : zE) (K N : Nat → Nat) (Rf : Nat → Nat → Option Nat) (I : Nat → Nat → Int32) (L : Nat → Nat → Int64) {t : List Nat} (ht : txw t) (hx : mTx t I) {a : Nat} (ha : I 100 11 = nI a) (hal : a ≤ t.length) : zCt E mX12_takesNumber 2 0 0 (sg K N Rf I L) [.ref 100] (fun r σ' => ∃ I', σ' = sg K N Rf I' L ∧ frX [] [11, 12] I I' ∧ I' 100 11 = nI (pNm t a).2 ∧ (((pNm t a).1 = none ∧ r = some (.int 0)) ∨ ∃ n, (pNm t a).1 = some n ∧ r = some (.int 1) ∧ I' 100 12 = nI n)) := by
  have hl100 := ht.1
  refine z_intro (by decide) (Nat.le_of_ble_eq_true rfl) (fun X hX => ?_)
  have hret : ∀ (k : Int32) (I1 : Nat → Nat → Int32) n, frX [] [11, 12] I I1 → I1 100 11 = nI (pNm t a).2 → (pNm t a).1 = some n → I1 100 12 = nI n → zS X (sg K N Rf I1 L) 0 0 63 [(0, .ref 100), (1, .int k)] [] := by
    intro k I1 n h1 h2 h3 h4
    refine bk hX lkX12_ok (pc' := 64) [.iconst 1] (by decide +kernel) (And.intro trivial ?_)
    exact z_iret hX (by decide +kernel) rfl (rfl) (by decide) (by decide) (⟨I1, rfl, h1, h2, Or.inr ⟨n, h3, rfl, h4⟩⟩)
  have h2nd : ∀ (I1 : Nat → Nat → Int32), dgB (nx t a) = true → frX [] [11, 12] I I1 → I1 100 11 = nI (a + 1) → I1 100 12 = nI (nx t a - 48) → zS X (sg K N Rf I1 L) 0 0 16 [(0, .ref 100), (1, .int (nI 1))] [] := by
    intro I1 hd h1 h2 h3
    have hd2 := dgB_iff.mp hd
    have hin := nx_in (t := t) (a := a) rfl (by omega)
    have hx1 := mTx_at hx h1 (by decide) (by decide)
    refine bk hX lkX12_ok (pc' := 18) [.iload_n 1, .iconst 2] (by decide +kernel) (And.intro trivial ?_)
    refine ic_ge hX (45) 63 (by decide +kernel) (by decide) (fun c => absurd c (by decide)) (fun c_18 => ?_)
    refine bk hX lkX12_ok (pc' := 22) [.aload_n 0] (by decide +kernel) (And.intro trivial ?_)
    refine z_callV hX kw_X12_254 (c_M_isDigit E K N Rf I1 L ht hx1 h2 (by omega)) rfl rfl rfl rfl rfl (by decide +kernel) (by decide) (by decide) (by decide) (by decide) (Nat.le_of_ble_eq_true rfl) ?_
    rintro _ _ ⟨rfl, hh⟩
    rcases hh with ⟨hq, rfl⟩ | ⟨hq, rfl⟩
    · refine if_eq hX (38) 63 (by decide +kernel) (by decide) (fun c => absurd c (by decide)) (fun c_25 => ?_)
      refine bk hX lkX12_ok (pc' := 29) [.aload_n 0] (by decide +kernel) (And.intro trivial ?_)
      have hq2 := dgB_iff.mp hq
      have hin2 := nx_in (t := t) (a := a + 1) rfl (by omega)
      refine bk hX lkX12_ok (pc' := 37) [.bipush 10, .aload_n 0, .getfield 47, .imul, .aload_n 0] (by decide +kernel) (And.intro trivial ?_)
      refine z_callV hX kw_X12_247 (c_M_next E K N Rf I1 L ht hx1 h2 (by omega)) rfl rfl rfl rfl rfl (by decide +kernel) (by decide) (by decide) (by decide) (by decide) (Nat.le_of_ble_eq_true rfl) ?_
      rintro _ _ ⟨rfl, rfl⟩
      refine bk hX lkX12_ok (pc' := 60) [.iadd, .bipush 48, .isub, .putfield 47, .aload_n 0, .dup, .getfield 44, .iconst 1, .iadd, .putfield 44, .iinc 1 1] (by decide +kernel) (And.intro trivial ?_)
      refine gt_ hX (-44) 16 (by decide +kernel) (by decide) ?_
      refine z_lvk (lv' := [(0, _), (1, _)]) [1, 0] rfl ?_
      rw [show nxI (nx t (a + 1)) = nI (nx t (a + 1)) by unfold nxI; rw [if_neg (by omega)], h3, show nI 10 * nI (nx t a - 48) = nI (10 * (nx t a - 48)) from pk_mul _ _, nI_add, show nI (10 * (nx t a - 48) + nx t (a + 1)) - nI 48 = nI (10 * (nx t a - 48) + nx t (a + 1) - 48) from pk_sub (by omega)]
      refine bk hX lkX12_ok (pc' := 18) [.iload_n 1, .iconst 2] (by decide +kernel) (And.intro trivial ?_)
      refine ic_ge hX (45) 63 (by decide +kernel) (by decide) (fun c_18 => ?_) (fun c => absurd (by decide) c)
      refine z_lvk (lv' := [(0, _), (1, _)]) [0, 1] rfl ?_
      refine hret _ _ (10 * (nx t a - 48) + (nx t (a + 1) - 48)) (frX_tr h1 (frX_tr (frX_f (by decide)) (frX_f (by decide)))) ?_ ?_ ?_
      · unfold pNm; rw [if_pos hd, if_pos hq]; simp [up2_v, h2, nI_add]
      · unfold pNm; rw [if_pos hd, if_pos hq]
      · rw [up2_v, if_neg (by omega), up2_self, show 10 * (nx t a - 48) + nx t (a + 1) - 48 = 10 * (nx t a - 48) + (nx t (a + 1) - 48) by omega]
    · refine if_eq hX (38) 63 (by decide +kernel) (by decide) (fun c_25 => ?_) (fun c => absurd (by decide) c)
      refine z_lvk (lv' := [(0, _), (1, _)]) [0, 1] rfl ?_
      refine hret _ I1 (nx t a - 48) h1 ?_ ?_ h3 <;> unfold pNm <;> rw [if_pos hd, if_neg hq]
      exact h2
  refine bk hX lkX12_ok (pc' := 1) [.aload_n 0] (by decide +kernel) (And.intro trivial ?_)
  refine z_callV hX kw_X12_254 (c_M_isDigit E K N Rf I L ht hx ha hal) rfl rfl rfl rfl rfl (by decide +kernel) (by decide) (by decide) (by decide) (by decide) (Nat.le_of_ble_eq_true rfl) ?_
  rintro _ _ ⟨rfl, hh⟩
  rcases hh with ⟨hd, rfl⟩ | ⟨hd, rfl⟩
  · refine if_ne hX (5) 9 (by decide +kernel) (by decide) (fun c_4 => ?_) (fun c => absurd c (by decide))
    refine bk hX lkX12_ok (pc' := 16) [.aload_n 0, .iconst 0, .putfield 47, .iconst 0, .istore_n 1] (by decide +kernel) (And.intro trivial ?_)
    refine z_lvk (lv' := [(0, _), (1, _)]) [1, 0] rfl ?_
    have hx1 : mTx t (up2 I 100 12 (nI 0)) := mTx_at (Ps := []) (Fs := [11, 12]) hx (frX_f (by decide)) (by decide) (by decide)
    have ha1 : up2 I 100 12 (nI 0) 100 11 = nI a := by rw [up2_v, if_neg (by omega)]; exact ha
    have hd2 := dgB_iff.mp hd
    refine bk hX lkX12_ok (pc' := 18) [.iload_n 1, .iconst 2] (by decide +kernel) (And.intro trivial ?_)
    refine ic_ge hX (45) 63 (by decide +kernel) (by decide) (fun c => absurd c (by decide)) (fun c_18 => ?_)
    refine bk hX lkX12_ok (pc' := 22) [.aload_n 0] (by decide +kernel) (And.intro trivial ?_)
    refine z_callV hX kw_X12_254 (c_M_isDigit E K N Rf _ L ht hx1 ha1 hal) rfl rfl rfl rfl rfl (by decide +kernel) (by decide) (by decide) (by decide) (by decide) (Nat.le_of_ble_eq_true rfl) ?_
    rintro _ _ ⟨rfl, hh⟩
    rcases hh with ⟨hq, rfl⟩ | ⟨hq, rfl⟩
    · refine if_eq hX (38) 63 (by decide +kernel) (by decide) (fun c => absurd c (by decide)) (fun c_25 => ?_)
      refine bk hX lkX12_ok (pc' := 37) [.aload_n 0, .bipush 10, .aload_n 0, .getfield 47, .imul, .aload_n 0] (by decide +kernel) (And.intro trivial ?_)
      refine z_callV hX kw_X12_247 (c_M_next E K N Rf _ L ht hx1 ha1 hal) rfl rfl rfl rfl rfl (by decide +kernel) (by decide) (by decide) (by decide) (by decide) (Nat.le_of_ble_eq_true rfl) ?_
      rintro _ _ ⟨rfl, rfl⟩
      refine bk hX lkX12_ok (pc' := 60) [.iadd, .bipush 48, .isub, .putfield 47, .aload_n 0, .dup, .getfield 44, .iconst 1, .iadd, .putfield 44, .iinc 1 1] (by decide +kernel) (And.intro trivial ?_)
      refine gt_ hX (-44) 16 (by decide +kernel) (by decide) ?_
      refine z_lvk (lv' := [(0, _), (1, _)]) [1, 0] rfl ?_
      rw [show nxI (nx t a) = nI (nx t a) by unfold nxI; rw [if_neg (by omega)], up2_self, show nI 10 * nI 0 + nI (nx t a) = nI (nx t a) by rw [show nI 10 * nI 0 = nI 0 by decide, nI_add, Nat.zero_add], show nI (nx t a) - nI 48 = nI (nx t a - 48) from pk_sub (by omega)]
      exact h2nd _ hd (frX_tr (frX_f (by decide)) (frX_tr (frX_f (by decide)) (frX_f (by decide)))) (by simp [up2_v, ha, nI_add]) (by simp [up2_v])
    · refine if_eq hX (38) 63 (by decide +kernel) (by decide) (fun c_25 => ?_) (fun c => absurd (by decide) c)
      refine z_lvk (lv' := [(0, _), (1, _)]) [0, 1] rfl ?_
      exact absurd hd hq
  · refine if_ne hX (5) 9 (by decide +kernel) (by decide) (fun c => absurd (by decide) c) (fun c_4 => ?_)
    refine bk hX lkX12_ok (pc' := 8) [.iconst 0] (by decide +kernel) (And.intro trivial ?_)
    exact z_iret hX (by decide +kernel) rfl (rfl) (by decide) (by decide) (⟨I, rfl, frX_rf _ _ _, by unfold pNm; rw [if_neg hd]; exact ha, Or.inl ⟨by unfold pNm; rw [if_neg hd], rfl⟩⟩)
end
