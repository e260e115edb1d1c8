section
-- ===== PART A: goes FIRST, ahead of the names: the tables' words, and 'selects' of the private methods out of them =====
/-- a private method of a class that the tables say can be made, by its rows of tables_1 -/
def lw_okq (q : MethodName × Nat) : Prop := (q.1.cls ≠ "java/lang/invoke/MethodHandle" ∧ q.1.cls ≠ "java/lang/invoke/VarHandle") ∧ Cond.instantiable q.1.cls q.2 ∈ tables_1 ∧ Cond.privateMethod q.1 ∈ tables_1 ∧ Cond.instanceMethod q.1 ∈ tables_1
theorem lw_p0 : lw_okq (⟨"HexCampaign$History", "keptAt", "(I)LHexCampaign$Game;"⟩, 3) := ⟨⟨by decide +kernel, by decide +kernel⟩, List.mem_of_getElem? (i := 206) (by decide +kernel), List.mem_of_getElem? (i := 323) (by decide +kernel), List.mem_of_getElem? (i := 324) (by decide +kernel)⟩
theorem lw_p1 : lw_okq (⟨"HexCampaign$Waves", "arrivals", "(I)J"⟩, 8) := ⟨⟨by decide +kernel, by decide +kernel⟩, List.mem_of_getElem? (i := 156) (by decide +kernel), List.mem_of_getElem? (i := 428) (by decide +kernel), List.mem_of_getElem? (i := 429) (by decide +kernel)⟩
theorem lw_p2 : lw_okq (⟨"HexCampaign$Waves", "stepsFrom", "(JIJ)J"⟩, 8) := ⟨⟨by decide +kernel, by decide +kernel⟩, List.mem_of_getElem? (i := 156) (by decide +kernel), List.mem_of_getElem? (i := 435) (by decide +kernel), List.mem_of_getElem? (i := 436) (by decide +kernel)⟩
theorem lw_p3 : lw_okq (⟨"HexCampaign$Units", "weaken", "(II)I"⟩, 12) := ⟨⟨by decide +kernel, by decide +kernel⟩, List.mem_of_getElem? (i := 69) (by decide +kernel), List.mem_of_getElem? (i := 463) (by decide +kernel), List.mem_of_getElem? (i := 464) (by decide +kernel)⟩
theorem lw_p4 : lw_okq (⟨"HexCampaign$Game", "changeWeather", "()V"⟩, 9) := ⟨⟨by decide +kernel, by decide +kernel⟩, List.mem_of_getElem? (i := 46) (by decide +kernel), List.mem_of_getElem? (i := 483) (by decide +kernel), List.mem_of_getElem? (i := 484) (by decide +kernel)⟩
theorem lw_p5 : lw_okq (⟨"java/lang/Throwable", "fillInStackTrace", "(I)Ljava/lang/Throwable;"⟩, 6) := ⟨⟨by decide +kernel, by decide +kernel⟩, List.mem_of_getElem? (i := 530) (by decide +kernel), List.mem_of_getElem? (i := 528) (by decide +kernel), List.mem_of_getElem? (i := 529) (by decide +kernel)⟩
theorem lw_p6 : lw_okq (⟨"HexCampaign", "checkUnit", "(I)V"⟩, 7) := ⟨⟨by decide +kernel, by decide +kernel⟩, List.mem_of_getElem? (i := 32) (by decide +kernel), List.mem_of_getElem? (i := 783) (by decide +kernel), List.mem_of_getElem? (i := 784) (by decide +kernel)⟩
theorem lw_p7 : lw_okq (⟨"HexCampaign$Land", "upToHeight", "(I)J"⟩, 3) := ⟨⟨by decide +kernel, by decide +kernel⟩, List.mem_of_getElem? (i := 52) (by decide +kernel), List.mem_of_getElem? (i := 857) (by decide +kernel), List.mem_of_getElem? (i := 858) (by decide +kernel)⟩
theorem lw_p8 : lw_okq (⟨"HexCampaign$Play", "floodWays", "(I)V"⟩, 5) := ⟨⟨by decide +kernel, by decide +kernel⟩, List.mem_of_getElem? (i := 40) (by decide +kernel), List.mem_of_getElem? (i := 925) (by decide +kernel), List.mem_of_getElem? (i := 926) (by decide +kernel)⟩
theorem lw_p9 : lw_okq (⟨"HexCampaign$Play", "unitsInSight", "(I)I"⟩, 5) := ⟨⟨by decide +kernel, by decide +kernel⟩, List.mem_of_getElem? (i := 40) (by decide +kernel), List.mem_of_getElem? (i := 934) (by decide +kernel), List.mem_of_getElem? (i := 935) (by decide +kernel)⟩
theorem lw_p10 : lw_okq (⟨"HexCampaign$Waves", "markUseful", "(II)V"⟩, 8) := ⟨⟨by decide +kernel, by decide +kernel⟩, List.mem_of_getElem? (i := 156) (by decide +kernel), List.mem_of_getElem? (i := 959) (by decide +kernel), List.mem_of_getElem? (i := 960) (by decide +kernel)⟩
theorem lw_p11 : lw_okq (⟨"HexCampaign$Waves", "departures", "(I)J"⟩, 8) := ⟨⟨by decide +kernel, by decide +kernel⟩, List.mem_of_getElem? (i := 156) (by decide +kernel), List.mem_of_getElem? (i := 964) (by decide +kernel), List.mem_of_getElem? (i := 965) (by decide +kernel)⟩
theorem lw_p12 : lw_okq (⟨"HexCampaign$Waves", "usefulAfter", "(II)J"⟩, 8) := ⟨⟨by decide +kernel, by decide +kernel⟩, List.mem_of_getElem? (i := 156) (by decide +kernel), List.mem_of_getElem? (i := 968) (by decide +kernel), List.mem_of_getElem? (i := 969) (by decide +kernel)⟩
theorem lw_p13 : lw_okq (⟨"HexCampaign$Waves", "nextOnWay", "(II)I"⟩, 8) := ⟨⟨by decide +kernel, by decide +kernel⟩, List.mem_of_getElem? (i := 156) (by decide +kernel), List.mem_of_getElem? (i := 972) (by decide +kernel), List.mem_of_getElem? (i := 973) (by decide +kernel)⟩
theorem lw_p14 : lw_okq (⟨"HexCampaign", "explainRefusal", "(IIIZ)V"⟩, 7) := ⟨⟨by decide +kernel, by decide +kernel⟩, List.mem_of_getElem? (i := 32) (by decide +kernel), List.mem_of_getElem? (i := 1018) (by decide +kernel), List.mem_of_getElem? (i := 1019) (by decide +kernel)⟩
theorem lw_p15 : lw_okq (⟨"HexCampaign$Play", "stopOf", "(I)I"⟩, 5) := ⟨⟨by decide +kernel, by decide +kernel⟩, List.mem_of_getElem? (i := 40) (by decide +kernel), List.mem_of_getElem? (i := 1044) (by decide +kernel), List.mem_of_getElem? (i := 1045) (by decide +kernel)⟩
def lw_privs_1 : List (MethodName × Nat) := [(⟨"HexCampaign$History", "keptAt", "(I)LHexCampaign$Game;"⟩, 3), (⟨"HexCampaign$Waves", "arrivals", "(I)J"⟩, 8), (⟨"HexCampaign$Waves", "stepsFrom", "(JIJ)J"⟩, 8), (⟨"HexCampaign$Units", "weaken", "(II)I"⟩, 12), (⟨"HexCampaign$Game", "changeWeather", "()V"⟩, 9), (⟨"java/lang/Throwable", "fillInStackTrace", "(I)Ljava/lang/Throwable;"⟩, 6), (⟨"HexCampaign", "checkUnit", "(I)V"⟩, 7), (⟨"HexCampaign$Land", "upToHeight", "(I)J"⟩, 3), (⟨"HexCampaign$Play", "floodWays", "(I)V"⟩, 5), (⟨"HexCampaign$Play", "unitsInSight", "(I)I"⟩, 5), (⟨"HexCampaign$Waves", "markUseful", "(II)V"⟩, 8), (⟨"HexCampaign$Waves", "departures", "(I)J"⟩, 8), (⟨"HexCampaign$Waves", "usefulAfter", "(II)J"⟩, 8), (⟨"HexCampaign$Waves", "nextOnWay", "(II)I"⟩, 8), (⟨"HexCampaign", "explainRefusal", "(IIIZ)V"⟩, 7), (⟨"HexCampaign$Play", "stopOf", "(I)I"⟩, 5)]
theorem lw_r1 : ∀ q ∈ lw_privs_1, lw_okq q := List.forall_mem_cons.mpr ⟨lw_p0, List.forall_mem_cons.mpr ⟨lw_p1, List.forall_mem_cons.mpr ⟨lw_p2, List.forall_mem_cons.mpr ⟨lw_p3, List.forall_mem_cons.mpr ⟨lw_p4, List.forall_mem_cons.mpr ⟨lw_p5, List.forall_mem_cons.mpr ⟨lw_p6, List.forall_mem_cons.mpr ⟨lw_p7, List.forall_mem_cons.mpr ⟨lw_p8, List.forall_mem_cons.mpr ⟨lw_p9, List.forall_mem_cons.mpr ⟨lw_p10, List.forall_mem_cons.mpr ⟨lw_p11, List.forall_mem_cons.mpr ⟨lw_p12, List.forall_mem_cons.mpr ⟨lw_p13, List.forall_mem_cons.mpr ⟨lw_p14, List.forall_mem_cons.mpr ⟨lw_p15, fun _ h => absurd h List.not_mem_nil⟩⟩⟩⟩⟩⟩⟩⟩⟩⟩⟩⟩⟩⟩⟩⟩
theorem lw_p16 : lw_okq (⟨"HexCampaign$Play", "backToRoom", "(II)I"⟩, 5) := ⟨⟨by decide +kernel, by decide +kernel⟩, List.mem_of_getElem? (i := 40) (by decide +kernel), List.mem_of_getElem? (i := 1052) (by decide +kernel), List.mem_of_getElem? (i := 1053) (by decide +kernel)⟩
theorem lw_p17 : lw_okq (⟨"HexCampaign", "checkAttack", "(II)V"⟩, 7) := ⟨⟨by decide +kernel, by decide +kernel⟩, List.mem_of_getElem? (i := 32) (by decide +kernel), List.mem_of_getElem? (i := 1072) (by decide +kernel), List.mem_of_getElem? (i := 1073) (by decide +kernel)⟩
theorem lw_p18 : lw_okq (⟨"HexCampaign$Play", "sumOfForces", "(IJ)I"⟩, 5) := ⟨⟨by decide +kernel, by decide +kernel⟩, List.mem_of_getElem? (i := 40) (by decide +kernel), List.mem_of_getElem? (i := 1090) (by decide +kernel), List.mem_of_getElem? (i := 1091) (by decide +kernel)⟩
theorem lw_p19 : lw_okq (⟨"HexCampaign$Play", "loseEach", "(I)V"⟩, 5) := ⟨⟨by decide +kernel, by decide +kernel⟩, List.mem_of_getElem? (i := 40) (by decide +kernel), List.mem_of_getElem? (i := 1123) (by decide +kernel), List.mem_of_getElem? (i := 1124) (by decide +kernel)⟩
theorem lw_p20 : lw_okq (⟨"HexCampaign$Play", "retreatEach", "(II)V"⟩, 5) := ⟨⟨by decide +kernel, by decide +kernel⟩, List.mem_of_getElem? (i := 40) (by decide +kernel), List.mem_of_getElem? (i := 1131) (by decide +kernel), List.mem_of_getElem? (i := 1132) (by decide +kernel)⟩
theorem lw_p21 : lw_okq (⟨"HexCampaign$Play", "refugeOf", "(II)I"⟩, 5) := ⟨⟨by decide +kernel, by decide +kernel⟩, List.mem_of_getElem? (i := 40) (by decide +kernel), List.mem_of_getElem? (i := 1136) (by decide +kernel), List.mem_of_getElem? (i := 1137) (by decide +kernel)⟩
theorem lw_p22 : lw_okq (⟨"HexCampaign$Play", "isBetterRefuge", "(IIII)Z"⟩, 5) := ⟨⟨by decide +kernel, by decide +kernel⟩, List.mem_of_getElem? (i := 40) (by decide +kernel), List.mem_of_getElem? (i := 1142) (by decide +kernel), List.mem_of_getElem? (i := 1143) (by decide +kernel)⟩
theorem lw_p23 : lw_okq (⟨"HexCampaignModel", "unitCount", "()I"⟩, 18) := ⟨⟨by decide +kernel, by decide +kernel⟩, List.mem_of_getElem? (i := 1370) (by decide +kernel), List.mem_of_getElem? (i := 1439) (by decide +kernel), List.mem_of_getElem? (i := 1440) (by decide +kernel)⟩
theorem lw_p24 : lw_okq (⟨"HexCampaignModel", "isUnit", "(I)Z"⟩, 18) := ⟨⟨by decide +kernel, by decide +kernel⟩, List.mem_of_getElem? (i := 1370) (by decide +kernel), List.mem_of_getElem? (i := 1443) (by decide +kernel), List.mem_of_getElem? (i := 1444) (by decide +kernel)⟩
theorem lw_p25 : lw_okq (⟨"HexCampaignModel", "of", "(II)I"⟩, 18) := ⟨⟨by decide +kernel, by decide +kernel⟩, List.mem_of_getElem? (i := 1370) (by decide +kernel), List.mem_of_getElem? (i := 1450) (by decide +kernel), List.mem_of_getElem? (i := 1451) (by decide +kernel)⟩
theorem lw_p26 : lw_okq (⟨"HexCampaignModel", "unitsOn", "(I)I"⟩, 18) := ⟨⟨by decide +kernel, by decide +kernel⟩, List.mem_of_getElem? (i := 1370) (by decide +kernel), List.mem_of_getElem? (i := 1461) (by decide +kernel), List.mem_of_getElem? (i := 1462) (by decide +kernel)⟩
theorem lw_p27 : lw_okq (⟨"HexCampaignModel", "change", "()V"⟩, 18) := ⟨⟨by decide +kernel, by decide +kernel⟩, List.mem_of_getElem? (i := 1370) (by decide +kernel), List.mem_of_getElem? (i := 1465) (by decide +kernel), List.mem_of_getElem? (i := 1466) (by decide +kernel)⟩
theorem lw_p28 : lw_okq (⟨"HexCampaignModel", "strengthOn", "(I)I"⟩, 18) := ⟨⟨by decide +kernel, by decide +kernel⟩, List.mem_of_getElem? (i := 1370) (by decide +kernel), List.mem_of_getElem? (i := 1487) (by decide +kernel), List.mem_of_getElem? (i := 1488) (by decide +kernel)⟩
theorem lw_p29 : lw_okq (⟨"HexCampaignModel", "knownTo", "(I)I"⟩, 18) := ⟨⟨by decide +kernel, by decide +kernel⟩, List.mem_of_getElem? (i := 1370) (by decide +kernel), List.mem_of_getElem? (i := 1521) (by decide +kernel), List.mem_of_getElem? (i := 1522) (by decide +kernel)⟩
theorem lw_p30 : lw_okq (⟨"HexCampaignModel", "seenBy", "(I)J"⟩, 18) := ⟨⟨by decide +kernel, by decide +kernel⟩, List.mem_of_getElem? (i := 1370) (by decide +kernel), List.mem_of_getElem? (i := 1525) (by decide +kernel), List.mem_of_getElem? (i := 1526) (by decide +kernel)⟩
theorem lw_p31 : lw_okq (⟨"HexCampaignModel", "isOf", "(II)Z"⟩, 18) := ⟨⟨by decide +kernel, by decide +kernel⟩, List.mem_of_getElem? (i := 1370) (by decide +kernel), List.mem_of_getElem? (i := 1529) (by decide +kernel), List.mem_of_getElem? (i := 1530) (by decide +kernel)⟩
def lw_privs_2 : List (MethodName × Nat) := [(⟨"HexCampaign$Play", "backToRoom", "(II)I"⟩, 5), (⟨"HexCampaign", "checkAttack", "(II)V"⟩, 7), (⟨"HexCampaign$Play", "sumOfForces", "(IJ)I"⟩, 5), (⟨"HexCampaign$Play", "loseEach", "(I)V"⟩, 5), (⟨"HexCampaign$Play", "retreatEach", "(II)V"⟩, 5), (⟨"HexCampaign$Play", "refugeOf", "(II)I"⟩, 5), (⟨"HexCampaign$Play", "isBetterRefuge", "(IIII)Z"⟩, 5), (⟨"HexCampaignModel", "unitCount", "()I"⟩, 18), (⟨"HexCampaignModel", "isUnit", "(I)Z"⟩, 18), (⟨"HexCampaignModel", "of", "(II)I"⟩, 18), (⟨"HexCampaignModel", "unitsOn", "(I)I"⟩, 18), (⟨"HexCampaignModel", "change", "()V"⟩, 18), (⟨"HexCampaignModel", "strengthOn", "(I)I"⟩, 18), (⟨"HexCampaignModel", "knownTo", "(I)I"⟩, 18), (⟨"HexCampaignModel", "seenBy", "(I)J"⟩, 18), (⟨"HexCampaignModel", "isOf", "(II)Z"⟩, 18)]
theorem lw_r2 : ∀ q ∈ lw_privs_2, lw_okq q := List.forall_mem_cons.mpr ⟨lw_p16, List.forall_mem_cons.mpr ⟨lw_p17, List.forall_mem_cons.mpr ⟨lw_p18, List.forall_mem_cons.mpr ⟨lw_p19, List.forall_mem_cons.mpr ⟨lw_p20, List.forall_mem_cons.mpr ⟨lw_p21, List.forall_mem_cons.mpr ⟨lw_p22, List.forall_mem_cons.mpr ⟨lw_p23, List.forall_mem_cons.mpr ⟨lw_p24, List.forall_mem_cons.mpr ⟨lw_p25, List.forall_mem_cons.mpr ⟨lw_p26, List.forall_mem_cons.mpr ⟨lw_p27, List.forall_mem_cons.mpr ⟨lw_p28, List.forall_mem_cons.mpr ⟨lw_p29, List.forall_mem_cons.mpr ⟨lw_p30, List.forall_mem_cons.mpr ⟨lw_p31, fun _ h => absurd h List.not_mem_nil⟩⟩⟩⟩⟩⟩⟩⟩⟩⟩⟩⟩⟩⟩⟩⟩
theorem lw_p32 : lw_okq (⟨"HexCampaignModel", "sees", "(II)Z"⟩, 18) := ⟨⟨by decide +kernel, by decide +kernel⟩, List.mem_of_getElem? (i := 1370) (by decide +kernel), List.mem_of_getElem? (i := 1533) (by decide +kernel), List.mem_of_getElem? (i := 1534) (by decide +kernel)⟩
theorem lw_p33 : lw_okq (⟨"HexCampaignModel", "unitsOf", "(I)I"⟩, 18) := ⟨⟨by decide +kernel, by decide +kernel⟩, List.mem_of_getElem? (i := 1370) (by decide +kernel), List.mem_of_getElem? (i := 1549) (by decide +kernel), List.mem_of_getElem? (i := 1550) (by decide +kernel)⟩
theorem lw_p34 : lw_okq (⟨"HexCampaignModel", "zone", "(I)J"⟩, 18) := ⟨⟨by decide +kernel, by decide +kernel⟩, List.mem_of_getElem? (i := 1370) (by decide +kernel), List.mem_of_getElem? (i := 1553) (by decide +kernel), List.mem_of_getElem? (i := 1554) (by decide +kernel)⟩
theorem lw_p35 : lw_okq (⟨"HexCampaignModel", "cellsOf", "(I)J"⟩, 18) := ⟨⟨by decide +kernel, by decide +kernel⟩, List.mem_of_getElem? (i := 1370) (by decide +kernel), List.mem_of_getElem? (i := 1557) (by decide +kernel), List.mem_of_getElem? (i := 1558) (by decide +kernel)⟩
theorem lw_p36 : lw_okq (⟨"HexCampaignModel", "sources", "(I)J"⟩, 18) := ⟨⟨by decide +kernel, by decide +kernel⟩, List.mem_of_getElem? (i := 1370) (by decide +kernel), List.mem_of_getElem? (i := 1561) (by decide +kernel), List.mem_of_getElem? (i := 1562) (by decide +kernel)⟩
theorem lw_p37 : lw_okq (⟨"HexCampaignModel", "closed", "(I)J"⟩, 18) := ⟨⟨by decide +kernel, by decide +kernel⟩, List.mem_of_getElem? (i := 1370) (by decide +kernel), List.mem_of_getElem? (i := 1565) (by decide +kernel), List.mem_of_getElem? (i := 1566) (by decide +kernel)⟩
theorem lw_p38 : lw_okq (⟨"HexCampaignModel", "suppliedCells", "(I)J"⟩, 18) := ⟨⟨by decide +kernel, by decide +kernel⟩, List.mem_of_getElem? (i := 1370) (by decide +kernel), List.mem_of_getElem? (i := 1569) (by decide +kernel), List.mem_of_getElem? (i := 1570) (by decide +kernel)⟩
theorem lw_p39 : lw_okq (⟨"HexCampaignModel", "findSupply", "(I)V"⟩, 18) := ⟨⟨by decide +kernel, by decide +kernel⟩, List.mem_of_getElem? (i := 1370) (by decide +kernel), List.mem_of_getElem? (i := 1573) (by decide +kernel), List.mem_of_getElem? (i := 1574) (by decide +kernel)⟩
theorem lw_p40 : lw_okq (⟨"HexCampaignModel", "stepCost", "(II)I"⟩, 18) := ⟨⟨by decide +kernel, by decide +kernel⟩, List.mem_of_getElem? (i := 1370) (by decide +kernel), List.mem_of_getElem? (i := 1578) (by decide +kernel), List.mem_of_getElem? (i := 1579) (by decide +kernel)⟩
theorem lw_p41 : lw_okq (⟨"HexCampaignModel", "hasRoom", "(IIIII)Z"⟩, 18) := ⟨⟨by decide +kernel, by decide +kernel⟩, List.mem_of_getElem? (i := 1370) (by decide +kernel), List.mem_of_getElem? (i := 1592) (by decide +kernel), List.mem_of_getElem? (i := 1593) (by decide +kernel)⟩
theorem lw_p42 : lw_okq (⟨"HexCampaignModel", "reduced", "(II)I"⟩, 18) := ⟨⟨by decide +kernel, by decide +kernel⟩, List.mem_of_getElem? (i := 1370) (by decide +kernel), List.mem_of_getElem? (i := 1603) (by decide +kernel), List.mem_of_getElem? (i := 1604) (by decide +kernel)⟩
theorem lw_p43 : lw_okq (⟨"HexCampaignModel", "isSupplied", "(I)Z"⟩, 18) := ⟨⟨by decide +kernel, by decide +kernel⟩, List.mem_of_getElem? (i := 1370) (by decide +kernel), List.mem_of_getElem? (i := 1607) (by decide +kernel), List.mem_of_getElem? (i := 1608) (by decide +kernel)⟩
theorem lw_p44 : lw_okq (⟨"HexCampaignModel", "canMove", "(I)Z"⟩, 18) := ⟨⟨by decide +kernel, by decide +kernel⟩, List.mem_of_getElem? (i := 1370) (by decide +kernel), List.mem_of_getElem? (i := 1611) (by decide +kernel), List.mem_of_getElem? (i := 1612) (by decide +kernel)⟩
theorem lw_p45 : lw_okq (⟨"HexCampaignModel", "canAttack", "(I)Z"⟩, 18) := ⟨⟨by decide +kernel, by decide +kernel⟩, List.mem_of_getElem? (i := 1370) (by decide +kernel), List.mem_of_getElem? (i := 1615) (by decide +kernel), List.mem_of_getElem? (i := 1616) (by decide +kernel)⟩
theorem lw_p46 : lw_okq (⟨"HexCampaignModel", "findWays", "(I)V"⟩, 18) := ⟨⟨by decide +kernel, by decide +kernel⟩, List.mem_of_getElem? (i := 1370) (by decide +kernel), List.mem_of_getElem? (i := 1623) (by decide +kernel), List.mem_of_getElem? (i := 1624) (by decide +kernel)⟩
theorem lw_p47 : lw_okq (⟨"HexCampaignModel", "isStep", "(III)Z"⟩, 18) := ⟨⟨by decide +kernel, by decide +kernel⟩, List.mem_of_getElem? (i := 1370) (by decide +kernel), List.mem_of_getElem? (i := 1627) (by decide +kernel), List.mem_of_getElem? (i := 1628) (by decide +kernel)⟩
def lw_privs_3 : List (MethodName × Nat) := [(⟨"HexCampaignModel", "sees", "(II)Z"⟩, 18), (⟨"HexCampaignModel", "unitsOf", "(I)I"⟩, 18), (⟨"HexCampaignModel", "zone", "(I)J"⟩, 18), (⟨"HexCampaignModel", "cellsOf", "(I)J"⟩, 18), (⟨"HexCampaignModel", "sources", "(I)J"⟩, 18), (⟨"HexCampaignModel", "closed", "(I)J"⟩, 18), (⟨"HexCampaignModel", "suppliedCells", "(I)J"⟩, 18), (⟨"HexCampaignModel", "findSupply", "(I)V"⟩, 18), (⟨"HexCampaignModel", "stepCost", "(II)I"⟩, 18), (⟨"HexCampaignModel", "hasRoom", "(IIIII)Z"⟩, 18), (⟨"HexCampaignModel", "reduced", "(II)I"⟩, 18), (⟨"HexCampaignModel", "isSupplied", "(I)Z"⟩, 18), (⟨"HexCampaignModel", "canMove", "(I)Z"⟩, 18), (⟨"HexCampaignModel", "canAttack", "(I)Z"⟩, 18), (⟨"HexCampaignModel", "findWays", "(I)V"⟩, 18), (⟨"HexCampaignModel", "isStep", "(III)Z"⟩, 18)]
theorem lw_r3 : ∀ q ∈ lw_privs_3, lw_okq q := List.forall_mem_cons.mpr ⟨lw_p32, List.forall_mem_cons.mpr ⟨lw_p33, List.forall_mem_cons.mpr ⟨lw_p34, List.forall_mem_cons.mpr ⟨lw_p35, List.forall_mem_cons.mpr ⟨lw_p36, List.forall_mem_cons.mpr ⟨lw_p37, List.forall_mem_cons.mpr ⟨lw_p38, List.forall_mem_cons.mpr ⟨lw_p39, List.forall_mem_cons.mpr ⟨lw_p40, List.forall_mem_cons.mpr ⟨lw_p41, List.forall_mem_cons.mpr ⟨lw_p42, List.forall_mem_cons.mpr ⟨lw_p43, List.forall_mem_cons.mpr ⟨lw_p44, List.forall_mem_cons.mpr ⟨lw_p45, List.forall_mem_cons.mpr ⟨lw_p46, List.forall_mem_cons.mpr ⟨lw_p47, fun _ h => absurd h List.not_mem_nil⟩⟩⟩⟩⟩⟩⟩⟩⟩⟩⟩⟩⟩⟩⟩⟩
theorem lw_p48 : lw_okq (⟨"HexCampaignModel", "canReach", "(III)Z"⟩, 18) := ⟨⟨by decide +kernel, by decide +kernel⟩, List.mem_of_getElem? (i := 1370) (by decide +kernel), List.mem_of_getElem? (i := 1631) (by decide +kernel), List.mem_of_getElem? (i := 1632) (by decide +kernel)⟩
theorem lw_p49 : lw_okq (⟨"HexCampaignModel", "hasWay", "(II)Z"⟩, 18) := ⟨⟨by decide +kernel, by decide +kernel⟩, List.mem_of_getElem? (i := 1370) (by decide +kernel), List.mem_of_getElem? (i := 1639) (by decide +kernel), List.mem_of_getElem? (i := 1640) (by decide +kernel)⟩
theorem lw_p50 : lw_okq (⟨"HexCampaignModel", "findWay", "(II)V"⟩, 18) := ⟨⟨by decide +kernel, by decide +kernel⟩, List.mem_of_getElem? (i := 1370) (by decide +kernel), List.mem_of_getElem? (i := 1647) (by decide +kernel), List.mem_of_getElem? (i := 1648) (by decide +kernel)⟩
theorem lw_p51 : lw_okq (⟨"HexCampaignModel", "isTight", "(III)Z"⟩, 18) := ⟨⟨by decide +kernel, by decide +kernel⟩, List.mem_of_getElem? (i := 1370) (by decide +kernel), List.mem_of_getElem? (i := 1651) (by decide +kernel), List.mem_of_getElem? (i := 1652) (by decide +kernel)⟩
theorem lw_p52 : lw_okq (⟨"HexCampaignModel", "refuse", "(III)V"⟩, 18) := ⟨⟨by decide +kernel, by decide +kernel⟩, List.mem_of_getElem? (i := 1370) (by decide +kernel), List.mem_of_getElem? (i := 1660) (by decide +kernel), List.mem_of_getElem? (i := 1661) (by decide +kernel)⟩
theorem lw_p53 : lw_okq (⟨"HexCampaignModel", "hasRoomFor", "(II)Z"⟩, 18) := ⟨⟨by decide +kernel, by decide +kernel⟩, List.mem_of_getElem? (i := 1370) (by decide +kernel), List.mem_of_getElem? (i := 1664) (by decide +kernel), List.mem_of_getElem? (i := 1665) (by decide +kernel)⟩
theorem lw_p54 : lw_okq (⟨"HexCampaignModel", "whyNoAttack", "(II)I"⟩, 18) := ⟨⟨by decide +kernel, by decide +kernel⟩, List.mem_of_getElem? (i := 1370) (by decide +kernel), List.mem_of_getElem? (i := 1672) (by decide +kernel), List.mem_of_getElem? (i := 1673) (by decide +kernel)⟩
theorem lw_p55 : lw_okq (⟨"HexCampaignModel", "attackers", "(I)I"⟩, 18) := ⟨⟨by decide +kernel, by decide +kernel⟩, List.mem_of_getElem? (i := 1370) (by decide +kernel), List.mem_of_getElem? (i := 1679) (by decide +kernel), List.mem_of_getElem? (i := 1680) (by decide +kernel)⟩
theorem lw_p56 : lw_okq (⟨"HexCampaignModel", "attacked", "(I)I"⟩, 18) := ⟨⟨by decide +kernel, by decide +kernel⟩, List.mem_of_getElem? (i := 1370) (by decide +kernel), List.mem_of_getElem? (i := 1683) (by decide +kernel), List.mem_of_getElem? (i := 1684) (by decide +kernel)⟩
theorem lw_p57 : lw_okq (⟨"HexCampaignModel", "defenseOf", "(I)I"⟩, 18) := ⟨⟨by decide +kernel, by decide +kernel⟩, List.mem_of_getElem? (i := 1370) (by decide +kernel), List.mem_of_getElem? (i := 1687) (by decide +kernel), List.mem_of_getElem? (i := 1688) (by decide +kernel)⟩
theorem lw_p58 : lw_okq (⟨"HexCampaignModel", "forces", "(I)I"⟩, 18) := ⟨⟨by decide +kernel, by decide +kernel⟩, List.mem_of_getElem? (i := 1370) (by decide +kernel), List.mem_of_getElem? (i := 1691) (by decide +kernel), List.mem_of_getElem? (i := 1692) (by decide +kernel)⟩
theorem lw_p59 : lw_okq (⟨"HexCampaignModel", "attackFrom", "(I)I"⟩, 18) := ⟨⟨by decide +kernel, by decide +kernel⟩, List.mem_of_getElem? (i := 1370) (by decide +kernel), List.mem_of_getElem? (i := 1697) (by decide +kernel), List.mem_of_getElem? (i := 1698) (by decide +kernel)⟩
theorem lw_p60 : lw_okq (⟨"HexCampaignModel", "loseAll", "(IZ)V"⟩, 18) := ⟨⟨by decide +kernel, by decide +kernel⟩, List.mem_of_getElem? (i := 1370) (by decide +kernel), List.mem_of_getElem? (i := 1705) (by decide +kernel), List.mem_of_getElem? (i := 1706) (by decide +kernel)⟩
theorem lw_p61 : lw_okq (⟨"HexCampaignModel", "lose", "(III)V"⟩, 18) := ⟨⟨by decide +kernel, by decide +kernel⟩, List.mem_of_getElem? (i := 1370) (by decide +kernel), List.mem_of_getElem? (i := 1709) (by decide +kernel), List.mem_of_getElem? (i := 1710) (by decide +kernel)⟩
theorem lw_p62 : lw_okq (⟨"HexCampaignModel", "retreat", "(II)V"⟩, 18) := ⟨⟨by decide +kernel, by decide +kernel⟩, List.mem_of_getElem? (i := 1370) (by decide +kernel), List.mem_of_getElem? (i := 1713) (by decide +kernel), List.mem_of_getElem? (i := 1714) (by decide +kernel)⟩
theorem lw_p63 : lw_okq (⟨"HexCampaignModel", "strengthOf", "(I)I"⟩, 18) := ⟨⟨by decide +kernel, by decide +kernel⟩, List.mem_of_getElem? (i := 1370) (by decide +kernel), List.mem_of_getElem? (i := 1726) (by decide +kernel), List.mem_of_getElem? (i := 1727) (by decide +kernel)⟩
def lw_privs_4 : List (MethodName × Nat) := [(⟨"HexCampaignModel", "canReach", "(III)Z"⟩, 18), (⟨"HexCampaignModel", "hasWay", "(II)Z"⟩, 18), (⟨"HexCampaignModel", "findWay", "(II)V"⟩, 18), (⟨"HexCampaignModel", "isTight", "(III)Z"⟩, 18), (⟨"HexCampaignModel", "refuse", "(III)V"⟩, 18), (⟨"HexCampaignModel", "hasRoomFor", "(II)Z"⟩, 18), (⟨"HexCampaignModel", "whyNoAttack", "(II)I"⟩, 18), (⟨"HexCampaignModel", "attackers", "(I)I"⟩, 18), (⟨"HexCampaignModel", "attacked", "(I)I"⟩, 18), (⟨"HexCampaignModel", "defenseOf", "(I)I"⟩, 18), (⟨"HexCampaignModel", "forces", "(I)I"⟩, 18), (⟨"HexCampaignModel", "attackFrom", "(I)I"⟩, 18), (⟨"HexCampaignModel", "loseAll", "(IZ)V"⟩, 18), (⟨"HexCampaignModel", "lose", "(III)V"⟩, 18), (⟨"HexCampaignModel", "retreat", "(II)V"⟩, 18), (⟨"HexCampaignModel", "strengthOf", "(I)I"⟩, 18)]
theorem lw_r4 : ∀ q ∈ lw_privs_4, lw_okq q := List.forall_mem_cons.mpr ⟨lw_p48, List.forall_mem_cons.mpr ⟨lw_p49, List.forall_mem_cons.mpr ⟨lw_p50, List.forall_mem_cons.mpr ⟨lw_p51, List.forall_mem_cons.mpr ⟨lw_p52, List.forall_mem_cons.mpr ⟨lw_p53, List.forall_mem_cons.mpr ⟨lw_p54, List.forall_mem_cons.mpr ⟨lw_p55, List.forall_mem_cons.mpr ⟨lw_p56, List.forall_mem_cons.mpr ⟨lw_p57, List.forall_mem_cons.mpr ⟨lw_p58, List.forall_mem_cons.mpr ⟨lw_p59, List.forall_mem_cons.mpr ⟨lw_p60, List.forall_mem_cons.mpr ⟨lw_p61, List.forall_mem_cons.mpr ⟨lw_p62, List.forall_mem_cons.mpr ⟨lw_p63, fun _ h => absurd h List.not_mem_nil⟩⟩⟩⟩⟩⟩⟩⟩⟩⟩⟩⟩⟩⟩⟩⟩
theorem lw_p64 : lw_okq (⟨"HexCampaignModel", "goodLength", "()I"⟩, 18) := ⟨⟨by decide +kernel, by decide +kernel⟩, List.mem_of_getElem? (i := 1370) (by decide +kernel), List.mem_of_getElem? (i := 1746) (by decide +kernel), List.mem_of_getElem? (i := 1747) (by decide +kernel)⟩
def lw_privs_5 : List (MethodName × Nat) := [(⟨"HexCampaignModel", "goodLength", "()I"⟩, 18)]
theorem lw_r5 : ∀ q ∈ lw_privs_5, lw_okq q := List.forall_mem_cons.mpr ⟨lw_p64, fun _ h => absurd h List.not_mem_nil⟩
def lw_privs : List (MethodName × Nat) := lw_privs_1 ++ (lw_privs_2 ++ (lw_privs_3 ++ (lw_privs_4 ++ (lw_privs_5))))
def lw_tbl : List Cond := k2_sels lw_privs ++ tables_1
theorem lw_privs_ok : ∀ q ∈ lw_privs, lw_okq q := by
  show ∀ q ∈ lw_privs_1 ++ (lw_privs_2 ++ (lw_privs_3 ++ (lw_privs_4 ++ (lw_privs_5)))), lw_okq q
  exact List.forall_mem_append.mpr ⟨lw_r1, List.forall_mem_append.mpr ⟨lw_r2, List.forall_mem_append.mpr ⟨lw_r3, List.forall_mem_append.mpr ⟨lw_r4, lw_r5⟩⟩⟩⟩
/-- the streams that the claim lets the run draw from -/
abbrev lw_cs : List Choice := [Jvm.Choice.named "NaN.bits"]
theorem lw_bits : nanBits ∈ lw_cs := by first | decide | exact List.mem_cons_self | simp [lw_cs, nanBits]
end
section
/-! ===== BEGIN words of one list among another's, by their places ===== -/
theorem goodIn_r {big : List Cond} (ws : List Cond) (ps : List Nat) (hp : ws = ps.filterMap (fun i => big[i]?)) (h : ws.all goodWord = true) : GoodIn big ws := by
  intro w hw
  have h1 := List.all_eq_true.mp h w hw
  rw [hp] at hw
  obtain ⟨i, -, hi⟩ := List.mem_filterMap.mp hw
  have hm : w ∈ big := by first | exact List.mem_of_getElem? hi | exact List.getElem?_mem hi
  exact ⟨hm, good_of_word h1⟩
theorem goodIn_app {big a b : List Cond} (ha : GoodIn big a) (hb : GoodIn big b) : GoodIn big (a ++ b) := fun w h => (List.mem_append.mp h).elim (ha w) (hb w)
theorem goodIn_ca {big a b : List Cond} {c : Cond} (ha : GoodIn big (c :: a)) (hb : GoodIn big b) : GoodIn big (c :: (a ++ b)) := fun w h => (List.mem_cons.mp h).elim (fun e => ha w (List.mem_cons.mpr (Or.inl e))) (fun h => (List.mem_append.mp h).elim (fun h => ha w (List.mem_cons.mpr (Or.inr h))) (hb w))
theorem goodIn_sub {big ws : List Cond} (hm : ∀ w ∈ ws, w ∈ big) (h : ws.all goodWord = true) : GoodIn big ws := fun w hw => ⟨hm w hw, good_of_word (List.all_eq_true.mp h w hw)⟩
/-! ===== END ===== -/

/-! ===== BEGIN exceptions that leave a method, and their catching by the caller (launches without stack traces) ===== -/
section VXA
/-! The laws vx_back, vx_callV, vx_callS, vx_callSW, vx_throw0, vx_throwS follow proofs of the library, with one case more: JvmDerived/Free/Laws.lean (Back.of_free), Shelf42/LK1.lean (callV, callS), Shelf/KitTraced.lean (throwNew0V, throwNewS). -/
/-- where a method has thrown q: the class by its name, the cell, what was written, the world -/
def vx_T (XC : String → State → State → Prop) (st : State) (q : Addr) (t : State) (mc ms : Nat) (free : Addr → Prop) : Prop :=
  ∃ (E : String) (ce : Cell) (L : List Loc), XC E st t ∧ t.heap[q]? = some ce ∧ ce.vm = .none ∧ st.vm.findClass E = some ce.cls ∧ st.WarmedH t.vm ∧ st.sameButNew ({ t with vm := st.vm } : State) L mc ms ∧ ∀ z ∈ L, free z.base
def vx_Q (Qc : Array Value → State → Outcome → State → Prop) (XC : String → State → State → Prop) (mc ms : Nat) (free : Addr → Prop) : Array Value → State → Outcome → State → Prop := fun a st o t =>
  (Qc a st o t ∧ ∃ L, FrameEnd st o t L mc ms ∧ ∀ q ∈ L, free q.base) ∨ ∃ q, o = .threw q ∧ vx_T XC st q t mc ms free
/-- a callee that returns or throws -/
def vx_Met (l : Launch) (y : MethodName) (ws : List Cond) (rm : Room) (Pc : Array Value → State → Prop) (Qc : Array Value → State → Outcome → State → Prop) (XC : String → State → State → Prop) (mc ms : Nat) (free : Addr → Prop) : Prop :=
  MetFree l y (headSpec ws rm) Pc (fun _ _ _ _ _ => True) (vx_Q Qc XC mc ms free)
def vx_Post (XC : String → State → State → Prop) (mc ms : Nat) (free : Addr → Prop) : Pt → Array Value → Addr → Pt → Prop := fun A a q B =>
  ∃ (g : JFrame) (mk : MethodId) (t : State) (L : List Loc) (E : String) (ce : Cell), B.U.heap = t.heap ∧ B.U.vm = t.vm ∧ XC E (A.U.calling g mk a) t ∧ t.heap[q]? = some ce ∧ ce.vm = .none ∧ A.U.vm.findClass E = some ce.cls ∧ B.locs = A.locs ++ L ∧ (∀ z ∈ L, free z.base) ∧ B.cells = A.cells + mc ∧ B.slots = A.slots + ms
def vx_Back (l : Launch) (R : Room) (p : Program) (e : Env) (below : List Frame) (s : State) (sargs : Array Value) (y : MethodName) (len W9 : Nat)
    (Pre : Pt → Array Value → Prop) (Post : Pt → Array Value → Option Value → Pt → Prop) (PostX : Pt → Array Value → Addr → Pt → Prop) : Prop :=
  ∀ (m : MethodId) (meth : Method) (c : Code) (A : Pt) (g : JFrame) (ig : Instr) (mk : MethodId) (a : Array Value),
    Stand p l e R s m sargs below meth c A.U A.locs A.cells A.slots → g.method = m → g.locals.size = c.maxLocals → decode c.code g.pc = .ok (ig, len) →
    2 * g.monitorRoom + (g.stack.map fun v => v.category).sum ≤ W9 → A.U.methodNamed? y = some mk → Pre A a →
    (∃ (v : Option Value) (B : Pt), Stand p l e R s m sargs below meth c B.U B.locs B.cells B.slots ∧ Post A a v B ∧
      Steps p.tables e below (doInvoke e (A.U.setTop g) [] mk a).1 (B.U.setTop { g with pc := g.pc + len, stack := v.toList ++ g.stack })) ∨
    (∃ (q : Addr) (B : Pt), Stand p l e R s m sargs below meth c B.U B.locs B.cells B.slots ∧ PostX A a q B ∧
      Steps p.tables e below (doInvoke e (A.U.setTop g) [] mk a).1 ((B.U.setTop g).pushFrame (.throwing q)))
section Payer
variable {l : Launch} {R : Room} {p : Program} {e : Env} {below : List Frame} {s : State} {sargs : Array Value} {y : MethodName} {len W9 : Nat}
theorem vx_back {ws : List Cond} {rm : Room} {Pc : Array Value → State → Prop} {Qc : Array Value → State → Outcome → State → Prop} {XC : String → State → State → Prop} {mc ms : Nat} {free : Addr → Prop} {bytes : ByteArray} {maxL : Nat} {ret : Option FieldType}
    (hM : vx_Met l y ws rm Pc Qc XC mc ms free) (hblind : FrameBlind Pc) (hrc : rm.cells = mc) (hrs : rm.slots = ms)
    (hframes : rm.frames + 1 ≤ R.frames) (hlocals : W9 + (maxL + 11) + rm.locals ≤ R.locals)
    (hws : ∀ w ∈ ws, ∀ a' U, s.WarmedH U.vm → w.before a' U = true) (hcode : Cond.code y bytes maxL ret ∈ ws) (hinit : ∀ a' U, s.WarmedH U.vm → (Cond.initialized y.cls).before a' U = true) :
    vx_Back l R p e below s sargs y len W9 (PreOf R mc ms Pc) (PostOf Qc mc ms free) (vx_Post XC mc ms free) := by
  intro m meth c A g ig mk a X hg hsize hdg hW hn hp
  have h1 : (headSpec ws rm).pre.before a A.U = true := atoms_intro fun w hw => hws w hw _ _ X.warmed
  have h2 : (Cond.code y bytes maxL ret).before a A.U = true := hws _ hcode _ _ X.warmed
  have h3 : (Cond.initialized y.cls).before a A.U = true := hinit _ _ X.warmed
  have h4 : A.cells + (headSpec ws rm).room.cells ≤ R.cells := by rw [show (headSpec ws rm).room.cells = mc from hrc]; exact hp.1
  have h5 : A.slots + (headSpec ws rm).room.slots ≤ R.slots := by rw [show (headSpec ws rm).room.slots = ms from hrs]; exact hp.2.1
  have hPc : Pc a (A.U.calling g mk a) := hblind _ _ _ _ hp.2.2
  obtain ⟨U, Ls, c0, s0⟩ := A
  dsimp only [Pt.U, Pt.locs, Pt.cells, Pt.slots] at h1 h2 h3 h4 h5 X hn hPc ⊢
  obtain ⟨methY, cY, hmY, hcY, -, hlY, -, -, -, -⟩ := Cond.code_spec hn h2
  obtain ⟨kY, hkY, -⟩ := className_of_methodNamed hn
  have hinitY : kY.init = .initialized := Cond.initialized_spec (findClass_of_methodNamed hn) hkY h3
  have h : At U g.method c below := by rw [hg]; exact X.here
  have hlocals9 : W9 + (maxL + 11) + (headSpec ws rm).room.locals ≤ R.locals := hlocals
  have happ : (headSpec ws rm).appliesLoose y e.platform (U.calling g mk a) = true :=
    Spec.appliesLoose_calling (g := g) h hdg hn hkY hinitY
      (X.room_calling (g := g) (R' := (headSpec ws rm).room) hsize hmY hcY hframes (by rw [hlY]; omega) h4 h5) h1
  obtain ⟨mid, hmid⟩ := h.above
  have hfr : (U.setTop g).frames = (.java g :: mid) ++ below := by rw [State.frames_setTop' g h.top, hmid]; rfl
  obtain ⟨o, s₂, hsteps, -, hend, hq⟩ := Steps.callFree hM p X.admits X.cas X.clock (acts := []) hfr happ hPc trivial
  have hq' : vx_Q Qc XC mc ms free a (U.calling g mk a) o s₂ := hq
  rw [State.frames_setTop' g h.top] at hend
  obtain ⟨g₀, hg0⟩ := Option.isSome_iff_exists.mp h.top
  obtain ⟨r, hr⟩ := State.topJava?_eq_some.mp hg0
  have hr' : (({ U with heap := s₂.heap, slotsUsed := s₂.slotsUsed } : State).setVm s₂.vm).frames = .java g₀ :: r := hr
  rcases hq' with ⟨hqc, L, hfe, hL⟩ | ⟨q, rfl, E, ce, L, hx, hce, hcv, hcl, hW₂, hsm, hL⟩
  · obtain ⟨⟨v, rfl⟩, hW₂, e2, q2, q3, q4, q5, q6⟩ := id hfe
    have e3 : s₂ = ({ (U.calling g mk a).setFrames s₂.frames with heap := s₂.heap, slotsUsed := s₂.slotsUsed } : State).setVm s₂.vm := by
      have : s₂ = ({ s₂ with vm := (U.calling g mk a).vm } : State).setVm s₂.vm := rfl
      rw [e2] at this
      exact this
    obtain ⟨c₂, i₂, len₂, hc₂, hd₂, hf₂⟩ := hend
    have hW' : U.WarmedH s₂.vm := hW₂
    have hcc : c₂ = c := by
      have h1 : s₂.code? g.method = U.code? g.method := by
        rw [State.code?_eq, State.code?_eq, hW'.alike.method?]
      exact Option.some.inj (hc₂.symm.trans (h1.trans h.code))
    subst hcc
    have hlen : len₂ = len := by rw [hdg] at hd₂; cases hd₂; rfl
    subst hlen
    have hs₂ : s₂ = (({ U with heap := s₂.heap, slotsUsed := s₂.slotsUsed } : State).setVm s₂.vm).setTop { g with pc := g.pc + len₂, stack := v.toList ++ g.stack } := by
      refine e3.trans ?_
      rw [hf₂, State.calling_eq h.top, State.setFrames_setFrames, State.setTop_of_frames _ hr', hr]
      rfl
    have hsame : U.sameButNew ({ U with heap := s₂.heap, slotsUsed := s₂.slotsUsed } : State) L mc ms := by
      refine ⟨?_, q2, q3, q4, q5, q6⟩
      obtain ⟨t, ht, -⟩ := State.frames_cons hr
      show ({ U with heap := s₂.heap, slotsUsed := s₂.slotsUsed } : State) = { U.setFrames U.frames with heap := s₂.heap, slotsUsed := s₂.slotsUsed }
      rw [State.setFrames_self ht]
    subst hg
    refine Or.inl ⟨v, ⟨(({ U with heap := s₂.heap, slotsUsed := s₂.slotsUsed } : State).setVm s₂.vm), Ls ++ L, c0 + mc, s0 + ms⟩,
      ⟨X.admits, X.cas, X.clock, X.frames, X.room, X.hears, X.method, X.code, (X.here.setHeapUsed s₂.heap s₂.slotsUsed).setVm hW'.alike, X.tail, State.WarmedH.trans X.warmed hW', X.limits, X.bytes, X.same.trans (hsame.setVm s.vm)⟩,
      ⟨g, mk, s₂, L, rfl, rfl, hqc, rfl, hL, rfl, rfl⟩, ?_⟩
    show Steps p.tables e below _ ((({ U with heap := s₂.heap, slotsUsed := s₂.slotsUsed } : State).setVm s₂.vm).setTop { g with pc := g.pc + len₂, stack := v.toList ++ g.stack })
    rw [← hs₂]
    exact hsteps
  · obtain ⟨e2, q2, q3, q4, q5, q6⟩ := id hsm
    have e3 : s₂ = ({ (U.calling g mk a).setFrames s₂.frames with heap := s₂.heap, slotsUsed := s₂.slotsUsed } : State).setVm s₂.vm := by
      have : s₂ = ({ s₂ with vm := (U.calling g mk a).vm } : State).setVm s₂.vm := rfl
      rw [e2] at this
      exact this
    have hf₂ : s₂.frames = .throwing q :: .java g :: U.frames.tail := hend
    have hW' : U.WarmedH s₂.vm := hW₂
    have hs₂ : s₂ = ((({ U with heap := s₂.heap, slotsUsed := s₂.slotsUsed } : State).setVm s₂.vm).setTop g).pushFrame (.throwing q) := by
      refine e3.trans ?_
      rw [hf₂, State.calling_eq h.top, State.setFrames_setFrames, State.pushFrame, State.frames_setTop _ hr', State.setTop_of_frames _ hr', State.setFrames_setFrames, hr]
      rfl
    have hsame : U.sameButNew ({ U with heap := s₂.heap, slotsUsed := s₂.slotsUsed } : State) L mc ms := by
      refine ⟨?_, q2, q3, q4, q5, q6⟩
      obtain ⟨t, ht, -⟩ := State.frames_cons hr
      show ({ U with heap := s₂.heap, slotsUsed := s₂.slotsUsed } : State) = { U.setFrames U.frames with heap := s₂.heap, slotsUsed := s₂.slotsUsed }
      rw [State.setFrames_self ht]
    subst hg
    refine Or.inr ⟨q, ⟨(({ U with heap := s₂.heap, slotsUsed := s₂.slotsUsed } : State).setVm s₂.vm), Ls ++ L, c0 + mc, s0 + ms⟩,
      ⟨X.admits, X.cas, X.clock, X.frames, X.room, X.hears, X.method, X.code, (X.here.setHeapUsed s₂.heap s₂.slotsUsed).setVm hW'.alike, X.tail, State.WarmedH.trans X.warmed hW', X.limits, X.bytes, X.same.trans (hsame.setVm s.vm)⟩,
      ⟨g, mk, s₂, L, E, ce, rfl, rfl, hx, hce, hcv, hcl, rfl, hL, rfl, rfl⟩, ?_⟩
    show Steps p.tables e below _ (((({ U with heap := s₂.heap, slotsUsed := s₂.slotsUsed } : State).setVm s₂.vm).setTop g).pushFrame (.throwing q))
    rw [← hs₂]
    exact hsteps
end Payer
section Calls
variable {p : Program} {l : Launch} {e : Env} {R : Room} {s : State} {m : MethodId} {args : Array Value} {below : List Frame} {meth : Method} {c : Code} {T : State} {locs : List Loc} {cells slots : Nat}
theorem vx_callV (X : Stand p l e R s m args below meth c T locs cells slots) (hexec : p.tables.exec = Jvm.exec) {own C : String} {index : Nat} {y : MethodName} {bytes : ByteArray} {maxL : Nat} {ret : Option FieldType}
    (hown : s.vm.findClass own = some m.cls) (hlink : (Cond.methodLink own index y).before args s = true) (hinst : (Cond.instanceMethod y).before args s = true) (hsel : (Cond.selects C y y).before args s = true)
    (hcode : (Cond.code y bytes maxL ret).before args s = true) (hy : y.cls ≠ "java/lang/invoke/MethodHandle" ∧ y.cls ≠ "java/lang/invoke/VarHandle")
    {W9 : Nat} {Pre : Pt → Array Value → Prop} {Post : Pt → Array Value → Option Value → Pt → Prop} {PostX : Pt → Array Value → Addr → Pt → Prop} (hK : vx_Back l R p e below s args y 3 W9 Pre Post PostX)
    {b : Addr} {cellB : Cell} (hcell : T.heap[b]? = some cellB) (hobj : cellB.vm.isStatics = false) (hcls : s.vm.findClass C = some cellB.cls)
    {g : JFrame} (hg : g.method = m) (hsize : g.locals.size = c.maxLocals) {argsL rest : List Value} (hlen : ∀ sig, parseMethodDescriptor y.desc = some sig → argsL.length = sig.parameters.length)
    (hstack : g.stack = argsL.reverse ++ .ref b :: rest) (hW : 2 * g.monitorRoom + (rest.map fun v => v.category).sum ≤ W9) (hdg : decode c.code g.pc = .ok (.invokevirtual index, 3))
    (hpre : ∀ vm₁, s.WarmedH vm₁ → Pre ⟨T.setVm vm₁, locs, cells, slots⟩ (Value.ref b :: argsL).toArray) :
    (∃ (v : Option Value) (vm₁ : Vm) (B : Pt), s.WarmedH vm₁ ∧ Stand p l e R s m args below meth c B.U B.locs B.cells B.slots ∧ Post ⟨T.setVm vm₁, locs, cells, slots⟩ (Value.ref b :: argsL).toArray v B ∧
      ∀ target, Steps p.tables e below (B.U.setTop { g with pc := g.pc + 3, stack := v.toList ++ rest }) target → Steps p.tables e below (T.setTop g) target) ∨
    (∃ (q : Addr) (vm₁ : Vm) (B : Pt), s.WarmedH vm₁ ∧ Stand p l e R s m args below meth c B.U B.locs B.cells B.slots ∧ PostX ⟨T.setVm vm₁, locs, cells, slots⟩ (Value.ref b :: argsL).toArray q B ∧
      Steps p.tables e below (T.setTop g) ((B.U.setTop { g with stack := rest }).pushFrame (.throwing q))) := by
  obtain ⟨mk, methM, hnamed, hmethM, hstM, habM⟩ := Cond.instanceMethod_spec hinst
  obtain ⟨methM', cM, hmethM', -, -, -, -, -, -, hsigM⟩ := Cond.code_spec hnamed hcode
  cases hmethM.symm.trans hmethM'
  obtain ⟨c2, r2, m2, q1, q2, q3, q4, kP, hkP, hkPi⟩ := Cond.selects_spec hsel
  cases hcls.symm.trans q1
  cases (State.methodFound?_of_named hnamed hy).symm.trans q2
  cases hnamed.symm.trans q3
  have hselP : selectMethod e.platform s.vm cellB.cls mk = .method mk := by rw [Launch.admits_selectMethod X.admits]; exact q4
  obtain ⟨vm₁, X₁, hstep₁⟩ := X.invokevirtual hexec hown hlink hnamed hmethM hstM hkP hkPi hy (a := b) (cell := cellB) hcell
    (fun z h => by rw [h] at hobj; cases hobj) hselP hmethM habM hkP hkPi (g := g) hg (argsL := argsL) (rest := rest) (hlen _ hsigM) hstack hdg
  rcases hK m meth c ⟨T.setVm vm₁, locs, cells, slots⟩ { g with stack := rest } (.invokevirtual index) mk (Value.ref b :: argsL).toArray X₁ hg hsize hdg hW (X₁.named hnamed) (hpre vm₁ X₁.warmed) with ⟨v, B, X', hpost, hsteps⟩ | ⟨q, B, X', hpost, hsteps⟩
  · exact Or.inl ⟨v, vm₁, B, X₁.warmed, X', hpost, fun target h => hstep₁ _ fun acts => by rw [doInvoke_state]; exact hsteps.trans h⟩
  · exact Or.inr ⟨q, vm₁, B, X₁.warmed, X', hpost, hstep₁ _ fun acts => by rw [doInvoke_state]; exact hsteps⟩
theorem vx_callS (X : Stand p l e R s m args below meth c T locs cells slots) (hexec : p.tables.exec = Jvm.exec) {own : String} {index : Nat} {y : MethodName} {bytes : ByteArray} {maxL : Nat} {ret : Option FieldType}
    (hown : s.vm.findClass own = some m.cls) (hlink : (Cond.methodLink own index y).before args s = true) (hstat : (Cond.static y).before args s = true) (hinit : (Cond.initialized y.cls).before args s = true)
    (hcode : (Cond.code y bytes maxL ret).before args s = true) (hy : y.cls ≠ "java/lang/invoke/MethodHandle" ∧ y.cls ≠ "java/lang/invoke/VarHandle")
    {W9 : Nat} {Pre : Pt → Array Value → Prop} {Post : Pt → Array Value → Option Value → Pt → Prop} {PostX : Pt → Array Value → Addr → Pt → Prop} (hK : vx_Back l R p e below s args y 3 W9 Pre Post PostX)
    {g : JFrame} (hg : g.method = m) (hsize : g.locals.size = c.maxLocals) {argsL rest : List Value} (hlen : ∀ sig, parseMethodDescriptor y.desc = some sig → argsL.length = sig.parameters.length)
    (hstack : g.stack = argsL.reverse ++ rest) (hW : 2 * g.monitorRoom + (rest.map fun v => v.category).sum ≤ W9) (hdg : decode c.code g.pc = .ok (.invokestatic index, 3))
    (hpre : ∀ vm₁, s.WarmedH vm₁ → Pre ⟨T.setVm vm₁, locs, cells, slots⟩ argsL.toArray) :
    (∃ (v : Option Value) (vm₁ : Vm) (B : Pt), s.WarmedH vm₁ ∧ Stand p l e R s m args below meth c B.U B.locs B.cells B.slots ∧ Post ⟨T.setVm vm₁, locs, cells, slots⟩ argsL.toArray v B ∧
      ∀ target, Steps p.tables e below (B.U.setTop { g with pc := g.pc + 3, stack := v.toList ++ rest }) target → Steps p.tables e below (T.setTop g) target) ∨
    (∃ (q : Addr) (vm₁ : Vm) (B : Pt), s.WarmedH vm₁ ∧ Stand p l e R s m args below meth c B.U B.locs B.cells B.slots ∧ PostX ⟨T.setVm vm₁, locs, cells, slots⟩ argsL.toArray q B ∧
      Steps p.tables e below (T.setTop g) ((B.U.setTop { g with stack := rest }).pushFrame (.throwing q))) := by
  obtain ⟨mk, hnamed⟩ := Cond.code_named hcode
  obtain ⟨methM, cM, hmethM, -, -, -, -, -, -, hsigM⟩ := Cond.code_spec hnamed hcode
  have hstatic : methM.isStatic = true := Cond.static_spec hnamed hmethM hstat
  obtain ⟨kP, hkP, -⟩ := className_of_methodNamed hnamed
  have hinitP : kP.init = .initialized := Cond.initialized_spec (findClass_of_methodNamed hnamed) hkP hinit
  obtain ⟨vm₁, X₁, hstep₁⟩ := X.invokestatic hexec hown hlink hnamed hmethM hstatic hkP hinitP hy (g := g) hg (argsL := argsL) (rest := rest) (hlen _ hsigM) hstack hdg
  rcases hK m meth c ⟨T.setVm vm₁, locs, cells, slots⟩ { g with stack := rest } (.invokestatic index) mk argsL.toArray X₁ hg hsize hdg hW (X₁.named hnamed) (hpre vm₁ X₁.warmed) with ⟨v, B, X', hpost, hsteps⟩ | ⟨q, B, X', hpost, hsteps⟩
  · exact Or.inl ⟨v, vm₁, B, X₁.warmed, X', hpost, fun target h => hstep₁ _ fun acts => by rw [doInvoke_state]; exact hsteps.trans h⟩
  · exact Or.inr ⟨q, vm₁, B, X₁.warmed, X', hpost, hstep₁ _ fun acts => by rw [doInvoke_state]; exact hsteps⟩
end Calls
theorem vx_cls {s : State} {T : State} {vm₁ : Vm} {E : String} {k : ClassId} (hW : s.WarmedH vm₁) (h : (T.setVm vm₁).vm.findClass E = some k) : s.vm.findClass E = some k := by
  have h1 : vm₁.findClass E = some k := h
  rw [hW.alike.findClass] at h1
  exact h1
/-- the method's frame g, with q thrown over it -/
def vx_W (p : Program) (l : Launch) (e : Env) (R : Room) (s : State) (m : MethodId) (args : Array Value) (below : List Frame) (meth : Method) (c : Code) (H : Heap) (locs : List Loc) (cells slots : Nat) (Q : State → Prop) (g : JFrame) (q : Addr) : Prop :=
  ∀ T : State, T.heap = H → Stand p l e R s m args below meth c T locs cells slots → ∃ t, Steps p.tables e below ((T.setTop g).pushFrame (.throwing q)) t ∧ Q t
def vx_Run (p : Program) (l : Launch) (e : Env) (R : Room) (s : State) (m : MethodId) (args : Array Value) (below : List Frame) (meth : Method) (c : Code) (H : Heap) (locs : List Loc) (cells slots mc ms : Nat) (g : JFrame) (rest : List Value) (Qa : State → Outcome → State → Prop) (XC : String → State → State → Prop) (free : Addr → Prop) : Prop :=
  ∀ T : State, T.heap = H → Stand p l e R s m args below meth c T locs cells slots →
    (∃ (v : Option Value) (st₀ t T' : State) (L : List Loc), st₀.heap = H ∧ Stand p l e R s m args below meth c T' (locs ++ L) (cells + mc) (slots + ms) ∧ (∀ q ∈ L, free q.base) ∧ T'.heap = t.heap ∧ T'.vm = t.vm ∧ Qa st₀ (.returned v) t ∧
      Goes p e below T g T' { g with pc := g.pc + 3, stack := v.toList ++ rest }) ∨
    (∃ (q : Addr) (st₀ t T' : State) (L : List Loc) (E : String) (ce : Cell), st₀.heap = H ∧ Stand p l e R s m args below meth c T' (locs ++ L) (cells + mc) (slots + ms) ∧ (∀ z ∈ L, free z.base) ∧ T'.heap = t.heap ∧ T'.vm = t.vm ∧ XC E st₀ t ∧ t.heap[q]? = some ce ∧ ce.vm = .none ∧ s.vm.findClass E = some ce.cls ∧
      Steps p.tables e below (T.setTop g) ((T'.setTop { g with stack := rest }).pushFrame (.throwing q)))
def vx_X {S : Type} (px : S → Prop) (B : String → S → State → Prop) (A : Nat → Prop) : String → State → State → Prop := fun E st t => ∃ u : S, px u ∧ B E u t ∧ va_F A st t
section Runs
variable {p : Program} {l : Launch} {e : Env} {R : Room} {s : State} {m : MethodId} {args : Array Value} {below : List Frame} {meth : Method} {c : Code} {H : Heap} {locs : List Loc} {cells slots : Nat}
variable {y : MethodName} {bytes cc : ByteArray} {maxL nL mc ms n index : Nat} {ret : Option FieldType} {ws : List Cond} {rm : Room} {Pc : Array Value → State → Prop} {Qc : Array Value → State → Outcome → State → Prop} {XC : String → State → State → Prop} {free : Addr → Prop} {Ts : List Cond} {own C : String} {b : Addr} {As rest : List Value} {g : JFrame}
theorem vx_callBack (cb : CallB R s args own index y bytes maxL ret ws rm mc ms n) (hM : vx_Met l y ws rm Pc Qc XC mc ms free) (hbl : FrameBlind Pc) : vx_Back l R p e below s args y 3 8 (PreOf R mc ms Pc) (PostOf Qc mc ms free) (vx_Post XC mc ms free) := by
  obtain ⟨hrc, hrs, hfr, hlo, hws, hcw, -, hini, -⟩ := cb
  exact vx_back (bytes := bytes) (maxL := maxL) (ret := ret) hM hbl hrc hrs hfr hlo hws hcw (fun a' U hW => word_at hW (Or.inl (by first | rfl | simp [Cond.onTables, Cond.keeps, Cond.steady])) hini)
theorem vx_runV (S : CallFix p m c cc nL s args Ts own) (hM : vx_Met l y ws rm Pc Qc XC mc ms free) (cw : CallW R s args own C index y bytes maxL ret ws rm mc ms n) (hp : PreV s H C b Pc As)
    (hg : g.method = m) (hn : As.length = n) (hsize : g.locals.size = nL) (hstack : g.stack = As.reverse ++ .ref b :: rest) (hW : 2 * g.monitorRoom + (rest.map fun v => v.category).sum ≤ 8) (hdg : decode cc g.pc = .ok (.invokevirtual index, 3)) (hf : cells + mc ≤ R.cells ∧ slots + ms ≤ R.slots) :
    vx_Run p l e R s m args below meth c H locs cells slots mc ms g rest (Qc (Value.ref b :: As).toArray) XC free := by
  have hK : vx_Back l R p e below s args y 3 8 (PreOf R mc ms Pc) (PostOf Qc mc ms free) (vx_Post XC mc ms free) := vx_callBack cw.1 hM hp.1
  obtain ⟨⟨-, -, -, -, -, -, hcode, -, hy, hlen, hl⟩, hin, hse⟩ := cw
  obtain ⟨hx, hb, hml, ho, -⟩ := S
  obtain ⟨-, ⟨cellB, hcB, hoB, hclB⟩, hPc⟩ := hp
  intro T hT X
  rcases vx_callV X hx (C := C) (bytes := bytes) (maxL := maxL) (ret := ret) ho hl hin hse hcode hy hK (by rw [hT]; exact hcB) hoB hclB hg (hsize.trans hml.symm) (argsL := As) (rest := rest) (fun sig h => hn.trans (hlen sig h)) hstack hW (by rw [hb]; exact hdg)
    (fun vm₁ hW₁ => ⟨hf.1, hf.2, hPc (T.setVm vm₁) hT hW₁⟩) with ⟨v, vm₁, ⟨U', l2, c2, s2⟩, hW₁, X', ⟨g', mk, t, L, e1, e2, hq, h1, hL, h2, h3⟩, st⟩ | ⟨q, vm₁, ⟨U', l2, c2, s2⟩, hW₁, X', ⟨g', mk, t, L, E, ce, e1, e2, hq, hce, hcv, hcl, h1, hL, h2, h3⟩, st⟩
  · dsimp only [Pt.U, Pt.locs, Pt.cells, Pt.slots] at X' e1 e2 h1 h2 h3 st
    subst h1; subst h2; subst h3
    exact Or.inl ⟨v, (T.setVm vm₁).calling g' mk (Value.ref b :: As).toArray, t, U', L, hT, X', hL, e1, e2, hq, st⟩
  · dsimp only [Pt.U, Pt.locs, Pt.cells, Pt.slots] at X' e1 e2 h1 h2 h3 st hcl
    subst h1; subst h2; subst h3
    exact Or.inr ⟨q, (T.setVm vm₁).calling g' mk (Value.ref b :: As).toArray, t, U', L, E, ce, hT, X', hL, e1, e2, hq, hce, hcv, vx_cls hW₁ hcl, st⟩
theorem vx_runS (S : CallFix p m c cc nL s args Ts own) (hM : vx_Met l y ws rm Pc Qc XC mc ms free) (cw : CallB R s args own index y bytes maxL ret ws rm mc ms n ∧ (Cond.static y).before args s = true) (hp : PreS s H Pc As)
    (hg : g.method = m) (hn : As.length = n) (hsize : g.locals.size = nL) (hstack : g.stack = As.reverse ++ rest) (hW : 2 * g.monitorRoom + (rest.map fun v => v.category).sum ≤ 8) (hdg : decode cc g.pc = .ok (.invokestatic index, 3)) (hf : cells + mc ≤ R.cells ∧ slots + ms ≤ R.slots) :
    vx_Run p l e R s m args below meth c H locs cells slots mc ms g rest (Qc As.toArray) XC free := by
  have hK : vx_Back l R p e below s args y 3 8 (PreOf R mc ms Pc) (PostOf Qc mc ms free) (vx_Post XC mc ms free) := vx_callBack cw.1 hM hp.1
  obtain ⟨⟨-, -, -, -, -, -, hcode, hini, hy, hlen, hl⟩, hstt⟩ := cw
  obtain ⟨hx, hb, hml, ho, -⟩ := S
  intro T hT X
  rcases vx_callS X hx (bytes := bytes) (maxL := maxL) (ret := ret) ho hl hstt hini hcode hy hK hg (hsize.trans hml.symm) (argsL := As) (rest := rest) (fun sig h => hn.trans (hlen sig h)) hstack hW (by rw [hb]; exact hdg)
    (fun vm₁ hW₁ => ⟨hf.1, hf.2, hp.2 (T.setVm vm₁) hT hW₁⟩) with ⟨v, vm₁, ⟨U', l2, c2, s2⟩, hW₁, X', ⟨g', mk, t, L, e1, e2, hq, h1, hL, h2, h3⟩, st⟩ | ⟨q, vm₁, ⟨U', l2, c2, s2⟩, hW₁, X', ⟨g', mk, t, L, E, ce, e1, e2, hq, hce, hcv, hcl, h1, hL, h2, h3⟩, st⟩
  · dsimp only [Pt.U, Pt.locs, Pt.cells, Pt.slots] at X' e1 e2 h1 h2 h3 st
    subst h1; subst h2; subst h3
    exact Or.inl ⟨v, (T.setVm vm₁).calling g' mk As.toArray, t, U', L, hT, X', hL, e1, e2, hq, st⟩
  · dsimp only [Pt.U, Pt.locs, Pt.cells, Pt.slots] at X' e1 e2 h1 h2 h3 st hcl
    subst h1; subst h2; subst h3
    exact Or.inr ⟨q, (T.setVm vm₁).calling g' mk As.toArray, t, U', L, E, ce, hT, X', hL, e1, e2, hq, hce, hcv, vx_cls hW₁ hcl, st⟩
end Runs
section Rows
variable {p : Program} {l : Launch} {e : Env} {R : Room} {s : State} {m : MethodId} {args : Array Value} {below : List Frame} {meth : Method} {c : Code} {H : Heap} {locs : List Loc} {cells slots : Nat} {Q : State → Prop}
variable {mc ms : Nat} {free : Addr → Prop} {A0 A1 : Nat → Prop} {H0 : Heap} {a : Array Value} {pc : Nat} {ls : Array Slot} {st0 rest : List Value}
theorem vx_keep {st₀ t T' : State} {L : List Loc} (h0 : st₀.heap = H) (e1 : T'.heap = t.heap) (hS : va_S A0 H0 H locs) (hA : ∀ q, q < H.size → A1 q → A0 q) (hf : ∀ q, free q → A0 q) (hL : ∀ q ∈ L, free q.base) (hF : va_F A1 st₀ t) :
    H.size ≤ T'.heap.size ∧ (∀ q : Nat, q < H.size → ¬ A1 q → T'.heap[q]? = H[q]?) ∧ va_S A0 H0 T'.heap (locs ++ L) := by
  obtain ⟨hz, hk⟩ := hF
  rw [h0] at hz hk
  exact ⟨by rw [e1]; exact hz, fun q h1 h2 => by rw [e1]; exact hk q h1 h2,
    ⟨Nat.le_trans hS.1 (by rw [e1]; exact hz), fun q h1 h2 => by rw [e1, hk q (Nat.lt_of_lt_of_le h1 hS.1) (fun z => h2 (hA q (Nat.lt_of_lt_of_le h1 hS.1) z))]; exact hS.2.1 q h1 h2, fun q hq => by
      rcases List.mem_append.mp hq with h | h
      · exact hS.2.2 q h
      · exact hf _ (hL q h)⟩⟩
theorem vx_calli {S SX : Type} {post : Int32 → S → Prop} {px : SX → Prop} {B : S → State → Prop} {BX : String → SX → State → Prop} {AX : Nat → Prop} (hr : vx_Run p l e R s m args below meth c H locs cells slots mc ms (F0 m pc ls st0) rest (va_Qi post B A1 a) (vx_X px BX AX) free) (hS : va_S A0 H0 H locs) (hA : ∀ q, q < H.size → A1 q → A0 q) (hf : ∀ q, free q → A0 q) (hAX : ∀ q, q < H.size → AX q → A0 q)
    (kx : ∀ (E : String) (ce : Cell) (q9 : Addr) (u : SX) (t : State) (H1 : Heap) (locs1 : List Loc), t.heap = H1 → s.vm.Alike t.vm → px u → BX E u t → H.size ≤ H1.size → (∀ q : Nat, q < H.size → ¬ AX q → H1[q]? = H[q]?) → va_S A0 H0 H1 locs1 → H1[q9]? = some ce → ce.vm = .none → s.vm.findClass E = some ce.cls → vx_W p l e R s m args below meth c H1 locs1 (cells + mc) (slots + ms) Q (F0 m pc ls rest) q9)
    (kk : ∀ (r : Int32) (u : S) (t : State) (H1 : Heap) (locs1 : List Loc), t.heap = H1 → s.vm.Alike t.vm → post r u → B u t → H.size ≤ H1.size → (∀ q : Nat, q < H.size → ¬ A1 q → H1[q]? = H[q]?) → va_S A0 H0 H1 locs1 → W p l e R s m args below meth c H1 locs1 (cells + mc) (slots + ms) Q (F0 m (pc + 3) ls (.int r :: rest))) : W p l e R s m args below meth c H locs cells slots Q (F0 m pc ls st0) := by
  intro T hT X
  rcases hr T hT X with ⟨v, st₀, t, T', L, h0, X', hL, e1, e2, ⟨⟨r, u, hv, hp, hb⟩, hF⟩, st⟩ | ⟨q, st₀, t, T', L, E, ce, h0, X', hL, e1, e2, ⟨u, hp, hb, hF⟩, hce, hcv, hcl, st⟩
  · cases hv
    obtain ⟨k1, k2, k3⟩ := vx_keep h0 e1 hS hA hf hL hF
    obtain ⟨t2, a1, b1⟩ := kk r u t T'.heap (locs ++ L) e1.symm (by rw [← e2]; exact X'.warmed.alike) hp hb k1 k2 k3 T' rfl X'
    exact ⟨t2, st t2 a1, b1⟩
  · obtain ⟨k1, k2, k3⟩ := vx_keep h0 e1 hS hAX hf hL hF
    obtain ⟨t2, a1, b1⟩ := kx E ce q u t T'.heap (locs ++ L) e1.symm (by rw [← e2]; exact X'.warmed.alike) hp hb k1 k2 k3 (by rw [e1]; exact hce) hcv hcl T' rfl X'
    exact ⟨t2, st.trans a1, b1⟩
theorem vx_calll {S SX : Type} {post : Int64 → S → Prop} {px : SX → Prop} {B : S → State → Prop} {BX : String → SX → State → Prop} {AX : Nat → Prop} (hr : vx_Run p l e R s m args below meth c H locs cells slots mc ms (F0 m pc ls st0) rest (va_Ql post B A1 a) (vx_X px BX AX) free) (hS : va_S A0 H0 H locs) (hA : ∀ q, q < H.size → A1 q → A0 q) (hf : ∀ q, free q → A0 q) (hAX : ∀ q, q < H.size → AX q → A0 q)
    (kx : ∀ (E : String) (ce : Cell) (q9 : Addr) (u : SX) (t : State) (H1 : Heap) (locs1 : List Loc), t.heap = H1 → s.vm.Alike t.vm → px u → BX E u t → H.size ≤ H1.size → (∀ q : Nat, q < H.size → ¬ AX q → H1[q]? = H[q]?) → va_S A0 H0 H1 locs1 → H1[q9]? = some ce → ce.vm = .none → s.vm.findClass E = some ce.cls → vx_W p l e R s m args below meth c H1 locs1 (cells + mc) (slots + ms) Q (F0 m pc ls rest) q9)
    (kk : ∀ (r : Int64) (u : S) (t : State) (H1 : Heap) (locs1 : List Loc), t.heap = H1 → s.vm.Alike t.vm → post r u → B u t → H.size ≤ H1.size → (∀ q : Nat, q < H.size → ¬ A1 q → H1[q]? = H[q]?) → va_S A0 H0 H1 locs1 → W p l e R s m args below meth c H1 locs1 (cells + mc) (slots + ms) Q (F0 m (pc + 3) ls (.long r :: rest))) : W p l e R s m args below meth c H locs cells slots Q (F0 m pc ls st0) := by
  intro T hT X
  rcases hr T hT X with ⟨v, st₀, t, T', L, h0, X', hL, e1, e2, ⟨⟨r, u, hv, hp, hb⟩, hF⟩, st⟩ | ⟨q, st₀, t, T', L, E, ce, h0, X', hL, e1, e2, ⟨u, hp, hb, hF⟩, hce, hcv, hcl, st⟩
  · cases hv
    obtain ⟨k1, k2, k3⟩ := vx_keep h0 e1 hS hA hf hL hF
    obtain ⟨t2, a1, b1⟩ := kk r u t T'.heap (locs ++ L) e1.symm (by rw [← e2]; exact X'.warmed.alike) hp hb k1 k2 k3 T' rfl X'
    exact ⟨t2, st t2 a1, b1⟩
  · obtain ⟨k1, k2, k3⟩ := vx_keep h0 e1 hS hAX hf hL hF
    obtain ⟨t2, a1, b1⟩ := kx E ce q u t T'.heap (locs ++ L) e1.symm (by rw [← e2]; exact X'.warmed.alike) hp hb k1 k2 k3 (by rw [e1]; exact hce) hcv hcl T' rfl X'
    exact ⟨t2, st.trans a1, b1⟩
theorem vx_callf {S SX : Type} {post : UInt32 → S → Prop} {px : SX → Prop} {B : S → State → Prop} {BX : String → SX → State → Prop} {AX : Nat → Prop} (hr : vx_Run p l e R s m args below meth c H locs cells slots mc ms (F0 m pc ls st0) rest (va_Qf post B A1 a) (vx_X px BX AX) free) (hS : va_S A0 H0 H locs) (hA : ∀ q, q < H.size → A1 q → A0 q) (hf : ∀ q, free q → A0 q) (hAX : ∀ q, q < H.size → AX q → A0 q)
    (kx : ∀ (E : String) (ce : Cell) (q9 : Addr) (u : SX) (t : State) (H1 : Heap) (locs1 : List Loc), t.heap = H1 → s.vm.Alike t.vm → px u → BX E u t → H.size ≤ H1.size → (∀ q : Nat, q < H.size → ¬ AX q → H1[q]? = H[q]?) → va_S A0 H0 H1 locs1 → H1[q9]? = some ce → ce.vm = .none → s.vm.findClass E = some ce.cls → vx_W p l e R s m args below meth c H1 locs1 (cells + mc) (slots + ms) Q (F0 m pc ls rest) q9)
    (kk : ∀ (r : UInt32) (u : S) (t : State) (H1 : Heap) (locs1 : List Loc), t.heap = H1 → s.vm.Alike t.vm → post r u → B u t → H.size ≤ H1.size → (∀ q : Nat, q < H.size → ¬ A1 q → H1[q]? = H[q]?) → va_S A0 H0 H1 locs1 → W p l e R s m args below meth c H1 locs1 (cells + mc) (slots + ms) Q (F0 m (pc + 3) ls (.float r :: rest))) : W p l e R s m args below meth c H locs cells slots Q (F0 m pc ls st0) := by
  intro T hT X
  rcases hr T hT X with ⟨v, st₀, t, T', L, h0, X', hL, e1, e2, ⟨⟨r, u, hv, hp, hb⟩, hF⟩, st⟩ | ⟨q, st₀, t, T', L, E, ce, h0, X', hL, e1, e2, ⟨u, hp, hb, hF⟩, hce, hcv, hcl, st⟩
  · cases hv
    obtain ⟨k1, k2, k3⟩ := vx_keep h0 e1 hS hA hf hL hF
    obtain ⟨t2, a1, b1⟩ := kk r u t T'.heap (locs ++ L) e1.symm (by rw [← e2]; exact X'.warmed.alike) hp hb k1 k2 k3 T' rfl X'
    exact ⟨t2, st t2 a1, b1⟩
  · obtain ⟨k1, k2, k3⟩ := vx_keep h0 e1 hS hAX hf hL hF
    obtain ⟨t2, a1, b1⟩ := kx E ce q u t T'.heap (locs ++ L) e1.symm (by rw [← e2]; exact X'.warmed.alike) hp hb k1 k2 k3 (by rw [e1]; exact hce) hcv hcl T' rfl X'
    exact ⟨t2, st.trans a1, b1⟩
theorem vx_calld {S SX : Type} {post : UInt64 → S → Prop} {px : SX → Prop} {B : S → State → Prop} {BX : String → SX → State → Prop} {AX : Nat → Prop} (hr : vx_Run p l e R s m args below meth c H locs cells slots mc ms (F0 m pc ls st0) rest (va_Qd post B A1 a) (vx_X px BX AX) free) (hS : va_S A0 H0 H locs) (hA : ∀ q, q < H.size → A1 q → A0 q) (hf : ∀ q, free q → A0 q) (hAX : ∀ q, q < H.size → AX q → A0 q)
    (kx : ∀ (E : String) (ce : Cell) (q9 : Addr) (u : SX) (t : State) (H1 : Heap) (locs1 : List Loc), t.heap = H1 → s.vm.Alike t.vm → px u → BX E u t → H.size ≤ H1.size → (∀ q : Nat, q < H.size → ¬ AX q → H1[q]? = H[q]?) → va_S A0 H0 H1 locs1 → H1[q9]? = some ce → ce.vm = .none → s.vm.findClass E = some ce.cls → vx_W p l e R s m args below meth c H1 locs1 (cells + mc) (slots + ms) Q (F0 m pc ls rest) q9)
    (kk : ∀ (r : UInt64) (u : S) (t : State) (H1 : Heap) (locs1 : List Loc), t.heap = H1 → s.vm.Alike t.vm → post r u → B u t → H.size ≤ H1.size → (∀ q : Nat, q < H.size → ¬ A1 q → H1[q]? = H[q]?) → va_S A0 H0 H1 locs1 → W p l e R s m args below meth c H1 locs1 (cells + mc) (slots + ms) Q (F0 m (pc + 3) ls (.double r :: rest))) : W p l e R s m args below meth c H locs cells slots Q (F0 m pc ls st0) := by
  intro T hT X
  rcases hr T hT X with ⟨v, st₀, t, T', L, h0, X', hL, e1, e2, ⟨⟨r, u, hv, hp, hb⟩, hF⟩, st⟩ | ⟨q, st₀, t, T', L, E, ce, h0, X', hL, e1, e2, ⟨u, hp, hb, hF⟩, hce, hcv, hcl, st⟩
  · cases hv
    obtain ⟨k1, k2, k3⟩ := vx_keep h0 e1 hS hA hf hL hF
    obtain ⟨t2, a1, b1⟩ := kk r u t T'.heap (locs ++ L) e1.symm (by rw [← e2]; exact X'.warmed.alike) hp hb k1 k2 k3 T' rfl X'
    exact ⟨t2, st t2 a1, b1⟩
  · obtain ⟨k1, k2, k3⟩ := vx_keep h0 e1 hS hAX hf hL hF
    obtain ⟨t2, a1, b1⟩ := kx E ce q u t T'.heap (locs ++ L) e1.symm (by rw [← e2]; exact X'.warmed.alike) hp hb k1 k2 k3 (by rw [e1]; exact hce) hcv hcl T' rfl X'
    exact ⟨t2, st.trans a1, b1⟩
theorem vx_callv {S SX : Type} {post : S → Prop} {px : SX → Prop} {B : S → State → Prop} {BX : String → SX → State → Prop} {AX : Nat → Prop} (hr : vx_Run p l e R s m args below meth c H locs cells slots mc ms (F0 m pc ls st0) rest (va_Qv post B A1 a) (vx_X px BX AX) free) (hS : va_S A0 H0 H locs) (hA : ∀ q, q < H.size → A1 q → A0 q) (hf : ∀ q, free q → A0 q) (hAX : ∀ q, q < H.size → AX q → A0 q)
    (kx : ∀ (E : String) (ce : Cell) (q9 : Addr) (u : SX) (t : State) (H1 : Heap) (locs1 : List Loc), t.heap = H1 → s.vm.Alike t.vm → px u → BX E u t → H.size ≤ H1.size → (∀ q : Nat, q < H.size → ¬ AX q → H1[q]? = H[q]?) → va_S A0 H0 H1 locs1 → H1[q9]? = some ce → ce.vm = .none → s.vm.findClass E = some ce.cls → vx_W p l e R s m args below meth c H1 locs1 (cells + mc) (slots + ms) Q (F0 m pc ls rest) q9)
    (kk : ∀ (u : S) (t : State) (H1 : Heap) (locs1 : List Loc), t.heap = H1 → s.vm.Alike t.vm → post u → B u t → H.size ≤ H1.size → (∀ q : Nat, q < H.size → ¬ A1 q → H1[q]? = H[q]?) → va_S A0 H0 H1 locs1 → W p l e R s m args below meth c H1 locs1 (cells + mc) (slots + ms) Q (F0 m (pc + 3) ls (rest))) : W p l e R s m args below meth c H locs cells slots Q (F0 m pc ls st0) := by
  intro T hT X
  rcases hr T hT X with ⟨v, st₀, t, T', L, h0, X', hL, e1, e2, ⟨⟨u, hv, hp, hb⟩, hF⟩, st⟩ | ⟨q, st₀, t, T', L, E, ce, h0, X', hL, e1, e2, ⟨u, hp, hb, hF⟩, hce, hcv, hcl, st⟩
  · cases hv
    obtain ⟨k1, k2, k3⟩ := vx_keep h0 e1 hS hA hf hL hF
    obtain ⟨t2, a1, b1⟩ := kk u t T'.heap (locs ++ L) e1.symm (by rw [← e2]; exact X'.warmed.alike) hp hb k1 k2 k3 T' rfl X'
    exact ⟨t2, st t2 a1, b1⟩
  · obtain ⟨k1, k2, k3⟩ := vx_keep h0 e1 hS hAX hf hL hF
    obtain ⟨t2, a1, b1⟩ := kx E ce q u t T'.heap (locs ++ L) e1.symm (by rw [← e2]; exact X'.warmed.alike) hp hb k1 k2 k3 (by rw [e1]; exact hce) hcv hcl T' rfl X'
    exact ⟨t2, st.trans a1, b1⟩
/-- caught by the row x of this method's table; the rows ahead don't take it -/
theorem vx_catch {own name : String} {E : String} {ce : Cell} {q : Addr} (hown : s.vm.findClass own = some m.cls) (pre : List ExceptionTableEntry) (x : ExceptionTableEntry) (suf : List ExceptionTableEntry) (hsplit : c.exceptionTable.toList = pre ++ x :: suf)
    (hpass : ∀ z ∈ pre, covers z pc = false ∨ (z.catchType ≠ 0 ∧ ∃ nm : String, (Cond.classLink own z.catchType nm).before args s = true ∧ va_Nc E nm s)) (hx : covers x pc = true) (h0 : x.catchType ≠ 0)
    (hlink : (Cond.classLink own x.catchType name).before args s = true) (hcast : (Cond.castable E name).before args s = true) (hcell : H[q]? = some ce) (hv : ce.vm = .none) (hcl : s.vm.findClass E = some ce.cls)
    (kk : W p l e R s m args below meth c H locs cells slots Q (F0 m x.handlerPc ls [.ref q])) : vx_W p l e R s m args below meth c H locs cells slots Q (F0 m pc ls rest) q := by
  intro T hT X
  have hpl : e.platform.magicAccessors = ({} : Platform).magicAccessors := by rw [X.admits.platform]
  obtain ⟨c3, c4, hc3, hc4, hasg⟩ := Cond.castable_spec hcast
  cases Option.some.inj (hc3.symm.trans hcl)
  obtain ⟨c5, hc5, hcl5⟩ := Cond.classLink_spec hown hlink e.platform hpl
  cases Option.some.inj (hc4.symm.trans hc5)
  obtain ⟨vm', X', st⟩ := X.thenCaughtThrough q (g := F0 m pc ls rest) rfl (Steps.refl _) (by rw [hT]; exact hcell) (by rw [hv]; rfl) (by obtain ⟨k9, h9, -⟩ := Vm.findClass_spec hcl; exact ⟨k9, h9⟩) pre x suf hsplit
    (fun z hz => by
      rcases hpass z hz with h | ⟨hz0, nm, hl1, hn1⟩
      · exact Or.inl h
      · obtain ⟨c6, hc6, hcl6⟩ := Cond.classLink_spec hown hl1 e.platform hpl
        obtain ⟨a8, b8, h1, h2, h3⟩ := hn1
        cases Option.some.inj (h1.symm.trans hcl)
        cases Option.some.inj (h2.symm.trans hc6)
        exact Or.inr ⟨hz0, _, hcl6, h3⟩) hx (Or.inr ⟨h0, c4, hcl5, hasg⟩)
  obtain ⟨t, a1, b1⟩ := kk (T.setVm vm') hT X'
  exact ⟨t, st.trans a1, b1⟩
end Rows
section Ends
variable {p : Program} {l : Launch} {e : Env} {R : Room} {s : State} {m : MethodId} {args : Array Value} {below : List Frame} {meth : Method} {c : Code} {H : Heap} {locs : List Loc} {cells slots : Nat} {Q : State → Prop}
variable {mc ms : Nat} {free : Addr → Prop} {A0 A1 : Nat → Prop} {H0 : Heap} {a : Array Value} {ls : Array Slot} {st0 rest : List Value}
variable {Qc : Array Value → State → Outcome → State → Prop} {XC : String → State → State → Prop}
/-- what a body that may throw owes at its end -/
def vx_MQ (below : List Frame) (Qc : Array Value → State → Outcome → State → Prop) (XC : String → State → State → Prop) (a : Array Value) (s : State) (mc ms : Nat) (free : Addr → Prop) : State → Prop := fun t =>
  ∃ o, t.status = .running ∧ Ended t below o ∧ vx_Q Qc XC mc ms free a s o t
theorem vx_ret {g : JFrame} {mc ms : Nat} (k : W p l e R s m args below meth c H locs cells slots (MQ below Qc args s mc ms free) g) : W p l e R s m args below meth c H locs cells slots (vx_MQ below Qc XC args s mc ms free) g := by
  intro T hT X
  obtain ⟨t, a1, o, b1, b2, b3, b4⟩ := k T hT X
  exact ⟨t, a1, o, b1, b2, Or.inl ⟨b3, b4⟩⟩
/-- not caught here: it goes on to the caller -/
theorem vx_widen {g : JFrame} {q : Addr} {k n : Nat} (h1 : cells ≤ k) (h2 : slots ≤ n) (kk : vx_W p l e R s m args below meth c H locs k n Q g q) : vx_W p l e R s m args below meth c H locs cells slots Q g q := fun T hT X => kk T hT (stand_widen X h1 h2)
theorem vx_out {pc : Nat} {E : String} {ce : Cell} {q : Addr} {mc ms : Nat} (hout : ∀ x ∈ c.exceptionTable.toList, covers x pc = false) (hlocks : meth.locks = false) (hcell : H[q]? = some ce) (hv : ce.vm = .none) (hcl : s.vm.findClass E = some ce.cls)
    (hx : ∀ t : State, t.heap = H → s.vm.Alike t.vm → XC E s t) (hf : ∀ z ∈ locs, free z.base) (hc : cells ≤ mc) (hs : slots ≤ ms) :
    vx_W p l e R s m args below meth c H locs cells slots (vx_MQ below Qc XC args s mc ms free) (F0 m pc ls rest) q := by
  intro T hT X
  obtain ⟨st1, hrun, hend, hW, hsm⟩ := X.leaveThrown q (g := F0 m pc ls rest) rfl rfl rfl hout hlocks
  have hcell9 : (T.setFrames (.throwing q :: below)).heap[q]? = some ce := by
    show T.heap[q]? = some ce
    rw [hT]; exact hcell
  exact ⟨_, st1, .threw q, hrun, hend, Or.inr ⟨q, rfl, E, ce, locs, hx _ hT hW.alike, hcell9, hv, hcl, hW, hsm.mono hc hs, hf⟩⟩
theorem vx_frame {U : State} {k n : Nat} (h : s.sameButNew ({ U with vm := s.vm } : State) locs k n) : s.heap.size ≤ U.heap.size ∧ ∀ q : Nat, q < s.heap.size → (∀ z ∈ locs, z.base ≠ q) → U.heap[q]? = s.heap[q]? := by
  obtain ⟨-, h2, -, -, -, h6⟩ := h
  refine ⟨h2, fun q hq hz => ?_⟩
  obtain ⟨c9, e1, e2, e3, e4⟩ := h6 q _ (Array.getElem?_eq_getElem hq)
  have hs : c9.slots = (s.heap[q]).slots := Array.ext_getElem? fun i => e4 i fun hm => hz _ hm rfl
  have h9 : c9 = s.heap[q] := by
    rw [hs] at e2
    exact e2
  have e5 : U.heap[q]? = some c9 := e1
  rw [e5, h9, Array.getElem?_eq_getElem hq]
/-- the words of a throw but the four that speak of the heap -/
def vx_no (w : Cond) : Bool := decide (w ≠ .isRef (.static Bundle.tN "UNASSIGNED_STACK" Bundle.steD)) && decide (w ≠ .isRef (.static Bundle.tN "SUPPRESSED_SENTINEL" Bundle.listD)) && decide (w ≠ .laysStatic Bundle.tN "UNASSIGNED_STACK" Bundle.steD) && decide (w ≠ .laysStatic Bundle.tN "SUPPRESSED_SENTINEL" Bundle.listD)
def vx_at0 (own : String) (ic : Nat) (X : String) (names : List String) : List Cond := (Bundle.ownAtoms0 own ic X names).filter vx_no
def vx_atS (own : String) (ic : Nat) (X : String) (names : List String) : List Cond := (Bundle.ownAtoms own ic X names).filter vx_no
/-- a word that the tables alone decide, or a good one -/
def vx_ot (w : Cond) : Bool := w.onTables || goodWord w
theorem vx_ot_at {args a' : Array Value} {s U : State} {w : Cond} (hW : s.WarmedH U.vm) (hvm : s.vm = U.vm) (hg : vx_ot w = true) (h : w.before args s = true) : w.before a' U = true := by
  simp only [vx_ot, Bool.or_eq_true] at hg
  rcases hg with hg | hg
  · exact va_tabs hg hvm h
  · exact word_at hW (good_of_word hg) h
/-- a list's words: the good ones out of the method's own list, the others by premises of their own -/
theorem vx_hat {args : Array Value} {s : State} {L B : List Cond} (h1 : ∀ w ∈ L.filter goodWord, w.before args s = true) (h2 : ∀ w ∈ L.filter (fun w => !goodWord w), w ∈ B) (h3 : ∀ w ∈ B, w.before args s = true) : ∀ w ∈ L, w.before args s = true := by
  intro w hw
  by_cases g : goodWord w = true
  · exact h1 w (List.mem_filter.mpr ⟨hw, g⟩)
  · refine h3 w (h2 w (List.mem_filter.mpr ⟨hw, ?_⟩))
    show (!goodWord w) = true
    cases hgw : goodWord w
    · rfl
    · exact absurd hgw g
theorem vx_c {args : Array Value} {s : State} {w : Cond} {B : List Cond} (h : w.before args s = true) (t : ∀ w ∈ B, w.before args s = true) : ∀ w' ∈ w :: B, w'.before args s = true := fun w' h' => (List.mem_cons.mp h').elim (fun e => by rw [e]; exact h) (t w')
theorem vx_n {args : Array Value} {s : State} : ∀ w ∈ ([] : List Cond), w.before args s = true := fun _ h => nomatch h
theorem vx_own {args : Array Value} {s : State} {L : List Cond} (h1 : ∀ w ∈ L.filter vx_no, w.before args s = true)
    (hU : (Cond.isRef (.static Bundle.tN "UNASSIGNED_STACK" Bundle.steD)).before args s = true) (hN : (Cond.isRef (.static Bundle.tN "SUPPRESSED_SENTINEL" Bundle.listD)).before args s = true)
    (lU : (Cond.laysStatic Bundle.tN "UNASSIGNED_STACK" Bundle.steD).before args s = true) (lN : (Cond.laysStatic Bundle.tN "SUPPRESSED_SENTINEL" Bundle.listD).before args s = true) : ∀ w ∈ L, w.before args s = true := by
  intro w hw
  by_cases e1 : w = .isRef (.static Bundle.tN "UNASSIGNED_STACK" Bundle.steD)
  · rw [e1]; exact hU
  · by_cases e2 : w = .isRef (.static Bundle.tN "SUPPRESSED_SENTINEL" Bundle.listD)
    · rw [e2]; exact hN
    · by_cases e3 : w = .laysStatic Bundle.tN "UNASSIGNED_STACK" Bundle.steD
      · rw [e3]; exact lU
      · by_cases e4 : w = .laysStatic Bundle.tN "SUPPRESSED_SENTINEL" Bundle.listD
        · rw [e4]; exact lN
        · exact h1 w (List.mem_filter.mpr ⟨hw, by unfold vx_no; rw [decide_eq_true e1, decide_eq_true e2, decide_eq_true e3, decide_eq_true e4]; rfl⟩)
/-- where a static field lies, its class's statics cell in H -/
def vx_L (C n d : String) (A : Nat → Prop) (U : State) (H : Heap) : Prop := ∃ (c : ClassId) (k : Class) (i : Nat) (f : Field) (a : Nat) (cell : Cell), U.vm.findClass C = some c ∧ U.fieldFound? C n d = some (c, k, i, f) ∧ f.isStatic = true ∧ k.statics = some a ∧ H[a]? = some cell ∧ cell.vm.isStatics = true ∧ cell.cls = c ∧ f.slot < cell.slots.size ∧ k.staticTypes[f.slot]? = some f.type ∧ ¬ A a
theorem vx_L.moved {C n d : String} {A : Nat → Prop} {u U : State} {H : Heap} (hvm : u.vm.Alike U.vm) (h : vx_L C n d A u H) : vx_L C n d A U H := by
  obtain ⟨c, k, i, f, a, cell, h1, h2, h3, h4, h5, h6, h7, h8, h9, h10⟩ := h
  obtain ⟨k', hi', he⟩ := State.fieldFound?_setVm hvm h2
  exact ⟨c, k', i, f, a, cell, by rw [hvm.findClass]; exact h1, hi', h3, by rw [he]; exact h4, h5, h6, h7, h8, by rw [he]; exact h9, h10⟩
theorem vx_L.kept {C n d : String} {A : Nat → Prop} {U : State} {H H1 : Heap} (h : vx_L C n d A U H) (hq : ∀ a : Nat, a < H.size → ¬ A a → H1[a]? = H[a]?) : vx_L C n d A U H1 := by
  obtain ⟨c, k, i, f, a, cell, h1, h2, h3, h4, h5, h6, h7, h8, h9, h10⟩ := h
  exact ⟨c, k, i, f, a, cell, h1, h2, h3, h4, by rw [hq a (Array.getElem?_eq_some_iff.mp h5).1 h10]; exact h5, h6, h7, h8, h9, h10⟩
theorem vx_L.narrow {C n d : String} {A B : Nat → Prop} {U : State} {H : Heap} (h : vx_L C n d A U H) (hAB : ∀ q, B q → A q) : vx_L C n d B U H := by
  obtain ⟨c, k, i, f, a, cell, h1, h2, h3, h4, h5, h6, h7, h8, h9, h10⟩ := h
  exact ⟨c, k, i, f, a, cell, h1, h2, h3, h4, h5, h6, h7, h8, h9, fun z => h10 (hAB _ z)⟩
theorem vx_L.word {C n d : String} {A : Nat → Prop} {s : State} {args : Array Value} (h : vx_L C n d A s s.heap) : (Cond.laysStatic C n d).before args s = true := by
  obtain ⟨c, k, i, f, a, cell, h1, h2, h3, h4, h5, h6, h7, h8, h9, -⟩ := h
  show (Cond.laysStatic C n d).holds args s none s [] = true
  exact Cond.laysStatic_of h1 h2 h3 h4 h5 h6 h7 h8 h9
/-- .. and what it holds: null or some reference -/
def vx_Zq (C n d : String) (A : Nat → Prop) (U : State) (H : Heap) : Prop := va_Zq C n d A U H ∧ vx_L C n d A U H
theorem vx_Zq.moved {C n d : String} {A : Nat → Prop} {u U : State} {H : Heap} (hvm : u.vm.Alike U.vm) (h : vx_Zq C n d A u H) : vx_Zq C n d A U H := ⟨va_Zq.moved hvm h.1, vx_L.moved hvm h.2⟩
theorem vx_Zq.kept {C n d : String} {A : Nat → Prop} {U : State} {H H1 : Heap} (h : vx_Zq C n d A U H) (hq : ∀ a : Nat, a < H.size → ¬ A a → H1[a]? = H[a]?) : vx_Zq C n d A U H1 := ⟨va_Zq.kept h.1 hq, vx_L.kept h.2 hq⟩
theorem vx_Zq.narrow {C n d : String} {A B : Nat → Prop} {U : State} {H : Heap} (h : vx_Zq C n d A U H) (hAB : ∀ q, B q → A q) : vx_Zq C n d B U H := ⟨va_Zq.narrow h.1 hAB, vx_L.narrow h.2 hAB⟩
theorem vx_Zqof {args : Array Value} {s : State} {C n d : String} {A : Nat → Prop} (hl : (Cond.laysStatic C n d).before args s = true) (hini : (Cond.initialized C).before args s = true) (h : (Cond.isRef (.static C n d)).before args s = true) (hA : ∀ a : Nat, a < s.heap.size → ¬ A a) : vx_Zq C n d A s s.heap := by
  refine ⟨va_Zqof hl hini h hA, ?_⟩
  obtain ⟨c, k, i, f, a, cell, h1, h2, h3, h4, h5, h6, h7, h8, h9⟩ := Cond.laysStatic_spec hl
  exact ⟨c, k, i, f, a, cell, h1, h2, h3, h4, h5, h6, h7, h8, h9, hA a (Array.getElem?_eq_some_iff.mp h5).1⟩
theorem vx_isRef {C n d : String} {v : Value} {A : Nat → Prop} {s : State} {args : Array Value} (h : va_Z C n d v A s s.heap) (hv : v.isRef = true) : (Cond.isRef (.static C n d)).before args s = true := by
  obtain ⟨cf, kf, fi, f, a, cell, h1, h2, h3, h4, h5, h6, h7, -⟩ := h
  have he : (Term.static C n d).eval args s none [] s = some v := by
    simp [Term.eval, State.fieldNamed?, h1, h2, h4, h5, h6, h7]
  simp only [Cond.before, Cond.holds, Cond.value, he]
  cases v <;> simp_all [Value.isRef]
theorem vx_isRefq {C n d : String} {A : Nat → Prop} {s : State} {args : Array Value} (h : va_Zq C n d A s s.heap) : (Cond.isRef (.static C n d)).before args s = true := by
  rcases h with h | ⟨t, h⟩
  · exact vx_isRef h rfl
  · exact vx_isRef h rfl
/-- the same frame, seen from here: as if the method were called anew in this heap -/
theorem vx_rebase {T : State} (X : Stand p l e R s m args below meth c T locs cells slots) {R' : Room} (hf : R'.frames ≤ R.frames) (hl : R'.locals ≤ R.locals) (hc : cells + R'.cells ≤ R.cells) (hs : slots + R'.slots ≤ R.slots) :
    Stand p l e R' ((T.setVm s.vm).setFrames (.invoking m args :: below)) m args below meth c T [] 0 0 := by
  have htop : (T.setVm s.vm).topJava?.isSome := X.here.top
  have hF : ((T.setVm s.vm).setFrames (.invoking m args :: below)).frames = .invoking m args :: below := State.frames_setFrames _ (State.cur_lt_of_top htop)
  obtain ⟨g₀, hg0⟩ := Option.isSome_iff_exists.mp htop
  obtain ⟨r, hr⟩ := State.topJava?_eq_some.mp hg0
  have hl9 : e.platform.stackLimits (T.setVm s.vm).me = e.platform.stackLimits s.me := X.limits
  have hb9 : (T.setVm s.vm).me.stackBytes = s.me.stackBytes := X.bytes
  refine ⟨X.admits, X.cas, X.clock, hF, ?_, X.hears, X.method, X.code, X.here, X.tail, X.warmed, ?_, ?_, ?_⟩
  · have h := X.room
    have hU : ((T.setVm s.vm).setFrames (.invoking m args :: below)).localsInUse = s.localsInUse := by
      rw [State.localsInUse_invoking hF (meth := meth) (c := c) X.method X.code, State.localsInUse_invoking X.frames X.method X.code]
    simp only [State.hasRoom, Bool.and_eq_true, decide_eq_true_eq] at h ⊢
    obtain ⟨⟨⟨⟨h1, h2, h3, h4, h5, h6⟩, h7⟩, h8⟩, h9⟩ := h
    rw [X.frames, List.length_cons] at h2 h3
    have q1 := X.heapSize
    have q2 := X.used
    simp only [hF, hU, List.length_cons, State.stackLimits_setFrames, State.stackBytes_setFrames, hl9, hb9]
    refine ⟨⟨⟨⟨by omega, by omega, by omega, by omega, by omega, h6⟩, ?_⟩, ?_⟩, X.book⟩
    · show T.heap.size + R'.cells ≤ e.platform.maxCells
      omega
    · show T.slotsUsed + R'.slots ≤ e.platform.maxSlots
      omega
  · rw [State.stackLimits_setFrames]; rfl
  · rw [State.stackBytes_setFrames]; rfl
  · refine ⟨?_, Nat.le_refl _, Nat.le_refl _, ?_, ?_, fun a c9 h9 => ⟨c9, h9, rfl, rfl, fun _ _ => rfl⟩⟩
    · obtain ⟨t, ht, -⟩ := State.frames_cons hr
      show T.setVm s.vm = { ((T.setVm s.vm).setFrames (.invoking m args :: below)).setFrames (T.setVm s.vm).frames with heap := T.heap, slotsUsed := T.slotsUsed }
      rw [State.setFrames_setFrames, State.setFrames_self ht]
      rfl
    · show T.slotsUsed = T.slotsUsed + ((T.heap.toList.drop T.heap.size).map (·.slots.size)).sum
      rw [List.drop_eq_nil_of_le (Nat.le_of_eq Array.length_toList)]
      rfl
    · show ((T.heap.toList.drop T.heap.size).map (·.slots.size)).sum ≤ 0
      rw [List.drop_eq_nil_of_le (Nat.le_of_eq Array.length_toList)]
      exact Nat.le_refl _
/-- 'throw new E()': new; dup; invokespecial; athrow -/
theorem vx_throw0 {cc : ByteArray} {pc : Nat} (hexec : p.tables.exec = Jvm.exec) (hb : c.code = cc) (hl : l.stackTraces = false) {own cls : String} {names : List String} {ik ic mc ms : Nat} {A : Nat → Prop}
    (hown : s.vm.findClass own = some m.cls) (hcls : Bundle.fit cls = true) (hnames : ∀ n ∈ names, Bundle.fit n = true)
    (hk : (Cond.classLink own ik cls).before args s = true) (hini : (Cond.initialized cls).before args s = true) (hat : ∀ w ∈ vx_at0 own ic cls names, w.before args s = true)
    (hgood : ∀ w ∈ Cond.classLink own ik cls :: Cond.initialized cls :: vx_at0 own ic cls names, vx_ot w = true)
    (hU : vx_Zq Bundle.tN "UNASSIGNED_STACK" Bundle.steD A s s.heap) (hN : vx_Zq Bundle.tN "SUPPRESSED_SENTINEL" Bundle.listD A s s.heap) (hS : va_S A s.heap H locs) (hsize : ls.size = c.maxLocals)
    (d0 : decode cc pc = .ok (.new ik, 3)) (d3 : decode cc (pc + 3) = .ok (.dup, 1)) (d4 : decode cc (pc + 4) = .ok (.invokespecial ic, 3)) (d7 : decode cc (pc + 7) = .ok (.athrow, 1))
    (hout : ∀ x ∈ c.exceptionTable.toList, covers x (pc + 7) = false)
    (hRframes : names.length + 3 < R.frames) (hRlocals : (rest.map fun v => v.category).sum + (13 * (names.length + 1) + 42) ≤ R.locals) (hRcells : cells + 1 ≤ R.cells) (hRslots : slots + 6 ≤ R.slots) (hlocks : meth.locks = false)
    (hx : ∀ t : State, s.vm.Alike t.vm → H.size ≤ t.heap.size → (∀ q : Nat, q < H.size → t.heap[q]? = H[q]?) → XC cls s t)
    (hf : ∀ z ∈ locs, free z.base) (hc : cells + 1 ≤ mc) (hs : slots + 6 ≤ ms) :
    W p l e R s m args below meth c H locs cells slots (vx_MQ below Qc XC args s mc ms free) (F0 m pc ls rest) := by
  intro T hT X
  have htr : e.platform.stackTraces = false := (show e.platform.stackTraces = l.stackTraces by rw [X.admits.platform]).trans hl
  have Y := vx_rebase X (R' := { frames := R.frames, locals := R.locals, cells := 1, slots := 6 }) (Nat.le_refl _) (Nat.le_refl _) hRcells hRslots
  obtain ⟨s', hA⟩ : ∃ z, z = (T.setVm s.vm).setFrames (.invoking m args :: below) := ⟨_, rfl⟩
  rw [← hA] at Y
  have hvm : s'.vm = s.vm := by rw [hA]; rfl
  have hhp : s'.heap = H := by rw [hA]; exact hT
  have hW0 : s.WarmedH s'.vm := by rw [hvm]; exact State.WarmedH.refl s
  have hat' : ∀ w ∈ vx_at0 own ic cls names, w.before args s' = true := fun w hw => vx_ot_at hW0 hvm.symm (hgood w (List.mem_cons_of_mem _ (List.mem_cons_of_mem _ hw))) (hat w hw)
  have hk' : (Cond.classLink own ik cls).before args s' = true := vx_ot_at hW0 hvm.symm (hgood _ List.mem_cons_self) hk
  have hini' : (Cond.initialized cls).before args s' = true := vx_ot_at hW0 hvm.symm (hgood _ (List.mem_cons_of_mem _ List.mem_cons_self)) hini
  have hU' : vx_Zq Bundle.tN "UNASSIGNED_STACK" Bundle.steD A s' s'.heap := by rw [hhp]; exact vx_Zq.moved hW0.alike (hU.kept hS.2.1)
  have hN' : vx_Zq Bundle.tN "SUPPRESSED_SENTINEL" Bundle.listD A s' s'.heap := by rw [hhp]; exact vx_Zq.moved hW0.alike (hN.kept hS.2.1)
  have h : ∀ w ∈ Bundle.ownAtoms0 own ic cls names, w.before args s' = true := vx_own hat' (vx_isRefq hU'.1) (vx_isRefq hN'.1) hU'.2.word hN'.2.word
  have hown' : s'.vm.findClass own = some m.cls := by rw [hvm]; exact hown
  have hins : (Cond.instantiable cls 6).before args s' = true := h _ (by simp [Bundle.ownAtoms0])
  obtain ⟨vm₁, cX, kX, hfX, hkX, -, -, X₁, st1⟩ := Y.newCold hexec (own := own) (C := cls) (index := ik) (n := 6) hown' hk' hins hini'
    (g := F0 m pc ls rest) rfl (by rw [hb]; exact d0) (Nat.le_refl _) (Nat.le_refl _)
  generalize hT1 : (T.setVm vm₁).pushCell { cls := cX, slots := kX.instanceTypes.map defaultValue, vm := .none } = T1 at X₁ st1
  have hcat : (Value.ref T.heap.size).category = 1 := rfl
  have hcellA : T1.heap[T.heap.size]? = some (freshCell cX kX) := by rw [← hT1]; exact State.heap_pushCell_size _ _
  have d3' : decode c.code (pc + 3) = .ok (.dup, 1) := by rw [hb]; exact d3
  obtain ⟨U, hsteps, hrun, hend, hW, hsame, ce, hce, hO⟩ := X₁.ctorThrow0 hexec htr (own := own) (cls := cls) (names := names) (ic := ic) hown' hcls hnames h (fun x hx => nomatch hx) hfX hkX hcellA (by rw [hhp, hT]; exact Nat.le_refl _)
    (g := { method := m, pc := pc + 4, locals := ls, stack := .ref T.heap.size :: .ref T.heap.size :: rest, locked := none }) rfl hsize rfl rfl (rest := rest) rfl
    (by rw [hb]; exact d4) (by rw [hb]; exact d7) hout hRframes (by simp only [List.map_cons, List.sum_cons, hcat]; omega) hlocks
  obtain ⟨f1, f2⟩ := vx_frame hsame
  rw [hhp] at f1 f2
  have hWs : s.WarmedH U.vm := State.WarmedH.trans hW0 hW
  have hcl : s.vm.findClass cls = some ce.cls := by
    have h9 := hO.cls
    rw [hvm] at h9
    exact h9
  have hall : s.sameButNew ({ U with vm := s.vm } : State) locs mc ms := by
    subst hA
    obtain ⟨e1, e2⟩ := hsame
    rw [State.setFrames_setFrames] at e1
    have h2 : (T.setVm s.vm).sameButNew ({ U with vm := s.vm } : State) [] (0 + 1) (0 + 6) := ⟨e1, e2⟩
    have h3 := X.same.trans h2
    rw [List.append_nil] at h3
    exact h3.mono hc hs
  refine ⟨U, ?_, .threw T.heap.size, hrun, hend, Or.inr ⟨T.heap.size, rfl, cls, ce, locs, hx U hWs.alike f1 (fun q hq => f2 q hq (fun z hz => nomatch hz)), hce, hO.vm, hcl, hWs, hall, hf⟩⟩
  refine st1 _ ?_
  show Steps p.tables e below (T1.setTop { method := m, pc := pc + 3, locals := ls, stack := .ref T.heap.size :: rest, locked := none }) _
  jvm_step X₁.here [X₁.here.top, hexec, d3', Value.category]
  exact hsteps
/-- 'throw new E("text")': new; dup; ldc; invokespecial; athrow -/
theorem vx_throwS {cc : ByteArray} {pc : Nat} (hexec : p.tables.exec = Jvm.exec) (hb : c.code = cc) (hl : l.stackTraces = false) {own cls text : String} {names : List String} {ik is ic mc ms sa : Nat} {A : Nat → Prop}
    (hown : s.vm.findClass own = some m.cls) (hcls : Bundle.fit cls = true) (hnames : ∀ n ∈ names, Bundle.fit n = true)
    (hk : (Cond.classLink own ik cls).before args s = true) (hini : (Cond.initialized cls).before args s = true) (hstr : vk_R own is text sa s) (hat : ∀ w ∈ vx_atS own ic cls names, w.before args s = true)
    (hgood : ∀ w ∈ Cond.classLink own ik cls :: Cond.initialized cls :: vx_atS own ic cls names, vx_ot w = true)
    (hU : vx_Zq Bundle.tN "UNASSIGNED_STACK" Bundle.steD A s s.heap) (hN : vx_Zq Bundle.tN "SUPPRESSED_SENTINEL" Bundle.listD A s s.heap) (hS : va_S A s.heap H locs) (hsize : ls.size = c.maxLocals)
    (d0 : decode cc pc = .ok (.new ik, 3)) (d3 : decode cc (pc + 3) = .ok (.dup, 1)) (d4 : decode cc (pc + 4) = .ok (.ldc is, 2)) (d6 : decode cc (pc + 6) = .ok (.invokespecial ic, 3)) (d9 : decode cc (pc + 9) = .ok (.athrow, 1))
    (hout : ∀ x ∈ c.exceptionTable.toList, covers x (pc + 9) = false)
    (hRframes : names.length + 3 < R.frames) (hRlocals : (rest.map fun v => v.category).sum + (13 * (names.length + 1) + 43) ≤ R.locals) (hRcells : cells + 1 ≤ R.cells) (hRslots : slots + 6 ≤ R.slots) (hlocks : meth.locks = false)
    (hx : ∀ t : State, s.vm.Alike t.vm → H.size ≤ t.heap.size → (∀ q : Nat, q < H.size → t.heap[q]? = H[q]?) → XC cls s t)
    (hf : ∀ z ∈ locs, free z.base) (hc : cells + 1 ≤ mc) (hs : slots + 6 ≤ ms) :
    W p l e R s m args below meth c H locs cells slots (vx_MQ below Qc XC args s mc ms free) (F0 m pc ls rest) := by
  intro T hT X
  have htr : e.platform.stackTraces = false := (show e.platform.stackTraces = l.stackTraces by rw [X.admits.platform]).trans hl
  have Y := vx_rebase X (R' := { frames := R.frames, locals := R.locals, cells := 1, slots := 6 }) (Nat.le_refl _) (Nat.le_refl _) hRcells hRslots
  obtain ⟨s', hA⟩ : ∃ z, z = (T.setVm s.vm).setFrames (.invoking m args :: below) := ⟨_, rfl⟩
  rw [← hA] at Y
  have hvm : s'.vm = s.vm := by rw [hA]; rfl
  have hhp : s'.heap = H := by rw [hA]; exact hT
  have hW0 : s.WarmedH s'.vm := by rw [hvm]; exact State.WarmedH.refl s
  have hat' : ∀ w ∈ vx_atS own ic cls names, w.before args s' = true := fun w hw => vx_ot_at hW0 hvm.symm (hgood w (List.mem_cons_of_mem _ (List.mem_cons_of_mem _ hw))) (hat w hw)
  have hk' : (Cond.classLink own ik cls).before args s' = true := vx_ot_at hW0 hvm.symm (hgood _ List.mem_cons_self) hk
  have hini' : (Cond.initialized cls).before args s' = true := vx_ot_at hW0 hvm.symm (hgood _ (List.mem_cons_of_mem _ List.mem_cons_self)) hini
  have hU' : vx_Zq Bundle.tN "UNASSIGNED_STACK" Bundle.steD A s' s'.heap := by rw [hhp]; exact vx_Zq.moved hW0.alike (hU.kept hS.2.1)
  have hN' : vx_Zq Bundle.tN "SUPPRESSED_SENTINEL" Bundle.listD A s' s'.heap := by rw [hhp]; exact vx_Zq.moved hW0.alike (hN.kept hS.2.1)
  have h : ∀ w ∈ Bundle.ownAtoms own ic cls names, w.before args s' = true := vx_own hat' (vx_isRefq hU'.1) (vx_isRefq hN'.1) hU'.2.word hN'.2.word
  have hown' : s'.vm.findClass own = some m.cls := by rw [hvm]; exact hown
  have hins : (Cond.instantiable cls 6).before args s' = true := h _ (by simp [Bundle.ownAtoms])
  obtain ⟨vm₁, cX, kX, hfX, hkX, -, -, X₁, st1⟩ := Y.newCold hexec (own := own) (C := cls) (index := ik) (n := 6) hown' hk' hins hini'
    (g := F0 m pc ls rest) rfl (by rw [hb]; exact d0) (Nat.le_refl _) (Nat.le_refl _)
  generalize hT1 : (T.setVm vm₁).pushCell { cls := cX, slots := kX.instanceTypes.map defaultValue, vm := .none } = T1 at X₁ st1
  have hcat : (Value.ref T.heap.size).category = 1 := rfl
  have hcellA : T1.heap[T.heap.size]? = some (freshCell cX kX) := by rw [← hT1]; exact State.heap_pushCell_size _ _
  have d3' : decode c.code (pc + 3) = .ok (.dup, 1) := by rw [hb]; exact d3
  have d4' : decode c.code (pc + 4) = .ok (.ldc is, 2) := by rw [hb]; exact d4
  have hstr' : vk_R own is text sa s' := vk_R.warm hW0 hstr
  obtain ⟨U, hsteps, hrun, hend, hW, hsame, ce, hce, hO⟩ := X₁.ctorThrowS hexec htr (own := own) (cls := cls) (names := names) (ic := ic) hown' hcls hnames h (fun x hx => nomatch hx) hfX hkX hcellA (by rw [hhp, hT]; exact Nat.le_refl _) (msg := .ref sa) rfl
    (g := { method := m, pc := pc + 6, locals := ls, stack := .ref sa :: .ref T.heap.size :: .ref T.heap.size :: rest, locked := none }) rfl hsize rfl rfl (rest := rest) rfl
    (by rw [hb]; exact d6) (by rw [hb]; exact d9) hout hRframes (by simp only [List.map_cons, List.sum_cons, hcat]; omega) hlocks
  obtain ⟨f1, f2⟩ := vx_frame hsame
  rw [hhp] at f1 f2
  have hWs : s.WarmedH U.vm := State.WarmedH.trans hW0 hW
  have hcl : s.vm.findClass cls = some ce.cls := by
    have h9 := hO.cls
    rw [hvm] at h9
    exact h9
  have hall : s.sameButNew ({ U with vm := s.vm } : State) locs mc ms := by
    subst hA
    obtain ⟨e1, e2⟩ := hsame
    rw [State.setFrames_setFrames] at e1
    have h2 : (T.setVm s.vm).sameButNew ({ U with vm := s.vm } : State) [] (0 + 1) (0 + 6) := ⟨e1, e2⟩
    have h3 := X.same.trans h2
    rw [List.append_nil] at h3
    exact h3.mono hc hs
  refine ⟨U, ?_, .threw T.heap.size, hrun, hend, Or.inr ⟨T.heap.size, rfl, cls, ce, locs, hx U hWs.alike f1 (fun q hq => f2 q hq (fun z hz => nomatch hz)), hce, hO.vm, hcl, hWs, hall, hf⟩⟩
  refine st1 _ ?_
  show Steps p.tables e below (T1.setTop { method := m, pc := pc + 3, locals := ls, stack := .ref T.heap.size :: rest, locked := none }) _
  jvm_step X₁.here [X₁.here.top, hexec, d3', Value.category]
  exact X₁.ldcString hexec (own := own) (text := text) (index := is) (a := sa) hown' hstr'.1 hstr'.2
    (g := { method := m, pc := pc + 4, locals := ls, stack := .ref T.heap.size :: .ref T.heap.size :: rest, locked := none }) rfl d4' _ hsteps
/-- 'throw new E("text")', the text by a wide index -/
theorem vx_throwSW {cc : ByteArray} {pc : Nat} (hexec : p.tables.exec = Jvm.exec) (hb : c.code = cc) (hl : l.stackTraces = false) {own cls text : String} {names : List String} {ik is ic mc ms sa : Nat} {A : Nat → Prop}
    (hown : s.vm.findClass own = some m.cls) (hcls : Bundle.fit cls = true) (hnames : ∀ n ∈ names, Bundle.fit n = true)
    (hk : (Cond.classLink own ik cls).before args s = true) (hini : (Cond.initialized cls).before args s = true) (hstr : vk_R own is text sa s) (hat : ∀ w ∈ vx_atS own ic cls names, w.before args s = true)
    (hgood : ∀ w ∈ Cond.classLink own ik cls :: Cond.initialized cls :: vx_atS own ic cls names, vx_ot w = true)
    (hU : vx_Zq Bundle.tN "UNASSIGNED_STACK" Bundle.steD A s s.heap) (hN : vx_Zq Bundle.tN "SUPPRESSED_SENTINEL" Bundle.listD A s s.heap) (hS : va_S A s.heap H locs) (hsize : ls.size = c.maxLocals)
    (d0 : decode cc pc = .ok (.new ik, 3)) (d3 : decode cc (pc + 3) = .ok (.dup, 1)) (d4 : decode cc (pc + 4) = .ok (.ldc_w is, 3)) (d7 : decode cc (pc + 7) = .ok (.invokespecial ic, 3)) (d10 : decode cc (pc + 10) = .ok (.athrow, 1))
    (hout : ∀ x ∈ c.exceptionTable.toList, covers x (pc + 10) = false)
    (hRframes : names.length + 3 < R.frames) (hRlocals : (rest.map fun v => v.category).sum + (13 * (names.length + 1) + 43) ≤ R.locals) (hRcells : cells + 1 ≤ R.cells) (hRslots : slots + 6 ≤ R.slots) (hlocks : meth.locks = false)
    (hx : ∀ t : State, s.vm.Alike t.vm → H.size ≤ t.heap.size → (∀ q : Nat, q < H.size → t.heap[q]? = H[q]?) → XC cls s t)
    (hf : ∀ z ∈ locs, free z.base) (hc : cells + 1 ≤ mc) (hs : slots + 6 ≤ ms) :
    W p l e R s m args below meth c H locs cells slots (vx_MQ below Qc XC args s mc ms free) (F0 m pc ls rest) := by
  intro T hT X
  have htr : e.platform.stackTraces = false := (show e.platform.stackTraces = l.stackTraces by rw [X.admits.platform]).trans hl
  have Y := vx_rebase X (R' := { frames := R.frames, locals := R.locals, cells := 1, slots := 6 }) (Nat.le_refl _) (Nat.le_refl _) hRcells hRslots
  obtain ⟨s', hA⟩ : ∃ z, z = (T.setVm s.vm).setFrames (.invoking m args :: below) := ⟨_, rfl⟩
  rw [← hA] at Y
  have hvm : s'.vm = s.vm := by rw [hA]; rfl
  have hhp : s'.heap = H := by rw [hA]; exact hT
  have hW0 : s.WarmedH s'.vm := by rw [hvm]; exact State.WarmedH.refl s
  have hat' : ∀ w ∈ vx_atS own ic cls names, w.before args s' = true := fun w hw => vx_ot_at hW0 hvm.symm (hgood w (List.mem_cons_of_mem _ (List.mem_cons_of_mem _ hw))) (hat w hw)
  have hk' : (Cond.classLink own ik cls).before args s' = true := vx_ot_at hW0 hvm.symm (hgood _ List.mem_cons_self) hk
  have hini' : (Cond.initialized cls).before args s' = true := vx_ot_at hW0 hvm.symm (hgood _ (List.mem_cons_of_mem _ List.mem_cons_self)) hini
  have hU' : vx_Zq Bundle.tN "UNASSIGNED_STACK" Bundle.steD A s' s'.heap := by rw [hhp]; exact vx_Zq.moved hW0.alike (hU.kept hS.2.1)
  have hN' : vx_Zq Bundle.tN "SUPPRESSED_SENTINEL" Bundle.listD A s' s'.heap := by rw [hhp]; exact vx_Zq.moved hW0.alike (hN.kept hS.2.1)
  have h : ∀ w ∈ Bundle.ownAtoms own ic cls names, w.before args s' = true := vx_own hat' (vx_isRefq hU'.1) (vx_isRefq hN'.1) hU'.2.word hN'.2.word
  have hown' : s'.vm.findClass own = some m.cls := by rw [hvm]; exact hown
  have hins : (Cond.instantiable cls 6).before args s' = true := h _ (by simp [Bundle.ownAtoms])
  obtain ⟨vm₁, cX, kX, hfX, hkX, -, -, X₁, st1⟩ := Y.newCold hexec (own := own) (C := cls) (index := ik) (n := 6) hown' hk' hins hini'
    (g := F0 m pc ls rest) rfl (by rw [hb]; exact d0) (Nat.le_refl _) (Nat.le_refl _)
  generalize hT1 : (T.setVm vm₁).pushCell { cls := cX, slots := kX.instanceTypes.map defaultValue, vm := .none } = T1 at X₁ st1
  have hcat : (Value.ref T.heap.size).category = 1 := rfl
  have hcellA : T1.heap[T.heap.size]? = some (freshCell cX kX) := by rw [← hT1]; exact State.heap_pushCell_size _ _
  have d3' : decode c.code (pc + 3) = .ok (.dup, 1) := by rw [hb]; exact d3
  have d4' : decode c.code (pc + 4) = .ok (.ldc_w is, 3) := by rw [hb]; exact d4
  have hstr' : vk_R own is text sa s' := vk_R.warm hW0 hstr
  obtain ⟨U, hsteps, hrun, hend, hW, hsame, ce, hce, hO⟩ := X₁.ctorThrowS hexec htr (own := own) (cls := cls) (names := names) (ic := ic) hown' hcls hnames h (fun x hx => nomatch hx) hfX hkX hcellA (by rw [hhp, hT]; exact Nat.le_refl _) (msg := .ref sa) rfl
    (g := { method := m, pc := pc + 7, locals := ls, stack := .ref sa :: .ref T.heap.size :: .ref T.heap.size :: rest, locked := none }) rfl hsize rfl rfl (rest := rest) rfl
    (by rw [hb]; exact d7) (by rw [hb]; exact d10) hout hRframes (by simp only [List.map_cons, List.sum_cons, hcat]; omega) hlocks
  obtain ⟨f1, f2⟩ := vx_frame hsame
  rw [hhp] at f1 f2
  have hWs : s.WarmedH U.vm := State.WarmedH.trans hW0 hW
  have hcl : s.vm.findClass cls = some ce.cls := by
    have h9 := hO.cls
    rw [hvm] at h9
    exact h9
  have hall : s.sameButNew ({ U with vm := s.vm } : State) locs mc ms := by
    subst hA
    obtain ⟨e1, e2⟩ := hsame
    rw [State.setFrames_setFrames] at e1
    have h2 : (T.setVm s.vm).sameButNew ({ U with vm := s.vm } : State) [] (0 + 1) (0 + 6) := ⟨e1, e2⟩
    have h3 := X.same.trans h2
    rw [List.append_nil] at h3
    exact h3.mono hc hs
  refine ⟨U, ?_, .threw T.heap.size, hrun, hend, Or.inr ⟨T.heap.size, rfl, cls, ce, locs, hx U hWs.alike f1 (fun q hq => f2 q hq (fun z hz => nomatch hz)), hce, hO.vm, hcl, hWs, hall, hf⟩⟩
  refine st1 _ ?_
  show Steps p.tables e below (T1.setTop { method := m, pc := pc + 3, locals := ls, stack := .ref T.heap.size :: rest, locked := none }) _
  jvm_step X₁.here [X₁.here.top, hexec, d3', Value.category]
  exact X₁.ldcStringW hexec (own := own) (text := text) (index := is) (a := sa) hown' hstr'.1 hstr'.2
    (g := { method := m, pc := pc + 4, locals := ls, stack := .ref T.heap.size :: .ref T.heap.size :: rest, locked := none }) rfl d4' _ hsteps
end Ends
section Bodies
variable {l : Launch}
theorem vx_ofW {y : MethodName} {ws ws' : List Cond} {rm : Room} {Pc : Array Value → State → Prop} {Qc : Array Value → State → Outcome → State → Prop} {XC : String → State → State → Prop} {mc ms : Nat} {free : Addr → Prop} {cc : ByteArray} {maxL : Nat} {ret : Option FieldType}
    (hy : plainName y.cls = true) (hw : ws = Cond.code y cc maxL ret :: ws')
    (body : ∀ p e s m args below meth c s₁, BodyLoose p l y (headSpec ws rm) cc maxL ret e s m args below meth c s₁ → c.maxLocals = maxL → (∀ x ∈ c.exceptionTable.toList, False) → Pc args s →
      W p l e (headSpec ws rm).room s m args below meth c s.heap [] 0 0 (vx_MQ below Qc XC args s mc ms free) (entryFrame m args maxL)) : vx_Met l y ws rm Pc Qc XC mc ms free := by
  refine MetFree.of_bodyS (code := cc) (maxLocals := maxL) (ret := ret) hy ?_ ?_
  · intro args s m h hn
    obtain ⟨meth, c, h1, h2, h3, h4, h5, h6, -, -⟩ := Cond.code_spec hn (atoms_spec (ws := ws) h _ (by rw [hw]; exact List.mem_cons_self))
    exact ⟨meth, c, h1, h2, h3, h4, h5, h6⟩
  · intro p e s m args below meth c s₁ B hml hP _
    have hh0 : s₁.heap = s.heap := by rw [B.state]; rfl
    have ht : ∀ x ∈ c.exceptionTable.toList, False := by
      obtain ⟨meth9, c9, h1, h2, -, -, -, -, h7, -⟩ := Cond.code_spec B.named (atoms_spec (ws := ws) B.pre _ (by rw [hw]; exact List.mem_cons_self))
      cases Option.some.inj (h1.symm.trans B.method)
      cases Option.some.inj (h2.symm.trans (Stand.of_body B).code)
      intro x hx
      rw [Array.isEmpty_iff.mp h7] at hx
      cases hx
    obtain ⟨t, a1, o, b1, b2, b3⟩ := body p e s m args below meth c s₁ B hml ht hP s₁ hh0 (Stand.of_body B)
    exact ⟨t, o, a1, b1, b2, b3⟩
/-- the table of a body with handlers -/
theorem vx_table {p : Program} {x y : MethodName} {S : Spec} {cc bytes : ByteArray} {maxL maxL' : Nat} {ret ret' : Option FieldType} {e : Env} {s s₁ : State} {m : MethodId} {args : Array Value} {below : List Frame} {meth : Method} {c : Code} {hh : List (Nat × Nat × Nat × Nat)}
    (B : BodyLoose p l y S cc maxL ret e s m args below meth c s₁) (h : (Cond.codeWith y bytes maxL' ret' hh).before args s = true) : c.exceptionTable.toList = tableOf hh := by
  obtain ⟨m9, meth9, c9, hn9, h1, h2, -, -, h6, -⟩ := Cond.codeWith_spec h
  cases Option.some.inj (hn9.symm.trans B.named)
  cases Option.some.inj (h1.symm.trans B.method)
  cases Option.some.inj (h2.symm.trans (Stand.of_body B).code)
  rw [← h6, table_eq]
end Bodies
end VXA
/-! ===== END ===== -/
/-! ===== BEGIN a static call of a method with an exception table ===== -/
section VXS
variable {p : Program} {l : Launch} {e : Env} {R : Room} {s : State} {m : MethodId} {args : Array Value} {below : List Frame} {meth : Method} {c : Code} {T : State} {H : Heap} {locs : List Loc} {cells slots : Nat}
abbrev vx_CSW (R : Room) (s : State) (args : Array Value) (own : String) (index : Nat) (y : MethodName) (bytes : ByteArray) (maxL : Nat) (ret : Option FieldType) (hh : List (Nat × Nat × Nat × Nat)) (ws : List Cond) (rm : Room) (mc ms n : Nat) : Prop :=
  (rm.cells = mc ∧ rm.slots = ms ∧ rm.frames + 1 ≤ R.frames ∧ 8 + (maxL + 11) + rm.locals ≤ R.locals ∧ (∀ w ∈ ws, ∀ (a' : Array Value) (U : State), s.WarmedH U.vm → w.before a' U = true) ∧ Cond.codeWith y bytes maxL ret hh ∈ ws) ∧
  (Cond.codeWith y bytes maxL ret hh).before args s = true ∧ (Cond.initialized y.cls).before args s = true ∧ (y.cls ≠ "java/lang/invoke/MethodHandle" ∧ y.cls ≠ "java/lang/invoke/VarHandle") ∧
  (∀ sig, parseMethodDescriptor y.desc = some sig → n = sig.parameters.length) ∧ (Cond.methodLink own index y).before args s = true ∧ (Cond.static y).before args s = true
theorem vx_cwSW {own : String} {index maxL mc ms : Nat} {y : MethodName} {bytes : ByteArray} {ret : Option FieldType} {hh : List (Nat × Nat × Nat × Nat)} {Ts ws ws' : List Cond} {rm : Room} (n : Nat) (ht : ∀ w ∈ Ts, w.before args s = true) (hT : GoodIn Ts (va_wsS own index y ws)) (hw : ws = Cond.codeWith y bytes maxL ret hh :: ws') (hrc : rm.cells = mc) (hrs : rm.slots = ms)
    (hd : y.cls ≠ "java/lang/invoke/MethodHandle" ∧ y.cls ≠ "java/lang/invoke/VarHandle" ∧ (parseMethodDescriptor y.desc).map (fun d => d.parameters.length) = some n) (hR : rm.frames + 1 ≤ R.frames ∧ 8 + (maxL + 11) + rm.locals ≤ R.locals) :
    vx_CSW R s args own index y bytes maxL ret hh ws rm mc ms n := by
  have ok : ∀ w ∈ va_wsS own index y ws, w.before args s = true := fun w h => ht w (hT w h).1
  have hG : GoodIn Ts ws := fun w h => hT w (by unfold va_wsS; exact List.mem_append_right _ h)
  have hc : Cond.codeWith y bytes maxL ret hh ∈ ws := by rw [hw]; exact List.mem_cons_self
  refine ⟨⟨hrc, hrs, hR.1, hR.2, pay_in ht hG, hc⟩, ht _ (hG _ hc).1, ok _ (by simp [va_wsS]), ⟨hd.1, hd.2.1⟩, fun sig h => ?_, ok _ (by simp [va_wsS]), ok _ (by simp [va_wsS])⟩
  have h2 := hd.2.2
  rw [h] at h2
  exact (Option.some.inj h2).symm
theorem vx_callSW (X : Stand p l e R s m args below meth c T locs cells slots) (hexec : p.tables.exec = Jvm.exec) {own : String} {index : Nat} {y : MethodName} {bytes : ByteArray} {maxL : Nat} {ret : Option FieldType} {hh : List (Nat × Nat × Nat × Nat)}
    (hown : s.vm.findClass own = some m.cls) (hlink : (Cond.methodLink own index y).before args s = true) (hstat : (Cond.static y).before args s = true) (hinit : (Cond.initialized y.cls).before args s = true)
    (hcode : (Cond.codeWith y bytes maxL ret hh).before args s = true) (hy : y.cls ≠ "java/lang/invoke/MethodHandle" ∧ y.cls ≠ "java/lang/invoke/VarHandle")
    {W9 : Nat} {Pre : Pt → Array Value → Prop} {Post : Pt → Array Value → Option Value → Pt → Prop} (hK : Back l R p e below s args y 3 W9 Pre Post)
    {g : JFrame} (hg : g.method = m) (hsize : g.locals.size = c.maxLocals) {argsL rest : List Value} (hlen : ∀ sig, parseMethodDescriptor y.desc = some sig → argsL.length = sig.parameters.length)
    (hstack : g.stack = argsL.reverse ++ rest) (hW : 2 * g.monitorRoom + (rest.map fun v => v.category).sum ≤ W9) (hdg : decode c.code g.pc = .ok (.invokestatic index, 3))
    (hpre : ∀ vm₁, s.WarmedH vm₁ → Pre ⟨T.setVm vm₁, locs, cells, slots⟩ argsL.toArray) :
    ∃ (v : Option Value) (vm₁ : Vm) (B : Pt), s.WarmedH vm₁ ∧ Stand p l e R s m args below meth c B.U B.locs B.cells B.slots ∧ Post ⟨T.setVm vm₁, locs, cells, slots⟩ argsL.toArray v B ∧
      ∀ target, Steps p.tables e below (B.U.setTop { g with pc := g.pc + 3, stack := v.toList ++ rest }) target → Steps p.tables e below (T.setTop g) target := by
  obtain ⟨mk, methM, cM, hnamed, hmethM, -, -, -, -, -, -, hsigM⟩ := Cond.codeWith_spec hcode
  have hstatic : methM.isStatic = true := Cond.static_spec hnamed hmethM hstat
  obtain ⟨kP, hkP, -⟩ := className_of_methodNamed hnamed
  have hinitP : kP.init = .initialized := Cond.initialized_spec (findClass_of_methodNamed hnamed) hkP hinit
  obtain ⟨vm₁, X₁, hstep₁⟩ := X.invokestatic hexec hown hlink hnamed hmethM hstatic hkP hinitP hy (g := g) hg (argsL := argsL) (rest := rest) (hlen _ hsigM) hstack hdg
  obtain ⟨v, B, X', hpost, hsteps⟩ := hK m meth c ⟨T.setVm vm₁, locs, cells, slots⟩ { g with stack := rest } (.invokestatic index) mk argsL.toArray X₁ hg hsize hdg hW (X₁.named hnamed) (hpre vm₁ X₁.warmed)
  exact ⟨v, vm₁, B, X₁.warmed, X', hpost, fun target h => hstep₁ _ fun acts => by rw [doInvoke_state]; exact hsteps.trans h⟩
theorem vx_runSW {y : MethodName} {bytes cc : ByteArray} {maxL nL mc ms n index : Nat} {ret : Option FieldType} {hh : List (Nat × Nat × Nat × Nat)} {ws : List Cond} {rm : Room} {Pc : Array Value → State → Prop} {Qc : Array Value → State → Outcome → State → Prop} {free : Addr → Prop} {Ts : List Cond} {own : String} {As rest : List Value} {g : JFrame}
    (S : CallFix p m c cc nL s args Ts own) (hM : Met l y ws rm Pc Qc mc ms free) (cw : vx_CSW R s args own index y bytes maxL ret hh ws rm mc ms n) (hp : PreS s H Pc As)
    (hg : g.method = m) (hn : As.length = n) (hsize : g.locals.size = nL) (hstack : g.stack = As.reverse ++ rest) (hW : 2 * g.monitorRoom + (rest.map fun v => v.category).sum ≤ 8) (hdg : decode cc g.pc = .ok (.invokestatic index, 3)) (hf : cells + mc ≤ R.cells ∧ slots + ms ≤ R.slots) :
    va_Run p l e R s m args below meth c H locs cells slots mc ms g rest (Qc As.toArray) (free) := by
  obtain ⟨⟨hrc, hrs, hfr, hlo, hws, hcw⟩, hcode, hini, hy, hlen, hl, hstt⟩ := cw
  have hK : Back l R p e below s args y 3 8 (PreOf R mc ms Pc) (PostOf Qc mc ms free) := va_backW (hh := hh) (bytes := bytes) (maxL := maxL) (ret := ret) hM hp.1 hrc hrs hfr hlo hws hcw (fun a' U hW => word_at hW (Or.inl (by first | rfl | simp [Cond.onTables, Cond.keeps, Cond.steady])) hini)
  obtain ⟨hx, hb, hml, ho, -⟩ := S
  intro T hT X
  obtain ⟨v, vm₁, ⟨U', l2, c2, s2⟩, hW₁, X', ⟨g', mk, t, L, e1, e2, hq, h1, hL, h2, h3⟩, st⟩ := vx_callSW X hx (hh := hh) (bytes := bytes) (maxL := maxL) (ret := ret) ho hl hstt hini hcode hy hK hg (hsize.trans hml.symm) (argsL := As) (rest := rest) (fun sig h => hn.trans (hlen sig h)) hstack hW (by rw [hb]; exact hdg)
    (fun vm₁ hW₁ => ⟨hf.1, hf.2, hp.2 (T.setVm vm₁) hT hW₁⟩)
  dsimp only [Pt.U, Pt.locs, Pt.cells, Pt.slots] at X' e1 e2 h1 h2 h3 st
  subst h1; subst h2; subst h3
  exact ⟨v, (T.setVm vm₁).calling g' mk As.toArray, t, U', L, hT, X', hL, e1, e2, hq, st⟩
/-- not caught here, past rows that name other classes: it goes on to the caller -/
theorem vx_outP {p : Program} {l : Launch} {e : Env} {R : Room} {s : State} {m : MethodId} {args : Array Value} {below : List Frame} {meth : Method} {c : Code} {H : Heap} {locs : List Loc} {cells slots : Nat} {free : Addr → Prop} {ls : Array Slot} {rest : List Value} {Qc : Array Value → State → Outcome → State → Prop} {XC : String → State → State → Prop}
    {pc : Nat} {own E : String} {ce : Cell} {q : Addr} {mc ms : Nat} (hown : s.vm.findClass own = some m.cls) (hlocks : meth.locks = false)
    (hpass : ∀ z ∈ c.exceptionTable.toList, covers z pc = false ∨ (z.catchType ≠ 0 ∧ ∃ nm : String, (Cond.classLink own z.catchType nm).before args s = true ∧ va_Nc E nm s)) (hcell : H[q]? = some ce) (hv : ce.vm = .none) (hcl : s.vm.findClass E = some ce.cls)
    (hx : ∀ t : State, t.heap = H → s.vm.Alike t.vm → XC E s t) (hf : ∀ z ∈ locs, free z.base) (hc : cells ≤ mc) (hs : slots ≤ ms) :
    vx_W p l e R s m args below meth c H locs cells slots (vx_MQ below Qc XC args s mc ms free) (F0 m pc ls rest) q := by
  intro T hT X
  have hpl : e.platform.magicAccessors = ({} : Platform).magicAccessors := by rw [X.admits.platform]
  obtain ⟨vm', hW', X', st⟩ := X.outThrough hlocks q (g := F0 m pc ls rest) rfl rfl rfl (cell := ce) (by rw [hT]; exact hcell) (by rw [hv]; rfl)
    (by obtain ⟨k9, h9, -⟩ := Vm.findClass_spec hcl; exact ⟨k9, h9⟩) (fun z hz => by
      rcases hpass z hz with h | ⟨hz0, nm, hl1, hn1⟩
      · exact Or.inl h
      · obtain ⟨c6, hc6, hcl6⟩ := Cond.classLink_spec hown hl1 e.platform hpl
        obtain ⟨a8, b8, h1, h2, h3⟩ := hn1
        cases Option.some.inj (h1.symm.trans hcl)
        cases Option.some.inj (h2.symm.trans hc6)
        exact Or.inr ⟨hz0, _, hcl6, h3⟩)
  obtain ⟨g₀, hfr⟩ := X'.frames_eq
  have hcell9 : ((T.setVm vm').setFrames (.throwing q :: below)).heap[q]? = some ce := by
    show T.heap[q]? = some ce
    rw [hT]; exact hcell
  have hend : Ended ((T.setVm vm').setFrames (.throwing q :: below)) below (.threw q) := State.frames_setFrames _ (State.cur_lt_of_frames hfr)
  refine ⟨(T.setVm vm').setFrames (.throwing q :: below), ?_, .threw q, X'.here.running, hend, Or.inr ⟨q, rfl, E, ce, locs, hx _ hT (X'.ends _).1.alike, hcell9, hv, hcl, (X'.ends _).1, (X'.ends _).2.mono hc hs, hf⟩⟩
  rw [X.pushThrowing_eq]
  exact st
/-- a thing of a world lies in the heap -/
theorem vx_lt {D : va_G} {cl : List vw_C} {ws : va_W} {H1 : Heap} (h : va_P D cl ws H1) {k : Nat} {q : Nat × va_E} (hk : ws[k]? = some q) : q.1 < H1.size := (h k q hk).lt
end VXS
/-! ===== END ===== -/
/-! ===== BEGIN methods with a table of their own: called by a name, returning or throwing ===== -/
section VXH
/-! vx_backW, vx_callVX, vx_callSX, vx_callVW, vx_runVW, vx_runVX, vx_runSX, vx_ofWH follow the same proofs as their sisters above (Free/Laws.lean, Shelf42/LK1.lean); vx_outP calls Shelf42/NT130.lean (outThrough). -/
section
variable {l : Launch} {R : Room} {p : Program} {e : Env} {below : List Frame} {s : State} {sargs : Array Value} {y : MethodName} {len W9 : Nat}
theorem vx_backW {ws : List Cond} {rm : Room} {Pc : Array Value → State → Prop} {Qc : Array Value → State → Outcome → State → Prop} {XC : String → State → State → Prop} {mc ms : Nat} {free : Addr → Prop} {bytes : ByteArray} {maxL : Nat} {ret : Option FieldType} {hh : List (Nat × Nat × Nat × Nat)}
    (hM : vx_Met l y ws rm Pc Qc XC mc ms free) (hblind : FrameBlind Pc) (hrc : rm.cells = mc) (hrs : rm.slots = ms)
    (hframes : rm.frames + 1 ≤ R.frames) (hlocals : W9 + (maxL + 11) + rm.locals ≤ R.locals)
    (hws : ∀ w ∈ ws, ∀ a' U, s.WarmedH U.vm → w.before a' U = true) (hcode : Cond.codeWith y bytes maxL ret hh ∈ ws) (hinit : ∀ a' U, s.WarmedH U.vm → (Cond.initialized y.cls).before a' U = true) :
    vx_Back l R p e below s sargs y len W9 (PreOf R mc ms Pc) (PostOf Qc mc ms free) (vx_Post XC mc ms free) := by
  intro m meth c A g ig mk a X hg hsize hdg hW hn hp
  have h1 : (headSpec ws rm).pre.before a A.U = true := atoms_intro fun w hw => hws w hw _ _ X.warmed
  have h2 : (Cond.codeWith y bytes maxL ret hh).before a A.U = true := hws _ hcode _ _ X.warmed
  have h3 : (Cond.initialized y.cls).before a A.U = true := hinit _ _ X.warmed
  have h4 : A.cells + (headSpec ws rm).room.cells ≤ R.cells := by rw [show (headSpec ws rm).room.cells = mc from hrc]; exact hp.1
  have h5 : A.slots + (headSpec ws rm).room.slots ≤ R.slots := by rw [show (headSpec ws rm).room.slots = ms from hrs]; exact hp.2.1
  have hPc : Pc a (A.U.calling g mk a) := hblind _ _ _ _ hp.2.2
  obtain ⟨U, Ls, c0, s0⟩ := A
  dsimp only [Pt.U, Pt.locs, Pt.cells, Pt.slots] at h1 h2 h3 h4 h5 X hn hPc ⊢
  obtain ⟨m9, methY, cY, hn9, hmY, hcY, -, hlY, -⟩ := Cond.codeWith_spec h2
  cases Option.some.inj (hn9.symm.trans hn)
  obtain ⟨kY, hkY, -⟩ := className_of_methodNamed hn
  have hinitY : kY.init = .initialized := Cond.initialized_spec (findClass_of_methodNamed hn) hkY h3
  have h : At U g.method c below := by rw [hg]; exact X.here
  have hlocals9 : W9 + (maxL + 11) + (headSpec ws rm).room.locals ≤ R.locals := hlocals
  have happ : (headSpec ws rm).appliesLoose y e.platform (U.calling g mk a) = true :=
    Spec.appliesLoose_calling (g := g) h hdg hn hkY hinitY
      (X.room_calling (g := g) (R' := (headSpec ws rm).room) hsize hmY hcY hframes (by rw [hlY]; omega) h4 h5) h1
  obtain ⟨mid, hmid⟩ := h.above
  have hfr : (U.setTop g).frames = (.java g :: mid) ++ below := by rw [State.frames_setTop' g h.top, hmid]; rfl
  obtain ⟨o, s₂, hsteps, -, hend, hq⟩ := Steps.callFree hM p X.admits X.cas X.clock (acts := []) hfr happ hPc trivial
  have hq' : vx_Q Qc XC mc ms free a (U.calling g mk a) o s₂ := hq
  rw [State.frames_setTop' g h.top] at hend
  obtain ⟨g₀, hg0⟩ := Option.isSome_iff_exists.mp h.top
  obtain ⟨r, hr⟩ := State.topJava?_eq_some.mp hg0
  have hr' : (({ U with heap := s₂.heap, slotsUsed := s₂.slotsUsed } : State).setVm s₂.vm).frames = .java g₀ :: r := hr
  rcases hq' with ⟨hqc, L, hfe, hL⟩ | ⟨q, rfl, E, ce, L, hx, hce, hcv, hcl, hW₂, hsm, hL⟩
  · obtain ⟨⟨v, rfl⟩, hW₂, e2, q2, q3, q4, q5, q6⟩ := id hfe
    have e3 : s₂ = ({ (U.calling g mk a).setFrames s₂.frames with heap := s₂.heap, slotsUsed := s₂.slotsUsed } : State).setVm s₂.vm := by
      have : s₂ = ({ s₂ with vm := (U.calling g mk a).vm } : State).setVm s₂.vm := rfl
      rw [e2] at this
      exact this
    obtain ⟨c₂, i₂, len₂, hc₂, hd₂, hf₂⟩ := hend
    have hW' : U.WarmedH s₂.vm := hW₂
    have hcc : c₂ = c := by
      have h1 : s₂.code? g.method = U.code? g.method := by
        rw [State.code?_eq, State.code?_eq, hW'.alike.method?]
      exact Option.some.inj (hc₂.symm.trans (h1.trans h.code))
    subst hcc
    have hlen : len₂ = len := by rw [hdg] at hd₂; cases hd₂; rfl
    subst hlen
    have hs₂ : s₂ = (({ U with heap := s₂.heap, slotsUsed := s₂.slotsUsed } : State).setVm s₂.vm).setTop { g with pc := g.pc + len₂, stack := v.toList ++ g.stack } := by
      refine e3.trans ?_
      rw [hf₂, State.calling_eq h.top, State.setFrames_setFrames, State.setTop_of_frames _ hr', hr]
      rfl
    have hsame : U.sameButNew ({ U with heap := s₂.heap, slotsUsed := s₂.slotsUsed } : State) L mc ms := by
      refine ⟨?_, q2, q3, q4, q5, q6⟩
      obtain ⟨t, ht, -⟩ := State.frames_cons hr
      show ({ U with heap := s₂.heap, slotsUsed := s₂.slotsUsed } : State) = { U.setFrames U.frames with heap := s₂.heap, slotsUsed := s₂.slotsUsed }
      rw [State.setFrames_self ht]
    subst hg
    refine Or.inl ⟨v, ⟨(({ U with heap := s₂.heap, slotsUsed := s₂.slotsUsed } : State).setVm s₂.vm), Ls ++ L, c0 + mc, s0 + ms⟩,
      ⟨X.admits, X.cas, X.clock, X.frames, X.room, X.hears, X.method, X.code, (X.here.setHeapUsed s₂.heap s₂.slotsUsed).setVm hW'.alike, X.tail, State.WarmedH.trans X.warmed hW', X.limits, X.bytes, X.same.trans (hsame.setVm s.vm)⟩,
      ⟨g, mk, s₂, L, rfl, rfl, hqc, rfl, hL, rfl, rfl⟩, ?_⟩
    show Steps p.tables e below _ ((({ U with heap := s₂.heap, slotsUsed := s₂.slotsUsed } : State).setVm s₂.vm).setTop { g with pc := g.pc + len₂, stack := v.toList ++ g.stack })
    rw [← hs₂]
    exact hsteps
  · obtain ⟨e2, q2, q3, q4, q5, q6⟩ := id hsm
    have e3 : s₂ = ({ (U.calling g mk a).setFrames s₂.frames with heap := s₂.heap, slotsUsed := s₂.slotsUsed } : State).setVm s₂.vm := by
      have : s₂ = ({ s₂ with vm := (U.calling g mk a).vm } : State).setVm s₂.vm := rfl
      rw [e2] at this
      exact this
    have hf₂ : s₂.frames = .throwing q :: .java g :: U.frames.tail := hend
    have hW' : U.WarmedH s₂.vm := hW₂
    have hs₂ : s₂ = ((({ U with heap := s₂.heap, slotsUsed := s₂.slotsUsed } : State).setVm s₂.vm).setTop g).pushFrame (.throwing q) := by
      refine e3.trans ?_
      rw [hf₂, State.calling_eq h.top, State.setFrames_setFrames, State.pushFrame, State.frames_setTop _ hr', State.setTop_of_frames _ hr', State.setFrames_setFrames, hr]
      rfl
    have hsame : U.sameButNew ({ U with heap := s₂.heap, slotsUsed := s₂.slotsUsed } : State) L mc ms := by
      refine ⟨?_, q2, q3, q4, q5, q6⟩
      obtain ⟨t, ht, -⟩ := State.frames_cons hr
      show ({ U with heap := s₂.heap, slotsUsed := s₂.slotsUsed } : State) = { U.setFrames U.frames with heap := s₂.heap, slotsUsed := s₂.slotsUsed }
      rw [State.setFrames_self ht]
    subst hg
    refine Or.inr ⟨q, ⟨(({ U with heap := s₂.heap, slotsUsed := s₂.slotsUsed } : State).setVm s₂.vm), Ls ++ L, c0 + mc, s0 + ms⟩,
      ⟨X.admits, X.cas, X.clock, X.frames, X.room, X.hears, X.method, X.code, (X.here.setHeapUsed s₂.heap s₂.slotsUsed).setVm hW'.alike, X.tail, State.WarmedH.trans X.warmed hW', X.limits, X.bytes, X.same.trans (hsame.setVm s.vm)⟩,
      ⟨g, mk, s₂, L, E, ce, rfl, rfl, hx, hce, hcv, hcl, rfl, hL, rfl, rfl⟩, ?_⟩
    show Steps p.tables e below _ (((({ U with heap := s₂.heap, slotsUsed := s₂.slotsUsed } : State).setVm s₂.vm).setTop g).pushFrame (.throwing q))
    rw [← hs₂]
    exact hsteps
end
variable {p : Program} {l : Launch} {e : Env} {R : Room} {s : State} {m : MethodId} {args : Array Value} {below : List Frame} {meth : Method} {c : Code} {T : State} {H : Heap} {locs : List Loc} {cells slots : Nat}
theorem vx_callVX (X : Stand p l e R s m args below meth c T locs cells slots) (hexec : p.tables.exec = Jvm.exec) {own C : String} {index : Nat} {y : MethodName} {bytes : ByteArray} {maxL : Nat} {ret : Option FieldType} {hh : List (Nat × Nat × Nat × Nat)}
    (hown : s.vm.findClass own = some m.cls) (hlink : (Cond.methodLink own index y).before args s = true) (hinst : (Cond.instanceMethod y).before args s = true) (hsel : (Cond.selects C y y).before args s = true)
    (hcode : (Cond.codeWith y bytes maxL ret hh).before args s = true) (hy : y.cls ≠ "java/lang/invoke/MethodHandle" ∧ y.cls ≠ "java/lang/invoke/VarHandle")
    {W9 : Nat} {Pre : Pt → Array Value → Prop} {Post : Pt → Array Value → Option Value → Pt → Prop} {PostX : Pt → Array Value → Addr → Pt → Prop} (hK : vx_Back l R p e below s args y 3 W9 Pre Post PostX)
    {b : Addr} {cellB : Cell} (hcell : T.heap[b]? = some cellB) (hobj : cellB.vm.isStatics = false) (hcls : s.vm.findClass C = some cellB.cls)
    {g : JFrame} (hg : g.method = m) (hsize : g.locals.size = c.maxLocals) {argsL rest : List Value} (hlen : ∀ sig, parseMethodDescriptor y.desc = some sig → argsL.length = sig.parameters.length)
    (hstack : g.stack = argsL.reverse ++ .ref b :: rest) (hW : 2 * g.monitorRoom + (rest.map fun v => v.category).sum ≤ W9) (hdg : decode c.code g.pc = .ok (.invokevirtual index, 3))
    (hpre : ∀ vm₁, s.WarmedH vm₁ → Pre ⟨T.setVm vm₁, locs, cells, slots⟩ (Value.ref b :: argsL).toArray) :
    (∃ (v : Option Value) (vm₁ : Vm) (B : Pt), s.WarmedH vm₁ ∧ Stand p l e R s m args below meth c B.U B.locs B.cells B.slots ∧ Post ⟨T.setVm vm₁, locs, cells, slots⟩ (Value.ref b :: argsL).toArray v B ∧
      ∀ target, Steps p.tables e below (B.U.setTop { g with pc := g.pc + 3, stack := v.toList ++ rest }) target → Steps p.tables e below (T.setTop g) target) ∨
    (∃ (q : Addr) (vm₁ : Vm) (B : Pt), s.WarmedH vm₁ ∧ Stand p l e R s m args below meth c B.U B.locs B.cells B.slots ∧ PostX ⟨T.setVm vm₁, locs, cells, slots⟩ (Value.ref b :: argsL).toArray q B ∧
      Steps p.tables e below (T.setTop g) ((B.U.setTop { g with stack := rest }).pushFrame (.throwing q))) := by
  obtain ⟨mk, methM, hnamed, hmethM, hstM, habM⟩ := Cond.instanceMethod_spec hinst
  obtain ⟨m8, methM', cM, hn8, hmethM', -, -, -, -, -, -, hsigM⟩ := Cond.codeWith_spec hcode
  cases Option.some.inj (hn8.symm.trans hnamed)
  cases hmethM.symm.trans hmethM'
  obtain ⟨c2, r2, m2, q1, q2, q3, q4, kP, hkP, hkPi⟩ := Cond.selects_spec hsel
  cases hcls.symm.trans q1
  cases (State.methodFound?_of_named hnamed hy).symm.trans q2
  cases hnamed.symm.trans q3
  have hselP : selectMethod e.platform s.vm cellB.cls mk = .method mk := by rw [Launch.admits_selectMethod X.admits]; exact q4
  obtain ⟨vm₁, X₁, hstep₁⟩ := X.invokevirtual hexec hown hlink hnamed hmethM hstM hkP hkPi hy (a := b) (cell := cellB) hcell
    (fun z h => by rw [h] at hobj; cases hobj) hselP hmethM habM hkP hkPi (g := g) hg (argsL := argsL) (rest := rest) (hlen _ hsigM) hstack hdg
  rcases hK m meth c ⟨T.setVm vm₁, locs, cells, slots⟩ { g with stack := rest } (.invokevirtual index) mk (Value.ref b :: argsL).toArray X₁ hg hsize hdg hW (X₁.named hnamed) (hpre vm₁ X₁.warmed) with ⟨v, B, X', hpost, hsteps⟩ | ⟨q, B, X', hpost, hsteps⟩
  · exact Or.inl ⟨v, vm₁, B, X₁.warmed, X', hpost, fun target h => hstep₁ _ fun acts => by rw [doInvoke_state]; exact hsteps.trans h⟩
  · exact Or.inr ⟨q, vm₁, B, X₁.warmed, X', hpost, hstep₁ _ fun acts => by rw [doInvoke_state]; exact hsteps⟩
theorem vx_callSX (X : Stand p l e R s m args below meth c T locs cells slots) (hexec : p.tables.exec = Jvm.exec) {own : String} {index : Nat} {y : MethodName} {bytes : ByteArray} {maxL : Nat} {ret : Option FieldType} {hh : List (Nat × Nat × Nat × Nat)}
    (hown : s.vm.findClass own = some m.cls) (hlink : (Cond.methodLink own index y).before args s = true) (hstat : (Cond.static y).before args s = true) (hinit : (Cond.initialized y.cls).before args s = true)
    (hcode : (Cond.codeWith y bytes maxL ret hh).before args s = true) (hy : y.cls ≠ "java/lang/invoke/MethodHandle" ∧ y.cls ≠ "java/lang/invoke/VarHandle")
    {W9 : Nat} {Pre : Pt → Array Value → Prop} {Post : Pt → Array Value → Option Value → Pt → Prop} {PostX : Pt → Array Value → Addr → Pt → Prop} (hK : vx_Back l R p e below s args y 3 W9 Pre Post PostX)
    {g : JFrame} (hg : g.method = m) (hsize : g.locals.size = c.maxLocals) {argsL rest : List Value} (hlen : ∀ sig, parseMethodDescriptor y.desc = some sig → argsL.length = sig.parameters.length)
    (hstack : g.stack = argsL.reverse ++ rest) (hW : 2 * g.monitorRoom + (rest.map fun v => v.category).sum ≤ W9) (hdg : decode c.code g.pc = .ok (.invokestatic index, 3))
    (hpre : ∀ vm₁, s.WarmedH vm₁ → Pre ⟨T.setVm vm₁, locs, cells, slots⟩ argsL.toArray) :
    (∃ (v : Option Value) (vm₁ : Vm) (B : Pt), s.WarmedH vm₁ ∧ Stand p l e R s m args below meth c B.U B.locs B.cells B.slots ∧ Post ⟨T.setVm vm₁, locs, cells, slots⟩ argsL.toArray v B ∧
      ∀ target, Steps p.tables e below (B.U.setTop { g with pc := g.pc + 3, stack := v.toList ++ rest }) target → Steps p.tables e below (T.setTop g) target) ∨
    (∃ (q : Addr) (vm₁ : Vm) (B : Pt), s.WarmedH vm₁ ∧ Stand p l e R s m args below meth c B.U B.locs B.cells B.slots ∧ PostX ⟨T.setVm vm₁, locs, cells, slots⟩ argsL.toArray q B ∧
      Steps p.tables e below (T.setTop g) ((B.U.setTop { g with stack := rest }).pushFrame (.throwing q))) := by
  obtain ⟨mk, methM, cM, hnamed, hmethM, -, -, -, -, -, -, hsigM⟩ := Cond.codeWith_spec hcode
  have hstatic : methM.isStatic = true := Cond.static_spec hnamed hmethM hstat
  obtain ⟨kP, hkP, -⟩ := className_of_methodNamed hnamed
  have hinitP : kP.init = .initialized := Cond.initialized_spec (findClass_of_methodNamed hnamed) hkP hinit
  obtain ⟨vm₁, X₁, hstep₁⟩ := X.invokestatic hexec hown hlink hnamed hmethM hstatic hkP hinitP hy (g := g) hg (argsL := argsL) (rest := rest) (hlen _ hsigM) hstack hdg
  rcases hK m meth c ⟨T.setVm vm₁, locs, cells, slots⟩ { g with stack := rest } (.invokestatic index) mk argsL.toArray X₁ hg hsize hdg hW (X₁.named hnamed) (hpre vm₁ X₁.warmed) with ⟨v, B, X', hpost, hsteps⟩ | ⟨q, B, X', hpost, hsteps⟩
  · exact Or.inl ⟨v, vm₁, B, X₁.warmed, X', hpost, fun target h => hstep₁ _ fun acts => by rw [doInvoke_state]; exact hsteps.trans h⟩
  · exact Or.inr ⟨q, vm₁, B, X₁.warmed, X', hpost, hstep₁ _ fun acts => by rw [doInvoke_state]; exact hsteps⟩
theorem vx_callVW (X : Stand p l e R s m args below meth c T locs cells slots) (hexec : p.tables.exec = Jvm.exec) {own C : String} {index : Nat} {y : MethodName} {bytes : ByteArray} {maxL : Nat} {ret : Option FieldType} {hh : List (Nat × Nat × Nat × Nat)}
    (hown : s.vm.findClass own = some m.cls) (hlink : (Cond.methodLink own index y).before args s = true) (hinst : (Cond.instanceMethod y).before args s = true) (hsel : (Cond.selects C y y).before args s = true)
    (hcode : (Cond.codeWith y bytes maxL ret hh).before args s = true) (hy : y.cls ≠ "java/lang/invoke/MethodHandle" ∧ y.cls ≠ "java/lang/invoke/VarHandle")
    {W9 : Nat} {Pre : Pt → Array Value → Prop} {Post : Pt → Array Value → Option Value → Pt → Prop} (hK : Back l R p e below s args y 3 W9 Pre Post)
    {b : Addr} {cellB : Cell} (hcell : T.heap[b]? = some cellB) (hobj : cellB.vm.isStatics = false) (hcls : s.vm.findClass C = some cellB.cls)
    {g : JFrame} (hg : g.method = m) (hsize : g.locals.size = c.maxLocals) {argsL rest : List Value} (hlen : ∀ sig, parseMethodDescriptor y.desc = some sig → argsL.length = sig.parameters.length)
    (hstack : g.stack = argsL.reverse ++ .ref b :: rest) (hW : 2 * g.monitorRoom + (rest.map fun v => v.category).sum ≤ W9) (hdg : decode c.code g.pc = .ok (.invokevirtual index, 3))
    (hpre : ∀ vm₁, s.WarmedH vm₁ → Pre ⟨T.setVm vm₁, locs, cells, slots⟩ (Value.ref b :: argsL).toArray) :
    ∃ (v : Option Value) (vm₁ : Vm) (B : Pt), s.WarmedH vm₁ ∧ Stand p l e R s m args below meth c B.U B.locs B.cells B.slots ∧ Post ⟨T.setVm vm₁, locs, cells, slots⟩ (Value.ref b :: argsL).toArray v B ∧
      ∀ target, Steps p.tables e below (B.U.setTop { g with pc := g.pc + 3, stack := v.toList ++ rest }) target → Steps p.tables e below (T.setTop g) target := by
  obtain ⟨mk, methM, hnamed, hmethM, hstM, habM⟩ := Cond.instanceMethod_spec hinst
  obtain ⟨m8, methM', cM, hn8, hmethM', -, -, -, -, -, -, hsigM⟩ := Cond.codeWith_spec hcode
  cases Option.some.inj (hn8.symm.trans hnamed)
  cases hmethM.symm.trans hmethM'
  obtain ⟨c2, r2, m2, q1, q2, q3, q4, kP, hkP, hkPi⟩ := Cond.selects_spec hsel
  cases hcls.symm.trans q1
  cases (State.methodFound?_of_named hnamed hy).symm.trans q2
  cases hnamed.symm.trans q3
  have hselP : selectMethod e.platform s.vm cellB.cls mk = .method mk := by rw [Launch.admits_selectMethod X.admits]; exact q4
  obtain ⟨vm₁, X₁, hstep₁⟩ := X.invokevirtual hexec hown hlink hnamed hmethM hstM hkP hkPi hy (a := b) (cell := cellB) hcell
    (fun z h => by rw [h] at hobj; cases hobj) hselP hmethM habM hkP hkPi (g := g) hg (argsL := argsL) (rest := rest) (hlen _ hsigM) hstack hdg
  obtain ⟨v, B, X', hpost, hsteps⟩ := hK m meth c ⟨T.setVm vm₁, locs, cells, slots⟩ { g with stack := rest } (.invokevirtual index) mk (Value.ref b :: argsL).toArray X₁ hg hsize hdg hW (X₁.named hnamed) (hpre vm₁ X₁.warmed)
  exact ⟨v, vm₁, B, X₁.warmed, X', hpost, fun target h => hstep₁ _ fun acts => by rw [doInvoke_state]; exact hsteps.trans h⟩
abbrev vx_CVW (R : Room) (s : State) (args : Array Value) (own C : String) (index : Nat) (y : MethodName) (bytes : ByteArray) (maxL : Nat) (ret : Option FieldType) (hh : List (Nat × Nat × Nat × Nat)) (ws : List Cond) (rm : Room) (mc ms n : Nat) : Prop :=
  (rm.cells = mc ∧ rm.slots = ms ∧ rm.frames + 1 ≤ R.frames ∧ 8 + (maxL + 11) + rm.locals ≤ R.locals ∧ (∀ w ∈ ws, ∀ (a' : Array Value) (U : State), s.WarmedH U.vm → w.before a' U = true) ∧ Cond.codeWith y bytes maxL ret hh ∈ ws) ∧
  (Cond.codeWith y bytes maxL ret hh).before args s = true ∧ (Cond.initialized y.cls).before args s = true ∧ (y.cls ≠ "java/lang/invoke/MethodHandle" ∧ y.cls ≠ "java/lang/invoke/VarHandle") ∧
  (∀ sig, parseMethodDescriptor y.desc = some sig → n = sig.parameters.length) ∧ (Cond.methodLink own index y).before args s = true ∧ (Cond.instanceMethod y).before args s = true ∧ (Cond.selects C y y).before args s = true
theorem vx_cwVW {own C : String} {index maxL mc ms : Nat} {y : MethodName} {bytes : ByteArray} {ret : Option FieldType} {hh : List (Nat × Nat × Nat × Nat)} {Ts ws ws' : List Cond} {rm : Room} (n : Nat) (ht : ∀ w ∈ Ts, w.before args s = true) (hT : GoodIn Ts (wsV own index C y ws)) (hw : ws = Cond.codeWith y bytes maxL ret hh :: ws') (hrc : rm.cells = mc) (hrs : rm.slots = ms)
    (hd : y.cls = C ∧ y.cls ≠ "java/lang/invoke/MethodHandle" ∧ y.cls ≠ "java/lang/invoke/VarHandle" ∧ (parseMethodDescriptor y.desc).map (fun d => d.parameters.length) = some n) (hR : rm.frames + 1 ≤ R.frames ∧ 8 + (maxL + 11) + rm.locals ≤ R.locals) :
    vx_CVW R s args own C index y bytes maxL ret hh ws rm mc ms n := by
  obtain ⟨hC, hd⟩ := hd
  subst hC
  have ok : ∀ w ∈ wsV own index y.cls y ws, w.before args s = true := fun w h => ht w (hT w h).1
  have hG : GoodIn Ts ws := fun w h => hT w (by unfold wsV; exact List.mem_append_right _ h)
  have hc : Cond.codeWith y bytes maxL ret hh ∈ ws := by rw [hw]; exact List.mem_cons_self
  refine ⟨⟨hrc, hrs, hR.1, hR.2, pay_in ht hG, hc⟩, ht _ (hG _ hc).1, ok _ (by simp [wsV]), ⟨hd.1, hd.2.1⟩, fun sig h => ?_, ok _ (by simp [wsV]), ok _ (by simp [wsV]), ok _ (by simp [wsV])⟩
  have h2 := hd.2.2
  rw [h] at h2
  exact (Option.some.inj h2).symm
theorem vx_runVW {y : MethodName} {bytes cc : ByteArray} {maxL nL mc ms n index : Nat} {ret : Option FieldType} {hh : List (Nat × Nat × Nat × Nat)} {ws : List Cond} {rm : Room} {Pc : Array Value → State → Prop} {Qc : Array Value → State → Outcome → State → Prop} {free : Addr → Prop} {Ts : List Cond} {own C : String} {b : Addr} {As rest : List Value} {g : JFrame}
    (S : CallFix p m c cc nL s args Ts own) (hM : Met l y ws rm Pc Qc mc ms free) (cw : vx_CVW R s args own C index y bytes maxL ret hh ws rm mc ms n) (hp : PreV s H C b Pc As)
    (hg : g.method = m) (hn : As.length = n) (hsize : g.locals.size = nL) (hstack : g.stack = As.reverse ++ .ref b :: rest) (hW : 2 * g.monitorRoom + (rest.map fun v => v.category).sum ≤ 8) (hdg : decode cc g.pc = .ok (.invokevirtual index, 3)) (hf : cells + mc ≤ R.cells ∧ slots + ms ≤ R.slots) :
    va_Run p l e R s m args below meth c H locs cells slots mc ms g rest (Qc (Value.ref b :: As).toArray) free := by
  obtain ⟨⟨hrc, hrs, hfr, hlo, hws, hcw⟩, hcode, hini, hy, hlen, hl, hin, hse⟩ := cw
  have hK : Back l R p e below s args y 3 8 (PreOf R mc ms Pc) (PostOf Qc mc ms free) := va_backW (hh := hh) (bytes := bytes) (maxL := maxL) (ret := ret) hM hp.1 hrc hrs hfr hlo hws hcw (fun a' U hW => word_at hW (Or.inl (by first | rfl | simp [Cond.onTables, Cond.keeps, Cond.steady])) hini)
  obtain ⟨hx, hb, hml, ho, -⟩ := S
  obtain ⟨-, ⟨cellB, hcB, hoB, hclB⟩, hPc⟩ := hp
  intro T hT X
  obtain ⟨v, vm₁, ⟨U', l2, c2, s2⟩, hW₁, X', ⟨g', mk, t, L, e1, e2, hq, h1, hL, h2, h3⟩, st⟩ := vx_callVW X hx (C := C) (hh := hh) (bytes := bytes) (maxL := maxL) (ret := ret) ho hl hin hse hcode hy hK (by rw [hT]; exact hcB) hoB hclB hg (hsize.trans hml.symm) (argsL := As) (rest := rest) (fun sig h => hn.trans (hlen sig h)) hstack hW (by rw [hb]; exact hdg)
    (fun vm₁ hW₁ => ⟨hf.1, hf.2, hPc (T.setVm vm₁) hT hW₁⟩)
  dsimp only [Pt.U, Pt.locs, Pt.cells, Pt.slots] at X' e1 e2 h1 h2 h3 st
  subst h1; subst h2; subst h3
  exact ⟨v, (T.setVm vm₁).calling g' mk (Value.ref b :: As).toArray, t, U', L, hT, X', hL, e1, e2, hq, st⟩
section
variable {y : MethodName} {bytes cc : ByteArray} {maxL nL mc ms n index : Nat} {ret : Option FieldType} {ws : List Cond} {rm : Room} {Pc : Array Value → State → Prop} {Qc : Array Value → State → Outcome → State → Prop} {XC : String → State → State → Prop} {free : Addr → Prop} {Ts : List Cond} {own C : String} {b : Addr} {As rest : List Value} {g : JFrame}
theorem vx_runVX {hh : List (Nat × Nat × Nat × Nat)} (S : CallFix p m c cc nL s args Ts own) (hM : vx_Met l y ws rm Pc Qc XC mc ms free) (cw : vx_CVW R s args own C index y bytes maxL ret hh ws rm mc ms n) (hp : PreV s H C b Pc As)
    (hg : g.method = m) (hn : As.length = n) (hsize : g.locals.size = nL) (hstack : g.stack = As.reverse ++ .ref b :: rest) (hW : 2 * g.monitorRoom + (rest.map fun v => v.category).sum ≤ 8) (hdg : decode cc g.pc = .ok (.invokevirtual index, 3)) (hf : cells + mc ≤ R.cells ∧ slots + ms ≤ R.slots) :
    vx_Run p l e R s m args below meth c H locs cells slots mc ms g rest (Qc (Value.ref b :: As).toArray) XC free := by
  obtain ⟨⟨hrc, hrs, hfr, hlo, hws, hcw⟩, hcode, hini, hy, hlen, hl, hin, hse⟩ := cw
  have hK : vx_Back l R p e below s args y 3 8 (PreOf R mc ms Pc) (PostOf Qc mc ms free) (vx_Post XC mc ms free) := vx_backW (hh := hh) (bytes := bytes) (maxL := maxL) (ret := ret) hM hp.1 hrc hrs hfr hlo hws hcw (fun a' U hW => word_at hW (Or.inl (by first | rfl | simp [Cond.onTables, Cond.keeps, Cond.steady])) hini)
  obtain ⟨hx, hb, hml, ho, -⟩ := S
  obtain ⟨-, ⟨cellB, hcB, hoB, hclB⟩, hPc⟩ := hp
  intro T hT X
  rcases vx_callVX X hx (C := C) (hh := hh) (bytes := bytes) (maxL := maxL) (ret := ret) ho hl hin hse hcode hy hK (by rw [hT]; exact hcB) hoB hclB hg (hsize.trans hml.symm) (argsL := As) (rest := rest) (fun sig h => hn.trans (hlen sig h)) hstack hW (by rw [hb]; exact hdg)
    (fun vm₁ hW₁ => ⟨hf.1, hf.2, hPc (T.setVm vm₁) hT hW₁⟩) with ⟨v, vm₁, ⟨U', l2, c2, s2⟩, hW₁, X', ⟨g', mk, t, L, e1, e2, hq, h1, hL, h2, h3⟩, st⟩ | ⟨q, vm₁, ⟨U', l2, c2, s2⟩, hW₁, X', ⟨g', mk, t, L, E, ce, e1, e2, hq, hce, hcv, hcl, h1, hL, h2, h3⟩, st⟩
  · dsimp only [Pt.U, Pt.locs, Pt.cells, Pt.slots] at X' e1 e2 h1 h2 h3 st
    subst h1; subst h2; subst h3
    exact Or.inl ⟨v, (T.setVm vm₁).calling g' mk (Value.ref b :: As).toArray, t, U', L, hT, X', hL, e1, e2, hq, st⟩
  · dsimp only [Pt.U, Pt.locs, Pt.cells, Pt.slots] at X' e1 e2 h1 h2 h3 st hcl
    subst h1; subst h2; subst h3
    exact Or.inr ⟨q, (T.setVm vm₁).calling g' mk (Value.ref b :: As).toArray, t, U', L, E, ce, hT, X', hL, e1, e2, hq, hce, hcv, vx_cls hW₁ hcl, st⟩
theorem vx_runSX {hh : List (Nat × Nat × Nat × Nat)} (S : CallFix p m c cc nL s args Ts own) (hM : vx_Met l y ws rm Pc Qc XC mc ms free) (cw : vx_CSW R s args own index y bytes maxL ret hh ws rm mc ms n) (hp : PreS s H Pc As)
    (hg : g.method = m) (hn : As.length = n) (hsize : g.locals.size = nL) (hstack : g.stack = As.reverse ++ rest) (hW : 2 * g.monitorRoom + (rest.map fun v => v.category).sum ≤ 8) (hdg : decode cc g.pc = .ok (.invokestatic index, 3)) (hf : cells + mc ≤ R.cells ∧ slots + ms ≤ R.slots) :
    vx_Run p l e R s m args below meth c H locs cells slots mc ms g rest (Qc As.toArray) XC free := by
  obtain ⟨⟨hrc, hrs, hfr, hlo, hws, hcw⟩, hcode, hini, hy, hlen, hl, hstt⟩ := cw
  have hK : vx_Back l R p e below s args y 3 8 (PreOf R mc ms Pc) (PostOf Qc mc ms free) (vx_Post XC mc ms free) := vx_backW (hh := hh) (bytes := bytes) (maxL := maxL) (ret := ret) hM hp.1 hrc hrs hfr hlo hws hcw (fun a' U hW => word_at hW (Or.inl (by first | rfl | simp [Cond.onTables, Cond.keeps, Cond.steady])) hini)
  obtain ⟨hx, hb, hml, ho, -⟩ := S
  intro T hT X
  rcases vx_callSX X hx (hh := hh) (bytes := bytes) (maxL := maxL) (ret := ret) ho hl hstt hini hcode hy hK hg (hsize.trans hml.symm) (argsL := As) (rest := rest) (fun sig h => hn.trans (hlen sig h)) hstack hW (by rw [hb]; exact hdg)
    (fun vm₁ hW₁ => ⟨hf.1, hf.2, hp.2 (T.setVm vm₁) hT hW₁⟩) with ⟨v, vm₁, ⟨U', l2, c2, s2⟩, hW₁, X', ⟨g', mk, t, L, e1, e2, hq, h1, hL, h2, h3⟩, st⟩ | ⟨q, vm₁, ⟨U', l2, c2, s2⟩, hW₁, X', ⟨g', mk, t, L, E, ce, e1, e2, hq, hce, hcv, hcl, h1, hL, h2, h3⟩, st⟩
  · dsimp only [Pt.U, Pt.locs, Pt.cells, Pt.slots] at X' e1 e2 h1 h2 h3 st
    subst h1; subst h2; subst h3
    exact Or.inl ⟨v, (T.setVm vm₁).calling g' mk As.toArray, t, U', L, hT, X', hL, e1, e2, hq, st⟩
  · dsimp only [Pt.U, Pt.locs, Pt.cells, Pt.slots] at X' e1 e2 h1 h2 h3 st hcl
    subst h1; subst h2; subst h3
    exact Or.inr ⟨q, (T.setVm vm₁).calling g' mk As.toArray, t, U', L, E, ce, hT, X', hL, e1, e2, hq, hce, hcv, vx_cls hW₁ hcl, st⟩
end
end VXH
theorem vx_ofWH {l : Launch} {y : MethodName} {ws ws' : List Cond} {rm : Room} {Pc : Array Value → State → Prop} {Qc : Array Value → State → Outcome → State → Prop} {XC : String → State → State → Prop} {mc ms : Nat} {free : Addr → Prop} {cc : ByteArray} {maxL : Nat} {ret : Option FieldType} {hh : List (Nat × Nat × Nat × Nat)}
    (hy : plainName y.cls = true) (hw : ws = Cond.codeWith y cc maxL ret hh :: ws')
    (body : ∀ p e s m args below meth c s₁, BodyLoose p l y (headSpec ws rm) cc maxL ret e s m args below meth c s₁ → c.maxLocals = maxL → Pc args s →
      W p l e (headSpec ws rm).room s m args below meth c s.heap [] 0 0 (vx_MQ below Qc XC args s mc ms free) (entryFrame m args maxL)) : vx_Met l y ws rm Pc Qc XC mc ms free := by
  refine MetFree.of_bodyS (code := cc) (maxLocals := maxL) (ret := ret) hy ?_ ?_
  · intro args s m h hn
    obtain ⟨m9, meth, c, hn9, h1, h2, h3, h4, -, h5, h6, -⟩ := Cond.codeWith_spec (atoms_spec (ws := ws) h _ (by rw [hw]; exact List.mem_cons_self))
    cases hn.symm.trans hn9
    exact ⟨meth, c, h1, h2, h3, h4, h5, h6⟩
  · intro p e s m args below meth c s₁ B hml hP _
    have hh0 : s₁.heap = s.heap := by rw [B.state]; rfl
    obtain ⟨t, a1, o, b1, b2, b3⟩ := body p e s m args below meth c s₁ B hml hP s₁ hh0 (Stand.of_body B)
    exact ⟨t, o, a1, b1, b2, b3⟩
/-! ===== END ===== -/
end
section
/-! the abstract machine: values, heap, and how they lie in the machine's heap -/
/-- where the cells lie, what the external things are, the array classes, the classes and their slots -/
abbrev e_G : Type := (Nat → Nat) × (Nat → Value) × (Nat → ClassId) × va_G
/-- a cell: an object (class, what its fields hold), a row of numbers (kind, length), a row of references -/
abbrev e_C : Type := (Nat × List Value) ⊕ ((Nat × Nat) ⊕ (Nat × List (Option Nat)))
/-- the structure; the ints, the longs, the doubles of each cell; the script; whether no other cell came between -/
abbrev e_H : Type := List e_C × (Nat → Nat → Int32) × (Nat → Nat → Int64) × (Nat → Nat → UInt64) × (Nat × (Nat → Int32)) × Bool
abbrev e_lay (h : e_H) : List e_C := h.1
abbrev e_hI (h : e_H) : Nat → Nat → Int32 := h.2.1
abbrev e_hL (h : e_H) : Nat → Nat → Int64 := h.2.2.1
abbrev e_hD (h : e_H) : Nat → Nat → UInt64 := h.2.2.2.1
abbrev e_scr (h : e_H) : Nat × (Nat → Int32) := h.2.2.2.2.1
abbrev e_fl (h : e_H) : Bool := h.2.2.2.2.2
/-- how a call ends: it returns (with a value or without), or throws an exception of that class -/
abbrev e_O : Type := Option Value ⊕ String
/-- an instruction: its place, itself, its length; a value, numbers, places of words -/
abbrev e_I : Type := Nat × Instr × Nat × Value × List Nat × List (Nat × Nat)
def e_up {α : Type} (f : Nat → Nat → α) (c k : Nat) (x : α) : Nat → Nat → α := fun c' => if c' = c then (fun k' => if k' = k then x else f c k') else f c'
def e_row {α : Type} (f : Nat → Nat → α) (c : Nat) (r : Nat → α) : Nat → Nat → α := fun c' => if c' = c then r else f c'
def e_rel (g : e_G) : Value → Value
  | .ref k => .ref (g.1 k)
  | .retAddr k => g.2.1 k
  | v => v
def e_slot (g : e_G) (h : e_H) (c k : Nat) : Value → Value
  | .int _ => .int (e_hI h c k)
  | .long _ => .long (e_hL h c k)
  | v => e_rel g v
def e_cell (g : e_G) (h : e_H) (c : Nat) : e_C → va_E
  | .inl (ci, tm) => .inr (ci, tm.mapIdx (e_slot g h c))
  | .inr (.inl (tag, n)) => .inl (g.2.2.1 tag, n, if tag = 1 then .inr (.inl (e_hL h c)) else if tag = 3 then .inr (.inr (.inr (.inl (e_hD h c)))) else .inl (e_hI h c))
  | .inr (.inr (n, rs)) => .inl (g.2.2.1 4, n, .inr (.inr (.inr (.inr (fun i => (rs.getD i none).map g.1)))))
def e_ws (g : e_G) (h : e_H) : va_W := (e_lay h).mapIdx (fun c e => (g.1 c, e_cell g h c e))
def e_tyt : List FieldType := [.int, .long, .char, .double, .object "HexCampaign$Game"]
def e_tys (g : e_G) : List (ClassId × FieldType) := e_tyt.mapIdx (fun t ty => (g.2.2.1 t, ty))
theorem e_ws_get {g : e_G} {h : e_H} {c : Nat} {e : e_C} (hc : (e_lay h)[c]? = some e) : (e_ws g h)[c]? = some (g.1 c, e_cell g h c e) := by
  unfold e_ws
  rw [List.getElem?_mapIdx, hc]
  rfl
theorem e_ws_len {g : e_G} {h : e_H} : (e_ws g h).length = (e_lay h).length := by
  unfold e_ws
  rw [List.length_mapIdx]
theorem e_tys_get {g : e_G} {t : Nat} {ty : FieldType} (ht : e_tyt[t]? = some ty) : (e_tys g)[t]? = some (g.2.2.1 t, ty) := by
  unfold e_tys
  rw [List.getElem?_mapIdx, ht]
  rfl
/-- two heaps that agree but in one cell: the one world is the other with that cell set -/
theorem e_ws_set {g : e_G} {h h' : e_H} {c : Nat} {e' : e_C} {x : va_E} (hl : e_lay h' = (e_lay h).set c e') (hc : c < (e_lay h).length) (hx : e_cell g h' c e' = x)
    (ho : ∀ (d : Nat) (e : e_C), d ≠ c → e_cell g h' d e = e_cell g h d e) : e_ws g h' = (e_ws g h).set c (g.1 c, x) := by
  apply List.ext_getElem?
  intro d
  unfold e_ws
  rw [List.getElem?_mapIdx, hl, List.getElem?_set, List.getElem?_set, List.length_mapIdx, List.getElem?_mapIdx]
  by_cases hd : c = d
  · subst hd
    simp [hc, hx]
  · simp only [if_neg hd]
    cases hq : (e_lay h)[d]? with
    | none => rfl
    | some e => simp [ho d e (Ne.symm hd)]
theorem e_rel_cat {g : e_G} (hx : ∀ k, (g.2.1 k).category = 1) (v : Value) : (e_rel g v).category = v.category := by
  cases v <;> first | rfl | exact hx _
/-! locals -/
def e_as (g : e_G) (loc : List (Option Value)) : List (Nat × Value) := (List.range loc.length).filterMap (fun i => match loc[i]? with | some (some v) => some (i, e_rel g v) | _ => none)
theorem e_as_mem {g : e_G} {loc : List (Option Value)} {i : Nat} {w : Value} : (i, w) ∈ e_as g loc ↔ ∃ v, loc[i]? = some (some v) ∧ w = e_rel g v := by
  unfold e_as
  rw [List.mem_filterMap]
  constructor
  · rintro ⟨j, -, h⟩
    split at h
    · cases h
      exact ⟨_, by assumption, rfl⟩
    · cases h
  · rintro ⟨v, hv, rfl⟩
    refine ⟨i, ?_, by simp [hv]⟩
    rw [List.mem_range]
    exact (List.getElem?_eq_some_iff.mp hv).1
theorem e_lmono {ls : Array Slot} {n : Nat} {l l' : List (Nat × Value)} (h : lv_has ls n l) (hs : ∀ q ∈ l', q ∈ l) : lv_has ls n l' := ⟨h.1, h.2.1, fun q hq => h.2.2 q (hs q hq)⟩
theorem e_lget {g : e_G} {ls : Array Slot} {n : Nat} {loc : List (Option Value)} (h : lv_has ls n (e_as g loc)) {i : Nat} {v : Value} (hv : loc[i]? = some (some v)) : ls[i]? = some (.val (e_rel g v)) :=
  h.2.2 (i, e_rel g v) (e_as_mem.mpr ⟨v, hv, rfl⟩)
/-- what stands one place ahead goes, if it is a long or a double -/
def e_kill (loc : List (Option Value)) (i : Nat) : List (Option Value) := match i with
  | 0 => loc
  | j + 1 => match loc[j]? with
    | some (some w) => if w.category = 2 then loc.set j none else loc
    | _ => loc
def e_set1 (loc : List (Option Value)) (i : Nat) (v : Value) : List (Option Value) := (e_kill loc i).set i (some v)
def e_set2 (loc : List (Option Value)) (i : Nat) (v : Value) : List (Option Value) := ((e_kill loc i).set i (some v)).set (i + 1) none
theorem e_kill_len (loc : List (Option Value)) (i : Nat) : (e_kill loc i).length = loc.length := by
  unfold e_kill
  repeat' split
  all_goals first | rfl | simp
theorem e_set1_len (loc : List (Option Value)) (i : Nat) (v : Value) : (e_set1 loc i v).length = loc.length := by
  unfold e_set1
  rw [List.length_set, e_kill_len]
theorem e_set2_len (loc : List (Option Value)) (i : Nat) (v : Value) : (e_set2 loc i v).length = loc.length := by
  unfold e_set2
  rw [List.length_set, List.length_set, e_kill_len]
theorem e_kill_get {loc : List (Option Value)} {i j : Nat} {w : Value} (hj : (e_kill loc i)[j]? = some (some w)) : loc[j]? = some (some w) ∧ ¬ (j + 1 = i ∧ w.category = 2) := by
  cases i with
  | zero => exact ⟨hj, fun h => by omega⟩
  | succ i =>
    simp only [e_kill] at hj
    split at hj
    · rename_i u hu
      split at hj
      · rw [List.getElem?_set] at hj
        by_cases hij : i = j
        · subst hij
          simp at hj
        · rw [if_neg hij] at hj
          exact ⟨hj, fun h => by omega⟩
      · rename_i hc
        refine ⟨hj, fun h => ?_⟩
        have : j = i := by omega
        subst this
        rw [hu] at hj
        cases hj
        exact hc h.2
    · rename_i hn
      refine ⟨hj, fun h => ?_⟩
      have : j = i := by omega
      subst this
      exact hn w hj
theorem e_set1_sub {g : e_G} (hx : ∀ k, (g.2.1 k).category = 1) {loc : List (Option Value)} {i : Nat} {v : Value} : ∀ q ∈ e_as g (e_set1 loc i v), q ∈ (i, e_rel g v) :: (e_as g loc).filter (fun q => !(q.1 == i) && !(q.1 + 1 == i && q.2.category == 2)) := by
  rintro ⟨j, w⟩ hq
  obtain ⟨u, hu, rfl⟩ := e_as_mem.mp hq
  unfold e_set1 at hu
  rw [List.getElem?_set] at hu
  by_cases hij : i = j
  · subst hij
    rw [if_pos rfl] at hu
    split at hu
    · cases hu
      exact List.mem_cons_self
    · cases hu
  · rw [if_neg hij] at hu
    obtain ⟨h1, h2⟩ := e_kill_get hu
    refine List.mem_cons_of_mem _ (List.mem_filter.mpr ⟨e_as_mem.mpr ⟨u, h1, rfl⟩, ?_⟩)
    rw [e_rel_cat hx]
    simp only [Bool.and_eq_true, Bool.not_eq_true', beq_eq_false_iff_ne, Bool.and_eq_false_iff, ne_eq]
    refine ⟨Ne.symm hij, ?_⟩
    by_cases h3 : j + 1 = i
    · exact Or.inr (fun h => h2 ⟨h3, h⟩)
    · exact Or.inl h3
theorem e_set2_sub {g : e_G} (hx : ∀ k, (g.2.1 k).category = 1) {loc : List (Option Value)} {i : Nat} {v : Value} (hi : i + 1 < loc.length) : ∀ q ∈ e_as g (e_set2 loc i v), q ∈ (i, e_rel g v) :: (e_as g loc).filter (fun q => !(q.1 == i) && (!(q.1 == i + 1) && !(q.1 + 1 == i && q.2.category == 2))) := by
  rintro ⟨j, w⟩ hq
  obtain ⟨u, hu, rfl⟩ := e_as_mem.mp hq
  unfold e_set2 at hu
  rw [List.getElem?_set] at hu
  by_cases h5 : i + 1 = j
  · subst h5
    rw [if_pos rfl, List.length_set, e_kill_len, if_pos hi] at hu
    cases hu
  · rw [if_neg h5, List.getElem?_set] at hu
    by_cases hij : i = j
    · subst hij
      rw [if_pos rfl] at hu
      split at hu
      · cases hu
        exact List.mem_cons_self
      · cases hu
    · rw [if_neg hij] at hu
      obtain ⟨h1, h2⟩ := e_kill_get hu
      refine List.mem_cons_of_mem _ (List.mem_filter.mpr ⟨e_as_mem.mpr ⟨u, h1, rfl⟩, ?_⟩)
      rw [e_rel_cat hx]
      simp only [Bool.and_eq_true, Bool.not_eq_true', beq_eq_false_iff_ne, Bool.and_eq_false_iff, ne_eq]
      refine ⟨Ne.symm hij, Ne.symm h5, ?_⟩
      by_cases h3 : j + 1 = i
      · exact Or.inr (fun h => h2 ⟨h3, h⟩)
      · exact Or.inl h3
/-- the locals at the entry: the arguments, in order -/
def e_loc0 : List Value → List (Option Value)
  | [] => []
  | v :: vs => if v.category = 2 then some v :: none :: e_loc0 vs else some v :: e_loc0 vs
theorem e_loc0_sub {g : e_G} (hx : ∀ k, (g.2.1 k).category = 1) : ∀ (vs : List Value) (o : Nat) (i : Nat) (v : Value), (e_loc0 vs)[i]? = some (some v) → (o + i, e_rel g v) ∈ lv_args o (vs.map (e_rel g)) := by
  intro vs
  induction vs with
  | nil => intro o i v h; simp [e_loc0] at h
  | cons u vs ih =>
    intro o i v h
    simp only [List.map_cons, lv_args, e_rel_cat hx]
    unfold e_loc0 at h
    by_cases hc : u.category = 2
    · rw [if_pos hc] at h
      rw [if_pos hc]
      match i, h with
      | 0, h => simp at h; subst h; exact List.mem_cons_self
      | 1, h => simp at h
      | i + 2, h =>
        simp at h
        have := ih (o + 2) i v h
        rw [show o + 2 + i = o + (i + 2) by omega] at this
        exact List.mem_cons_of_mem _ this
    · rw [if_neg hc] at h
      rw [if_neg hc]
      match i, h with
      | 0, h => simp at h; subst h; exact List.mem_cons_self
      | i + 1, h =>
        simp at h
        have := ih (o + 1) i v h
        rw [show o + 1 + i = o + (i + 1) by omega] at this
        exact List.mem_cons_of_mem _ this
def e_entry (vs : List Value) (n : Nat) : List (Option Value) := e_loc0 vs ++ List.replicate (n - (e_loc0 vs).length) none
theorem e_loc0_len {g : e_G} (hx : ∀ k, (g.2.1 k).category = 1) (vs : List Value) : (lg_sl (vs.map (e_rel g))).length = (e_loc0 vs).length := by
  induction vs with
  | nil => rfl
  | cons u vs ih =>
    simp only [List.map_cons, lg_sl, List.flatMap_cons, e_rel_cat hx, e_loc0, List.length_append] at ih ⊢
    by_cases hc : u.category = 2
    · rw [if_pos hc, if_pos hc]
      simp only [List.length_cons, List.length_nil]
      have : (List.flatMap (fun v => if v.category = 2 then [Slot.val v, Slot.second] else [Slot.val v]) (List.map (e_rel g) vs)).length = (e_loc0 vs).length := ih
      omega
    · rw [if_neg hc, if_neg hc]
      simp only [List.length_cons, List.length_nil]
      have : (List.flatMap (fun v => if v.category = 2 then [Slot.val v, Slot.second] else [Slot.val v]) (List.map (e_rel g) vs)).length = (e_loc0 vs).length := ih
      omega
theorem e_entry_has {g : e_G} (hx : ∀ k, (g.2.1 k).category = 1) (vs : List Value) {n : Nat} (h : (e_loc0 vs).length ≤ n) : lv_has ((lg_sl (vs.map (e_rel g)) ++ List.replicate (n - (lg_sl (vs.map (e_rel g))).length) Slot.unset).toArray) n (e_as g (e_entry vs n)) := by
  refine e_lmono (lv_entry (vs.map (e_rel g)) (n := n) (by rw [e_loc0_len hx]; exact h)) ?_
  rintro ⟨i, w⟩ hq
  obtain ⟨v, hv, rfl⟩ := e_as_mem.mp hq
  unfold e_entry at hv
  by_cases hi : i < (e_loc0 vs).length
  · rw [List.getElem?_append_left hi] at hv
    have := e_loc0_sub hx vs 0 i v hv
    rwa [Nat.zero_add] at this
  · rw [List.getElem?_append_right (by omega), List.getElem?_replicate] at hv
    split at hv <;> simp at hv
theorem e_entry_len (vs : List Value) {n : Nat} (h : (e_loc0 vs).length ≤ n) : (e_entry vs n).length = n := by
  unfold e_entry
  rw [List.length_append, List.length_replicate]
  omega
end
section
/-! the program as data: written by wip/whole/gen.py out of claim/Statement.lean -/
/-- the words that a call hands on -/
def e_tb : List Cond := lw_tbl.filter goodWord
def e_f0 : List (String × String × String × Bool) := [("HexCampaign$Land", "kinds", "[J", true), ("HexCampaign$Land", "sources", "[J", true), ("HexCampaign$Land", "roads", "J", false)]
def e_f1 : List (String × String × String × Bool) := [("HexCampaign$Units", "total", "I", false), ("HexCampaign$Units", "present", "I", false), ("HexCampaign$Units", "ofSecondSide", "I", false), ("HexCampaign$Units", "moved", "I", false), ("HexCampaign$Units", "attacked", "I", false), ("HexCampaign$Units", "places", "[I", true), ("HexCampaign$Units", "strengths", "[I", true), ("HexCampaign$Units", "movements", "[I", true), ("HexCampaign$Units", "added", "[I", true), ("HexCampaign$Units", "lostInAttacks", "[I", true), ("HexCampaign$Units", "lostUnsupplied", "[I", true), ("HexCampaign$Units", "removed", "[I", true)]
def e_f2 : List (String × String × String × Bool) := [("HexCampaign$Game", "land", "LHexCampaign$Land;", true), ("HexCampaign$Game", "units", "LHexCampaign$Units;", true), ("HexCampaign$Game", "weather", "I", false), ("HexCampaign$Game", "round", "I", false), ("HexCampaign$Game", "turn", "I", false), ("HexCampaign$Game", "supplyRange", "I", false), ("HexCampaign$Game", "ambushes", "I", false), ("HexCampaign$Game", "attacks", "I", false), ("HexCampaign$Game", "weatherNumber", "I", false)]
def e_f3 : List (String × String × String × Bool) := [("HexCampaign$Waves", "waves", "[J", true), ("HexCampaign$Waves", "useful", "[J", true), ("HexCampaign$Waves", "entered", "[J", true), ("HexCampaign$Waves", "trail", "[I", true), ("HexCampaign$Waves", "steps", "I", false), ("HexCampaign$Waves", "roads", "J", false), ("HexCampaign$Waves", "stops", "J", false), ("HexCampaign$Waves", "barred", "J", false)]
def e_f4 : List (String × String × String × Bool) := [("HexCampaign$Play", "game", "LHexCampaign$Game;", true), ("HexCampaign$Play", "land", "LHexCampaign$Land;", true), ("HexCampaign$Play", "units", "LHexCampaign$Units;", true), ("HexCampaign$Play", "supplies", "LHexCampaign$Waves;", true), ("HexCampaign$Play", "ways", "LHexCampaign$Waves;", true)]
def e_f5 : List (String × String × String × Bool) := [("HexCampaign$History", "before", "[LHexCampaign$Game;", true), ("HexCampaign$History", "next", "I", false), ("HexCampaign$History", "held", "I", false)]
def e_f6 : List (String × String × String × Bool) := [("HexCampaign$Report", "codes", "[I", true), ("HexCampaign$Report", "details", "[I", true), ("HexCampaign$Report", "levels", "I", false)]
def e_f7 : List (String × String × String × Bool) := [("HexCampaign$MapInput", "characters", "[C", true), ("HexCampaign$MapInput", "length", "I", false)]
def e_f8 : List (String × String × String × Bool) := [("HexCampaign", "play", "LHexCampaign$Play;", true), ("HexCampaign", "game", "LHexCampaign$Game;", true), ("HexCampaign", "saved", "LHexCampaign$Game;", true), ("HexCampaign", "hasSaved", "Z", false), ("HexCampaign", "history", "LHexCampaign$History;", true), ("HexCampaign", "lastReport", "LHexCampaign$Report;", true), ("HexCampaign", "input", "LHexCampaign$MapInput;", true)]
def e_f9 : List (String × String × String × Bool) := [("HexCampaignModel", "s", "[I", true), ("HexCampaignModel", "saved", "[I", true), ("HexCampaignModel", "isSaved", "Z", false), ("HexCampaignModel", "past", "[I", true), ("HexCampaignModel", "pastMany", "I", false), ("HexCampaignModel", "thrown", "I", false), ("HexCampaignModel", "supply", "[I", true), ("HexCampaignModel", "costs", "[I", true), ("HexCampaignModel", "knownCells", "J", false), ("HexCampaignModel", "knownZone", "J", false), ("HexCampaignModel", "ownCells", "J", false), ("HexCampaignModel", "knownUnits", "I", false), ("HexCampaignModel", "way", "[I", true), ("HexCampaignModel", "wayMany", "I", false), ("HexCampaignModel", "report", "[I", true), ("HexCampaignModel", "levels", "I", false), ("HexCampaignModel", "buffer", "[C", true), ("HexCampaignModel", "length", "I", false)]
def e_T (l : List (String × String × String × Bool)) : u_T := fun k => l.getD k ("", "", "", false)
abbrev e_cls : List vw_C := [("HexCampaign$Land", e_T e_f0, 3), ("HexCampaign$Units", e_T e_f1, 12), ("HexCampaign$Game", e_T e_f2, 9), ("HexCampaign$Waves", e_T e_f3, 8), ("HexCampaign$Play", e_T e_f4, 5), ("HexCampaign$History", e_T e_f5, 3), ("HexCampaign$Report", e_T e_f6, 3), ("HexCampaign$MapInput", e_T e_f7, 2), ("HexCampaign", e_T e_f8, 7), ("HexCampaignModel", e_T e_f9, 18)]
def e_exc : List String := ["java/lang/IndexOutOfBoundsException", "java/lang/IllegalArgumentException", "java/lang/IllegalStateException", "java/util/NoSuchElementException", "java/lang/UnsupportedOperationException", "java/lang/ArithmeticException"]
def e_sts : List (String × String × List Int32) := [("HexCampaign$Land", "PRICES", [1, 2, 2, 3, 4, 2, 3, 3, 5, 5, 2, 3, 3, 2, 6]), ("HexCampaign$Game", "SIGHT_RANGES", [4, 2, 3]), ("HexCampaign$Land", "HEIGHTS", [0, 1, 2, 0, 3, 0]), ("HexCampaign$Land", "COVERS", [0, 1, 2, 0, 3, 0]), ("HexCampaignModel", "SIGHTS", [4, 2, 3]), ("HexCampaignModel", "HEIGHTS", [0, 1, 2, 0, 3, 0]), ("HexCampaignModel", "COSTS", [1, 2, 2, 3, 4, 2, 3, 3, 5, 5, 2, 3, 3, 2, 6]), ("HexCampaignModel", "BONUS", [0, 1, 2, 0, 3, 0])]
def e_srefs : List (String × Nat × String) := [("HexCampaign$Letters", 13, "pwhsm~"), ("HexCampaign$Letters", 11, "PWHSM"), ("HexCampaignModel", 258, "pwhsm~PWHSM")]
def e_slen : List Nat := [6, 5, 11]
def e_sbyt : List (List Int32) := [[112, 119, 104, 115, 109, 126], [80, 87, 72, 83, 77], [112, 119, 104, 115, 109, 126, 80, 87, 72, 83, 77]]
def e_nest : List (String × Nat × MethodName × String) := [("HexCampaign$Play", 11, ⟨"HexCampaign$Game", "<init>", "()V"⟩, "HexCampaign"), ("HexCampaign$Game", 11, ⟨"HexCampaign$Land", "<init>", "()V"⟩, "HexCampaign"), ("HexCampaign$Game", 20, ⟨"HexCampaign$Units", "<init>", "()V"⟩, "HexCampaign"), ("HexCampaign$Play", 30, ⟨"HexCampaign$Waves", "<init>", "()V"⟩, "HexCampaign"), ("HexCampaign", 23, ⟨"HexCampaign$Game", "<init>", "()V"⟩, "HexCampaign"), ("HexCampaign$History", 15, ⟨"HexCampaign$Game", "<init>", "()V"⟩, "HexCampaign"), ("HexCampaign", 40, ⟨"HexCampaign$Report", "<init>", "()V"⟩, "HexCampaign"), ("HexCampaign", 47, ⟨"HexCampaign$MapInput", "<init>", "()V"⟩, "HexCampaign")]
def e_nc : List (String × String) := [("java/lang/ArithmeticException", "java/lang/IllegalArgumentException"), ("java/lang/ArithmeticException", "java/lang/IllegalStateException"), ("java/lang/ArithmeticException", "java/lang/IndexOutOfBoundsException"), ("java/lang/ArithmeticException", "java/lang/UnsupportedOperationException"), ("java/lang/ArithmeticException", "java/util/NoSuchElementException"), ("java/lang/IllegalArgumentException", "java/lang/ArithmeticException"), ("java/lang/IllegalArgumentException", "java/lang/IllegalStateException"), ("java/lang/IllegalArgumentException", "java/lang/IndexOutOfBoundsException"), ("java/lang/IllegalArgumentException", "java/lang/UnsupportedOperationException"), ("java/lang/IllegalArgumentException", "java/util/NoSuchElementException"), ("java/lang/IllegalStateException", "java/lang/ArithmeticException"), ("java/lang/IllegalStateException", "java/lang/IllegalArgumentException"), ("java/lang/IllegalStateException", "java/lang/IndexOutOfBoundsException"), ("java/lang/IllegalStateException", "java/lang/UnsupportedOperationException"), ("java/lang/IllegalStateException", "java/util/NoSuchElementException"), ("java/lang/IndexOutOfBoundsException", "java/lang/ArithmeticException"), ("java/lang/IndexOutOfBoundsException", "java/lang/IllegalArgumentException"), ("java/lang/IndexOutOfBoundsException", "java/lang/IllegalStateException"), ("java/lang/IndexOutOfBoundsException", "java/lang/UnsupportedOperationException"), ("java/lang/IndexOutOfBoundsException", "java/util/NoSuchElementException"), ("java/lang/UnsupportedOperationException", "java/lang/ArithmeticException"), ("java/lang/UnsupportedOperationException", "java/lang/IllegalArgumentException"), ("java/lang/UnsupportedOperationException", "java/lang/IllegalStateException"), ("java/lang/UnsupportedOperationException", "java/lang/IndexOutOfBoundsException"), ("java/lang/UnsupportedOperationException", "java/util/NoSuchElementException"), ("java/util/NoSuchElementException", "java/lang/ArithmeticException"), ("java/util/NoSuchElementException", "java/lang/IllegalArgumentException"), ("java/util/NoSuchElementException", "java/lang/IllegalStateException"), ("java/util/NoSuchElementException", "java/lang/IndexOutOfBoundsException"), ("java/util/NoSuchElementException", "java/lang/UnsupportedOperationException")]
/-- a method: its name, bytes, locals, what it returns, its table of handlers, its instructions -/
abbrev e_MD : Type := MethodName × ByteArray × Nat × Option FieldType × List (Nat × Nat × Nat × Nat) × List e_I
-- 0: HexCampaign$Land.<init>()V
set_option maxRecDepth 100000 in
def e_c0 : List e_I := [(0, .aload_n 0, 1, .null, [], []),
  (1, .invokespecial 3, 3, .null, [0, 0, 2, 0, 0], [(1, 56), (1, 37), (1, 38)]),
  (4, .aload_n 0, 1, .null, [], []),
  (5, .bipush 6, 2, .null, [], []),
  (7, .newarray .long, 2, .null, [1], [(1, 67)]),
  (9, .putfield 9, 3, .null, [0, 0, 1, 3], [(1, 57)]),
  (12, .aload_n 0, 1, .null, [], []),
  (13, .iconst 2, 1, .null, [], []),
  (14, .newarray .long, 2, .null, [1], [(1, 67)]),
  (16, .putfield 15, 3, .null, [0, 1, 1, 3], [(1, 58)]),
  (19, .return_, 1, .null, [], [])]
def e_m0 : e_MD := (⟨"HexCampaign$Land", "<init>", "()V"⟩, prog_5_method_1_code, 1, none, [], e_c0)
-- 1: HexCampaign$Units.<init>()V
set_option maxRecDepth 100000 in
def e_c1 : List e_I := [(0, .aload_n 0, 1, .null, [], []),
  (1, .invokespecial 3, 3, .null, [0, 0, 2, 0, 0], [(1, 73), (1, 37), (1, 38)]),
  (4, .aload_n 0, 1, .null, [], []),
  (5, .bipush 16, 2, .null, [], []),
  (7, .newarray .int, 2, .null, [0], [(1, 111)]),
  (9, .putfield 9, 3, .null, [1, 5, 1, 3], [(1, 79)]),
  (12, .aload_n 0, 1, .null, [], []),
  (13, .bipush 16, 2, .null, [], []),
  (15, .newarray .int, 2, .null, [0], [(1, 111)]),
  (17, .putfield 15, 3, .null, [1, 6, 1, 3], [(1, 80)]),
  (20, .aload_n 0, 1, .null, [], []),
  (21, .bipush 16, 2, .null, [], []),
  (23, .newarray .int, 2, .null, [0], [(1, 111)]),
  (25, .putfield 18, 3, .null, [1, 7, 1, 3], [(1, 81)]),
  (28, .aload_n 0, 1, .null, [], []),
  (29, .iconst 2, 1, .null, [], []),
  (30, .newarray .int, 2, .null, [0], [(1, 111)]),
  (32, .putfield 21, 3, .null, [1, 8, 1, 3], [(1, 82)]),
  (35, .aload_n 0, 1, .null, [], []),
  (36, .iconst 2, 1, .null, [], []),
  (37, .newarray .int, 2, .null, [0], [(1, 111)]),
  (39, .putfield 24, 3, .null, [1, 9, 1, 3], [(1, 83)]),
  (42, .aload_n 0, 1, .null, [], []),
  (43, .iconst 2, 1, .null, [], []),
  (44, .newarray .int, 2, .null, [0], [(1, 111)]),
  (46, .putfield 27, 3, .null, [1, 10, 1, 3], [(1, 84)]),
  (49, .aload_n 0, 1, .null, [], []),
  (50, .iconst 2, 1, .null, [], []),
  (51, .newarray .int, 2, .null, [0], [(1, 111)]),
  (53, .putfield 30, 3, .null, [1, 11, 1, 3], [(1, 85)]),
  (56, .return_, 1, .null, [], [])]
def e_m1 : e_MD := (⟨"HexCampaign$Units", "<init>", "()V"⟩, prog_11_method_1_code, 1, none, [], e_c1)
-- 2: HexCampaign$Game.<init>()V
set_option maxRecDepth 100000 in
def e_c2 : List e_I := [(0, .aload_n 0, 1, .null, [], []),
  (1, .invokespecial 3, 3, .null, [0, 0, 2, 0, 0], [(1, 50), (1, 37), (1, 38)]),
  (4, .aload_n 0, 1, .null, [], []),
  (5, .new 9, 3, .null, [0, 0], [(1, 51), (1, 52), (1, 4)]),
  (8, .dup, 1, .null, [], []),
  (9, .invokespecial 11, 3, .null, [0, 0, 1, 2, 8, 1], [(1, 54), (1, 55), (1, 4)]),
  (12, .putfield 12, 3, .null, [2, 0, 1, 3], [(1, 112)]),
  (15, .aload_n 0, 1, .null, [], []),
  (16, .new 18, 3, .null, [0, 1], [(1, 68), (1, 69), (1, 5)]),
  (19, .dup, 1, .null, [], []),
  (20, .invokespecial 20, 3, .null, [1, 0, 1, 7, 56, 2], [(1, 71), (1, 72), (1, 5)]),
  (23, .putfield 21, 3, .null, [2, 1, 1, 3], [(1, 115)]),
  (26, .return_, 1, .null, [], [])]
def e_m2 : e_MD := (⟨"HexCampaign$Game", "<init>", "()V"⟩, prog_2_method_1_code, 1, none, [], e_c2)
-- 3: HexCampaign$Waves.<init>()V
set_option maxRecDepth 100000 in
def e_c3 : List e_I := [(0, .aload_n 0, 1, .null, [], []),
  (1, .invokespecial 3, 3, .null, [0, 0, 2, 0, 0], [(1, 160), (1, 37), (1, 38)]),
  (4, .aload_n 0, 1, .null, [], []),
  (5, .sipush 373, 3, .null, [], []),
  (8, .newarray .long, 2, .null, [1], [(1, 67)]),
  (10, .putfield 11, 3, .null, [3, 0, 1, 3], [(1, 161)]),
  (13, .aload_n 0, 1, .null, [], []),
  (14, .sipush 373, 3, .null, [], []),
  (17, .newarray .long, 2, .null, [1], [(1, 67)]),
  (19, .putfield 15, 3, .null, [3, 1, 1, 3], [(1, 162)]),
  (22, .aload_n 0, 1, .null, [], []),
  (23, .bipush 7, 2, .null, [], []),
  (25, .newarray .long, 2, .null, [1], [(1, 67)]),
  (27, .putfield 18, 3, .null, [3, 2, 1, 3], [(1, 163)]),
  (30, .aload_n 0, 1, .null, [], []),
  (31, .bipush 63, 2, .null, [], []),
  (33, .newarray .int, 2, .null, [0], [(1, 111)]),
  (35, .putfield 21, 3, .null, [3, 3, 1, 3], [(1, 164)]),
  (38, .return_, 1, .null, [], [])]
def e_m3 : e_MD := (⟨"HexCampaign$Waves", "<init>", "()V"⟩, prog_12_method_1_code, 1, none, [], e_c3)
-- 4: HexCampaign$Play.<init>()V
set_option maxRecDepth 100000 in
def e_c4 : List e_I := [(0, .aload_n 0, 1, .null, [], []),
  (1, .invokespecial 3, 3, .null, [0, 0, 2, 0, 0], [(1, 44), (1, 37), (1, 38)]),
  (4, .aload_n 0, 1, .null, [], []),
  (5, .new 9, 3, .null, [0, 2], [(1, 45), (1, 46), (1, 3)]),
  (8, .dup, 1, .null, [], []),
  (9, .invokespecial 11, 3, .null, [2, 0, 1, 11, 79, 0], [(1, 48), (1, 49), (1, 3)]),
  (12, .putfield 12, 3, .null, [4, 0, 1, 3], [(1, 186)]),
  (15, .aload_n 0, 1, .null, [], []),
  (16, .aload_n 0, 1, .null, [], []),
  (17, .getfield 12, 3, .null, [4, 0, 1], [(1, 186)]),
  (20, .getfield 18, 3, .null, [2, 0, 1], [(1, 113)]),
  (23, .putfield 22, 3, .null, [4, 1, 1, 3], [(1, 188)]),
  (26, .aload_n 0, 1, .null, [], []),
  (27, .aload_n 0, 1, .null, [], []),
  (28, .getfield 12, 3, .null, [4, 0, 1], [(1, 186)]),
  (31, .getfield 23, 3, .null, [2, 1, 1], [(1, 116)]),
  (34, .putfield 27, 3, .null, [4, 2, 1, 3], [(1, 189)]),
  (37, .aload_n 0, 1, .null, [], []),
  (38, .new 28, 3, .null, [0, 3], [(1, 155), (1, 156), (1, 6)]),
  (41, .dup, 1, .null, [], []),
  (42, .invokespecial 30, 3, .null, [3, 0, 1, 4, 816, 3], [(1, 158), (1, 159), (1, 6)]),
  (45, .putfield 31, 3, .null, [4, 3, 1, 3], [(1, 190)]),
  (48, .aload_n 0, 1, .null, [], []),
  (49, .new 28, 3, .null, [0, 3], [(1, 155), (1, 156), (1, 6)]),
  (52, .dup, 1, .null, [], []),
  (53, .invokespecial 30, 3, .null, [3, 0, 1, 4, 816, 3], [(1, 158), (1, 159), (1, 6)]),
  (56, .putfield 35, 3, .null, [4, 4, 1, 3], [(1, 191)]),
  (59, .return_, 1, .null, [], [])]
def e_m4 : e_MD := (⟨"HexCampaign$Play", "<init>", "()V"⟩, prog_8_method_1_code, 1, none, [], e_c4)
-- 5: HexCampaign$History.<init>()V
set_option maxRecDepth 100000 in
def e_c5 : List e_I := [(0, .aload_n 0, 1, .null, [], []),
  (1, .invokespecial 1, 3, .null, [0, 0, 2, 0, 0], [(1, 210), (1, 37), (1, 38)]),
  (4, .aload_n 0, 1, .null, [], []),
  (5, .bipush 8, 2, .null, [], []),
  (7, .anewarray 9, 3, .null, [4], [(1, 211)]),
  (10, .putfield 11, 3, .null, [5, 0, 1, 3], [(1, 214)]),
  (13, .iconst 0, 1, .null, [], []),
  (14, .istore_n 1, 1, .null, [], []),
  (15, .iload_n 1, 1, .null, [], []),
  (16, .aload_n 0, 1, .null, [], []),
  (17, .getfield 11, 3, .null, [5, 0, 1], [(1, 214)]),
  (20, .arraylength, 1, .null, [], []),
  (21, .if_icmp .ge 22, 3, .null, [43], []),
  (24, .aload_n 0, 1, .null, [], []),
  (25, .getfield 11, 3, .null, [5, 0, 1], [(1, 214)]),
  (28, .iload_n 1, 1, .null, [], []),
  (29, .new 9, 3, .null, [0, 2], [(1, 211), (1, 46), (1, 3)]),
  (32, .dup, 1, .null, [], []),
  (33, .invokespecial 15, 3, .null, [2, 0, 1, 11, 79, 5], [(1, 48), (1, 49), (1, 3)]),
  (36, .aastore, 1, .null, [], []),
  (37, .iinc 1 1, 3, .null, [], []),
  (40, .goto (-25), 3, .null, [15], []),
  (43, .return_, 1, .null, [], [])]
def e_m5 : e_MD := (⟨"HexCampaign$History", "<init>", "()V"⟩, prog_4_method_1_code, 2, none, [], e_c5)
-- 6: HexCampaign$Report.<init>()V
set_option maxRecDepth 100000 in
def e_c6 : List e_I := [(0, .aload_n 0, 1, .null, [], []),
  (1, .invokespecial 1, 3, .null, [0, 0, 2, 0, 0], [(1, 229), (1, 37), (1, 38)]),
  (4, .aload_n 0, 1, .null, [], []),
  (5, .iconst 3, 1, .null, [], []),
  (6, .newarray .int, 2, .null, [0], [(1, 111)]),
  (8, .putfield 9, 3, .null, [6, 0, 1, 3], [(1, 230)]),
  (11, .aload_n 0, 1, .null, [], []),
  (12, .iconst 3, 1, .null, [], []),
  (13, .newarray .int, 2, .null, [0], [(1, 111)]),
  (15, .putfield 13, 3, .null, [6, 1, 1, 3], [(1, 231)]),
  (18, .return_, 1, .null, [], [])]
def e_m6 : e_MD := (⟨"HexCampaign$Report", "<init>", "()V"⟩, prog_9_method_1_code, 1, none, [], e_c6)
-- 7: HexCampaign$MapInput.<init>()V
set_option maxRecDepth 100000 in
def e_c7 : List e_I := [(0, .aload_n 0, 1, .null, [], []),
  (1, .invokespecial 3, 3, .null, [0, 0, 2, 0, 0], [(2, 5), (1, 37), (1, 38)]),
  (4, .aload_n 0, 1, .null, [], []),
  (5, .bipush 80, 2, .null, [], []),
  (7, .newarray .char, 2, .null, [2], [(2, 13)]),
  (9, .putfield 11, 3, .null, [7, 0, 1, 3], [(2, 6)]),
  (12, .return_, 1, .null, [], [])]
def e_m7 : e_MD := (⟨"HexCampaign$MapInput", "<init>", "()V"⟩, prog_7_method_1_code, 1, none, [], e_c7)
-- 8: HexCampaign$Land.clear()V
set_option maxRecDepth 100000 in
def e_c8 : List e_I := [(0, .iconst 0, 1, .null, [], []),
  (1, .istore_n 1, 1, .null, [], []),
  (2, .iload_n 1, 1, .null, [], []),
  (3, .aload_n 0, 1, .null, [], []),
  (4, .getfield 9, 3, .null, [0, 0, 1], [(1, 57)]),
  (7, .arraylength, 1, .null, [], []),
  (8, .if_icmp .ge 26, 3, .null, [34], []),
  (11, .aload_n 0, 1, .null, [], []),
  (12, .getfield 9, 3, .null, [0, 0, 1], [(1, 57)]),
  (15, .iload_n 1, 1, .null, [], []),
  (16, .iload_n 1, 1, .null, [], []),
  (17, .ifCond .ne 9, 3, .null, [26], []),
  (20, .ldc2_w 20, 3, .long 9223372036854775807, [], [(2, 22)]),
  (23, .goto 4, 3, .null, [27], []),
  (26, .lconst 0, 1, .null, [], []),
  (27, .lastore, 1, .null, [], []),
  (28, .iinc 1 1, 3, .null, [], []),
  (31, .goto (-29), 3, .null, [2], []),
  (34, .iconst 0, 1, .null, [], []),
  (35, .istore_n 1, 1, .null, [], []),
  (36, .iload_n 1, 1, .null, [], []),
  (37, .aload_n 0, 1, .null, [], []),
  (38, .getfield 15, 3, .null, [0, 1, 1], [(1, 58)]),
  (41, .arraylength, 1, .null, [], []),
  (42, .if_icmp .ge 16, 3, .null, [58], []),
  (45, .aload_n 0, 1, .null, [], []),
  (46, .getfield 15, 3, .null, [0, 1, 1], [(1, 58)]),
  (49, .iload_n 1, 1, .null, [], []),
  (50, .lconst 0, 1, .null, [], []),
  (51, .lastore, 1, .null, [], []),
  (52, .iinc 1 1, 3, .null, [], []),
  (55, .goto (-19), 3, .null, [36], []),
  (58, .aload_n 0, 1, .null, [], []),
  (59, .lconst 0, 1, .null, [], []),
  (60, .putfield 22, 3, .null, [0, 2, 0, 2], [(1, 59)]),
  (63, .return_, 1, .null, [], [])]
def e_m8 : e_MD := (⟨"HexCampaign$Land", "clear", "()V"⟩, prog_5_method_2_code, 2, none, [], e_c8)
-- 9: HexCampaign$Units.beginTurn()V
set_option maxRecDepth 100000 in
def e_c9 : List e_I := [(0, .aload_n 0, 1, .null, [], []),
  (1, .iconst 0, 1, .null, [], []),
  (2, .putfield 52, 3, .null, [1, 3, 0, 0], [(1, 77)]),
  (5, .aload_n 0, 1, .null, [], []),
  (6, .iconst 0, 1, .null, [], []),
  (7, .putfield 55, 3, .null, [1, 4, 0, 0], [(1, 78)]),
  (10, .return_, 1, .null, [], [])]
def e_m9 : e_MD := (⟨"HexCampaign$Units", "beginTurn", "()V"⟩, prog_11_method_4_code, 1, none, [], e_c9)
-- 10: HexCampaign$Row.clear([I)V
set_option maxRecDepth 100000 in
def e_c10 : List e_I := [(0, .iconst 0, 1, .null, [], []),
  (1, .istore_n 1, 1, .null, [], []),
  (2, .iload_n 1, 1, .null, [], []),
  (3, .aload_n 0, 1, .null, [], []),
  (4, .arraylength, 1, .null, [], []),
  (5, .if_icmp .ge 13, 3, .null, [18], []),
  (8, .aload_n 0, 1, .null, [], []),
  (9, .iload_n 1, 1, .null, [], []),
  (10, .iconst 0, 1, .null, [], []),
  (11, .iastore, 1, .null, [], []),
  (12, .iinc 1 1, 3, .null, [], []),
  (15, .goto (-13), 3, .null, [2], []),
  (18, .return_, 1, .null, [], [])]
def e_m10 : e_MD := (⟨"HexCampaign$Row", "clear", "([I)V"⟩, prog_10_method_5_code, 2, none, [], e_c10)
-- 11: HexCampaign$Units.clear()V
set_option maxRecDepth 100000 in
def e_c11 : List e_I := [(0, .aload_n 0, 1, .null, [], []),
  (1, .iconst 0, 1, .null, [], []),
  (2, .putfield 33, 3, .null, [1, 0, 0, 0], [(1, 74)]),
  (5, .aload_n 0, 1, .null, [], []),
  (6, .iconst 0, 1, .null, [], []),
  (7, .putfield 37, 3, .null, [1, 1, 0, 0], [(1, 75)]),
  (10, .aload_n 0, 1, .null, [], []),
  (11, .iconst 0, 1, .null, [], []),
  (12, .putfield 40, 3, .null, [1, 2, 0, 0], [(1, 76)]),
  (15, .aload_n 0, 1, .null, [], []),
  (16, .invokevirtual 43, 3, .null, [9, 0, 0, 0, 0, 1], [(2, 27), (2, 28), (2, 29), (2, 30), (1, 5)]),
  (19, .aload_n 0, 1, .null, [], []),
  (20, .getfield 21, 3, .null, [1, 8, 1], [(1, 82)]),
  (23, .invokestatic 46, 3, .null, [10, 1, 0, 0, 0], [(2, 31), (2, 32), (1, 10), (2, 33)]),
  (26, .aload_n 0, 1, .null, [], []),
  (27, .getfield 24, 3, .null, [1, 9, 1], [(1, 83)]),
  (30, .invokestatic 46, 3, .null, [10, 1, 0, 0, 0], [(2, 31), (2, 32), (1, 10), (2, 33)]),
  (33, .aload_n 0, 1, .null, [], []),
  (34, .getfield 27, 3, .null, [1, 10, 1], [(1, 84)]),
  (37, .invokestatic 46, 3, .null, [10, 1, 0, 0, 0], [(2, 31), (2, 32), (1, 10), (2, 33)]),
  (40, .aload_n 0, 1, .null, [], []),
  (41, .getfield 30, 3, .null, [1, 11, 1], [(1, 85)]),
  (44, .invokestatic 46, 3, .null, [10, 1, 0, 0, 0], [(2, 31), (2, 32), (1, 10), (2, 33)]),
  (47, .return_, 1, .null, [], [])]
def e_m11 : e_MD := (⟨"HexCampaign$Units", "clear", "()V"⟩, prog_11_method_2_code, 1, none, [], e_c11)
-- 12: HexCampaign$Game.begin(I)V
set_option maxRecDepth 100000 in
def e_c12 : List e_I := [(0, .aload_n 0, 1, .null, [], []),
  (1, .getfield 12, 3, .null, [2, 0, 1], [(1, 112)]),
  (4, .invokevirtual 25, 3, .null, [8, 0, 0, 0, 0, 0], [(2, 18), (2, 19), (2, 20), (2, 21), (1, 4)]),
  (7, .aload_n 0, 1, .null, [], []),
  (8, .getfield 21, 3, .null, [2, 1, 1], [(1, 115)]),
  (11, .invokevirtual 28, 3, .null, [11, 0, 0, 0, 0, 1], [(2, 23), (2, 24), (2, 25), (2, 26), (1, 5)]),
  (14, .aload_n 0, 1, .null, [], []),
  (15, .iconst 0, 1, .null, [], []),
  (16, .putfield 29, 3, .null, [2, 2, 0, 0], [(1, 118)]),
  (19, .aload_n 0, 1, .null, [], []),
  (20, .iconst 0, 1, .null, [], []),
  (21, .putfield 33, 3, .null, [2, 3, 0, 0], [(1, 121)]),
  (24, .aload_n 0, 1, .null, [], []),
  (25, .iconst 0, 1, .null, [], []),
  (26, .putfield 36, 3, .null, [2, 4, 0, 0], [(1, 123)]),
  (29, .aload_n 0, 1, .null, [], []),
  (30, .bipush 10, 2, .null, [], []),
  (32, .putfield 39, 3, .null, [2, 5, 0, 0], [(1, 126)]),
  (35, .aload_n 0, 1, .null, [], []),
  (36, .iconst 0, 1, .null, [], []),
  (37, .putfield 42, 3, .null, [2, 6, 0, 0], [(1, 129)]),
  (40, .aload_n 0, 1, .null, [], []),
  (41, .iconst 0, 1, .null, [], []),
  (42, .putfield 45, 3, .null, [2, 7, 0, 0], [(1, 132)]),
  (45, .aload_n 0, 1, .null, [], []),
  (46, .iload_n 1, 1, .null, [], []),
  (47, .putfield 48, 3, .null, [2, 8, 0, 0], [(1, 135)]),
  (50, .return_, 1, .null, [], [])]
def e_m12 : e_MD := (⟨"HexCampaign$Game", "begin", "(I)V"⟩, prog_2_method_2_code, 2, none, [], e_c12)
-- 13: HexCampaign.<init>()V
set_option maxRecDepth 100000 in
def e_c13 : List e_I := [(0, .aload_n 0, 1, .null, [], []),
  (1, .invokespecial 1, 3, .null, [0, 0, 2, 0, 0], [(1, 36), (1, 37), (1, 38)]),
  (4, .aload_n 0, 1, .null, [], []),
  (5, .new 7, 3, .null, [0, 4], [(1, 39), (1, 40), (1, 2)]),
  (8, .dup, 1, .null, [], []),
  (9, .invokespecial 9, 3, .null, [4, 0, 0, 22, 1736], [(1, 41), (1, 42), (1, 43), (1, 2)]),
  (12, .putfield 10, 3, .null, [8, 0, 1, 3], [(2, 34)]),
  (15, .aload_n 0, 1, .null, [], []),
  (16, .aload_n 0, 1, .null, [], []),
  (17, .getfield 10, 3, .null, [8, 0, 1], [(2, 34)]),
  (20, .getfield 16, 3, .null, [4, 0, 1], [(1, 187)]),
  (23, .putfield 20, 3, .null, [8, 1, 1, 3], [(2, 35)]),
  (26, .aload_n 0, 1, .null, [], []),
  (27, .new 21, 3, .null, [0, 2], [(1, 203), (1, 46), (1, 3)]),
  (30, .dup, 1, .null, [], []),
  (31, .invokespecial 23, 3, .null, [2, 0, 1, 11, 79, 4], [(1, 48), (1, 49), (1, 3)]),
  (34, .putfield 24, 3, .null, [8, 2, 1, 3], [(2, 36)]),
  (37, .aload_n 0, 1, .null, [], []),
  (38, .iconst 0, 1, .null, [], []),
  (39, .putfield 27, 3, .null, [8, 3, 0, 1], [(2, 37)]),
  (42, .aload_n 0, 1, .null, [], []),
  (43, .new 31, 3, .null, [0, 5], [(1, 205), (1, 206), (1, 7)]),
  (46, .dup, 1, .null, [], []),
  (47, .invokespecial 33, 3, .null, [5, 0, 0, 97, 712], [(1, 207), (1, 208), (1, 209), (1, 7)]),
  (50, .putfield 34, 3, .null, [8, 4, 1, 3], [(2, 38)]),
  (53, .aload_n 0, 1, .null, [], []),
  (54, .new 38, 3, .null, [0, 6], [(1, 224), (1, 225), (1, 8)]),
  (57, .dup, 1, .null, [], []),
  (58, .invokespecial 40, 3, .null, [6, 0, 1, 2, 6, 6], [(1, 227), (1, 228), (1, 8)]),
  (61, .putfield 41, 3, .null, [8, 5, 1, 3], [(2, 39)]),
  (64, .aload_n 0, 1, .null, [], []),
  (65, .new 45, 3, .null, [0, 7], [(2, 0), (2, 1), (1, 9)]),
  (68, .dup, 1, .null, [], []),
  (69, .invokespecial 47, 3, .null, [7, 0, 1, 1, 80, 7], [(2, 3), (2, 4), (1, 9)]),
  (72, .putfield 48, 3, .null, [8, 6, 1, 3], [(2, 40)]),
  (75, .aload_n 0, 1, .null, [], []),
  (76, .getfield 20, 3, .null, [8, 1, 1], [(2, 35)]),
  (79, .iconst 0, 1, .null, [], []),
  (80, .invokevirtual 52, 3, .null, [12, 1, 0, 0, 0, 2], [(2, 14), (2, 15), (2, 16), (2, 17), (1, 3)]),
  (83, .return_, 1, .null, [], [])]
def e_m13 : e_MD := (⟨"HexCampaign", "<init>", "()V"⟩, prog_1_method_1_code, 1, none, [], e_c13)
-- 14: java/lang/Integer.bitCount(I)I
set_option maxRecDepth 100000 in
def e_c14 : List e_I := [(0, .iload_n 0, 1, .null, [], []),
  (1, .iload_n 0, 1, .null, [], []),
  (2, .iconst 1, 1, .null, [], []),
  (3, .iushr, 1, .null, [], []),
  (4, .ldc_w 265, 3, .int 1431655765, [], [(2, 67)]),
  (7, .iand, 1, .null, [], []),
  (8, .isub, 1, .null, [], []),
  (9, .istore_n 0, 1, .null, [], []),
  (10, .iload_n 0, 1, .null, [], []),
  (11, .ldc_w 266, 3, .int 858993459, [], [(2, 68)]),
  (14, .iand, 1, .null, [], []),
  (15, .iload_n 0, 1, .null, [], []),
  (16, .iconst 2, 1, .null, [], []),
  (17, .iushr, 1, .null, [], []),
  (18, .ldc_w 266, 3, .int 858993459, [], [(2, 68)]),
  (21, .iand, 1, .null, [], []),
  (22, .iadd, 1, .null, [], []),
  (23, .istore_n 0, 1, .null, [], []),
  (24, .iload_n 0, 1, .null, [], []),
  (25, .iload_n 0, 1, .null, [], []),
  (26, .iconst 4, 1, .null, [], []),
  (27, .iushr, 1, .null, [], []),
  (28, .iadd, 1, .null, [], []),
  (29, .ldc_w 267, 3, .int 252645135, [], [(2, 69)]),
  (32, .iand, 1, .null, [], []),
  (33, .istore_n 0, 1, .null, [], []),
  (34, .iload_n 0, 1, .null, [], []),
  (35, .iload_n 0, 1, .null, [], []),
  (36, .bipush 8, 2, .null, [], []),
  (38, .iushr, 1, .null, [], []),
  (39, .iadd, 1, .null, [], []),
  (40, .istore_n 0, 1, .null, [], []),
  (41, .iload_n 0, 1, .null, [], []),
  (42, .iload_n 0, 1, .null, [], []),
  (43, .bipush 16, 2, .null, [], []),
  (45, .iushr, 1, .null, [], []),
  (46, .iadd, 1, .null, [], []),
  (47, .istore_n 0, 1, .null, [], []),
  (48, .iload_n 0, 1, .null, [], []),
  (49, .bipush 63, 2, .null, [], []),
  (51, .iand, 1, .null, [], []),
  (52, .ireturn, 1, .null, [], [])]
def e_m14 : e_MD := (⟨"java/lang/Integer", "bitCount", "(I)I"⟩, prog_24_method_49_code, 1, (some .int), [], e_c14)
-- 15: HexCampaign$Units.howMany()I
set_option maxRecDepth 100000 in
def e_c15 : List e_I := [(0, .aload_n 0, 1, .null, [], []),
  (1, .getfield 37, 3, .null, [1, 1, 0], [(1, 75)]),
  (4, .invokestatic 66, 3, .null, [14, 1, 0, 0, 0], [(2, 64), (2, 65), (1, 12), (2, 66)]),
  (7, .ireturn, 1, .null, [], [])]
def e_m15 : e_MD := (⟨"HexCampaign$Units", "howMany", "()I"⟩, prog_11_method_10_code, 1, (some .int), [], e_c15)
-- 16: HexCampaign$History.forget()V
set_option maxRecDepth 100000 in
def e_c16 : List e_I := [(0, .aload_n 0, 1, .null, [], []),
  (1, .iconst 0, 1, .null, [], []),
  (2, .putfield 16, 3, .null, [5, 2, 0, 0], [(1, 216)]),
  (5, .return_, 1, .null, [], [])]
def e_m16 : e_MD := (⟨"HexCampaign$History", "forget", "()V"⟩, prog_4_method_3_code, 1, none, [], e_c16)
-- 17: HexCampaign.start(I)I
set_option maxRecDepth 100000 in
def e_c17 : List e_I := [(0, .aload_n 0, 1, .null, [], []),
  (1, .getfield 20, 3, .null, [8, 1, 1], [(2, 35)]),
  (4, .getfield 56, 3, .null, [2, 1, 1], [(1, 117)]),
  (7, .invokevirtual 60, 3, .null, [15, 0, 0, 0, 0, 1], [(2, 60), (2, 61), (2, 62), (2, 63), (1, 5)]),
  (10, .istore_n 2, 1, .null, [], []),
  (11, .aload_n 0, 1, .null, [], []),
  (12, .getfield 20, 3, .null, [8, 1, 1], [(2, 35)]),
  (15, .iload_n 1, 1, .null, [], []),
  (16, .invokevirtual 52, 3, .null, [12, 1, 0, 0, 0, 2], [(2, 14), (2, 15), (2, 16), (2, 17), (1, 3)]),
  (19, .aload_n 0, 1, .null, [], []),
  (20, .getfield 34, 3, .null, [8, 4, 1], [(2, 38)]),
  (23, .invokevirtual 66, 3, .null, [16, 0, 0, 0, 0, 5], [(2, 70), (2, 71), (2, 72), (2, 73), (1, 7)]),
  (26, .iload_n 2, 1, .null, [], []),
  (27, .ireturn, 1, .null, [], [])]
def e_m17 : e_MD := (⟨"HexCampaign", "start", "(I)I"⟩, prog_1_method_2_code, 3, (some .int), [], e_c17)
-- 18: HexCampaign$History.keptAt(I)LHexCampaign$Game;
set_option maxRecDepth 100000 in
def e_c18 : List e_I := [(0, .iload_n 1, 1, .null, [], []),
  (1, .ifCond .lt 21, 3, .null, [22], []),
  (4, .iload_n 1, 1, .null, [], []),
  (5, .aload_n 0, 1, .null, [], []),
  (6, .getfield 11, 3, .null, [5, 0, 1], [(1, 214)]),
  (9, .arraylength, 1, .null, [], []),
  (10, .if_icmp .ge 12, 3, .null, [22], []),
  (13, .aload_n 0, 1, .null, [], []),
  (14, .getfield 11, 3, .null, [5, 0, 1], [(1, 214)]),
  (17, .iload_n 1, 1, .null, [], []),
  (18, .aaload, 1, .null, [], []),
  (19, .goto 4, 3, .null, [23], []),
  (22, .aconst_null, 1, .null, [], []),
  (23, .areturn, 1, .null, [], [])]
def e_m18 : e_MD := (⟨"HexCampaign$History", "keptAt", "(I)LHexCampaign$Game;"⟩, prog_4_method_6_code, 2, (some (.object "HexCampaign$Game")), [], e_c18)
-- 19: HexCampaign$Row.copySets([J[J)V
set_option maxRecDepth 100000 in
def e_c19 : List e_I := [(0, .iconst 0, 1, .null, [], []),
  (1, .istore_n 2, 1, .null, [], []),
  (2, .iload_n 2, 1, .null, [], []),
  (3, .aload_n 0, 1, .null, [], []),
  (4, .arraylength, 1, .null, [], []),
  (5, .if_icmp .ge 21, 3, .null, [26], []),
  (8, .iload_n 2, 1, .null, [], []),
  (9, .aload_n 1, 1, .null, [], []),
  (10, .arraylength, 1, .null, [], []),
  (11, .if_icmp .ge 15, 3, .null, [26], []),
  (14, .aload_n 1, 1, .null, [], []),
  (15, .iload_n 2, 1, .null, [], []),
  (16, .aload_n 0, 1, .null, [], []),
  (17, .iload_n 2, 1, .null, [], []),
  (18, .laload, 1, .null, [], []),
  (19, .lastore, 1, .null, [], []),
  (20, .iinc 2 1, 3, .null, [], []),
  (23, .goto (-21), 3, .null, [2], []),
  (26, .return_, 1, .null, [], [])]
def e_m19 : e_MD := (⟨"HexCampaign$Row", "copySets", "([J[J)V"⟩, prog_10_method_8_code, 3, none, [], e_c19)
-- 20: HexCampaign$Land.copyFrom(LHexCampaign$Land;)V
set_option maxRecDepth 100000 in
def e_c20 : List e_I := [(0, .aload_n 1, 1, .null, [], []),
  (1, .getfield 9, 3, .null, [0, 0, 1], [(1, 57)]),
  (4, .aload_n 0, 1, .null, [], []),
  (5, .getfield 9, 3, .null, [0, 0, 1], [(1, 57)]),
  (8, .invokestatic 26, 3, .null, [19, 2, 0, 0, 0], [(2, 94), (2, 95), (1, 10), (2, 96)]),
  (11, .aload_n 1, 1, .null, [], []),
  (12, .getfield 15, 3, .null, [0, 1, 1], [(1, 58)]),
  (15, .aload_n 0, 1, .null, [], []),
  (16, .getfield 15, 3, .null, [0, 1, 1], [(1, 58)]),
  (19, .invokestatic 26, 3, .null, [19, 2, 0, 0, 0], [(2, 94), (2, 95), (1, 10), (2, 96)]),
  (22, .aload_n 0, 1, .null, [], []),
  (23, .aload_n 1, 1, .null, [], []),
  (24, .getfield 22, 3, .null, [0, 2, 0], [(1, 59)]),
  (27, .putfield 22, 3, .null, [0, 2, 0, 2], [(1, 59)]),
  (30, .return_, 1, .null, [], [])]
def e_m20 : e_MD := (⟨"HexCampaign$Land", "copyFrom", "(LHexCampaign$Land;)V"⟩, prog_5_method_3_code, 2, none, [], e_c20)
-- 21: HexCampaign$Row.copy([I[I)V
set_option maxRecDepth 100000 in
def e_c21 : List e_I := [(0, .iconst 0, 1, .null, [], []),
  (1, .istore_n 2, 1, .null, [], []),
  (2, .iload_n 2, 1, .null, [], []),
  (3, .aload_n 0, 1, .null, [], []),
  (4, .arraylength, 1, .null, [], []),
  (5, .if_icmp .ge 21, 3, .null, [26], []),
  (8, .iload_n 2, 1, .null, [], []),
  (9, .aload_n 1, 1, .null, [], []),
  (10, .arraylength, 1, .null, [], []),
  (11, .if_icmp .ge 15, 3, .null, [26], []),
  (14, .aload_n 1, 1, .null, [], []),
  (15, .iload_n 2, 1, .null, [], []),
  (16, .aload_n 0, 1, .null, [], []),
  (17, .iload_n 2, 1, .null, [], []),
  (18, .iaload, 1, .null, [], []),
  (19, .iastore, 1, .null, [], []),
  (20, .iinc 2 1, 3, .null, [], []),
  (23, .goto (-21), 3, .null, [2], []),
  (26, .return_, 1, .null, [], [])]
def e_m21 : e_MD := (⟨"HexCampaign$Row", "copy", "([I[I)V"⟩, prog_10_method_6_code, 3, none, [], e_c21)
-- 22: HexCampaign$Units.copyFrom(LHexCampaign$Units;)V
set_option maxRecDepth 100000 in
def e_c22 : List e_I := [(0, .aload_n 0, 1, .null, [], []),
  (1, .aload_n 1, 1, .null, [], []),
  (2, .getfield 33, 3, .null, [1, 0, 0], [(1, 74)]),
  (5, .putfield 33, 3, .null, [1, 0, 0, 0], [(1, 74)]),
  (8, .aload_n 0, 1, .null, [], []),
  (9, .aload_n 1, 1, .null, [], []),
  (10, .getfield 37, 3, .null, [1, 1, 0], [(1, 75)]),
  (13, .putfield 37, 3, .null, [1, 1, 0, 0], [(1, 75)]),
  (16, .aload_n 0, 1, .null, [], []),
  (17, .aload_n 1, 1, .null, [], []),
  (18, .getfield 40, 3, .null, [1, 2, 0], [(1, 76)]),
  (21, .putfield 40, 3, .null, [1, 2, 0, 0], [(1, 76)]),
  (24, .aload_n 0, 1, .null, [], []),
  (25, .aload_n 1, 1, .null, [], []),
  (26, .getfield 52, 3, .null, [1, 3, 0], [(1, 77)]),
  (29, .putfield 52, 3, .null, [1, 3, 0, 0], [(1, 77)]),
  (32, .aload_n 0, 1, .null, [], []),
  (33, .aload_n 1, 1, .null, [], []),
  (34, .getfield 55, 3, .null, [1, 4, 0], [(1, 78)]),
  (37, .putfield 55, 3, .null, [1, 4, 0, 0], [(1, 78)]),
  (40, .aload_n 1, 1, .null, [], []),
  (41, .getfield 9, 3, .null, [1, 5, 1], [(1, 79)]),
  (44, .aload_n 0, 1, .null, [], []),
  (45, .getfield 9, 3, .null, [1, 5, 1], [(1, 79)]),
  (48, .invokestatic 58, 3, .null, [21, 2, 0, 0, 0], [(2, 101), (2, 102), (1, 10), (2, 103)]),
  (51, .aload_n 1, 1, .null, [], []),
  (52, .getfield 15, 3, .null, [1, 6, 1], [(1, 80)]),
  (55, .aload_n 0, 1, .null, [], []),
  (56, .getfield 15, 3, .null, [1, 6, 1], [(1, 80)]),
  (59, .invokestatic 58, 3, .null, [21, 2, 0, 0, 0], [(2, 101), (2, 102), (1, 10), (2, 103)]),
  (62, .aload_n 1, 1, .null, [], []),
  (63, .getfield 18, 3, .null, [1, 7, 1], [(1, 81)]),
  (66, .aload_n 0, 1, .null, [], []),
  (67, .getfield 18, 3, .null, [1, 7, 1], [(1, 81)]),
  (70, .invokestatic 58, 3, .null, [21, 2, 0, 0, 0], [(2, 101), (2, 102), (1, 10), (2, 103)]),
  (73, .aload_n 1, 1, .null, [], []),
  (74, .getfield 21, 3, .null, [1, 8, 1], [(1, 82)]),
  (77, .aload_n 0, 1, .null, [], []),
  (78, .getfield 21, 3, .null, [1, 8, 1], [(1, 82)]),
  (81, .invokestatic 58, 3, .null, [21, 2, 0, 0, 0], [(2, 101), (2, 102), (1, 10), (2, 103)]),
  (84, .aload_n 1, 1, .null, [], []),
  (85, .getfield 24, 3, .null, [1, 9, 1], [(1, 83)]),
  (88, .aload_n 0, 1, .null, [], []),
  (89, .getfield 24, 3, .null, [1, 9, 1], [(1, 83)]),
  (92, .invokestatic 58, 3, .null, [21, 2, 0, 0, 0], [(2, 101), (2, 102), (1, 10), (2, 103)]),
  (95, .aload_n 1, 1, .null, [], []),
  (96, .getfield 27, 3, .null, [1, 10, 1], [(1, 84)]),
  (99, .aload_n 0, 1, .null, [], []),
  (100, .getfield 27, 3, .null, [1, 10, 1], [(1, 84)]),
  (103, .invokestatic 58, 3, .null, [21, 2, 0, 0, 0], [(2, 101), (2, 102), (1, 10), (2, 103)]),
  (106, .aload_n 1, 1, .null, [], []),
  (107, .getfield 30, 3, .null, [1, 11, 1], [(1, 85)]),
  (110, .aload_n 0, 1, .null, [], []),
  (111, .getfield 30, 3, .null, [1, 11, 1], [(1, 85)]),
  (114, .invokestatic 58, 3, .null, [21, 2, 0, 0, 0], [(2, 101), (2, 102), (1, 10), (2, 103)]),
  (117, .return_, 1, .null, [], [])]
def e_m22 : e_MD := (⟨"HexCampaign$Units", "copyFrom", "(LHexCampaign$Units;)V"⟩, prog_11_method_3_code, 2, none, [], e_c22)
-- 23: HexCampaign$Game.copyFrom(LHexCampaign$Game;)V
set_option maxRecDepth 100000 in
def e_c23 : List e_I := [(0, .aload_n 0, 1, .null, [], []),
  (1, .getfield 12, 3, .null, [2, 0, 1], [(1, 112)]),
  (4, .aload_n 1, 1, .null, [], []),
  (5, .getfield 12, 3, .null, [2, 0, 1], [(1, 112)]),
  (8, .invokevirtual 51, 3, .null, [20, 1, 0, 0, 0, 0], [(2, 90), (2, 91), (2, 92), (2, 93), (1, 4)]),
  (11, .aload_n 0, 1, .null, [], []),
  (12, .getfield 21, 3, .null, [2, 1, 1], [(1, 115)]),
  (15, .aload_n 1, 1, .null, [], []),
  (16, .getfield 21, 3, .null, [2, 1, 1], [(1, 115)]),
  (19, .invokevirtual 55, 3, .null, [22, 1, 0, 0, 0, 1], [(2, 97), (2, 98), (2, 99), (2, 100), (1, 5)]),
  (22, .aload_n 0, 1, .null, [], []),
  (23, .aload_n 1, 1, .null, [], []),
  (24, .getfield 29, 3, .null, [2, 2, 0], [(1, 118)]),
  (27, .putfield 29, 3, .null, [2, 2, 0, 0], [(1, 118)]),
  (30, .aload_n 0, 1, .null, [], []),
  (31, .aload_n 1, 1, .null, [], []),
  (32, .getfield 33, 3, .null, [2, 3, 0], [(1, 121)]),
  (35, .putfield 33, 3, .null, [2, 3, 0, 0], [(1, 121)]),
  (38, .aload_n 0, 1, .null, [], []),
  (39, .aload_n 1, 1, .null, [], []),
  (40, .getfield 36, 3, .null, [2, 4, 0], [(1, 123)]),
  (43, .putfield 36, 3, .null, [2, 4, 0, 0], [(1, 123)]),
  (46, .aload_n 0, 1, .null, [], []),
  (47, .aload_n 1, 1, .null, [], []),
  (48, .getfield 39, 3, .null, [2, 5, 0], [(1, 126)]),
  (51, .putfield 39, 3, .null, [2, 5, 0, 0], [(1, 126)]),
  (54, .aload_n 0, 1, .null, [], []),
  (55, .aload_n 1, 1, .null, [], []),
  (56, .getfield 42, 3, .null, [2, 6, 0], [(1, 129)]),
  (59, .putfield 42, 3, .null, [2, 6, 0, 0], [(1, 129)]),
  (62, .aload_n 0, 1, .null, [], []),
  (63, .aload_n 1, 1, .null, [], []),
  (64, .getfield 45, 3, .null, [2, 7, 0], [(1, 132)]),
  (67, .putfield 45, 3, .null, [2, 7, 0, 0], [(1, 132)]),
  (70, .aload_n 0, 1, .null, [], []),
  (71, .aload_n 1, 1, .null, [], []),
  (72, .getfield 48, 3, .null, [2, 8, 0], [(1, 135)]),
  (75, .putfield 48, 3, .null, [2, 8, 0, 0], [(1, 135)]),
  (78, .return_, 1, .null, [], [])]
def e_m23 : e_MD := (⟨"HexCampaign$Game", "copyFrom", "(LHexCampaign$Game;)V"⟩, prog_2_method_3_code, 2, none, [], e_c23)
-- 24: java/lang/Math.min(II)I
set_option maxRecDepth 100000 in
def e_c24 : List e_I := [(0, .iload_n 0, 1, .null, [], []),
  (1, .iload_n 1, 1, .null, [], []),
  (2, .if_icmp .gt 7, 3, .null, [9], []),
  (5, .iload_n 0, 1, .null, [], []),
  (6, .goto 4, 3, .null, [10], []),
  (9, .iload_n 1, 1, .null, [], []),
  (10, .ireturn, 1, .null, [], [])]
def e_m24 : e_MD := (⟨"java/lang/Math", "min", "(II)I"⟩, prog_25_method_69_code, 2, (some .int), [], e_c24)
-- 25: HexCampaign$History.keep(LHexCampaign$Game;)V
set_option maxRecDepth 100000 in
def e_c25 : List e_I := [(0, .aload_n 0, 1, .null, [], []),
  (1, .aload_n 0, 1, .null, [], []),
  (2, .getfield 20, 3, .null, [5, 1, 0], [(1, 215)]),
  (5, .invokevirtual 23, 3, .null, [18, 1, 0, 0, 0, 5], [(2, 82), (2, 84), (0, 0), (2, 85), (1, 7)]),
  (8, .astore_n 2, 1, .null, [], []),
  (9, .aload_n 2, 1, .null, [], []),
  (10, .ifnull 48, 3, .null, [58], []),
  (13, .aload_n 2, 1, .null, [], []),
  (14, .aload_n 1, 1, .null, [], []),
  (15, .invokevirtual 27, 3, .null, [23, 1, 0, 0, 0, 2], [(2, 86), (2, 87), (2, 88), (2, 89), (1, 3)]),
  (18, .aload_n 0, 1, .null, [], []),
  (19, .aload_n 0, 1, .null, [], []),
  (20, .getfield 20, 3, .null, [5, 1, 0], [(1, 215)]),
  (23, .iconst 1, 1, .null, [], []),
  (24, .iadd, 1, .null, [], []),
  (25, .bipush 8, 2, .null, [], []),
  (27, .if_icmp .ge 12, 3, .null, [39], []),
  (30, .aload_n 0, 1, .null, [], []),
  (31, .getfield 20, 3, .null, [5, 1, 0], [(1, 215)]),
  (34, .iconst 1, 1, .null, [], []),
  (35, .iadd, 1, .null, [], []),
  (36, .goto 4, 3, .null, [40], []),
  (39, .iconst 0, 1, .null, [], []),
  (40, .putfield 20, 3, .null, [5, 1, 0, 0], [(1, 215)]),
  (43, .aload_n 0, 1, .null, [], []),
  (44, .aload_n 0, 1, .null, [], []),
  (45, .getfield 16, 3, .null, [5, 2, 0], [(1, 216)]),
  (48, .iconst 1, 1, .null, [], []),
  (49, .iadd, 1, .null, [], []),
  (50, .bipush 8, 2, .null, [], []),
  (52, .invokestatic 31, 3, .null, [24, 2, 0, 0, 0], [(2, 104), (2, 105), (1, 22), (2, 106)]),
  (55, .putfield 16, 3, .null, [5, 2, 0, 0], [(1, 216)]),
  (58, .return_, 1, .null, [], [])]
def e_m25 : e_MD := (⟨"HexCampaign$History", "keep", "(LHexCampaign$Game;)V"⟩, prog_4_method_4_code, 3, none, [], e_c25)
-- 26: HexCampaign$Units.ownedBy(I)I
set_option maxRecDepth 100000 in
def e_c26 : List e_I := [(0, .iload_n 1, 1, .null, [], []),
  (1, .ifCond .ne 17, 3, .null, [18], []),
  (4, .aload_n 0, 1, .null, [], []),
  (5, .getfield 37, 3, .null, [1, 1, 0], [(1, 75)]),
  (8, .aload_n 0, 1, .null, [], []),
  (9, .getfield 40, 3, .null, [1, 2, 0], [(1, 76)]),
  (12, .iconst (-1), 1, .null, [], []),
  (13, .ixor, 1, .null, [], []),
  (14, .iand, 1, .null, [], []),
  (15, .goto 12, 3, .null, [27], []),
  (18, .aload_n 0, 1, .null, [], []),
  (19, .getfield 37, 3, .null, [1, 1, 0], [(1, 75)]),
  (22, .aload_n 0, 1, .null, [], []),
  (23, .getfield 40, 3, .null, [1, 2, 0], [(1, 76)]),
  (26, .iand, 1, .null, [], []),
  (27, .ireturn, 1, .null, [], [])]
def e_m26 : e_MD := (⟨"HexCampaign$Units", "ownedBy", "(I)I"⟩, prog_11_method_12_code, 2, (some .int), [], e_c26)
-- 27: HexCampaign$Units.has(II)Z
set_option maxRecDepth 100000 in
def e_c27 : List e_I := [(0, .iload_n 0, 1, .null, [], []),
  (1, .iload_n 1, 1, .null, [], []),
  (2, .iushr, 1, .null, [], []),
  (3, .iconst 1, 1, .null, [], []),
  (4, .iand, 1, .null, [], []),
  (5, .ifCond .eq 7, 3, .null, [12], []),
  (8, .iconst 1, 1, .null, [], []),
  (9, .goto 4, 3, .null, [13], []),
  (12, .iconst 0, 1, .null, [], []),
  (13, .ireturn, 1, .null, [], [])]
def e_m27 : e_MD := (⟨"HexCampaign$Units", "has", "(II)Z"⟩, prog_11_method_6_code, 2, (some .boolean), [], e_c27)
-- 28: HexCampaign$Hexes.only(I)J
set_option maxRecDepth 100000 in
def e_c28 : List e_I := [(0, .lconst 1, 1, .null, [], []),
  (1, .iload_n 0, 1, .null, [], []),
  (2, .lshl, 1, .null, [], []),
  (3, .lreturn, 1, .null, [], [])]
def e_m28 : e_MD := (⟨"HexCampaign$Hexes", "only", "(I)J"⟩, prog_3_method_2_code, 1, (some .long), [], e_c28)
-- 29: HexCampaign$Units.placesOf(I)J
set_option maxRecDepth 100000 in
def e_c29 : List e_I := [(0, .lconst 0, 1, .null, [], []),
  (1, .lstore_n 2, 1, .null, [], []),
  (2, .iconst 0, 1, .null, [], []),
  (3, .istore 4, 2, .null, [], []),
  (5, .iload 4, 2, .null, [], []),
  (7, .aload_n 0, 1, .null, [], []),
  (8, .getfield 9, 3, .null, [1, 5, 1], [(1, 79)]),
  (11, .arraylength, 1, .null, [], []),
  (12, .if_icmp .ge 31, 3, .null, [43], []),
  (15, .iload_n 1, 1, .null, [], []),
  (16, .iload 4, 2, .null, [], []),
  (18, .invokestatic 62, 3, .null, [27, 2, 0, 0, 0], [(2, 129), (2, 130), (1, 5), (2, 131)]),
  (21, .ifCond .eq 16, 3, .null, [37], []),
  (24, .lload_n 2, 1, .null, [], []),
  (25, .aload_n 0, 1, .null, [], []),
  (26, .getfield 9, 3, .null, [1, 5, 1], [(1, 79)]),
  (29, .iload 4, 2, .null, [], []),
  (31, .iaload, 1, .null, [], []),
  (32, .invokestatic 76, 3, .null, [28, 1, 0, 0, 0], [(2, 132), (2, 133), (1, 20), (2, 134)]),
  (35, .lor, 1, .null, [], []),
  (36, .lstore_n 2, 1, .null, [], []),
  (37, .iinc 4 1, 3, .null, [], []),
  (40, .goto (-35), 3, .null, [5], []),
  (43, .lload_n 2, 1, .null, [], []),
  (44, .lreturn, 1, .null, [], [])]
def e_m29 : e_MD := (⟨"HexCampaign$Units", "placesOf", "(I)J"⟩, prog_11_method_25_code, 5, (some .long), [], e_c29)
-- 30: HexCampaign$Row.readSet([JI)J
set_option maxRecDepth 100000 in
def e_c30 : List e_I := [(0, .iload_n 1, 1, .null, [], []),
  (1, .ifCond .lt 15, 3, .null, [16], []),
  (4, .iload_n 1, 1, .null, [], []),
  (5, .aload_n 0, 1, .null, [], []),
  (6, .arraylength, 1, .null, [], []),
  (7, .if_icmp .ge 9, 3, .null, [16], []),
  (10, .aload_n 0, 1, .null, [], []),
  (11, .iload_n 1, 1, .null, [], []),
  (12, .laload, 1, .null, [], []),
  (13, .goto 4, 3, .null, [17], []),
  (16, .lconst 0, 1, .null, [], []),
  (17, .lreturn, 1, .null, [], [])]
def e_m30 : e_MD := (⟨"HexCampaign$Row", "readSet", "([JI)J"⟩, prog_10_method_7_code, 2, (some .long), [], e_c30)
-- 31: HexCampaign$Land.waters()J
set_option maxRecDepth 100000 in
def e_c31 : List e_I := [(0, .aload_n 0, 1, .null, [], []),
  (1, .getfield 9, 3, .null, [0, 0, 1], [(1, 57)]),
  (4, .iconst 5, 1, .null, [], []),
  (5, .invokestatic 42, 3, .null, [30, 2, 0, 0, 0], [(2, 139), (2, 140), (1, 10), (2, 141)]),
  (8, .lreturn, 1, .null, [], [])]
def e_m31 : e_MD := (⟨"HexCampaign$Land", "waters", "()J"⟩, prog_5_method_9_code, 1, (some .long), [], e_c31)
-- 32: HexCampaign$Hexes.around(J)J
set_option maxRecDepth 100000 in
def e_c32 : List e_I := [(0, .lload_n 0, 1, .null, [], []),
  (1, .ldc2_w 15, 3, .long (-18049651735527938), [], [(2, 149)]),
  (4, .land, 1, .null, [], []),
  (5, .iconst 1, 1, .null, [], []),
  (6, .lushr, 1, .null, [], []),
  (7, .lstore_n 2, 1, .null, [], []),
  (8, .lload_n 0, 1, .null, [], []),
  (9, .ldc2_w 17, 3, .long (-4620710844295151873), [], [(2, 150)]),
  (12, .land, 1, .null, [], []),
  (13, .iconst 1, 1, .null, [], []),
  (14, .lshl, 1, .null, [], []),
  (15, .lstore 4, 2, .null, [], []),
  (17, .lload_n 0, 1, .null, [], []),
  (18, .lload_n 2, 1, .null, [], []),
  (19, .ldc2_w 19, 3, .long 9205392754131862015, [], [(2, 151)]),
  (22, .land, 1, .null, [], []),
  (23, .lor, 1, .null, [], []),
  (24, .lload 4, 2, .null, [], []),
  (26, .ldc2_w 21, 3, .long (-9205392754131862016), [], [(2, 152)]),
  (29, .land, 1, .null, [], []),
  (30, .lor, 1, .null, [], []),
  (31, .lstore 6, 2, .null, [], []),
  (33, .lload_n 2, 1, .null, [], []),
  (34, .lload 4, 2, .null, [], []),
  (36, .lor, 1, .null, [], []),
  (37, .lload 6, 2, .null, [], []),
  (39, .bipush 9, 2, .null, [], []),
  (41, .lshl, 1, .null, [], []),
  (42, .lor, 1, .null, [], []),
  (43, .lload 6, 2, .null, [], []),
  (45, .bipush 9, 2, .null, [], []),
  (47, .lushr, 1, .null, [], []),
  (48, .lor, 1, .null, [], []),
  (49, .ldc2_w 23, 3, .long 9223372036854775807, [], [(2, 153)]),
  (52, .land, 1, .null, [], []),
  (53, .lreturn, 1, .null, [], [])]
def e_m32 : e_MD := (⟨"HexCampaign$Hexes", "around", "(J)J"⟩, prog_3_method_5_code, 8, (some .long), [], e_c32)
-- 33: HexCampaign$Land.zoneAround(J)J
set_option maxRecDepth 100000 in
def e_c33 : List e_I := [(0, .lload_n 1, 1, .null, [], []),
  (1, .invokestatic 68, 3, .null, [32, 1, 0, 0, 0], [(2, 146), (2, 147), (1, 20), (2, 148)]),
  (4, .aload_n 0, 1, .null, [], []),
  (5, .invokevirtual 72, 3, .null, [31, 0, 0, 0, 0, 0], [(2, 154), (2, 136), (2, 137), (2, 138), (1, 4)]),
  (8, .ldc2_w 40, 3, .long (-1), [], [(2, 155)]),
  (11, .lxor, 1, .null, [], []),
  (12, .land, 1, .null, [], []),
  (13, .aload_n 0, 1, .null, [], []),
  (14, .getfield 9, 3, .null, [0, 0, 1], [(1, 57)]),
  (17, .iconst 4, 1, .null, [], []),
  (18, .invokestatic 42, 3, .null, [30, 2, 0, 0, 0], [(2, 139), (2, 140), (1, 10), (2, 141)]),
  (21, .ldc2_w 40, 3, .long (-1), [], [(2, 155)]),
  (24, .lxor, 1, .null, [], []),
  (25, .land, 1, .null, [], []),
  (26, .lreturn, 1, .null, [], [])]
def e_m33 : e_MD := (⟨"HexCampaign$Land", "zoneAround", "(J)J"⟩, prog_5_method_15_code, 3, (some .long), [], e_c33)
-- 34: HexCampaign$Game.closedFor(I)J
set_option maxRecDepth 100000 in
def e_c34 : List e_I := [(0, .aload_n 0, 1, .null, [], []),
  (1, .getfield 21, 3, .null, [2, 1, 1], [(1, 115)]),
  (4, .aload_n 0, 1, .null, [], []),
  (5, .getfield 21, 3, .null, [2, 1, 1], [(1, 115)]),
  (8, .iload_n 1, 1, .null, [], []),
  (9, .invokevirtual 90, 3, .null, [26, 1, 0, 0, 0, 1], [(2, 124), (2, 112), (2, 113), (2, 114), (1, 5)]),
  (12, .invokevirtual 93, 3, .null, [29, 1, 0, 0, 0, 1], [(2, 125), (2, 126), (2, 127), (2, 128), (1, 5)]),
  (15, .lstore_n 2, 1, .null, [], []),
  (16, .aload_n 0, 1, .null, [], []),
  (17, .getfield 21, 3, .null, [2, 1, 1], [(1, 115)]),
  (20, .aload_n 0, 1, .null, [], []),
  (21, .getfield 21, 3, .null, [2, 1, 1], [(1, 115)]),
  (24, .iconst 1, 1, .null, [], []),
  (25, .iload_n 1, 1, .null, [], []),
  (26, .isub, 1, .null, [], []),
  (27, .invokevirtual 90, 3, .null, [26, 1, 0, 0, 0, 1], [(2, 124), (2, 112), (2, 113), (2, 114), (1, 5)]),
  (30, .invokevirtual 93, 3, .null, [29, 1, 0, 0, 0, 1], [(2, 125), (2, 126), (2, 127), (2, 128), (1, 5)]),
  (33, .lstore 4, 2, .null, [], []),
  (35, .aload_n 0, 1, .null, [], []),
  (36, .getfield 12, 3, .null, [2, 0, 1], [(1, 112)]),
  (39, .invokevirtual 120, 3, .null, [31, 0, 0, 0, 0, 0], [(2, 135), (2, 136), (2, 137), (2, 138), (1, 4)]),
  (42, .lload 4, 2, .null, [], []),
  (44, .lor, 1, .null, [], []),
  (45, .aload_n 0, 1, .null, [], []),
  (46, .getfield 12, 3, .null, [2, 0, 1], [(1, 112)]),
  (49, .lload 4, 2, .null, [], []),
  (51, .invokevirtual 97, 3, .null, [33, 1, 0, 0, 0, 0], [(2, 142), (2, 143), (2, 144), (2, 145), (1, 4)]),
  (54, .lload_n 2, 1, .null, [], []),
  (55, .ldc2_w 124, 3, .long (-1), [], [(2, 156)]),
  (58, .lxor, 1, .null, [], []),
  (59, .land, 1, .null, [], []),
  (60, .lor, 1, .null, [], []),
  (61, .lreturn, 1, .null, [], [])]
def e_m34 : e_MD := (⟨"HexCampaign$Game", "closedFor", "(I)J"⟩, prog_2_method_12_code, 6, (some .long), [], e_c34)
-- 35: HexCampaign$Land.roads()J
set_option maxRecDepth 100000 in
def e_c35 : List e_I := [(0, .aload_n 0, 1, .null, [], []),
  (1, .getfield 22, 3, .null, [0, 2, 0], [(1, 59)]),
  (4, .lreturn, 1, .null, [], [])]
def e_m35 : e_MD := (⟨"HexCampaign$Land", "roads", "()J"⟩, prog_5_method_7_code, 1, (some .long), [], e_c35)
-- 36: HexCampaign$Row.read([II)I
set_option maxRecDepth 100000 in
def e_c36 : List e_I := [(0, .iload_n 1, 1, .null, [], []),
  (1, .ifCond .lt 15, 3, .null, [16], []),
  (4, .iload_n 1, 1, .null, [], []),
  (5, .aload_n 0, 1, .null, [], []),
  (6, .arraylength, 1, .null, [], []),
  (7, .if_icmp .ge 9, 3, .null, [16], []),
  (10, .aload_n 0, 1, .null, [], []),
  (11, .iload_n 1, 1, .null, [], []),
  (12, .iaload, 1, .null, [], []),
  (13, .goto 4, 3, .null, [17], []),
  (16, .iconst 0, 1, .null, [], []),
  (17, .ireturn, 1, .null, [], [])]
def e_m36 : e_MD := (⟨"HexCampaign$Row", "read", "([II)I"⟩, prog_10_method_2_code, 2, (some .int), [], e_c36)
-- 37: HexCampaign$Land.priceOf(II)I
set_option maxRecDepth 100000 in
def e_c37 : List e_I := [(0, .iload_n 0, 1, .null, [], []),
  (1, .iconst 5, 1, .null, [], []),
  (2, .if_icmp .ge 17, 3, .null, [19], []),
  (5, .getstatic 65, 3, .retAddr 10, [0], [(2, 174)]),
  (8, .iconst 5, 1, .null, [], []),
  (9, .iload_n 1, 1, .null, [], []),
  (10, .imul, 1, .null, [], []),
  (11, .iload_n 0, 1, .null, [], []),
  (12, .iadd, 1, .null, [], []),
  (13, .invokestatic 54, 3, .null, [36, 2, 0, 0, 0], [(2, 176), (2, 177), (1, 10), (2, 178)]),
  (16, .goto 4, 3, .null, [20], []),
  (19, .iconst 0, 1, .null, [], []),
  (20, .ireturn, 1, .null, [], [])]
def e_m37 : e_MD := (⟨"HexCampaign$Land", "priceOf", "(II)I"⟩, prog_5_method_13_code, 2, (some .int), [], e_c37)
-- 38: HexCampaign$Land.enteredFor(II)J
set_option maxRecDepth 100000 in
def e_c38 : List e_I := [(0, .lconst 0, 1, .null, [], []),
  (1, .lstore_n 3, 1, .null, [], []),
  (2, .iconst 0, 1, .null, [], []),
  (3, .istore 5, 2, .null, [], []),
  (5, .iload 5, 2, .null, [], []),
  (7, .iconst 5, 1, .null, [], []),
  (8, .if_icmp .ge 39, 3, .null, [47], []),
  (11, .iload 5, 2, .null, [], []),
  (13, .aload_n 0, 1, .null, [], []),
  (14, .getfield 9, 3, .null, [0, 0, 1], [(1, 57)]),
  (17, .arraylength, 1, .null, [], []),
  (18, .if_icmp .ge 29, 3, .null, [47], []),
  (21, .iload 5, 2, .null, [], []),
  (23, .iload_n 2, 1, .null, [], []),
  (24, .invokestatic 61, 3, .null, [37, 2, 0, 0, 0], [(2, 171), (2, 172), (1, 4), (2, 173)]),
  (27, .iload_n 1, 1, .null, [], []),
  (28, .if_icmp .ne 13, 3, .null, [41], []),
  (31, .lload_n 3, 1, .null, [], []),
  (32, .aload_n 0, 1, .null, [], []),
  (33, .getfield 9, 3, .null, [0, 0, 1], [(1, 57)]),
  (36, .iload 5, 2, .null, [], []),
  (38, .laload, 1, .null, [], []),
  (39, .lor, 1, .null, [], []),
  (40, .lstore_n 3, 1, .null, [], []),
  (41, .iinc 5 1, 3, .null, [], []),
  (44, .goto (-39), 3, .null, [5], []),
  (47, .lload_n 3, 1, .null, [], []),
  (48, .lreturn, 1, .null, [], [])]
def e_m38 : e_MD := (⟨"HexCampaign$Land", "enteredFor", "(II)J"⟩, prog_5_method_12_code, 6, (some .long), [], e_c38)
-- 39: HexCampaign$Waves.layOut(LHexCampaign$Land;I)V
set_option maxRecDepth 100000 in
def e_c39 : List e_I := [(0, .aload_n 0, 1, .null, [], []),
  (1, .aload_n 1, 1, .null, [], []),
  (2, .invokevirtual 25, 3, .null, [35, 0, 0, 0, 0, 0], [(2, 163), (2, 164), (2, 165), (2, 166), (1, 4)]),
  (5, .putfield 31, 3, .null, [3, 5, 0, 2], [(1, 166)]),
  (8, .iconst 0, 1, .null, [], []),
  (9, .istore_n 3, 1, .null, [], []),
  (10, .iload_n 3, 1, .null, [], []),
  (11, .aload_n 0, 1, .null, [], []),
  (12, .getfield 18, 3, .null, [3, 2, 1], [(1, 163)]),
  (15, .arraylength, 1, .null, [], []),
  (16, .if_icmp .ge 21, 3, .null, [37], []),
  (19, .aload_n 0, 1, .null, [], []),
  (20, .getfield 18, 3, .null, [3, 2, 1], [(1, 163)]),
  (23, .iload_n 3, 1, .null, [], []),
  (24, .aload_n 1, 1, .null, [], []),
  (25, .iload_n 3, 1, .null, [], []),
  (26, .iload_n 2, 1, .null, [], []),
  (27, .invokevirtual 34, 3, .null, [38, 2, 0, 0, 0, 0], [(2, 167), (2, 168), (2, 169), (2, 170), (1, 4)]),
  (30, .lastore, 1, .null, [], []),
  (31, .iinc 3 1, 3, .null, [], []),
  (34, .goto (-24), 3, .null, [10], []),
  (37, .return_, 1, .null, [], [])]
def e_m39 : e_MD := (⟨"HexCampaign$Waves", "layOut", "(LHexCampaign$Land;I)V"⟩, prog_12_method_2_code, 4, none, [], e_c39)
-- 40: HexCampaign$Land.sourcesOf(I)J
set_option maxRecDepth 100000 in
def e_c40 : List e_I := [(0, .aload_n 0, 1, .null, [], []),
  (1, .getfield 15, 3, .null, [0, 1, 1], [(1, 58)]),
  (4, .iload_n 1, 1, .null, [], []),
  (5, .invokestatic 42, 3, .null, [30, 2, 0, 0, 0], [(2, 139), (2, 140), (1, 10), (2, 141)]),
  (8, .lreturn, 1, .null, [], [])]
def e_m40 : e_MD := (⟨"HexCampaign$Land", "sourcesOf", "(I)J"⟩, prog_5_method_8_code, 2, (some .long), [], e_c40)
-- 41: HexCampaign$Waves.stepsFrom(JIJ)J
set_option maxRecDepth 100000 in
def e_c41 : List e_I := [(0, .lload_n 1, 1, .null, [], []),
  (1, .invokestatic 64, 3, .null, [32, 1, 0, 0, 0], [(2, 198), (2, 147), (1, 20), (2, 148)]),
  (4, .lload 4, 2, .null, [], []),
  (6, .land, 1, .null, [], []),
  (7, .lstore 6, 2, .null, [], []),
  (9, .iload_n 3, 1, .null, [], []),
  (10, .iconst 1, 1, .null, [], []),
  (11, .if_icmp .ne 23, 3, .null, [34], []),
  (14, .lload 6, 2, .null, [], []),
  (16, .lload_n 1, 1, .null, [], []),
  (17, .aload_n 0, 1, .null, [], []),
  (18, .getfield 31, 3, .null, [3, 5, 0], [(1, 166)]),
  (21, .land, 1, .null, [], []),
  (22, .invokestatic 64, 3, .null, [32, 1, 0, 0, 0], [(2, 198), (2, 147), (1, 20), (2, 148)]),
  (25, .aload_n 0, 1, .null, [], []),
  (26, .getfield 31, 3, .null, [3, 5, 0], [(1, 166)]),
  (29, .land, 1, .null, [], []),
  (30, .lor, 1, .null, [], []),
  (31, .goto 5, 3, .null, [36], []),
  (34, .lload 6, 2, .null, [], []),
  (36, .lreturn, 1, .null, [], [])]
def e_m41 : e_MD := (⟨"HexCampaign$Waves", "stepsFrom", "(JIJ)J"⟩, prog_12_method_5_code, 8, (some .long), [], e_c41)
-- 42: HexCampaign$Waves.arrivals(I)J
set_option maxRecDepth 100000 in
def e_c42 : List e_I := [(0, .lconst 0, 1, .null, [], []),
  (1, .lstore_n 2, 1, .null, [], []),
  (2, .iconst 1, 1, .null, [], []),
  (3, .istore 4, 2, .null, [], []),
  (5, .iload 4, 2, .null, [], []),
  (7, .aload_n 0, 1, .null, [], []),
  (8, .getfield 18, 3, .null, [3, 2, 1], [(1, 163)]),
  (11, .arraylength, 1, .null, [], []),
  (12, .if_icmp .ge 87, 3, .null, [99], []),
  (15, .iload 4, 2, .null, [], []),
  (17, .iload_n 1, 1, .null, [], []),
  (18, .if_icmp .gt 81, 3, .null, [99], []),
  (21, .aload_n 0, 1, .null, [], []),
  (22, .getfield 11, 3, .null, [3, 0, 1], [(1, 161)]),
  (25, .iload_n 1, 1, .null, [], []),
  (26, .iload 4, 2, .null, [], []),
  (28, .isub, 1, .null, [], []),
  (29, .invokestatic 50, 3, .null, [30, 2, 0, 0, 0], [(2, 191), (2, 140), (1, 10), (2, 141)]),
  (32, .aload_n 0, 1, .null, [], []),
  (33, .getfield 38, 3, .null, [3, 6, 0], [(1, 167)]),
  (36, .ldc2_w 48, 3, .long (-1), [], [(2, 192)]),
  (39, .lxor, 1, .null, [], []),
  (40, .land, 1, .null, [], []),
  (41, .lstore 5, 2, .null, [], []),
  (43, .lload 5, 2, .null, [], []),
  (45, .lconst 0, 1, .null, [], []),
  (46, .lcmp, 1, .null, [], []),
  (47, .ifCond .eq 46, 3, .null, [93], []),
  (50, .iload_n 1, 1, .null, [], []),
  (51, .iload 4, 2, .null, [], []),
  (53, .if_icmp .ne 14, 3, .null, [67], []),
  (56, .aload_n 0, 1, .null, [], []),
  (57, .getfield 41, 3, .null, [3, 7, 0], [(1, 168)]),
  (60, .ldc2_w 48, 3, .long (-1), [], [(2, 192)]),
  (63, .lxor, 1, .null, [], []),
  (64, .goto 6, 3, .null, [70], []),
  (67, .ldc2_w 58, 3, .long 9223372036854775807, [], [(2, 193)]),
  (70, .lstore 7, 2, .null, [], []),
  (72, .lload_n 2, 1, .null, [], []),
  (73, .aload_n 0, 1, .null, [], []),
  (74, .lload 5, 2, .null, [], []),
  (76, .iload 4, 2, .null, [], []),
  (78, .aload_n 0, 1, .null, [], []),
  (79, .getfield 18, 3, .null, [3, 2, 1], [(1, 163)]),
  (82, .iload 4, 2, .null, [], []),
  (84, .laload, 1, .null, [], []),
  (85, .invokevirtual 60, 3, .null, [41, 3, 0, 0, 0, 3], [(2, 194), (2, 196), (0, 2), (2, 197), (1, 6)]),
  (88, .lload 7, 2, .null, [], []),
  (90, .land, 1, .null, [], []),
  (91, .lor, 1, .null, [], []),
  (92, .lstore_n 2, 1, .null, [], []),
  (93, .iinc 4 1, 3, .null, [], []),
  (96, .goto (-91), 3, .null, [5], []),
  (99, .lload_n 2, 1, .null, [], []),
  (100, .lreturn, 1, .null, [], [])]
def e_m42 : e_MD := (⟨"HexCampaign$Waves", "arrivals", "(I)J"⟩, prog_12_method_4_code, 9, (some .long), [], e_c42)
-- 43: HexCampaign$Waves.flood(JJJJ)V
set_option maxRecDepth 100000 in
def e_c43 : List e_I := [(0, .aload_n 0, 1, .null, [], []),
  (1, .lload 5, 2, .null, [], []),
  (3, .putfield 38, 3, .null, [3, 6, 0, 2], [(1, 167)]),
  (6, .aload_n 0, 1, .null, [], []),
  (7, .lload 7, 2, .null, [], []),
  (9, .putfield 41, 3, .null, [3, 7, 0, 2], [(1, 168)]),
  (12, .lconst 0, 1, .null, [], []),
  (13, .lstore 9, 2, .null, [], []),
  (15, .iconst 0, 1, .null, [], []),
  (16, .istore 11, 2, .null, [], []),
  (18, .iconst 0, 1, .null, [], []),
  (19, .istore 12, 2, .null, [], []),
  (21, .iload 12, 2, .null, [], []),
  (23, .aload_n 0, 1, .null, [], []),
  (24, .getfield 11, 3, .null, [3, 0, 1], [(1, 161)]),
  (27, .arraylength, 1, .null, [], []),
  (28, .if_icmp .ge 77, 3, .null, [105], []),
  (31, .lconst 0, 1, .null, [], []),
  (32, .lstore 13, 2, .null, [], []),
  (34, .iload 12, 2, .null, [], []),
  (36, .ifCond .ne 9, 3, .null, [45], []),
  (39, .lload_n 1, 1, .null, [], []),
  (40, .lstore 13, 2, .null, [], []),
  (42, .goto 30, 3, .null, [72], []),
  (45, .iload 12, 2, .null, [], []),
  (47, .iload 11, 2, .null, [], []),
  (49, .bipush 6, 2, .null, [], []),
  (51, .iadd, 1, .null, [], []),
  (52, .if_icmp .gt 20, 3, .null, [72], []),
  (55, .aload_n 0, 1, .null, [], []),
  (56, .iload 12, 2, .null, [], []),
  (58, .invokevirtual 44, 3, .null, [42, 1, 0, 0, 0, 3], [(2, 187), (2, 189), (0, 1), (2, 190), (1, 6)]),
  (61, .lload_n 3, 1, .null, [], []),
  (62, .land, 1, .null, [], []),
  (63, .lload 9, 2, .null, [], []),
  (65, .ldc2_w 48, 3, .long (-1), [], [(2, 192)]),
  (68, .lxor, 1, .null, [], []),
  (69, .land, 1, .null, [], []),
  (70, .lstore 13, 2, .null, [], []),
  (72, .aload_n 0, 1, .null, [], []),
  (73, .getfield 11, 3, .null, [3, 0, 1], [(1, 161)]),
  (76, .iload 12, 2, .null, [], []),
  (78, .lload 13, 2, .null, [], []),
  (80, .lastore, 1, .null, [], []),
  (81, .lload 9, 2, .null, [], []),
  (83, .lload 13, 2, .null, [], []),
  (85, .lor, 1, .null, [], []),
  (86, .lstore 9, 2, .null, [], []),
  (88, .lload 13, 2, .null, [], []),
  (90, .lconst 0, 1, .null, [], []),
  (91, .lcmp, 1, .null, [], []),
  (92, .ifCond .eq 7, 3, .null, [99], []),
  (95, .iload 12, 2, .null, [], []),
  (97, .istore 11, 2, .null, [], []),
  (99, .iinc 12 1, 3, .null, [], []),
  (102, .goto (-81), 3, .null, [21], []),
  (105, .return_, 1, .null, [], [])]
def e_m43 : e_MD := (⟨"HexCampaign$Waves", "flood", "(JJJJ)V"⟩, prog_12_method_3_code, 15, none, [], e_c43)
-- 44: HexCampaign$Waves.within(I)J
set_option maxRecDepth 100000 in
def e_c44 : List e_I := [(0, .lconst 0, 1, .null, [], []),
  (1, .lstore_n 2, 1, .null, [], []),
  (2, .iconst 0, 1, .null, [], []),
  (3, .istore 4, 2, .null, [], []),
  (5, .iload 4, 2, .null, [], []),
  (7, .aload_n 0, 1, .null, [], []),
  (8, .getfield 11, 3, .null, [3, 0, 1], [(1, 161)]),
  (11, .arraylength, 1, .null, [], []),
  (12, .if_icmp .ge 25, 3, .null, [37], []),
  (15, .iload 4, 2, .null, [], []),
  (17, .iload_n 1, 1, .null, [], []),
  (18, .if_icmp .gt 19, 3, .null, [37], []),
  (21, .lload_n 2, 1, .null, [], []),
  (22, .aload_n 0, 1, .null, [], []),
  (23, .getfield 11, 3, .null, [3, 0, 1], [(1, 161)]),
  (26, .iload 4, 2, .null, [], []),
  (28, .laload, 1, .null, [], []),
  (29, .lor, 1, .null, [], []),
  (30, .lstore_n 2, 1, .null, [], []),
  (31, .iinc 4 1, 3, .null, [], []),
  (34, .goto (-29), 3, .null, [5], []),
  (37, .lload_n 2, 1, .null, [], []),
  (38, .lreturn, 1, .null, [], [])]
def e_m44 : e_MD := (⟨"HexCampaign$Waves", "within", "(I)J"⟩, prog_12_method_7_code, 5, (some .long), [], e_c44)
-- 45: HexCampaign$Play.suppliedCells(I)J
set_option maxRecDepth 100000 in
def e_c45 : List e_I := [(0, .aload_n 0, 1, .null, [], []),
  (1, .getfield 12, 3, .null, [4, 0, 1], [(1, 186)]),
  (4, .iload_n 1, 1, .null, [], []),
  (5, .invokevirtual 38, 3, .null, [34, 1, 0, 0, 0, 2], [(2, 120), (2, 121), (2, 122), (2, 123), (1, 3)]),
  (8, .ldc2_w 42, 3, .long (-1), [], [(2, 157)]),
  (11, .lxor, 1, .null, [], []),
  (12, .ldc2_w 46, 3, .long 9223372036854775807, [], [(2, 158)]),
  (15, .land, 1, .null, [], []),
  (16, .lstore_n 2, 1, .null, [], []),
  (17, .aload_n 0, 1, .null, [], []),
  (18, .getfield 31, 3, .null, [4, 3, 1], [(1, 190)]),
  (21, .aload_n 0, 1, .null, [], []),
  (22, .getfield 22, 3, .null, [4, 1, 1], [(1, 188)]),
  (25, .aload_n 0, 1, .null, [], []),
  (26, .getfield 12, 3, .null, [4, 0, 1], [(1, 186)]),
  (29, .getfield 48, 3, .null, [2, 2, 0], [(1, 119)]),
  (32, .invokevirtual 52, 3, .null, [39, 2, 0, 0, 0, 3], [(2, 159), (2, 160), (2, 161), (2, 162), (1, 6)]),
  (35, .aload_n 0, 1, .null, [], []),
  (36, .getfield 31, 3, .null, [4, 3, 1], [(1, 190)]),
  (39, .aload_n 0, 1, .null, [], []),
  (40, .getfield 22, 3, .null, [4, 1, 1], [(1, 188)]),
  (43, .iload_n 1, 1, .null, [], []),
  (44, .invokevirtual 56, 3, .null, [40, 1, 0, 0, 0, 0], [(2, 179), (2, 180), (2, 181), (2, 182), (1, 4)]),
  (47, .lload_n 2, 1, .null, [], []),
  (48, .land, 1, .null, [], []),
  (49, .lload_n 2, 1, .null, [], []),
  (50, .lconst 0, 1, .null, [], []),
  (51, .lconst 0, 1, .null, [], []),
  (52, .invokevirtual 61, 3, .null, [43, 4, 0, 0, 0, 3], [(2, 183), (2, 184), (2, 185), (2, 186), (1, 6)]),
  (55, .aload_n 0, 1, .null, [], []),
  (56, .getfield 31, 3, .null, [4, 3, 1], [(1, 190)]),
  (59, .aload_n 0, 1, .null, [], []),
  (60, .getfield 12, 3, .null, [4, 0, 1], [(1, 186)]),
  (63, .getfield 65, 3, .null, [2, 5, 0], [(1, 127)]),
  (66, .invokevirtual 68, 3, .null, [44, 1, 0, 0, 0, 3], [(2, 199), (2, 200), (2, 201), (2, 202), (1, 6)]),
  (69, .lreturn, 1, .null, [], [])]
def e_m45 : e_MD := (⟨"HexCampaign$Play", "suppliedCells", "(I)J"⟩, prog_8_method_2_code, 4, (some .long), [], e_c45)
-- 46: HexCampaign$Hexes.has(JI)Z
set_option maxRecDepth 100000 in
def e_c46 : List e_I := [(0, .lload_n 0, 1, .null, [], []),
  (1, .iload_n 2, 1, .null, [], []),
  (2, .lushr, 1, .null, [], []),
  (3, .lconst 1, 1, .null, [], []),
  (4, .land, 1, .null, [], []),
  (5, .lconst 0, 1, .null, [], []),
  (6, .lcmp, 1, .null, [], []),
  (7, .ifCond .eq 7, 3, .null, [14], []),
  (10, .iconst 1, 1, .null, [], []),
  (11, .goto 4, 3, .null, [15], []),
  (14, .iconst 0, 1, .null, [], []),
  (15, .ireturn, 1, .null, [], [])]
def e_m46 : e_MD := (⟨"HexCampaign$Hexes", "has", "(JI)Z"⟩, prog_3_method_3_code, 3, (some .boolean), [], e_c46)
-- 47: HexCampaign$Units.only(I)I
set_option maxRecDepth 100000 in
def e_c47 : List e_I := [(0, .iconst 1, 1, .null, [], []),
  (1, .iload_n 0, 1, .null, [], []),
  (2, .ishl, 1, .null, [], []),
  (3, .ireturn, 1, .null, [], [])]
def e_m47 : e_MD := (⟨"HexCampaign$Units", "only", "(I)I"⟩, prog_11_method_5_code, 1, (some .int), [], e_c47)
-- 48: HexCampaign$Units.standingIn(J)I
set_option maxRecDepth 100000 in
def e_c48 : List e_I := [(0, .iconst 0, 1, .null, [], []),
  (1, .istore_n 3, 1, .null, [], []),
  (2, .iconst 0, 1, .null, [], []),
  (3, .istore 4, 2, .null, [], []),
  (5, .iload 4, 2, .null, [], []),
  (7, .aload_n 0, 1, .null, [], []),
  (8, .getfield 9, 3, .null, [1, 5, 1], [(1, 79)]),
  (11, .arraylength, 1, .null, [], []),
  (12, .if_icmp .ge 43, 3, .null, [55], []),
  (15, .aload_n 0, 1, .null, [], []),
  (16, .getfield 37, 3, .null, [1, 1, 0], [(1, 75)]),
  (19, .iload 4, 2, .null, [], []),
  (21, .invokestatic 62, 3, .null, [27, 2, 0, 0, 0], [(2, 129), (2, 130), (1, 5), (2, 131)]),
  (24, .ifCond .eq 25, 3, .null, [49], []),
  (27, .lload_n 1, 1, .null, [], []),
  (28, .aload_n 0, 1, .null, [], []),
  (29, .getfield 9, 3, .null, [1, 5, 1], [(1, 79)]),
  (32, .iload 4, 2, .null, [], []),
  (34, .iaload, 1, .null, [], []),
  (35, .invokestatic 86, 3, .null, [46, 2, 0, 0, 0], [(2, 207), (2, 208), (1, 20), (2, 209)]),
  (38, .ifCond .eq 11, 3, .null, [49], []),
  (41, .iload_n 3, 1, .null, [], []),
  (42, .iload 4, 2, .null, [], []),
  (44, .invokestatic 89, 3, .null, [47, 1, 0, 0, 0], [(2, 210), (2, 211), (1, 5), (2, 212)]),
  (47, .ior, 1, .null, [], []),
  (48, .istore_n 3, 1, .null, [], []),
  (49, .iinc 4 1, 3, .null, [], []),
  (52, .goto (-47), 3, .null, [5], []),
  (55, .iload_n 3, 1, .null, [], []),
  (56, .ireturn, 1, .null, [], [])]
def e_m48 : e_MD := (⟨"HexCampaign$Units", "standingIn", "(J)I"⟩, prog_11_method_24_code, 5, (some .int), [], e_c48)
-- 49: HexCampaign$Units.sideOf(I)I
set_option maxRecDepth 100000 in
def e_c49 : List e_I := [(0, .aload_n 0, 1, .null, [], []),
  (1, .getfield 40, 3, .null, [1, 2, 0], [(1, 76)]),
  (4, .iload_n 1, 1, .null, [], []),
  (5, .invokestatic 62, 3, .null, [27, 2, 0, 0, 0], [(2, 129), (2, 130), (1, 5), (2, 131)]),
  (8, .ifCond .eq 7, 3, .null, [15], []),
  (11, .iconst 1, 1, .null, [], []),
  (12, .goto 4, 3, .null, [16], []),
  (15, .iconst 0, 1, .null, [], []),
  (16, .ireturn, 1, .null, [], [])]
def e_m49 : e_MD := (⟨"HexCampaign$Units", "sideOf", "(I)I"⟩, prog_11_method_13_code, 2, (some .int), [], e_c49)
-- 50: HexCampaign$Units.strengthOf(I)I
set_option maxRecDepth 100000 in
def e_c50 : List e_I := [(0, .aload_n 0, 1, .null, [], []),
  (1, .getfield 15, 3, .null, [1, 6, 1], [(1, 80)]),
  (4, .iload_n 1, 1, .null, [], []),
  (5, .invokestatic 72, 3, .null, [36, 2, 0, 0, 0], [(2, 230), (2, 177), (1, 10), (2, 178)]),
  (8, .ireturn, 1, .null, [], [])]
def e_m50 : e_MD := (⟨"HexCampaign$Units", "strengthOf", "(I)I"⟩, prog_11_method_15_code, 2, (some .int), [], e_c50)
-- 51: HexCampaign$Row.write([III)V
set_option maxRecDepth 100000 in
def e_c51 : List e_I := [(0, .iload_n 1, 1, .null, [], []),
  (1, .ifCond .lt 13, 3, .null, [14], []),
  (4, .iload_n 1, 1, .null, [], []),
  (5, .aload_n 0, 1, .null, [], []),
  (6, .arraylength, 1, .null, [], []),
  (7, .if_icmp .ge 7, 3, .null, [14], []),
  (10, .aload_n 0, 1, .null, [], []),
  (11, .iload_n 1, 1, .null, [], []),
  (12, .iload_n 2, 1, .null, [], []),
  (13, .iastore, 1, .null, [], []),
  (14, .return_, 1, .null, [], [])]
def e_m51 : e_MD := (⟨"HexCampaign$Row", "write", "([III)V"⟩, prog_10_method_3_code, 3, none, [], e_c51)
-- 52: HexCampaign$Row.increase([III)V
set_option maxRecDepth 100000 in
def e_c52 : List e_I := [(0, .iload_n 1, 1, .null, [], []),
  (1, .ifCond .lt 16, 3, .null, [17], []),
  (4, .iload_n 1, 1, .null, [], []),
  (5, .aload_n 0, 1, .null, [], []),
  (6, .arraylength, 1, .null, [], []),
  (7, .if_icmp .ge 10, 3, .null, [17], []),
  (10, .aload_n 0, 1, .null, [], []),
  (11, .iload_n 1, 1, .null, [], []),
  (12, .dup2, 1, .null, [], []),
  (13, .iaload, 1, .null, [], []),
  (14, .iload_n 2, 1, .null, [], []),
  (15, .iadd, 1, .null, [], []),
  (16, .iastore, 1, .null, [], []),
  (17, .return_, 1, .null, [], [])]
def e_m52 : e_MD := (⟨"HexCampaign$Row", "increase", "([III)V"⟩, prog_10_method_4_code, 3, none, [], e_c52)
-- 53: HexCampaign$Units.weaken(II)I
set_option maxRecDepth 100000 in
def e_c53 : List e_I := [(0, .aload_n 0, 1, .null, [], []),
  (1, .iload_n 1, 1, .null, [], []),
  (2, .invokevirtual 100, 3, .null, [50, 1, 0, 0, 0, 1], [(2, 226), (2, 227), (2, 228), (2, 229), (1, 5)]),
  (5, .istore_n 3, 1, .null, [], []),
  (6, .iload_n 3, 1, .null, [], []),
  (7, .iload_n 2, 1, .null, [], []),
  (8, .if_icmp .le 16, 3, .null, [24], []),
  (11, .aload_n 0, 1, .null, [], []),
  (12, .getfield 15, 3, .null, [1, 6, 1], [(1, 80)]),
  (15, .iload_n 1, 1, .null, [], []),
  (16, .iload_n 3, 1, .null, [], []),
  (17, .iload_n 2, 1, .null, [], []),
  (18, .isub, 1, .null, [], []),
  (19, .invokestatic 113, 3, .null, [51, 3, 0, 0, 0], [(2, 231), (2, 232), (1, 10), (2, 233)]),
  (22, .iload_n 2, 1, .null, [], []),
  (23, .ireturn, 1, .null, [], []),
  (24, .aload_n 0, 1, .null, [], []),
  (25, .getfield 15, 3, .null, [1, 6, 1], [(1, 80)]),
  (28, .iload_n 1, 1, .null, [], []),
  (29, .iconst 0, 1, .null, [], []),
  (30, .invokestatic 113, 3, .null, [51, 3, 0, 0, 0], [(2, 231), (2, 232), (1, 10), (2, 233)]),
  (33, .aload_n 0, 1, .null, [], []),
  (34, .dup, 1, .null, [], []),
  (35, .getfield 37, 3, .null, [1, 1, 0], [(1, 75)]),
  (38, .iload_n 1, 1, .null, [], []),
  (39, .invokestatic 89, 3, .null, [47, 1, 0, 0, 0], [(2, 210), (2, 211), (1, 5), (2, 212)]),
  (42, .iconst (-1), 1, .null, [], []),
  (43, .ixor, 1, .null, [], []),
  (44, .iand, 1, .null, [], []),
  (45, .putfield 37, 3, .null, [1, 1, 0, 0], [(1, 75)]),
  (48, .aload_n 0, 1, .null, [], []),
  (49, .getfield 30, 3, .null, [1, 11, 1], [(1, 85)]),
  (52, .aload_n 0, 1, .null, [], []),
  (53, .iload_n 1, 1, .null, [], []),
  (54, .invokevirtual 97, 3, .null, [49, 1, 0, 0, 0, 1], [(2, 218), (2, 219), (2, 220), (2, 221), (1, 5)]),
  (57, .iconst 1, 1, .null, [], []),
  (58, .invokestatic 117, 3, .null, [52, 3, 0, 0, 0], [(2, 234), (2, 235), (1, 10), (2, 236)]),
  (61, .iload_n 3, 1, .null, [], []),
  (62, .ireturn, 1, .null, [], [])]
def e_m53 : e_MD := (⟨"HexCampaign$Units", "weaken", "(II)I"⟩, prog_11_method_38_code, 4, (some .int), [], e_c53)
-- 54: HexCampaign$Units.loseUnsupplied(II)V
set_option maxRecDepth 100000 in
def e_c54 : List e_I := [(0, .aload_n 0, 1, .null, [], []),
  (1, .getfield 27, 3, .null, [1, 10, 1], [(1, 84)]),
  (4, .aload_n 0, 1, .null, [], []),
  (5, .iload_n 1, 1, .null, [], []),
  (6, .invokevirtual 97, 3, .null, [49, 1, 0, 0, 0, 1], [(2, 218), (2, 219), (2, 220), (2, 221), (1, 5)]),
  (9, .aload_n 0, 1, .null, [], []),
  (10, .iload_n 1, 1, .null, [], []),
  (11, .iload_n 2, 1, .null, [], []),
  (12, .invokevirtual 120, 3, .null, [53, 2, 0, 0, 0, 1], [(2, 222), (2, 224), (0, 3), (2, 225), (1, 5)]),
  (15, .invokestatic 117, 3, .null, [52, 3, 0, 0, 0], [(2, 234), (2, 235), (1, 10), (2, 236)]),
  (18, .return_, 1, .null, [], [])]
def e_m54 : e_MD := (⟨"HexCampaign$Units", "loseUnsupplied", "(II)V"⟩, prog_11_method_37_code, 3, none, [], e_c54)
-- 55: HexCampaign$Game.changeWeather()V
set_option maxRecDepth 100000 in
def e_c55 : List e_I := [(0, .aload_n 0, 1, .null, [], []),
  (1, .aload_n 0, 1, .null, [], []),
  (2, .getfield 48, 3, .null, [2, 8, 0], [(1, 135)]),
  (5, .ldc 132, 2, .int 1103515245, [], [(3, 6)]),
  (7, .imul, 1, .null, [], []),
  (8, .sipush 12345, 3, .null, [], []),
  (11, .iadd, 1, .null, [], []),
  (12, .putfield 48, 3, .null, [2, 8, 0, 0], [(1, 135)]),
  (15, .aload_n 0, 1, .null, [], []),
  (16, .getfield 48, 3, .null, [2, 8, 0], [(1, 135)]),
  (19, .bipush 16, 2, .null, [], []),
  (21, .iushr, 1, .null, [], []),
  (22, .bipush 6, 2, .null, [], []),
  (24, .irem, 1, .null, [], []),
  (25, .istore_n 1, 1, .null, [], []),
  (26, .iload_n 1, 1, .null, [], []),
  (27, .iconst 2, 1, .null, [], []),
  (28, .if_icmp .gt 11, 3, .null, [39], []),
  (31, .aload_n 0, 1, .null, [], []),
  (32, .iconst 0, 1, .null, [], []),
  (33, .putfield 29, 3, .null, [2, 2, 0, 0], [(1, 118)]),
  (36, .goto 17, 3, .null, [53], []),
  (39, .aload_n 0, 1, .null, [], []),
  (40, .iload_n 1, 1, .null, [], []),
  (41, .iconst 4, 1, .null, [], []),
  (42, .if_icmp .gt 7, 3, .null, [49], []),
  (45, .iconst 1, 1, .null, [], []),
  (46, .goto 4, 3, .null, [50], []),
  (49, .iconst 2, 1, .null, [], []),
  (50, .putfield 29, 3, .null, [2, 2, 0, 0], [(1, 118)]),
  (53, .return_, 1, .null, [], [])]
def e_m55 : e_MD := (⟨"HexCampaign$Game", "changeWeather", "()V"⟩, prog_2_method_14_code, 2, none, [], e_c55)
-- 56: HexCampaign$Game.passTurn()V
set_option maxRecDepth 100000 in
def e_c56 : List e_I := [(0, .aload_n 0, 1, .null, [], []),
  (1, .getfield 21, 3, .null, [2, 1, 1], [(1, 115)]),
  (4, .invokevirtual 126, 3, .null, [9, 0, 0, 0, 0, 1], [(3, 1), (2, 28), (2, 29), (2, 30), (1, 5)]),
  (7, .aload_n 0, 1, .null, [], []),
  (8, .iconst 1, 1, .null, [], []),
  (9, .aload_n 0, 1, .null, [], []),
  (10, .getfield 36, 3, .null, [2, 4, 0], [(1, 123)]),
  (13, .isub, 1, .null, [], []),
  (14, .putfield 36, 3, .null, [2, 4, 0, 0], [(1, 123)]),
  (17, .aload_n 0, 1, .null, [], []),
  (18, .getfield 36, 3, .null, [2, 4, 0], [(1, 123)]),
  (21, .ifCond .ne 17, 3, .null, [38], []),
  (24, .aload_n 0, 1, .null, [], []),
  (25, .dup, 1, .null, [], []),
  (26, .getfield 33, 3, .null, [2, 3, 0], [(1, 121)]),
  (29, .iconst 1, 1, .null, [], []),
  (30, .iadd, 1, .null, [], []),
  (31, .putfield 33, 3, .null, [2, 3, 0, 0], [(1, 121)]),
  (34, .aload_n 0, 1, .null, [], []),
  (35, .invokevirtual 129, 3, .null, [55, 0, 0, 0, 0, 2], [(3, 2), (3, 4), (0, 4), (3, 5), (1, 3)]),
  (38, .return_, 1, .null, [], [])]
def e_m56 : e_MD := (⟨"HexCampaign$Game", "passTurn", "()V"⟩, prog_2_method_13_code, 1, none, [], e_c56)
-- 57: HexCampaign$Play.finishTurn()I
set_option maxRecDepth 100000 in
def e_c57 : List e_I := [(0, .aload_n 0, 1, .null, [], []),
  (1, .getfield 27, 3, .null, [4, 2, 1], [(1, 189)]),
  (4, .aload_n 0, 1, .null, [], []),
  (5, .getfield 12, 3, .null, [4, 0, 1], [(1, 186)]),
  (8, .getfield 172, 3, .null, [2, 4, 0], [(1, 125)]),
  (11, .invokevirtual 98, 3, .null, [26, 1, 0, 0, 0, 1], [(2, 111), (2, 112), (2, 113), (2, 114), (1, 5)]),
  (14, .istore_n 1, 1, .null, [], []),
  (15, .aload_n 0, 1, .null, [], []),
  (16, .getfield 27, 3, .null, [4, 2, 1], [(1, 189)]),
  (19, .invokevirtual 228, 3, .null, [15, 0, 0, 0, 0, 1], [(2, 115), (2, 61), (2, 62), (2, 63), (1, 5)]),
  (22, .istore_n 2, 1, .null, [], []),
  (23, .iload_n 1, 1, .null, [], []),
  (24, .aload_n 0, 1, .null, [], []),
  (25, .getfield 27, 3, .null, [4, 2, 1], [(1, 189)]),
  (28, .aload_n 0, 1, .null, [], []),
  (29, .aload_n 0, 1, .null, [], []),
  (30, .getfield 12, 3, .null, [4, 0, 1], [(1, 186)]),
  (33, .getfield 172, 3, .null, [2, 4, 0], [(1, 125)]),
  (36, .invokevirtual 71, 3, .null, [45, 1, 0, 0, 0, 4], [(2, 116), (2, 117), (2, 118), (2, 119), (1, 2)]),
  (39, .invokevirtual 231, 3, .null, [48, 1, 0, 0, 0, 1], [(2, 203), (2, 204), (2, 205), (2, 206), (1, 5)]),
  (42, .iconst (-1), 1, .null, [], []),
  (43, .ixor, 1, .null, [], []),
  (44, .iand, 1, .null, [], []),
  (45, .istore_n 3, 1, .null, [], []),
  (46, .iconst 0, 1, .null, [], []),
  (47, .istore 4, 2, .null, [], []),
  (49, .iload 4, 2, .null, [], []),
  (51, .bipush 16, 2, .null, [], []),
  (53, .if_icmp .ge 28, 3, .null, [81], []),
  (56, .iload_n 3, 1, .null, [], []),
  (57, .iload 4, 2, .null, [], []),
  (59, .invokestatic 105, 3, .null, [27, 2, 0, 0, 0], [(2, 213), (2, 130), (1, 5), (2, 131)]),
  (62, .ifCond .eq 13, 3, .null, [75], []),
  (65, .aload_n 0, 1, .null, [], []),
  (66, .getfield 27, 3, .null, [4, 2, 1], [(1, 189)]),
  (69, .iload 4, 2, .null, [], []),
  (71, .iconst 1, 1, .null, [], []),
  (72, .invokevirtual 235, 3, .null, [54, 2, 0, 0, 0, 1], [(2, 214), (2, 215), (2, 216), (2, 217), (1, 5)]),
  (75, .iinc 4 1, 3, .null, [], []),
  (78, .goto (-29), 3, .null, [49], []),
  (81, .aload_n 0, 1, .null, [], []),
  (82, .getfield 12, 3, .null, [4, 0, 1], [(1, 186)]),
  (85, .invokevirtual 238, 3, .null, [56, 0, 0, 0, 0, 2], [(2, 237), (2, 238), (2, 239), (3, 0), (1, 3)]),
  (88, .iload_n 2, 1, .null, [], []),
  (89, .aload_n 0, 1, .null, [], []),
  (90, .getfield 27, 3, .null, [4, 2, 1], [(1, 189)]),
  (93, .invokevirtual 228, 3, .null, [15, 0, 0, 0, 0, 1], [(2, 115), (2, 61), (2, 62), (2, 63), (1, 5)]),
  (96, .isub, 1, .null, [], []),
  (97, .ireturn, 1, .null, [], [])]
def e_m57 : e_MD := (⟨"HexCampaign$Play", "finishTurn", "()I"⟩, prog_8_method_24_code, 5, (some .int), [], e_c57)
-- 58: HexCampaign.endTurn()I
set_option maxRecDepth 100000 in
def e_c58 : List e_I := [(0, .aload_n 0, 1, .null, [], []),
  (1, .getfield 34, 3, .null, [8, 4, 1], [(2, 38)]),
  (4, .aload_n 0, 1, .null, [], []),
  (5, .getfield 20, 3, .null, [8, 1, 1], [(2, 35)]),
  (8, .invokevirtual 91, 3, .null, [25, 1, 0, 0, 0, 5], [(2, 78), (2, 79), (2, 80), (2, 81), (1, 7)]),
  (11, .aload_n 0, 1, .null, [], []),
  (12, .getfield 10, 3, .null, [8, 0, 1], [(2, 34)]),
  (15, .invokevirtual 269, 3, .null, [57, 0, 0, 0, 0, 4], [(2, 107), (2, 108), (2, 109), (2, 110), (1, 2)]),
  (18, .ireturn, 1, .null, [], [])]
def e_m58 : e_MD := (⟨"HexCampaign", "endTurn", "()I"⟩, prog_1_method_22_code, 1, (some .int), [], e_c58)
-- 59: HexCampaign.save()I
set_option maxRecDepth 100000 in
def e_c59 : List e_I := [(0, .aload_n 0, 1, .null, [], []),
  (1, .getfield 24, 3, .null, [8, 2, 1], [(2, 36)]),
  (4, .aload_n 0, 1, .null, [], []),
  (5, .getfield 20, 3, .null, [8, 1, 1], [(2, 35)]),
  (8, .invokevirtual 346, 3, .null, [23, 1, 0, 0, 0, 2], [(3, 11), (2, 87), (2, 88), (2, 89), (1, 3)]),
  (11, .aload_n 0, 1, .null, [], []),
  (12, .iconst 1, 1, .null, [], []),
  (13, .putfield 27, 3, .null, [8, 3, 0, 1], [(2, 37)]),
  (16, .aload_n 0, 1, .null, [], []),
  (17, .getfield 20, 3, .null, [8, 1, 1], [(2, 35)]),
  (20, .getfield 56, 3, .null, [2, 1, 1], [(1, 117)]),
  (23, .invokevirtual 60, 3, .null, [15, 0, 0, 0, 0, 1], [(2, 60), (2, 61), (2, 62), (2, 63), (1, 5)]),
  (26, .ireturn, 1, .null, [], [])]
def e_m59 : e_MD := (⟨"HexCampaign", "save", "()I"⟩, prog_1_method_30_code, 1, (some .int), [], e_c59)
-- 60: HexCampaign.checkCell(I)V
set_option maxRecDepth 100000 in
def e_c60 : List e_I := [(0, .iload_n 0, 1, .null, [], []),
  (1, .ifCond .lt 9, 3, .null, [10], []),
  (4, .iload_n 0, 1, .null, [], []),
  (5, .bipush 63, 2, .null, [], []),
  (7, .if_icmp .lt 11, 3, .null, [18], []),
  (10, .new 133, 3, .null, [1, 0, 135], [(3, 104), (1, 16), (3, 113)]),
  (18, .return_, 1, .null, [], [])]
def e_m60 : e_MD := (⟨"HexCampaign", "checkCell", "(I)V"⟩, prog_1_method_33_code, 1, none, [], e_c60)
-- 61: HexCampaign$Units.on(I)I
set_option maxRecDepth 100000 in
def e_c61 : List e_I := [(0, .aload_n 0, 1, .null, [], []),
  (1, .iload_n 1, 1, .null, [], []),
  (2, .invokestatic 76, 3, .null, [28, 1, 0, 0, 0], [(2, 132), (2, 133), (1, 20), (2, 134)]),
  (5, .invokevirtual 82, 3, .null, [48, 1, 0, 0, 0, 1], [(3, 144), (2, 204), (2, 205), (2, 206), (1, 5)]),
  (8, .ireturn, 1, .null, [], [])]
def e_m61 : e_MD := (⟨"HexCampaign$Units", "on", "(I)I"⟩, prog_11_method_23_code, 2, (some .int), [], e_c61)
-- 62: HexCampaign$Land.terrainAt(I)I
set_option maxRecDepth 100000 in
def e_c62 : List e_I := [(0, .iconst 0, 1, .null, [], []),
  (1, .istore_n 2, 1, .null, [], []),
  (2, .iload_n 2, 1, .null, [], []),
  (3, .aload_n 0, 1, .null, [], []),
  (4, .getfield 9, 3, .null, [0, 0, 1], [(1, 57)]),
  (7, .arraylength, 1, .null, [], []),
  (8, .if_icmp .ge 24, 3, .null, [32], []),
  (11, .aload_n 0, 1, .null, [], []),
  (12, .getfield 9, 3, .null, [0, 0, 1], [(1, 57)]),
  (15, .iload_n 2, 1, .null, [], []),
  (16, .laload, 1, .null, [], []),
  (17, .iload_n 1, 1, .null, [], []),
  (18, .invokestatic 32, 3, .null, [46, 2, 0, 0, 0], [(3, 164), (2, 208), (1, 20), (2, 209)]),
  (21, .ifCond .eq 5, 3, .null, [26], []),
  (24, .iload_n 2, 1, .null, [], []),
  (25, .ireturn, 1, .null, [], []),
  (26, .iinc 2 1, 3, .null, [], []),
  (29, .goto (-27), 3, .null, [2], []),
  (32, .iconst 0, 1, .null, [], []),
  (33, .ireturn, 1, .null, [], [])]
def e_m62 : e_MD := (⟨"HexCampaign$Land", "terrainAt", "(I)I"⟩, prog_5_method_4_code, 3, (some .int), [], e_c62)
-- 63: HexCampaign$Land.shape(IIZ)V
set_option maxRecDepth 100000 in
def e_c63 : List e_I := [(0, .iload_n 1, 1, .null, [], []),
  (1, .invokestatic 36, 3, .null, [28, 1, 0, 0, 0], [(3, 169), (2, 133), (1, 20), (2, 134)]),
  (4, .lstore 4, 2, .null, [], []),
  (6, .iconst 0, 1, .null, [], []),
  (7, .istore 6, 2, .null, [], []),
  (9, .iload 6, 2, .null, [], []),
  (11, .aload_n 0, 1, .null, [], []),
  (12, .getfield 9, 3, .null, [0, 0, 1], [(1, 57)]),
  (15, .arraylength, 1, .null, [], []),
  (16, .if_icmp .ge 49, 3, .null, [65], []),
  (19, .aload_n 0, 1, .null, [], []),
  (20, .getfield 9, 3, .null, [0, 0, 1], [(1, 57)]),
  (23, .iload 6, 2, .null, [], []),
  (25, .iload 6, 2, .null, [], []),
  (27, .iload_n 2, 1, .null, [], []),
  (28, .if_icmp .ne 16, 3, .null, [44], []),
  (31, .aload_n 0, 1, .null, [], []),
  (32, .getfield 9, 3, .null, [0, 0, 1], [(1, 57)]),
  (35, .iload 6, 2, .null, [], []),
  (37, .laload, 1, .null, [], []),
  (38, .lload 4, 2, .null, [], []),
  (40, .lor, 1, .null, [], []),
  (41, .goto 17, 3, .null, [58], []),
  (44, .aload_n 0, 1, .null, [], []),
  (45, .getfield 9, 3, .null, [0, 0, 1], [(1, 57)]),
  (48, .iload 6, 2, .null, [], []),
  (50, .laload, 1, .null, [], []),
  (51, .lload 4, 2, .null, [], []),
  (53, .ldc2_w 40, 3, .long (-1), [], [(2, 155)]),
  (56, .lxor, 1, .null, [], []),
  (57, .land, 1, .null, [], []),
  (58, .lastore, 1, .null, [], []),
  (59, .iinc 6 1, 3, .null, [], []),
  (62, .goto (-53), 3, .null, [9], []),
  (65, .aload_n 0, 1, .null, [], []),
  (66, .iload_n 3, 1, .null, [], []),
  (67, .ifCond .eq 13, 3, .null, [80], []),
  (70, .aload_n 0, 1, .null, [], []),
  (71, .getfield 22, 3, .null, [0, 2, 0], [(1, 59)]),
  (74, .lload 4, 2, .null, [], []),
  (76, .lor, 1, .null, [], []),
  (77, .goto 14, 3, .null, [91], []),
  (80, .aload_n 0, 1, .null, [], []),
  (81, .getfield 22, 3, .null, [0, 2, 0], [(1, 59)]),
  (84, .lload 4, 2, .null, [], []),
  (86, .ldc2_w 40, 3, .long (-1), [], [(2, 155)]),
  (89, .lxor, 1, .null, [], []),
  (90, .land, 1, .null, [], []),
  (91, .putfield 22, 3, .null, [0, 2, 0, 2], [(1, 59)]),
  (94, .return_, 1, .null, [], [])]
def e_m63 : e_MD := (⟨"HexCampaign$Land", "shape", "(IIZ)V"⟩, prog_5_method_5_code, 7, none, [], e_c63)
-- 64: HexCampaign.setTerrain(IIZ)I
set_option maxRecDepth 100000 in
def e_c64 : List e_I := [(0, .iload_n 1, 1, .null, [], []),
  (1, .invokestatic 69, 3, .null, [60, 1, 0, 1, 6], [(3, 101), (3, 102), (1, 1), (3, 103)]),
  (4, .iload_n 2, 1, .null, [], []),
  (5, .ifCond .lt 18, 3, .null, [23], []),
  (8, .iload_n 2, 1, .null, [], []),
  (9, .bipush 6, 2, .null, [], []),
  (11, .if_icmp .ge 12, 3, .null, [23], []),
  (14, .iload_n 2, 1, .null, [], []),
  (15, .iconst 5, 1, .null, [], []),
  (16, .if_icmp .ne 15, 3, .null, [31], []),
  (19, .iload_n 3, 1, .null, [], []),
  (20, .ifCond .eq 11, 3, .null, [31], []),
  (23, .new 72, 3, .null, [1, 1, 74], [(3, 125), (1, 19), (3, 134)]),
  (31, .iload_n 2, 1, .null, [], []),
  (32, .iconst 5, 1, .null, [], []),
  (33, .if_icmp .ne 25, 3, .null, [58], []),
  (36, .aload_n 0, 1, .null, [], []),
  (37, .getfield 20, 3, .null, [8, 1, 1], [(2, 35)]),
  (40, .getfield 56, 3, .null, [2, 1, 1], [(1, 117)]),
  (43, .iload_n 1, 1, .null, [], []),
  (44, .invokevirtual 75, 3, .null, [61, 1, 0, 0, 0, 1], [(3, 140), (3, 141), (3, 142), (3, 143), (1, 5)]),
  (47, .ifCond .eq 11, 3, .null, [58], []),
  (50, .new 79, 3, .null, [1, 2, 81], [(3, 145), (1, 21), (3, 154)]),
  (58, .aload_n 0, 1, .null, [], []),
  (59, .getfield 20, 3, .null, [8, 1, 1], [(2, 35)]),
  (62, .getfield 82, 3, .null, [2, 0, 1], [(1, 114)]),
  (65, .iload_n 1, 1, .null, [], []),
  (66, .invokevirtual 86, 3, .null, [62, 1, 0, 0, 0, 0], [(3, 160), (3, 161), (3, 162), (3, 163), (1, 4)]),
  (69, .istore 4, 2, .null, [], []),
  (71, .aload_n 0, 1, .null, [], []),
  (72, .getfield 34, 3, .null, [8, 4, 1], [(2, 38)]),
  (75, .aload_n 0, 1, .null, [], []),
  (76, .getfield 20, 3, .null, [8, 1, 1], [(2, 35)]),
  (79, .invokevirtual 91, 3, .null, [25, 1, 0, 0, 0, 5], [(2, 78), (2, 79), (2, 80), (2, 81), (1, 7)]),
  (82, .aload_n 0, 1, .null, [], []),
  (83, .getfield 20, 3, .null, [8, 1, 1], [(2, 35)]),
  (86, .getfield 82, 3, .null, [2, 0, 1], [(1, 114)]),
  (89, .iload_n 1, 1, .null, [], []),
  (90, .iload_n 2, 1, .null, [], []),
  (91, .iload_n 3, 1, .null, [], []),
  (92, .invokevirtual 95, 3, .null, [63, 3, 0, 0, 0, 0], [(3, 165), (3, 166), (3, 167), (3, 168), (1, 4)]),
  (95, .iload 4, 2, .null, [], []),
  (97, .ireturn, 1, .null, [], [])]
def e_m64 : e_MD := (⟨"HexCampaign", "setTerrain", "(IIZ)I"⟩, prog_1_method_3_code, 5, (some .int), [], e_c64)
-- 65: HexCampaignLaw.setTerrain(LHexCampaign;IIZ[J)I
set_option maxRecDepth 100000 in
def e_c65 : List e_I := [(0, .aload 4, 2, .null, [], []),
  (2, .iconst 0, 1, .null, [], []),
  (3, .aload_n 0, 1, .null, [], []),
  (4, .iload_n 1, 1, .null, [], []),
  (5, .iload_n 2, 1, .null, [], []),
  (6, .iload_n 3, 1, .null, [], []),
  (7, .invokevirtual 7, 3, .null, [64, 3, 0, 3, 18, 8, 0, 5, 17, 1, 5, 21, 2, 5, 25], [(3, 97), (3, 98), (3, 99), (3, 100), (1, 1), (3, 15), (3, 95), (3, 96)]),
  (10, .i2l, 1, .null, [], []),
  (11, .lastore, 1, .null, [], []),
  (12, .goto 15, 3, .null, [27], []),
  (15, .astore 5, 2, .null, [], []),
  (17, .iconst 1, 1, .null, [], []),
  (18, .ireturn, 1, .null, [], []),
  (19, .astore 5, 2, .null, [], []),
  (21, .iconst 2, 1, .null, [], []),
  (22, .ireturn, 1, .null, [], []),
  (23, .astore 5, 2, .null, [], []),
  (25, .iconst 3, 1, .null, [], []),
  (26, .ireturn, 1, .null, [], []),
  (27, .iconst 0, 1, .null, [], []),
  (28, .ireturn, 1, .null, [], [])]
def e_m65 : e_MD := (⟨"HexCampaignLaw", "setTerrain", "(LHexCampaign;IIZ[J)I"⟩, method_3_code, 6, (some .int), [(0, 12, 15, 13), (0, 12, 19, 15), (0, 12, 23, 17)], e_c65)
-- 66: HexCampaign.checkSide(I)V
set_option maxRecDepth 100000 in
def e_c66 : List e_I := [(0, .iload_n 0, 1, .null, [], []),
  (1, .ifCond .lt 8, 3, .null, [9], []),
  (4, .iload_n 0, 1, .null, [], []),
  (5, .iconst 2, 1, .null, [], []),
  (6, .if_icmp .lt 11, 3, .null, [17], []),
  (9, .new 133, 3, .null, [1, 0, 135], [(3, 104), (1, 16), (3, 113)]),
  (17, .return_, 1, .null, [], [])]
def e_m66 : e_MD := (⟨"HexCampaign", "checkSide", "(I)V"⟩, prog_1_method_34_code, 1, none, [], e_c66)
-- 67: HexCampaign$Land.markSource(IIZ)V
set_option maxRecDepth 100000 in
def e_c67 : List e_I := [(0, .iload_n 1, 1, .null, [], []),
  (1, .invokestatic 36, 3, .null, [28, 1, 0, 0, 0], [(3, 169), (2, 133), (1, 20), (2, 134)]),
  (4, .lstore 4, 2, .null, [], []),
  (6, .iload_n 2, 1, .null, [], []),
  (7, .ifCond .lt 47, 3, .null, [54], []),
  (10, .iload_n 2, 1, .null, [], []),
  (11, .aload_n 0, 1, .null, [], []),
  (12, .getfield 15, 3, .null, [0, 1, 1], [(1, 58)]),
  (15, .arraylength, 1, .null, [], []),
  (16, .if_icmp .ge 38, 3, .null, [54], []),
  (19, .aload_n 0, 1, .null, [], []),
  (20, .getfield 15, 3, .null, [0, 1, 1], [(1, 58)]),
  (23, .iload_n 2, 1, .null, [], []),
  (24, .iload_n 3, 1, .null, [], []),
  (25, .ifCond .eq 15, 3, .null, [40], []),
  (28, .aload_n 0, 1, .null, [], []),
  (29, .getfield 15, 3, .null, [0, 1, 1], [(1, 58)]),
  (32, .iload_n 2, 1, .null, [], []),
  (33, .laload, 1, .null, [], []),
  (34, .lload 4, 2, .null, [], []),
  (36, .lor, 1, .null, [], []),
  (37, .goto 16, 3, .null, [53], []),
  (40, .aload_n 0, 1, .null, [], []),
  (41, .getfield 15, 3, .null, [0, 1, 1], [(1, 58)]),
  (44, .iload_n 2, 1, .null, [], []),
  (45, .laload, 1, .null, [], []),
  (46, .lload 4, 2, .null, [], []),
  (48, .ldc2_w 40, 3, .long (-1), [], [(2, 155)]),
  (51, .lxor, 1, .null, [], []),
  (52, .land, 1, .null, [], []),
  (53, .lastore, 1, .null, [], []),
  (54, .return_, 1, .null, [], [])]
def e_m67 : e_MD := (⟨"HexCampaign$Land", "markSource", "(IIZ)V"⟩, prog_5_method_6_code, 6, none, [], e_c67)
-- 68: HexCampaign.setSource(IIZ)Z
set_option maxRecDepth 100000 in
def e_c68 : List e_I := [(0, .iload_n 1, 1, .null, [], []),
  (1, .invokestatic 69, 3, .null, [60, 1, 0, 1, 6], [(3, 101), (3, 102), (1, 1), (3, 103)]),
  (4, .iload_n 2, 1, .null, [], []),
  (5, .invokestatic 99, 3, .null, [66, 1, 0, 1, 6], [(3, 177), (3, 178), (1, 1), (3, 179)]),
  (8, .aload_n 0, 1, .null, [], []),
  (9, .getfield 20, 3, .null, [8, 1, 1], [(2, 35)]),
  (12, .getfield 82, 3, .null, [2, 0, 1], [(1, 114)]),
  (15, .iload_n 2, 1, .null, [], []),
  (16, .invokevirtual 102, 3, .null, [40, 1, 0, 0, 0, 0], [(3, 180), (2, 180), (2, 181), (2, 182), (1, 4)]),
  (19, .iload_n 1, 1, .null, [], []),
  (20, .invokestatic 106, 3, .null, [46, 2, 0, 0, 0], [(3, 181), (2, 208), (1, 20), (2, 209)]),
  (23, .istore 4, 2, .null, [], []),
  (25, .aload_n 0, 1, .null, [], []),
  (26, .getfield 34, 3, .null, [8, 4, 1], [(2, 38)]),
  (29, .aload_n 0, 1, .null, [], []),
  (30, .getfield 20, 3, .null, [8, 1, 1], [(2, 35)]),
  (33, .invokevirtual 91, 3, .null, [25, 1, 0, 0, 0, 5], [(2, 78), (2, 79), (2, 80), (2, 81), (1, 7)]),
  (36, .aload_n 0, 1, .null, [], []),
  (37, .getfield 20, 3, .null, [8, 1, 1], [(2, 35)]),
  (40, .getfield 82, 3, .null, [2, 0, 1], [(1, 114)]),
  (43, .iload_n 1, 1, .null, [], []),
  (44, .iload_n 2, 1, .null, [], []),
  (45, .iload_n 3, 1, .null, [], []),
  (46, .invokevirtual 112, 3, .null, [67, 3, 0, 0, 0, 0], [(3, 182), (3, 183), (3, 184), (3, 185), (1, 4)]),
  (49, .iload 4, 2, .null, [], []),
  (51, .ireturn, 1, .null, [], [])]
def e_m68 : e_MD := (⟨"HexCampaign", "setSource", "(IIZ)Z"⟩, prog_1_method_4_code, 5, (some .boolean), [], e_c68)
-- 69: HexCampaignLaw.setSource(LHexCampaign;IIZ[J)I
set_option maxRecDepth 100000 in
def e_c69 : List e_I := [(0, .aload 4, 2, .null, [], []),
  (2, .iconst 0, 1, .null, [], []),
  (3, .aload_n 0, 1, .null, [], []),
  (4, .iload_n 1, 1, .null, [], []),
  (5, .iload_n 2, 1, .null, [], []),
  (6, .iload_n 3, 1, .null, [], []),
  (7, .invokevirtual 19, 3, .null, [68, 3, 0, 2, 12, 8, 0, 5, 24], [(3, 173), (3, 174), (3, 175), (3, 176), (1, 1), (3, 15)]),
  (10, .ifCond .eq 7, 3, .null, [17], []),
  (13, .lconst 1, 1, .null, [], []),
  (14, .goto 4, 3, .null, [18], []),
  (17, .lconst 0, 1, .null, [], []),
  (18, .lastore, 1, .null, [], []),
  (19, .goto 7, 3, .null, [26], []),
  (22, .astore 5, 2, .null, [], []),
  (24, .iconst 1, 1, .null, [], []),
  (25, .ireturn, 1, .null, [], []),
  (26, .iconst 0, 1, .null, [], []),
  (27, .ireturn, 1, .null, [], [])]
def e_m69 : e_MD := (⟨"HexCampaignLaw", "setSource", "(LHexCampaign;IIZ[J)I"⟩, method_4_code, 6, (some .int), [(0, 19, 22, 13)], e_c69)
-- 70: HexCampaign.set(ZI)I
set_option maxRecDepth 100000 in
def e_c70 : List e_I := [(0, .iload_n 1, 1, .null, [], []),
  (1, .ifCond .eq 20, 3, .null, [21], []),
  (4, .iload_n 2, 1, .null, [], []),
  (5, .ifCond .lt 12, 3, .null, [17], []),
  (8, .iload_n 2, 1, .null, [], []),
  (9, .iconst 3, 1, .null, [], []),
  (10, .if_icmp .ge 7, 3, .null, [17], []),
  (13, .iconst 1, 1, .null, [], []),
  (14, .goto 23, 3, .null, [37], []),
  (17, .iconst 0, 1, .null, [], []),
  (18, .goto 19, 3, .null, [37], []),
  (21, .iload_n 2, 1, .null, [], []),
  (22, .iconst 1, 1, .null, [], []),
  (23, .if_icmp .lt 13, 3, .null, [36], []),
  (26, .iload_n 2, 1, .null, [], []),
  (27, .bipush 30, 2, .null, [], []),
  (29, .if_icmp .gt 7, 3, .null, [36], []),
  (32, .iconst 1, 1, .null, [], []),
  (33, .goto 4, 3, .null, [37], []),
  (36, .iconst 0, 1, .null, [], []),
  (37, .istore_n 3, 1, .null, [], []),
  (38, .iload_n 3, 1, .null, [], []),
  (39, .ifCond .ne 11, 3, .null, [50], []),
  (42, .new 72, 3, .null, [1, 1, 74], [(3, 125), (1, 19), (3, 134)]),
  (50, .iload_n 1, 1, .null, [], []),
  (51, .ifCond .eq 13, 3, .null, [64], []),
  (54, .aload_n 0, 1, .null, [], []),
  (55, .getfield 20, 3, .null, [8, 1, 1], [(2, 35)]),
  (58, .getfield 115, 3, .null, [2, 2, 0], [(1, 120)]),
  (61, .goto 10, 3, .null, [71], []),
  (64, .aload_n 0, 1, .null, [], []),
  (65, .getfield 20, 3, .null, [8, 1, 1], [(2, 35)]),
  (68, .getfield 119, 3, .null, [2, 5, 0], [(1, 128)]),
  (71, .istore 4, 2, .null, [], []),
  (73, .aload_n 0, 1, .null, [], []),
  (74, .getfield 34, 3, .null, [8, 4, 1], [(2, 38)]),
  (77, .aload_n 0, 1, .null, [], []),
  (78, .getfield 20, 3, .null, [8, 1, 1], [(2, 35)]),
  (81, .invokevirtual 91, 3, .null, [25, 1, 0, 0, 0, 5], [(2, 78), (2, 79), (2, 80), (2, 81), (1, 7)]),
  (84, .iload_n 1, 1, .null, [], []),
  (85, .ifCond .eq 14, 3, .null, [99], []),
  (88, .aload_n 0, 1, .null, [], []),
  (89, .getfield 20, 3, .null, [8, 1, 1], [(2, 35)]),
  (92, .iload_n 2, 1, .null, [], []),
  (93, .putfield 115, 3, .null, [2, 2, 0, 0], [(1, 120)]),
  (96, .goto 11, 3, .null, [107], []),
  (99, .aload_n 0, 1, .null, [], []),
  (100, .getfield 20, 3, .null, [8, 1, 1], [(2, 35)]),
  (103, .iload_n 2, 1, .null, [], []),
  (104, .putfield 119, 3, .null, [2, 5, 0, 0], [(1, 128)]),
  (107, .iload 4, 2, .null, [], []),
  (109, .ireturn, 1, .null, [], [])]
def e_m70 : e_MD := (⟨"HexCampaign", "set", "(ZI)I"⟩, prog_1_method_5_code, 5, (some .int), [], e_c70)
-- 71: HexCampaignLaw.set(LHexCampaign;ZI[J)I
set_option maxRecDepth 100000 in
def e_c71 : List e_I := [(0, .aload_n 3, 1, .null, [], []),
  (1, .iconst 0, 1, .null, [], []),
  (2, .aload_n 0, 1, .null, [], []),
  (3, .iload_n 1, 1, .null, [], []),
  (4, .iload_n 2, 1, .null, [], []),
  (5, .invokevirtual 23, 3, .null, [70, 2, 0, 1, 6, 8, 1, 4, 15], [(3, 189), (3, 190), (3, 191), (3, 192), (1, 1), (3, 95)]),
  (8, .i2l, 1, .null, [], []),
  (9, .lastore, 1, .null, [], []),
  (10, .goto 7, 3, .null, [17], []),
  (13, .astore 4, 2, .null, [], []),
  (15, .iconst 1, 1, .null, [], []),
  (16, .ireturn, 1, .null, [], []),
  (17, .iconst 0, 1, .null, [], []),
  (18, .ireturn, 1, .null, [], [])]
def e_m71 : e_MD := (⟨"HexCampaignLaw", "set", "(LHexCampaign;ZI[J)I"⟩, method_5_code, 5, (some .int), [(0, 10, 13, 15)], e_c71)
-- 72: HexCampaign.oneIf(Z)I
set_option maxRecDepth 100000 in
def e_c72 : List e_I := [(0, .iload_n 0, 1, .null, [], []),
  (1, .ifCond .eq 7, 3, .null, [8], []),
  (4, .iconst 1, 1, .null, [], []),
  (5, .goto 4, 3, .null, [9], []),
  (8, .iconst 0, 1, .null, [], []),
  (9, .ireturn, 1, .null, [], [])]
def e_m72 : e_MD := (⟨"HexCampaign", "oneIf", "(Z)I"⟩, prog_1_method_32_code, 1, (some .int), [], e_c72)
-- 73: HexCampaign$Units.strengthsOf(I)I
set_option maxRecDepth 100000 in
def e_c73 : List e_I := [(0, .iconst 0, 1, .null, [], []),
  (1, .istore_n 2, 1, .null, [], []),
  (2, .iconst 0, 1, .null, [], []),
  (3, .istore_n 3, 1, .null, [], []),
  (4, .iload_n 3, 1, .null, [], []),
  (5, .aload_n 0, 1, .null, [], []),
  (6, .getfield 15, 3, .null, [1, 6, 1], [(1, 80)]),
  (9, .arraylength, 1, .null, [], []),
  (10, .if_icmp .ge 26, 3, .null, [36], []),
  (13, .iload_n 1, 1, .null, [], []),
  (14, .iload_n 3, 1, .null, [], []),
  (15, .invokestatic 62, 3, .null, [27, 2, 0, 0, 0], [(2, 129), (2, 130), (1, 5), (2, 131)]),
  (18, .ifCond .eq 12, 3, .null, [30], []),
  (21, .iload_n 2, 1, .null, [], []),
  (22, .aload_n 0, 1, .null, [], []),
  (23, .getfield 15, 3, .null, [1, 6, 1], [(1, 80)]),
  (26, .iload_n 3, 1, .null, [], []),
  (27, .iaload, 1, .null, [], []),
  (28, .iadd, 1, .null, [], []),
  (29, .istore_n 2, 1, .null, [], []),
  (30, .iinc 3 1, 3, .null, [], []),
  (33, .goto (-29), 3, .null, [4], []),
  (36, .iload_n 2, 1, .null, [], []),
  (37, .ireturn, 1, .null, [], [])]
def e_m73 : e_MD := (⟨"HexCampaign$Units", "strengthsOf", "(I)I"⟩, prog_11_method_26_code, 4, (some .int), [], e_c73)
-- 74: HexCampaign.cell(II)I
set_option maxRecDepth 100000 in
def e_c74 : List e_I := [(0, .iload_n 1, 1, .null, [], []),
  (1, .invokestatic 69, 3, .null, [60, 1, 0, 1, 6], [(3, 101), (3, 102), (1, 1), (3, 103)]),
  (4, .iload_n 2, 1, .null, [], []),
  (5, .tableswitch 139 0 4 #[35, 47, 65, 105, 117], 35, .null, [144, 40, 52, 70, 110, 122], []),
  (40, .aload_n 0, 1, .null, [], []),
  (41, .getfield 20, 3, .null, [8, 1, 1], [(2, 35)]),
  (44, .getfield 82, 3, .null, [2, 0, 1], [(1, 114)]),
  (47, .iload_n 1, 1, .null, [], []),
  (48, .invokevirtual 86, 3, .null, [62, 1, 0, 0, 0, 0], [(3, 160), (3, 161), (3, 162), (3, 163), (1, 4)]),
  (51, .ireturn, 1, .null, [], []),
  (52, .aload_n 0, 1, .null, [], []),
  (53, .getfield 20, 3, .null, [8, 1, 1], [(2, 35)]),
  (56, .getfield 82, 3, .null, [2, 0, 1], [(1, 114)]),
  (59, .invokevirtual 122, 3, .null, [35, 0, 0, 0, 0, 0], [(3, 200), (2, 164), (2, 165), (2, 166), (1, 4)]),
  (62, .iload_n 1, 1, .null, [], []),
  (63, .invokestatic 106, 3, .null, [46, 2, 0, 0, 0], [(3, 181), (2, 208), (1, 20), (2, 209)]),
  (66, .invokestatic 126, 3, .null, [72, 1, 0, 0, 0], [(3, 201), (3, 202), (1, 1), (3, 203)]),
  (69, .ireturn, 1, .null, [], []),
  (70, .aload_n 0, 1, .null, [], []),
  (71, .getfield 20, 3, .null, [8, 1, 1], [(2, 35)]),
  (74, .getfield 82, 3, .null, [2, 0, 1], [(1, 114)]),
  (77, .iconst 0, 1, .null, [], []),
  (78, .invokevirtual 102, 3, .null, [40, 1, 0, 0, 0, 0], [(3, 180), (2, 180), (2, 181), (2, 182), (1, 4)]),
  (81, .iload_n 1, 1, .null, [], []),
  (82, .invokestatic 106, 3, .null, [46, 2, 0, 0, 0], [(3, 181), (2, 208), (1, 20), (2, 209)]),
  (85, .invokestatic 126, 3, .null, [72, 1, 0, 0, 0], [(3, 201), (3, 202), (1, 1), (3, 203)]),
  (88, .iconst 2, 1, .null, [], []),
  (89, .aload_n 0, 1, .null, [], []),
  (90, .getfield 20, 3, .null, [8, 1, 1], [(2, 35)]),
  (93, .getfield 82, 3, .null, [2, 0, 1], [(1, 114)]),
  (96, .iconst 1, 1, .null, [], []),
  (97, .invokevirtual 102, 3, .null, [40, 1, 0, 0, 0, 0], [(3, 180), (2, 180), (2, 181), (2, 182), (1, 4)]),
  (100, .iload_n 1, 1, .null, [], []),
  (101, .invokestatic 106, 3, .null, [46, 2, 0, 0, 0], [(3, 181), (2, 208), (1, 20), (2, 209)]),
  (104, .invokestatic 126, 3, .null, [72, 1, 0, 0, 0], [(3, 201), (3, 202), (1, 1), (3, 203)]),
  (107, .imul, 1, .null, [], []),
  (108, .iadd, 1, .null, [], []),
  (109, .ireturn, 1, .null, [], []),
  (110, .aload_n 0, 1, .null, [], []),
  (111, .getfield 20, 3, .null, [8, 1, 1], [(2, 35)]),
  (114, .getfield 56, 3, .null, [2, 1, 1], [(1, 117)]),
  (117, .iload_n 1, 1, .null, [], []),
  (118, .invokevirtual 75, 3, .null, [61, 1, 0, 0, 0, 1], [(3, 140), (3, 141), (3, 142), (3, 143), (1, 5)]),
  (121, .ireturn, 1, .null, [], []),
  (122, .aload_n 0, 1, .null, [], []),
  (123, .getfield 20, 3, .null, [8, 1, 1], [(2, 35)]),
  (126, .getfield 56, 3, .null, [2, 1, 1], [(1, 117)]),
  (129, .aload_n 0, 1, .null, [], []),
  (130, .getfield 20, 3, .null, [8, 1, 1], [(2, 35)]),
  (133, .getfield 56, 3, .null, [2, 1, 1], [(1, 117)]),
  (136, .iload_n 1, 1, .null, [], []),
  (137, .invokevirtual 75, 3, .null, [61, 1, 0, 0, 0, 1], [(3, 140), (3, 141), (3, 142), (3, 143), (1, 5)]),
  (140, .invokevirtual 130, 3, .null, [73, 1, 0, 0, 0, 1], [(3, 204), (3, 205), (3, 206), (3, 207), (1, 5)]),
  (143, .ireturn, 1, .null, [], []),
  (144, .new 72, 3, .null, [1, 1, 74], [(3, 125), (1, 19), (3, 134)])]
def e_m74 : e_MD := (⟨"HexCampaign", "cell", "(II)I"⟩, prog_1_method_6_code, 3, (some .int), [], e_c74)
-- 75: HexCampaignLaw.cell(LHexCampaign;II[J)I
set_option maxRecDepth 100000 in
def e_c75 : List e_I := [(0, .aload_n 3, 1, .null, [], []),
  (1, .iconst 0, 1, .null, [], []),
  (2, .aload_n 0, 1, .null, [], []),
  (3, .iload_n 1, 1, .null, [], []),
  (4, .iload_n 2, 1, .null, [], []),
  (5, .invokevirtual 27, 3, .null, [74, 2, 0, 2, 12, 8, 0, 4, 15, 1, 4, 19], [(3, 196), (3, 197), (3, 198), (3, 199), (1, 1), (3, 15), (3, 95)]),
  (8, .i2l, 1, .null, [], []),
  (9, .lastore, 1, .null, [], []),
  (10, .goto 11, 3, .null, [21], []),
  (13, .astore 4, 2, .null, [], []),
  (15, .iconst 1, 1, .null, [], []),
  (16, .ireturn, 1, .null, [], []),
  (17, .astore 4, 2, .null, [], []),
  (19, .iconst 2, 1, .null, [], []),
  (20, .ireturn, 1, .null, [], []),
  (21, .iconst 0, 1, .null, [], []),
  (22, .ireturn, 1, .null, [], [])]
def e_m75 : e_MD := (⟨"HexCampaignLaw", "cell", "(LHexCampaign;II[J)I"⟩, method_6_code, 5, (some .int), [(0, 10, 13, 13), (0, 10, 17, 15)], e_c75)
-- 76: HexCampaign$Hexes.at(II)I
set_option maxRecDepth 100000 in
def e_c76 : List e_I := [(0, .iload_n 0, 1, .null, [], []),
  (1, .ifCond .lt 23, 3, .null, [24], []),
  (4, .iload_n 0, 1, .null, [], []),
  (5, .bipush 7, 2, .null, [], []),
  (7, .if_icmp .ge 17, 3, .null, [24], []),
  (10, .iload_n 1, 1, .null, [], []),
  (11, .ifCond .lt 13, 3, .null, [24], []),
  (14, .iload_n 1, 1, .null, [], []),
  (15, .bipush 9, 2, .null, [], []),
  (17, .if_icmp .ge 7, 3, .null, [24], []),
  (20, .iconst 1, 1, .null, [], []),
  (21, .goto 4, 3, .null, [25], []),
  (24, .iconst 0, 1, .null, [], []),
  (25, .istore_n 2, 1, .null, [], []),
  (26, .iload_n 2, 1, .null, [], []),
  (27, .ifCond .eq 12, 3, .null, [39], []),
  (30, .bipush 9, 2, .null, [], []),
  (32, .iload_n 0, 1, .null, [], []),
  (33, .imul, 1, .null, [], []),
  (34, .iload_n 1, 1, .null, [], []),
  (35, .iadd, 1, .null, [], []),
  (36, .goto 4, 3, .null, [40], []),
  (39, .iconst (-1), 1, .null, [], []),
  (40, .ireturn, 1, .null, [], [])]
def e_m76 : e_MD := (⟨"HexCampaign$Hexes", "at", "(II)I"⟩, prog_3_method_7_code, 3, (some .int), [], e_c76)
-- 77: HexCampaign$Hexes.beside(II)I
set_option maxRecDepth 100000 in
def e_c77 : List e_I := [(0, .iload_n 0, 1, .null, [], []),
  (1, .bipush 9, 2, .null, [], []),
  (3, .idiv, 1, .null, [], []),
  (4, .istore_n 2, 1, .null, [], []),
  (5, .iload_n 0, 1, .null, [], []),
  (6, .bipush 9, 2, .null, [], []),
  (8, .irem, 1, .null, [], []),
  (9, .istore_n 3, 1, .null, [], []),
  (10, .iload_n 2, 1, .null, [], []),
  (11, .iconst 2, 1, .null, [], []),
  (12, .irem, 1, .null, [], []),
  (13, .istore 4, 2, .null, [], []),
  (15, .iload_n 1, 1, .null, [], []),
  (16, .tableswitch 104 0 5 #[40, 48, 59, 72, 80, 93], 40, .null, [120, 56, 64, 75, 88, 96, 109], []),
  (56, .iload_n 2, 1, .null, [], []),
  (57, .iload_n 3, 1, .null, [], []),
  (58, .iconst 1, 1, .null, [], []),
  (59, .iadd, 1, .null, [], []),
  (60, .invokestatic 25, 3, .null, [76, 2, 0, 0, 0], [(3, 219), (3, 220), (1, 20), (3, 221)]),
  (63, .ireturn, 1, .null, [], []),
  (64, .iload_n 2, 1, .null, [], []),
  (65, .iconst 1, 1, .null, [], []),
  (66, .isub, 1, .null, [], []),
  (67, .iload_n 3, 1, .null, [], []),
  (68, .iload 4, 2, .null, [], []),
  (70, .iadd, 1, .null, [], []),
  (71, .invokestatic 25, 3, .null, [76, 2, 0, 0, 0], [(3, 219), (3, 220), (1, 20), (3, 221)]),
  (74, .ireturn, 1, .null, [], []),
  (75, .iload_n 2, 1, .null, [], []),
  (76, .iconst 1, 1, .null, [], []),
  (77, .isub, 1, .null, [], []),
  (78, .iload_n 3, 1, .null, [], []),
  (79, .iload 4, 2, .null, [], []),
  (81, .iadd, 1, .null, [], []),
  (82, .iconst 1, 1, .null, [], []),
  (83, .isub, 1, .null, [], []),
  (84, .invokestatic 25, 3, .null, [76, 2, 0, 0, 0], [(3, 219), (3, 220), (1, 20), (3, 221)]),
  (87, .ireturn, 1, .null, [], []),
  (88, .iload_n 2, 1, .null, [], []),
  (89, .iload_n 3, 1, .null, [], []),
  (90, .iconst 1, 1, .null, [], []),
  (91, .isub, 1, .null, [], []),
  (92, .invokestatic 25, 3, .null, [76, 2, 0, 0, 0], [(3, 219), (3, 220), (1, 20), (3, 221)]),
  (95, .ireturn, 1, .null, [], []),
  (96, .iload_n 2, 1, .null, [], []),
  (97, .iconst 1, 1, .null, [], []),
  (98, .iadd, 1, .null, [], []),
  (99, .iload_n 3, 1, .null, [], []),
  (100, .iload 4, 2, .null, [], []),
  (102, .iadd, 1, .null, [], []),
  (103, .iconst 1, 1, .null, [], []),
  (104, .isub, 1, .null, [], []),
  (105, .invokestatic 25, 3, .null, [76, 2, 0, 0, 0], [(3, 219), (3, 220), (1, 20), (3, 221)]),
  (108, .ireturn, 1, .null, [], []),
  (109, .iload_n 2, 1, .null, [], []),
  (110, .iconst 1, 1, .null, [], []),
  (111, .iadd, 1, .null, [], []),
  (112, .iload_n 3, 1, .null, [], []),
  (113, .iload 4, 2, .null, [], []),
  (115, .iadd, 1, .null, [], []),
  (116, .invokestatic 25, 3, .null, [76, 2, 0, 0, 0], [(3, 219), (3, 220), (1, 20), (3, 221)]),
  (119, .ireturn, 1, .null, [], []),
  (120, .iconst (-1), 1, .null, [], []),
  (121, .ireturn, 1, .null, [], [])]
def e_m77 : e_MD := (⟨"HexCampaign$Hexes", "beside", "(II)I"⟩, prog_3_method_6_code, 5, (some .int), [], e_c77)
-- 78: HexCampaign.neighbor(II)I
set_option maxRecDepth 100000 in
def e_c78 : List e_I := [(0, .iload_n 1, 1, .null, [], []),
  (1, .invokestatic 69, 3, .null, [60, 1, 0, 1, 6], [(3, 101), (3, 102), (1, 1), (3, 103)]),
  (4, .iload_n 2, 1, .null, [], []),
  (5, .ifCond .lt 9, 3, .null, [14], []),
  (8, .iload_n 2, 1, .null, [], []),
  (9, .bipush 6, 2, .null, [], []),
  (11, .if_icmp .lt 11, 3, .null, [22], []),
  (14, .new 133, 3, .null, [1, 0, 135], [(3, 104), (1, 16), (3, 113)]),
  (22, .iload_n 1, 1, .null, [], []),
  (23, .iload_n 2, 1, .null, [], []),
  (24, .invokestatic 136, 3, .null, [77, 2, 0, 0, 0], [(3, 216), (3, 217), (1, 20), (3, 218)]),
  (27, .istore_n 3, 1, .null, [], []),
  (28, .iload_n 3, 1, .null, [], []),
  (29, .iconst (-1), 1, .null, [], []),
  (30, .if_icmp .ne 11, 3, .null, [41], []),
  (33, .new 140, 3, .null, [1, 3, 142], [(3, 222), (1, 24), (3, 231)]),
  (41, .iload_n 3, 1, .null, [], []),
  (42, .ireturn, 1, .null, [], [])]
def e_m78 : e_MD := (⟨"HexCampaign", "neighbor", "(II)I"⟩, prog_1_method_7_code, 4, (some .int), [], e_c78)
-- 79: HexCampaignLaw.neighbor(LHexCampaign;II[J)I
set_option maxRecDepth 100000 in
def e_c79 : List e_I := [(0, .aload_n 3, 1, .null, [], []),
  (1, .iconst 0, 1, .null, [], []),
  (2, .aload_n 0, 1, .null, [], []),
  (3, .iload_n 1, 1, .null, [], []),
  (4, .iload_n 2, 1, .null, [], []),
  (5, .invokevirtual 31, 3, .null, [78, 2, 0, 3, 18, 8, 0, 4, 15, 3, 4, 19], [(3, 212), (3, 213), (3, 214), (3, 215), (1, 1), (3, 15), (3, 211)]),
  (8, .i2l, 1, .null, [], []),
  (9, .lastore, 1, .null, [], []),
  (10, .goto 11, 3, .null, [21], []),
  (13, .astore 4, 2, .null, [], []),
  (15, .iconst 1, 1, .null, [], []),
  (16, .ireturn, 1, .null, [], []),
  (17, .astore 4, 2, .null, [], []),
  (19, .iconst 2, 1, .null, [], []),
  (20, .ireturn, 1, .null, [], []),
  (21, .iconst 0, 1, .null, [], []),
  (22, .ireturn, 1, .null, [], [])]
def e_m79 : e_MD := (⟨"HexCampaignLaw", "neighbor", "(LHexCampaign;II[J)I"⟩, method_7_code, 5, (some .int), [(0, 10, 13, 13), (0, 10, 17, 34)], e_c79)
-- 80: HexCampaign$Hexes.slant(I)I
set_option maxRecDepth 100000 in
def e_c80 : List e_I := [(0, .iload_n 0, 1, .null, [], []),
  (1, .bipush 9, 2, .null, [], []),
  (3, .irem, 1, .null, [], []),
  (4, .iload_n 0, 1, .null, [], []),
  (5, .bipush 9, 2, .null, [], []),
  (7, .idiv, 1, .null, [], []),
  (8, .iconst 2, 1, .null, [], []),
  (9, .idiv, 1, .null, [], []),
  (10, .isub, 1, .null, [], []),
  (11, .ireturn, 1, .null, [], [])]
def e_m80 : e_MD := (⟨"HexCampaign$Hexes", "slant", "(I)I"⟩, prog_3_method_9_code, 1, (some .int), [], e_c80)
-- 81: java/lang/Math.abs(I)I
set_option maxRecDepth 100000 in
def e_c81 : List e_I := [(0, .iload_n 0, 1, .null, [], []),
  (1, .ifCond .ge 8, 3, .null, [9], []),
  (4, .iload_n 0, 1, .null, [], []),
  (5, .ineg, 1, .null, [], []),
  (6, .goto 4, 3, .null, [10], []),
  (9, .iload_n 0, 1, .null, [], []),
  (10, .ireturn, 1, .null, [], [])]
def e_m81 : e_MD := (⟨"java/lang/Math", "abs", "(I)I"⟩, prog_25_method_59_code, 1, (some .int), [], e_c81)
-- 82: java/lang/Math.max(II)I
set_option maxRecDepth 100000 in
def e_c82 : List e_I := [(0, .iload_n 0, 1, .null, [], []),
  (1, .iload_n 1, 1, .null, [], []),
  (2, .if_icmp .lt 7, 3, .null, [9], []),
  (5, .iload_n 0, 1, .null, [], []),
  (6, .goto 4, 3, .null, [10], []),
  (9, .iload_n 1, 1, .null, [], []),
  (10, .ireturn, 1, .null, [], [])]
def e_m82 : e_MD := (⟨"java/lang/Math", "max", "(II)I"⟩, prog_25_method_65_code, 2, (some .int), [], e_c82)
-- 83: HexCampaign$Hexes.apart(II)I
set_option maxRecDepth 100000 in
def e_c83 : List e_I := [(0, .iload_n 1, 1, .null, [], []),
  (1, .bipush 9, 2, .null, [], []),
  (3, .idiv, 1, .null, [], []),
  (4, .iload_n 0, 1, .null, [], []),
  (5, .bipush 9, 2, .null, [], []),
  (7, .idiv, 1, .null, [], []),
  (8, .isub, 1, .null, [], []),
  (9, .istore_n 2, 1, .null, [], []),
  (10, .iload_n 1, 1, .null, [], []),
  (11, .invokestatic 29, 3, .null, [80, 1, 0, 0, 0], [(4, 7), (4, 8), (1, 20), (4, 9)]),
  (14, .iload_n 0, 1, .null, [], []),
  (15, .invokestatic 29, 3, .null, [80, 1, 0, 0, 0], [(4, 7), (4, 8), (1, 20), (4, 9)]),
  (18, .isub, 1, .null, [], []),
  (19, .istore_n 3, 1, .null, [], []),
  (20, .iload_n 2, 1, .null, [], []),
  (21, .iload_n 3, 1, .null, [], []),
  (22, .iadd, 1, .null, [], []),
  (23, .invokestatic 33, 3, .null, [81, 1, 0, 0, 0], [(4, 10), (4, 11), (1, 22), (4, 12)]),
  (26, .iload_n 2, 1, .null, [], []),
  (27, .invokestatic 33, 3, .null, [81, 1, 0, 0, 0], [(4, 10), (4, 11), (1, 22), (4, 12)]),
  (30, .iload_n 3, 1, .null, [], []),
  (31, .invokestatic 33, 3, .null, [81, 1, 0, 0, 0], [(4, 10), (4, 11), (1, 22), (4, 12)]),
  (34, .invokestatic 38, 3, .null, [82, 2, 0, 0, 0], [(4, 13), (4, 14), (1, 22), (4, 15)]),
  (37, .invokestatic 38, 3, .null, [82, 2, 0, 0, 0], [(4, 13), (4, 14), (1, 22), (4, 15)]),
  (40, .ireturn, 1, .null, [], [])]
def e_m83 : e_MD := (⟨"HexCampaign$Hexes", "apart", "(II)I"⟩, prog_3_method_8_code, 4, (some .int), [], e_c83)
-- 84: HexCampaign.distance(II)I
set_option maxRecDepth 100000 in
def e_c84 : List e_I := [(0, .iload_n 1, 1, .null, [], []),
  (1, .invokestatic 69, 3, .null, [60, 1, 0, 1, 6], [(3, 101), (3, 102), (1, 1), (3, 103)]),
  (4, .iload_n 2, 1, .null, [], []),
  (5, .invokestatic 69, 3, .null, [60, 1, 0, 1, 6], [(3, 101), (3, 102), (1, 1), (3, 103)]),
  (8, .iload_n 1, 1, .null, [], []),
  (9, .iload_n 2, 1, .null, [], []),
  (10, .invokestatic 143, 3, .null, [83, 2, 0, 0, 0], [(4, 4), (4, 5), (1, 20), (4, 6)]),
  (13, .ireturn, 1, .null, [], [])]
def e_m84 : e_MD := (⟨"HexCampaign", "distance", "(II)I"⟩, prog_1_method_8_code, 3, (some .int), [], e_c84)
-- 85: HexCampaignLaw.distance(LHexCampaign;II[J)I
set_option maxRecDepth 100000 in
def e_c85 : List e_I := [(0, .aload_n 3, 1, .null, [], []),
  (1, .iconst 0, 1, .null, [], []),
  (2, .aload_n 0, 1, .null, [], []),
  (3, .iload_n 1, 1, .null, [], []),
  (4, .iload_n 2, 1, .null, [], []),
  (5, .invokevirtual 36, 3, .null, [84, 2, 0, 2, 12, 8, 0, 4, 15], [(4, 0), (4, 1), (4, 2), (4, 3), (1, 1), (3, 15)]),
  (8, .i2l, 1, .null, [], []),
  (9, .lastore, 1, .null, [], []),
  (10, .goto 7, 3, .null, [17], []),
  (13, .astore 4, 2, .null, [], []),
  (15, .iconst 1, 1, .null, [], []),
  (16, .ireturn, 1, .null, [], []),
  (17, .iconst 0, 1, .null, [], []),
  (18, .ireturn, 1, .null, [], [])]
def e_m85 : e_MD := (⟨"HexCampaignLaw", "distance", "(LHexCampaign;II[J)I"⟩, method_8_code, 5, (some .int), [(0, 10, 13, 13)], e_c85)
-- 86: HexCampaign$Game.sightRange()I
set_option maxRecDepth 100000 in
def e_c86 : List e_I := [(0, .getstatic 58, 3, .retAddr 11, [1], [(4, 27)]),
  (3, .aload_n 0, 1, .null, [], []),
  (4, .getfield 29, 3, .null, [2, 2, 0], [(1, 118)]),
  (7, .invokestatic 62, 3, .null, [36, 2, 0, 0, 0], [(4, 29), (2, 177), (1, 10), (2, 178)]),
  (10, .ireturn, 1, .null, [], [])]
def e_m86 : e_MD := (⟨"HexCampaign$Game", "sightRange", "()I"⟩, prog_2_method_4_code, 1, (some .int), [], e_c86)
-- 87: HexCampaign.count(I)I
set_option maxRecDepth 100000 in
def e_c87 : List e_I := [(0, .iload_n 1, 1, .null, [], []),
  (1, .tableswitch 114 0 7 #[47, 58, 66, 74, 82, 90, 98, 106], 47, .null, [115, 48, 59, 67, 75, 83, 91, 99, 107], []),
  (48, .aload_n 0, 1, .null, [], []),
  (49, .getfield 20, 3, .null, [8, 1, 1], [(2, 35)]),
  (52, .getfield 56, 3, .null, [2, 1, 1], [(1, 117)]),
  (55, .invokevirtual 60, 3, .null, [15, 0, 0, 0, 0, 1], [(2, 60), (2, 61), (2, 62), (2, 63), (1, 5)]),
  (58, .ireturn, 1, .null, [], []),
  (59, .aload_n 0, 1, .null, [], []),
  (60, .getfield 20, 3, .null, [8, 1, 1], [(2, 35)]),
  (63, .getfield 146, 3, .null, [2, 3, 0], [(1, 122)]),
  (66, .ireturn, 1, .null, [], []),
  (67, .aload_n 0, 1, .null, [], []),
  (68, .getfield 20, 3, .null, [8, 1, 1], [(2, 35)]),
  (71, .getfield 149, 3, .null, [2, 4, 0], [(1, 124)]),
  (74, .ireturn, 1, .null, [], []),
  (75, .aload_n 0, 1, .null, [], []),
  (76, .getfield 20, 3, .null, [8, 1, 1], [(2, 35)]),
  (79, .getfield 115, 3, .null, [2, 2, 0], [(1, 120)]),
  (82, .ireturn, 1, .null, [], []),
  (83, .aload_n 0, 1, .null, [], []),
  (84, .getfield 20, 3, .null, [8, 1, 1], [(2, 35)]),
  (87, .getfield 119, 3, .null, [2, 5, 0], [(1, 128)]),
  (90, .ireturn, 1, .null, [], []),
  (91, .aload_n 0, 1, .null, [], []),
  (92, .getfield 20, 3, .null, [8, 1, 1], [(2, 35)]),
  (95, .invokevirtual 152, 3, .null, [86, 0, 0, 0, 0, 2], [(4, 23), (4, 24), (4, 25), (4, 26), (1, 3)]),
  (98, .ireturn, 1, .null, [], []),
  (99, .aload_n 0, 1, .null, [], []),
  (100, .getfield 20, 3, .null, [8, 1, 1], [(2, 35)]),
  (103, .getfield 155, 3, .null, [2, 6, 0], [(1, 130)]),
  (106, .ireturn, 1, .null, [], []),
  (107, .aload_n 0, 1, .null, [], []),
  (108, .getfield 20, 3, .null, [8, 1, 1], [(2, 35)]),
  (111, .getfield 158, 3, .null, [2, 7, 0], [(1, 133)]),
  (114, .ireturn, 1, .null, [], []),
  (115, .new 72, 3, .null, [1, 1, 74], [(3, 125), (1, 19), (3, 134)])]
def e_m87 : e_MD := (⟨"HexCampaign", "count", "(I)I"⟩, prog_1_method_9_code, 2, (some .int), [], e_c87)
-- 88: HexCampaignLaw.count(LHexCampaign;I[J)I
set_option maxRecDepth 100000 in
def e_c88 : List e_I := [(0, .aload_n 2, 1, .null, [], []),
  (1, .iconst 0, 1, .null, [], []),
  (2, .aload_n 0, 1, .null, [], []),
  (3, .iload_n 1, 1, .null, [], []),
  (4, .invokevirtual 39, 3, .null, [87, 1, 0, 1, 6, 8, 1, 3, 13], [(4, 19), (4, 20), (4, 21), (4, 22), (1, 1), (3, 95)]),
  (7, .i2l, 1, .null, [], []),
  (8, .lastore, 1, .null, [], []),
  (9, .goto 6, 3, .null, [15], []),
  (12, .astore_n 3, 1, .null, [], []),
  (13, .iconst 1, 1, .null, [], []),
  (14, .ireturn, 1, .null, [], []),
  (15, .iconst 0, 1, .null, [], []),
  (16, .ireturn, 1, .null, [], [])]
def e_m88 : e_MD := (⟨"HexCampaignLaw", "count", "(LHexCampaign;I[J)I"⟩, method_9_code, 4, (some .int), [(0, 9, 12, 15)], e_c88)
-- 89: HexCampaign$Units.isFull()Z
set_option maxRecDepth 100000 in
def e_c89 : List e_I := [(0, .aload_n 0, 1, .null, [], []),
  (1, .getfield 33, 3, .null, [1, 0, 0], [(1, 74)]),
  (4, .bipush 16, 2, .null, [], []),
  (6, .if_icmp .lt 7, 3, .null, [13], []),
  (9, .iconst 1, 1, .null, [], []),
  (10, .goto 4, 3, .null, [14], []),
  (13, .iconst 0, 1, .null, [], []),
  (14, .ireturn, 1, .null, [], [])]
def e_m89 : e_MD := (⟨"HexCampaign$Units", "isFull", "()Z"⟩, prog_11_method_8_code, 1, (some .boolean), [], e_c89)
-- 90: HexCampaign$Units.all()I
set_option maxRecDepth 100000 in
def e_c90 : List e_I := [(0, .aload_n 0, 1, .null, [], []),
  (1, .getfield 37, 3, .null, [1, 1, 0], [(1, 75)]),
  (4, .ireturn, 1, .null, [], [])]
def e_m90 : e_MD := (⟨"HexCampaign$Units", "all", "()I"⟩, prog_11_method_11_code, 1, (some .int), [], e_c90)
-- 91: HexCampaign$Units.isRoomAt(IIII)Z
set_option maxRecDepth 100000 in
def e_c91 : List e_I := [(0, .aload_n 0, 1, .null, [], []),
  (1, .iload_n 1, 1, .null, [], []),
  (2, .invokestatic 76, 3, .null, [28, 1, 0, 0, 0], [(2, 132), (2, 133), (1, 20), (2, 134)]),
  (5, .invokevirtual 82, 3, .null, [48, 1, 0, 0, 0, 1], [(3, 144), (2, 204), (2, 205), (2, 206), (1, 5)]),
  (8, .iload 4, 2, .null, [], []),
  (10, .iand, 1, .null, [], []),
  (11, .istore 5, 2, .null, [], []),
  (13, .iload 5, 2, .null, [], []),
  (15, .aload_n 0, 1, .null, [], []),
  (16, .iconst 1, 1, .null, [], []),
  (17, .iload_n 2, 1, .null, [], []),
  (18, .isub, 1, .null, [], []),
  (19, .invokevirtual 91, 3, .null, [26, 1, 0, 0, 0, 1], [(4, 49), (2, 112), (2, 113), (2, 114), (1, 5)]),
  (22, .iand, 1, .null, [], []),
  (23, .ifCond .ne 29, 3, .null, [52], []),
  (26, .iload 5, 2, .null, [], []),
  (28, .invokestatic 66, 3, .null, [14, 1, 0, 0, 0], [(2, 64), (2, 65), (1, 12), (2, 66)]),
  (31, .iconst 2, 1, .null, [], []),
  (32, .if_icmp .gt 20, 3, .null, [52], []),
  (35, .aload_n 0, 1, .null, [], []),
  (36, .iload 5, 2, .null, [], []),
  (38, .invokevirtual 94, 3, .null, [73, 1, 0, 0, 0, 1], [(4, 50), (3, 205), (3, 206), (3, 207), (1, 5)]),
  (41, .iload_n 3, 1, .null, [], []),
  (42, .iadd, 1, .null, [], []),
  (43, .bipush 12, 2, .null, [], []),
  (45, .if_icmp .gt 7, 3, .null, [52], []),
  (48, .iconst 1, 1, .null, [], []),
  (49, .goto 4, 3, .null, [53], []),
  (52, .iconst 0, 1, .null, [], []),
  (53, .ireturn, 1, .null, [], [])]
def e_m91 : e_MD := (⟨"HexCampaign$Units", "isRoomAt", "(IIII)Z"⟩, prog_11_method_27_code, 6, (some .boolean), [], e_c91)
-- 92: HexCampaign$Units.enlist(IIII)I
set_option maxRecDepth 100000 in
def e_c92 : List e_I := [(0, .aload_n 0, 1, .null, [], []),
  (1, .getfield 33, 3, .null, [1, 0, 0], [(1, 74)]),
  (4, .istore 5, 2, .null, [], []),
  (6, .aload_n 0, 1, .null, [], []),
  (7, .dup, 1, .null, [], []),
  (8, .getfield 33, 3, .null, [1, 0, 0], [(1, 74)]),
  (11, .iconst 1, 1, .null, [], []),
  (12, .iadd, 1, .null, [], []),
  (13, .putfield 33, 3, .null, [1, 0, 0, 0], [(1, 74)]),
  (16, .aload_n 0, 1, .null, [], []),
  (17, .dup, 1, .null, [], []),
  (18, .getfield 37, 3, .null, [1, 1, 0], [(1, 75)]),
  (21, .iload 5, 2, .null, [], []),
  (23, .invokestatic 89, 3, .null, [47, 1, 0, 0, 0], [(2, 210), (2, 211), (1, 5), (2, 212)]),
  (26, .ior, 1, .null, [], []),
  (27, .putfield 37, 3, .null, [1, 1, 0, 0], [(1, 75)]),
  (30, .iload_n 1, 1, .null, [], []),
  (31, .iconst 1, 1, .null, [], []),
  (32, .if_icmp .ne 17, 3, .null, [49], []),
  (35, .aload_n 0, 1, .null, [], []),
  (36, .dup, 1, .null, [], []),
  (37, .getfield 40, 3, .null, [1, 2, 0], [(1, 76)]),
  (40, .iload 5, 2, .null, [], []),
  (42, .invokestatic 89, 3, .null, [47, 1, 0, 0, 0], [(2, 210), (2, 211), (1, 5), (2, 212)]),
  (45, .ior, 1, .null, [], []),
  (46, .putfield 40, 3, .null, [1, 2, 0, 0], [(1, 76)]),
  (49, .aload_n 0, 1, .null, [], []),
  (50, .getfield 9, 3, .null, [1, 5, 1], [(1, 79)]),
  (53, .iload 5, 2, .null, [], []),
  (55, .iload_n 2, 1, .null, [], []),
  (56, .invokestatic 113, 3, .null, [51, 3, 0, 0, 0], [(2, 231), (2, 232), (1, 10), (2, 233)]),
  (59, .aload_n 0, 1, .null, [], []),
  (60, .getfield 15, 3, .null, [1, 6, 1], [(1, 80)]),
  (63, .iload 5, 2, .null, [], []),
  (65, .iload_n 3, 1, .null, [], []),
  (66, .invokestatic 113, 3, .null, [51, 3, 0, 0, 0], [(2, 231), (2, 232), (1, 10), (2, 233)]),
  (69, .aload_n 0, 1, .null, [], []),
  (70, .getfield 18, 3, .null, [1, 7, 1], [(1, 81)]),
  (73, .iload 5, 2, .null, [], []),
  (75, .iload 4, 2, .null, [], []),
  (77, .invokestatic 113, 3, .null, [51, 3, 0, 0, 0], [(2, 231), (2, 232), (1, 10), (2, 233)]),
  (80, .aload_n 0, 1, .null, [], []),
  (81, .getfield 21, 3, .null, [1, 8, 1], [(1, 82)]),
  (84, .iload_n 1, 1, .null, [], []),
  (85, .iload_n 3, 1, .null, [], []),
  (86, .invokestatic 117, 3, .null, [52, 3, 0, 0, 0], [(2, 234), (2, 235), (1, 10), (2, 236)]),
  (89, .iload 5, 2, .null, [], []),
  (91, .ireturn, 1, .null, [], [])]
def e_m92 : e_MD := (⟨"HexCampaign$Units", "enlist", "(IIII)I"⟩, prog_11_method_32_code, 6, (some .int), [], e_c92)
-- 93: HexCampaign.add(IIII)I
set_option maxRecDepth 100000 in
def e_c93 : List e_I := [(0, .iload_n 1, 1, .null, [], []),
  (1, .invokestatic 99, 3, .null, [66, 1, 0, 1, 6], [(3, 177), (3, 178), (1, 1), (3, 179)]),
  (4, .iload_n 2, 1, .null, [], []),
  (5, .invokestatic 69, 3, .null, [60, 1, 0, 1, 6], [(3, 101), (3, 102), (1, 1), (3, 103)]),
  (8, .iload_n 3, 1, .null, [], []),
  (9, .iconst 1, 1, .null, [], []),
  (10, .if_icmp .lt 22, 3, .null, [32], []),
  (13, .iload_n 3, 1, .null, [], []),
  (14, .bipush 9, 2, .null, [], []),
  (16, .if_icmp .gt 16, 3, .null, [32], []),
  (19, .iload 4, 2, .null, [], []),
  (21, .iconst 1, 1, .null, [], []),
  (22, .if_icmp .lt 10, 3, .null, [32], []),
  (25, .iload 4, 2, .null, [], []),
  (27, .bipush 12, 2, .null, [], []),
  (29, .if_icmp .le 11, 3, .null, [40], []),
  (32, .new 72, 3, .null, [1, 1, 74], [(3, 125), (1, 19), (3, 134)]),
  (40, .aload_n 0, 1, .null, [], []),
  (41, .getfield 20, 3, .null, [8, 1, 1], [(2, 35)]),
  (44, .getfield 56, 3, .null, [2, 1, 1], [(1, 117)]),
  (47, .invokevirtual 161, 3, .null, [89, 0, 0, 0, 0, 1], [(4, 37), (4, 38), (4, 39), (4, 40), (1, 5)]),
  (50, .ifCond .ne 44, 3, .null, [94], []),
  (53, .aload_n 0, 1, .null, [], []),
  (54, .getfield 20, 3, .null, [8, 1, 1], [(2, 35)]),
  (57, .getfield 82, 3, .null, [2, 0, 1], [(1, 114)]),
  (60, .iload_n 2, 1, .null, [], []),
  (61, .invokevirtual 86, 3, .null, [62, 1, 0, 0, 0, 0], [(3, 160), (3, 161), (3, 162), (3, 163), (1, 4)]),
  (64, .iconst 5, 1, .null, [], []),
  (65, .if_icmp .eq 29, 3, .null, [94], []),
  (68, .aload_n 0, 1, .null, [], []),
  (69, .getfield 20, 3, .null, [8, 1, 1], [(2, 35)]),
  (72, .getfield 56, 3, .null, [2, 1, 1], [(1, 117)]),
  (75, .iload_n 2, 1, .null, [], []),
  (76, .iload_n 1, 1, .null, [], []),
  (77, .iload_n 3, 1, .null, [], []),
  (78, .aload_n 0, 1, .null, [], []),
  (79, .getfield 20, 3, .null, [8, 1, 1], [(2, 35)]),
  (82, .getfield 56, 3, .null, [2, 1, 1], [(1, 117)]),
  (85, .invokevirtual 165, 3, .null, [90, 0, 0, 0, 0, 1], [(4, 41), (4, 42), (4, 43), (4, 44), (1, 5)]),
  (88, .invokevirtual 168, 3, .null, [91, 4, 0, 0, 0, 1], [(4, 45), (4, 46), (4, 47), (4, 48), (1, 5)]),
  (91, .ifCond .ne 11, 3, .null, [102], []),
  (94, .new 79, 3, .null, [1, 2, 81], [(3, 145), (1, 21), (3, 154)]),
  (102, .aload_n 0, 1, .null, [], []),
  (103, .getfield 34, 3, .null, [8, 4, 1], [(2, 38)]),
  (106, .aload_n 0, 1, .null, [], []),
  (107, .getfield 20, 3, .null, [8, 1, 1], [(2, 35)]),
  (110, .invokevirtual 91, 3, .null, [25, 1, 0, 0, 0, 5], [(2, 78), (2, 79), (2, 80), (2, 81), (1, 7)]),
  (113, .aload_n 0, 1, .null, [], []),
  (114, .getfield 20, 3, .null, [8, 1, 1], [(2, 35)]),
  (117, .getfield 56, 3, .null, [2, 1, 1], [(1, 117)]),
  (120, .iload_n 1, 1, .null, [], []),
  (121, .iload_n 2, 1, .null, [], []),
  (122, .iload_n 3, 1, .null, [], []),
  (123, .iload 4, 2, .null, [], []),
  (125, .invokevirtual 172, 3, .null, [92, 4, 0, 0, 0, 1], [(4, 51), (4, 52), (4, 53), (4, 54), (1, 5)]),
  (128, .ireturn, 1, .null, [], [])]
def e_m93 : e_MD := (⟨"HexCampaign", "add", "(IIII)I"⟩, prog_1_method_10_code, 5, (some .int), [], e_c93)
-- 94: HexCampaignLaw.add(LHexCampaign;IIII[J)I
set_option maxRecDepth 100000 in
def e_c94 : List e_I := [(0, .aload 5, 2, .null, [], []),
  (2, .iconst 0, 1, .null, [], []),
  (3, .aload_n 0, 1, .null, [], []),
  (4, .iload_n 1, 1, .null, [], []),
  (5, .iload_n 2, 1, .null, [], []),
  (6, .iload_n 3, 1, .null, [], []),
  (7, .iload 4, 2, .null, [], []),
  (9, .invokevirtual 43, 3, .null, [93, 4, 0, 4, 24, 8, 0, 6, 19, 1, 6, 23, 2, 6, 27], [(4, 33), (4, 34), (4, 35), (4, 36), (1, 1), (3, 15), (3, 95), (3, 96)]),
  (12, .i2l, 1, .null, [], []),
  (13, .lastore, 1, .null, [], []),
  (14, .goto 15, 3, .null, [29], []),
  (17, .astore 6, 2, .null, [], []),
  (19, .iconst 1, 1, .null, [], []),
  (20, .ireturn, 1, .null, [], []),
  (21, .astore 6, 2, .null, [], []),
  (23, .iconst 2, 1, .null, [], []),
  (24, .ireturn, 1, .null, [], []),
  (25, .astore 6, 2, .null, [], []),
  (27, .iconst 3, 1, .null, [], []),
  (28, .ireturn, 1, .null, [], []),
  (29, .iconst 0, 1, .null, [], []),
  (30, .ireturn, 1, .null, [], [])]
def e_m94 : e_MD := (⟨"HexCampaignLaw", "add", "(LHexCampaign;IIII[J)I"⟩, method_10_code, 7, (some .int), [(0, 14, 17, 13), (0, 14, 21, 15), (0, 14, 25, 17)], e_c94)
-- 95: HexCampaign$Units.exists(I)Z
set_option maxRecDepth 100000 in
def e_c95 : List e_I := [(0, .iload_n 1, 1, .null, [], []),
  (1, .ifCond .lt 24, 3, .null, [25], []),
  (4, .iload_n 1, 1, .null, [], []),
  (5, .bipush 16, 2, .null, [], []),
  (7, .if_icmp .ge 18, 3, .null, [25], []),
  (10, .aload_n 0, 1, .null, [], []),
  (11, .getfield 37, 3, .null, [1, 1, 0], [(1, 75)]),
  (14, .iload_n 1, 1, .null, [], []),
  (15, .invokestatic 62, 3, .null, [27, 2, 0, 0, 0], [(2, 129), (2, 130), (1, 5), (2, 131)]),
  (18, .ifCond .eq 7, 3, .null, [25], []),
  (21, .iconst 1, 1, .null, [], []),
  (22, .goto 4, 3, .null, [26], []),
  (25, .iconst 0, 1, .null, [], []),
  (26, .ireturn, 1, .null, [], [])]
def e_m95 : e_MD := (⟨"HexCampaign$Units", "exists", "(I)Z"⟩, prog_11_method_9_code, 2, (some .boolean), [], e_c95)
-- 96: HexCampaign.checkUnit(I)V
set_option maxRecDepth 100000 in
def e_c96 : List e_I := [(0, .aload_n 0, 1, .null, [], []),
  (1, .getfield 20, 3, .null, [8, 1, 1], [(2, 35)]),
  (4, .getfield 56, 3, .null, [2, 1, 1], [(1, 117)]),
  (7, .iload_n 1, 1, .null, [], []),
  (8, .invokevirtual 349, 3, .null, [95, 1, 0, 0, 0, 1], [(4, 66), (4, 67), (4, 68), (4, 69), (1, 5)]),
  (11, .ifCond .ne 11, 3, .null, [22], []),
  (14, .new 133, 3, .null, [1, 0, 135], [(3, 104), (1, 16), (3, 113)]),
  (22, .return_, 1, .null, [], [])]
def e_m96 : e_MD := (⟨"HexCampaign", "checkUnit", "(I)V"⟩, prog_1_method_35_code, 2, none, [], e_c96)
-- 97: HexCampaign$Units.placeOf(I)I
set_option maxRecDepth 100000 in
def e_c97 : List e_I := [(0, .aload_n 0, 1, .null, [], []),
  (1, .getfield 9, 3, .null, [1, 5, 1], [(1, 79)]),
  (4, .iload_n 1, 1, .null, [], []),
  (5, .invokestatic 72, 3, .null, [36, 2, 0, 0, 0], [(2, 230), (2, 177), (1, 10), (2, 178)]),
  (8, .ireturn, 1, .null, [], [])]
def e_m97 : e_MD := (⟨"HexCampaign$Units", "placeOf", "(I)I"⟩, prog_11_method_14_code, 2, (some .int), [], e_c97)
-- 98: HexCampaign$Units.movementOf(I)I
set_option maxRecDepth 100000 in
def e_c98 : List e_I := [(0, .aload_n 0, 1, .null, [], []),
  (1, .getfield 18, 3, .null, [1, 7, 1], [(1, 81)]),
  (4, .iload_n 1, 1, .null, [], []),
  (5, .invokestatic 72, 3, .null, [36, 2, 0, 0, 0], [(2, 230), (2, 177), (1, 10), (2, 178)]),
  (8, .ireturn, 1, .null, [], [])]
def e_m98 : e_MD := (⟨"HexCampaign$Units", "movementOf", "(I)I"⟩, prog_11_method_16_code, 2, (some .int), [], e_c98)
-- 99: HexCampaign$Play.isSupplied(I)Z
set_option maxRecDepth 100000 in
def e_c99 : List e_I := [(0, .aload_n 0, 1, .null, [], []),
  (1, .aload_n 0, 1, .null, [], []),
  (2, .getfield 27, 3, .null, [4, 2, 1], [(1, 189)]),
  (5, .iload_n 1, 1, .null, [], []),
  (6, .invokevirtual 78, 3, .null, [49, 1, 0, 0, 0, 1], [(4, 88), (2, 219), (2, 220), (2, 221), (1, 5)]),
  (9, .invokevirtual 71, 3, .null, [45, 1, 0, 0, 0, 4], [(2, 116), (2, 117), (2, 118), (2, 119), (1, 2)]),
  (12, .aload_n 0, 1, .null, [], []),
  (13, .getfield 27, 3, .null, [4, 2, 1], [(1, 189)]),
  (16, .iload_n 1, 1, .null, [], []),
  (17, .invokevirtual 83, 3, .null, [97, 1, 0, 0, 0, 1], [(4, 89), (4, 72), (4, 73), (4, 74), (1, 5)]),
  (20, .invokestatic 86, 3, .null, [46, 2, 0, 0, 0], [(4, 90), (2, 208), (1, 20), (2, 209)]),
  (23, .ireturn, 1, .null, [], [])]
def e_m99 : e_MD := (⟨"HexCampaign$Play", "isSupplied", "(I)Z"⟩, prog_8_method_4_code, 2, (some .boolean), [], e_c99)
-- 100: HexCampaign$Units.halfOf(I)I
set_option maxRecDepth 100000 in
def e_c100 : List e_I := [(0, .iload_n 0, 1, .null, [], []),
  (1, .iconst 1, 1, .null, [], []),
  (2, .iadd, 1, .null, [], []),
  (3, .iconst 2, 1, .null, [], []),
  (4, .idiv, 1, .null, [], []),
  (5, .ireturn, 1, .null, [], [])]
def e_m100 : e_MD := (⟨"HexCampaign$Units", "halfOf", "(I)I"⟩, prog_11_method_31_code, 1, (some .int), [], e_c100)
-- 101: HexCampaign$Units.allowanceOf(IZ)I
set_option maxRecDepth 100000 in
def e_c101 : List e_I := [(0, .iload_n 2, 1, .null, [], []),
  (1, .ifCond .eq 11, 3, .null, [12], []),
  (4, .aload_n 0, 1, .null, [], []),
  (5, .iload_n 1, 1, .null, [], []),
  (6, .invokevirtual 110, 3, .null, [98, 1, 0, 0, 0, 1], [(4, 95), (4, 77), (4, 78), (4, 79), (1, 5)]),
  (9, .goto 11, 3, .null, [20], []),
  (12, .aload_n 0, 1, .null, [], []),
  (13, .iload_n 1, 1, .null, [], []),
  (14, .invokevirtual 110, 3, .null, [98, 1, 0, 0, 0, 1], [(4, 95), (4, 77), (4, 78), (4, 79), (1, 5)]),
  (17, .invokestatic 107, 3, .null, [100, 1, 0, 0, 0], [(4, 96), (4, 97), (1, 5), (4, 98)]),
  (20, .ireturn, 1, .null, [], [])]
def e_m101 : e_MD := (⟨"HexCampaign$Units", "allowanceOf", "(IZ)I"⟩, prog_11_method_30_code, 3, (some .int), [], e_c101)
-- 102: HexCampaign$Play.allowanceOf(I)I
set_option maxRecDepth 100000 in
def e_c102 : List e_I := [(0, .aload_n 0, 1, .null, [], []),
  (1, .getfield 27, 3, .null, [4, 2, 1], [(1, 189)]),
  (4, .iload_n 1, 1, .null, [], []),
  (5, .aload_n 0, 1, .null, [], []),
  (6, .iload_n 1, 1, .null, [], []),
  (7, .invokevirtual 90, 3, .null, [99, 1, 0, 0, 0, 4], [(4, 84), (4, 85), (4, 86), (4, 87), (1, 2)]),
  (10, .invokevirtual 94, 3, .null, [101, 2, 0, 0, 0, 1], [(4, 91), (4, 92), (4, 93), (4, 94), (1, 5)]),
  (13, .ireturn, 1, .null, [], [])]
def e_m102 : e_MD := (⟨"HexCampaign$Play", "allowanceOf", "(I)I"⟩, prog_8_method_5_code, 2, (some .int), [], e_c102)
-- 103: HexCampaign$Units.forceOf(IZ)I
set_option maxRecDepth 100000 in
def e_c103 : List e_I := [(0, .iload_n 2, 1, .null, [], []),
  (1, .ifCond .eq 11, 3, .null, [12], []),
  (4, .aload_n 0, 1, .null, [], []),
  (5, .iload_n 1, 1, .null, [], []),
  (6, .invokevirtual 100, 3, .null, [50, 1, 0, 0, 0, 1], [(2, 226), (2, 227), (2, 228), (2, 229), (1, 5)]),
  (9, .goto 11, 3, .null, [20], []),
  (12, .aload_n 0, 1, .null, [], []),
  (13, .iload_n 1, 1, .null, [], []),
  (14, .invokevirtual 100, 3, .null, [50, 1, 0, 0, 0, 1], [(2, 226), (2, 227), (2, 228), (2, 229), (1, 5)]),
  (17, .invokestatic 107, 3, .null, [100, 1, 0, 0, 0], [(4, 96), (4, 97), (1, 5), (4, 98)]),
  (20, .ireturn, 1, .null, [], [])]
def e_m103 : e_MD := (⟨"HexCampaign$Units", "forceOf", "(IZ)I"⟩, prog_11_method_29_code, 3, (some .int), [], e_c103)
-- 104: HexCampaign$Units.attackedAlready()I
set_option maxRecDepth 100000 in
def e_c104 : List e_I := [(0, .aload_n 0, 1, .null, [], []),
  (1, .getfield 55, 3, .null, [1, 4, 0], [(1, 78)]),
  (4, .ireturn, 1, .null, [], [])]
def e_m104 : e_MD := (⟨"HexCampaign$Units", "attackedAlready", "()I"⟩, prog_11_method_22_code, 1, (some .int), [], e_c104)
-- 105: HexCampaign$Game.canAttack(I)Z
set_option maxRecDepth 100000 in
def e_c105 : List e_I := [(0, .aload_n 0, 1, .null, [], []),
  (1, .getfield 21, 3, .null, [2, 1, 1], [(1, 115)]),
  (4, .iload_n 1, 1, .null, [], []),
  (5, .invokevirtual 75, 3, .null, [49, 1, 0, 0, 0, 1], [(4, 112), (2, 219), (2, 220), (2, 221), (1, 5)]),
  (8, .aload_n 0, 1, .null, [], []),
  (9, .getfield 36, 3, .null, [2, 4, 0], [(1, 123)]),
  (12, .if_icmp .ne 21, 3, .null, [33], []),
  (15, .aload_n 0, 1, .null, [], []),
  (16, .getfield 21, 3, .null, [2, 1, 1], [(1, 115)]),
  (19, .invokevirtual 79, 3, .null, [104, 0, 0, 0, 0, 1], [(4, 113), (4, 114), (4, 115), (4, 116), (1, 5)]),
  (22, .iload_n 1, 1, .null, [], []),
  (23, .invokestatic 83, 3, .null, [27, 2, 0, 0, 0], [(4, 117), (2, 130), (1, 5), (2, 131)]),
  (26, .ifCond .ne 7, 3, .null, [33], []),
  (29, .iconst 1, 1, .null, [], []),
  (30, .goto 4, 3, .null, [34], []),
  (33, .iconst 0, 1, .null, [], []),
  (34, .ireturn, 1, .null, [], [])]
def e_m105 : e_MD := (⟨"HexCampaign$Game", "canAttack", "(I)Z"⟩, prog_2_method_6_code, 2, (some .boolean), [], e_c105)
-- 106: HexCampaign$Units.hasMoved(I)Z
set_option maxRecDepth 100000 in
def e_c106 : List e_I := [(0, .aload_n 0, 1, .null, [], []),
  (1, .getfield 52, 3, .null, [1, 3, 0], [(1, 77)]),
  (4, .iload_n 1, 1, .null, [], []),
  (5, .invokestatic 62, 3, .null, [27, 2, 0, 0, 0], [(2, 129), (2, 130), (1, 5), (2, 131)]),
  (8, .ireturn, 1, .null, [], [])]
def e_m106 : e_MD := (⟨"HexCampaign$Units", "hasMoved", "(I)Z"⟩, prog_11_method_21_code, 2, (some .boolean), [], e_c106)
-- 107: HexCampaign$Game.canMove(I)Z
set_option maxRecDepth 100000 in
def e_c107 : List e_I := [(0, .aload_n 0, 1, .null, [], []),
  (1, .iload_n 1, 1, .null, [], []),
  (2, .invokevirtual 68, 3, .null, [105, 1, 0, 0, 0, 2], [(4, 108), (4, 109), (4, 110), (4, 111), (1, 3)]),
  (5, .ifCond .eq 18, 3, .null, [23], []),
  (8, .aload_n 0, 1, .null, [], []),
  (9, .getfield 21, 3, .null, [2, 1, 1], [(1, 115)]),
  (12, .iload_n 1, 1, .null, [], []),
  (13, .invokevirtual 72, 3, .null, [106, 1, 0, 0, 0, 1], [(4, 118), (4, 119), (4, 120), (4, 121), (1, 5)]),
  (16, .ifCond .ne 7, 3, .null, [23], []),
  (19, .iconst 1, 1, .null, [], []),
  (20, .goto 4, 3, .null, [24], []),
  (23, .iconst 0, 1, .null, [], []),
  (24, .ireturn, 1, .null, [], [])]
def e_m107 : e_MD := (⟨"HexCampaign$Game", "canMove", "(I)Z"⟩, prog_2_method_5_code, 2, (some .boolean), [], e_c107)
-- 108: HexCampaign$Land.upToHeight(I)J
set_option maxRecDepth 100000 in
def e_c108 : List e_I := [(0, .lconst 0, 1, .null, [], []),
  (1, .lstore_n 2, 1, .null, [], []),
  (2, .iconst 0, 1, .null, [], []),
  (3, .istore 4, 2, .null, [], []),
  (5, .iload 4, 2, .null, [], []),
  (7, .aload_n 0, 1, .null, [], []),
  (8, .getfield 9, 3, .null, [0, 0, 1], [(1, 57)]),
  (11, .arraylength, 1, .null, [], []),
  (12, .if_icmp .ge 38, 3, .null, [50], []),
  (15, .iload 4, 2, .null, [], []),
  (17, .getstatic 58, 3, .retAddr 12, [2], [(4, 133)]),
  (20, .arraylength, 1, .null, [], []),
  (21, .if_icmp .ge 29, 3, .null, [50], []),
  (24, .getstatic 58, 3, .retAddr 12, [2], [(4, 133)]),
  (27, .iload 4, 2, .null, [], []),
  (29, .iaload, 1, .null, [], []),
  (30, .iload_n 1, 1, .null, [], []),
  (31, .if_icmp .gt 13, 3, .null, [44], []),
  (34, .lload_n 2, 1, .null, [], []),
  (35, .aload_n 0, 1, .null, [], []),
  (36, .getfield 9, 3, .null, [0, 0, 1], [(1, 57)]),
  (39, .iload 4, 2, .null, [], []),
  (41, .laload, 1, .null, [], []),
  (42, .lor, 1, .null, [], []),
  (43, .lstore_n 2, 1, .null, [], []),
  (44, .iinc 4 1, 3, .null, [], []),
  (47, .goto (-42), 3, .null, [5], []),
  (50, .lload_n 2, 1, .null, [], []),
  (51, .lreturn, 1, .null, [], [])]
def e_m108 : e_MD := (⟨"HexCampaign$Land", "upToHeight", "(I)J"⟩, prog_5_method_11_code, 5, (some .long), [], e_c108)
-- 109: HexCampaign$Land.inSight(IIJ)J
set_option maxRecDepth 100000 in
def e_c109 : List e_I := [(0, .iload_n 0, 1, .null, [], []),
  (1, .invokestatic 36, 3, .null, [28, 1, 0, 0, 0], [(3, 169), (2, 133), (1, 20), (2, 134)]),
  (4, .lstore 4, 2, .null, [], []),
  (6, .lload 4, 2, .null, [], []),
  (8, .lstore 6, 2, .null, [], []),
  (10, .lconst 0, 1, .null, [], []),
  (11, .lstore 8, 2, .null, [], []),
  (13, .iconst 1, 1, .null, [], []),
  (14, .istore 10, 2, .null, [], []),
  (16, .iload 10, 2, .null, [], []),
  (18, .iload_n 1, 1, .null, [], []),
  (19, .if_icmp .gt 46, 3, .null, [65], []),
  (22, .lload 6, 2, .null, [], []),
  (24, .invokestatic 68, 3, .null, [32, 1, 0, 0, 0], [(2, 146), (2, 147), (1, 20), (2, 148)]),
  (27, .lload 4, 2, .null, [], []),
  (29, .ldc2_w 40, 3, .long (-1), [], [(2, 155)]),
  (32, .lxor, 1, .null, [], []),
  (33, .land, 1, .null, [], []),
  (34, .lstore 11, 2, .null, [], []),
  (36, .lload 8, 2, .null, [], []),
  (38, .lload 11, 2, .null, [], []),
  (40, .lor, 1, .null, [], []),
  (41, .lstore 8, 2, .null, [], []),
  (43, .lload 11, 2, .null, [], []),
  (45, .lload_n 2, 1, .null, [], []),
  (46, .land, 1, .null, [], []),
  (47, .lstore 6, 2, .null, [], []),
  (49, .lload 4, 2, .null, [], []),
  (51, .lload 4, 2, .null, [], []),
  (53, .invokestatic 68, 3, .null, [32, 1, 0, 0, 0], [(2, 146), (2, 147), (1, 20), (2, 148)]),
  (56, .lor, 1, .null, [], []),
  (57, .lstore 4, 2, .null, [], []),
  (59, .iinc 10 1, 3, .null, [], []),
  (62, .goto (-46), 3, .null, [16], []),
  (65, .lload 8, 2, .null, [], []),
  (67, .lreturn, 1, .null, [], [])]
def e_m109 : e_MD := (⟨"HexCampaign$Land", "inSight", "(IIJ)J"⟩, prog_5_method_17_code, 13, (some .long), [], e_c109)
-- 110: HexCampaign$Land.seenFrom(II)J
set_option maxRecDepth 100000 in
def e_c110 : List e_I := [(0, .getstatic 58, 3, .retAddr 12, [2], [(4, 133)]),
  (3, .aload_n 0, 1, .null, [], []),
  (4, .iload_n 1, 1, .null, [], []),
  (5, .invokevirtual 50, 3, .null, [62, 1, 0, 0, 0, 0], [(4, 135), (3, 161), (3, 162), (3, 163), (1, 4)]),
  (8, .invokestatic 54, 3, .null, [36, 2, 0, 0, 0], [(2, 176), (2, 177), (1, 10), (2, 178)]),
  (11, .istore_n 3, 1, .null, [], []),
  (12, .iload_n 1, 1, .null, [], []),
  (13, .invokestatic 36, 3, .null, [28, 1, 0, 0, 0], [(3, 169), (2, 133), (1, 20), (2, 134)]),
  (16, .lstore 4, 2, .null, [], []),
  (18, .iload_n 3, 1, .null, [], []),
  (19, .istore 6, 2, .null, [], []),
  (21, .iload 6, 2, .null, [], []),
  (23, .iconst 3, 1, .null, [], []),
  (24, .if_icmp .gt 60, 3, .null, [84], []),
  (27, .aload_n 0, 1, .null, [], []),
  (28, .iload 6, 2, .null, [], []),
  (30, .invokevirtual 76, 3, .null, [108, 1, 0, 0, 0, 0], [(4, 136), (4, 138), (0, 7), (4, 139), (1, 4)]),
  (33, .lstore 7, 2, .null, [], []),
  (35, .iload 6, 2, .null, [], []),
  (37, .iload_n 3, 1, .null, [], []),
  (38, .if_icmp .ne 8, 3, .null, [46], []),
  (41, .lload 7, 2, .null, [], []),
  (43, .goto 18, 3, .null, [61], []),
  (46, .lload 7, 2, .null, [], []),
  (48, .aload_n 0, 1, .null, [], []),
  (49, .iload 6, 2, .null, [], []),
  (51, .iconst 1, 1, .null, [], []),
  (52, .isub, 1, .null, [], []),
  (53, .invokevirtual 76, 3, .null, [108, 1, 0, 0, 0, 0], [(4, 136), (4, 138), (0, 7), (4, 139), (1, 4)]),
  (56, .ldc2_w 40, 3, .long (-1), [], [(2, 155)]),
  (59, .lxor, 1, .null, [], []),
  (60, .land, 1, .null, [], []),
  (61, .lstore 9, 2, .null, [], []),
  (63, .lload 4, 2, .null, [], []),
  (65, .lload 9, 2, .null, [], []),
  (67, .iload_n 1, 1, .null, [], []),
  (68, .iload_n 2, 1, .null, [], []),
  (69, .lload 7, 2, .null, [], []),
  (71, .invokestatic 79, 3, .null, [109, 3, 0, 0, 0], [(4, 140), (4, 141), (1, 4), (4, 142)]),
  (74, .land, 1, .null, [], []),
  (75, .lor, 1, .null, [], []),
  (76, .lstore 4, 2, .null, [], []),
  (78, .iinc 6 1, 3, .null, [], []),
  (81, .goto (-60), 3, .null, [21], []),
  (84, .lload 4, 2, .null, [], []),
  (86, .lreturn, 1, .null, [], [])]
def e_m110 : e_MD := (⟨"HexCampaign$Land", "seenFrom", "(II)J"⟩, prog_5_method_16_code, 11, (some .long), [], e_c110)
-- 111: HexCampaign$Game.seenBy(I)J
set_option maxRecDepth 100000 in
def e_c111 : List e_I := [(0, .aload_n 0, 1, .null, [], []),
  (1, .getfield 21, 3, .null, [2, 1, 1], [(1, 115)]),
  (4, .aload_n 0, 1, .null, [], []),
  (5, .getfield 21, 3, .null, [2, 1, 1], [(1, 115)]),
  (8, .iload_n 1, 1, .null, [], []),
  (9, .invokevirtual 90, 3, .null, [26, 1, 0, 0, 0, 1], [(2, 124), (2, 112), (2, 113), (2, 114), (1, 5)]),
  (12, .invokevirtual 93, 3, .null, [29, 1, 0, 0, 0, 1], [(2, 125), (2, 126), (2, 127), (2, 128), (1, 5)]),
  (15, .lstore_n 2, 1, .null, [], []),
  (16, .lconst 0, 1, .null, [], []),
  (17, .lstore 4, 2, .null, [], []),
  (19, .iconst 0, 1, .null, [], []),
  (20, .istore 6, 2, .null, [], []),
  (22, .iload 6, 2, .null, [], []),
  (24, .bipush 63, 2, .null, [], []),
  (26, .if_icmp .ge 36, 3, .null, [62], []),
  (29, .lload_n 2, 1, .null, [], []),
  (30, .iload 6, 2, .null, [], []),
  (32, .invokestatic 101, 3, .null, [46, 2, 0, 0, 0], [(4, 127), (2, 208), (1, 20), (2, 209)]),
  (35, .ifCond .eq 21, 3, .null, [56], []),
  (38, .lload 4, 2, .null, [], []),
  (40, .aload_n 0, 1, .null, [], []),
  (41, .getfield 12, 3, .null, [2, 0, 1], [(1, 112)]),
  (44, .iload 6, 2, .null, [], []),
  (46, .aload_n 0, 1, .null, [], []),
  (47, .invokevirtual 106, 3, .null, [86, 0, 0, 0, 0, 2], [(4, 128), (4, 24), (4, 25), (4, 26), (1, 3)]),
  (50, .invokevirtual 109, 3, .null, [110, 2, 0, 0, 0, 0], [(4, 129), (4, 130), (4, 131), (4, 132), (1, 4)]),
  (53, .lor, 1, .null, [], []),
  (54, .lstore 4, 2, .null, [], []),
  (56, .iinc 6 1, 3, .null, [], []),
  (59, .goto (-37), 3, .null, [22], []),
  (62, .lload 4, 2, .null, [], []),
  (64, .lreturn, 1, .null, [], [])]
def e_m111 : e_MD := (⟨"HexCampaign$Game", "seenBy", "(I)J"⟩, prog_2_method_10_code, 7, (some .long), [], e_c111)
-- 112: HexCampaign.unit(II)I
set_option maxRecDepth 100000 in
def e_c112 : List e_I := [(0, .aload_n 0, 1, .null, [], []),
  (1, .iload_n 1, 1, .null, [], []),
  (2, .invokevirtual 176, 3, .null, [96, 1, 0, 1, 6, 8], [(4, 62), (4, 64), (0, 6), (4, 65), (1, 1)]),
  (5, .aload_n 0, 1, .null, [], []),
  (6, .getfield 20, 3, .null, [8, 1, 1], [(2, 35)]),
  (9, .getfield 56, 3, .null, [2, 1, 1], [(1, 117)]),
  (12, .iload_n 1, 1, .null, [], []),
  (13, .invokevirtual 179, 3, .null, [49, 1, 0, 0, 0, 1], [(4, 70), (2, 219), (2, 220), (2, 221), (1, 5)]),
  (16, .istore_n 3, 1, .null, [], []),
  (17, .iload_n 2, 1, .null, [], []),
  (18, .tableswitch 185 0 9 #[54, 56, 68, 80, 92, 101, 121, 133, 145, 157], 54, .null, [203, 72, 74, 86, 98, 110, 119, 139, 151, 163, 175], []),
  (72, .iload_n 3, 1, .null, [], []),
  (73, .ireturn, 1, .null, [], []),
  (74, .aload_n 0, 1, .null, [], []),
  (75, .getfield 20, 3, .null, [8, 1, 1], [(2, 35)]),
  (78, .getfield 56, 3, .null, [2, 1, 1], [(1, 117)]),
  (81, .iload_n 1, 1, .null, [], []),
  (82, .invokevirtual 182, 3, .null, [97, 1, 0, 0, 0, 1], [(4, 71), (4, 72), (4, 73), (4, 74), (1, 5)]),
  (85, .ireturn, 1, .null, [], []),
  (86, .aload_n 0, 1, .null, [], []),
  (87, .getfield 20, 3, .null, [8, 1, 1], [(2, 35)]),
  (90, .getfield 56, 3, .null, [2, 1, 1], [(1, 117)]),
  (93, .iload_n 1, 1, .null, [], []),
  (94, .invokevirtual 185, 3, .null, [50, 1, 0, 0, 0, 1], [(4, 75), (2, 227), (2, 228), (2, 229), (1, 5)]),
  (97, .ireturn, 1, .null, [], []),
  (98, .aload_n 0, 1, .null, [], []),
  (99, .getfield 20, 3, .null, [8, 1, 1], [(2, 35)]),
  (102, .getfield 56, 3, .null, [2, 1, 1], [(1, 117)]),
  (105, .iload_n 1, 1, .null, [], []),
  (106, .invokevirtual 188, 3, .null, [98, 1, 0, 0, 0, 1], [(4, 76), (4, 77), (4, 78), (4, 79), (1, 5)]),
  (109, .ireturn, 1, .null, [], []),
  (110, .aload_n 0, 1, .null, [], []),
  (111, .getfield 10, 3, .null, [8, 0, 1], [(2, 34)]),
  (114, .iload_n 1, 1, .null, [], []),
  (115, .invokevirtual 191, 3, .null, [102, 1, 0, 0, 0, 4], [(4, 80), (4, 81), (4, 82), (4, 83), (1, 2)]),
  (118, .ireturn, 1, .null, [], []),
  (119, .aload_n 0, 1, .null, [], []),
  (120, .getfield 20, 3, .null, [8, 1, 1], [(2, 35)]),
  (123, .getfield 56, 3, .null, [2, 1, 1], [(1, 117)]),
  (126, .iload_n 1, 1, .null, [], []),
  (127, .aload_n 0, 1, .null, [], []),
  (128, .getfield 10, 3, .null, [8, 0, 1], [(2, 34)]),
  (131, .iload_n 1, 1, .null, [], []),
  (132, .invokevirtual 194, 3, .null, [99, 1, 0, 0, 0, 4], [(4, 99), (4, 85), (4, 86), (4, 87), (1, 2)]),
  (135, .invokevirtual 198, 3, .null, [103, 2, 0, 0, 0, 1], [(4, 100), (4, 101), (4, 102), (4, 103), (1, 5)]),
  (138, .ireturn, 1, .null, [], []),
  (139, .aload_n 0, 1, .null, [], []),
  (140, .getfield 10, 3, .null, [8, 0, 1], [(2, 34)]),
  (143, .iload_n 1, 1, .null, [], []),
  (144, .invokevirtual 194, 3, .null, [99, 1, 0, 0, 0, 4], [(4, 99), (4, 85), (4, 86), (4, 87), (1, 2)]),
  (147, .invokestatic 126, 3, .null, [72, 1, 0, 0, 0], [(3, 201), (3, 202), (1, 1), (3, 203)]),
  (150, .ireturn, 1, .null, [], []),
  (151, .aload_n 0, 1, .null, [], []),
  (152, .getfield 20, 3, .null, [8, 1, 1], [(2, 35)]),
  (155, .iload_n 1, 1, .null, [], []),
  (156, .invokevirtual 202, 3, .null, [107, 1, 0, 0, 0, 2], [(4, 104), (4, 105), (4, 106), (4, 107), (1, 3)]),
  (159, .invokestatic 126, 3, .null, [72, 1, 0, 0, 0], [(3, 201), (3, 202), (1, 1), (3, 203)]),
  (162, .ireturn, 1, .null, [], []),
  (163, .aload_n 0, 1, .null, [], []),
  (164, .getfield 20, 3, .null, [8, 1, 1], [(2, 35)]),
  (167, .iload_n 1, 1, .null, [], []),
  (168, .invokevirtual 205, 3, .null, [105, 1, 0, 0, 0, 2], [(4, 122), (4, 109), (4, 110), (4, 111), (1, 3)]),
  (171, .invokestatic 126, 3, .null, [72, 1, 0, 0, 0], [(3, 201), (3, 202), (1, 1), (3, 203)]),
  (174, .ireturn, 1, .null, [], []),
  (175, .aload_n 0, 1, .null, [], []),
  (176, .getfield 20, 3, .null, [8, 1, 1], [(2, 35)]),
  (179, .iconst 1, 1, .null, [], []),
  (180, .iload_n 3, 1, .null, [], []),
  (181, .isub, 1, .null, [], []),
  (182, .invokevirtual 208, 3, .null, [111, 1, 0, 0, 0, 2], [(4, 123), (4, 124), (4, 125), (4, 126), (1, 3)]),
  (185, .aload_n 0, 1, .null, [], []),
  (186, .getfield 20, 3, .null, [8, 1, 1], [(2, 35)]),
  (189, .getfield 56, 3, .null, [2, 1, 1], [(1, 117)]),
  (192, .iload_n 1, 1, .null, [], []),
  (193, .invokevirtual 182, 3, .null, [97, 1, 0, 0, 0, 1], [(4, 71), (4, 72), (4, 73), (4, 74), (1, 5)]),
  (196, .invokestatic 106, 3, .null, [46, 2, 0, 0, 0], [(3, 181), (2, 208), (1, 20), (2, 209)]),
  (199, .invokestatic 126, 3, .null, [72, 1, 0, 0, 0], [(3, 201), (3, 202), (1, 1), (3, 203)]),
  (202, .ireturn, 1, .null, [], []),
  (203, .new 72, 3, .null, [1, 1, 74], [(3, 125), (1, 19), (3, 134)])]
def e_m112 : e_MD := (⟨"HexCampaign", "unit", "(II)I"⟩, prog_1_method_11_code, 4, (some .int), [], e_c112)
-- 113: HexCampaignLaw.unit(LHexCampaign;II[J)I
set_option maxRecDepth 100000 in
def e_c113 : List e_I := [(0, .aload_n 3, 1, .null, [], []),
  (1, .iconst 0, 1, .null, [], []),
  (2, .aload_n 0, 1, .null, [], []),
  (3, .iload_n 1, 1, .null, [], []),
  (4, .iload_n 2, 1, .null, [], []),
  (5, .invokevirtual 47, 3, .null, [112, 2, 0, 2, 12, 8, 0, 4, 15, 1, 4, 19], [(4, 58), (4, 59), (4, 60), (4, 61), (1, 1), (3, 15), (3, 95)]),
  (8, .i2l, 1, .null, [], []),
  (9, .lastore, 1, .null, [], []),
  (10, .goto 11, 3, .null, [21], []),
  (13, .astore 4, 2, .null, [], []),
  (15, .iconst 1, 1, .null, [], []),
  (16, .ireturn, 1, .null, [], []),
  (17, .astore 4, 2, .null, [], []),
  (19, .iconst 2, 1, .null, [], []),
  (20, .ireturn, 1, .null, [], []),
  (21, .iconst 0, 1, .null, [], []),
  (22, .ireturn, 1, .null, [], [])]
def e_m113 : e_MD := (⟨"HexCampaignLaw", "unit", "(LHexCampaign;II[J)I"⟩, method_11_code, 5, (some .int), [(0, 10, 13, 13), (0, 10, 17, 15)], e_c113)
-- 114: HexCampaign$Game.knownTo(I)I
set_option maxRecDepth 100000 in
def e_c114 : List e_I := [(0, .aload_n 0, 1, .null, [], []),
  (1, .getfield 21, 3, .null, [2, 1, 1], [(1, 115)]),
  (4, .iconst 1, 1, .null, [], []),
  (5, .iload_n 1, 1, .null, [], []),
  (6, .isub, 1, .null, [], []),
  (7, .invokevirtual 90, 3, .null, [26, 1, 0, 0, 0, 1], [(2, 124), (2, 112), (2, 113), (2, 114), (1, 5)]),
  (10, .aload_n 0, 1, .null, [], []),
  (11, .getfield 21, 3, .null, [2, 1, 1], [(1, 115)]),
  (14, .aload_n 0, 1, .null, [], []),
  (15, .iload_n 1, 1, .null, [], []),
  (16, .invokevirtual 113, 3, .null, [111, 1, 0, 0, 0, 2], [(4, 154), (4, 124), (4, 125), (4, 126), (1, 3)]),
  (19, .invokevirtual 116, 3, .null, [48, 1, 0, 0, 0, 1], [(4, 155), (2, 204), (2, 205), (2, 206), (1, 5)]),
  (22, .iand, 1, .null, [], []),
  (23, .ireturn, 1, .null, [], [])]
def e_m114 : e_MD := (⟨"HexCampaign$Game", "knownTo", "(I)I"⟩, prog_2_method_11_code, 2, (some .int), [], e_c114)
-- 115: HexCampaign.known(I)I
set_option maxRecDepth 100000 in
def e_c115 : List e_I := [(0, .iload_n 1, 1, .null, [], []),
  (1, .invokestatic 99, 3, .null, [66, 1, 0, 1, 6], [(3, 177), (3, 178), (1, 1), (3, 179)]),
  (4, .aload_n 0, 1, .null, [], []),
  (5, .getfield 20, 3, .null, [8, 1, 1], [(2, 35)]),
  (8, .iload_n 1, 1, .null, [], []),
  (9, .invokevirtual 211, 3, .null, [114, 1, 0, 0, 0, 2], [(4, 150), (4, 151), (4, 152), (4, 153), (1, 3)]),
  (12, .ireturn, 1, .null, [], [])]
def e_m115 : e_MD := (⟨"HexCampaign", "known", "(I)I"⟩, prog_1_method_12_code, 2, (some .int), [], e_c115)
-- 116: HexCampaignLaw.known(LHexCampaign;I[J)I
set_option maxRecDepth 100000 in
def e_c116 : List e_I := [(0, .aload_n 2, 1, .null, [], []),
  (1, .iconst 0, 1, .null, [], []),
  (2, .aload_n 0, 1, .null, [], []),
  (3, .iload_n 1, 1, .null, [], []),
  (4, .invokevirtual 50, 3, .null, [115, 1, 0, 1, 6, 8, 0, 3, 13], [(4, 146), (4, 147), (4, 148), (4, 149), (1, 1), (3, 15)]),
  (7, .i2l, 1, .null, [], []),
  (8, .lastore, 1, .null, [], []),
  (9, .goto 6, 3, .null, [15], []),
  (12, .astore_n 3, 1, .null, [], []),
  (13, .iconst 1, 1, .null, [], []),
  (14, .ireturn, 1, .null, [], []),
  (15, .iconst 0, 1, .null, [], []),
  (16, .ireturn, 1, .null, [], [])]
def e_m116 : e_MD := (⟨"HexCampaignLaw", "known", "(LHexCampaign;I[J)I"⟩, method_12_code, 4, (some .int), [(0, 9, 12, 13)], e_c116)
-- 117: HexCampaign$Game.zoneOf(I)J
set_option maxRecDepth 100000 in
def e_c117 : List e_I := [(0, .aload_n 0, 1, .null, [], []),
  (1, .getfield 12, 3, .null, [2, 0, 1], [(1, 112)]),
  (4, .aload_n 0, 1, .null, [], []),
  (5, .getfield 21, 3, .null, [2, 1, 1], [(1, 115)]),
  (8, .aload_n 0, 1, .null, [], []),
  (9, .getfield 21, 3, .null, [2, 1, 1], [(1, 115)]),
  (12, .iload_n 1, 1, .null, [], []),
  (13, .invokevirtual 90, 3, .null, [26, 1, 0, 0, 0, 1], [(2, 124), (2, 112), (2, 113), (2, 114), (1, 5)]),
  (16, .invokevirtual 93, 3, .null, [29, 1, 0, 0, 0, 1], [(2, 125), (2, 126), (2, 127), (2, 128), (1, 5)]),
  (19, .invokevirtual 97, 3, .null, [33, 1, 0, 0, 0, 0], [(2, 142), (2, 143), (2, 144), (2, 145), (1, 4)]),
  (22, .lreturn, 1, .null, [], [])]
def e_m117 : e_MD := (⟨"HexCampaign$Game", "zoneOf", "(I)J"⟩, prog_2_method_9_code, 2, (some .long), [], e_c117)
-- 118: HexCampaign.cells(II)J
set_option maxRecDepth 100000 in
def e_c118 : List e_I := [(0, .iload_n 1, 1, .null, [], []),
  (1, .invokestatic 99, 3, .null, [66, 1, 0, 1, 6], [(3, 177), (3, 178), (1, 1), (3, 179)]),
  (4, .iload_n 2, 1, .null, [], []),
  (5, .tableswitch 83 0 4 #[35, 44, 53, 65, 74], 35, .null, [88, 40, 49, 58, 70, 79], []),
  (40, .aload_n 0, 1, .null, [], []),
  (41, .getfield 20, 3, .null, [8, 1, 1], [(2, 35)]),
  (44, .iload_n 1, 1, .null, [], []),
  (45, .invokevirtual 214, 3, .null, [117, 1, 0, 0, 0, 2], [(4, 163), (4, 164), (4, 165), (4, 166), (1, 3)]),
  (48, .lreturn, 1, .null, [], []),
  (49, .aload_n 0, 1, .null, [], []),
  (50, .getfield 20, 3, .null, [8, 1, 1], [(2, 35)]),
  (53, .iload_n 1, 1, .null, [], []),
  (54, .invokevirtual 208, 3, .null, [111, 1, 0, 0, 0, 2], [(4, 123), (4, 124), (4, 125), (4, 126), (1, 3)]),
  (57, .lreturn, 1, .null, [], []),
  (58, .aload_n 0, 1, .null, [], []),
  (59, .getfield 20, 3, .null, [8, 1, 1], [(2, 35)]),
  (62, .getfield 82, 3, .null, [2, 0, 1], [(1, 114)]),
  (65, .iload_n 1, 1, .null, [], []),
  (66, .invokevirtual 102, 3, .null, [40, 1, 0, 0, 0, 0], [(3, 180), (2, 180), (2, 181), (2, 182), (1, 4)]),
  (69, .lreturn, 1, .null, [], []),
  (70, .aload_n 0, 1, .null, [], []),
  (71, .getfield 20, 3, .null, [8, 1, 1], [(2, 35)]),
  (74, .iload_n 1, 1, .null, [], []),
  (75, .invokevirtual 217, 3, .null, [34, 1, 0, 0, 0, 2], [(4, 167), (2, 121), (2, 122), (2, 123), (1, 3)]),
  (78, .lreturn, 1, .null, [], []),
  (79, .aload_n 0, 1, .null, [], []),
  (80, .getfield 10, 3, .null, [8, 0, 1], [(2, 34)]),
  (83, .iload_n 1, 1, .null, [], []),
  (84, .invokevirtual 220, 3, .null, [45, 1, 0, 0, 0, 4], [(4, 168), (2, 117), (2, 118), (2, 119), (1, 2)]),
  (87, .lreturn, 1, .null, [], []),
  (88, .new 72, 3, .null, [1, 1, 74], [(3, 125), (1, 19), (3, 134)])]
def e_m118 : e_MD := (⟨"HexCampaign", "cells", "(II)J"⟩, prog_1_method_13_code, 3, (some .long), [], e_c118)
-- 119: HexCampaignLaw.cells(LHexCampaign;II[J)I
set_option maxRecDepth 100000 in
def e_c119 : List e_I := [(0, .aload_n 3, 1, .null, [], []),
  (1, .iconst 0, 1, .null, [], []),
  (2, .aload_n 0, 1, .null, [], []),
  (3, .iload_n 1, 1, .null, [], []),
  (4, .iload_n 2, 1, .null, [], []),
  (5, .invokevirtual 53, 3, .null, [118, 2, 0, 2, 12, 8, 0, 4, 14, 1, 4, 18], [(4, 159), (4, 160), (4, 161), (4, 162), (1, 1), (3, 15), (3, 95)]),
  (8, .lastore, 1, .null, [], []),
  (9, .goto 11, 3, .null, [20], []),
  (12, .astore 4, 2, .null, [], []),
  (14, .iconst 1, 1, .null, [], []),
  (15, .ireturn, 1, .null, [], []),
  (16, .astore 4, 2, .null, [], []),
  (18, .iconst 2, 1, .null, [], []),
  (19, .ireturn, 1, .null, [], []),
  (20, .iconst 0, 1, .null, [], []),
  (21, .ireturn, 1, .null, [], [])]
def e_m119 : e_MD := (⟨"HexCampaignLaw", "cells", "(LHexCampaign;II[J)I"⟩, method_13_code, 5, (some .int), [(0, 9, 12, 13), (0, 9, 16, 15)], e_c119)
-- 120: HexCampaign.isSeen(II)Z
set_option maxRecDepth 100000 in
def e_c120 : List e_I := [(0, .iload_n 1, 1, .null, [], []),
  (1, .invokestatic 69, 3, .null, [60, 1, 0, 1, 6], [(3, 101), (3, 102), (1, 1), (3, 103)]),
  (4, .iload_n 2, 1, .null, [], []),
  (5, .invokestatic 69, 3, .null, [60, 1, 0, 1, 6], [(3, 101), (3, 102), (1, 1), (3, 103)]),
  (8, .aload_n 0, 1, .null, [], []),
  (9, .getfield 20, 3, .null, [8, 1, 1], [(2, 35)]),
  (12, .getfield 82, 3, .null, [2, 0, 1], [(1, 114)]),
  (15, .iload_n 1, 1, .null, [], []),
  (16, .aload_n 0, 1, .null, [], []),
  (17, .getfield 20, 3, .null, [8, 1, 1], [(2, 35)]),
  (20, .invokevirtual 152, 3, .null, [86, 0, 0, 0, 0, 2], [(4, 23), (4, 24), (4, 25), (4, 26), (1, 3)]),
  (23, .invokevirtual 223, 3, .null, [110, 2, 0, 0, 0, 0], [(4, 176), (4, 130), (4, 131), (4, 132), (1, 4)]),
  (26, .iload_n 2, 1, .null, [], []),
  (27, .invokestatic 106, 3, .null, [46, 2, 0, 0, 0], [(3, 181), (2, 208), (1, 20), (2, 209)]),
  (30, .ireturn, 1, .null, [], [])]
def e_m120 : e_MD := (⟨"HexCampaign", "isSeen", "(II)Z"⟩, prog_1_method_14_code, 3, (some .boolean), [], e_c120)
-- 121: HexCampaignLaw.isSeen(LHexCampaign;II[J)I
set_option maxRecDepth 100000 in
def e_c121 : List e_I := [(0, .aload_n 3, 1, .null, [], []),
  (1, .iconst 0, 1, .null, [], []),
  (2, .aload_n 0, 1, .null, [], []),
  (3, .iload_n 1, 1, .null, [], []),
  (4, .iload_n 2, 1, .null, [], []),
  (5, .invokevirtual 57, 3, .null, [120, 2, 0, 2, 12, 8, 0, 4, 22], [(4, 172), (4, 173), (4, 174), (4, 175), (1, 1), (3, 15)]),
  (8, .ifCond .eq 7, 3, .null, [15], []),
  (11, .lconst 1, 1, .null, [], []),
  (12, .goto 4, 3, .null, [16], []),
  (15, .lconst 0, 1, .null, [], []),
  (16, .lastore, 1, .null, [], []),
  (17, .goto 7, 3, .null, [24], []),
  (20, .astore 4, 2, .null, [], []),
  (22, .iconst 1, 1, .null, [], []),
  (23, .ireturn, 1, .null, [], []),
  (24, .iconst 0, 1, .null, [], []),
  (25, .ireturn, 1, .null, [], [])]
def e_m121 : e_MD := (⟨"HexCampaignLaw", "isSeen", "(LHexCampaign;II[J)I"⟩, method_14_code, 5, (some .int), [(0, 17, 20, 13)], e_c121)
-- 122: HexCampaign$Waves.costOf(I)I
set_option maxRecDepth 100000 in
def e_c122 : List e_I := [(0, .iconst 0, 1, .null, [], []),
  (1, .istore_n 2, 1, .null, [], []),
  (2, .iload_n 2, 1, .null, [], []),
  (3, .aload_n 0, 1, .null, [], []),
  (4, .getfield 11, 3, .null, [3, 0, 1], [(1, 161)]),
  (7, .arraylength, 1, .null, [], []),
  (8, .if_icmp .ge 24, 3, .null, [32], []),
  (11, .aload_n 0, 1, .null, [], []),
  (12, .getfield 11, 3, .null, [3, 0, 1], [(1, 161)]),
  (15, .iload_n 2, 1, .null, [], []),
  (16, .laload, 1, .null, [], []),
  (17, .iload_n 1, 1, .null, [], []),
  (18, .invokestatic 68, 3, .null, [46, 2, 0, 0, 0], [(4, 192), (2, 208), (1, 20), (2, 209)]),
  (21, .ifCond .eq 5, 3, .null, [26], []),
  (24, .iload_n 2, 1, .null, [], []),
  (25, .ireturn, 1, .null, [], []),
  (26, .iinc 2 1, 3, .null, [], []),
  (29, .goto (-27), 3, .null, [2], []),
  (32, .iconst (-1), 1, .null, [], []),
  (33, .ireturn, 1, .null, [], [])]
def e_m122 : e_MD := (⟨"HexCampaign$Waves", "costOf", "(I)I"⟩, prog_12_method_6_code, 3, (some .int), [], e_c122)
-- 123: HexCampaign$Play.supplyCostAt(II)I
set_option maxRecDepth 100000 in
def e_c123 : List e_I := [(0, .aload_n 0, 1, .null, [], []),
  (1, .iload_n 1, 1, .null, [], []),
  (2, .invokevirtual 71, 3, .null, [45, 1, 0, 0, 0, 4], [(2, 116), (2, 117), (2, 118), (2, 119), (1, 2)]),
  (5, .pop2, 1, .null, [], []),
  (6, .aload_n 0, 1, .null, [], []),
  (7, .getfield 31, 3, .null, [4, 3, 1], [(1, 190)]),
  (10, .iload_n 2, 1, .null, [], []),
  (11, .invokevirtual 74, 3, .null, [122, 1, 0, 0, 0, 3], [(4, 188), (4, 189), (4, 190), (4, 191), (1, 6)]),
  (14, .ireturn, 1, .null, [], [])]
def e_m123 : e_MD := (⟨"HexCampaign$Play", "supplyCostAt", "(II)I"⟩, prog_8_method_3_code, 3, (some .int), [], e_c123)
-- 124: HexCampaign.supplyCost(II)I
set_option maxRecDepth 100000 in
def e_c124 : List e_I := [(0, .iload_n 1, 1, .null, [], []),
  (1, .invokestatic 99, 3, .null, [66, 1, 0, 1, 6], [(3, 177), (3, 178), (1, 1), (3, 179)]),
  (4, .iload_n 2, 1, .null, [], []),
  (5, .invokestatic 69, 3, .null, [60, 1, 0, 1, 6], [(3, 101), (3, 102), (1, 1), (3, 103)]),
  (8, .aload_n 0, 1, .null, [], []),
  (9, .getfield 10, 3, .null, [8, 0, 1], [(2, 34)]),
  (12, .iload_n 1, 1, .null, [], []),
  (13, .iload_n 2, 1, .null, [], []),
  (14, .invokevirtual 227, 3, .null, [123, 2, 0, 0, 0, 4], [(4, 184), (4, 185), (4, 186), (4, 187), (1, 2)]),
  (17, .istore_n 3, 1, .null, [], []),
  (18, .iload_n 3, 1, .null, [], []),
  (19, .iconst (-1), 1, .null, [], []),
  (20, .if_icmp .ne 11, 3, .null, [31], []),
  (23, .new 140, 3, .null, [1, 3, 142], [(3, 222), (1, 24), (3, 231)]),
  (31, .iload_n 3, 1, .null, [], []),
  (32, .ireturn, 1, .null, [], [])]
def e_m124 : e_MD := (⟨"HexCampaign", "supplyCost", "(II)I"⟩, prog_1_method_15_code, 4, (some .int), [], e_c124)
-- 125: HexCampaignLaw.supplyCost(LHexCampaign;II[J)I
set_option maxRecDepth 100000 in
def e_c125 : List e_I := [(0, .aload_n 3, 1, .null, [], []),
  (1, .iconst 0, 1, .null, [], []),
  (2, .aload_n 0, 1, .null, [], []),
  (3, .iload_n 1, 1, .null, [], []),
  (4, .iload_n 2, 1, .null, [], []),
  (5, .invokevirtual 61, 3, .null, [124, 2, 0, 3, 18, 8, 0, 4, 15, 3, 4, 19], [(4, 180), (4, 181), (4, 182), (4, 183), (1, 1), (3, 15), (3, 211)]),
  (8, .i2l, 1, .null, [], []),
  (9, .lastore, 1, .null, [], []),
  (10, .goto 11, 3, .null, [21], []),
  (13, .astore 4, 2, .null, [], []),
  (15, .iconst 1, 1, .null, [], []),
  (16, .ireturn, 1, .null, [], []),
  (17, .astore 4, 2, .null, [], []),
  (19, .iconst 2, 1, .null, [], []),
  (20, .ireturn, 1, .null, [], []),
  (21, .iconst 0, 1, .null, [], []),
  (22, .ireturn, 1, .null, [], [])]
def e_m125 : e_MD := (⟨"HexCampaignLaw", "supplyCost", "(LHexCampaign;II[J)I"⟩, method_15_code, 5, (some .int), [(0, 10, 13, 13), (0, 10, 17, 34)], e_c125)
-- 126: HexCampaign$Play.floodWays(I)V
set_option maxRecDepth 100000 in
def e_c126 : List e_I := [(0, .aload_n 0, 1, .null, [], []),
  (1, .getfield 27, 3, .null, [4, 2, 1], [(1, 189)]),
  (4, .iload_n 1, 1, .null, [], []),
  (5, .invokevirtual 78, 3, .null, [49, 1, 0, 0, 0, 1], [(4, 88), (2, 219), (2, 220), (2, 221), (1, 5)]),
  (8, .istore_n 2, 1, .null, [], []),
  (9, .aload_n 0, 1, .null, [], []),
  (10, .getfield 12, 3, .null, [4, 0, 1], [(1, 186)]),
  (13, .iload_n 2, 1, .null, [], []),
  (14, .invokevirtual 111, 3, .null, [114, 1, 0, 0, 0, 2], [(4, 208), (4, 151), (4, 152), (4, 153), (1, 3)]),
  (17, .istore_n 3, 1, .null, [], []),
  (18, .aload_n 0, 1, .null, [], []),
  (19, .getfield 27, 3, .null, [4, 2, 1], [(1, 189)]),
  (22, .iload_n 1, 1, .null, [], []),
  (23, .invokevirtual 83, 3, .null, [97, 1, 0, 0, 0, 1], [(4, 89), (4, 72), (4, 73), (4, 74), (1, 5)]),
  (26, .invokestatic 114, 3, .null, [28, 1, 0, 0, 0], [(4, 209), (2, 133), (1, 20), (2, 134)]),
  (29, .lstore 4, 2, .null, [], []),
  (31, .aload_n 0, 1, .null, [], []),
  (32, .getfield 22, 3, .null, [4, 1, 1], [(1, 188)]),
  (35, .aload_n 0, 1, .null, [], []),
  (36, .getfield 27, 3, .null, [4, 2, 1], [(1, 189)]),
  (39, .iload_n 3, 1, .null, [], []),
  (40, .invokevirtual 117, 3, .null, [29, 1, 0, 0, 0, 1], [(4, 210), (2, 126), (2, 127), (2, 128), (1, 5)]),
  (43, .invokevirtual 120, 3, .null, [33, 1, 0, 0, 0, 0], [(4, 211), (2, 143), (2, 144), (2, 145), (1, 4)]),
  (46, .lstore 6, 2, .null, [], []),
  (48, .aload_n 0, 1, .null, [], []),
  (49, .getfield 22, 3, .null, [4, 1, 1], [(1, 188)]),
  (52, .invokevirtual 124, 3, .null, [31, 0, 0, 0, 0, 0], [(4, 212), (2, 136), (2, 137), (2, 138), (1, 4)]),
  (55, .ldc2_w 42, 3, .long (-1), [], [(2, 157)]),
  (58, .lxor, 1, .null, [], []),
  (59, .aload_n 0, 1, .null, [], []),
  (60, .getfield 27, 3, .null, [4, 2, 1], [(1, 189)]),
  (63, .iload_n 3, 1, .null, [], []),
  (64, .invokevirtual 117, 3, .null, [29, 1, 0, 0, 0, 1], [(4, 210), (2, 126), (2, 127), (2, 128), (1, 5)]),
  (67, .ldc2_w 42, 3, .long (-1), [], [(2, 157)]),
  (70, .lxor, 1, .null, [], []),
  (71, .land, 1, .null, [], []),
  (72, .ldc2_w 46, 3, .long 9223372036854775807, [], [(2, 158)]),
  (75, .land, 1, .null, [], []),
  (76, .lstore 8, 2, .null, [], []),
  (78, .lload 6, 2, .null, [], []),
  (80, .lload 4, 2, .null, [], []),
  (82, .land, 1, .null, [], []),
  (83, .lconst 0, 1, .null, [], []),
  (84, .lcmp, 1, .null, [], []),
  (85, .ifCond .eq 28, 3, .null, [113], []),
  (88, .lload 6, 2, .null, [], []),
  (90, .aload_n 0, 1, .null, [], []),
  (91, .getfield 27, 3, .null, [4, 2, 1], [(1, 189)]),
  (94, .aload_n 0, 1, .null, [], []),
  (95, .getfield 27, 3, .null, [4, 2, 1], [(1, 189)]),
  (98, .iload_n 2, 1, .null, [], []),
  (99, .invokevirtual 98, 3, .null, [26, 1, 0, 0, 0, 1], [(2, 111), (2, 112), (2, 113), (2, 114), (1, 5)]),
  (102, .invokevirtual 117, 3, .null, [29, 1, 0, 0, 0, 1], [(4, 210), (2, 126), (2, 127), (2, 128), (1, 5)]),
  (105, .ldc2_w 42, 3, .long (-1), [], [(2, 157)]),
  (108, .lxor, 1, .null, [], []),
  (109, .land, 1, .null, [], []),
  (110, .goto 4, 3, .null, [114], []),
  (113, .lconst 0, 1, .null, [], []),
  (114, .lstore 10, 2, .null, [], []),
  (116, .aload_n 0, 1, .null, [], []),
  (117, .getfield 35, 3, .null, [4, 4, 1], [(1, 191)]),
  (120, .aload_n 0, 1, .null, [], []),
  (121, .getfield 22, 3, .null, [4, 1, 1], [(1, 188)]),
  (124, .aload_n 0, 1, .null, [], []),
  (125, .getfield 12, 3, .null, [4, 0, 1], [(1, 186)]),
  (128, .getfield 48, 3, .null, [2, 2, 0], [(1, 119)]),
  (131, .invokevirtual 52, 3, .null, [39, 2, 0, 0, 0, 3], [(2, 159), (2, 160), (2, 161), (2, 162), (1, 6)]),
  (134, .aload_n 0, 1, .null, [], []),
  (135, .getfield 35, 3, .null, [4, 4, 1], [(1, 191)]),
  (138, .lload 4, 2, .null, [], []),
  (140, .lload 8, 2, .null, [], []),
  (142, .lload 6, 2, .null, [], []),
  (144, .lload 4, 2, .null, [], []),
  (146, .ldc2_w 42, 3, .long (-1), [], [(2, 157)]),
  (149, .lxor, 1, .null, [], []),
  (150, .land, 1, .null, [], []),
  (151, .lload 10, 2, .null, [], []),
  (153, .invokevirtual 61, 3, .null, [43, 4, 0, 0, 0, 3], [(2, 183), (2, 184), (2, 185), (2, 186), (1, 6)]),
  (156, .return_, 1, .null, [], [])]
def e_m126 : e_MD := (⟨"HexCampaign$Play", "floodWays", "(I)V"⟩, prog_8_method_8_code, 12, none, [], e_c126)
-- 127: HexCampaign$Play.unitsInSight(I)I
set_option maxRecDepth 100000 in
def e_c127 : List e_I := [(0, .aload_n 0, 1, .null, [], []),
  (1, .getfield 27, 3, .null, [4, 2, 1], [(1, 189)]),
  (4, .iload_n 1, 1, .null, [], []),
  (5, .invokevirtual 78, 3, .null, [49, 1, 0, 0, 0, 1], [(4, 88), (2, 219), (2, 220), (2, 221), (1, 5)]),
  (8, .istore_n 2, 1, .null, [], []),
  (9, .aload_n 0, 1, .null, [], []),
  (10, .getfield 27, 3, .null, [4, 2, 1], [(1, 189)]),
  (13, .iload_n 2, 1, .null, [], []),
  (14, .invokevirtual 98, 3, .null, [26, 1, 0, 0, 0, 1], [(2, 111), (2, 112), (2, 113), (2, 114), (1, 5)]),
  (17, .aload_n 0, 1, .null, [], []),
  (18, .getfield 12, 3, .null, [4, 0, 1], [(1, 186)]),
  (21, .iload_n 2, 1, .null, [], []),
  (22, .invokevirtual 111, 3, .null, [114, 1, 0, 0, 0, 2], [(4, 208), (4, 151), (4, 152), (4, 153), (1, 3)]),
  (25, .ior, 1, .null, [], []),
  (26, .ireturn, 1, .null, [], [])]
def e_m127 : e_MD := (⟨"HexCampaign$Play", "unitsInSight", "(I)I"⟩, prog_8_method_13_code, 3, (some .int), [], e_c127)
-- 128: HexCampaign$Units.isRoomFor(III)Z
set_option maxRecDepth 100000 in
def e_c128 : List e_I := [(0, .aload_n 0, 1, .null, [], []),
  (1, .iload_n 2, 1, .null, [], []),
  (2, .aload_n 0, 1, .null, [], []),
  (3, .iload_n 1, 1, .null, [], []),
  (4, .invokevirtual 97, 3, .null, [49, 1, 0, 0, 0, 1], [(2, 218), (2, 219), (2, 220), (2, 221), (1, 5)]),
  (7, .aload_n 0, 1, .null, [], []),
  (8, .iload_n 1, 1, .null, [], []),
  (9, .invokevirtual 100, 3, .null, [50, 1, 0, 0, 0, 1], [(2, 226), (2, 227), (2, 228), (2, 229), (1, 5)]),
  (12, .iload_n 3, 1, .null, [], []),
  (13, .iload_n 1, 1, .null, [], []),
  (14, .invokestatic 89, 3, .null, [47, 1, 0, 0, 0], [(2, 210), (2, 211), (1, 5), (2, 212)]),
  (17, .iconst (-1), 1, .null, [], []),
  (18, .ixor, 1, .null, [], []),
  (19, .iand, 1, .null, [], []),
  (20, .invokevirtual 103, 3, .null, [91, 4, 0, 0, 0, 1], [(4, 221), (4, 46), (4, 47), (4, 48), (1, 5)]),
  (23, .ireturn, 1, .null, [], [])]
def e_m128 : e_MD := (⟨"HexCampaign$Units", "isRoomFor", "(III)Z"⟩, prog_11_method_28_code, 4, (some .boolean), [], e_c128)
-- 129: HexCampaign$Play.reachOf(II)J
set_option maxRecDepth 100000 in
def e_c129 : List e_I := [(0, .aload_n 0, 1, .null, [], []),
  (1, .iload_n 1, 1, .null, [], []),
  (2, .invokevirtual 128, 3, .null, [126, 1, 0, 0, 0, 4], [(4, 204), (4, 206), (0, 8), (4, 207), (1, 2)]),
  (5, .aload_n 0, 1, .null, [], []),
  (6, .getfield 35, 3, .null, [4, 4, 1], [(1, 191)]),
  (9, .iload_n 2, 1, .null, [], []),
  (10, .invokevirtual 68, 3, .null, [44, 1, 0, 0, 0, 3], [(2, 199), (2, 200), (2, 201), (2, 202), (1, 6)]),
  (13, .aload_n 0, 1, .null, [], []),
  (14, .getfield 27, 3, .null, [4, 2, 1], [(1, 189)]),
  (17, .iload_n 1, 1, .null, [], []),
  (18, .invokevirtual 83, 3, .null, [97, 1, 0, 0, 0, 1], [(4, 89), (4, 72), (4, 73), (4, 74), (1, 5)]),
  (21, .invokestatic 114, 3, .null, [28, 1, 0, 0, 0], [(4, 209), (2, 133), (1, 20), (2, 134)]),
  (24, .ldc2_w 42, 3, .long (-1), [], [(2, 157)]),
  (27, .lxor, 1, .null, [], []),
  (28, .land, 1, .null, [], []),
  (29, .lstore_n 3, 1, .null, [], []),
  (30, .aload_n 0, 1, .null, [], []),
  (31, .iload_n 1, 1, .null, [], []),
  (32, .invokevirtual 139, 3, .null, [127, 1, 0, 0, 0, 4], [(4, 213), (4, 215), (0, 9), (4, 216), (1, 2)]),
  (35, .istore 5, 2, .null, [], []),
  (37, .lconst 0, 1, .null, [], []),
  (38, .lstore 6, 2, .null, [], []),
  (40, .iconst 0, 1, .null, [], []),
  (41, .istore 8, 2, .null, [], []),
  (43, .iload 8, 2, .null, [], []),
  (45, .bipush 63, 2, .null, [], []),
  (47, .if_icmp .ge 43, 3, .null, [90], []),
  (50, .lload_n 3, 1, .null, [], []),
  (51, .iload 8, 2, .null, [], []),
  (53, .invokestatic 86, 3, .null, [46, 2, 0, 0, 0], [(4, 90), (2, 208), (1, 20), (2, 209)]),
  (56, .ifCond .eq 28, 3, .null, [84], []),
  (59, .aload_n 0, 1, .null, [], []),
  (60, .getfield 27, 3, .null, [4, 2, 1], [(1, 189)]),
  (63, .iload_n 1, 1, .null, [], []),
  (64, .iload 8, 2, .null, [], []),
  (66, .iload 5, 2, .null, [], []),
  (68, .invokevirtual 142, 3, .null, [128, 3, 0, 0, 0, 1], [(4, 217), (4, 218), (4, 219), (4, 220), (1, 5)]),
  (71, .ifCond .eq 13, 3, .null, [84], []),
  (74, .lload 6, 2, .null, [], []),
  (76, .iload 8, 2, .null, [], []),
  (78, .invokestatic 114, 3, .null, [28, 1, 0, 0, 0], [(4, 209), (2, 133), (1, 20), (2, 134)]),
  (81, .lor, 1, .null, [], []),
  (82, .lstore 6, 2, .null, [], []),
  (84, .iinc 8 1, 3, .null, [], []),
  (87, .goto (-44), 3, .null, [43], []),
  (90, .lload 6, 2, .null, [], []),
  (92, .lreturn, 1, .null, [], [])]
def e_m129 : e_MD := (⟨"HexCampaign$Play", "reachOf", "(II)J"⟩, prog_8_method_11_code, 9, (some .long), [], e_c129)
-- 130: HexCampaign.reach(I)J
set_option maxRecDepth 100000 in
def e_c130 : List e_I := [(0, .aload_n 0, 1, .null, [], []),
  (1, .iload_n 1, 1, .null, [], []),
  (2, .invokevirtual 176, 3, .null, [96, 1, 0, 1, 6, 8], [(4, 62), (4, 64), (0, 6), (4, 65), (1, 1)]),
  (5, .aload_n 0, 1, .null, [], []),
  (6, .getfield 10, 3, .null, [8, 0, 1], [(2, 34)]),
  (9, .iload_n 1, 1, .null, [], []),
  (10, .aload_n 0, 1, .null, [], []),
  (11, .getfield 10, 3, .null, [8, 0, 1], [(2, 34)]),
  (14, .iload_n 1, 1, .null, [], []),
  (15, .invokevirtual 191, 3, .null, [102, 1, 0, 0, 0, 4], [(4, 80), (4, 81), (4, 82), (4, 83), (1, 2)]),
  (18, .invokevirtual 230, 3, .null, [129, 2, 0, 0, 0, 4], [(4, 200), (4, 201), (4, 202), (4, 203), (1, 2)]),
  (21, .lreturn, 1, .null, [], [])]
def e_m130 : e_MD := (⟨"HexCampaign", "reach", "(I)J"⟩, prog_1_method_16_code, 2, (some .long), [], e_c130)
-- 131: HexCampaignLaw.reach(LHexCampaign;I[J)I
set_option maxRecDepth 100000 in
def e_c131 : List e_I := [(0, .aload_n 2, 1, .null, [], []),
  (1, .iconst 0, 1, .null, [], []),
  (2, .aload_n 0, 1, .null, [], []),
  (3, .iload_n 1, 1, .null, [], []),
  (4, .invokevirtual 64, 3, .null, [130, 1, 0, 1, 6, 8, 0, 3, 12], [(4, 196), (4, 197), (4, 198), (4, 199), (1, 1), (3, 15)]),
  (7, .lastore, 1, .null, [], []),
  (8, .goto 6, 3, .null, [14], []),
  (11, .astore_n 3, 1, .null, [], []),
  (12, .iconst 1, 1, .null, [], []),
  (13, .ireturn, 1, .null, [], []),
  (14, .iconst 0, 1, .null, [], []),
  (15, .ireturn, 1, .null, [], [])]
def e_m131 : e_MD := (⟨"HexCampaignLaw", "reach", "(LHexCampaign;I[J)I"⟩, method_16_code, 4, (some .int), [(0, 8, 11, 13)], e_c131)
-- 132: HexCampaign$Waves.usefulAfter(II)J
set_option maxRecDepth 100000 in
def e_c132 : List e_I := [(0, .aload_n 0, 1, .null, [], []),
  (1, .getfield 15, 3, .null, [3, 1, 1], [(1, 162)]),
  (4, .iload_n 1, 1, .null, [], []),
  (5, .iload_n 2, 1, .null, [], []),
  (6, .iadd, 1, .null, [], []),
  (7, .invokestatic 50, 3, .null, [30, 2, 0, 0, 0], [(2, 191), (2, 140), (1, 10), (2, 141)]),
  (10, .lstore_n 3, 1, .null, [], []),
  (11, .iload_n 1, 1, .null, [], []),
  (12, .ifCond .ne 16, 3, .null, [28], []),
  (15, .lload_n 3, 1, .null, [], []),
  (16, .aload_n 0, 1, .null, [], []),
  (17, .getfield 41, 3, .null, [3, 7, 0], [(1, 168)]),
  (20, .ldc2_w 48, 3, .long (-1), [], [(2, 192)]),
  (23, .lxor, 1, .null, [], []),
  (24, .land, 1, .null, [], []),
  (25, .goto 4, 3, .null, [29], []),
  (28, .lload_n 3, 1, .null, [], []),
  (29, .lreturn, 1, .null, [], [])]
def e_m132 : e_MD := (⟨"HexCampaign$Waves", "usefulAfter", "(II)J"⟩, prog_12_method_11_code, 5, (some .long), [], e_c132)
-- 133: HexCampaign$Waves.departures(I)J
set_option maxRecDepth 100000 in
def e_c133 : List e_I := [(0, .lconst 0, 1, .null, [], []),
  (1, .lstore_n 2, 1, .null, [], []),
  (2, .iconst 1, 1, .null, [], []),
  (3, .istore 4, 2, .null, [], []),
  (5, .iload 4, 2, .null, [], []),
  (7, .aload_n 0, 1, .null, [], []),
  (8, .getfield 18, 3, .null, [3, 2, 1], [(1, 163)]),
  (11, .arraylength, 1, .null, [], []),
  (12, .if_icmp .ge 65, 3, .null, [77], []),
  (15, .aload_n 0, 1, .null, [], []),
  (16, .iload_n 1, 1, .null, [], []),
  (17, .iload 4, 2, .null, [], []),
  (19, .invokevirtual 94, 3, .null, [132, 2, 0, 0, 0, 3], [(5, 7), (5, 9), (0, 12), (5, 10), (1, 6)]),
  (22, .lstore 5, 2, .null, [], []),
  (24, .lload 5, 2, .null, [], []),
  (26, .lconst 0, 1, .null, [], []),
  (27, .lcmp, 1, .null, [], []),
  (28, .ifCond .eq 43, 3, .null, [71], []),
  (31, .lload_n 2, 1, .null, [], []),
  (32, .lload 5, 2, .null, [], []),
  (34, .aload_n 0, 1, .null, [], []),
  (35, .getfield 18, 3, .null, [3, 2, 1], [(1, 163)]),
  (38, .iload 4, 2, .null, [], []),
  (40, .laload, 1, .null, [], []),
  (41, .land, 1, .null, [], []),
  (42, .invokestatic 64, 3, .null, [32, 1, 0, 0, 0], [(2, 198), (2, 147), (1, 20), (2, 148)]),
  (45, .lor, 1, .null, [], []),
  (46, .lstore_n 2, 1, .null, [], []),
  (47, .iload 4, 2, .null, [], []),
  (49, .iconst 1, 1, .null, [], []),
  (50, .if_icmp .ne 21, 3, .null, [71], []),
  (53, .lload_n 2, 1, .null, [], []),
  (54, .lload 5, 2, .null, [], []),
  (56, .aload_n 0, 1, .null, [], []),
  (57, .getfield 31, 3, .null, [3, 5, 0], [(1, 166)]),
  (60, .land, 1, .null, [], []),
  (61, .invokestatic 64, 3, .null, [32, 1, 0, 0, 0], [(2, 198), (2, 147), (1, 20), (2, 148)]),
  (64, .aload_n 0, 1, .null, [], []),
  (65, .getfield 31, 3, .null, [3, 5, 0], [(1, 166)]),
  (68, .land, 1, .null, [], []),
  (69, .lor, 1, .null, [], []),
  (70, .lstore_n 2, 1, .null, [], []),
  (71, .iinc 4 1, 3, .null, [], []),
  (74, .goto (-69), 3, .null, [5], []),
  (77, .lload_n 2, 1, .null, [], []),
  (78, .lreturn, 1, .null, [], [])]
def e_m133 : e_MD := (⟨"HexCampaign$Waves", "departures", "(I)J"⟩, prog_12_method_10_code, 7, (some .long), [], e_c133)
-- 134: HexCampaign$Waves.markUseful(II)V
set_option maxRecDepth 100000 in
def e_c134 : List e_I := [(0, .aload_n 0, 1, .null, [], []),
  (1, .getfield 15, 3, .null, [3, 1, 1], [(1, 162)]),
  (4, .arraylength, 1, .null, [], []),
  (5, .iconst 1, 1, .null, [], []),
  (6, .isub, 1, .null, [], []),
  (7, .istore_n 3, 1, .null, [], []),
  (8, .iload_n 3, 1, .null, [], []),
  (9, .ifCond .lt 65, 3, .null, [74], []),
  (12, .iload_n 3, 1, .null, [], []),
  (13, .iload_n 2, 1, .null, [], []),
  (14, .if_icmp .lt 25, 3, .null, [39], []),
  (17, .aload_n 0, 1, .null, [], []),
  (18, .getfield 15, 3, .null, [3, 1, 1], [(1, 162)]),
  (21, .iload_n 3, 1, .null, [], []),
  (22, .iload_n 3, 1, .null, [], []),
  (23, .iload_n 2, 1, .null, [], []),
  (24, .if_icmp .ne 10, 3, .null, [34], []),
  (27, .iload_n 1, 1, .null, [], []),
  (28, .invokestatic 88, 3, .null, [28, 1, 0, 0, 0], [(5, 2), (2, 133), (1, 20), (2, 134)]),
  (31, .goto 4, 3, .null, [35], []),
  (34, .lconst 0, 1, .null, [], []),
  (35, .lastore, 1, .null, [], []),
  (36, .goto 32, 3, .null, [68], []),
  (39, .aload_n 0, 1, .null, [], []),
  (40, .getfield 15, 3, .null, [3, 1, 1], [(1, 162)]),
  (43, .iload_n 3, 1, .null, [], []),
  (44, .aload_n 0, 1, .null, [], []),
  (45, .iload_n 3, 1, .null, [], []),
  (46, .invokevirtual 91, 3, .null, [133, 1, 0, 0, 0, 3], [(5, 3), (5, 5), (0, 11), (5, 6), (1, 6)]),
  (49, .aload_n 0, 1, .null, [], []),
  (50, .getfield 11, 3, .null, [3, 0, 1], [(1, 161)]),
  (53, .iload_n 3, 1, .null, [], []),
  (54, .invokestatic 50, 3, .null, [30, 2, 0, 0, 0], [(2, 191), (2, 140), (1, 10), (2, 141)]),
  (57, .land, 1, .null, [], []),
  (58, .aload_n 0, 1, .null, [], []),
  (59, .getfield 38, 3, .null, [3, 6, 0], [(1, 167)]),
  (62, .ldc2_w 48, 3, .long (-1), [], [(2, 192)]),
  (65, .lxor, 1, .null, [], []),
  (66, .land, 1, .null, [], []),
  (67, .lastore, 1, .null, [], []),
  (68, .iinc 3 (-1), 3, .null, [], []),
  (71, .goto (-63), 3, .null, [8], []),
  (74, .return_, 1, .null, [], [])]
def e_m134 : e_MD := (⟨"HexCampaign$Waves", "markUseful", "(II)V"⟩, prog_12_method_9_code, 4, none, [], e_c134)
-- 135: HexCampaign$Hexes.lowest(J)I
set_option maxRecDepth 100000 in
def e_c135 : List e_I := [(0, .iconst 0, 1, .null, [], []),
  (1, .istore_n 2, 1, .null, [], []),
  (2, .iload_n 2, 1, .null, [], []),
  (3, .bipush 63, 2, .null, [], []),
  (5, .if_icmp .ge 19, 3, .null, [24], []),
  (8, .lload_n 0, 1, .null, [], []),
  (9, .iload_n 2, 1, .null, [], []),
  (10, .invokestatic 9, 3, .null, [46, 2, 0, 0, 0], [(5, 18), (2, 208), (1, 20), (2, 209)]),
  (13, .ifCond .eq 5, 3, .null, [18], []),
  (16, .iload_n 2, 1, .null, [], []),
  (17, .ireturn, 1, .null, [], []),
  (18, .iinc 2 1, 3, .null, [], []),
  (21, .goto (-19), 3, .null, [2], []),
  (24, .iconst (-1), 1, .null, [], []),
  (25, .ireturn, 1, .null, [], [])]
def e_m135 : e_MD := (⟨"HexCampaign$Hexes", "lowest", "(J)I"⟩, prog_3_method_4_code, 3, (some .int), [], e_c135)
-- 136: HexCampaign$Waves.nextOnWay(II)I
set_option maxRecDepth 100000 in
def e_c136 : List e_I := [(0, .lconst 0, 1, .null, [], []),
  (1, .lstore_n 3, 1, .null, [], []),
  (2, .iconst 1, 1, .null, [], []),
  (3, .istore 5, 2, .null, [], []),
  (5, .iload 5, 2, .null, [], []),
  (7, .aload_n 0, 1, .null, [], []),
  (8, .getfield 18, 3, .null, [3, 2, 1], [(1, 163)]),
  (11, .arraylength, 1, .null, [], []),
  (12, .if_icmp .ge 48, 3, .null, [60], []),
  (15, .aload_n 0, 1, .null, [], []),
  (16, .iload_n 2, 1, .null, [], []),
  (17, .iload 5, 2, .null, [], []),
  (19, .invokevirtual 94, 3, .null, [132, 2, 0, 0, 0, 3], [(5, 7), (5, 9), (0, 12), (5, 10), (1, 6)]),
  (22, .lstore 6, 2, .null, [], []),
  (24, .lload 6, 2, .null, [], []),
  (26, .lconst 0, 1, .null, [], []),
  (27, .lcmp, 1, .null, [], []),
  (28, .ifCond .eq 26, 3, .null, [54], []),
  (31, .lload_n 3, 1, .null, [], []),
  (32, .lload 6, 2, .null, [], []),
  (34, .aload_n 0, 1, .null, [], []),
  (35, .iload_n 1, 1, .null, [], []),
  (36, .invokestatic 88, 3, .null, [28, 1, 0, 0, 0], [(5, 2), (2, 133), (1, 20), (2, 134)]),
  (39, .iload 5, 2, .null, [], []),
  (41, .aload_n 0, 1, .null, [], []),
  (42, .getfield 18, 3, .null, [3, 2, 1], [(1, 163)]),
  (45, .iload 5, 2, .null, [], []),
  (47, .laload, 1, .null, [], []),
  (48, .invokevirtual 60, 3, .null, [41, 3, 0, 0, 0, 3], [(2, 194), (2, 196), (0, 2), (2, 197), (1, 6)]),
  (51, .land, 1, .null, [], []),
  (52, .lor, 1, .null, [], []),
  (53, .lstore_n 3, 1, .null, [], []),
  (54, .iinc 5 1, 3, .null, [], []),
  (57, .goto (-52), 3, .null, [5], []),
  (60, .lload_n 3, 1, .null, [], []),
  (61, .invokestatic 97, 3, .null, [135, 1, 0, 0, 0], [(5, 15), (5, 16), (1, 20), (5, 17)]),
  (64, .ireturn, 1, .null, [], [])]
def e_m136 : e_MD := (⟨"HexCampaign$Waves", "nextOnWay", "(II)I"⟩, prog_12_method_12_code, 8, (some .int), [], e_c136)
-- 137: HexCampaign$Waves.trace(II)V
set_option maxRecDepth 100000 in
def e_c137 : List e_I := [(0, .aload_n 0, 1, .null, [], []),
  (1, .iload_n 2, 1, .null, [], []),
  (2, .aload_n 0, 1, .null, [], []),
  (3, .iload_n 2, 1, .null, [], []),
  (4, .invokevirtual 72, 3, .null, [122, 1, 0, 0, 0, 3], [(4, 237), (4, 189), (4, 190), (4, 191), (1, 6)]),
  (7, .invokevirtual 76, 3, .null, [134, 2, 0, 0, 0, 3], [(4, 238), (5, 0), (0, 10), (5, 1), (1, 6)]),
  (10, .aload_n 0, 1, .null, [], []),
  (11, .iconst 0, 1, .null, [], []),
  (12, .putfield 80, 3, .null, [3, 4, 0, 0], [(1, 165)]),
  (15, .iload_n 1, 1, .null, [], []),
  (16, .istore_n 3, 1, .null, [], []),
  (17, .iconst 0, 1, .null, [], []),
  (18, .istore 4, 2, .null, [], []),
  (20, .iload 4, 2, .null, [], []),
  (22, .aload_n 0, 1, .null, [], []),
  (23, .getfield 21, 3, .null, [3, 3, 1], [(1, 164)]),
  (26, .arraylength, 1, .null, [], []),
  (27, .if_icmp .ge 48, 3, .null, [75], []),
  (30, .iload_n 3, 1, .null, [], []),
  (31, .iconst (-1), 1, .null, [], []),
  (32, .if_icmp .eq 43, 3, .null, [75], []),
  (35, .aload_n 0, 1, .null, [], []),
  (36, .getfield 21, 3, .null, [3, 3, 1], [(1, 164)]),
  (39, .iload 4, 2, .null, [], []),
  (41, .iload_n 3, 1, .null, [], []),
  (42, .iastore, 1, .null, [], []),
  (43, .aload_n 0, 1, .null, [], []),
  (44, .iload 4, 2, .null, [], []),
  (46, .putfield 80, 3, .null, [3, 4, 0, 0], [(1, 165)]),
  (49, .iload_n 3, 1, .null, [], []),
  (50, .iload_n 2, 1, .null, [], []),
  (51, .if_icmp .ne 7, 3, .null, [58], []),
  (54, .iconst (-1), 1, .null, [], []),
  (55, .goto 13, 3, .null, [68], []),
  (58, .aload_n 0, 1, .null, [], []),
  (59, .iload_n 3, 1, .null, [], []),
  (60, .aload_n 0, 1, .null, [], []),
  (61, .iload_n 3, 1, .null, [], []),
  (62, .invokevirtual 72, 3, .null, [122, 1, 0, 0, 0, 3], [(4, 237), (4, 189), (4, 190), (4, 191), (1, 6)]),
  (65, .invokevirtual 84, 3, .null, [136, 2, 0, 0, 0, 3], [(5, 11), (5, 13), (0, 13), (5, 14), (1, 6)]),
  (68, .istore_n 3, 1, .null, [], []),
  (69, .iinc 4 1, 3, .null, [], []),
  (72, .goto (-52), 3, .null, [20], []),
  (75, .return_, 1, .null, [], [])]
def e_m137 : e_MD := (⟨"HexCampaign$Waves", "trace", "(II)V"⟩, prog_12_method_8_code, 5, none, [], e_c137)
-- 138: HexCampaign$Play.findWay(II)I
set_option maxRecDepth 100000 in
def e_c138 : List e_I := [(0, .aload_n 0, 1, .null, [], []),
  (1, .getfield 27, 3, .null, [4, 2, 1], [(1, 189)]),
  (4, .iload_n 1, 1, .null, [], []),
  (5, .invokevirtual 83, 3, .null, [97, 1, 0, 0, 0, 1], [(4, 89), (4, 72), (4, 73), (4, 74), (1, 5)]),
  (8, .istore_n 3, 1, .null, [], []),
  (9, .iload_n 3, 1, .null, [], []),
  (10, .iload_n 2, 1, .null, [], []),
  (11, .if_icmp .ne 5, 3, .null, [16], []),
  (14, .iconst (-1), 1, .null, [], []),
  (15, .ireturn, 1, .null, [], []),
  (16, .aload_n 0, 1, .null, [], []),
  (17, .iload_n 1, 1, .null, [], []),
  (18, .invokevirtual 128, 3, .null, [126, 1, 0, 0, 0, 4], [(4, 204), (4, 206), (0, 8), (4, 207), (1, 2)]),
  (21, .aload_n 0, 1, .null, [], []),
  (22, .getfield 35, 3, .null, [4, 4, 1], [(1, 191)]),
  (25, .iload_n 2, 1, .null, [], []),
  (26, .invokevirtual 74, 3, .null, [122, 1, 0, 0, 0, 3], [(4, 188), (4, 189), (4, 190), (4, 191), (1, 6)]),
  (29, .istore 4, 2, .null, [], []),
  (31, .iload 4, 2, .null, [], []),
  (33, .iconst (-1), 1, .null, [], []),
  (34, .if_icmp .eq 12, 3, .null, [46], []),
  (37, .aload_n 0, 1, .null, [], []),
  (38, .getfield 35, 3, .null, [4, 4, 1], [(1, 191)]),
  (41, .iload_n 3, 1, .null, [], []),
  (42, .iload_n 2, 1, .null, [], []),
  (43, .invokevirtual 132, 3, .null, [137, 2, 0, 0, 0, 3], [(4, 233), (4, 234), (4, 235), (4, 236), (1, 6)]),
  (46, .iload 4, 2, .null, [], []),
  (48, .ireturn, 1, .null, [], [])]
def e_m138 : e_MD := (⟨"HexCampaign$Play", "findWay", "(II)I"⟩, prog_8_method_9_code, 5, (some .int), [], e_c138)
-- 139: HexCampaign.cost(II)I
set_option maxRecDepth 100000 in
def e_c139 : List e_I := [(0, .aload_n 0, 1, .null, [], []),
  (1, .iload_n 1, 1, .null, [], []),
  (2, .invokevirtual 176, 3, .null, [96, 1, 0, 1, 6, 8], [(4, 62), (4, 64), (0, 6), (4, 65), (1, 1)]),
  (5, .iload_n 2, 1, .null, [], []),
  (6, .invokestatic 69, 3, .null, [60, 1, 0, 1, 6], [(3, 101), (3, 102), (1, 1), (3, 103)]),
  (9, .aload_n 0, 1, .null, [], []),
  (10, .getfield 10, 3, .null, [8, 0, 1], [(2, 34)]),
  (13, .iload_n 1, 1, .null, [], []),
  (14, .iload_n 2, 1, .null, [], []),
  (15, .invokevirtual 233, 3, .null, [138, 2, 0, 0, 0, 4], [(4, 229), (4, 230), (4, 231), (4, 232), (1, 2)]),
  (18, .istore_n 3, 1, .null, [], []),
  (19, .iload_n 3, 1, .null, [], []),
  (20, .iconst (-1), 1, .null, [], []),
  (21, .if_icmp .ne 11, 3, .null, [32], []),
  (24, .new 140, 3, .null, [1, 3, 142], [(3, 222), (1, 24), (3, 231)]),
  (32, .iload_n 3, 1, .null, [], []),
  (33, .ireturn, 1, .null, [], [])]
def e_m139 : e_MD := (⟨"HexCampaign", "cost", "(II)I"⟩, prog_1_method_17_code, 4, (some .int), [], e_c139)
-- 140: HexCampaignLaw.cost(LHexCampaign;II[J)I
set_option maxRecDepth 100000 in
def e_c140 : List e_I := [(0, .aload_n 3, 1, .null, [], []),
  (1, .iconst 0, 1, .null, [], []),
  (2, .aload_n 0, 1, .null, [], []),
  (3, .iload_n 1, 1, .null, [], []),
  (4, .iload_n 2, 1, .null, [], []),
  (5, .invokevirtual 68, 3, .null, [139, 2, 0, 3, 18, 8, 0, 4, 15, 3, 4, 19], [(4, 225), (4, 226), (4, 227), (4, 228), (1, 1), (3, 15), (3, 211)]),
  (8, .i2l, 1, .null, [], []),
  (9, .lastore, 1, .null, [], []),
  (10, .goto 11, 3, .null, [21], []),
  (13, .astore 4, 2, .null, [], []),
  (15, .iconst 1, 1, .null, [], []),
  (16, .ireturn, 1, .null, [], []),
  (17, .astore 4, 2, .null, [], []),
  (19, .iconst 2, 1, .null, [], []),
  (20, .ireturn, 1, .null, [], []),
  (21, .iconst 0, 1, .null, [], []),
  (22, .ireturn, 1, .null, [], [])]
def e_m140 : e_MD := (⟨"HexCampaignLaw", "cost", "(LHexCampaign;II[J)I"⟩, method_17_code, 5, (some .int), [(0, 10, 13, 13), (0, 10, 17, 34)], e_c140)
-- 141: HexCampaign$Waves.trailAt(I)I
set_option maxRecDepth 100000 in
def e_c141 : List e_I := [(0, .iload_n 1, 1, .null, [], []),
  (1, .ifCond .lt 22, 3, .null, [23], []),
  (4, .iload_n 1, 1, .null, [], []),
  (5, .aload_n 0, 1, .null, [], []),
  (6, .getfield 80, 3, .null, [3, 4, 0], [(1, 165)]),
  (9, .if_icmp .gt 14, 3, .null, [23], []),
  (12, .aload_n 0, 1, .null, [], []),
  (13, .getfield 21, 3, .null, [3, 3, 1], [(1, 164)]),
  (16, .iload_n 1, 1, .null, [], []),
  (17, .invokestatic 101, 3, .null, [36, 2, 0, 0, 0], [(5, 34), (2, 177), (1, 10), (2, 178)]),
  (20, .goto 4, 3, .null, [24], []),
  (23, .iconst (-1), 1, .null, [], []),
  (24, .ireturn, 1, .null, [], [])]
def e_m141 : e_MD := (⟨"HexCampaign$Waves", "trailAt", "(I)I"⟩, prog_12_method_14_code, 2, (some .int), [], e_c141)
-- 142: HexCampaign$Play.wayAt(I)I
set_option maxRecDepth 100000 in
def e_c142 : List e_I := [(0, .aload_n 0, 1, .null, [], []),
  (1, .getfield 35, 3, .null, [4, 4, 1], [(1, 191)]),
  (4, .iload_n 1, 1, .null, [], []),
  (5, .invokevirtual 136, 3, .null, [141, 1, 0, 0, 0, 3], [(5, 30), (5, 31), (5, 32), (5, 33), (1, 6)]),
  (8, .ireturn, 1, .null, [], [])]
def e_m142 : e_MD := (⟨"HexCampaign$Play", "wayAt", "(I)I"⟩, prog_8_method_10_code, 2, (some .int), [], e_c142)
-- 143: HexCampaign.way(III)I
set_option maxRecDepth 100000 in
def e_c143 : List e_I := [(0, .aload_n 0, 1, .null, [], []),
  (1, .iload_n 1, 1, .null, [], []),
  (2, .invokevirtual 176, 3, .null, [96, 1, 0, 1, 6, 8], [(4, 62), (4, 64), (0, 6), (4, 65), (1, 1)]),
  (5, .iload_n 2, 1, .null, [], []),
  (6, .invokestatic 69, 3, .null, [60, 1, 0, 1, 6], [(3, 101), (3, 102), (1, 1), (3, 103)]),
  (9, .aload_n 0, 1, .null, [], []),
  (10, .getfield 10, 3, .null, [8, 0, 1], [(2, 34)]),
  (13, .iload_n 1, 1, .null, [], []),
  (14, .iload_n 2, 1, .null, [], []),
  (15, .invokevirtual 233, 3, .null, [138, 2, 0, 0, 0, 4], [(4, 229), (4, 230), (4, 231), (4, 232), (1, 2)]),
  (18, .iconst (-1), 1, .null, [], []),
  (19, .if_icmp .ne 7, 3, .null, [26], []),
  (22, .iconst (-1), 1, .null, [], []),
  (23, .goto 11, 3, .null, [34], []),
  (26, .aload_n 0, 1, .null, [], []),
  (27, .getfield 10, 3, .null, [8, 0, 1], [(2, 34)]),
  (30, .iload_n 3, 1, .null, [], []),
  (31, .invokevirtual 236, 3, .null, [142, 1, 0, 0, 0, 4], [(5, 26), (5, 27), (5, 28), (5, 29), (1, 2)]),
  (34, .istore 4, 2, .null, [], []),
  (36, .iload 4, 2, .null, [], []),
  (38, .iconst (-1), 1, .null, [], []),
  (39, .if_icmp .ne 11, 3, .null, [50], []),
  (42, .new 140, 3, .null, [1, 3, 142], [(3, 222), (1, 24), (3, 231)]),
  (50, .iload 4, 2, .null, [], []),
  (52, .ireturn, 1, .null, [], [])]
def e_m143 : e_MD := (⟨"HexCampaign", "way", "(III)I"⟩, prog_1_method_18_code, 5, (some .int), [], e_c143)
-- 144: HexCampaignLaw.way(LHexCampaign;III[J)I
set_option maxRecDepth 100000 in
def e_c144 : List e_I := [(0, .aload 4, 2, .null, [], []),
  (2, .iconst 0, 1, .null, [], []),
  (3, .aload_n 0, 1, .null, [], []),
  (4, .iload_n 1, 1, .null, [], []),
  (5, .iload_n 2, 1, .null, [], []),
  (6, .iload_n 3, 1, .null, [], []),
  (7, .invokevirtual 71, 3, .null, [143, 3, 0, 3, 18, 8, 0, 5, 17, 3, 5, 21], [(5, 22), (5, 23), (5, 24), (5, 25), (1, 1), (3, 15), (3, 211)]),
  (10, .i2l, 1, .null, [], []),
  (11, .lastore, 1, .null, [], []),
  (12, .goto 11, 3, .null, [23], []),
  (15, .astore 5, 2, .null, [], []),
  (17, .iconst 1, 1, .null, [], []),
  (18, .ireturn, 1, .null, [], []),
  (19, .astore 5, 2, .null, [], []),
  (21, .iconst 2, 1, .null, [], []),
  (22, .ireturn, 1, .null, [], []),
  (23, .iconst 0, 1, .null, [], []),
  (24, .ireturn, 1, .null, [], [])]
def e_m144 : e_MD := (⟨"HexCampaignLaw", "way", "(LHexCampaign;III[J)I"⟩, method_18_code, 6, (some .int), [(0, 12, 15, 13), (0, 12, 19, 34)], e_c144)
-- 145: HexCampaign$Play.isRoomInSight(II)Z
set_option maxRecDepth 100000 in
def e_c145 : List e_I := [(0, .aload_n 0, 1, .null, [], []),
  (1, .getfield 27, 3, .null, [4, 2, 1], [(1, 189)]),
  (4, .iload_n 1, 1, .null, [], []),
  (5, .iload_n 2, 1, .null, [], []),
  (6, .aload_n 0, 1, .null, [], []),
  (7, .iload_n 1, 1, .null, [], []),
  (8, .invokevirtual 139, 3, .null, [127, 1, 0, 0, 0, 4], [(4, 213), (4, 215), (0, 9), (4, 216), (1, 2)]),
  (11, .invokevirtual 142, 3, .null, [128, 3, 0, 0, 0, 1], [(4, 217), (4, 218), (4, 219), (4, 220), (1, 5)]),
  (14, .ireturn, 1, .null, [], [])]
def e_m145 : e_MD := (⟨"HexCampaign$Play", "isRoomInSight", "(II)Z"⟩, prog_8_method_12_code, 3, (some .boolean), [], e_c145)
-- 146: HexCampaign$Report.append(II)V
set_option maxRecDepth 100000 in
def e_c146 : List e_I := [(0, .aload_n 0, 1, .null, [], []),
  (1, .getfield 16, 3, .null, [6, 2, 0], [(1, 232)]),
  (4, .iconst 3, 1, .null, [], []),
  (5, .if_icmp .ge 37, 3, .null, [42], []),
  (8, .aload_n 0, 1, .null, [], []),
  (9, .getfield 9, 3, .null, [6, 0, 1], [(1, 230)]),
  (12, .aload_n 0, 1, .null, [], []),
  (13, .getfield 16, 3, .null, [6, 2, 0], [(1, 232)]),
  (16, .iload_n 1, 1, .null, [], []),
  (17, .invokestatic 24, 3, .null, [51, 3, 0, 0, 0], [(5, 56), (2, 232), (1, 10), (2, 233)]),
  (20, .aload_n 0, 1, .null, [], []),
  (21, .getfield 13, 3, .null, [6, 1, 1], [(1, 231)]),
  (24, .aload_n 0, 1, .null, [], []),
  (25, .getfield 16, 3, .null, [6, 2, 0], [(1, 232)]),
  (28, .iload_n 2, 1, .null, [], []),
  (29, .invokestatic 24, 3, .null, [51, 3, 0, 0, 0], [(5, 56), (2, 232), (1, 10), (2, 233)]),
  (32, .aload_n 0, 1, .null, [], []),
  (33, .dup, 1, .null, [], []),
  (34, .getfield 16, 3, .null, [6, 2, 0], [(1, 232)]),
  (37, .iconst 1, 1, .null, [], []),
  (38, .iadd, 1, .null, [], []),
  (39, .putfield 16, 3, .null, [6, 2, 0, 0], [(1, 232)]),
  (42, .return_, 1, .null, [], [])]
def e_m146 : e_MD := (⟨"HexCampaign$Report", "append", "(II)V"⟩, prog_9_method_3_code, 3, none, [], e_c146)
-- 147: HexCampaign$Report.begin(I)V
set_option maxRecDepth 100000 in
def e_c147 : List e_I := [(0, .aload_n 0, 1, .null, [], []),
  (1, .iconst 0, 1, .null, [], []),
  (2, .putfield 16, 3, .null, [6, 2, 0, 0], [(1, 232)]),
  (5, .aload_n 0, 1, .null, [], []),
  (6, .iconst 1, 1, .null, [], []),
  (7, .iload_n 1, 1, .null, [], []),
  (8, .invokevirtual 20, 3, .null, [146, 2, 0, 0, 0, 6], [(5, 52), (5, 53), (5, 54), (5, 55), (1, 8)]),
  (11, .return_, 1, .null, [], [])]
def e_m147 : e_MD := (⟨"HexCampaign$Report", "begin", "(I)V"⟩, prog_9_method_2_code, 2, none, [], e_c147)
-- 148: HexCampaign.explainRefusal(IIIZ)V
set_option maxRecDepth 100000 in
def e_c148 : List e_I := [(0, .iload_n 2, 1, .null, [], []),
  (1, .iconst (-1), 1, .null, [], []),
  (2, .if_icmp .ne 15, 3, .null, [17], []),
  (5, .aload_n 0, 1, .null, [], []),
  (6, .getfield 41, 3, .null, [8, 5, 1], [(2, 39)]),
  (9, .iconst 2, 1, .null, [], []),
  (10, .iload_n 1, 1, .null, [], []),
  (11, .invokevirtual 358, 3, .null, [146, 2, 0, 0, 0, 6], [(5, 61), (5, 53), (5, 54), (5, 55), (1, 8)]),
  (14, .goto 78, 3, .null, [92], []),
  (17, .iload_n 2, 1, .null, [], []),
  (18, .iload_n 3, 1, .null, [], []),
  (19, .if_icmp .le 29, 3, .null, [48], []),
  (22, .aload_n 0, 1, .null, [], []),
  (23, .getfield 41, 3, .null, [8, 5, 1], [(2, 39)]),
  (26, .iconst 3, 1, .null, [], []),
  (27, .iload_n 2, 1, .null, [], []),
  (28, .invokevirtual 358, 3, .null, [146, 2, 0, 0, 0, 6], [(5, 61), (5, 53), (5, 54), (5, 55), (1, 8)]),
  (31, .iload 4, 2, .null, [], []),
  (33, .ifCond .ne 59, 3, .null, [92], []),
  (36, .aload_n 0, 1, .null, [], []),
  (37, .getfield 41, 3, .null, [8, 5, 1], [(2, 39)]),
  (40, .iconst 5, 1, .null, [], []),
  (41, .iload_n 3, 1, .null, [], []),
  (42, .invokevirtual 358, 3, .null, [146, 2, 0, 0, 0, 6], [(5, 61), (5, 53), (5, 54), (5, 55), (1, 8)]),
  (45, .goto 47, 3, .null, [92], []),
  (48, .aload_n 0, 1, .null, [], []),
  (49, .getfield 20, 3, .null, [8, 1, 1], [(2, 35)]),
  (52, .getfield 56, 3, .null, [2, 1, 1], [(1, 117)]),
  (55, .iload_n 1, 1, .null, [], []),
  (56, .invokevirtual 75, 3, .null, [61, 1, 0, 0, 0, 1], [(3, 140), (3, 141), (3, 142), (3, 143), (1, 5)]),
  (59, .aload_n 0, 1, .null, [], []),
  (60, .getfield 20, 3, .null, [8, 1, 1], [(2, 35)]),
  (63, .getfield 56, 3, .null, [2, 1, 1], [(1, 117)]),
  (66, .aload_n 0, 1, .null, [], []),
  (67, .getfield 20, 3, .null, [8, 1, 1], [(2, 35)]),
  (70, .getfield 149, 3, .null, [2, 4, 0], [(1, 124)]),
  (73, .invokevirtual 272, 3, .null, [26, 1, 0, 0, 0, 1], [(5, 62), (2, 112), (2, 113), (2, 114), (1, 5)]),
  (76, .iand, 1, .null, [], []),
  (77, .istore 5, 2, .null, [], []),
  (79, .aload_n 0, 1, .null, [], []),
  (80, .getfield 41, 3, .null, [8, 5, 1], [(2, 39)]),
  (83, .iconst 4, 1, .null, [], []),
  (84, .iload 5, 2, .null, [], []),
  (86, .invokestatic 284, 3, .null, [14, 1, 0, 0, 0], [(5, 63), (2, 65), (1, 12), (2, 66)]),
  (89, .invokevirtual 358, 3, .null, [146, 2, 0, 0, 0, 6], [(5, 61), (5, 53), (5, 54), (5, 55), (1, 8)]),
  (92, .return_, 1, .null, [], [])]
def e_m148 : e_MD := (⟨"HexCampaign", "explainRefusal", "(IIIZ)V"⟩, prog_1_method_37_code, 6, none, [], e_c148)
-- 149: HexCampaign$Waves.steps()I
set_option maxRecDepth 100000 in
def e_c149 : List e_I := [(0, .aload_n 0, 1, .null, [], []),
  (1, .getfield 80, 3, .null, [3, 4, 0], [(1, 165)]),
  (4, .ireturn, 1, .null, [], [])]
def e_m149 : e_MD := (⟨"HexCampaign$Waves", "steps", "()I"⟩, prog_12_method_13_code, 1, (some .int), [], e_c149)
-- 150: HexCampaign$Play.stopOf(I)I
set_option maxRecDepth 100000 in
def e_c150 : List e_I := [(0, .iconst 1, 1, .null, [], []),
  (1, .aload_n 0, 1, .null, [], []),
  (2, .getfield 27, 3, .null, [4, 2, 1], [(1, 189)]),
  (5, .iload_n 1, 1, .null, [], []),
  (6, .invokevirtual 78, 3, .null, [49, 1, 0, 0, 0, 1], [(4, 88), (2, 219), (2, 220), (2, 221), (1, 5)]),
  (9, .isub, 1, .null, [], []),
  (10, .istore_n 2, 1, .null, [], []),
  (11, .aload_n 0, 1, .null, [], []),
  (12, .getfield 27, 3, .null, [4, 2, 1], [(1, 189)]),
  (15, .aload_n 0, 1, .null, [], []),
  (16, .getfield 27, 3, .null, [4, 2, 1], [(1, 189)]),
  (19, .iload_n 2, 1, .null, [], []),
  (20, .invokevirtual 98, 3, .null, [26, 1, 0, 0, 0, 1], [(2, 111), (2, 112), (2, 113), (2, 114), (1, 5)]),
  (23, .invokevirtual 117, 3, .null, [29, 1, 0, 0, 0, 1], [(4, 210), (2, 126), (2, 127), (2, 128), (1, 5)]),
  (26, .lstore_n 3, 1, .null, [], []),
  (27, .aload_n 0, 1, .null, [], []),
  (28, .getfield 22, 3, .null, [4, 1, 1], [(1, 188)]),
  (31, .lload_n 3, 1, .null, [], []),
  (32, .invokevirtual 120, 3, .null, [33, 1, 0, 0, 0, 0], [(4, 211), (2, 143), (2, 144), (2, 145), (1, 4)]),
  (35, .lstore 5, 2, .null, [], []),
  (37, .iconst 1, 1, .null, [], []),
  (38, .istore 7, 2, .null, [], []),
  (40, .iload 7, 2, .null, [], []),
  (42, .aload_n 0, 1, .null, [], []),
  (43, .getfield 35, 3, .null, [4, 4, 1], [(1, 191)]),
  (46, .invokevirtual 159, 3, .null, [149, 0, 0, 0, 0, 3], [(5, 87), (5, 88), (5, 89), (5, 90), (1, 6)]),
  (49, .if_icmp .gt 60, 3, .null, [109], []),
  (52, .aload_n 0, 1, .null, [], []),
  (53, .getfield 35, 3, .null, [4, 4, 1], [(1, 191)]),
  (56, .iload 7, 2, .null, [], []),
  (58, .invokevirtual 136, 3, .null, [141, 1, 0, 0, 0, 3], [(5, 30), (5, 31), (5, 32), (5, 33), (1, 6)]),
  (61, .istore 8, 2, .null, [], []),
  (63, .lload_n 3, 1, .null, [], []),
  (64, .iload 8, 2, .null, [], []),
  (66, .invokestatic 86, 3, .null, [46, 2, 0, 0, 0], [(4, 90), (2, 208), (1, 20), (2, 209)]),
  (69, .ifCond .eq 21, 3, .null, [90], []),
  (72, .aload_n 0, 1, .null, [], []),
  (73, .getfield 12, 3, .null, [4, 0, 1], [(1, 186)]),
  (76, .dup, 1, .null, [], []),
  (77, .getfield 163, 3, .null, [2, 6, 0], [(1, 131)]),
  (80, .iconst 1, 1, .null, [], []),
  (81, .iadd, 1, .null, [], []),
  (82, .putfield 163, 3, .null, [2, 6, 0, 0], [(1, 131)]),
  (85, .iload 7, 2, .null, [], []),
  (87, .iconst 1, 1, .null, [], []),
  (88, .isub, 1, .null, [], []),
  (89, .ireturn, 1, .null, [], []),
  (90, .lload 5, 2, .null, [], []),
  (92, .iload 8, 2, .null, [], []),
  (94, .invokestatic 86, 3, .null, [46, 2, 0, 0, 0], [(4, 90), (2, 208), (1, 20), (2, 209)]),
  (97, .ifCond .eq 6, 3, .null, [103], []),
  (100, .iload 7, 2, .null, [], []),
  (102, .ireturn, 1, .null, [], []),
  (103, .iinc 7 1, 3, .null, [], []),
  (106, .goto (-66), 3, .null, [40], []),
  (109, .aload_n 0, 1, .null, [], []),
  (110, .getfield 35, 3, .null, [4, 4, 1], [(1, 191)]),
  (113, .invokevirtual 159, 3, .null, [149, 0, 0, 0, 0, 3], [(5, 87), (5, 88), (5, 89), (5, 90), (1, 6)]),
  (116, .ireturn, 1, .null, [], [])]
def e_m150 : e_MD := (⟨"HexCampaign$Play", "stopOf", "(I)I"⟩, prog_8_method_15_code, 9, (some .int), [], e_c150)
-- 151: HexCampaign$Play.backToRoom(II)I
set_option maxRecDepth 100000 in
def e_c151 : List e_I := [(0, .iload_n 2, 1, .null, [], []),
  (1, .istore_n 3, 1, .null, [], []),
  (2, .iload_n 3, 1, .null, [], []),
  (3, .ifCond .le 35, 3, .null, [38], []),
  (6, .aload_n 0, 1, .null, [], []),
  (7, .getfield 27, 3, .null, [4, 2, 1], [(1, 189)]),
  (10, .iload_n 1, 1, .null, [], []),
  (11, .aload_n 0, 1, .null, [], []),
  (12, .getfield 35, 3, .null, [4, 4, 1], [(1, 191)]),
  (15, .iload_n 3, 1, .null, [], []),
  (16, .invokevirtual 136, 3, .null, [141, 1, 0, 0, 0, 3], [(5, 30), (5, 31), (5, 32), (5, 33), (1, 6)]),
  (19, .aload_n 0, 1, .null, [], []),
  (20, .getfield 27, 3, .null, [4, 2, 1], [(1, 189)]),
  (23, .invokevirtual 166, 3, .null, [90, 0, 0, 0, 0, 1], [(5, 95), (4, 42), (4, 43), (4, 44), (1, 5)]),
  (26, .invokevirtual 142, 3, .null, [128, 3, 0, 0, 0, 1], [(4, 217), (4, 218), (4, 219), (4, 220), (1, 5)]),
  (29, .ifCond .ne 9, 3, .null, [38], []),
  (32, .iinc 3 (-1), 3, .null, [], []),
  (35, .goto (-33), 3, .null, [2], []),
  (38, .iload_n 3, 1, .null, [], []),
  (39, .ireturn, 1, .null, [], [])]
def e_m151 : e_MD := (⟨"HexCampaign$Play", "backToRoom", "(II)I"⟩, prog_8_method_16_code, 4, (some .int), [], e_c151)
-- 152: HexCampaign$Units.noteMove(I)V
set_option maxRecDepth 100000 in
def e_c152 : List e_I := [(0, .aload_n 0, 1, .null, [], []),
  (1, .dup, 1, .null, [], []),
  (2, .getfield 52, 3, .null, [1, 3, 0], [(1, 77)]),
  (5, .iload_n 1, 1, .null, [], []),
  (6, .invokestatic 89, 3, .null, [47, 1, 0, 0, 0], [(2, 210), (2, 211), (1, 5), (2, 212)]),
  (9, .ior, 1, .null, [], []),
  (10, .putfield 52, 3, .null, [1, 3, 0, 0], [(1, 77)]),
  (13, .return_, 1, .null, [], [])]
def e_m152 : e_MD := (⟨"HexCampaign$Units", "noteMove", "(I)V"⟩, prog_11_method_34_code, 2, none, [], e_c152)
-- 153: HexCampaign$Units.placeAt(II)V
set_option maxRecDepth 100000 in
def e_c153 : List e_I := [(0, .aload_n 0, 1, .null, [], []),
  (1, .getfield 9, 3, .null, [1, 5, 1], [(1, 79)]),
  (4, .iload_n 1, 1, .null, [], []),
  (5, .iload_n 2, 1, .null, [], []),
  (6, .invokestatic 113, 3, .null, [51, 3, 0, 0, 0], [(2, 231), (2, 232), (1, 10), (2, 233)]),
  (9, .return_, 1, .null, [], [])]
def e_m153 : e_MD := (⟨"HexCampaign$Units", "placeAt", "(II)V"⟩, prog_11_method_33_code, 3, none, [], e_c153)
-- 154: HexCampaign$Play.march(I)V
set_option maxRecDepth 100000 in
def e_c154 : List e_I := [(0, .aload_n 0, 1, .null, [], []),
  (1, .iload_n 1, 1, .null, [], []),
  (2, .aload_n 0, 1, .null, [], []),
  (3, .iload_n 1, 1, .null, [], []),
  (4, .invokevirtual 146, 3, .null, [150, 1, 0, 0, 0, 4], [(5, 83), (5, 85), (0, 15), (5, 86), (1, 2)]),
  (7, .invokevirtual 149, 3, .null, [151, 2, 0, 0, 0, 4], [(5, 91), (5, 93), (0, 16), (5, 94), (1, 2)]),
  (10, .istore_n 2, 1, .null, [], []),
  (11, .aload_n 0, 1, .null, [], []),
  (12, .getfield 27, 3, .null, [4, 2, 1], [(1, 189)]),
  (15, .iload_n 1, 1, .null, [], []),
  (16, .invokevirtual 153, 3, .null, [152, 1, 0, 0, 0, 1], [(5, 96), (5, 97), (5, 98), (5, 99), (1, 5)]),
  (19, .aload_n 0, 1, .null, [], []),
  (20, .getfield 27, 3, .null, [4, 2, 1], [(1, 189)]),
  (23, .iload_n 1, 1, .null, [], []),
  (24, .aload_n 0, 1, .null, [], []),
  (25, .getfield 35, 3, .null, [4, 4, 1], [(1, 191)]),
  (28, .iload_n 2, 1, .null, [], []),
  (29, .invokevirtual 136, 3, .null, [141, 1, 0, 0, 0, 3], [(5, 30), (5, 31), (5, 32), (5, 33), (1, 6)]),
  (32, .invokevirtual 156, 3, .null, [153, 2, 0, 0, 0, 1], [(5, 100), (5, 101), (5, 102), (5, 103), (1, 5)]),
  (35, .return_, 1, .null, [], [])]
def e_m154 : e_MD := (⟨"HexCampaign$Play", "march", "(I)V"⟩, prog_8_method_14_code, 3, none, [], e_c154)
-- 155: HexCampaign.move(II)I
set_option maxRecDepth 100000 in
def e_c155 : List e_I := [(0, .aload_n 0, 1, .null, [], []),
  (1, .iload_n 1, 1, .null, [], []),
  (2, .invokevirtual 176, 3, .null, [96, 1, 0, 1, 6, 8], [(4, 62), (4, 64), (0, 6), (4, 65), (1, 1)]),
  (5, .iload_n 2, 1, .null, [], []),
  (6, .invokestatic 69, 3, .null, [60, 1, 0, 1, 6], [(3, 101), (3, 102), (1, 1), (3, 103)]),
  (9, .aload_n 0, 1, .null, [], []),
  (10, .getfield 20, 3, .null, [8, 1, 1], [(2, 35)]),
  (13, .getfield 56, 3, .null, [2, 1, 1], [(1, 117)]),
  (16, .iload_n 1, 1, .null, [], []),
  (17, .invokevirtual 182, 3, .null, [97, 1, 0, 0, 0, 1], [(4, 71), (4, 72), (4, 73), (4, 74), (1, 5)]),
  (20, .iload_n 2, 1, .null, [], []),
  (21, .if_icmp .ne 11, 3, .null, [32], []),
  (24, .new 72, 3, .null, [1, 1, 74], [(3, 125), (1, 19), (3, 134)]),
  (32, .aload_n 0, 1, .null, [], []),
  (33, .getfield 20, 3, .null, [8, 1, 1], [(2, 35)]),
  (36, .iload_n 1, 1, .null, [], []),
  (37, .invokevirtual 202, 3, .null, [107, 1, 0, 0, 0, 2], [(4, 104), (4, 105), (4, 106), (4, 107), (1, 3)]),
  (40, .ifCond .ne 11, 3, .null, [51], []),
  (43, .new 79, 3, .null, [1, 2, 81], [(3, 145), (1, 21), (3, 154)]),
  (51, .aload_n 0, 1, .null, [], []),
  (52, .getfield 10, 3, .null, [8, 0, 1], [(2, 34)]),
  (55, .iload_n 1, 1, .null, [], []),
  (56, .invokevirtual 194, 3, .null, [99, 1, 0, 0, 0, 4], [(4, 99), (4, 85), (4, 86), (4, 87), (1, 2)]),
  (59, .istore_n 3, 1, .null, [], []),
  (60, .aload_n 0, 1, .null, [], []),
  (61, .getfield 20, 3, .null, [8, 1, 1], [(2, 35)]),
  (64, .getfield 56, 3, .null, [2, 1, 1], [(1, 117)]),
  (67, .iload_n 1, 1, .null, [], []),
  (68, .iload_n 3, 1, .null, [], []),
  (69, .invokevirtual 239, 3, .null, [101, 2, 0, 0, 0, 1], [(5, 43), (4, 92), (4, 93), (4, 94), (1, 5)]),
  (72, .istore 4, 2, .null, [], []),
  (74, .aload_n 0, 1, .null, [], []),
  (75, .getfield 10, 3, .null, [8, 0, 1], [(2, 34)]),
  (78, .iload_n 1, 1, .null, [], []),
  (79, .iload_n 2, 1, .null, [], []),
  (80, .invokevirtual 233, 3, .null, [138, 2, 0, 0, 0, 4], [(4, 229), (4, 230), (4, 231), (4, 232), (1, 2)]),
  (83, .istore 5, 2, .null, [], []),
  (85, .iload 5, 2, .null, [], []),
  (87, .iconst (-1), 1, .null, [], []),
  (88, .if_icmp .eq 22, 3, .null, [110], []),
  (91, .iload 5, 2, .null, [], []),
  (93, .iload 4, 2, .null, [], []),
  (95, .if_icmp .gt 15, 3, .null, [110], []),
  (98, .aload_n 0, 1, .null, [], []),
  (99, .getfield 10, 3, .null, [8, 0, 1], [(2, 34)]),
  (102, .iload_n 1, 1, .null, [], []),
  (103, .iload_n 2, 1, .null, [], []),
  (104, .invokevirtual 241, 3, .null, [145, 2, 0, 0, 0, 4], [(5, 44), (5, 45), (5, 46), (5, 47), (1, 2)]),
  (107, .ifCond .ne 29, 3, .null, [136], []),
  (110, .aload_n 0, 1, .null, [], []),
  (111, .getfield 41, 3, .null, [8, 5, 1], [(2, 39)]),
  (114, .iload_n 1, 1, .null, [], []),
  (115, .invokevirtual 245, 3, .null, [147, 1, 0, 0, 0, 6], [(5, 48), (5, 49), (5, 50), (5, 51), (1, 8)]),
  (118, .aload_n 0, 1, .null, [], []),
  (119, .iload_n 2, 1, .null, [], []),
  (120, .iload 5, 2, .null, [], []),
  (122, .iload 4, 2, .null, [], []),
  (124, .iload_n 3, 1, .null, [], []),
  (125, .invokevirtual 246, 3, .null, [148, 4, 0, 0, 0, 8], [(5, 57), (5, 59), (0, 14), (5, 60), (1, 1)]),
  (128, .new 250, 3, .null, [1, 4, 252], [(5, 64), (1, 25), (5, 73)]),
  (136, .aload_n 0, 1, .null, [], []),
  (137, .getfield 34, 3, .null, [8, 4, 1], [(2, 38)]),
  (140, .aload_n 0, 1, .null, [], []),
  (141, .getfield 20, 3, .null, [8, 1, 1], [(2, 35)]),
  (144, .invokevirtual 91, 3, .null, [25, 1, 0, 0, 0, 5], [(2, 78), (2, 79), (2, 80), (2, 81), (1, 7)]),
  (147, .aload_n 0, 1, .null, [], []),
  (148, .getfield 10, 3, .null, [8, 0, 1], [(2, 34)]),
  (151, .iload_n 1, 1, .null, [], []),
  (152, .invokevirtual 253, 3, .null, [154, 1, 0, 0, 0, 4], [(5, 79), (5, 80), (5, 81), (5, 82), (1, 2)]),
  (155, .aload_n 0, 1, .null, [], []),
  (156, .getfield 20, 3, .null, [8, 1, 1], [(2, 35)]),
  (159, .getfield 56, 3, .null, [2, 1, 1], [(1, 117)]),
  (162, .iload_n 1, 1, .null, [], []),
  (163, .invokevirtual 182, 3, .null, [97, 1, 0, 0, 0, 1], [(4, 71), (4, 72), (4, 73), (4, 74), (1, 5)]),
  (166, .ireturn, 1, .null, [], [])]
def e_m155 : e_MD := (⟨"HexCampaign", "move", "(II)I"⟩, prog_1_method_19_code, 6, (some .int), [], e_c155)
-- 156: HexCampaignLaw.move(LHexCampaign;II[J)I
set_option maxRecDepth 100000 in
def e_c156 : List e_I := [(0, .aload_n 3, 1, .null, [], []),
  (1, .iconst 0, 1, .null, [], []),
  (2, .aload_n 0, 1, .null, [], []),
  (3, .iload_n 1, 1, .null, [], []),
  (4, .iload_n 2, 1, .null, [], []),
  (5, .invokevirtual 75, 3, .null, [155, 2, 0, 5, 30, 8, 0, 4, 15, 1, 4, 19, 2, 4, 23, 4, 4, 27], [(5, 39), (5, 40), (5, 41), (5, 42), (1, 1), (3, 15), (3, 95), (3, 96), (5, 38)]),
  (8, .i2l, 1, .null, [], []),
  (9, .lastore, 1, .null, [], []),
  (10, .goto 19, 3, .null, [29], []),
  (13, .astore 4, 2, .null, [], []),
  (15, .iconst 1, 1, .null, [], []),
  (16, .ireturn, 1, .null, [], []),
  (17, .astore 4, 2, .null, [], []),
  (19, .iconst 2, 1, .null, [], []),
  (20, .ireturn, 1, .null, [], []),
  (21, .astore 4, 2, .null, [], []),
  (23, .iconst 3, 1, .null, [], []),
  (24, .ireturn, 1, .null, [], []),
  (25, .astore 4, 2, .null, [], []),
  (27, .iconst 4, 1, .null, [], []),
  (28, .ireturn, 1, .null, [], []),
  (29, .iconst 0, 1, .null, [], []),
  (30, .ireturn, 1, .null, [], [])]
def e_m156 : e_MD := (⟨"HexCampaignLaw", "move", "(LHexCampaign;II[J)I"⟩, method_19_code, 5, (some .int), [(0, 10, 13, 13), (0, 10, 17, 15), (0, 10, 21, 17), (0, 10, 25, 78)], e_c156)
-- 157: HexCampaign$Game.attackersOn(I)I
set_option maxRecDepth 100000 in
def e_c157 : List e_I := [(0, .aload_n 0, 1, .null, [], []),
  (1, .getfield 21, 3, .null, [2, 1, 1], [(1, 115)]),
  (4, .iload_n 1, 1, .null, [], []),
  (5, .invokevirtual 87, 3, .null, [61, 1, 0, 0, 0, 1], [(5, 119), (3, 141), (3, 142), (3, 143), (1, 5)]),
  (8, .aload_n 0, 1, .null, [], []),
  (9, .getfield 21, 3, .null, [2, 1, 1], [(1, 115)]),
  (12, .aload_n 0, 1, .null, [], []),
  (13, .getfield 36, 3, .null, [2, 4, 0], [(1, 123)]),
  (16, .invokevirtual 90, 3, .null, [26, 1, 0, 0, 0, 1], [(2, 124), (2, 112), (2, 113), (2, 114), (1, 5)]),
  (19, .iand, 1, .null, [], []),
  (20, .aload_n 0, 1, .null, [], []),
  (21, .getfield 21, 3, .null, [2, 1, 1], [(1, 115)]),
  (24, .invokevirtual 79, 3, .null, [104, 0, 0, 0, 0, 1], [(4, 113), (4, 114), (4, 115), (4, 116), (1, 5)]),
  (27, .iconst (-1), 1, .null, [], []),
  (28, .ixor, 1, .null, [], []),
  (29, .iand, 1, .null, [], []),
  (30, .ireturn, 1, .null, [], [])]
def e_m157 : e_MD := (⟨"HexCampaign$Game", "attackersOn", "(I)I"⟩, prog_2_method_7_code, 2, (some .int), [], e_c157)
-- 158: HexCampaign$Game.defendersOn(I)I
set_option maxRecDepth 100000 in
def e_c158 : List e_I := [(0, .aload_n 0, 1, .null, [], []),
  (1, .getfield 21, 3, .null, [2, 1, 1], [(1, 115)]),
  (4, .iload_n 1, 1, .null, [], []),
  (5, .invokevirtual 87, 3, .null, [61, 1, 0, 0, 0, 1], [(5, 119), (3, 141), (3, 142), (3, 143), (1, 5)]),
  (8, .aload_n 0, 1, .null, [], []),
  (9, .getfield 21, 3, .null, [2, 1, 1], [(1, 115)]),
  (12, .iconst 1, 1, .null, [], []),
  (13, .aload_n 0, 1, .null, [], []),
  (14, .getfield 36, 3, .null, [2, 4, 0], [(1, 123)]),
  (17, .isub, 1, .null, [], []),
  (18, .invokevirtual 90, 3, .null, [26, 1, 0, 0, 0, 1], [(2, 124), (2, 112), (2, 113), (2, 114), (1, 5)]),
  (21, .iand, 1, .null, [], []),
  (22, .ireturn, 1, .null, [], [])]
def e_m158 : e_MD := (⟨"HexCampaign$Game", "defendersOn", "(I)I"⟩, prog_2_method_8_code, 2, (some .int), [], e_c158)
-- 159: HexCampaign.checkAttack(II)V
set_option maxRecDepth 100000 in
def e_c159 : List e_I := [(0, .iload_n 1, 1, .null, [], []),
  (1, .invokestatic 69, 3, .null, [60, 1, 0, 1, 6], [(3, 101), (3, 102), (1, 1), (3, 103)]),
  (4, .iload_n 2, 1, .null, [], []),
  (5, .invokestatic 69, 3, .null, [60, 1, 0, 1, 6], [(3, 101), (3, 102), (1, 1), (3, 103)]),
  (8, .iload_n 1, 1, .null, [], []),
  (9, .iload_n 2, 1, .null, [], []),
  (10, .invokestatic 143, 3, .null, [83, 2, 0, 0, 0], [(4, 4), (4, 5), (1, 20), (4, 6)]),
  (13, .iconst 1, 1, .null, [], []),
  (14, .if_icmp .eq 11, 3, .null, [25], []),
  (17, .new 72, 3, .null, [1, 1, 74], [(3, 125), (1, 19), (3, 134)]),
  (25, .aload_n 0, 1, .null, [], []),
  (26, .getfield 20, 3, .null, [8, 1, 1], [(2, 35)]),
  (29, .iload_n 1, 1, .null, [], []),
  (30, .invokevirtual 352, 3, .null, [157, 1, 0, 0, 0, 2], [(5, 115), (5, 116), (5, 117), (5, 118), (1, 3)]),
  (33, .ifCond .eq 14, 3, .null, [47], []),
  (36, .aload_n 0, 1, .null, [], []),
  (37, .getfield 20, 3, .null, [8, 1, 1], [(2, 35)]),
  (40, .iload_n 2, 1, .null, [], []),
  (41, .invokevirtual 355, 3, .null, [158, 1, 0, 0, 0, 2], [(5, 120), (5, 121), (5, 122), (5, 123), (1, 3)]),
  (44, .ifCond .ne 11, 3, .null, [55], []),
  (47, .new 140, 3, .null, [1, 3, 142], [(3, 222), (1, 24), (3, 231)]),
  (55, .return_, 1, .null, [], [])]
def e_m159 : e_MD := (⟨"HexCampaign", "checkAttack", "(II)V"⟩, prog_1_method_36_code, 3, none, [], e_c159)
-- 160: HexCampaign$Play.sumOfForces(IJ)I
set_option maxRecDepth 100000 in
def e_c160 : List e_I := [(0, .iconst 0, 1, .null, [], []),
  (1, .istore 4, 2, .null, [], []),
  (3, .iconst 0, 1, .null, [], []),
  (4, .istore 5, 2, .null, [], []),
  (6, .iload 5, 2, .null, [], []),
  (8, .bipush 16, 2, .null, [], []),
  (10, .if_icmp .ge 45, 3, .null, [55], []),
  (13, .iload_n 1, 1, .null, [], []),
  (14, .iload 5, 2, .null, [], []),
  (16, .invokestatic 105, 3, .null, [27, 2, 0, 0, 0], [(2, 213), (2, 130), (1, 5), (2, 131)]),
  (19, .ifCond .eq 30, 3, .null, [49], []),
  (22, .iload 4, 2, .null, [], []),
  (24, .aload_n 0, 1, .null, [], []),
  (25, .getfield 27, 3, .null, [4, 2, 1], [(1, 189)]),
  (28, .iload 5, 2, .null, [], []),
  (30, .lload_n 2, 1, .null, [], []),
  (31, .aload_n 0, 1, .null, [], []),
  (32, .getfield 27, 3, .null, [4, 2, 1], [(1, 189)]),
  (35, .iload 5, 2, .null, [], []),
  (37, .invokevirtual 83, 3, .null, [97, 1, 0, 0, 0, 1], [(4, 89), (4, 72), (4, 73), (4, 74), (1, 5)]),
  (40, .invokestatic 86, 3, .null, [46, 2, 0, 0, 0], [(4, 90), (2, 208), (1, 20), (2, 209)]),
  (43, .invokevirtual 108, 3, .null, [103, 2, 0, 0, 0, 1], [(5, 133), (4, 101), (4, 102), (4, 103), (1, 5)]),
  (46, .iadd, 1, .null, [], []),
  (47, .istore 4, 2, .null, [], []),
  (49, .iinc 5 1, 3, .null, [], []),
  (52, .goto (-46), 3, .null, [6], []),
  (55, .iload 4, 2, .null, [], []),
  (57, .ireturn, 1, .null, [], [])]
def e_m160 : e_MD := (⟨"HexCampaign$Play", "sumOfForces", "(IJ)I"⟩, prog_8_method_7_code, 6, (some .int), [], e_c160)
-- 161: HexCampaign$Land.coverAt(I)I
set_option maxRecDepth 100000 in
def e_c161 : List e_I := [(0, .getstatic 46, 3, .retAddr 13, [3], [(5, 138)]),
  (3, .aload_n 0, 1, .null, [], []),
  (4, .iload_n 1, 1, .null, [], []),
  (5, .invokevirtual 50, 3, .null, [62, 1, 0, 0, 0, 0], [(4, 135), (3, 161), (3, 162), (3, 163), (1, 4)]),
  (8, .invokestatic 54, 3, .null, [36, 2, 0, 0, 0], [(2, 176), (2, 177), (1, 10), (2, 178)]),
  (11, .ireturn, 1, .null, [], [])]
def e_m161 : e_MD := (⟨"HexCampaign$Land", "coverAt", "(I)I"⟩, prog_5_method_10_code, 2, (some .int), [], e_c161)
-- 162: HexCampaign$Play.defenseAt(I)I
set_option maxRecDepth 100000 in
def e_c162 : List e_I := [(0, .aload_n 0, 1, .null, [], []),
  (1, .aload_n 0, 1, .null, [], []),
  (2, .getfield 12, 3, .null, [4, 0, 1], [(1, 186)]),
  (5, .iload_n 1, 1, .null, [], []),
  (6, .invokevirtual 175, 3, .null, [158, 1, 0, 0, 0, 2], [(5, 128), (5, 121), (5, 122), (5, 123), (1, 3)]),
  (9, .aload_n 0, 1, .null, [], []),
  (10, .iconst 1, 1, .null, [], []),
  (11, .aload_n 0, 1, .null, [], []),
  (12, .getfield 12, 3, .null, [4, 0, 1], [(1, 186)]),
  (15, .getfield 172, 3, .null, [2, 4, 0], [(1, 125)]),
  (18, .isub, 1, .null, [], []),
  (19, .invokevirtual 71, 3, .null, [45, 1, 0, 0, 0, 4], [(2, 116), (2, 117), (2, 118), (2, 119), (1, 2)]),
  (22, .invokevirtual 101, 3, .null, [160, 2, 0, 0, 0, 4], [(5, 129), (5, 131), (0, 18), (5, 132), (1, 2)]),
  (25, .istore_n 2, 1, .null, [], []),
  (26, .iload_n 2, 1, .null, [], []),
  (27, .aload_n 0, 1, .null, [], []),
  (28, .getfield 22, 3, .null, [4, 1, 1], [(1, 188)]),
  (31, .iload_n 1, 1, .null, [], []),
  (32, .invokevirtual 178, 3, .null, [161, 1, 0, 0, 0, 0], [(5, 134), (5, 135), (5, 136), (5, 137), (1, 4)]),
  (35, .iadd, 1, .null, [], []),
  (36, .ireturn, 1, .null, [], [])]
def e_m162 : e_MD := (⟨"HexCampaign$Play", "defenseAt", "(I)I"⟩, prog_8_method_18_code, 3, (some .int), [], e_c162)
-- 163: HexCampaign$Play.attackFrom(I)I
set_option maxRecDepth 100000 in
def e_c163 : List e_I := [(0, .aload_n 0, 1, .null, [], []),
  (1, .aload_n 0, 1, .null, [], []),
  (2, .getfield 12, 3, .null, [4, 0, 1], [(1, 186)]),
  (5, .iload_n 1, 1, .null, [], []),
  (6, .invokevirtual 169, 3, .null, [157, 1, 0, 0, 0, 2], [(5, 144), (5, 116), (5, 117), (5, 118), (1, 3)]),
  (9, .aload_n 0, 1, .null, [], []),
  (10, .aload_n 0, 1, .null, [], []),
  (11, .getfield 12, 3, .null, [4, 0, 1], [(1, 186)]),
  (14, .getfield 172, 3, .null, [2, 4, 0], [(1, 125)]),
  (17, .invokevirtual 71, 3, .null, [45, 1, 0, 0, 0, 4], [(2, 116), (2, 117), (2, 118), (2, 119), (1, 2)]),
  (20, .invokevirtual 101, 3, .null, [160, 2, 0, 0, 0, 4], [(5, 129), (5, 131), (0, 18), (5, 132), (1, 2)]),
  (23, .istore_n 2, 1, .null, [], []),
  (24, .aload_n 0, 1, .null, [], []),
  (25, .getfield 12, 3, .null, [4, 0, 1], [(1, 186)]),
  (28, .getfield 48, 3, .null, [2, 2, 0], [(1, 119)]),
  (31, .iconst 1, 1, .null, [], []),
  (32, .if_icmp .ne 9, 3, .null, [41], []),
  (35, .iload_n 2, 1, .null, [], []),
  (36, .iconst 1, 1, .null, [], []),
  (37, .isub, 1, .null, [], []),
  (38, .goto 4, 3, .null, [42], []),
  (41, .iload_n 2, 1, .null, [], []),
  (42, .ireturn, 1, .null, [], [])]
def e_m163 : e_MD := (⟨"HexCampaign$Play", "attackFrom", "(I)I"⟩, prog_8_method_17_code, 3, (some .int), [], e_c163)
-- 164: HexCampaign.odds(IIZ)I
set_option maxRecDepth 100000 in
def e_c164 : List e_I := [(0, .aload_n 0, 1, .null, [], []),
  (1, .iload_n 1, 1, .null, [], []),
  (2, .iload_n 2, 1, .null, [], []),
  (3, .invokevirtual 256, 3, .null, [159, 2, 0, 4, 24, 8], [(5, 111), (5, 113), (0, 17), (5, 114), (1, 1)]),
  (6, .iload_n 3, 1, .null, [], []),
  (7, .ifCond .eq 14, 3, .null, [21], []),
  (10, .aload_n 0, 1, .null, [], []),
  (11, .getfield 10, 3, .null, [8, 0, 1], [(2, 34)]),
  (14, .iload_n 2, 1, .null, [], []),
  (15, .invokevirtual 260, 3, .null, [162, 1, 0, 0, 0, 4], [(5, 124), (5, 125), (5, 126), (5, 127), (1, 2)]),
  (18, .goto 11, 3, .null, [29], []),
  (21, .aload_n 0, 1, .null, [], []),
  (22, .getfield 10, 3, .null, [8, 0, 1], [(2, 34)]),
  (25, .iload_n 1, 1, .null, [], []),
  (26, .invokevirtual 263, 3, .null, [163, 1, 0, 0, 0, 4], [(5, 140), (5, 141), (5, 142), (5, 143), (1, 2)]),
  (29, .ireturn, 1, .null, [], [])]
def e_m164 : e_MD := (⟨"HexCampaign", "odds", "(IIZ)I"⟩, prog_1_method_20_code, 4, (some .int), [], e_c164)
-- 165: HexCampaignLaw.odds(LHexCampaign;IIZ[J)I
set_option maxRecDepth 100000 in
def e_c165 : List e_I := [(0, .aload 4, 2, .null, [], []),
  (2, .iconst 0, 1, .null, [], []),
  (3, .aload_n 0, 1, .null, [], []),
  (4, .iload_n 1, 1, .null, [], []),
  (5, .iload_n 2, 1, .null, [], []),
  (6, .iload_n 3, 1, .null, [], []),
  (7, .invokevirtual 80, 3, .null, [164, 3, 0, 4, 24, 8, 0, 5, 17, 1, 5, 21, 3, 5, 25], [(5, 107), (5, 108), (5, 109), (5, 110), (1, 1), (3, 15), (3, 95), (3, 211)]),
  (10, .i2l, 1, .null, [], []),
  (11, .lastore, 1, .null, [], []),
  (12, .goto 15, 3, .null, [27], []),
  (15, .astore 5, 2, .null, [], []),
  (17, .iconst 1, 1, .null, [], []),
  (18, .ireturn, 1, .null, [], []),
  (19, .astore 5, 2, .null, [], []),
  (21, .iconst 2, 1, .null, [], []),
  (22, .ireturn, 1, .null, [], []),
  (23, .astore 5, 2, .null, [], []),
  (25, .iconst 3, 1, .null, [], []),
  (26, .ireturn, 1, .null, [], []),
  (27, .iconst 0, 1, .null, [], []),
  (28, .ireturn, 1, .null, [], [])]
def e_m165 : e_MD := (⟨"HexCampaignLaw", "odds", "(LHexCampaign;IIZ[J)I"⟩, method_20_code, 6, (some .int), [(0, 12, 15, 13), (0, 12, 19, 15), (0, 12, 23, 34)], e_c165)
-- 166: HexCampaign$Units.noteAttack(I)V
set_option maxRecDepth 100000 in
def e_c166 : List e_I := [(0, .aload_n 0, 1, .null, [], []),
  (1, .dup, 1, .null, [], []),
  (2, .getfield 55, 3, .null, [1, 4, 0], [(1, 78)]),
  (5, .iload_n 1, 1, .null, [], []),
  (6, .ior, 1, .null, [], []),
  (7, .putfield 55, 3, .null, [1, 4, 0, 0], [(1, 78)]),
  (10, .return_, 1, .null, [], [])]
def e_m166 : e_MD := (⟨"HexCampaign$Units", "noteAttack", "(I)V"⟩, prog_11_method_35_code, 2, none, [], e_c166)
-- 167: HexCampaign$Units.loseInAttack(II)V
set_option maxRecDepth 100000 in
def e_c167 : List e_I := [(0, .aload_n 0, 1, .null, [], []),
  (1, .getfield 24, 3, .null, [1, 9, 1], [(1, 83)]),
  (4, .aload_n 0, 1, .null, [], []),
  (5, .iload_n 1, 1, .null, [], []),
  (6, .invokevirtual 97, 3, .null, [49, 1, 0, 0, 0, 1], [(2, 218), (2, 219), (2, 220), (2, 221), (1, 5)]),
  (9, .aload_n 0, 1, .null, [], []),
  (10, .iload_n 1, 1, .null, [], []),
  (11, .iload_n 2, 1, .null, [], []),
  (12, .invokevirtual 120, 3, .null, [53, 2, 0, 0, 0, 1], [(2, 222), (2, 224), (0, 3), (2, 225), (1, 5)]),
  (15, .invokestatic 117, 3, .null, [52, 3, 0, 0, 0], [(2, 234), (2, 235), (1, 10), (2, 236)]),
  (18, .return_, 1, .null, [], [])]
def e_m167 : e_MD := (⟨"HexCampaign$Units", "loseInAttack", "(II)V"⟩, prog_11_method_36_code, 3, none, [], e_c167)
-- 168: HexCampaign$Play.loseEach(I)V
set_option maxRecDepth 100000 in
def e_c168 : List e_I := [(0, .iconst 0, 1, .null, [], []),
  (1, .istore_n 2, 1, .null, [], []),
  (2, .iload_n 2, 1, .null, [], []),
  (3, .bipush 16, 2, .null, [], []),
  (5, .if_icmp .ge 26, 3, .null, [31], []),
  (8, .iload_n 1, 1, .null, [], []),
  (9, .iload_n 2, 1, .null, [], []),
  (10, .invokestatic 105, 3, .null, [27, 2, 0, 0, 0], [(2, 213), (2, 130), (1, 5), (2, 131)]),
  (13, .ifCond .eq 12, 3, .null, [25], []),
  (16, .aload_n 0, 1, .null, [], []),
  (17, .getfield 27, 3, .null, [4, 2, 1], [(1, 189)]),
  (20, .iload_n 2, 1, .null, [], []),
  (21, .iconst 1, 1, .null, [], []),
  (22, .invokevirtual 202, 3, .null, [167, 2, 0, 0, 0, 1], [(5, 166), (5, 167), (5, 168), (5, 169), (1, 5)]),
  (25, .iinc 2 1, 3, .null, [], []),
  (28, .goto (-26), 3, .null, [2], []),
  (31, .return_, 1, .null, [], [])]
def e_m168 : e_MD := (⟨"HexCampaign$Play", "loseEach", "(I)V"⟩, prog_8_method_20_code, 3, none, [], e_c168)
-- 169: HexCampaign$Land.stepCost(III)I
set_option maxRecDepth 100000 in
def e_c169 : List e_I := [(0, .aload_n 0, 1, .null, [], []),
  (1, .getfield 22, 3, .null, [0, 2, 0], [(1, 59)]),
  (4, .iload_n 1, 1, .null, [], []),
  (5, .invokestatic 32, 3, .null, [46, 2, 0, 0, 0], [(3, 164), (2, 208), (1, 20), (2, 209)]),
  (8, .ifCond .eq 18, 3, .null, [26], []),
  (11, .aload_n 0, 1, .null, [], []),
  (12, .getfield 22, 3, .null, [0, 2, 0], [(1, 59)]),
  (15, .iload_n 2, 1, .null, [], []),
  (16, .invokestatic 32, 3, .null, [46, 2, 0, 0, 0], [(3, 164), (2, 208), (1, 20), (2, 209)]),
  (19, .ifCond .eq 7, 3, .null, [26], []),
  (22, .iconst 1, 1, .null, [], []),
  (23, .goto 4, 3, .null, [27], []),
  (26, .iconst 0, 1, .null, [], []),
  (27, .istore 4, 2, .null, [], []),
  (29, .iload 4, 2, .null, [], []),
  (31, .ifCond .eq 7, 3, .null, [38], []),
  (34, .iconst 1, 1, .null, [], []),
  (35, .goto 12, 3, .null, [47], []),
  (38, .aload_n 0, 1, .null, [], []),
  (39, .iload_n 2, 1, .null, [], []),
  (40, .invokevirtual 50, 3, .null, [62, 1, 0, 0, 0, 0], [(4, 135), (3, 161), (3, 162), (3, 163), (1, 4)]),
  (43, .iload_n 3, 1, .null, [], []),
  (44, .invokestatic 61, 3, .null, [37, 2, 0, 0, 0], [(2, 171), (2, 172), (1, 4), (2, 173)]),
  (47, .ireturn, 1, .null, [], [])]
def e_m169 : e_MD := (⟨"HexCampaign$Land", "stepCost", "(III)I"⟩, prog_5_method_14_code, 5, (some .int), [], e_c169)
-- 170: HexCampaign$Play.isBetterRefuge(IIII)Z
set_option maxRecDepth 100000 in
def e_c170 : List e_I := [(0, .iload_n 2, 1, .null, [], []),
  (1, .iload_n 3, 1, .null, [], []),
  (2, .invokestatic 221, 3, .null, [83, 2, 0, 0, 0], [(5, 185), (4, 5), (1, 20), (4, 6)]),
  (5, .iload_n 2, 1, .null, [], []),
  (6, .iload 4, 2, .null, [], []),
  (8, .invokestatic 221, 3, .null, [83, 2, 0, 0, 0], [(5, 185), (4, 5), (1, 20), (4, 6)]),
  (11, .isub, 1, .null, [], []),
  (12, .istore 5, 2, .null, [], []),
  (14, .iload 5, 2, .null, [], []),
  (16, .ifCond .eq 14, 3, .null, [30], []),
  (19, .iload 5, 2, .null, [], []),
  (21, .ifCond .le 7, 3, .null, [28], []),
  (24, .iconst 1, 1, .null, [], []),
  (25, .goto 4, 3, .null, [29], []),
  (28, .iconst 0, 1, .null, [], []),
  (29, .ireturn, 1, .null, [], []),
  (30, .aload_n 0, 1, .null, [], []),
  (31, .getfield 27, 3, .null, [4, 2, 1], [(1, 189)]),
  (34, .iload_n 1, 1, .null, [], []),
  (35, .invokevirtual 83, 3, .null, [97, 1, 0, 0, 0, 1], [(4, 89), (4, 72), (4, 73), (4, 74), (1, 5)]),
  (38, .istore 6, 2, .null, [], []),
  (40, .aload_n 0, 1, .null, [], []),
  (41, .getfield 22, 3, .null, [4, 1, 1], [(1, 188)]),
  (44, .iload 6, 2, .null, [], []),
  (46, .iload_n 3, 1, .null, [], []),
  (47, .aload_n 0, 1, .null, [], []),
  (48, .getfield 12, 3, .null, [4, 0, 1], [(1, 186)]),
  (51, .getfield 48, 3, .null, [2, 2, 0], [(1, 119)]),
  (54, .invokevirtual 224, 3, .null, [169, 3, 0, 0, 0, 0], [(5, 186), (5, 187), (5, 188), (5, 189), (1, 4)]),
  (57, .aload_n 0, 1, .null, [], []),
  (58, .getfield 22, 3, .null, [4, 1, 1], [(1, 188)]),
  (61, .iload 6, 2, .null, [], []),
  (63, .iload 4, 2, .null, [], []),
  (65, .aload_n 0, 1, .null, [], []),
  (66, .getfield 12, 3, .null, [4, 0, 1], [(1, 186)]),
  (69, .getfield 48, 3, .null, [2, 2, 0], [(1, 119)]),
  (72, .invokevirtual 224, 3, .null, [169, 3, 0, 0, 0, 0], [(5, 186), (5, 187), (5, 188), (5, 189), (1, 4)]),
  (75, .isub, 1, .null, [], []),
  (76, .istore 7, 2, .null, [], []),
  (78, .iload 7, 2, .null, [], []),
  (80, .ifCond .eq 16, 3, .null, [96], []),
  (83, .iload 7, 2, .null, [], []),
  (85, .ifCond .ge 7, 3, .null, [92], []),
  (88, .iconst 1, 1, .null, [], []),
  (89, .goto 18, 3, .null, [107], []),
  (92, .iconst 0, 1, .null, [], []),
  (93, .goto 14, 3, .null, [107], []),
  (96, .iload_n 3, 1, .null, [], []),
  (97, .iload 4, 2, .null, [], []),
  (99, .if_icmp .ge 7, 3, .null, [106], []),
  (102, .iconst 1, 1, .null, [], []),
  (103, .goto 4, 3, .null, [107], []),
  (106, .iconst 0, 1, .null, [], []),
  (107, .ireturn, 1, .null, [], [])]
def e_m170 : e_MD := (⟨"HexCampaign$Play", "isBetterRefuge", "(IIII)Z"⟩, prog_8_method_23_code, 8, (some .boolean), [], e_c170)
-- 171: HexCampaign$Play.refugeOf(II)I
set_option maxRecDepth 100000 in
def e_c171 : List e_I := [(0, .aload_n 0, 1, .null, [], []),
  (1, .getfield 27, 3, .null, [4, 2, 1], [(1, 189)]),
  (4, .iload_n 1, 1, .null, [], []),
  (5, .invokevirtual 78, 3, .null, [49, 1, 0, 0, 0, 1], [(4, 88), (2, 219), (2, 220), (2, 221), (1, 5)]),
  (8, .istore_n 3, 1, .null, [], []),
  (9, .aload_n 0, 1, .null, [], []),
  (10, .getfield 27, 3, .null, [4, 2, 1], [(1, 189)]),
  (13, .aload_n 0, 1, .null, [], []),
  (14, .getfield 27, 3, .null, [4, 2, 1], [(1, 189)]),
  (17, .iload_n 3, 1, .null, [], []),
  (18, .invokevirtual 98, 3, .null, [26, 1, 0, 0, 0, 1], [(2, 111), (2, 112), (2, 113), (2, 114), (1, 5)]),
  (21, .invokevirtual 117, 3, .null, [29, 1, 0, 0, 0, 1], [(4, 210), (2, 126), (2, 127), (2, 128), (1, 5)]),
  (24, .lstore 4, 2, .null, [], []),
  (26, .aload_n 0, 1, .null, [], []),
  (27, .getfield 22, 3, .null, [4, 1, 1], [(1, 188)]),
  (30, .invokevirtual 124, 3, .null, [31, 0, 0, 0, 0, 0], [(4, 212), (2, 136), (2, 137), (2, 138), (1, 4)]),
  (33, .ldc2_w 42, 3, .long (-1), [], [(2, 157)]),
  (36, .lxor, 1, .null, [], []),
  (37, .aload_n 0, 1, .null, [], []),
  (38, .getfield 12, 3, .null, [4, 0, 1], [(1, 186)]),
  (41, .iconst 1, 1, .null, [], []),
  (42, .iload_n 3, 1, .null, [], []),
  (43, .isub, 1, .null, [], []),
  (44, .invokevirtual 211, 3, .null, [117, 1, 0, 0, 0, 2], [(5, 179), (4, 164), (4, 165), (4, 166), (1, 3)]),
  (47, .ldc2_w 42, 3, .long (-1), [], [(2, 157)]),
  (50, .lxor, 1, .null, [], []),
  (51, .lload 4, 2, .null, [], []),
  (53, .lor, 1, .null, [], []),
  (54, .land, 1, .null, [], []),
  (55, .lstore 6, 2, .null, [], []),
  (57, .iconst (-1), 1, .null, [], []),
  (58, .istore 8, 2, .null, [], []),
  (60, .iconst 0, 1, .null, [], []),
  (61, .istore 9, 2, .null, [], []),
  (63, .iload 9, 2, .null, [], []),
  (65, .bipush 6, 2, .null, [], []),
  (67, .if_icmp .ge 95, 3, .null, [162], []),
  (70, .aload_n 0, 1, .null, [], []),
  (71, .getfield 27, 3, .null, [4, 2, 1], [(1, 189)]),
  (74, .iload_n 1, 1, .null, [], []),
  (75, .invokevirtual 83, 3, .null, [97, 1, 0, 0, 0, 1], [(4, 89), (4, 72), (4, 73), (4, 74), (1, 5)]),
  (78, .iload 9, 2, .null, [], []),
  (80, .invokestatic 214, 3, .null, [77, 2, 0, 0, 0], [(5, 180), (3, 217), (1, 20), (3, 218)]),
  (83, .istore 10, 2, .null, [], []),
  (85, .iload 10, 2, .null, [], []),
  (87, .iconst (-1), 1, .null, [], []),
  (88, .if_icmp .eq 37, 3, .null, [125], []),
  (91, .lload 6, 2, .null, [], []),
  (93, .iload 10, 2, .null, [], []),
  (95, .invokestatic 86, 3, .null, [46, 2, 0, 0, 0], [(4, 90), (2, 208), (1, 20), (2, 209)]),
  (98, .ifCond .eq 27, 3, .null, [125], []),
  (101, .aload_n 0, 1, .null, [], []),
  (102, .getfield 27, 3, .null, [4, 2, 1], [(1, 189)]),
  (105, .iload_n 1, 1, .null, [], []),
  (106, .iload 10, 2, .null, [], []),
  (108, .aload_n 0, 1, .null, [], []),
  (109, .getfield 27, 3, .null, [4, 2, 1], [(1, 189)]),
  (112, .invokevirtual 166, 3, .null, [90, 0, 0, 0, 0, 1], [(5, 95), (4, 42), (4, 43), (4, 44), (1, 5)]),
  (115, .invokevirtual 142, 3, .null, [128, 3, 0, 0, 0, 1], [(4, 217), (4, 218), (4, 219), (4, 220), (1, 5)]),
  (118, .ifCond .eq 7, 3, .null, [125], []),
  (121, .iconst 1, 1, .null, [], []),
  (122, .goto 4, 3, .null, [126], []),
  (125, .iconst 0, 1, .null, [], []),
  (126, .istore 11, 2, .null, [], []),
  (128, .iload 11, 2, .null, [], []),
  (130, .ifCond .eq 26, 3, .null, [156], []),
  (133, .iload 8, 2, .null, [], []),
  (135, .iconst (-1), 1, .null, [], []),
  (136, .if_icmp .eq 16, 3, .null, [152], []),
  (139, .aload_n 0, 1, .null, [], []),
  (140, .iload_n 1, 1, .null, [], []),
  (141, .iload_n 2, 1, .null, [], []),
  (142, .iload 10, 2, .null, [], []),
  (144, .iload 8, 2, .null, [], []),
  (146, .invokevirtual 217, 3, .null, [170, 4, 0, 0, 0, 4], [(5, 181), (5, 183), (0, 22), (5, 184), (1, 2)]),
  (149, .ifCond .eq 7, 3, .null, [156], []),
  (152, .iload 10, 2, .null, [], []),
  (154, .istore 8, 2, .null, [], []),
  (156, .iinc 9 1, 3, .null, [], []),
  (159, .goto (-96), 3, .null, [63], []),
  (162, .iload 8, 2, .null, [], []),
  (164, .ireturn, 1, .null, [], [])]
def e_m171 : e_MD := (⟨"HexCampaign$Play", "refugeOf", "(II)I"⟩, prog_8_method_22_code, 12, (some .int), [], e_c171)
-- 172: HexCampaign$Play.retreatEach(II)V
set_option maxRecDepth 100000 in
def e_c172 : List e_I := [(0, .iconst 0, 1, .null, [], []),
  (1, .istore_n 3, 1, .null, [], []),
  (2, .iload_n 3, 1, .null, [], []),
  (3, .bipush 16, 2, .null, [], []),
  (5, .if_icmp .ge 64, 3, .null, [69], []),
  (8, .iload_n 1, 1, .null, [], []),
  (9, .iload_n 3, 1, .null, [], []),
  (10, .invokestatic 105, 3, .null, [27, 2, 0, 0, 0], [(2, 213), (2, 130), (1, 5), (2, 131)]),
  (13, .ifCond .eq 50, 3, .null, [63], []),
  (16, .aload_n 0, 1, .null, [], []),
  (17, .getfield 27, 3, .null, [4, 2, 1], [(1, 189)]),
  (20, .iload_n 3, 1, .null, [], []),
  (21, .invokevirtual 205, 3, .null, [95, 1, 0, 0, 0, 1], [(5, 174), (4, 67), (4, 68), (4, 69), (1, 5)]),
  (24, .ifCond .eq 39, 3, .null, [63], []),
  (27, .aload_n 0, 1, .null, [], []),
  (28, .iload_n 3, 1, .null, [], []),
  (29, .iload_n 2, 1, .null, [], []),
  (30, .invokevirtual 208, 3, .null, [171, 2, 0, 0, 0, 4], [(5, 175), (5, 177), (0, 21), (5, 178), (1, 2)]),
  (33, .istore 4, 2, .null, [], []),
  (35, .iload 4, 2, .null, [], []),
  (37, .iconst (-1), 1, .null, [], []),
  (38, .if_icmp .ne 15, 3, .null, [53], []),
  (41, .aload_n 0, 1, .null, [], []),
  (42, .getfield 27, 3, .null, [4, 2, 1], [(1, 189)]),
  (45, .iload_n 3, 1, .null, [], []),
  (46, .iconst 2, 1, .null, [], []),
  (47, .invokevirtual 202, 3, .null, [167, 2, 0, 0, 0, 1], [(5, 166), (5, 167), (5, 168), (5, 169), (1, 5)]),
  (50, .goto 13, 3, .null, [63], []),
  (53, .aload_n 0, 1, .null, [], []),
  (54, .getfield 27, 3, .null, [4, 2, 1], [(1, 189)]),
  (57, .iload_n 3, 1, .null, [], []),
  (58, .iload 4, 2, .null, [], []),
  (60, .invokevirtual 156, 3, .null, [153, 2, 0, 0, 0, 1], [(5, 100), (5, 101), (5, 102), (5, 103), (1, 5)]),
  (63, .iinc 3 1, 3, .null, [], []),
  (66, .goto (-64), 3, .null, [2], []),
  (69, .return_, 1, .null, [], [])]
def e_m172 : e_MD := (⟨"HexCampaign$Play", "retreatEach", "(II)V"⟩, prog_8_method_21_code, 5, none, [], e_c172)
-- 173: HexCampaign$Units.lowest(I)I
set_option maxRecDepth 100000 in
def e_c173 : List e_I := [(0, .iconst 0, 1, .null, [], []),
  (1, .istore_n 1, 1, .null, [], []),
  (2, .iload_n 1, 1, .null, [], []),
  (3, .bipush 16, 2, .null, [], []),
  (5, .if_icmp .ge 19, 3, .null, [24], []),
  (8, .iload_n 0, 1, .null, [], []),
  (9, .iload_n 1, 1, .null, [], []),
  (10, .invokestatic 62, 3, .null, [27, 2, 0, 0, 0], [(2, 129), (2, 130), (1, 5), (2, 131)]),
  (13, .ifCond .eq 5, 3, .null, [18], []),
  (16, .iload_n 1, 1, .null, [], []),
  (17, .ireturn, 1, .null, [], []),
  (18, .iinc 1 1, 3, .null, [], []),
  (21, .goto (-19), 3, .null, [2], []),
  (24, .iconst (-1), 1, .null, [], []),
  (25, .ireturn, 1, .null, [], [])]
def e_m173 : e_MD := (⟨"HexCampaign$Units", "lowest", "(I)I"⟩, prog_11_method_7_code, 2, (some .int), [], e_c173)
-- 174: HexCampaign$Play.fight(II)I
set_option maxRecDepth 100000 in
def e_c174 : List e_I := [(0, .aload_n 0, 1, .null, [], []),
  (1, .getfield 12, 3, .null, [4, 0, 1], [(1, 186)]),
  (4, .iload_n 1, 1, .null, [], []),
  (5, .invokevirtual 169, 3, .null, [157, 1, 0, 0, 0, 2], [(5, 144), (5, 116), (5, 117), (5, 118), (1, 3)]),
  (8, .istore_n 3, 1, .null, [], []),
  (9, .aload_n 0, 1, .null, [], []),
  (10, .getfield 12, 3, .null, [4, 0, 1], [(1, 186)]),
  (13, .iload_n 2, 1, .null, [], []),
  (14, .invokevirtual 175, 3, .null, [158, 1, 0, 0, 0, 2], [(5, 128), (5, 121), (5, 122), (5, 123), (1, 3)]),
  (17, .istore 4, 2, .null, [], []),
  (19, .aload_n 0, 1, .null, [], []),
  (20, .iload_n 1, 1, .null, [], []),
  (21, .invokevirtual 181, 3, .null, [163, 1, 0, 0, 0, 4], [(5, 156), (5, 141), (5, 142), (5, 143), (1, 2)]),
  (24, .istore 5, 2, .null, [], []),
  (26, .aload_n 0, 1, .null, [], []),
  (27, .iload_n 2, 1, .null, [], []),
  (28, .invokevirtual 184, 3, .null, [162, 1, 0, 0, 0, 4], [(5, 157), (5, 125), (5, 126), (5, 127), (1, 2)]),
  (31, .istore 6, 2, .null, [], []),
  (33, .aload_n 0, 1, .null, [], []),
  (34, .getfield 12, 3, .null, [4, 0, 1], [(1, 186)]),
  (37, .dup, 1, .null, [], []),
  (38, .getfield 187, 3, .null, [2, 7, 0], [(1, 134)]),
  (41, .iconst 1, 1, .null, [], []),
  (42, .iadd, 1, .null, [], []),
  (43, .putfield 187, 3, .null, [2, 7, 0, 0], [(1, 134)]),
  (46, .aload_n 0, 1, .null, [], []),
  (47, .getfield 27, 3, .null, [4, 2, 1], [(1, 189)]),
  (50, .iload_n 3, 1, .null, [], []),
  (51, .invokevirtual 190, 3, .null, [166, 1, 0, 0, 0, 1], [(5, 158), (5, 159), (5, 160), (5, 161), (1, 5)]),
  (54, .iload 5, 2, .null, [], []),
  (56, .iconst 2, 1, .null, [], []),
  (57, .iload 6, 2, .null, [], []),
  (59, .imul, 1, .null, [], []),
  (60, .if_icmp .lt 18, 3, .null, [78], []),
  (63, .aload_n 0, 1, .null, [], []),
  (64, .iload 4, 2, .null, [], []),
  (66, .invokevirtual 193, 3, .null, [168, 1, 0, 0, 0, 4], [(5, 162), (5, 164), (0, 19), (5, 165), (1, 2)]),
  (69, .aload_n 0, 1, .null, [], []),
  (70, .iload 4, 2, .null, [], []),
  (72, .iload_n 1, 1, .null, [], []),
  (73, .invokevirtual 196, 3, .null, [172, 2, 0, 0, 0, 4], [(5, 170), (5, 172), (0, 20), (5, 173), (1, 2)]),
  (76, .iconst 2, 1, .null, [], []),
  (77, .ireturn, 1, .null, [], []),
  (78, .iload 5, 2, .null, [], []),
  (80, .iload 6, 2, .null, [], []),
  (82, .if_icmp .le 30, 3, .null, [112], []),
  (85, .aload_n 0, 1, .null, [], []),
  (86, .getfield 27, 3, .null, [4, 2, 1], [(1, 189)]),
  (89, .iload_n 3, 1, .null, [], []),
  (90, .invokestatic 199, 3, .null, [173, 1, 0, 0, 0], [(5, 190), (5, 191), (1, 5), (5, 192)]),
  (93, .iconst 1, 1, .null, [], []),
  (94, .invokevirtual 202, 3, .null, [167, 2, 0, 0, 0, 1], [(5, 166), (5, 167), (5, 168), (5, 169), (1, 5)]),
  (97, .aload_n 0, 1, .null, [], []),
  (98, .getfield 27, 3, .null, [4, 2, 1], [(1, 189)]),
  (101, .iload 4, 2, .null, [], []),
  (103, .invokestatic 199, 3, .null, [173, 1, 0, 0, 0], [(5, 190), (5, 191), (1, 5), (5, 192)]),
  (106, .iconst 1, 1, .null, [], []),
  (107, .invokevirtual 202, 3, .null, [167, 2, 0, 0, 0, 1], [(5, 166), (5, 167), (5, 168), (5, 169), (1, 5)]),
  (110, .iconst 1, 1, .null, [], []),
  (111, .ireturn, 1, .null, [], []),
  (112, .aload_n 0, 1, .null, [], []),
  (113, .iload_n 3, 1, .null, [], []),
  (114, .invokevirtual 193, 3, .null, [168, 1, 0, 0, 0, 4], [(5, 162), (5, 164), (0, 19), (5, 165), (1, 2)]),
  (117, .iconst 0, 1, .null, [], []),
  (118, .ireturn, 1, .null, [], [])]
def e_m174 : e_MD := (⟨"HexCampaign$Play", "fight", "(II)I"⟩, prog_8_method_19_code, 7, (some .int), [], e_c174)
-- 175: HexCampaign.attack(II)I
set_option maxRecDepth 100000 in
def e_c175 : List e_I := [(0, .aload_n 0, 1, .null, [], []),
  (1, .iload_n 1, 1, .null, [], []),
  (2, .iload_n 2, 1, .null, [], []),
  (3, .invokevirtual 256, 3, .null, [159, 2, 0, 4, 24, 8], [(5, 111), (5, 113), (0, 17), (5, 114), (1, 1)]),
  (6, .aload_n 0, 1, .null, [], []),
  (7, .getfield 34, 3, .null, [8, 4, 1], [(2, 38)]),
  (10, .aload_n 0, 1, .null, [], []),
  (11, .getfield 20, 3, .null, [8, 1, 1], [(2, 35)]),
  (14, .invokevirtual 91, 3, .null, [25, 1, 0, 0, 0, 5], [(2, 78), (2, 79), (2, 80), (2, 81), (1, 7)]),
  (17, .aload_n 0, 1, .null, [], []),
  (18, .getfield 10, 3, .null, [8, 0, 1], [(2, 34)]),
  (21, .iload_n 1, 1, .null, [], []),
  (22, .iload_n 2, 1, .null, [], []),
  (23, .invokevirtual 266, 3, .null, [174, 2, 0, 0, 0, 4], [(5, 152), (5, 153), (5, 154), (5, 155), (1, 2)]),
  (26, .ireturn, 1, .null, [], [])]
def e_m175 : e_MD := (⟨"HexCampaign", "attack", "(II)I"⟩, prog_1_method_21_code, 3, (some .int), [], e_c175)
-- 176: HexCampaignLaw.attack(LHexCampaign;II[J)I
set_option maxRecDepth 100000 in
def e_c176 : List e_I := [(0, .aload_n 3, 1, .null, [], []),
  (1, .iconst 0, 1, .null, [], []),
  (2, .aload_n 0, 1, .null, [], []),
  (3, .iload_n 1, 1, .null, [], []),
  (4, .iload_n 2, 1, .null, [], []),
  (5, .invokevirtual 83, 3, .null, [175, 2, 0, 4, 24, 8, 0, 4, 15, 1, 4, 19, 3, 4, 23], [(5, 148), (5, 149), (5, 150), (5, 151), (1, 1), (3, 15), (3, 95), (3, 211)]),
  (8, .i2l, 1, .null, [], []),
  (9, .lastore, 1, .null, [], []),
  (10, .goto 15, 3, .null, [25], []),
  (13, .astore 4, 2, .null, [], []),
  (15, .iconst 1, 1, .null, [], []),
  (16, .ireturn, 1, .null, [], []),
  (17, .astore 4, 2, .null, [], []),
  (19, .iconst 2, 1, .null, [], []),
  (20, .ireturn, 1, .null, [], []),
  (21, .astore 4, 2, .null, [], []),
  (23, .iconst 3, 1, .null, [], []),
  (24, .ireturn, 1, .null, [], []),
  (25, .iconst 0, 1, .null, [], []),
  (26, .ireturn, 1, .null, [], [])]
def e_m176 : e_MD := (⟨"HexCampaignLaw", "attack", "(LHexCampaign;II[J)I"⟩, method_21_code, 5, (some .int), [(0, 10, 13, 13), (0, 10, 17, 15), (0, 10, 21, 34)], e_c176)
-- 177: HexCampaign$Units.addedBy(I)I
set_option maxRecDepth 100000 in
def e_c177 : List e_I := [(0, .aload_n 0, 1, .null, [], []),
  (1, .getfield 21, 3, .null, [1, 8, 1], [(1, 82)]),
  (4, .iload_n 1, 1, .null, [], []),
  (5, .invokestatic 72, 3, .null, [36, 2, 0, 0, 0], [(2, 230), (2, 177), (1, 10), (2, 178)]),
  (8, .ireturn, 1, .null, [], [])]
def e_m177 : e_MD := (⟨"HexCampaign$Units", "addedBy", "(I)I"⟩, prog_11_method_17_code, 2, (some .int), [], e_c177)
-- 178: HexCampaign$Units.lostInAttacksBy(I)I
set_option maxRecDepth 100000 in
def e_c178 : List e_I := [(0, .aload_n 0, 1, .null, [], []),
  (1, .getfield 24, 3, .null, [1, 9, 1], [(1, 83)]),
  (4, .iload_n 1, 1, .null, [], []),
  (5, .invokestatic 72, 3, .null, [36, 2, 0, 0, 0], [(2, 230), (2, 177), (1, 10), (2, 178)]),
  (8, .ireturn, 1, .null, [], [])]
def e_m178 : e_MD := (⟨"HexCampaign$Units", "lostInAttacksBy", "(I)I"⟩, prog_11_method_18_code, 2, (some .int), [], e_c178)
-- 179: HexCampaign$Units.lostUnsuppliedBy(I)I
set_option maxRecDepth 100000 in
def e_c179 : List e_I := [(0, .aload_n 0, 1, .null, [], []),
  (1, .getfield 27, 3, .null, [1, 10, 1], [(1, 84)]),
  (4, .iload_n 1, 1, .null, [], []),
  (5, .invokestatic 72, 3, .null, [36, 2, 0, 0, 0], [(2, 230), (2, 177), (1, 10), (2, 178)]),
  (8, .ireturn, 1, .null, [], [])]
def e_m179 : e_MD := (⟨"HexCampaign$Units", "lostUnsuppliedBy", "(I)I"⟩, prog_11_method_19_code, 2, (some .int), [], e_c179)
-- 180: HexCampaign$Units.removedFrom(I)I
set_option maxRecDepth 100000 in
def e_c180 : List e_I := [(0, .aload_n 0, 1, .null, [], []),
  (1, .getfield 30, 3, .null, [1, 11, 1], [(1, 85)]),
  (4, .iload_n 1, 1, .null, [], []),
  (5, .invokestatic 72, 3, .null, [36, 2, 0, 0, 0], [(2, 230), (2, 177), (1, 10), (2, 178)]),
  (8, .ireturn, 1, .null, [], [])]
def e_m180 : e_MD := (⟨"HexCampaign$Units", "removedFrom", "(I)I"⟩, prog_11_method_20_code, 2, (some .int), [], e_c180)
-- 181: HexCampaign.account(II)I
set_option maxRecDepth 100000 in
def e_c181 : List e_I := [(0, .iload_n 1, 1, .null, [], []),
  (1, .invokestatic 99, 3, .null, [66, 1, 0, 1, 6], [(3, 177), (3, 178), (1, 1), (3, 179)]),
  (4, .aload_n 0, 1, .null, [], []),
  (5, .getfield 20, 3, .null, [8, 1, 1], [(2, 35)]),
  (8, .getfield 56, 3, .null, [2, 1, 1], [(1, 117)]),
  (11, .iload_n 1, 1, .null, [], []),
  (12, .invokevirtual 272, 3, .null, [26, 1, 0, 0, 0, 1], [(5, 62), (2, 112), (2, 113), (2, 114), (1, 5)]),
  (15, .istore_n 3, 1, .null, [], []),
  (16, .iload_n 2, 1, .null, [], []),
  (17, .tableswitch 104 0 5 #[39, 51, 63, 75, 87, 92], 39, .null, [121, 56, 68, 80, 92, 104, 109], []),
  (56, .aload_n 0, 1, .null, [], []),
  (57, .getfield 20, 3, .null, [8, 1, 1], [(2, 35)]),
  (60, .getfield 56, 3, .null, [2, 1, 1], [(1, 117)]),
  (63, .iload_n 1, 1, .null, [], []),
  (64, .invokevirtual 275, 3, .null, [177, 1, 0, 0, 0, 1], [(5, 200), (5, 201), (5, 202), (5, 203), (1, 5)]),
  (67, .ireturn, 1, .null, [], []),
  (68, .aload_n 0, 1, .null, [], []),
  (69, .getfield 20, 3, .null, [8, 1, 1], [(2, 35)]),
  (72, .getfield 56, 3, .null, [2, 1, 1], [(1, 117)]),
  (75, .iload_n 3, 1, .null, [], []),
  (76, .invokevirtual 130, 3, .null, [73, 1, 0, 0, 0, 1], [(3, 204), (3, 205), (3, 206), (3, 207), (1, 5)]),
  (79, .ireturn, 1, .null, [], []),
  (80, .aload_n 0, 1, .null, [], []),
  (81, .getfield 20, 3, .null, [8, 1, 1], [(2, 35)]),
  (84, .getfield 56, 3, .null, [2, 1, 1], [(1, 117)]),
  (87, .iload_n 1, 1, .null, [], []),
  (88, .invokevirtual 278, 3, .null, [178, 1, 0, 0, 0, 1], [(5, 204), (5, 205), (5, 206), (5, 207), (1, 5)]),
  (91, .ireturn, 1, .null, [], []),
  (92, .aload_n 0, 1, .null, [], []),
  (93, .getfield 20, 3, .null, [8, 1, 1], [(2, 35)]),
  (96, .getfield 56, 3, .null, [2, 1, 1], [(1, 117)]),
  (99, .iload_n 1, 1, .null, [], []),
  (100, .invokevirtual 281, 3, .null, [179, 1, 0, 0, 0, 1], [(5, 208), (5, 209), (5, 210), (5, 211), (1, 5)]),
  (103, .ireturn, 1, .null, [], []),
  (104, .iload_n 3, 1, .null, [], []),
  (105, .invokestatic 284, 3, .null, [14, 1, 0, 0, 0], [(5, 63), (2, 65), (1, 12), (2, 66)]),
  (108, .ireturn, 1, .null, [], []),
  (109, .aload_n 0, 1, .null, [], []),
  (110, .getfield 20, 3, .null, [8, 1, 1], [(2, 35)]),
  (113, .getfield 56, 3, .null, [2, 1, 1], [(1, 117)]),
  (116, .iload_n 1, 1, .null, [], []),
  (117, .invokevirtual 289, 3, .null, [180, 1, 0, 0, 0, 1], [(5, 212), (5, 213), (5, 214), (5, 215), (1, 5)]),
  (120, .ireturn, 1, .null, [], []),
  (121, .new 72, 3, .null, [1, 1, 74], [(3, 125), (1, 19), (3, 134)])]
def e_m181 : e_MD := (⟨"HexCampaign", "account", "(II)I"⟩, prog_1_method_23_code, 4, (some .int), [], e_c181)
-- 182: HexCampaignLaw.account(LHexCampaign;II[J)I
set_option maxRecDepth 100000 in
def e_c182 : List e_I := [(0, .aload_n 3, 1, .null, [], []),
  (1, .iconst 0, 1, .null, [], []),
  (2, .aload_n 0, 1, .null, [], []),
  (3, .iload_n 1, 1, .null, [], []),
  (4, .iload_n 2, 1, .null, [], []),
  (5, .invokevirtual 86, 3, .null, [181, 2, 0, 2, 12, 8, 0, 4, 15, 1, 4, 19], [(5, 196), (5, 197), (5, 198), (5, 199), (1, 1), (3, 15), (3, 95)]),
  (8, .i2l, 1, .null, [], []),
  (9, .lastore, 1, .null, [], []),
  (10, .goto 11, 3, .null, [21], []),
  (13, .astore 4, 2, .null, [], []),
  (15, .iconst 1, 1, .null, [], []),
  (16, .ireturn, 1, .null, [], []),
  (17, .astore 4, 2, .null, [], []),
  (19, .iconst 2, 1, .null, [], []),
  (20, .ireturn, 1, .null, [], []),
  (21, .iconst 0, 1, .null, [], []),
  (22, .ireturn, 1, .null, [], [])]
def e_m182 : e_MD := (⟨"HexCampaignLaw", "account", "(LHexCampaign;II[J)I"⟩, method_22_code, 5, (some .int), [(0, 10, 13, 13), (0, 10, 17, 15)], e_c182)
-- 183: HexCampaign$Play.forcesOf(I)I
set_option maxRecDepth 100000 in
def e_c183 : List e_I := [(0, .aload_n 0, 1, .null, [], []),
  (1, .aload_n 0, 1, .null, [], []),
  (2, .getfield 27, 3, .null, [4, 2, 1], [(1, 189)]),
  (5, .iload_n 1, 1, .null, [], []),
  (6, .invokevirtual 98, 3, .null, [26, 1, 0, 0, 0, 1], [(2, 111), (2, 112), (2, 113), (2, 114), (1, 5)]),
  (9, .aload_n 0, 1, .null, [], []),
  (10, .iload_n 1, 1, .null, [], []),
  (11, .invokevirtual 71, 3, .null, [45, 1, 0, 0, 0, 4], [(2, 116), (2, 117), (2, 118), (2, 119), (1, 2)]),
  (14, .invokevirtual 101, 3, .null, [160, 2, 0, 0, 0, 4], [(5, 129), (5, 131), (0, 18), (5, 132), (1, 2)]),
  (17, .ireturn, 1, .null, [], [])]
def e_m183 : e_MD := (⟨"HexCampaign$Play", "forcesOf", "(I)I"⟩, prog_8_method_6_code, 2, (some .int), [], e_c183)
-- 184: HexCampaign.balance()D
set_option maxRecDepth 100000 in
def e_c184 : List e_I := [(0, .aload_n 0, 1, .null, [], []),
  (1, .getfield 10, 3, .null, [8, 0, 1], [(2, 34)]),
  (4, .iconst 0, 1, .null, [], []),
  (5, .invokevirtual 292, 3, .null, [183, 1, 0, 0, 0, 4], [(5, 237), (5, 238), (5, 239), (6, 0), (1, 2)]),
  (8, .i2d, 1, .null, [], []),
  (9, .dstore_n 1, 1, .null, [], []),
  (10, .aload_n 0, 1, .null, [], []),
  (11, .getfield 10, 3, .null, [8, 0, 1], [(2, 34)]),
  (14, .iconst 1, 1, .null, [], []),
  (15, .invokevirtual 292, 3, .null, [183, 1, 0, 0, 0, 4], [(5, 237), (5, 238), (5, 239), (6, 0), (1, 2)]),
  (18, .i2d, 1, .null, [], []),
  (19, .dstore_n 3, 1, .null, [], []),
  (20, .dload_n 3, 1, .null, [], []),
  (21, .dconst 0, 1, .null, [], []),
  (22, .dcmp .g, 1, .null, [], []),
  (23, .ifCond .gt 11, 3, .null, [34], []),
  (26, .new 295, 3, .null, [1, 5, 297], [(6, 1), (1, 26), (6, 2)]),
  (34, .dload_n 1, 1, .null, [], []),
  (35, .dload_n 3, 1, .null, [], []),
  (36, .ddiv, 1, .null, [], []),
  (37, .dreturn, 1, .null, [], [])]
def e_m184 : e_MD := (⟨"HexCampaign", "balance", "()D"⟩, prog_1_method_24_code, 5, (some .double), [], e_c184)
-- 185: HexCampaignLaw.balance(LHexCampaign;[D)I
set_option maxRecDepth 100000 in
def e_c185 : List e_I := [(0, .aload_n 1, 1, .null, [], []),
  (1, .iconst 0, 1, .null, [], []),
  (2, .aload_n 0, 1, .null, [], []),
  (3, .invokevirtual 89, 3, .null, [184, 0, 0, 1, 6, 8, 5, 2, 11], [(5, 233), (5, 234), (5, 235), (5, 236), (1, 1), (5, 219)]),
  (6, .dastore, 1, .null, [], []),
  (7, .goto 6, 3, .null, [13], []),
  (10, .astore_n 2, 1, .null, [], []),
  (11, .iconst 1, 1, .null, [], []),
  (12, .ireturn, 1, .null, [], []),
  (13, .iconst 0, 1, .null, [], []),
  (14, .ireturn, 1, .null, [], [])]
def e_m185 : e_MD := (⟨"HexCampaignLaw", "balance", "(LHexCampaign;[D)I"⟩, method_23_code, 3, (some .int), [(0, 7, 10, 93)], e_c185)
-- 186: HexCampaign$Report.levels()I
set_option maxRecDepth 100000 in
def e_c186 : List e_I := [(0, .aload_n 0, 1, .null, [], []),
  (1, .getfield 16, 3, .null, [6, 2, 0], [(1, 232)]),
  (4, .ireturn, 1, .null, [], [])]
def e_m186 : e_MD := (⟨"HexCampaign$Report", "levels", "()I"⟩, prog_9_method_4_code, 1, (some .int), [], e_c186)
-- 187: HexCampaign$Report.codeOf(I)I
set_option maxRecDepth 100000 in
def e_c187 : List e_I := [(0, .aload_n 0, 1, .null, [], []),
  (1, .getfield 9, 3, .null, [6, 0, 1], [(1, 230)]),
  (4, .iload_n 1, 1, .null, [], []),
  (5, .invokestatic 30, 3, .null, [36, 2, 0, 0, 0], [(6, 21), (2, 177), (1, 10), (2, 178)]),
  (8, .ireturn, 1, .null, [], [])]
def e_m187 : e_MD := (⟨"HexCampaign$Report", "codeOf", "(I)I"⟩, prog_9_method_5_code, 2, (some .int), [], e_c187)
-- 188: HexCampaign$Report.detailOf(I)I
set_option maxRecDepth 100000 in
def e_c188 : List e_I := [(0, .aload_n 0, 1, .null, [], []),
  (1, .getfield 13, 3, .null, [6, 1, 1], [(1, 231)]),
  (4, .iload_n 1, 1, .null, [], []),
  (5, .invokestatic 30, 3, .null, [36, 2, 0, 0, 0], [(6, 21), (2, 177), (1, 10), (2, 178)]),
  (8, .ireturn, 1, .null, [], [])]
def e_m188 : e_MD := (⟨"HexCampaign$Report", "detailOf", "(I)I"⟩, prog_9_method_6_code, 2, (some .int), [], e_c188)
-- 189: HexCampaign.report(II)I
set_option maxRecDepth 100000 in
def e_c189 : List e_I := [(0, .iload_n 1, 1, .null, [], []),
  (1, .ifCond .lt 14, 3, .null, [15], []),
  (4, .iload_n 1, 1, .null, [], []),
  (5, .aload_n 0, 1, .null, [], []),
  (6, .getfield 41, 3, .null, [8, 5, 1], [(2, 39)]),
  (9, .invokevirtual 298, 3, .null, [186, 0, 0, 0, 0, 6], [(6, 13), (6, 14), (6, 15), (6, 16), (1, 8)]),
  (12, .if_icmp .lt 11, 3, .null, [23], []),
  (15, .new 140, 3, .null, [1, 3, 142], [(3, 222), (1, 24), (3, 231)]),
  (23, .iload_n 2, 1, .null, [], []),
  (24, .lookupswitch 46 #[(0, 28), (1, 37)], 28, .null, [70, 52, 61], []),
  (52, .aload_n 0, 1, .null, [], []),
  (53, .getfield 41, 3, .null, [8, 5, 1], [(2, 39)]),
  (56, .iload_n 1, 1, .null, [], []),
  (57, .invokevirtual 301, 3, .null, [187, 1, 0, 0, 0, 6], [(6, 17), (6, 18), (6, 19), (6, 20), (1, 8)]),
  (60, .ireturn, 1, .null, [], []),
  (61, .aload_n 0, 1, .null, [], []),
  (62, .getfield 41, 3, .null, [8, 5, 1], [(2, 39)]),
  (65, .iload_n 1, 1, .null, [], []),
  (66, .invokevirtual 304, 3, .null, [188, 1, 0, 0, 0, 6], [(6, 22), (6, 23), (6, 24), (6, 25), (1, 8)]),
  (69, .ireturn, 1, .null, [], []),
  (70, .new 72, 3, .null, [1, 1, 74], [(3, 125), (1, 19), (3, 134)])]
def e_m189 : e_MD := (⟨"HexCampaign", "report", "(II)I"⟩, prog_1_method_25_code, 3, (some .int), [], e_c189)
-- 190: HexCampaignLaw.report(LHexCampaign;II[J)I
set_option maxRecDepth 100000 in
def e_c190 : List e_I := [(0, .aload_n 3, 1, .null, [], []),
  (1, .iconst 0, 1, .null, [], []),
  (2, .aload_n 0, 1, .null, [], []),
  (3, .iload_n 1, 1, .null, [], []),
  (4, .iload_n 2, 1, .null, [], []),
  (5, .invokevirtual 95, 3, .null, [189, 2, 0, 2, 12, 8, 3, 4, 15, 1, 4, 19], [(6, 9), (6, 10), (6, 11), (6, 12), (1, 1), (3, 211), (3, 95)]),
  (8, .i2l, 1, .null, [], []),
  (9, .lastore, 1, .null, [], []),
  (10, .goto 11, 3, .null, [21], []),
  (13, .astore 4, 2, .null, [], []),
  (15, .iconst 1, 1, .null, [], []),
  (16, .ireturn, 1, .null, [], []),
  (17, .astore 4, 2, .null, [], []),
  (19, .iconst 2, 1, .null, [], []),
  (20, .ireturn, 1, .null, [], []),
  (21, .iconst 0, 1, .null, [], []),
  (22, .ireturn, 1, .null, [], [])]
def e_m190 : e_MD := (⟨"HexCampaignLaw", "report", "(LHexCampaign;II[J)I"⟩, method_24_code, 5, (some .int), [(0, 10, 13, 34), (0, 10, 17, 15)], e_c190)
-- 191: HexCampaign$MapInput.isFull()Z
set_option maxRecDepth 100000 in
def e_c191 : List e_I := [(0, .aload_n 0, 1, .null, [], []),
  (1, .getfield 15, 3, .null, [7, 1, 0], [(2, 7)]),
  (4, .aload_n 0, 1, .null, [], []),
  (5, .getfield 11, 3, .null, [7, 0, 1], [(2, 6)]),
  (8, .arraylength, 1, .null, [], []),
  (9, .if_icmp .lt 7, 3, .null, [16], []),
  (12, .iconst 1, 1, .null, [], []),
  (13, .goto 4, 3, .null, [17], []),
  (16, .iconst 0, 1, .null, [], []),
  (17, .ireturn, 1, .null, [], [])]
def e_m191 : e_MD := (⟨"HexCampaign$MapInput", "isFull", "()Z"⟩, prog_7_method_2_code, 1, (some .boolean), [], e_c191)
-- 192: HexCampaign$MapInput.append(C)I
set_option maxRecDepth 100000 in
def e_c192 : List e_I := [(0, .aload_n 0, 1, .null, [], []),
  (1, .getfield 15, 3, .null, [7, 1, 0], [(2, 7)]),
  (4, .ifCond .lt 35, 3, .null, [39], []),
  (7, .aload_n 0, 1, .null, [], []),
  (8, .getfield 15, 3, .null, [7, 1, 0], [(2, 7)]),
  (11, .aload_n 0, 1, .null, [], []),
  (12, .getfield 11, 3, .null, [7, 0, 1], [(2, 6)]),
  (15, .arraylength, 1, .null, [], []),
  (16, .if_icmp .ge 23, 3, .null, [39], []),
  (19, .aload_n 0, 1, .null, [], []),
  (20, .getfield 11, 3, .null, [7, 0, 1], [(2, 6)]),
  (23, .aload_n 0, 1, .null, [], []),
  (24, .getfield 15, 3, .null, [7, 1, 0], [(2, 7)]),
  (27, .iload_n 1, 1, .null, [], []),
  (28, .castore, 1, .null, [], []),
  (29, .aload_n 0, 1, .null, [], []),
  (30, .dup, 1, .null, [], []),
  (31, .getfield 15, 3, .null, [7, 1, 0], [(2, 7)]),
  (34, .iconst 1, 1, .null, [], []),
  (35, .iadd, 1, .null, [], []),
  (36, .putfield 15, 3, .null, [7, 1, 0, 0], [(2, 7)]),
  (39, .aload_n 0, 1, .null, [], []),
  (40, .getfield 15, 3, .null, [7, 1, 0], [(2, 7)]),
  (43, .ireturn, 1, .null, [], [])]
def e_m192 : e_MD := (⟨"HexCampaign$MapInput", "append", "(C)I"⟩, prog_7_method_3_code, 2, (some .int), [], e_c192)
-- 193: HexCampaign.feed(C)I
set_option maxRecDepth 100000 in
def e_c193 : List e_I := [(0, .aload_n 0, 1, .null, [], []),
  (1, .getfield 48, 3, .null, [8, 6, 1], [(2, 40)]),
  (4, .invokevirtual 307, 3, .null, [191, 0, 0, 0, 0, 7], [(6, 33), (6, 34), (6, 35), (6, 36), (1, 9)]),
  (7, .ifCond .eq 11, 3, .null, [18], []),
  (10, .new 79, 3, .null, [1, 2, 81], [(3, 145), (1, 21), (3, 154)]),
  (18, .aload_n 0, 1, .null, [], []),
  (19, .getfield 48, 3, .null, [8, 6, 1], [(2, 40)]),
  (22, .iload_n 1, 1, .null, [], []),
  (23, .invokevirtual 308, 3, .null, [192, 1, 0, 0, 0, 7], [(6, 37), (6, 38), (6, 39), (6, 40), (1, 9)]),
  (26, .ireturn, 1, .null, [], [])]
def e_m193 : e_MD := (⟨"HexCampaign", "feed", "(C)I"⟩, prog_1_method_26_code, 2, (some .int), [], e_c193)
-- 194: HexCampaignLaw.feed(LHexCampaign;C[J)I
set_option maxRecDepth 100000 in
def e_c194 : List e_I := [(0, .aload_n 2, 1, .null, [], []),
  (1, .iconst 0, 1, .null, [], []),
  (2, .aload_n 0, 1, .null, [], []),
  (3, .iload_n 1, 1, .null, [], []),
  (4, .invokevirtual 98, 3, .null, [193, 1, 0, 1, 6, 8, 2, 3, 13], [(6, 29), (6, 30), (6, 31), (6, 32), (1, 1), (3, 96)]),
  (7, .i2l, 1, .null, [], []),
  (8, .lastore, 1, .null, [], []),
  (9, .goto 6, 3, .null, [15], []),
  (12, .astore_n 3, 1, .null, [], []),
  (13, .iconst 1, 1, .null, [], []),
  (14, .ireturn, 1, .null, [], []),
  (15, .iconst 0, 1, .null, [], []),
  (16, .ireturn, 1, .null, [], [])]
def e_m194 : e_MD := (⟨"HexCampaignLaw", "feed", "(LHexCampaign;C[J)I"⟩, method_25_code, 4, (some .int), [(0, 9, 12, 17)], e_c194)
-- 195: HexCampaign$Letters.cellAt(I)I
set_option maxRecDepth 100000 in
def e_c195 : List e_I := [(0, .iload_n 0, 1, .null, [], []),
  (1, .bipush 10, 2, .null, [], []),
  (3, .irem, 1, .null, [], []),
  (4, .istore_n 1, 1, .null, [], []),
  (5, .iload_n 1, 1, .null, [], []),
  (6, .bipush 9, 2, .null, [], []),
  (8, .if_icmp .ge 15, 3, .null, [23], []),
  (11, .bipush 9, 2, .null, [], []),
  (13, .iload_n 0, 1, .null, [], []),
  (14, .bipush 10, 2, .null, [], []),
  (16, .idiv, 1, .null, [], []),
  (17, .imul, 1, .null, [], []),
  (18, .iload_n 1, 1, .null, [], []),
  (19, .iadd, 1, .null, [], []),
  (20, .goto 4, 3, .null, [24], []),
  (23, .iconst (-1), 1, .null, [], []),
  (24, .ireturn, 1, .null, [], [])]
def e_m195 : e_MD := (⟨"HexCampaign$Letters", "cellAt", "(I)I"⟩, prog_6_method_2_code, 2, (some .int), [], e_c195)
-- 196: java/lang/String.coder()B
set_option maxRecDepth 100000 in
def e_c196 : List e_I := [(0, .getstatic 38, 3, .int 1, [98], [(6, 73)]),
  (3, .ifCond .eq 10, 3, .null, [13], []),
  (6, .aload_n 0, 1, .null, [], []),
  (7, .getfield 15, 3, .null, [99, 0], [(8, 116)]),
  (10, .goto 4, 3, .null, [14], []),
  (13, .iconst 1, 1, .null, [], []),
  (14, .ireturn, 1, .null, [], [])]
def e_m196 : e_MD := (⟨"java/lang/String", "coder", "()B"⟩, prog_27_method_152_code, 1, (some .byte), [], e_c196)
-- 197: java/lang/String.length()I
set_option maxRecDepth 100000 in
def e_c197 : List e_I := [(0, .aload_n 0, 1, .null, [], []),
  (1, .getfield 9, 3, .null, [99, 1], [(8, 115)]),
  (4, .arraylength, 1, .null, [], []),
  (5, .aload_n 0, 1, .null, [], []),
  (6, .invokevirtual 335, 3, .null, [196, 0, 0, 0, 0, 99], [(6, 69), (6, 70), (6, 71), (6, 72), (1, 18)]),
  (9, .ishr, 1, .null, [], []),
  (10, .ireturn, 1, .null, [], [])]
def e_m197 : e_MD := (⟨"java/lang/String", "length", "()I"⟩, prog_27_method_54_code, 1, (some .int), [], e_c197)
-- 198: java/lang/String.isLatin1()Z
set_option maxRecDepth 100000 in
def e_c198 : List e_I := [(0, .getstatic 38, 3, .int 1, [98], [(6, 73)]),
  (3, .ifCond .eq 14, 3, .null, [17], []),
  (6, .aload_n 0, 1, .null, [], []),
  (7, .getfield 15, 3, .null, [99, 0], [(8, 116)]),
  (10, .ifCond .ne 7, 3, .null, [17], []),
  (13, .iconst 1, 1, .null, [], []),
  (14, .goto 4, 3, .null, [18], []),
  (17, .iconst 0, 1, .null, [], []),
  (18, .ireturn, 1, .null, [], [])]
def e_m198 : e_MD := (⟨"java/lang/String", "isLatin1", "()Z"⟩, prog_27_method_154_code, 1, (some .boolean), [], e_c198)
-- 199: jdk/internal/util/Preconditions.checkIndex(IILjava/util/function/BiFunction;)I
set_option maxRecDepth 100000 in
def e_c199 : List e_I := [(0, .iload_n 0, 1, .null, [], []),
  (1, .ifCond .lt 8, 3, .null, [9], []),
  (4, .iload_n 0, 1, .null, [], []),
  (5, .iload_n 1, 1, .null, [], []),
  (6, .if_icmp .lt 10, 3, .null, [16], []),
  (9, .aload_n 2, 1, .null, [], []),
  (10, .iload_n 0, 1, .null, [], []),
  (11, .iload_n 1, 1, .null, [], []),
  (15, .athrow, 1, .null, [], []),
  (16, .iload_n 0, 1, .null, [], []),
  (17, .ireturn, 1, .null, [], [])]
def e_m199 : e_MD := (⟨"jdk/internal/util/Preconditions", "checkIndex", "(IILjava/util/function/BiFunction;)I"⟩, prog_36_method_11_code, 3, (some .int), [], e_c199)
-- 200: java/lang/String.checkIndex(II)V
set_option maxRecDepth 100000 in
def e_c200 : List e_I := [(0, .iload_n 0, 1, .null, [], []),
  (1, .iload_n 1, 1, .null, [], []),
  (2, .getstatic 1053, 3, .retAddr 40, [97], [(6, 89)]),
  (5, .invokestatic 1059, 3, .null, [199, 3, 0, 0, 0], [(6, 91), (6, 92), (1, 29), (6, 93)]),
  (8, .pop, 1, .null, [], []),
  (9, .return_, 1, .null, [], [])]
def e_m200 : e_MD := (⟨"java/lang/String", "checkIndex", "(II)V"⟩, prog_27_method_155_code, 2, none, [], e_c200)
-- 201: java/lang/StringLatin1.charAt([BI)C
set_option maxRecDepth 100000 in
def e_c201 : List e_I := [(0, .iload_n 1, 1, .null, [], []),
  (1, .aload_n 0, 1, .null, [], []),
  (2, .arraylength, 1, .null, [], []),
  (3, .invokestatic 9, 3, .null, [200, 2, 0, 0, 0], [(6, 86), (6, 87), (1, 18), (6, 88)]),
  (6, .aload_n 0, 1, .null, [], []),
  (7, .iload_n 1, 1, .null, [], []),
  (8, .baload, 1, .null, [], []),
  (9, .sipush 255, 3, .null, [], []),
  (12, .iand, 1, .null, [], []),
  (13, .i2c, 1, .null, [], []),
  (14, .ireturn, 1, .null, [], [])]
def e_m201 : e_MD := (⟨"java/lang/StringLatin1", "charAt", "([BI)C"⟩, prog_28_method_2_code, 2, (some .char), [], e_c201)
-- 202: java/lang/String.charAt(I)C
set_option maxRecDepth 100000 in
def e_c202 : List e_I := [(0, .aload_n 0, 1, .null, [], []),
  (1, .invokevirtual 492, 3, .null, [198, 0, 0, 0, 0, 99], [(6, 79), (6, 80), (6, 81), (6, 82), (1, 18)]),
  (4, .ifCond .eq 12, 3, .null, [16], []),
  (7, .aload_n 0, 1, .null, [], []),
  (8, .getfield 9, 3, .null, [99, 1], [(8, 115)]),
  (11, .iload_n 1, 1, .null, [], []),
  (12, .invokestatic 495, 3, .null, [201, 2, 0, 0, 0], [(6, 83), (6, 84), (1, 28), (6, 85)]),
  (15, .ireturn, 1, .null, [], []),
  (16, .aload_n 0, 1, .null, [], []),
  (17, .getfield 9, 3, .null, [99, 1], [(8, 115)]),
  (20, .iload_n 1, 1, .null, [], []),
  (24, .ireturn, 1, .null, [], [])]
def e_m202 : e_MD := (⟨"java/lang/String", "charAt", "(I)C"⟩, prog_27_method_56_code, 2, (some .char), [], e_c202)
-- 203: HexCampaign$Letters.placeIn(Ljava/lang/String;C)I
set_option maxRecDepth 100000 in
def e_c203 : List e_I := [(0, .iconst 0, 1, .null, [], []),
  (1, .istore_n 2, 1, .null, [], []),
  (2, .iload_n 2, 1, .null, [], []),
  (3, .aload_n 0, 1, .null, [], []),
  (4, .invokevirtual 15, 3, .null, [197, 0, 0, 0, 0, 99], [(6, 65), (6, 66), (6, 67), (6, 68), (1, 18)]),
  (7, .if_icmp .ge 20, 3, .null, [27], []),
  (10, .aload_n 0, 1, .null, [], []),
  (11, .iload_n 2, 1, .null, [], []),
  (12, .invokevirtual 21, 3, .null, [202, 1, 0, 0, 0, 99], [(6, 75), (6, 76), (6, 77), (6, 78), (1, 18)]),
  (15, .iload_n 1, 1, .null, [], []),
  (16, .if_icmp .ne 5, 3, .null, [21], []),
  (19, .iload_n 2, 1, .null, [], []),
  (20, .ireturn, 1, .null, [], []),
  (21, .iinc 2 1, 3, .null, [], []),
  (24, .goto (-22), 3, .null, [2], []),
  (27, .iconst (-1), 1, .null, [], []),
  (28, .ireturn, 1, .null, [], [])]
def e_m203 : e_MD := (⟨"HexCampaign$Letters", "placeIn", "(Ljava/lang/String;C)I"⟩, prog_6_method_6_code, 3, (some .int), [], e_c203)
-- 204: HexCampaign$Letters.terrainOf(C)I
set_option maxRecDepth 100000 in
def e_c204 : List e_I := [(0, .ldc 13, 2, .retAddr 0, [], [(6, 61)]),
  (2, .iload_n 0, 1, .null, [], []),
  (3, .invokestatic 25, 3, .null, [203, 2, 0, 0, 0], [(6, 62), (6, 63), (1, 27), (6, 64)]),
  (6, .istore_n 1, 1, .null, [], []),
  (7, .iload_n 1, 1, .null, [], []),
  (8, .iconst (-1), 1, .null, [], []),
  (9, .if_icmp .eq 7, 3, .null, [16], []),
  (12, .iload_n 1, 1, .null, [], []),
  (13, .goto 9, 3, .null, [22], []),
  (16, .ldc 11, 2, .retAddr 1, [], [(6, 113)]),
  (18, .iload_n 0, 1, .null, [], []),
  (19, .invokestatic 25, 3, .null, [203, 2, 0, 0, 0], [(6, 62), (6, 63), (1, 27), (6, 64)]),
  (22, .ireturn, 1, .null, [], [])]
def e_m204 : e_MD := (⟨"HexCampaign$Letters", "terrainOf", "(C)I"⟩, prog_6_method_4_code, 2, (some .int), [], e_c204)
-- 205: HexCampaign$MapInput.canStandAt(IC)Z
set_option maxRecDepth 100000 in
def e_c205 : List e_I := [(0, .iload_n 0, 1, .null, [], []),
  (1, .bipush 69, 2, .null, [], []),
  (3, .if_icmp .lt 5, 3, .null, [8], []),
  (6, .iconst 0, 1, .null, [], []),
  (7, .ireturn, 1, .null, [], []),
  (8, .iload_n 0, 1, .null, [], []),
  (9, .invokestatic 25, 3, .null, [195, 1, 0, 0, 0], [(6, 55), (6, 56), (1, 27), (6, 57)]),
  (12, .iconst (-1), 1, .null, [], []),
  (13, .if_icmp .ne 17, 3, .null, [30], []),
  (16, .iload_n 1, 1, .null, [], []),
  (17, .bipush 47, 2, .null, [], []),
  (19, .if_icmp .ne 7, 3, .null, [26], []),
  (22, .iconst 1, 1, .null, [], []),
  (23, .goto 20, 3, .null, [43], []),
  (26, .iconst 0, 1, .null, [], []),
  (27, .goto 16, 3, .null, [43], []),
  (30, .iload_n 1, 1, .null, [], []),
  (31, .invokestatic 29, 3, .null, [204, 1, 0, 0, 0], [(6, 58), (6, 59), (1, 27), (6, 60)]),
  (34, .iconst (-1), 1, .null, [], []),
  (35, .if_icmp .eq 7, 3, .null, [42], []),
  (38, .iconst 1, 1, .null, [], []),
  (39, .goto 4, 3, .null, [43], []),
  (42, .iconst 0, 1, .null, [], []),
  (43, .ireturn, 1, .null, [], [])]
def e_m205 : e_MD := (⟨"HexCampaign$MapInput", "canStandAt", "(IC)Z"⟩, prog_7_method_6_code, 2, (some .boolean), [], e_c205)
-- 206: HexCampaign$MapInput.errorPosition()I
set_option maxRecDepth 100000 in
def e_c206 : List e_I := [(0, .iconst 0, 1, .null, [], []),
  (1, .istore_n 1, 1, .null, [], []),
  (2, .iload_n 1, 1, .null, [], []),
  (3, .aload_n 0, 1, .null, [], []),
  (4, .getfield 15, 3, .null, [7, 1, 0], [(2, 7)]),
  (7, .if_icmp .ge 33, 3, .null, [40], []),
  (10, .iload_n 1, 1, .null, [], []),
  (11, .aload_n 0, 1, .null, [], []),
  (12, .getfield 11, 3, .null, [7, 0, 1], [(2, 6)]),
  (15, .arraylength, 1, .null, [], []),
  (16, .if_icmp .ge 24, 3, .null, [40], []),
  (19, .iload_n 1, 1, .null, [], []),
  (20, .aload_n 0, 1, .null, [], []),
  (21, .getfield 11, 3, .null, [7, 0, 1], [(2, 6)]),
  (24, .iload_n 1, 1, .null, [], []),
  (25, .caload, 1, .null, [], []),
  (26, .invokestatic 19, 3, .null, [205, 2, 0, 0, 0], [(6, 52), (6, 53), (1, 9), (6, 54)]),
  (29, .ifCond .ne 5, 3, .null, [34], []),
  (32, .iload_n 1, 1, .null, [], []),
  (33, .ireturn, 1, .null, [], []),
  (34, .iinc 1 1, 3, .null, [], []),
  (37, .goto (-35), 3, .null, [2], []),
  (40, .iconst (-1), 1, .null, [], []),
  (41, .ireturn, 1, .null, [], [])]
def e_m206 : e_MD := (⟨"HexCampaign$MapInput", "errorPosition", "()I"⟩, prog_7_method_5_code, 2, (some .int), [], e_c206)
-- 207: HexCampaign$MapInput.letters()I
set_option maxRecDepth 100000 in
def e_c207 : List e_I := [(0, .aload_n 0, 1, .null, [], []),
  (1, .getfield 15, 3, .null, [7, 1, 0], [(2, 7)]),
  (4, .aload_n 0, 1, .null, [], []),
  (5, .getfield 15, 3, .null, [7, 1, 0], [(2, 7)]),
  (8, .bipush 10, 2, .null, [], []),
  (10, .idiv, 1, .null, [], []),
  (11, .isub, 1, .null, [], []),
  (12, .ireturn, 1, .null, [], [])]
def e_m207 : e_MD := (⟨"HexCampaign$MapInput", "letters", "()I"⟩, prog_7_method_7_code, 1, (some .int), [], e_c207)
-- 208: HexCampaign$MapInput.waters()J
set_option maxRecDepth 100000 in
def e_c208 : List e_I := [(0, .lconst 0, 1, .null, [], []),
  (1, .lstore_n 1, 1, .null, [], []),
  (2, .iconst 0, 1, .null, [], []),
  (3, .istore_n 3, 1, .null, [], []),
  (4, .iload_n 3, 1, .null, [], []),
  (5, .aload_n 0, 1, .null, [], []),
  (6, .getfield 15, 3, .null, [7, 1, 0], [(2, 7)]),
  (9, .if_icmp .ge 51, 3, .null, [60], []),
  (12, .iload_n 3, 1, .null, [], []),
  (13, .aload_n 0, 1, .null, [], []),
  (14, .getfield 11, 3, .null, [7, 0, 1], [(2, 6)]),
  (17, .arraylength, 1, .null, [], []),
  (18, .if_icmp .ge 42, 3, .null, [60], []),
  (21, .iload_n 3, 1, .null, [], []),
  (22, .invokestatic 25, 3, .null, [195, 1, 0, 0, 0], [(6, 55), (6, 56), (1, 27), (6, 57)]),
  (25, .istore 4, 2, .null, [], []),
  (27, .iload 4, 2, .null, [], []),
  (29, .iconst (-1), 1, .null, [], []),
  (30, .if_icmp .eq 24, 3, .null, [54], []),
  (33, .aload_n 0, 1, .null, [], []),
  (34, .getfield 11, 3, .null, [7, 0, 1], [(2, 6)]),
  (37, .iload_n 3, 1, .null, [], []),
  (38, .caload, 1, .null, [], []),
  (39, .invokestatic 29, 3, .null, [204, 1, 0, 0, 0], [(6, 58), (6, 59), (1, 27), (6, 60)]),
  (42, .iconst 5, 1, .null, [], []),
  (43, .if_icmp .ne 11, 3, .null, [54], []),
  (46, .lload_n 1, 1, .null, [], []),
  (47, .iload 4, 2, .null, [], []),
  (49, .invokestatic 33, 3, .null, [28, 1, 0, 0, 0], [(6, 122), (2, 133), (1, 20), (2, 134)]),
  (52, .lor, 1, .null, [], []),
  (53, .lstore_n 1, 1, .null, [], []),
  (54, .iinc 3 1, 3, .null, [], []),
  (57, .goto (-53), 3, .null, [4], []),
  (60, .lload_n 1, 1, .null, [], []),
  (61, .lreturn, 1, .null, [], [])]
def e_m208 : e_MD := (⟨"HexCampaign$MapInput", "waters", "()J"⟩, prog_7_method_8_code, 5, (some .long), [], e_c208)
-- 209: HexCampaign$Letters.hasRoad(C)Z
set_option maxRecDepth 100000 in
def e_c209 : List e_I := [(0, .ldc 11, 2, .retAddr 1, [], [(6, 113)]),
  (2, .iload_n 0, 1, .null, [], []),
  (3, .invokestatic 25, 3, .null, [203, 2, 0, 0, 0], [(6, 62), (6, 63), (1, 27), (6, 64)]),
  (6, .iconst (-1), 1, .null, [], []),
  (7, .if_icmp .eq 7, 3, .null, [14], []),
  (10, .iconst 1, 1, .null, [], []),
  (11, .goto 4, 3, .null, [15], []),
  (14, .iconst 0, 1, .null, [], []),
  (15, .ireturn, 1, .null, [], [])]
def e_m209 : e_MD := (⟨"HexCampaign$Letters", "hasRoad", "(C)Z"⟩, prog_6_method_5_code, 1, (some .boolean), [], e_c209)
-- 210: HexCampaign$MapInput.shapeAll(LHexCampaign$Land;)V
set_option maxRecDepth 100000 in
def e_c210 : List e_I := [(0, .iconst 0, 1, .null, [], []),
  (1, .istore_n 2, 1, .null, [], []),
  (2, .iload_n 2, 1, .null, [], []),
  (3, .aload_n 0, 1, .null, [], []),
  (4, .getfield 15, 3, .null, [7, 1, 0], [(2, 7)]),
  (7, .if_icmp .ge 51, 3, .null, [58], []),
  (10, .iload_n 2, 1, .null, [], []),
  (11, .aload_n 0, 1, .null, [], []),
  (12, .getfield 11, 3, .null, [7, 0, 1], [(2, 6)]),
  (15, .arraylength, 1, .null, [], []),
  (16, .if_icmp .ge 42, 3, .null, [58], []),
  (19, .iload_n 2, 1, .null, [], []),
  (20, .invokestatic 25, 3, .null, [195, 1, 0, 0, 0], [(6, 55), (6, 56), (1, 27), (6, 57)]),
  (23, .istore_n 3, 1, .null, [], []),
  (24, .iload_n 3, 1, .null, [], []),
  (25, .iconst (-1), 1, .null, [], []),
  (26, .if_icmp .eq 26, 3, .null, [52], []),
  (29, .aload_n 1, 1, .null, [], []),
  (30, .iload_n 3, 1, .null, [], []),
  (31, .aload_n 0, 1, .null, [], []),
  (32, .getfield 11, 3, .null, [7, 0, 1], [(2, 6)]),
  (35, .iload_n 2, 1, .null, [], []),
  (36, .caload, 1, .null, [], []),
  (37, .invokestatic 29, 3, .null, [204, 1, 0, 0, 0], [(6, 58), (6, 59), (1, 27), (6, 60)]),
  (40, .aload_n 0, 1, .null, [], []),
  (41, .getfield 11, 3, .null, [7, 0, 1], [(2, 6)]),
  (44, .iload_n 2, 1, .null, [], []),
  (45, .caload, 1, .null, [], []),
  (46, .invokestatic 39, 3, .null, [209, 1, 0, 0, 0], [(6, 128), (6, 129), (1, 27), (6, 130)]),
  (49, .invokevirtual 43, 3, .null, [63, 3, 0, 0, 0, 0], [(6, 131), (3, 166), (3, 167), (3, 168), (1, 4)]),
  (52, .iinc 2 1, 3, .null, [], []),
  (55, .goto (-53), 3, .null, [2], []),
  (58, .return_, 1, .null, [], [])]
def e_m210 : e_MD := (⟨"HexCampaign$MapInput", "shapeAll", "(LHexCampaign$Land;)V"⟩, prog_7_method_9_code, 4, none, [], e_c210)
-- 211: HexCampaign$MapInput.clear()V
set_option maxRecDepth 100000 in
def e_c211 : List e_I := [(0, .aload_n 0, 1, .null, [], []),
  (1, .iconst 0, 1, .null, [], []),
  (2, .putfield 15, 3, .null, [7, 1, 0, 0], [(2, 7)]),
  (5, .return_, 1, .null, [], [])]
def e_m211 : e_MD := (⟨"HexCampaign$MapInput", "clear", "()V"⟩, prog_7_method_4_code, 1, none, [], e_c211)
-- 212: HexCampaign.readMap()I
set_option maxRecDepth 100000 in
def e_c212 : List e_I := [(0, .aload_n 0, 1, .null, [], []),
  (1, .getfield 48, 3, .null, [8, 6, 1], [(2, 40)]),
  (4, .invokevirtual 312, 3, .null, [206, 0, 0, 0, 0, 7], [(6, 48), (6, 49), (6, 50), (6, 51), (1, 9)]),
  (7, .istore_n 1, 1, .null, [], []),
  (8, .aload_n 0, 1, .null, [], []),
  (9, .getfield 48, 3, .null, [8, 6, 1], [(2, 40)]),
  (12, .invokevirtual 315, 3, .null, [207, 0, 0, 0, 0, 7], [(6, 114), (6, 115), (6, 116), (6, 117), (1, 9)]),
  (15, .istore_n 2, 1, .null, [], []),
  (16, .iload_n 1, 1, .null, [], []),
  (17, .iconst (-1), 1, .null, [], []),
  (18, .if_icmp .ne 40, 3, .null, [58], []),
  (21, .aload_n 0, 1, .null, [], []),
  (22, .getfield 48, 3, .null, [8, 6, 1], [(2, 40)]),
  (25, .invokevirtual 318, 3, .null, [208, 0, 0, 0, 0, 7], [(6, 118), (6, 119), (6, 120), (6, 121), (1, 9)]),
  (28, .aload_n 0, 1, .null, [], []),
  (29, .getfield 20, 3, .null, [8, 1, 1], [(2, 35)]),
  (32, .getfield 56, 3, .null, [2, 1, 1], [(1, 117)]),
  (35, .aload_n 0, 1, .null, [], []),
  (36, .getfield 20, 3, .null, [8, 1, 1], [(2, 35)]),
  (39, .getfield 56, 3, .null, [2, 1, 1], [(1, 117)]),
  (42, .invokevirtual 165, 3, .null, [90, 0, 0, 0, 0, 1], [(4, 41), (4, 42), (4, 43), (4, 44), (1, 5)]),
  (45, .invokevirtual 321, 3, .null, [29, 1, 0, 0, 0, 1], [(6, 123), (2, 126), (2, 127), (2, 128), (1, 5)]),
  (48, .land, 1, .null, [], []),
  (49, .lconst 0, 1, .null, [], []),
  (50, .lcmp, 1, .null, [], []),
  (51, .ifCond .eq 7, 3, .null, [58], []),
  (54, .iconst 1, 1, .null, [], []),
  (55, .goto 4, 3, .null, [59], []),
  (58, .iconst 0, 1, .null, [], []),
  (59, .istore_n 3, 1, .null, [], []),
  (60, .iload_n 1, 1, .null, [], []),
  (61, .iconst (-1), 1, .null, [], []),
  (62, .if_icmp .ne 32, 3, .null, [94], []),
  (65, .iload_n 3, 1, .null, [], []),
  (66, .ifCond .ne 28, 3, .null, [94], []),
  (69, .aload_n 0, 1, .null, [], []),
  (70, .getfield 34, 3, .null, [8, 4, 1], [(2, 38)]),
  (73, .aload_n 0, 1, .null, [], []),
  (74, .getfield 20, 3, .null, [8, 1, 1], [(2, 35)]),
  (77, .invokevirtual 91, 3, .null, [25, 1, 0, 0, 0, 5], [(2, 78), (2, 79), (2, 80), (2, 81), (1, 7)]),
  (80, .aload_n 0, 1, .null, [], []),
  (81, .getfield 48, 3, .null, [8, 6, 1], [(2, 40)]),
  (84, .aload_n 0, 1, .null, [], []),
  (85, .getfield 20, 3, .null, [8, 1, 1], [(2, 35)]),
  (88, .getfield 82, 3, .null, [2, 0, 1], [(1, 114)]),
  (91, .invokevirtual 324, 3, .null, [210, 1, 0, 0, 0, 7], [(6, 124), (6, 125), (6, 126), (6, 127), (1, 9)]),
  (94, .aload_n 0, 1, .null, [], []),
  (95, .getfield 48, 3, .null, [8, 6, 1], [(2, 40)]),
  (98, .invokevirtual 328, 3, .null, [211, 0, 0, 0, 0, 7], [(6, 132), (6, 133), (6, 134), (6, 135), (1, 9)]),
  (101, .iload_n 3, 1, .null, [], []),
  (102, .ifCond .eq 11, 3, .null, [113], []),
  (105, .new 79, 3, .null, [1, 2, 81], [(3, 145), (1, 21), (3, 154)]),
  (113, .iload_n 1, 1, .null, [], []),
  (114, .iconst (-1), 1, .null, [], []),
  (115, .if_icmp .ne 7, 3, .null, [122], []),
  (118, .iload_n 2, 1, .null, [], []),
  (119, .goto 7, 3, .null, [126], []),
  (122, .bipush (-100), 2, .null, [], []),
  (124, .iload_n 1, 1, .null, [], []),
  (125, .isub, 1, .null, [], []),
  (126, .ireturn, 1, .null, [], [])]
def e_m212 : e_MD := (⟨"HexCampaign", "readMap", "()I"⟩, prog_1_method_27_code, 4, (some .int), [], e_c212)
-- 213: HexCampaignLaw.readMap(LHexCampaign;[J)I
set_option maxRecDepth 100000 in
def e_c213 : List e_I := [(0, .aload_n 1, 1, .null, [], []),
  (1, .iconst 0, 1, .null, [], []),
  (2, .aload_n 0, 1, .null, [], []),
  (3, .invokevirtual 102, 3, .null, [212, 0, 0, 1, 6, 8, 2, 2, 12], [(6, 44), (6, 45), (6, 46), (6, 47), (1, 1), (3, 96)]),
  (6, .i2l, 1, .null, [], []),
  (7, .lastore, 1, .null, [], []),
  (8, .goto 6, 3, .null, [14], []),
  (11, .astore_n 2, 1, .null, [], []),
  (12, .iconst 1, 1, .null, [], []),
  (13, .ireturn, 1, .null, [], []),
  (14, .iconst 0, 1, .null, [], []),
  (15, .ireturn, 1, .null, [], [])]
def e_m213 : e_MD := (⟨"HexCampaignLaw", "readMap", "(LHexCampaign;[J)I"⟩, method_26_code, 3, (some .int), [(0, 8, 11, 17)], e_c213)
-- 214: HexCampaign$Letters.letterOf(IZ)C
set_option maxRecDepth 100000 in
def e_c214 : List e_I := [(0, .iload_n 1, 1, .null, [], []),
  (1, .ifCond .eq 8, 3, .null, [9], []),
  (4, .ldc 11, 2, .retAddr 1, [], [(6, 113)]),
  (6, .goto 5, 3, .null, [11], []),
  (9, .ldc 13, 2, .retAddr 0, [], [(6, 61)]),
  (11, .astore_n 2, 1, .null, [], []),
  (12, .iload_n 0, 1, .null, [], []),
  (13, .ifCond .lt 19, 3, .null, [32], []),
  (16, .iload_n 0, 1, .null, [], []),
  (17, .aload_n 2, 1, .null, [], []),
  (18, .invokevirtual 15, 3, .null, [197, 0, 0, 0, 0, 99], [(6, 65), (6, 66), (6, 67), (6, 68), (1, 18)]),
  (21, .if_icmp .ge 11, 3, .null, [32], []),
  (24, .aload_n 2, 1, .null, [], []),
  (25, .iload_n 0, 1, .null, [], []),
  (26, .invokevirtual 21, 3, .null, [202, 1, 0, 0, 0, 99], [(6, 75), (6, 76), (6, 77), (6, 78), (1, 18)]),
  (29, .goto 5, 3, .null, [34], []),
  (32, .bipush 47, 2, .null, [], []),
  (34, .ireturn, 1, .null, [], [])]
def e_m214 : e_MD := (⟨"HexCampaign$Letters", "letterOf", "(IZ)C"⟩, prog_6_method_3_code, 3, (some .char), [], e_c214)
-- 215: HexCampaign.text(I)C
set_option maxRecDepth 100000 in
def e_c215 : List e_I := [(0, .iload_n 1, 1, .null, [], []),
  (1, .ifCond .lt 9, 3, .null, [10], []),
  (4, .iload_n 1, 1, .null, [], []),
  (5, .bipush 69, 2, .null, [], []),
  (7, .if_icmp .lt 11, 3, .null, [18], []),
  (10, .new 133, 3, .null, [1, 0, 135], [(3, 104), (1, 16), (3, 113)]),
  (18, .iload_n 1, 1, .null, [], []),
  (19, .invokestatic 333, 3, .null, [195, 1, 0, 0, 0], [(6, 143), (6, 56), (1, 27), (6, 57)]),
  (22, .istore_n 2, 1, .null, [], []),
  (23, .iload_n 2, 1, .null, [], []),
  (24, .iconst (-1), 1, .null, [], []),
  (25, .if_icmp .ne 6, 3, .null, [31], []),
  (28, .bipush 47, 2, .null, [], []),
  (30, .ireturn, 1, .null, [], []),
  (31, .aload_n 0, 1, .null, [], []),
  (32, .getfield 20, 3, .null, [8, 1, 1], [(2, 35)]),
  (35, .getfield 82, 3, .null, [2, 0, 1], [(1, 114)]),
  (38, .iload_n 2, 1, .null, [], []),
  (39, .invokevirtual 86, 3, .null, [62, 1, 0, 0, 0, 0], [(3, 160), (3, 161), (3, 162), (3, 163), (1, 4)]),
  (42, .aload_n 0, 1, .null, [], []),
  (43, .getfield 20, 3, .null, [8, 1, 1], [(2, 35)]),
  (46, .getfield 82, 3, .null, [2, 0, 1], [(1, 114)]),
  (49, .invokevirtual 122, 3, .null, [35, 0, 0, 0, 0, 0], [(3, 200), (2, 164), (2, 165), (2, 166), (1, 4)]),
  (52, .iload_n 2, 1, .null, [], []),
  (53, .invokestatic 106, 3, .null, [46, 2, 0, 0, 0], [(3, 181), (2, 208), (1, 20), (2, 209)]),
  (56, .invokestatic 336, 3, .null, [214, 2, 0, 0, 0], [(6, 144), (6, 145), (1, 27), (6, 146)]),
  (59, .ireturn, 1, .null, [], [])]
def e_m215 : e_MD := (⟨"HexCampaign", "text", "(I)C"⟩, prog_1_method_28_code, 3, (some .char), [], e_c215)
-- 216: HexCampaignLaw.text(LHexCampaign;I[J)I
set_option maxRecDepth 100000 in
def e_c216 : List e_I := [(0, .aload_n 2, 1, .null, [], []),
  (1, .iconst 0, 1, .null, [], []),
  (2, .aload_n 0, 1, .null, [], []),
  (3, .iload_n 1, 1, .null, [], []),
  (4, .invokevirtual 106, 3, .null, [215, 1, 0, 1, 6, 8, 0, 3, 13], [(6, 139), (6, 140), (6, 141), (6, 142), (1, 1), (3, 15)]),
  (7, .i2l, 1, .null, [], []),
  (8, .lastore, 1, .null, [], []),
  (9, .goto 6, 3, .null, [15], []),
  (12, .astore_n 3, 1, .null, [], []),
  (13, .iconst 1, 1, .null, [], []),
  (14, .ireturn, 1, .null, [], []),
  (15, .iconst 0, 1, .null, [], []),
  (16, .ireturn, 1, .null, [], [])]
def e_m216 : e_MD := (⟨"HexCampaignLaw", "text", "(LHexCampaign;I[J)I"⟩, method_27_code, 4, (some .int), [(0, 9, 12, 13)], e_c216)
-- 217: HexCampaign$History.held()I
set_option maxRecDepth 100000 in
def e_c217 : List e_I := [(0, .aload_n 0, 1, .null, [], []),
  (1, .getfield 16, 3, .null, [5, 2, 0], [(1, 216)]),
  (4, .ireturn, 1, .null, [], [])]
def e_m217 : e_MD := (⟨"HexCampaign$History", "held", "()I"⟩, prog_4_method_2_code, 1, (some .int), [], e_c217)
-- 218: HexCampaign$History.takeBack(LHexCampaign$Game;)V
set_option maxRecDepth 100000 in
def e_c218 : List e_I := [(0, .aload_n 0, 1, .null, [], []),
  (1, .getfield 20, 3, .null, [5, 1, 0], [(1, 215)]),
  (4, .ifCond .le 12, 3, .null, [16], []),
  (7, .aload_n 0, 1, .null, [], []),
  (8, .getfield 20, 3, .null, [5, 1, 0], [(1, 215)]),
  (11, .iconst 1, 1, .null, [], []),
  (12, .isub, 1, .null, [], []),
  (13, .goto 5, 3, .null, [18], []),
  (16, .bipush 7, 2, .null, [], []),
  (18, .istore_n 2, 1, .null, [], []),
  (19, .aload_n 0, 1, .null, [], []),
  (20, .iload_n 2, 1, .null, [], []),
  (21, .invokevirtual 23, 3, .null, [18, 1, 0, 0, 0, 5], [(2, 82), (2, 84), (0, 0), (2, 85), (1, 7)]),
  (24, .astore_n 3, 1, .null, [], []),
  (25, .aload_n 0, 1, .null, [], []),
  (26, .getfield 16, 3, .null, [5, 2, 0], [(1, 216)]),
  (29, .ifCond .le 27, 3, .null, [56], []),
  (32, .aload_n 3, 1, .null, [], []),
  (33, .ifnull 23, 3, .null, [56], []),
  (36, .aload_n 1, 1, .null, [], []),
  (37, .aload_n 3, 1, .null, [], []),
  (38, .invokevirtual 27, 3, .null, [23, 1, 0, 0, 0, 2], [(2, 86), (2, 87), (2, 88), (2, 89), (1, 3)]),
  (41, .aload_n 0, 1, .null, [], []),
  (42, .iload_n 2, 1, .null, [], []),
  (43, .putfield 20, 3, .null, [5, 1, 0, 0], [(1, 215)]),
  (46, .aload_n 0, 1, .null, [], []),
  (47, .dup, 1, .null, [], []),
  (48, .getfield 16, 3, .null, [5, 2, 0], [(1, 216)]),
  (51, .iconst 1, 1, .null, [], []),
  (52, .isub, 1, .null, [], []),
  (53, .putfield 16, 3, .null, [5, 2, 0, 0], [(1, 216)]),
  (56, .return_, 1, .null, [], [])]
def e_m218 : e_MD := (⟨"HexCampaign$History", "takeBack", "(LHexCampaign$Game;)V"⟩, prog_4_method_5_code, 4, none, [], e_c218)
-- 219: HexCampaign.undo()I
set_option maxRecDepth 100000 in
def e_c219 : List e_I := [(0, .aload_n 0, 1, .null, [], []),
  (1, .getfield 34, 3, .null, [8, 4, 1], [(2, 38)]),
  (4, .invokevirtual 340, 3, .null, [217, 0, 0, 0, 0, 5], [(6, 154), (6, 155), (6, 156), (6, 157), (1, 7)]),
  (7, .ifCond .ne 11, 3, .null, [18], []),
  (10, .new 79, 3, .null, [1, 2, 81], [(3, 145), (1, 21), (3, 154)]),
  (18, .aload_n 0, 1, .null, [], []),
  (19, .getfield 34, 3, .null, [8, 4, 1], [(2, 38)]),
  (22, .aload_n 0, 1, .null, [], []),
  (23, .getfield 20, 3, .null, [8, 1, 1], [(2, 35)]),
  (26, .invokevirtual 343, 3, .null, [218, 1, 0, 0, 0, 5], [(6, 158), (6, 159), (6, 160), (6, 161), (1, 7)]),
  (29, .aload_n 0, 1, .null, [], []),
  (30, .getfield 34, 3, .null, [8, 4, 1], [(2, 38)]),
  (33, .invokevirtual 340, 3, .null, [217, 0, 0, 0, 0, 5], [(6, 154), (6, 155), (6, 156), (6, 157), (1, 7)]),
  (36, .ireturn, 1, .null, [], [])]
def e_m219 : e_MD := (⟨"HexCampaign", "undo", "()I"⟩, prog_1_method_29_code, 1, (some .int), [], e_c219)
-- 220: HexCampaignLaw.undo(LHexCampaign;[J)I
set_option maxRecDepth 100000 in
def e_c220 : List e_I := [(0, .aload_n 1, 1, .null, [], []),
  (1, .iconst 0, 1, .null, [], []),
  (2, .aload_n 0, 1, .null, [], []),
  (3, .invokevirtual 110, 3, .null, [219, 0, 0, 1, 6, 8, 2, 2, 12], [(6, 150), (6, 151), (6, 152), (6, 153), (1, 1), (3, 96)]),
  (6, .i2l, 1, .null, [], []),
  (7, .lastore, 1, .null, [], []),
  (8, .goto 6, 3, .null, [14], []),
  (11, .astore_n 2, 1, .null, [], []),
  (12, .iconst 1, 1, .null, [], []),
  (13, .ireturn, 1, .null, [], []),
  (14, .iconst 0, 1, .null, [], []),
  (15, .ireturn, 1, .null, [], [])]
def e_m220 : e_MD := (⟨"HexCampaignLaw", "undo", "(LHexCampaign;[J)I"⟩, method_28_code, 3, (some .int), [(0, 8, 11, 17)], e_c220)
-- 221: HexCampaign.restore()I
set_option maxRecDepth 100000 in
def e_c221 : List e_I := [(0, .aload_n 0, 1, .null, [], []),
  (1, .getfield 27, 3, .null, [8, 3, 0], [(2, 37)]),
  (4, .ifCond .ne 11, 3, .null, [15], []),
  (7, .new 79, 3, .null, [1, 2, 81], [(3, 145), (1, 21), (3, 154)]),
  (15, .aload_n 0, 1, .null, [], []),
  (16, .getfield 20, 3, .null, [8, 1, 1], [(2, 35)]),
  (19, .aload_n 0, 1, .null, [], []),
  (20, .getfield 24, 3, .null, [8, 2, 1], [(2, 36)]),
  (23, .invokevirtual 346, 3, .null, [23, 1, 0, 0, 0, 2], [(3, 11), (2, 87), (2, 88), (2, 89), (1, 3)]),
  (26, .aload_n 0, 1, .null, [], []),
  (27, .getfield 34, 3, .null, [8, 4, 1], [(2, 38)]),
  (30, .invokevirtual 66, 3, .null, [16, 0, 0, 0, 0, 5], [(2, 70), (2, 71), (2, 72), (2, 73), (1, 7)]),
  (33, .aload_n 0, 1, .null, [], []),
  (34, .getfield 20, 3, .null, [8, 1, 1], [(2, 35)]),
  (37, .getfield 56, 3, .null, [2, 1, 1], [(1, 117)]),
  (40, .invokevirtual 60, 3, .null, [15, 0, 0, 0, 0, 1], [(2, 60), (2, 61), (2, 62), (2, 63), (1, 5)]),
  (43, .ireturn, 1, .null, [], [])]
def e_m221 : e_MD := (⟨"HexCampaign", "restore", "()I"⟩, prog_1_method_31_code, 1, (some .int), [], e_c221)
-- 222: HexCampaignLaw.restore(LHexCampaign;[J)I
set_option maxRecDepth 100000 in
def e_c222 : List e_I := [(0, .aload_n 1, 1, .null, [], []),
  (1, .iconst 0, 1, .null, [], []),
  (2, .aload_n 0, 1, .null, [], []),
  (3, .invokevirtual 113, 3, .null, [221, 0, 0, 1, 6, 8, 2, 2, 12], [(6, 165), (6, 166), (6, 167), (6, 168), (1, 1), (3, 96)]),
  (6, .i2l, 1, .null, [], []),
  (7, .lastore, 1, .null, [], []),
  (8, .goto 6, 3, .null, [14], []),
  (11, .astore_n 2, 1, .null, [], []),
  (12, .iconst 1, 1, .null, [], []),
  (13, .ireturn, 1, .null, [], []),
  (14, .iconst 0, 1, .null, [], []),
  (15, .ireturn, 1, .null, [], [])]
def e_m222 : e_MD := (⟨"HexCampaignLaw", "restore", "(LHexCampaign;[J)I"⟩, method_29_code, 3, (some .int), [(0, 8, 11, 17)], e_c222)
-- 223: HexCampaignModel.<init>()V
set_option maxRecDepth 100000 in
def e_c223 : List e_I := [(0, .aload_n 0, 1, .null, [], []),
  (1, .invokespecial 3, 3, .null, [0, 0, 2, 0, 0], [(6, 174), (1, 37), (1, 38)]),
  (4, .aload_n 0, 1, .null, [], []),
  (5, .sipush 301, 3, .null, [], []),
  (8, .newarray .int, 2, .null, [0], [(1, 111)]),
  (10, .putfield 9, 3, .null, [9, 0, 1, 3], [(6, 175)]),
  (13, .aload_n 0, 1, .null, [], []),
  (14, .sipush 301, 3, .null, [], []),
  (17, .newarray .int, 2, .null, [0], [(1, 111)]),
  (19, .putfield 13, 3, .null, [9, 1, 1, 3], [(6, 176)]),
  (22, .aload_n 0, 1, .null, [], []),
  (23, .sipush 2408, 3, .null, [], []),
  (26, .newarray .int, 2, .null, [0], [(1, 111)]),
  (28, .putfield 16, 3, .null, [9, 3, 1, 3], [(6, 178)]),
  (31, .aload_n 0, 1, .null, [], []),
  (32, .bipush 63, 2, .null, [], []),
  (34, .newarray .int, 2, .null, [0], [(1, 111)]),
  (36, .putfield 19, 3, .null, [9, 6, 1, 3], [(6, 181)]),
  (39, .aload_n 0, 1, .null, [], []),
  (40, .bipush 63, 2, .null, [], []),
  (42, .newarray .int, 2, .null, [0], [(1, 111)]),
  (44, .putfield 22, 3, .null, [9, 7, 1, 3], [(6, 182)]),
  (47, .aload_n 0, 1, .null, [], []),
  (48, .bipush 63, 2, .null, [], []),
  (50, .newarray .int, 2, .null, [0], [(1, 111)]),
  (52, .putfield 25, 3, .null, [9, 12, 1, 3], [(6, 187)]),
  (55, .aload_n 0, 1, .null, [], []),
  (56, .bipush 6, 2, .null, [], []),
  (58, .newarray .int, 2, .null, [0], [(1, 111)]),
  (60, .putfield 28, 3, .null, [9, 14, 1, 3], [(6, 189)]),
  (63, .aload_n 0, 1, .null, [], []),
  (64, .bipush 80, 2, .null, [], []),
  (66, .newarray .char, 2, .null, [2], [(2, 13)]),
  (68, .putfield 31, 3, .null, [9, 16, 1, 3], [(6, 191)]),
  (71, .aload_n 0, 1, .null, [], []),
  (72, .getfield 9, 3, .null, [9, 0, 1], [(6, 175)]),
  (75, .sipush 190, 3, .null, [], []),
  (78, .bipush 10, 2, .null, [], []),
  (80, .iastore, 1, .null, [], []),
  (81, .return_, 1, .null, [], [])]
def e_m223 : e_MD := (⟨"HexCampaignModel", "<init>", "()V"⟩, prog_14_method_1_code, 1, none, [], e_c223)
-- 224: HexCampaignModel.thrown()I
set_option maxRecDepth 100000 in
def e_c224 : List e_I := [(0, .aload_n 0, 1, .null, [], []),
  (1, .getfield 35, 3, .null, [9, 5, 0], [(6, 180)]),
  (4, .ireturn, 1, .null, [], [])]
def e_m224 : e_MD := (⟨"HexCampaignModel", "thrown", "()I"⟩, prog_14_method_2_code, 1, (some .int), [], e_c224)
-- 225: HexCampaignModel.in(III)Z
set_option maxRecDepth 100000 in
def e_c225 : List e_I := [(0, .iload_n 0, 1, .null, [], []),
  (1, .iload_n 1, 1, .null, [], []),
  (2, .if_icmp .lt 12, 3, .null, [14], []),
  (5, .iload_n 0, 1, .null, [], []),
  (6, .iload_n 2, 1, .null, [], []),
  (7, .if_icmp .gt 7, 3, .null, [14], []),
  (10, .iconst 1, 1, .null, [], []),
  (11, .goto 4, 3, .null, [15], []),
  (14, .iconst 0, 1, .null, [], []),
  (15, .ireturn, 1, .null, [], [])]
def e_m225 : e_MD := (⟨"HexCampaignModel", "in", "(III)Z"⟩, prog_14_method_3_code, 3, (some .boolean), [], e_c225)
-- 226: HexCampaignModel.of(II)I
set_option maxRecDepth 100000 in
def e_c226 : List e_I := [(0, .aload_n 0, 1, .null, [], []),
  (1, .getfield 9, 3, .null, [9, 0, 1], [(6, 175)]),
  (4, .sipush 205, 3, .null, [], []),
  (7, .bipush 6, 2, .null, [], []),
  (9, .iload_n 1, 1, .null, [], []),
  (10, .imul, 1, .null, [], []),
  (11, .iadd, 1, .null, [], []),
  (12, .iload_n 2, 1, .null, [], []),
  (13, .iadd, 1, .null, [], []),
  (14, .iaload, 1, .null, [], []),
  (15, .ireturn, 1, .null, [], [])]
def e_m226 : e_MD := (⟨"HexCampaignModel", "of", "(II)I"⟩, prog_14_method_7_code, 3, (some .int), [], e_c226)
-- 227: HexCampaignModel.isUnit(I)Z
set_option maxRecDepth 100000 in
def e_c227 : List e_I := [(0, .iload_n 1, 1, .null, [], []),
  (1, .iconst 0, 1, .null, [], []),
  (2, .aload_n 0, 1, .null, [], []),
  (3, .getfield 9, 3, .null, [9, 0, 1], [(6, 175)]),
  (6, .sipush 196, 3, .null, [], []),
  (9, .iaload, 1, .null, [], []),
  (10, .iconst 1, 1, .null, [], []),
  (11, .isub, 1, .null, [], []),
  (12, .invokestatic 39, 3, .null, [225, 3, 0, 0, 0], [(7, 6), (7, 7), (1, 11), (7, 8)]),
  (15, .ifCond .eq 16, 3, .null, [31], []),
  (18, .aload_n 0, 1, .null, [], []),
  (19, .iload_n 1, 1, .null, [], []),
  (20, .iconst 2, 1, .null, [], []),
  (21, .invokevirtual 43, 3, .null, [226, 2, 0, 0, 0, 9], [(7, 9), (7, 11), (0, 25), (7, 12), (1, 11)]),
  (24, .ifCond .le 7, 3, .null, [31], []),
  (27, .iconst 1, 1, .null, [], []),
  (28, .goto 4, 3, .null, [32], []),
  (31, .iconst 0, 1, .null, [], []),
  (32, .ireturn, 1, .null, [], [])]
def e_m227 : e_MD := (⟨"HexCampaignModel", "isUnit", "(I)Z"⟩, prog_14_method_9_code, 2, (some .boolean), [], e_c227)
-- 228: HexCampaignModel.unitCount()I
set_option maxRecDepth 100000 in
def e_c228 : List e_I := [(0, .iconst 0, 1, .null, [], []),
  (1, .istore_n 1, 1, .null, [], []),
  (2, .iconst 0, 1, .null, [], []),
  (3, .istore_n 2, 1, .null, [], []),
  (4, .iload_n 2, 1, .null, [], []),
  (5, .aload_n 0, 1, .null, [], []),
  (6, .getfield 9, 3, .null, [9, 0, 1], [(6, 175)]),
  (9, .sipush 196, 3, .null, [], []),
  (12, .iaload, 1, .null, [], []),
  (13, .if_icmp .ge 25, 3, .null, [38], []),
  (16, .iload_n 1, 1, .null, [], []),
  (17, .aload_n 0, 1, .null, [], []),
  (18, .iload_n 2, 1, .null, [], []),
  (19, .invokevirtual 47, 3, .null, [227, 1, 0, 0, 0, 9], [(7, 2), (7, 4), (0, 24), (7, 5), (1, 11)]),
  (22, .ifCond .eq 7, 3, .null, [29], []),
  (25, .iconst 1, 1, .null, [], []),
  (26, .goto 4, 3, .null, [30], []),
  (29, .iconst 0, 1, .null, [], []),
  (30, .iadd, 1, .null, [], []),
  (31, .istore_n 1, 1, .null, [], []),
  (32, .iinc 2 1, 3, .null, [], []),
  (35, .goto (-31), 3, .null, [4], []),
  (38, .iload_n 1, 1, .null, [], []),
  (39, .ireturn, 1, .null, [], [])]
def e_m228 : e_MD := (⟨"HexCampaignModel", "unitCount", "()I"⟩, prog_14_method_12_code, 3, (some .int), [], e_c228)
-- 229: HexCampaignModel.start(I)I
set_option maxRecDepth 100000 in
def e_c229 : List e_I := [(0, .aload_n 0, 1, .null, [], []),
  (1, .iconst 0, 1, .null, [], []),
  (2, .putfield 35, 3, .null, [9, 5, 0, 0], [(6, 180)]),
  (5, .aload_n 0, 1, .null, [], []),
  (6, .invokevirtual 60, 3, .null, [228, 0, 0, 0, 0, 9], [(6, 238), (7, 0), (0, 23), (7, 1), (1, 11)]),
  (9, .istore_n 2, 1, .null, [], []),
  (10, .iconst 0, 1, .null, [], []),
  (11, .istore_n 3, 1, .null, [], []),
  (12, .iload_n 3, 1, .null, [], []),
  (13, .sipush 301, 3, .null, [], []),
  (16, .if_icmp .ge 16, 3, .null, [32], []),
  (19, .aload_n 0, 1, .null, [], []),
  (20, .getfield 9, 3, .null, [9, 0, 1], [(6, 175)]),
  (23, .iload_n 3, 1, .null, [], []),
  (24, .iconst 0, 1, .null, [], []),
  (25, .iastore, 1, .null, [], []),
  (26, .iinc 3 1, 3, .null, [], []),
  (29, .goto (-17), 3, .null, [12], []),
  (32, .aload_n 0, 1, .null, [], []),
  (33, .getfield 9, 3, .null, [9, 0, 1], [(6, 175)]),
  (36, .sipush 190, 3, .null, [], []),
  (39, .bipush 10, 2, .null, [], []),
  (41, .iastore, 1, .null, [], []),
  (42, .aload_n 0, 1, .null, [], []),
  (43, .getfield 9, 3, .null, [9, 0, 1], [(6, 175)]),
  (46, .sipush 193, 3, .null, [], []),
  (49, .iload_n 1, 1, .null, [], []),
  (50, .iastore, 1, .null, [], []),
  (51, .aload_n 0, 1, .null, [], []),
  (52, .iconst 0, 1, .null, [], []),
  (53, .putfield 51, 3, .null, [9, 4, 0, 0], [(6, 179)]),
  (56, .iload_n 2, 1, .null, [], []),
  (57, .ireturn, 1, .null, [], [])]
def e_m229 : e_MD := (⟨"HexCampaignModel", "start", "(I)I"⟩, prog_14_method_13_code, 4, (some .int), [], e_c229)
-- 230: HexCampaignModel.isCell(I)Z
set_option maxRecDepth 100000 in
def e_c230 : List e_I := [(0, .iload_n 0, 1, .null, [], []),
  (1, .iconst 0, 1, .null, [], []),
  (2, .bipush 62, 2, .null, [], []),
  (4, .invokestatic 39, 3, .null, [225, 3, 0, 0, 0], [(7, 6), (7, 7), (1, 11), (7, 8)]),
  (7, .ireturn, 1, .null, [], [])]
def e_m230 : e_MD := (⟨"HexCampaignModel", "isCell", "(I)Z"⟩, prog_14_method_4_code, 1, (some .boolean), [], e_c230)
-- 231: HexCampaignModel.unitsOn(I)I
set_option maxRecDepth 100000 in
def e_c231 : List e_I := [(0, .iconst 0, 1, .null, [], []),
  (1, .istore_n 2, 1, .null, [], []),
  (2, .iconst 0, 1, .null, [], []),
  (3, .istore_n 3, 1, .null, [], []),
  (4, .iload_n 3, 1, .null, [], []),
  (5, .aload_n 0, 1, .null, [], []),
  (6, .getfield 9, 3, .null, [9, 0, 1], [(6, 175)]),
  (9, .sipush 196, 3, .null, [], []),
  (12, .iaload, 1, .null, [], []),
  (13, .if_icmp .ge 37, 3, .null, [50], []),
  (16, .iload_n 2, 1, .null, [], []),
  (17, .aload_n 0, 1, .null, [], []),
  (18, .iload_n 3, 1, .null, [], []),
  (19, .invokevirtual 47, 3, .null, [227, 1, 0, 0, 0, 9], [(7, 2), (7, 4), (0, 24), (7, 5), (1, 11)]),
  (22, .ifCond .eq 19, 3, .null, [41], []),
  (25, .aload_n 0, 1, .null, [], []),
  (26, .iload_n 3, 1, .null, [], []),
  (27, .iconst 1, 1, .null, [], []),
  (28, .invokevirtual 43, 3, .null, [226, 2, 0, 0, 0, 9], [(7, 9), (7, 11), (0, 25), (7, 12), (1, 11)]),
  (31, .iload_n 1, 1, .null, [], []),
  (32, .if_icmp .ne 9, 3, .null, [41], []),
  (35, .iconst 1, 1, .null, [], []),
  (36, .iload_n 3, 1, .null, [], []),
  (37, .ishl, 1, .null, [], []),
  (38, .goto 4, 3, .null, [42], []),
  (41, .iconst 0, 1, .null, [], []),
  (42, .ior, 1, .null, [], []),
  (43, .istore_n 2, 1, .null, [], []),
  (44, .iinc 3 1, 3, .null, [], []),
  (47, .goto (-43), 3, .null, [4], []),
  (50, .iload_n 2, 1, .null, [], []),
  (51, .ireturn, 1, .null, [], [])]
def e_m231 : e_MD := (⟨"HexCampaignModel", "unitsOn", "(I)I"⟩, prog_14_method_14_code, 4, (some .int), [], e_c231)
-- 232: HexCampaignModel.change()V
set_option maxRecDepth 100000 in
def e_c232 : List e_I := [(0, .aload_n 0, 1, .null, [], []),
  (1, .getfield 51, 3, .null, [9, 4, 0], [(6, 179)]),
  (4, .bipush 8, 2, .null, [], []),
  (6, .if_icmp .ne 31, 3, .null, [37], []),
  (9, .aload_n 0, 1, .null, [], []),
  (10, .getfield 16, 3, .null, [9, 3, 1], [(6, 178)]),
  (13, .sipush 301, 3, .null, [], []),
  (16, .aload_n 0, 1, .null, [], []),
  (17, .getfield 16, 3, .null, [9, 3, 1], [(6, 178)]),
  (20, .iconst 0, 1, .null, [], []),
  (21, .sipush 2107, 3, .null, [], []),
  (24, .invokestatic 54, 3, .null, [0, 5, 3, 0, 0], [(7, 28), (7, 30), (7, 29), (1, 23)]),
  (27, .aload_n 0, 1, .null, [], []),
  (28, .dup, 1, .null, [], []),
  (29, .getfield 51, 3, .null, [9, 4, 0], [(6, 179)]),
  (32, .iconst 1, 1, .null, [], []),
  (33, .isub, 1, .null, [], []),
  (34, .putfield 51, 3, .null, [9, 4, 0, 0], [(6, 179)]),
  (37, .aload_n 0, 1, .null, [], []),
  (38, .getfield 9, 3, .null, [9, 0, 1], [(6, 175)]),
  (41, .iconst 0, 1, .null, [], []),
  (42, .aload_n 0, 1, .null, [], []),
  (43, .getfield 16, 3, .null, [9, 3, 1], [(6, 178)]),
  (46, .sipush 301, 3, .null, [], []),
  (49, .aload_n 0, 1, .null, [], []),
  (50, .getfield 51, 3, .null, [9, 4, 0], [(6, 179)]),
  (53, .imul, 1, .null, [], []),
  (54, .sipush 301, 3, .null, [], []),
  (57, .invokestatic 54, 3, .null, [0, 5, 3, 0, 0], [(7, 28), (7, 30), (7, 29), (1, 23)]),
  (60, .aload_n 0, 1, .null, [], []),
  (61, .dup, 1, .null, [], []),
  (62, .getfield 51, 3, .null, [9, 4, 0], [(6, 179)]),
  (65, .iconst 1, 1, .null, [], []),
  (66, .iadd, 1, .null, [], []),
  (67, .putfield 51, 3, .null, [9, 4, 0, 0], [(6, 179)]),
  (70, .return_, 1, .null, [], [])]
def e_m232 : e_MD := (⟨"HexCampaignModel", "change", "()V"⟩, prog_14_method_11_code, 1, none, [], e_c232)
-- 233: HexCampaignModel.setTerrain(IIZ)I
set_option maxRecDepth 100000 in
def e_c233 : List e_I := [(0, .aload_n 0, 1, .null, [], []),
  (1, .iload_n 1, 1, .null, [], []),
  (2, .invokestatic 64, 3, .null, [230, 1, 0, 0, 0], [(7, 17), (7, 18), (1, 11), (7, 19)]),
  (5, .ifCond .ne 7, 3, .null, [12], []),
  (8, .iconst 1, 1, .null, [], []),
  (9, .goto 43, 3, .null, [52], []),
  (12, .iload_n 2, 1, .null, [], []),
  (13, .iconst 0, 1, .null, [], []),
  (14, .iconst 5, 1, .null, [], []),
  (15, .invokestatic 39, 3, .null, [225, 3, 0, 0, 0], [(7, 6), (7, 7), (1, 11), (7, 8)]),
  (18, .ifCond .eq 12, 3, .null, [30], []),
  (21, .iload_n 2, 1, .null, [], []),
  (22, .iconst 5, 1, .null, [], []),
  (23, .if_icmp .ne 11, 3, .null, [34], []),
  (26, .iload_n 3, 1, .null, [], []),
  (27, .ifCond .eq 7, 3, .null, [34], []),
  (30, .iconst 2, 1, .null, [], []),
  (31, .goto 21, 3, .null, [52], []),
  (34, .iload_n 2, 1, .null, [], []),
  (35, .iconst 5, 1, .null, [], []),
  (36, .if_icmp .ne 15, 3, .null, [51], []),
  (39, .aload_n 0, 1, .null, [], []),
  (40, .iload_n 1, 1, .null, [], []),
  (41, .invokevirtual 67, 3, .null, [231, 1, 0, 0, 0, 9], [(7, 20), (7, 22), (0, 26), (7, 23), (1, 11)]),
  (44, .ifCond .eq 7, 3, .null, [51], []),
  (47, .iconst 3, 1, .null, [], []),
  (48, .goto 4, 3, .null, [52], []),
  (51, .iconst 0, 1, .null, [], []),
  (52, .putfield 35, 3, .null, [9, 5, 0, 0], [(6, 180)]),
  (55, .aload_n 0, 1, .null, [], []),
  (56, .getfield 35, 3, .null, [9, 5, 0], [(6, 180)]),
  (59, .ifCond .le 5, 3, .null, [64], []),
  (62, .iconst 0, 1, .null, [], []),
  (63, .ireturn, 1, .null, [], []),
  (64, .aload_n 0, 1, .null, [], []),
  (65, .invokevirtual 71, 3, .null, [232, 0, 0, 0, 0, 9], [(7, 24), (7, 26), (0, 27), (7, 27), (1, 11)]),
  (68, .aload_n 0, 1, .null, [], []),
  (69, .getfield 9, 3, .null, [9, 0, 1], [(6, 175)]),
  (72, .iload_n 1, 1, .null, [], []),
  (73, .iaload, 1, .null, [], []),
  (74, .istore 4, 2, .null, [], []),
  (76, .aload_n 0, 1, .null, [], []),
  (77, .getfield 9, 3, .null, [9, 0, 1], [(6, 175)]),
  (80, .iload_n 1, 1, .null, [], []),
  (81, .iload_n 2, 1, .null, [], []),
  (82, .iastore, 1, .null, [], []),
  (83, .aload_n 0, 1, .null, [], []),
  (84, .getfield 9, 3, .null, [9, 0, 1], [(6, 175)]),
  (87, .bipush 63, 2, .null, [], []),
  (89, .iload_n 1, 1, .null, [], []),
  (90, .iadd, 1, .null, [], []),
  (91, .iload_n 3, 1, .null, [], []),
  (92, .ifCond .eq 7, 3, .null, [99], []),
  (95, .iconst 1, 1, .null, [], []),
  (96, .goto 4, 3, .null, [100], []),
  (99, .iconst 0, 1, .null, [], []),
  (100, .iastore, 1, .null, [], []),
  (101, .iload 4, 2, .null, [], []),
  (103, .ireturn, 1, .null, [], [])]
def e_m233 : e_MD := (⟨"HexCampaignModel", "setTerrain", "(IIZ)I"⟩, prog_14_method_15_code, 5, (some .int), [], e_c233)
-- 234: HexCampaignModel.isSide(I)Z
set_option maxRecDepth 100000 in
def e_c234 : List e_I := [(0, .iload_n 0, 1, .null, [], []),
  (1, .iconst 0, 1, .null, [], []),
  (2, .iconst 1, 1, .null, [], []),
  (3, .invokestatic 39, 3, .null, [225, 3, 0, 0, 0], [(7, 6), (7, 7), (1, 11), (7, 8)]),
  (6, .ireturn, 1, .null, [], [])]
def e_m234 : e_MD := (⟨"HexCampaignModel", "isSide", "(I)Z"⟩, prog_14_method_5_code, 1, (some .boolean), [], e_c234)
-- 235: HexCampaignModel.setSource(IIZ)Z
set_option maxRecDepth 100000 in
def e_c235 : List e_I := [(0, .aload_n 0, 1, .null, [], []),
  (1, .iload_n 1, 1, .null, [], []),
  (2, .invokestatic 64, 3, .null, [230, 1, 0, 0, 0], [(7, 17), (7, 18), (1, 11), (7, 19)]),
  (5, .ifCond .eq 14, 3, .null, [19], []),
  (8, .iload_n 2, 1, .null, [], []),
  (9, .invokestatic 74, 3, .null, [234, 1, 0, 0, 0], [(7, 35), (7, 36), (1, 11), (7, 37)]),
  (12, .ifCond .eq 7, 3, .null, [19], []),
  (15, .iconst 0, 1, .null, [], []),
  (16, .goto 4, 3, .null, [20], []),
  (19, .iconst 1, 1, .null, [], []),
  (20, .putfield 35, 3, .null, [9, 5, 0, 0], [(6, 180)]),
  (23, .aload_n 0, 1, .null, [], []),
  (24, .getfield 35, 3, .null, [9, 5, 0], [(6, 180)]),
  (27, .ifCond .le 5, 3, .null, [32], []),
  (30, .iconst 0, 1, .null, [], []),
  (31, .ireturn, 1, .null, [], []),
  (32, .aload_n 0, 1, .null, [], []),
  (33, .invokevirtual 71, 3, .null, [232, 0, 0, 0, 0, 9], [(7, 24), (7, 26), (0, 27), (7, 27), (1, 11)]),
  (36, .aload_n 0, 1, .null, [], []),
  (37, .getfield 9, 3, .null, [9, 0, 1], [(6, 175)]),
  (40, .bipush 126, 2, .null, [], []),
  (42, .iload_n 1, 1, .null, [], []),
  (43, .iadd, 1, .null, [], []),
  (44, .iaload, 1, .null, [], []),
  (45, .iload_n 2, 1, .null, [], []),
  (46, .ishr, 1, .null, [], []),
  (47, .iconst 1, 1, .null, [], []),
  (48, .iand, 1, .null, [], []),
  (49, .iconst 1, 1, .null, [], []),
  (50, .if_icmp .ne 7, 3, .null, [57], []),
  (53, .iconst 1, 1, .null, [], []),
  (54, .goto 4, 3, .null, [58], []),
  (57, .iconst 0, 1, .null, [], []),
  (58, .istore 4, 2, .null, [], []),
  (60, .aload_n 0, 1, .null, [], []),
  (61, .getfield 9, 3, .null, [9, 0, 1], [(6, 175)]),
  (64, .bipush 126, 2, .null, [], []),
  (66, .iload_n 1, 1, .null, [], []),
  (67, .iadd, 1, .null, [], []),
  (68, .aload_n 0, 1, .null, [], []),
  (69, .getfield 9, 3, .null, [9, 0, 1], [(6, 175)]),
  (72, .bipush 126, 2, .null, [], []),
  (74, .iload_n 1, 1, .null, [], []),
  (75, .iadd, 1, .null, [], []),
  (76, .iaload, 1, .null, [], []),
  (77, .iconst 1, 1, .null, [], []),
  (78, .iload_n 2, 1, .null, [], []),
  (79, .ishl, 1, .null, [], []),
  (80, .iconst (-1), 1, .null, [], []),
  (81, .ixor, 1, .null, [], []),
  (82, .iand, 1, .null, [], []),
  (83, .iload_n 3, 1, .null, [], []),
  (84, .ifCond .eq 9, 3, .null, [93], []),
  (87, .iconst 1, 1, .null, [], []),
  (88, .iload_n 2, 1, .null, [], []),
  (89, .ishl, 1, .null, [], []),
  (90, .goto 4, 3, .null, [94], []),
  (93, .iconst 0, 1, .null, [], []),
  (94, .ior, 1, .null, [], []),
  (95, .iastore, 1, .null, [], []),
  (96, .iload 4, 2, .null, [], []),
  (98, .ireturn, 1, .null, [], [])]
def e_m235 : e_MD := (⟨"HexCampaignModel", "setSource", "(IIZ)Z"⟩, prog_14_method_16_code, 5, (some .boolean), [], e_c235)
-- 236: HexCampaignModel.set(ZI)I
set_option maxRecDepth 100000 in
def e_c236 : List e_I := [(0, .aload_n 0, 1, .null, [], []),
  (1, .iload_n 1, 1, .null, [], []),
  (2, .ifCond .eq 20, 3, .null, [22], []),
  (5, .iload_n 2, 1, .null, [], []),
  (6, .iconst 0, 1, .null, [], []),
  (7, .iconst 2, 1, .null, [], []),
  (8, .invokestatic 39, 3, .null, [225, 3, 0, 0, 0], [(7, 6), (7, 7), (1, 11), (7, 8)]),
  (11, .ifCond .eq 7, 3, .null, [18], []),
  (14, .iconst 0, 1, .null, [], []),
  (15, .goto 22, 3, .null, [37], []),
  (18, .iconst 1, 1, .null, [], []),
  (19, .goto 18, 3, .null, [37], []),
  (22, .iload_n 2, 1, .null, [], []),
  (23, .iconst 1, 1, .null, [], []),
  (24, .bipush 30, 2, .null, [], []),
  (26, .invokestatic 39, 3, .null, [225, 3, 0, 0, 0], [(7, 6), (7, 7), (1, 11), (7, 8)]),
  (29, .ifCond .eq 7, 3, .null, [36], []),
  (32, .iconst 0, 1, .null, [], []),
  (33, .goto 4, 3, .null, [37], []),
  (36, .iconst 1, 1, .null, [], []),
  (37, .putfield 35, 3, .null, [9, 5, 0, 0], [(6, 180)]),
  (40, .aload_n 0, 1, .null, [], []),
  (41, .getfield 35, 3, .null, [9, 5, 0], [(6, 180)]),
  (44, .ifCond .le 5, 3, .null, [49], []),
  (47, .iconst 0, 1, .null, [], []),
  (48, .ireturn, 1, .null, [], []),
  (49, .aload_n 0, 1, .null, [], []),
  (50, .invokevirtual 71, 3, .null, [232, 0, 0, 0, 0, 9], [(7, 24), (7, 26), (0, 27), (7, 27), (1, 11)]),
  (53, .iload_n 1, 1, .null, [], []),
  (54, .ifCond .eq 9, 3, .null, [63], []),
  (57, .sipush 189, 3, .null, [], []),
  (60, .goto 6, 3, .null, [66], []),
  (63, .sipush 190, 3, .null, [], []),
  (66, .istore_n 3, 1, .null, [], []),
  (67, .aload_n 0, 1, .null, [], []),
  (68, .getfield 9, 3, .null, [9, 0, 1], [(6, 175)]),
  (71, .iload_n 3, 1, .null, [], []),
  (72, .iaload, 1, .null, [], []),
  (73, .istore 4, 2, .null, [], []),
  (75, .aload_n 0, 1, .null, [], []),
  (76, .getfield 9, 3, .null, [9, 0, 1], [(6, 175)]),
  (79, .iload_n 3, 1, .null, [], []),
  (80, .iload_n 2, 1, .null, [], []),
  (81, .iastore, 1, .null, [], []),
  (82, .iload 4, 2, .null, [], []),
  (84, .ireturn, 1, .null, [], [])]
def e_m236 : e_MD := (⟨"HexCampaignModel", "set", "(ZI)I"⟩, prog_14_method_17_code, 5, (some .int), [], e_c236)
-- 237: HexCampaignModel.strengthOn(I)I
set_option maxRecDepth 100000 in
def e_c237 : List e_I := [(0, .iconst 0, 1, .null, [], []),
  (1, .istore_n 2, 1, .null, [], []),
  (2, .iconst 0, 1, .null, [], []),
  (3, .istore_n 3, 1, .null, [], []),
  (4, .iload_n 3, 1, .null, [], []),
  (5, .aload_n 0, 1, .null, [], []),
  (6, .getfield 9, 3, .null, [9, 0, 1], [(6, 175)]),
  (9, .sipush 196, 3, .null, [], []),
  (12, .iaload, 1, .null, [], []),
  (13, .if_icmp .ge 40, 3, .null, [53], []),
  (16, .iload_n 2, 1, .null, [], []),
  (17, .aload_n 0, 1, .null, [], []),
  (18, .iload_n 3, 1, .null, [], []),
  (19, .invokevirtual 47, 3, .null, [227, 1, 0, 0, 0, 9], [(7, 2), (7, 4), (0, 24), (7, 5), (1, 11)]),
  (22, .ifCond .eq 22, 3, .null, [44], []),
  (25, .aload_n 0, 1, .null, [], []),
  (26, .iload_n 3, 1, .null, [], []),
  (27, .iconst 1, 1, .null, [], []),
  (28, .invokevirtual 43, 3, .null, [226, 2, 0, 0, 0, 9], [(7, 9), (7, 11), (0, 25), (7, 12), (1, 11)]),
  (31, .iload_n 1, 1, .null, [], []),
  (32, .if_icmp .ne 12, 3, .null, [44], []),
  (35, .aload_n 0, 1, .null, [], []),
  (36, .iload_n 3, 1, .null, [], []),
  (37, .iconst 2, 1, .null, [], []),
  (38, .invokevirtual 43, 3, .null, [226, 2, 0, 0, 0, 9], [(7, 9), (7, 11), (0, 25), (7, 12), (1, 11)]),
  (41, .goto 4, 3, .null, [45], []),
  (44, .iconst 0, 1, .null, [], []),
  (45, .iadd, 1, .null, [], []),
  (46, .istore_n 2, 1, .null, [], []),
  (47, .iinc 3 1, 3, .null, [], []),
  (50, .goto (-46), 3, .null, [4], []),
  (53, .iload_n 2, 1, .null, [], []),
  (54, .ireturn, 1, .null, [], [])]
def e_m237 : e_MD := (⟨"HexCampaignModel", "strengthOn", "(I)I"⟩, prog_14_method_18_code, 4, (some .int), [], e_c237)
-- 238: HexCampaignModel.cell(II)I
set_option maxRecDepth 100000 in
def e_c238 : List e_I := [(0, .aload_n 0, 1, .null, [], []),
  (1, .iload_n 1, 1, .null, [], []),
  (2, .invokestatic 64, 3, .null, [230, 1, 0, 0, 0], [(7, 17), (7, 18), (1, 11), (7, 19)]),
  (5, .ifCond .ne 7, 3, .null, [12], []),
  (8, .iconst 1, 1, .null, [], []),
  (9, .goto 17, 3, .null, [26], []),
  (12, .iload_n 2, 1, .null, [], []),
  (13, .iconst 0, 1, .null, [], []),
  (14, .iconst 4, 1, .null, [], []),
  (15, .invokestatic 39, 3, .null, [225, 3, 0, 0, 0], [(7, 6), (7, 7), (1, 11), (7, 8)]),
  (18, .ifCond .ne 7, 3, .null, [25], []),
  (21, .iconst 2, 1, .null, [], []),
  (22, .goto 4, 3, .null, [26], []),
  (25, .iconst 0, 1, .null, [], []),
  (26, .putfield 35, 3, .null, [9, 5, 0, 0], [(6, 180)]),
  (29, .aload_n 0, 1, .null, [], []),
  (30, .getfield 35, 3, .null, [9, 5, 0], [(6, 180)]),
  (33, .ifCond .le 5, 3, .null, [38], []),
  (36, .iconst 0, 1, .null, [], []),
  (37, .ireturn, 1, .null, [], []),
  (38, .iload_n 2, 1, .null, [], []),
  (39, .iconst 3, 1, .null, [], []),
  (40, .if_icmp .ge 17, 3, .null, [57], []),
  (43, .aload_n 0, 1, .null, [], []),
  (44, .getfield 9, 3, .null, [9, 0, 1], [(6, 175)]),
  (47, .bipush 63, 2, .null, [], []),
  (49, .iload_n 2, 1, .null, [], []),
  (50, .imul, 1, .null, [], []),
  (51, .iload_n 1, 1, .null, [], []),
  (52, .iadd, 1, .null, [], []),
  (53, .iaload, 1, .null, [], []),
  (54, .goto 21, 3, .null, [75], []),
  (57, .iload_n 2, 1, .null, [], []),
  (58, .iconst 3, 1, .null, [], []),
  (59, .if_icmp .ne 11, 3, .null, [70], []),
  (62, .aload_n 0, 1, .null, [], []),
  (63, .iload_n 1, 1, .null, [], []),
  (64, .invokevirtual 67, 3, .null, [231, 1, 0, 0, 0, 9], [(7, 20), (7, 22), (0, 26), (7, 23), (1, 11)]),
  (67, .goto 8, 3, .null, [75], []),
  (70, .aload_n 0, 1, .null, [], []),
  (71, .iload_n 1, 1, .null, [], []),
  (72, .invokevirtual 77, 3, .null, [237, 1, 0, 0, 0, 9], [(7, 46), (7, 48), (0, 28), (7, 49), (1, 11)]),
  (75, .ireturn, 1, .null, [], [])]
def e_m238 : e_MD := (⟨"HexCampaignModel", "cell", "(II)I"⟩, prog_14_method_19_code, 3, (some .int), [], e_c238)
-- 239: HexCampaignModel.next(II)I
set_option maxRecDepth 100000 in
def e_c239 : List e_I := [(0, .iload_n 0, 1, .null, [], []),
  (1, .bipush 9, 2, .null, [], []),
  (3, .idiv, 1, .null, [], []),
  (4, .istore_n 2, 1, .null, [], []),
  (5, .iload_n 0, 1, .null, [], []),
  (6, .bipush 9, 2, .null, [], []),
  (8, .irem, 1, .null, [], []),
  (9, .istore_n 3, 1, .null, [], []),
  (10, .iload_n 2, 1, .null, [], []),
  (11, .iconst 2, 1, .null, [], []),
  (12, .irem, 1, .null, [], []),
  (13, .ifCond .ne 7, 3, .null, [20], []),
  (16, .iconst 1, 1, .null, [], []),
  (17, .goto 4, 3, .null, [21], []),
  (20, .iconst 0, 1, .null, [], []),
  (21, .istore 4, 2, .null, [], []),
  (23, .iload_n 1, 1, .null, [], []),
  (24, .ifCond .eq 13, 3, .null, [37], []),
  (27, .iload_n 1, 1, .null, [], []),
  (28, .iconst 1, 1, .null, [], []),
  (29, .if_icmp .eq 8, 3, .null, [37], []),
  (32, .iload_n 1, 1, .null, [], []),
  (33, .iconst 5, 1, .null, [], []),
  (34, .if_icmp .ne 7, 3, .null, [41], []),
  (37, .iconst 1, 1, .null, [], []),
  (38, .goto 4, 3, .null, [42], []),
  (41, .iconst 0, 1, .null, [], []),
  (42, .istore 5, 2, .null, [], []),
  (44, .iload_n 1, 1, .null, [], []),
  (45, .ifCond .eq 8, 3, .null, [53], []),
  (48, .iload_n 1, 1, .null, [], []),
  (49, .iconst 3, 1, .null, [], []),
  (50, .if_icmp .ne 19, 3, .null, [69], []),
  (53, .iload_n 3, 1, .null, [], []),
  (54, .iload 5, 2, .null, [], []),
  (56, .ifCond .eq 7, 3, .null, [63], []),
  (59, .iconst 1, 1, .null, [], []),
  (60, .goto 4, 3, .null, [64], []),
  (63, .iconst (-1), 1, .null, [], []),
  (64, .iadd, 1, .null, [], []),
  (65, .istore_n 3, 1, .null, [], []),
  (66, .goto 47, 3, .null, [113], []),
  (69, .iload_n 2, 1, .null, [], []),
  (70, .iload_n 1, 1, .null, [], []),
  (71, .iconst 3, 1, .null, [], []),
  (72, .if_icmp .ge 7, 3, .null, [79], []),
  (75, .iconst (-1), 1, .null, [], []),
  (76, .goto 4, 3, .null, [80], []),
  (79, .iconst 1, 1, .null, [], []),
  (80, .iadd, 1, .null, [], []),
  (81, .istore_n 2, 1, .null, [], []),
  (82, .iload_n 3, 1, .null, [], []),
  (83, .iload 5, 2, .null, [], []),
  (85, .ifCond .eq 16, 3, .null, [101], []),
  (88, .iload 4, 2, .null, [], []),
  (90, .ifCond .eq 7, 3, .null, [97], []),
  (93, .iconst 0, 1, .null, [], []),
  (94, .goto 17, 3, .null, [111], []),
  (97, .iconst 1, 1, .null, [], []),
  (98, .goto 13, 3, .null, [111], []),
  (101, .iload 4, 2, .null, [], []),
  (103, .ifCond .eq 7, 3, .null, [110], []),
  (106, .iconst (-1), 1, .null, [], []),
  (107, .goto 4, 3, .null, [111], []),
  (110, .iconst 0, 1, .null, [], []),
  (111, .iadd, 1, .null, [], []),
  (112, .istore_n 3, 1, .null, [], []),
  (113, .iload_n 2, 1, .null, [], []),
  (114, .iconst 0, 1, .null, [], []),
  (115, .bipush 6, 2, .null, [], []),
  (117, .invokestatic 39, 3, .null, [225, 3, 0, 0, 0], [(7, 6), (7, 7), (1, 11), (7, 8)]),
  (120, .ifCond .eq 22, 3, .null, [142], []),
  (123, .iload_n 3, 1, .null, [], []),
  (124, .iconst 0, 1, .null, [], []),
  (125, .bipush 8, 2, .null, [], []),
  (127, .invokestatic 39, 3, .null, [225, 3, 0, 0, 0], [(7, 6), (7, 7), (1, 11), (7, 8)]),
  (130, .ifCond .eq 12, 3, .null, [142], []),
  (133, .bipush 9, 2, .null, [], []),
  (135, .iload_n 2, 1, .null, [], []),
  (136, .imul, 1, .null, [], []),
  (137, .iload_n 3, 1, .null, [], []),
  (138, .iadd, 1, .null, [], []),
  (139, .goto 4, 3, .null, [143], []),
  (142, .iconst (-1), 1, .null, [], []),
  (143, .ireturn, 1, .null, [], [])]
def e_m239 : e_MD := (⟨"HexCampaignModel", "next", "(II)I"⟩, prog_14_method_20_code, 6, (some .int), [], e_c239)
-- 240: HexCampaignModel.neighbor(II)I
set_option maxRecDepth 100000 in
def e_c240 : List e_I := [(0, .aload_n 0, 1, .null, [], []),
  (1, .iload_n 1, 1, .null, [], []),
  (2, .invokestatic 64, 3, .null, [230, 1, 0, 0, 0], [(7, 17), (7, 18), (1, 11), (7, 19)]),
  (5, .ifCond .eq 12, 3, .null, [17], []),
  (8, .iload_n 2, 1, .null, [], []),
  (9, .iconst 0, 1, .null, [], []),
  (10, .iconst 5, 1, .null, [], []),
  (11, .invokestatic 39, 3, .null, [225, 3, 0, 0, 0], [(7, 6), (7, 7), (1, 11), (7, 8)]),
  (14, .ifCond .ne 7, 3, .null, [21], []),
  (17, .iconst 1, 1, .null, [], []),
  (18, .goto 16, 3, .null, [34], []),
  (21, .iload_n 1, 1, .null, [], []),
  (22, .iload_n 2, 1, .null, [], []),
  (23, .invokestatic 80, 3, .null, [239, 2, 0, 0, 0], [(7, 54), (7, 55), (1, 11), (7, 56)]),
  (26, .ifCond .ge 7, 3, .null, [33], []),
  (29, .iconst 2, 1, .null, [], []),
  (30, .goto 4, 3, .null, [34], []),
  (33, .iconst 0, 1, .null, [], []),
  (34, .putfield 35, 3, .null, [9, 5, 0, 0], [(6, 180)]),
  (37, .aload_n 0, 1, .null, [], []),
  (38, .getfield 35, 3, .null, [9, 5, 0], [(6, 180)]),
  (41, .ifCond .le 7, 3, .null, [48], []),
  (44, .iconst 0, 1, .null, [], []),
  (45, .goto 8, 3, .null, [53], []),
  (48, .iload_n 1, 1, .null, [], []),
  (49, .iload_n 2, 1, .null, [], []),
  (50, .invokestatic 80, 3, .null, [239, 2, 0, 0, 0], [(7, 54), (7, 55), (1, 11), (7, 56)]),
  (53, .ireturn, 1, .null, [], [])]
def e_m240 : e_MD := (⟨"HexCampaignModel", "neighbor", "(II)I"⟩, prog_14_method_22_code, 3, (some .int), [], e_c240)
-- 241: HexCampaignModel.has(JI)Z
set_option maxRecDepth 100000 in
def e_c241 : List e_I := [(0, .lload_n 0, 1, .null, [], []),
  (1, .iload_n 2, 1, .null, [], []),
  (2, .lshr, 1, .null, [], []),
  (3, .lconst 1, 1, .null, [], []),
  (4, .land, 1, .null, [], []),
  (5, .lconst 1, 1, .null, [], []),
  (6, .lcmp, 1, .null, [], []),
  (7, .ifCond .ne 7, 3, .null, [14], []),
  (10, .iconst 1, 1, .null, [], []),
  (11, .goto 4, 3, .null, [15], []),
  (14, .iconst 0, 1, .null, [], []),
  (15, .ireturn, 1, .null, [], [])]
def e_m241 : e_MD := (⟨"HexCampaignModel", "has", "(JI)Z"⟩, prog_14_method_6_code, 3, (some .boolean), [], e_c241)
-- 242: HexCampaignModel.around(J)J
set_option maxRecDepth 100000 in
def e_c242 : List e_I := [(0, .lconst 0, 1, .null, [], []),
  (1, .lstore_n 2, 1, .null, [], []),
  (2, .iconst 0, 1, .null, [], []),
  (3, .istore 4, 2, .null, [], []),
  (5, .iload 4, 2, .null, [], []),
  (7, .bipush 63, 2, .null, [], []),
  (9, .if_icmp .ge 60, 3, .null, [69], []),
  (12, .iconst 0, 1, .null, [], []),
  (13, .istore 5, 2, .null, [], []),
  (15, .iload 5, 2, .null, [], []),
  (17, .bipush 6, 2, .null, [], []),
  (19, .if_icmp .ge 44, 3, .null, [63], []),
  (22, .lload_n 0, 1, .null, [], []),
  (23, .iload 4, 2, .null, [], []),
  (25, .invokestatic 83, 3, .null, [241, 2, 0, 0, 0], [(7, 64), (7, 65), (1, 11), (7, 66)]),
  (28, .ifCond .eq 35, 3, .null, [63], []),
  (31, .lload_n 2, 1, .null, [], []),
  (32, .iload 4, 2, .null, [], []),
  (34, .iload 5, 2, .null, [], []),
  (36, .invokestatic 80, 3, .null, [239, 2, 0, 0, 0], [(7, 54), (7, 55), (1, 11), (7, 56)]),
  (39, .ifCond .lt 15, 3, .null, [54], []),
  (42, .lconst 1, 1, .null, [], []),
  (43, .iload 4, 2, .null, [], []),
  (45, .iload 5, 2, .null, [], []),
  (47, .invokestatic 80, 3, .null, [239, 2, 0, 0, 0], [(7, 54), (7, 55), (1, 11), (7, 56)]),
  (50, .lshl, 1, .null, [], []),
  (51, .goto 4, 3, .null, [55], []),
  (54, .lconst 0, 1, .null, [], []),
  (55, .lor, 1, .null, [], []),
  (56, .lstore_n 2, 1, .null, [], []),
  (57, .iinc 5 1, 3, .null, [], []),
  (60, .goto (-45), 3, .null, [15], []),
  (63, .iinc 4 1, 3, .null, [], []),
  (66, .goto (-61), 3, .null, [5], []),
  (69, .lload_n 2, 1, .null, [], []),
  (70, .lreturn, 1, .null, [], [])]
def e_m242 : e_MD := (⟨"HexCampaignModel", "around", "(J)J"⟩, prog_14_method_23_code, 6, (some .long), [], e_c242)
-- 243: HexCampaignModel.steps(II)I
set_option maxRecDepth 100000 in
def e_c243 : List e_I := [(0, .iconst 0, 1, .null, [], []),
  (1, .istore_n 2, 1, .null, [], []),
  (2, .lconst 1, 1, .null, [], []),
  (3, .iload_n 0, 1, .null, [], []),
  (4, .lshl, 1, .null, [], []),
  (5, .lstore_n 3, 1, .null, [], []),
  (6, .lload_n 3, 1, .null, [], []),
  (7, .iload_n 1, 1, .null, [], []),
  (8, .invokestatic 83, 3, .null, [241, 2, 0, 0, 0], [(7, 64), (7, 65), (1, 11), (7, 66)]),
  (11, .ifCond .ne 16, 3, .null, [27], []),
  (14, .iinc 2 1, 3, .null, [], []),
  (17, .lload_n 3, 1, .null, [], []),
  (18, .lload_n 3, 1, .null, [], []),
  (19, .invokestatic 87, 3, .null, [242, 1, 0, 0, 0], [(7, 67), (7, 68), (1, 11), (7, 69)]),
  (22, .lor, 1, .null, [], []),
  (23, .lstore_n 3, 1, .null, [], []),
  (24, .goto (-18), 3, .null, [6], []),
  (27, .iload_n 2, 1, .null, [], []),
  (28, .ireturn, 1, .null, [], [])]
def e_m243 : e_MD := (⟨"HexCampaignModel", "steps", "(II)I"⟩, prog_14_method_24_code, 5, (some .int), [], e_c243)
-- 244: HexCampaignModel.distance(II)I
set_option maxRecDepth 100000 in
def e_c244 : List e_I := [(0, .aload_n 0, 1, .null, [], []),
  (1, .iload_n 1, 1, .null, [], []),
  (2, .invokestatic 64, 3, .null, [230, 1, 0, 0, 0], [(7, 17), (7, 18), (1, 11), (7, 19)]),
  (5, .ifCond .eq 14, 3, .null, [19], []),
  (8, .iload_n 2, 1, .null, [], []),
  (9, .invokestatic 64, 3, .null, [230, 1, 0, 0, 0], [(7, 17), (7, 18), (1, 11), (7, 19)]),
  (12, .ifCond .eq 7, 3, .null, [19], []),
  (15, .iconst 0, 1, .null, [], []),
  (16, .goto 4, 3, .null, [20], []),
  (19, .iconst 1, 1, .null, [], []),
  (20, .putfield 35, 3, .null, [9, 5, 0, 0], [(6, 180)]),
  (23, .aload_n 0, 1, .null, [], []),
  (24, .getfield 35, 3, .null, [9, 5, 0], [(6, 180)]),
  (27, .ifCond .le 7, 3, .null, [34], []),
  (30, .iconst 0, 1, .null, [], []),
  (31, .goto 8, 3, .null, [39], []),
  (34, .iload_n 1, 1, .null, [], []),
  (35, .iload_n 2, 1, .null, [], []),
  (36, .invokestatic 91, 3, .null, [243, 2, 0, 0, 0], [(7, 61), (7, 62), (1, 11), (7, 63)]),
  (39, .ireturn, 1, .null, [], [])]
def e_m244 : e_MD := (⟨"HexCampaignModel", "distance", "(II)I"⟩, prog_14_method_25_code, 3, (some .int), [], e_c244)
-- 245: HexCampaignModel.count(I)I
set_option maxRecDepth 100000 in
def e_c245 : List e_I := [(0, .aload_n 0, 1, .null, [], []),
  (1, .iload_n 1, 1, .null, [], []),
  (2, .iconst 0, 1, .null, [], []),
  (3, .bipush 7, 2, .null, [], []),
  (5, .invokestatic 39, 3, .null, [225, 3, 0, 0, 0], [(7, 6), (7, 7), (1, 11), (7, 8)]),
  (8, .ifCond .eq 7, 3, .null, [15], []),
  (11, .iconst 0, 1, .null, [], []),
  (12, .goto 4, 3, .null, [16], []),
  (15, .iconst 1, 1, .null, [], []),
  (16, .putfield 35, 3, .null, [9, 5, 0, 0], [(6, 180)]),
  (19, .aload_n 0, 1, .null, [], []),
  (20, .getfield 35, 3, .null, [9, 5, 0], [(6, 180)]),
  (23, .ifCond .le 5, 3, .null, [28], []),
  (26, .iconst 0, 1, .null, [], []),
  (27, .ireturn, 1, .null, [], []),
  (28, .iload_n 1, 1, .null, [], []),
  (29, .tableswitch 106 0 6 #[43, 48, 57, 66, 75, 84, 97], 43, .null, [135, 72, 77, 86, 95, 104, 113, 126], []),
  (72, .aload_n 0, 1, .null, [], []),
  (73, .invokevirtual 60, 3, .null, [228, 0, 0, 0, 0, 9], [(6, 238), (7, 0), (0, 23), (7, 1), (1, 11)]),
  (76, .ireturn, 1, .null, [], []),
  (77, .aload_n 0, 1, .null, [], []),
  (78, .getfield 9, 3, .null, [9, 0, 1], [(6, 175)]),
  (81, .sipush 192, 3, .null, [], []),
  (84, .iaload, 1, .null, [], []),
  (85, .ireturn, 1, .null, [], []),
  (86, .aload_n 0, 1, .null, [], []),
  (87, .getfield 9, 3, .null, [9, 0, 1], [(6, 175)]),
  (90, .sipush 191, 3, .null, [], []),
  (93, .iaload, 1, .null, [], []),
  (94, .ireturn, 1, .null, [], []),
  (95, .aload_n 0, 1, .null, [], []),
  (96, .getfield 9, 3, .null, [9, 0, 1], [(6, 175)]),
  (99, .sipush 189, 3, .null, [], []),
  (102, .iaload, 1, .null, [], []),
  (103, .ireturn, 1, .null, [], []),
  (104, .aload_n 0, 1, .null, [], []),
  (105, .getfield 9, 3, .null, [9, 0, 1], [(6, 175)]),
  (108, .sipush 190, 3, .null, [], []),
  (111, .iaload, 1, .null, [], []),
  (112, .ireturn, 1, .null, [], []),
  (113, .getstatic 94, 3, .retAddr 14, [4], [(7, 74)]),
  (116, .aload_n 0, 1, .null, [], []),
  (117, .getfield 9, 3, .null, [9, 0, 1], [(6, 175)]),
  (120, .sipush 189, 3, .null, [], []),
  (123, .iaload, 1, .null, [], []),
  (124, .iaload, 1, .null, [], []),
  (125, .ireturn, 1, .null, [], []),
  (126, .aload_n 0, 1, .null, [], []),
  (127, .getfield 9, 3, .null, [9, 0, 1], [(6, 175)]),
  (130, .sipush 194, 3, .null, [], []),
  (133, .iaload, 1, .null, [], []),
  (134, .ireturn, 1, .null, [], []),
  (135, .aload_n 0, 1, .null, [], []),
  (136, .getfield 9, 3, .null, [9, 0, 1], [(6, 175)]),
  (139, .sipush 195, 3, .null, [], []),
  (142, .iaload, 1, .null, [], []),
  (143, .ireturn, 1, .null, [], [])]
def e_m245 : e_MD := (⟨"HexCampaignModel", "count", "(I)I"⟩, prog_14_method_26_code, 2, (some .int), [], e_c245)
-- 246: HexCampaignModel.isOf(II)Z
set_option maxRecDepth 100000 in
def e_c246 : List e_I := [(0, .aload_n 0, 1, .null, [], []),
  (1, .iload_n 1, 1, .null, [], []),
  (2, .invokevirtual 47, 3, .null, [227, 1, 0, 0, 0, 9], [(7, 2), (7, 4), (0, 24), (7, 5), (1, 11)]),
  (5, .ifCond .eq 17, 3, .null, [22], []),
  (8, .aload_n 0, 1, .null, [], []),
  (9, .iload_n 1, 1, .null, [], []),
  (10, .iconst 0, 1, .null, [], []),
  (11, .invokevirtual 43, 3, .null, [226, 2, 0, 0, 0, 9], [(7, 9), (7, 11), (0, 25), (7, 12), (1, 11)]),
  (14, .iload_n 2, 1, .null, [], []),
  (15, .if_icmp .ne 7, 3, .null, [22], []),
  (18, .iconst 1, 1, .null, [], []),
  (19, .goto 4, 3, .null, [23], []),
  (22, .iconst 0, 1, .null, [], []),
  (23, .ireturn, 1, .null, [], [])]
def e_m246 : e_MD := (⟨"HexCampaignModel", "isOf", "(II)Z"⟩, prog_14_method_10_code, 3, (some .boolean), [], e_c246)
-- 247: HexCampaignModel.sees(II)Z
set_option maxRecDepth 100000 in
def e_c247 : List e_I := [(0, .iload_n 1, 1, .null, [], []),
  (1, .iload_n 2, 1, .null, [], []),
  (2, .invokestatic 91, 3, .null, [243, 2, 0, 0, 0], [(7, 61), (7, 62), (1, 11), (7, 63)]),
  (5, .istore_n 3, 1, .null, [], []),
  (6, .iload_n 3, 1, .null, [], []),
  (7, .getstatic 94, 3, .retAddr 14, [4], [(7, 74)]),
  (10, .aload_n 0, 1, .null, [], []),
  (11, .getfield 9, 3, .null, [9, 0, 1], [(6, 175)]),
  (14, .sipush 189, 3, .null, [], []),
  (17, .iaload, 1, .null, [], []),
  (18, .iaload, 1, .null, [], []),
  (19, .if_icmp .le 5, 3, .null, [24], []),
  (22, .iconst 0, 1, .null, [], []),
  (23, .ireturn, 1, .null, [], []),
  (24, .getstatic 111, 3, .retAddr 15, [5], [(7, 96)]),
  (27, .aload_n 0, 1, .null, [], []),
  (28, .getfield 9, 3, .null, [9, 0, 1], [(6, 175)]),
  (31, .iload_n 1, 1, .null, [], []),
  (32, .iaload, 1, .null, [], []),
  (33, .iaload, 1, .null, [], []),
  (34, .getstatic 111, 3, .retAddr 15, [5], [(7, 96)]),
  (37, .aload_n 0, 1, .null, [], []),
  (38, .getfield 9, 3, .null, [9, 0, 1], [(6, 175)]),
  (41, .iload_n 2, 1, .null, [], []),
  (42, .iaload, 1, .null, [], []),
  (43, .iaload, 1, .null, [], []),
  (44, .invokestatic 114, 3, .null, [82, 2, 0, 0, 0], [(7, 98), (4, 14), (1, 22), (4, 15)]),
  (47, .istore 4, 2, .null, [], []),
  (49, .lconst 0, 1, .null, [], []),
  (50, .lstore 5, 2, .null, [], []),
  (52, .iconst 0, 1, .null, [], []),
  (53, .istore 7, 2, .null, [], []),
  (55, .iload 7, 2, .null, [], []),
  (57, .bipush 63, 2, .null, [], []),
  (59, .if_icmp .ge 38, 3, .null, [97], []),
  (62, .lload 5, 2, .null, [], []),
  (64, .getstatic 111, 3, .retAddr 15, [5], [(7, 96)]),
  (67, .aload_n 0, 1, .null, [], []),
  (68, .getfield 9, 3, .null, [9, 0, 1], [(6, 175)]),
  (71, .iload 7, 2, .null, [], []),
  (73, .iaload, 1, .null, [], []),
  (74, .iaload, 1, .null, [], []),
  (75, .iload 4, 2, .null, [], []),
  (77, .if_icmp .gt 10, 3, .null, [87], []),
  (80, .lconst 1, 1, .null, [], []),
  (81, .iload 7, 2, .null, [], []),
  (83, .lshl, 1, .null, [], []),
  (84, .goto 4, 3, .null, [88], []),
  (87, .lconst 0, 1, .null, [], []),
  (88, .lor, 1, .null, [], []),
  (89, .lstore 5, 2, .null, [], []),
  (91, .iinc 7 1, 3, .null, [], []),
  (94, .goto (-39), 3, .null, [55], []),
  (97, .lconst 1, 1, .null, [], []),
  (98, .iload_n 1, 1, .null, [], []),
  (99, .lshl, 1, .null, [], []),
  (100, .lstore 7, 2, .null, [], []),
  (102, .iconst 1, 1, .null, [], []),
  (103, .istore 9, 2, .null, [], []),
  (105, .iload 9, 2, .null, [], []),
  (107, .iload_n 3, 1, .null, [], []),
  (108, .if_icmp .gt 31, 3, .null, [139], []),
  (111, .lload 7, 2, .null, [], []),
  (113, .invokestatic 87, 3, .null, [242, 1, 0, 0, 0], [(7, 67), (7, 68), (1, 11), (7, 69)]),
  (116, .iload 9, 2, .null, [], []),
  (118, .iload_n 3, 1, .null, [], []),
  (119, .if_icmp .ge 8, 3, .null, [127], []),
  (122, .lload 5, 2, .null, [], []),
  (124, .goto 6, 3, .null, [130], []),
  (127, .ldc2_w 109, 3, .long (-1), [], [(7, 99)]),
  (130, .land, 1, .null, [], []),
  (131, .lstore 7, 2, .null, [], []),
  (133, .iinc 9 1, 3, .null, [], []),
  (136, .goto (-31), 3, .null, [105], []),
  (139, .lload 7, 2, .null, [], []),
  (141, .iload_n 2, 1, .null, [], []),
  (142, .invokestatic 83, 3, .null, [241, 2, 0, 0, 0], [(7, 64), (7, 65), (1, 11), (7, 66)]),
  (145, .ifCond .ne 7, 3, .null, [152], []),
  (148, .iload_n 3, 1, .null, [], []),
  (149, .ifCond .ne 7, 3, .null, [156], []),
  (152, .iconst 1, 1, .null, [], []),
  (153, .goto 4, 3, .null, [157], []),
  (156, .iconst 0, 1, .null, [], []),
  (157, .ireturn, 1, .null, [], [])]
def e_m247 : e_MD := (⟨"HexCampaignModel", "sees", "(II)Z"⟩, prog_14_method_32_code, 10, (some .boolean), [], e_c247)
-- 248: HexCampaignModel.seenBy(I)J
set_option maxRecDepth 100000 in
def e_c248 : List e_I := [(0, .lconst 0, 1, .null, [], []),
  (1, .lstore_n 2, 1, .null, [], []),
  (2, .iconst 0, 1, .null, [], []),
  (3, .istore 4, 2, .null, [], []),
  (5, .iload 4, 2, .null, [], []),
  (7, .aload_n 0, 1, .null, [], []),
  (8, .getfield 9, 3, .null, [9, 0, 1], [(6, 175)]),
  (11, .sipush 196, 3, .null, [], []),
  (14, .iaload, 1, .null, [], []),
  (15, .if_icmp .ge 71, 3, .null, [86], []),
  (18, .iconst 0, 1, .null, [], []),
  (19, .istore 5, 2, .null, [], []),
  (21, .iload 5, 2, .null, [], []),
  (23, .bipush 63, 2, .null, [], []),
  (25, .if_icmp .ge 55, 3, .null, [80], []),
  (28, .aload_n 0, 1, .null, [], []),
  (29, .iload 4, 2, .null, [], []),
  (31, .iload_n 1, 1, .null, [], []),
  (32, .invokevirtual 101, 3, .null, [246, 2, 0, 0, 0, 9], [(7, 88), (7, 90), (0, 31), (7, 91), (1, 11)]),
  (35, .ifCond .eq 45, 3, .null, [80], []),
  (38, .lload_n 2, 1, .null, [], []),
  (39, .lload_n 2, 1, .null, [], []),
  (40, .iload 5, 2, .null, [], []),
  (42, .invokestatic 83, 3, .null, [241, 2, 0, 0, 0], [(7, 64), (7, 65), (1, 11), (7, 66)]),
  (45, .ifCond .ne 26, 3, .null, [71], []),
  (48, .aload_n 0, 1, .null, [], []),
  (49, .aload_n 0, 1, .null, [], []),
  (50, .iload 4, 2, .null, [], []),
  (52, .iconst 1, 1, .null, [], []),
  (53, .invokevirtual 43, 3, .null, [226, 2, 0, 0, 0, 9], [(7, 9), (7, 11), (0, 25), (7, 12), (1, 11)]),
  (56, .iload 5, 2, .null, [], []),
  (58, .invokevirtual 119, 3, .null, [247, 2, 0, 0, 0, 9], [(7, 92), (7, 94), (0, 32), (7, 95), (1, 11)]),
  (61, .ifCond .eq 10, 3, .null, [71], []),
  (64, .lconst 1, 1, .null, [], []),
  (65, .iload 5, 2, .null, [], []),
  (67, .lshl, 1, .null, [], []),
  (68, .goto 4, 3, .null, [72], []),
  (71, .lconst 0, 1, .null, [], []),
  (72, .lor, 1, .null, [], []),
  (73, .lstore_n 2, 1, .null, [], []),
  (74, .iinc 5 1, 3, .null, [], []),
  (77, .goto (-56), 3, .null, [21], []),
  (80, .iinc 4 1, 3, .null, [], []),
  (83, .goto (-78), 3, .null, [5], []),
  (86, .lload_n 2, 1, .null, [], []),
  (87, .lreturn, 1, .null, [], [])]
def e_m248 : e_MD := (⟨"HexCampaignModel", "seenBy", "(I)J"⟩, prog_14_method_33_code, 6, (some .long), [], e_c248)
-- 249: HexCampaignModel.knownTo(I)I
set_option maxRecDepth 100000 in
def e_c249 : List e_I := [(0, .aload_n 0, 1, .null, [], []),
  (1, .iload_n 1, 1, .null, [], []),
  (2, .invokevirtual 122, 3, .null, [248, 1, 0, 0, 0, 9], [(7, 84), (7, 86), (0, 30), (7, 87), (1, 11)]),
  (5, .lstore_n 2, 1, .null, [], []),
  (6, .iconst 0, 1, .null, [], []),
  (7, .istore 4, 2, .null, [], []),
  (9, .iconst 0, 1, .null, [], []),
  (10, .istore 5, 2, .null, [], []),
  (12, .iload 5, 2, .null, [], []),
  (14, .aload_n 0, 1, .null, [], []),
  (15, .getfield 9, 3, .null, [9, 0, 1], [(6, 175)]),
  (18, .sipush 196, 3, .null, [], []),
  (21, .iaload, 1, .null, [], []),
  (22, .if_icmp .ge 48, 3, .null, [70], []),
  (25, .iload 4, 2, .null, [], []),
  (27, .aload_n 0, 1, .null, [], []),
  (28, .iload 5, 2, .null, [], []),
  (30, .iconst 1, 1, .null, [], []),
  (31, .iload_n 1, 1, .null, [], []),
  (32, .isub, 1, .null, [], []),
  (33, .invokevirtual 101, 3, .null, [246, 2, 0, 0, 0, 9], [(7, 88), (7, 90), (0, 31), (7, 91), (1, 11)]),
  (36, .ifCond .eq 24, 3, .null, [60], []),
  (39, .lload_n 2, 1, .null, [], []),
  (40, .aload_n 0, 1, .null, [], []),
  (41, .iload 5, 2, .null, [], []),
  (43, .iconst 1, 1, .null, [], []),
  (44, .invokevirtual 43, 3, .null, [226, 2, 0, 0, 0, 9], [(7, 9), (7, 11), (0, 25), (7, 12), (1, 11)]),
  (47, .invokestatic 83, 3, .null, [241, 2, 0, 0, 0], [(7, 64), (7, 65), (1, 11), (7, 66)]),
  (50, .ifCond .eq 10, 3, .null, [60], []),
  (53, .iconst 1, 1, .null, [], []),
  (54, .iload 5, 2, .null, [], []),
  (56, .ishl, 1, .null, [], []),
  (57, .goto 4, 3, .null, [61], []),
  (60, .iconst 0, 1, .null, [], []),
  (61, .ior, 1, .null, [], []),
  (62, .istore 4, 2, .null, [], []),
  (64, .iinc 5 1, 3, .null, [], []),
  (67, .goto (-55), 3, .null, [12], []),
  (70, .iload 4, 2, .null, [], []),
  (72, .ireturn, 1, .null, [], [])]
def e_m249 : e_MD := (⟨"HexCampaignModel", "knownTo", "(I)I"⟩, prog_14_method_34_code, 6, (some .int), [], e_c249)
-- 250: HexCampaignModel.known(I)I
set_option maxRecDepth 100000 in
def e_c250 : List e_I := [(0, .aload_n 0, 1, .null, [], []),
  (1, .iload_n 1, 1, .null, [], []),
  (2, .invokestatic 74, 3, .null, [234, 1, 0, 0, 0], [(7, 35), (7, 36), (1, 11), (7, 37)]),
  (5, .ifCond .eq 7, 3, .null, [12], []),
  (8, .iconst 0, 1, .null, [], []),
  (9, .goto 4, 3, .null, [13], []),
  (12, .iconst 1, 1, .null, [], []),
  (13, .putfield 35, 3, .null, [9, 5, 0, 0], [(6, 180)]),
  (16, .aload_n 0, 1, .null, [], []),
  (17, .getfield 35, 3, .null, [9, 5, 0], [(6, 180)]),
  (20, .ifCond .le 7, 3, .null, [27], []),
  (23, .iconst 0, 1, .null, [], []),
  (24, .goto 8, 3, .null, [32], []),
  (27, .aload_n 0, 1, .null, [], []),
  (28, .iload_n 1, 1, .null, [], []),
  (29, .invokevirtual 125, 3, .null, [249, 1, 0, 0, 0, 9], [(7, 80), (7, 82), (0, 29), (7, 83), (1, 11)]),
  (32, .ireturn, 1, .null, [], [])]
def e_m250 : e_MD := (⟨"HexCampaignModel", "known", "(I)I"⟩, prog_14_method_35_code, 2, (some .int), [], e_c250)
-- 251: HexCampaignModel.isSeen(II)Z
set_option maxRecDepth 100000 in
def e_c251 : List e_I := [(0, .aload_n 0, 1, .null, [], []),
  (1, .iload_n 1, 1, .null, [], []),
  (2, .invokestatic 64, 3, .null, [230, 1, 0, 0, 0], [(7, 17), (7, 18), (1, 11), (7, 19)]),
  (5, .ifCond .eq 14, 3, .null, [19], []),
  (8, .iload_n 2, 1, .null, [], []),
  (9, .invokestatic 64, 3, .null, [230, 1, 0, 0, 0], [(7, 17), (7, 18), (1, 11), (7, 19)]),
  (12, .ifCond .eq 7, 3, .null, [19], []),
  (15, .iconst 0, 1, .null, [], []),
  (16, .goto 4, 3, .null, [20], []),
  (19, .iconst 1, 1, .null, [], []),
  (20, .putfield 35, 3, .null, [9, 5, 0, 0], [(6, 180)]),
  (23, .aload_n 0, 1, .null, [], []),
  (24, .getfield 35, 3, .null, [9, 5, 0], [(6, 180)]),
  (27, .ifCond .ne 16, 3, .null, [43], []),
  (30, .aload_n 0, 1, .null, [], []),
  (31, .iload_n 1, 1, .null, [], []),
  (32, .iload_n 2, 1, .null, [], []),
  (33, .invokevirtual 119, 3, .null, [247, 2, 0, 0, 0, 9], [(7, 92), (7, 94), (0, 32), (7, 95), (1, 11)]),
  (36, .ifCond .eq 7, 3, .null, [43], []),
  (39, .iconst 1, 1, .null, [], []),
  (40, .goto 4, 3, .null, [44], []),
  (43, .iconst 0, 1, .null, [], []),
  (44, .ireturn, 1, .null, [], [])]
def e_m251 : e_MD := (⟨"HexCampaignModel", "isSeen", "(II)Z"⟩, prog_14_method_36_code, 3, (some .boolean), [], e_c251)
-- 252: HexCampaignModel.unitsOf(I)I
set_option maxRecDepth 100000 in
def e_c252 : List e_I := [(0, .iconst 0, 1, .null, [], []),
  (1, .istore_n 2, 1, .null, [], []),
  (2, .iconst 0, 1, .null, [], []),
  (3, .istore_n 3, 1, .null, [], []),
  (4, .iload_n 3, 1, .null, [], []),
  (5, .aload_n 0, 1, .null, [], []),
  (6, .getfield 9, 3, .null, [9, 0, 1], [(6, 175)]),
  (9, .sipush 196, 3, .null, [], []),
  (12, .iaload, 1, .null, [], []),
  (13, .if_icmp .ge 28, 3, .null, [41], []),
  (16, .iload_n 2, 1, .null, [], []),
  (17, .aload_n 0, 1, .null, [], []),
  (18, .iload_n 3, 1, .null, [], []),
  (19, .iload_n 1, 1, .null, [], []),
  (20, .invokevirtual 101, 3, .null, [246, 2, 0, 0, 0, 9], [(7, 88), (7, 90), (0, 31), (7, 91), (1, 11)]),
  (23, .ifCond .eq 9, 3, .null, [32], []),
  (26, .iconst 1, 1, .null, [], []),
  (27, .iload_n 3, 1, .null, [], []),
  (28, .ishl, 1, .null, [], []),
  (29, .goto 4, 3, .null, [33], []),
  (32, .iconst 0, 1, .null, [], []),
  (33, .ior, 1, .null, [], []),
  (34, .istore_n 2, 1, .null, [], []),
  (35, .iinc 3 1, 3, .null, [], []),
  (38, .goto (-34), 3, .null, [4], []),
  (41, .iload_n 2, 1, .null, [], []),
  (42, .ireturn, 1, .null, [], [])]
def e_m252 : e_MD := (⟨"HexCampaignModel", "unitsOf", "(I)I"⟩, prog_14_method_30_code, 4, (some .int), [], e_c252)
-- 253: HexCampaignModel.cellsOf(I)J
set_option maxRecDepth 100000 in
def e_c253 : List e_I := [(0, .lconst 0, 1, .null, [], []),
  (1, .lstore_n 2, 1, .null, [], []),
  (2, .iconst 0, 1, .null, [], []),
  (3, .istore 4, 2, .null, [], []),
  (5, .iload 4, 2, .null, [], []),
  (7, .aload_n 0, 1, .null, [], []),
  (8, .getfield 9, 3, .null, [9, 0, 1], [(6, 175)]),
  (11, .sipush 196, 3, .null, [], []),
  (14, .iaload, 1, .null, [], []),
  (15, .if_icmp .ge 44, 3, .null, [59], []),
  (18, .lload_n 2, 1, .null, [], []),
  (19, .iload_n 1, 1, .null, [], []),
  (20, .iload 4, 2, .null, [], []),
  (22, .ishr, 1, .null, [], []),
  (23, .iconst 1, 1, .null, [], []),
  (24, .iand, 1, .null, [], []),
  (25, .iconst 1, 1, .null, [], []),
  (26, .if_icmp .ne 24, 3, .null, [50], []),
  (29, .aload_n 0, 1, .null, [], []),
  (30, .iload 4, 2, .null, [], []),
  (32, .invokevirtual 47, 3, .null, [227, 1, 0, 0, 0, 9], [(7, 2), (7, 4), (0, 24), (7, 5), (1, 11)]),
  (35, .ifCond .eq 15, 3, .null, [50], []),
  (38, .lconst 1, 1, .null, [], []),
  (39, .aload_n 0, 1, .null, [], []),
  (40, .iload 4, 2, .null, [], []),
  (42, .iconst 1, 1, .null, [], []),
  (43, .invokevirtual 43, 3, .null, [226, 2, 0, 0, 0, 9], [(7, 9), (7, 11), (0, 25), (7, 12), (1, 11)]),
  (46, .lshl, 1, .null, [], []),
  (47, .goto 4, 3, .null, [51], []),
  (50, .lconst 0, 1, .null, [], []),
  (51, .lor, 1, .null, [], []),
  (52, .lstore_n 2, 1, .null, [], []),
  (53, .iinc 4 1, 3, .null, [], []),
  (56, .goto (-51), 3, .null, [5], []),
  (59, .lload_n 2, 1, .null, [], []),
  (60, .lreturn, 1, .null, [], [])]
def e_m253 : e_MD := (⟨"HexCampaignModel", "cellsOf", "(I)J"⟩, prog_14_method_29_code, 5, (some .long), [], e_c253)
-- 254: HexCampaignModel.zone(I)J
set_option maxRecDepth 100000 in
def e_c254 : List e_I := [(0, .aload_n 0, 1, .null, [], []),
  (1, .iload_n 1, 1, .null, [], []),
  (2, .invokevirtual 105, 3, .null, [253, 1, 0, 0, 0, 9], [(7, 116), (7, 118), (0, 35), (7, 119), (1, 11)]),
  (5, .invokestatic 87, 3, .null, [242, 1, 0, 0, 0], [(7, 67), (7, 68), (1, 11), (7, 69)]),
  (8, .lstore_n 2, 1, .null, [], []),
  (9, .iconst 0, 1, .null, [], []),
  (10, .istore 4, 2, .null, [], []),
  (12, .iload 4, 2, .null, [], []),
  (14, .bipush 63, 2, .null, [], []),
  (16, .if_icmp .ge 48, 3, .null, [64], []),
  (19, .lload_n 2, 1, .null, [], []),
  (20, .aload_n 0, 1, .null, [], []),
  (21, .getfield 9, 3, .null, [9, 0, 1], [(6, 175)]),
  (24, .iload 4, 2, .null, [], []),
  (26, .iaload, 1, .null, [], []),
  (27, .iconst 5, 1, .null, [], []),
  (28, .if_icmp .eq 14, 3, .null, [42], []),
  (31, .aload_n 0, 1, .null, [], []),
  (32, .getfield 9, 3, .null, [9, 0, 1], [(6, 175)]),
  (35, .iload 4, 2, .null, [], []),
  (37, .iaload, 1, .null, [], []),
  (38, .iconst 4, 1, .null, [], []),
  (39, .if_icmp .ne 14, 3, .null, [53], []),
  (42, .lconst 1, 1, .null, [], []),
  (43, .iload 4, 2, .null, [], []),
  (45, .lshl, 1, .null, [], []),
  (46, .ldc2_w 109, 3, .long (-1), [], [(7, 99)]),
  (49, .lxor, 1, .null, [], []),
  (50, .goto 6, 3, .null, [56], []),
  (53, .ldc2_w 109, 3, .long (-1), [], [(7, 99)]),
  (56, .land, 1, .null, [], []),
  (57, .lstore_n 2, 1, .null, [], []),
  (58, .iinc 4 1, 3, .null, [], []),
  (61, .goto (-49), 3, .null, [12], []),
  (64, .lload_n 2, 1, .null, [], []),
  (65, .lreturn, 1, .null, [], [])]
def e_m254 : e_MD := (⟨"HexCampaignModel", "zone", "(I)J"⟩, prog_14_method_31_code, 5, (some .long), [], e_c254)
-- 255: HexCampaignModel.sources(I)J
set_option maxRecDepth 100000 in
def e_c255 : List e_I := [(0, .lconst 0, 1, .null, [], []),
  (1, .lstore_n 2, 1, .null, [], []),
  (2, .iconst 0, 1, .null, [], []),
  (3, .istore 4, 2, .null, [], []),
  (5, .iload 4, 2, .null, [], []),
  (7, .bipush 63, 2, .null, [], []),
  (9, .if_icmp .ge 38, 3, .null, [47], []),
  (12, .lload_n 2, 1, .null, [], []),
  (13, .aload_n 0, 1, .null, [], []),
  (14, .getfield 9, 3, .null, [9, 0, 1], [(6, 175)]),
  (17, .bipush 126, 2, .null, [], []),
  (19, .iload 4, 2, .null, [], []),
  (21, .iadd, 1, .null, [], []),
  (22, .iaload, 1, .null, [], []),
  (23, .iload_n 1, 1, .null, [], []),
  (24, .ishr, 1, .null, [], []),
  (25, .iconst 1, 1, .null, [], []),
  (26, .iand, 1, .null, [], []),
  (27, .iconst 1, 1, .null, [], []),
  (28, .if_icmp .ne 10, 3, .null, [38], []),
  (31, .lconst 1, 1, .null, [], []),
  (32, .iload 4, 2, .null, [], []),
  (34, .lshl, 1, .null, [], []),
  (35, .goto 4, 3, .null, [39], []),
  (38, .lconst 0, 1, .null, [], []),
  (39, .lor, 1, .null, [], []),
  (40, .lstore_n 2, 1, .null, [], []),
  (41, .iinc 4 1, 3, .null, [], []),
  (44, .goto (-39), 3, .null, [5], []),
  (47, .lload_n 2, 1, .null, [], []),
  (48, .lreturn, 1, .null, [], [])]
def e_m255 : e_MD := (⟨"HexCampaignModel", "sources", "(I)J"⟩, prog_14_method_38_code, 5, (some .long), [], e_c255)
-- 256: HexCampaignModel.closed(I)J
set_option maxRecDepth 100000 in
def e_c256 : List e_I := [(0, .lconst 0, 1, .null, [], []),
  (1, .lstore_n 2, 1, .null, [], []),
  (2, .iconst 0, 1, .null, [], []),
  (3, .istore 4, 2, .null, [], []),
  (5, .iload 4, 2, .null, [], []),
  (7, .bipush 63, 2, .null, [], []),
  (9, .if_icmp .ge 31, 3, .null, [40], []),
  (12, .lload_n 2, 1, .null, [], []),
  (13, .aload_n 0, 1, .null, [], []),
  (14, .getfield 9, 3, .null, [9, 0, 1], [(6, 175)]),
  (17, .iload 4, 2, .null, [], []),
  (19, .iaload, 1, .null, [], []),
  (20, .iconst 5, 1, .null, [], []),
  (21, .if_icmp .ne 10, 3, .null, [31], []),
  (24, .lconst 1, 1, .null, [], []),
  (25, .iload 4, 2, .null, [], []),
  (27, .lshl, 1, .null, [], []),
  (28, .goto 4, 3, .null, [32], []),
  (31, .lconst 0, 1, .null, [], []),
  (32, .lor, 1, .null, [], []),
  (33, .lstore_n 2, 1, .null, [], []),
  (34, .iinc 4 1, 3, .null, [], []),
  (37, .goto (-32), 3, .null, [5], []),
  (40, .aload_n 0, 1, .null, [], []),
  (41, .iconst 1, 1, .null, [], []),
  (42, .iload_n 1, 1, .null, [], []),
  (43, .isub, 1, .null, [], []),
  (44, .invokevirtual 131, 3, .null, [252, 1, 0, 0, 0, 9], [(7, 108), (7, 110), (0, 33), (7, 111), (1, 11)]),
  (47, .istore 4, 2, .null, [], []),
  (49, .lload_n 2, 1, .null, [], []),
  (50, .aload_n 0, 1, .null, [], []),
  (51, .iload 4, 2, .null, [], []),
  (53, .invokevirtual 105, 3, .null, [253, 1, 0, 0, 0, 9], [(7, 116), (7, 118), (0, 35), (7, 119), (1, 11)]),
  (56, .lor, 1, .null, [], []),
  (57, .aload_n 0, 1, .null, [], []),
  (58, .iload 4, 2, .null, [], []),
  (60, .invokevirtual 134, 3, .null, [254, 1, 0, 0, 0, 9], [(7, 112), (7, 114), (0, 34), (7, 115), (1, 11)]),
  (63, .aload_n 0, 1, .null, [], []),
  (64, .aload_n 0, 1, .null, [], []),
  (65, .iload_n 1, 1, .null, [], []),
  (66, .invokevirtual 131, 3, .null, [252, 1, 0, 0, 0, 9], [(7, 108), (7, 110), (0, 33), (7, 111), (1, 11)]),
  (69, .invokevirtual 105, 3, .null, [253, 1, 0, 0, 0, 9], [(7, 116), (7, 118), (0, 35), (7, 119), (1, 11)]),
  (72, .ldc2_w 109, 3, .long (-1), [], [(7, 99)]),
  (75, .lxor, 1, .null, [], []),
  (76, .land, 1, .null, [], []),
  (77, .lor, 1, .null, [], []),
  (78, .lreturn, 1, .null, [], [])]
def e_m256 : e_MD := (⟨"HexCampaignModel", "closed", "(I)J"⟩, prog_14_method_39_code, 5, (some .long), [], e_c256)
-- 257: HexCampaignModel.stepCost(II)I
set_option maxRecDepth 100000 in
def e_c257 : List e_I := [(0, .aload_n 0, 1, .null, [], []),
  (1, .getfield 9, 3, .null, [9, 0, 1], [(6, 175)]),
  (4, .bipush 63, 2, .null, [], []),
  (6, .iload_n 1, 1, .null, [], []),
  (7, .iadd, 1, .null, [], []),
  (8, .iaload, 1, .null, [], []),
  (9, .iconst 1, 1, .null, [], []),
  (10, .if_icmp .ne 20, 3, .null, [30], []),
  (13, .aload_n 0, 1, .null, [], []),
  (14, .getfield 9, 3, .null, [9, 0, 1], [(6, 175)]),
  (17, .bipush 63, 2, .null, [], []),
  (19, .iload_n 2, 1, .null, [], []),
  (20, .iadd, 1, .null, [], []),
  (21, .iaload, 1, .null, [], []),
  (22, .iconst 1, 1, .null, [], []),
  (23, .if_icmp .ne 7, 3, .null, [30], []),
  (26, .iconst 1, 1, .null, [], []),
  (27, .goto 24, 3, .null, [51], []),
  (30, .getstatic 128, 3, .retAddr 16, [6], [(7, 141)]),
  (33, .iconst 5, 1, .null, [], []),
  (34, .aload_n 0, 1, .null, [], []),
  (35, .getfield 9, 3, .null, [9, 0, 1], [(6, 175)]),
  (38, .sipush 189, 3, .null, [], []),
  (41, .iaload, 1, .null, [], []),
  (42, .imul, 1, .null, [], []),
  (43, .aload_n 0, 1, .null, [], []),
  (44, .getfield 9, 3, .null, [9, 0, 1], [(6, 175)]),
  (47, .iload_n 2, 1, .null, [], []),
  (48, .iaload, 1, .null, [], []),
  (49, .iadd, 1, .null, [], []),
  (50, .iaload, 1, .null, [], []),
  (51, .ireturn, 1, .null, [], [])]
def e_m257 : e_MD := (⟨"HexCampaignModel", "stepCost", "(II)I"⟩, prog_14_method_37_code, 3, (some .int), [], e_c257)
-- 258: HexCampaignModel.findSupply(I)V
set_option maxRecDepth 100000 in
def e_c258 : List e_I := [(0, .aload_n 0, 1, .null, [], []),
  (1, .iload_n 1, 1, .null, [], []),
  (2, .invokevirtual 137, 3, .null, [256, 1, 0, 0, 0, 9], [(7, 124), (7, 126), (0, 37), (7, 127), (1, 11)]),
  (5, .ldc2_w 109, 3, .long (-1), [], [(7, 99)]),
  (8, .lxor, 1, .null, [], []),
  (9, .lstore_n 2, 1, .null, [], []),
  (10, .aload_n 0, 1, .null, [], []),
  (11, .iload_n 1, 1, .null, [], []),
  (12, .invokevirtual 140, 3, .null, [255, 1, 0, 0, 0, 9], [(7, 120), (7, 122), (0, 36), (7, 123), (1, 11)]),
  (15, .lload_n 2, 1, .null, [], []),
  (16, .land, 1, .null, [], []),
  (17, .lstore 4, 2, .null, [], []),
  (19, .iconst 0, 1, .null, [], []),
  (20, .istore 6, 2, .null, [], []),
  (22, .iload 6, 2, .null, [], []),
  (24, .bipush 63, 2, .null, [], []),
  (26, .if_icmp .ge 32, 3, .null, [58], []),
  (29, .aload_n 0, 1, .null, [], []),
  (30, .getfield 19, 3, .null, [9, 6, 1], [(6, 181)]),
  (33, .iload 6, 2, .null, [], []),
  (35, .lload 4, 2, .null, [], []),
  (37, .iload 6, 2, .null, [], []),
  (39, .invokestatic 83, 3, .null, [241, 2, 0, 0, 0], [(7, 64), (7, 65), (1, 11), (7, 66)]),
  (42, .ifCond .eq 7, 3, .null, [49], []),
  (45, .iconst 0, 1, .null, [], []),
  (46, .goto 5, 3, .null, [51], []),
  (49, .ldc 143, 2, .int 1000000, [], [(7, 136)]),
  (51, .iastore, 1, .null, [], []),
  (52, .iinc 6 1, 3, .null, [], []),
  (55, .goto (-33), 3, .null, [22], []),
  (58, .iconst 1, 1, .null, [], []),
  (59, .istore 6, 2, .null, [], []),
  (61, .iload 6, 2, .null, [], []),
  (63, .ifCond .eq 128, 3, .null, [191], []),
  (66, .iconst 0, 1, .null, [], []),
  (67, .istore 6, 2, .null, [], []),
  (69, .iconst 0, 1, .null, [], []),
  (70, .istore 7, 2, .null, [], []),
  (72, .iload 7, 2, .null, [], []),
  (74, .bipush 63, 2, .null, [], []),
  (76, .if_icmp .ge 112, 3, .null, [188], []),
  (79, .iconst 0, 1, .null, [], []),
  (80, .istore 8, 2, .null, [], []),
  (82, .iload 8, 2, .null, [], []),
  (84, .bipush 6, 2, .null, [], []),
  (86, .if_icmp .ge 96, 3, .null, [182], []),
  (89, .aload_n 0, 1, .null, [], []),
  (90, .getfield 19, 3, .null, [9, 6, 1], [(6, 181)]),
  (93, .iload 7, 2, .null, [], []),
  (95, .iaload, 1, .null, [], []),
  (96, .ldc 143, 2, .int 1000000, [], [(7, 136)]),
  (98, .if_icmp .ge 84, 3, .null, [182], []),
  (101, .iload 7, 2, .null, [], []),
  (103, .iload 8, 2, .null, [], []),
  (105, .invokestatic 80, 3, .null, [239, 2, 0, 0, 0], [(7, 54), (7, 55), (1, 11), (7, 56)]),
  (108, .istore 9, 2, .null, [], []),
  (110, .iload 9, 2, .null, [], []),
  (112, .ifCond .lt 64, 3, .null, [176], []),
  (115, .lload_n 2, 1, .null, [], []),
  (116, .iload 9, 2, .null, [], []),
  (118, .invokestatic 83, 3, .null, [241, 2, 0, 0, 0], [(7, 64), (7, 65), (1, 11), (7, 66)]),
  (121, .ifCond .eq 55, 3, .null, [176], []),
  (124, .aload_n 0, 1, .null, [], []),
  (125, .getfield 19, 3, .null, [9, 6, 1], [(6, 181)]),
  (128, .iload 7, 2, .null, [], []),
  (130, .iaload, 1, .null, [], []),
  (131, .aload_n 0, 1, .null, [], []),
  (132, .iload 7, 2, .null, [], []),
  (134, .iload 9, 2, .null, [], []),
  (136, .invokevirtual 144, 3, .null, [257, 2, 0, 0, 0, 9], [(7, 137), (7, 139), (0, 40), (7, 140), (1, 11)]),
  (139, .iadd, 1, .null, [], []),
  (140, .aload_n 0, 1, .null, [], []),
  (141, .getfield 19, 3, .null, [9, 6, 1], [(6, 181)]),
  (144, .iload 9, 2, .null, [], []),
  (146, .iaload, 1, .null, [], []),
  (147, .if_icmp .ge 29, 3, .null, [176], []),
  (150, .aload_n 0, 1, .null, [], []),
  (151, .getfield 19, 3, .null, [9, 6, 1], [(6, 181)]),
  (154, .iload 9, 2, .null, [], []),
  (156, .aload_n 0, 1, .null, [], []),
  (157, .getfield 19, 3, .null, [9, 6, 1], [(6, 181)]),
  (160, .iload 7, 2, .null, [], []),
  (162, .iaload, 1, .null, [], []),
  (163, .aload_n 0, 1, .null, [], []),
  (164, .iload 7, 2, .null, [], []),
  (166, .iload 9, 2, .null, [], []),
  (168, .invokevirtual 144, 3, .null, [257, 2, 0, 0, 0, 9], [(7, 137), (7, 139), (0, 40), (7, 140), (1, 11)]),
  (171, .iadd, 1, .null, [], []),
  (172, .iastore, 1, .null, [], []),
  (173, .iconst 1, 1, .null, [], []),
  (174, .istore 6, 2, .null, [], []),
  (176, .iinc 8 1, 3, .null, [], []),
  (179, .goto (-97), 3, .null, [82], []),
  (182, .iinc 7 1, 3, .null, [], []),
  (185, .goto (-113), 3, .null, [72], []),
  (188, .goto (-127), 3, .null, [61], []),
  (191, .return_, 1, .null, [], [])]
def e_m258 : e_MD := (⟨"HexCampaignModel", "findSupply", "(I)V"⟩, prog_14_method_40_code, 10, none, [], e_c258)
-- 259: HexCampaignModel.suppliedCells(I)J
set_option maxRecDepth 100000 in
def e_c259 : List e_I := [(0, .aload_n 0, 1, .null, [], []),
  (1, .iload_n 1, 1, .null, [], []),
  (2, .invokevirtual 147, 3, .null, [258, 1, 0, 0, 0, 9], [(7, 132), (7, 134), (0, 39), (7, 135), (1, 11)]),
  (5, .lconst 0, 1, .null, [], []),
  (6, .lstore_n 2, 1, .null, [], []),
  (7, .iconst 0, 1, .null, [], []),
  (8, .istore 4, 2, .null, [], []),
  (10, .iload 4, 2, .null, [], []),
  (12, .bipush 63, 2, .null, [], []),
  (14, .if_icmp .ge 38, 3, .null, [52], []),
  (17, .lload_n 2, 1, .null, [], []),
  (18, .aload_n 0, 1, .null, [], []),
  (19, .getfield 19, 3, .null, [9, 6, 1], [(6, 181)]),
  (22, .iload 4, 2, .null, [], []),
  (24, .iaload, 1, .null, [], []),
  (25, .aload_n 0, 1, .null, [], []),
  (26, .getfield 9, 3, .null, [9, 0, 1], [(6, 175)]),
  (29, .sipush 190, 3, .null, [], []),
  (32, .iaload, 1, .null, [], []),
  (33, .if_icmp .gt 10, 3, .null, [43], []),
  (36, .lconst 1, 1, .null, [], []),
  (37, .iload 4, 2, .null, [], []),
  (39, .lshl, 1, .null, [], []),
  (40, .goto 4, 3, .null, [44], []),
  (43, .lconst 0, 1, .null, [], []),
  (44, .lor, 1, .null, [], []),
  (45, .lstore_n 2, 1, .null, [], []),
  (46, .iinc 4 1, 3, .null, [], []),
  (49, .goto (-39), 3, .null, [10], []),
  (52, .lload_n 2, 1, .null, [], []),
  (53, .lreturn, 1, .null, [], [])]
def e_m259 : e_MD := (⟨"HexCampaignModel", "suppliedCells", "(I)J"⟩, prog_14_method_43_code, 5, (some .long), [], e_c259)
-- 260: HexCampaignModel.cells(II)J
set_option maxRecDepth 100000 in
def e_c260 : List e_I := [(0, .aload_n 0, 1, .null, [], []),
  (1, .iload_n 1, 1, .null, [], []),
  (2, .invokestatic 74, 3, .null, [234, 1, 0, 0, 0], [(7, 35), (7, 36), (1, 11), (7, 37)]),
  (5, .ifCond .ne 7, 3, .null, [12], []),
  (8, .iconst 1, 1, .null, [], []),
  (9, .goto 17, 3, .null, [26], []),
  (12, .iload_n 2, 1, .null, [], []),
  (13, .iconst 0, 1, .null, [], []),
  (14, .iconst 4, 1, .null, [], []),
  (15, .invokestatic 39, 3, .null, [225, 3, 0, 0, 0], [(7, 6), (7, 7), (1, 11), (7, 8)]),
  (18, .ifCond .ne 7, 3, .null, [25], []),
  (21, .iconst 2, 1, .null, [], []),
  (22, .goto 4, 3, .null, [26], []),
  (25, .iconst 0, 1, .null, [], []),
  (26, .putfield 35, 3, .null, [9, 5, 0, 0], [(6, 180)]),
  (29, .aload_n 0, 1, .null, [], []),
  (30, .getfield 35, 3, .null, [9, 5, 0], [(6, 180)]),
  (33, .ifCond .le 5, 3, .null, [38], []),
  (36, .lconst 0, 1, .null, [], []),
  (37, .lreturn, 1, .null, [], []),
  (38, .iload_n 2, 1, .null, [], []),
  (39, .tableswitch 57 0 3 #[29, 39, 45, 51], 29, .null, [96, 68, 78, 84, 90], []),
  (68, .aload_n 0, 1, .null, [], []),
  (69, .aload_n 0, 1, .null, [], []),
  (70, .iload_n 1, 1, .null, [], []),
  (71, .invokevirtual 131, 3, .null, [252, 1, 0, 0, 0, 9], [(7, 108), (7, 110), (0, 33), (7, 111), (1, 11)]),
  (74, .invokevirtual 134, 3, .null, [254, 1, 0, 0, 0, 9], [(7, 112), (7, 114), (0, 34), (7, 115), (1, 11)]),
  (77, .lreturn, 1, .null, [], []),
  (78, .aload_n 0, 1, .null, [], []),
  (79, .iload_n 1, 1, .null, [], []),
  (80, .invokevirtual 122, 3, .null, [248, 1, 0, 0, 0, 9], [(7, 84), (7, 86), (0, 30), (7, 87), (1, 11)]),
  (83, .lreturn, 1, .null, [], []),
  (84, .aload_n 0, 1, .null, [], []),
  (85, .iload_n 1, 1, .null, [], []),
  (86, .invokevirtual 140, 3, .null, [255, 1, 0, 0, 0, 9], [(7, 120), (7, 122), (0, 36), (7, 123), (1, 11)]),
  (89, .lreturn, 1, .null, [], []),
  (90, .aload_n 0, 1, .null, [], []),
  (91, .iload_n 1, 1, .null, [], []),
  (92, .invokevirtual 137, 3, .null, [256, 1, 0, 0, 0, 9], [(7, 124), (7, 126), (0, 37), (7, 127), (1, 11)]),
  (95, .lreturn, 1, .null, [], []),
  (96, .aload_n 0, 1, .null, [], []),
  (97, .iload_n 1, 1, .null, [], []),
  (98, .invokevirtual 154, 3, .null, [259, 1, 0, 0, 0, 9], [(7, 128), (7, 130), (0, 38), (7, 131), (1, 11)]),
  (101, .lreturn, 1, .null, [], [])]
def e_m260 : e_MD := (⟨"HexCampaignModel", "cells", "(II)J"⟩, prog_14_method_44_code, 3, (some .long), [], e_c260)
-- 261: HexCampaignModel.supplyCost(II)I
set_option maxRecDepth 100000 in
def e_c261 : List e_I := [(0, .aload_n 0, 1, .null, [], []),
  (1, .iload_n 1, 1, .null, [], []),
  (2, .invokestatic 74, 3, .null, [234, 1, 0, 0, 0], [(7, 35), (7, 36), (1, 11), (7, 37)]),
  (5, .ifCond .eq 14, 3, .null, [19], []),
  (8, .iload_n 2, 1, .null, [], []),
  (9, .invokestatic 64, 3, .null, [230, 1, 0, 0, 0], [(7, 17), (7, 18), (1, 11), (7, 19)]),
  (12, .ifCond .eq 7, 3, .null, [19], []),
  (15, .iconst 0, 1, .null, [], []),
  (16, .goto 4, 3, .null, [20], []),
  (19, .iconst 1, 1, .null, [], []),
  (20, .putfield 35, 3, .null, [9, 5, 0, 0], [(6, 180)]),
  (23, .aload_n 0, 1, .null, [], []),
  (24, .getfield 35, 3, .null, [9, 5, 0], [(6, 180)]),
  (27, .ifCond .ne 28, 3, .null, [55], []),
  (30, .aload_n 0, 1, .null, [], []),
  (31, .iload_n 1, 1, .null, [], []),
  (32, .invokevirtual 147, 3, .null, [258, 1, 0, 0, 0, 9], [(7, 132), (7, 134), (0, 39), (7, 135), (1, 11)]),
  (35, .aload_n 0, 1, .null, [], []),
  (36, .aload_n 0, 1, .null, [], []),
  (37, .getfield 19, 3, .null, [9, 6, 1], [(6, 181)]),
  (40, .iload_n 2, 1, .null, [], []),
  (41, .iaload, 1, .null, [], []),
  (42, .ldc 143, 2, .int 1000000, [], [(7, 136)]),
  (44, .if_icmp .ne 7, 3, .null, [51], []),
  (47, .iconst 2, 1, .null, [], []),
  (48, .goto 4, 3, .null, [52], []),
  (51, .iconst 0, 1, .null, [], []),
  (52, .putfield 35, 3, .null, [9, 5, 0, 0], [(6, 180)]),
  (55, .aload_n 0, 1, .null, [], []),
  (56, .getfield 35, 3, .null, [9, 5, 0], [(6, 180)]),
  (59, .ifCond .le 7, 3, .null, [66], []),
  (62, .iconst 0, 1, .null, [], []),
  (63, .goto 9, 3, .null, [72], []),
  (66, .aload_n 0, 1, .null, [], []),
  (67, .getfield 19, 3, .null, [9, 6, 1], [(6, 181)]),
  (70, .iload_n 2, 1, .null, [], []),
  (71, .iaload, 1, .null, [], []),
  (72, .ireturn, 1, .null, [], [])]
def e_m261 : e_MD := (⟨"HexCampaignModel", "supplyCost", "(II)I"⟩, prog_14_method_45_code, 3, (some .int), [], e_c261)
-- 262: HexCampaignModel.hasRoom(IIIII)Z
set_option maxRecDepth 100000 in
def e_c262 : List e_I := [(0, .iconst 0, 1, .null, [], []),
  (1, .istore 6, 2, .null, [], []),
  (3, .iload 4, 2, .null, [], []),
  (5, .istore 7, 2, .null, [], []),
  (7, .iconst 1, 1, .null, [], []),
  (8, .istore 8, 2, .null, [], []),
  (10, .iconst 0, 1, .null, [], []),
  (11, .istore 9, 2, .null, [], []),
  (13, .iload 9, 2, .null, [], []),
  (15, .aload_n 0, 1, .null, [], []),
  (16, .getfield 9, 3, .null, [9, 0, 1], [(6, 175)]),
  (19, .sipush 196, 3, .null, [], []),
  (22, .iaload, 1, .null, [], []),
  (23, .if_icmp .ge 84, 3, .null, [107], []),
  (26, .iload 9, 2, .null, [], []),
  (28, .iload_n 2, 1, .null, [], []),
  (29, .if_icmp .eq 72, 3, .null, [101], []),
  (32, .iload 5, 2, .null, [], []),
  (34, .iload 9, 2, .null, [], []),
  (36, .ishr, 1, .null, [], []),
  (37, .iconst 1, 1, .null, [], []),
  (38, .iand, 1, .null, [], []),
  (39, .iconst 1, 1, .null, [], []),
  (40, .if_icmp .ne 61, 3, .null, [101], []),
  (43, .aload_n 0, 1, .null, [], []),
  (44, .iload 9, 2, .null, [], []),
  (46, .invokevirtual 47, 3, .null, [227, 1, 0, 0, 0, 9], [(7, 2), (7, 4), (0, 24), (7, 5), (1, 11)]),
  (49, .ifCond .eq 52, 3, .null, [101], []),
  (52, .aload_n 0, 1, .null, [], []),
  (53, .iload 9, 2, .null, [], []),
  (55, .iconst 1, 1, .null, [], []),
  (56, .invokevirtual 43, 3, .null, [226, 2, 0, 0, 0, 9], [(7, 9), (7, 11), (0, 25), (7, 12), (1, 11)]),
  (59, .iload_n 1, 1, .null, [], []),
  (60, .if_icmp .ne 41, 3, .null, [101], []),
  (63, .iload 8, 2, .null, [], []),
  (65, .ifCond .eq 18, 3, .null, [83], []),
  (68, .aload_n 0, 1, .null, [], []),
  (69, .iload 9, 2, .null, [], []),
  (71, .iconst 0, 1, .null, [], []),
  (72, .invokevirtual 43, 3, .null, [226, 2, 0, 0, 0, 9], [(7, 9), (7, 11), (0, 25), (7, 12), (1, 11)]),
  (75, .iload_n 3, 1, .null, [], []),
  (76, .if_icmp .ne 7, 3, .null, [83], []),
  (79, .iconst 1, 1, .null, [], []),
  (80, .goto 4, 3, .null, [84], []),
  (83, .iconst 0, 1, .null, [], []),
  (84, .istore 8, 2, .null, [], []),
  (86, .iinc 6 1, 3, .null, [], []),
  (89, .iload 7, 2, .null, [], []),
  (91, .aload_n 0, 1, .null, [], []),
  (92, .iload 9, 2, .null, [], []),
  (94, .iconst 2, 1, .null, [], []),
  (95, .invokevirtual 43, 3, .null, [226, 2, 0, 0, 0, 9], [(7, 9), (7, 11), (0, 25), (7, 12), (1, 11)]),
  (98, .iadd, 1, .null, [], []),
  (99, .istore 7, 2, .null, [], []),
  (101, .iinc 9 1, 3, .null, [], []),
  (104, .goto (-91), 3, .null, [13], []),
  (107, .iload 8, 2, .null, [], []),
  (109, .ifCond .eq 20, 3, .null, [129], []),
  (112, .iload 6, 2, .null, [], []),
  (114, .iconst 2, 1, .null, [], []),
  (115, .if_icmp .gt 14, 3, .null, [129], []),
  (118, .iload 7, 2, .null, [], []),
  (120, .bipush 12, 2, .null, [], []),
  (122, .if_icmp .gt 7, 3, .null, [129], []),
  (125, .iconst 1, 1, .null, [], []),
  (126, .goto 4, 3, .null, [130], []),
  (129, .iconst 0, 1, .null, [], []),
  (130, .ireturn, 1, .null, [], [])]
def e_m262 : e_MD := (⟨"HexCampaignModel", "hasRoom", "(IIIII)Z"⟩, prog_14_method_27_code, 10, (some .boolean), [], e_c262)
-- 263: HexCampaignModel.unitAt(II)I
set_option maxRecDepth 100000 in
def e_c263 : List e_I := [(0, .sipush 205, 3, .null, [], []),
  (3, .bipush 6, 2, .null, [], []),
  (5, .iload_n 0, 1, .null, [], []),
  (6, .imul, 1, .null, [], []),
  (7, .iadd, 1, .null, [], []),
  (8, .iload_n 1, 1, .null, [], []),
  (9, .iadd, 1, .null, [], []),
  (10, .ireturn, 1, .null, [], [])]
def e_m263 : e_MD := (⟨"HexCampaignModel", "unitAt", "(II)I"⟩, prog_14_method_8_code, 2, (some .int), [], e_c263)
-- 264: HexCampaignModel.add(IIII)I
set_option maxRecDepth 100000 in
def e_c264 : List e_I := [(0, .aload_n 0, 1, .null, [], []),
  (1, .iload_n 1, 1, .null, [], []),
  (2, .invokestatic 74, 3, .null, [234, 1, 0, 0, 0], [(7, 35), (7, 36), (1, 11), (7, 37)]),
  (5, .ifCond .eq 10, 3, .null, [15], []),
  (8, .iload_n 2, 1, .null, [], []),
  (9, .invokestatic 64, 3, .null, [230, 1, 0, 0, 0], [(7, 17), (7, 18), (1, 11), (7, 19)]),
  (12, .ifCond .ne 7, 3, .null, [19], []),
  (15, .iconst 1, 1, .null, [], []),
  (16, .goto 29, 3, .null, [45], []),
  (19, .iload_n 3, 1, .null, [], []),
  (20, .iconst 1, 1, .null, [], []),
  (21, .bipush 9, 2, .null, [], []),
  (23, .invokestatic 39, 3, .null, [225, 3, 0, 0, 0], [(7, 6), (7, 7), (1, 11), (7, 8)]),
  (26, .ifCond .eq 14, 3, .null, [40], []),
  (29, .iload 4, 2, .null, [], []),
  (31, .iconst 1, 1, .null, [], []),
  (32, .bipush 12, 2, .null, [], []),
  (34, .invokestatic 39, 3, .null, [225, 3, 0, 0, 0], [(7, 6), (7, 7), (1, 11), (7, 8)]),
  (37, .ifCond .ne 7, 3, .null, [44], []),
  (40, .iconst 2, 1, .null, [], []),
  (41, .goto 4, 3, .null, [45], []),
  (44, .iconst 0, 1, .null, [], []),
  (45, .putfield 35, 3, .null, [9, 5, 0, 0], [(6, 180)]),
  (48, .aload_n 0, 1, .null, [], []),
  (49, .getfield 35, 3, .null, [9, 5, 0], [(6, 180)]),
  (52, .ifCond .ne 43, 3, .null, [95], []),
  (55, .aload_n 0, 1, .null, [], []),
  (56, .getfield 9, 3, .null, [9, 0, 1], [(6, 175)]),
  (59, .sipush 196, 3, .null, [], []),
  (62, .iaload, 1, .null, [], []),
  (63, .bipush 16, 2, .null, [], []),
  (65, .if_icmp .eq 25, 3, .null, [90], []),
  (68, .aload_n 0, 1, .null, [], []),
  (69, .getfield 9, 3, .null, [9, 0, 1], [(6, 175)]),
  (72, .iload_n 2, 1, .null, [], []),
  (73, .iaload, 1, .null, [], []),
  (74, .iconst 5, 1, .null, [], []),
  (75, .if_icmp .eq 15, 3, .null, [90], []),
  (78, .aload_n 0, 1, .null, [], []),
  (79, .iload_n 2, 1, .null, [], []),
  (80, .iconst (-1), 1, .null, [], []),
  (81, .iload_n 1, 1, .null, [], []),
  (82, .iload_n 3, 1, .null, [], []),
  (83, .iconst (-1), 1, .null, [], []),
  (84, .invokevirtual 97, 3, .null, [262, 5, 0, 0, 0, 9], [(7, 151), (7, 153), (0, 41), (7, 154), (1, 11)]),
  (87, .ifCond .ne 8, 3, .null, [95], []),
  (90, .aload_n 0, 1, .null, [], []),
  (91, .iconst 3, 1, .null, [], []),
  (92, .putfield 35, 3, .null, [9, 5, 0, 0], [(6, 180)]),
  (95, .aload_n 0, 1, .null, [], []),
  (96, .getfield 35, 3, .null, [9, 5, 0], [(6, 180)]),
  (99, .ifCond .le 5, 3, .null, [104], []),
  (102, .iconst 0, 1, .null, [], []),
  (103, .ireturn, 1, .null, [], []),
  (104, .aload_n 0, 1, .null, [], []),
  (105, .invokevirtual 71, 3, .null, [232, 0, 0, 0, 0, 9], [(7, 24), (7, 26), (0, 27), (7, 27), (1, 11)]),
  (108, .aload_n 0, 1, .null, [], []),
  (109, .getfield 9, 3, .null, [9, 0, 1], [(6, 175)]),
  (112, .sipush 196, 3, .null, [], []),
  (115, .iaload, 1, .null, [], []),
  (116, .istore 5, 2, .null, [], []),
  (118, .aload_n 0, 1, .null, [], []),
  (119, .getfield 9, 3, .null, [9, 0, 1], [(6, 175)]),
  (122, .iload 5, 2, .null, [], []),
  (124, .iconst 0, 1, .null, [], []),
  (125, .invokestatic 157, 3, .null, [263, 2, 0, 0, 0], [(7, 155), (7, 156), (1, 11), (7, 157)]),
  (128, .iload_n 1, 1, .null, [], []),
  (129, .iastore, 1, .null, [], []),
  (130, .aload_n 0, 1, .null, [], []),
  (131, .getfield 9, 3, .null, [9, 0, 1], [(6, 175)]),
  (134, .iload 5, 2, .null, [], []),
  (136, .iconst 1, 1, .null, [], []),
  (137, .invokestatic 157, 3, .null, [263, 2, 0, 0, 0], [(7, 155), (7, 156), (1, 11), (7, 157)]),
  (140, .iload_n 2, 1, .null, [], []),
  (141, .iastore, 1, .null, [], []),
  (142, .aload_n 0, 1, .null, [], []),
  (143, .getfield 9, 3, .null, [9, 0, 1], [(6, 175)]),
  (146, .iload 5, 2, .null, [], []),
  (148, .iconst 2, 1, .null, [], []),
  (149, .invokestatic 157, 3, .null, [263, 2, 0, 0, 0], [(7, 155), (7, 156), (1, 11), (7, 157)]),
  (152, .iload_n 3, 1, .null, [], []),
  (153, .iastore, 1, .null, [], []),
  (154, .aload_n 0, 1, .null, [], []),
  (155, .getfield 9, 3, .null, [9, 0, 1], [(6, 175)]),
  (158, .iload 5, 2, .null, [], []),
  (160, .iconst 3, 1, .null, [], []),
  (161, .invokestatic 157, 3, .null, [263, 2, 0, 0, 0], [(7, 155), (7, 156), (1, 11), (7, 157)]),
  (164, .iload 4, 2, .null, [], []),
  (166, .iastore, 1, .null, [], []),
  (167, .aload_n 0, 1, .null, [], []),
  (168, .getfield 9, 3, .null, [9, 0, 1], [(6, 175)]),
  (171, .iload 5, 2, .null, [], []),
  (173, .iconst 4, 1, .null, [], []),
  (174, .invokestatic 157, 3, .null, [263, 2, 0, 0, 0], [(7, 155), (7, 156), (1, 11), (7, 157)]),
  (177, .iconst 0, 1, .null, [], []),
  (178, .iastore, 1, .null, [], []),
  (179, .aload_n 0, 1, .null, [], []),
  (180, .getfield 9, 3, .null, [9, 0, 1], [(6, 175)]),
  (183, .iload 5, 2, .null, [], []),
  (185, .iconst 5, 1, .null, [], []),
  (186, .invokestatic 157, 3, .null, [263, 2, 0, 0, 0], [(7, 155), (7, 156), (1, 11), (7, 157)]),
  (189, .iconst 0, 1, .null, [], []),
  (190, .iastore, 1, .null, [], []),
  (191, .aload_n 0, 1, .null, [], []),
  (192, .getfield 9, 3, .null, [9, 0, 1], [(6, 175)]),
  (195, .sipush 196, 3, .null, [], []),
  (198, .dup2, 1, .null, [], []),
  (199, .iaload, 1, .null, [], []),
  (200, .iconst 1, 1, .null, [], []),
  (201, .iadd, 1, .null, [], []),
  (202, .iastore, 1, .null, [], []),
  (203, .aload_n 0, 1, .null, [], []),
  (204, .getfield 9, 3, .null, [9, 0, 1], [(6, 175)]),
  (207, .sipush 197, 3, .null, [], []),
  (210, .iconst 4, 1, .null, [], []),
  (211, .iload_n 1, 1, .null, [], []),
  (212, .imul, 1, .null, [], []),
  (213, .iadd, 1, .null, [], []),
  (214, .iconst 0, 1, .null, [], []),
  (215, .iadd, 1, .null, [], []),
  (216, .dup2, 1, .null, [], []),
  (217, .iaload, 1, .null, [], []),
  (218, .iload_n 3, 1, .null, [], []),
  (219, .iadd, 1, .null, [], []),
  (220, .iastore, 1, .null, [], []),
  (221, .iload 5, 2, .null, [], []),
  (223, .ireturn, 1, .null, [], [])]
def e_m264 : e_MD := (⟨"HexCampaignModel", "add", "(IIII)I"⟩, prog_14_method_46_code, 6, (some .int), [], e_c264)
-- 265: HexCampaignModel.isSupplied(I)Z
set_option maxRecDepth 100000 in
def e_c265 : List e_I := [(0, .aload_n 0, 1, .null, [], []),
  (1, .aload_n 0, 1, .null, [], []),
  (2, .iload_n 1, 1, .null, [], []),
  (3, .iconst 0, 1, .null, [], []),
  (4, .invokevirtual 43, 3, .null, [226, 2, 0, 0, 0, 9], [(7, 9), (7, 11), (0, 25), (7, 12), (1, 11)]),
  (7, .invokevirtual 147, 3, .null, [258, 1, 0, 0, 0, 9], [(7, 132), (7, 134), (0, 39), (7, 135), (1, 11)]),
  (10, .aload_n 0, 1, .null, [], []),
  (11, .getfield 19, 3, .null, [9, 6, 1], [(6, 181)]),
  (14, .aload_n 0, 1, .null, [], []),
  (15, .iload_n 1, 1, .null, [], []),
  (16, .iconst 1, 1, .null, [], []),
  (17, .invokevirtual 43, 3, .null, [226, 2, 0, 0, 0, 9], [(7, 9), (7, 11), (0, 25), (7, 12), (1, 11)]),
  (20, .iaload, 1, .null, [], []),
  (21, .aload_n 0, 1, .null, [], []),
  (22, .getfield 9, 3, .null, [9, 0, 1], [(6, 175)]),
  (25, .sipush 190, 3, .null, [], []),
  (28, .iaload, 1, .null, [], []),
  (29, .if_icmp .gt 7, 3, .null, [36], []),
  (32, .iconst 1, 1, .null, [], []),
  (33, .goto 4, 3, .null, [37], []),
  (36, .iconst 0, 1, .null, [], []),
  (37, .ireturn, 1, .null, [], [])]
def e_m265 : e_MD := (⟨"HexCampaignModel", "isSupplied", "(I)Z"⟩, prog_14_method_41_code, 2, (some .boolean), [], e_c265)
-- 266: HexCampaignModel.reduced(II)I
set_option maxRecDepth 100000 in
def e_c266 : List e_I := [(0, .aload_n 0, 1, .null, [], []),
  (1, .iload_n 1, 1, .null, [], []),
  (2, .invokevirtual 151, 3, .null, [265, 1, 0, 0, 0, 9], [(7, 166), (7, 168), (0, 43), (7, 169), (1, 11)]),
  (5, .ifCond .eq 12, 3, .null, [17], []),
  (8, .aload_n 0, 1, .null, [], []),
  (9, .iload_n 1, 1, .null, [], []),
  (10, .iload_n 2, 1, .null, [], []),
  (11, .invokevirtual 43, 3, .null, [226, 2, 0, 0, 0, 9], [(7, 9), (7, 11), (0, 25), (7, 12), (1, 11)]),
  (14, .goto 13, 3, .null, [27], []),
  (17, .aload_n 0, 1, .null, [], []),
  (18, .iload_n 1, 1, .null, [], []),
  (19, .iload_n 2, 1, .null, [], []),
  (20, .invokevirtual 43, 3, .null, [226, 2, 0, 0, 0, 9], [(7, 9), (7, 11), (0, 25), (7, 12), (1, 11)]),
  (23, .iconst 1, 1, .null, [], []),
  (24, .iadd, 1, .null, [], []),
  (25, .iconst 2, 1, .null, [], []),
  (26, .idiv, 1, .null, [], []),
  (27, .ireturn, 1, .null, [], [])]
def e_m266 : e_MD := (⟨"HexCampaignModel", "reduced", "(II)I"⟩, prog_14_method_42_code, 3, (some .int), [], e_c266)
-- 267: HexCampaignModel.canAttack(I)Z
set_option maxRecDepth 100000 in
def e_c267 : List e_I := [(0, .aload_n 0, 1, .null, [], []),
  (1, .iload_n 1, 1, .null, [], []),
  (2, .iconst 0, 1, .null, [], []),
  (3, .invokevirtual 43, 3, .null, [226, 2, 0, 0, 0, 9], [(7, 9), (7, 11), (0, 25), (7, 12), (1, 11)]),
  (6, .aload_n 0, 1, .null, [], []),
  (7, .getfield 9, 3, .null, [9, 0, 1], [(6, 175)]),
  (10, .sipush 191, 3, .null, [], []),
  (13, .iaload, 1, .null, [], []),
  (14, .if_icmp .ne 16, 3, .null, [30], []),
  (17, .aload_n 0, 1, .null, [], []),
  (18, .iload_n 1, 1, .null, [], []),
  (19, .iconst 5, 1, .null, [], []),
  (20, .invokevirtual 43, 3, .null, [226, 2, 0, 0, 0, 9], [(7, 9), (7, 11), (0, 25), (7, 12), (1, 11)]),
  (23, .ifCond .ne 7, 3, .null, [30], []),
  (26, .iconst 1, 1, .null, [], []),
  (27, .goto 4, 3, .null, [31], []),
  (30, .iconst 0, 1, .null, [], []),
  (31, .ireturn, 1, .null, [], [])]
def e_m267 : e_MD := (⟨"HexCampaignModel", "canAttack", "(I)Z"⟩, prog_14_method_47_code, 2, (some .boolean), [], e_c267)
-- 268: HexCampaignModel.canMove(I)Z
set_option maxRecDepth 100000 in
def e_c268 : List e_I := [(0, .aload_n 0, 1, .null, [], []),
  (1, .iload_n 1, 1, .null, [], []),
  (2, .invokevirtual 160, 3, .null, [267, 1, 0, 0, 0, 9], [(7, 174), (7, 176), (0, 45), (7, 177), (1, 11)]),
  (5, .ifCond .eq 16, 3, .null, [21], []),
  (8, .aload_n 0, 1, .null, [], []),
  (9, .iload_n 1, 1, .null, [], []),
  (10, .iconst 4, 1, .null, [], []),
  (11, .invokevirtual 43, 3, .null, [226, 2, 0, 0, 0, 9], [(7, 9), (7, 11), (0, 25), (7, 12), (1, 11)]),
  (14, .ifCond .ne 7, 3, .null, [21], []),
  (17, .iconst 1, 1, .null, [], []),
  (18, .goto 4, 3, .null, [22], []),
  (21, .iconst 0, 1, .null, [], []),
  (22, .ireturn, 1, .null, [], [])]
def e_m268 : e_MD := (⟨"HexCampaignModel", "canMove", "(I)Z"⟩, prog_14_method_48_code, 2, (some .boolean), [], e_c268)
-- 269: HexCampaignModel.unit(II)I
set_option maxRecDepth 100000 in
def e_c269 : List e_I := [(0, .aload_n 0, 1, .null, [], []),
  (1, .aload_n 0, 1, .null, [], []),
  (2, .iload_n 1, 1, .null, [], []),
  (3, .invokevirtual 47, 3, .null, [227, 1, 0, 0, 0, 9], [(7, 2), (7, 4), (0, 24), (7, 5), (1, 11)]),
  (6, .ifCond .ne 7, 3, .null, [13], []),
  (9, .iconst 1, 1, .null, [], []),
  (10, .goto 18, 3, .null, [28], []),
  (13, .iload_n 2, 1, .null, [], []),
  (14, .iconst 0, 1, .null, [], []),
  (15, .bipush 9, 2, .null, [], []),
  (17, .invokestatic 39, 3, .null, [225, 3, 0, 0, 0], [(7, 6), (7, 7), (1, 11), (7, 8)]),
  (20, .ifCond .ne 7, 3, .null, [27], []),
  (23, .iconst 2, 1, .null, [], []),
  (24, .goto 4, 3, .null, [28], []),
  (27, .iconst 0, 1, .null, [], []),
  (28, .putfield 35, 3, .null, [9, 5, 0, 0], [(6, 180)]),
  (31, .aload_n 0, 1, .null, [], []),
  (32, .getfield 35, 3, .null, [9, 5, 0], [(6, 180)]),
  (35, .ifCond .le 5, 3, .null, [40], []),
  (38, .iconst 0, 1, .null, [], []),
  (39, .ireturn, 1, .null, [], []),
  (40, .iload_n 2, 1, .null, [], []),
  (41, .tableswitch 125 4 9 #[39, 46, 53, 67, 81, 95], 39, .null, [166, 80, 87, 94, 108, 122, 136], []),
  (80, .aload_n 0, 1, .null, [], []),
  (81, .iload_n 1, 1, .null, [], []),
  (82, .iconst 3, 1, .null, [], []),
  (83, .invokevirtual 163, 3, .null, [266, 2, 0, 0, 0, 9], [(7, 162), (7, 164), (0, 42), (7, 165), (1, 11)]),
  (86, .ireturn, 1, .null, [], []),
  (87, .aload_n 0, 1, .null, [], []),
  (88, .iload_n 1, 1, .null, [], []),
  (89, .iconst 2, 1, .null, [], []),
  (90, .invokevirtual 163, 3, .null, [266, 2, 0, 0, 0, 9], [(7, 162), (7, 164), (0, 42), (7, 165), (1, 11)]),
  (93, .ireturn, 1, .null, [], []),
  (94, .aload_n 0, 1, .null, [], []),
  (95, .iload_n 1, 1, .null, [], []),
  (96, .invokevirtual 151, 3, .null, [265, 1, 0, 0, 0, 9], [(7, 166), (7, 168), (0, 43), (7, 169), (1, 11)]),
  (99, .ifCond .eq 7, 3, .null, [106], []),
  (102, .iconst 1, 1, .null, [], []),
  (103, .goto 4, 3, .null, [107], []),
  (106, .iconst 0, 1, .null, [], []),
  (107, .ireturn, 1, .null, [], []),
  (108, .aload_n 0, 1, .null, [], []),
  (109, .iload_n 1, 1, .null, [], []),
  (110, .invokevirtual 166, 3, .null, [268, 1, 0, 0, 0, 9], [(7, 170), (7, 172), (0, 44), (7, 173), (1, 11)]),
  (113, .ifCond .eq 7, 3, .null, [120], []),
  (116, .iconst 1, 1, .null, [], []),
  (117, .goto 4, 3, .null, [121], []),
  (120, .iconst 0, 1, .null, [], []),
  (121, .ireturn, 1, .null, [], []),
  (122, .aload_n 0, 1, .null, [], []),
  (123, .iload_n 1, 1, .null, [], []),
  (124, .invokevirtual 160, 3, .null, [267, 1, 0, 0, 0, 9], [(7, 174), (7, 176), (0, 45), (7, 177), (1, 11)]),
  (127, .ifCond .eq 7, 3, .null, [134], []),
  (130, .iconst 1, 1, .null, [], []),
  (131, .goto 4, 3, .null, [135], []),
  (134, .iconst 0, 1, .null, [], []),
  (135, .ireturn, 1, .null, [], []),
  (136, .aload_n 0, 1, .null, [], []),
  (137, .iconst 1, 1, .null, [], []),
  (138, .aload_n 0, 1, .null, [], []),
  (139, .iload_n 1, 1, .null, [], []),
  (140, .iconst 0, 1, .null, [], []),
  (141, .invokevirtual 43, 3, .null, [226, 2, 0, 0, 0, 9], [(7, 9), (7, 11), (0, 25), (7, 12), (1, 11)]),
  (144, .isub, 1, .null, [], []),
  (145, .invokevirtual 122, 3, .null, [248, 1, 0, 0, 0, 9], [(7, 84), (7, 86), (0, 30), (7, 87), (1, 11)]),
  (148, .aload_n 0, 1, .null, [], []),
  (149, .iload_n 1, 1, .null, [], []),
  (150, .iconst 1, 1, .null, [], []),
  (151, .invokevirtual 43, 3, .null, [226, 2, 0, 0, 0, 9], [(7, 9), (7, 11), (0, 25), (7, 12), (1, 11)]),
  (154, .invokestatic 83, 3, .null, [241, 2, 0, 0, 0], [(7, 64), (7, 65), (1, 11), (7, 66)]),
  (157, .ifCond .eq 7, 3, .null, [164], []),
  (160, .iconst 1, 1, .null, [], []),
  (161, .goto 4, 3, .null, [165], []),
  (164, .iconst 0, 1, .null, [], []),
  (165, .ireturn, 1, .null, [], []),
  (166, .aload_n 0, 1, .null, [], []),
  (167, .iload_n 1, 1, .null, [], []),
  (168, .iload_n 2, 1, .null, [], []),
  (169, .invokevirtual 43, 3, .null, [226, 2, 0, 0, 0, 9], [(7, 9), (7, 11), (0, 25), (7, 12), (1, 11)]),
  (172, .ireturn, 1, .null, [], [])]
def e_m269 : e_MD := (⟨"HexCampaignModel", "unit", "(II)I"⟩, prog_14_method_49_code, 3, (some .int), [], e_c269)
-- 270: HexCampaignModel.isStep(III)Z
set_option maxRecDepth 100000 in
def e_c270 : List e_I := [(0, .iload_n 3, 1, .null, [], []),
  (1, .ifCond .lt 24, 3, .null, [25], []),
  (4, .aload_n 0, 1, .null, [], []),
  (5, .getfield 9, 3, .null, [9, 0, 1], [(6, 175)]),
  (8, .iload_n 3, 1, .null, [], []),
  (9, .iaload, 1, .null, [], []),
  (10, .iconst 5, 1, .null, [], []),
  (11, .if_icmp .eq 14, 3, .null, [25], []),
  (14, .aload_n 0, 1, .null, [], []),
  (15, .getfield 169, 3, .null, [9, 8, 0], [(6, 183)]),
  (18, .iload_n 3, 1, .null, [], []),
  (19, .invokestatic 83, 3, .null, [241, 2, 0, 0, 0], [(7, 64), (7, 65), (1, 11), (7, 66)]),
  (22, .ifCond .eq 5, 3, .null, [27], []),
  (25, .iconst 0, 1, .null, [], []),
  (26, .ireturn, 1, .null, [], []),
  (27, .aload_n 0, 1, .null, [], []),
  (28, .getfield 173, 3, .null, [9, 9, 0], [(6, 184)]),
  (31, .iload_n 2, 1, .null, [], []),
  (32, .invokestatic 83, 3, .null, [241, 2, 0, 0, 0], [(7, 64), (7, 65), (1, 11), (7, 66)]),
  (35, .ifCond .ne 7, 3, .null, [42], []),
  (38, .iconst 1, 1, .null, [], []),
  (39, .goto 4, 3, .null, [43], []),
  (42, .iconst 0, 1, .null, [], []),
  (43, .istore 4, 2, .null, [], []),
  (45, .iload 4, 2, .null, [], []),
  (47, .ifCond .ne 30, 3, .null, [77], []),
  (50, .iload_n 2, 1, .null, [], []),
  (51, .iload_n 1, 1, .null, [], []),
  (52, .if_icmp .ne 29, 3, .null, [81], []),
  (55, .aload_n 0, 1, .null, [], []),
  (56, .getfield 173, 3, .null, [9, 9, 0], [(6, 184)]),
  (59, .iload_n 3, 1, .null, [], []),
  (60, .invokestatic 83, 3, .null, [241, 2, 0, 0, 0], [(7, 64), (7, 65), (1, 11), (7, 66)]),
  (63, .ifCond .eq 14, 3, .null, [77], []),
  (66, .aload_n 0, 1, .null, [], []),
  (67, .getfield 176, 3, .null, [9, 10, 0], [(6, 185)]),
  (70, .iload_n 3, 1, .null, [], []),
  (71, .invokestatic 83, 3, .null, [241, 2, 0, 0, 0], [(7, 64), (7, 65), (1, 11), (7, 66)]),
  (74, .ifCond .eq 7, 3, .null, [81], []),
  (77, .iconst 1, 1, .null, [], []),
  (78, .goto 4, 3, .null, [82], []),
  (81, .iconst 0, 1, .null, [], []),
  (82, .ireturn, 1, .null, [], [])]
def e_m270 : e_MD := (⟨"HexCampaignModel", "isStep", "(III)Z"⟩, prog_14_method_50_code, 5, (some .boolean), [], e_c270)
-- 271: HexCampaignModel.findWays(I)V
set_option maxRecDepth 100000 in
def e_c271 : List e_I := [(0, .aload_n 0, 1, .null, [], []),
  (1, .iload_n 1, 1, .null, [], []),
  (2, .iconst 0, 1, .null, [], []),
  (3, .invokevirtual 43, 3, .null, [226, 2, 0, 0, 0, 9], [(7, 9), (7, 11), (0, 25), (7, 12), (1, 11)]),
  (6, .istore_n 2, 1, .null, [], []),
  (7, .aload_n 0, 1, .null, [], []),
  (8, .aload_n 0, 1, .null, [], []),
  (9, .iload_n 2, 1, .null, [], []),
  (10, .invokevirtual 125, 3, .null, [249, 1, 0, 0, 0, 9], [(7, 80), (7, 82), (0, 29), (7, 83), (1, 11)]),
  (13, .putfield 179, 3, .null, [9, 11, 0, 0], [(6, 186)]),
  (16, .aload_n 0, 1, .null, [], []),
  (17, .aload_n 0, 1, .null, [], []),
  (18, .aload_n 0, 1, .null, [], []),
  (19, .getfield 179, 3, .null, [9, 11, 0], [(6, 186)]),
  (22, .invokevirtual 105, 3, .null, [253, 1, 0, 0, 0, 9], [(7, 116), (7, 118), (0, 35), (7, 119), (1, 11)]),
  (25, .putfield 169, 3, .null, [9, 8, 0, 2], [(6, 183)]),
  (28, .aload_n 0, 1, .null, [], []),
  (29, .aload_n 0, 1, .null, [], []),
  (30, .aload_n 0, 1, .null, [], []),
  (31, .getfield 179, 3, .null, [9, 11, 0], [(6, 186)]),
  (34, .invokevirtual 134, 3, .null, [254, 1, 0, 0, 0, 9], [(7, 112), (7, 114), (0, 34), (7, 115), (1, 11)]),
  (37, .putfield 173, 3, .null, [9, 9, 0, 2], [(6, 184)]),
  (40, .aload_n 0, 1, .null, [], []),
  (41, .aload_n 0, 1, .null, [], []),
  (42, .aload_n 0, 1, .null, [], []),
  (43, .iload_n 2, 1, .null, [], []),
  (44, .invokevirtual 131, 3, .null, [252, 1, 0, 0, 0, 9], [(7, 108), (7, 110), (0, 33), (7, 111), (1, 11)]),
  (47, .iconst 1, 1, .null, [], []),
  (48, .iload_n 1, 1, .null, [], []),
  (49, .ishl, 1, .null, [], []),
  (50, .iconst (-1), 1, .null, [], []),
  (51, .ixor, 1, .null, [], []),
  (52, .iand, 1, .null, [], []),
  (53, .invokevirtual 105, 3, .null, [253, 1, 0, 0, 0, 9], [(7, 116), (7, 118), (0, 35), (7, 119), (1, 11)]),
  (56, .putfield 176, 3, .null, [9, 10, 0, 2], [(6, 185)]),
  (59, .aload_n 0, 1, .null, [], []),
  (60, .iload_n 1, 1, .null, [], []),
  (61, .iconst 1, 1, .null, [], []),
  (62, .invokevirtual 43, 3, .null, [226, 2, 0, 0, 0, 9], [(7, 9), (7, 11), (0, 25), (7, 12), (1, 11)]),
  (65, .istore_n 3, 1, .null, [], []),
  (66, .iconst 0, 1, .null, [], []),
  (67, .istore 4, 2, .null, [], []),
  (69, .iload 4, 2, .null, [], []),
  (71, .bipush 63, 2, .null, [], []),
  (73, .if_icmp .ge 28, 3, .null, [101], []),
  (76, .aload_n 0, 1, .null, [], []),
  (77, .getfield 22, 3, .null, [9, 7, 1], [(6, 182)]),
  (80, .iload 4, 2, .null, [], []),
  (82, .iload 4, 2, .null, [], []),
  (84, .iload_n 3, 1, .null, [], []),
  (85, .if_icmp .ne 7, 3, .null, [92], []),
  (88, .iconst 0, 1, .null, [], []),
  (89, .goto 5, 3, .null, [94], []),
  (92, .ldc 143, 2, .int 1000000, [], [(7, 136)]),
  (94, .iastore, 1, .null, [], []),
  (95, .iinc 4 1, 3, .null, [], []),
  (98, .goto (-29), 3, .null, [69], []),
  (101, .iconst 1, 1, .null, [], []),
  (102, .istore 4, 2, .null, [], []),
  (104, .iload 4, 2, .null, [], []),
  (106, .ifCond .eq 126, 3, .null, [232], []),
  (109, .iconst 0, 1, .null, [], []),
  (110, .istore 4, 2, .null, [], []),
  (112, .iconst 0, 1, .null, [], []),
  (113, .istore 5, 2, .null, [], []),
  (115, .iload 5, 2, .null, [], []),
  (117, .bipush 63, 2, .null, [], []),
  (119, .if_icmp .ge 110, 3, .null, [229], []),
  (122, .iconst 0, 1, .null, [], []),
  (123, .istore 6, 2, .null, [], []),
  (125, .iload 6, 2, .null, [], []),
  (127, .bipush 6, 2, .null, [], []),
  (129, .if_icmp .ge 94, 3, .null, [223], []),
  (132, .aload_n 0, 1, .null, [], []),
  (133, .getfield 22, 3, .null, [9, 7, 1], [(6, 182)]),
  (136, .iload 5, 2, .null, [], []),
  (138, .iaload, 1, .null, [], []),
  (139, .ldc 143, 2, .int 1000000, [], [(7, 136)]),
  (141, .if_icmp .ge 82, 3, .null, [223], []),
  (144, .iload 5, 2, .null, [], []),
  (146, .iload 6, 2, .null, [], []),
  (148, .invokestatic 80, 3, .null, [239, 2, 0, 0, 0], [(7, 54), (7, 55), (1, 11), (7, 56)]),
  (151, .istore 7, 2, .null, [], []),
  (153, .aload_n 0, 1, .null, [], []),
  (154, .iload_n 3, 1, .null, [], []),
  (155, .iload 5, 2, .null, [], []),
  (157, .iload 7, 2, .null, [], []),
  (159, .invokevirtual 182, 3, .null, [270, 3, 0, 0, 0, 9], [(7, 186), (7, 188), (0, 47), (7, 189), (1, 11)]),
  (162, .ifCond .eq 55, 3, .null, [217], []),
  (165, .aload_n 0, 1, .null, [], []),
  (166, .getfield 22, 3, .null, [9, 7, 1], [(6, 182)]),
  (169, .iload 5, 2, .null, [], []),
  (171, .iaload, 1, .null, [], []),
  (172, .aload_n 0, 1, .null, [], []),
  (173, .iload 5, 2, .null, [], []),
  (175, .iload 7, 2, .null, [], []),
  (177, .invokevirtual 144, 3, .null, [257, 2, 0, 0, 0, 9], [(7, 137), (7, 139), (0, 40), (7, 140), (1, 11)]),
  (180, .iadd, 1, .null, [], []),
  (181, .aload_n 0, 1, .null, [], []),
  (182, .getfield 22, 3, .null, [9, 7, 1], [(6, 182)]),
  (185, .iload 7, 2, .null, [], []),
  (187, .iaload, 1, .null, [], []),
  (188, .if_icmp .ge 29, 3, .null, [217], []),
  (191, .aload_n 0, 1, .null, [], []),
  (192, .getfield 22, 3, .null, [9, 7, 1], [(6, 182)]),
  (195, .iload 7, 2, .null, [], []),
  (197, .aload_n 0, 1, .null, [], []),
  (198, .getfield 22, 3, .null, [9, 7, 1], [(6, 182)]),
  (201, .iload 5, 2, .null, [], []),
  (203, .iaload, 1, .null, [], []),
  (204, .aload_n 0, 1, .null, [], []),
  (205, .iload 5, 2, .null, [], []),
  (207, .iload 7, 2, .null, [], []),
  (209, .invokevirtual 144, 3, .null, [257, 2, 0, 0, 0, 9], [(7, 137), (7, 139), (0, 40), (7, 140), (1, 11)]),
  (212, .iadd, 1, .null, [], []),
  (213, .iastore, 1, .null, [], []),
  (214, .iconst 1, 1, .null, [], []),
  (215, .istore 4, 2, .null, [], []),
  (217, .iinc 6 1, 3, .null, [], []),
  (220, .goto (-95), 3, .null, [125], []),
  (223, .iinc 5 1, 3, .null, [], []),
  (226, .goto (-111), 3, .null, [115], []),
  (229, .goto (-125), 3, .null, [104], []),
  (232, .return_, 1, .null, [], [])]
def e_m271 : e_MD := (⟨"HexCampaignModel", "findWays", "(I)V"⟩, prog_14_method_51_code, 8, none, [], e_c271)
-- 272: HexCampaignModel.canReach(III)Z
set_option maxRecDepth 100000 in
def e_c272 : List e_I := [(0, .aload_n 0, 1, .null, [], []),
  (1, .aload_n 0, 1, .null, [], []),
  (2, .iload_n 1, 1, .null, [], []),
  (3, .iconst 0, 1, .null, [], []),
  (4, .invokevirtual 43, 3, .null, [226, 2, 0, 0, 0, 9], [(7, 9), (7, 11), (0, 25), (7, 12), (1, 11)]),
  (7, .invokevirtual 131, 3, .null, [252, 1, 0, 0, 0, 9], [(7, 108), (7, 110), (0, 33), (7, 111), (1, 11)]),
  (10, .aload_n 0, 1, .null, [], []),
  (11, .getfield 179, 3, .null, [9, 11, 0], [(6, 186)]),
  (14, .ior, 1, .null, [], []),
  (15, .istore 4, 2, .null, [], []),
  (17, .iload_n 2, 1, .null, [], []),
  (18, .aload_n 0, 1, .null, [], []),
  (19, .iload_n 1, 1, .null, [], []),
  (20, .iconst 1, 1, .null, [], []),
  (21, .invokevirtual 43, 3, .null, [226, 2, 0, 0, 0, 9], [(7, 9), (7, 11), (0, 25), (7, 12), (1, 11)]),
  (24, .if_icmp .eq 40, 3, .null, [64], []),
  (27, .aload_n 0, 1, .null, [], []),
  (28, .getfield 22, 3, .null, [9, 7, 1], [(6, 182)]),
  (31, .iload_n 2, 1, .null, [], []),
  (32, .iaload, 1, .null, [], []),
  (33, .iload_n 3, 1, .null, [], []),
  (34, .if_icmp .gt 30, 3, .null, [64], []),
  (37, .aload_n 0, 1, .null, [], []),
  (38, .iload_n 2, 1, .null, [], []),
  (39, .iload_n 1, 1, .null, [], []),
  (40, .aload_n 0, 1, .null, [], []),
  (41, .iload_n 1, 1, .null, [], []),
  (42, .iconst 0, 1, .null, [], []),
  (43, .invokevirtual 43, 3, .null, [226, 2, 0, 0, 0, 9], [(7, 9), (7, 11), (0, 25), (7, 12), (1, 11)]),
  (46, .aload_n 0, 1, .null, [], []),
  (47, .iload_n 1, 1, .null, [], []),
  (48, .iconst 2, 1, .null, [], []),
  (49, .invokevirtual 43, 3, .null, [226, 2, 0, 0, 0, 9], [(7, 9), (7, 11), (0, 25), (7, 12), (1, 11)]),
  (52, .iload 4, 2, .null, [], []),
  (54, .invokevirtual 97, 3, .null, [262, 5, 0, 0, 0, 9], [(7, 151), (7, 153), (0, 41), (7, 154), (1, 11)]),
  (57, .ifCond .eq 7, 3, .null, [64], []),
  (60, .iconst 1, 1, .null, [], []),
  (61, .goto 4, 3, .null, [65], []),
  (64, .iconst 0, 1, .null, [], []),
  (65, .ireturn, 1, .null, [], [])]
def e_m272 : e_MD := (⟨"HexCampaignModel", "canReach", "(III)Z"⟩, prog_14_method_52_code, 5, (some .boolean), [], e_c272)
-- 273: HexCampaignModel.reach(I)J
set_option maxRecDepth 100000 in
def e_c273 : List e_I := [(0, .aload_n 0, 1, .null, [], []),
  (1, .aload_n 0, 1, .null, [], []),
  (2, .iload_n 1, 1, .null, [], []),
  (3, .invokevirtual 47, 3, .null, [227, 1, 0, 0, 0, 9], [(7, 2), (7, 4), (0, 24), (7, 5), (1, 11)]),
  (6, .ifCond .eq 7, 3, .null, [13], []),
  (9, .iconst 0, 1, .null, [], []),
  (10, .goto 4, 3, .null, [14], []),
  (13, .iconst 1, 1, .null, [], []),
  (14, .putfield 35, 3, .null, [9, 5, 0, 0], [(6, 180)]),
  (17, .aload_n 0, 1, .null, [], []),
  (18, .getfield 35, 3, .null, [9, 5, 0], [(6, 180)]),
  (21, .ifCond .le 5, 3, .null, [26], []),
  (24, .lconst 0, 1, .null, [], []),
  (25, .lreturn, 1, .null, [], []),
  (26, .aload_n 0, 1, .null, [], []),
  (27, .iload_n 1, 1, .null, [], []),
  (28, .iconst 3, 1, .null, [], []),
  (29, .invokevirtual 163, 3, .null, [266, 2, 0, 0, 0, 9], [(7, 162), (7, 164), (0, 42), (7, 165), (1, 11)]),
  (32, .istore_n 2, 1, .null, [], []),
  (33, .aload_n 0, 1, .null, [], []),
  (34, .iload_n 1, 1, .null, [], []),
  (35, .invokevirtual 185, 3, .null, [271, 1, 0, 0, 0, 9], [(7, 182), (7, 184), (0, 46), (7, 185), (1, 11)]),
  (38, .lconst 0, 1, .null, [], []),
  (39, .lstore_n 3, 1, .null, [], []),
  (40, .iconst 0, 1, .null, [], []),
  (41, .istore 5, 2, .null, [], []),
  (43, .iload 5, 2, .null, [], []),
  (45, .bipush 63, 2, .null, [], []),
  (47, .if_icmp .ge 31, 3, .null, [78], []),
  (50, .lload_n 3, 1, .null, [], []),
  (51, .aload_n 0, 1, .null, [], []),
  (52, .iload_n 1, 1, .null, [], []),
  (53, .iload 5, 2, .null, [], []),
  (55, .iload_n 2, 1, .null, [], []),
  (56, .invokevirtual 188, 3, .null, [272, 3, 0, 0, 0, 9], [(7, 190), (7, 192), (0, 48), (7, 193), (1, 11)]),
  (59, .ifCond .eq 10, 3, .null, [69], []),
  (62, .lconst 1, 1, .null, [], []),
  (63, .iload 5, 2, .null, [], []),
  (65, .lshl, 1, .null, [], []),
  (66, .goto 4, 3, .null, [70], []),
  (69, .lconst 0, 1, .null, [], []),
  (70, .lor, 1, .null, [], []),
  (71, .lstore_n 3, 1, .null, [], []),
  (72, .iinc 5 1, 3, .null, [], []),
  (75, .goto (-32), 3, .null, [43], []),
  (78, .lload_n 3, 1, .null, [], []),
  (79, .lreturn, 1, .null, [], [])]
def e_m273 : e_MD := (⟨"HexCampaignModel", "reach", "(I)J"⟩, prog_14_method_53_code, 6, (some .long), [], e_c273)
-- 274: HexCampaignModel.hasWay(II)Z
set_option maxRecDepth 100000 in
def e_c274 : List e_I := [(0, .aload_n 0, 1, .null, [], []),
  (1, .iload_n 1, 1, .null, [], []),
  (2, .invokevirtual 185, 3, .null, [271, 1, 0, 0, 0, 9], [(7, 182), (7, 184), (0, 46), (7, 185), (1, 11)]),
  (5, .iload_n 2, 1, .null, [], []),
  (6, .aload_n 0, 1, .null, [], []),
  (7, .iload_n 1, 1, .null, [], []),
  (8, .iconst 1, 1, .null, [], []),
  (9, .invokevirtual 43, 3, .null, [226, 2, 0, 0, 0, 9], [(7, 9), (7, 11), (0, 25), (7, 12), (1, 11)]),
  (12, .if_icmp .eq 18, 3, .null, [30], []),
  (15, .aload_n 0, 1, .null, [], []),
  (16, .getfield 22, 3, .null, [9, 7, 1], [(6, 182)]),
  (19, .iload_n 2, 1, .null, [], []),
  (20, .iaload, 1, .null, [], []),
  (21, .ldc 143, 2, .int 1000000, [], [(7, 136)]),
  (23, .if_icmp .ge 7, 3, .null, [30], []),
  (26, .iconst 1, 1, .null, [], []),
  (27, .goto 4, 3, .null, [31], []),
  (30, .iconst 0, 1, .null, [], []),
  (31, .ireturn, 1, .null, [], [])]
def e_m274 : e_MD := (⟨"HexCampaignModel", "hasWay", "(II)Z"⟩, prog_14_method_56_code, 3, (some .boolean), [], e_c274)
-- 275: HexCampaignModel.cost(II)I
set_option maxRecDepth 100000 in
def e_c275 : List e_I := [(0, .aload_n 0, 1, .null, [], []),
  (1, .aload_n 0, 1, .null, [], []),
  (2, .iload_n 1, 1, .null, [], []),
  (3, .invokevirtual 47, 3, .null, [227, 1, 0, 0, 0, 9], [(7, 2), (7, 4), (0, 24), (7, 5), (1, 11)]),
  (6, .ifCond .eq 10, 3, .null, [16], []),
  (9, .iload_n 2, 1, .null, [], []),
  (10, .invokestatic 64, 3, .null, [230, 1, 0, 0, 0], [(7, 17), (7, 18), (1, 11), (7, 19)]),
  (13, .ifCond .ne 7, 3, .null, [20], []),
  (16, .iconst 1, 1, .null, [], []),
  (17, .goto 17, 3, .null, [34], []),
  (20, .aload_n 0, 1, .null, [], []),
  (21, .iload_n 1, 1, .null, [], []),
  (22, .iload_n 2, 1, .null, [], []),
  (23, .invokevirtual 200, 3, .null, [274, 2, 0, 0, 0, 9], [(7, 198), (7, 200), (0, 49), (7, 201), (1, 11)]),
  (26, .ifCond .eq 7, 3, .null, [33], []),
  (29, .iconst 0, 1, .null, [], []),
  (30, .goto 4, 3, .null, [34], []),
  (33, .iconst 2, 1, .null, [], []),
  (34, .putfield 35, 3, .null, [9, 5, 0, 0], [(6, 180)]),
  (37, .aload_n 0, 1, .null, [], []),
  (38, .getfield 35, 3, .null, [9, 5, 0], [(6, 180)]),
  (41, .ifCond .le 7, 3, .null, [48], []),
  (44, .iconst 0, 1, .null, [], []),
  (45, .goto 9, 3, .null, [54], []),
  (48, .aload_n 0, 1, .null, [], []),
  (49, .getfield 22, 3, .null, [9, 7, 1], [(6, 182)]),
  (52, .iload_n 2, 1, .null, [], []),
  (53, .iaload, 1, .null, [], []),
  (54, .ireturn, 1, .null, [], [])]
def e_m275 : e_MD := (⟨"HexCampaignModel", "cost", "(II)I"⟩, prog_14_method_57_code, 3, (some .int), [], e_c275)
-- 276: HexCampaignModel.isTight(III)Z
set_option maxRecDepth 100000 in
def e_c276 : List e_I := [(0, .aload_n 0, 1, .null, [], []),
  (1, .iload_n 1, 1, .null, [], []),
  (2, .iload_n 2, 1, .null, [], []),
  (3, .iload_n 3, 1, .null, [], []),
  (4, .invokevirtual 182, 3, .null, [270, 3, 0, 0, 0, 9], [(7, 186), (7, 188), (0, 47), (7, 189), (1, 11)]),
  (7, .ifCond .eq 40, 3, .null, [47], []),
  (10, .aload_n 0, 1, .null, [], []),
  (11, .getfield 22, 3, .null, [9, 7, 1], [(6, 182)]),
  (14, .iload_n 2, 1, .null, [], []),
  (15, .iaload, 1, .null, [], []),
  (16, .ldc 143, 2, .int 1000000, [], [(7, 136)]),
  (18, .if_icmp .ge 29, 3, .null, [47], []),
  (21, .aload_n 0, 1, .null, [], []),
  (22, .getfield 22, 3, .null, [9, 7, 1], [(6, 182)]),
  (25, .iload_n 2, 1, .null, [], []),
  (26, .iaload, 1, .null, [], []),
  (27, .aload_n 0, 1, .null, [], []),
  (28, .iload_n 2, 1, .null, [], []),
  (29, .iload_n 3, 1, .null, [], []),
  (30, .invokevirtual 144, 3, .null, [257, 2, 0, 0, 0, 9], [(7, 137), (7, 139), (0, 40), (7, 140), (1, 11)]),
  (33, .iadd, 1, .null, [], []),
  (34, .aload_n 0, 1, .null, [], []),
  (35, .getfield 22, 3, .null, [9, 7, 1], [(6, 182)]),
  (38, .iload_n 3, 1, .null, [], []),
  (39, .iaload, 1, .null, [], []),
  (40, .if_icmp .ne 7, 3, .null, [47], []),
  (43, .iconst 1, 1, .null, [], []),
  (44, .goto 4, 3, .null, [48], []),
  (47, .iconst 0, 1, .null, [], []),
  (48, .ireturn, 1, .null, [], [])]
def e_m276 : e_MD := (⟨"HexCampaignModel", "isTight", "(III)Z"⟩, prog_14_method_54_code, 4, (some .boolean), [], e_c276)
-- 277: HexCampaignModel.findWay(II)V
set_option maxRecDepth 100000 in
def e_c277 : List e_I := [(0, .lconst 1, 1, .null, [], []),
  (1, .iload_n 2, 1, .null, [], []),
  (2, .lshl, 1, .null, [], []),
  (3, .lstore_n 3, 1, .null, [], []),
  (4, .lconst 0, 1, .null, [], []),
  (5, .lstore 5, 2, .null, [], []),
  (7, .lload 5, 2, .null, [], []),
  (9, .lload_n 3, 1, .null, [], []),
  (10, .lcmp, 1, .null, [], []),
  (11, .ifCond .eq 87, 3, .null, [98], []),
  (14, .lload_n 3, 1, .null, [], []),
  (15, .lstore 5, 2, .null, [], []),
  (17, .iconst 0, 1, .null, [], []),
  (18, .istore 7, 2, .null, [], []),
  (20, .iload 7, 2, .null, [], []),
  (22, .bipush 63, 2, .null, [], []),
  (24, .if_icmp .ge 71, 3, .null, [95], []),
  (27, .iconst 0, 1, .null, [], []),
  (28, .istore 8, 2, .null, [], []),
  (30, .iload 8, 2, .null, [], []),
  (32, .bipush 6, 2, .null, [], []),
  (34, .if_icmp .ge 55, 3, .null, [89], []),
  (37, .iload 7, 2, .null, [], []),
  (39, .iload 8, 2, .null, [], []),
  (41, .invokestatic 80, 3, .null, [239, 2, 0, 0, 0], [(7, 54), (7, 55), (1, 11), (7, 56)]),
  (44, .istore 9, 2, .null, [], []),
  (46, .lload_n 3, 1, .null, [], []),
  (47, .iload 9, 2, .null, [], []),
  (49, .ifCond .lt 31, 3, .null, [80], []),
  (52, .lload_n 3, 1, .null, [], []),
  (53, .iload 9, 2, .null, [], []),
  (55, .invokestatic 83, 3, .null, [241, 2, 0, 0, 0], [(7, 64), (7, 65), (1, 11), (7, 66)]),
  (58, .ifCond .eq 22, 3, .null, [80], []),
  (61, .aload_n 0, 1, .null, [], []),
  (62, .iload_n 1, 1, .null, [], []),
  (63, .iload 7, 2, .null, [], []),
  (65, .iload 9, 2, .null, [], []),
  (67, .invokevirtual 191, 3, .null, [276, 3, 0, 0, 0, 9], [(7, 210), (7, 212), (0, 51), (7, 213), (1, 11)]),
  (70, .ifCond .eq 10, 3, .null, [80], []),
  (73, .lconst 1, 1, .null, [], []),
  (74, .iload 7, 2, .null, [], []),
  (76, .lshl, 1, .null, [], []),
  (77, .goto 4, 3, .null, [81], []),
  (80, .lconst 0, 1, .null, [], []),
  (81, .lor, 1, .null, [], []),
  (82, .lstore_n 3, 1, .null, [], []),
  (83, .iinc 8 1, 3, .null, [], []),
  (86, .goto (-56), 3, .null, [30], []),
  (89, .iinc 7 1, 3, .null, [], []),
  (92, .goto (-72), 3, .null, [20], []),
  (95, .goto (-88), 3, .null, [7], []),
  (98, .aload_n 0, 1, .null, [], []),
  (99, .iconst 0, 1, .null, [], []),
  (100, .putfield 194, 3, .null, [9, 13, 0, 0], [(6, 188)]),
  (103, .iload_n 1, 1, .null, [], []),
  (104, .istore 7, 2, .null, [], []),
  (106, .iload 7, 2, .null, [], []),
  (108, .iload_n 2, 1, .null, [], []),
  (109, .if_icmp .eq 100, 3, .null, [209], []),
  (112, .aload_n 0, 1, .null, [], []),
  (113, .getfield 25, 3, .null, [9, 12, 1], [(6, 187)]),
  (116, .aload_n 0, 1, .null, [], []),
  (117, .getfield 194, 3, .null, [9, 13, 0], [(6, 188)]),
  (120, .iload 7, 2, .null, [], []),
  (122, .iastore, 1, .null, [], []),
  (123, .aload_n 0, 1, .null, [], []),
  (124, .dup, 1, .null, [], []),
  (125, .getfield 194, 3, .null, [9, 13, 0], [(6, 188)]),
  (128, .iconst 1, 1, .null, [], []),
  (129, .iadd, 1, .null, [], []),
  (130, .putfield 194, 3, .null, [9, 13, 0, 0], [(6, 188)]),
  (133, .bipush 63, 2, .null, [], []),
  (135, .istore 8, 2, .null, [], []),
  (137, .iconst 0, 1, .null, [], []),
  (138, .istore 9, 2, .null, [], []),
  (140, .iload 9, 2, .null, [], []),
  (142, .bipush 6, 2, .null, [], []),
  (144, .if_icmp .ge 58, 3, .null, [202], []),
  (147, .iload 7, 2, .null, [], []),
  (149, .iload 9, 2, .null, [], []),
  (151, .invokestatic 80, 3, .null, [239, 2, 0, 0, 0], [(7, 54), (7, 55), (1, 11), (7, 56)]),
  (154, .istore 10, 2, .null, [], []),
  (156, .iload 10, 2, .null, [], []),
  (158, .ifCond .lt 34, 3, .null, [192], []),
  (161, .lload_n 3, 1, .null, [], []),
  (162, .iload 10, 2, .null, [], []),
  (164, .invokestatic 83, 3, .null, [241, 2, 0, 0, 0], [(7, 64), (7, 65), (1, 11), (7, 66)]),
  (167, .ifCond .eq 25, 3, .null, [192], []),
  (170, .aload_n 0, 1, .null, [], []),
  (171, .iload_n 1, 1, .null, [], []),
  (172, .iload 7, 2, .null, [], []),
  (174, .iload 10, 2, .null, [], []),
  (176, .invokevirtual 191, 3, .null, [276, 3, 0, 0, 0, 9], [(7, 210), (7, 212), (0, 51), (7, 213), (1, 11)]),
  (179, .ifCond .eq 13, 3, .null, [192], []),
  (182, .iload 8, 2, .null, [], []),
  (184, .iload 10, 2, .null, [], []),
  (186, .invokestatic 197, 3, .null, [24, 2, 0, 0, 0], [(7, 214), (2, 105), (1, 22), (2, 106)]),
  (189, .goto 5, 3, .null, [194], []),
  (192, .iload 8, 2, .null, [], []),
  (194, .istore 8, 2, .null, [], []),
  (196, .iinc 9 1, 3, .null, [], []),
  (199, .goto (-59), 3, .null, [140], []),
  (202, .iload 8, 2, .null, [], []),
  (204, .istore 7, 2, .null, [], []),
  (206, .goto (-100), 3, .null, [106], []),
  (209, .aload_n 0, 1, .null, [], []),
  (210, .getfield 25, 3, .null, [9, 12, 1], [(6, 187)]),
  (213, .aload_n 0, 1, .null, [], []),
  (214, .getfield 194, 3, .null, [9, 13, 0], [(6, 188)]),
  (217, .iload_n 2, 1, .null, [], []),
  (218, .iastore, 1, .null, [], []),
  (219, .aload_n 0, 1, .null, [], []),
  (220, .dup, 1, .null, [], []),
  (221, .getfield 194, 3, .null, [9, 13, 0], [(6, 188)]),
  (224, .iconst 1, 1, .null, [], []),
  (225, .iadd, 1, .null, [], []),
  (226, .putfield 194, 3, .null, [9, 13, 0, 0], [(6, 188)]),
  (229, .return_, 1, .null, [], [])]
def e_m277 : e_MD := (⟨"HexCampaignModel", "findWay", "(II)V"⟩, prog_14_method_55_code, 11, none, [], e_c277)
-- 278: HexCampaignModel.way(III)I
set_option maxRecDepth 100000 in
def e_c278 : List e_I := [(0, .aload_n 0, 1, .null, [], []),
  (1, .aload_n 0, 1, .null, [], []),
  (2, .iload_n 1, 1, .null, [], []),
  (3, .invokevirtual 47, 3, .null, [227, 1, 0, 0, 0, 9], [(7, 2), (7, 4), (0, 24), (7, 5), (1, 11)]),
  (6, .ifCond .eq 10, 3, .null, [16], []),
  (9, .iload_n 2, 1, .null, [], []),
  (10, .invokestatic 64, 3, .null, [230, 1, 0, 0, 0], [(7, 17), (7, 18), (1, 11), (7, 19)]),
  (13, .ifCond .ne 7, 3, .null, [20], []),
  (16, .iconst 1, 1, .null, [], []),
  (17, .goto 17, 3, .null, [34], []),
  (20, .aload_n 0, 1, .null, [], []),
  (21, .iload_n 1, 1, .null, [], []),
  (22, .iload_n 2, 1, .null, [], []),
  (23, .invokevirtual 200, 3, .null, [274, 2, 0, 0, 0, 9], [(7, 198), (7, 200), (0, 49), (7, 201), (1, 11)]),
  (26, .ifCond .eq 7, 3, .null, [33], []),
  (29, .iconst 0, 1, .null, [], []),
  (30, .goto 4, 3, .null, [34], []),
  (33, .iconst 2, 1, .null, [], []),
  (34, .putfield 35, 3, .null, [9, 5, 0, 0], [(6, 180)]),
  (37, .aload_n 0, 1, .null, [], []),
  (38, .getfield 35, 3, .null, [9, 5, 0], [(6, 180)]),
  (41, .ifCond .ne 37, 3, .null, [78], []),
  (44, .aload_n 0, 1, .null, [], []),
  (45, .aload_n 0, 1, .null, [], []),
  (46, .iload_n 1, 1, .null, [], []),
  (47, .iconst 1, 1, .null, [], []),
  (48, .invokevirtual 43, 3, .null, [226, 2, 0, 0, 0, 9], [(7, 9), (7, 11), (0, 25), (7, 12), (1, 11)]),
  (51, .iload_n 2, 1, .null, [], []),
  (52, .invokevirtual 203, 3, .null, [277, 2, 0, 0, 0, 9], [(7, 206), (7, 208), (0, 50), (7, 209), (1, 11)]),
  (55, .aload_n 0, 1, .null, [], []),
  (56, .iload_n 3, 1, .null, [], []),
  (57, .iconst 0, 1, .null, [], []),
  (58, .aload_n 0, 1, .null, [], []),
  (59, .getfield 194, 3, .null, [9, 13, 0], [(6, 188)]),
  (62, .iconst 1, 1, .null, [], []),
  (63, .isub, 1, .null, [], []),
  (64, .invokestatic 39, 3, .null, [225, 3, 0, 0, 0], [(7, 6), (7, 7), (1, 11), (7, 8)]),
  (67, .ifCond .eq 7, 3, .null, [74], []),
  (70, .iconst 0, 1, .null, [], []),
  (71, .goto 4, 3, .null, [75], []),
  (74, .iconst 2, 1, .null, [], []),
  (75, .putfield 35, 3, .null, [9, 5, 0, 0], [(6, 180)]),
  (78, .aload_n 0, 1, .null, [], []),
  (79, .getfield 35, 3, .null, [9, 5, 0], [(6, 180)]),
  (82, .ifCond .le 7, 3, .null, [89], []),
  (85, .iconst 0, 1, .null, [], []),
  (86, .goto 9, 3, .null, [95], []),
  (89, .aload_n 0, 1, .null, [], []),
  (90, .getfield 25, 3, .null, [9, 12, 1], [(6, 187)]),
  (93, .iload_n 3, 1, .null, [], []),
  (94, .iaload, 1, .null, [], []),
  (95, .ireturn, 1, .null, [], [])]
def e_m278 : e_MD := (⟨"HexCampaignModel", "way", "(III)I"⟩, prog_14_method_58_code, 4, (some .int), [], e_c278)
-- 279: HexCampaignModel.refuse(III)V
set_option maxRecDepth 100000 in
def e_c279 : List e_I := [(0, .aload_n 0, 1, .null, [], []),
  (1, .getfield 28, 3, .null, [9, 14, 1], [(6, 189)]),
  (4, .iconst 0, 1, .null, [], []),
  (5, .iconst 1, 1, .null, [], []),
  (6, .iastore, 1, .null, [], []),
  (7, .aload_n 0, 1, .null, [], []),
  (8, .getfield 28, 3, .null, [9, 14, 1], [(6, 189)]),
  (11, .iconst 1, 1, .null, [], []),
  (12, .iload_n 1, 1, .null, [], []),
  (13, .iastore, 1, .null, [], []),
  (14, .aload_n 0, 1, .null, [], []),
  (15, .iconst 2, 1, .null, [], []),
  (16, .putfield 207, 3, .null, [9, 15, 0, 0], [(6, 190)]),
  (19, .aload_n 0, 1, .null, [], []),
  (20, .getfield 22, 3, .null, [9, 7, 1], [(6, 182)]),
  (23, .iload_n 2, 1, .null, [], []),
  (24, .iaload, 1, .null, [], []),
  (25, .ldc 143, 2, .int 1000000, [], [(7, 136)]),
  (27, .if_icmp .ne 20, 3, .null, [47], []),
  (30, .aload_n 0, 1, .null, [], []),
  (31, .getfield 28, 3, .null, [9, 14, 1], [(6, 189)]),
  (34, .iconst 2, 1, .null, [], []),
  (35, .iconst 2, 1, .null, [], []),
  (36, .iastore, 1, .null, [], []),
  (37, .aload_n 0, 1, .null, [], []),
  (38, .getfield 28, 3, .null, [9, 14, 1], [(6, 189)]),
  (41, .iconst 3, 1, .null, [], []),
  (42, .iload_n 2, 1, .null, [], []),
  (43, .iastore, 1, .null, [], []),
  (44, .goto 138, 3, .null, [182], []),
  (47, .aload_n 0, 1, .null, [], []),
  (48, .getfield 22, 3, .null, [9, 7, 1], [(6, 182)]),
  (51, .iload_n 2, 1, .null, [], []),
  (52, .iaload, 1, .null, [], []),
  (53, .iload_n 3, 1, .null, [], []),
  (54, .if_icmp .le 52, 3, .null, [106], []),
  (57, .aload_n 0, 1, .null, [], []),
  (58, .getfield 28, 3, .null, [9, 14, 1], [(6, 189)]),
  (61, .iconst 2, 1, .null, [], []),
  (62, .iconst 3, 1, .null, [], []),
  (63, .iastore, 1, .null, [], []),
  (64, .aload_n 0, 1, .null, [], []),
  (65, .getfield 28, 3, .null, [9, 14, 1], [(6, 189)]),
  (68, .iconst 3, 1, .null, [], []),
  (69, .aload_n 0, 1, .null, [], []),
  (70, .getfield 22, 3, .null, [9, 7, 1], [(6, 182)]),
  (73, .iload_n 2, 1, .null, [], []),
  (74, .iaload, 1, .null, [], []),
  (75, .iastore, 1, .null, [], []),
  (76, .aload_n 0, 1, .null, [], []),
  (77, .iload_n 1, 1, .null, [], []),
  (78, .invokevirtual 151, 3, .null, [265, 1, 0, 0, 0, 9], [(7, 166), (7, 168), (0, 43), (7, 169), (1, 11)]),
  (81, .ifCond .ne 101, 3, .null, [182], []),
  (84, .aload_n 0, 1, .null, [], []),
  (85, .getfield 28, 3, .null, [9, 14, 1], [(6, 189)]),
  (88, .iconst 4, 1, .null, [], []),
  (89, .iconst 5, 1, .null, [], []),
  (90, .iastore, 1, .null, [], []),
  (91, .aload_n 0, 1, .null, [], []),
  (92, .getfield 28, 3, .null, [9, 14, 1], [(6, 189)]),
  (95, .iconst 5, 1, .null, [], []),
  (96, .iload_n 3, 1, .null, [], []),
  (97, .iastore, 1, .null, [], []),
  (98, .aload_n 0, 1, .null, [], []),
  (99, .iconst 3, 1, .null, [], []),
  (100, .putfield 207, 3, .null, [9, 15, 0, 0], [(6, 190)]),
  (103, .goto 79, 3, .null, [182], []),
  (106, .aload_n 0, 1, .null, [], []),
  (107, .getfield 28, 3, .null, [9, 14, 1], [(6, 189)]),
  (110, .iconst 2, 1, .null, [], []),
  (111, .iconst 4, 1, .null, [], []),
  (112, .iastore, 1, .null, [], []),
  (113, .iconst 0, 1, .null, [], []),
  (114, .istore 4, 2, .null, [], []),
  (116, .iconst 0, 1, .null, [], []),
  (117, .istore 5, 2, .null, [], []),
  (119, .iload 5, 2, .null, [], []),
  (121, .aload_n 0, 1, .null, [], []),
  (122, .getfield 9, 3, .null, [9, 0, 1], [(6, 175)]),
  (125, .sipush 196, 3, .null, [], []),
  (128, .iaload, 1, .null, [], []),
  (129, .if_icmp .ge 45, 3, .null, [174], []),
  (132, .iload 4, 2, .null, [], []),
  (134, .aload_n 0, 1, .null, [], []),
  (135, .iload 5, 2, .null, [], []),
  (137, .aload_n 0, 1, .null, [], []),
  (138, .iload_n 1, 1, .null, [], []),
  (139, .iconst 0, 1, .null, [], []),
  (140, .invokevirtual 43, 3, .null, [226, 2, 0, 0, 0, 9], [(7, 9), (7, 11), (0, 25), (7, 12), (1, 11)]),
  (143, .invokevirtual 101, 3, .null, [246, 2, 0, 0, 0, 9], [(7, 88), (7, 90), (0, 31), (7, 91), (1, 11)]),
  (146, .ifCond .eq 18, 3, .null, [164], []),
  (149, .aload_n 0, 1, .null, [], []),
  (150, .iload 5, 2, .null, [], []),
  (152, .iconst 1, 1, .null, [], []),
  (153, .invokevirtual 43, 3, .null, [226, 2, 0, 0, 0, 9], [(7, 9), (7, 11), (0, 25), (7, 12), (1, 11)]),
  (156, .iload_n 2, 1, .null, [], []),
  (157, .if_icmp .ne 7, 3, .null, [164], []),
  (160, .iconst 1, 1, .null, [], []),
  (161, .goto 4, 3, .null, [165], []),
  (164, .iconst 0, 1, .null, [], []),
  (165, .iadd, 1, .null, [], []),
  (166, .istore 4, 2, .null, [], []),
  (168, .iinc 5 1, 3, .null, [], []),
  (171, .goto (-52), 3, .null, [119], []),
  (174, .aload_n 0, 1, .null, [], []),
  (175, .getfield 28, 3, .null, [9, 14, 1], [(6, 189)]),
  (178, .iconst 3, 1, .null, [], []),
  (179, .iload 4, 2, .null, [], []),
  (181, .iastore, 1, .null, [], []),
  (182, .return_, 1, .null, [], [])]
def e_m279 : e_MD := (⟨"HexCampaignModel", "refuse", "(III)V"⟩, prog_14_method_59_code, 6, none, [], e_c279)
-- 280: HexCampaignModel.hasRoomFor(II)Z
set_option maxRecDepth 100000 in
def e_c280 : List e_I := [(0, .aload_n 0, 1, .null, [], []),
  (1, .iload_n 1, 1, .null, [], []),
  (2, .iload_n 2, 1, .null, [], []),
  (3, .aload_n 0, 1, .null, [], []),
  (4, .iload_n 2, 1, .null, [], []),
  (5, .iconst 0, 1, .null, [], []),
  (6, .invokevirtual 43, 3, .null, [226, 2, 0, 0, 0, 9], [(7, 9), (7, 11), (0, 25), (7, 12), (1, 11)]),
  (9, .aload_n 0, 1, .null, [], []),
  (10, .iload_n 2, 1, .null, [], []),
  (11, .iconst 2, 1, .null, [], []),
  (12, .invokevirtual 43, 3, .null, [226, 2, 0, 0, 0, 9], [(7, 9), (7, 11), (0, 25), (7, 12), (1, 11)]),
  (15, .iconst (-1), 1, .null, [], []),
  (16, .invokevirtual 97, 3, .null, [262, 5, 0, 0, 0, 9], [(7, 151), (7, 153), (0, 41), (7, 154), (1, 11)]),
  (19, .ireturn, 1, .null, [], [])]
def e_m280 : e_MD := (⟨"HexCampaignModel", "hasRoomFor", "(II)Z"⟩, prog_14_method_28_code, 3, (some .boolean), [], e_c280)
-- 281: HexCampaignModel.move(II)I
set_option maxRecDepth 100000 in
def e_c281 : List e_I := [(0, .aload_n 0, 1, .null, [], []),
  (1, .aload_n 0, 1, .null, [], []),
  (2, .iload_n 1, 1, .null, [], []),
  (3, .invokevirtual 47, 3, .null, [227, 1, 0, 0, 0, 9], [(7, 2), (7, 4), (0, 24), (7, 5), (1, 11)]),
  (6, .ifCond .eq 10, 3, .null, [16], []),
  (9, .iload_n 2, 1, .null, [], []),
  (10, .invokestatic 64, 3, .null, [230, 1, 0, 0, 0], [(7, 17), (7, 18), (1, 11), (7, 19)]),
  (13, .ifCond .ne 7, 3, .null, [20], []),
  (16, .iconst 1, 1, .null, [], []),
  (17, .goto 30, 3, .null, [47], []),
  (20, .iload_n 2, 1, .null, [], []),
  (21, .aload_n 0, 1, .null, [], []),
  (22, .iload_n 1, 1, .null, [], []),
  (23, .iconst 1, 1, .null, [], []),
  (24, .invokevirtual 43, 3, .null, [226, 2, 0, 0, 0, 9], [(7, 9), (7, 11), (0, 25), (7, 12), (1, 11)]),
  (27, .if_icmp .ne 7, 3, .null, [34], []),
  (30, .iconst 2, 1, .null, [], []),
  (31, .goto 16, 3, .null, [47], []),
  (34, .aload_n 0, 1, .null, [], []),
  (35, .iload_n 1, 1, .null, [], []),
  (36, .invokevirtual 166, 3, .null, [268, 1, 0, 0, 0, 9], [(7, 170), (7, 172), (0, 44), (7, 173), (1, 11)]),
  (39, .ifCond .ne 7, 3, .null, [46], []),
  (42, .iconst 3, 1, .null, [], []),
  (43, .goto 4, 3, .null, [47], []),
  (46, .iconst 0, 1, .null, [], []),
  (47, .putfield 35, 3, .null, [9, 5, 0, 0], [(6, 180)]),
  (50, .aload_n 0, 1, .null, [], []),
  (51, .getfield 35, 3, .null, [9, 5, 0], [(6, 180)]),
  (54, .ifCond .le 5, 3, .null, [59], []),
  (57, .iconst 0, 1, .null, [], []),
  (58, .ireturn, 1, .null, [], []),
  (59, .aload_n 0, 1, .null, [], []),
  (60, .iload_n 1, 1, .null, [], []),
  (61, .iconst 3, 1, .null, [], []),
  (62, .invokevirtual 163, 3, .null, [266, 2, 0, 0, 0, 9], [(7, 162), (7, 164), (0, 42), (7, 165), (1, 11)]),
  (65, .istore_n 3, 1, .null, [], []),
  (66, .aload_n 0, 1, .null, [], []),
  (67, .iload_n 1, 1, .null, [], []),
  (68, .invokevirtual 185, 3, .null, [271, 1, 0, 0, 0, 9], [(7, 182), (7, 184), (0, 46), (7, 185), (1, 11)]),
  (71, .aload_n 0, 1, .null, [], []),
  (72, .iload_n 1, 1, .null, [], []),
  (73, .iload_n 2, 1, .null, [], []),
  (74, .iload_n 3, 1, .null, [], []),
  (75, .invokevirtual 188, 3, .null, [272, 3, 0, 0, 0, 9], [(7, 190), (7, 192), (0, 48), (7, 193), (1, 11)]),
  (78, .ifCond .ne 17, 3, .null, [95], []),
  (81, .aload_n 0, 1, .null, [], []),
  (82, .iload_n 1, 1, .null, [], []),
  (83, .iload_n 2, 1, .null, [], []),
  (84, .iload_n 3, 1, .null, [], []),
  (85, .invokevirtual 210, 3, .null, [279, 3, 0, 0, 0, 9], [(7, 219), (7, 221), (0, 52), (7, 222), (1, 11)]),
  (88, .aload_n 0, 1, .null, [], []),
  (89, .iconst 4, 1, .null, [], []),
  (90, .putfield 35, 3, .null, [9, 5, 0, 0], [(6, 180)]),
  (93, .iconst 0, 1, .null, [], []),
  (94, .ireturn, 1, .null, [], []),
  (95, .aload_n 0, 1, .null, [], []),
  (96, .aload_n 0, 1, .null, [], []),
  (97, .iload_n 1, 1, .null, [], []),
  (98, .iconst 1, 1, .null, [], []),
  (99, .invokevirtual 43, 3, .null, [226, 2, 0, 0, 0, 9], [(7, 9), (7, 11), (0, 25), (7, 12), (1, 11)]),
  (102, .iload_n 2, 1, .null, [], []),
  (103, .invokevirtual 203, 3, .null, [277, 2, 0, 0, 0, 9], [(7, 206), (7, 208), (0, 50), (7, 209), (1, 11)]),
  (106, .aload_n 0, 1, .null, [], []),
  (107, .invokevirtual 71, 3, .null, [232, 0, 0, 0, 0, 9], [(7, 24), (7, 26), (0, 27), (7, 27), (1, 11)]),
  (110, .aload_n 0, 1, .null, [], []),
  (111, .iconst 1, 1, .null, [], []),
  (112, .aload_n 0, 1, .null, [], []),
  (113, .iload_n 1, 1, .null, [], []),
  (114, .iconst 0, 1, .null, [], []),
  (115, .invokevirtual 43, 3, .null, [226, 2, 0, 0, 0, 9], [(7, 9), (7, 11), (0, 25), (7, 12), (1, 11)]),
  (118, .isub, 1, .null, [], []),
  (119, .invokevirtual 131, 3, .null, [252, 1, 0, 0, 0, 9], [(7, 108), (7, 110), (0, 33), (7, 111), (1, 11)]),
  (122, .istore 4, 2, .null, [], []),
  (124, .aload_n 0, 1, .null, [], []),
  (125, .iload 4, 2, .null, [], []),
  (127, .invokevirtual 105, 3, .null, [253, 1, 0, 0, 0, 9], [(7, 116), (7, 118), (0, 35), (7, 119), (1, 11)]),
  (130, .lstore 5, 2, .null, [], []),
  (132, .aload_n 0, 1, .null, [], []),
  (133, .iload 4, 2, .null, [], []),
  (135, .invokevirtual 134, 3, .null, [254, 1, 0, 0, 0, 9], [(7, 112), (7, 114), (0, 34), (7, 115), (1, 11)]),
  (138, .lstore 7, 2, .null, [], []),
  (140, .iconst 0, 1, .null, [], []),
  (141, .istore 9, 2, .null, [], []),
  (143, .iconst 1, 1, .null, [], []),
  (144, .istore 10, 2, .null, [], []),
  (146, .iload 10, 2, .null, [], []),
  (148, .ifCond .eq 77, 3, .null, [225], []),
  (151, .lload 5, 2, .null, [], []),
  (153, .aload_n 0, 1, .null, [], []),
  (154, .getfield 25, 3, .null, [9, 12, 1], [(6, 187)]),
  (157, .iload 9, 2, .null, [], []),
  (159, .iconst 1, 1, .null, [], []),
  (160, .iadd, 1, .null, [], []),
  (161, .iaload, 1, .null, [], []),
  (162, .invokestatic 83, 3, .null, [241, 2, 0, 0, 0], [(7, 64), (7, 65), (1, 11), (7, 66)]),
  (165, .ifCond .eq 21, 3, .null, [186], []),
  (168, .aload_n 0, 1, .null, [], []),
  (169, .getfield 9, 3, .null, [9, 0, 1], [(6, 175)]),
  (172, .sipush 194, 3, .null, [], []),
  (175, .dup2, 1, .null, [], []),
  (176, .iaload, 1, .null, [], []),
  (177, .iconst 1, 1, .null, [], []),
  (178, .iadd, 1, .null, [], []),
  (179, .iastore, 1, .null, [], []),
  (180, .iconst 0, 1, .null, [], []),
  (181, .istore 10, 2, .null, [], []),
  (183, .goto (-37), 3, .null, [146], []),
  (186, .iinc 9 1, 3, .null, [], []),
  (189, .iload 9, 2, .null, [], []),
  (191, .aload_n 0, 1, .null, [], []),
  (192, .getfield 194, 3, .null, [9, 13, 0], [(6, 188)]),
  (195, .iconst 1, 1, .null, [], []),
  (196, .isub, 1, .null, [], []),
  (197, .if_icmp .ge 22, 3, .null, [219], []),
  (200, .lload 7, 2, .null, [], []),
  (202, .aload_n 0, 1, .null, [], []),
  (203, .getfield 25, 3, .null, [9, 12, 1], [(6, 187)]),
  (206, .iload 9, 2, .null, [], []),
  (208, .iaload, 1, .null, [], []),
  (209, .invokestatic 83, 3, .null, [241, 2, 0, 0, 0], [(7, 64), (7, 65), (1, 11), (7, 66)]),
  (212, .ifCond .ne 7, 3, .null, [219], []),
  (215, .iconst 1, 1, .null, [], []),
  (216, .goto 4, 3, .null, [220], []),
  (219, .iconst 0, 1, .null, [], []),
  (220, .istore 10, 2, .null, [], []),
  (222, .goto (-76), 3, .null, [146], []),
  (225, .iload 9, 2, .null, [], []),
  (227, .ifCond .le 24, 3, .null, [251], []),
  (230, .aload_n 0, 1, .null, [], []),
  (231, .aload_n 0, 1, .null, [], []),
  (232, .getfield 25, 3, .null, [9, 12, 1], [(6, 187)]),
  (235, .iload 9, 2, .null, [], []),
  (237, .iaload, 1, .null, [], []),
  (238, .iload_n 1, 1, .null, [], []),
  (239, .invokevirtual 214, 3, .null, [280, 2, 0, 0, 0, 9], [(7, 223), (7, 225), (0, 53), (7, 226), (1, 11)]),
  (242, .ifCond .ne 9, 3, .null, [251], []),
  (245, .iinc 9 (-1), 3, .null, [], []),
  (248, .goto (-23), 3, .null, [225], []),
  (251, .aload_n 0, 1, .null, [], []),
  (252, .getfield 9, 3, .null, [9, 0, 1], [(6, 175)]),
  (255, .iload_n 1, 1, .null, [], []),
  (256, .iconst 1, 1, .null, [], []),
  (257, .invokestatic 157, 3, .null, [263, 2, 0, 0, 0], [(7, 155), (7, 156), (1, 11), (7, 157)]),
  (260, .aload_n 0, 1, .null, [], []),
  (261, .getfield 25, 3, .null, [9, 12, 1], [(6, 187)]),
  (264, .iload 9, 2, .null, [], []),
  (266, .iaload, 1, .null, [], []),
  (267, .iastore, 1, .null, [], []),
  (268, .aload_n 0, 1, .null, [], []),
  (269, .getfield 9, 3, .null, [9, 0, 1], [(6, 175)]),
  (272, .iload_n 1, 1, .null, [], []),
  (273, .iconst 4, 1, .null, [], []),
  (274, .invokestatic 157, 3, .null, [263, 2, 0, 0, 0], [(7, 155), (7, 156), (1, 11), (7, 157)]),
  (277, .iconst 1, 1, .null, [], []),
  (278, .iastore, 1, .null, [], []),
  (279, .aload_n 0, 1, .null, [], []),
  (280, .getfield 25, 3, .null, [9, 12, 1], [(6, 187)]),
  (283, .iload 9, 2, .null, [], []),
  (285, .iaload, 1, .null, [], []),
  (286, .ireturn, 1, .null, [], [])]
def e_m281 : e_MD := (⟨"HexCampaignModel", "move", "(II)I"⟩, prog_14_method_60_code, 11, (some .int), [], e_c281)
-- 282: HexCampaignModel.areNeighbors(II)Z
set_option maxRecDepth 100000 in
def e_c282 : List e_I := [(0, .iconst 0, 1, .null, [], []),
  (1, .istore_n 2, 1, .null, [], []),
  (2, .iconst 0, 1, .null, [], []),
  (3, .istore_n 3, 1, .null, [], []),
  (4, .iload_n 3, 1, .null, [], []),
  (5, .bipush 6, 2, .null, [], []),
  (7, .if_icmp .ge 28, 3, .null, [35], []),
  (10, .iload_n 2, 1, .null, [], []),
  (11, .ifCond .ne 12, 3, .null, [23], []),
  (14, .iload_n 0, 1, .null, [], []),
  (15, .iload_n 3, 1, .null, [], []),
  (16, .invokestatic 80, 3, .null, [239, 2, 0, 0, 0], [(7, 54), (7, 55), (1, 11), (7, 56)]),
  (19, .iload_n 1, 1, .null, [], []),
  (20, .if_icmp .ne 7, 3, .null, [27], []),
  (23, .iconst 1, 1, .null, [], []),
  (24, .goto 4, 3, .null, [28], []),
  (27, .iconst 0, 1, .null, [], []),
  (28, .istore_n 2, 1, .null, [], []),
  (29, .iinc 3 1, 3, .null, [], []),
  (32, .goto (-28), 3, .null, [4], []),
  (35, .iload_n 2, 1, .null, [], []),
  (36, .ireturn, 1, .null, [], [])]
def e_m282 : e_MD := (⟨"HexCampaignModel", "areNeighbors", "(II)Z"⟩, prog_14_method_21_code, 4, (some .boolean), [], e_c282)
-- 283: HexCampaignModel.attackers(I)I
set_option maxRecDepth 100000 in
def e_c283 : List e_I := [(0, .iconst 0, 1, .null, [], []),
  (1, .istore_n 2, 1, .null, [], []),
  (2, .iconst 0, 1, .null, [], []),
  (3, .istore_n 3, 1, .null, [], []),
  (4, .iload_n 3, 1, .null, [], []),
  (5, .aload_n 0, 1, .null, [], []),
  (6, .getfield 9, 3, .null, [9, 0, 1], [(6, 175)]),
  (9, .sipush 196, 3, .null, [], []),
  (12, .iaload, 1, .null, [], []),
  (13, .if_icmp .ge 53, 3, .null, [66], []),
  (16, .iload_n 2, 1, .null, [], []),
  (17, .aload_n 0, 1, .null, [], []),
  (18, .iload_n 3, 1, .null, [], []),
  (19, .aload_n 0, 1, .null, [], []),
  (20, .getfield 9, 3, .null, [9, 0, 1], [(6, 175)]),
  (23, .sipush 191, 3, .null, [], []),
  (26, .iaload, 1, .null, [], []),
  (27, .invokevirtual 101, 3, .null, [246, 2, 0, 0, 0, 9], [(7, 88), (7, 90), (0, 31), (7, 91), (1, 11)]),
  (30, .ifCond .eq 27, 3, .null, [57], []),
  (33, .aload_n 0, 1, .null, [], []),
  (34, .iload_n 3, 1, .null, [], []),
  (35, .invokevirtual 160, 3, .null, [267, 1, 0, 0, 0, 9], [(7, 174), (7, 176), (0, 45), (7, 177), (1, 11)]),
  (38, .ifCond .eq 19, 3, .null, [57], []),
  (41, .aload_n 0, 1, .null, [], []),
  (42, .iload_n 3, 1, .null, [], []),
  (43, .iconst 1, 1, .null, [], []),
  (44, .invokevirtual 43, 3, .null, [226, 2, 0, 0, 0, 9], [(7, 9), (7, 11), (0, 25), (7, 12), (1, 11)]),
  (47, .iload_n 1, 1, .null, [], []),
  (48, .if_icmp .ne 9, 3, .null, [57], []),
  (51, .iconst 1, 1, .null, [], []),
  (52, .iload_n 3, 1, .null, [], []),
  (53, .ishl, 1, .null, [], []),
  (54, .goto 4, 3, .null, [58], []),
  (57, .iconst 0, 1, .null, [], []),
  (58, .ior, 1, .null, [], []),
  (59, .istore_n 2, 1, .null, [], []),
  (60, .iinc 3 1, 3, .null, [], []),
  (63, .goto (-59), 3, .null, [4], []),
  (66, .iload_n 2, 1, .null, [], []),
  (67, .ireturn, 1, .null, [], [])]
def e_m283 : e_MD := (⟨"HexCampaignModel", "attackers", "(I)I"⟩, prog_14_method_61_code, 4, (some .int), [], e_c283)
-- 284: HexCampaignModel.attacked(I)I
set_option maxRecDepth 100000 in
def e_c284 : List e_I := [(0, .iconst 0, 1, .null, [], []),
  (1, .istore_n 2, 1, .null, [], []),
  (2, .iconst 0, 1, .null, [], []),
  (3, .istore_n 3, 1, .null, [], []),
  (4, .iload_n 3, 1, .null, [], []),
  (5, .aload_n 0, 1, .null, [], []),
  (6, .getfield 9, 3, .null, [9, 0, 1], [(6, 175)]),
  (9, .sipush 196, 3, .null, [], []),
  (12, .iaload, 1, .null, [], []),
  (13, .if_icmp .ge 47, 3, .null, [60], []),
  (16, .iload_n 2, 1, .null, [], []),
  (17, .aload_n 0, 1, .null, [], []),
  (18, .iload_n 3, 1, .null, [], []),
  (19, .iconst 1, 1, .null, [], []),
  (20, .aload_n 0, 1, .null, [], []),
  (21, .getfield 9, 3, .null, [9, 0, 1], [(6, 175)]),
  (24, .sipush 191, 3, .null, [], []),
  (27, .iaload, 1, .null, [], []),
  (28, .isub, 1, .null, [], []),
  (29, .invokevirtual 101, 3, .null, [246, 2, 0, 0, 0, 9], [(7, 88), (7, 90), (0, 31), (7, 91), (1, 11)]),
  (32, .ifCond .eq 19, 3, .null, [51], []),
  (35, .aload_n 0, 1, .null, [], []),
  (36, .iload_n 3, 1, .null, [], []),
  (37, .iconst 1, 1, .null, [], []),
  (38, .invokevirtual 43, 3, .null, [226, 2, 0, 0, 0, 9], [(7, 9), (7, 11), (0, 25), (7, 12), (1, 11)]),
  (41, .iload_n 1, 1, .null, [], []),
  (42, .if_icmp .ne 9, 3, .null, [51], []),
  (45, .iconst 1, 1, .null, [], []),
  (46, .iload_n 3, 1, .null, [], []),
  (47, .ishl, 1, .null, [], []),
  (48, .goto 4, 3, .null, [52], []),
  (51, .iconst 0, 1, .null, [], []),
  (52, .ior, 1, .null, [], []),
  (53, .istore_n 2, 1, .null, [], []),
  (54, .iinc 3 1, 3, .null, [], []),
  (57, .goto (-53), 3, .null, [4], []),
  (60, .iload_n 2, 1, .null, [], []),
  (61, .ireturn, 1, .null, [], [])]
def e_m284 : e_MD := (⟨"HexCampaignModel", "attacked", "(I)I"⟩, prog_14_method_62_code, 4, (some .int), [], e_c284)
-- 285: HexCampaignModel.whyNoAttack(II)I
set_option maxRecDepth 100000 in
def e_c285 : List e_I := [(0, .iload_n 1, 1, .null, [], []),
  (1, .invokestatic 64, 3, .null, [230, 1, 0, 0, 0], [(7, 17), (7, 18), (1, 11), (7, 19)]),
  (4, .ifCond .eq 10, 3, .null, [14], []),
  (7, .iload_n 2, 1, .null, [], []),
  (8, .invokestatic 64, 3, .null, [230, 1, 0, 0, 0], [(7, 17), (7, 18), (1, 11), (7, 19)]),
  (11, .ifCond .ne 5, 3, .null, [16], []),
  (14, .iconst 1, 1, .null, [], []),
  (15, .ireturn, 1, .null, [], []),
  (16, .iload_n 1, 1, .null, [], []),
  (17, .iload_n 2, 1, .null, [], []),
  (18, .invokestatic 229, 3, .null, [282, 2, 0, 0, 0], [(7, 235), (7, 236), (1, 11), (7, 237)]),
  (21, .ifCond .ne 7, 3, .null, [28], []),
  (24, .iconst 2, 1, .null, [], []),
  (25, .goto 24, 3, .null, [49], []),
  (28, .aload_n 0, 1, .null, [], []),
  (29, .iload_n 1, 1, .null, [], []),
  (30, .invokevirtual 217, 3, .null, [283, 1, 0, 0, 0, 9], [(7, 238), (8, 0), (0, 55), (8, 1), (1, 11)]),
  (33, .ifCond .eq 11, 3, .null, [44], []),
  (36, .aload_n 0, 1, .null, [], []),
  (37, .iload_n 2, 1, .null, [], []),
  (38, .invokevirtual 223, 3, .null, [284, 1, 0, 0, 0, 9], [(8, 2), (8, 4), (0, 56), (8, 5), (1, 11)]),
  (41, .ifCond .ne 7, 3, .null, [48], []),
  (44, .iconst 3, 1, .null, [], []),
  (45, .goto 4, 3, .null, [49], []),
  (48, .iconst 0, 1, .null, [], []),
  (49, .ireturn, 1, .null, [], [])]
def e_m285 : e_MD := (⟨"HexCampaignModel", "whyNoAttack", "(II)I"⟩, prog_14_method_66_code, 3, (some .int), [], e_c285)
-- 286: HexCampaignModel.forces(I)I
set_option maxRecDepth 100000 in
def e_c286 : List e_I := [(0, .iconst 0, 1, .null, [], []),
  (1, .istore_n 2, 1, .null, [], []),
  (2, .iconst 0, 1, .null, [], []),
  (3, .istore_n 3, 1, .null, [], []),
  (4, .iload_n 3, 1, .null, [], []),
  (5, .aload_n 0, 1, .null, [], []),
  (6, .getfield 9, 3, .null, [9, 0, 1], [(6, 175)]),
  (9, .sipush 196, 3, .null, [], []),
  (12, .iaload, 1, .null, [], []),
  (13, .if_icmp .ge 31, 3, .null, [44], []),
  (16, .iload_n 2, 1, .null, [], []),
  (17, .iload_n 1, 1, .null, [], []),
  (18, .iload_n 3, 1, .null, [], []),
  (19, .ishr, 1, .null, [], []),
  (20, .iconst 1, 1, .null, [], []),
  (21, .iand, 1, .null, [], []),
  (22, .iconst 1, 1, .null, [], []),
  (23, .if_icmp .ne 12, 3, .null, [35], []),
  (26, .aload_n 0, 1, .null, [], []),
  (27, .iload_n 3, 1, .null, [], []),
  (28, .iconst 2, 1, .null, [], []),
  (29, .invokevirtual 163, 3, .null, [266, 2, 0, 0, 0, 9], [(7, 162), (7, 164), (0, 42), (7, 165), (1, 11)]),
  (32, .goto 4, 3, .null, [36], []),
  (35, .iconst 0, 1, .null, [], []),
  (36, .iadd, 1, .null, [], []),
  (37, .istore_n 2, 1, .null, [], []),
  (38, .iinc 3 1, 3, .null, [], []),
  (41, .goto (-37), 3, .null, [4], []),
  (44, .iload_n 2, 1, .null, [], []),
  (45, .ireturn, 1, .null, [], [])]
def e_m286 : e_MD := (⟨"HexCampaignModel", "forces", "(I)I"⟩, prog_14_method_63_code, 4, (some .int), [], e_c286)
-- 287: HexCampaignModel.defenseOf(I)I
set_option maxRecDepth 100000 in
def e_c287 : List e_I := [(0, .aload_n 0, 1, .null, [], []),
  (1, .aload_n 0, 1, .null, [], []),
  (2, .iload_n 1, 1, .null, [], []),
  (3, .invokevirtual 223, 3, .null, [284, 1, 0, 0, 0, 9], [(8, 2), (8, 4), (0, 56), (8, 5), (1, 11)]),
  (6, .invokevirtual 220, 3, .null, [286, 1, 0, 0, 0, 9], [(8, 10), (8, 12), (0, 58), (8, 13), (1, 11)]),
  (9, .getstatic 226, 3, .retAddr 17, [7], [(8, 14)]),
  (12, .aload_n 0, 1, .null, [], []),
  (13, .getfield 9, 3, .null, [9, 0, 1], [(6, 175)]),
  (16, .iload_n 1, 1, .null, [], []),
  (17, .iaload, 1, .null, [], []),
  (18, .iaload, 1, .null, [], []),
  (19, .iadd, 1, .null, [], []),
  (20, .ireturn, 1, .null, [], [])]
def e_m287 : e_MD := (⟨"HexCampaignModel", "defenseOf", "(I)I"⟩, prog_14_method_65_code, 2, (some .int), [], e_c287)
-- 288: HexCampaignModel.attackFrom(I)I
set_option maxRecDepth 100000 in
def e_c288 : List e_I := [(0, .aload_n 0, 1, .null, [], []),
  (1, .aload_n 0, 1, .null, [], []),
  (2, .iload_n 1, 1, .null, [], []),
  (3, .invokevirtual 217, 3, .null, [283, 1, 0, 0, 0, 9], [(7, 238), (8, 0), (0, 55), (8, 1), (1, 11)]),
  (6, .invokevirtual 220, 3, .null, [286, 1, 0, 0, 0, 9], [(8, 10), (8, 12), (0, 58), (8, 13), (1, 11)]),
  (9, .aload_n 0, 1, .null, [], []),
  (10, .getfield 9, 3, .null, [9, 0, 1], [(6, 175)]),
  (13, .sipush 189, 3, .null, [], []),
  (16, .iaload, 1, .null, [], []),
  (17, .iconst 1, 1, .null, [], []),
  (18, .if_icmp .ne 7, 3, .null, [25], []),
  (21, .iconst 1, 1, .null, [], []),
  (22, .goto 4, 3, .null, [26], []),
  (25, .iconst 0, 1, .null, [], []),
  (26, .isub, 1, .null, [], []),
  (27, .ireturn, 1, .null, [], [])]
def e_m288 : e_MD := (⟨"HexCampaignModel", "attackFrom", "(I)I"⟩, prog_14_method_64_code, 2, (some .int), [], e_c288)
-- 289: HexCampaignModel.odds(IIZ)I
set_option maxRecDepth 100000 in
def e_c289 : List e_I := [(0, .aload_n 0, 1, .null, [], []),
  (1, .aload_n 0, 1, .null, [], []),
  (2, .iload_n 1, 1, .null, [], []),
  (3, .iload_n 2, 1, .null, [], []),
  (4, .invokevirtual 232, 3, .null, [285, 2, 0, 0, 0, 9], [(7, 231), (7, 233), (0, 54), (7, 234), (1, 11)]),
  (7, .putfield 35, 3, .null, [9, 5, 0, 0], [(6, 180)]),
  (10, .aload_n 0, 1, .null, [], []),
  (11, .getfield 35, 3, .null, [9, 5, 0], [(6, 180)]),
  (14, .ifCond .le 7, 3, .null, [21], []),
  (17, .iconst 0, 1, .null, [], []),
  (18, .goto 20, 3, .null, [38], []),
  (21, .iload_n 3, 1, .null, [], []),
  (22, .ifCond .eq 11, 3, .null, [33], []),
  (25, .aload_n 0, 1, .null, [], []),
  (26, .iload_n 2, 1, .null, [], []),
  (27, .invokevirtual 235, 3, .null, [287, 1, 0, 0, 0, 9], [(8, 6), (8, 8), (0, 57), (8, 9), (1, 11)]),
  (30, .goto 8, 3, .null, [38], []),
  (33, .aload_n 0, 1, .null, [], []),
  (34, .iload_n 1, 1, .null, [], []),
  (35, .invokevirtual 238, 3, .null, [288, 1, 0, 0, 0, 9], [(8, 16), (8, 18), (0, 59), (8, 19), (1, 11)]),
  (38, .ireturn, 1, .null, [], [])]
def e_m289 : e_MD := (⟨"HexCampaignModel", "odds", "(IIZ)I"⟩, prog_14_method_67_code, 4, (some .int), [], e_c289)
-- 290: HexCampaignModel.lose(III)V
set_option maxRecDepth 100000 in
def e_c290 : List e_I := [(0, .iload_n 2, 1, .null, [], []),
  (1, .aload_n 0, 1, .null, [], []),
  (2, .iload_n 1, 1, .null, [], []),
  (3, .iconst 2, 1, .null, [], []),
  (4, .invokevirtual 43, 3, .null, [226, 2, 0, 0, 0, 9], [(7, 9), (7, 11), (0, 25), (7, 12), (1, 11)]),
  (7, .invokestatic 197, 3, .null, [24, 2, 0, 0, 0], [(7, 214), (2, 105), (1, 22), (2, 106)]),
  (10, .istore 4, 2, .null, [], []),
  (12, .aload_n 0, 1, .null, [], []),
  (13, .iload_n 1, 1, .null, [], []),
  (14, .iconst 0, 1, .null, [], []),
  (15, .invokevirtual 43, 3, .null, [226, 2, 0, 0, 0, 9], [(7, 9), (7, 11), (0, 25), (7, 12), (1, 11)]),
  (18, .istore 5, 2, .null, [], []),
  (20, .aload_n 0, 1, .null, [], []),
  (21, .getfield 9, 3, .null, [9, 0, 1], [(6, 175)]),
  (24, .iload_n 1, 1, .null, [], []),
  (25, .iconst 2, 1, .null, [], []),
  (26, .invokestatic 157, 3, .null, [263, 2, 0, 0, 0], [(7, 155), (7, 156), (1, 11), (7, 157)]),
  (29, .dup2, 1, .null, [], []),
  (30, .iaload, 1, .null, [], []),
  (31, .iload 4, 2, .null, [], []),
  (33, .isub, 1, .null, [], []),
  (34, .iastore, 1, .null, [], []),
  (35, .aload_n 0, 1, .null, [], []),
  (36, .getfield 9, 3, .null, [9, 0, 1], [(6, 175)]),
  (39, .sipush 197, 3, .null, [], []),
  (42, .iconst 4, 1, .null, [], []),
  (43, .iload 5, 2, .null, [], []),
  (45, .imul, 1, .null, [], []),
  (46, .iadd, 1, .null, [], []),
  (47, .iload_n 3, 1, .null, [], []),
  (48, .iadd, 1, .null, [], []),
  (49, .dup2, 1, .null, [], []),
  (50, .iaload, 1, .null, [], []),
  (51, .iload 4, 2, .null, [], []),
  (53, .iadd, 1, .null, [], []),
  (54, .iastore, 1, .null, [], []),
  (55, .aload_n 0, 1, .null, [], []),
  (56, .getfield 9, 3, .null, [9, 0, 1], [(6, 175)]),
  (59, .sipush 197, 3, .null, [], []),
  (62, .iconst 4, 1, .null, [], []),
  (63, .iload 5, 2, .null, [], []),
  (65, .imul, 1, .null, [], []),
  (66, .iadd, 1, .null, [], []),
  (67, .iconst 3, 1, .null, [], []),
  (68, .iadd, 1, .null, [], []),
  (69, .dup2, 1, .null, [], []),
  (70, .iaload, 1, .null, [], []),
  (71, .aload_n 0, 1, .null, [], []),
  (72, .iload_n 1, 1, .null, [], []),
  (73, .iconst 2, 1, .null, [], []),
  (74, .invokevirtual 43, 3, .null, [226, 2, 0, 0, 0, 9], [(7, 9), (7, 11), (0, 25), (7, 12), (1, 11)]),
  (77, .ifCond .ne 7, 3, .null, [84], []),
  (80, .iconst 1, 1, .null, [], []),
  (81, .goto 4, 3, .null, [85], []),
  (84, .iconst 0, 1, .null, [], []),
  (85, .iadd, 1, .null, [], []),
  (86, .iastore, 1, .null, [], []),
  (87, .return_, 1, .null, [], [])]
def e_m290 : e_MD := (⟨"HexCampaignModel", "lose", "(III)V"⟩, prog_14_method_68_code, 6, none, [], e_c290)
-- 291: HexCampaignModel.loseAll(IZ)V
set_option maxRecDepth 100000 in
def e_c291 : List e_I := [(0, .iconst 1, 1, .null, [], []),
  (1, .istore_n 3, 1, .null, [], []),
  (2, .iconst 0, 1, .null, [], []),
  (3, .istore 4, 2, .null, [], []),
  (5, .iload 4, 2, .null, [], []),
  (7, .aload_n 0, 1, .null, [], []),
  (8, .getfield 9, 3, .null, [9, 0, 1], [(6, 175)]),
  (11, .sipush 196, 3, .null, [], []),
  (14, .iaload, 1, .null, [], []),
  (15, .if_icmp .ge 41, 3, .null, [56], []),
  (18, .iload_n 3, 1, .null, [], []),
  (19, .ifCond .eq 37, 3, .null, [56], []),
  (22, .iload_n 1, 1, .null, [], []),
  (23, .iload 4, 2, .null, [], []),
  (25, .ishr, 1, .null, [], []),
  (26, .iconst 1, 1, .null, [], []),
  (27, .iand, 1, .null, [], []),
  (28, .iconst 1, 1, .null, [], []),
  (29, .if_icmp .ne 21, 3, .null, [50], []),
  (32, .aload_n 0, 1, .null, [], []),
  (33, .iload 4, 2, .null, [], []),
  (35, .iconst 1, 1, .null, [], []),
  (36, .iconst 1, 1, .null, [], []),
  (37, .invokevirtual 241, 3, .null, [290, 3, 0, 0, 0, 9], [(8, 28), (8, 30), (0, 61), (8, 31), (1, 11)]),
  (40, .iload_n 2, 1, .null, [], []),
  (41, .ifCond .ne 7, 3, .null, [48], []),
  (44, .iconst 1, 1, .null, [], []),
  (45, .goto 4, 3, .null, [49], []),
  (48, .iconst 0, 1, .null, [], []),
  (49, .istore_n 3, 1, .null, [], []),
  (50, .iinc 4 1, 3, .null, [], []),
  (53, .goto (-48), 3, .null, [5], []),
  (56, .return_, 1, .null, [], [])]
def e_m291 : e_MD := (⟨"HexCampaignModel", "loseAll", "(IZ)V"⟩, prog_14_method_69_code, 5, none, [], e_c291)
-- 292: HexCampaignModel.retreat(II)V
set_option maxRecDepth 100000 in
def e_c292 : List e_I := [(0, .aload_n 0, 1, .null, [], []),
  (1, .iload_n 1, 1, .null, [], []),
  (2, .iconst 0, 1, .null, [], []),
  (3, .invokevirtual 43, 3, .null, [226, 2, 0, 0, 0, 9], [(7, 9), (7, 11), (0, 25), (7, 12), (1, 11)]),
  (6, .istore_n 3, 1, .null, [], []),
  (7, .aload_n 0, 1, .null, [], []),
  (8, .iload_n 1, 1, .null, [], []),
  (9, .iconst 1, 1, .null, [], []),
  (10, .invokevirtual 43, 3, .null, [226, 2, 0, 0, 0, 9], [(7, 9), (7, 11), (0, 25), (7, 12), (1, 11)]),
  (13, .istore 4, 2, .null, [], []),
  (15, .aload_n 0, 1, .null, [], []),
  (16, .aload_n 0, 1, .null, [], []),
  (17, .iconst 1, 1, .null, [], []),
  (18, .iload_n 3, 1, .null, [], []),
  (19, .isub, 1, .null, [], []),
  (20, .invokevirtual 131, 3, .null, [252, 1, 0, 0, 0, 9], [(7, 108), (7, 110), (0, 33), (7, 111), (1, 11)]),
  (23, .invokevirtual 134, 3, .null, [254, 1, 0, 0, 0, 9], [(7, 112), (7, 114), (0, 34), (7, 115), (1, 11)]),
  (26, .lstore 5, 2, .null, [], []),
  (28, .aload_n 0, 1, .null, [], []),
  (29, .aload_n 0, 1, .null, [], []),
  (30, .iload_n 3, 1, .null, [], []),
  (31, .invokevirtual 131, 3, .null, [252, 1, 0, 0, 0, 9], [(7, 108), (7, 110), (0, 33), (7, 111), (1, 11)]),
  (34, .iconst 1, 1, .null, [], []),
  (35, .iload_n 1, 1, .null, [], []),
  (36, .ishl, 1, .null, [], []),
  (37, .iconst (-1), 1, .null, [], []),
  (38, .ixor, 1, .null, [], []),
  (39, .iand, 1, .null, [], []),
  (40, .invokevirtual 105, 3, .null, [253, 1, 0, 0, 0, 9], [(7, 116), (7, 118), (0, 35), (7, 119), (1, 11)]),
  (43, .lstore 7, 2, .null, [], []),
  (45, .iconst (-1), 1, .null, [], []),
  (46, .istore 9, 2, .null, [], []),
  (48, .iconst 0, 1, .null, [], []),
  (49, .istore 10, 2, .null, [], []),
  (51, .iconst 0, 1, .null, [], []),
  (52, .istore 11, 2, .null, [], []),
  (54, .iload 11, 2, .null, [], []),
  (56, .bipush 63, 2, .null, [], []),
  (58, .if_icmp .ge 127, 3, .null, [185], []),
  (61, .iload 4, 2, .null, [], []),
  (63, .iload 11, 2, .null, [], []),
  (65, .invokestatic 229, 3, .null, [282, 2, 0, 0, 0], [(7, 235), (7, 236), (1, 11), (7, 237)]),
  (68, .ifCond .eq 111, 3, .null, [179], []),
  (71, .aload_n 0, 1, .null, [], []),
  (72, .getfield 9, 3, .null, [9, 0, 1], [(6, 175)]),
  (75, .iload 11, 2, .null, [], []),
  (77, .iaload, 1, .null, [], []),
  (78, .iconst 5, 1, .null, [], []),
  (79, .if_icmp .eq 100, 3, .null, [179], []),
  (82, .aload_n 0, 1, .null, [], []),
  (83, .iload 11, 2, .null, [], []),
  (85, .iload_n 1, 1, .null, [], []),
  (86, .invokevirtual 214, 3, .null, [280, 2, 0, 0, 0, 9], [(7, 223), (7, 225), (0, 53), (7, 226), (1, 11)]),
  (89, .ifCond .eq 90, 3, .null, [179], []),
  (92, .lload 5, 2, .null, [], []),
  (94, .iload 11, 2, .null, [], []),
  (96, .invokestatic 83, 3, .null, [241, 2, 0, 0, 0], [(7, 64), (7, 65), (1, 11), (7, 66)]),
  (99, .ifCond .eq 13, 3, .null, [112], []),
  (102, .lload 7, 2, .null, [], []),
  (104, .iload 11, 2, .null, [], []),
  (106, .invokestatic 83, 3, .null, [241, 2, 0, 0, 0], [(7, 64), (7, 65), (1, 11), (7, 66)]),
  (109, .ifCond .eq 70, 3, .null, [179], []),
  (112, .bipush 100, 2, .null, [], []),
  (114, .iload_n 2, 1, .null, [], []),
  (115, .iload 11, 2, .null, [], []),
  (117, .invokestatic 91, 3, .null, [243, 2, 0, 0, 0], [(7, 61), (7, 62), (1, 11), (7, 63)]),
  (120, .imul, 1, .null, [], []),
  (121, .aload_n 0, 1, .null, [], []),
  (122, .iload 4, 2, .null, [], []),
  (124, .iload 11, 2, .null, [], []),
  (126, .invokevirtual 144, 3, .null, [257, 2, 0, 0, 0, 9], [(7, 137), (7, 139), (0, 40), (7, 140), (1, 11)]),
  (129, .isub, 1, .null, [], []),
  (130, .istore 12, 2, .null, [], []),
  (132, .iload 9, 2, .null, [], []),
  (134, .ifCond .lt 10, 3, .null, [144], []),
  (137, .iload 12, 2, .null, [], []),
  (139, .iload 10, 2, .null, [], []),
  (141, .if_icmp .le 7, 3, .null, [148], []),
  (144, .iconst 1, 1, .null, [], []),
  (145, .goto 4, 3, .null, [149], []),
  (148, .iconst 0, 1, .null, [], []),
  (149, .istore 13, 2, .null, [], []),
  (151, .iload 13, 2, .null, [], []),
  (153, .ifCond .eq 8, 3, .null, [161], []),
  (156, .iload 11, 2, .null, [], []),
  (158, .goto 5, 3, .null, [163], []),
  (161, .iload 9, 2, .null, [], []),
  (163, .istore 9, 2, .null, [], []),
  (165, .iload 13, 2, .null, [], []),
  (167, .ifCond .eq 8, 3, .null, [175], []),
  (170, .iload 12, 2, .null, [], []),
  (172, .goto 5, 3, .null, [177], []),
  (175, .iload 10, 2, .null, [], []),
  (177, .istore 10, 2, .null, [], []),
  (179, .iinc 11 1, 3, .null, [], []),
  (182, .goto (-128), 3, .null, [54], []),
  (185, .iload 9, 2, .null, [], []),
  (187, .ifCond .ge 13, 3, .null, [200], []),
  (190, .aload_n 0, 1, .null, [], []),
  (191, .iload_n 1, 1, .null, [], []),
  (192, .iconst 2, 1, .null, [], []),
  (193, .iconst 1, 1, .null, [], []),
  (194, .invokevirtual 241, 3, .null, [290, 3, 0, 0, 0, 9], [(8, 28), (8, 30), (0, 61), (8, 31), (1, 11)]),
  (197, .goto 15, 3, .null, [212], []),
  (200, .aload_n 0, 1, .null, [], []),
  (201, .getfield 9, 3, .null, [9, 0, 1], [(6, 175)]),
  (204, .iload_n 1, 1, .null, [], []),
  (205, .iconst 1, 1, .null, [], []),
  (206, .invokestatic 157, 3, .null, [263, 2, 0, 0, 0], [(7, 155), (7, 156), (1, 11), (7, 157)]),
  (209, .iload 9, 2, .null, [], []),
  (211, .iastore, 1, .null, [], []),
  (212, .return_, 1, .null, [], [])]
def e_m292 : e_MD := (⟨"HexCampaignModel", "retreat", "(II)V"⟩, prog_14_method_70_code, 14, none, [], e_c292)
-- 293: HexCampaignModel.attack(II)I
set_option maxRecDepth 100000 in
def e_c293 : List e_I := [(0, .aload_n 0, 1, .null, [], []),
  (1, .aload_n 0, 1, .null, [], []),
  (2, .iload_n 1, 1, .null, [], []),
  (3, .iload_n 2, 1, .null, [], []),
  (4, .invokevirtual 232, 3, .null, [285, 2, 0, 0, 0, 9], [(7, 231), (7, 233), (0, 54), (7, 234), (1, 11)]),
  (7, .putfield 35, 3, .null, [9, 5, 0, 0], [(6, 180)]),
  (10, .aload_n 0, 1, .null, [], []),
  (11, .getfield 35, 3, .null, [9, 5, 0], [(6, 180)]),
  (14, .ifCond .le 5, 3, .null, [19], []),
  (17, .iconst 0, 1, .null, [], []),
  (18, .ireturn, 1, .null, [], []),
  (19, .aload_n 0, 1, .null, [], []),
  (20, .invokevirtual 71, 3, .null, [232, 0, 0, 0, 0, 9], [(7, 24), (7, 26), (0, 27), (7, 27), (1, 11)]),
  (23, .aload_n 0, 1, .null, [], []),
  (24, .iload_n 1, 1, .null, [], []),
  (25, .invokevirtual 217, 3, .null, [283, 1, 0, 0, 0, 9], [(7, 238), (8, 0), (0, 55), (8, 1), (1, 11)]),
  (28, .istore_n 3, 1, .null, [], []),
  (29, .aload_n 0, 1, .null, [], []),
  (30, .iload_n 2, 1, .null, [], []),
  (31, .invokevirtual 223, 3, .null, [284, 1, 0, 0, 0, 9], [(8, 2), (8, 4), (0, 56), (8, 5), (1, 11)]),
  (34, .istore 4, 2, .null, [], []),
  (36, .aload_n 0, 1, .null, [], []),
  (37, .iload_n 1, 1, .null, [], []),
  (38, .invokevirtual 238, 3, .null, [288, 1, 0, 0, 0, 9], [(8, 16), (8, 18), (0, 59), (8, 19), (1, 11)]),
  (41, .istore 5, 2, .null, [], []),
  (43, .aload_n 0, 1, .null, [], []),
  (44, .iload_n 2, 1, .null, [], []),
  (45, .invokevirtual 235, 3, .null, [287, 1, 0, 0, 0, 9], [(8, 6), (8, 8), (0, 57), (8, 9), (1, 11)]),
  (48, .istore 6, 2, .null, [], []),
  (50, .aload_n 0, 1, .null, [], []),
  (51, .getfield 9, 3, .null, [9, 0, 1], [(6, 175)]),
  (54, .sipush 195, 3, .null, [], []),
  (57, .dup2, 1, .null, [], []),
  (58, .iaload, 1, .null, [], []),
  (59, .iconst 1, 1, .null, [], []),
  (60, .iadd, 1, .null, [], []),
  (61, .iastore, 1, .null, [], []),
  (62, .iconst 0, 1, .null, [], []),
  (63, .istore 7, 2, .null, [], []),
  (65, .iload 7, 2, .null, [], []),
  (67, .aload_n 0, 1, .null, [], []),
  (68, .getfield 9, 3, .null, [9, 0, 1], [(6, 175)]),
  (71, .sipush 196, 3, .null, [], []),
  (74, .iaload, 1, .null, [], []),
  (75, .if_icmp .ge 29, 3, .null, [104], []),
  (78, .aload_n 0, 1, .null, [], []),
  (79, .getfield 9, 3, .null, [9, 0, 1], [(6, 175)]),
  (82, .iload 7, 2, .null, [], []),
  (84, .iconst 5, 1, .null, [], []),
  (85, .invokestatic 157, 3, .null, [263, 2, 0, 0, 0], [(7, 155), (7, 156), (1, 11), (7, 157)]),
  (88, .dup2, 1, .null, [], []),
  (89, .iaload, 1, .null, [], []),
  (90, .iload_n 3, 1, .null, [], []),
  (91, .iload 7, 2, .null, [], []),
  (93, .ishr, 1, .null, [], []),
  (94, .iconst 1, 1, .null, [], []),
  (95, .iand, 1, .null, [], []),
  (96, .ior, 1, .null, [], []),
  (97, .iastore, 1, .null, [], []),
  (98, .iinc 7 1, 3, .null, [], []),
  (101, .goto (-36), 3, .null, [65], []),
  (104, .iload 5, 2, .null, [], []),
  (106, .iconst 2, 1, .null, [], []),
  (107, .iload 6, 2, .null, [], []),
  (109, .imul, 1, .null, [], []),
  (110, .if_icmp .lt 61, 3, .null, [171], []),
  (113, .aload_n 0, 1, .null, [], []),
  (114, .iload 4, 2, .null, [], []),
  (116, .iconst 0, 1, .null, [], []),
  (117, .invokevirtual 244, 3, .null, [291, 2, 0, 0, 0, 9], [(8, 24), (8, 26), (0, 60), (8, 27), (1, 11)]),
  (120, .iconst 0, 1, .null, [], []),
  (121, .istore 7, 2, .null, [], []),
  (123, .iload 7, 2, .null, [], []),
  (125, .aload_n 0, 1, .null, [], []),
  (126, .getfield 9, 3, .null, [9, 0, 1], [(6, 175)]),
  (129, .sipush 196, 3, .null, [], []),
  (132, .iaload, 1, .null, [], []),
  (133, .if_icmp .ge 36, 3, .null, [169], []),
  (136, .iload 4, 2, .null, [], []),
  (138, .iload 7, 2, .null, [], []),
  (140, .ishr, 1, .null, [], []),
  (141, .iconst 1, 1, .null, [], []),
  (142, .iand, 1, .null, [], []),
  (143, .iconst 1, 1, .null, [], []),
  (144, .if_icmp .ne 19, 3, .null, [163], []),
  (147, .aload_n 0, 1, .null, [], []),
  (148, .iload 7, 2, .null, [], []),
  (150, .invokevirtual 47, 3, .null, [227, 1, 0, 0, 0, 9], [(7, 2), (7, 4), (0, 24), (7, 5), (1, 11)]),
  (153, .ifCond .eq 10, 3, .null, [163], []),
  (156, .aload_n 0, 1, .null, [], []),
  (157, .iload 7, 2, .null, [], []),
  (159, .iload_n 1, 1, .null, [], []),
  (160, .invokevirtual 248, 3, .null, [292, 2, 0, 0, 0, 9], [(8, 32), (8, 34), (0, 62), (8, 35), (1, 11)]),
  (163, .iinc 7 1, 3, .null, [], []),
  (166, .goto (-43), 3, .null, [123], []),
  (169, .iconst 2, 1, .null, [], []),
  (170, .ireturn, 1, .null, [], []),
  (171, .iload 5, 2, .null, [], []),
  (173, .iload 6, 2, .null, [], []),
  (175, .if_icmp .le 7, 3, .null, [182], []),
  (178, .iconst 1, 1, .null, [], []),
  (179, .goto 4, 3, .null, [183], []),
  (182, .iconst 0, 1, .null, [], []),
  (183, .istore 7, 2, .null, [], []),
  (185, .aload_n 0, 1, .null, [], []),
  (186, .iload_n 3, 1, .null, [], []),
  (187, .iload 7, 2, .null, [], []),
  (189, .invokevirtual 244, 3, .null, [291, 2, 0, 0, 0, 9], [(8, 24), (8, 26), (0, 60), (8, 27), (1, 11)]),
  (192, .iload 7, 2, .null, [], []),
  (194, .ifCond .eq 10, 3, .null, [204], []),
  (197, .aload_n 0, 1, .null, [], []),
  (198, .iload 4, 2, .null, [], []),
  (200, .iconst 1, 1, .null, [], []),
  (201, .invokevirtual 244, 3, .null, [291, 2, 0, 0, 0, 9], [(8, 24), (8, 26), (0, 60), (8, 27), (1, 11)]),
  (204, .iload 7, 2, .null, [], []),
  (206, .ifCond .eq 7, 3, .null, [213], []),
  (209, .iconst 1, 1, .null, [], []),
  (210, .goto 4, 3, .null, [214], []),
  (213, .iconst 0, 1, .null, [], []),
  (214, .ireturn, 1, .null, [], [])]
def e_m293 : e_MD := (⟨"HexCampaignModel", "attack", "(II)I"⟩, prog_14_method_71_code, 8, (some .int), [], e_c293)
-- 294: HexCampaignModel.endTurn()I
set_option maxRecDepth 100000 in
def e_c294 : List e_I := [(0, .aload_n 0, 1, .null, [], []),
  (1, .iconst 0, 1, .null, [], []),
  (2, .putfield 35, 3, .null, [9, 5, 0, 0], [(6, 180)]),
  (5, .aload_n 0, 1, .null, [], []),
  (6, .invokevirtual 71, 3, .null, [232, 0, 0, 0, 0, 9], [(7, 24), (7, 26), (0, 27), (7, 27), (1, 11)]),
  (9, .aload_n 0, 1, .null, [], []),
  (10, .getfield 9, 3, .null, [9, 0, 1], [(6, 175)]),
  (13, .sipush 191, 3, .null, [], []),
  (16, .iaload, 1, .null, [], []),
  (17, .istore_n 1, 1, .null, [], []),
  (18, .aload_n 0, 1, .null, [], []),
  (19, .getfield 9, 3, .null, [9, 0, 1], [(6, 175)]),
  (22, .sipush 197, 3, .null, [], []),
  (25, .iconst 4, 1, .null, [], []),
  (26, .iload_n 1, 1, .null, [], []),
  (27, .imul, 1, .null, [], []),
  (28, .iadd, 1, .null, [], []),
  (29, .iconst 3, 1, .null, [], []),
  (30, .iadd, 1, .null, [], []),
  (31, .iaload, 1, .null, [], []),
  (32, .istore_n 2, 1, .null, [], []),
  (33, .iconst 0, 1, .null, [], []),
  (34, .istore_n 3, 1, .null, [], []),
  (35, .iconst 0, 1, .null, [], []),
  (36, .istore 4, 2, .null, [], []),
  (38, .iload 4, 2, .null, [], []),
  (40, .aload_n 0, 1, .null, [], []),
  (41, .getfield 9, 3, .null, [9, 0, 1], [(6, 175)]),
  (44, .sipush 196, 3, .null, [], []),
  (47, .iaload, 1, .null, [], []),
  (48, .if_icmp .ge 39, 3, .null, [87], []),
  (51, .iload_n 3, 1, .null, [], []),
  (52, .aload_n 0, 1, .null, [], []),
  (53, .iload 4, 2, .null, [], []),
  (55, .iload_n 1, 1, .null, [], []),
  (56, .invokevirtual 101, 3, .null, [246, 2, 0, 0, 0, 9], [(7, 88), (7, 90), (0, 31), (7, 91), (1, 11)]),
  (59, .ifCond .eq 19, 3, .null, [78], []),
  (62, .aload_n 0, 1, .null, [], []),
  (63, .iload 4, 2, .null, [], []),
  (65, .invokevirtual 151, 3, .null, [265, 1, 0, 0, 0, 9], [(7, 166), (7, 168), (0, 43), (7, 169), (1, 11)]),
  (68, .ifCond .ne 10, 3, .null, [78], []),
  (71, .iconst 1, 1, .null, [], []),
  (72, .iload 4, 2, .null, [], []),
  (74, .ishl, 1, .null, [], []),
  (75, .goto 4, 3, .null, [79], []),
  (78, .iconst 0, 1, .null, [], []),
  (79, .ior, 1, .null, [], []),
  (80, .istore_n 3, 1, .null, [], []),
  (81, .iinc 4 1, 3, .null, [], []),
  (84, .goto (-46), 3, .null, [38], []),
  (87, .iconst 0, 1, .null, [], []),
  (88, .istore 4, 2, .null, [], []),
  (90, .iload 4, 2, .null, [], []),
  (92, .aload_n 0, 1, .null, [], []),
  (93, .getfield 9, 3, .null, [9, 0, 1], [(6, 175)]),
  (96, .sipush 196, 3, .null, [], []),
  (99, .iaload, 1, .null, [], []),
  (100, .if_icmp .ge 51, 3, .null, [151], []),
  (103, .iload_n 3, 1, .null, [], []),
  (104, .iload 4, 2, .null, [], []),
  (106, .ishr, 1, .null, [], []),
  (107, .iconst 1, 1, .null, [], []),
  (108, .iand, 1, .null, [], []),
  (109, .iconst 1, 1, .null, [], []),
  (110, .if_icmp .ne 11, 3, .null, [121], []),
  (113, .aload_n 0, 1, .null, [], []),
  (114, .iload 4, 2, .null, [], []),
  (116, .iconst 1, 1, .null, [], []),
  (117, .iconst 2, 1, .null, [], []),
  (118, .invokevirtual 241, 3, .null, [290, 3, 0, 0, 0, 9], [(8, 28), (8, 30), (0, 61), (8, 31), (1, 11)]),
  (121, .aload_n 0, 1, .null, [], []),
  (122, .getfield 9, 3, .null, [9, 0, 1], [(6, 175)]),
  (125, .iload 4, 2, .null, [], []),
  (127, .iconst 4, 1, .null, [], []),
  (128, .invokestatic 157, 3, .null, [263, 2, 0, 0, 0], [(7, 155), (7, 156), (1, 11), (7, 157)]),
  (131, .iconst 0, 1, .null, [], []),
  (132, .iastore, 1, .null, [], []),
  (133, .aload_n 0, 1, .null, [], []),
  (134, .getfield 9, 3, .null, [9, 0, 1], [(6, 175)]),
  (137, .iload 4, 2, .null, [], []),
  (139, .iconst 5, 1, .null, [], []),
  (140, .invokestatic 157, 3, .null, [263, 2, 0, 0, 0], [(7, 155), (7, 156), (1, 11), (7, 157)]),
  (143, .iconst 0, 1, .null, [], []),
  (144, .iastore, 1, .null, [], []),
  (145, .iinc 4 1, 3, .null, [], []),
  (148, .goto (-58), 3, .null, [90], []),
  (151, .aload_n 0, 1, .null, [], []),
  (152, .getfield 9, 3, .null, [9, 0, 1], [(6, 175)]),
  (155, .sipush 191, 3, .null, [], []),
  (158, .iconst 1, 1, .null, [], []),
  (159, .iload_n 1, 1, .null, [], []),
  (160, .isub, 1, .null, [], []),
  (161, .iastore, 1, .null, [], []),
  (162, .iload_n 1, 1, .null, [], []),
  (163, .iconst 1, 1, .null, [], []),
  (164, .if_icmp .ne 83, 3, .null, [247], []),
  (167, .aload_n 0, 1, .null, [], []),
  (168, .getfield 9, 3, .null, [9, 0, 1], [(6, 175)]),
  (171, .sipush 192, 3, .null, [], []),
  (174, .dup2, 1, .null, [], []),
  (175, .iaload, 1, .null, [], []),
  (176, .iconst 1, 1, .null, [], []),
  (177, .iadd, 1, .null, [], []),
  (178, .iastore, 1, .null, [], []),
  (179, .aload_n 0, 1, .null, [], []),
  (180, .getfield 9, 3, .null, [9, 0, 1], [(6, 175)]),
  (183, .sipush 193, 3, .null, [], []),
  (186, .aload_n 0, 1, .null, [], []),
  (187, .getfield 9, 3, .null, [9, 0, 1], [(6, 175)]),
  (190, .sipush 193, 3, .null, [], []),
  (193, .iaload, 1, .null, [], []),
  (194, .ldc 251, 2, .int 1103515245, [], [(8, 40)]),
  (196, .imul, 1, .null, [], []),
  (197, .sipush 12345, 3, .null, [], []),
  (200, .iadd, 1, .null, [], []),
  (201, .iastore, 1, .null, [], []),
  (202, .aload_n 0, 1, .null, [], []),
  (203, .getfield 9, 3, .null, [9, 0, 1], [(6, 175)]),
  (206, .sipush 193, 3, .null, [], []),
  (209, .iaload, 1, .null, [], []),
  (210, .bipush 16, 2, .null, [], []),
  (212, .iushr, 1, .null, [], []),
  (213, .bipush 6, 2, .null, [], []),
  (215, .irem, 1, .null, [], []),
  (216, .istore 4, 2, .null, [], []),
  (218, .aload_n 0, 1, .null, [], []),
  (219, .getfield 9, 3, .null, [9, 0, 1], [(6, 175)]),
  (222, .sipush 189, 3, .null, [], []),
  (225, .iload 4, 2, .null, [], []),
  (227, .iconst 3, 1, .null, [], []),
  (228, .if_icmp .ge 7, 3, .null, [235], []),
  (231, .iconst 0, 1, .null, [], []),
  (232, .goto 14, 3, .null, [246], []),
  (235, .iload 4, 2, .null, [], []),
  (237, .iconst 5, 1, .null, [], []),
  (238, .if_icmp .ge 7, 3, .null, [245], []),
  (241, .iconst 1, 1, .null, [], []),
  (242, .goto 4, 3, .null, [246], []),
  (245, .iconst 2, 1, .null, [], []),
  (246, .iastore, 1, .null, [], []),
  (247, .aload_n 0, 1, .null, [], []),
  (248, .getfield 9, 3, .null, [9, 0, 1], [(6, 175)]),
  (251, .sipush 197, 3, .null, [], []),
  (254, .iconst 4, 1, .null, [], []),
  (255, .iload_n 1, 1, .null, [], []),
  (256, .imul, 1, .null, [], []),
  (257, .iadd, 1, .null, [], []),
  (258, .iconst 3, 1, .null, [], []),
  (259, .iadd, 1, .null, [], []),
  (260, .iaload, 1, .null, [], []),
  (261, .iload_n 2, 1, .null, [], []),
  (262, .isub, 1, .null, [], []),
  (263, .ireturn, 1, .null, [], [])]
def e_m294 : e_MD := (⟨"HexCampaignModel", "endTurn", "()I"⟩, prog_14_method_72_code, 5, (some .int), [], e_c294)
-- 295: HexCampaignModel.strengthOf(I)I
set_option maxRecDepth 100000 in
def e_c295 : List e_I := [(0, .iconst 0, 1, .null, [], []),
  (1, .istore_n 2, 1, .null, [], []),
  (2, .iconst 0, 1, .null, [], []),
  (3, .istore_n 3, 1, .null, [], []),
  (4, .iload_n 3, 1, .null, [], []),
  (5, .aload_n 0, 1, .null, [], []),
  (6, .getfield 9, 3, .null, [9, 0, 1], [(6, 175)]),
  (9, .sipush 196, 3, .null, [], []),
  (12, .iaload, 1, .null, [], []),
  (13, .if_icmp .ge 31, 3, .null, [44], []),
  (16, .iload_n 2, 1, .null, [], []),
  (17, .aload_n 0, 1, .null, [], []),
  (18, .iload_n 3, 1, .null, [], []),
  (19, .iload_n 1, 1, .null, [], []),
  (20, .invokevirtual 101, 3, .null, [246, 2, 0, 0, 0, 9], [(7, 88), (7, 90), (0, 31), (7, 91), (1, 11)]),
  (23, .ifCond .eq 12, 3, .null, [35], []),
  (26, .aload_n 0, 1, .null, [], []),
  (27, .iload_n 3, 1, .null, [], []),
  (28, .iconst 2, 1, .null, [], []),
  (29, .invokevirtual 43, 3, .null, [226, 2, 0, 0, 0, 9], [(7, 9), (7, 11), (0, 25), (7, 12), (1, 11)]),
  (32, .goto 4, 3, .null, [36], []),
  (35, .iconst 0, 1, .null, [], []),
  (36, .iadd, 1, .null, [], []),
  (37, .istore_n 2, 1, .null, [], []),
  (38, .iinc 3 1, 3, .null, [], []),
  (41, .goto (-37), 3, .null, [4], []),
  (44, .iload_n 2, 1, .null, [], []),
  (45, .ireturn, 1, .null, [], [])]
def e_m295 : e_MD := (⟨"HexCampaignModel", "strengthOf", "(I)I"⟩, prog_14_method_73_code, 4, (some .int), [], e_c295)
-- 296: HexCampaignModel.account(II)I
set_option maxRecDepth 100000 in
def e_c296 : List e_I := [(0, .aload_n 0, 1, .null, [], []),
  (1, .iload_n 1, 1, .null, [], []),
  (2, .invokestatic 74, 3, .null, [234, 1, 0, 0, 0], [(7, 35), (7, 36), (1, 11), (7, 37)]),
  (5, .ifCond .ne 7, 3, .null, [12], []),
  (8, .iconst 1, 1, .null, [], []),
  (9, .goto 17, 3, .null, [26], []),
  (12, .iload_n 2, 1, .null, [], []),
  (13, .iconst 0, 1, .null, [], []),
  (14, .iconst 5, 1, .null, [], []),
  (15, .invokestatic 39, 3, .null, [225, 3, 0, 0, 0], [(7, 6), (7, 7), (1, 11), (7, 8)]),
  (18, .ifCond .ne 7, 3, .null, [25], []),
  (21, .iconst 2, 1, .null, [], []),
  (22, .goto 4, 3, .null, [26], []),
  (25, .iconst 0, 1, .null, [], []),
  (26, .putfield 35, 3, .null, [9, 5, 0, 0], [(6, 180)]),
  (29, .aload_n 0, 1, .null, [], []),
  (30, .getfield 35, 3, .null, [9, 5, 0], [(6, 180)]),
  (33, .ifCond .le 5, 3, .null, [38], []),
  (36, .iconst 0, 1, .null, [], []),
  (37, .ireturn, 1, .null, [], []),
  (38, .sipush 197, 3, .null, [], []),
  (41, .iconst 4, 1, .null, [], []),
  (42, .iload_n 1, 1, .null, [], []),
  (43, .imul, 1, .null, [], []),
  (44, .iadd, 1, .null, [], []),
  (45, .istore_n 3, 1, .null, [], []),
  (46, .iload_n 2, 1, .null, [], []),
  (47, .tableswitch 114 0 4 #[33, 42, 48, 57, 66], 33, .null, [161, 80, 89, 95, 104, 113], []),
  (80, .aload_n 0, 1, .null, [], []),
  (81, .getfield 9, 3, .null, [9, 0, 1], [(6, 175)]),
  (84, .iload_n 3, 1, .null, [], []),
  (85, .iconst 0, 1, .null, [], []),
  (86, .iadd, 1, .null, [], []),
  (87, .iaload, 1, .null, [], []),
  (88, .ireturn, 1, .null, [], []),
  (89, .aload_n 0, 1, .null, [], []),
  (90, .iload_n 1, 1, .null, [], []),
  (91, .invokevirtual 252, 3, .null, [295, 1, 0, 0, 0, 9], [(8, 45), (8, 47), (0, 63), (8, 48), (1, 11)]),
  (94, .ireturn, 1, .null, [], []),
  (95, .aload_n 0, 1, .null, [], []),
  (96, .getfield 9, 3, .null, [9, 0, 1], [(6, 175)]),
  (99, .iload_n 3, 1, .null, [], []),
  (100, .iconst 1, 1, .null, [], []),
  (101, .iadd, 1, .null, [], []),
  (102, .iaload, 1, .null, [], []),
  (103, .ireturn, 1, .null, [], []),
  (104, .aload_n 0, 1, .null, [], []),
  (105, .getfield 9, 3, .null, [9, 0, 1], [(6, 175)]),
  (108, .iload_n 3, 1, .null, [], []),
  (109, .iconst 2, 1, .null, [], []),
  (110, .iadd, 1, .null, [], []),
  (111, .iaload, 1, .null, [], []),
  (112, .ireturn, 1, .null, [], []),
  (113, .iconst 0, 1, .null, [], []),
  (114, .istore 4, 2, .null, [], []),
  (116, .iconst 0, 1, .null, [], []),
  (117, .istore 5, 2, .null, [], []),
  (119, .iload 5, 2, .null, [], []),
  (121, .aload_n 0, 1, .null, [], []),
  (122, .getfield 9, 3, .null, [9, 0, 1], [(6, 175)]),
  (125, .sipush 196, 3, .null, [], []),
  (128, .iaload, 1, .null, [], []),
  (129, .if_icmp .ge 29, 3, .null, [158], []),
  (132, .iload 4, 2, .null, [], []),
  (134, .aload_n 0, 1, .null, [], []),
  (135, .iload 5, 2, .null, [], []),
  (137, .iload_n 1, 1, .null, [], []),
  (138, .invokevirtual 101, 3, .null, [246, 2, 0, 0, 0, 9], [(7, 88), (7, 90), (0, 31), (7, 91), (1, 11)]),
  (141, .ifCond .eq 7, 3, .null, [148], []),
  (144, .iconst 1, 1, .null, [], []),
  (145, .goto 4, 3, .null, [149], []),
  (148, .iconst 0, 1, .null, [], []),
  (149, .iadd, 1, .null, [], []),
  (150, .istore 4, 2, .null, [], []),
  (152, .iinc 5 1, 3, .null, [], []),
  (155, .goto (-36), 3, .null, [119], []),
  (158, .iload 4, 2, .null, [], []),
  (160, .ireturn, 1, .null, [], []),
  (161, .aload_n 0, 1, .null, [], []),
  (162, .getfield 9, 3, .null, [9, 0, 1], [(6, 175)]),
  (165, .iload_n 3, 1, .null, [], []),
  (166, .iconst 3, 1, .null, [], []),
  (167, .iadd, 1, .null, [], []),
  (168, .iaload, 1, .null, [], []),
  (169, .ireturn, 1, .null, [], [])]
def e_m296 : e_MD := (⟨"HexCampaignModel", "account", "(II)I"⟩, prog_14_method_74_code, 6, (some .int), [], e_c296)
-- 297: HexCampaignModel.balance()D
set_option maxRecDepth 100000 in
def e_c297 : List e_I := [(0, .aload_n 0, 1, .null, [], []),
  (1, .aload_n 0, 1, .null, [], []),
  (2, .iconst 1, 1, .null, [], []),
  (3, .invokevirtual 131, 3, .null, [252, 1, 0, 0, 0, 9], [(7, 108), (7, 110), (0, 33), (7, 111), (1, 11)]),
  (6, .ifCond .ne 7, 3, .null, [13], []),
  (9, .iconst 1, 1, .null, [], []),
  (10, .goto 4, 3, .null, [14], []),
  (13, .iconst 0, 1, .null, [], []),
  (14, .putfield 35, 3, .null, [9, 5, 0, 0], [(6, 180)]),
  (17, .aload_n 0, 1, .null, [], []),
  (18, .getfield 35, 3, .null, [9, 5, 0], [(6, 180)]),
  (21, .ifCond .le 7, 3, .null, [28], []),
  (24, .dconst 0, 1, .null, [], []),
  (25, .goto 24, 3, .null, [49], []),
  (28, .aload_n 0, 1, .null, [], []),
  (29, .aload_n 0, 1, .null, [], []),
  (30, .iconst 0, 1, .null, [], []),
  (31, .invokevirtual 131, 3, .null, [252, 1, 0, 0, 0, 9], [(7, 108), (7, 110), (0, 33), (7, 111), (1, 11)]),
  (34, .invokevirtual 220, 3, .null, [286, 1, 0, 0, 0, 9], [(8, 10), (8, 12), (0, 58), (8, 13), (1, 11)]),
  (37, .i2d, 1, .null, [], []),
  (38, .aload_n 0, 1, .null, [], []),
  (39, .aload_n 0, 1, .null, [], []),
  (40, .iconst 1, 1, .null, [], []),
  (41, .invokevirtual 131, 3, .null, [252, 1, 0, 0, 0, 9], [(7, 108), (7, 110), (0, 33), (7, 111), (1, 11)]),
  (44, .invokevirtual 220, 3, .null, [286, 1, 0, 0, 0, 9], [(8, 10), (8, 12), (0, 58), (8, 13), (1, 11)]),
  (47, .i2d, 1, .null, [], []),
  (48, .ddiv, 1, .null, [], []),
  (49, .dreturn, 1, .null, [], [])]
def e_m297 : e_MD := (⟨"HexCampaignModel", "balance", "()D"⟩, prog_14_method_75_code, 1, (some .double), [], e_c297)
-- 298: HexCampaignModel.report(II)I
set_option maxRecDepth 100000 in
def e_c298 : List e_I := [(0, .aload_n 0, 1, .null, [], []),
  (1, .iload_n 1, 1, .null, [], []),
  (2, .iconst 0, 1, .null, [], []),
  (3, .aload_n 0, 1, .null, [], []),
  (4, .getfield 207, 3, .null, [9, 15, 0], [(6, 190)]),
  (7, .iconst 1, 1, .null, [], []),
  (8, .isub, 1, .null, [], []),
  (9, .invokestatic 39, 3, .null, [225, 3, 0, 0, 0], [(7, 6), (7, 7), (1, 11), (7, 8)]),
  (12, .ifCond .ne 7, 3, .null, [19], []),
  (15, .iconst 1, 1, .null, [], []),
  (16, .goto 17, 3, .null, [33], []),
  (19, .iload_n 2, 1, .null, [], []),
  (20, .iconst 0, 1, .null, [], []),
  (21, .iconst 1, 1, .null, [], []),
  (22, .invokestatic 39, 3, .null, [225, 3, 0, 0, 0], [(7, 6), (7, 7), (1, 11), (7, 8)]),
  (25, .ifCond .ne 7, 3, .null, [32], []),
  (28, .iconst 2, 1, .null, [], []),
  (29, .goto 4, 3, .null, [33], []),
  (32, .iconst 0, 1, .null, [], []),
  (33, .putfield 35, 3, .null, [9, 5, 0, 0], [(6, 180)]),
  (36, .aload_n 0, 1, .null, [], []),
  (37, .getfield 35, 3, .null, [9, 5, 0], [(6, 180)]),
  (40, .ifCond .le 7, 3, .null, [47], []),
  (43, .iconst 0, 1, .null, [], []),
  (44, .goto 13, 3, .null, [57], []),
  (47, .aload_n 0, 1, .null, [], []),
  (48, .getfield 28, 3, .null, [9, 14, 1], [(6, 189)]),
  (51, .iconst 2, 1, .null, [], []),
  (52, .iload_n 1, 1, .null, [], []),
  (53, .imul, 1, .null, [], []),
  (54, .iload_n 2, 1, .null, [], []),
  (55, .iadd, 1, .null, [], []),
  (56, .iaload, 1, .null, [], []),
  (57, .ireturn, 1, .null, [], [])]
def e_m298 : e_MD := (⟨"HexCampaignModel", "report", "(II)I"⟩, prog_14_method_76_code, 3, (some .int), [], e_c298)
-- 299: HexCampaignModel.feed(C)I
set_option maxRecDepth 100000 in
def e_c299 : List e_I := [(0, .aload_n 0, 1, .null, [], []),
  (1, .aload_n 0, 1, .null, [], []),
  (2, .getfield 255, 3, .null, [9, 17, 0], [(6, 192)]),
  (5, .bipush 80, 2, .null, [], []),
  (7, .if_icmp .ne 7, 3, .null, [14], []),
  (10, .iconst 1, 1, .null, [], []),
  (11, .goto 4, 3, .null, [15], []),
  (14, .iconst 0, 1, .null, [], []),
  (15, .putfield 35, 3, .null, [9, 5, 0, 0], [(6, 180)]),
  (18, .aload_n 0, 1, .null, [], []),
  (19, .getfield 35, 3, .null, [9, 5, 0], [(6, 180)]),
  (22, .ifCond .le 5, 3, .null, [27], []),
  (25, .iconst 0, 1, .null, [], []),
  (26, .ireturn, 1, .null, [], []),
  (27, .aload_n 0, 1, .null, [], []),
  (28, .getfield 31, 3, .null, [9, 16, 1], [(6, 191)]),
  (31, .aload_n 0, 1, .null, [], []),
  (32, .getfield 255, 3, .null, [9, 17, 0], [(6, 192)]),
  (35, .iload_n 1, 1, .null, [], []),
  (36, .castore, 1, .null, [], []),
  (37, .aload_n 0, 1, .null, [], []),
  (38, .dup, 1, .null, [], []),
  (39, .getfield 255, 3, .null, [9, 17, 0], [(6, 192)]),
  (42, .iconst 1, 1, .null, [], []),
  (43, .iadd, 1, .null, [], []),
  (44, .putfield 255, 3, .null, [9, 17, 0, 0], [(6, 192)]),
  (47, .aload_n 0, 1, .null, [], []),
  (48, .getfield 255, 3, .null, [9, 17, 0], [(6, 192)]),
  (51, .ireturn, 1, .null, [], [])]
def e_m299 : e_MD := (⟨"HexCampaignModel", "feed", "(C)I"⟩, prog_14_method_77_code, 2, (some .int), [], e_c299)
-- 300: HexCampaignModel.kindOf(C)I
set_option maxRecDepth 100000 in
def e_c300 : List e_I := [(0, .iconst 0, 1, .null, [], []),
  (1, .istore_n 1, 1, .null, [], []),
  (2, .iload_n 1, 1, .null, [], []),
  (3, .bipush 11, 2, .null, [], []),
  (5, .if_icmp .ge 22, 3, .null, [27], []),
  (8, .ldc_w 258, 3, .retAddr 2, [], [(8, 72)]),
  (11, .iload_n 1, 1, .null, [], []),
  (12, .invokevirtual 260, 3, .null, [202, 1, 0, 0, 0, 99], [(8, 73), (6, 76), (6, 77), (6, 78), (1, 18)]),
  (15, .iload_n 0, 1, .null, [], []),
  (16, .if_icmp .ne 5, 3, .null, [21], []),
  (19, .iload_n 1, 1, .null, [], []),
  (20, .ireturn, 1, .null, [], []),
  (21, .iinc 1 1, 3, .null, [], []),
  (24, .goto (-22), 3, .null, [2], []),
  (27, .iconst (-1), 1, .null, [], []),
  (28, .ireturn, 1, .null, [], [])]
def e_m300 : e_MD := (⟨"HexCampaignModel", "kindOf", "(C)I"⟩, prog_14_method_78_code, 2, (some .int), [], e_c300)
-- 301: HexCampaignModel.goodLength()I
set_option maxRecDepth 100000 in
def e_c301 : List e_I := [(0, .iconst 0, 1, .null, [], []),
  (1, .istore_n 1, 1, .null, [], []),
  (2, .iconst 1, 1, .null, [], []),
  (3, .istore_n 2, 1, .null, [], []),
  (4, .iload_n 2, 1, .null, [], []),
  (5, .ifCond .eq 83, 3, .null, [88], []),
  (8, .iload_n 1, 1, .null, [], []),
  (9, .aload_n 0, 1, .null, [], []),
  (10, .getfield 255, 3, .null, [9, 17, 0], [(6, 192)]),
  (13, .if_icmp .ge 75, 3, .null, [88], []),
  (16, .iload_n 1, 1, .null, [], []),
  (17, .bipush 10, 2, .null, [], []),
  (19, .irem, 1, .null, [], []),
  (20, .bipush 9, 2, .null, [], []),
  (22, .if_icmp .ne 7, 3, .null, [29], []),
  (25, .iconst 1, 1, .null, [], []),
  (26, .goto 4, 3, .null, [30], []),
  (29, .iconst 0, 1, .null, [], []),
  (30, .istore_n 3, 1, .null, [], []),
  (31, .iload_n 1, 1, .null, [], []),
  (32, .bipush 69, 2, .null, [], []),
  (34, .if_icmp .ge 37, 3, .null, [71], []),
  (37, .iload_n 3, 1, .null, [], []),
  (38, .ifCond .eq 17, 3, .null, [55], []),
  (41, .aload_n 0, 1, .null, [], []),
  (42, .getfield 31, 3, .null, [9, 16, 1], [(6, 191)]),
  (45, .iload_n 1, 1, .null, [], []),
  (46, .caload, 1, .null, [], []),
  (47, .bipush 47, 2, .null, [], []),
  (49, .if_icmp .ne 22, 3, .null, [71], []),
  (52, .goto 15, 3, .null, [67], []),
  (55, .aload_n 0, 1, .null, [], []),
  (56, .getfield 31, 3, .null, [9, 16, 1], [(6, 191)]),
  (59, .iload_n 1, 1, .null, [], []),
  (60, .caload, 1, .null, [], []),
  (61, .invokestatic 266, 3, .null, [300, 1, 0, 0, 0], [(8, 69), (8, 70), (1, 11), (8, 71)]),
  (64, .ifCond .lt 7, 3, .null, [71], []),
  (67, .iconst 1, 1, .null, [], []),
  (68, .goto 4, 3, .null, [72], []),
  (71, .iconst 0, 1, .null, [], []),
  (72, .istore_n 2, 1, .null, [], []),
  (73, .iload_n 1, 1, .null, [], []),
  (74, .iload_n 2, 1, .null, [], []),
  (75, .ifCond .eq 7, 3, .null, [82], []),
  (78, .iconst 1, 1, .null, [], []),
  (79, .goto 4, 3, .null, [83], []),
  (82, .iconst 0, 1, .null, [], []),
  (83, .iadd, 1, .null, [], []),
  (84, .istore_n 1, 1, .null, [], []),
  (85, .goto (-81), 3, .null, [4], []),
  (88, .iload_n 1, 1, .null, [], []),
  (89, .ireturn, 1, .null, [], [])]
def e_m301 : e_MD := (⟨"HexCampaignModel", "goodLength", "()I"⟩, prog_14_method_79_code, 4, (some .int), [], e_c301)
-- 302: HexCampaignModel.cellAt(I)I
set_option maxRecDepth 100000 in
def e_c302 : List e_I := [(0, .iload_n 0, 1, .null, [], []),
  (1, .bipush 10, 2, .null, [], []),
  (3, .irem, 1, .null, [], []),
  (4, .bipush 9, 2, .null, [], []),
  (6, .if_icmp .ne 7, 3, .null, [13], []),
  (9, .iconst (-1), 1, .null, [], []),
  (10, .goto 9, 3, .null, [19], []),
  (13, .iload_n 0, 1, .null, [], []),
  (14, .iload_n 0, 1, .null, [], []),
  (15, .bipush 10, 2, .null, [], []),
  (17, .idiv, 1, .null, [], []),
  (18, .isub, 1, .null, [], []),
  (19, .ireturn, 1, .null, [], [])]
def e_m302 : e_MD := (⟨"HexCampaignModel", "cellAt", "(I)I"⟩, prog_14_method_80_code, 1, (some .int), [], e_c302)
-- 303: HexCampaignModel.readMap()I
set_option maxRecDepth 100000 in
def e_c303 : List e_I := [(0, .aload_n 0, 1, .null, [], []),
  (1, .getfield 255, 3, .null, [9, 17, 0], [(6, 192)]),
  (4, .istore_n 1, 1, .null, [], []),
  (5, .aload_n 0, 1, .null, [], []),
  (6, .invokevirtual 270, 3, .null, [301, 0, 0, 0, 0, 9], [(8, 65), (8, 67), (0, 64), (8, 68), (1, 11)]),
  (9, .istore_n 2, 1, .null, [], []),
  (10, .aload_n 0, 1, .null, [], []),
  (11, .iconst 0, 1, .null, [], []),
  (12, .putfield 255, 3, .null, [9, 17, 0, 0], [(6, 192)]),
  (15, .aload_n 0, 1, .null, [], []),
  (16, .iconst 0, 1, .null, [], []),
  (17, .putfield 35, 3, .null, [9, 5, 0, 0], [(6, 180)]),
  (20, .iload_n 2, 1, .null, [], []),
  (21, .iload_n 1, 1, .null, [], []),
  (22, .if_icmp .ge 8, 3, .null, [30], []),
  (25, .bipush (-100), 2, .null, [], []),
  (27, .iload_n 2, 1, .null, [], []),
  (28, .isub, 1, .null, [], []),
  (29, .ireturn, 1, .null, [], []),
  (30, .iconst 0, 1, .null, [], []),
  (31, .istore_n 3, 1, .null, [], []),
  (32, .iconst 0, 1, .null, [], []),
  (33, .istore 4, 2, .null, [], []),
  (35, .iload 4, 2, .null, [], []),
  (37, .iload_n 1, 1, .null, [], []),
  (38, .if_icmp .ge 69, 3, .null, [107], []),
  (41, .iload 4, 2, .null, [], []),
  (43, .invokestatic 273, 3, .null, [302, 1, 0, 0, 0], [(8, 74), (8, 75), (1, 11), (8, 76)]),
  (46, .istore 5, 2, .null, [], []),
  (48, .iload_n 3, 1, .null, [], []),
  (49, .iload 5, 2, .null, [], []),
  (51, .ifCond .lt 7, 3, .null, [58], []),
  (54, .iconst 1, 1, .null, [], []),
  (55, .goto 4, 3, .null, [59], []),
  (58, .iconst 0, 1, .null, [], []),
  (59, .iadd, 1, .null, [], []),
  (60, .istore_n 3, 1, .null, [], []),
  (61, .aload_n 0, 1, .null, [], []),
  (62, .iload 5, 2, .null, [], []),
  (64, .ifCond .lt 30, 3, .null, [94], []),
  (67, .aload_n 0, 1, .null, [], []),
  (68, .getfield 31, 3, .null, [9, 16, 1], [(6, 191)]),
  (71, .iload 4, 2, .null, [], []),
  (73, .caload, 1, .null, [], []),
  (74, .invokestatic 266, 3, .null, [300, 1, 0, 0, 0], [(8, 69), (8, 70), (1, 11), (8, 71)]),
  (77, .iconst 5, 1, .null, [], []),
  (78, .if_icmp .ne 16, 3, .null, [94], []),
  (81, .aload_n 0, 1, .null, [], []),
  (82, .iload 5, 2, .null, [], []),
  (84, .invokevirtual 67, 3, .null, [231, 1, 0, 0, 0, 9], [(7, 20), (7, 22), (0, 26), (7, 23), (1, 11)]),
  (87, .ifCond .eq 7, 3, .null, [94], []),
  (90, .iconst 1, 1, .null, [], []),
  (91, .goto 7, 3, .null, [98], []),
  (94, .aload_n 0, 1, .null, [], []),
  (95, .getfield 35, 3, .null, [9, 5, 0], [(6, 180)]),
  (98, .putfield 35, 3, .null, [9, 5, 0, 0], [(6, 180)]),
  (101, .iinc 4 1, 3, .null, [], []),
  (104, .goto (-69), 3, .null, [35], []),
  (107, .aload_n 0, 1, .null, [], []),
  (108, .getfield 35, 3, .null, [9, 5, 0], [(6, 180)]),
  (111, .ifCond .le 5, 3, .null, [116], []),
  (114, .iconst 0, 1, .null, [], []),
  (115, .ireturn, 1, .null, [], []),
  (116, .aload_n 0, 1, .null, [], []),
  (117, .invokevirtual 71, 3, .null, [232, 0, 0, 0, 0, 9], [(7, 24), (7, 26), (0, 27), (7, 27), (1, 11)]),
  (120, .iconst 0, 1, .null, [], []),
  (121, .istore 4, 2, .null, [], []),
  (123, .iload 4, 2, .null, [], []),
  (125, .iload_n 1, 1, .null, [], []),
  (126, .if_icmp .ge 78, 3, .null, [204], []),
  (129, .iload 4, 2, .null, [], []),
  (131, .invokestatic 273, 3, .null, [302, 1, 0, 0, 0], [(8, 74), (8, 75), (1, 11), (8, 76)]),
  (134, .istore 5, 2, .null, [], []),
  (136, .aload_n 0, 1, .null, [], []),
  (137, .getfield 31, 3, .null, [9, 16, 1], [(6, 191)]),
  (140, .iload 4, 2, .null, [], []),
  (142, .caload, 1, .null, [], []),
  (143, .invokestatic 266, 3, .null, [300, 1, 0, 0, 0], [(8, 69), (8, 70), (1, 11), (8, 71)]),
  (146, .istore 6, 2, .null, [], []),
  (148, .iload 5, 2, .null, [], []),
  (150, .ifCond .lt 48, 3, .null, [198], []),
  (153, .aload_n 0, 1, .null, [], []),
  (154, .getfield 9, 3, .null, [9, 0, 1], [(6, 175)]),
  (157, .iload 5, 2, .null, [], []),
  (159, .iload 6, 2, .null, [], []),
  (161, .iconst 5, 1, .null, [], []),
  (162, .if_icmp .le 12, 3, .null, [174], []),
  (165, .iload 6, 2, .null, [], []),
  (167, .iconst 5, 1, .null, [], []),
  (168, .isub, 1, .null, [], []),
  (169, .iconst 1, 1, .null, [], []),
  (170, .isub, 1, .null, [], []),
  (171, .goto 5, 3, .null, [176], []),
  (174, .iload 6, 2, .null, [], []),
  (176, .iastore, 1, .null, [], []),
  (177, .aload_n 0, 1, .null, [], []),
  (178, .getfield 9, 3, .null, [9, 0, 1], [(6, 175)]),
  (181, .bipush 63, 2, .null, [], []),
  (183, .iload 5, 2, .null, [], []),
  (185, .iadd, 1, .null, [], []),
  (186, .iload 6, 2, .null, [], []),
  (188, .iconst 5, 1, .null, [], []),
  (189, .if_icmp .le 7, 3, .null, [196], []),
  (192, .iconst 1, 1, .null, [], []),
  (193, .goto 4, 3, .null, [197], []),
  (196, .iconst 0, 1, .null, [], []),
  (197, .iastore, 1, .null, [], []),
  (198, .iinc 4 1, 3, .null, [], []),
  (201, .goto (-78), 3, .null, [123], []),
  (204, .iload_n 3, 1, .null, [], []),
  (205, .ireturn, 1, .null, [], [])]
def e_m303 : e_MD := (⟨"HexCampaignModel", "readMap", "()I"⟩, prog_14_method_81_code, 7, (some .int), [], e_c303)
-- 304: HexCampaignModel.text(I)C
set_option maxRecDepth 100000 in
def e_c304 : List e_I := [(0, .aload_n 0, 1, .null, [], []),
  (1, .iload_n 1, 1, .null, [], []),
  (2, .iconst 0, 1, .null, [], []),
  (3, .bipush 68, 2, .null, [], []),
  (5, .invokestatic 39, 3, .null, [225, 3, 0, 0, 0], [(7, 6), (7, 7), (1, 11), (7, 8)]),
  (8, .ifCond .eq 7, 3, .null, [15], []),
  (11, .iconst 0, 1, .null, [], []),
  (12, .goto 4, 3, .null, [16], []),
  (15, .iconst 1, 1, .null, [], []),
  (16, .putfield 35, 3, .null, [9, 5, 0, 0], [(6, 180)]),
  (19, .aload_n 0, 1, .null, [], []),
  (20, .getfield 35, 3, .null, [9, 5, 0], [(6, 180)]),
  (23, .ifCond .le 5, 3, .null, [28], []),
  (26, .iconst 0, 1, .null, [], []),
  (27, .ireturn, 1, .null, [], []),
  (28, .iload_n 1, 1, .null, [], []),
  (29, .invokestatic 273, 3, .null, [302, 1, 0, 0, 0], [(8, 74), (8, 75), (1, 11), (8, 76)]),
  (32, .istore_n 2, 1, .null, [], []),
  (33, .iload_n 2, 1, .null, [], []),
  (34, .ifCond .ge 8, 3, .null, [42], []),
  (37, .bipush 47, 2, .null, [], []),
  (39, .goto 35, 3, .null, [74], []),
  (42, .ldc_w 258, 3, .retAddr 2, [], [(8, 72)]),
  (45, .aload_n 0, 1, .null, [], []),
  (46, .getfield 9, 3, .null, [9, 0, 1], [(6, 175)]),
  (49, .iload_n 2, 1, .null, [], []),
  (50, .iaload, 1, .null, [], []),
  (51, .aload_n 0, 1, .null, [], []),
  (52, .getfield 9, 3, .null, [9, 0, 1], [(6, 175)]),
  (55, .bipush 63, 2, .null, [], []),
  (57, .iload_n 2, 1, .null, [], []),
  (58, .iadd, 1, .null, [], []),
  (59, .iaload, 1, .null, [], []),
  (60, .iconst 1, 1, .null, [], []),
  (61, .if_icmp .ne 8, 3, .null, [69], []),
  (64, .bipush 6, 2, .null, [], []),
  (66, .goto 4, 3, .null, [70], []),
  (69, .iconst 0, 1, .null, [], []),
  (70, .iadd, 1, .null, [], []),
  (71, .invokevirtual 260, 3, .null, [202, 1, 0, 0, 0, 99], [(8, 73), (6, 76), (6, 77), (6, 78), (1, 18)]),
  (74, .ireturn, 1, .null, [], [])]
def e_m304 : e_MD := (⟨"HexCampaignModel", "text", "(I)C"⟩, prog_14_method_82_code, 3, (some .char), [], e_c304)
-- 305: HexCampaignModel.undo()I
set_option maxRecDepth 100000 in
def e_c305 : List e_I := [(0, .aload_n 0, 1, .null, [], []),
  (1, .aload_n 0, 1, .null, [], []),
  (2, .getfield 51, 3, .null, [9, 4, 0], [(6, 179)]),
  (5, .ifCond .ne 7, 3, .null, [12], []),
  (8, .iconst 1, 1, .null, [], []),
  (9, .goto 4, 3, .null, [13], []),
  (12, .iconst 0, 1, .null, [], []),
  (13, .putfield 35, 3, .null, [9, 5, 0, 0], [(6, 180)]),
  (16, .aload_n 0, 1, .null, [], []),
  (17, .getfield 35, 3, .null, [9, 5, 0], [(6, 180)]),
  (20, .ifCond .le 5, 3, .null, [25], []),
  (23, .iconst 0, 1, .null, [], []),
  (24, .ireturn, 1, .null, [], []),
  (25, .aload_n 0, 1, .null, [], []),
  (26, .dup, 1, .null, [], []),
  (27, .getfield 51, 3, .null, [9, 4, 0], [(6, 179)]),
  (30, .iconst 1, 1, .null, [], []),
  (31, .isub, 1, .null, [], []),
  (32, .putfield 51, 3, .null, [9, 4, 0, 0], [(6, 179)]),
  (35, .aload_n 0, 1, .null, [], []),
  (36, .getfield 16, 3, .null, [9, 3, 1], [(6, 178)]),
  (39, .sipush 301, 3, .null, [], []),
  (42, .aload_n 0, 1, .null, [], []),
  (43, .getfield 51, 3, .null, [9, 4, 0], [(6, 179)]),
  (46, .imul, 1, .null, [], []),
  (47, .aload_n 0, 1, .null, [], []),
  (48, .getfield 9, 3, .null, [9, 0, 1], [(6, 175)]),
  (51, .iconst 0, 1, .null, [], []),
  (52, .sipush 301, 3, .null, [], []),
  (55, .invokestatic 54, 3, .null, [0, 5, 3, 0, 0], [(7, 28), (7, 30), (7, 29), (1, 23)]),
  (58, .aload_n 0, 1, .null, [], []),
  (59, .getfield 51, 3, .null, [9, 4, 0], [(6, 179)]),
  (62, .ireturn, 1, .null, [], [])]
def e_m305 : e_MD := (⟨"HexCampaignModel", "undo", "()I"⟩, prog_14_method_83_code, 1, (some .int), [], e_c305)
-- 306: HexCampaignModel.save()I
set_option maxRecDepth 100000 in
def e_c306 : List e_I := [(0, .aload_n 0, 1, .null, [], []),
  (1, .iconst 0, 1, .null, [], []),
  (2, .putfield 35, 3, .null, [9, 5, 0, 0], [(6, 180)]),
  (5, .aload_n 0, 1, .null, [], []),
  (6, .getfield 9, 3, .null, [9, 0, 1], [(6, 175)]),
  (9, .iconst 0, 1, .null, [], []),
  (10, .aload_n 0, 1, .null, [], []),
  (11, .getfield 13, 3, .null, [9, 1, 1], [(6, 176)]),
  (14, .iconst 0, 1, .null, [], []),
  (15, .sipush 301, 3, .null, [], []),
  (18, .invokestatic 54, 3, .null, [0, 5, 3, 0, 0], [(7, 28), (7, 30), (7, 29), (1, 23)]),
  (21, .aload_n 0, 1, .null, [], []),
  (22, .iconst 1, 1, .null, [], []),
  (23, .putfield 276, 3, .null, [9, 2, 0, 1], [(6, 177)]),
  (26, .aload_n 0, 1, .null, [], []),
  (27, .invokevirtual 60, 3, .null, [228, 0, 0, 0, 0, 9], [(6, 238), (7, 0), (0, 23), (7, 1), (1, 11)]),
  (30, .ireturn, 1, .null, [], [])]
def e_m306 : e_MD := (⟨"HexCampaignModel", "save", "()I"⟩, prog_14_method_84_code, 1, (some .int), [], e_c306)
-- 307: HexCampaignModel.restore()I
set_option maxRecDepth 100000 in
def e_c307 : List e_I := [(0, .aload_n 0, 1, .null, [], []),
  (1, .aload_n 0, 1, .null, [], []),
  (2, .getfield 276, 3, .null, [9, 2, 0], [(6, 177)]),
  (5, .ifCond .eq 7, 3, .null, [12], []),
  (8, .iconst 0, 1, .null, [], []),
  (9, .goto 4, 3, .null, [13], []),
  (12, .iconst 1, 1, .null, [], []),
  (13, .putfield 35, 3, .null, [9, 5, 0, 0], [(6, 180)]),
  (16, .aload_n 0, 1, .null, [], []),
  (17, .getfield 35, 3, .null, [9, 5, 0], [(6, 180)]),
  (20, .ifCond .le 5, 3, .null, [25], []),
  (23, .iconst 0, 1, .null, [], []),
  (24, .ireturn, 1, .null, [], []),
  (25, .aload_n 0, 1, .null, [], []),
  (26, .getfield 13, 3, .null, [9, 1, 1], [(6, 176)]),
  (29, .iconst 0, 1, .null, [], []),
  (30, .aload_n 0, 1, .null, [], []),
  (31, .getfield 9, 3, .null, [9, 0, 1], [(6, 175)]),
  (34, .iconst 0, 1, .null, [], []),
  (35, .sipush 301, 3, .null, [], []),
  (38, .invokestatic 54, 3, .null, [0, 5, 3, 0, 0], [(7, 28), (7, 30), (7, 29), (1, 23)]),
  (41, .aload_n 0, 1, .null, [], []),
  (42, .iconst 0, 1, .null, [], []),
  (43, .putfield 51, 3, .null, [9, 4, 0, 0], [(6, 179)]),
  (46, .aload_n 0, 1, .null, [], []),
  (47, .invokevirtual 60, 3, .null, [228, 0, 0, 0, 0, 9], [(6, 238), (7, 0), (0, 23), (7, 1), (1, 11)]),
  (50, .ireturn, 1, .null, [], [])]
def e_m307 : e_MD := (⟨"HexCampaignModel", "restore", "()I"⟩, prog_14_method_85_code, 1, (some .int), [], e_c307)
-- 308: HexCampaignLaw.law([I)Z
set_option maxRecDepth 100000 in
def e_c308 : List e_I := [(0, .new 8, 3, .null, [0, 8], [(1, 31), (1, 32), (1, 1)]),
  (3, .dup, 1, .null, [], []),
  (4, .invokespecial 116, 3, .null, [13, 0, 0, 138, 2635], [(1, 33), (1, 34), (1, 35), (1, 1)]),
  (7, .astore_n 1, 1, .null, [], []),
  (8, .new 117, 3, .null, [0, 9], [(6, 169), (6, 170), (1, 11)]),
  (11, .dup, 1, .null, [], []),
  (12, .invokespecial 119, 3, .null, [223, 0, 0, 8, 3285], [(6, 171), (6, 172), (6, 173), (1, 11)]),
  (15, .astore_n 2, 1, .null, [], []),
  (16, .iconst 1, 1, .null, [], []),
  (17, .newarray .long, 2, .null, [1], [(1, 67)]),
  (19, .astore_n 3, 1, .null, [], []),
  (20, .iconst 1, 1, .null, [], []),
  (21, .newarray .double, 2, .null, [3], [(8, 93)]),
  (23, .astore 4, 2, .null, [], []),
  (25, .iconst 0, 1, .null, [], []),
  (26, .istore 5, 2, .null, [], []),
  (28, .iload 5, 2, .null, [], []),
  (30, .aload_n 0, 1, .null, [], []),
  (31, .arraylength, 1, .null, [], []),
  (32, .iconst 5, 1, .null, [], []),
  (33, .isub, 1, .null, [], []),
  (34, .if_icmp .gt 2054, 3, .null, [2088], []),
  (37, .aload_n 0, 1, .null, [], []),
  (38, .iload 5, 2, .null, [], []),
  (40, .iaload, 1, .null, [], []),
  (41, .bipush 31, 2, .null, [], []),
  (43, .iand, 1, .null, [], []),
  (44, .tableswitch 2038 0 29 #[136, 161, 257, 360, 444, 512, 580, 648, 704, 796, 864, 920, 987, 1062, 1130, 1185, 1253, 1333, 1401, 1497, 1565, 1578, 1646, 1711, 1779, 1837, 1881, 1937, 1981, 1994], 136, .null, [2082, 180, 205, 301, 404, 488, 556, 624, 692, 748, 840, 908, 964, 1031, 1106, 1174, 1229, 1297, 1377, 1445, 1541, 1609, 1622, 1690, 1755, 1823, 1881, 1925, 1981, 2025, 2038], []),
  (180, .aload_n 1, 1, .null, [], []),
  (181, .aload_n 0, 1, .null, [], []),
  (182, .iload 5, 2, .null, [], []),
  (184, .iconst 1, 1, .null, [], []),
  (185, .iadd, 1, .null, [], []),
  (186, .iaload, 1, .null, [], []),
  (187, .invokevirtual 120, 3, .null, [17, 1, 0, 0, 0, 8], [(2, 56), (2, 57), (2, 58), (2, 59), (1, 1)]),
  (190, .aload_n 2, 1, .null, [], []),
  (191, .aload_n 0, 1, .null, [], []),
  (192, .iload 5, 2, .null, [], []),
  (194, .iconst 1, 1, .null, [], []),
  (195, .iadd, 1, .null, [], []),
  (196, .iaload, 1, .null, [], []),
  (197, .invokevirtual 123, 3, .null, [229, 1, 0, 0, 0, 9], [(6, 234), (6, 235), (6, 236), (6, 237), (1, 11)]),
  (200, .if_icmp .eq 1882, 3, .null, [2082], []),
  (203, .iconst 0, 1, .null, [], []),
  (204, .ireturn, 1, .null, [], []),
  (205, .aload_n 1, 1, .null, [], []),
  (206, .aload_n 0, 1, .null, [], []),
  (207, .iload 5, 2, .null, [], []),
  (209, .iconst 1, 1, .null, [], []),
  (210, .iadd, 1, .null, [], []),
  (211, .iaload, 1, .null, [], []),
  (212, .aload_n 0, 1, .null, [], []),
  (213, .iload 5, 2, .null, [], []),
  (215, .iconst 2, 1, .null, [], []),
  (216, .iadd, 1, .null, [], []),
  (217, .iaload, 1, .null, [], []),
  (218, .aload_n 0, 1, .null, [], []),
  (219, .iload 5, 2, .null, [], []),
  (221, .iconst 3, 1, .null, [], []),
  (222, .iadd, 1, .null, [], []),
  (223, .iaload, 1, .null, [], []),
  (224, .ifCond .eq 7, 3, .null, [231], []),
  (227, .iconst 1, 1, .null, [], []),
  (228, .goto 4, 3, .null, [232], []),
  (231, .iconst 0, 1, .null, [], []),
  (232, .aload_n 3, 1, .null, [], []),
  (233, .invokestatic 124, 3, .null, [65, 5, 1, 3, 18], [(3, 12), (3, 13), (1, 0), (3, 14)]),
  (236, .istore 6, 2, .null, [], []),
  (238, .aload_n 2, 1, .null, [], []),
  (239, .aload_n 0, 1, .null, [], []),
  (240, .iload 5, 2, .null, [], []),
  (242, .iconst 1, 1, .null, [], []),
  (243, .iadd, 1, .null, [], []),
  (244, .iaload, 1, .null, [], []),
  (245, .aload_n 0, 1, .null, [], []),
  (246, .iload 5, 2, .null, [], []),
  (248, .iconst 2, 1, .null, [], []),
  (249, .iadd, 1, .null, [], []),
  (250, .iaload, 1, .null, [], []),
  (251, .aload_n 0, 1, .null, [], []),
  (252, .iload 5, 2, .null, [], []),
  (254, .iconst 3, 1, .null, [], []),
  (255, .iadd, 1, .null, [], []),
  (256, .iaload, 1, .null, [], []),
  (257, .ifCond .eq 7, 3, .null, [264], []),
  (260, .iconst 1, 1, .null, [], []),
  (261, .goto 4, 3, .null, [265], []),
  (264, .iconst 0, 1, .null, [], []),
  (265, .invokevirtual 129, 3, .null, [233, 3, 0, 0, 0, 9], [(7, 13), (7, 14), (7, 15), (7, 16), (1, 11)]),
  (268, .istore 7, 2, .null, [], []),
  (270, .aload_n 2, 1, .null, [], []),
  (271, .invokevirtual 130, 3, .null, [224, 0, 0, 0, 0, 9], [(6, 230), (6, 231), (6, 232), (6, 233), (1, 11)]),
  (274, .iload 6, 2, .null, [], []),
  (276, .if_icmp .eq 5, 3, .null, [281], []),
  (279, .iconst 0, 1, .null, [], []),
  (280, .ireturn, 1, .null, [], []),
  (281, .iload 6, 2, .null, [], []),
  (283, .ifCond .ne 15, 3, .null, [298], []),
  (286, .aload_n 3, 1, .null, [], []),
  (287, .iconst 0, 1, .null, [], []),
  (288, .laload, 1, .null, [], []),
  (289, .iload 7, 2, .null, [], []),
  (291, .i2l, 1, .null, [], []),
  (292, .lcmp, 1, .null, [], []),
  (293, .ifCond .eq 5, 3, .null, [298], []),
  (296, .iconst 0, 1, .null, [], []),
  (297, .ireturn, 1, .null, [], []),
  (298, .goto 1784, 3, .null, [2082], []),
  (301, .aload_n 1, 1, .null, [], []),
  (302, .aload_n 0, 1, .null, [], []),
  (303, .iload 5, 2, .null, [], []),
  (305, .iconst 1, 1, .null, [], []),
  (306, .iadd, 1, .null, [], []),
  (307, .iaload, 1, .null, [], []),
  (308, .aload_n 0, 1, .null, [], []),
  (309, .iload 5, 2, .null, [], []),
  (311, .iconst 2, 1, .null, [], []),
  (312, .iadd, 1, .null, [], []),
  (313, .iaload, 1, .null, [], []),
  (314, .aload_n 0, 1, .null, [], []),
  (315, .iload 5, 2, .null, [], []),
  (317, .iconst 3, 1, .null, [], []),
  (318, .iadd, 1, .null, [], []),
  (319, .iaload, 1, .null, [], []),
  (320, .ifCond .eq 7, 3, .null, [327], []),
  (323, .iconst 1, 1, .null, [], []),
  (324, .goto 4, 3, .null, [328], []),
  (327, .iconst 0, 1, .null, [], []),
  (328, .aload_n 3, 1, .null, [], []),
  (329, .invokestatic 133, 3, .null, [69, 5, 1, 2, 12], [(3, 170), (3, 171), (1, 0), (3, 172)]),
  (332, .istore 6, 2, .null, [], []),
  (334, .aload_n 2, 1, .null, [], []),
  (335, .aload_n 0, 1, .null, [], []),
  (336, .iload 5, 2, .null, [], []),
  (338, .iconst 1, 1, .null, [], []),
  (339, .iadd, 1, .null, [], []),
  (340, .iaload, 1, .null, [], []),
  (341, .aload_n 0, 1, .null, [], []),
  (342, .iload 5, 2, .null, [], []),
  (344, .iconst 2, 1, .null, [], []),
  (345, .iadd, 1, .null, [], []),
  (346, .iaload, 1, .null, [], []),
  (347, .aload_n 0, 1, .null, [], []),
  (348, .iload 5, 2, .null, [], []),
  (350, .iconst 3, 1, .null, [], []),
  (351, .iadd, 1, .null, [], []),
  (352, .iaload, 1, .null, [], []),
  (353, .ifCond .eq 7, 3, .null, [360], []),
  (356, .iconst 1, 1, .null, [], []),
  (357, .goto 4, 3, .null, [361], []),
  (360, .iconst 0, 1, .null, [], []),
  (361, .invokevirtual 135, 3, .null, [235, 3, 0, 0, 0, 9], [(7, 31), (7, 32), (7, 33), (7, 34), (1, 11)]),
  (364, .istore 7, 2, .null, [], []),
  (366, .aload_n 2, 1, .null, [], []),
  (367, .invokevirtual 130, 3, .null, [224, 0, 0, 0, 0, 9], [(6, 230), (6, 231), (6, 232), (6, 233), (1, 11)]),
  (370, .iload 6, 2, .null, [], []),
  (372, .if_icmp .eq 5, 3, .null, [377], []),
  (375, .iconst 0, 1, .null, [], []),
  (376, .ireturn, 1, .null, [], []),
  (377, .iload 6, 2, .null, [], []),
  (379, .ifCond .ne 22, 3, .null, [401], []),
  (382, .aload_n 3, 1, .null, [], []),
  (383, .iconst 0, 1, .null, [], []),
  (384, .laload, 1, .null, [], []),
  (385, .iload 7, 2, .null, [], []),
  (387, .ifCond .eq 7, 3, .null, [394], []),
  (390, .lconst 1, 1, .null, [], []),
  (391, .goto 4, 3, .null, [395], []),
  (394, .lconst 0, 1, .null, [], []),
  (395, .lcmp, 1, .null, [], []),
  (396, .ifCond .eq 5, 3, .null, [401], []),
  (399, .iconst 0, 1, .null, [], []),
  (400, .ireturn, 1, .null, [], []),
  (401, .goto 1681, 3, .null, [2082], []),
  (404, .aload_n 1, 1, .null, [], []),
  (405, .aload_n 0, 1, .null, [], []),
  (406, .iload 5, 2, .null, [], []),
  (408, .iconst 1, 1, .null, [], []),
  (409, .iadd, 1, .null, [], []),
  (410, .iaload, 1, .null, [], []),
  (411, .ifCond .eq 7, 3, .null, [418], []),
  (414, .iconst 1, 1, .null, [], []),
  (415, .goto 4, 3, .null, [419], []),
  (418, .iconst 0, 1, .null, [], []),
  (419, .aload_n 0, 1, .null, [], []),
  (420, .iload 5, 2, .null, [], []),
  (422, .iconst 2, 1, .null, [], []),
  (423, .iadd, 1, .null, [], []),
  (424, .iaload, 1, .null, [], []),
  (425, .aload_n 3, 1, .null, [], []),
  (426, .invokestatic 136, 3, .null, [71, 4, 1, 1, 6], [(3, 186), (3, 187), (1, 0), (3, 188)]),
  (429, .istore 6, 2, .null, [], []),
  (431, .aload_n 2, 1, .null, [], []),
  (432, .aload_n 0, 1, .null, [], []),
  (433, .iload 5, 2, .null, [], []),
  (435, .iconst 1, 1, .null, [], []),
  (436, .iadd, 1, .null, [], []),
  (437, .iaload, 1, .null, [], []),
  (438, .ifCond .eq 7, 3, .null, [445], []),
  (441, .iconst 1, 1, .null, [], []),
  (442, .goto 4, 3, .null, [446], []),
  (445, .iconst 0, 1, .null, [], []),
  (446, .aload_n 0, 1, .null, [], []),
  (447, .iload 5, 2, .null, [], []),
  (449, .iconst 2, 1, .null, [], []),
  (450, .iadd, 1, .null, [], []),
  (451, .iaload, 1, .null, [], []),
  (452, .invokevirtual 139, 3, .null, [236, 2, 0, 0, 0, 9], [(7, 38), (7, 39), (7, 40), (7, 41), (1, 11)]),
  (455, .istore 7, 2, .null, [], []),
  (457, .aload_n 2, 1, .null, [], []),
  (458, .invokevirtual 130, 3, .null, [224, 0, 0, 0, 0, 9], [(6, 230), (6, 231), (6, 232), (6, 233), (1, 11)]),
  (461, .iload 6, 2, .null, [], []),
  (463, .if_icmp .eq 5, 3, .null, [468], []),
  (466, .iconst 0, 1, .null, [], []),
  (467, .ireturn, 1, .null, [], []),
  (468, .iload 6, 2, .null, [], []),
  (470, .ifCond .ne 15, 3, .null, [485], []),
  (473, .aload_n 3, 1, .null, [], []),
  (474, .iconst 0, 1, .null, [], []),
  (475, .laload, 1, .null, [], []),
  (476, .iload 7, 2, .null, [], []),
  (478, .i2l, 1, .null, [], []),
  (479, .lcmp, 1, .null, [], []),
  (480, .ifCond .eq 5, 3, .null, [485], []),
  (483, .iconst 0, 1, .null, [], []),
  (484, .ireturn, 1, .null, [], []),
  (485, .goto 1597, 3, .null, [2082], []),
  (488, .aload_n 1, 1, .null, [], []),
  (489, .aload_n 0, 1, .null, [], []),
  (490, .iload 5, 2, .null, [], []),
  (492, .iconst 1, 1, .null, [], []),
  (493, .iadd, 1, .null, [], []),
  (494, .iaload, 1, .null, [], []),
  (495, .aload_n 0, 1, .null, [], []),
  (496, .iload 5, 2, .null, [], []),
  (498, .iconst 2, 1, .null, [], []),
  (499, .iadd, 1, .null, [], []),
  (500, .iaload, 1, .null, [], []),
  (501, .aload_n 3, 1, .null, [], []),
  (502, .invokestatic 140, 3, .null, [75, 4, 1, 2, 12], [(3, 193), (3, 194), (1, 0), (3, 195)]),
  (505, .istore 6, 2, .null, [], []),
  (507, .aload_n 2, 1, .null, [], []),
  (508, .aload_n 0, 1, .null, [], []),
  (509, .iload 5, 2, .null, [], []),
  (511, .iconst 1, 1, .null, [], []),
  (512, .iadd, 1, .null, [], []),
  (513, .iaload, 1, .null, [], []),
  (514, .aload_n 0, 1, .null, [], []),
  (515, .iload 5, 2, .null, [], []),
  (517, .iconst 2, 1, .null, [], []),
  (518, .iadd, 1, .null, [], []),
  (519, .iaload, 1, .null, [], []),
  (520, .invokevirtual 143, 3, .null, [238, 2, 0, 0, 0, 9], [(7, 42), (7, 43), (7, 44), (7, 45), (1, 11)]),
  (523, .istore 7, 2, .null, [], []),
  (525, .aload_n 2, 1, .null, [], []),
  (526, .invokevirtual 130, 3, .null, [224, 0, 0, 0, 0, 9], [(6, 230), (6, 231), (6, 232), (6, 233), (1, 11)]),
  (529, .iload 6, 2, .null, [], []),
  (531, .if_icmp .eq 5, 3, .null, [536], []),
  (534, .iconst 0, 1, .null, [], []),
  (535, .ireturn, 1, .null, [], []),
  (536, .iload 6, 2, .null, [], []),
  (538, .ifCond .ne 15, 3, .null, [553], []),
  (541, .aload_n 3, 1, .null, [], []),
  (542, .iconst 0, 1, .null, [], []),
  (543, .laload, 1, .null, [], []),
  (544, .iload 7, 2, .null, [], []),
  (546, .i2l, 1, .null, [], []),
  (547, .lcmp, 1, .null, [], []),
  (548, .ifCond .eq 5, 3, .null, [553], []),
  (551, .iconst 0, 1, .null, [], []),
  (552, .ireturn, 1, .null, [], []),
  (553, .goto 1529, 3, .null, [2082], []),
  (556, .aload_n 1, 1, .null, [], []),
  (557, .aload_n 0, 1, .null, [], []),
  (558, .iload 5, 2, .null, [], []),
  (560, .iconst 1, 1, .null, [], []),
  (561, .iadd, 1, .null, [], []),
  (562, .iaload, 1, .null, [], []),
  (563, .aload_n 0, 1, .null, [], []),
  (564, .iload 5, 2, .null, [], []),
  (566, .iconst 2, 1, .null, [], []),
  (567, .iadd, 1, .null, [], []),
  (568, .iaload, 1, .null, [], []),
  (569, .aload_n 3, 1, .null, [], []),
  (570, .invokestatic 144, 3, .null, [79, 4, 1, 3, 18], [(3, 208), (3, 209), (1, 0), (3, 210)]),
  (573, .istore 6, 2, .null, [], []),
  (575, .aload_n 2, 1, .null, [], []),
  (576, .aload_n 0, 1, .null, [], []),
  (577, .iload 5, 2, .null, [], []),
  (579, .iconst 1, 1, .null, [], []),
  (580, .iadd, 1, .null, [], []),
  (581, .iaload, 1, .null, [], []),
  (582, .aload_n 0, 1, .null, [], []),
  (583, .iload 5, 2, .null, [], []),
  (585, .iconst 2, 1, .null, [], []),
  (586, .iadd, 1, .null, [], []),
  (587, .iaload, 1, .null, [], []),
  (588, .invokevirtual 146, 3, .null, [240, 2, 0, 0, 0, 9], [(7, 50), (7, 51), (7, 52), (7, 53), (1, 11)]),
  (591, .istore 7, 2, .null, [], []),
  (593, .aload_n 2, 1, .null, [], []),
  (594, .invokevirtual 130, 3, .null, [224, 0, 0, 0, 0, 9], [(6, 230), (6, 231), (6, 232), (6, 233), (1, 11)]),
  (597, .iload 6, 2, .null, [], []),
  (599, .if_icmp .eq 5, 3, .null, [604], []),
  (602, .iconst 0, 1, .null, [], []),
  (603, .ireturn, 1, .null, [], []),
  (604, .iload 6, 2, .null, [], []),
  (606, .ifCond .ne 15, 3, .null, [621], []),
  (609, .aload_n 3, 1, .null, [], []),
  (610, .iconst 0, 1, .null, [], []),
  (611, .laload, 1, .null, [], []),
  (612, .iload 7, 2, .null, [], []),
  (614, .i2l, 1, .null, [], []),
  (615, .lcmp, 1, .null, [], []),
  (616, .ifCond .eq 5, 3, .null, [621], []),
  (619, .iconst 0, 1, .null, [], []),
  (620, .ireturn, 1, .null, [], []),
  (621, .goto 1461, 3, .null, [2082], []),
  (624, .aload_n 1, 1, .null, [], []),
  (625, .aload_n 0, 1, .null, [], []),
  (626, .iload 5, 2, .null, [], []),
  (628, .iconst 1, 1, .null, [], []),
  (629, .iadd, 1, .null, [], []),
  (630, .iaload, 1, .null, [], []),
  (631, .aload_n 0, 1, .null, [], []),
  (632, .iload 5, 2, .null, [], []),
  (634, .iconst 2, 1, .null, [], []),
  (635, .iadd, 1, .null, [], []),
  (636, .iaload, 1, .null, [], []),
  (637, .aload_n 3, 1, .null, [], []),
  (638, .invokestatic 147, 3, .null, [85, 4, 1, 2, 12], [(3, 237), (3, 238), (1, 0), (3, 239)]),
  (641, .istore 6, 2, .null, [], []),
  (643, .aload_n 2, 1, .null, [], []),
  (644, .aload_n 0, 1, .null, [], []),
  (645, .iload 5, 2, .null, [], []),
  (647, .iconst 1, 1, .null, [], []),
  (648, .iadd, 1, .null, [], []),
  (649, .iaload, 1, .null, [], []),
  (650, .aload_n 0, 1, .null, [], []),
  (651, .iload 5, 2, .null, [], []),
  (653, .iconst 2, 1, .null, [], []),
  (654, .iadd, 1, .null, [], []),
  (655, .iaload, 1, .null, [], []),
  (656, .invokevirtual 149, 3, .null, [244, 2, 0, 0, 0, 9], [(7, 57), (7, 58), (7, 59), (7, 60), (1, 11)]),
  (659, .istore 7, 2, .null, [], []),
  (661, .aload_n 2, 1, .null, [], []),
  (662, .invokevirtual 130, 3, .null, [224, 0, 0, 0, 0, 9], [(6, 230), (6, 231), (6, 232), (6, 233), (1, 11)]),
  (665, .iload 6, 2, .null, [], []),
  (667, .if_icmp .eq 5, 3, .null, [672], []),
  (670, .iconst 0, 1, .null, [], []),
  (671, .ireturn, 1, .null, [], []),
  (672, .iload 6, 2, .null, [], []),
  (674, .ifCond .ne 15, 3, .null, [689], []),
  (677, .aload_n 3, 1, .null, [], []),
  (678, .iconst 0, 1, .null, [], []),
  (679, .laload, 1, .null, [], []),
  (680, .iload 7, 2, .null, [], []),
  (682, .i2l, 1, .null, [], []),
  (683, .lcmp, 1, .null, [], []),
  (684, .ifCond .eq 5, 3, .null, [689], []),
  (687, .iconst 0, 1, .null, [], []),
  (688, .ireturn, 1, .null, [], []),
  (689, .goto 1393, 3, .null, [2082], []),
  (692, .aload_n 1, 1, .null, [], []),
  (693, .aload_n 0, 1, .null, [], []),
  (694, .iload 5, 2, .null, [], []),
  (696, .iconst 1, 1, .null, [], []),
  (697, .iadd, 1, .null, [], []),
  (698, .iaload, 1, .null, [], []),
  (699, .aload_n 3, 1, .null, [], []),
  (700, .invokestatic 150, 3, .null, [88, 3, 1, 1, 6], [(4, 16), (4, 17), (1, 0), (4, 18)]),
  (703, .istore 6, 2, .null, [], []),
  (705, .aload_n 2, 1, .null, [], []),
  (706, .aload_n 0, 1, .null, [], []),
  (707, .iload 5, 2, .null, [], []),
  (709, .iconst 1, 1, .null, [], []),
  (710, .iadd, 1, .null, [], []),
  (711, .iaload, 1, .null, [], []),
  (712, .invokevirtual 153, 3, .null, [245, 1, 0, 0, 0, 9], [(7, 70), (7, 71), (7, 72), (7, 73), (1, 11)]),
  (715, .istore 7, 2, .null, [], []),
  (717, .aload_n 2, 1, .null, [], []),
  (718, .invokevirtual 130, 3, .null, [224, 0, 0, 0, 0, 9], [(6, 230), (6, 231), (6, 232), (6, 233), (1, 11)]),
  (721, .iload 6, 2, .null, [], []),
  (723, .if_icmp .eq 5, 3, .null, [728], []),
  (726, .iconst 0, 1, .null, [], []),
  (727, .ireturn, 1, .null, [], []),
  (728, .iload 6, 2, .null, [], []),
  (730, .ifCond .ne 15, 3, .null, [745], []),
  (733, .aload_n 3, 1, .null, [], []),
  (734, .iconst 0, 1, .null, [], []),
  (735, .laload, 1, .null, [], []),
  (736, .iload 7, 2, .null, [], []),
  (738, .i2l, 1, .null, [], []),
  (739, .lcmp, 1, .null, [], []),
  (740, .ifCond .eq 5, 3, .null, [745], []),
  (743, .iconst 0, 1, .null, [], []),
  (744, .ireturn, 1, .null, [], []),
  (745, .goto 1337, 3, .null, [2082], []),
  (748, .aload_n 1, 1, .null, [], []),
  (749, .aload_n 0, 1, .null, [], []),
  (750, .iload 5, 2, .null, [], []),
  (752, .iconst 1, 1, .null, [], []),
  (753, .iadd, 1, .null, [], []),
  (754, .iaload, 1, .null, [], []),
  (755, .aload_n 0, 1, .null, [], []),
  (756, .iload 5, 2, .null, [], []),
  (758, .iconst 2, 1, .null, [], []),
  (759, .iadd, 1, .null, [], []),
  (760, .iaload, 1, .null, [], []),
  (761, .aload_n 0, 1, .null, [], []),
  (762, .iload 5, 2, .null, [], []),
  (764, .iconst 3, 1, .null, [], []),
  (765, .iadd, 1, .null, [], []),
  (766, .iaload, 1, .null, [], []),
  (767, .aload_n 0, 1, .null, [], []),
  (768, .iload 5, 2, .null, [], []),
  (770, .iconst 4, 1, .null, [], []),
  (771, .iadd, 1, .null, [], []),
  (772, .iaload, 1, .null, [], []),
  (773, .aload_n 3, 1, .null, [], []),
  (774, .invokestatic 154, 3, .null, [94, 6, 1, 4, 24], [(4, 30), (4, 31), (1, 0), (4, 32)]),
  (777, .istore 6, 2, .null, [], []),
  (779, .aload_n 2, 1, .null, [], []),
  (780, .aload_n 0, 1, .null, [], []),
  (781, .iload 5, 2, .null, [], []),
  (783, .iconst 1, 1, .null, [], []),
  (784, .iadd, 1, .null, [], []),
  (785, .iaload, 1, .null, [], []),
  (786, .aload_n 0, 1, .null, [], []),
  (787, .iload 5, 2, .null, [], []),
  (789, .iconst 2, 1, .null, [], []),
  (790, .iadd, 1, .null, [], []),
  (791, .iaload, 1, .null, [], []),
  (792, .aload_n 0, 1, .null, [], []),
  (793, .iload 5, 2, .null, [], []),
  (795, .iconst 3, 1, .null, [], []),
  (796, .iadd, 1, .null, [], []),
  (797, .iaload, 1, .null, [], []),
  (798, .aload_n 0, 1, .null, [], []),
  (799, .iload 5, 2, .null, [], []),
  (801, .iconst 4, 1, .null, [], []),
  (802, .iadd, 1, .null, [], []),
  (803, .iaload, 1, .null, [], []),
  (804, .invokevirtual 157, 3, .null, [264, 4, 0, 0, 0, 9], [(7, 147), (7, 148), (7, 149), (7, 150), (1, 11)]),
  (807, .istore 7, 2, .null, [], []),
  (809, .aload_n 2, 1, .null, [], []),
  (810, .invokevirtual 130, 3, .null, [224, 0, 0, 0, 0, 9], [(6, 230), (6, 231), (6, 232), (6, 233), (1, 11)]),
  (813, .iload 6, 2, .null, [], []),
  (815, .if_icmp .eq 5, 3, .null, [820], []),
  (818, .iconst 0, 1, .null, [], []),
  (819, .ireturn, 1, .null, [], []),
  (820, .iload 6, 2, .null, [], []),
  (822, .ifCond .ne 15, 3, .null, [837], []),
  (825, .aload_n 3, 1, .null, [], []),
  (826, .iconst 0, 1, .null, [], []),
  (827, .laload, 1, .null, [], []),
  (828, .iload 7, 2, .null, [], []),
  (830, .i2l, 1, .null, [], []),
  (831, .lcmp, 1, .null, [], []),
  (832, .ifCond .eq 5, 3, .null, [837], []),
  (835, .iconst 0, 1, .null, [], []),
  (836, .ireturn, 1, .null, [], []),
  (837, .goto 1245, 3, .null, [2082], []),
  (840, .aload_n 1, 1, .null, [], []),
  (841, .aload_n 0, 1, .null, [], []),
  (842, .iload 5, 2, .null, [], []),
  (844, .iconst 1, 1, .null, [], []),
  (845, .iadd, 1, .null, [], []),
  (846, .iaload, 1, .null, [], []),
  (847, .aload_n 0, 1, .null, [], []),
  (848, .iload 5, 2, .null, [], []),
  (850, .iconst 2, 1, .null, [], []),
  (851, .iadd, 1, .null, [], []),
  (852, .iaload, 1, .null, [], []),
  (853, .aload_n 3, 1, .null, [], []),
  (854, .invokestatic 158, 3, .null, [113, 4, 1, 2, 12], [(4, 55), (4, 56), (1, 0), (4, 57)]),
  (857, .istore 6, 2, .null, [], []),
  (859, .aload_n 2, 1, .null, [], []),
  (860, .aload_n 0, 1, .null, [], []),
  (861, .iload 5, 2, .null, [], []),
  (863, .iconst 1, 1, .null, [], []),
  (864, .iadd, 1, .null, [], []),
  (865, .iaload, 1, .null, [], []),
  (866, .aload_n 0, 1, .null, [], []),
  (867, .iload 5, 2, .null, [], []),
  (869, .iconst 2, 1, .null, [], []),
  (870, .iadd, 1, .null, [], []),
  (871, .iaload, 1, .null, [], []),
  (872, .invokevirtual 160, 3, .null, [269, 2, 0, 0, 0, 9], [(7, 158), (7, 159), (7, 160), (7, 161), (1, 11)]),
  (875, .istore 7, 2, .null, [], []),
  (877, .aload_n 2, 1, .null, [], []),
  (878, .invokevirtual 130, 3, .null, [224, 0, 0, 0, 0, 9], [(6, 230), (6, 231), (6, 232), (6, 233), (1, 11)]),
  (881, .iload 6, 2, .null, [], []),
  (883, .if_icmp .eq 5, 3, .null, [888], []),
  (886, .iconst 0, 1, .null, [], []),
  (887, .ireturn, 1, .null, [], []),
  (888, .iload 6, 2, .null, [], []),
  (890, .ifCond .ne 15, 3, .null, [905], []),
  (893, .aload_n 3, 1, .null, [], []),
  (894, .iconst 0, 1, .null, [], []),
  (895, .laload, 1, .null, [], []),
  (896, .iload 7, 2, .null, [], []),
  (898, .i2l, 1, .null, [], []),
  (899, .lcmp, 1, .null, [], []),
  (900, .ifCond .eq 5, 3, .null, [905], []),
  (903, .iconst 0, 1, .null, [], []),
  (904, .ireturn, 1, .null, [], []),
  (905, .goto 1177, 3, .null, [2082], []),
  (908, .aload_n 1, 1, .null, [], []),
  (909, .aload_n 0, 1, .null, [], []),
  (910, .iload 5, 2, .null, [], []),
  (912, .iconst 1, 1, .null, [], []),
  (913, .iadd, 1, .null, [], []),
  (914, .iaload, 1, .null, [], []),
  (915, .aload_n 3, 1, .null, [], []),
  (916, .invokestatic 161, 3, .null, [116, 3, 1, 1, 6], [(4, 143), (4, 144), (1, 0), (4, 145)]),
  (919, .istore 6, 2, .null, [], []),
  (921, .aload_n 2, 1, .null, [], []),
  (922, .aload_n 0, 1, .null, [], []),
  (923, .iload 5, 2, .null, [], []),
  (925, .iconst 1, 1, .null, [], []),
  (926, .iadd, 1, .null, [], []),
  (927, .iaload, 1, .null, [], []),
  (928, .invokevirtual 163, 3, .null, [250, 1, 0, 0, 0, 9], [(7, 76), (7, 77), (7, 78), (7, 79), (1, 11)]),
  (931, .istore 7, 2, .null, [], []),
  (933, .aload_n 2, 1, .null, [], []),
  (934, .invokevirtual 130, 3, .null, [224, 0, 0, 0, 0, 9], [(6, 230), (6, 231), (6, 232), (6, 233), (1, 11)]),
  (937, .iload 6, 2, .null, [], []),
  (939, .if_icmp .eq 5, 3, .null, [944], []),
  (942, .iconst 0, 1, .null, [], []),
  (943, .ireturn, 1, .null, [], []),
  (944, .iload 6, 2, .null, [], []),
  (946, .ifCond .ne 15, 3, .null, [961], []),
  (949, .aload_n 3, 1, .null, [], []),
  (950, .iconst 0, 1, .null, [], []),
  (951, .laload, 1, .null, [], []),
  (952, .iload 7, 2, .null, [], []),
  (954, .i2l, 1, .null, [], []),
  (955, .lcmp, 1, .null, [], []),
  (956, .ifCond .eq 5, 3, .null, [961], []),
  (959, .iconst 0, 1, .null, [], []),
  (960, .ireturn, 1, .null, [], []),
  (961, .goto 1121, 3, .null, [2082], []),
  (964, .aload_n 1, 1, .null, [], []),
  (965, .aload_n 0, 1, .null, [], []),
  (966, .iload 5, 2, .null, [], []),
  (968, .iconst 1, 1, .null, [], []),
  (969, .iadd, 1, .null, [], []),
  (970, .iaload, 1, .null, [], []),
  (971, .aload_n 0, 1, .null, [], []),
  (972, .iload 5, 2, .null, [], []),
  (974, .iconst 2, 1, .null, [], []),
  (975, .iadd, 1, .null, [], []),
  (976, .iaload, 1, .null, [], []),
  (977, .aload_n 3, 1, .null, [], []),
  (978, .invokestatic 164, 3, .null, [119, 4, 1, 2, 12], [(4, 156), (4, 157), (1, 0), (4, 158)]),
  (981, .istore 6, 2, .null, [], []),
  (983, .aload_n 2, 1, .null, [], []),
  (984, .aload_n 0, 1, .null, [], []),
  (985, .iload 5, 2, .null, [], []),
  (987, .iconst 1, 1, .null, [], []),
  (988, .iadd, 1, .null, [], []),
  (989, .iaload, 1, .null, [], []),
  (990, .aload_n 0, 1, .null, [], []),
  (991, .iload 5, 2, .null, [], []),
  (993, .iconst 2, 1, .null, [], []),
  (994, .iadd, 1, .null, [], []),
  (995, .iaload, 1, .null, [], []),
  (996, .invokevirtual 166, 3, .null, [260, 2, 0, 0, 0, 9], [(7, 104), (7, 105), (7, 106), (7, 107), (1, 11)]),
  (999, .lstore 7, 2, .null, [], []),
  (1001, .aload_n 2, 1, .null, [], []),
  (1002, .invokevirtual 130, 3, .null, [224, 0, 0, 0, 0, 9], [(6, 230), (6, 231), (6, 232), (6, 233), (1, 11)]),
  (1005, .iload 6, 2, .null, [], []),
  (1007, .if_icmp .eq 5, 3, .null, [1012], []),
  (1010, .iconst 0, 1, .null, [], []),
  (1011, .ireturn, 1, .null, [], []),
  (1012, .iload 6, 2, .null, [], []),
  (1014, .ifCond .ne 14, 3, .null, [1028], []),
  (1017, .aload_n 3, 1, .null, [], []),
  (1018, .iconst 0, 1, .null, [], []),
  (1019, .laload, 1, .null, [], []),
  (1020, .lload 7, 2, .null, [], []),
  (1022, .lcmp, 1, .null, [], []),
  (1023, .ifCond .eq 5, 3, .null, [1028], []),
  (1026, .iconst 0, 1, .null, [], []),
  (1027, .ireturn, 1, .null, [], []),
  (1028, .goto 1054, 3, .null, [2082], []),
  (1031, .aload_n 1, 1, .null, [], []),
  (1032, .aload_n 0, 1, .null, [], []),
  (1033, .iload 5, 2, .null, [], []),
  (1035, .iconst 1, 1, .null, [], []),
  (1036, .iadd, 1, .null, [], []),
  (1037, .iaload, 1, .null, [], []),
  (1038, .aload_n 0, 1, .null, [], []),
  (1039, .iload 5, 2, .null, [], []),
  (1041, .iconst 2, 1, .null, [], []),
  (1042, .iadd, 1, .null, [], []),
  (1043, .iaload, 1, .null, [], []),
  (1044, .aload_n 3, 1, .null, [], []),
  (1045, .invokestatic 167, 3, .null, [121, 4, 1, 2, 12], [(4, 169), (4, 170), (1, 0), (4, 171)]),
  (1048, .istore 6, 2, .null, [], []),
  (1050, .aload_n 2, 1, .null, [], []),
  (1051, .aload_n 0, 1, .null, [], []),
  (1052, .iload 5, 2, .null, [], []),
  (1054, .iconst 1, 1, .null, [], []),
  (1055, .iadd, 1, .null, [], []),
  (1056, .iaload, 1, .null, [], []),
  (1057, .aload_n 0, 1, .null, [], []),
  (1058, .iload 5, 2, .null, [], []),
  (1060, .iconst 2, 1, .null, [], []),
  (1061, .iadd, 1, .null, [], []),
  (1062, .iaload, 1, .null, [], []),
  (1063, .invokevirtual 169, 3, .null, [251, 2, 0, 0, 0, 9], [(7, 100), (7, 101), (7, 102), (7, 103), (1, 11)]),
  (1066, .istore 7, 2, .null, [], []),
  (1068, .aload_n 2, 1, .null, [], []),
  (1069, .invokevirtual 130, 3, .null, [224, 0, 0, 0, 0, 9], [(6, 230), (6, 231), (6, 232), (6, 233), (1, 11)]),
  (1072, .iload 6, 2, .null, [], []),
  (1074, .if_icmp .eq 5, 3, .null, [1079], []),
  (1077, .iconst 0, 1, .null, [], []),
  (1078, .ireturn, 1, .null, [], []),
  (1079, .iload 6, 2, .null, [], []),
  (1081, .ifCond .ne 22, 3, .null, [1103], []),
  (1084, .aload_n 3, 1, .null, [], []),
  (1085, .iconst 0, 1, .null, [], []),
  (1086, .laload, 1, .null, [], []),
  (1087, .iload 7, 2, .null, [], []),
  (1089, .ifCond .eq 7, 3, .null, [1096], []),
  (1092, .lconst 1, 1, .null, [], []),
  (1093, .goto 4, 3, .null, [1097], []),
  (1096, .lconst 0, 1, .null, [], []),
  (1097, .lcmp, 1, .null, [], []),
  (1098, .ifCond .eq 5, 3, .null, [1103], []),
  (1101, .iconst 0, 1, .null, [], []),
  (1102, .ireturn, 1, .null, [], []),
  (1103, .goto 979, 3, .null, [2082], []),
  (1106, .aload_n 1, 1, .null, [], []),
  (1107, .aload_n 0, 1, .null, [], []),
  (1108, .iload 5, 2, .null, [], []),
  (1110, .iconst 1, 1, .null, [], []),
  (1111, .iadd, 1, .null, [], []),
  (1112, .iaload, 1, .null, [], []),
  (1113, .aload_n 0, 1, .null, [], []),
  (1114, .iload 5, 2, .null, [], []),
  (1116, .iconst 2, 1, .null, [], []),
  (1117, .iadd, 1, .null, [], []),
  (1118, .iaload, 1, .null, [], []),
  (1119, .aload_n 3, 1, .null, [], []),
  (1120, .invokestatic 170, 3, .null, [125, 4, 1, 3, 18], [(4, 177), (4, 178), (1, 0), (4, 179)]),
  (1123, .istore 6, 2, .null, [], []),
  (1125, .aload_n 2, 1, .null, [], []),
  (1126, .aload_n 0, 1, .null, [], []),
  (1127, .iload 5, 2, .null, [], []),
  (1129, .iconst 1, 1, .null, [], []),
  (1130, .iadd, 1, .null, [], []),
  (1131, .iaload, 1, .null, [], []),
  (1132, .aload_n 0, 1, .null, [], []),
  (1133, .iload 5, 2, .null, [], []),
  (1135, .iconst 2, 1, .null, [], []),
  (1136, .iadd, 1, .null, [], []),
  (1137, .iaload, 1, .null, [], []),
  (1138, .invokevirtual 172, 3, .null, [261, 2, 0, 0, 0, 9], [(7, 143), (7, 144), (7, 145), (7, 146), (1, 11)]),
  (1141, .istore 7, 2, .null, [], []),
  (1143, .aload_n 2, 1, .null, [], []),
  (1144, .invokevirtual 130, 3, .null, [224, 0, 0, 0, 0, 9], [(6, 230), (6, 231), (6, 232), (6, 233), (1, 11)]),
  (1147, .iload 6, 2, .null, [], []),
  (1149, .if_icmp .eq 5, 3, .null, [1154], []),
  (1152, .iconst 0, 1, .null, [], []),
  (1153, .ireturn, 1, .null, [], []),
  (1154, .iload 6, 2, .null, [], []),
  (1156, .ifCond .ne 15, 3, .null, [1171], []),
  (1159, .aload_n 3, 1, .null, [], []),
  (1160, .iconst 0, 1, .null, [], []),
  (1161, .laload, 1, .null, [], []),
  (1162, .iload 7, 2, .null, [], []),
  (1164, .i2l, 1, .null, [], []),
  (1165, .lcmp, 1, .null, [], []),
  (1166, .ifCond .eq 5, 3, .null, [1171], []),
  (1169, .iconst 0, 1, .null, [], []),
  (1170, .ireturn, 1, .null, [], []),
  (1171, .goto 911, 3, .null, [2082], []),
  (1174, .aload_n 1, 1, .null, [], []),
  (1175, .aload_n 0, 1, .null, [], []),
  (1176, .iload 5, 2, .null, [], []),
  (1178, .iconst 1, 1, .null, [], []),
  (1179, .iadd, 1, .null, [], []),
  (1180, .iaload, 1, .null, [], []),
  (1181, .aload_n 3, 1, .null, [], []),
  (1182, .invokestatic 173, 3, .null, [131, 3, 1, 1, 6], [(4, 193), (4, 194), (1, 0), (4, 195)]),
  (1185, .istore 6, 2, .null, [], []),
  (1187, .aload_n 2, 1, .null, [], []),
  (1188, .aload_n 0, 1, .null, [], []),
  (1189, .iload 5, 2, .null, [], []),
  (1191, .iconst 1, 1, .null, [], []),
  (1192, .iadd, 1, .null, [], []),
  (1193, .iaload, 1, .null, [], []),
  (1194, .invokevirtual 175, 3, .null, [273, 1, 0, 0, 0, 9], [(7, 178), (7, 179), (7, 180), (7, 181), (1, 11)]),
  (1197, .lstore 7, 2, .null, [], []),
  (1199, .aload_n 2, 1, .null, [], []),
  (1200, .invokevirtual 130, 3, .null, [224, 0, 0, 0, 0, 9], [(6, 230), (6, 231), (6, 232), (6, 233), (1, 11)]),
  (1203, .iload 6, 2, .null, [], []),
  (1205, .if_icmp .eq 5, 3, .null, [1210], []),
  (1208, .iconst 0, 1, .null, [], []),
  (1209, .ireturn, 1, .null, [], []),
  (1210, .iload 6, 2, .null, [], []),
  (1212, .ifCond .ne 14, 3, .null, [1226], []),
  (1215, .aload_n 3, 1, .null, [], []),
  (1216, .iconst 0, 1, .null, [], []),
  (1217, .laload, 1, .null, [], []),
  (1218, .lload 7, 2, .null, [], []),
  (1220, .lcmp, 1, .null, [], []),
  (1221, .ifCond .eq 5, 3, .null, [1226], []),
  (1224, .iconst 0, 1, .null, [], []),
  (1225, .ireturn, 1, .null, [], []),
  (1226, .goto 856, 3, .null, [2082], []),
  (1229, .aload_n 1, 1, .null, [], []),
  (1230, .aload_n 0, 1, .null, [], []),
  (1231, .iload 5, 2, .null, [], []),
  (1233, .iconst 1, 1, .null, [], []),
  (1234, .iadd, 1, .null, [], []),
  (1235, .iaload, 1, .null, [], []),
  (1236, .aload_n 0, 1, .null, [], []),
  (1237, .iload 5, 2, .null, [], []),
  (1239, .iconst 2, 1, .null, [], []),
  (1240, .iadd, 1, .null, [], []),
  (1241, .iaload, 1, .null, [], []),
  (1242, .aload_n 3, 1, .null, [], []),
  (1243, .invokestatic 176, 3, .null, [140, 4, 1, 3, 18], [(4, 222), (4, 223), (1, 0), (4, 224)]),
  (1246, .istore 6, 2, .null, [], []),
  (1248, .aload_n 2, 1, .null, [], []),
  (1249, .aload_n 0, 1, .null, [], []),
  (1250, .iload 5, 2, .null, [], []),
  (1252, .iconst 1, 1, .null, [], []),
  (1253, .iadd, 1, .null, [], []),
  (1254, .iaload, 1, .null, [], []),
  (1255, .aload_n 0, 1, .null, [], []),
  (1256, .iload 5, 2, .null, [], []),
  (1258, .iconst 2, 1, .null, [], []),
  (1259, .iadd, 1, .null, [], []),
  (1260, .iaload, 1, .null, [], []),
  (1261, .invokevirtual 178, 3, .null, [275, 2, 0, 0, 0, 9], [(7, 194), (7, 195), (7, 196), (7, 197), (1, 11)]),
  (1264, .istore 7, 2, .null, [], []),
  (1266, .aload_n 2, 1, .null, [], []),
  (1267, .invokevirtual 130, 3, .null, [224, 0, 0, 0, 0, 9], [(6, 230), (6, 231), (6, 232), (6, 233), (1, 11)]),
  (1270, .iload 6, 2, .null, [], []),
  (1272, .if_icmp .eq 5, 3, .null, [1277], []),
  (1275, .iconst 0, 1, .null, [], []),
  (1276, .ireturn, 1, .null, [], []),
  (1277, .iload 6, 2, .null, [], []),
  (1279, .ifCond .ne 15, 3, .null, [1294], []),
  (1282, .aload_n 3, 1, .null, [], []),
  (1283, .iconst 0, 1, .null, [], []),
  (1284, .laload, 1, .null, [], []),
  (1285, .iload 7, 2, .null, [], []),
  (1287, .i2l, 1, .null, [], []),
  (1288, .lcmp, 1, .null, [], []),
  (1289, .ifCond .eq 5, 3, .null, [1294], []),
  (1292, .iconst 0, 1, .null, [], []),
  (1293, .ireturn, 1, .null, [], []),
  (1294, .goto 788, 3, .null, [2082], []),
  (1297, .aload_n 1, 1, .null, [], []),
  (1298, .aload_n 0, 1, .null, [], []),
  (1299, .iload 5, 2, .null, [], []),
  (1301, .iconst 1, 1, .null, [], []),
  (1302, .iadd, 1, .null, [], []),
  (1303, .iaload, 1, .null, [], []),
  (1304, .aload_n 0, 1, .null, [], []),
  (1305, .iload 5, 2, .null, [], []),
  (1307, .iconst 2, 1, .null, [], []),
  (1308, .iadd, 1, .null, [], []),
  (1309, .iaload, 1, .null, [], []),
  (1310, .aload_n 0, 1, .null, [], []),
  (1311, .iload 5, 2, .null, [], []),
  (1313, .iconst 3, 1, .null, [], []),
  (1314, .iadd, 1, .null, [], []),
  (1315, .iaload, 1, .null, [], []),
  (1316, .aload_n 3, 1, .null, [], []),
  (1317, .invokestatic 179, 3, .null, [144, 5, 1, 3, 18], [(5, 19), (5, 20), (1, 0), (5, 21)]),
  (1320, .istore 6, 2, .null, [], []),
  (1322, .aload_n 2, 1, .null, [], []),
  (1323, .aload_n 0, 1, .null, [], []),
  (1324, .iload 5, 2, .null, [], []),
  (1326, .iconst 1, 1, .null, [], []),
  (1327, .iadd, 1, .null, [], []),
  (1328, .iaload, 1, .null, [], []),
  (1329, .aload_n 0, 1, .null, [], []),
  (1330, .iload 5, 2, .null, [], []),
  (1332, .iconst 2, 1, .null, [], []),
  (1333, .iadd, 1, .null, [], []),
  (1334, .iaload, 1, .null, [], []),
  (1335, .aload_n 0, 1, .null, [], []),
  (1336, .iload 5, 2, .null, [], []),
  (1338, .iconst 3, 1, .null, [], []),
  (1339, .iadd, 1, .null, [], []),
  (1340, .iaload, 1, .null, [], []),
  (1341, .invokevirtual 182, 3, .null, [278, 3, 0, 0, 0, 9], [(7, 202), (7, 203), (7, 204), (7, 205), (1, 11)]),
  (1344, .istore 7, 2, .null, [], []),
  (1346, .aload_n 2, 1, .null, [], []),
  (1347, .invokevirtual 130, 3, .null, [224, 0, 0, 0, 0, 9], [(6, 230), (6, 231), (6, 232), (6, 233), (1, 11)]),
  (1350, .iload 6, 2, .null, [], []),
  (1352, .if_icmp .eq 5, 3, .null, [1357], []),
  (1355, .iconst 0, 1, .null, [], []),
  (1356, .ireturn, 1, .null, [], []),
  (1357, .iload 6, 2, .null, [], []),
  (1359, .ifCond .ne 15, 3, .null, [1374], []),
  (1362, .aload_n 3, 1, .null, [], []),
  (1363, .iconst 0, 1, .null, [], []),
  (1364, .laload, 1, .null, [], []),
  (1365, .iload 7, 2, .null, [], []),
  (1367, .i2l, 1, .null, [], []),
  (1368, .lcmp, 1, .null, [], []),
  (1369, .ifCond .eq 5, 3, .null, [1374], []),
  (1372, .iconst 0, 1, .null, [], []),
  (1373, .ireturn, 1, .null, [], []),
  (1374, .goto 708, 3, .null, [2082], []),
  (1377, .aload_n 1, 1, .null, [], []),
  (1378, .aload_n 0, 1, .null, [], []),
  (1379, .iload 5, 2, .null, [], []),
  (1381, .iconst 1, 1, .null, [], []),
  (1382, .iadd, 1, .null, [], []),
  (1383, .iaload, 1, .null, [], []),
  (1384, .aload_n 0, 1, .null, [], []),
  (1385, .iload 5, 2, .null, [], []),
  (1387, .iconst 2, 1, .null, [], []),
  (1388, .iadd, 1, .null, [], []),
  (1389, .iaload, 1, .null, [], []),
  (1390, .aload_n 3, 1, .null, [], []),
  (1391, .invokestatic 183, 3, .null, [156, 4, 1, 5, 30], [(5, 35), (5, 36), (1, 0), (5, 37)]),
  (1394, .istore 6, 2, .null, [], []),
  (1396, .aload_n 2, 1, .null, [], []),
  (1397, .aload_n 0, 1, .null, [], []),
  (1398, .iload 5, 2, .null, [], []),
  (1400, .iconst 1, 1, .null, [], []),
  (1401, .iadd, 1, .null, [], []),
  (1402, .iaload, 1, .null, [], []),
  (1403, .aload_n 0, 1, .null, [], []),
  (1404, .iload 5, 2, .null, [], []),
  (1406, .iconst 2, 1, .null, [], []),
  (1407, .iadd, 1, .null, [], []),
  (1408, .iaload, 1, .null, [], []),
  (1409, .invokevirtual 185, 3, .null, [281, 2, 0, 0, 0, 9], [(7, 215), (7, 216), (7, 217), (7, 218), (1, 11)]),
  (1412, .istore 7, 2, .null, [], []),
  (1414, .aload_n 2, 1, .null, [], []),
  (1415, .invokevirtual 130, 3, .null, [224, 0, 0, 0, 0, 9], [(6, 230), (6, 231), (6, 232), (6, 233), (1, 11)]),
  (1418, .iload 6, 2, .null, [], []),
  (1420, .if_icmp .eq 5, 3, .null, [1425], []),
  (1423, .iconst 0, 1, .null, [], []),
  (1424, .ireturn, 1, .null, [], []),
  (1425, .iload 6, 2, .null, [], []),
  (1427, .ifCond .ne 15, 3, .null, [1442], []),
  (1430, .aload_n 3, 1, .null, [], []),
  (1431, .iconst 0, 1, .null, [], []),
  (1432, .laload, 1, .null, [], []),
  (1433, .iload 7, 2, .null, [], []),
  (1435, .i2l, 1, .null, [], []),
  (1436, .lcmp, 1, .null, [], []),
  (1437, .ifCond .eq 5, 3, .null, [1442], []),
  (1440, .iconst 0, 1, .null, [], []),
  (1441, .ireturn, 1, .null, [], []),
  (1442, .goto 640, 3, .null, [2082], []),
  (1445, .aload_n 1, 1, .null, [], []),
  (1446, .aload_n 0, 1, .null, [], []),
  (1447, .iload 5, 2, .null, [], []),
  (1449, .iconst 1, 1, .null, [], []),
  (1450, .iadd, 1, .null, [], []),
  (1451, .iaload, 1, .null, [], []),
  (1452, .aload_n 0, 1, .null, [], []),
  (1453, .iload 5, 2, .null, [], []),
  (1455, .iconst 2, 1, .null, [], []),
  (1456, .iadd, 1, .null, [], []),
  (1457, .iaload, 1, .null, [], []),
  (1458, .aload_n 0, 1, .null, [], []),
  (1459, .iload 5, 2, .null, [], []),
  (1461, .iconst 3, 1, .null, [], []),
  (1462, .iadd, 1, .null, [], []),
  (1463, .iaload, 1, .null, [], []),
  (1464, .ifCond .eq 7, 3, .null, [1471], []),
  (1467, .iconst 1, 1, .null, [], []),
  (1468, .goto 4, 3, .null, [1472], []),
  (1471, .iconst 0, 1, .null, [], []),
  (1472, .aload_n 3, 1, .null, [], []),
  (1473, .invokestatic 186, 3, .null, [165, 5, 1, 4, 24], [(5, 104), (5, 105), (1, 0), (5, 106)]),
  (1476, .istore 6, 2, .null, [], []),
  (1478, .aload_n 2, 1, .null, [], []),
  (1479, .aload_n 0, 1, .null, [], []),
  (1480, .iload 5, 2, .null, [], []),
  (1482, .iconst 1, 1, .null, [], []),
  (1483, .iadd, 1, .null, [], []),
  (1484, .iaload, 1, .null, [], []),
  (1485, .aload_n 0, 1, .null, [], []),
  (1486, .iload 5, 2, .null, [], []),
  (1488, .iconst 2, 1, .null, [], []),
  (1489, .iadd, 1, .null, [], []),
  (1490, .iaload, 1, .null, [], []),
  (1491, .aload_n 0, 1, .null, [], []),
  (1492, .iload 5, 2, .null, [], []),
  (1494, .iconst 3, 1, .null, [], []),
  (1495, .iadd, 1, .null, [], []),
  (1496, .iaload, 1, .null, [], []),
  (1497, .ifCond .eq 7, 3, .null, [1504], []),
  (1500, .iconst 1, 1, .null, [], []),
  (1501, .goto 4, 3, .null, [1505], []),
  (1504, .iconst 0, 1, .null, [], []),
  (1505, .invokevirtual 188, 3, .null, [289, 3, 0, 0, 0, 9], [(7, 227), (7, 228), (7, 229), (7, 230), (1, 11)]),
  (1508, .istore 7, 2, .null, [], []),
  (1510, .aload_n 2, 1, .null, [], []),
  (1511, .invokevirtual 130, 3, .null, [224, 0, 0, 0, 0, 9], [(6, 230), (6, 231), (6, 232), (6, 233), (1, 11)]),
  (1514, .iload 6, 2, .null, [], []),
  (1516, .if_icmp .eq 5, 3, .null, [1521], []),
  (1519, .iconst 0, 1, .null, [], []),
  (1520, .ireturn, 1, .null, [], []),
  (1521, .iload 6, 2, .null, [], []),
  (1523, .ifCond .ne 15, 3, .null, [1538], []),
  (1526, .aload_n 3, 1, .null, [], []),
  (1527, .iconst 0, 1, .null, [], []),
  (1528, .laload, 1, .null, [], []),
  (1529, .iload 7, 2, .null, [], []),
  (1531, .i2l, 1, .null, [], []),
  (1532, .lcmp, 1, .null, [], []),
  (1533, .ifCond .eq 5, 3, .null, [1538], []),
  (1536, .iconst 0, 1, .null, [], []),
  (1537, .ireturn, 1, .null, [], []),
  (1538, .goto 544, 3, .null, [2082], []),
  (1541, .aload_n 1, 1, .null, [], []),
  (1542, .aload_n 0, 1, .null, [], []),
  (1543, .iload 5, 2, .null, [], []),
  (1545, .iconst 1, 1, .null, [], []),
  (1546, .iadd, 1, .null, [], []),
  (1547, .iaload, 1, .null, [], []),
  (1548, .aload_n 0, 1, .null, [], []),
  (1549, .iload 5, 2, .null, [], []),
  (1551, .iconst 2, 1, .null, [], []),
  (1552, .iadd, 1, .null, [], []),
  (1553, .iaload, 1, .null, [], []),
  (1554, .aload_n 3, 1, .null, [], []),
  (1555, .invokestatic 189, 3, .null, [176, 4, 1, 4, 24], [(5, 145), (5, 146), (1, 0), (5, 147)]),
  (1558, .istore 6, 2, .null, [], []),
  (1560, .aload_n 2, 1, .null, [], []),
  (1561, .aload_n 0, 1, .null, [], []),
  (1562, .iload 5, 2, .null, [], []),
  (1564, .iconst 1, 1, .null, [], []),
  (1565, .iadd, 1, .null, [], []),
  (1566, .iaload, 1, .null, [], []),
  (1567, .aload_n 0, 1, .null, [], []),
  (1568, .iload 5, 2, .null, [], []),
  (1570, .iconst 2, 1, .null, [], []),
  (1571, .iadd, 1, .null, [], []),
  (1572, .iaload, 1, .null, [], []),
  (1573, .invokevirtual 191, 3, .null, [293, 2, 0, 0, 0, 9], [(8, 20), (8, 21), (8, 22), (8, 23), (1, 11)]),
  (1576, .istore 7, 2, .null, [], []),
  (1578, .aload_n 2, 1, .null, [], []),
  (1579, .invokevirtual 130, 3, .null, [224, 0, 0, 0, 0, 9], [(6, 230), (6, 231), (6, 232), (6, 233), (1, 11)]),
  (1582, .iload 6, 2, .null, [], []),
  (1584, .if_icmp .eq 5, 3, .null, [1589], []),
  (1587, .iconst 0, 1, .null, [], []),
  (1588, .ireturn, 1, .null, [], []),
  (1589, .iload 6, 2, .null, [], []),
  (1591, .ifCond .ne 15, 3, .null, [1606], []),
  (1594, .aload_n 3, 1, .null, [], []),
  (1595, .iconst 0, 1, .null, [], []),
  (1596, .laload, 1, .null, [], []),
  (1597, .iload 7, 2, .null, [], []),
  (1599, .i2l, 1, .null, [], []),
  (1600, .lcmp, 1, .null, [], []),
  (1601, .ifCond .eq 5, 3, .null, [1606], []),
  (1604, .iconst 0, 1, .null, [], []),
  (1605, .ireturn, 1, .null, [], []),
  (1606, .goto 476, 3, .null, [2082], []),
  (1609, .aload_n 1, 1, .null, [], []),
  (1610, .invokevirtual 192, 3, .null, [58, 0, 0, 0, 0, 8], [(2, 74), (2, 75), (2, 76), (2, 77), (1, 1)]),
  (1613, .aload_n 2, 1, .null, [], []),
  (1614, .invokevirtual 195, 3, .null, [294, 0, 0, 0, 0, 9], [(8, 36), (8, 37), (8, 38), (8, 39), (1, 11)]),
  (1617, .if_icmp .eq 465, 3, .null, [2082], []),
  (1620, .iconst 0, 1, .null, [], []),
  (1621, .ireturn, 1, .null, [], []),
  (1622, .aload_n 1, 1, .null, [], []),
  (1623, .aload_n 0, 1, .null, [], []),
  (1624, .iload 5, 2, .null, [], []),
  (1626, .iconst 1, 1, .null, [], []),
  (1627, .iadd, 1, .null, [], []),
  (1628, .iaload, 1, .null, [], []),
  (1629, .aload_n 0, 1, .null, [], []),
  (1630, .iload 5, 2, .null, [], []),
  (1632, .iconst 2, 1, .null, [], []),
  (1633, .iadd, 1, .null, [], []),
  (1634, .iaload, 1, .null, [], []),
  (1635, .aload_n 3, 1, .null, [], []),
  (1636, .invokestatic 196, 3, .null, [182, 4, 1, 2, 12], [(5, 193), (5, 194), (1, 0), (5, 195)]),
  (1639, .istore 6, 2, .null, [], []),
  (1641, .aload_n 2, 1, .null, [], []),
  (1642, .aload_n 0, 1, .null, [], []),
  (1643, .iload 5, 2, .null, [], []),
  (1645, .iconst 1, 1, .null, [], []),
  (1646, .iadd, 1, .null, [], []),
  (1647, .iaload, 1, .null, [], []),
  (1648, .aload_n 0, 1, .null, [], []),
  (1649, .iload 5, 2, .null, [], []),
  (1651, .iconst 2, 1, .null, [], []),
  (1652, .iadd, 1, .null, [], []),
  (1653, .iaload, 1, .null, [], []),
  (1654, .invokevirtual 198, 3, .null, [296, 2, 0, 0, 0, 9], [(8, 41), (8, 42), (8, 43), (8, 44), (1, 11)]),
  (1657, .istore 7, 2, .null, [], []),
  (1659, .aload_n 2, 1, .null, [], []),
  (1660, .invokevirtual 130, 3, .null, [224, 0, 0, 0, 0, 9], [(6, 230), (6, 231), (6, 232), (6, 233), (1, 11)]),
  (1663, .iload 6, 2, .null, [], []),
  (1665, .if_icmp .eq 5, 3, .null, [1670], []),
  (1668, .iconst 0, 1, .null, [], []),
  (1669, .ireturn, 1, .null, [], []),
  (1670, .iload 6, 2, .null, [], []),
  (1672, .ifCond .ne 15, 3, .null, [1687], []),
  (1675, .aload_n 3, 1, .null, [], []),
  (1676, .iconst 0, 1, .null, [], []),
  (1677, .laload, 1, .null, [], []),
  (1678, .iload 7, 2, .null, [], []),
  (1680, .i2l, 1, .null, [], []),
  (1681, .lcmp, 1, .null, [], []),
  (1682, .ifCond .eq 5, 3, .null, [1687], []),
  (1685, .iconst 0, 1, .null, [], []),
  (1686, .ireturn, 1, .null, [], []),
  (1687, .goto 395, 3, .null, [2082], []),
  (1690, .aload_n 1, 1, .null, [], []),
  (1691, .aload 4, 2, .null, [], []),
  (1693, .invokestatic 199, 3, .null, [185, 2, 1, 1, 6], [(5, 216), (5, 217), (1, 0), (5, 218)]),
  (1696, .istore 6, 2, .null, [], []),
  (1698, .aload_n 2, 1, .null, [], []),
  (1699, .invokevirtual 202, 3, .null, [297, 0, 0, 0, 0, 9], [(8, 49), (8, 50), (8, 51), (8, 52), (1, 11)]),
  (1702, .dstore 7, 2, .null, [], []),
  (1704, .aload_n 2, 1, .null, [], []),
  (1705, .invokevirtual 130, 3, .null, [224, 0, 0, 0, 0, 9], [(6, 230), (6, 231), (6, 232), (6, 233), (1, 11)]),
  (1708, .iload 6, 2, .null, [], []),
  (1710, .if_icmp .eq 5, 3, .null, [1715], []),
  (1713, .iconst 0, 1, .null, [], []),
  (1714, .ireturn, 1, .null, [], []),
  (1715, .iload 6, 2, .null, [], []),
  (1717, .ifCond .ne 35, 3, .null, [1752], []),
  (1720, .aload 4, 2, .null, [], []),
  (1722, .iconst 0, 1, .null, [], []),
  (1723, .daload, 1, .null, [], []),
  (1724, .dload 7, 2, .null, [], []),
  (1726, .dcmp .l, 1, .null, [], []),
  (1727, .ifCond .eq 25, 3, .null, [1752], []),
  (1730, .aload 4, 2, .null, [], []),
  (1732, .iconst 0, 1, .null, [], []),
  (1733, .daload, 1, .null, [], []),
  (1734, .aload 4, 2, .null, [], []),
  (1736, .iconst 0, 1, .null, [], []),
  (1737, .daload, 1, .null, [], []),
  (1738, .dcmp .l, 1, .null, [], []),
  (1739, .ifCond .eq 11, 3, .null, [1750], []),
  (1742, .dload 7, 2, .null, [], []),
  (1744, .dload 7, 2, .null, [], []),
  (1746, .dcmp .l, 1, .null, [], []),
  (1747, .ifCond .ne 5, 3, .null, [1752], []),
  (1750, .iconst 0, 1, .null, [], []),
  (1751, .ireturn, 1, .null, [], []),
  (1752, .goto 330, 3, .null, [2082], []),
  (1755, .aload_n 1, 1, .null, [], []),
  (1756, .aload_n 0, 1, .null, [], []),
  (1757, .iload 5, 2, .null, [], []),
  (1759, .iconst 1, 1, .null, [], []),
  (1760, .iadd, 1, .null, [], []),
  (1761, .iaload, 1, .null, [], []),
  (1762, .aload_n 0, 1, .null, [], []),
  (1763, .iload 5, 2, .null, [], []),
  (1765, .iconst 2, 1, .null, [], []),
  (1766, .iadd, 1, .null, [], []),
  (1767, .iaload, 1, .null, [], []),
  (1768, .aload_n 3, 1, .null, [], []),
  (1769, .invokestatic 203, 3, .null, [190, 4, 1, 2, 12], [(6, 6), (6, 7), (1, 0), (6, 8)]),
  (1772, .istore 6, 2, .null, [], []),
  (1774, .aload_n 2, 1, .null, [], []),
  (1775, .aload_n 0, 1, .null, [], []),
  (1776, .iload 5, 2, .null, [], []),
  (1778, .iconst 1, 1, .null, [], []),
  (1779, .iadd, 1, .null, [], []),
  (1780, .iaload, 1, .null, [], []),
  (1781, .aload_n 0, 1, .null, [], []),
  (1782, .iload 5, 2, .null, [], []),
  (1784, .iconst 2, 1, .null, [], []),
  (1785, .iadd, 1, .null, [], []),
  (1786, .iaload, 1, .null, [], []),
  (1787, .invokevirtual 205, 3, .null, [298, 2, 0, 0, 0, 9], [(8, 53), (8, 54), (8, 55), (8, 56), (1, 11)]),
  (1790, .istore 7, 2, .null, [], []),
  (1792, .aload_n 2, 1, .null, [], []),
  (1793, .invokevirtual 130, 3, .null, [224, 0, 0, 0, 0, 9], [(6, 230), (6, 231), (6, 232), (6, 233), (1, 11)]),
  (1796, .iload 6, 2, .null, [], []),
  (1798, .if_icmp .eq 5, 3, .null, [1803], []),
  (1801, .iconst 0, 1, .null, [], []),
  (1802, .ireturn, 1, .null, [], []),
  (1803, .iload 6, 2, .null, [], []),
  (1805, .ifCond .ne 15, 3, .null, [1820], []),
  (1808, .aload_n 3, 1, .null, [], []),
  (1809, .iconst 0, 1, .null, [], []),
  (1810, .laload, 1, .null, [], []),
  (1811, .iload 7, 2, .null, [], []),
  (1813, .i2l, 1, .null, [], []),
  (1814, .lcmp, 1, .null, [], []),
  (1815, .ifCond .eq 5, 3, .null, [1820], []),
  (1818, .iconst 0, 1, .null, [], []),
  (1819, .ireturn, 1, .null, [], []),
  (1820, .goto 262, 3, .null, [2082], []),
  (1823, .aload_n 1, 1, .null, [], []),
  (1824, .aload_n 0, 1, .null, [], []),
  (1825, .iload 5, 2, .null, [], []),
  (1827, .iconst 1, 1, .null, [], []),
  (1828, .iadd, 1, .null, [], []),
  (1829, .iaload, 1, .null, [], []),
  (1830, .i2c, 1, .null, [], []),
  (1831, .aload_n 3, 1, .null, [], []),
  (1832, .invokestatic 206, 3, .null, [194, 3, 1, 1, 6], [(6, 26), (6, 27), (1, 0), (6, 28)]),
  (1835, .istore 6, 2, .null, [], []),
  (1837, .aload_n 2, 1, .null, [], []),
  (1838, .aload_n 0, 1, .null, [], []),
  (1839, .iload 5, 2, .null, [], []),
  (1841, .iconst 1, 1, .null, [], []),
  (1842, .iadd, 1, .null, [], []),
  (1843, .iaload, 1, .null, [], []),
  (1844, .i2c, 1, .null, [], []),
  (1845, .invokevirtual 209, 3, .null, [299, 1, 0, 0, 0, 9], [(8, 57), (8, 58), (8, 59), (8, 60), (1, 11)]),
  (1848, .istore 7, 2, .null, [], []),
  (1850, .aload_n 2, 1, .null, [], []),
  (1851, .invokevirtual 130, 3, .null, [224, 0, 0, 0, 0, 9], [(6, 230), (6, 231), (6, 232), (6, 233), (1, 11)]),
  (1854, .iload 6, 2, .null, [], []),
  (1856, .if_icmp .eq 5, 3, .null, [1861], []),
  (1859, .iconst 0, 1, .null, [], []),
  (1860, .ireturn, 1, .null, [], []),
  (1861, .iload 6, 2, .null, [], []),
  (1863, .ifCond .ne 15, 3, .null, [1878], []),
  (1866, .aload_n 3, 1, .null, [], []),
  (1867, .iconst 0, 1, .null, [], []),
  (1868, .laload, 1, .null, [], []),
  (1869, .iload 7, 2, .null, [], []),
  (1871, .i2l, 1, .null, [], []),
  (1872, .lcmp, 1, .null, [], []),
  (1873, .ifCond .eq 5, 3, .null, [1878], []),
  (1876, .iconst 0, 1, .null, [], []),
  (1877, .ireturn, 1, .null, [], []),
  (1878, .goto 204, 3, .null, [2082], []),
  (1881, .aload_n 1, 1, .null, [], []),
  (1882, .aload_n 3, 1, .null, [], []),
  (1883, .invokestatic 210, 3, .null, [213, 2, 1, 1, 6], [(6, 41), (6, 42), (1, 0), (6, 43)]),
  (1886, .istore 6, 2, .null, [], []),
  (1888, .aload_n 2, 1, .null, [], []),
  (1889, .invokevirtual 213, 3, .null, [303, 0, 0, 0, 0, 9], [(8, 61), (8, 62), (8, 63), (8, 64), (1, 11)]),
  (1892, .istore 7, 2, .null, [], []),
  (1894, .aload_n 2, 1, .null, [], []),
  (1895, .invokevirtual 130, 3, .null, [224, 0, 0, 0, 0, 9], [(6, 230), (6, 231), (6, 232), (6, 233), (1, 11)]),
  (1898, .iload 6, 2, .null, [], []),
  (1900, .if_icmp .eq 5, 3, .null, [1905], []),
  (1903, .iconst 0, 1, .null, [], []),
  (1904, .ireturn, 1, .null, [], []),
  (1905, .iload 6, 2, .null, [], []),
  (1907, .ifCond .ne 15, 3, .null, [1922], []),
  (1910, .aload_n 3, 1, .null, [], []),
  (1911, .iconst 0, 1, .null, [], []),
  (1912, .laload, 1, .null, [], []),
  (1913, .iload 7, 2, .null, [], []),
  (1915, .i2l, 1, .null, [], []),
  (1916, .lcmp, 1, .null, [], []),
  (1917, .ifCond .eq 5, 3, .null, [1922], []),
  (1920, .iconst 0, 1, .null, [], []),
  (1921, .ireturn, 1, .null, [], []),
  (1922, .goto 160, 3, .null, [2082], []),
  (1925, .aload_n 1, 1, .null, [], []),
  (1926, .aload_n 0, 1, .null, [], []),
  (1927, .iload 5, 2, .null, [], []),
  (1929, .iconst 1, 1, .null, [], []),
  (1930, .iadd, 1, .null, [], []),
  (1931, .iaload, 1, .null, [], []),
  (1932, .aload_n 3, 1, .null, [], []),
  (1933, .invokestatic 214, 3, .null, [216, 3, 1, 1, 6], [(6, 136), (6, 137), (1, 0), (6, 138)]),
  (1936, .istore 6, 2, .null, [], []),
  (1938, .aload_n 2, 1, .null, [], []),
  (1939, .aload_n 0, 1, .null, [], []),
  (1940, .iload 5, 2, .null, [], []),
  (1942, .iconst 1, 1, .null, [], []),
  (1943, .iadd, 1, .null, [], []),
  (1944, .iaload, 1, .null, [], []),
  (1945, .invokevirtual 216, 3, .null, [304, 1, 0, 0, 0, 9], [(8, 77), (8, 78), (8, 79), (8, 80), (1, 11)]),
  (1948, .istore 7, 2, .null, [], []),
  (1950, .aload_n 2, 1, .null, [], []),
  (1951, .invokevirtual 130, 3, .null, [224, 0, 0, 0, 0, 9], [(6, 230), (6, 231), (6, 232), (6, 233), (1, 11)]),
  (1954, .iload 6, 2, .null, [], []),
  (1956, .if_icmp .eq 5, 3, .null, [1961], []),
  (1959, .iconst 0, 1, .null, [], []),
  (1960, .ireturn, 1, .null, [], []),
  (1961, .iload 6, 2, .null, [], []),
  (1963, .ifCond .ne 15, 3, .null, [1978], []),
  (1966, .aload_n 3, 1, .null, [], []),
  (1967, .iconst 0, 1, .null, [], []),
  (1968, .laload, 1, .null, [], []),
  (1969, .iload 7, 2, .null, [], []),
  (1971, .i2l, 1, .null, [], []),
  (1972, .lcmp, 1, .null, [], []),
  (1973, .ifCond .eq 5, 3, .null, [1978], []),
  (1976, .iconst 0, 1, .null, [], []),
  (1977, .ireturn, 1, .null, [], []),
  (1978, .goto 104, 3, .null, [2082], []),
  (1981, .aload_n 1, 1, .null, [], []),
  (1982, .aload_n 3, 1, .null, [], []),
  (1983, .invokestatic 217, 3, .null, [220, 2, 1, 1, 6], [(6, 147), (6, 148), (1, 0), (6, 149)]),
  (1986, .istore 6, 2, .null, [], []),
  (1988, .aload_n 2, 1, .null, [], []),
  (1989, .invokevirtual 219, 3, .null, [305, 0, 0, 0, 0, 9], [(8, 81), (8, 82), (8, 83), (8, 84), (1, 11)]),
  (1992, .istore 7, 2, .null, [], []),
  (1994, .aload_n 2, 1, .null, [], []),
  (1995, .invokevirtual 130, 3, .null, [224, 0, 0, 0, 0, 9], [(6, 230), (6, 231), (6, 232), (6, 233), (1, 11)]),
  (1998, .iload 6, 2, .null, [], []),
  (2000, .if_icmp .eq 5, 3, .null, [2005], []),
  (2003, .iconst 0, 1, .null, [], []),
  (2004, .ireturn, 1, .null, [], []),
  (2005, .iload 6, 2, .null, [], []),
  (2007, .ifCond .ne 15, 3, .null, [2022], []),
  (2010, .aload_n 3, 1, .null, [], []),
  (2011, .iconst 0, 1, .null, [], []),
  (2012, .laload, 1, .null, [], []),
  (2013, .iload 7, 2, .null, [], []),
  (2015, .i2l, 1, .null, [], []),
  (2016, .lcmp, 1, .null, [], []),
  (2017, .ifCond .eq 5, 3, .null, [2022], []),
  (2020, .iconst 0, 1, .null, [], []),
  (2021, .ireturn, 1, .null, [], []),
  (2022, .goto 60, 3, .null, [2082], []),
  (2025, .aload_n 1, 1, .null, [], []),
  (2026, .invokevirtual 220, 3, .null, [59, 0, 0, 0, 0, 8], [(3, 7), (3, 8), (3, 9), (3, 10), (1, 1)]),
  (2029, .aload_n 2, 1, .null, [], []),
  (2030, .invokevirtual 223, 3, .null, [306, 0, 0, 0, 0, 9], [(8, 85), (8, 86), (8, 87), (8, 88), (1, 11)]),
  (2033, .if_icmp .eq 49, 3, .null, [2082], []),
  (2036, .iconst 0, 1, .null, [], []),
  (2037, .ireturn, 1, .null, [], []),
  (2038, .aload_n 1, 1, .null, [], []),
  (2039, .aload_n 3, 1, .null, [], []),
  (2040, .invokestatic 224, 3, .null, [222, 2, 1, 1, 6], [(6, 162), (6, 163), (1, 0), (6, 164)]),
  (2043, .istore 6, 2, .null, [], []),
  (2045, .aload_n 2, 1, .null, [], []),
  (2046, .invokevirtual 226, 3, .null, [307, 0, 0, 0, 0, 9], [(8, 89), (8, 90), (8, 91), (8, 92), (1, 11)]),
  (2049, .istore 7, 2, .null, [], []),
  (2051, .aload_n 2, 1, .null, [], []),
  (2052, .invokevirtual 130, 3, .null, [224, 0, 0, 0, 0, 9], [(6, 230), (6, 231), (6, 232), (6, 233), (1, 11)]),
  (2055, .iload 6, 2, .null, [], []),
  (2057, .if_icmp .eq 5, 3, .null, [2062], []),
  (2060, .iconst 0, 1, .null, [], []),
  (2061, .ireturn, 1, .null, [], []),
  (2062, .iload 6, 2, .null, [], []),
  (2064, .ifCond .ne 15, 3, .null, [2079], []),
  (2067, .aload_n 3, 1, .null, [], []),
  (2068, .iconst 0, 1, .null, [], []),
  (2069, .laload, 1, .null, [], []),
  (2070, .iload 7, 2, .null, [], []),
  (2072, .i2l, 1, .null, [], []),
  (2073, .lcmp, 1, .null, [], []),
  (2074, .ifCond .eq 5, 3, .null, [2079], []),
  (2077, .iconst 0, 1, .null, [], []),
  (2078, .ireturn, 1, .null, [], []),
  (2079, .goto 3, 3, .null, [2082], []),
  (2082, .iinc 5 5, 3, .null, [], []),
  (2085, .goto (-2057), 3, .null, [28], []),
  (2088, .iconst 1, 1, .null, [], []),
  (2089, .ireturn, 1, .null, [], [])]
def e_m308 : e_MD := (⟨"HexCampaignLaw", "law", "([I)Z"⟩, code, 9, (some .boolean), [], e_c308)
def e_npl : List Nat := [0, 0, 0, 0, 0, 0, 0, 0, 0, 0, 1, 0, 1, 0, 1, 0, 0, 1, 1, 2, 1, 2, 1, 1, 2, 1, 1, 2, 1, 1, 2, 0, 1, 1, 1, 0, 2, 2, 2, 2, 1, 3, 1, 4, 1, 1, 2, 1, 1, 1, 1, 3, 3, 2, 2, 0, 0, 0, 0, 0, 1, 1, 1, 3, 3, 5, 1, 3, 3, 5, 2, 4, 1, 1, 2, 4, 2, 2, 2, 4, 1, 1, 2, 2, 2, 4, 0, 1, 3, 0, 0, 4, 4, 4, 6, 1, 1, 1, 1, 1, 1, 2, 1, 2, 0, 1, 1, 1, 1, 3, 2, 1, 2, 4, 1, 1, 3, 1, 2, 4, 2, 4, 1, 2, 2, 4, 1, 1, 3, 2, 1, 3, 2, 1, 2, 1, 2, 2, 2, 2, 4, 1, 1, 3, 5, 2, 2, 1, 4, 0, 1, 2, 1, 2, 1, 2, 4, 1, 1, 2, 2, 1, 1, 1, 3, 5, 1, 2, 1, 3, 4, 2, 2, 1, 2, 2, 4, 1, 1, 1, 1, 2, 4, 1, 0, 2, 0, 1, 1, 2, 4, 0, 1, 1, 3, 1, 0, 0, 0, 3, 2, 2, 1, 2, 1, 2, 0, 0, 0, 1, 1, 0, 0, 2, 2, 1, 3, 0, 1, 0, 2, 0, 2, 0, 0, 3, 2, 1, 0, 1, 1, 1, 0, 3, 1, 3, 2, 1, 2, 2, 2, 2, 1, 2, 2, 1, 2, 2, 1, 1, 1, 2, 1, 1, 1, 1, 1, 2, 1, 1, 2, 2, 5, 2, 4, 1, 2, 1, 1, 2, 3, 1, 3, 1, 2, 2, 3, 2, 3, 3, 2, 2, 2, 1, 1, 2, 1, 1, 1, 3, 3, 2, 2, 2, 0, 1, 2, 0, 2, 1, 1, 0, 1, 0, 1, 0, 0, 0, 1]
def e_prog : List e_MD := [e_m0, e_m1, e_m2, e_m3, e_m4, e_m5, e_m6, e_m7, e_m8, e_m9, e_m10, e_m11, e_m12, e_m13, e_m14, e_m15, e_m16, e_m17, e_m18, e_m19, e_m20, e_m21, e_m22, e_m23, e_m24, e_m25, e_m26, e_m27, e_m28, e_m29, e_m30, e_m31, e_m32, e_m33, e_m34, e_m35, e_m36, e_m37, e_m38, e_m39, e_m40, e_m41, e_m42, e_m43, e_m44, e_m45, e_m46, e_m47, e_m48, e_m49, e_m50, e_m51, e_m52, e_m53, e_m54, e_m55, e_m56, e_m57, e_m58, e_m59, e_m60, e_m61, e_m62, e_m63, e_m64, e_m65, e_m66, e_m67, e_m68, e_m69, e_m70, e_m71, e_m72, e_m73, e_m74, e_m75, e_m76, e_m77, e_m78, e_m79, e_m80, e_m81, e_m82, e_m83, e_m84, e_m85, e_m86, e_m87, e_m88, e_m89, e_m90, e_m91, e_m92, e_m93, e_m94, e_m95, e_m96, e_m97, e_m98, e_m99, e_m100, e_m101, e_m102, e_m103, e_m104, e_m105, e_m106, e_m107, e_m108, e_m109, e_m110, e_m111, e_m112, e_m113, e_m114, e_m115, e_m116, e_m117, e_m118, e_m119, e_m120, e_m121, e_m122, e_m123, e_m124, e_m125, e_m126, e_m127, e_m128, e_m129, e_m130, e_m131, e_m132, e_m133, e_m134, e_m135, e_m136, e_m137, e_m138, e_m139, e_m140, e_m141, e_m142, e_m143, e_m144, e_m145, e_m146, e_m147, e_m148, e_m149, e_m150, e_m151, e_m152, e_m153, e_m154, e_m155, e_m156, e_m157, e_m158, e_m159, e_m160, e_m161, e_m162, e_m163, e_m164, e_m165, e_m166, e_m167, e_m168, e_m169, e_m170, e_m171, e_m172, e_m173, e_m174, e_m175, e_m176, e_m177, e_m178, e_m179, e_m180, e_m181, e_m182, e_m183, e_m184, e_m185, e_m186, e_m187, e_m188, e_m189, e_m190, e_m191, e_m192, e_m193, e_m194, e_m195, e_m196, e_m197, e_m198, e_m199, e_m200, e_m201, e_m202, e_m203, e_m204, e_m205, e_m206, e_m207, e_m208, e_m209, e_m210, e_m211, e_m212, e_m213, e_m214, e_m215, e_m216, e_m217, e_m218, e_m219, e_m220, e_m221, e_m222, e_m223, e_m224, e_m225, e_m226, e_m227, e_m228, e_m229, e_m230, e_m231, e_m232, e_m233, e_m234, e_m235, e_m236, e_m237, e_m238, e_m239, e_m240, e_m241, e_m242, e_m243, e_m244, e_m245, e_m246, e_m247, e_m248, e_m249, e_m250, e_m251, e_m252, e_m253, e_m254, e_m255, e_m256, e_m257, e_m258, e_m259, e_m260, e_m261, e_m262, e_m263, e_m264, e_m265, e_m266, e_m267, e_m268, e_m269, e_m270, e_m271, e_m272, e_m273, e_m274, e_m275, e_m276, e_m277, e_m278, e_m279, e_m280, e_m281, e_m282, e_m283, e_m284, e_m285, e_m286, e_m287, e_m288, e_m289, e_m290, e_m291, e_m292, e_m293, e_m294, e_m295, e_m296, e_m297, e_m298, e_m299, e_m300, e_m301, e_m302, e_m303, e_m304, e_m305, e_m306, e_m307, e_m308]
def e_cwd (q : e_MD) : Cond := if q.2.2.2.2.1 = [] then .code q.1 q.2.1 q.2.2.1 q.2.2.2.1 else .codeWith q.1 q.2.1 q.2.2.1 q.2.2.2.1 q.2.2.2.2.1
def e_cwords : List Cond := (e_prog.take 308).map e_cwd
/-- for each method: frames above it, words of locals above it, cells and slots that it may make -/
def e_room : List (Nat × Nat × Nat × Nat) := [(2, 60, 2, 8), (2, 60, 7, 56), (3, 80, 11, 79), (2, 60, 4, 816), (4, 100, 22, 1736), (4, 100, 97, 712), (2, 60, 2, 6), (2, 60, 1, 80), (1, 60, 0, 0), (1, 60, 0, 0), (1, 60, 0, 0), (2, 81, 0, 0), (3, 101, 0, 0), (5, 122, 138, 2635), (1, 60, 0, 0), (2, 80, 0, 0), (1, 60, 0, 0), (4, 122, 0, 0), (1, 60, 0, 0), (1, 60, 0, 0), (2, 82, 0, 0), (1, 60, 0, 0), (2, 82, 0, 0), (3, 103, 0, 0), (1, 60, 0, 0), (4, 124, 0, 0), (1, 60, 0, 0), (1, 60, 0, 0), (1, 60, 0, 0), (2, 81, 0, 0), (1, 60, 0, 0), (2, 81, 0, 0), (1, 60, 0, 0), (3, 101, 0, 0), (4, 123, 0, 0), (1, 60, 0, 0), (1, 60, 0, 0), (2, 81, 0, 0), (3, 102, 0, 0), (4, 127, 0, 0), (2, 81, 0, 0), (2, 87, 0, 0), (3, 114, 0, 0), (4, 142, 0, 0), (1, 60, 0, 0), (5, 176, 0, 0), (1, 60, 0, 0), (1, 60, 0, 0), (2, 82, 0, 0), (2, 81, 0, 0), (2, 81, 0, 0), (1, 60, 0, 0), (1, 60, 0, 0), (3, 102, 0, 0), (4, 125, 0, 0), (1, 60, 0, 0), (2, 81, 0, 0), (6, 199, 0, 0), (7, 223, 0, 0), (4, 124, 0, 0), (6, 89, 1, 6), (3, 106, 0, 0), (2, 82, 0, 0), (2, 80, 0, 0), (7, 146, 3, 18), (8, 170, 3, 18), (6, 89, 1, 6), (2, 80, 0, 0), (7, 146, 2, 12), (8, 170, 2, 12), (6, 146, 1, 6), (7, 170, 1, 6), (1, 60, 0, 0), (2, 81, 0, 0), (7, 127, 2, 12), (8, 149, 2, 12), (1, 60, 0, 0), (2, 82, 0, 0), (7, 109, 3, 18), (8, 132, 3, 18), (1, 60, 0, 0), (1, 60, 0, 0), (1, 60, 0, 0), (2, 81, 0, 0), (7, 109, 2, 12), (8, 131, 2, 12), (2, 81, 0, 0), (6, 101, 1, 6), (7, 122, 1, 6), (1, 60, 0, 0), (1, 60, 0, 0), (3, 106, 0, 0), (2, 82, 0, 0), (7, 146, 4, 24), (8, 170, 4, 24), (2, 81, 0, 0), (6, 102, 1, 6), (2, 81, 0, 0), (2, 81, 0, 0), (6, 199, 0, 0), (1, 60, 0, 0), (3, 102, 0, 0), (7, 220, 0, 0), (3, 102, 0, 0), (1, 60, 0, 0), (3, 102, 0, 0), (2, 81, 0, 0), (4, 123, 0, 0), (1, 60, 0, 0), (2, 87, 0, 0), (3, 119, 0, 0), (4, 149, 0, 0), (8, 241, 2, 12), (9, 264, 2, 12), (5, 175, 0, 0), (7, 196, 1, 6), (8, 217, 1, 6), (4, 123, 0, 0), (7, 199, 2, 12), (8, 221, 2, 12), (7, 149, 2, 12), (8, 171, 2, 12), (2, 82, 0, 0), (6, 199, 0, 0), (7, 221, 3, 18), (8, 244, 3, 18), (6, 196, 0, 0), (6, 196, 0, 0), (4, 131, 0, 0), (7, 227, 0, 0), (8, 255, 1, 6), (9, 276, 1, 6), (2, 81, 0, 0), (3, 105, 0, 0), (4, 131, 0, 0), (2, 82, 0, 0), (3, 114, 0, 0), (5, 154, 0, 0), (7, 227, 0, 0), (8, 251, 3, 18), (9, 274, 3, 18), (2, 81, 0, 0), (3, 102, 0, 0), (8, 251, 3, 18), (9, 275, 3, 18), (7, 218, 0, 0), (2, 82, 0, 0), (3, 104, 0, 0), (4, 127, 0, 0), (1, 60, 0, 0), (4, 123, 0, 0), (5, 154, 0, 0), (2, 80, 0, 0), (2, 82, 0, 0), (6, 177, 0, 0), (8, 251, 5, 30), (9, 276, 5, 30), (4, 127, 0, 0), (4, 127, 0, 0), (7, 148, 4, 24), (4, 124, 0, 0), (3, 104, 0, 0), (6, 199, 0, 0), (6, 199, 0, 0), (8, 221, 4, 24), (9, 244, 4, 24), (1, 60, 0, 0), (4, 125, 0, 0), (5, 147, 0, 0), (3, 104, 0, 0), (4, 128, 0, 0), (5, 155, 0, 0), (6, 186, 0, 0), (2, 81, 0, 0), (7, 221, 0, 0), (8, 247, 4, 24), (9, 269, 4, 24), (2, 81, 0, 0), (2, 81, 0, 0), (2, 81, 0, 0), (2, 81, 0, 0), (7, 109, 2, 12), (8, 132, 2, 12), (6, 199, 0, 0), (7, 220, 1, 6), (8, 244, 1, 6), (1, 60, 0, 0), (2, 81, 0, 0), (2, 81, 0, 0), (6, 102, 2, 12), (7, 124, 2, 12), (1, 60, 0, 0), (1, 60, 0, 0), (6, 89, 1, 6), (7, 110, 1, 6), (1, 60, 0, 0), (1, 60, 0, 0), (2, 80, 0, 0), (1, 60, 0, 0), (1, 60, 0, 0), (2, 82, 0, 0), (3, 103, 0, 0), (4, 124, 0, 0), (5, 145, 0, 0), (6, 167, 0, 0), (7, 188, 0, 0), (8, 209, 0, 0), (1, 60, 0, 0), (7, 188, 0, 0), (6, 167, 0, 0), (7, 188, 0, 0), (1, 60, 0, 0), (9, 230, 1, 6), (10, 253, 1, 6), (5, 145, 0, 0), (6, 167, 1, 6), (7, 189, 1, 6), (1, 60, 0, 0), (4, 124, 0, 0), (6, 147, 1, 6), (7, 167, 1, 6), (6, 124, 1, 6), (7, 144, 1, 6), (2, 60, 8, 3285), (1, 60, 0, 0), (1, 60, 0, 0), (1, 60, 0, 0), (2, 82, 0, 0), (3, 103, 0, 0), (4, 125, 0, 0), (2, 82, 0, 0), (3, 103, 0, 0), (2, 200, 0, 0), (4, 220, 0, 0), (2, 82, 0, 0), (3, 220, 0, 0), (3, 220, 0, 0), (3, 103, 0, 0), (4, 126, 0, 0), (2, 82, 0, 0), (3, 107, 0, 0), (1, 60, 0, 0), (3, 107, 0, 0), (4, 132, 0, 0), (5, 156, 0, 0), (4, 125, 0, 0), (3, 103, 0, 0), (5, 156, 0, 0), (6, 185, 0, 0), (7, 210, 0, 0), (8, 235, 0, 0), (6, 185, 0, 0), (4, 125, 0, 0), (3, 103, 0, 0), (4, 132, 0, 0), (1, 60, 0, 0), (5, 156, 0, 0), (1, 60, 0, 0), (6, 180, 0, 0), (7, 209, 0, 0), (8, 233, 0, 0), (7, 209, 0, 0), (3, 103, 0, 0), (1, 60, 0, 0), (4, 220, 0, 0), (7, 209, 0, 0), (8, 230, 0, 0), (2, 82, 0, 0), (3, 103, 0, 0), (9, 252, 0, 0), (2, 82, 0, 0), (8, 235, 0, 0), (5, 148, 0, 0), (9, 262, 0, 0), (9, 262, 0, 0), (10, 284, 0, 0), (3, 106, 0, 0), (4, 129, 0, 0), (10, 284, 0, 0), (8, 230, 0, 0), (4, 132, 0, 0), (9, 262, 0, 0), (3, 107, 0, 0), (4, 125, 0, 0), (4, 125, 0, 0), (5, 148, 0, 0), (9, 252, 0, 0), (10, 275, 0, 0), (10, 275, 0, 0), (11, 296, 0, 0), (2, 82, 0, 0), (3, 107, 0, 0), (5, 156, 0, 0), (11, 296, 0, 0), (8, 230, 0, 0), (4, 125, 0, 0), (5, 148, 0, 0), (10, 275, 0, 0), (2, 82, 0, 0), (1, 60, 0, 0), (5, 145, 0, 0), (6, 166, 0, 0), (1, 60, 0, 0), (7, 220, 0, 0), (5, 145, 0, 0), (2, 200, 0, 0), (4, 200, 0, 0), (4, 200, 0, 0), (21, 10926, 603072, 7207018)]
end
section
/-! a method by its number -/
def e_md (k : Nat) : e_MD := e_prog.getD k e_m0
abbrev e_nm (k : Nat) : MethodName := (e_md k).1
abbrev e_mb (k : Nat) : ByteArray := (e_md k).2.1
abbrev e_ml (k : Nat) : Nat := (e_md k).2.2.1
abbrev e_rt (k : Nat) : Option FieldType := (e_md k).2.2.2.1
abbrev e_hh (k : Nat) : List (Nat × Nat × Nat × Nat) := (e_md k).2.2.2.2.1
abbrev e_cd (k : Nat) : List e_I := (e_md k).2.2.2.2.2
def e_rm (k : Nat) : Nat × Nat × Nat × Nat := e_room.getD k (0, 0, 0, 0)
abbrev e_dd (k : Nat) : Nat := (e_rm k).1
abbrev e_ll (k : Nat) : Nat := (e_rm k).2.1
abbrev e_cc (k : Nat) : Nat := (e_rm k).2.2.1
abbrev e_cs (k : Nat) : Nat := (e_rm k).2.2.2
def e_find : List e_I → Nat → Option e_I
  | [], _ => none
  | e :: r, pc => bif Nat.beq e.1 pc then some e else e_find r pc
end
section
/-! what is checked of the program's data, once for each instruction -/
def e_ch : Nat → List Cond
  | 0 => k2_sels lw_privs
  | 1 => tables_1_1
  | 2 => tables_1_2
  | 3 => tables_1_3
  | 4 => tables_1_4
  | 5 => tables_1_5
  | 6 => tables_1_6
  | 7 => tables_1_7
  | 8 => tables_1_8
  | _ => []
theorem e_ch_in (i : Nat) : ∀ w ∈ e_ch i, w ∈ lw_tbl := by
  intro w hw
  show w ∈ k2_sels lw_privs ++ (tables_1_1 ++ (tables_1_2 ++ (tables_1_3 ++ (tables_1_4 ++ (tables_1_5 ++ (tables_1_6 ++ (tables_1_7 ++ tables_1_8)))))))
  simp only [List.mem_append]
  match i, hw with
  | 0, hw => exact Or.inl hw
  | 1, hw => exact Or.inr (Or.inl hw)
  | 2, hw => exact Or.inr (Or.inr (Or.inl hw))
  | 3, hw => exact Or.inr (Or.inr (Or.inr (Or.inl hw)))
  | 4, hw => exact Or.inr (Or.inr (Or.inr (Or.inr (Or.inl hw))))
  | 5, hw => exact Or.inr (Or.inr (Or.inr (Or.inr (Or.inr (Or.inl hw)))))
  | 6, hw => exact Or.inr (Or.inr (Or.inr (Or.inr (Or.inr (Or.inr (Or.inl hw))))))
  | 7, hw => exact Or.inr (Or.inr (Or.inr (Or.inr (Or.inr (Or.inr (Or.inr (Or.inl hw)))))))
  | 8, hw => exact Or.inr (Or.inr (Or.inr (Or.inr (Or.inr (Or.inr (Or.inr (Or.inr hw)))))))
  | (n + 9), hw => exact absurd hw List.not_mem_nil
/-- the word stands at that place, and is one that a call can hand on -/
def e_hw (p : Nat × Nat) (w : Cond) : Bool := decide ((e_ch p.1)[p.2]? = some w) && goodWord w
theorem e_hw_in {p : Nat × Nat} {w : Cond} (h : e_hw p w = true) : w ∈ e_tb := by
  simp only [e_hw, Bool.and_eq_true, decide_eq_true_eq] at h
  exact List.mem_filter.mpr ⟨e_ch_in _ _ (List.mem_of_getElem? h.1), h.2⟩
theorem e_tb_good : GoodIn e_tb e_tb := fun w hw => ⟨hw, good_of_word (List.mem_filter.mp hw).2⟩
/-- how long an instruction is; 0: a switch -/
def e_ln : Instr → Nat
  | .iload _ => 2
  | .lload _ => 2
  | .dload _ => 2
  | .aload _ => 2
  | .istore _ => 2
  | .lstore _ => 2
  | .dstore _ => 2
  | .astore _ => 2
  | .bipush _ => 2
  | .ldc _ => 2
  | .newarray _ => 2
  | .sipush _ => 3
  | .ldc_w _ => 3
  | .ldc2_w _ => 3
  | .getstatic _ => 3
  | .getfield _ => 3
  | .putfield _ => 3
  | .invokevirtual _ => 3
  | .invokestatic _ => 3
  | .invokespecial _ => 3
  | .new _ => 3
  | .anewarray _ => 3
  | .goto _ => 3
  | .ifCond _ _ => 3
  | .if_icmp _ _ => 3
  | .ifnull _ => 3
  | .ifnonnull _ => 3
  | .iinc _ _ => 3
  | .tableswitch _ _ _ _ => 0
  | .lookupswitch _ _ => 0
  | _ => 1
def e_cN (ci : Nat) : String := (e_cls.getD ci ("", e_T [], 0)).1
def e_cT (ci : Nat) : u_T := (e_cls.getD ci ("", e_T [], 0)).2.1
def e_cK (ci : Nat) : Nat := (e_cls.getD ci ("", e_T [], 0)).2.2
def e_ty (ci k : Nat) : FieldType := (parseFieldDescriptor (e_cT ci k).2.2.1).getD .int
/-- a field's kind: 0 int, 1 boolean, 2 long, 3 a reference -/
def e_kd : FieldType → Nat
  | .int => 0
  | .boolean => 1
  | .long => 2
  | .object _ => 3
  | .array _ => 3
  | _ => 9
def e_bad : List String := ["java/lang/invoke/MethodHandle", "java/lang/invoke/VarHandle"]
def e_xnm : List String := ["java/lang/RuntimeException", "java/lang/Exception"]
/-- of a callee z, called in k: room, costs, arguments -/
def e_ckc (k z n c s : Nat) : Bool := Nat.beq c (e_cc z) && Nat.beq s (e_cs z) && Nat.ble (e_dd z + 1) (e_dd k) && Nat.ble (8 + (e_ml z + 11) + e_ll z) (e_ll k) && Nat.beq n (e_npl.getD z 0) && Nat.ble (z + 1) 308
/-- the handlers: each covers the place, its class by the words, behind it a store; none of the names can be cast to another -/
def e_ckh (own : String) (bytes : ByteArray) (pc : Nat) : List (Nat × Nat × Nat × Nat) → List Nat → List (Nat × Nat) → Bool
  | [], [], [] => true
  | q :: qs, ei :: i :: np :: hs, p :: ps => Nat.ble q.1 pc && Nat.ble (pc + 1) q.2.1 && !(Nat.beq q.2.2.2 0) && Nat.ble (ei + 1) e_exc.length &&
      (decide (decode bytes q.2.2.1 = .ok (.astore i, 2)) && Nat.beq np (q.2.2.1 + 2) || Nat.ble i 3 && decide (decode bytes q.2.2.1 = .ok (.astore_n (Fin.ofNat 4 i), 1)) && Nat.beq np (q.2.2.1 + 1)) &&
      e_exc.all (fun E => E == e_exc.getD ei "" || e_nc.contains (E, e_exc.getD ei "")) && e_ckh own bytes pc qs hs ps
  | _, _, _ => false
def e_ckw (k : Nat) (own : String) (en : e_I) : Bool := match en with
  | (_, .ldc ix, _, .int x, _, [p]) => true
  | (_, .ldc ix, _, .retAddr j, _, _) => decide ((e_srefs[j]?).map (fun r => (r.1, r.2.1)) = some (own, ix))
  | (_, .ldc_w ix, _, .int x, _, [p]) => true
  | (_, .ldc_w ix, _, .retAddr j, _, _) => decide ((e_srefs[j]?).map (fun r => (r.1, r.2.1)) = some (own, ix))
  | (_, .ldc2_w ix, _, .long x, _, [p]) => true
  | (_, .getstatic ix, _, .int x, _, [p]) => decide (x = 1)
  | (_, .getstatic ix, _, .retAddr a, [j], [p]) => if a = 40 then true else Nat.beq a (10 + j) && Nat.ble (j + 1) e_sts.length
  | (_, .getfield ix, _, _, [ci, j], [p]) => Nat.beq ci 99 && (Nat.beq j 0 || Nat.beq j 1)
  | (_, .getfield ix, _, _, [ci, j, _], [p]) => Nat.ble (j + 1) (e_cK ci) && Nat.ble (ci + 1) e_cls.length && decide ((e_cT ci j).1 = e_cN ci)
  | (_, .putfield ix, _, _, [ci, j, f, tc], [p]) => Nat.beq tc (e_kd (e_ty ci j)) && Nat.ble (j + 1) (e_cK ci) && Nat.ble (ci + 1) e_cls.length && decide ((e_cT ci j).1 = e_cN ci) &&
      (Nat.beq f 0 && !((e_cT ci j).2.2.2) || Nat.beq f 1 && (e_cT ci j).2.2.2 && decide (own = e_cN ci) && decide ((e_nm k).name = "<init>"))
  | (pc, .goto o, _, _, [t], _) => decide ((pc : Int) + o = (t : Int))
  | (pc, .ifCond _ o, _, _, [t], _) => decide ((pc : Int) + o = (t : Int))
  | (pc, .if_icmp _ o, _, _, [t], _) => decide ((pc : Int) + o = (t : Int))
  | (pc, .ifnull o, _, _, [t], _) => decide ((pc : Int) + o = (t : Int))
  | (pc, .ifnonnull o, _, _, [t], _) => decide ((pc : Int) + o = (t : Int))
  | (pc, .tableswitch d lo hi offs, _, _, t :: ts, _) => decide ((pc : Int) + d = (t : Int)) && decide (offs.toList.map (fun o => (pc : Int) + o) = ts.map (fun (x : Nat) => (x : Int))) && decide (lo + ts.length = hi + 1) && decide (-2147483648 ≤ lo) && decide (hi ≤ 2147483647)
  | (pc, .lookupswitch d qs, _, _, t :: ts, _) => decide ((pc : Int) + d = (t : Int)) && decide (qs.toList.map (fun q => (pc : Int) + q.2) = ts.map (fun (x : Nat) => (x : Int))) && (qs.toList.zip (qs.toList.drop 1)).all (fun (a, next) => a.1 < next.1) && qs.toList.all (fun q => decide (-2147483648 ≤ q.1) && decide (q.1 ≤ 2147483647))
  | (pc, .invokevirtual ix, _, _, z :: n :: _ :: c :: s :: ci :: hs, p1 :: p2 :: p3 :: p4 :: p5 :: ph) => e_ckc k z n c s && decide (e_hh z = []) &&
      (if ci = 99 then decide ((e_nm z).cls = "java/lang/String") else decide ((e_nm z).cls = e_cN ci) && Nat.ble (ci + 1) e_cls.length) && e_ckh own (e_mb k) pc (e_hh k) hs ph
  | (_, .invokestatic ix, _, _, [z, n, fl, c, s], [p1, p2, p3, p4]) => if fl = 3 then true && Nat.ble 200 (e_ll k) && Nat.ble 1 (e_dd k)
      else e_ckc k z n c s && decide (e_hh k = []) && (if fl = 0 then decide (e_hh z = []) else decide (e_hh z ≠ []))
  | (_, .invokespecial ix, _, _, z :: n :: fl :: c :: s :: r, p1 :: p2 :: p3 :: ps) => if fl = 2 then true && Nat.ble 1 (e_dd k) && Nat.ble 40 (e_ll k)
      else e_ckc k z n c s && decide (e_hh z = []) && decide ((e_nm z).name = "<init>") && decide (e_rt z = none) && (match fl, r, ps with
        | 0, [], [p4] => true
        | 1, [j], [] => decide ((e_nest[j]?).map (fun q => (q.1, q.2.1, q.2.2.1)) = some (own, ix, e_nm z))
        | _, _, _ => false)
  | (_, .new ix, _, _, [_, ci], [p1, p2, p3]) => true && Nat.ble (ci + 1) e_cls.length
  | (pc, .new ix, _, _, [_, ei, ic], [p1, p2, p3]) => true && Nat.ble (ei + 1) e_exc.length && decide (e_hh k = []) && Nat.ble 6 (e_dd k) && Nat.ble (8 + (13 * 3 + 42)) (e_ll k) &&
      decide (decode (e_mb k) (pc + 3) = .ok (.dup, 1)) && decide (decode (e_mb k) (pc + 4) = .ok (.invokespecial ic, 3)) && decide (decode (e_mb k) (pc + 7) = .ok (.athrow, 1))
  | (_, .newarray t, _, _, [tag], [p]) => (match t, tag with
      | .int, 0 => true
      | .long, 1 => true
      | .char, 2 => true
      | .double, 3 => true
      | _, _ => false)
  | (_, .anewarray ix, _, _, _, [p]) => true
  | (_, .ldc _, _, _, _, _) => false
  | (_, .ldc_w _, _, _, _, _) => false
  | (_, .ldc2_w _, _, _, _, _) => false
  | (_, .getstatic _, _, _, _, _) => false
  | (_, .getfield _, _, _, _, _) => false
  | (_, .putfield _, _, _, _, _) => false
  | (_, .goto _, _, _, _, _) => false
  | (_, .ifCond _ _, _, _, _, _) => false
  | (_, .if_icmp _ _, _, _, _, _) => false
  | (_, .ifnull _, _, _, _, _) => false
  | (_, .ifnonnull _, _, _, _, _) => false
  | (_, .tableswitch _ _ _ _, _, _, _, _) => false
  | (_, .lookupswitch _ _, _, _, _, _) => false
  | (_, .invokevirtual _, _, _, _, _) => false
  | (_, .invokestatic _, _, _, _, _) => false
  | (_, .invokespecial _, _, _, _, _) => false
  | (_, .new _, _, _, _, _) => false
  | (_, .newarray _, _, _, _, _) => false
  | (_, .anewarray _, _, _, _, _) => false
  | _ => true
def e_ck (k : Nat) (en : e_I) : Bool := decide (decode (e_mb k) en.1 = .ok (en.2.1, en.2.2.1)) && (Nat.beq (e_ln en.2.1) 0 || Nat.beq en.2.2.1 (e_ln en.2.1)) && e_ckw k (e_nm k).cls en
/-- the words that an instruction wants, with their places -/
def e_wdh (own : String) : List (Nat × Nat × Nat × Nat) → List Nat → List (Nat × Nat) → List ((Nat × Nat) × Cond)
  | q :: qs, ei :: _ :: _ :: hs, p :: ps => (p, .classLink own q.2.2.2 (e_exc.getD ei "")) :: e_wdh own qs hs ps
  | _, _, _ => []
def e_wds (k : Nat) (own : String) (en : e_I) : List ((Nat × Nat) × Cond) := match en with
  | (_, .ldc ix, _, .int x, _, [p]) => [(p, .constant own ix x)]
  | (_, .ldc_w ix, _, .int x, _, [p]) => [(p, .constant own ix x)]
  | (_, .ldc2_w ix, _, .long x, _, [p]) => [(p, .constantLong own ix x)]
  | (_, .getstatic ix, _, .int _, _, [p]) => [(p, .fieldLink own ix "java/lang/String" "COMPACT_STRINGS" "Z")]
  | (_, .getstatic ix, _, .retAddr a, [j], [p]) => if a = 40 then [(p, .fieldLink own ix "jdk/internal/util/Preconditions" "SIOOBE_FORMATTER" "Ljava/util/function/BiFunction;")] else [(p, .fieldLink own ix (e_sts.getD j ("", "", [])).1 (e_sts.getD j ("", "", [])).2.1 "[I")]
  | (_, .getfield ix, _, _, [_, j], [p]) => if j = 0 then [(p, .fieldLink own ix "java/lang/String" "coder" "B")] else [(p, .fieldLink own ix "java/lang/String" "value" "[B")]
  | (_, .getfield ix, _, _, [ci, j, _], [p]) => [(p, .fieldLink own ix (e_cN ci) (e_cT ci j).2.1 (e_cT ci j).2.2.1)]
  | (_, .putfield ix, _, _, [ci, j, _, _], [p]) => [(p, .fieldLink own ix (e_cN ci) (e_cT ci j).2.1 (e_cT ci j).2.2.1)]
  | (_, .invokevirtual ix, _, _, z :: _ :: _ :: _ :: _ :: _ :: hs, p1 :: p2 :: p3 :: _ :: p5 :: ph) => (p1, .methodLink own ix (e_nm z)) :: (p2, .instanceMethod (e_nm z)) :: (p3, .selects (e_nm z).cls (e_nm z) (e_nm z)) :: (p5, .initialized (e_nm z).cls) :: e_wdh own (e_hh k) hs ph
  | (_, .invokestatic ix, _, _, [z, _, fl, _, _], [p1, p2, p3, p4]) => if fl = 3 then [(p1, .methodLink own ix arraycopyName), (p2, .native arraycopyName), (p3, .static arraycopyName), (p4, .initialized "java/lang/System")]
      else [(p1, .methodLink own ix (e_nm z)), (p2, .static (e_nm z)), (p3, .initialized (e_nm z).cls)]
  | (_, .invokespecial ix, _, _, z :: _ :: fl :: _ :: _ :: r, p1 :: p2 :: p3 :: ps) => if fl = 2 then [(p1, .methodLink own ix Lib.objectInit), (p2, .instanceMethod Lib.objectInit), (p3, .code Lib.objectInit ⟨#[0xb1]⟩ 1 none)]
      else match r, ps with
        | [], [p4] => [(p1, .methodLink own ix (e_nm z)), (p2, .instanceMethod (e_nm z)), (p4, .initialized (e_nm z).cls)]
        | [_], [] => [(p1, .instanceMethod (e_nm z)), (p3, .initialized (e_nm z).cls)]
        | _, _ => []
  | (_, .new ix, _, _, [_, ci], [p1, p2, p3]) => [(p1, .classLink own ix (e_cN ci)), (p2, .instantiable (e_cN ci) (e_cK ci)), (p3, .initialized (e_cN ci))]
  | (_, .new ix, _, _, [_, ei, ic], [p1, p2, p3]) => [(p1, .classLink own ix (e_exc.getD ei "")), (p2, .initialized (e_exc.getD ei "")), (p3, .methodLink own ic (Bundle.init0 (e_exc.getD ei "")))]
  | (_, .newarray t, _, _, _, [p]) => [(p, .arrayClass (newarray.typeOf t))]
  | (_, .anewarray ix, _, _, _, [p]) => [(p, .classLink own ix "HexCampaign$Game")]
  | _ => []
/-- each of these words stands at its place -/
def e_wok (l : List ((Nat × Nat) × Cond)) : Prop := l.map (fun q => (e_ch q.1.1)[q.1.2]?) = l.map (fun q => some q.2) ∧ l.all (fun q => goodWord q.2) = true
theorem e_wok_in {l : List ((Nat × Nat) × Cond)} (h : e_wok l) : ∀ q ∈ l, q.2 ∈ e_tb := by
  intro q hq
  have h1 : (e_ch q.1.1)[q.1.2]? = some q.2 := (List.map_inj_left.mp h.1) q hq
  exact List.mem_filter.mpr ⟨e_ch_in _ _ (List.mem_of_getElem? h1), List.all_eq_true.mp h.2 q hq⟩
theorem e_find_in {cd : List e_I} {pc : Nat} {en : e_I} (h : e_find cd pc = some en) : en ∈ cd ∧ en.1 = pc := by
  induction cd with
  | nil => cases h
  | cons a r ih =>
    unfold e_find at h
    by_cases ha : Nat.beq a.1 pc = true
    · rw [ha] at h
      cases h
      exact ⟨List.mem_cons_self, Nat.eq_of_beq_eq_true ha⟩
    · have hf : Nat.beq a.1 pc = false := Bool.eq_false_iff.mpr ha
      rw [hf] at h
      exact ⟨List.mem_cons_of_mem _ (ih h).1, (ih h).2⟩
end
section
/-! the code words of all methods but the law stand among the words -/
theorem e_getD {α : Type} {l : List α} {z : Nat} {d : α} (h : z < l.length) : l.getD z d = l[z] := by
  rw [List.getD_eq_getElem?_getD, List.getElem?_eq_getElem h]
  rfl
theorem e_getL {α : Type} {l : List α} {z : Nat} {d : α} (h : z < l.length) : l[z]? = some (l.getD z d) := by rw [e_getD h, List.getElem?_eq_getElem h]
theorem e_memw {i j : Nat} {w : Cond} (h : (e_ch i)[j]? = some w) (hg : goodWord w = true) : w ∈ e_tb := List.mem_filter.mpr ⟨e_ch_in _ _ (List.mem_of_getElem? h), hg⟩
theorem e_cw0 : Cond.code ⟨"HexCampaign$Land", "<init>", "()V"⟩ prog_5_method_1_code 1 none ∈ e_tb := e_memw (i := 1) (j := 55) rfl rfl
theorem e_cw1 : Cond.code ⟨"HexCampaign$Units", "<init>", "()V"⟩ prog_11_method_1_code 1 none ∈ e_tb := e_memw (i := 1) (j := 72) rfl rfl
theorem e_cw2 : Cond.code ⟨"HexCampaign$Game", "<init>", "()V"⟩ prog_2_method_1_code 1 none ∈ e_tb := e_memw (i := 1) (j := 49) rfl rfl
theorem e_cw3 : Cond.code ⟨"HexCampaign$Waves", "<init>", "()V"⟩ prog_12_method_1_code 1 none ∈ e_tb := e_memw (i := 1) (j := 159) rfl rfl
theorem e_cw4 : Cond.code ⟨"HexCampaign$Play", "<init>", "()V"⟩ prog_8_method_1_code 1 none ∈ e_tb := e_memw (i := 1) (j := 43) rfl rfl
theorem e_cw5 : Cond.code ⟨"HexCampaign$History", "<init>", "()V"⟩ prog_4_method_1_code 2 none ∈ e_tb := e_memw (i := 1) (j := 209) rfl rfl
theorem e_cw6 : Cond.code ⟨"HexCampaign$Report", "<init>", "()V"⟩ prog_9_method_1_code 1 none ∈ e_tb := e_memw (i := 1) (j := 228) rfl rfl
theorem e_cw7 : Cond.code ⟨"HexCampaign$MapInput", "<init>", "()V"⟩ prog_7_method_1_code 1 none ∈ e_tb := e_memw (i := 2) (j := 4) rfl rfl
theorem e_cw8 : Cond.code ⟨"HexCampaign$Land", "clear", "()V"⟩ prog_5_method_2_code 2 none ∈ e_tb := e_memw (i := 2) (j := 21) rfl rfl
theorem e_cw9 : Cond.code ⟨"HexCampaign$Units", "beginTurn", "()V"⟩ prog_11_method_4_code 1 none ∈ e_tb := e_memw (i := 2) (j := 30) rfl rfl
theorem e_cw10 : Cond.code ⟨"HexCampaign$Row", "clear", "([I)V"⟩ prog_10_method_5_code 2 none ∈ e_tb := e_memw (i := 2) (j := 33) rfl rfl
theorem e_cw11 : Cond.code ⟨"HexCampaign$Units", "clear", "()V"⟩ prog_11_method_2_code 1 none ∈ e_tb := e_memw (i := 2) (j := 26) rfl rfl
theorem e_cw12 : Cond.code ⟨"HexCampaign$Game", "begin", "(I)V"⟩ prog_2_method_2_code 2 none ∈ e_tb := e_memw (i := 2) (j := 17) rfl rfl
theorem e_cw13 : Cond.code ⟨"HexCampaign", "<init>", "()V"⟩ prog_1_method_1_code 1 none ∈ e_tb := e_memw (i := 1) (j := 35) rfl rfl
theorem e_cw14 : Cond.code ⟨"java/lang/Integer", "bitCount", "(I)I"⟩ prog_24_method_49_code 1 (some .int) ∈ e_tb := e_memw (i := 2) (j := 66) rfl rfl
theorem e_cw15 : Cond.code ⟨"HexCampaign$Units", "howMany", "()I"⟩ prog_11_method_10_code 1 (some .int) ∈ e_tb := e_memw (i := 2) (j := 63) rfl rfl
theorem e_cw16 : Cond.code ⟨"HexCampaign$History", "forget", "()V"⟩ prog_4_method_3_code 1 none ∈ e_tb := e_memw (i := 2) (j := 73) rfl rfl
theorem e_cw17 : Cond.code ⟨"HexCampaign", "start", "(I)I"⟩ prog_1_method_2_code 3 (some .int) ∈ e_tb := e_memw (i := 2) (j := 59) rfl rfl
theorem e_cw18 : Cond.code ⟨"HexCampaign$History", "keptAt", "(I)LHexCampaign$Game;"⟩ prog_4_method_6_code 2 (some (.object "HexCampaign$Game")) ∈ e_tb := e_memw (i := 2) (j := 85) rfl rfl
theorem e_cw19 : Cond.code ⟨"HexCampaign$Row", "copySets", "([J[J)V"⟩ prog_10_method_8_code 3 none ∈ e_tb := e_memw (i := 2) (j := 96) rfl rfl
theorem e_cw20 : Cond.code ⟨"HexCampaign$Land", "copyFrom", "(LHexCampaign$Land;)V"⟩ prog_5_method_3_code 2 none ∈ e_tb := e_memw (i := 2) (j := 93) rfl rfl
theorem e_cw21 : Cond.code ⟨"HexCampaign$Row", "copy", "([I[I)V"⟩ prog_10_method_6_code 3 none ∈ e_tb := e_memw (i := 2) (j := 103) rfl rfl
theorem e_cw22 : Cond.code ⟨"HexCampaign$Units", "copyFrom", "(LHexCampaign$Units;)V"⟩ prog_11_method_3_code 2 none ∈ e_tb := e_memw (i := 2) (j := 100) rfl rfl
theorem e_cw23 : Cond.code ⟨"HexCampaign$Game", "copyFrom", "(LHexCampaign$Game;)V"⟩ prog_2_method_3_code 2 none ∈ e_tb := e_memw (i := 2) (j := 89) rfl rfl
theorem e_cw24 : Cond.code ⟨"java/lang/Math", "min", "(II)I"⟩ prog_25_method_69_code 2 (some .int) ∈ e_tb := e_memw (i := 2) (j := 106) rfl rfl
theorem e_cw25 : Cond.code ⟨"HexCampaign$History", "keep", "(LHexCampaign$Game;)V"⟩ prog_4_method_4_code 3 none ∈ e_tb := e_memw (i := 2) (j := 81) rfl rfl
theorem e_cw26 : Cond.code ⟨"HexCampaign$Units", "ownedBy", "(I)I"⟩ prog_11_method_12_code 2 (some .int) ∈ e_tb := e_memw (i := 2) (j := 114) rfl rfl
theorem e_cw27 : Cond.code ⟨"HexCampaign$Units", "has", "(II)Z"⟩ prog_11_method_6_code 2 (some .boolean) ∈ e_tb := e_memw (i := 2) (j := 131) rfl rfl
theorem e_cw28 : Cond.code ⟨"HexCampaign$Hexes", "only", "(I)J"⟩ prog_3_method_2_code 1 (some .long) ∈ e_tb := e_memw (i := 2) (j := 134) rfl rfl
theorem e_cw29 : Cond.code ⟨"HexCampaign$Units", "placesOf", "(I)J"⟩ prog_11_method_25_code 5 (some .long) ∈ e_tb := e_memw (i := 2) (j := 128) rfl rfl
theorem e_cw30 : Cond.code ⟨"HexCampaign$Row", "readSet", "([JI)J"⟩ prog_10_method_7_code 2 (some .long) ∈ e_tb := e_memw (i := 2) (j := 141) rfl rfl
theorem e_cw31 : Cond.code ⟨"HexCampaign$Land", "waters", "()J"⟩ prog_5_method_9_code 1 (some .long) ∈ e_tb := e_memw (i := 2) (j := 138) rfl rfl
theorem e_cw32 : Cond.code ⟨"HexCampaign$Hexes", "around", "(J)J"⟩ prog_3_method_5_code 8 (some .long) ∈ e_tb := e_memw (i := 2) (j := 148) rfl rfl
theorem e_cw33 : Cond.code ⟨"HexCampaign$Land", "zoneAround", "(J)J"⟩ prog_5_method_15_code 3 (some .long) ∈ e_tb := e_memw (i := 2) (j := 145) rfl rfl
theorem e_cw34 : Cond.code ⟨"HexCampaign$Game", "closedFor", "(I)J"⟩ prog_2_method_12_code 6 (some .long) ∈ e_tb := e_memw (i := 2) (j := 123) rfl rfl
theorem e_cw35 : Cond.code ⟨"HexCampaign$Land", "roads", "()J"⟩ prog_5_method_7_code 1 (some .long) ∈ e_tb := e_memw (i := 2) (j := 166) rfl rfl
theorem e_cw36 : Cond.code ⟨"HexCampaign$Row", "read", "([II)I"⟩ prog_10_method_2_code 2 (some .int) ∈ e_tb := e_memw (i := 2) (j := 178) rfl rfl
theorem e_cw37 : Cond.code ⟨"HexCampaign$Land", "priceOf", "(II)I"⟩ prog_5_method_13_code 2 (some .int) ∈ e_tb := e_memw (i := 2) (j := 173) rfl rfl
theorem e_cw38 : Cond.code ⟨"HexCampaign$Land", "enteredFor", "(II)J"⟩ prog_5_method_12_code 6 (some .long) ∈ e_tb := e_memw (i := 2) (j := 170) rfl rfl
theorem e_cw39 : Cond.code ⟨"HexCampaign$Waves", "layOut", "(LHexCampaign$Land;I)V"⟩ prog_12_method_2_code 4 none ∈ e_tb := e_memw (i := 2) (j := 162) rfl rfl
theorem e_cw40 : Cond.code ⟨"HexCampaign$Land", "sourcesOf", "(I)J"⟩ prog_5_method_8_code 2 (some .long) ∈ e_tb := e_memw (i := 2) (j := 182) rfl rfl
theorem e_cw41 : Cond.code ⟨"HexCampaign$Waves", "stepsFrom", "(JIJ)J"⟩ prog_12_method_5_code 8 (some .long) ∈ e_tb := e_memw (i := 2) (j := 197) rfl rfl
theorem e_cw42 : Cond.code ⟨"HexCampaign$Waves", "arrivals", "(I)J"⟩ prog_12_method_4_code 9 (some .long) ∈ e_tb := e_memw (i := 2) (j := 190) rfl rfl
theorem e_cw43 : Cond.code ⟨"HexCampaign$Waves", "flood", "(JJJJ)V"⟩ prog_12_method_3_code 15 none ∈ e_tb := e_memw (i := 2) (j := 186) rfl rfl
theorem e_cw44 : Cond.code ⟨"HexCampaign$Waves", "within", "(I)J"⟩ prog_12_method_7_code 5 (some .long) ∈ e_tb := e_memw (i := 2) (j := 202) rfl rfl
theorem e_cw45 : Cond.code ⟨"HexCampaign$Play", "suppliedCells", "(I)J"⟩ prog_8_method_2_code 4 (some .long) ∈ e_tb := e_memw (i := 2) (j := 119) rfl rfl
theorem e_cw46 : Cond.code ⟨"HexCampaign$Hexes", "has", "(JI)Z"⟩ prog_3_method_3_code 3 (some .boolean) ∈ e_tb := e_memw (i := 2) (j := 209) rfl rfl
theorem e_cw47 : Cond.code ⟨"HexCampaign$Units", "only", "(I)I"⟩ prog_11_method_5_code 1 (some .int) ∈ e_tb := e_memw (i := 2) (j := 212) rfl rfl
theorem e_cw48 : Cond.code ⟨"HexCampaign$Units", "standingIn", "(J)I"⟩ prog_11_method_24_code 5 (some .int) ∈ e_tb := e_memw (i := 2) (j := 206) rfl rfl
theorem e_cw49 : Cond.code ⟨"HexCampaign$Units", "sideOf", "(I)I"⟩ prog_11_method_13_code 2 (some .int) ∈ e_tb := e_memw (i := 2) (j := 221) rfl rfl
theorem e_cw50 : Cond.code ⟨"HexCampaign$Units", "strengthOf", "(I)I"⟩ prog_11_method_15_code 2 (some .int) ∈ e_tb := e_memw (i := 2) (j := 229) rfl rfl
theorem e_cw51 : Cond.code ⟨"HexCampaign$Row", "write", "([III)V"⟩ prog_10_method_3_code 3 none ∈ e_tb := e_memw (i := 2) (j := 233) rfl rfl
theorem e_cw52 : Cond.code ⟨"HexCampaign$Row", "increase", "([III)V"⟩ prog_10_method_4_code 3 none ∈ e_tb := e_memw (i := 2) (j := 236) rfl rfl
theorem e_cw53 : Cond.code ⟨"HexCampaign$Units", "weaken", "(II)I"⟩ prog_11_method_38_code 4 (some .int) ∈ e_tb := e_memw (i := 2) (j := 225) rfl rfl
theorem e_cw54 : Cond.code ⟨"HexCampaign$Units", "loseUnsupplied", "(II)V"⟩ prog_11_method_37_code 3 none ∈ e_tb := e_memw (i := 2) (j := 217) rfl rfl
theorem e_cw55 : Cond.code ⟨"HexCampaign$Game", "changeWeather", "()V"⟩ prog_2_method_14_code 2 none ∈ e_tb := e_memw (i := 3) (j := 5) rfl rfl
theorem e_cw56 : Cond.code ⟨"HexCampaign$Game", "passTurn", "()V"⟩ prog_2_method_13_code 1 none ∈ e_tb := e_memw (i := 3) (j := 0) rfl rfl
theorem e_cw57 : Cond.code ⟨"HexCampaign$Play", "finishTurn", "()I"⟩ prog_8_method_24_code 5 (some .int) ∈ e_tb := e_memw (i := 2) (j := 110) rfl rfl
theorem e_cw58 : Cond.code ⟨"HexCampaign", "endTurn", "()I"⟩ prog_1_method_22_code 1 (some .int) ∈ e_tb := e_memw (i := 2) (j := 77) rfl rfl
theorem e_cw59 : Cond.code ⟨"HexCampaign", "save", "()I"⟩ prog_1_method_30_code 1 (some .int) ∈ e_tb := e_memw (i := 3) (j := 10) rfl rfl
theorem e_cw60 : Cond.code ⟨"HexCampaign", "checkCell", "(I)V"⟩ prog_1_method_33_code 1 none ∈ e_tb := e_memw (i := 3) (j := 103) rfl rfl
theorem e_cw61 : Cond.code ⟨"HexCampaign$Units", "on", "(I)I"⟩ prog_11_method_23_code 2 (some .int) ∈ e_tb := e_memw (i := 3) (j := 143) rfl rfl
theorem e_cw62 : Cond.code ⟨"HexCampaign$Land", "terrainAt", "(I)I"⟩ prog_5_method_4_code 3 (some .int) ∈ e_tb := e_memw (i := 3) (j := 163) rfl rfl
theorem e_cw63 : Cond.code ⟨"HexCampaign$Land", "shape", "(IIZ)V"⟩ prog_5_method_5_code 7 none ∈ e_tb := e_memw (i := 3) (j := 168) rfl rfl
theorem e_cw64 : Cond.code ⟨"HexCampaign", "setTerrain", "(IIZ)I"⟩ prog_1_method_3_code 5 (some .int) ∈ e_tb := e_memw (i := 3) (j := 100) rfl rfl
theorem e_cw65 : Cond.codeWith ⟨"HexCampaignLaw", "setTerrain", "(LHexCampaign;IIZ[J)I"⟩ method_3_code 6 (some .int) [(0, 12, 15, 13), (0, 12, 19, 15), (0, 12, 23, 17)] ∈ e_tb := e_memw (i := 3) (j := 14) rfl rfl
theorem e_cw66 : Cond.code ⟨"HexCampaign", "checkSide", "(I)V"⟩ prog_1_method_34_code 1 none ∈ e_tb := e_memw (i := 3) (j := 179) rfl rfl
theorem e_cw67 : Cond.code ⟨"HexCampaign$Land", "markSource", "(IIZ)V"⟩ prog_5_method_6_code 6 none ∈ e_tb := e_memw (i := 3) (j := 185) rfl rfl
theorem e_cw68 : Cond.code ⟨"HexCampaign", "setSource", "(IIZ)Z"⟩ prog_1_method_4_code 5 (some .boolean) ∈ e_tb := e_memw (i := 3) (j := 176) rfl rfl
theorem e_cw69 : Cond.codeWith ⟨"HexCampaignLaw", "setSource", "(LHexCampaign;IIZ[J)I"⟩ method_4_code 6 (some .int) [(0, 19, 22, 13)] ∈ e_tb := e_memw (i := 3) (j := 172) rfl rfl
theorem e_cw70 : Cond.code ⟨"HexCampaign", "set", "(ZI)I"⟩ prog_1_method_5_code 5 (some .int) ∈ e_tb := e_memw (i := 3) (j := 192) rfl rfl
theorem e_cw71 : Cond.codeWith ⟨"HexCampaignLaw", "set", "(LHexCampaign;ZI[J)I"⟩ method_5_code 5 (some .int) [(0, 10, 13, 15)] ∈ e_tb := e_memw (i := 3) (j := 188) rfl rfl
theorem e_cw72 : Cond.code ⟨"HexCampaign", "oneIf", "(Z)I"⟩ prog_1_method_32_code 1 (some .int) ∈ e_tb := e_memw (i := 3) (j := 203) rfl rfl
theorem e_cw73 : Cond.code ⟨"HexCampaign$Units", "strengthsOf", "(I)I"⟩ prog_11_method_26_code 4 (some .int) ∈ e_tb := e_memw (i := 3) (j := 207) rfl rfl
theorem e_cw74 : Cond.code ⟨"HexCampaign", "cell", "(II)I"⟩ prog_1_method_6_code 3 (some .int) ∈ e_tb := e_memw (i := 3) (j := 199) rfl rfl
theorem e_cw75 : Cond.codeWith ⟨"HexCampaignLaw", "cell", "(LHexCampaign;II[J)I"⟩ method_6_code 5 (some .int) [(0, 10, 13, 13), (0, 10, 17, 15)] ∈ e_tb := e_memw (i := 3) (j := 195) rfl rfl
theorem e_cw76 : Cond.code ⟨"HexCampaign$Hexes", "at", "(II)I"⟩ prog_3_method_7_code 3 (some .int) ∈ e_tb := e_memw (i := 3) (j := 221) rfl rfl
theorem e_cw77 : Cond.code ⟨"HexCampaign$Hexes", "beside", "(II)I"⟩ prog_3_method_6_code 5 (some .int) ∈ e_tb := e_memw (i := 3) (j := 218) rfl rfl
theorem e_cw78 : Cond.code ⟨"HexCampaign", "neighbor", "(II)I"⟩ prog_1_method_7_code 4 (some .int) ∈ e_tb := e_memw (i := 3) (j := 215) rfl rfl
theorem e_cw79 : Cond.codeWith ⟨"HexCampaignLaw", "neighbor", "(LHexCampaign;II[J)I"⟩ method_7_code 5 (some .int) [(0, 10, 13, 13), (0, 10, 17, 34)] ∈ e_tb := e_memw (i := 3) (j := 210) rfl rfl
theorem e_cw80 : Cond.code ⟨"HexCampaign$Hexes", "slant", "(I)I"⟩ prog_3_method_9_code 1 (some .int) ∈ e_tb := e_memw (i := 4) (j := 9) rfl rfl
theorem e_cw81 : Cond.code ⟨"java/lang/Math", "abs", "(I)I"⟩ prog_25_method_59_code 1 (some .int) ∈ e_tb := e_memw (i := 4) (j := 12) rfl rfl
theorem e_cw82 : Cond.code ⟨"java/lang/Math", "max", "(II)I"⟩ prog_25_method_65_code 2 (some .int) ∈ e_tb := e_memw (i := 4) (j := 15) rfl rfl
theorem e_cw83 : Cond.code ⟨"HexCampaign$Hexes", "apart", "(II)I"⟩ prog_3_method_8_code 4 (some .int) ∈ e_tb := e_memw (i := 4) (j := 6) rfl rfl
theorem e_cw84 : Cond.code ⟨"HexCampaign", "distance", "(II)I"⟩ prog_1_method_8_code 3 (some .int) ∈ e_tb := e_memw (i := 4) (j := 3) rfl rfl
theorem e_cw85 : Cond.codeWith ⟨"HexCampaignLaw", "distance", "(LHexCampaign;II[J)I"⟩ method_8_code 5 (some .int) [(0, 10, 13, 13)] ∈ e_tb := e_memw (i := 3) (j := 239) rfl rfl
theorem e_cw86 : Cond.code ⟨"HexCampaign$Game", "sightRange", "()I"⟩ prog_2_method_4_code 1 (some .int) ∈ e_tb := e_memw (i := 4) (j := 26) rfl rfl
theorem e_cw87 : Cond.code ⟨"HexCampaign", "count", "(I)I"⟩ prog_1_method_9_code 2 (some .int) ∈ e_tb := e_memw (i := 4) (j := 22) rfl rfl
theorem e_cw88 : Cond.codeWith ⟨"HexCampaignLaw", "count", "(LHexCampaign;I[J)I"⟩ method_9_code 4 (some .int) [(0, 9, 12, 15)] ∈ e_tb := e_memw (i := 4) (j := 18) rfl rfl
theorem e_cw89 : Cond.code ⟨"HexCampaign$Units", "isFull", "()Z"⟩ prog_11_method_8_code 1 (some .boolean) ∈ e_tb := e_memw (i := 4) (j := 40) rfl rfl
theorem e_cw90 : Cond.code ⟨"HexCampaign$Units", "all", "()I"⟩ prog_11_method_11_code 1 (some .int) ∈ e_tb := e_memw (i := 4) (j := 44) rfl rfl
theorem e_cw91 : Cond.code ⟨"HexCampaign$Units", "isRoomAt", "(IIII)Z"⟩ prog_11_method_27_code 6 (some .boolean) ∈ e_tb := e_memw (i := 4) (j := 48) rfl rfl
theorem e_cw92 : Cond.code ⟨"HexCampaign$Units", "enlist", "(IIII)I"⟩ prog_11_method_32_code 6 (some .int) ∈ e_tb := e_memw (i := 4) (j := 54) rfl rfl
theorem e_cw93 : Cond.code ⟨"HexCampaign", "add", "(IIII)I"⟩ prog_1_method_10_code 5 (some .int) ∈ e_tb := e_memw (i := 4) (j := 36) rfl rfl
theorem e_cw94 : Cond.codeWith ⟨"HexCampaignLaw", "add", "(LHexCampaign;IIII[J)I"⟩ method_10_code 7 (some .int) [(0, 14, 17, 13), (0, 14, 21, 15), (0, 14, 25, 17)] ∈ e_tb := e_memw (i := 4) (j := 32) rfl rfl
theorem e_cw95 : Cond.code ⟨"HexCampaign$Units", "exists", "(I)Z"⟩ prog_11_method_9_code 2 (some .boolean) ∈ e_tb := e_memw (i := 4) (j := 69) rfl rfl
theorem e_cw96 : Cond.code ⟨"HexCampaign", "checkUnit", "(I)V"⟩ prog_1_method_35_code 2 none ∈ e_tb := e_memw (i := 4) (j := 65) rfl rfl
theorem e_cw97 : Cond.code ⟨"HexCampaign$Units", "placeOf", "(I)I"⟩ prog_11_method_14_code 2 (some .int) ∈ e_tb := e_memw (i := 4) (j := 74) rfl rfl
theorem e_cw98 : Cond.code ⟨"HexCampaign$Units", "movementOf", "(I)I"⟩ prog_11_method_16_code 2 (some .int) ∈ e_tb := e_memw (i := 4) (j := 79) rfl rfl
theorem e_cw99 : Cond.code ⟨"HexCampaign$Play", "isSupplied", "(I)Z"⟩ prog_8_method_4_code 2 (some .boolean) ∈ e_tb := e_memw (i := 4) (j := 87) rfl rfl
theorem e_cw100 : Cond.code ⟨"HexCampaign$Units", "halfOf", "(I)I"⟩ prog_11_method_31_code 1 (some .int) ∈ e_tb := e_memw (i := 4) (j := 98) rfl rfl
theorem e_cw101 : Cond.code ⟨"HexCampaign$Units", "allowanceOf", "(IZ)I"⟩ prog_11_method_30_code 3 (some .int) ∈ e_tb := e_memw (i := 4) (j := 94) rfl rfl
theorem e_cw102 : Cond.code ⟨"HexCampaign$Play", "allowanceOf", "(I)I"⟩ prog_8_method_5_code 2 (some .int) ∈ e_tb := e_memw (i := 4) (j := 83) rfl rfl
theorem e_cw103 : Cond.code ⟨"HexCampaign$Units", "forceOf", "(IZ)I"⟩ prog_11_method_29_code 3 (some .int) ∈ e_tb := e_memw (i := 4) (j := 103) rfl rfl
theorem e_cw104 : Cond.code ⟨"HexCampaign$Units", "attackedAlready", "()I"⟩ prog_11_method_22_code 1 (some .int) ∈ e_tb := e_memw (i := 4) (j := 116) rfl rfl
theorem e_cw105 : Cond.code ⟨"HexCampaign$Game", "canAttack", "(I)Z"⟩ prog_2_method_6_code 2 (some .boolean) ∈ e_tb := e_memw (i := 4) (j := 111) rfl rfl
theorem e_cw106 : Cond.code ⟨"HexCampaign$Units", "hasMoved", "(I)Z"⟩ prog_11_method_21_code 2 (some .boolean) ∈ e_tb := e_memw (i := 4) (j := 121) rfl rfl
theorem e_cw107 : Cond.code ⟨"HexCampaign$Game", "canMove", "(I)Z"⟩ prog_2_method_5_code 2 (some .boolean) ∈ e_tb := e_memw (i := 4) (j := 107) rfl rfl
theorem e_cw108 : Cond.code ⟨"HexCampaign$Land", "upToHeight", "(I)J"⟩ prog_5_method_11_code 5 (some .long) ∈ e_tb := e_memw (i := 4) (j := 139) rfl rfl
theorem e_cw109 : Cond.code ⟨"HexCampaign$Land", "inSight", "(IIJ)J"⟩ prog_5_method_17_code 13 (some .long) ∈ e_tb := e_memw (i := 4) (j := 142) rfl rfl
theorem e_cw110 : Cond.code ⟨"HexCampaign$Land", "seenFrom", "(II)J"⟩ prog_5_method_16_code 11 (some .long) ∈ e_tb := e_memw (i := 4) (j := 132) rfl rfl
theorem e_cw111 : Cond.code ⟨"HexCampaign$Game", "seenBy", "(I)J"⟩ prog_2_method_10_code 7 (some .long) ∈ e_tb := e_memw (i := 4) (j := 126) rfl rfl
theorem e_cw112 : Cond.code ⟨"HexCampaign", "unit", "(II)I"⟩ prog_1_method_11_code 4 (some .int) ∈ e_tb := e_memw (i := 4) (j := 61) rfl rfl
theorem e_cw113 : Cond.codeWith ⟨"HexCampaignLaw", "unit", "(LHexCampaign;II[J)I"⟩ method_11_code 5 (some .int) [(0, 10, 13, 13), (0, 10, 17, 15)] ∈ e_tb := e_memw (i := 4) (j := 57) rfl rfl
theorem e_cw114 : Cond.code ⟨"HexCampaign$Game", "knownTo", "(I)I"⟩ prog_2_method_11_code 2 (some .int) ∈ e_tb := e_memw (i := 4) (j := 153) rfl rfl
theorem e_cw115 : Cond.code ⟨"HexCampaign", "known", "(I)I"⟩ prog_1_method_12_code 2 (some .int) ∈ e_tb := e_memw (i := 4) (j := 149) rfl rfl
theorem e_cw116 : Cond.codeWith ⟨"HexCampaignLaw", "known", "(LHexCampaign;I[J)I"⟩ method_12_code 4 (some .int) [(0, 9, 12, 13)] ∈ e_tb := e_memw (i := 4) (j := 145) rfl rfl
theorem e_cw117 : Cond.code ⟨"HexCampaign$Game", "zoneOf", "(I)J"⟩ prog_2_method_9_code 2 (some .long) ∈ e_tb := e_memw (i := 4) (j := 166) rfl rfl
theorem e_cw118 : Cond.code ⟨"HexCampaign", "cells", "(II)J"⟩ prog_1_method_13_code 3 (some .long) ∈ e_tb := e_memw (i := 4) (j := 162) rfl rfl
theorem e_cw119 : Cond.codeWith ⟨"HexCampaignLaw", "cells", "(LHexCampaign;II[J)I"⟩ method_13_code 5 (some .int) [(0, 9, 12, 13), (0, 9, 16, 15)] ∈ e_tb := e_memw (i := 4) (j := 158) rfl rfl
theorem e_cw120 : Cond.code ⟨"HexCampaign", "isSeen", "(II)Z"⟩ prog_1_method_14_code 3 (some .boolean) ∈ e_tb := e_memw (i := 4) (j := 175) rfl rfl
theorem e_cw121 : Cond.codeWith ⟨"HexCampaignLaw", "isSeen", "(LHexCampaign;II[J)I"⟩ method_14_code 5 (some .int) [(0, 17, 20, 13)] ∈ e_tb := e_memw (i := 4) (j := 171) rfl rfl
theorem e_cw122 : Cond.code ⟨"HexCampaign$Waves", "costOf", "(I)I"⟩ prog_12_method_6_code 3 (some .int) ∈ e_tb := e_memw (i := 4) (j := 191) rfl rfl
theorem e_cw123 : Cond.code ⟨"HexCampaign$Play", "supplyCostAt", "(II)I"⟩ prog_8_method_3_code 3 (some .int) ∈ e_tb := e_memw (i := 4) (j := 187) rfl rfl
theorem e_cw124 : Cond.code ⟨"HexCampaign", "supplyCost", "(II)I"⟩ prog_1_method_15_code 4 (some .int) ∈ e_tb := e_memw (i := 4) (j := 183) rfl rfl
theorem e_cw125 : Cond.codeWith ⟨"HexCampaignLaw", "supplyCost", "(LHexCampaign;II[J)I"⟩ method_15_code 5 (some .int) [(0, 10, 13, 13), (0, 10, 17, 34)] ∈ e_tb := e_memw (i := 4) (j := 179) rfl rfl
theorem e_cw126 : Cond.code ⟨"HexCampaign$Play", "floodWays", "(I)V"⟩ prog_8_method_8_code 12 none ∈ e_tb := e_memw (i := 4) (j := 207) rfl rfl
theorem e_cw127 : Cond.code ⟨"HexCampaign$Play", "unitsInSight", "(I)I"⟩ prog_8_method_13_code 3 (some .int) ∈ e_tb := e_memw (i := 4) (j := 216) rfl rfl
theorem e_cw128 : Cond.code ⟨"HexCampaign$Units", "isRoomFor", "(III)Z"⟩ prog_11_method_28_code 4 (some .boolean) ∈ e_tb := e_memw (i := 4) (j := 220) rfl rfl
theorem e_cw129 : Cond.code ⟨"HexCampaign$Play", "reachOf", "(II)J"⟩ prog_8_method_11_code 9 (some .long) ∈ e_tb := e_memw (i := 4) (j := 203) rfl rfl
theorem e_cw130 : Cond.code ⟨"HexCampaign", "reach", "(I)J"⟩ prog_1_method_16_code 2 (some .long) ∈ e_tb := e_memw (i := 4) (j := 199) rfl rfl
theorem e_cw131 : Cond.codeWith ⟨"HexCampaignLaw", "reach", "(LHexCampaign;I[J)I"⟩ method_16_code 4 (some .int) [(0, 8, 11, 13)] ∈ e_tb := e_memw (i := 4) (j := 195) rfl rfl
theorem e_cw132 : Cond.code ⟨"HexCampaign$Waves", "usefulAfter", "(II)J"⟩ prog_12_method_11_code 5 (some .long) ∈ e_tb := e_memw (i := 5) (j := 10) rfl rfl
theorem e_cw133 : Cond.code ⟨"HexCampaign$Waves", "departures", "(I)J"⟩ prog_12_method_10_code 7 (some .long) ∈ e_tb := e_memw (i := 5) (j := 6) rfl rfl
theorem e_cw134 : Cond.code ⟨"HexCampaign$Waves", "markUseful", "(II)V"⟩ prog_12_method_9_code 4 none ∈ e_tb := e_memw (i := 5) (j := 1) rfl rfl
theorem e_cw135 : Cond.code ⟨"HexCampaign$Hexes", "lowest", "(J)I"⟩ prog_3_method_4_code 3 (some .int) ∈ e_tb := e_memw (i := 5) (j := 17) rfl rfl
theorem e_cw136 : Cond.code ⟨"HexCampaign$Waves", "nextOnWay", "(II)I"⟩ prog_12_method_12_code 8 (some .int) ∈ e_tb := e_memw (i := 5) (j := 14) rfl rfl
theorem e_cw137 : Cond.code ⟨"HexCampaign$Waves", "trace", "(II)V"⟩ prog_12_method_8_code 5 none ∈ e_tb := e_memw (i := 4) (j := 236) rfl rfl
theorem e_cw138 : Cond.code ⟨"HexCampaign$Play", "findWay", "(II)I"⟩ prog_8_method_9_code 5 (some .int) ∈ e_tb := e_memw (i := 4) (j := 232) rfl rfl
theorem e_cw139 : Cond.code ⟨"HexCampaign", "cost", "(II)I"⟩ prog_1_method_17_code 4 (some .int) ∈ e_tb := e_memw (i := 4) (j := 228) rfl rfl
theorem e_cw140 : Cond.codeWith ⟨"HexCampaignLaw", "cost", "(LHexCampaign;II[J)I"⟩ method_17_code 5 (some .int) [(0, 10, 13, 13), (0, 10, 17, 34)] ∈ e_tb := e_memw (i := 4) (j := 224) rfl rfl
theorem e_cw141 : Cond.code ⟨"HexCampaign$Waves", "trailAt", "(I)I"⟩ prog_12_method_14_code 2 (some .int) ∈ e_tb := e_memw (i := 5) (j := 33) rfl rfl
theorem e_cw142 : Cond.code ⟨"HexCampaign$Play", "wayAt", "(I)I"⟩ prog_8_method_10_code 2 (some .int) ∈ e_tb := e_memw (i := 5) (j := 29) rfl rfl
theorem e_cw143 : Cond.code ⟨"HexCampaign", "way", "(III)I"⟩ prog_1_method_18_code 5 (some .int) ∈ e_tb := e_memw (i := 5) (j := 25) rfl rfl
theorem e_cw144 : Cond.codeWith ⟨"HexCampaignLaw", "way", "(LHexCampaign;III[J)I"⟩ method_18_code 6 (some .int) [(0, 12, 15, 13), (0, 12, 19, 34)] ∈ e_tb := e_memw (i := 5) (j := 21) rfl rfl
theorem e_cw145 : Cond.code ⟨"HexCampaign$Play", "isRoomInSight", "(II)Z"⟩ prog_8_method_12_code 3 (some .boolean) ∈ e_tb := e_memw (i := 5) (j := 47) rfl rfl
theorem e_cw146 : Cond.code ⟨"HexCampaign$Report", "append", "(II)V"⟩ prog_9_method_3_code 3 none ∈ e_tb := e_memw (i := 5) (j := 55) rfl rfl
theorem e_cw147 : Cond.code ⟨"HexCampaign$Report", "begin", "(I)V"⟩ prog_9_method_2_code 2 none ∈ e_tb := e_memw (i := 5) (j := 51) rfl rfl
theorem e_cw148 : Cond.code ⟨"HexCampaign", "explainRefusal", "(IIIZ)V"⟩ prog_1_method_37_code 6 none ∈ e_tb := e_memw (i := 5) (j := 60) rfl rfl
theorem e_cw149 : Cond.code ⟨"HexCampaign$Waves", "steps", "()I"⟩ prog_12_method_13_code 1 (some .int) ∈ e_tb := e_memw (i := 5) (j := 90) rfl rfl
theorem e_cw150 : Cond.code ⟨"HexCampaign$Play", "stopOf", "(I)I"⟩ prog_8_method_15_code 9 (some .int) ∈ e_tb := e_memw (i := 5) (j := 86) rfl rfl
theorem e_cw151 : Cond.code ⟨"HexCampaign$Play", "backToRoom", "(II)I"⟩ prog_8_method_16_code 4 (some .int) ∈ e_tb := e_memw (i := 5) (j := 94) rfl rfl
theorem e_cw152 : Cond.code ⟨"HexCampaign$Units", "noteMove", "(I)V"⟩ prog_11_method_34_code 2 none ∈ e_tb := e_memw (i := 5) (j := 99) rfl rfl
theorem e_cw153 : Cond.code ⟨"HexCampaign$Units", "placeAt", "(II)V"⟩ prog_11_method_33_code 3 none ∈ e_tb := e_memw (i := 5) (j := 103) rfl rfl
theorem e_cw154 : Cond.code ⟨"HexCampaign$Play", "march", "(I)V"⟩ prog_8_method_14_code 3 none ∈ e_tb := e_memw (i := 5) (j := 82) rfl rfl
theorem e_cw155 : Cond.code ⟨"HexCampaign", "move", "(II)I"⟩ prog_1_method_19_code 6 (some .int) ∈ e_tb := e_memw (i := 5) (j := 42) rfl rfl
theorem e_cw156 : Cond.codeWith ⟨"HexCampaignLaw", "move", "(LHexCampaign;II[J)I"⟩ method_19_code 5 (some .int) [(0, 10, 13, 13), (0, 10, 17, 15), (0, 10, 21, 17), (0, 10, 25, 78)] ∈ e_tb := e_memw (i := 5) (j := 37) rfl rfl
theorem e_cw157 : Cond.code ⟨"HexCampaign$Game", "attackersOn", "(I)I"⟩ prog_2_method_7_code 2 (some .int) ∈ e_tb := e_memw (i := 5) (j := 118) rfl rfl
theorem e_cw158 : Cond.code ⟨"HexCampaign$Game", "defendersOn", "(I)I"⟩ prog_2_method_8_code 2 (some .int) ∈ e_tb := e_memw (i := 5) (j := 123) rfl rfl
theorem e_cw159 : Cond.code ⟨"HexCampaign", "checkAttack", "(II)V"⟩ prog_1_method_36_code 3 none ∈ e_tb := e_memw (i := 5) (j := 114) rfl rfl
theorem e_cw160 : Cond.code ⟨"HexCampaign$Play", "sumOfForces", "(IJ)I"⟩ prog_8_method_7_code 6 (some .int) ∈ e_tb := e_memw (i := 5) (j := 132) rfl rfl
theorem e_cw161 : Cond.code ⟨"HexCampaign$Land", "coverAt", "(I)I"⟩ prog_5_method_10_code 2 (some .int) ∈ e_tb := e_memw (i := 5) (j := 137) rfl rfl
theorem e_cw162 : Cond.code ⟨"HexCampaign$Play", "defenseAt", "(I)I"⟩ prog_8_method_18_code 3 (some .int) ∈ e_tb := e_memw (i := 5) (j := 127) rfl rfl
theorem e_cw163 : Cond.code ⟨"HexCampaign$Play", "attackFrom", "(I)I"⟩ prog_8_method_17_code 3 (some .int) ∈ e_tb := e_memw (i := 5) (j := 143) rfl rfl
theorem e_cw164 : Cond.code ⟨"HexCampaign", "odds", "(IIZ)I"⟩ prog_1_method_20_code 4 (some .int) ∈ e_tb := e_memw (i := 5) (j := 110) rfl rfl
theorem e_cw165 : Cond.codeWith ⟨"HexCampaignLaw", "odds", "(LHexCampaign;IIZ[J)I"⟩ method_20_code 6 (some .int) [(0, 12, 15, 13), (0, 12, 19, 15), (0, 12, 23, 34)] ∈ e_tb := e_memw (i := 5) (j := 106) rfl rfl
theorem e_cw166 : Cond.code ⟨"HexCampaign$Units", "noteAttack", "(I)V"⟩ prog_11_method_35_code 2 none ∈ e_tb := e_memw (i := 5) (j := 161) rfl rfl
theorem e_cw167 : Cond.code ⟨"HexCampaign$Units", "loseInAttack", "(II)V"⟩ prog_11_method_36_code 3 none ∈ e_tb := e_memw (i := 5) (j := 169) rfl rfl
theorem e_cw168 : Cond.code ⟨"HexCampaign$Play", "loseEach", "(I)V"⟩ prog_8_method_20_code 3 none ∈ e_tb := e_memw (i := 5) (j := 165) rfl rfl
theorem e_cw169 : Cond.code ⟨"HexCampaign$Land", "stepCost", "(III)I"⟩ prog_5_method_14_code 5 (some .int) ∈ e_tb := e_memw (i := 5) (j := 189) rfl rfl
theorem e_cw170 : Cond.code ⟨"HexCampaign$Play", "isBetterRefuge", "(IIII)Z"⟩ prog_8_method_23_code 8 (some .boolean) ∈ e_tb := e_memw (i := 5) (j := 184) rfl rfl
theorem e_cw171 : Cond.code ⟨"HexCampaign$Play", "refugeOf", "(II)I"⟩ prog_8_method_22_code 12 (some .int) ∈ e_tb := e_memw (i := 5) (j := 178) rfl rfl
theorem e_cw172 : Cond.code ⟨"HexCampaign$Play", "retreatEach", "(II)V"⟩ prog_8_method_21_code 5 none ∈ e_tb := e_memw (i := 5) (j := 173) rfl rfl
theorem e_cw173 : Cond.code ⟨"HexCampaign$Units", "lowest", "(I)I"⟩ prog_11_method_7_code 2 (some .int) ∈ e_tb := e_memw (i := 5) (j := 192) rfl rfl
theorem e_cw174 : Cond.code ⟨"HexCampaign$Play", "fight", "(II)I"⟩ prog_8_method_19_code 7 (some .int) ∈ e_tb := e_memw (i := 5) (j := 155) rfl rfl
theorem e_cw175 : Cond.code ⟨"HexCampaign", "attack", "(II)I"⟩ prog_1_method_21_code 3 (some .int) ∈ e_tb := e_memw (i := 5) (j := 151) rfl rfl
theorem e_cw176 : Cond.codeWith ⟨"HexCampaignLaw", "attack", "(LHexCampaign;II[J)I"⟩ method_21_code 5 (some .int) [(0, 10, 13, 13), (0, 10, 17, 15), (0, 10, 21, 34)] ∈ e_tb := e_memw (i := 5) (j := 147) rfl rfl
theorem e_cw177 : Cond.code ⟨"HexCampaign$Units", "addedBy", "(I)I"⟩ prog_11_method_17_code 2 (some .int) ∈ e_tb := e_memw (i := 5) (j := 203) rfl rfl
theorem e_cw178 : Cond.code ⟨"HexCampaign$Units", "lostInAttacksBy", "(I)I"⟩ prog_11_method_18_code 2 (some .int) ∈ e_tb := e_memw (i := 5) (j := 207) rfl rfl
theorem e_cw179 : Cond.code ⟨"HexCampaign$Units", "lostUnsuppliedBy", "(I)I"⟩ prog_11_method_19_code 2 (some .int) ∈ e_tb := e_memw (i := 5) (j := 211) rfl rfl
theorem e_cw180 : Cond.code ⟨"HexCampaign$Units", "removedFrom", "(I)I"⟩ prog_11_method_20_code 2 (some .int) ∈ e_tb := e_memw (i := 5) (j := 215) rfl rfl
theorem e_cw181 : Cond.code ⟨"HexCampaign", "account", "(II)I"⟩ prog_1_method_23_code 4 (some .int) ∈ e_tb := e_memw (i := 5) (j := 199) rfl rfl
theorem e_cw182 : Cond.codeWith ⟨"HexCampaignLaw", "account", "(LHexCampaign;II[J)I"⟩ method_22_code 5 (some .int) [(0, 10, 13, 13), (0, 10, 17, 15)] ∈ e_tb := e_memw (i := 5) (j := 195) rfl rfl
theorem e_cw183 : Cond.code ⟨"HexCampaign$Play", "forcesOf", "(I)I"⟩ prog_8_method_6_code 2 (some .int) ∈ e_tb := e_memw (i := 6) (j := 0) rfl rfl
theorem e_cw184 : Cond.code ⟨"HexCampaign", "balance", "()D"⟩ prog_1_method_24_code 5 (some .double) ∈ e_tb := e_memw (i := 5) (j := 236) rfl rfl
theorem e_cw185 : Cond.codeWith ⟨"HexCampaignLaw", "balance", "(LHexCampaign;[D)I"⟩ method_23_code 3 (some .int) [(0, 7, 10, 93)] ∈ e_tb := e_memw (i := 5) (j := 218) rfl rfl
theorem e_cw186 : Cond.code ⟨"HexCampaign$Report", "levels", "()I"⟩ prog_9_method_4_code 1 (some .int) ∈ e_tb := e_memw (i := 6) (j := 16) rfl rfl
theorem e_cw187 : Cond.code ⟨"HexCampaign$Report", "codeOf", "(I)I"⟩ prog_9_method_5_code 2 (some .int) ∈ e_tb := e_memw (i := 6) (j := 20) rfl rfl
theorem e_cw188 : Cond.code ⟨"HexCampaign$Report", "detailOf", "(I)I"⟩ prog_9_method_6_code 2 (some .int) ∈ e_tb := e_memw (i := 6) (j := 25) rfl rfl
theorem e_cw189 : Cond.code ⟨"HexCampaign", "report", "(II)I"⟩ prog_1_method_25_code 3 (some .int) ∈ e_tb := e_memw (i := 6) (j := 12) rfl rfl
theorem e_cw190 : Cond.codeWith ⟨"HexCampaignLaw", "report", "(LHexCampaign;II[J)I"⟩ method_24_code 5 (some .int) [(0, 10, 13, 34), (0, 10, 17, 15)] ∈ e_tb := e_memw (i := 6) (j := 8) rfl rfl
theorem e_cw191 : Cond.code ⟨"HexCampaign$MapInput", "isFull", "()Z"⟩ prog_7_method_2_code 1 (some .boolean) ∈ e_tb := e_memw (i := 6) (j := 36) rfl rfl
theorem e_cw192 : Cond.code ⟨"HexCampaign$MapInput", "append", "(C)I"⟩ prog_7_method_3_code 2 (some .int) ∈ e_tb := e_memw (i := 6) (j := 40) rfl rfl
theorem e_cw193 : Cond.code ⟨"HexCampaign", "feed", "(C)I"⟩ prog_1_method_26_code 2 (some .int) ∈ e_tb := e_memw (i := 6) (j := 32) rfl rfl
theorem e_cw194 : Cond.codeWith ⟨"HexCampaignLaw", "feed", "(LHexCampaign;C[J)I"⟩ method_25_code 4 (some .int) [(0, 9, 12, 17)] ∈ e_tb := e_memw (i := 6) (j := 28) rfl rfl
theorem e_cw195 : Cond.code ⟨"HexCampaign$Letters", "cellAt", "(I)I"⟩ prog_6_method_2_code 2 (some .int) ∈ e_tb := e_memw (i := 6) (j := 57) rfl rfl
theorem e_cw196 : Cond.code ⟨"java/lang/String", "coder", "()B"⟩ prog_27_method_152_code 1 (some .byte) ∈ e_tb := e_memw (i := 6) (j := 72) rfl rfl
theorem e_cw197 : Cond.code ⟨"java/lang/String", "length", "()I"⟩ prog_27_method_54_code 1 (some .int) ∈ e_tb := e_memw (i := 6) (j := 68) rfl rfl
theorem e_cw198 : Cond.code ⟨"java/lang/String", "isLatin1", "()Z"⟩ prog_27_method_154_code 1 (some .boolean) ∈ e_tb := e_memw (i := 6) (j := 82) rfl rfl
theorem e_cw199 : Cond.code ⟨"jdk/internal/util/Preconditions", "checkIndex", "(IILjava/util/function/BiFunction;)I"⟩ prog_36_method_11_code 3 (some .int) ∈ e_tb := e_memw (i := 6) (j := 93) rfl rfl
theorem e_cw200 : Cond.code ⟨"java/lang/String", "checkIndex", "(II)V"⟩ prog_27_method_155_code 2 none ∈ e_tb := e_memw (i := 6) (j := 88) rfl rfl
theorem e_cw201 : Cond.code ⟨"java/lang/StringLatin1", "charAt", "([BI)C"⟩ prog_28_method_2_code 2 (some .char) ∈ e_tb := e_memw (i := 6) (j := 85) rfl rfl
theorem e_cw202 : Cond.code ⟨"java/lang/String", "charAt", "(I)C"⟩ prog_27_method_56_code 2 (some .char) ∈ e_tb := e_memw (i := 6) (j := 78) rfl rfl
theorem e_cw203 : Cond.code ⟨"HexCampaign$Letters", "placeIn", "(Ljava/lang/String;C)I"⟩ prog_6_method_6_code 3 (some .int) ∈ e_tb := e_memw (i := 6) (j := 64) rfl rfl
theorem e_cw204 : Cond.code ⟨"HexCampaign$Letters", "terrainOf", "(C)I"⟩ prog_6_method_4_code 2 (some .int) ∈ e_tb := e_memw (i := 6) (j := 60) rfl rfl
theorem e_cw205 : Cond.code ⟨"HexCampaign$MapInput", "canStandAt", "(IC)Z"⟩ prog_7_method_6_code 2 (some .boolean) ∈ e_tb := e_memw (i := 6) (j := 54) rfl rfl
theorem e_cw206 : Cond.code ⟨"HexCampaign$MapInput", "errorPosition", "()I"⟩ prog_7_method_5_code 2 (some .int) ∈ e_tb := e_memw (i := 6) (j := 51) rfl rfl
theorem e_cw207 : Cond.code ⟨"HexCampaign$MapInput", "letters", "()I"⟩ prog_7_method_7_code 1 (some .int) ∈ e_tb := e_memw (i := 6) (j := 117) rfl rfl
theorem e_cw208 : Cond.code ⟨"HexCampaign$MapInput", "waters", "()J"⟩ prog_7_method_8_code 5 (some .long) ∈ e_tb := e_memw (i := 6) (j := 121) rfl rfl
theorem e_cw209 : Cond.code ⟨"HexCampaign$Letters", "hasRoad", "(C)Z"⟩ prog_6_method_5_code 1 (some .boolean) ∈ e_tb := e_memw (i := 6) (j := 130) rfl rfl
theorem e_cw210 : Cond.code ⟨"HexCampaign$MapInput", "shapeAll", "(LHexCampaign$Land;)V"⟩ prog_7_method_9_code 4 none ∈ e_tb := e_memw (i := 6) (j := 127) rfl rfl
theorem e_cw211 : Cond.code ⟨"HexCampaign$MapInput", "clear", "()V"⟩ prog_7_method_4_code 1 none ∈ e_tb := e_memw (i := 6) (j := 135) rfl rfl
theorem e_cw212 : Cond.code ⟨"HexCampaign", "readMap", "()I"⟩ prog_1_method_27_code 4 (some .int) ∈ e_tb := e_memw (i := 6) (j := 47) rfl rfl
theorem e_cw213 : Cond.codeWith ⟨"HexCampaignLaw", "readMap", "(LHexCampaign;[J)I"⟩ method_26_code 3 (some .int) [(0, 8, 11, 17)] ∈ e_tb := e_memw (i := 6) (j := 43) rfl rfl
theorem e_cw214 : Cond.code ⟨"HexCampaign$Letters", "letterOf", "(IZ)C"⟩ prog_6_method_3_code 3 (some .char) ∈ e_tb := e_memw (i := 6) (j := 146) rfl rfl
theorem e_cw215 : Cond.code ⟨"HexCampaign", "text", "(I)C"⟩ prog_1_method_28_code 3 (some .char) ∈ e_tb := e_memw (i := 6) (j := 142) rfl rfl
theorem e_cw216 : Cond.codeWith ⟨"HexCampaignLaw", "text", "(LHexCampaign;I[J)I"⟩ method_27_code 4 (some .int) [(0, 9, 12, 13)] ∈ e_tb := e_memw (i := 6) (j := 138) rfl rfl
theorem e_cw217 : Cond.code ⟨"HexCampaign$History", "held", "()I"⟩ prog_4_method_2_code 1 (some .int) ∈ e_tb := e_memw (i := 6) (j := 157) rfl rfl
theorem e_cw218 : Cond.code ⟨"HexCampaign$History", "takeBack", "(LHexCampaign$Game;)V"⟩ prog_4_method_5_code 4 none ∈ e_tb := e_memw (i := 6) (j := 161) rfl rfl
theorem e_cw219 : Cond.code ⟨"HexCampaign", "undo", "()I"⟩ prog_1_method_29_code 1 (some .int) ∈ e_tb := e_memw (i := 6) (j := 153) rfl rfl
theorem e_cw220 : Cond.codeWith ⟨"HexCampaignLaw", "undo", "(LHexCampaign;[J)I"⟩ method_28_code 3 (some .int) [(0, 8, 11, 17)] ∈ e_tb := e_memw (i := 6) (j := 149) rfl rfl
theorem e_cw221 : Cond.code ⟨"HexCampaign", "restore", "()I"⟩ prog_1_method_31_code 1 (some .int) ∈ e_tb := e_memw (i := 6) (j := 168) rfl rfl
theorem e_cw222 : Cond.codeWith ⟨"HexCampaignLaw", "restore", "(LHexCampaign;[J)I"⟩ method_29_code 3 (some .int) [(0, 8, 11, 17)] ∈ e_tb := e_memw (i := 6) (j := 164) rfl rfl
theorem e_cw223 : Cond.code ⟨"HexCampaignModel", "<init>", "()V"⟩ prog_14_method_1_code 1 none ∈ e_tb := e_memw (i := 6) (j := 173) rfl rfl
theorem e_cw224 : Cond.code ⟨"HexCampaignModel", "thrown", "()I"⟩ prog_14_method_2_code 1 (some .int) ∈ e_tb := e_memw (i := 6) (j := 233) rfl rfl
theorem e_cw225 : Cond.code ⟨"HexCampaignModel", "in", "(III)Z"⟩ prog_14_method_3_code 3 (some .boolean) ∈ e_tb := e_memw (i := 7) (j := 8) rfl rfl
theorem e_cw226 : Cond.code ⟨"HexCampaignModel", "of", "(II)I"⟩ prog_14_method_7_code 3 (some .int) ∈ e_tb := e_memw (i := 7) (j := 12) rfl rfl
theorem e_cw227 : Cond.code ⟨"HexCampaignModel", "isUnit", "(I)Z"⟩ prog_14_method_9_code 2 (some .boolean) ∈ e_tb := e_memw (i := 7) (j := 5) rfl rfl
theorem e_cw228 : Cond.code ⟨"HexCampaignModel", "unitCount", "()I"⟩ prog_14_method_12_code 3 (some .int) ∈ e_tb := e_memw (i := 7) (j := 1) rfl rfl
theorem e_cw229 : Cond.code ⟨"HexCampaignModel", "start", "(I)I"⟩ prog_14_method_13_code 4 (some .int) ∈ e_tb := e_memw (i := 6) (j := 237) rfl rfl
theorem e_cw230 : Cond.code ⟨"HexCampaignModel", "isCell", "(I)Z"⟩ prog_14_method_4_code 1 (some .boolean) ∈ e_tb := e_memw (i := 7) (j := 19) rfl rfl
theorem e_cw231 : Cond.code ⟨"HexCampaignModel", "unitsOn", "(I)I"⟩ prog_14_method_14_code 4 (some .int) ∈ e_tb := e_memw (i := 7) (j := 23) rfl rfl
theorem e_cw232 : Cond.code ⟨"HexCampaignModel", "change", "()V"⟩ prog_14_method_11_code 1 none ∈ e_tb := e_memw (i := 7) (j := 27) rfl rfl
theorem e_cw233 : Cond.code ⟨"HexCampaignModel", "setTerrain", "(IIZ)I"⟩ prog_14_method_15_code 5 (some .int) ∈ e_tb := e_memw (i := 7) (j := 16) rfl rfl
theorem e_cw234 : Cond.code ⟨"HexCampaignModel", "isSide", "(I)Z"⟩ prog_14_method_5_code 1 (some .boolean) ∈ e_tb := e_memw (i := 7) (j := 37) rfl rfl
theorem e_cw235 : Cond.code ⟨"HexCampaignModel", "setSource", "(IIZ)Z"⟩ prog_14_method_16_code 5 (some .boolean) ∈ e_tb := e_memw (i := 7) (j := 34) rfl rfl
theorem e_cw236 : Cond.code ⟨"HexCampaignModel", "set", "(ZI)I"⟩ prog_14_method_17_code 5 (some .int) ∈ e_tb := e_memw (i := 7) (j := 41) rfl rfl
theorem e_cw237 : Cond.code ⟨"HexCampaignModel", "strengthOn", "(I)I"⟩ prog_14_method_18_code 4 (some .int) ∈ e_tb := e_memw (i := 7) (j := 49) rfl rfl
theorem e_cw238 : Cond.code ⟨"HexCampaignModel", "cell", "(II)I"⟩ prog_14_method_19_code 3 (some .int) ∈ e_tb := e_memw (i := 7) (j := 45) rfl rfl
theorem e_cw239 : Cond.code ⟨"HexCampaignModel", "next", "(II)I"⟩ prog_14_method_20_code 6 (some .int) ∈ e_tb := e_memw (i := 7) (j := 56) rfl rfl
theorem e_cw240 : Cond.code ⟨"HexCampaignModel", "neighbor", "(II)I"⟩ prog_14_method_22_code 3 (some .int) ∈ e_tb := e_memw (i := 7) (j := 53) rfl rfl
theorem e_cw241 : Cond.code ⟨"HexCampaignModel", "has", "(JI)Z"⟩ prog_14_method_6_code 3 (some .boolean) ∈ e_tb := e_memw (i := 7) (j := 66) rfl rfl
theorem e_cw242 : Cond.code ⟨"HexCampaignModel", "around", "(J)J"⟩ prog_14_method_23_code 6 (some .long) ∈ e_tb := e_memw (i := 7) (j := 69) rfl rfl
theorem e_cw243 : Cond.code ⟨"HexCampaignModel", "steps", "(II)I"⟩ prog_14_method_24_code 5 (some .int) ∈ e_tb := e_memw (i := 7) (j := 63) rfl rfl
theorem e_cw244 : Cond.code ⟨"HexCampaignModel", "distance", "(II)I"⟩ prog_14_method_25_code 3 (some .int) ∈ e_tb := e_memw (i := 7) (j := 60) rfl rfl
theorem e_cw245 : Cond.code ⟨"HexCampaignModel", "count", "(I)I"⟩ prog_14_method_26_code 2 (some .int) ∈ e_tb := e_memw (i := 7) (j := 73) rfl rfl
theorem e_cw246 : Cond.code ⟨"HexCampaignModel", "isOf", "(II)Z"⟩ prog_14_method_10_code 3 (some .boolean) ∈ e_tb := e_memw (i := 7) (j := 91) rfl rfl
theorem e_cw247 : Cond.code ⟨"HexCampaignModel", "sees", "(II)Z"⟩ prog_14_method_32_code 10 (some .boolean) ∈ e_tb := e_memw (i := 7) (j := 95) rfl rfl
theorem e_cw248 : Cond.code ⟨"HexCampaignModel", "seenBy", "(I)J"⟩ prog_14_method_33_code 6 (some .long) ∈ e_tb := e_memw (i := 7) (j := 87) rfl rfl
theorem e_cw249 : Cond.code ⟨"HexCampaignModel", "knownTo", "(I)I"⟩ prog_14_method_34_code 6 (some .int) ∈ e_tb := e_memw (i := 7) (j := 83) rfl rfl
theorem e_cw250 : Cond.code ⟨"HexCampaignModel", "known", "(I)I"⟩ prog_14_method_35_code 2 (some .int) ∈ e_tb := e_memw (i := 7) (j := 79) rfl rfl
theorem e_cw251 : Cond.code ⟨"HexCampaignModel", "isSeen", "(II)Z"⟩ prog_14_method_36_code 3 (some .boolean) ∈ e_tb := e_memw (i := 7) (j := 103) rfl rfl
theorem e_cw252 : Cond.code ⟨"HexCampaignModel", "unitsOf", "(I)I"⟩ prog_14_method_30_code 4 (some .int) ∈ e_tb := e_memw (i := 7) (j := 111) rfl rfl
theorem e_cw253 : Cond.code ⟨"HexCampaignModel", "cellsOf", "(I)J"⟩ prog_14_method_29_code 5 (some .long) ∈ e_tb := e_memw (i := 7) (j := 119) rfl rfl
theorem e_cw254 : Cond.code ⟨"HexCampaignModel", "zone", "(I)J"⟩ prog_14_method_31_code 5 (some .long) ∈ e_tb := e_memw (i := 7) (j := 115) rfl rfl
theorem e_cw255 : Cond.code ⟨"HexCampaignModel", "sources", "(I)J"⟩ prog_14_method_38_code 5 (some .long) ∈ e_tb := e_memw (i := 7) (j := 123) rfl rfl
theorem e_cw256 : Cond.code ⟨"HexCampaignModel", "closed", "(I)J"⟩ prog_14_method_39_code 5 (some .long) ∈ e_tb := e_memw (i := 7) (j := 127) rfl rfl
theorem e_cw257 : Cond.code ⟨"HexCampaignModel", "stepCost", "(II)I"⟩ prog_14_method_37_code 3 (some .int) ∈ e_tb := e_memw (i := 7) (j := 140) rfl rfl
theorem e_cw258 : Cond.code ⟨"HexCampaignModel", "findSupply", "(I)V"⟩ prog_14_method_40_code 10 none ∈ e_tb := e_memw (i := 7) (j := 135) rfl rfl
theorem e_cw259 : Cond.code ⟨"HexCampaignModel", "suppliedCells", "(I)J"⟩ prog_14_method_43_code 5 (some .long) ∈ e_tb := e_memw (i := 7) (j := 131) rfl rfl
theorem e_cw260 : Cond.code ⟨"HexCampaignModel", "cells", "(II)J"⟩ prog_14_method_44_code 3 (some .long) ∈ e_tb := e_memw (i := 7) (j := 107) rfl rfl
theorem e_cw261 : Cond.code ⟨"HexCampaignModel", "supplyCost", "(II)I"⟩ prog_14_method_45_code 3 (some .int) ∈ e_tb := e_memw (i := 7) (j := 146) rfl rfl
theorem e_cw262 : Cond.code ⟨"HexCampaignModel", "hasRoom", "(IIIII)Z"⟩ prog_14_method_27_code 10 (some .boolean) ∈ e_tb := e_memw (i := 7) (j := 154) rfl rfl
theorem e_cw263 : Cond.code ⟨"HexCampaignModel", "unitAt", "(II)I"⟩ prog_14_method_8_code 2 (some .int) ∈ e_tb := e_memw (i := 7) (j := 157) rfl rfl
theorem e_cw264 : Cond.code ⟨"HexCampaignModel", "add", "(IIII)I"⟩ prog_14_method_46_code 6 (some .int) ∈ e_tb := e_memw (i := 7) (j := 150) rfl rfl
theorem e_cw265 : Cond.code ⟨"HexCampaignModel", "isSupplied", "(I)Z"⟩ prog_14_method_41_code 2 (some .boolean) ∈ e_tb := e_memw (i := 7) (j := 169) rfl rfl
theorem e_cw266 : Cond.code ⟨"HexCampaignModel", "reduced", "(II)I"⟩ prog_14_method_42_code 3 (some .int) ∈ e_tb := e_memw (i := 7) (j := 165) rfl rfl
theorem e_cw267 : Cond.code ⟨"HexCampaignModel", "canAttack", "(I)Z"⟩ prog_14_method_47_code 2 (some .boolean) ∈ e_tb := e_memw (i := 7) (j := 177) rfl rfl
theorem e_cw268 : Cond.code ⟨"HexCampaignModel", "canMove", "(I)Z"⟩ prog_14_method_48_code 2 (some .boolean) ∈ e_tb := e_memw (i := 7) (j := 173) rfl rfl
theorem e_cw269 : Cond.code ⟨"HexCampaignModel", "unit", "(II)I"⟩ prog_14_method_49_code 3 (some .int) ∈ e_tb := e_memw (i := 7) (j := 161) rfl rfl
theorem e_cw270 : Cond.code ⟨"HexCampaignModel", "isStep", "(III)Z"⟩ prog_14_method_50_code 5 (some .boolean) ∈ e_tb := e_memw (i := 7) (j := 189) rfl rfl
theorem e_cw271 : Cond.code ⟨"HexCampaignModel", "findWays", "(I)V"⟩ prog_14_method_51_code 8 none ∈ e_tb := e_memw (i := 7) (j := 185) rfl rfl
theorem e_cw272 : Cond.code ⟨"HexCampaignModel", "canReach", "(III)Z"⟩ prog_14_method_52_code 5 (some .boolean) ∈ e_tb := e_memw (i := 7) (j := 193) rfl rfl
theorem e_cw273 : Cond.code ⟨"HexCampaignModel", "reach", "(I)J"⟩ prog_14_method_53_code 6 (some .long) ∈ e_tb := e_memw (i := 7) (j := 181) rfl rfl
theorem e_cw274 : Cond.code ⟨"HexCampaignModel", "hasWay", "(II)Z"⟩ prog_14_method_56_code 3 (some .boolean) ∈ e_tb := e_memw (i := 7) (j := 201) rfl rfl
theorem e_cw275 : Cond.code ⟨"HexCampaignModel", "cost", "(II)I"⟩ prog_14_method_57_code 3 (some .int) ∈ e_tb := e_memw (i := 7) (j := 197) rfl rfl
theorem e_cw276 : Cond.code ⟨"HexCampaignModel", "isTight", "(III)Z"⟩ prog_14_method_54_code 4 (some .boolean) ∈ e_tb := e_memw (i := 7) (j := 213) rfl rfl
theorem e_cw277 : Cond.code ⟨"HexCampaignModel", "findWay", "(II)V"⟩ prog_14_method_55_code 11 none ∈ e_tb := e_memw (i := 7) (j := 209) rfl rfl
theorem e_cw278 : Cond.code ⟨"HexCampaignModel", "way", "(III)I"⟩ prog_14_method_58_code 4 (some .int) ∈ e_tb := e_memw (i := 7) (j := 205) rfl rfl
theorem e_cw279 : Cond.code ⟨"HexCampaignModel", "refuse", "(III)V"⟩ prog_14_method_59_code 6 none ∈ e_tb := e_memw (i := 7) (j := 222) rfl rfl
theorem e_cw280 : Cond.code ⟨"HexCampaignModel", "hasRoomFor", "(II)Z"⟩ prog_14_method_28_code 3 (some .boolean) ∈ e_tb := e_memw (i := 7) (j := 226) rfl rfl
theorem e_cw281 : Cond.code ⟨"HexCampaignModel", "move", "(II)I"⟩ prog_14_method_60_code 11 (some .int) ∈ e_tb := e_memw (i := 7) (j := 218) rfl rfl
theorem e_cw282 : Cond.code ⟨"HexCampaignModel", "areNeighbors", "(II)Z"⟩ prog_14_method_21_code 4 (some .boolean) ∈ e_tb := e_memw (i := 7) (j := 237) rfl rfl
theorem e_cw283 : Cond.code ⟨"HexCampaignModel", "attackers", "(I)I"⟩ prog_14_method_61_code 4 (some .int) ∈ e_tb := e_memw (i := 8) (j := 1) rfl rfl
theorem e_cw284 : Cond.code ⟨"HexCampaignModel", "attacked", "(I)I"⟩ prog_14_method_62_code 4 (some .int) ∈ e_tb := e_memw (i := 8) (j := 5) rfl rfl
theorem e_cw285 : Cond.code ⟨"HexCampaignModel", "whyNoAttack", "(II)I"⟩ prog_14_method_66_code 3 (some .int) ∈ e_tb := e_memw (i := 7) (j := 234) rfl rfl
theorem e_cw286 : Cond.code ⟨"HexCampaignModel", "forces", "(I)I"⟩ prog_14_method_63_code 4 (some .int) ∈ e_tb := e_memw (i := 8) (j := 13) rfl rfl
theorem e_cw287 : Cond.code ⟨"HexCampaignModel", "defenseOf", "(I)I"⟩ prog_14_method_65_code 2 (some .int) ∈ e_tb := e_memw (i := 8) (j := 9) rfl rfl
theorem e_cw288 : Cond.code ⟨"HexCampaignModel", "attackFrom", "(I)I"⟩ prog_14_method_64_code 2 (some .int) ∈ e_tb := e_memw (i := 8) (j := 19) rfl rfl
theorem e_cw289 : Cond.code ⟨"HexCampaignModel", "odds", "(IIZ)I"⟩ prog_14_method_67_code 4 (some .int) ∈ e_tb := e_memw (i := 7) (j := 230) rfl rfl
theorem e_cw290 : Cond.code ⟨"HexCampaignModel", "lose", "(III)V"⟩ prog_14_method_68_code 6 none ∈ e_tb := e_memw (i := 8) (j := 31) rfl rfl
theorem e_cw291 : Cond.code ⟨"HexCampaignModel", "loseAll", "(IZ)V"⟩ prog_14_method_69_code 5 none ∈ e_tb := e_memw (i := 8) (j := 27) rfl rfl
theorem e_cw292 : Cond.code ⟨"HexCampaignModel", "retreat", "(II)V"⟩ prog_14_method_70_code 14 none ∈ e_tb := e_memw (i := 8) (j := 35) rfl rfl
theorem e_cw293 : Cond.code ⟨"HexCampaignModel", "attack", "(II)I"⟩ prog_14_method_71_code 8 (some .int) ∈ e_tb := e_memw (i := 8) (j := 23) rfl rfl
theorem e_cw294 : Cond.code ⟨"HexCampaignModel", "endTurn", "()I"⟩ prog_14_method_72_code 5 (some .int) ∈ e_tb := e_memw (i := 8) (j := 39) rfl rfl
theorem e_cw295 : Cond.code ⟨"HexCampaignModel", "strengthOf", "(I)I"⟩ prog_14_method_73_code 4 (some .int) ∈ e_tb := e_memw (i := 8) (j := 48) rfl rfl
theorem e_cw296 : Cond.code ⟨"HexCampaignModel", "account", "(II)I"⟩ prog_14_method_74_code 6 (some .int) ∈ e_tb := e_memw (i := 8) (j := 44) rfl rfl
theorem e_cw297 : Cond.code ⟨"HexCampaignModel", "balance", "()D"⟩ prog_14_method_75_code 1 (some .double) ∈ e_tb := e_memw (i := 8) (j := 52) rfl rfl
theorem e_cw298 : Cond.code ⟨"HexCampaignModel", "report", "(II)I"⟩ prog_14_method_76_code 3 (some .int) ∈ e_tb := e_memw (i := 8) (j := 56) rfl rfl
theorem e_cw299 : Cond.code ⟨"HexCampaignModel", "feed", "(C)I"⟩ prog_14_method_77_code 2 (some .int) ∈ e_tb := e_memw (i := 8) (j := 60) rfl rfl
theorem e_cw300 : Cond.code ⟨"HexCampaignModel", "kindOf", "(C)I"⟩ prog_14_method_78_code 2 (some .int) ∈ e_tb := e_memw (i := 8) (j := 71) rfl rfl
theorem e_cw301 : Cond.code ⟨"HexCampaignModel", "goodLength", "()I"⟩ prog_14_method_79_code 4 (some .int) ∈ e_tb := e_memw (i := 8) (j := 68) rfl rfl
theorem e_cw302 : Cond.code ⟨"HexCampaignModel", "cellAt", "(I)I"⟩ prog_14_method_80_code 1 (some .int) ∈ e_tb := e_memw (i := 8) (j := 76) rfl rfl
theorem e_cw303 : Cond.code ⟨"HexCampaignModel", "readMap", "()I"⟩ prog_14_method_81_code 7 (some .int) ∈ e_tb := e_memw (i := 8) (j := 64) rfl rfl
theorem e_cw304 : Cond.code ⟨"HexCampaignModel", "text", "(I)C"⟩ prog_14_method_82_code 3 (some .char) ∈ e_tb := e_memw (i := 8) (j := 80) rfl rfl
theorem e_cw305 : Cond.code ⟨"HexCampaignModel", "undo", "()I"⟩ prog_14_method_83_code 1 (some .int) ∈ e_tb := e_memw (i := 8) (j := 84) rfl rfl
theorem e_cw306 : Cond.code ⟨"HexCampaignModel", "save", "()I"⟩ prog_14_method_84_code 1 (some .int) ∈ e_tb := e_memw (i := 8) (j := 88) rfl rfl
theorem e_cw307 : Cond.code ⟨"HexCampaignModel", "restore", "()I"⟩ prog_14_method_85_code 1 (some .int) ∈ e_tb := e_memw (i := 8) (j := 92) rfl rfl
theorem e_cwa0 : ∀ w ∈ (e_cwords.drop 0).take 22, w ∈ e_tb := List.forall_mem_cons.mpr ⟨e_cw0, List.forall_mem_cons.mpr ⟨e_cw1, List.forall_mem_cons.mpr ⟨e_cw2, List.forall_mem_cons.mpr ⟨e_cw3, List.forall_mem_cons.mpr ⟨e_cw4, List.forall_mem_cons.mpr ⟨e_cw5, List.forall_mem_cons.mpr ⟨e_cw6, List.forall_mem_cons.mpr ⟨e_cw7, List.forall_mem_cons.mpr ⟨e_cw8, List.forall_mem_cons.mpr ⟨e_cw9, List.forall_mem_cons.mpr ⟨e_cw10, List.forall_mem_cons.mpr ⟨e_cw11, List.forall_mem_cons.mpr ⟨e_cw12, List.forall_mem_cons.mpr ⟨e_cw13, List.forall_mem_cons.mpr ⟨e_cw14, List.forall_mem_cons.mpr ⟨e_cw15, List.forall_mem_cons.mpr ⟨e_cw16, List.forall_mem_cons.mpr ⟨e_cw17, List.forall_mem_cons.mpr ⟨e_cw18, List.forall_mem_cons.mpr ⟨e_cw19, List.forall_mem_cons.mpr ⟨e_cw20, List.forall_mem_cons.mpr ⟨e_cw21, fun _ h => absurd h List.not_mem_nil⟩⟩⟩⟩⟩⟩⟩⟩⟩⟩⟩⟩⟩⟩⟩⟩⟩⟩⟩⟩⟩⟩
theorem e_cwa1 : ∀ w ∈ (e_cwords.drop 22).take 22, w ∈ e_tb := List.forall_mem_cons.mpr ⟨e_cw22, List.forall_mem_cons.mpr ⟨e_cw23, List.forall_mem_cons.mpr ⟨e_cw24, List.forall_mem_cons.mpr ⟨e_cw25, List.forall_mem_cons.mpr ⟨e_cw26, List.forall_mem_cons.mpr ⟨e_cw27, List.forall_mem_cons.mpr ⟨e_cw28, List.forall_mem_cons.mpr ⟨e_cw29, List.forall_mem_cons.mpr ⟨e_cw30, List.forall_mem_cons.mpr ⟨e_cw31, List.forall_mem_cons.mpr ⟨e_cw32, List.forall_mem_cons.mpr ⟨e_cw33, List.forall_mem_cons.mpr ⟨e_cw34, List.forall_mem_cons.mpr ⟨e_cw35, List.forall_mem_cons.mpr ⟨e_cw36, List.forall_mem_cons.mpr ⟨e_cw37, List.forall_mem_cons.mpr ⟨e_cw38, List.forall_mem_cons.mpr ⟨e_cw39, List.forall_mem_cons.mpr ⟨e_cw40, List.forall_mem_cons.mpr ⟨e_cw41, List.forall_mem_cons.mpr ⟨e_cw42, List.forall_mem_cons.mpr ⟨e_cw43, fun _ h => absurd h List.not_mem_nil⟩⟩⟩⟩⟩⟩⟩⟩⟩⟩⟩⟩⟩⟩⟩⟩⟩⟩⟩⟩⟩⟩
theorem e_cwa2 : ∀ w ∈ (e_cwords.drop 44).take 22, w ∈ e_tb := List.forall_mem_cons.mpr ⟨e_cw44, List.forall_mem_cons.mpr ⟨e_cw45, List.forall_mem_cons.mpr ⟨e_cw46, List.forall_mem_cons.mpr ⟨e_cw47, List.forall_mem_cons.mpr ⟨e_cw48, List.forall_mem_cons.mpr ⟨e_cw49, List.forall_mem_cons.mpr ⟨e_cw50, List.forall_mem_cons.mpr ⟨e_cw51, List.forall_mem_cons.mpr ⟨e_cw52, List.forall_mem_cons.mpr ⟨e_cw53, List.forall_mem_cons.mpr ⟨e_cw54, List.forall_mem_cons.mpr ⟨e_cw55, List.forall_mem_cons.mpr ⟨e_cw56, List.forall_mem_cons.mpr ⟨e_cw57, List.forall_mem_cons.mpr ⟨e_cw58, List.forall_mem_cons.mpr ⟨e_cw59, List.forall_mem_cons.mpr ⟨e_cw60, List.forall_mem_cons.mpr ⟨e_cw61, List.forall_mem_cons.mpr ⟨e_cw62, List.forall_mem_cons.mpr ⟨e_cw63, List.forall_mem_cons.mpr ⟨e_cw64, List.forall_mem_cons.mpr ⟨e_cw65, fun _ h => absurd h List.not_mem_nil⟩⟩⟩⟩⟩⟩⟩⟩⟩⟩⟩⟩⟩⟩⟩⟩⟩⟩⟩⟩⟩⟩
theorem e_cwa3 : ∀ w ∈ (e_cwords.drop 66).take 22, w ∈ e_tb := List.forall_mem_cons.mpr ⟨e_cw66, List.forall_mem_cons.mpr ⟨e_cw67, List.forall_mem_cons.mpr ⟨e_cw68, List.forall_mem_cons.mpr ⟨e_cw69, List.forall_mem_cons.mpr ⟨e_cw70, List.forall_mem_cons.mpr ⟨e_cw71, List.forall_mem_cons.mpr ⟨e_cw72, List.forall_mem_cons.mpr ⟨e_cw73, List.forall_mem_cons.mpr ⟨e_cw74, List.forall_mem_cons.mpr ⟨e_cw75, List.forall_mem_cons.mpr ⟨e_cw76, List.forall_mem_cons.mpr ⟨e_cw77, List.forall_mem_cons.mpr ⟨e_cw78, List.forall_mem_cons.mpr ⟨e_cw79, List.forall_mem_cons.mpr ⟨e_cw80, List.forall_mem_cons.mpr ⟨e_cw81, List.forall_mem_cons.mpr ⟨e_cw82, List.forall_mem_cons.mpr ⟨e_cw83, List.forall_mem_cons.mpr ⟨e_cw84, List.forall_mem_cons.mpr ⟨e_cw85, List.forall_mem_cons.mpr ⟨e_cw86, List.forall_mem_cons.mpr ⟨e_cw87, fun _ h => absurd h List.not_mem_nil⟩⟩⟩⟩⟩⟩⟩⟩⟩⟩⟩⟩⟩⟩⟩⟩⟩⟩⟩⟩⟩⟩
theorem e_cwa4 : ∀ w ∈ (e_cwords.drop 88).take 22, w ∈ e_tb := List.forall_mem_cons.mpr ⟨e_cw88, List.forall_mem_cons.mpr ⟨e_cw89, List.forall_mem_cons.mpr ⟨e_cw90, List.forall_mem_cons.mpr ⟨e_cw91, List.forall_mem_cons.mpr ⟨e_cw92, List.forall_mem_cons.mpr ⟨e_cw93, List.forall_mem_cons.mpr ⟨e_cw94, List.forall_mem_cons.mpr ⟨e_cw95, List.forall_mem_cons.mpr ⟨e_cw96, List.forall_mem_cons.mpr ⟨e_cw97, List.forall_mem_cons.mpr ⟨e_cw98, List.forall_mem_cons.mpr ⟨e_cw99, List.forall_mem_cons.mpr ⟨e_cw100, List.forall_mem_cons.mpr ⟨e_cw101, List.forall_mem_cons.mpr ⟨e_cw102, List.forall_mem_cons.mpr ⟨e_cw103, List.forall_mem_cons.mpr ⟨e_cw104, List.forall_mem_cons.mpr ⟨e_cw105, List.forall_mem_cons.mpr ⟨e_cw106, List.forall_mem_cons.mpr ⟨e_cw107, List.forall_mem_cons.mpr ⟨e_cw108, List.forall_mem_cons.mpr ⟨e_cw109, fun _ h => absurd h List.not_mem_nil⟩⟩⟩⟩⟩⟩⟩⟩⟩⟩⟩⟩⟩⟩⟩⟩⟩⟩⟩⟩⟩⟩
theorem e_cwa5 : ∀ w ∈ (e_cwords.drop 110).take 22, w ∈ e_tb := List.forall_mem_cons.mpr ⟨e_cw110, List.forall_mem_cons.mpr ⟨e_cw111, List.forall_mem_cons.mpr ⟨e_cw112, List.forall_mem_cons.mpr ⟨e_cw113, List.forall_mem_cons.mpr ⟨e_cw114, List.forall_mem_cons.mpr ⟨e_cw115, List.forall_mem_cons.mpr ⟨e_cw116, List.forall_mem_cons.mpr ⟨e_cw117, List.forall_mem_cons.mpr ⟨e_cw118, List.forall_mem_cons.mpr ⟨e_cw119, List.forall_mem_cons.mpr ⟨e_cw120, List.forall_mem_cons.mpr ⟨e_cw121, List.forall_mem_cons.mpr ⟨e_cw122, List.forall_mem_cons.mpr ⟨e_cw123, List.forall_mem_cons.mpr ⟨e_cw124, List.forall_mem_cons.mpr ⟨e_cw125, List.forall_mem_cons.mpr ⟨e_cw126, List.forall_mem_cons.mpr ⟨e_cw127, List.forall_mem_cons.mpr ⟨e_cw128, List.forall_mem_cons.mpr ⟨e_cw129, List.forall_mem_cons.mpr ⟨e_cw130, List.forall_mem_cons.mpr ⟨e_cw131, fun _ h => absurd h List.not_mem_nil⟩⟩⟩⟩⟩⟩⟩⟩⟩⟩⟩⟩⟩⟩⟩⟩⟩⟩⟩⟩⟩⟩
theorem e_cwa6 : ∀ w ∈ (e_cwords.drop 132).take 22, w ∈ e_tb := List.forall_mem_cons.mpr ⟨e_cw132, List.forall_mem_cons.mpr ⟨e_cw133, List.forall_mem_cons.mpr ⟨e_cw134, List.forall_mem_cons.mpr ⟨e_cw135, List.forall_mem_cons.mpr ⟨e_cw136, List.forall_mem_cons.mpr ⟨e_cw137, List.forall_mem_cons.mpr ⟨e_cw138, List.forall_mem_cons.mpr ⟨e_cw139, List.forall_mem_cons.mpr ⟨e_cw140, List.forall_mem_cons.mpr ⟨e_cw141, List.forall_mem_cons.mpr ⟨e_cw142, List.forall_mem_cons.mpr ⟨e_cw143, List.forall_mem_cons.mpr ⟨e_cw144, List.forall_mem_cons.mpr ⟨e_cw145, List.forall_mem_cons.mpr ⟨e_cw146, List.forall_mem_cons.mpr ⟨e_cw147, List.forall_mem_cons.mpr ⟨e_cw148, List.forall_mem_cons.mpr ⟨e_cw149, List.forall_mem_cons.mpr ⟨e_cw150, List.forall_mem_cons.mpr ⟨e_cw151, List.forall_mem_cons.mpr ⟨e_cw152, List.forall_mem_cons.mpr ⟨e_cw153, fun _ h => absurd h List.not_mem_nil⟩⟩⟩⟩⟩⟩⟩⟩⟩⟩⟩⟩⟩⟩⟩⟩⟩⟩⟩⟩⟩⟩
theorem e_cwa7 : ∀ w ∈ (e_cwords.drop 154).take 22, w ∈ e_tb := List.forall_mem_cons.mpr ⟨e_cw154, List.forall_mem_cons.mpr ⟨e_cw155, List.forall_mem_cons.mpr ⟨e_cw156, List.forall_mem_cons.mpr ⟨e_cw157, List.forall_mem_cons.mpr ⟨e_cw158, List.forall_mem_cons.mpr ⟨e_cw159, List.forall_mem_cons.mpr ⟨e_cw160, List.forall_mem_cons.mpr ⟨e_cw161, List.forall_mem_cons.mpr ⟨e_cw162, List.forall_mem_cons.mpr ⟨e_cw163, List.forall_mem_cons.mpr ⟨e_cw164, List.forall_mem_cons.mpr ⟨e_cw165, List.forall_mem_cons.mpr ⟨e_cw166, List.forall_mem_cons.mpr ⟨e_cw167, List.forall_mem_cons.mpr ⟨e_cw168, List.forall_mem_cons.mpr ⟨e_cw169, List.forall_mem_cons.mpr ⟨e_cw170, List.forall_mem_cons.mpr ⟨e_cw171, List.forall_mem_cons.mpr ⟨e_cw172, List.forall_mem_cons.mpr ⟨e_cw173, List.forall_mem_cons.mpr ⟨e_cw174, List.forall_mem_cons.mpr ⟨e_cw175, fun _ h => absurd h List.not_mem_nil⟩⟩⟩⟩⟩⟩⟩⟩⟩⟩⟩⟩⟩⟩⟩⟩⟩⟩⟩⟩⟩⟩
theorem e_cwa8 : ∀ w ∈ (e_cwords.drop 176).take 22, w ∈ e_tb := List.forall_mem_cons.mpr ⟨e_cw176, List.forall_mem_cons.mpr ⟨e_cw177, List.forall_mem_cons.mpr ⟨e_cw178, List.forall_mem_cons.mpr ⟨e_cw179, List.forall_mem_cons.mpr ⟨e_cw180, List.forall_mem_cons.mpr ⟨e_cw181, List.forall_mem_cons.mpr ⟨e_cw182, List.forall_mem_cons.mpr ⟨e_cw183, List.forall_mem_cons.mpr ⟨e_cw184, List.forall_mem_cons.mpr ⟨e_cw185, List.forall_mem_cons.mpr ⟨e_cw186, List.forall_mem_cons.mpr ⟨e_cw187, List.forall_mem_cons.mpr ⟨e_cw188, List.forall_mem_cons.mpr ⟨e_cw189, List.forall_mem_cons.mpr ⟨e_cw190, List.forall_mem_cons.mpr ⟨e_cw191, List.forall_mem_cons.mpr ⟨e_cw192, List.forall_mem_cons.mpr ⟨e_cw193, List.forall_mem_cons.mpr ⟨e_cw194, List.forall_mem_cons.mpr ⟨e_cw195, List.forall_mem_cons.mpr ⟨e_cw196, List.forall_mem_cons.mpr ⟨e_cw197, fun _ h => absurd h List.not_mem_nil⟩⟩⟩⟩⟩⟩⟩⟩⟩⟩⟩⟩⟩⟩⟩⟩⟩⟩⟩⟩⟩⟩
theorem e_cwa9 : ∀ w ∈ (e_cwords.drop 198).take 22, w ∈ e_tb := List.forall_mem_cons.mpr ⟨e_cw198, List.forall_mem_cons.mpr ⟨e_cw199, List.forall_mem_cons.mpr ⟨e_cw200, List.forall_mem_cons.mpr ⟨e_cw201, List.forall_mem_cons.mpr ⟨e_cw202, List.forall_mem_cons.mpr ⟨e_cw203, List.forall_mem_cons.mpr ⟨e_cw204, List.forall_mem_cons.mpr ⟨e_cw205, List.forall_mem_cons.mpr ⟨e_cw206, List.forall_mem_cons.mpr ⟨e_cw207, List.forall_mem_cons.mpr ⟨e_cw208, List.forall_mem_cons.mpr ⟨e_cw209, List.forall_mem_cons.mpr ⟨e_cw210, List.forall_mem_cons.mpr ⟨e_cw211, List.forall_mem_cons.mpr ⟨e_cw212, List.forall_mem_cons.mpr ⟨e_cw213, List.forall_mem_cons.mpr ⟨e_cw214, List.forall_mem_cons.mpr ⟨e_cw215, List.forall_mem_cons.mpr ⟨e_cw216, List.forall_mem_cons.mpr ⟨e_cw217, List.forall_mem_cons.mpr ⟨e_cw218, List.forall_mem_cons.mpr ⟨e_cw219, fun _ h => absurd h List.not_mem_nil⟩⟩⟩⟩⟩⟩⟩⟩⟩⟩⟩⟩⟩⟩⟩⟩⟩⟩⟩⟩⟩⟩
theorem e_cwa10 : ∀ w ∈ (e_cwords.drop 220).take 22, w ∈ e_tb := List.forall_mem_cons.mpr ⟨e_cw220, List.forall_mem_cons.mpr ⟨e_cw221, List.forall_mem_cons.mpr ⟨e_cw222, List.forall_mem_cons.mpr ⟨e_cw223, List.forall_mem_cons.mpr ⟨e_cw224, List.forall_mem_cons.mpr ⟨e_cw225, List.forall_mem_cons.mpr ⟨e_cw226, List.forall_mem_cons.mpr ⟨e_cw227, List.forall_mem_cons.mpr ⟨e_cw228, List.forall_mem_cons.mpr ⟨e_cw229, List.forall_mem_cons.mpr ⟨e_cw230, List.forall_mem_cons.mpr ⟨e_cw231, List.forall_mem_cons.mpr ⟨e_cw232, List.forall_mem_cons.mpr ⟨e_cw233, List.forall_mem_cons.mpr ⟨e_cw234, List.forall_mem_cons.mpr ⟨e_cw235, List.forall_mem_cons.mpr ⟨e_cw236, List.forall_mem_cons.mpr ⟨e_cw237, List.forall_mem_cons.mpr ⟨e_cw238, List.forall_mem_cons.mpr ⟨e_cw239, List.forall_mem_cons.mpr ⟨e_cw240, List.forall_mem_cons.mpr ⟨e_cw241, fun _ h => absurd h List.not_mem_nil⟩⟩⟩⟩⟩⟩⟩⟩⟩⟩⟩⟩⟩⟩⟩⟩⟩⟩⟩⟩⟩⟩
theorem e_cwa11 : ∀ w ∈ (e_cwords.drop 242).take 22, w ∈ e_tb := List.forall_mem_cons.mpr ⟨e_cw242, List.forall_mem_cons.mpr ⟨e_cw243, List.forall_mem_cons.mpr ⟨e_cw244, List.forall_mem_cons.mpr ⟨e_cw245, List.forall_mem_cons.mpr ⟨e_cw246, List.forall_mem_cons.mpr ⟨e_cw247, List.forall_mem_cons.mpr ⟨e_cw248, List.forall_mem_cons.mpr ⟨e_cw249, List.forall_mem_cons.mpr ⟨e_cw250, List.forall_mem_cons.mpr ⟨e_cw251, List.forall_mem_cons.mpr ⟨e_cw252, List.forall_mem_cons.mpr ⟨e_cw253, List.forall_mem_cons.mpr ⟨e_cw254, List.forall_mem_cons.mpr ⟨e_cw255, List.forall_mem_cons.mpr ⟨e_cw256, List.forall_mem_cons.mpr ⟨e_cw257, List.forall_mem_cons.mpr ⟨e_cw258, List.forall_mem_cons.mpr ⟨e_cw259, List.forall_mem_cons.mpr ⟨e_cw260, List.forall_mem_cons.mpr ⟨e_cw261, List.forall_mem_cons.mpr ⟨e_cw262, List.forall_mem_cons.mpr ⟨e_cw263, fun _ h => absurd h List.not_mem_nil⟩⟩⟩⟩⟩⟩⟩⟩⟩⟩⟩⟩⟩⟩⟩⟩⟩⟩⟩⟩⟩⟩
theorem e_cwa12 : ∀ w ∈ (e_cwords.drop 264).take 22, w ∈ e_tb := List.forall_mem_cons.mpr ⟨e_cw264, List.forall_mem_cons.mpr ⟨e_cw265, List.forall_mem_cons.mpr ⟨e_cw266, List.forall_mem_cons.mpr ⟨e_cw267, List.forall_mem_cons.mpr ⟨e_cw268, List.forall_mem_cons.mpr ⟨e_cw269, List.forall_mem_cons.mpr ⟨e_cw270, List.forall_mem_cons.mpr ⟨e_cw271, List.forall_mem_cons.mpr ⟨e_cw272, List.forall_mem_cons.mpr ⟨e_cw273, List.forall_mem_cons.mpr ⟨e_cw274, List.forall_mem_cons.mpr ⟨e_cw275, List.forall_mem_cons.mpr ⟨e_cw276, List.forall_mem_cons.mpr ⟨e_cw277, List.forall_mem_cons.mpr ⟨e_cw278, List.forall_mem_cons.mpr ⟨e_cw279, List.forall_mem_cons.mpr ⟨e_cw280, List.forall_mem_cons.mpr ⟨e_cw281, List.forall_mem_cons.mpr ⟨e_cw282, List.forall_mem_cons.mpr ⟨e_cw283, List.forall_mem_cons.mpr ⟨e_cw284, List.forall_mem_cons.mpr ⟨e_cw285, fun _ h => absurd h List.not_mem_nil⟩⟩⟩⟩⟩⟩⟩⟩⟩⟩⟩⟩⟩⟩⟩⟩⟩⟩⟩⟩⟩⟩
theorem e_cwa13 : ∀ w ∈ (e_cwords.drop 286).take 22, w ∈ e_tb := List.forall_mem_cons.mpr ⟨e_cw286, List.forall_mem_cons.mpr ⟨e_cw287, List.forall_mem_cons.mpr ⟨e_cw288, List.forall_mem_cons.mpr ⟨e_cw289, List.forall_mem_cons.mpr ⟨e_cw290, List.forall_mem_cons.mpr ⟨e_cw291, List.forall_mem_cons.mpr ⟨e_cw292, List.forall_mem_cons.mpr ⟨e_cw293, List.forall_mem_cons.mpr ⟨e_cw294, List.forall_mem_cons.mpr ⟨e_cw295, List.forall_mem_cons.mpr ⟨e_cw296, List.forall_mem_cons.mpr ⟨e_cw297, List.forall_mem_cons.mpr ⟨e_cw298, List.forall_mem_cons.mpr ⟨e_cw299, List.forall_mem_cons.mpr ⟨e_cw300, List.forall_mem_cons.mpr ⟨e_cw301, List.forall_mem_cons.mpr ⟨e_cw302, List.forall_mem_cons.mpr ⟨e_cw303, List.forall_mem_cons.mpr ⟨e_cw304, List.forall_mem_cons.mpr ⟨e_cw305, List.forall_mem_cons.mpr ⟨e_cw306, List.forall_mem_cons.mpr ⟨e_cw307, fun _ h => absurd h List.not_mem_nil⟩⟩⟩⟩⟩⟩⟩⟩⟩⟩⟩⟩⟩⟩⟩⟩⟩⟩⟩⟩⟩⟩
theorem e_uw0 : ∀ w ∈ u_ws "HexCampaign$Land" (e_T e_f0) 3, w ∈ e_tb := List.forall_mem_cons.mpr ⟨e_memw (i := 1) (j := 60) rfl rfl, List.forall_mem_cons.mpr ⟨e_memw (i := 1) (j := 62) rfl rfl, List.forall_mem_cons.mpr ⟨e_memw (i := 1) (j := 64) rfl rfl, fun _ h => absurd h List.not_mem_nil⟩⟩⟩
theorem e_un0 : ∀ a, a < 3 → ∀ b, b < 3 → a ≠ b → (e_T e_f0 a).2.1 ≠ (e_T e_f0 b).2.1 := by decide +kernel
theorem e_ut0 : ∀ k, k < 3 → (parseFieldDescriptor (e_T e_f0 k).2.2.1).isSome = true := by decide +kernel
theorem e_uw1 : ∀ w ∈ u_ws "HexCampaign$Units" (e_T e_f1) 12, w ∈ e_tb := List.forall_mem_cons.mpr ⟨e_memw (i := 1) (j := 86) rfl rfl, List.forall_mem_cons.mpr ⟨e_memw (i := 1) (j := 88) rfl rfl, List.forall_mem_cons.mpr ⟨e_memw (i := 1) (j := 90) rfl rfl, List.forall_mem_cons.mpr ⟨e_memw (i := 1) (j := 92) rfl rfl, List.forall_mem_cons.mpr ⟨e_memw (i := 1) (j := 94) rfl rfl, List.forall_mem_cons.mpr ⟨e_memw (i := 1) (j := 96) rfl rfl, List.forall_mem_cons.mpr ⟨e_memw (i := 1) (j := 98) rfl rfl, List.forall_mem_cons.mpr ⟨e_memw (i := 1) (j := 100) rfl rfl, List.forall_mem_cons.mpr ⟨e_memw (i := 1) (j := 102) rfl rfl, List.forall_mem_cons.mpr ⟨e_memw (i := 1) (j := 104) rfl rfl, List.forall_mem_cons.mpr ⟨e_memw (i := 1) (j := 106) rfl rfl, List.forall_mem_cons.mpr ⟨e_memw (i := 1) (j := 108) rfl rfl, fun _ h => absurd h List.not_mem_nil⟩⟩⟩⟩⟩⟩⟩⟩⟩⟩⟩⟩
theorem e_un1 : ∀ a, a < 12 → ∀ b, b < 12 → a ≠ b → (e_T e_f1 a).2.1 ≠ (e_T e_f1 b).2.1 := by decide +kernel
theorem e_ut1 : ∀ k, k < 12 → (parseFieldDescriptor (e_T e_f1 k).2.2.1).isSome = true := by decide +kernel
theorem e_uw2 : ∀ w ∈ u_ws "HexCampaign$Game" (e_T e_f2) 9, w ∈ e_tb := List.forall_mem_cons.mpr ⟨e_memw (i := 1) (j := 136) rfl rfl, List.forall_mem_cons.mpr ⟨e_memw (i := 1) (j := 138) rfl rfl, List.forall_mem_cons.mpr ⟨e_memw (i := 1) (j := 140) rfl rfl, List.forall_mem_cons.mpr ⟨e_memw (i := 1) (j := 142) rfl rfl, List.forall_mem_cons.mpr ⟨e_memw (i := 1) (j := 144) rfl rfl, List.forall_mem_cons.mpr ⟨e_memw (i := 1) (j := 146) rfl rfl, List.forall_mem_cons.mpr ⟨e_memw (i := 1) (j := 148) rfl rfl, List.forall_mem_cons.mpr ⟨e_memw (i := 1) (j := 150) rfl rfl, List.forall_mem_cons.mpr ⟨e_memw (i := 1) (j := 152) rfl rfl, fun _ h => absurd h List.not_mem_nil⟩⟩⟩⟩⟩⟩⟩⟩⟩
theorem e_un2 : ∀ a, a < 9 → ∀ b, b < 9 → a ≠ b → (e_T e_f2 a).2.1 ≠ (e_T e_f2 b).2.1 := by decide +kernel
theorem e_ut2 : ∀ k, k < 9 → (parseFieldDescriptor (e_T e_f2 k).2.2.1).isSome = true := by decide +kernel
theorem e_uw3 : ∀ w ∈ u_ws "HexCampaign$Waves" (e_T e_f3) 8, w ∈ e_tb := List.forall_mem_cons.mpr ⟨e_memw (i := 1) (j := 169) rfl rfl, List.forall_mem_cons.mpr ⟨e_memw (i := 1) (j := 171) rfl rfl, List.forall_mem_cons.mpr ⟨e_memw (i := 1) (j := 173) rfl rfl, List.forall_mem_cons.mpr ⟨e_memw (i := 1) (j := 175) rfl rfl, List.forall_mem_cons.mpr ⟨e_memw (i := 1) (j := 177) rfl rfl, List.forall_mem_cons.mpr ⟨e_memw (i := 1) (j := 179) rfl rfl, List.forall_mem_cons.mpr ⟨e_memw (i := 1) (j := 181) rfl rfl, List.forall_mem_cons.mpr ⟨e_memw (i := 1) (j := 183) rfl rfl, fun _ h => absurd h List.not_mem_nil⟩⟩⟩⟩⟩⟩⟩⟩
theorem e_un3 : ∀ a, a < 8 → ∀ b, b < 8 → a ≠ b → (e_T e_f3 a).2.1 ≠ (e_T e_f3 b).2.1 := by decide +kernel
theorem e_ut3 : ∀ k, k < 8 → (parseFieldDescriptor (e_T e_f3 k).2.2.1).isSome = true := by decide +kernel
theorem e_uw4 : ∀ w ∈ u_ws "HexCampaign$Play" (e_T e_f4) 5, w ∈ e_tb := List.forall_mem_cons.mpr ⟨e_memw (i := 1) (j := 192) rfl rfl, List.forall_mem_cons.mpr ⟨e_memw (i := 1) (j := 194) rfl rfl, List.forall_mem_cons.mpr ⟨e_memw (i := 1) (j := 196) rfl rfl, List.forall_mem_cons.mpr ⟨e_memw (i := 1) (j := 198) rfl rfl, List.forall_mem_cons.mpr ⟨e_memw (i := 1) (j := 200) rfl rfl, fun _ h => absurd h List.not_mem_nil⟩⟩⟩⟩⟩
theorem e_un4 : ∀ a, a < 5 → ∀ b, b < 5 → a ≠ b → (e_T e_f4 a).2.1 ≠ (e_T e_f4 b).2.1 := by decide +kernel
theorem e_ut4 : ∀ k, k < 5 → (parseFieldDescriptor (e_T e_f4 k).2.2.1).isSome = true := by decide +kernel
theorem e_uw5 : ∀ w ∈ u_ws "HexCampaign$History" (e_T e_f5) 3, w ∈ e_tb := List.forall_mem_cons.mpr ⟨e_memw (i := 1) (j := 217) rfl rfl, List.forall_mem_cons.mpr ⟨e_memw (i := 1) (j := 219) rfl rfl, List.forall_mem_cons.mpr ⟨e_memw (i := 1) (j := 221) rfl rfl, fun _ h => absurd h List.not_mem_nil⟩⟩⟩
theorem e_un5 : ∀ a, a < 3 → ∀ b, b < 3 → a ≠ b → (e_T e_f5 a).2.1 ≠ (e_T e_f5 b).2.1 := by decide +kernel
theorem e_ut5 : ∀ k, k < 3 → (parseFieldDescriptor (e_T e_f5 k).2.2.1).isSome = true := by decide +kernel
theorem e_uw6 : ∀ w ∈ u_ws "HexCampaign$Report" (e_T e_f6) 3, w ∈ e_tb := List.forall_mem_cons.mpr ⟨e_memw (i := 1) (j := 233) rfl rfl, List.forall_mem_cons.mpr ⟨e_memw (i := 1) (j := 235) rfl rfl, List.forall_mem_cons.mpr ⟨e_memw (i := 1) (j := 237) rfl rfl, fun _ h => absurd h List.not_mem_nil⟩⟩⟩
theorem e_un6 : ∀ a, a < 3 → ∀ b, b < 3 → a ≠ b → (e_T e_f6 a).2.1 ≠ (e_T e_f6 b).2.1 := by decide +kernel
theorem e_ut6 : ∀ k, k < 3 → (parseFieldDescriptor (e_T e_f6 k).2.2.1).isSome = true := by decide +kernel
theorem e_uw7 : ∀ w ∈ u_ws "HexCampaign$MapInput" (e_T e_f7) 2, w ∈ e_tb := List.forall_mem_cons.mpr ⟨e_memw (i := 2) (j := 8) rfl rfl, List.forall_mem_cons.mpr ⟨e_memw (i := 2) (j := 10) rfl rfl, fun _ h => absurd h List.not_mem_nil⟩⟩
theorem e_un7 : ∀ a, a < 2 → ∀ b, b < 2 → a ≠ b → (e_T e_f7 a).2.1 ≠ (e_T e_f7 b).2.1 := by decide +kernel
theorem e_ut7 : ∀ k, k < 2 → (parseFieldDescriptor (e_T e_f7 k).2.2.1).isSome = true := by decide +kernel
theorem e_uw8 : ∀ w ∈ u_ws "HexCampaign" (e_T e_f8) 7, w ∈ e_tb := List.forall_mem_cons.mpr ⟨e_memw (i := 2) (j := 41) rfl rfl, List.forall_mem_cons.mpr ⟨e_memw (i := 2) (j := 43) rfl rfl, List.forall_mem_cons.mpr ⟨e_memw (i := 2) (j := 45) rfl rfl, List.forall_mem_cons.mpr ⟨e_memw (i := 2) (j := 47) rfl rfl, List.forall_mem_cons.mpr ⟨e_memw (i := 2) (j := 49) rfl rfl, List.forall_mem_cons.mpr ⟨e_memw (i := 2) (j := 51) rfl rfl, List.forall_mem_cons.mpr ⟨e_memw (i := 2) (j := 53) rfl rfl, fun _ h => absurd h List.not_mem_nil⟩⟩⟩⟩⟩⟩⟩
theorem e_un8 : ∀ a, a < 7 → ∀ b, b < 7 → a ≠ b → (e_T e_f8 a).2.1 ≠ (e_T e_f8 b).2.1 := by decide +kernel
theorem e_ut8 : ∀ k, k < 7 → (parseFieldDescriptor (e_T e_f8 k).2.2.1).isSome = true := by decide +kernel
theorem e_uw9 : ∀ w ∈ u_ws "HexCampaignModel" (e_T e_f9) 18, w ∈ e_tb := List.forall_mem_cons.mpr ⟨e_memw (i := 6) (j := 193) rfl rfl, List.forall_mem_cons.mpr ⟨e_memw (i := 6) (j := 195) rfl rfl, List.forall_mem_cons.mpr ⟨e_memw (i := 6) (j := 197) rfl rfl, List.forall_mem_cons.mpr ⟨e_memw (i := 6) (j := 199) rfl rfl, List.forall_mem_cons.mpr ⟨e_memw (i := 6) (j := 201) rfl rfl, List.forall_mem_cons.mpr ⟨e_memw (i := 6) (j := 203) rfl rfl, List.forall_mem_cons.mpr ⟨e_memw (i := 6) (j := 205) rfl rfl, List.forall_mem_cons.mpr ⟨e_memw (i := 6) (j := 207) rfl rfl, List.forall_mem_cons.mpr ⟨e_memw (i := 6) (j := 209) rfl rfl, List.forall_mem_cons.mpr ⟨e_memw (i := 6) (j := 211) rfl rfl, List.forall_mem_cons.mpr ⟨e_memw (i := 6) (j := 213) rfl rfl, List.forall_mem_cons.mpr ⟨e_memw (i := 6) (j := 215) rfl rfl, List.forall_mem_cons.mpr ⟨e_memw (i := 6) (j := 217) rfl rfl, List.forall_mem_cons.mpr ⟨e_memw (i := 6) (j := 219) rfl rfl, List.forall_mem_cons.mpr ⟨e_memw (i := 6) (j := 221) rfl rfl, List.forall_mem_cons.mpr ⟨e_memw (i := 6) (j := 223) rfl rfl, List.forall_mem_cons.mpr ⟨e_memw (i := 6) (j := 225) rfl rfl, List.forall_mem_cons.mpr ⟨e_memw (i := 6) (j := 227) rfl rfl, fun _ h => absurd h List.not_mem_nil⟩⟩⟩⟩⟩⟩⟩⟩⟩⟩⟩⟩⟩⟩⟩⟩⟩⟩
theorem e_un9 : ∀ a, a < 18 → ∀ b, b < 18 → a ≠ b → (e_T e_f9 a).2.1 ≠ (e_T e_f9 b).2.1 := by decide +kernel
theorem e_ut9 : ∀ k, k < 18 → (parseFieldDescriptor (e_T e_f9 k).2.2.1).isSome = true := by decide +kernel
theorem e_clw : ∀ (ci : Nat), ci < e_cls.length → ∀ w ∈ u_ws (e_cN ci) (e_cT ci) (e_cK ci), w ∈ e_tb
  | 0, _ => e_uw0
  | 1, _ => e_uw1
  | 2, _ => e_uw2
  | 3, _ => e_uw3
  | 4, _ => e_uw4
  | 5, _ => e_uw5
  | 6, _ => e_uw6
  | 7, _ => e_uw7
  | 8, _ => e_uw8
  | 9, _ => e_uw9
  | (n + 10), h => absurd h (by simp [e_cls])

theorem e_cln : ∀ (ci : Nat), ci < e_cls.length → ∀ a, a < e_cK ci → ∀ b, b < e_cK ci → a ≠ b → (e_cT ci a).2.1 ≠ (e_cT ci b).2.1
  | 0, _ => e_un0
  | 1, _ => e_un1
  | 2, _ => e_un2
  | 3, _ => e_un3
  | 4, _ => e_un4
  | 5, _ => e_un5
  | 6, _ => e_un6
  | 7, _ => e_un7
  | 8, _ => e_un8
  | 9, _ => e_un9
  | (n + 10), h => absurd h (by simp [e_cls])

theorem e_clt0 : ∀ (ci : Nat), ci < e_cls.length → ∀ k, k < e_cK ci → (parseFieldDescriptor (e_cT ci k).2.2.1).isSome = true
  | 0, _ => e_ut0
  | 1, _ => e_ut1
  | 2, _ => e_ut2
  | 3, _ => e_ut3
  | 4, _ => e_ut4
  | 5, _ => e_ut5
  | 6, _ => e_ut6
  | 7, _ => e_ut7
  | 8, _ => e_ut8
  | 9, _ => e_ut9
  | (n + 10), h => absurd h (by simp [e_cls])

theorem e_clt {ci : Nat} (h : ci < e_cls.length) {k : Nat} (hk : k < e_cK ci) : parseFieldDescriptor (e_cT ci k).2.2.1 = some (e_ty ci k) := by
  have h1 := e_clt0 ci h k hk
  unfold e_ty
  cases hq : parseFieldDescriptor (e_cT ci k).2.2.1 with
  | none => rw [hq] at h1; cases h1
  | some x => rfl
theorem e_clc {ci : Nat} (h : ci < e_cls.length) : e_cls[ci]? = some (e_cN ci, e_cT ci, e_cK ci) := e_getL h
/-- of each method: how many arguments, whose class it is -/
def e_mok (q : e_MD × Nat) : Bool := decide ((parseMethodDescriptor q.1.1.desc).map (fun d => d.parameters.length) = some q.2) && !(e_bad.contains q.1.1.cls)
theorem e_mk0 : (((e_prog.zip e_npl).drop 0).take 22).all e_mok = true := by decide +kernel
theorem e_mk1 : (((e_prog.zip e_npl).drop 22).take 22).all e_mok = true := by decide +kernel
theorem e_mk2 : (((e_prog.zip e_npl).drop 44).take 22).all e_mok = true := by decide +kernel
theorem e_mk3 : (((e_prog.zip e_npl).drop 66).take 22).all e_mok = true := by decide +kernel
theorem e_mk4 : (((e_prog.zip e_npl).drop 88).take 22).all e_mok = true := by decide +kernel
theorem e_mk5 : (((e_prog.zip e_npl).drop 110).take 22).all e_mok = true := by decide +kernel
theorem e_mk6 : (((e_prog.zip e_npl).drop 132).take 22).all e_mok = true := by decide +kernel
theorem e_mk7 : (((e_prog.zip e_npl).drop 154).take 22).all e_mok = true := by decide +kernel
theorem e_mk8 : (((e_prog.zip e_npl).drop 176).take 22).all e_mok = true := by decide +kernel
theorem e_mk9 : (((e_prog.zip e_npl).drop 198).take 22).all e_mok = true := by decide +kernel
theorem e_mk10 : (((e_prog.zip e_npl).drop 220).take 22).all e_mok = true := by decide +kernel
theorem e_mk11 : (((e_prog.zip e_npl).drop 242).take 22).all e_mok = true := by decide +kernel
theorem e_mk12 : (((e_prog.zip e_npl).drop 264).take 22).all e_mok = true := by decide +kernel
theorem e_mk13 : (((e_prog.zip e_npl).drop 286).take 22).all e_mok = true := by decide +kernel
theorem e_mk14 : (((e_prog.zip e_npl).drop 308).take 22).all e_mok = true := by decide +kernel
theorem e_split {α : Type} {p : α → Prop} (l : List α) (n : Nat) (h1 : ∀ w ∈ l.take n, p w) (h2 : ∀ w ∈ l.drop n, p w) : ∀ w ∈ l, p w := fun w hw => by rw [← List.take_append_drop n l] at hw; exact (List.mem_append.mp hw).elim (h1 w) (h2 w)
theorem e_drop {α : Type} {p : α → Prop} (l : List α) (n : Nat) (h : ∀ w ∈ l.drop (n + 22), p w) : ∀ w ∈ (l.drop n).drop 22, p w := by rw [List.drop_drop]; exact h
theorem e_cwords_in : ∀ w ∈ e_cwords, w ∈ e_tb := by
  refine e_split _ 22 (show ∀ w ∈ (e_cwords.drop 0).take 22, w ∈ e_tb from e_cwa0) ?_
  show ∀ w ∈ (e_cwords.drop 0).drop 22, w ∈ e_tb
  refine e_drop e_cwords 0 ?_
  refine e_split _ 22 (show ∀ w ∈ (e_cwords.drop 22).take 22, w ∈ e_tb from e_cwa1) ?_
  show ∀ w ∈ (e_cwords.drop 22).drop 22, w ∈ e_tb
  refine e_drop e_cwords 22 ?_
  refine e_split _ 22 (show ∀ w ∈ (e_cwords.drop 44).take 22, w ∈ e_tb from e_cwa2) ?_
  show ∀ w ∈ (e_cwords.drop 44).drop 22, w ∈ e_tb
  refine e_drop e_cwords 44 ?_
  refine e_split _ 22 (show ∀ w ∈ (e_cwords.drop 66).take 22, w ∈ e_tb from e_cwa3) ?_
  show ∀ w ∈ (e_cwords.drop 66).drop 22, w ∈ e_tb
  refine e_drop e_cwords 66 ?_
  refine e_split _ 22 (show ∀ w ∈ (e_cwords.drop 88).take 22, w ∈ e_tb from e_cwa4) ?_
  show ∀ w ∈ (e_cwords.drop 88).drop 22, w ∈ e_tb
  refine e_drop e_cwords 88 ?_
  refine e_split _ 22 (show ∀ w ∈ (e_cwords.drop 110).take 22, w ∈ e_tb from e_cwa5) ?_
  show ∀ w ∈ (e_cwords.drop 110).drop 22, w ∈ e_tb
  refine e_drop e_cwords 110 ?_
  refine e_split _ 22 (show ∀ w ∈ (e_cwords.drop 132).take 22, w ∈ e_tb from e_cwa6) ?_
  show ∀ w ∈ (e_cwords.drop 132).drop 22, w ∈ e_tb
  refine e_drop e_cwords 132 ?_
  refine e_split _ 22 (show ∀ w ∈ (e_cwords.drop 154).take 22, w ∈ e_tb from e_cwa7) ?_
  show ∀ w ∈ (e_cwords.drop 154).drop 22, w ∈ e_tb
  refine e_drop e_cwords 154 ?_
  refine e_split _ 22 (show ∀ w ∈ (e_cwords.drop 176).take 22, w ∈ e_tb from e_cwa8) ?_
  show ∀ w ∈ (e_cwords.drop 176).drop 22, w ∈ e_tb
  refine e_drop e_cwords 176 ?_
  refine e_split _ 22 (show ∀ w ∈ (e_cwords.drop 198).take 22, w ∈ e_tb from e_cwa9) ?_
  show ∀ w ∈ (e_cwords.drop 198).drop 22, w ∈ e_tb
  refine e_drop e_cwords 198 ?_
  refine e_split _ 22 (show ∀ w ∈ (e_cwords.drop 220).take 22, w ∈ e_tb from e_cwa10) ?_
  show ∀ w ∈ (e_cwords.drop 220).drop 22, w ∈ e_tb
  refine e_drop e_cwords 220 ?_
  refine e_split _ 22 (show ∀ w ∈ (e_cwords.drop 242).take 22, w ∈ e_tb from e_cwa11) ?_
  show ∀ w ∈ (e_cwords.drop 242).drop 22, w ∈ e_tb
  refine e_drop e_cwords 242 ?_
  refine e_split _ 22 (show ∀ w ∈ (e_cwords.drop 264).take 22, w ∈ e_tb from e_cwa12) ?_
  show ∀ w ∈ (e_cwords.drop 264).drop 22, w ∈ e_tb
  refine e_drop e_cwords 264 ?_
  exact fun w hw => e_cwa13 w (by rw [List.take_of_length_le (by decide +kernel)]; exact hw)
theorem e_mok_all : ∀ q ∈ e_prog.zip e_npl, e_mok q = true := by
  refine e_split _ 22 (show ∀ w ∈ ((e_prog.zip e_npl).drop 0).take 22, e_mok w = true from List.all_eq_true.mp e_mk0) ?_
  show ∀ w ∈ ((e_prog.zip e_npl).drop 0).drop 22, e_mok w = true
  refine e_drop (e_prog.zip e_npl) 0 ?_
  refine e_split _ 22 (show ∀ w ∈ ((e_prog.zip e_npl).drop 22).take 22, e_mok w = true from List.all_eq_true.mp e_mk1) ?_
  show ∀ w ∈ ((e_prog.zip e_npl).drop 22).drop 22, e_mok w = true
  refine e_drop (e_prog.zip e_npl) 22 ?_
  refine e_split _ 22 (show ∀ w ∈ ((e_prog.zip e_npl).drop 44).take 22, e_mok w = true from List.all_eq_true.mp e_mk2) ?_
  show ∀ w ∈ ((e_prog.zip e_npl).drop 44).drop 22, e_mok w = true
  refine e_drop (e_prog.zip e_npl) 44 ?_
  refine e_split _ 22 (show ∀ w ∈ ((e_prog.zip e_npl).drop 66).take 22, e_mok w = true from List.all_eq_true.mp e_mk3) ?_
  show ∀ w ∈ ((e_prog.zip e_npl).drop 66).drop 22, e_mok w = true
  refine e_drop (e_prog.zip e_npl) 66 ?_
  refine e_split _ 22 (show ∀ w ∈ ((e_prog.zip e_npl).drop 88).take 22, e_mok w = true from List.all_eq_true.mp e_mk4) ?_
  show ∀ w ∈ ((e_prog.zip e_npl).drop 88).drop 22, e_mok w = true
  refine e_drop (e_prog.zip e_npl) 88 ?_
  refine e_split _ 22 (show ∀ w ∈ ((e_prog.zip e_npl).drop 110).take 22, e_mok w = true from List.all_eq_true.mp e_mk5) ?_
  show ∀ w ∈ ((e_prog.zip e_npl).drop 110).drop 22, e_mok w = true
  refine e_drop (e_prog.zip e_npl) 110 ?_
  refine e_split _ 22 (show ∀ w ∈ ((e_prog.zip e_npl).drop 132).take 22, e_mok w = true from List.all_eq_true.mp e_mk6) ?_
  show ∀ w ∈ ((e_prog.zip e_npl).drop 132).drop 22, e_mok w = true
  refine e_drop (e_prog.zip e_npl) 132 ?_
  refine e_split _ 22 (show ∀ w ∈ ((e_prog.zip e_npl).drop 154).take 22, e_mok w = true from List.all_eq_true.mp e_mk7) ?_
  show ∀ w ∈ ((e_prog.zip e_npl).drop 154).drop 22, e_mok w = true
  refine e_drop (e_prog.zip e_npl) 154 ?_
  refine e_split _ 22 (show ∀ w ∈ ((e_prog.zip e_npl).drop 176).take 22, e_mok w = true from List.all_eq_true.mp e_mk8) ?_
  show ∀ w ∈ ((e_prog.zip e_npl).drop 176).drop 22, e_mok w = true
  refine e_drop (e_prog.zip e_npl) 176 ?_
  refine e_split _ 22 (show ∀ w ∈ ((e_prog.zip e_npl).drop 198).take 22, e_mok w = true from List.all_eq_true.mp e_mk9) ?_
  show ∀ w ∈ ((e_prog.zip e_npl).drop 198).drop 22, e_mok w = true
  refine e_drop (e_prog.zip e_npl) 198 ?_
  refine e_split _ 22 (show ∀ w ∈ ((e_prog.zip e_npl).drop 220).take 22, e_mok w = true from List.all_eq_true.mp e_mk10) ?_
  show ∀ w ∈ ((e_prog.zip e_npl).drop 220).drop 22, e_mok w = true
  refine e_drop (e_prog.zip e_npl) 220 ?_
  refine e_split _ 22 (show ∀ w ∈ ((e_prog.zip e_npl).drop 242).take 22, e_mok w = true from List.all_eq_true.mp e_mk11) ?_
  show ∀ w ∈ ((e_prog.zip e_npl).drop 242).drop 22, e_mok w = true
  refine e_drop (e_prog.zip e_npl) 242 ?_
  refine e_split _ 22 (show ∀ w ∈ ((e_prog.zip e_npl).drop 264).take 22, e_mok w = true from List.all_eq_true.mp e_mk12) ?_
  show ∀ w ∈ ((e_prog.zip e_npl).drop 264).drop 22, e_mok w = true
  refine e_drop (e_prog.zip e_npl) 264 ?_
  refine e_split _ 22 (show ∀ w ∈ ((e_prog.zip e_npl).drop 286).take 22, e_mok w = true from List.all_eq_true.mp e_mk13) ?_
  show ∀ w ∈ ((e_prog.zip e_npl).drop 286).drop 22, e_mok w = true
  refine e_drop (e_prog.zip e_npl) 286 ?_
  exact fun w hw => List.all_eq_true.mp e_mk14 w (by rw [List.take_of_length_le (by decide +kernel)]; exact hw)
theorem e_md_mem {z : Nat} (hz : z < 308) : e_md z ∈ e_prog.take 308 := by
  have hl : z < e_prog.length := Nat.lt_of_lt_of_le hz (by decide +kernel)
  refine List.mem_of_getElem? (i := z) ?_
  rw [List.getElem?_take_of_lt hz, List.getElem?_eq_getElem hl, e_md, e_getD hl]
theorem e_code_in {z : Nat} (hz : z < 308) : (if e_hh z = [] then Cond.code (e_nm z) (e_mb z) (e_ml z) (e_rt z) else Cond.codeWith (e_nm z) (e_mb z) (e_ml z) (e_rt z) (e_hh z)) ∈ e_tb := by
  refine e_cwords_in _ ?_
  unfold e_cwords
  exact List.mem_map.mpr ⟨e_md z, e_md_mem hz, by unfold e_cwd; rfl⟩
theorem e_zip_mem {α β : Type} {l : List α} {m : List β} {z : Nat} {a : α} {b : β} (h1 : l[z]? = some a) (h2 : m[z]? = some b) : (a, b) ∈ l.zip m := by
  refine List.mem_of_getElem? (i := z) ?_
  rw [List.getElem?_zip_eq_some]
  exact ⟨h1, h2⟩
theorem e_mok_at {z : Nat} (hz : z < 308) : (parseMethodDescriptor (e_nm z).desc).map (fun d => d.parameters.length) = some (e_npl.getD z 0) ∧ (e_nm z).cls ≠ "java/lang/invoke/MethodHandle" ∧ (e_nm z).cls ≠ "java/lang/invoke/VarHandle" := by
  have hl : z < e_prog.length := Nat.lt_of_lt_of_le hz (by decide +kernel)
  have hl2 : z < e_npl.length := Nat.lt_of_lt_of_le hz (by decide +kernel)
  have h := e_mok_all (e_md z, e_npl.getD z 0) (e_zip_mem (e_getL hl) (e_getL hl2))
  simp only [e_mok, Bool.and_eq_true, decide_eq_true_eq, Bool.not_eq_true'] at h
  refine ⟨h.1, ?_⟩
  have h3 := h.2
  simp [e_bad] at h3
  exact h3
end
section
/-! every instruction of the program is checked (0) -/
theorem e_ok0 : e_c0.all (e_ck 0) = true := by decide +kernel
set_option maxRecDepth 100000 in
theorem e_wk0 : e_wok (e_c0.flatMap (e_wds 0 (e_nm 0).cls)) := ⟨rfl, rfl⟩
theorem e_ok1 : e_c1.all (e_ck 1) = true := by decide +kernel
set_option maxRecDepth 100000 in
theorem e_wk1 : e_wok (e_c1.flatMap (e_wds 1 (e_nm 1).cls)) := ⟨rfl, rfl⟩
theorem e_ok2 : e_c2.all (e_ck 2) = true := by decide +kernel
set_option maxRecDepth 100000 in
theorem e_wk2 : e_wok (e_c2.flatMap (e_wds 2 (e_nm 2).cls)) := ⟨rfl, rfl⟩
theorem e_ok3 : e_c3.all (e_ck 3) = true := by decide +kernel
set_option maxRecDepth 100000 in
theorem e_wk3 : e_wok (e_c3.flatMap (e_wds 3 (e_nm 3).cls)) := ⟨rfl, rfl⟩
theorem e_ok4 : e_c4.all (e_ck 4) = true := by decide +kernel
set_option maxRecDepth 100000 in
theorem e_wk4 : e_wok (e_c4.flatMap (e_wds 4 (e_nm 4).cls)) := ⟨rfl, rfl⟩
theorem e_ok5 : e_c5.all (e_ck 5) = true := by decide +kernel
set_option maxRecDepth 100000 in
theorem e_wk5 : e_wok (e_c5.flatMap (e_wds 5 (e_nm 5).cls)) := ⟨rfl, rfl⟩
theorem e_ok6 : e_c6.all (e_ck 6) = true := by decide +kernel
set_option maxRecDepth 100000 in
theorem e_wk6 : e_wok (e_c6.flatMap (e_wds 6 (e_nm 6).cls)) := ⟨rfl, rfl⟩
theorem e_ok7 : e_c7.all (e_ck 7) = true := by decide +kernel
set_option maxRecDepth 100000 in
theorem e_wk7 : e_wok (e_c7.flatMap (e_wds 7 (e_nm 7).cls)) := ⟨rfl, rfl⟩
theorem e_ok8 : e_c8.all (e_ck 8) = true := by decide +kernel
set_option maxRecDepth 100000 in
theorem e_wk8 : e_wok (e_c8.flatMap (e_wds 8 (e_nm 8).cls)) := ⟨rfl, rfl⟩
theorem e_ok9 : e_c9.all (e_ck 9) = true := by decide +kernel
set_option maxRecDepth 100000 in
theorem e_wk9 : e_wok (e_c9.flatMap (e_wds 9 (e_nm 9).cls)) := ⟨rfl, rfl⟩
theorem e_ok10 : e_c10.all (e_ck 10) = true := by decide +kernel
set_option maxRecDepth 100000 in
theorem e_wk10 : e_wok (e_c10.flatMap (e_wds 10 (e_nm 10).cls)) := ⟨rfl, rfl⟩
theorem e_ok11 : e_c11.all (e_ck 11) = true := by decide +kernel
set_option maxRecDepth 100000 in
theorem e_wk11 : e_wok (e_c11.flatMap (e_wds 11 (e_nm 11).cls)) := ⟨rfl, rfl⟩
theorem e_ok12 : e_c12.all (e_ck 12) = true := by decide +kernel
set_option maxRecDepth 100000 in
theorem e_wk12 : e_wok (e_c12.flatMap (e_wds 12 (e_nm 12).cls)) := ⟨rfl, rfl⟩
theorem e_ok13 : e_c13.all (e_ck 13) = true := by decide +kernel
set_option maxRecDepth 100000 in
theorem e_wk13 : e_wok (e_c13.flatMap (e_wds 13 (e_nm 13).cls)) := ⟨rfl, rfl⟩
theorem e_ok14 : e_c14.all (e_ck 14) = true := by decide +kernel
set_option maxRecDepth 100000 in
theorem e_wk14 : e_wok (e_c14.flatMap (e_wds 14 (e_nm 14).cls)) := ⟨rfl, rfl⟩
theorem e_ok15 : e_c15.all (e_ck 15) = true := by decide +kernel
set_option maxRecDepth 100000 in
theorem e_wk15 : e_wok (e_c15.flatMap (e_wds 15 (e_nm 15).cls)) := ⟨rfl, rfl⟩
theorem e_ok16 : e_c16.all (e_ck 16) = true := by decide +kernel
set_option maxRecDepth 100000 in
theorem e_wk16 : e_wok (e_c16.flatMap (e_wds 16 (e_nm 16).cls)) := ⟨rfl, rfl⟩
theorem e_ok17 : e_c17.all (e_ck 17) = true := by decide +kernel
set_option maxRecDepth 100000 in
theorem e_wk17 : e_wok (e_c17.flatMap (e_wds 17 (e_nm 17).cls)) := ⟨rfl, rfl⟩
theorem e_ok18 : e_c18.all (e_ck 18) = true := by decide +kernel
set_option maxRecDepth 100000 in
theorem e_wk18 : e_wok (e_c18.flatMap (e_wds 18 (e_nm 18).cls)) := ⟨rfl, rfl⟩
theorem e_ok19 : e_c19.all (e_ck 19) = true := by decide +kernel
set_option maxRecDepth 100000 in
theorem e_wk19 : e_wok (e_c19.flatMap (e_wds 19 (e_nm 19).cls)) := ⟨rfl, rfl⟩
theorem e_ok20 : e_c20.all (e_ck 20) = true := by decide +kernel
set_option maxRecDepth 100000 in
theorem e_wk20 : e_wok (e_c20.flatMap (e_wds 20 (e_nm 20).cls)) := ⟨rfl, rfl⟩
theorem e_ok21 : e_c21.all (e_ck 21) = true := by decide +kernel
set_option maxRecDepth 100000 in
theorem e_wk21 : e_wok (e_c21.flatMap (e_wds 21 (e_nm 21).cls)) := ⟨rfl, rfl⟩
theorem e_ok22 : e_c22.all (e_ck 22) = true := by decide +kernel
set_option maxRecDepth 100000 in
theorem e_wk22 : e_wok (e_c22.flatMap (e_wds 22 (e_nm 22).cls)) := ⟨rfl, rfl⟩
theorem e_ok23 : e_c23.all (e_ck 23) = true := by decide +kernel
set_option maxRecDepth 100000 in
theorem e_wk23 : e_wok (e_c23.flatMap (e_wds 23 (e_nm 23).cls)) := ⟨rfl, rfl⟩
theorem e_ok24 : e_c24.all (e_ck 24) = true := by decide +kernel
set_option maxRecDepth 100000 in
theorem e_wk24 : e_wok (e_c24.flatMap (e_wds 24 (e_nm 24).cls)) := ⟨rfl, rfl⟩
theorem e_ok25 : e_c25.all (e_ck 25) = true := by decide +kernel
set_option maxRecDepth 100000 in
theorem e_wk25 : e_wok (e_c25.flatMap (e_wds 25 (e_nm 25).cls)) := ⟨rfl, rfl⟩
theorem e_ok26 : e_c26.all (e_ck 26) = true := by decide +kernel
set_option maxRecDepth 100000 in
theorem e_wk26 : e_wok (e_c26.flatMap (e_wds 26 (e_nm 26).cls)) := ⟨rfl, rfl⟩
theorem e_ok27 : e_c27.all (e_ck 27) = true := by decide +kernel
set_option maxRecDepth 100000 in
theorem e_wk27 : e_wok (e_c27.flatMap (e_wds 27 (e_nm 27).cls)) := ⟨rfl, rfl⟩
theorem e_ok28 : e_c28.all (e_ck 28) = true := by decide +kernel
set_option maxRecDepth 100000 in
theorem e_wk28 : e_wok (e_c28.flatMap (e_wds 28 (e_nm 28).cls)) := ⟨rfl, rfl⟩
theorem e_ok29 : e_c29.all (e_ck 29) = true := by decide +kernel
set_option maxRecDepth 100000 in
theorem e_wk29 : e_wok (e_c29.flatMap (e_wds 29 (e_nm 29).cls)) := ⟨rfl, rfl⟩
theorem e_ok30 : e_c30.all (e_ck 30) = true := by decide +kernel
set_option maxRecDepth 100000 in
theorem e_wk30 : e_wok (e_c30.flatMap (e_wds 30 (e_nm 30).cls)) := ⟨rfl, rfl⟩
theorem e_ok31 : e_c31.all (e_ck 31) = true := by decide +kernel
set_option maxRecDepth 100000 in
theorem e_wk31 : e_wok (e_c31.flatMap (e_wds 31 (e_nm 31).cls)) := ⟨rfl, rfl⟩
theorem e_ok32 : e_c32.all (e_ck 32) = true := by decide +kernel
set_option maxRecDepth 100000 in
theorem e_wk32 : e_wok (e_c32.flatMap (e_wds 32 (e_nm 32).cls)) := ⟨rfl, rfl⟩
theorem e_ok33 : e_c33.all (e_ck 33) = true := by decide +kernel
set_option maxRecDepth 100000 in
theorem e_wk33 : e_wok (e_c33.flatMap (e_wds 33 (e_nm 33).cls)) := ⟨rfl, rfl⟩
theorem e_ok34 : e_c34.all (e_ck 34) = true := by decide +kernel
set_option maxRecDepth 100000 in
theorem e_wk34 : e_wok (e_c34.flatMap (e_wds 34 (e_nm 34).cls)) := ⟨rfl, rfl⟩
theorem e_ok35 : e_c35.all (e_ck 35) = true := by decide +kernel
set_option maxRecDepth 100000 in
theorem e_wk35 : e_wok (e_c35.flatMap (e_wds 35 (e_nm 35).cls)) := ⟨rfl, rfl⟩
theorem e_ok36 : e_c36.all (e_ck 36) = true := by decide +kernel
set_option maxRecDepth 100000 in
theorem e_wk36 : e_wok (e_c36.flatMap (e_wds 36 (e_nm 36).cls)) := ⟨rfl, rfl⟩
theorem e_ok37 : e_c37.all (e_ck 37) = true := by decide +kernel
set_option maxRecDepth 100000 in
theorem e_wk37 : e_wok (e_c37.flatMap (e_wds 37 (e_nm 37).cls)) := ⟨rfl, rfl⟩
theorem e_ok38 : e_c38.all (e_ck 38) = true := by decide +kernel
set_option maxRecDepth 100000 in
theorem e_wk38 : e_wok (e_c38.flatMap (e_wds 38 (e_nm 38).cls)) := ⟨rfl, rfl⟩
theorem e_ok39 : e_c39.all (e_ck 39) = true := by decide +kernel
set_option maxRecDepth 100000 in
theorem e_wk39 : e_wok (e_c39.flatMap (e_wds 39 (e_nm 39).cls)) := ⟨rfl, rfl⟩
theorem e_ok40 : e_c40.all (e_ck 40) = true := by decide +kernel
set_option maxRecDepth 100000 in
theorem e_wk40 : e_wok (e_c40.flatMap (e_wds 40 (e_nm 40).cls)) := ⟨rfl, rfl⟩
theorem e_ok41 : e_c41.all (e_ck 41) = true := by decide +kernel
set_option maxRecDepth 100000 in
theorem e_wk41 : e_wok (e_c41.flatMap (e_wds 41 (e_nm 41).cls)) := ⟨rfl, rfl⟩
theorem e_ok42 : e_c42.all (e_ck 42) = true := by decide +kernel
set_option maxRecDepth 100000 in
theorem e_wk42 : e_wok (e_c42.flatMap (e_wds 42 (e_nm 42).cls)) := ⟨rfl, rfl⟩
theorem e_ok43 : e_c43.all (e_ck 43) = true := by decide +kernel
set_option maxRecDepth 100000 in
theorem e_wk43 : e_wok (e_c43.flatMap (e_wds 43 (e_nm 43).cls)) := ⟨rfl, rfl⟩
theorem e_ok44 : e_c44.all (e_ck 44) = true := by decide +kernel
set_option maxRecDepth 100000 in
theorem e_wk44 : e_wok (e_c44.flatMap (e_wds 44 (e_nm 44).cls)) := ⟨rfl, rfl⟩
theorem e_ok45 : e_c45.all (e_ck 45) = true := by decide +kernel
set_option maxRecDepth 100000 in
theorem e_wk45 : e_wok (e_c45.flatMap (e_wds 45 (e_nm 45).cls)) := ⟨rfl, rfl⟩
theorem e_ok46 : e_c46.all (e_ck 46) = true := by decide +kernel
set_option maxRecDepth 100000 in
theorem e_wk46 : e_wok (e_c46.flatMap (e_wds 46 (e_nm 46).cls)) := ⟨rfl, rfl⟩
theorem e_ok47 : e_c47.all (e_ck 47) = true := by decide +kernel
set_option maxRecDepth 100000 in
theorem e_wk47 : e_wok (e_c47.flatMap (e_wds 47 (e_nm 47).cls)) := ⟨rfl, rfl⟩
theorem e_ok48 : e_c48.all (e_ck 48) = true := by decide +kernel
set_option maxRecDepth 100000 in
theorem e_wk48 : e_wok (e_c48.flatMap (e_wds 48 (e_nm 48).cls)) := ⟨rfl, rfl⟩
theorem e_ok49 : e_c49.all (e_ck 49) = true := by decide +kernel
set_option maxRecDepth 100000 in
theorem e_wk49 : e_wok (e_c49.flatMap (e_wds 49 (e_nm 49).cls)) := ⟨rfl, rfl⟩
theorem e_ok50 : e_c50.all (e_ck 50) = true := by decide +kernel
set_option maxRecDepth 100000 in
theorem e_wk50 : e_wok (e_c50.flatMap (e_wds 50 (e_nm 50).cls)) := ⟨rfl, rfl⟩
theorem e_ok51 : e_c51.all (e_ck 51) = true := by decide +kernel
set_option maxRecDepth 100000 in
theorem e_wk51 : e_wok (e_c51.flatMap (e_wds 51 (e_nm 51).cls)) := ⟨rfl, rfl⟩
theorem e_ok52 : e_c52.all (e_ck 52) = true := by decide +kernel
set_option maxRecDepth 100000 in
theorem e_wk52 : e_wok (e_c52.flatMap (e_wds 52 (e_nm 52).cls)) := ⟨rfl, rfl⟩
theorem e_ok53 : e_c53.all (e_ck 53) = true := by decide +kernel
set_option maxRecDepth 100000 in
theorem e_wk53 : e_wok (e_c53.flatMap (e_wds 53 (e_nm 53).cls)) := ⟨rfl, rfl⟩
theorem e_ok54 : e_c54.all (e_ck 54) = true := by decide +kernel
set_option maxRecDepth 100000 in
theorem e_wk54 : e_wok (e_c54.flatMap (e_wds 54 (e_nm 54).cls)) := ⟨rfl, rfl⟩
theorem e_ok55 : e_c55.all (e_ck 55) = true := by decide +kernel
set_option maxRecDepth 100000 in
theorem e_wk55 : e_wok (e_c55.flatMap (e_wds 55 (e_nm 55).cls)) := ⟨rfl, rfl⟩
theorem e_ok56 : e_c56.all (e_ck 56) = true := by decide +kernel
set_option maxRecDepth 100000 in
theorem e_wk56 : e_wok (e_c56.flatMap (e_wds 56 (e_nm 56).cls)) := ⟨rfl, rfl⟩
theorem e_ok57 : e_c57.all (e_ck 57) = true := by decide +kernel
set_option maxRecDepth 100000 in
theorem e_wk57 : e_wok (e_c57.flatMap (e_wds 57 (e_nm 57).cls)) := ⟨rfl, rfl⟩
theorem e_ok58 : e_c58.all (e_ck 58) = true := by decide +kernel
set_option maxRecDepth 100000 in
theorem e_wk58 : e_wok (e_c58.flatMap (e_wds 58 (e_nm 58).cls)) := ⟨rfl, rfl⟩
theorem e_ok59 : e_c59.all (e_ck 59) = true := by decide +kernel
set_option maxRecDepth 100000 in
theorem e_wk59 : e_wok (e_c59.flatMap (e_wds 59 (e_nm 59).cls)) := ⟨rfl, rfl⟩
theorem e_ok60 : e_c60.all (e_ck 60) = true := by decide +kernel
set_option maxRecDepth 100000 in
theorem e_wk60 : e_wok (e_c60.flatMap (e_wds 60 (e_nm 60).cls)) := ⟨rfl, rfl⟩
theorem e_ok61 : e_c61.all (e_ck 61) = true := by decide +kernel
set_option maxRecDepth 100000 in
theorem e_wk61 : e_wok (e_c61.flatMap (e_wds 61 (e_nm 61).cls)) := ⟨rfl, rfl⟩
end
section
/-! every instruction of the program is checked (1) -/
theorem e_ok62 : e_c62.all (e_ck 62) = true := by decide +kernel
set_option maxRecDepth 100000 in
theorem e_wk62 : e_wok (e_c62.flatMap (e_wds 62 (e_nm 62).cls)) := ⟨rfl, rfl⟩
theorem e_ok63 : e_c63.all (e_ck 63) = true := by decide +kernel
set_option maxRecDepth 100000 in
theorem e_wk63 : e_wok (e_c63.flatMap (e_wds 63 (e_nm 63).cls)) := ⟨rfl, rfl⟩
theorem e_ok64 : e_c64.all (e_ck 64) = true := by decide +kernel
set_option maxRecDepth 100000 in
theorem e_wk64 : e_wok (e_c64.flatMap (e_wds 64 (e_nm 64).cls)) := ⟨rfl, rfl⟩
theorem e_ok65 : e_c65.all (e_ck 65) = true := by decide +kernel
set_option maxRecDepth 100000 in
theorem e_wk65 : e_wok (e_c65.flatMap (e_wds 65 (e_nm 65).cls)) := ⟨rfl, rfl⟩
theorem e_ok66 : e_c66.all (e_ck 66) = true := by decide +kernel
set_option maxRecDepth 100000 in
theorem e_wk66 : e_wok (e_c66.flatMap (e_wds 66 (e_nm 66).cls)) := ⟨rfl, rfl⟩
theorem e_ok67 : e_c67.all (e_ck 67) = true := by decide +kernel
set_option maxRecDepth 100000 in
theorem e_wk67 : e_wok (e_c67.flatMap (e_wds 67 (e_nm 67).cls)) := ⟨rfl, rfl⟩
theorem e_ok68 : e_c68.all (e_ck 68) = true := by decide +kernel
set_option maxRecDepth 100000 in
theorem e_wk68 : e_wok (e_c68.flatMap (e_wds 68 (e_nm 68).cls)) := ⟨rfl, rfl⟩
theorem e_ok69 : e_c69.all (e_ck 69) = true := by decide +kernel
set_option maxRecDepth 100000 in
theorem e_wk69 : e_wok (e_c69.flatMap (e_wds 69 (e_nm 69).cls)) := ⟨rfl, rfl⟩
theorem e_ok70 : e_c70.all (e_ck 70) = true := by decide +kernel
set_option maxRecDepth 100000 in
theorem e_wk70 : e_wok (e_c70.flatMap (e_wds 70 (e_nm 70).cls)) := ⟨rfl, rfl⟩
theorem e_ok71 : e_c71.all (e_ck 71) = true := by decide +kernel
set_option maxRecDepth 100000 in
theorem e_wk71 : e_wok (e_c71.flatMap (e_wds 71 (e_nm 71).cls)) := ⟨rfl, rfl⟩
theorem e_ok72 : e_c72.all (e_ck 72) = true := by decide +kernel
set_option maxRecDepth 100000 in
theorem e_wk72 : e_wok (e_c72.flatMap (e_wds 72 (e_nm 72).cls)) := ⟨rfl, rfl⟩
theorem e_ok73 : e_c73.all (e_ck 73) = true := by decide +kernel
set_option maxRecDepth 100000 in
theorem e_wk73 : e_wok (e_c73.flatMap (e_wds 73 (e_nm 73).cls)) := ⟨rfl, rfl⟩
theorem e_ok74 : e_c74.all (e_ck 74) = true := by decide +kernel
set_option maxRecDepth 100000 in
theorem e_wk74 : e_wok (e_c74.flatMap (e_wds 74 (e_nm 74).cls)) := ⟨rfl, rfl⟩
theorem e_ok75 : e_c75.all (e_ck 75) = true := by decide +kernel
set_option maxRecDepth 100000 in
theorem e_wk75 : e_wok (e_c75.flatMap (e_wds 75 (e_nm 75).cls)) := ⟨rfl, rfl⟩
theorem e_ok76 : e_c76.all (e_ck 76) = true := by decide +kernel
set_option maxRecDepth 100000 in
theorem e_wk76 : e_wok (e_c76.flatMap (e_wds 76 (e_nm 76).cls)) := ⟨rfl, rfl⟩
theorem e_ok77 : e_c77.all (e_ck 77) = true := by decide +kernel
set_option maxRecDepth 100000 in
theorem e_wk77 : e_wok (e_c77.flatMap (e_wds 77 (e_nm 77).cls)) := ⟨rfl, rfl⟩
theorem e_ok78 : e_c78.all (e_ck 78) = true := by decide +kernel
set_option maxRecDepth 100000 in
theorem e_wk78 : e_wok (e_c78.flatMap (e_wds 78 (e_nm 78).cls)) := ⟨rfl, rfl⟩
theorem e_ok79 : e_c79.all (e_ck 79) = true := by decide +kernel
set_option maxRecDepth 100000 in
theorem e_wk79 : e_wok (e_c79.flatMap (e_wds 79 (e_nm 79).cls)) := ⟨rfl, rfl⟩
theorem e_ok80 : e_c80.all (e_ck 80) = true := by decide +kernel
set_option maxRecDepth 100000 in
theorem e_wk80 : e_wok (e_c80.flatMap (e_wds 80 (e_nm 80).cls)) := ⟨rfl, rfl⟩
theorem e_ok81 : e_c81.all (e_ck 81) = true := by decide +kernel
set_option maxRecDepth 100000 in
theorem e_wk81 : e_wok (e_c81.flatMap (e_wds 81 (e_nm 81).cls)) := ⟨rfl, rfl⟩
theorem e_ok82 : e_c82.all (e_ck 82) = true := by decide +kernel
set_option maxRecDepth 100000 in
theorem e_wk82 : e_wok (e_c82.flatMap (e_wds 82 (e_nm 82).cls)) := ⟨rfl, rfl⟩
theorem e_ok83 : e_c83.all (e_ck 83) = true := by decide +kernel
set_option maxRecDepth 100000 in
theorem e_wk83 : e_wok (e_c83.flatMap (e_wds 83 (e_nm 83).cls)) := ⟨rfl, rfl⟩
theorem e_ok84 : e_c84.all (e_ck 84) = true := by decide +kernel
set_option maxRecDepth 100000 in
theorem e_wk84 : e_wok (e_c84.flatMap (e_wds 84 (e_nm 84).cls)) := ⟨rfl, rfl⟩
theorem e_ok85 : e_c85.all (e_ck 85) = true := by decide +kernel
set_option maxRecDepth 100000 in
theorem e_wk85 : e_wok (e_c85.flatMap (e_wds 85 (e_nm 85).cls)) := ⟨rfl, rfl⟩
theorem e_ok86 : e_c86.all (e_ck 86) = true := by decide +kernel
set_option maxRecDepth 100000 in
theorem e_wk86 : e_wok (e_c86.flatMap (e_wds 86 (e_nm 86).cls)) := ⟨rfl, rfl⟩
theorem e_ok87 : e_c87.all (e_ck 87) = true := by decide +kernel
set_option maxRecDepth 100000 in
theorem e_wk87 : e_wok (e_c87.flatMap (e_wds 87 (e_nm 87).cls)) := ⟨rfl, rfl⟩
theorem e_ok88 : e_c88.all (e_ck 88) = true := by decide +kernel
set_option maxRecDepth 100000 in
theorem e_wk88 : e_wok (e_c88.flatMap (e_wds 88 (e_nm 88).cls)) := ⟨rfl, rfl⟩
theorem e_ok89 : e_c89.all (e_ck 89) = true := by decide +kernel
set_option maxRecDepth 100000 in
theorem e_wk89 : e_wok (e_c89.flatMap (e_wds 89 (e_nm 89).cls)) := ⟨rfl, rfl⟩
theorem e_ok90 : e_c90.all (e_ck 90) = true := by decide +kernel
set_option maxRecDepth 100000 in
theorem e_wk90 : e_wok (e_c90.flatMap (e_wds 90 (e_nm 90).cls)) := ⟨rfl, rfl⟩
theorem e_ok91 : e_c91.all (e_ck 91) = true := by decide +kernel
set_option maxRecDepth 100000 in
theorem e_wk91 : e_wok (e_c91.flatMap (e_wds 91 (e_nm 91).cls)) := ⟨rfl, rfl⟩
theorem e_ok92 : e_c92.all (e_ck 92) = true := by decide +kernel
set_option maxRecDepth 100000 in
theorem e_wk92 : e_wok (e_c92.flatMap (e_wds 92 (e_nm 92).cls)) := ⟨rfl, rfl⟩
theorem e_ok93 : e_c93.all (e_ck 93) = true := by decide +kernel
set_option maxRecDepth 100000 in
theorem e_wk93 : e_wok (e_c93.flatMap (e_wds 93 (e_nm 93).cls)) := ⟨rfl, rfl⟩
theorem e_ok94 : e_c94.all (e_ck 94) = true := by decide +kernel
set_option maxRecDepth 100000 in
theorem e_wk94 : e_wok (e_c94.flatMap (e_wds 94 (e_nm 94).cls)) := ⟨rfl, rfl⟩
theorem e_ok95 : e_c95.all (e_ck 95) = true := by decide +kernel
set_option maxRecDepth 100000 in
theorem e_wk95 : e_wok (e_c95.flatMap (e_wds 95 (e_nm 95).cls)) := ⟨rfl, rfl⟩
theorem e_ok96 : e_c96.all (e_ck 96) = true := by decide +kernel
set_option maxRecDepth 100000 in
theorem e_wk96 : e_wok (e_c96.flatMap (e_wds 96 (e_nm 96).cls)) := ⟨rfl, rfl⟩
theorem e_ok97 : e_c97.all (e_ck 97) = true := by decide +kernel
set_option maxRecDepth 100000 in
theorem e_wk97 : e_wok (e_c97.flatMap (e_wds 97 (e_nm 97).cls)) := ⟨rfl, rfl⟩
theorem e_ok98 : e_c98.all (e_ck 98) = true := by decide +kernel
set_option maxRecDepth 100000 in
theorem e_wk98 : e_wok (e_c98.flatMap (e_wds 98 (e_nm 98).cls)) := ⟨rfl, rfl⟩
theorem e_ok99 : e_c99.all (e_ck 99) = true := by decide +kernel
set_option maxRecDepth 100000 in
theorem e_wk99 : e_wok (e_c99.flatMap (e_wds 99 (e_nm 99).cls)) := ⟨rfl, rfl⟩
theorem e_ok100 : e_c100.all (e_ck 100) = true := by decide +kernel
set_option maxRecDepth 100000 in
theorem e_wk100 : e_wok (e_c100.flatMap (e_wds 100 (e_nm 100).cls)) := ⟨rfl, rfl⟩
theorem e_ok101 : e_c101.all (e_ck 101) = true := by decide +kernel
set_option maxRecDepth 100000 in
theorem e_wk101 : e_wok (e_c101.flatMap (e_wds 101 (e_nm 101).cls)) := ⟨rfl, rfl⟩
theorem e_ok102 : e_c102.all (e_ck 102) = true := by decide +kernel
set_option maxRecDepth 100000 in
theorem e_wk102 : e_wok (e_c102.flatMap (e_wds 102 (e_nm 102).cls)) := ⟨rfl, rfl⟩
theorem e_ok103 : e_c103.all (e_ck 103) = true := by decide +kernel
set_option maxRecDepth 100000 in
theorem e_wk103 : e_wok (e_c103.flatMap (e_wds 103 (e_nm 103).cls)) := ⟨rfl, rfl⟩
theorem e_ok104 : e_c104.all (e_ck 104) = true := by decide +kernel
set_option maxRecDepth 100000 in
theorem e_wk104 : e_wok (e_c104.flatMap (e_wds 104 (e_nm 104).cls)) := ⟨rfl, rfl⟩
theorem e_ok105 : e_c105.all (e_ck 105) = true := by decide +kernel
set_option maxRecDepth 100000 in
theorem e_wk105 : e_wok (e_c105.flatMap (e_wds 105 (e_nm 105).cls)) := ⟨rfl, rfl⟩
theorem e_ok106 : e_c106.all (e_ck 106) = true := by decide +kernel
set_option maxRecDepth 100000 in
theorem e_wk106 : e_wok (e_c106.flatMap (e_wds 106 (e_nm 106).cls)) := ⟨rfl, rfl⟩
theorem e_ok107 : e_c107.all (e_ck 107) = true := by decide +kernel
set_option maxRecDepth 100000 in
theorem e_wk107 : e_wok (e_c107.flatMap (e_wds 107 (e_nm 107).cls)) := ⟨rfl, rfl⟩
theorem e_ok108 : e_c108.all (e_ck 108) = true := by decide +kernel
set_option maxRecDepth 100000 in
theorem e_wk108 : e_wok (e_c108.flatMap (e_wds 108 (e_nm 108).cls)) := ⟨rfl, rfl⟩
theorem e_ok109 : e_c109.all (e_ck 109) = true := by decide +kernel
set_option maxRecDepth 100000 in
theorem e_wk109 : e_wok (e_c109.flatMap (e_wds 109 (e_nm 109).cls)) := ⟨rfl, rfl⟩
theorem e_ok110 : e_c110.all (e_ck 110) = true := by decide +kernel
set_option maxRecDepth 100000 in
theorem e_wk110 : e_wok (e_c110.flatMap (e_wds 110 (e_nm 110).cls)) := ⟨rfl, rfl⟩
theorem e_ok111 : e_c111.all (e_ck 111) = true := by decide +kernel
set_option maxRecDepth 100000 in
theorem e_wk111 : e_wok (e_c111.flatMap (e_wds 111 (e_nm 111).cls)) := ⟨rfl, rfl⟩
theorem e_ok112 : e_c112.all (e_ck 112) = true := by decide +kernel
set_option maxRecDepth 100000 in
theorem e_wk112 : e_wok (e_c112.flatMap (e_wds 112 (e_nm 112).cls)) := ⟨rfl, rfl⟩
theorem e_ok113 : e_c113.all (e_ck 113) = true := by decide +kernel
set_option maxRecDepth 100000 in
theorem e_wk113 : e_wok (e_c113.flatMap (e_wds 113 (e_nm 113).cls)) := ⟨rfl, rfl⟩
theorem e_ok114 : e_c114.all (e_ck 114) = true := by decide +kernel
set_option maxRecDepth 100000 in
theorem e_wk114 : e_wok (e_c114.flatMap (e_wds 114 (e_nm 114).cls)) := ⟨rfl, rfl⟩
theorem e_ok115 : e_c115.all (e_ck 115) = true := by decide +kernel
set_option maxRecDepth 100000 in
theorem e_wk115 : e_wok (e_c115.flatMap (e_wds 115 (e_nm 115).cls)) := ⟨rfl, rfl⟩
theorem e_ok116 : e_c116.all (e_ck 116) = true := by decide +kernel
set_option maxRecDepth 100000 in
theorem e_wk116 : e_wok (e_c116.flatMap (e_wds 116 (e_nm 116).cls)) := ⟨rfl, rfl⟩
theorem e_ok117 : e_c117.all (e_ck 117) = true := by decide +kernel
set_option maxRecDepth 100000 in
theorem e_wk117 : e_wok (e_c117.flatMap (e_wds 117 (e_nm 117).cls)) := ⟨rfl, rfl⟩
theorem e_ok118 : e_c118.all (e_ck 118) = true := by decide +kernel
set_option maxRecDepth 100000 in
theorem e_wk118 : e_wok (e_c118.flatMap (e_wds 118 (e_nm 118).cls)) := ⟨rfl, rfl⟩
theorem e_ok119 : e_c119.all (e_ck 119) = true := by decide +kernel
set_option maxRecDepth 100000 in
theorem e_wk119 : e_wok (e_c119.flatMap (e_wds 119 (e_nm 119).cls)) := ⟨rfl, rfl⟩
theorem e_ok120 : e_c120.all (e_ck 120) = true := by decide +kernel
set_option maxRecDepth 100000 in
theorem e_wk120 : e_wok (e_c120.flatMap (e_wds 120 (e_nm 120).cls)) := ⟨rfl, rfl⟩
theorem e_ok121 : e_c121.all (e_ck 121) = true := by decide +kernel
set_option maxRecDepth 100000 in
theorem e_wk121 : e_wok (e_c121.flatMap (e_wds 121 (e_nm 121).cls)) := ⟨rfl, rfl⟩
theorem e_ok122 : e_c122.all (e_ck 122) = true := by decide +kernel
set_option maxRecDepth 100000 in
theorem e_wk122 : e_wok (e_c122.flatMap (e_wds 122 (e_nm 122).cls)) := ⟨rfl, rfl⟩
theorem e_ok123 : e_c123.all (e_ck 123) = true := by decide +kernel
set_option maxRecDepth 100000 in
theorem e_wk123 : e_wok (e_c123.flatMap (e_wds 123 (e_nm 123).cls)) := ⟨rfl, rfl⟩
end
section
/-! every instruction of the program is checked (2) -/
theorem e_ok124 : e_c124.all (e_ck 124) = true := by decide +kernel
set_option maxRecDepth 100000 in
theorem e_wk124 : e_wok (e_c124.flatMap (e_wds 124 (e_nm 124).cls)) := ⟨rfl, rfl⟩
theorem e_ok125 : e_c125.all (e_ck 125) = true := by decide +kernel
set_option maxRecDepth 100000 in
theorem e_wk125 : e_wok (e_c125.flatMap (e_wds 125 (e_nm 125).cls)) := ⟨rfl, rfl⟩
theorem e_ok126 : e_c126.all (e_ck 126) = true := by decide +kernel
set_option maxRecDepth 100000 in
theorem e_wk126 : e_wok (e_c126.flatMap (e_wds 126 (e_nm 126).cls)) := ⟨rfl, rfl⟩
theorem e_ok127 : e_c127.all (e_ck 127) = true := by decide +kernel
set_option maxRecDepth 100000 in
theorem e_wk127 : e_wok (e_c127.flatMap (e_wds 127 (e_nm 127).cls)) := ⟨rfl, rfl⟩
theorem e_ok128 : e_c128.all (e_ck 128) = true := by decide +kernel
set_option maxRecDepth 100000 in
theorem e_wk128 : e_wok (e_c128.flatMap (e_wds 128 (e_nm 128).cls)) := ⟨rfl, rfl⟩
theorem e_ok129 : e_c129.all (e_ck 129) = true := by decide +kernel
set_option maxRecDepth 100000 in
theorem e_wk129 : e_wok (e_c129.flatMap (e_wds 129 (e_nm 129).cls)) := ⟨rfl, rfl⟩
theorem e_ok130 : e_c130.all (e_ck 130) = true := by decide +kernel
set_option maxRecDepth 100000 in
theorem e_wk130 : e_wok (e_c130.flatMap (e_wds 130 (e_nm 130).cls)) := ⟨rfl, rfl⟩
theorem e_ok131 : e_c131.all (e_ck 131) = true := by decide +kernel
set_option maxRecDepth 100000 in
theorem e_wk131 : e_wok (e_c131.flatMap (e_wds 131 (e_nm 131).cls)) := ⟨rfl, rfl⟩
theorem e_ok132 : e_c132.all (e_ck 132) = true := by decide +kernel
set_option maxRecDepth 100000 in
theorem e_wk132 : e_wok (e_c132.flatMap (e_wds 132 (e_nm 132).cls)) := ⟨rfl, rfl⟩
theorem e_ok133 : e_c133.all (e_ck 133) = true := by decide +kernel
set_option maxRecDepth 100000 in
theorem e_wk133 : e_wok (e_c133.flatMap (e_wds 133 (e_nm 133).cls)) := ⟨rfl, rfl⟩
theorem e_ok134 : e_c134.all (e_ck 134) = true := by decide +kernel
set_option maxRecDepth 100000 in
theorem e_wk134 : e_wok (e_c134.flatMap (e_wds 134 (e_nm 134).cls)) := ⟨rfl, rfl⟩
theorem e_ok135 : e_c135.all (e_ck 135) = true := by decide +kernel
set_option maxRecDepth 100000 in
theorem e_wk135 : e_wok (e_c135.flatMap (e_wds 135 (e_nm 135).cls)) := ⟨rfl, rfl⟩
theorem e_ok136 : e_c136.all (e_ck 136) = true := by decide +kernel
set_option maxRecDepth 100000 in
theorem e_wk136 : e_wok (e_c136.flatMap (e_wds 136 (e_nm 136).cls)) := ⟨rfl, rfl⟩
theorem e_ok137 : e_c137.all (e_ck 137) = true := by decide +kernel
set_option maxRecDepth 100000 in
theorem e_wk137 : e_wok (e_c137.flatMap (e_wds 137 (e_nm 137).cls)) := ⟨rfl, rfl⟩
theorem e_ok138 : e_c138.all (e_ck 138) = true := by decide +kernel
set_option maxRecDepth 100000 in
theorem e_wk138 : e_wok (e_c138.flatMap (e_wds 138 (e_nm 138).cls)) := ⟨rfl, rfl⟩
theorem e_ok139 : e_c139.all (e_ck 139) = true := by decide +kernel
set_option maxRecDepth 100000 in
theorem e_wk139 : e_wok (e_c139.flatMap (e_wds 139 (e_nm 139).cls)) := ⟨rfl, rfl⟩
theorem e_ok140 : e_c140.all (e_ck 140) = true := by decide +kernel
set_option maxRecDepth 100000 in
theorem e_wk140 : e_wok (e_c140.flatMap (e_wds 140 (e_nm 140).cls)) := ⟨rfl, rfl⟩
theorem e_ok141 : e_c141.all (e_ck 141) = true := by decide +kernel
set_option maxRecDepth 100000 in
theorem e_wk141 : e_wok (e_c141.flatMap (e_wds 141 (e_nm 141).cls)) := ⟨rfl, rfl⟩
theorem e_ok142 : e_c142.all (e_ck 142) = true := by decide +kernel
set_option maxRecDepth 100000 in
theorem e_wk142 : e_wok (e_c142.flatMap (e_wds 142 (e_nm 142).cls)) := ⟨rfl, rfl⟩
theorem e_ok143 : e_c143.all (e_ck 143) = true := by decide +kernel
set_option maxRecDepth 100000 in
theorem e_wk143 : e_wok (e_c143.flatMap (e_wds 143 (e_nm 143).cls)) := ⟨rfl, rfl⟩
theorem e_ok144 : e_c144.all (e_ck 144) = true := by decide +kernel
set_option maxRecDepth 100000 in
theorem e_wk144 : e_wok (e_c144.flatMap (e_wds 144 (e_nm 144).cls)) := ⟨rfl, rfl⟩
theorem e_ok145 : e_c145.all (e_ck 145) = true := by decide +kernel
set_option maxRecDepth 100000 in
theorem e_wk145 : e_wok (e_c145.flatMap (e_wds 145 (e_nm 145).cls)) := ⟨rfl, rfl⟩
theorem e_ok146 : e_c146.all (e_ck 146) = true := by decide +kernel
set_option maxRecDepth 100000 in
theorem e_wk146 : e_wok (e_c146.flatMap (e_wds 146 (e_nm 146).cls)) := ⟨rfl, rfl⟩
theorem e_ok147 : e_c147.all (e_ck 147) = true := by decide +kernel
set_option maxRecDepth 100000 in
theorem e_wk147 : e_wok (e_c147.flatMap (e_wds 147 (e_nm 147).cls)) := ⟨rfl, rfl⟩
theorem e_ok148 : e_c148.all (e_ck 148) = true := by decide +kernel
set_option maxRecDepth 100000 in
theorem e_wk148 : e_wok (e_c148.flatMap (e_wds 148 (e_nm 148).cls)) := ⟨rfl, rfl⟩
theorem e_ok149 : e_c149.all (e_ck 149) = true := by decide +kernel
set_option maxRecDepth 100000 in
theorem e_wk149 : e_wok (e_c149.flatMap (e_wds 149 (e_nm 149).cls)) := ⟨rfl, rfl⟩
theorem e_ok150 : e_c150.all (e_ck 150) = true := by decide +kernel
set_option maxRecDepth 100000 in
theorem e_wk150 : e_wok (e_c150.flatMap (e_wds 150 (e_nm 150).cls)) := ⟨rfl, rfl⟩
theorem e_ok151 : e_c151.all (e_ck 151) = true := by decide +kernel
set_option maxRecDepth 100000 in
theorem e_wk151 : e_wok (e_c151.flatMap (e_wds 151 (e_nm 151).cls)) := ⟨rfl, rfl⟩
theorem e_ok152 : e_c152.all (e_ck 152) = true := by decide +kernel
set_option maxRecDepth 100000 in
theorem e_wk152 : e_wok (e_c152.flatMap (e_wds 152 (e_nm 152).cls)) := ⟨rfl, rfl⟩
theorem e_ok153 : e_c153.all (e_ck 153) = true := by decide +kernel
set_option maxRecDepth 100000 in
theorem e_wk153 : e_wok (e_c153.flatMap (e_wds 153 (e_nm 153).cls)) := ⟨rfl, rfl⟩
theorem e_ok154 : e_c154.all (e_ck 154) = true := by decide +kernel
set_option maxRecDepth 100000 in
theorem e_wk154 : e_wok (e_c154.flatMap (e_wds 154 (e_nm 154).cls)) := ⟨rfl, rfl⟩
theorem e_ok155 : e_c155.all (e_ck 155) = true := by decide +kernel
set_option maxRecDepth 100000 in
theorem e_wk155 : e_wok (e_c155.flatMap (e_wds 155 (e_nm 155).cls)) := ⟨rfl, rfl⟩
theorem e_ok156 : e_c156.all (e_ck 156) = true := by decide +kernel
set_option maxRecDepth 100000 in
theorem e_wk156 : e_wok (e_c156.flatMap (e_wds 156 (e_nm 156).cls)) := ⟨rfl, rfl⟩
theorem e_ok157 : e_c157.all (e_ck 157) = true := by decide +kernel
set_option maxRecDepth 100000 in
theorem e_wk157 : e_wok (e_c157.flatMap (e_wds 157 (e_nm 157).cls)) := ⟨rfl, rfl⟩
theorem e_ok158 : e_c158.all (e_ck 158) = true := by decide +kernel
set_option maxRecDepth 100000 in
theorem e_wk158 : e_wok (e_c158.flatMap (e_wds 158 (e_nm 158).cls)) := ⟨rfl, rfl⟩
theorem e_ok159 : e_c159.all (e_ck 159) = true := by decide +kernel
set_option maxRecDepth 100000 in
theorem e_wk159 : e_wok (e_c159.flatMap (e_wds 159 (e_nm 159).cls)) := ⟨rfl, rfl⟩
theorem e_ok160 : e_c160.all (e_ck 160) = true := by decide +kernel
set_option maxRecDepth 100000 in
theorem e_wk160 : e_wok (e_c160.flatMap (e_wds 160 (e_nm 160).cls)) := ⟨rfl, rfl⟩
theorem e_ok161 : e_c161.all (e_ck 161) = true := by decide +kernel
set_option maxRecDepth 100000 in
theorem e_wk161 : e_wok (e_c161.flatMap (e_wds 161 (e_nm 161).cls)) := ⟨rfl, rfl⟩
theorem e_ok162 : e_c162.all (e_ck 162) = true := by decide +kernel
set_option maxRecDepth 100000 in
theorem e_wk162 : e_wok (e_c162.flatMap (e_wds 162 (e_nm 162).cls)) := ⟨rfl, rfl⟩
theorem e_ok163 : e_c163.all (e_ck 163) = true := by decide +kernel
set_option maxRecDepth 100000 in
theorem e_wk163 : e_wok (e_c163.flatMap (e_wds 163 (e_nm 163).cls)) := ⟨rfl, rfl⟩
theorem e_ok164 : e_c164.all (e_ck 164) = true := by decide +kernel
set_option maxRecDepth 100000 in
theorem e_wk164 : e_wok (e_c164.flatMap (e_wds 164 (e_nm 164).cls)) := ⟨rfl, rfl⟩
theorem e_ok165 : e_c165.all (e_ck 165) = true := by decide +kernel
set_option maxRecDepth 100000 in
theorem e_wk165 : e_wok (e_c165.flatMap (e_wds 165 (e_nm 165).cls)) := ⟨rfl, rfl⟩
theorem e_ok166 : e_c166.all (e_ck 166) = true := by decide +kernel
set_option maxRecDepth 100000 in
theorem e_wk166 : e_wok (e_c166.flatMap (e_wds 166 (e_nm 166).cls)) := ⟨rfl, rfl⟩
theorem e_ok167 : e_c167.all (e_ck 167) = true := by decide +kernel
set_option maxRecDepth 100000 in
theorem e_wk167 : e_wok (e_c167.flatMap (e_wds 167 (e_nm 167).cls)) := ⟨rfl, rfl⟩
theorem e_ok168 : e_c168.all (e_ck 168) = true := by decide +kernel
set_option maxRecDepth 100000 in
theorem e_wk168 : e_wok (e_c168.flatMap (e_wds 168 (e_nm 168).cls)) := ⟨rfl, rfl⟩
theorem e_ok169 : e_c169.all (e_ck 169) = true := by decide +kernel
set_option maxRecDepth 100000 in
theorem e_wk169 : e_wok (e_c169.flatMap (e_wds 169 (e_nm 169).cls)) := ⟨rfl, rfl⟩
theorem e_ok170 : e_c170.all (e_ck 170) = true := by decide +kernel
set_option maxRecDepth 100000 in
theorem e_wk170 : e_wok (e_c170.flatMap (e_wds 170 (e_nm 170).cls)) := ⟨rfl, rfl⟩
theorem e_ok171 : e_c171.all (e_ck 171) = true := by decide +kernel
set_option maxRecDepth 100000 in
theorem e_wk171 : e_wok (e_c171.flatMap (e_wds 171 (e_nm 171).cls)) := ⟨rfl, rfl⟩
theorem e_ok172 : e_c172.all (e_ck 172) = true := by decide +kernel
set_option maxRecDepth 100000 in
theorem e_wk172 : e_wok (e_c172.flatMap (e_wds 172 (e_nm 172).cls)) := ⟨rfl, rfl⟩
theorem e_ok173 : e_c173.all (e_ck 173) = true := by decide +kernel
set_option maxRecDepth 100000 in
theorem e_wk173 : e_wok (e_c173.flatMap (e_wds 173 (e_nm 173).cls)) := ⟨rfl, rfl⟩
theorem e_ok174 : e_c174.all (e_ck 174) = true := by decide +kernel
set_option maxRecDepth 100000 in
theorem e_wk174 : e_wok (e_c174.flatMap (e_wds 174 (e_nm 174).cls)) := ⟨rfl, rfl⟩
theorem e_ok175 : e_c175.all (e_ck 175) = true := by decide +kernel
set_option maxRecDepth 100000 in
theorem e_wk175 : e_wok (e_c175.flatMap (e_wds 175 (e_nm 175).cls)) := ⟨rfl, rfl⟩
theorem e_ok176 : e_c176.all (e_ck 176) = true := by decide +kernel
set_option maxRecDepth 100000 in
theorem e_wk176 : e_wok (e_c176.flatMap (e_wds 176 (e_nm 176).cls)) := ⟨rfl, rfl⟩
theorem e_ok177 : e_c177.all (e_ck 177) = true := by decide +kernel
set_option maxRecDepth 100000 in
theorem e_wk177 : e_wok (e_c177.flatMap (e_wds 177 (e_nm 177).cls)) := ⟨rfl, rfl⟩
theorem e_ok178 : e_c178.all (e_ck 178) = true := by decide +kernel
set_option maxRecDepth 100000 in
theorem e_wk178 : e_wok (e_c178.flatMap (e_wds 178 (e_nm 178).cls)) := ⟨rfl, rfl⟩
theorem e_ok179 : e_c179.all (e_ck 179) = true := by decide +kernel
set_option maxRecDepth 100000 in
theorem e_wk179 : e_wok (e_c179.flatMap (e_wds 179 (e_nm 179).cls)) := ⟨rfl, rfl⟩
theorem e_ok180 : e_c180.all (e_ck 180) = true := by decide +kernel
set_option maxRecDepth 100000 in
theorem e_wk180 : e_wok (e_c180.flatMap (e_wds 180 (e_nm 180).cls)) := ⟨rfl, rfl⟩
theorem e_ok181 : e_c181.all (e_ck 181) = true := by decide +kernel
set_option maxRecDepth 100000 in
theorem e_wk181 : e_wok (e_c181.flatMap (e_wds 181 (e_nm 181).cls)) := ⟨rfl, rfl⟩
theorem e_ok182 : e_c182.all (e_ck 182) = true := by decide +kernel
set_option maxRecDepth 100000 in
theorem e_wk182 : e_wok (e_c182.flatMap (e_wds 182 (e_nm 182).cls)) := ⟨rfl, rfl⟩
theorem e_ok183 : e_c183.all (e_ck 183) = true := by decide +kernel
set_option maxRecDepth 100000 in
theorem e_wk183 : e_wok (e_c183.flatMap (e_wds 183 (e_nm 183).cls)) := ⟨rfl, rfl⟩
theorem e_ok184 : e_c184.all (e_ck 184) = true := by decide +kernel
set_option maxRecDepth 100000 in
theorem e_wk184 : e_wok (e_c184.flatMap (e_wds 184 (e_nm 184).cls)) := ⟨rfl, rfl⟩
theorem e_ok185 : e_c185.all (e_ck 185) = true := by decide +kernel
set_option maxRecDepth 100000 in
theorem e_wk185 : e_wok (e_c185.flatMap (e_wds 185 (e_nm 185).cls)) := ⟨rfl, rfl⟩
end
section
/-! every instruction of the program is checked (3) -/
theorem e_ok186 : e_c186.all (e_ck 186) = true := by decide +kernel
set_option maxRecDepth 100000 in
theorem e_wk186 : e_wok (e_c186.flatMap (e_wds 186 (e_nm 186).cls)) := ⟨rfl, rfl⟩
theorem e_ok187 : e_c187.all (e_ck 187) = true := by decide +kernel
set_option maxRecDepth 100000 in
theorem e_wk187 : e_wok (e_c187.flatMap (e_wds 187 (e_nm 187).cls)) := ⟨rfl, rfl⟩
theorem e_ok188 : e_c188.all (e_ck 188) = true := by decide +kernel
set_option maxRecDepth 100000 in
theorem e_wk188 : e_wok (e_c188.flatMap (e_wds 188 (e_nm 188).cls)) := ⟨rfl, rfl⟩
theorem e_ok189 : e_c189.all (e_ck 189) = true := by decide +kernel
set_option maxRecDepth 100000 in
theorem e_wk189 : e_wok (e_c189.flatMap (e_wds 189 (e_nm 189).cls)) := ⟨rfl, rfl⟩
theorem e_ok190 : e_c190.all (e_ck 190) = true := by decide +kernel
set_option maxRecDepth 100000 in
theorem e_wk190 : e_wok (e_c190.flatMap (e_wds 190 (e_nm 190).cls)) := ⟨rfl, rfl⟩
theorem e_ok191 : e_c191.all (e_ck 191) = true := by decide +kernel
set_option maxRecDepth 100000 in
theorem e_wk191 : e_wok (e_c191.flatMap (e_wds 191 (e_nm 191).cls)) := ⟨rfl, rfl⟩
theorem e_ok192 : e_c192.all (e_ck 192) = true := by decide +kernel
set_option maxRecDepth 100000 in
theorem e_wk192 : e_wok (e_c192.flatMap (e_wds 192 (e_nm 192).cls)) := ⟨rfl, rfl⟩
theorem e_ok193 : e_c193.all (e_ck 193) = true := by decide +kernel
set_option maxRecDepth 100000 in
theorem e_wk193 : e_wok (e_c193.flatMap (e_wds 193 (e_nm 193).cls)) := ⟨rfl, rfl⟩
theorem e_ok194 : e_c194.all (e_ck 194) = true := by decide +kernel
set_option maxRecDepth 100000 in
theorem e_wk194 : e_wok (e_c194.flatMap (e_wds 194 (e_nm 194).cls)) := ⟨rfl, rfl⟩
theorem e_ok195 : e_c195.all (e_ck 195) = true := by decide +kernel
set_option maxRecDepth 100000 in
theorem e_wk195 : e_wok (e_c195.flatMap (e_wds 195 (e_nm 195).cls)) := ⟨rfl, rfl⟩
theorem e_ok196 : e_c196.all (e_ck 196) = true := by decide +kernel
set_option maxRecDepth 100000 in
theorem e_wk196 : e_wok (e_c196.flatMap (e_wds 196 (e_nm 196).cls)) := ⟨rfl, rfl⟩
theorem e_ok197 : e_c197.all (e_ck 197) = true := by decide +kernel
set_option maxRecDepth 100000 in
theorem e_wk197 : e_wok (e_c197.flatMap (e_wds 197 (e_nm 197).cls)) := ⟨rfl, rfl⟩
theorem e_ok198 : e_c198.all (e_ck 198) = true := by decide +kernel
set_option maxRecDepth 100000 in
theorem e_wk198 : e_wok (e_c198.flatMap (e_wds 198 (e_nm 198).cls)) := ⟨rfl, rfl⟩
theorem e_ok199 : e_c199.all (e_ck 199) = true := by decide +kernel
set_option maxRecDepth 100000 in
theorem e_wk199 : e_wok (e_c199.flatMap (e_wds 199 (e_nm 199).cls)) := ⟨rfl, rfl⟩
theorem e_ok200 : e_c200.all (e_ck 200) = true := by decide +kernel
set_option maxRecDepth 100000 in
theorem e_wk200 : e_wok (e_c200.flatMap (e_wds 200 (e_nm 200).cls)) := ⟨rfl, rfl⟩
theorem e_ok201 : e_c201.all (e_ck 201) = true := by decide +kernel
set_option maxRecDepth 100000 in
theorem e_wk201 : e_wok (e_c201.flatMap (e_wds 201 (e_nm 201).cls)) := ⟨rfl, rfl⟩
theorem e_ok202 : e_c202.all (e_ck 202) = true := by decide +kernel
set_option maxRecDepth 100000 in
theorem e_wk202 : e_wok (e_c202.flatMap (e_wds 202 (e_nm 202).cls)) := ⟨rfl, rfl⟩
theorem e_ok203 : e_c203.all (e_ck 203) = true := by decide +kernel
set_option maxRecDepth 100000 in
theorem e_wk203 : e_wok (e_c203.flatMap (e_wds 203 (e_nm 203).cls)) := ⟨rfl, rfl⟩
theorem e_ok204 : e_c204.all (e_ck 204) = true := by decide +kernel
set_option maxRecDepth 100000 in
theorem e_wk204 : e_wok (e_c204.flatMap (e_wds 204 (e_nm 204).cls)) := ⟨rfl, rfl⟩
theorem e_ok205 : e_c205.all (e_ck 205) = true := by decide +kernel
set_option maxRecDepth 100000 in
theorem e_wk205 : e_wok (e_c205.flatMap (e_wds 205 (e_nm 205).cls)) := ⟨rfl, rfl⟩
theorem e_ok206 : e_c206.all (e_ck 206) = true := by decide +kernel
set_option maxRecDepth 100000 in
theorem e_wk206 : e_wok (e_c206.flatMap (e_wds 206 (e_nm 206).cls)) := ⟨rfl, rfl⟩
theorem e_ok207 : e_c207.all (e_ck 207) = true := by decide +kernel
set_option maxRecDepth 100000 in
theorem e_wk207 : e_wok (e_c207.flatMap (e_wds 207 (e_nm 207).cls)) := ⟨rfl, rfl⟩
theorem e_ok208 : e_c208.all (e_ck 208) = true := by decide +kernel
set_option maxRecDepth 100000 in
theorem e_wk208 : e_wok (e_c208.flatMap (e_wds 208 (e_nm 208).cls)) := ⟨rfl, rfl⟩
theorem e_ok209 : e_c209.all (e_ck 209) = true := by decide +kernel
set_option maxRecDepth 100000 in
theorem e_wk209 : e_wok (e_c209.flatMap (e_wds 209 (e_nm 209).cls)) := ⟨rfl, rfl⟩
theorem e_ok210 : e_c210.all (e_ck 210) = true := by decide +kernel
set_option maxRecDepth 100000 in
theorem e_wk210 : e_wok (e_c210.flatMap (e_wds 210 (e_nm 210).cls)) := ⟨rfl, rfl⟩
theorem e_ok211 : e_c211.all (e_ck 211) = true := by decide +kernel
set_option maxRecDepth 100000 in
theorem e_wk211 : e_wok (e_c211.flatMap (e_wds 211 (e_nm 211).cls)) := ⟨rfl, rfl⟩
theorem e_ok212 : e_c212.all (e_ck 212) = true := by decide +kernel
set_option maxRecDepth 100000 in
theorem e_wk212 : e_wok (e_c212.flatMap (e_wds 212 (e_nm 212).cls)) := ⟨rfl, rfl⟩
theorem e_ok213 : e_c213.all (e_ck 213) = true := by decide +kernel
set_option maxRecDepth 100000 in
theorem e_wk213 : e_wok (e_c213.flatMap (e_wds 213 (e_nm 213).cls)) := ⟨rfl, rfl⟩
theorem e_ok214 : e_c214.all (e_ck 214) = true := by decide +kernel
set_option maxRecDepth 100000 in
theorem e_wk214 : e_wok (e_c214.flatMap (e_wds 214 (e_nm 214).cls)) := ⟨rfl, rfl⟩
theorem e_ok215 : e_c215.all (e_ck 215) = true := by decide +kernel
set_option maxRecDepth 100000 in
theorem e_wk215 : e_wok (e_c215.flatMap (e_wds 215 (e_nm 215).cls)) := ⟨rfl, rfl⟩
theorem e_ok216 : e_c216.all (e_ck 216) = true := by decide +kernel
set_option maxRecDepth 100000 in
theorem e_wk216 : e_wok (e_c216.flatMap (e_wds 216 (e_nm 216).cls)) := ⟨rfl, rfl⟩
theorem e_ok217 : e_c217.all (e_ck 217) = true := by decide +kernel
set_option maxRecDepth 100000 in
theorem e_wk217 : e_wok (e_c217.flatMap (e_wds 217 (e_nm 217).cls)) := ⟨rfl, rfl⟩
theorem e_ok218 : e_c218.all (e_ck 218) = true := by decide +kernel
set_option maxRecDepth 100000 in
theorem e_wk218 : e_wok (e_c218.flatMap (e_wds 218 (e_nm 218).cls)) := ⟨rfl, rfl⟩
theorem e_ok219 : e_c219.all (e_ck 219) = true := by decide +kernel
set_option maxRecDepth 100000 in
theorem e_wk219 : e_wok (e_c219.flatMap (e_wds 219 (e_nm 219).cls)) := ⟨rfl, rfl⟩
theorem e_ok220 : e_c220.all (e_ck 220) = true := by decide +kernel
set_option maxRecDepth 100000 in
theorem e_wk220 : e_wok (e_c220.flatMap (e_wds 220 (e_nm 220).cls)) := ⟨rfl, rfl⟩
theorem e_ok221 : e_c221.all (e_ck 221) = true := by decide +kernel
set_option maxRecDepth 100000 in
theorem e_wk221 : e_wok (e_c221.flatMap (e_wds 221 (e_nm 221).cls)) := ⟨rfl, rfl⟩
theorem e_ok222 : e_c222.all (e_ck 222) = true := by decide +kernel
set_option maxRecDepth 100000 in
theorem e_wk222 : e_wok (e_c222.flatMap (e_wds 222 (e_nm 222).cls)) := ⟨rfl, rfl⟩
theorem e_ok223 : e_c223.all (e_ck 223) = true := by decide +kernel
set_option maxRecDepth 100000 in
theorem e_wk223 : e_wok (e_c223.flatMap (e_wds 223 (e_nm 223).cls)) := ⟨rfl, rfl⟩
theorem e_ok224 : e_c224.all (e_ck 224) = true := by decide +kernel
set_option maxRecDepth 100000 in
theorem e_wk224 : e_wok (e_c224.flatMap (e_wds 224 (e_nm 224).cls)) := ⟨rfl, rfl⟩
theorem e_ok225 : e_c225.all (e_ck 225) = true := by decide +kernel
set_option maxRecDepth 100000 in
theorem e_wk225 : e_wok (e_c225.flatMap (e_wds 225 (e_nm 225).cls)) := ⟨rfl, rfl⟩
theorem e_ok226 : e_c226.all (e_ck 226) = true := by decide +kernel
set_option maxRecDepth 100000 in
theorem e_wk226 : e_wok (e_c226.flatMap (e_wds 226 (e_nm 226).cls)) := ⟨rfl, rfl⟩
theorem e_ok227 : e_c227.all (e_ck 227) = true := by decide +kernel
set_option maxRecDepth 100000 in
theorem e_wk227 : e_wok (e_c227.flatMap (e_wds 227 (e_nm 227).cls)) := ⟨rfl, rfl⟩
theorem e_ok228 : e_c228.all (e_ck 228) = true := by decide +kernel
set_option maxRecDepth 100000 in
theorem e_wk228 : e_wok (e_c228.flatMap (e_wds 228 (e_nm 228).cls)) := ⟨rfl, rfl⟩
theorem e_ok229 : e_c229.all (e_ck 229) = true := by decide +kernel
set_option maxRecDepth 100000 in
theorem e_wk229 : e_wok (e_c229.flatMap (e_wds 229 (e_nm 229).cls)) := ⟨rfl, rfl⟩
theorem e_ok230 : e_c230.all (e_ck 230) = true := by decide +kernel
set_option maxRecDepth 100000 in
theorem e_wk230 : e_wok (e_c230.flatMap (e_wds 230 (e_nm 230).cls)) := ⟨rfl, rfl⟩
theorem e_ok231 : e_c231.all (e_ck 231) = true := by decide +kernel
set_option maxRecDepth 100000 in
theorem e_wk231 : e_wok (e_c231.flatMap (e_wds 231 (e_nm 231).cls)) := ⟨rfl, rfl⟩
theorem e_ok232 : e_c232.all (e_ck 232) = true := by decide +kernel
set_option maxRecDepth 100000 in
theorem e_wk232 : e_wok (e_c232.flatMap (e_wds 232 (e_nm 232).cls)) := ⟨rfl, rfl⟩
theorem e_ok233 : e_c233.all (e_ck 233) = true := by decide +kernel
set_option maxRecDepth 100000 in
theorem e_wk233 : e_wok (e_c233.flatMap (e_wds 233 (e_nm 233).cls)) := ⟨rfl, rfl⟩
theorem e_ok234 : e_c234.all (e_ck 234) = true := by decide +kernel
set_option maxRecDepth 100000 in
theorem e_wk234 : e_wok (e_c234.flatMap (e_wds 234 (e_nm 234).cls)) := ⟨rfl, rfl⟩
theorem e_ok235 : e_c235.all (e_ck 235) = true := by decide +kernel
set_option maxRecDepth 100000 in
theorem e_wk235 : e_wok (e_c235.flatMap (e_wds 235 (e_nm 235).cls)) := ⟨rfl, rfl⟩
theorem e_ok236 : e_c236.all (e_ck 236) = true := by decide +kernel
set_option maxRecDepth 100000 in
theorem e_wk236 : e_wok (e_c236.flatMap (e_wds 236 (e_nm 236).cls)) := ⟨rfl, rfl⟩
theorem e_ok237 : e_c237.all (e_ck 237) = true := by decide +kernel
set_option maxRecDepth 100000 in
theorem e_wk237 : e_wok (e_c237.flatMap (e_wds 237 (e_nm 237).cls)) := ⟨rfl, rfl⟩
theorem e_ok238 : e_c238.all (e_ck 238) = true := by decide +kernel
set_option maxRecDepth 100000 in
theorem e_wk238 : e_wok (e_c238.flatMap (e_wds 238 (e_nm 238).cls)) := ⟨rfl, rfl⟩
theorem e_ok239 : e_c239.all (e_ck 239) = true := by decide +kernel
set_option maxRecDepth 100000 in
theorem e_wk239 : e_wok (e_c239.flatMap (e_wds 239 (e_nm 239).cls)) := ⟨rfl, rfl⟩
theorem e_ok240 : e_c240.all (e_ck 240) = true := by decide +kernel
set_option maxRecDepth 100000 in
theorem e_wk240 : e_wok (e_c240.flatMap (e_wds 240 (e_nm 240).cls)) := ⟨rfl, rfl⟩
theorem e_ok241 : e_c241.all (e_ck 241) = true := by decide +kernel
set_option maxRecDepth 100000 in
theorem e_wk241 : e_wok (e_c241.flatMap (e_wds 241 (e_nm 241).cls)) := ⟨rfl, rfl⟩
theorem e_ok242 : e_c242.all (e_ck 242) = true := by decide +kernel
set_option maxRecDepth 100000 in
theorem e_wk242 : e_wok (e_c242.flatMap (e_wds 242 (e_nm 242).cls)) := ⟨rfl, rfl⟩
theorem e_ok243 : e_c243.all (e_ck 243) = true := by decide +kernel
set_option maxRecDepth 100000 in
theorem e_wk243 : e_wok (e_c243.flatMap (e_wds 243 (e_nm 243).cls)) := ⟨rfl, rfl⟩
theorem e_ok244 : e_c244.all (e_ck 244) = true := by decide +kernel
set_option maxRecDepth 100000 in
theorem e_wk244 : e_wok (e_c244.flatMap (e_wds 244 (e_nm 244).cls)) := ⟨rfl, rfl⟩
theorem e_ok245 : e_c245.all (e_ck 245) = true := by decide +kernel
set_option maxRecDepth 100000 in
theorem e_wk245 : e_wok (e_c245.flatMap (e_wds 245 (e_nm 245).cls)) := ⟨rfl, rfl⟩
theorem e_ok246 : e_c246.all (e_ck 246) = true := by decide +kernel
set_option maxRecDepth 100000 in
theorem e_wk246 : e_wok (e_c246.flatMap (e_wds 246 (e_nm 246).cls)) := ⟨rfl, rfl⟩
theorem e_ok247 : e_c247.all (e_ck 247) = true := by decide +kernel
set_option maxRecDepth 100000 in
theorem e_wk247 : e_wok (e_c247.flatMap (e_wds 247 (e_nm 247).cls)) := ⟨rfl, rfl⟩
end
section
/-! what the abstract machine does at an instruction: the goal there out of the goal behind it -/
def e_setI (h : e_H) (c k : Nat) (x : Int32) : e_H := (e_lay h, e_up (e_hI h) c k x, e_hL h, e_hD h, e_scr h, e_fl h)
def e_setL (h : e_H) (c k : Nat) (x : Int64) : e_H := (e_lay h, e_hI h, e_up (e_hL h) c k x, e_hD h, e_scr h, e_fl h)
def e_setD (h : e_H) (c k : Nat) (x : UInt64) : e_H := (e_lay h, e_hI h, e_hL h, e_up (e_hD h) c k x, e_scr h, e_fl h)
def e_rowI (h : e_H) (c : Nat) (r : Nat → Int32) : e_H := (e_lay h, e_row (e_hI h) c r, e_hL h, e_hD h, e_scr h, e_fl h)
def e_setC (h : e_H) (c : Nat) (e : e_C) : e_H := ((e_lay h).set c e, e_hI h, e_hL h, e_hD h, e_scr h, e_fl h)
/-- a new cell, all its numbers 0 -/
def e_push (h : e_H) (e : e_C) : e_H := (e_lay h ++ [e], e_row (e_hI h) (e_lay h).length (fun _ => 0), e_row (e_hL h) (e_lay h).length (fun _ => 0), e_row (e_hD h) (e_lay h).length (fun _ => 0), e_scr h, e_fl h)
def e_cat (st : List Value) : Nat := (st.map fun v => v.category).sum
/-- rows outside: static rows of ints (kind 0), the bytes of texts (kind 5), the script (kind 6) -/
def e_xrow (h : e_H) (a : Nat) : Option (Nat × Nat × (Nat → Int32)) :=
  if a = 20 then some (6, (e_scr h).1, (e_scr h).2)
  else if 10 ≤ a ∧ a < 18 then some (0, (e_sts.getD (a - 10) ("", "", [])).2.2.length, fun j => (e_sts.getD (a - 10) ("", "", [])).2.2.getD j 0)
  else if 3 ≤ a ∧ a < 6 then some (5, e_slen.getD (a - 3) 0, fun j => (e_sbyt.getD (a - 3) []).getD j 0)
  else none
/-- what the fields of a new object hold, by class -/
def e_dfts : List (List Value) := [[.null, .null, .long 0], [.int 0, .int 0, .int 0, .int 0, .int 0, .null, .null, .null, .null, .null, .null, .null], [.null, .null, .int 0, .int 0, .int 0, .int 0, .int 0, .int 0, .int 0], [.null, .null, .null, .null, .int 0, .long 0, .long 0, .long 0], [.null, .null, .null, .null, .null], [.null, .int 0, .int 0], [.null, .null, .int 0], [.null, .int 0], [.null, .null, .null, .int 0, .null, .null, .null], [.null, .null, .int 0, .null, .int 0, .int 0, .null, .null, .long 0, .long 0, .long 0, .int 0, .null, .int 0, .null, .int 0, .null, .int 0]]
def e_dflt (ci : Nat) : List Value := e_dfts.getD ci []
section EV
variable (loc : List (Option Value)) (st : List Value)
def e_ldI (i : Nat) (kk : Value → Prop) : Prop := match loc[i]? with
  | some (some (.int x)) => kk (.int x)
  | _ => False
def e_ldL (i : Nat) (kk : Value → Prop) : Prop := match loc[i]? with
  | some (some (.long x)) => kk (.long x)
  | _ => False
def e_ldD (i : Nat) (kk : Value → Prop) : Prop := match loc[i]? with
  | some (some (.double x)) => kk (.double x)
  | _ => False
def e_ldA (i : Nat) (kk : Value → Prop) : Prop := match loc[i]? with
  | some (some (.ref x)) => kk (.ref x)
  | some (some (.retAddr x)) => kk (.retAddr x)
  | some (some .null) => kk .null
  | _ => False
def e_stI (i : Nat) (kk : List (Option Value) → List Value → Prop) : Prop := match st with
  | .int x :: r => bif Nat.ble (i + 1) loc.length then kk (e_set1 loc i (.int x)) r else False
  | _ => False
def e_stL (i : Nat) (kk : List (Option Value) → List Value → Prop) : Prop := match st with
  | .long x :: r => bif Nat.ble (i + 2) loc.length then kk (e_set2 loc i (.long x)) r else False
  | _ => False
def e_stD (i : Nat) (kk : List (Option Value) → List Value → Prop) : Prop := match st with
  | .double x :: r => bif Nat.ble (i + 2) loc.length then kk (e_set2 loc i (.double x)) r else False
  | _ => False
def e_stA (i : Nat) (kk : List (Option Value) → List Value → Prop) : Prop := match st with
  | .ref x :: r => bif Nat.ble (i + 1) loc.length then kk (e_set1 loc i (.ref x)) r else False
  | .retAddr x :: r => bif Nat.ble (i + 1) loc.length then kk (e_set1 loc i (.retAddr x)) r else False
  | .null :: r => bif Nat.ble (i + 1) loc.length then kk (e_set1 loc i .null) r else False
  | _ => False
def e_i1 (f : Int32 → Value) (kk : List Value → Prop) : Prop := match st with
  | .int x :: r => kk (f x :: r)
  | _ => False
def e_i2 (f : Int32 → Int32 → Value) (kk : List Value → Prop) : Prop := match st with
  | .int y :: .int x :: r => kk (f x y :: r)
  | _ => False
def e_i2d (f : Int32 → Int32 → Value) (kk : List Value → Prop) : Prop := match st with
  | .int y :: .int x :: r => ¬ y = 0 ∧ kk (f x y :: r)
  | _ => False
def e_l2 (f : Int64 → Int64 → Value) (kk : List Value → Prop) : Prop := match st with
  | .long y :: .long x :: r => kk (f x y :: r)
  | _ => False
def e_lsh (f : Int64 → Int32 → Value) (kk : List Value → Prop) : Prop := match st with
  | .int y :: .long x :: r => kk (f x y :: r)
  | _ => False
def e_d2 (f : UInt64 → UInt64 → Value) (kk : List Value → Prop) : Prop := match st with
  | .double y :: .double x :: r => kk (f x y :: r)
  | _ => False
def e_ddv (kk : List Value → Prop) : Prop := match st with
  | .double y :: .double x :: r => vf_n64 (FP.ddiv x y) ∧ kk (.double (FP.ddiv x y) :: r)
  | _ => False
def e_br1 (c : Int32 → Prop) (kt kf : List Value → Prop) : Prop := match st with
  | .int x :: r => (c x → kt r) ∧ (¬ c x → kf r)
  | _ => False
def e_br2 (c : Int32 → Int32 → Prop) (kt kf : List Value → Prop) : Prop := match st with
  | .int y :: .int x :: r => (c x y → kt r) ∧ (¬ c x y → kf r)
  | _ => False
def e_brN (kn kr : List Value → Prop) : Prop := match st with
  | .null :: r => kn r
  | .ref _ :: r => kr r
  | _ => False
def e_dup (kk : List Value → Prop) : Prop := match st with
  | v :: r => bif Nat.beq v.category 1 then kk (v :: v :: r) else False
  | _ => False
def e_dup2 (kk : List Value → Prop) : Prop := match st with
  | v :: w :: r => bif Nat.beq v.category 1 && Nat.beq w.category 1 then kk (v :: w :: v :: w :: r) else False
  | _ => False
def e_pop (kk : List Value → Prop) : Prop := match st with
  | v :: r => bif Nat.beq v.category 1 then kk r else False
  | _ => False
def e_pop2 (kk : List Value → Prop) : Prop := match st with
  | v :: w :: r => bif Nat.beq v.category 1 && Nat.beq w.category 1 then kk r else False
  | _ => False
def e_alen (h : e_H) (kk : List Value → Prop) : Prop := match st with
  | .ref a :: r => match (e_lay h)[a]? with
    | some (.inr (.inl (t, n))) => bif Nat.ble (t + 1) 4 then kk (.int (Int32.ofNat n) :: r) else False
    | some (.inr (.inr (n, _))) => kk (.int (Int32.ofNat n) :: r)
    | _ => False
  | .retAddr a :: r => match e_xrow h a with
    | some (_, n, _) => kk (.int (Int32.ofNat n) :: r)
    | none => False
  | _ => False
/-- a row of ints, bytes, chars: which kind, which kind outside -/
def e_ald (h : e_H) (tag xt yt : Nat) (kk : List Value → Prop) : Prop := match st with
  | .int i :: .ref a :: r => match (e_lay h)[a]? with
    | some (.inr (.inl (t, n))) => bif Nat.beq t tag then vp_in i n ∧ kk (.int (e_hI h a i.toNatClampNeg) :: r) else False
    | _ => False
  | .int i :: .retAddr a :: r => match e_xrow h a with
    | some (t, n, f) => bif Nat.beq t xt || Nat.beq t yt then vp_in i n ∧ kk (.int (f i.toNatClampNeg) :: r) else False
    | none => False
  | _ => False
/-- a row of bytes: those outside alone -/
def e_bald (h : e_H) (kk : List Value → Prop) : Prop := match st with
  | .int i :: .retAddr a :: r => match e_xrow h a with
    | some (t, n, f) => bif Nat.beq t 5 then vp_in i n ∧ kk (.int (f i.toNatClampNeg) :: r) else False
    | none => False
  | _ => False
def e_lald (h : e_H) (kk : List Value → Prop) : Prop := match st with
  | .int i :: .ref a :: r => match (e_lay h)[a]? with
    | some (.inr (.inl (t, n))) => bif Nat.beq t 1 then vp_in i n ∧ kk (.long (e_hL h a i.toNatClampNeg) :: r) else False
    | _ => False
  | _ => False
def e_dald (h : e_H) (kk : List Value → Prop) : Prop := match st with
  | .int i :: .ref a :: r => match (e_lay h)[a]? with
    | some (.inr (.inl (t, n))) => bif Nat.beq t 3 then vp_in i n ∧ kk (.double (e_hD h a i.toNatClampNeg) :: r) else False
    | _ => False
  | _ => False
def e_aald (h : e_H) (kk : List Value → Prop) : Prop := match st with
  | .int i :: .ref a :: r => match (e_lay h)[a]? with
    | some (.inr (.inr (n, rs))) => vp_in i n ∧ match rs.getD i.toNatClampNeg none with
      | some q => kk (.ref q :: r)
      | none => kk (.null :: r)
    | _ => False
  | _ => False
def e_iast (h : e_H) (tag : Nat) (f : Int32 → Int32) (kk : List Value → e_H → Prop) : Prop := match st with
  | .int x :: .int i :: .ref a :: r => match (e_lay h)[a]? with
    | some (.inr (.inl (t, n))) => bif Nat.beq t tag then vp_in i n ∧ kk r (e_setI h a i.toNatClampNeg (f x)) else False
    | _ => False
  | _ => False
def e_last (h : e_H) (kk : List Value → e_H → Prop) : Prop := match st with
  | .long x :: .int i :: .ref a :: r => match (e_lay h)[a]? with
    | some (.inr (.inl (t, n))) => bif Nat.beq t 1 then vp_in i n ∧ kk r (e_setL h a i.toNatClampNeg x) else False
    | _ => False
  | _ => False
def e_dast (h : e_H) (kk : List Value → e_H → Prop) : Prop := match st with
  | .double x :: .int i :: .ref a :: r => match (e_lay h)[a]? with
    | some (.inr (.inl (t, n))) => bif Nat.beq t 3 then vp_in i n ∧ kk r (e_setD h a i.toNatClampNeg x) else False
    | _ => False
  | _ => False
def e_aast (h : e_H) (kk : List Value → e_H → Prop) : Prop := match st with
  | .ref v :: .int i :: .ref a :: r => match (e_lay h)[a]?, (e_lay h)[v]? with
    | some (.inr (.inr (n, rs))), some (.inl (ci, _)) => bif Nat.beq ci 2 && Nat.beq n rs.length then vp_in i n ∧ kk r (e_setC h a (.inr (.inr (n, rs.set i.toNatClampNeg (some v))))) else False
    | _, _ => False
  | _ => False
def e_get (h : e_H) (ns : List Nat) (kk : List Value → Prop) : Prop := match ns with
  | [ci, k, _] => match st with
    | .ref a :: r => match (e_lay h)[a]? with
      | some (.inl (cj, tm)) => bif Nat.beq cj ci then match tm[k]? with
        | some (.int _) => kk (.int (e_hI h a k) :: r)
        | some (.long _) => kk (.long (e_hL h a k) :: r)
        | some (.ref q) => kk (.ref q :: r)
        | some .null => kk (.null :: r)
        | _ => False
        else False
      | _ => False
    | _ => False
  | [_, j] => match st with
    | .retAddr a :: r => bif Nat.ble (a + 1) 3 then (bif Nat.beq j 0 then kk (.int 0 :: r) else kk (.retAddr (3 + a) :: r)) else False
    | _ => False
  | _ => False
def e_put (h : e_H) (ns : List Nat) (kk : List Value → e_H → Prop) : Prop := match ns with
  | [ci, k, _, tc] => match st with
    | .int x :: .ref a :: r => match (e_lay h)[a]? with
      | some (.inl (cj, tm)) => bif Nat.beq cj ci then match tm[k]? with
        | some (.int _) => bif Nat.beq tc 0 then kk r (e_setI h a k x) else bif Nat.beq tc 1 then (x = 0 ∨ x = 1) ∧ kk r (e_setI h a k x) else False
        | _ => False
        else False
      | _ => False
    | .long x :: .ref a :: r => match (e_lay h)[a]? with
      | some (.inl (cj, tm)) => bif Nat.beq cj ci && Nat.beq tc 2 then match tm[k]? with
        | some (.long _) => kk r (e_setL h a k x)
        | _ => False
        else False
      | _ => False
    | .ref v :: .ref a :: r => match (e_lay h)[a]? with
      | some (.inl (cj, tm)) => bif Nat.beq cj ci && Nat.beq tc 3 then match tm[k]? with
        | some .null => kk r (e_setC h a (.inl (cj, tm.set k (.ref v))))
        | _ => False
        else False
      | _ => False
    | _ => False
  | _ => False
/-- a switch: place n of the targets is for the number lo + n -/
def e_swt (x : Int32) (lo : Int) : Nat → List Nat → (Nat → Prop) → Prop → Prop
  | _, [], _, d => d
  | n, t :: ts, kk, d => (x = Int32.ofInt (lo + n) → kk t) ∧ (¬ x = Int32.ofInt (lo + n) → e_swt x lo (n + 1) ts kk d)
def e_tsw (lo : Int) (ns : List Nat) (kk : Nat → List Value → Prop) : Prop := match st, ns with
  | .int x :: r, d :: ts => e_swt x lo 0 ts (fun t => kk t r) (kk d r)
  | _, _ => False
def e_swl (x : Int32) : List (Int × Int) → List Nat → (Nat → Prop) → Prop → Prop
  | [], _, _, d => d
  | _, [], _, _ => False
  | q :: qs, t :: ts, kk, d => (x = Int32.ofInt q.1 → kk t) ∧ (¬ x = Int32.ofInt q.1 → e_swl x qs ts kk d)
def e_lsw (ps : Array (Int × Int)) (ns : List Nat) (kk : Nat → List Value → Prop) : Prop := match st, ns with
  | .int x :: r, d :: ts => e_swl x ps.toList ts (fun t => kk t r) (kk d r)
  | _, _ => False
end EV
/-- the law's own handlers: exception's place in e_exc, place behind the store, local, so on -/
def e_exn (E : String) (np : Nat → Nat → Prop) (out : Prop) : List Nat → Prop
  | ei :: i :: pc :: r => (E = e_exc.getD ei "" → np i pc) ∧ (¬ E = e_exc.getD ei "" → e_exn E np out r)
  | _ => out
/-! what is known of the things outside, in a heap, A being what may be changed -/
def e_refv (v : Value) : Prop := v = .null ∨ ∃ a, v = .ref a
theorem e_refv_cat {v : Value} (h : e_refv v) : v.category = 1 := by
  rcases h with rfl | ⟨a, rfl⟩ <;> rfl
def e_adr (v : Value) : Nat := match v with
  | .ref a => a
  | _ => 0
def e_F (g : e_G) (sc : Nat × (Nat → Int32)) (A : Nat → Prop) (U : State) (H : Heap) : Prop :=
  (∀ k, e_refv (g.2.1 k)) ∧
  va_Z "java/lang/String" "COMPACT_STRINGS" "Z" (.int 1) A U H ∧
  va_Z "jdk/internal/util/Preconditions" "SIOOBE_FORMATTER" "Ljava/util/function/BiFunction;" (g.2.1 40) A U H ∧
  (∀ (i : Nat) (r : String × String × List Int32), e_sts[i]? = some r → va_Z r.1 r.2.1 "[I" (g.2.1 (10 + i)) A U H ∧ ∃ t, g.2.1 (10 + i) = .ref t ∧ va_T .int t r.2.2.length (fun j => .int (r.2.2.getD j 0)) A U H) ∧
  (∃ adV : Nat → Nat, vk_S 3 e_slen e_sbyt (fun j => e_adr (g.2.1 j)) adV A U H ∧ ∀ j, j < 3 → g.2.1 j = .ref (e_adr (g.2.1 j)) ∧ g.2.1 (3 + j) = .ref (adV j)) ∧
  (∀ (j : Nat) (r : String × Nat × String), e_srefs[j]? = some r → vk_R r.1 r.2.1 r.2.2 (e_adr (g.2.1 j)) U) ∧
  vx_Zq Bundle.tN "UNASSIGNED_STACK" Bundle.steD A U H ∧ vx_Zq Bundle.tN "SUPPRESSED_SENTINEL" Bundle.listD A U H ∧
  (∀ w ∈ e_nest, va_Nw (.methodLinkNest w.1 w.2.1 w.2.2.1 w.2.2.2) U) ∧ (∀ q ∈ e_nc, va_Nc q.1 q.2 U) ∧ va_AO "HexCampaign$Game" U ∧
  (∃ b, g.2.1 20 = .ref b ∧ va_X b sc.1 sc.2 U H ∧ ¬ A b ∧ b < H.size)
theorem e_F.moved {g : e_G} {sc : Nat × (Nat → Int32)} {A : Nat → Prop} {u U : State} {H : Heap} (hW : u.WarmedH U.vm) (h : e_F g sc A u H) : e_F g sc A U H := by
  have hvm := hW.alike
  obtain ⟨h0, h1, h2, h3, ⟨adV, h4, h5⟩, h6, h7, h8, h9, h10, h11, b, h12, h13, h14⟩ := h
  exact ⟨h0, h1.moved hvm, h2.moved hvm, fun i r hr => ⟨(h3 i r hr).1.moved hvm, by obtain ⟨t, e1, e2⟩ := (h3 i r hr).2; exact ⟨t, e1, e2.moved hvm⟩⟩, ⟨adV, h4.moved hvm, h5⟩, fun j r hr => vk_R.warm hW (h6 j r hr), h7.moved hvm, h8.moved hvm, fun w hw => va_Nw.warmM hW (h9 w hw), fun q hq => va_Nc.moved hvm (h10 q hq), h11.moved hvm, b, h12, h13.moved hvm, h14⟩
theorem e_F.kept {g : e_G} {sc : Nat × (Nat → Int32)} {A : Nat → Prop} {U : State} {H H1 : Heap} (h : e_F g sc A U H) (hz : H.size ≤ H1.size) (hq : ∀ a : Nat, a < H.size → ¬ A a → H1[a]? = H[a]?) : e_F g sc A U H1 := by
  obtain ⟨h0, h1, h2, h3, ⟨adV, h4, h5⟩, h6, h7, h8, h9, h10, h11, b, h12, h13, h14, h15⟩ := h
  exact ⟨h0, h1.kept hq, h2.kept hq, fun i r hr => ⟨(h3 i r hr).1.kept hq, by obtain ⟨t, e1, e2⟩ := (h3 i r hr).2; exact ⟨t, e1, e2.kept hq⟩⟩, ⟨adV, h4.kept hq, h5⟩, h6, h7.kept hq, h8.kept hq, h9, h10, h11, b, h12, h13.kept (hq b h15 h14), h14, Nat.lt_of_lt_of_le h15 hz⟩
theorem e_F.narrow {g : e_G} {sc : Nat × (Nat → Int32)} {A B : Nat → Prop} {U : State} {H : Heap} (h : e_F g sc A U H) (hAB : ∀ q, B q → A q) : e_F g sc B U H := by
  obtain ⟨h0, h1, h2, h3, ⟨adV, h4, h5⟩, h6, h7, h8, h9, h10, h11, b, h12, h13, h14, h15⟩ := h
  exact ⟨h0, h1.narrow hAB, h2.narrow hAB, fun i r hr => ⟨(h3 i r hr).1.narrow hAB, by obtain ⟨t, e1, e2⟩ := (h3 i r hr).2; exact ⟨t, e1, e2.narrow hAB⟩⟩, ⟨adV, h4.narrow hAB, h5⟩, h6, h7.narrow hAB, h8.narrow hAB, h9, h10, h11, b, h12, h13, fun hb => h14 (hAB b hb), h15⟩
/-- the abstract heap as it lies in the machine's -/
def e_wd (g : e_G) (h : e_H) (A : Nat → Prop) (H : Heap) : Prop := va_P g.2.2.2 e_cls (e_ws g h) H ∧ va_D A (e_ws g h)
/-- new cells may have come: the first n lie where they lay -/
def e_ag (n : Nat) (g g' : e_G) : Prop := g'.2 = g.2 ∧ ∀ i, i < n → g'.1 i = g.1 i
theorem e_ag.rf {n : Nat} {g : e_G} : e_ag n g g := ⟨rfl, fun _ _ => rfl⟩
theorem e_ag.tr {n n' : Nat} {g g' g2 : e_G} (h : e_ag n g g') (h2 : e_ag n' g' g2) (hn : n ≤ n') : e_ag n g g2 := ⟨h2.1.trans h.1, fun i hi => (h2.2 i (Nat.lt_of_lt_of_le hi hn)).trans (h.2 i hi)⟩
/-- a method's words, room, start, ends -/
def e_wsk (k : Nat) : List Cond := (if e_hh k = [] then .code (e_nm k) (e_mb k) (e_ml k) (e_rt k) else .codeWith (e_nm k) (e_mb k) (e_ml k) (e_rt k) (e_hh k)) :: e_tb
def e_rom (k : Nat) : Room := { frames := e_dd k, cells := e_cc k, slots := e_cs k, locals := e_ll k }
def e_Pc (g : e_G) (sz : Nat) (avs : List Value) (h : e_H) : Array Value → State → Prop := va_Pc (avs.map (e_rel g)) (fun U => U.heap.size = sz ∧ e_wd g h (fun _ => True) U.heap ∧ va_K g.2.2.2 e_cls (e_tys g) U ∧ e_F g (e_scr h) (va_A (e_ws g h) sz) U U.heap)
/-- where a walk that began at g, h has come: the script the same, no fewer cells, the old ones where they lay -/
def e_to (g : e_G) (h : e_H) (g' : e_G) (h' : e_H) : Prop := e_scr h' = e_scr h ∧ (e_lay h).length ≤ (e_lay h').length ∧ e_ag (e_lay h).length g g' ∧ (e_fl h = false → g' = g) ∧ e_fl h' = e_fl h
def e_Qc (g : e_G) (sz : Nat) (h : e_H) (Φ : e_O → e_H → Prop) : Array Value → State → Outcome → State → Prop := fun _ st oc t =>
  ∃ (v : Option Value) (g' : e_G) (h' : e_H), oc = .returned (v.map (e_rel g')) ∧ Φ (.inl v) h' ∧ e_to g h g' h' ∧ e_wd g' h' (va_A (e_ws g h) sz) t.heap ∧ va_F (va_A (e_ws g h) sz) st t
def e_Xc (g : e_G) (sz : Nat) (h : e_H) (Φ : e_O → e_H → Prop) : String → State → State → Prop := fun E st t =>
  ∃ (g' : e_G) (h' : e_H), Φ (.inr E) h' ∧ e_to g h g' h' ∧ e_wd g' h' (va_A (e_ws g h) sz) t.heap ∧ va_F (va_A (e_ws g h) sz) st t
/-- THE CONTRACT of method k: called with these values in this heap it ends as Φ says -/
def e_M (k : Nat) (avs : List Value) (h : e_H) (Φ : e_O → e_H → Prop) : Prop :=
  ∀ (l : Launch), l.stackTraces = false → ∀ (g : e_G) (sz : Nat), vx_Met l (e_nm k) (e_wsk k) (e_rom k) (e_Pc g sz avs h) (e_Qc g sz h Φ) (e_Xc g sz h Φ) (e_cc k) (e_cs k) (va_A (e_ws g h) sz)
/-- what stays fixed while a method's body runs -/
def e_Cx (k : Nat) (p : Program) (l : Launch) (R : Room) (s : State) (m : MethodId) (args : Array Value) (meth : Method) (c : Code) (g : e_G) (A : Nat → Prop) (sc : Nat × (Nat → Int32)) (mc ms : Nat) : Prop :=
  p.tables.exec = Jvm.exec ∧ c.code = e_mb k ∧ c.maxLocals = e_ml k ∧ s.vm.findClass (e_nm k).cls = some m.cls ∧ (∀ w ∈ e_tb, w.before args s = true) ∧ meth.sig.returnType = e_rt k ∧ meth.locks = false ∧ meth.name = (e_nm k).name ∧
  c.exceptionTable.toList = tableOf (e_hh k) ∧ R.frames = e_dd k ∧ R.locals = e_ll k ∧ R.cells = mc ∧ R.slots = ms ∧ l.stackTraces = false ∧ (∀ q, s.heap.size ≤ q → A q) ∧ va_K g.2.2.2 e_cls (e_tys g) s ∧ e_F g sc A s s.heap
/-- what the ends of the walk must give -/
def e_Hk (g : e_G) (h : e_H) (A : Nat → Prop) (args : Array Value) (s : State) (Q : e_O → e_H → Prop) (Qc : Array Value → State → Outcome → State → Prop) (XC : String → State → State → Prop) : Prop :=
  (∀ (v : Option Value) (g' : e_G) (h' : e_H) (t : State), Q (.inl v) h' → e_to g h g' h' → e_wd g' h' A t.heap → va_F A s t → Qc args s (.returned (v.map (e_rel g'))) t) ∧
  ∀ (E : String) (g' : e_G) (h' : e_H) (t : State), Q (.inr E) h' → e_to g h g' h' → e_wd g' h' A t.heap → va_F A s t → XC E s t
theorem e_to.rf {g : e_G} {h : e_H} : e_to g h g h := ⟨rfl, Nat.le_refl _, e_ag.rf, fun _ => rfl, rfl⟩
theorem e_to.tr {g g' g2 : e_G} {h h' h2 : e_H} (a : e_to g h g' h') (b : e_to g' h' g2 h2) : e_to g h g2 h2 :=
  ⟨b.1.trans a.1, Nat.le_trans a.2.1 b.2.1, a.2.2.1.tr b.2.2.1 a.2.1, fun hf => (b.2.2.2.1 (a.2.2.2.2.trans hf)).trans (a.2.2.2.1 hf), b.2.2.2.2.trans a.2.2.2.2⟩
theorem e_Hk.step {g g' : e_G} {h h' : e_H} {A : Nat → Prop} {args : Array Value} {s : State} {Q : e_O → e_H → Prop} {Qc : Array Value → State → Outcome → State → Prop} {XC : String → State → State → Prop} (hk : e_Hk g h A args s Q Qc XC) (a : e_to g h g' h') : e_Hk g' h' A args s Q Qc XC :=
  ⟨fun v g2 h2 t hq b => hk.1 v g2 h2 t hq (a.tr b), fun E g2 h2 t hq b => hk.2 E g2 h2 t hq (a.tr b)⟩
/-- at a place of method k's body, with these locals, this stack, this heap, and room for so many cells and slots: it ends as Q says -/
def e_Wp (k pc : Nat) (loc : List (Option Value)) (st : List Value) (h : e_H) (bc bs : Nat) (Q : e_O → e_H → Prop) : Prop :=
  ∀ (p : Program) (l : Launch) (e : Env) (R : Room) (s : State) (m : MethodId) (args : Array Value) (below : List Frame) (meth : Method) (c : Code) (g : e_G) (A : Nat → Prop) (H : Heap) (locs : List Loc) (cells slots mc ms : Nat) (ls : Array Slot) (Qc : Array Value → State → Outcome → State → Prop) (XC : String → State → State → Prop),
    e_Cx k p l R s m args meth c g A (e_scr h) mc ms → e_wd g h A H → va_S A s.heap H locs → lv_has ls (e_ml k) (e_as g loc) → loc.length = e_ml k → cells + bc ≤ mc → slots + bs ≤ ms → e_Hk g h A args s Q Qc XC →
    W p l e R s m args below meth c H locs cells slots (vx_MQ below Qc XC args s mc ms A) (F0 m pc ls (st.map (e_rel g)))
/-- every reference is to one of the first n cells -/
def e_sv (n : Nat) (v : Value) : Bool := match v with
  | .ref k => Nat.ble (k + 1) n
  | _ => true
def e_so (n : Nat) (v : Option Value) : Bool := match v with
  | some w => e_sv n w
  | none => true
def e_sc (n : Nat) (e : e_C) : Bool := match e with
  | .inl (_, tm) => tm.all (e_sv n)
  | .inr (.inl _) => true
  | .inr (.inr (_, rs)) => rs.all (fun o => match o with
    | some k => Nat.ble (k + 1) n
    | none => true)
/-- where cells may be made: all that is held refers to cells that are there -/
def e_scp (h : e_H) (loc : List (Option Value)) (st : List Value) : Bool := !(e_fl h) || (loc.all (e_so (e_lay h).length) && st.all (e_sv (e_lay h).length))
section EV2
variable (hs : List Nat) (loc : List (Option Value)) (st : List Value) (h : e_H) (bc bs : Nat) (K : Nat → List (Option Value) → List Value → e_H → Nat → Nat → Prop) (Q : e_O → e_H → Prop)
/-- behind a call -/
def e_aft (pc c s : Nat) (rest : List Value) (o : e_O) (h' : e_H) : Prop := match o with
  | .inl none => K (pc + 3) loc rest h' (bc - c) (bs - s)
  | .inl (some v) => K (pc + 3) loc (v :: rest) h' (bc - c) (bs - s)
  | .inr E => match hs with
    | [] => Q (.inr E) h'
    | _ => E ∈ e_exc ∧ e_exn E (fun i np => bif Nat.ble (i + 1) loc.length then K np ((e_kill loc i).set i none) [] h' (bc - c) (bs - s) else False) (Q (.inr E) h') hs
/-- behind a constructor -/
def e_afi (pc c s : Nat) (rest : List Value) (o : e_O) (h' : e_H) : Prop := match o with
  | .inl none => K (pc + 3) loc rest h' (bc - c) (bs - s)
  | _ => False
def e_ok (c s n : Nat) (rest : List Value) : Bool := Nat.ble c bc && Nat.ble s bs && Nat.ble (e_cat rest) 8 && Nat.ble n st.length && e_scp h loc rest
def e_inv (pc : Nat) (ns : List Nat) : Prop := match ns with
  | k :: n :: _ :: c :: s :: ci :: hs => match st.drop n with
    | .ref a :: rest => match (e_lay h)[a]? with
      | some (.inl (cj, _)) => bif Nat.beq cj ci && e_ok loc st h bc bs c s n rest then e_M k (.ref a :: (st.take n).reverse) h (e_aft hs loc bc bs K Q pc c s rest) else False
      | _ => False
    | .retAddr a :: rest => bif Nat.beq ci 99 && Nat.ble (a + 1) 3 && e_ok loc st h bc bs c s n rest then e_M k (.retAddr a :: (st.take n).reverse) h (e_aft hs loc bc bs K Q pc c s rest) else False
    | _ => False
  | _ => False
def e_cpy (ns : List Nat) (kk : List Value → e_H → Prop) : Prop := match st with
  | .int n :: .int dp :: .ref a :: .int sp :: .ref b :: r => match (e_lay h)[a]?, (e_lay h)[b]? with
    | some (.inr (.inl (0, na))), some (.inr (.inl (0, nb))) => bif Nat.ble (e_cat r) 8 then (¬ sp < 0 ∧ ¬ dp < 0 ∧ ¬ n < 0 ∧ sp.toNatClampNeg + n.toNatClampNeg ≤ nb ∧ dp.toNatClampNeg + n.toNatClampNeg ≤ na) ∧ kk r (e_rowI h a (va_cpy (e_hI h b) (e_hI h a) sp.toNatClampNeg dp.toNatClampNeg n.toNatClampNeg)) else False
    | _, _ => False
  | _ => False
def e_ins (pc : Nat) (ns : List Nat) : Prop := match ns with
  | [k, n, fl, c, s] => bif Nat.beq fl 3 then e_cpy st h ns (fun r h' => K (pc + 3) loc r h' bc bs) else
    bif (Nat.beq fl 0 || Nat.beq fl 1) && e_ok loc st h bc bs c s n (st.drop n) then e_M k (st.take n).reverse h (e_aft [] loc bc bs K Q pc c s (st.drop n)) else False
  | _ => False
def e_inp (pc : Nat) (ns : List Nat) : Prop := match ns with
  | k :: n :: fl :: c :: s :: _ => match st.drop n with
    | .ref a :: rest => bif Nat.beq fl 2 then (bif Nat.beq n 0 && Nat.ble (e_cat rest) 8 then K (pc + 3) loc rest h bc bs else False) else
      bif e_ok loc st h bc bs c s n rest then e_M k (.ref a :: (st.take n).reverse) h (e_afi loc bc bs K pc c s rest) else False
    | _ => False
  | _ => False
def e_new (pc : Nat) (ns : List Nat) : Prop := match ns with
  | [0, ci] => bif e_fl h && e_scp h loc st && (e_lay h).all (e_sc (e_lay h).length) && Nat.ble 1 bc && Nat.ble (e_dflt ci).length bs then K (pc + 3) loc (.ref (e_lay h).length :: st) (e_push h (.inl (ci, e_dflt ci))) (bc - 1) (bs - (e_dflt ci).length) else False
  | [1, ei, _] => bif Nat.ble 1 bc && Nat.ble 6 bs && Nat.ble (e_cat st) 8 then Q (.inr (e_exc.getD ei "")) h else False
  | _ => False
def e_nwa (pc : Nat) (ns : List Nat) : Prop := match st, ns with
  | .int n :: r, [tag] => bif e_fl h && e_scp h loc r && (e_lay h).all (e_sc (e_lay h).length) && Nat.ble 1 bc && Nat.ble n.toNatClampNeg bs && Nat.ble n.toNatClampNeg 65536 && !(decide (n < 0)) then K (pc + 2) loc (.ref (e_lay h).length :: r) (e_push h (.inr (.inl (tag, n.toNatClampNeg)))) (bc - 1) (bs - n.toNatClampNeg) else False
  | _, _ => False
def e_anw (pc : Nat) : Prop := match st with
  | .int n :: r => bif e_fl h && e_scp h loc r && (e_lay h).all (e_sc (e_lay h).length) && Nat.ble 1 bc && Nat.ble n.toNatClampNeg bs && Nat.ble n.toNatClampNeg 65536 && !(decide (n < 0)) then K (pc + 3) loc (.ref (e_lay h).length :: r) (e_push h (.inr (.inr (n.toNatClampNeg, List.replicate n.toNatClampNeg none)))) (bc - 1) (bs - n.toNatClampNeg) else False
  | _ => False
def e_ret (rt : Option FieldType) : Prop := match st with
  | [.int x] => match rt with
    | some .int => Q (.inl (some (.int x))) h
    | some .boolean => (x = 0 ∨ x = 1) ∧ Q (.inl (some (.int x))) h
    | some ty => narrow ty (.int x) = .int x ∧ Q (.inl (some (.int x))) h
    | none => False
  | _ => False
def e_retL (rt : Option FieldType) : Prop := match st, rt with
  | [.long x], some .long => Q (.inl (some (.long x))) h
  | _, _ => False
def e_retD (rt : Option FieldType) : Prop := match st, rt with
  | [.double x], some .double => Q (.inl (some (.double x))) h
  | _, _ => False
def e_retA (rt : Option FieldType) : Prop := match st, rt with
  | [.ref x], some (.object _) => Q (.inl (some (.ref x))) h
  | [.null], some (.object _) => Q (.inl (some .null)) h
  | _, _ => False
def e_retV (rt : Option FieldType) : Prop := match st, rt with
  | [], none => Q (.inl none) h
  | _, _ => False
def e_jmp (ns : List Nat) (kk : Nat → Prop) : Prop := match ns with
  | [t] => kk t
  | _ => False
def e_stp (rt : Option FieldType) (en : e_I) : Prop :=
  let pc := en.1
  let v := en.2.2.2.1
  let ns := en.2.2.2.2.1
  let kk := fun (n : Nat) (r : List Value) => K (pc + n) loc r h bc bs
  let kl := fun (n : Nat) (lo : List (Option Value)) (r : List Value) => K (pc + n) lo r h bc bs
  let kt := fun (t : Nat) (r : List Value) => K t loc r h bc bs
  let kh := fun (n : Nat) (r : List Value) (h' : e_H) => K (pc + n) loc r h' bc bs
  match en.2.1 with
  | .aconst_null => kk 1 (.null :: st)
  | .iconst n => kk 1 (.int (Int32.ofInt n) :: st)
  | .bipush n => kk 2 (.int (Int8.ofInt n).toInt32 :: st)
  | .sipush n => kk 3 (.int (Int16.ofInt n).toInt32 :: st)
  | .lconst n => kk 1 (.long (Int64.ofNat (n : Nat)) :: st)
  | .dconst n => bif Nat.beq (n : Nat) 0 then kk 1 (.double FP.dconst0 :: st) else False
  | .ldc _ => kk 2 (v :: st)
  | .ldc_w _ => kk 3 (v :: st)
  | .ldc2_w _ => kk 3 (v :: st)
  | .getstatic _ => kk 3 (v :: st)
  | .iload i => e_ldI loc i (fun w => kk 2 (w :: st))
  | .iload_n i => e_ldI loc (i : Nat) (fun w => kk 1 (w :: st))
  | .lload i => e_ldL loc i (fun w => kk 2 (w :: st))
  | .lload_n i => e_ldL loc (i : Nat) (fun w => kk 1 (w :: st))
  | .dload i => e_ldD loc i (fun w => kk 2 (w :: st))
  | .dload_n i => e_ldD loc (i : Nat) (fun w => kk 1 (w :: st))
  | .aload i => e_ldA loc i (fun w => kk 2 (w :: st))
  | .aload_n i => e_ldA loc (i : Nat) (fun w => kk 1 (w :: st))
  | .istore i => e_stI loc st i (kl 2)
  | .istore_n i => e_stI loc st (i : Nat) (kl 1)
  | .lstore i => e_stL loc st i (kl 2)
  | .lstore_n i => e_stL loc st (i : Nat) (kl 1)
  | .dstore i => e_stD loc st i (kl 2)
  | .dstore_n i => e_stD loc st (i : Nat) (kl 1)
  | .astore i => e_stA loc st i (kl 2)
  | .astore_n i => e_stA loc st (i : Nat) (kl 1)
  | .iinc i n => e_ldI loc i (fun w => match w with
    | .int x => bif Nat.ble (i + 1) loc.length then kl 3 (e_set1 loc i (.int (x + Int32.ofInt n))) st else False
    | _ => False)
  | .iadd => e_i2 st (fun x y => .int (x + y)) (kk 1)
  | .isub => e_i2 st (fun x y => .int (x - y)) (kk 1)
  | .imul => e_i2 st (fun x y => .int (x * y)) (kk 1)
  | .iand => e_i2 st (fun x y => .int (x &&& y)) (kk 1)
  | .ior => e_i2 st (fun x y => .int (x ||| y)) (kk 1)
  | .ixor => e_i2 st (fun x y => .int (x ^^^ y)) (kk 1)
  | .ishl => e_i2 st (fun x y => .int (x <<< (y &&& 31))) (kk 1)
  | .ishr => e_i2 st (fun x y => .int (x >>> (y &&& 31))) (kk 1)
  | .iushr => e_i2 st (fun x y => .int (x.toUInt32 >>> (y.toUInt32 &&& Int32.toUInt32 31)).toInt32) (kk 1)
  | .idiv => e_i2d st (fun x y => .int (x / y)) (kk 1)
  | .irem => e_i2d st (fun x y => .int (x - x / y * y)) (kk 1)
  | .ineg => e_i1 st (fun x => .int (-x)) (kk 1)
  | .i2l => e_i1 st (fun x => .long x.toInt64) (kk 1)
  | .i2c => e_i1 st (fun x => .int (x.toUInt32 % 65536).toInt32) (kk 1)
  | .i2d => e_i1 st (fun x => .double (FP.i2d x)) (kk 1)
  | .land => e_l2 st (fun x y => .long (x &&& y)) (kk 1)
  | .lor => e_l2 st (fun x y => .long (x ||| y)) (kk 1)
  | .lxor => e_l2 st (fun x y => .long (x ^^^ y)) (kk 1)
  | .ladd => e_l2 st (fun x y => .long (x + y)) (kk 1)
  | .lcmp => e_l2 st (fun x y => .int (lg_cmp x y)) (kk 1)
  | .lshl => e_lsh st (fun x y => .long (x <<< (y.toInt64 &&& 63))) (kk 1)
  | .lshr => e_lsh st (fun x y => .long (x >>> (y.toInt64 &&& 63))) (kk 1)
  | .lushr => e_lsh st (fun x y => .long (x.toUInt64 >>> (y.toInt64.toUInt64 &&& Int64.toUInt64 63)).toInt64) (kk 1)
  | .ddiv => e_ddv st (kk 1)
  | .dcmp op => e_d2 st (fun x y => .int (Op.cmpValue (FP.dcmp x y) op)) (kk 1)
  | .dup => e_dup st (kk 1)
  | .dup2 => e_dup2 st (kk 1)
  | .pop => e_pop st (kk 1)
  | .pop2 => e_pop2 st (kk 1)
  | .goto _ => e_jmp ns (fun t => kt t st)
  | .ifCond .eq _ => e_jmp ns (fun t => e_br1 st (fun x => x = 0) (kt t) (kk 3))
  | .ifCond .ne _ => e_jmp ns (fun t => e_br1 st (fun x => ¬ x = 0) (kt t) (kk 3))
  | .ifCond .lt _ => e_jmp ns (fun t => e_br1 st (fun x => x < 0) (kt t) (kk 3))
  | .ifCond .ge _ => e_jmp ns (fun t => e_br1 st (fun x => 0 ≤ x) (kt t) (kk 3))
  | .ifCond .gt _ => e_jmp ns (fun t => e_br1 st (fun x => 0 < x) (kt t) (kk 3))
  | .ifCond .le _ => e_jmp ns (fun t => e_br1 st (fun x => x ≤ 0) (kt t) (kk 3))
  | .if_icmp .eq _ => e_jmp ns (fun t => e_br2 st (fun x y => x = y) (kt t) (kk 3))
  | .if_icmp .ne _ => e_jmp ns (fun t => e_br2 st (fun x y => ¬ x = y) (kt t) (kk 3))
  | .if_icmp .lt _ => e_jmp ns (fun t => e_br2 st (fun x y => x < y) (kt t) (kk 3))
  | .if_icmp .ge _ => e_jmp ns (fun t => e_br2 st (fun x y => y ≤ x) (kt t) (kk 3))
  | .if_icmp .gt _ => e_jmp ns (fun t => e_br2 st (fun x y => y < x) (kt t) (kk 3))
  | .if_icmp .le _ => e_jmp ns (fun t => e_br2 st (fun x y => x ≤ y) (kt t) (kk 3))
  | .ifnull _ => e_jmp ns (fun t => e_brN st (kt t) (kk 3))
  | .ifnonnull _ => e_jmp ns (fun t => e_brN st (kk 3) (kt t))
  | .tableswitch _ lo _ _ => e_tsw st lo ns kt
  | .lookupswitch _ ps => e_lsw st ps ns kt
  | .arraylength => e_alen st h (kk 1)
  | .iaload => e_ald st h 0 0 6 (kk 1)
  | .caload => e_ald st h 2 7 7 (kk 1)
  | .baload => e_bald st h (kk 1)
  | .laload => e_lald st h (kk 1)
  | .daload => e_dald st h (kk 1)
  | .aaload => e_aald st h (kk 1)
  | .iastore => e_iast st h 0 (fun x => x) (kh 1)
  | .castore => e_iast st h 2 (fun x => vp_nar .char x) (kh 1)
  | .lastore => e_last st h (kh 1)
  | .dastore => e_dast st h (kh 1)
  | .aastore => e_aast st h (kh 1)
  | .getfield _ => e_get st h ns (kk 3)
  | .putfield _ => e_put st h ns (kh 3)
  | .invokevirtual _ => e_inv loc st h bc bs K Q pc ns
  | .invokestatic _ => e_ins loc st h bc bs K Q pc ns
  | .invokespecial _ => e_inp loc st h bc bs K pc ns
  | .new _ => e_new loc st h bc bs K Q pc ns
  | .newarray _ => e_nwa loc st h bc bs K pc ns
  | .anewarray _ => e_anw loc st h bc bs K pc
  | .ireturn => e_ret st h Q rt
  | .lreturn => e_retL st h Q rt
  | .dreturn => e_retD st h Q rt
  | .areturn => e_retA st h Q rt
  | .return_ => e_retV st h Q rt
  | _ => False
end EV2
/-- n instructions at the most, up to the places 'cut', where the goal is left -/
def e_run (k : Nat) (cd : List e_I) (rt : Option FieldType) (cut : List Nat) (Q : e_O → e_H → Prop) : Nat → Nat → List (Option Value) → List Value → e_H → Nat → Nat → Prop
  | 0, _, _, _, _, _, _ => False
  | n + 1, pc, loc, st, h, bc, bs => match e_find cd pc with
    | none => False
    | some en => e_stp loc st h bc bs (fun pc' loc' st' h' bc' bs' => bif cut.elem pc' then e_Wp k pc' loc' st' h' bc' bs' Q else e_run k cd rt cut Q n pc' loc' st' h' bc' bs') Q rt en
end
section
/-! each instruction of the abstract machine is right -/
theorem e_refc {g : e_G} (h : ∀ k, e_refv (g.2.1 k)) : ∀ k, (g.2.1 k).category = 1 := fun k => e_refv_cat (h k)
/-- an instruction that touches the stack alone -/
theorem e_pure {k pc pc' : Nat} {loc : List (Option Value)} {st st' : List Value} {h : e_H} {bc bs : Nat} {Q : e_O → e_H → Prop}
    (row : ∀ (p : Program) (l : Launch) (e : Env) (R : Room) (s : State) (m : MethodId) (args : Array Value) (below : List Frame) (meth : Method) (c : Code) (g : e_G) (H : Heap) (locs : List Loc) (cells slots : Nat) (ls : Array Slot) (Qs : State → Prop),
      p.tables.exec = Jvm.exec → c.code = e_mb k → (∀ k, e_refv (g.2.1 k)) → s.vm.findClass (e_nm k).cls = some m.cls → (∀ w ∈ e_tb, w.before args s = true) → W p l e R s m args below meth c H locs cells slots Qs (F0 m pc' ls (st'.map (e_rel g))) → W p l e R s m args below meth c H locs cells slots Qs (F0 m pc ls (st.map (e_rel g))))
    (H : e_Wp k pc' loc st' h bc bs Q) : e_Wp k pc loc st h bc bs Q := by
  intro p l e R s m args below meth c g A Hp locs cells slots mc ms ls Qc XC C hw hS hl hn hcb hsb hk
  exact row p l e R s m args below meth c g Hp locs cells slots ls _ C.1 C.2.1 C.2.2.2.2.2.2.2.2.2.2.2.2.2.2.2.2.1 C.2.2.2.1 C.2.2.2.2.1 (H p l e R s m args below meth c g A Hp locs cells slots mc ms ls Qc XC C hw hS hl hn hcb hsb hk)
/-- a branch on the stack's top -/
theorem e_two {k pc pt pf : Nat} {loc : List (Option Value)} {st st' : List Value} {h : e_H} {bc bs : Nat} {Q : e_O → e_H → Prop} {cnd : Prop}
    (row : ∀ (p : Program) (l : Launch) (e : Env) (R : Room) (s : State) (m : MethodId) (args : Array Value) (below : List Frame) (meth : Method) (c : Code) (g : e_G) (H : Heap) (locs : List Loc) (cells slots : Nat) (ls : Array Slot) (Qs : State → Prop),
      p.tables.exec = Jvm.exec → c.code = e_mb k → (cnd → W p l e R s m args below meth c H locs cells slots Qs (F0 m pt ls (st'.map (e_rel g)))) → (¬ cnd → W p l e R s m args below meth c H locs cells slots Qs (F0 m pf ls (st'.map (e_rel g)))) → W p l e R s m args below meth c H locs cells slots Qs (F0 m pc ls (st.map (e_rel g))))
    (H : (cnd → e_Wp k pt loc st' h bc bs Q) ∧ (¬ cnd → e_Wp k pf loc st' h bc bs Q)) : e_Wp k pc loc st h bc bs Q := by
  intro p l e R s m args below meth c g A Hp locs cells slots mc ms ls Qc XC C hw hS hl hn hcb hsb hk
  exact row p l e R s m args below meth c g Hp locs cells slots ls _ C.1 C.2.1 (fun hc => H.1 hc p l e R s m args below meth c g A Hp locs cells slots mc ms ls Qc XC C hw hS hl hn hcb hsb hk) (fun hc => H.2 hc p l e R s m args below meth c g A Hp locs cells slots mc ms ls Qc XC C hw hS hl hn hcb hsb hk)
/-- a load of a local -/
theorem e_loadv {k pc pc' i : Nat} {loc : List (Option Value)} {st : List Value} {v : Value} {h : e_H} {bc bs : Nat} {Q : e_O → e_H → Prop} (hv : loc[i]? = some (some v))
    (row : ∀ (p : Program) (l : Launch) (e : Env) (R : Room) (s : State) (m : MethodId) (args : Array Value) (below : List Frame) (meth : Method) (c : Code) (g : e_G) (H : Heap) (locs : List Loc) (cells slots : Nat) (ls : Array Slot) (Qs : State → Prop),
      p.tables.exec = Jvm.exec → c.code = e_mb k → (∀ k, e_refv (g.2.1 k)) → ls[i]? = some (.val (e_rel g v)) → W p l e R s m args below meth c H locs cells slots Qs (F0 m pc' ls (e_rel g v :: st.map (e_rel g))) → W p l e R s m args below meth c H locs cells slots Qs (F0 m pc ls (st.map (e_rel g))))
    (H : e_Wp k pc' loc (v :: st) h bc bs Q) : e_Wp k pc loc st h bc bs Q := by
  intro p l e R s m args below meth c g A Hp locs cells slots mc ms ls Qc XC C hw hS hl hn hcb hsb hk
  exact row p l e R s m args below meth c g Hp locs cells slots ls _ C.1 C.2.1 C.2.2.2.2.2.2.2.2.2.2.2.2.2.2.2.2.1 (e_lget hl hv) (H p l e R s m args below meth c g A Hp locs cells slots mc ms ls Qc XC C hw hS hl hn hcb hsb hk)
/-- a store of one slot -/
theorem e_store1 {k pc pc' i : Nat} {loc : List (Option Value)} {st : List Value} {v : Value} {h : e_H} {bc bs : Nat} {Q : e_O → e_H → Prop} (hi : Nat.ble (i + 1) loc.length = true)
    (row : ∀ (p : Program) (l : Launch) (e : Env) (R : Room) (s : State) (m : MethodId) (args : Array Value) (below : List Frame) (meth : Method) (c : Code) (g : e_G) (H : Heap) (locs : List Loc) (cells slots : Nat) (ls : Array Slot) (Qs : State → Prop) (lv : List (Nat × Value)),
      p.tables.exec = Jvm.exec → c.code = e_mb k → (∀ k, e_refv (g.2.1 k)) → lv_has ls (e_ml k) lv → i < e_ml k → (∀ ls' : Array Slot, lv_has ls' (e_ml k) ((i, e_rel g v) :: lv.filter (fun q => !(q.1 == i) && !(q.1 + 1 == i && q.2.category == 2))) → W p l e R s m args below meth c H locs cells slots Qs (F0 m pc' ls' (st.map (e_rel g)))) → W p l e R s m args below meth c H locs cells slots Qs (F0 m pc ls (e_rel g v :: st.map (e_rel g))))
    (H : e_Wp k pc' (e_set1 loc i v) st h bc bs Q) : e_Wp k pc loc (v :: st) h bc bs Q := by
  intro p l e R s m args below meth c g A Hp locs cells slots mc ms ls Qc XC C hw hS hl hn hcb hsb hk
  have hx := C.2.2.2.2.2.2.2.2.2.2.2.2.2.2.2.2.1
  refine row p l e R s m args below meth c g Hp locs cells slots ls _ (e_as g loc) C.1 C.2.1 hx hl ?_ (fun ls' hl' => ?_)
  · have := Nat.le_of_ble_eq_true hi
    omega
  · exact H p l e R s m args below meth c g A Hp locs cells slots mc ms ls' Qc XC C hw hS (e_lmono hl' (e_set1_sub (e_refc hx))) ((e_set1_len _ _ _).trans hn) hcb hsb hk
theorem e_store2 {k pc pc' i : Nat} {loc : List (Option Value)} {st : List Value} {v : Value} {h : e_H} {bc bs : Nat} {Q : e_O → e_H → Prop} (hi : Nat.ble (i + 2) loc.length = true)
    (row : ∀ (p : Program) (l : Launch) (e : Env) (R : Room) (s : State) (m : MethodId) (args : Array Value) (below : List Frame) (meth : Method) (c : Code) (g : e_G) (H : Heap) (locs : List Loc) (cells slots : Nat) (ls : Array Slot) (Qs : State → Prop) (lv : List (Nat × Value)),
      p.tables.exec = Jvm.exec → c.code = e_mb k → lv_has ls (e_ml k) lv → i + 1 < e_ml k → (∀ ls' : Array Slot, lv_has ls' (e_ml k) ((i, e_rel g v) :: lv.filter (fun q => !(q.1 == i) && (!(q.1 == i + 1) && !(q.1 + 1 == i && q.2.category == 2)))) → W p l e R s m args below meth c H locs cells slots Qs (F0 m pc' ls' (st.map (e_rel g)))) → W p l e R s m args below meth c H locs cells slots Qs (F0 m pc ls (e_rel g v :: st.map (e_rel g))))
    (H : e_Wp k pc' (e_set2 loc i v) st h bc bs Q) : e_Wp k pc loc (v :: st) h bc bs Q := by
  intro p l e R s m args below meth c g A Hp locs cells slots mc ms ls Qc XC C hw hS hl hn hcb hsb hk
  have hx := C.2.2.2.2.2.2.2.2.2.2.2.2.2.2.2.2.1
  have hi2 := Nat.le_of_ble_eq_true hi
  refine row p l e R s m args below meth c g Hp locs cells slots ls _ (e_as g loc) C.1 C.2.1 hl (by omega) (fun ls' hl' => ?_)
  exact H p l e R s m args below meth c g A Hp locs cells slots mc ms ls' Qc XC C hw hS (e_lmono hl' (e_set2_sub (e_refc hx) (by omega))) ((e_set2_len _ _ _).trans hn) hcb hsb hk
theorem e_s_null {k pc len : Nat} {v : Value} {ns : List Nat} {ps : List (Nat × Nat)} {loc : List (Option Value)} {st : List Value} {h : e_H} {bc bs : Nat} {K : Nat → List (Option Value) → List Value → e_H → Nat → Nat → Prop} {Q : e_O → e_H → Prop}  (hd : decode (e_mb k) pc = .ok (.aconst_null, 1))  (hK : ∀ pc loc st h bc bs, K pc loc st h bc bs → e_Wp k pc loc st h bc bs Q)
    (H : e_stp loc st h bc bs K Q (e_rt k) (pc, .aconst_null, len, v, ns, ps)) : e_Wp k pc loc st h bc bs Q := by
  exact e_pure (fun p l e R s m args below meth c g Hp locs cells slots ls Qs hx hb hr ho ht kk => lv_null hx hb hd kk) (hK _ _ _ _ _ _ H)
theorem e_s_iconst {k pc len : Nat} {v : Value} {ns : List Nat} {ps : List (Nat × Nat)} {loc : List (Option Value)} {st : List Value} {h : e_H} {bc bs : Nat} {K : Nat → List (Option Value) → List Value → e_H → Nat → Nat → Prop} {Q : e_O → e_H → Prop} {n : Int} (hd : decode (e_mb k) pc = .ok (.iconst n, 1))  (hK : ∀ pc loc st h bc bs, K pc loc st h bc bs → e_Wp k pc loc st h bc bs Q)
    (H : e_stp loc st h bc bs K Q (e_rt k) (pc, .iconst n, len, v, ns, ps)) : e_Wp k pc loc st h bc bs Q := by
  exact e_pure (fun p l e R s m args below meth c g Hp locs cells slots ls Qs hx hb hr ho ht kk => lv_iconst hx hb hd rfl kk) (hK _ _ _ _ _ _ H)
theorem e_s_bipush {k pc len : Nat} {v : Value} {ns : List Nat} {ps : List (Nat × Nat)} {loc : List (Option Value)} {st : List Value} {h : e_H} {bc bs : Nat} {K : Nat → List (Option Value) → List Value → e_H → Nat → Nat → Prop} {Q : e_O → e_H → Prop} {n : Int} (hd : decode (e_mb k) pc = .ok (.bipush n, 2))  (hK : ∀ pc loc st h bc bs, K pc loc st h bc bs → e_Wp k pc loc st h bc bs Q)
    (H : e_stp loc st h bc bs K Q (e_rt k) (pc, .bipush n, len, v, ns, ps)) : e_Wp k pc loc st h bc bs Q := by
  exact e_pure (fun p l e R s m args below meth c g Hp locs cells slots ls Qs hx hb hr ho ht kk => lv_bipush hx hb hd rfl kk) (hK _ _ _ _ _ _ H)
theorem e_s_sipush {k pc len : Nat} {v : Value} {ns : List Nat} {ps : List (Nat × Nat)} {loc : List (Option Value)} {st : List Value} {h : e_H} {bc bs : Nat} {K : Nat → List (Option Value) → List Value → e_H → Nat → Nat → Prop} {Q : e_O → e_H → Prop} {n : Int} (hd : decode (e_mb k) pc = .ok (.sipush n, 3))  (hK : ∀ pc loc st h bc bs, K pc loc st h bc bs → e_Wp k pc loc st h bc bs Q)
    (H : e_stp loc st h bc bs K Q (e_rt k) (pc, .sipush n, len, v, ns, ps)) : e_Wp k pc loc st h bc bs Q := by
  exact e_pure (fun p l e R s m args below meth c g Hp locs cells slots ls Qs hx hb hr ho ht kk => lv_sipush hx hb hd rfl kk) (hK _ _ _ _ _ _ H)
theorem e_s_lconst {k pc len : Nat} {v : Value} {ns : List Nat} {ps : List (Nat × Nat)} {loc : List (Option Value)} {st : List Value} {h : e_H} {bc bs : Nat} {K : Nat → List (Option Value) → List Value → e_H → Nat → Nat → Prop} {Q : e_O → e_H → Prop} {n : Fin 2} (hd : decode (e_mb k) pc = .ok (.lconst n, 1))  (hK : ∀ pc loc st h bc bs, K pc loc st h bc bs → e_Wp k pc loc st h bc bs Q)
    (H : e_stp loc st h bc bs K Q (e_rt k) (pc, .lconst n, len, v, ns, ps)) : e_Wp k pc loc st h bc bs Q := by
  exact e_pure (fun p l e R s m args below meth c g Hp locs cells slots ls Qs hx hb hr ho ht kk => lv_lconst hx hb hd rfl kk) (hK _ _ _ _ _ _ H)
theorem e_s_dconst {k pc len : Nat} {v : Value} {ns : List Nat} {ps : List (Nat × Nat)} {loc : List (Option Value)} {st : List Value} {h : e_H} {bc bs : Nat} {K : Nat → List (Option Value) → List Value → e_H → Nat → Nat → Prop} {Q : e_O → e_H → Prop} {n : Fin 2} (hd : decode (e_mb k) pc = .ok (.dconst n, 1))  (hK : ∀ pc loc st h bc bs, K pc loc st h bc bs → e_Wp k pc loc st h bc bs Q)
    (H : e_stp loc st h bc bs K Q (e_rt k) (pc, .dconst n, len, v, ns, ps)) : e_Wp k pc loc st h bc bs Q := by
  replace H : (bif Nat.beq (n : Nat) 0 then K (pc + 1) loc (.double FP.dconst0 :: st) h bc bs else False) := H
  by_cases hn : (n : Nat) = 0
  · have hn' : n = 0 := Fin.ext hn
    subst hn'
    exact e_pure (fun p l e R s m args below meth c g Hp locs cells slots ls Qs hx hb hr ho ht kk => lv_dconst0 hx hb hd kk) (hK _ _ _ _ _ _ H)
  · have : Nat.beq (n : Nat) 0 = false := Bool.eq_false_iff.mpr (fun hh => hn (Nat.eq_of_beq_eq_true hh))
    rw [this] at H
    exact False.elim H
theorem e_s_ldcI {k pc len : Nat} {v : Value} {ns : List Nat} {ps : List (Nat × Nat)} {loc : List (Option Value)} {st : List Value} {h : e_H} {bc bs : Nat} {K : Nat → List (Option Value) → List Value → e_H → Nat → Nat → Prop} {Q : e_O → e_H → Prop} {ix : Nat} {x : Int32} (hd : decode (e_mb k) pc = .ok (.ldc ix, 2)) (hv : v = .int x) (hw : Cond.constant (e_nm k).cls ix x ∈ e_tb) (hK : ∀ pc loc st h bc bs, K pc loc st h bc bs → e_Wp k pc loc st h bc bs Q)
    (H : e_stp loc st h bc bs K Q (e_rt k) (pc, .ldc ix, len, v, ns, ps)) : e_Wp k pc loc st h bc bs Q := by
  subst hv
  exact e_pure (fun p l e R s m args below meth c g Hp locs cells slots ls Qs hx hb hr ho ht kk => lv_ldc hx hb ho (ht _ hw) hd kk) (hK _ _ _ _ _ _ H)
theorem e_s_ldcwI {k pc len : Nat} {v : Value} {ns : List Nat} {ps : List (Nat × Nat)} {loc : List (Option Value)} {st : List Value} {h : e_H} {bc bs : Nat} {K : Nat → List (Option Value) → List Value → e_H → Nat → Nat → Prop} {Q : e_O → e_H → Prop} {ix : Nat} {x : Int32} (hd : decode (e_mb k) pc = .ok (.ldc_w ix, 3)) (hv : v = .int x) (hw : Cond.constant (e_nm k).cls ix x ∈ e_tb) (hK : ∀ pc loc st h bc bs, K pc loc st h bc bs → e_Wp k pc loc st h bc bs Q)
    (H : e_stp loc st h bc bs K Q (e_rt k) (pc, .ldc_w ix, len, v, ns, ps)) : e_Wp k pc loc st h bc bs Q := by
  subst hv
  exact e_pure (fun p l e R s m args below meth c g Hp locs cells slots ls Qs hx hb hr ho ht kk => lv_ldcw hx hb ho (ht _ hw) hd kk) (hK _ _ _ _ _ _ H)
theorem e_s_ldc2 {k pc len : Nat} {v : Value} {ns : List Nat} {ps : List (Nat × Nat)} {loc : List (Option Value)} {st : List Value} {h : e_H} {bc bs : Nat} {K : Nat → List (Option Value) → List Value → e_H → Nat → Nat → Prop} {Q : e_O → e_H → Prop} {ix : Nat} {x : Int64} (hd : decode (e_mb k) pc = .ok (.ldc2_w ix, 3)) (hv : v = .long x) (hw : Cond.constantLong (e_nm k).cls ix x ∈ e_tb) (hK : ∀ pc loc st h bc bs, K pc loc st h bc bs → e_Wp k pc loc st h bc bs Q)
    (H : e_stp loc st h bc bs K Q (e_rt k) (pc, .ldc2_w ix, len, v, ns, ps)) : e_Wp k pc loc st h bc bs Q := by
  subst hv
  exact e_pure (fun p l e R s m args below meth c g Hp locs cells slots ls Qs hx hb hr ho ht kk => lv_ldc2 hx hb ho (ht _ hw) hd kk) (hK _ _ _ _ _ _ H)
section EWS
variable {p : Program} {l : Launch} {e : Env} {R : Room} {s : State} {m : MethodId} {args : Array Value} {below : List Frame} {meth : Method} {c : Code} {H : Heap} {locs : List Loc} {cells slots : Nat} {Q : State → Prop}
/-- follows Stand.ldcString of the library (WalkGen4), for ldc_w -/
theorem e_ldcwS {cc : ByteArray} {pc : Nat} {ls : Array Slot} {rest : List Value} (hexec : p.tables.exec = Jvm.exec) (hb : c.code = cc) {own tx : String} {index q : Nat} (hown : s.vm.findClass own = some m.cls) (hZ : vk_R own index tx q s) (hdg : decode cc pc = .ok (.ldc_w index, 3))
    (kk : W p l e R s m args below meth c H locs cells slots Q (F0 m (pc + 3) ls (.ref q :: rest))) : W p l e R s m args below meth c H locs cells slots Q (F0 m pc ls rest) := by
  intro T hT X
  obtain ⟨t, a1, b1⟩ := kk T hT X
  refine ⟨t, ?_, b1⟩
  obtain ⟨k, cf, i, a', hk, hcf, hcp, -, hr, hev'⟩ := Cond.stringRef_spec (args := args) hown hZ.1
  have hev : (Term.string own index).eval args s none [] s = some (.ref q) := hZ.2
  cases hev.symm.trans hev'
  obtain ⟨k', hk', he⟩ := X.warmed.alike.2.2 _ _ hk
  have hr' : k'.resolved[index]? = some (some (.string q)) := by
    rcases X.warmed.entry hk hk' index with h | ⟨h, -⟩
    · rw [h]; exact hr
    · rw [hr] at h; cases h
  subst hb
  jvm_step X.here [hexec, hdg, ldc_w.wp_string (e := e) (s := T) (f := F0 m pc ls rest) X.here.top hk' (by rw [he]; exact hcf) hcp hr']
  exact a1
end EWS
theorem e_s_ldcS {k pc len : Nat} {v : Value} {ns : List Nat} {ps : List (Nat × Nat)} {loc : List (Option Value)} {st : List Value} {h : e_H} {bc bs : Nat} {K : Nat → List (Option Value) → List Value → e_H → Nat → Nat → Prop} {Q : e_O → e_H → Prop} {ix j : Nat} (hd : decode (e_mb k) pc = .ok (.ldc ix, 2)) (hv : v = .retAddr j) (hj : (e_srefs[j]?).map (fun r => (r.1, r.2.1)) = some ((e_nm k).cls, ix)) (hK : ∀ pc loc st h bc bs, K pc loc st h bc bs → e_Wp k pc loc st h bc bs Q)
    (H : e_stp loc st h bc bs K Q (e_rt k) (pc, .ldc ix, len, v, ns, ps)) : e_Wp k pc loc st h bc bs Q := by
  subst hv
  intro p l e R s m args below meth c g A Hp locs cells slots mc ms ls Qc XC C hw hS hl hn hcb hsb hk
  obtain ⟨-, -, -, -, ⟨adV, -, h5⟩, h6, -⟩ := C.2.2.2.2.2.2.2.2.2.2.2.2.2.2.2.2
  obtain ⟨tx, hj2⟩ : ∃ tx, e_srefs[j]? = some ((e_nm k).cls, ix, tx) := by
    cases hq : e_srefs[j]? with
    | none => rw [hq] at hj; cases hj
    | some r =>
      rw [hq] at hj
      obtain ⟨r1, r2, r3⟩ := r
      simp only [Option.map_some, Option.some.injEq, Prod.mk.injEq] at hj
      exact ⟨r3, by rw [hj.1, hj.2]⟩
  have hj3 : j < 3 := (List.getElem?_eq_some_iff.mp hj2).1
  refine va_ldcS C.1 C.2.1 C.2.2.2.1 (h6 j _ hj2) hd ?_
  have kk := hK _ _ _ _ _ _ H p l e R s m args below meth c g A Hp locs cells slots mc ms ls Qc XC C hw hS hl hn hcb hsb hk
  rw [List.map_cons, show e_rel g (.retAddr j) = g.2.1 j from rfl, (h5 j hj3).1] at kk
  exact kk
theorem e_s_ldcwS {k pc len : Nat} {v : Value} {ns : List Nat} {ps : List (Nat × Nat)} {loc : List (Option Value)} {st : List Value} {h : e_H} {bc bs : Nat} {K : Nat → List (Option Value) → List Value → e_H → Nat → Nat → Prop} {Q : e_O → e_H → Prop} {ix j : Nat} (hd : decode (e_mb k) pc = .ok (.ldc_w ix, 3)) (hv : v = .retAddr j) (hj : (e_srefs[j]?).map (fun r => (r.1, r.2.1)) = some ((e_nm k).cls, ix)) (hK : ∀ pc loc st h bc bs, K pc loc st h bc bs → e_Wp k pc loc st h bc bs Q)
    (H : e_stp loc st h bc bs K Q (e_rt k) (pc, .ldc_w ix, len, v, ns, ps)) : e_Wp k pc loc st h bc bs Q := by
  subst hv
  intro p l e R s m args below meth c g A Hp locs cells slots mc ms ls Qc XC C hw hS hl hn hcb hsb hk
  obtain ⟨-, -, -, -, ⟨adV, -, h5⟩, h6, -⟩ := C.2.2.2.2.2.2.2.2.2.2.2.2.2.2.2.2
  obtain ⟨tx, hj2⟩ : ∃ tx, e_srefs[j]? = some ((e_nm k).cls, ix, tx) := by
    cases hq : e_srefs[j]? with
    | none => rw [hq] at hj; cases hj
    | some r =>
      rw [hq] at hj
      obtain ⟨r1, r2, r3⟩ := r
      simp only [Option.map_some, Option.some.injEq, Prod.mk.injEq] at hj
      exact ⟨r3, by rw [hj.1, hj.2]⟩
  have hj3 : j < 3 := (List.getElem?_eq_some_iff.mp hj2).1
  refine e_ldcwS C.1 C.2.1 C.2.2.2.1 (h6 j _ hj2) hd ?_
  have kk := hK _ _ _ _ _ _ H p l e R s m args below meth c g A Hp locs cells slots mc ms ls Qc XC C hw hS hl hn hcb hsb hk
  rw [List.map_cons, show e_rel g (.retAddr j) = g.2.1 j from rfl, (h5 j hj3).1] at kk
  exact kk
theorem e_s_gsC {k pc len : Nat} {v : Value} {ns : List Nat} {ps : List (Nat × Nat)} {loc : List (Option Value)} {st : List Value} {h : e_H} {bc bs : Nat} {K : Nat → List (Option Value) → List Value → e_H → Nat → Nat → Prop} {Q : e_O → e_H → Prop} {ix : Nat} (hd : decode (e_mb k) pc = .ok (.getstatic ix, 3)) (hv : v = .int 1) (hw1 : Cond.fieldLink (e_nm k).cls ix "java/lang/String" "COMPACT_STRINGS" "Z" ∈ e_tb) (hK : ∀ pc loc st h bc bs, K pc loc st h bc bs → e_Wp k pc loc st h bc bs Q)
    (H : e_stp loc st h bc bs K Q (e_rt k) (pc, .getstatic ix, len, v, ns, ps)) : e_Wp k pc loc st h bc bs Q := by
  subst hv
  intro p l e R s m args below meth c g A Hp locs cells slots mc ms ls Qc XC C hw hS hl hn hcb hsb hk
  exact va_gets C.1 C.2.1 C.2.2.2.2.2.2.2.2.2.2.2.2.2.2.2.2.2.1 hS C.2.2.2.1 (C.2.2.2.2.1 _ hw1) (fun _ hh => hh) hd (hK _ _ _ _ _ _ H p l e R s m args below meth c g A Hp locs cells slots mc ms ls Qc XC C hw hS hl hn hcb hsb hk)
theorem e_s_gsF {k pc len : Nat} {v : Value} {ns : List Nat} {ps : List (Nat × Nat)} {loc : List (Option Value)} {st : List Value} {h : e_H} {bc bs : Nat} {K : Nat → List (Option Value) → List Value → e_H → Nat → Nat → Prop} {Q : e_O → e_H → Prop} {ix : Nat} (hd : decode (e_mb k) pc = .ok (.getstatic ix, 3)) (hv : v = .retAddr 40) (hw1 : Cond.fieldLink (e_nm k).cls ix "jdk/internal/util/Preconditions" "SIOOBE_FORMATTER" "Ljava/util/function/BiFunction;" ∈ e_tb) (hK : ∀ pc loc st h bc bs, K pc loc st h bc bs → e_Wp k pc loc st h bc bs Q)
    (H : e_stp loc st h bc bs K Q (e_rt k) (pc, .getstatic ix, len, v, ns, ps)) : e_Wp k pc loc st h bc bs Q := by
  subst hv
  intro p l e R s m args below meth c g A Hp locs cells slots mc ms ls Qc XC C hw hS hl hn hcb hsb hk
  exact va_gets C.1 C.2.1 C.2.2.2.2.2.2.2.2.2.2.2.2.2.2.2.2.2.2.1 hS C.2.2.2.1 (C.2.2.2.2.1 _ hw1) (fun _ hh => hh) hd (hK _ _ _ _ _ _ H p l e R s m args below meth c g A Hp locs cells slots mc ms ls Qc XC C hw hS hl hn hcb hsb hk)
theorem e_s_gsA {k pc len : Nat} {v : Value} {ns : List Nat} {ps : List (Nat × Nat)} {loc : List (Option Value)} {st : List Value} {h : e_H} {bc bs : Nat} {K : Nat → List (Option Value) → List Value → e_H → Nat → Nat → Prop} {Q : e_O → e_H → Prop} {ix j : Nat} (hd : decode (e_mb k) pc = .ok (.getstatic ix, 3)) (hv : v = .retAddr (10 + j)) (hj : j < e_sts.length) (hw1 : Cond.fieldLink (e_nm k).cls ix (e_sts.getD j ("", "", [])).1 (e_sts.getD j ("", "", [])).2.1 "[I" ∈ e_tb) (hK : ∀ pc loc st h bc bs, K pc loc st h bc bs → e_Wp k pc loc st h bc bs Q)
    (H : e_stp loc st h bc bs K Q (e_rt k) (pc, .getstatic ix, len, v, ns, ps)) : e_Wp k pc loc st h bc bs Q := by
  subst hv
  intro p l e R s m args below meth c g A Hp locs cells slots mc ms ls Qc XC C hw hS hl hn hcb hsb hk
  have h3 := (C.2.2.2.2.2.2.2.2.2.2.2.2.2.2.2.2.2.2.2.1 j _ (e_getL (d := ("", "", [])) hj)).1
  exact va_gets C.1 C.2.1 h3 hS C.2.2.2.1 (C.2.2.2.2.1 _ hw1) (fun _ hh => hh) hd (hK _ _ _ _ _ _ H p l e R s m args below meth c g A Hp locs cells slots mc ms ls Qc XC C hw hS hl hn hcb hsb hk)
theorem e_s_iload {k pc len : Nat} {v : Value} {ns : List Nat} {ps : List (Nat × Nat)} {loc : List (Option Value)} {st : List Value} {h : e_H} {bc bs : Nat} {K : Nat → List (Option Value) → List Value → e_H → Nat → Nat → Prop} {Q : e_O → e_H → Prop} {i : Nat} (hd : decode (e_mb k) pc = .ok (.iload i, 2))  (hK : ∀ pc loc st h bc bs, K pc loc st h bc bs → e_Wp k pc loc st h bc bs Q)
    (H : e_stp loc st h bc bs K Q (e_rt k) (pc, .iload i, len, v, ns, ps)) : e_Wp k pc loc st h bc bs Q := by
  replace H : e_ldI loc i (fun w => K (pc + 2) loc (w :: st) h bc bs) := H
  unfold e_ldI at H
  split at H
  · exact e_loadv (by assumption) (fun p l e R s m args below meth c g Hp locs cells slots ls Qs hx hb hr hl kk => lv_iload hx hb hd hl kk) (hK _ _ _ _ _ _ H)
  · exact False.elim H
theorem e_s_iload_n {k pc len : Nat} {v : Value} {ns : List Nat} {ps : List (Nat × Nat)} {loc : List (Option Value)} {st : List Value} {h : e_H} {bc bs : Nat} {K : Nat → List (Option Value) → List Value → e_H → Nat → Nat → Prop} {Q : e_O → e_H → Prop} {i : Fin 4} (hd : decode (e_mb k) pc = .ok (.iload_n i, 1))  (hK : ∀ pc loc st h bc bs, K pc loc st h bc bs → e_Wp k pc loc st h bc bs Q)
    (H : e_stp loc st h bc bs K Q (e_rt k) (pc, .iload_n i, len, v, ns, ps)) : e_Wp k pc loc st h bc bs Q := by
  replace H : e_ldI loc (i : Nat) (fun w => K (pc + 1) loc (w :: st) h bc bs) := H
  unfold e_ldI at H
  split at H
  · exact e_loadv (by assumption) (fun p l e R s m args below meth c g Hp locs cells slots ls Qs hx hb hr hl kk => lv_iload_n hx hb hd rfl hl kk) (hK _ _ _ _ _ _ H)
  · exact False.elim H
theorem e_s_lload {k pc len : Nat} {v : Value} {ns : List Nat} {ps : List (Nat × Nat)} {loc : List (Option Value)} {st : List Value} {h : e_H} {bc bs : Nat} {K : Nat → List (Option Value) → List Value → e_H → Nat → Nat → Prop} {Q : e_O → e_H → Prop} {i : Nat} (hd : decode (e_mb k) pc = .ok (.lload i, 2))  (hK : ∀ pc loc st h bc bs, K pc loc st h bc bs → e_Wp k pc loc st h bc bs Q)
    (H : e_stp loc st h bc bs K Q (e_rt k) (pc, .lload i, len, v, ns, ps)) : e_Wp k pc loc st h bc bs Q := by
  replace H : e_ldL loc i (fun w => K (pc + 2) loc (w :: st) h bc bs) := H
  unfold e_ldL at H
  split at H
  · exact e_loadv (by assumption) (fun p l e R s m args below meth c g Hp locs cells slots ls Qs hx hb hr hl kk => lv_lload hx hb hd hl kk) (hK _ _ _ _ _ _ H)
  · exact False.elim H
theorem e_s_lload_n {k pc len : Nat} {v : Value} {ns : List Nat} {ps : List (Nat × Nat)} {loc : List (Option Value)} {st : List Value} {h : e_H} {bc bs : Nat} {K : Nat → List (Option Value) → List Value → e_H → Nat → Nat → Prop} {Q : e_O → e_H → Prop} {i : Fin 4} (hd : decode (e_mb k) pc = .ok (.lload_n i, 1))  (hK : ∀ pc loc st h bc bs, K pc loc st h bc bs → e_Wp k pc loc st h bc bs Q)
    (H : e_stp loc st h bc bs K Q (e_rt k) (pc, .lload_n i, len, v, ns, ps)) : e_Wp k pc loc st h bc bs Q := by
  replace H : e_ldL loc (i : Nat) (fun w => K (pc + 1) loc (w :: st) h bc bs) := H
  unfold e_ldL at H
  split at H
  · exact e_loadv (by assumption) (fun p l e R s m args below meth c g Hp locs cells slots ls Qs hx hb hr hl kk => lv_lload_n hx hb hd rfl hl kk) (hK _ _ _ _ _ _ H)
  · exact False.elim H
theorem e_s_dload {k pc len : Nat} {v : Value} {ns : List Nat} {ps : List (Nat × Nat)} {loc : List (Option Value)} {st : List Value} {h : e_H} {bc bs : Nat} {K : Nat → List (Option Value) → List Value → e_H → Nat → Nat → Prop} {Q : e_O → e_H → Prop} {i : Nat} (hd : decode (e_mb k) pc = .ok (.dload i, 2))  (hK : ∀ pc loc st h bc bs, K pc loc st h bc bs → e_Wp k pc loc st h bc bs Q)
    (H : e_stp loc st h bc bs K Q (e_rt k) (pc, .dload i, len, v, ns, ps)) : e_Wp k pc loc st h bc bs Q := by
  replace H : e_ldD loc i (fun w => K (pc + 2) loc (w :: st) h bc bs) := H
  unfold e_ldD at H
  split at H
  · exact e_loadv (by assumption) (fun p l e R s m args below meth c g Hp locs cells slots ls Qs hx hb hr hl kk => lv_dload hx hb hd hl kk) (hK _ _ _ _ _ _ H)
  · exact False.elim H
theorem e_s_dload_n {k pc len : Nat} {v : Value} {ns : List Nat} {ps : List (Nat × Nat)} {loc : List (Option Value)} {st : List Value} {h : e_H} {bc bs : Nat} {K : Nat → List (Option Value) → List Value → e_H → Nat → Nat → Prop} {Q : e_O → e_H → Prop} {i : Fin 4} (hd : decode (e_mb k) pc = .ok (.dload_n i, 1))  (hK : ∀ pc loc st h bc bs, K pc loc st h bc bs → e_Wp k pc loc st h bc bs Q)
    (H : e_stp loc st h bc bs K Q (e_rt k) (pc, .dload_n i, len, v, ns, ps)) : e_Wp k pc loc st h bc bs Q := by
  replace H : e_ldD loc (i : Nat) (fun w => K (pc + 1) loc (w :: st) h bc bs) := H
  unfold e_ldD at H
  split at H
  · exact e_loadv (by assumption) (fun p l e R s m args below meth c g Hp locs cells slots ls Qs hx hb hr hl kk => lv_dload_n hx hb hd rfl hl kk) (hK _ _ _ _ _ _ H)
  · exact False.elim H
theorem e_s_aload {k pc len : Nat} {v : Value} {ns : List Nat} {ps : List (Nat × Nat)} {loc : List (Option Value)} {st : List Value} {h : e_H} {bc bs : Nat} {K : Nat → List (Option Value) → List Value → e_H → Nat → Nat → Prop} {Q : e_O → e_H → Prop} {i : Nat} (hd : decode (e_mb k) pc = .ok (.aload i, 2))  (hK : ∀ pc loc st h bc bs, K pc loc st h bc bs → e_Wp k pc loc st h bc bs Q)
    (H : e_stp loc st h bc bs K Q (e_rt k) (pc, .aload i, len, v, ns, ps)) : e_Wp k pc loc st h bc bs Q := by
  replace H : e_ldA loc i (fun w => K (pc + 2) loc (w :: st) h bc bs) := H
  unfold e_ldA at H
  split at H
  · exact e_loadv (by assumption) (fun p l e R s m args below meth c g Hp locs cells slots ls Qs hx hb hr hl kk => lv_aload hx hb hd hl kk) (hK _ _ _ _ _ _ H)
  · rename_i x hx0
    refine e_loadv hx0 (fun p l e R s m args below meth c g Hp locs cells slots ls Qs hx hb hr hl kk => ?_) (hK _ _ _ _ _ _ H)
    rw [show e_rel g (.retAddr x) = g.2.1 x from rfl] at hl kk
    rcases hr x with hq | ⟨q, hq⟩
    · rw [hq] at hl kk
      exact lv_aloadN hx hb hd hl kk
    · rw [hq] at hl kk
      exact lv_aload hx hb hd hl kk
  · exact e_loadv (by assumption) (fun p l e R s m args below meth c g Hp locs cells slots ls Qs hx hb hr hl kk => lv_aloadN hx hb hd hl kk) (hK _ _ _ _ _ _ H)
  · exact False.elim H
theorem e_s_aload_n {k pc len : Nat} {v : Value} {ns : List Nat} {ps : List (Nat × Nat)} {loc : List (Option Value)} {st : List Value} {h : e_H} {bc bs : Nat} {K : Nat → List (Option Value) → List Value → e_H → Nat → Nat → Prop} {Q : e_O → e_H → Prop} {i : Fin 4} (hd : decode (e_mb k) pc = .ok (.aload_n i, 1))  (hK : ∀ pc loc st h bc bs, K pc loc st h bc bs → e_Wp k pc loc st h bc bs Q)
    (H : e_stp loc st h bc bs K Q (e_rt k) (pc, .aload_n i, len, v, ns, ps)) : e_Wp k pc loc st h bc bs Q := by
  replace H : e_ldA loc (i : Nat) (fun w => K (pc + 1) loc (w :: st) h bc bs) := H
  unfold e_ldA at H
  split at H
  · exact e_loadv (by assumption) (fun p l e R s m args below meth c g Hp locs cells slots ls Qs hx hb hr hl kk => lv_aload_n hx hb hd rfl hl kk) (hK _ _ _ _ _ _ H)
  · rename_i x hx0
    refine e_loadv hx0 (fun p l e R s m args below meth c g Hp locs cells slots ls Qs hx hb hr hl kk => ?_) (hK _ _ _ _ _ _ H)
    rw [show e_rel g (.retAddr x) = g.2.1 x from rfl] at hl kk
    rcases hr x with hq | ⟨q, hq⟩
    · rw [hq] at hl kk
      exact lv_aload_nN hx hb hd rfl hl kk
    · rw [hq] at hl kk
      exact lv_aload_n hx hb hd rfl hl kk
  · exact e_loadv (by assumption) (fun p l e R s m args below meth c g Hp locs cells slots ls Qs hx hb hr hl kk => lv_aload_nN hx hb hd rfl hl kk) (hK _ _ _ _ _ _ H)
  · exact False.elim H
theorem e_s_istore {k pc len : Nat} {v : Value} {ns : List Nat} {ps : List (Nat × Nat)} {loc : List (Option Value)} {st : List Value} {h : e_H} {bc bs : Nat} {K : Nat → List (Option Value) → List Value → e_H → Nat → Nat → Prop} {Q : e_O → e_H → Prop} {i : Nat} (hd : decode (e_mb k) pc = .ok (.istore i, 2))  (hK : ∀ pc loc st h bc bs, K pc loc st h bc bs → e_Wp k pc loc st h bc bs Q)
    (H : e_stp loc st h bc bs K Q (e_rt k) (pc, .istore i, len, v, ns, ps)) : e_Wp k pc loc st h bc bs Q := by
  replace H : e_stI loc st i (fun lo r => K (pc + 2) lo r h bc bs) := H
  unfold e_stI at H
  split at H
  · cases hb0 : Nat.ble (i + 1) loc.length with
    | false => rw [hb0] at H; exact False.elim H
    | true => rw [hb0] at H; exact e_store1 hb0 (fun p l e R s m args below meth c g Hp locs cells slots ls Qs lv hx hb hr hl hi kk => lv_istore hx hb hd hl hi rfl kk) (hK _ _ _ _ _ _ H)
  · exact False.elim H
theorem e_s_istore_n {k pc len : Nat} {v : Value} {ns : List Nat} {ps : List (Nat × Nat)} {loc : List (Option Value)} {st : List Value} {h : e_H} {bc bs : Nat} {K : Nat → List (Option Value) → List Value → e_H → Nat → Nat → Prop} {Q : e_O → e_H → Prop} {i : Fin 4} (hd : decode (e_mb k) pc = .ok (.istore_n i, 1))  (hK : ∀ pc loc st h bc bs, K pc loc st h bc bs → e_Wp k pc loc st h bc bs Q)
    (H : e_stp loc st h bc bs K Q (e_rt k) (pc, .istore_n i, len, v, ns, ps)) : e_Wp k pc loc st h bc bs Q := by
  replace H : e_stI loc st (i : Nat) (fun lo r => K (pc + 1) lo r h bc bs) := H
  unfold e_stI at H
  split at H
  · cases hb0 : Nat.ble ((i : Nat) + 1) loc.length with
    | false => rw [hb0] at H; exact False.elim H
    | true => rw [hb0] at H; exact e_store1 hb0 (fun p l e R s m args below meth c g Hp locs cells slots ls Qs lv hx hb hr hl hi kk => lv_istore_n hx hb hd rfl hl hi rfl kk) (hK _ _ _ _ _ _ H)
  · exact False.elim H
theorem e_s_lstore {k pc len : Nat} {v : Value} {ns : List Nat} {ps : List (Nat × Nat)} {loc : List (Option Value)} {st : List Value} {h : e_H} {bc bs : Nat} {K : Nat → List (Option Value) → List Value → e_H → Nat → Nat → Prop} {Q : e_O → e_H → Prop} {i : Nat} (hd : decode (e_mb k) pc = .ok (.lstore i, 2))  (hK : ∀ pc loc st h bc bs, K pc loc st h bc bs → e_Wp k pc loc st h bc bs Q)
    (H : e_stp loc st h bc bs K Q (e_rt k) (pc, .lstore i, len, v, ns, ps)) : e_Wp k pc loc st h bc bs Q := by
  replace H : e_stL loc st i (fun lo r => K (pc + 2) lo r h bc bs) := H
  unfold e_stL at H
  split at H
  · cases hb0 : Nat.ble (i + 2) loc.length with
    | false => rw [hb0] at H; exact False.elim H
    | true => rw [hb0] at H; exact e_store2 hb0 (fun p l e R s m args below meth c g Hp locs cells slots ls Qs lv hx hb hl hi kk => lv_lstore hx hb hd hl hi rfl kk) (hK _ _ _ _ _ _ H)
  · exact False.elim H
theorem e_s_lstore_n {k pc len : Nat} {v : Value} {ns : List Nat} {ps : List (Nat × Nat)} {loc : List (Option Value)} {st : List Value} {h : e_H} {bc bs : Nat} {K : Nat → List (Option Value) → List Value → e_H → Nat → Nat → Prop} {Q : e_O → e_H → Prop} {i : Fin 4} (hd : decode (e_mb k) pc = .ok (.lstore_n i, 1))  (hK : ∀ pc loc st h bc bs, K pc loc st h bc bs → e_Wp k pc loc st h bc bs Q)
    (H : e_stp loc st h bc bs K Q (e_rt k) (pc, .lstore_n i, len, v, ns, ps)) : e_Wp k pc loc st h bc bs Q := by
  replace H : e_stL loc st (i : Nat) (fun lo r => K (pc + 1) lo r h bc bs) := H
  unfold e_stL at H
  split at H
  · cases hb0 : Nat.ble ((i : Nat) + 2) loc.length with
    | false => rw [hb0] at H; exact False.elim H
    | true => rw [hb0] at H; exact e_store2 hb0 (fun p l e R s m args below meth c g Hp locs cells slots ls Qs lv hx hb hl hi kk => lv_lstore_n hx hb hd rfl hl hi rfl kk) (hK _ _ _ _ _ _ H)
  · exact False.elim H
theorem e_s_dstore {k pc len : Nat} {v : Value} {ns : List Nat} {ps : List (Nat × Nat)} {loc : List (Option Value)} {st : List Value} {h : e_H} {bc bs : Nat} {K : Nat → List (Option Value) → List Value → e_H → Nat → Nat → Prop} {Q : e_O → e_H → Prop} {i : Nat} (hd : decode (e_mb k) pc = .ok (.dstore i, 2))  (hK : ∀ pc loc st h bc bs, K pc loc st h bc bs → e_Wp k pc loc st h bc bs Q)
    (H : e_stp loc st h bc bs K Q (e_rt k) (pc, .dstore i, len, v, ns, ps)) : e_Wp k pc loc st h bc bs Q := by
  replace H : e_stD loc st i (fun lo r => K (pc + 2) lo r h bc bs) := H
  unfold e_stD at H
  split at H
  · cases hb0 : Nat.ble (i + 2) loc.length with
    | false => rw [hb0] at H; exact False.elim H
    | true => rw [hb0] at H; exact e_store2 hb0 (fun p l e R s m args below meth c g Hp locs cells slots ls Qs lv hx hb hl hi kk => lv_dstore hx hb hd hl hi rfl kk) (hK _ _ _ _ _ _ H)
  · exact False.elim H
theorem e_s_dstore_n {k pc len : Nat} {v : Value} {ns : List Nat} {ps : List (Nat × Nat)} {loc : List (Option Value)} {st : List Value} {h : e_H} {bc bs : Nat} {K : Nat → List (Option Value) → List Value → e_H → Nat → Nat → Prop} {Q : e_O → e_H → Prop} {i : Fin 4} (hd : decode (e_mb k) pc = .ok (.dstore_n i, 1))  (hK : ∀ pc loc st h bc bs, K pc loc st h bc bs → e_Wp k pc loc st h bc bs Q)
    (H : e_stp loc st h bc bs K Q (e_rt k) (pc, .dstore_n i, len, v, ns, ps)) : e_Wp k pc loc st h bc bs Q := by
  replace H : e_stD loc st (i : Nat) (fun lo r => K (pc + 1) lo r h bc bs) := H
  unfold e_stD at H
  split at H
  · cases hb0 : Nat.ble ((i : Nat) + 2) loc.length with
    | false => rw [hb0] at H; exact False.elim H
    | true => rw [hb0] at H; exact e_store2 hb0 (fun p l e R s m args below meth c g Hp locs cells slots ls Qs lv hx hb hl hi kk => lv_dstore_n hx hb hd rfl hl hi rfl kk) (hK _ _ _ _ _ _ H)
  · exact False.elim H
theorem e_s_astore {k pc len : Nat} {v : Value} {ns : List Nat} {ps : List (Nat × Nat)} {loc : List (Option Value)} {st : List Value} {h : e_H} {bc bs : Nat} {K : Nat → List (Option Value) → List Value → e_H → Nat → Nat → Prop} {Q : e_O → e_H → Prop} {i : Nat} (hd : decode (e_mb k) pc = .ok (.astore i, 2))  (hK : ∀ pc loc st h bc bs, K pc loc st h bc bs → e_Wp k pc loc st h bc bs Q)
    (H : e_stp loc st h bc bs K Q (e_rt k) (pc, .astore i, len, v, ns, ps)) : e_Wp k pc loc st h bc bs Q := by
  replace H : e_stA loc st i (fun lo r => K (pc + 2) lo r h bc bs) := H
  unfold e_stA at H
  split at H
  · cases hb0 : Nat.ble (i + 1) loc.length with
    | false => rw [hb0] at H; exact False.elim H
    | true =>
      rw [hb0] at H
      exact e_store1 hb0 (fun p l e R s m args below meth c g Hp locs cells slots ls Qs lv hx hb hr hl hi kk => lv_astore hx hb hd hl hi rfl kk) (hK _ _ _ _ _ _ H)
  · cases hb0 : Nat.ble (i + 1) loc.length with
    | false => rw [hb0] at H; exact False.elim H
    | true =>
      rw [hb0] at H
      rename_i x r0
      refine e_store1 hb0 (fun p l e R s m args below meth c g Hp locs cells slots ls Qs lv hx hb hr hl hi kk => ?_) (hK _ _ _ _ _ _ H)
      rw [show e_rel g (.retAddr x) = g.2.1 x from rfl] at kk ⊢
      rcases hr x with hq | ⟨q, hq⟩
      · rw [hq] at kk ⊢
        exact lv_astoreN hx hb hd hl hi rfl kk
      · rw [hq] at kk ⊢
        exact lv_astore hx hb hd hl hi rfl kk
  · cases hb0 : Nat.ble (i + 1) loc.length with
    | false => rw [hb0] at H; exact False.elim H
    | true =>
      rw [hb0] at H
      exact e_store1 hb0 (fun p l e R s m args below meth c g Hp locs cells slots ls Qs lv hx hb hr hl hi kk => lv_astoreN hx hb hd hl hi rfl kk) (hK _ _ _ _ _ _ H)
  · exact False.elim H
theorem e_s_astore_n {k pc len : Nat} {v : Value} {ns : List Nat} {ps : List (Nat × Nat)} {loc : List (Option Value)} {st : List Value} {h : e_H} {bc bs : Nat} {K : Nat → List (Option Value) → List Value → e_H → Nat → Nat → Prop} {Q : e_O → e_H → Prop} {i : Fin 4} (hd : decode (e_mb k) pc = .ok (.astore_n i, 1))  (hK : ∀ pc loc st h bc bs, K pc loc st h bc bs → e_Wp k pc loc st h bc bs Q)
    (H : e_stp loc st h bc bs K Q (e_rt k) (pc, .astore_n i, len, v, ns, ps)) : e_Wp k pc loc st h bc bs Q := by
  replace H : e_stA loc st (i : Nat) (fun lo r => K (pc + 1) lo r h bc bs) := H
  unfold e_stA at H
  split at H
  · cases hb0 : Nat.ble ((i : Nat) + 1) loc.length with
    | false => rw [hb0] at H; exact False.elim H
    | true =>
      rw [hb0] at H
      exact e_store1 hb0 (fun p l e R s m args below meth c g Hp locs cells slots ls Qs lv hx hb hr hl hi kk => lv_astore_n hx hb hd rfl hl hi rfl kk) (hK _ _ _ _ _ _ H)
  · cases hb0 : Nat.ble ((i : Nat) + 1) loc.length with
    | false => rw [hb0] at H; exact False.elim H
    | true =>
      rw [hb0] at H
      rename_i x r0
      refine e_store1 hb0 (fun p l e R s m args below meth c g Hp locs cells slots ls Qs lv hx hb hr hl hi kk => ?_) (hK _ _ _ _ _ _ H)
      rw [show e_rel g (.retAddr x) = g.2.1 x from rfl] at kk ⊢
      rcases hr x with hq | ⟨q, hq⟩
      · rw [hq] at kk ⊢
        exact lv_astore_nN hx hb hd rfl hl hi rfl kk
      · rw [hq] at kk ⊢
        exact lv_astore_n hx hb hd rfl hl hi rfl kk
  · cases hb0 : Nat.ble ((i : Nat) + 1) loc.length with
    | false => rw [hb0] at H; exact False.elim H
    | true =>
      rw [hb0] at H
      exact e_store1 hb0 (fun p l e R s m args below meth c g Hp locs cells slots ls Qs lv hx hb hr hl hi kk => lv_astore_nN hx hb hd rfl hl hi rfl kk) (hK _ _ _ _ _ _ H)
  · exact False.elim H
theorem e_s_iinc {k pc len : Nat} {v : Value} {ns : List Nat} {ps : List (Nat × Nat)} {loc : List (Option Value)} {st : List Value} {h : e_H} {bc bs : Nat} {K : Nat → List (Option Value) → List Value → e_H → Nat → Nat → Prop} {Q : e_O → e_H → Prop} {i : Nat} {n : Int} (hd : decode (e_mb k) pc = .ok (.iinc i n, 3))  (hK : ∀ pc loc st h bc bs, K pc loc st h bc bs → e_Wp k pc loc st h bc bs Q)
    (H : e_stp loc st h bc bs K Q (e_rt k) (pc, .iinc i n, len, v, ns, ps)) : e_Wp k pc loc st h bc bs Q := by
  replace H : e_ldI loc i (fun w => match w with
    | .int x => bif Nat.ble (i + 1) loc.length then K (pc + 3) (e_set1 loc i (.int (x + Int32.ofInt n))) st h bc bs else False
    | _ => False) := H
  unfold e_ldI at H
  split at H
  · rename_i x hx0
    cases hb0 : Nat.ble (i + 1) loc.length with
    | false => simp only [hb0] at H; exact False.elim H
    | true =>
      simp only [hb0] at H
      intro p l e R s m args below meth c g A Hp locs cells slots mc ms ls Qc XC C hw hS hl hn hcb hsb hk
      have hx := C.2.2.2.2.2.2.2.2.2.2.2.2.2.2.2.2.1
      have hlt := Nat.le_of_ble_eq_true hb0
      have hl2 : lv_has ls (e_ml k) ((i, .int x) :: e_as g loc) := e_lmono hl (fun q hq => by
        rcases List.mem_cons.mp hq with rfl | hq
        · exact e_as_mem.mpr ⟨.int x, hx0, rfl⟩
        · exact hq)
      refine lv_iinc C.1 C.2.1 hd hl2 (k := 0) rfl rfl (by omega) rfl (fun ls' hl' => ?_)
      refine hK _ _ _ _ _ _ H p l e R s m args below meth c g A Hp locs cells slots mc ms ls' Qc XC C hw hS (e_lmono hl' (fun q hq => ?_)) ((e_set1_len _ _ _).trans hn) hcb hsb hk
      rcases List.mem_cons.mp (e_set1_sub (e_refc hx) q hq) with h1 | h1
      · rw [h1]; exact List.mem_cons_self
      · obtain ⟨h2, h3⟩ := List.mem_filter.mp h1
        exact List.mem_cons_of_mem _ (List.mem_filter.mpr ⟨List.mem_cons_of_mem _ h2, h3⟩)
  · exact False.elim H
theorem e_s_iadd {k pc len : Nat} {v : Value} {ns : List Nat} {ps : List (Nat × Nat)} {loc : List (Option Value)} {st : List Value} {h : e_H} {bc bs : Nat} {K : Nat → List (Option Value) → List Value → e_H → Nat → Nat → Prop} {Q : e_O → e_H → Prop}  (hd : decode (e_mb k) pc = .ok (.iadd, 1))  (hK : ∀ pc loc st h bc bs, K pc loc st h bc bs → e_Wp k pc loc st h bc bs Q)
    (H : e_stp loc st h bc bs K Q (e_rt k) (pc, .iadd, len, v, ns, ps)) : e_Wp k pc loc st h bc bs Q := by
  replace H : e_i2 st (fun x y => .int (x + y)) (fun r => K (pc + 1) loc r h bc bs) := H
  unfold e_i2 at H
  split at H
  · exact e_pure (fun p l e R s m args below meth c g Hp locs cells slots ls Qs hx hb hr ho ht kk => lv_iadd hx hb hd kk) (hK _ _ _ _ _ _ H)
  · exact False.elim H
theorem e_s_isub {k pc len : Nat} {v : Value} {ns : List Nat} {ps : List (Nat × Nat)} {loc : List (Option Value)} {st : List Value} {h : e_H} {bc bs : Nat} {K : Nat → List (Option Value) → List Value → e_H → Nat → Nat → Prop} {Q : e_O → e_H → Prop}  (hd : decode (e_mb k) pc = .ok (.isub, 1))  (hK : ∀ pc loc st h bc bs, K pc loc st h bc bs → e_Wp k pc loc st h bc bs Q)
    (H : e_stp loc st h bc bs K Q (e_rt k) (pc, .isub, len, v, ns, ps)) : e_Wp k pc loc st h bc bs Q := by
  replace H : e_i2 st (fun x y => .int (x - y)) (fun r => K (pc + 1) loc r h bc bs) := H
  unfold e_i2 at H
  split at H
  · exact e_pure (fun p l e R s m args below meth c g Hp locs cells slots ls Qs hx hb hr ho ht kk => lv_isub hx hb hd kk) (hK _ _ _ _ _ _ H)
  · exact False.elim H
theorem e_s_imul {k pc len : Nat} {v : Value} {ns : List Nat} {ps : List (Nat × Nat)} {loc : List (Option Value)} {st : List Value} {h : e_H} {bc bs : Nat} {K : Nat → List (Option Value) → List Value → e_H → Nat → Nat → Prop} {Q : e_O → e_H → Prop}  (hd : decode (e_mb k) pc = .ok (.imul, 1))  (hK : ∀ pc loc st h bc bs, K pc loc st h bc bs → e_Wp k pc loc st h bc bs Q)
    (H : e_stp loc st h bc bs K Q (e_rt k) (pc, .imul, len, v, ns, ps)) : e_Wp k pc loc st h bc bs Q := by
  replace H : e_i2 st (fun x y => .int (x * y)) (fun r => K (pc + 1) loc r h bc bs) := H
  unfold e_i2 at H
  split at H
  · exact e_pure (fun p l e R s m args below meth c g Hp locs cells slots ls Qs hx hb hr ho ht kk => lv_imul hx hb hd kk) (hK _ _ _ _ _ _ H)
  · exact False.elim H
theorem e_s_iand {k pc len : Nat} {v : Value} {ns : List Nat} {ps : List (Nat × Nat)} {loc : List (Option Value)} {st : List Value} {h : e_H} {bc bs : Nat} {K : Nat → List (Option Value) → List Value → e_H → Nat → Nat → Prop} {Q : e_O → e_H → Prop}  (hd : decode (e_mb k) pc = .ok (.iand, 1))  (hK : ∀ pc loc st h bc bs, K pc loc st h bc bs → e_Wp k pc loc st h bc bs Q)
    (H : e_stp loc st h bc bs K Q (e_rt k) (pc, .iand, len, v, ns, ps)) : e_Wp k pc loc st h bc bs Q := by
  replace H : e_i2 st (fun x y => .int (x &&& y)) (fun r => K (pc + 1) loc r h bc bs) := H
  unfold e_i2 at H
  split at H
  · exact e_pure (fun p l e R s m args below meth c g Hp locs cells slots ls Qs hx hb hr ho ht kk => lv_iand hx hb hd kk) (hK _ _ _ _ _ _ H)
  · exact False.elim H
theorem e_s_ior {k pc len : Nat} {v : Value} {ns : List Nat} {ps : List (Nat × Nat)} {loc : List (Option Value)} {st : List Value} {h : e_H} {bc bs : Nat} {K : Nat → List (Option Value) → List Value → e_H → Nat → Nat → Prop} {Q : e_O → e_H → Prop}  (hd : decode (e_mb k) pc = .ok (.ior, 1))  (hK : ∀ pc loc st h bc bs, K pc loc st h bc bs → e_Wp k pc loc st h bc bs Q)
    (H : e_stp loc st h bc bs K Q (e_rt k) (pc, .ior, len, v, ns, ps)) : e_Wp k pc loc st h bc bs Q := by
  replace H : e_i2 st (fun x y => .int (x ||| y)) (fun r => K (pc + 1) loc r h bc bs) := H
  unfold e_i2 at H
  split at H
  · exact e_pure (fun p l e R s m args below meth c g Hp locs cells slots ls Qs hx hb hr ho ht kk => lv_ior hx hb hd kk) (hK _ _ _ _ _ _ H)
  · exact False.elim H
theorem e_s_ixor {k pc len : Nat} {v : Value} {ns : List Nat} {ps : List (Nat × Nat)} {loc : List (Option Value)} {st : List Value} {h : e_H} {bc bs : Nat} {K : Nat → List (Option Value) → List Value → e_H → Nat → Nat → Prop} {Q : e_O → e_H → Prop}  (hd : decode (e_mb k) pc = .ok (.ixor, 1))  (hK : ∀ pc loc st h bc bs, K pc loc st h bc bs → e_Wp k pc loc st h bc bs Q)
    (H : e_stp loc st h bc bs K Q (e_rt k) (pc, .ixor, len, v, ns, ps)) : e_Wp k pc loc st h bc bs Q := by
  replace H : e_i2 st (fun x y => .int (x ^^^ y)) (fun r => K (pc + 1) loc r h bc bs) := H
  unfold e_i2 at H
  split at H
  · exact e_pure (fun p l e R s m args below meth c g Hp locs cells slots ls Qs hx hb hr ho ht kk => lv_ixor hx hb hd kk) (hK _ _ _ _ _ _ H)
  · exact False.elim H
theorem e_s_ishl {k pc len : Nat} {v : Value} {ns : List Nat} {ps : List (Nat × Nat)} {loc : List (Option Value)} {st : List Value} {h : e_H} {bc bs : Nat} {K : Nat → List (Option Value) → List Value → e_H → Nat → Nat → Prop} {Q : e_O → e_H → Prop}  (hd : decode (e_mb k) pc = .ok (.ishl, 1))  (hK : ∀ pc loc st h bc bs, K pc loc st h bc bs → e_Wp k pc loc st h bc bs Q)
    (H : e_stp loc st h bc bs K Q (e_rt k) (pc, .ishl, len, v, ns, ps)) : e_Wp k pc loc st h bc bs Q := by
  replace H : e_i2 st (fun x y => .int (x <<< (y &&& 31))) (fun r => K (pc + 1) loc r h bc bs) := H
  unfold e_i2 at H
  split at H
  · exact e_pure (fun p l e R s m args below meth c g Hp locs cells slots ls Qs hx hb hr ho ht kk => lv_ishl hx hb hd kk) (hK _ _ _ _ _ _ H)
  · exact False.elim H
theorem e_s_ishr {k pc len : Nat} {v : Value} {ns : List Nat} {ps : List (Nat × Nat)} {loc : List (Option Value)} {st : List Value} {h : e_H} {bc bs : Nat} {K : Nat → List (Option Value) → List Value → e_H → Nat → Nat → Prop} {Q : e_O → e_H → Prop}  (hd : decode (e_mb k) pc = .ok (.ishr, 1))  (hK : ∀ pc loc st h bc bs, K pc loc st h bc bs → e_Wp k pc loc st h bc bs Q)
    (H : e_stp loc st h bc bs K Q (e_rt k) (pc, .ishr, len, v, ns, ps)) : e_Wp k pc loc st h bc bs Q := by
  replace H : e_i2 st (fun x y => .int (x >>> (y &&& 31))) (fun r => K (pc + 1) loc r h bc bs) := H
  unfold e_i2 at H
  split at H
  · exact e_pure (fun p l e R s m args below meth c g Hp locs cells slots ls Qs hx hb hr ho ht kk => lv_ishr hx hb hd kk) (hK _ _ _ _ _ _ H)
  · exact False.elim H
theorem e_s_iushr {k pc len : Nat} {v : Value} {ns : List Nat} {ps : List (Nat × Nat)} {loc : List (Option Value)} {st : List Value} {h : e_H} {bc bs : Nat} {K : Nat → List (Option Value) → List Value → e_H → Nat → Nat → Prop} {Q : e_O → e_H → Prop}  (hd : decode (e_mb k) pc = .ok (.iushr, 1))  (hK : ∀ pc loc st h bc bs, K pc loc st h bc bs → e_Wp k pc loc st h bc bs Q)
    (H : e_stp loc st h bc bs K Q (e_rt k) (pc, .iushr, len, v, ns, ps)) : e_Wp k pc loc st h bc bs Q := by
  replace H : e_i2 st (fun x y => .int ((x.toUInt32 >>> (y.toUInt32 &&& Int32.toUInt32 31)).toInt32)) (fun r => K (pc + 1) loc r h bc bs) := H
  unfold e_i2 at H
  split at H
  · exact e_pure (fun p l e R s m args below meth c g Hp locs cells slots ls Qs hx hb hr ho ht kk => lv_iushr hx hb hd rfl kk) (hK _ _ _ _ _ _ H)
  · exact False.elim H
theorem e_s_idiv {k pc len : Nat} {v : Value} {ns : List Nat} {ps : List (Nat × Nat)} {loc : List (Option Value)} {st : List Value} {h : e_H} {bc bs : Nat} {K : Nat → List (Option Value) → List Value → e_H → Nat → Nat → Prop} {Q : e_O → e_H → Prop}  (hd : decode (e_mb k) pc = .ok (.idiv, 1))  (hK : ∀ pc loc st h bc bs, K pc loc st h bc bs → e_Wp k pc loc st h bc bs Q)
    (H : e_stp loc st h bc bs K Q (e_rt k) (pc, .idiv, len, v, ns, ps)) : e_Wp k pc loc st h bc bs Q := by
  replace H : e_i2d st (fun x y => .int (x / y)) (fun r => K (pc + 1) loc r h bc bs) := H
  unfold e_i2d at H
  split at H
  · exact e_pure (fun p l e R s m args below meth c g Hp locs cells slots ls Qs hx hb hr ho ht kk => lv_idiv hx hb hd H.1 kk) (hK _ _ _ _ _ _ H.2)
  · exact False.elim H
theorem e_s_irem {k pc len : Nat} {v : Value} {ns : List Nat} {ps : List (Nat × Nat)} {loc : List (Option Value)} {st : List Value} {h : e_H} {bc bs : Nat} {K : Nat → List (Option Value) → List Value → e_H → Nat → Nat → Prop} {Q : e_O → e_H → Prop}  (hd : decode (e_mb k) pc = .ok (.irem, 1))  (hK : ∀ pc loc st h bc bs, K pc loc st h bc bs → e_Wp k pc loc st h bc bs Q)
    (H : e_stp loc st h bc bs K Q (e_rt k) (pc, .irem, len, v, ns, ps)) : e_Wp k pc loc st h bc bs Q := by
  replace H : e_i2d st (fun x y => .int (x - x / y * y)) (fun r => K (pc + 1) loc r h bc bs) := H
  unfold e_i2d at H
  split at H
  · exact e_pure (fun p l e R s m args below meth c g Hp locs cells slots ls Qs hx hb hr ho ht kk => lv_irem hx hb hd H.1 kk) (hK _ _ _ _ _ _ H.2)
  · exact False.elim H
theorem e_s_ineg {k pc len : Nat} {v : Value} {ns : List Nat} {ps : List (Nat × Nat)} {loc : List (Option Value)} {st : List Value} {h : e_H} {bc bs : Nat} {K : Nat → List (Option Value) → List Value → e_H → Nat → Nat → Prop} {Q : e_O → e_H → Prop}  (hd : decode (e_mb k) pc = .ok (.ineg, 1))  (hK : ∀ pc loc st h bc bs, K pc loc st h bc bs → e_Wp k pc loc st h bc bs Q)
    (H : e_stp loc st h bc bs K Q (e_rt k) (pc, .ineg, len, v, ns, ps)) : e_Wp k pc loc st h bc bs Q := by
  replace H : e_i1 st (fun x => .int (-x)) (fun r => K (pc + 1) loc r h bc bs) := H
  unfold e_i1 at H
  split at H
  · exact e_pure (fun p l e R s m args below meth c g Hp locs cells slots ls Qs hx hb hr ho ht kk => lv_ineg hx hb hd kk) (hK _ _ _ _ _ _ H)
  · exact False.elim H
theorem e_s_i2l {k pc len : Nat} {v : Value} {ns : List Nat} {ps : List (Nat × Nat)} {loc : List (Option Value)} {st : List Value} {h : e_H} {bc bs : Nat} {K : Nat → List (Option Value) → List Value → e_H → Nat → Nat → Prop} {Q : e_O → e_H → Prop}  (hd : decode (e_mb k) pc = .ok (.i2l, 1))  (hK : ∀ pc loc st h bc bs, K pc loc st h bc bs → e_Wp k pc loc st h bc bs Q)
    (H : e_stp loc st h bc bs K Q (e_rt k) (pc, .i2l, len, v, ns, ps)) : e_Wp k pc loc st h bc bs Q := by
  replace H : e_i1 st (fun x => .long x.toInt64) (fun r => K (pc + 1) loc r h bc bs) := H
  unfold e_i1 at H
  split at H
  · exact e_pure (fun p l e R s m args below meth c g Hp locs cells slots ls Qs hx hb hr ho ht kk => lv_i2l hx hb hd rfl kk) (hK _ _ _ _ _ _ H)
  · exact False.elim H
theorem e_s_i2c {k pc len : Nat} {v : Value} {ns : List Nat} {ps : List (Nat × Nat)} {loc : List (Option Value)} {st : List Value} {h : e_H} {bc bs : Nat} {K : Nat → List (Option Value) → List Value → e_H → Nat → Nat → Prop} {Q : e_O → e_H → Prop}  (hd : decode (e_mb k) pc = .ok (.i2c, 1))  (hK : ∀ pc loc st h bc bs, K pc loc st h bc bs → e_Wp k pc loc st h bc bs Q)
    (H : e_stp loc st h bc bs K Q (e_rt k) (pc, .i2c, len, v, ns, ps)) : e_Wp k pc loc st h bc bs Q := by
  replace H : e_i1 st (fun x => .int (x.toUInt32 % 65536).toInt32) (fun r => K (pc + 1) loc r h bc bs) := H
  unfold e_i1 at H
  split at H
  · exact e_pure (fun p l e R s m args below meth c g Hp locs cells slots ls Qs hx hb hr ho ht kk => lv_i2c hx hb hd rfl kk) (hK _ _ _ _ _ _ H)
  · exact False.elim H
theorem e_s_i2d {k pc len : Nat} {v : Value} {ns : List Nat} {ps : List (Nat × Nat)} {loc : List (Option Value)} {st : List Value} {h : e_H} {bc bs : Nat} {K : Nat → List (Option Value) → List Value → e_H → Nat → Nat → Prop} {Q : e_O → e_H → Prop}  (hd : decode (e_mb k) pc = .ok (.i2d, 1))  (hK : ∀ pc loc st h bc bs, K pc loc st h bc bs → e_Wp k pc loc st h bc bs Q)
    (H : e_stp loc st h bc bs K Q (e_rt k) (pc, .i2d, len, v, ns, ps)) : e_Wp k pc loc st h bc bs Q := by
  replace H : e_i1 st (fun x => .double (FP.i2d x)) (fun r => K (pc + 1) loc r h bc bs) := H
  unfold e_i1 at H
  split at H
  · exact e_pure (fun p l e R s m args below meth c g Hp locs cells slots ls Qs hx hb hr ho ht kk => lv_i2d hx hb hd kk) (hK _ _ _ _ _ _ H)
  · exact False.elim H
theorem e_s_land {k pc len : Nat} {v : Value} {ns : List Nat} {ps : List (Nat × Nat)} {loc : List (Option Value)} {st : List Value} {h : e_H} {bc bs : Nat} {K : Nat → List (Option Value) → List Value → e_H → Nat → Nat → Prop} {Q : e_O → e_H → Prop}  (hd : decode (e_mb k) pc = .ok (.land, 1))  (hK : ∀ pc loc st h bc bs, K pc loc st h bc bs → e_Wp k pc loc st h bc bs Q)
    (H : e_stp loc st h bc bs K Q (e_rt k) (pc, .land, len, v, ns, ps)) : e_Wp k pc loc st h bc bs Q := by
  replace H : e_l2 st (fun x y => .long (x &&& y)) (fun r => K (pc + 1) loc r h bc bs) := H
  unfold e_l2 at H
  split at H
  · exact e_pure (fun p l e R s m args below meth c g Hp locs cells slots ls Qs hx hb hr ho ht kk => lv_land hx hb hd kk) (hK _ _ _ _ _ _ H)
  · exact False.elim H
theorem e_s_lor {k pc len : Nat} {v : Value} {ns : List Nat} {ps : List (Nat × Nat)} {loc : List (Option Value)} {st : List Value} {h : e_H} {bc bs : Nat} {K : Nat → List (Option Value) → List Value → e_H → Nat → Nat → Prop} {Q : e_O → e_H → Prop}  (hd : decode (e_mb k) pc = .ok (.lor, 1))  (hK : ∀ pc loc st h bc bs, K pc loc st h bc bs → e_Wp k pc loc st h bc bs Q)
    (H : e_stp loc st h bc bs K Q (e_rt k) (pc, .lor, len, v, ns, ps)) : e_Wp k pc loc st h bc bs Q := by
  replace H : e_l2 st (fun x y => .long (x ||| y)) (fun r => K (pc + 1) loc r h bc bs) := H
  unfold e_l2 at H
  split at H
  · exact e_pure (fun p l e R s m args below meth c g Hp locs cells slots ls Qs hx hb hr ho ht kk => lv_lor hx hb hd kk) (hK _ _ _ _ _ _ H)
  · exact False.elim H
theorem e_s_lxor {k pc len : Nat} {v : Value} {ns : List Nat} {ps : List (Nat × Nat)} {loc : List (Option Value)} {st : List Value} {h : e_H} {bc bs : Nat} {K : Nat → List (Option Value) → List Value → e_H → Nat → Nat → Prop} {Q : e_O → e_H → Prop}  (hd : decode (e_mb k) pc = .ok (.lxor, 1))  (hK : ∀ pc loc st h bc bs, K pc loc st h bc bs → e_Wp k pc loc st h bc bs Q)
    (H : e_stp loc st h bc bs K Q (e_rt k) (pc, .lxor, len, v, ns, ps)) : e_Wp k pc loc st h bc bs Q := by
  replace H : e_l2 st (fun x y => .long (x ^^^ y)) (fun r => K (pc + 1) loc r h bc bs) := H
  unfold e_l2 at H
  split at H
  · exact e_pure (fun p l e R s m args below meth c g Hp locs cells slots ls Qs hx hb hr ho ht kk => lv_lxor hx hb hd kk) (hK _ _ _ _ _ _ H)
  · exact False.elim H
theorem e_s_ladd {k pc len : Nat} {v : Value} {ns : List Nat} {ps : List (Nat × Nat)} {loc : List (Option Value)} {st : List Value} {h : e_H} {bc bs : Nat} {K : Nat → List (Option Value) → List Value → e_H → Nat → Nat → Prop} {Q : e_O → e_H → Prop}  (hd : decode (e_mb k) pc = .ok (.ladd, 1))  (hK : ∀ pc loc st h bc bs, K pc loc st h bc bs → e_Wp k pc loc st h bc bs Q)
    (H : e_stp loc st h bc bs K Q (e_rt k) (pc, .ladd, len, v, ns, ps)) : e_Wp k pc loc st h bc bs Q := by
  replace H : e_l2 st (fun x y => .long (x + y)) (fun r => K (pc + 1) loc r h bc bs) := H
  unfold e_l2 at H
  split at H
  · exact e_pure (fun p l e R s m args below meth c g Hp locs cells slots ls Qs hx hb hr ho ht kk => lv_ladd hx hb hd kk) (hK _ _ _ _ _ _ H)
  · exact False.elim H
theorem e_s_lcmp {k pc len : Nat} {v : Value} {ns : List Nat} {ps : List (Nat × Nat)} {loc : List (Option Value)} {st : List Value} {h : e_H} {bc bs : Nat} {K : Nat → List (Option Value) → List Value → e_H → Nat → Nat → Prop} {Q : e_O → e_H → Prop}  (hd : decode (e_mb k) pc = .ok (.lcmp, 1))  (hK : ∀ pc loc st h bc bs, K pc loc st h bc bs → e_Wp k pc loc st h bc bs Q)
    (H : e_stp loc st h bc bs K Q (e_rt k) (pc, .lcmp, len, v, ns, ps)) : e_Wp k pc loc st h bc bs Q := by
  replace H : e_l2 st (fun x y => .int (lg_cmp x y)) (fun r => K (pc + 1) loc r h bc bs) := H
  unfold e_l2 at H
  split at H
  · exact e_pure (fun p l e R s m args below meth c g Hp locs cells slots ls Qs hx hb hr ho ht kk => W.lcmp hx hb hd kk) (hK _ _ _ _ _ _ H)
  · exact False.elim H
theorem e_s_lshl {k pc len : Nat} {v : Value} {ns : List Nat} {ps : List (Nat × Nat)} {loc : List (Option Value)} {st : List Value} {h : e_H} {bc bs : Nat} {K : Nat → List (Option Value) → List Value → e_H → Nat → Nat → Prop} {Q : e_O → e_H → Prop}  (hd : decode (e_mb k) pc = .ok (.lshl, 1))  (hK : ∀ pc loc st h bc bs, K pc loc st h bc bs → e_Wp k pc loc st h bc bs Q)
    (H : e_stp loc st h bc bs K Q (e_rt k) (pc, .lshl, len, v, ns, ps)) : e_Wp k pc loc st h bc bs Q := by
  replace H : e_lsh st (fun x y => .long (x <<< (y.toInt64 &&& 63))) (fun r => K (pc + 1) loc r h bc bs) := H
  unfold e_lsh at H
  split at H
  · exact e_pure (fun p l e R s m args below meth c g Hp locs cells slots ls Qs hx hb hr ho ht kk => lv_lshl hx hb hd rfl kk) (hK _ _ _ _ _ _ H)
  · exact False.elim H
theorem e_s_lshr {k pc len : Nat} {v : Value} {ns : List Nat} {ps : List (Nat × Nat)} {loc : List (Option Value)} {st : List Value} {h : e_H} {bc bs : Nat} {K : Nat → List (Option Value) → List Value → e_H → Nat → Nat → Prop} {Q : e_O → e_H → Prop}  (hd : decode (e_mb k) pc = .ok (.lshr, 1))  (hK : ∀ pc loc st h bc bs, K pc loc st h bc bs → e_Wp k pc loc st h bc bs Q)
    (H : e_stp loc st h bc bs K Q (e_rt k) (pc, .lshr, len, v, ns, ps)) : e_Wp k pc loc st h bc bs Q := by
  replace H : e_lsh st (fun x y => .long (x >>> (y.toInt64 &&& 63))) (fun r => K (pc + 1) loc r h bc bs) := H
  unfold e_lsh at H
  split at H
  · exact e_pure (fun p l e R s m args below meth c g Hp locs cells slots ls Qs hx hb hr ho ht kk => lv_lshr hx hb hd rfl kk) (hK _ _ _ _ _ _ H)
  · exact False.elim H
theorem e_s_lushr {k pc len : Nat} {v : Value} {ns : List Nat} {ps : List (Nat × Nat)} {loc : List (Option Value)} {st : List Value} {h : e_H} {bc bs : Nat} {K : Nat → List (Option Value) → List Value → e_H → Nat → Nat → Prop} {Q : e_O → e_H → Prop}  (hd : decode (e_mb k) pc = .ok (.lushr, 1))  (hK : ∀ pc loc st h bc bs, K pc loc st h bc bs → e_Wp k pc loc st h bc bs Q)
    (H : e_stp loc st h bc bs K Q (e_rt k) (pc, .lushr, len, v, ns, ps)) : e_Wp k pc loc st h bc bs Q := by
  replace H : e_lsh st (fun x y => .long ((x.toUInt64 >>> (y.toInt64.toUInt64 &&& Int64.toUInt64 63)).toInt64)) (fun r => K (pc + 1) loc r h bc bs) := H
  unfold e_lsh at H
  split at H
  · exact e_pure (fun p l e R s m args below meth c g Hp locs cells slots ls Qs hx hb hr ho ht kk => lv_lushr hx hb hd rfl kk) (hK _ _ _ _ _ _ H)
  · exact False.elim H
theorem e_s_ddiv {k pc len : Nat} {v : Value} {ns : List Nat} {ps : List (Nat × Nat)} {loc : List (Option Value)} {st : List Value} {h : e_H} {bc bs : Nat} {K : Nat → List (Option Value) → List Value → e_H → Nat → Nat → Prop} {Q : e_O → e_H → Prop}  (hd : decode (e_mb k) pc = .ok (.ddiv, 1))  (hK : ∀ pc loc st h bc bs, K pc loc st h bc bs → e_Wp k pc loc st h bc bs Q)
    (H : e_stp loc st h bc bs K Q (e_rt k) (pc, .ddiv, len, v, ns, ps)) : e_Wp k pc loc st h bc bs Q := by
  replace H : e_ddv st (fun r => K (pc + 1) loc r h bc bs) := H
  unfold e_ddv at H
  split at H
  · exact e_pure (fun p l e R s m args below meth c g Hp locs cells slots ls Qs hx hb hr ho ht kk => lv_ddiv hx hb hd H.1 kk) (hK _ _ _ _ _ _ H.2)
  · exact False.elim H
theorem e_s_dcmp {k pc len : Nat} {v : Value} {ns : List Nat} {ps : List (Nat × Nat)} {loc : List (Option Value)} {st : List Value} {h : e_H} {bc bs : Nat} {K : Nat → List (Option Value) → List Value → e_H → Nat → Nat → Prop} {Q : e_O → e_H → Prop} {op : CmpOp} (hd : decode (e_mb k) pc = .ok (.dcmp op, 1))  (hK : ∀ pc loc st h bc bs, K pc loc st h bc bs → e_Wp k pc loc st h bc bs Q)
    (H : e_stp loc st h bc bs K Q (e_rt k) (pc, .dcmp op, len, v, ns, ps)) : e_Wp k pc loc st h bc bs Q := by
  replace H : e_d2 st (fun x y => .int (Op.cmpValue (FP.dcmp x y) op)) (fun r => K (pc + 1) loc r h bc bs) := H
  unfold e_d2 at H
  split at H
  · exact e_pure (fun p l e R s m args below meth c g Hp locs cells slots ls Qs hx hb hr ho ht kk => lv_dcmp hx hb hd kk) (hK _ _ _ _ _ _ H)
  · exact False.elim H
theorem e_s_dup {k pc len : Nat} {v : Value} {ns : List Nat} {ps : List (Nat × Nat)} {loc : List (Option Value)} {st : List Value} {h : e_H} {bc bs : Nat} {K : Nat → List (Option Value) → List Value → e_H → Nat → Nat → Prop} {Q : e_O → e_H → Prop}  (hd : decode (e_mb k) pc = .ok (.dup, 1))  (hK : ∀ pc loc st h bc bs, K pc loc st h bc bs → e_Wp k pc loc st h bc bs Q)
    (H : e_stp loc st h bc bs K Q (e_rt k) (pc, .dup, len, v, ns, ps)) : e_Wp k pc loc st h bc bs Q := by
  replace H : e_dup st (fun r => K (pc + 1) loc r h bc bs) := H
  unfold e_dup at H
  split at H
  · rename_i w r0
    cases hb0 : Nat.beq w.category 1 with
    | false => rw [hb0] at H; exact False.elim H
    | true =>
      rw [hb0] at H
      exact e_pure (fun p l e R s m args below meth c g Hp locs cells slots ls Qs hx hb hr ho ht kk => lv_dup hx hb hd ((e_rel_cat (e_refc hr) _).trans (Nat.eq_of_beq_eq_true hb0)) kk) (hK _ _ _ _ _ _ H)
  · exact False.elim H
theorem e_s_pop {k pc len : Nat} {v : Value} {ns : List Nat} {ps : List (Nat × Nat)} {loc : List (Option Value)} {st : List Value} {h : e_H} {bc bs : Nat} {K : Nat → List (Option Value) → List Value → e_H → Nat → Nat → Prop} {Q : e_O → e_H → Prop}  (hd : decode (e_mb k) pc = .ok (.pop, 1))  (hK : ∀ pc loc st h bc bs, K pc loc st h bc bs → e_Wp k pc loc st h bc bs Q)
    (H : e_stp loc st h bc bs K Q (e_rt k) (pc, .pop, len, v, ns, ps)) : e_Wp k pc loc st h bc bs Q := by
  replace H : e_pop st (fun r => K (pc + 1) loc r h bc bs) := H
  unfold e_pop at H
  split at H
  · rename_i w r0
    cases hb0 : Nat.beq w.category 1 with
    | false => rw [hb0] at H; exact False.elim H
    | true =>
      rw [hb0] at H
      exact e_pure (fun p l e R s m args below meth c g Hp locs cells slots ls Qs hx hb hr ho ht kk => lv_pop hx hb hd ((e_rel_cat (e_refc hr) _).trans (Nat.eq_of_beq_eq_true hb0)) kk) (hK _ _ _ _ _ _ H)
  · exact False.elim H
theorem e_s_dup2 {k pc len : Nat} {v : Value} {ns : List Nat} {ps : List (Nat × Nat)} {loc : List (Option Value)} {st : List Value} {h : e_H} {bc bs : Nat} {K : Nat → List (Option Value) → List Value → e_H → Nat → Nat → Prop} {Q : e_O → e_H → Prop}  (hd : decode (e_mb k) pc = .ok (.dup2, 1))  (hK : ∀ pc loc st h bc bs, K pc loc st h bc bs → e_Wp k pc loc st h bc bs Q)
    (H : e_stp loc st h bc bs K Q (e_rt k) (pc, .dup2, len, v, ns, ps)) : e_Wp k pc loc st h bc bs Q := by
  replace H : e_dup2 st (fun r => K (pc + 1) loc r h bc bs) := H
  unfold e_dup2 at H
  split at H
  · rename_i w1 w2 r0
    cases hb1 : Nat.beq w1.category 1 with
    | false => rw [hb1] at H; exact False.elim H
    | true =>
      cases hb2 : Nat.beq w2.category 1 with
      | false => rw [hb1, hb2] at H; exact False.elim H
      | true =>
        rw [hb1, hb2] at H
        exact e_pure (fun p l e R s m args below meth c g Hp locs cells slots ls Qs hx hb hr ho ht kk => lv_dup2_11 hx hb hd ((e_rel_cat (e_refc hr) _).trans (Nat.eq_of_beq_eq_true hb1)) ((e_rel_cat (e_refc hr) _).trans (Nat.eq_of_beq_eq_true hb2)) kk) (hK _ _ _ _ _ _ H)
  · exact False.elim H
theorem e_s_pop2 {k pc len : Nat} {v : Value} {ns : List Nat} {ps : List (Nat × Nat)} {loc : List (Option Value)} {st : List Value} {h : e_H} {bc bs : Nat} {K : Nat → List (Option Value) → List Value → e_H → Nat → Nat → Prop} {Q : e_O → e_H → Prop}  (hd : decode (e_mb k) pc = .ok (.pop2, 1))  (hK : ∀ pc loc st h bc bs, K pc loc st h bc bs → e_Wp k pc loc st h bc bs Q)
    (H : e_stp loc st h bc bs K Q (e_rt k) (pc, .pop2, len, v, ns, ps)) : e_Wp k pc loc st h bc bs Q := by
  replace H : e_pop2 st (fun r => K (pc + 1) loc r h bc bs) := H
  unfold e_pop2 at H
  split at H
  · rename_i w1 w2 r0
    cases hb1 : Nat.beq w1.category 1 with
    | false => rw [hb1] at H; exact False.elim H
    | true =>
      cases hb2 : Nat.beq w2.category 1 with
      | false => rw [hb1, hb2] at H; exact False.elim H
      | true =>
        rw [hb1, hb2] at H
        exact e_pure (fun p l e R s m args below meth c g Hp locs cells slots ls Qs hx hb hr ho ht kk => lv_pop2_11 hx hb hd ((e_rel_cat (e_refc hr) _).trans (Nat.eq_of_beq_eq_true hb1)) ((e_rel_cat (e_refc hr) _).trans (Nat.eq_of_beq_eq_true hb2)) kk) (hK _ _ _ _ _ _ H)
  · exact False.elim H
theorem e_s_goto {k pc len : Nat} {v : Value} {ns : List Nat} {ps : List (Nat × Nat)} {loc : List (Option Value)} {st : List Value} {h : e_H} {bc bs : Nat} {K : Nat → List (Option Value) → List Value → e_H → Nat → Nat → Prop} {Q : e_O → e_H → Prop} {o : Int} {t : Nat} (hd : decode (e_mb k) pc = .ok (.goto o, 3)) (hns : ns = [t]) (ht : (pc : Int) + o = (t : Int)) (hK : ∀ pc loc st h bc bs, K pc loc st h bc bs → e_Wp k pc loc st h bc bs Q)
    (H : e_stp loc st h bc bs K Q (e_rt k) (pc, .goto o, len, v, ns, ps)) : e_Wp k pc loc st h bc bs Q := by
  subst hns
  exact e_pure (fun p l e R s m args below meth c g Hp locs cells slots ls Qs hx hb hr ho _ kk => lv_goto hx hb hd ht kk) (hK _ _ _ _ _ _ H)
theorem e_s_if_eq {k pc len : Nat} {v : Value} {ns : List Nat} {ps : List (Nat × Nat)} {loc : List (Option Value)} {st : List Value} {h : e_H} {bc bs : Nat} {K : Nat → List (Option Value) → List Value → e_H → Nat → Nat → Prop} {Q : e_O → e_H → Prop} {o : Int} {t : Nat} (hd : decode (e_mb k) pc = .ok (.ifCond .eq o, 3)) (hns : ns = [t]) (ht : (pc : Int) + o = (t : Int)) (hK : ∀ pc loc st h bc bs, K pc loc st h bc bs → e_Wp k pc loc st h bc bs Q)
    (H : e_stp loc st h bc bs K Q (e_rt k) (pc, .ifCond .eq o, len, v, ns, ps)) : e_Wp k pc loc st h bc bs Q := by
  subst hns
  replace H : e_br1 st (fun x => x = 0) (fun r => K t loc r h bc bs) (fun r => K (pc + 3) loc r h bc bs) := H
  unfold e_br1 at H
  split at H
  · exact e_two (fun p l e R s m args below meth c g Hp locs cells slots ls Qs hx hb kt kf => lv_if_eq hx hb hd ht kt kf) ⟨fun hc => hK _ _ _ _ _ _ (H.1 hc), fun hc => hK _ _ _ _ _ _ (H.2 hc)⟩
  · exact False.elim H
theorem e_s_icmp_eq {k pc len : Nat} {v : Value} {ns : List Nat} {ps : List (Nat × Nat)} {loc : List (Option Value)} {st : List Value} {h : e_H} {bc bs : Nat} {K : Nat → List (Option Value) → List Value → e_H → Nat → Nat → Prop} {Q : e_O → e_H → Prop} {o : Int} {t : Nat} (hd : decode (e_mb k) pc = .ok (.if_icmp .eq o, 3)) (hns : ns = [t]) (ht : (pc : Int) + o = (t : Int)) (hK : ∀ pc loc st h bc bs, K pc loc st h bc bs → e_Wp k pc loc st h bc bs Q)
    (H : e_stp loc st h bc bs K Q (e_rt k) (pc, .if_icmp .eq o, len, v, ns, ps)) : e_Wp k pc loc st h bc bs Q := by
  subst hns
  replace H : e_br2 st (fun x y => x = y) (fun r => K t loc r h bc bs) (fun r => K (pc + 3) loc r h bc bs) := H
  unfold e_br2 at H
  split at H
  · exact e_two (fun p l e R s m args below meth c g Hp locs cells slots ls Qs hx hb kt kf => lv_icmp_eq hx hb hd ht kt kf) ⟨fun hc => hK _ _ _ _ _ _ (H.1 hc), fun hc => hK _ _ _ _ _ _ (H.2 hc)⟩
  · exact False.elim H
theorem e_s_if_ne {k pc len : Nat} {v : Value} {ns : List Nat} {ps : List (Nat × Nat)} {loc : List (Option Value)} {st : List Value} {h : e_H} {bc bs : Nat} {K : Nat → List (Option Value) → List Value → e_H → Nat → Nat → Prop} {Q : e_O → e_H → Prop} {o : Int} {t : Nat} (hd : decode (e_mb k) pc = .ok (.ifCond .ne o, 3)) (hns : ns = [t]) (ht : (pc : Int) + o = (t : Int)) (hK : ∀ pc loc st h bc bs, K pc loc st h bc bs → e_Wp k pc loc st h bc bs Q)
    (H : e_stp loc st h bc bs K Q (e_rt k) (pc, .ifCond .ne o, len, v, ns, ps)) : e_Wp k pc loc st h bc bs Q := by
  subst hns
  replace H : e_br1 st (fun x => ¬ x = 0) (fun r => K t loc r h bc bs) (fun r => K (pc + 3) loc r h bc bs) := H
  unfold e_br1 at H
  split at H
  · exact e_two (fun p l e R s m args below meth c g Hp locs cells slots ls Qs hx hb kt kf => lv_if_ne hx hb hd ht kt (fun h1 => kf (fun h2 => h2 h1))) ⟨fun hc => hK _ _ _ _ _ _ (H.1 hc), fun hc => hK _ _ _ _ _ _ (H.2 hc)⟩
  · exact False.elim H
theorem e_s_icmp_ne {k pc len : Nat} {v : Value} {ns : List Nat} {ps : List (Nat × Nat)} {loc : List (Option Value)} {st : List Value} {h : e_H} {bc bs : Nat} {K : Nat → List (Option Value) → List Value → e_H → Nat → Nat → Prop} {Q : e_O → e_H → Prop} {o : Int} {t : Nat} (hd : decode (e_mb k) pc = .ok (.if_icmp .ne o, 3)) (hns : ns = [t]) (ht : (pc : Int) + o = (t : Int)) (hK : ∀ pc loc st h bc bs, K pc loc st h bc bs → e_Wp k pc loc st h bc bs Q)
    (H : e_stp loc st h bc bs K Q (e_rt k) (pc, .if_icmp .ne o, len, v, ns, ps)) : e_Wp k pc loc st h bc bs Q := by
  subst hns
  replace H : e_br2 st (fun x y => ¬ x = y) (fun r => K t loc r h bc bs) (fun r => K (pc + 3) loc r h bc bs) := H
  unfold e_br2 at H
  split at H
  · exact e_two (fun p l e R s m args below meth c g Hp locs cells slots ls Qs hx hb kt kf => lv_icmp_ne hx hb hd ht kt (fun h1 => kf (fun h2 => h2 h1))) ⟨fun hc => hK _ _ _ _ _ _ (H.1 hc), fun hc => hK _ _ _ _ _ _ (H.2 hc)⟩
  · exact False.elim H
theorem e_s_if_lt {k pc len : Nat} {v : Value} {ns : List Nat} {ps : List (Nat × Nat)} {loc : List (Option Value)} {st : List Value} {h : e_H} {bc bs : Nat} {K : Nat → List (Option Value) → List Value → e_H → Nat → Nat → Prop} {Q : e_O → e_H → Prop} {o : Int} {t : Nat} (hd : decode (e_mb k) pc = .ok (.ifCond .lt o, 3)) (hns : ns = [t]) (ht : (pc : Int) + o = (t : Int)) (hK : ∀ pc loc st h bc bs, K pc loc st h bc bs → e_Wp k pc loc st h bc bs Q)
    (H : e_stp loc st h bc bs K Q (e_rt k) (pc, .ifCond .lt o, len, v, ns, ps)) : e_Wp k pc loc st h bc bs Q := by
  subst hns
  replace H : e_br1 st (fun x => x < 0) (fun r => K t loc r h bc bs) (fun r => K (pc + 3) loc r h bc bs) := H
  unfold e_br1 at H
  split at H
  · exact e_two (fun p l e R s m args below meth c g Hp locs cells slots ls Qs hx hb kt kf => lv_if_lt hx hb hd ht kt kf) ⟨fun hc => hK _ _ _ _ _ _ (H.1 hc), fun hc => hK _ _ _ _ _ _ (H.2 hc)⟩
  · exact False.elim H
theorem e_s_icmp_lt {k pc len : Nat} {v : Value} {ns : List Nat} {ps : List (Nat × Nat)} {loc : List (Option Value)} {st : List Value} {h : e_H} {bc bs : Nat} {K : Nat → List (Option Value) → List Value → e_H → Nat → Nat → Prop} {Q : e_O → e_H → Prop} {o : Int} {t : Nat} (hd : decode (e_mb k) pc = .ok (.if_icmp .lt o, 3)) (hns : ns = [t]) (ht : (pc : Int) + o = (t : Int)) (hK : ∀ pc loc st h bc bs, K pc loc st h bc bs → e_Wp k pc loc st h bc bs Q)
    (H : e_stp loc st h bc bs K Q (e_rt k) (pc, .if_icmp .lt o, len, v, ns, ps)) : e_Wp k pc loc st h bc bs Q := by
  subst hns
  replace H : e_br2 st (fun x y => x < y) (fun r => K t loc r h bc bs) (fun r => K (pc + 3) loc r h bc bs) := H
  unfold e_br2 at H
  split at H
  · exact e_two (fun p l e R s m args below meth c g Hp locs cells slots ls Qs hx hb kt kf => lv_icmp_lt hx hb hd ht kt kf) ⟨fun hc => hK _ _ _ _ _ _ (H.1 hc), fun hc => hK _ _ _ _ _ _ (H.2 hc)⟩
  · exact False.elim H
theorem e_s_if_ge {k pc len : Nat} {v : Value} {ns : List Nat} {ps : List (Nat × Nat)} {loc : List (Option Value)} {st : List Value} {h : e_H} {bc bs : Nat} {K : Nat → List (Option Value) → List Value → e_H → Nat → Nat → Prop} {Q : e_O → e_H → Prop} {o : Int} {t : Nat} (hd : decode (e_mb k) pc = .ok (.ifCond .ge o, 3)) (hns : ns = [t]) (ht : (pc : Int) + o = (t : Int)) (hK : ∀ pc loc st h bc bs, K pc loc st h bc bs → e_Wp k pc loc st h bc bs Q)
    (H : e_stp loc st h bc bs K Q (e_rt k) (pc, .ifCond .ge o, len, v, ns, ps)) : e_Wp k pc loc st h bc bs Q := by
  subst hns
  replace H : e_br1 st (fun x => 0 ≤ x) (fun r => K t loc r h bc bs) (fun r => K (pc + 3) loc r h bc bs) := H
  unfold e_br1 at H
  split at H
  · exact e_two (fun p l e R s m args below meth c g Hp locs cells slots ls Qs hx hb kt kf => lv_if_ge hx hb hd ht kt kf) ⟨fun hc => hK _ _ _ _ _ _ (H.1 hc), fun hc => hK _ _ _ _ _ _ (H.2 hc)⟩
  · exact False.elim H
theorem e_s_icmp_ge {k pc len : Nat} {v : Value} {ns : List Nat} {ps : List (Nat × Nat)} {loc : List (Option Value)} {st : List Value} {h : e_H} {bc bs : Nat} {K : Nat → List (Option Value) → List Value → e_H → Nat → Nat → Prop} {Q : e_O → e_H → Prop} {o : Int} {t : Nat} (hd : decode (e_mb k) pc = .ok (.if_icmp .ge o, 3)) (hns : ns = [t]) (ht : (pc : Int) + o = (t : Int)) (hK : ∀ pc loc st h bc bs, K pc loc st h bc bs → e_Wp k pc loc st h bc bs Q)
    (H : e_stp loc st h bc bs K Q (e_rt k) (pc, .if_icmp .ge o, len, v, ns, ps)) : e_Wp k pc loc st h bc bs Q := by
  subst hns
  replace H : e_br2 st (fun x y => y ≤ x) (fun r => K t loc r h bc bs) (fun r => K (pc + 3) loc r h bc bs) := H
  unfold e_br2 at H
  split at H
  · exact e_two (fun p l e R s m args below meth c g Hp locs cells slots ls Qs hx hb kt kf => lv_icmp_ge hx hb hd ht kt kf) ⟨fun hc => hK _ _ _ _ _ _ (H.1 hc), fun hc => hK _ _ _ _ _ _ (H.2 hc)⟩
  · exact False.elim H
theorem e_s_if_gt {k pc len : Nat} {v : Value} {ns : List Nat} {ps : List (Nat × Nat)} {loc : List (Option Value)} {st : List Value} {h : e_H} {bc bs : Nat} {K : Nat → List (Option Value) → List Value → e_H → Nat → Nat → Prop} {Q : e_O → e_H → Prop} {o : Int} {t : Nat} (hd : decode (e_mb k) pc = .ok (.ifCond .gt o, 3)) (hns : ns = [t]) (ht : (pc : Int) + o = (t : Int)) (hK : ∀ pc loc st h bc bs, K pc loc st h bc bs → e_Wp k pc loc st h bc bs Q)
    (H : e_stp loc st h bc bs K Q (e_rt k) (pc, .ifCond .gt o, len, v, ns, ps)) : e_Wp k pc loc st h bc bs Q := by
  subst hns
  replace H : e_br1 st (fun x => 0 < x) (fun r => K t loc r h bc bs) (fun r => K (pc + 3) loc r h bc bs) := H
  unfold e_br1 at H
  split at H
  · exact e_two (fun p l e R s m args below meth c g Hp locs cells slots ls Qs hx hb kt kf => lv_if_gt hx hb hd ht kt kf) ⟨fun hc => hK _ _ _ _ _ _ (H.1 hc), fun hc => hK _ _ _ _ _ _ (H.2 hc)⟩
  · exact False.elim H
theorem e_s_icmp_gt {k pc len : Nat} {v : Value} {ns : List Nat} {ps : List (Nat × Nat)} {loc : List (Option Value)} {st : List Value} {h : e_H} {bc bs : Nat} {K : Nat → List (Option Value) → List Value → e_H → Nat → Nat → Prop} {Q : e_O → e_H → Prop} {o : Int} {t : Nat} (hd : decode (e_mb k) pc = .ok (.if_icmp .gt o, 3)) (hns : ns = [t]) (ht : (pc : Int) + o = (t : Int)) (hK : ∀ pc loc st h bc bs, K pc loc st h bc bs → e_Wp k pc loc st h bc bs Q)
    (H : e_stp loc st h bc bs K Q (e_rt k) (pc, .if_icmp .gt o, len, v, ns, ps)) : e_Wp k pc loc st h bc bs Q := by
  subst hns
  replace H : e_br2 st (fun x y => y < x) (fun r => K t loc r h bc bs) (fun r => K (pc + 3) loc r h bc bs) := H
  unfold e_br2 at H
  split at H
  · exact e_two (fun p l e R s m args below meth c g Hp locs cells slots ls Qs hx hb kt kf => lv_icmp_gt hx hb hd ht kt kf) ⟨fun hc => hK _ _ _ _ _ _ (H.1 hc), fun hc => hK _ _ _ _ _ _ (H.2 hc)⟩
  · exact False.elim H
theorem e_s_if_le {k pc len : Nat} {v : Value} {ns : List Nat} {ps : List (Nat × Nat)} {loc : List (Option Value)} {st : List Value} {h : e_H} {bc bs : Nat} {K : Nat → List (Option Value) → List Value → e_H → Nat → Nat → Prop} {Q : e_O → e_H → Prop} {o : Int} {t : Nat} (hd : decode (e_mb k) pc = .ok (.ifCond .le o, 3)) (hns : ns = [t]) (ht : (pc : Int) + o = (t : Int)) (hK : ∀ pc loc st h bc bs, K pc loc st h bc bs → e_Wp k pc loc st h bc bs Q)
    (H : e_stp loc st h bc bs K Q (e_rt k) (pc, .ifCond .le o, len, v, ns, ps)) : e_Wp k pc loc st h bc bs Q := by
  subst hns
  replace H : e_br1 st (fun x => x ≤ 0) (fun r => K t loc r h bc bs) (fun r => K (pc + 3) loc r h bc bs) := H
  unfold e_br1 at H
  split at H
  · exact e_two (fun p l e R s m args below meth c g Hp locs cells slots ls Qs hx hb kt kf => lv_if_le hx hb hd ht kt kf) ⟨fun hc => hK _ _ _ _ _ _ (H.1 hc), fun hc => hK _ _ _ _ _ _ (H.2 hc)⟩
  · exact False.elim H
theorem e_s_icmp_le {k pc len : Nat} {v : Value} {ns : List Nat} {ps : List (Nat × Nat)} {loc : List (Option Value)} {st : List Value} {h : e_H} {bc bs : Nat} {K : Nat → List (Option Value) → List Value → e_H → Nat → Nat → Prop} {Q : e_O → e_H → Prop} {o : Int} {t : Nat} (hd : decode (e_mb k) pc = .ok (.if_icmp .le o, 3)) (hns : ns = [t]) (ht : (pc : Int) + o = (t : Int)) (hK : ∀ pc loc st h bc bs, K pc loc st h bc bs → e_Wp k pc loc st h bc bs Q)
    (H : e_stp loc st h bc bs K Q (e_rt k) (pc, .if_icmp .le o, len, v, ns, ps)) : e_Wp k pc loc st h bc bs Q := by
  subst hns
  replace H : e_br2 st (fun x y => x ≤ y) (fun r => K t loc r h bc bs) (fun r => K (pc + 3) loc r h bc bs) := H
  unfold e_br2 at H
  split at H
  · exact e_two (fun p l e R s m args below meth c g Hp locs cells slots ls Qs hx hb kt kf => lv_icmp_le hx hb hd ht kt kf) ⟨fun hc => hK _ _ _ _ _ _ (H.1 hc), fun hc => hK _ _ _ _ _ _ (H.2 hc)⟩
  · exact False.elim H
theorem e_s_ifnull {k pc len : Nat} {v : Value} {ns : List Nat} {ps : List (Nat × Nat)} {loc : List (Option Value)} {st : List Value} {h : e_H} {bc bs : Nat} {K : Nat → List (Option Value) → List Value → e_H → Nat → Nat → Prop} {Q : e_O → e_H → Prop} {o : Int} {t : Nat} (hd : decode (e_mb k) pc = .ok (.ifnull o, 3)) (hns : ns = [t]) (ht : (pc : Int) + o = (t : Int)) (hK : ∀ pc loc st h bc bs, K pc loc st h bc bs → e_Wp k pc loc st h bc bs Q)
    (H : e_stp loc st h bc bs K Q (e_rt k) (pc, .ifnull o, len, v, ns, ps)) : e_Wp k pc loc st h bc bs Q := by
  subst hns
  replace H : e_brN st (fun r => K t loc r h bc bs) (fun r => K (pc + 3) loc r h bc bs) := H
  unfold e_brN at H
  split at H
  · exact e_pure (fun p l e R s m args below meth c g Hp locs cells slots ls Qs hx hb hr ho _ kk => lv_ifnullN hx hb hd ht kk) (hK _ _ _ _ _ _ H)
  · exact e_pure (fun p l e R s m args below meth c g Hp locs cells slots ls Qs hx hb hr ho _ kk => lv_ifnull hx hb hd kk) (hK _ _ _ _ _ _ H)
  · exact False.elim H
theorem e_s_ifnonnull {k pc len : Nat} {v : Value} {ns : List Nat} {ps : List (Nat × Nat)} {loc : List (Option Value)} {st : List Value} {h : e_H} {bc bs : Nat} {K : Nat → List (Option Value) → List Value → e_H → Nat → Nat → Prop} {Q : e_O → e_H → Prop} {o : Int} {t : Nat} (hd : decode (e_mb k) pc = .ok (.ifnonnull o, 3)) (hns : ns = [t]) (ht : (pc : Int) + o = (t : Int)) (hK : ∀ pc loc st h bc bs, K pc loc st h bc bs → e_Wp k pc loc st h bc bs Q)
    (H : e_stp loc st h bc bs K Q (e_rt k) (pc, .ifnonnull o, len, v, ns, ps)) : e_Wp k pc loc st h bc bs Q := by
  subst hns
  replace H : e_brN st (fun r => K (pc + 3) loc r h bc bs) (fun r => K t loc r h bc bs) := H
  unfold e_brN at H
  split at H
  · exact e_pure (fun p l e R s m args below meth c g Hp locs cells slots ls Qs hx hb hr ho _ kk => lv_ifnonnullN hx hb hd kk) (hK _ _ _ _ _ _ H)
  · exact e_pure (fun p l e R s m args below meth c g Hp locs cells slots ls Qs hx hb hr ho _ kk => lv_ifnonnull hx hb hd ht kk) (hK _ _ _ _ _ _ H)
  · exact False.elim H
end
section
/-! switches -/
theorem e_bif {b : Bool} {X : Prop} (H : bif b then X else False) : b = true ∧ X := by
  cases b with
  | false => exact False.elim H
  | true => exact ⟨rfl, H⟩
theorem e_swt_out {x : Int32} {lo : Int} {kk : Nat → Prop} {d : Prop} : ∀ (ts : List Nat) (n : Nat), e_swt x lo n ts kk d → (∀ i, i < ts.length → ¬ x = Int32.ofInt (lo + ((n + i : Nat) : Int))) → d
  | [], _, h, _ => h
  | t :: ts, n, h, hn => by
    refine e_swt_out ts (n + 1) (h.2 (hn 0 (Nat.zero_lt_succ _))) (fun i hi => ?_)
    have := hn (i + 1) (Nat.succ_lt_succ hi)
    rwa [show n + 1 + i = n + (i + 1) by omega]
theorem e_swt_in {x : Int32} {lo : Int} {kk : Nat → Prop} {d : Prop} : ∀ (ts : List Nat) (n i t : Nat), e_swt x lo n ts kk d → ts[i]? = some t → x = Int32.ofInt (lo + ((n + i : Nat) : Int)) → (∀ j, j < i → ¬ x = Int32.ofInt (lo + ((n + j : Nat) : Int))) → kk t
  | [], _, _, _, _, h, _, _ => by simp at h
  | u :: ts, n, 0, t, h, ht, hx, _ => by
    simp at ht
    subst ht
    exact h.1 hx
  | u :: ts, n, i + 1, t, h, ht, hx, hj => by
    simp at ht
    refine e_swt_in ts (n + 1) i t (h.2 (hj 0 (Nat.zero_lt_succ _))) ht (by rwa [show n + 1 + i = n + (i + 1) by omega]) (fun j hj2 => ?_)
    have := hj (j + 1) (Nat.succ_lt_succ hj2)
    rwa [show n + 1 + j = n + (j + 1) by omega]
theorem e_ofI {z : Int} {x : Int32} (h1 : -2147483648 ≤ z) (h2 : z ≤ 2147483647) : x = Int32.ofInt z ↔ x.toInt = z := by
  rw [← Int32.toInt_inj, Int32.toInt_ofInt_of_le (by omega) (by omega)]
theorem e_s_tsw {k pc len : Nat} {v : Value} {ns : List Nat} {ps : List (Nat × Nat)} {loc : List (Option Value)} {st : List Value} {h : e_H} {bc bs : Nat} {K : Nat → List (Option Value) → List Value → e_H → Nat → Nat → Prop} {Q : e_O → e_H → Prop} {dflt lo hi : Int} {offs : Array Int} {t : Nat} {ts : List Nat} (hd : decode (e_mb k) pc = .ok (.tableswitch dflt lo hi offs, len)) (hns : ns = t :: ts) (h1 : (pc : Int) + dflt = (t : Int)) (h2 : offs.toList.map (fun o => (pc : Int) + o) = ts.map (fun (x : Nat) => (x : Int))) (h3 : lo + ts.length = hi + 1) (h4 : -2147483648 ≤ lo) (h5 : hi ≤ 2147483647) (hK : ∀ pc loc st h bc bs, K pc loc st h bc bs → e_Wp k pc loc st h bc bs Q)
    (H : e_stp loc st h bc bs K Q (e_rt k) (pc, .tableswitch dflt lo hi offs, len, v, ns, ps)) : e_Wp k pc loc st h bc bs Q := by
  subst hns
  replace H : e_tsw st lo (t :: ts) (fun t r => K t loc r h bc bs) := H
  unfold e_tsw at H
  split at H
  · rename_i x r d ts' heq
    cases heq
    by_cases hx : x.toInt < lo ∨ hi < x.toInt
    · have hd2 := e_swt_out _ 0 H (fun i hi2 hxi => by
        rw [e_ofI (by omega) (by omega)] at hxi
        omega)
      exact e_pure (fun p l e R s m args below meth c g Hp locs cells slots ls Qs hx1 hb hr ho _ kk => lv_tableOut hx1 hb hd hx h1 kk) (hK _ _ _ _ _ _ hd2)
    · have hlt : (x.toInt - lo).toNat < ts.length := by omega
      have hti : ts[(x.toInt - lo).toNat]? = some ts[(x.toInt - lo).toNat] := List.getElem?_eq_getElem hlt
      have hd2 := e_swt_in _ 0 _ _ H hti (by rw [e_ofI (by omega) (by omega)]; omega) (fun j hj hxj => by
        rw [e_ofI (by omega) (by omega)] at hxj
        omega)
      have h7 := congrArg (fun (l : List Int) => l[(x.toInt - lo).toNat]?) h2
      simp only [List.getElem?_map, hti, Option.map_some] at h7
      cases ho : offs.toList[(x.toInt - lo).toNat]? with
      | none => rw [ho] at h7; cases h7
      | some off =>
        rw [ho] at h7
        simp only [Option.map_some, Option.some.injEq] at h7
        rw [Array.getElem?_toList] at ho
        exact e_pure (fun p l e R s m args below meth c g Hp locs cells slots ls Qs hx1 hb hr ho1 _ kk => lv_tableIn hx1 hb hd (by omega) (by omega) ho h7 kk) (hK _ _ _ _ _ _ hd2)
  · exact False.elim H
theorem e_swl_at {x : Int32} {kk : Nat → Prop} {d : Prop} {pc : Nat} {dflt : Int} {t0 : Nat} (h0 : (pc : Int) + dflt = (t0 : Int)) (hd : d → kk t0) : ∀ (qs : List (Int × Int)) (ts : List Nat), e_swl x qs ts kk d → qs.map (fun q => (pc : Int) + q.2) = ts.map (fun (x : Nat) => (x : Int)) → (∀ q ∈ qs, -2147483648 ≤ q.1 ∧ q.1 ≤ 2147483647) →
    ∃ t : Nat, (pc : Int) + Op.lookupswitch.offset qs dflt x.toInt = (t : Int) ∧ kk t
  | [], ts, h, _, _ => by
    refine ⟨t0, ?_, hd (by cases ts <;> exact h)⟩
    simpa [Op.lookupswitch.offset] using h0
  | q :: qs, [], h, _, _ => by exact False.elim h
  | q :: qs, t :: ts, h, hm, hb => by
    simp only [List.map_cons, List.cons.injEq] at hm
    have hq := hb q List.mem_cons_self
    by_cases hx : x = Int32.ofInt q.1
    · refine ⟨t, ?_, h.1 hx⟩
      rw [e_ofI hq.1 hq.2] at hx
      rw [← hm.1]
      simp [Op.lookupswitch.offset, hx]
    · obtain ⟨t', e1, e2⟩ := e_swl_at h0 hd qs ts (h.2 hx) hm.2 (fun q' hq' => hb q' (List.mem_cons_of_mem _ hq'))
      refine ⟨t', ?_, e2⟩
      rw [e_ofI hq.1 hq.2] at hx
      rw [← e1]
      simp [Op.lookupswitch.offset, List.find?, Ne.symm hx, show ¬ q.1 = x.toInt from fun e => hx e.symm]
theorem e_s_lsw {k pc len : Nat} {v : Value} {ns : List Nat} {ps : List (Nat × Nat)} {loc : List (Option Value)} {st : List Value} {h : e_H} {bc bs : Nat} {K : Nat → List (Option Value) → List Value → e_H → Nat → Nat → Prop} {Q : e_O → e_H → Prop} {dflt : Int} {qs : Array (Int × Int)} {t : Nat} {ts : List Nat} (hd : decode (e_mb k) pc = .ok (.lookupswitch dflt qs, len)) (hns : ns = t :: ts) (h1 : (pc : Int) + dflt = (t : Int)) (h2 : qs.toList.map (fun q => (pc : Int) + q.2) = ts.map (fun (x : Nat) => (x : Int))) (h3 : (qs.toList.zip (qs.toList.drop 1)).all (fun (a, next) => a.1 < next.1) = true) (h4 : ∀ q ∈ qs.toList, -2147483648 ≤ q.1 ∧ q.1 ≤ 2147483647) (hK : ∀ pc loc st h bc bs, K pc loc st h bc bs → e_Wp k pc loc st h bc bs Q)
    (H : e_stp loc st h bc bs K Q (e_rt k) (pc, .lookupswitch dflt qs, len, v, ns, ps)) : e_Wp k pc loc st h bc bs Q := by
  subst hns
  replace H : e_lsw st qs (t :: ts) (fun t r => K t loc r h bc bs) := H
  unfold e_lsw at H
  split at H
  · rename_i x r d ts' heq
    cases heq
    obtain ⟨t', e1, e2⟩ := e_swl_at h1 (fun z => z) _ _ H h2 h4
    exact e_pure (fun p l e R s m args below meth c g Hp locs cells slots ls Qs hx1 hb hr ho1 _ kk => lv_lookup hx1 hb hd h3 rfl e1 kk) (hK _ _ _ _ _ _ e2)
  · exact False.elim H
/-! rows -/
theorem e_xrow_0 {h : e_H} {a n : Nat} {f : Nat → Int32} (hx : e_xrow h a = some (0, n, f)) : ∃ (i : Nat) (r : String × String × List Int32), e_sts[i]? = some r ∧ a = 10 + i ∧ n = r.2.2.length ∧ f = fun j => r.2.2.getD j 0 := by
  unfold e_xrow at hx
  split at hx
  · cases hx
  · split at hx
    · rename_i h1 h2
      have hl : a - 10 < e_sts.length := Nat.lt_of_lt_of_le (show a - 10 < 8 by omega) (by decide)
      refine ⟨a - 10, _, e_getL (d := ("", "", [])) hl, by omega, ?_⟩
      cases hx
      exact ⟨rfl, rfl⟩
    · split at hx
      · cases hx
      · cases hx
theorem e_xrow_5 {h : e_H} {a n : Nat} {f : Nat → Int32} (hx : e_xrow h a = some (5, n, f)) : ∃ i, i < 3 ∧ a = 3 + i ∧ n = e_slen.getD i 0 ∧ f = fun j => (e_sbyt.getD i []).getD j 0 := by
  unfold e_xrow at hx
  split at hx
  · cases hx
  · split at hx
    · cases hx
    · split at hx
      · rename_i h3
        refine ⟨a - 3, by omega, by omega, ?_⟩
        cases hx
        exact ⟨rfl, rfl⟩
      · cases hx
theorem e_xrow_6 {h : e_H} {a n : Nat} {f : Nat → Int32} (hx : e_xrow h a = some (6, n, f)) : a = 20 ∧ n = (e_scr h).1 ∧ f = (e_scr h).2 := by
  unfold e_xrow at hx
  split at hx
  · rename_i h1
    cases hx
    exact ⟨h1, rfl, rfl⟩
  · split at hx
    · cases hx
    · split at hx
      · cases hx
      · cases hx
theorem e_xrow_t {h : e_H} {a t n : Nat} {f : Nat → Int32} (hx : e_xrow h a = some (t, n, f)) : t = 0 ∨ t = 5 ∨ t = 6 := by
  unfold e_xrow at hx
  split at hx
  · cases hx; exact Or.inr (Or.inr rfl)
  · split at hx
    · cases hx; exact Or.inl rfl
    · split at hx
      · cases hx; exact Or.inr (Or.inl rfl)
      · cases hx
theorem e_s_alen {k pc len : Nat} {v : Value} {ns : List Nat} {ps : List (Nat × Nat)} {loc : List (Option Value)} {st : List Value} {h : e_H} {bc bs : Nat} {K : Nat → List (Option Value) → List Value → e_H → Nat → Nat → Prop} {Q : e_O → e_H → Prop}  (hd : decode (e_mb k) pc = .ok (.arraylength, 1))  (hK : ∀ pc loc st h bc bs, K pc loc st h bc bs → e_Wp k pc loc st h bc bs Q)
    (H : e_stp loc st h bc bs K Q (e_rt k) (pc, .arraylength, len, v, ns, ps)) : e_Wp k pc loc st h bc bs Q := by
  replace H : e_alen st h (fun r => K (pc + 1) loc r h bc bs) := H
  unfold e_alen at H
  split at H
  · rename_i a r
    split at H
    · rename_i t n ha
      cases hb0 : Nat.ble (t + 1) 4 with
      | false => rw [hb0] at H; exact False.elim H
      | true =>
        rw [hb0] at H
        intro p l e R s m args below meth c g A Hp locs cells slots mc ms ls Qc XC C hw hS hl hn hcb hsb hk
        have htl : t < e_tyt.length := Nat.lt_of_lt_of_le (Nat.le_of_ble_eq_true hb0) (by decide)
        exact va_alen C.1 C.2.1 C.2.2.2.2.2.2.2.2.2.2.2.2.2.2.2.1 hw.1 a t (e_ws_get (g := g) ha) (e_tys_get (List.getElem?_eq_getElem htl)) rfl hd (hK _ _ _ _ _ _ H p l e R s m args below meth c g A Hp locs cells slots mc ms ls Qc XC C hw hS hl hn hcb hsb hk)
    · rename_i n rs ha
      intro p l e R s m args below meth c g A Hp locs cells slots mc ms ls Qc XC C hw hS hl hn hcb hsb hk
      exact va_alen C.1 C.2.1 C.2.2.2.2.2.2.2.2.2.2.2.2.2.2.2.1 hw.1 a 4 (e_ws_get (g := g) ha) (e_tys_get (t := 4) rfl) rfl hd (hK _ _ _ _ _ _ H p l e R s m args below meth c g A Hp locs cells slots mc ms ls Qc XC C hw hS hl hn hcb hsb hk)
    · exact False.elim H
  · rename_i a r
    split at H
    · rename_i t n f hx
      intro p l e R s m args below meth c g A Hp locs cells slots mc ms ls Qc XC C hw hS hl hn hcb hsb hk
      obtain ⟨-, -, -, h3, ⟨adV, h4, h5⟩, -, -, -, -, -, -, b, h12, h13, h14, h15⟩ := C.2.2.2.2.2.2.2.2.2.2.2.2.2.2.2.2
      have kk := hK _ _ _ _ _ _ H p l e R s m args below meth c g A Hp locs cells slots mc ms ls Qc XC C hw hS hl hn hcb hsb hk
      rcases e_xrow_t hx with rfl | rfl | rfl
      · obtain ⟨i, rr, hi, rfl, rfl, rfl⟩ := e_xrow_0 hx
        obtain ⟨-, t, e1, e2⟩ := h3 i rr hi
        rw [List.map_cons, show e_rel g (.retAddr (10 + i)) = g.2.1 (10 + i) from rfl, e1]
        exact va_tlen C.1 C.2.1 e2 hS rfl hd kk
      · obtain ⟨i, hi, rfl, rfl, rfl⟩ := e_xrow_5 hx
        have e2 := (h4.1 i hi).2.2.2
        rw [List.map_cons, show e_rel g (.retAddr (3 + i)) = g.2.1 (3 + i) from rfl, (h5 i hi).2]
        exact va_tlen C.1 C.2.1 e2 hS rfl hd kk
      · obtain ⟨rfl, rfl, rfl⟩ := e_xrow_6 hx
        rw [List.map_cons, show e_rel g (.retAddr 20) = g.2.1 20 from rfl, h12]
        exact va_slen C.1 C.2.1 h13 h15 h14 hS hd kk
    · exact False.elim H
  · exact False.elim H
theorem e_s_iaload {k pc len : Nat} {v : Value} {ns : List Nat} {ps : List (Nat × Nat)} {loc : List (Option Value)} {st : List Value} {h : e_H} {bc bs : Nat} {K : Nat → List (Option Value) → List Value → e_H → Nat → Nat → Prop} {Q : e_O → e_H → Prop}  (hd : decode (e_mb k) pc = .ok (.iaload, 1))  (hK : ∀ pc loc st h bc bs, K pc loc st h bc bs → e_Wp k pc loc st h bc bs Q)
    (H : e_stp loc st h bc bs K Q (e_rt k) (pc, .iaload, len, v, ns, ps)) : e_Wp k pc loc st h bc bs Q := by
  replace H : e_ald st h 0 0 6 (fun r => K (pc + 1) loc r h bc bs) := H
  unfold e_ald at H
  split at H
  · rename_i i a r
    split at H
    · rename_i t n ha
      cases hb0 : Nat.beq t 0 with
      | false => rw [hb0] at H; exact False.elim H
      | true =>
        rw [hb0] at H
        have htt : t = 0 := Nat.eq_of_beq_eq_true hb0
        subst htt
        have h9 := H
        clear H
        obtain ⟨hin, H⟩ : vp_in i n ∧ _ := h9
        intro p l e R s m args below meth c g A Hp locs cells slots mc ms ls Qc XC C hw hS hl hn hcb hsb hk
        exact va_iald C.1 C.2.1 C.2.2.2.2.2.2.2.2.2.2.2.2.2.2.2.1 hw.1 a 0 (e_ws_get (g := g) ha) (e_tys_get (t := 0) rfl) hin hd (hK _ _ _ _ _ _ H p l e R s m args below meth c g A Hp locs cells slots mc ms ls Qc XC C hw hS hl hn hcb hsb hk)
    · exact False.elim H
  · rename_i i a r
    split at H
    · rename_i t n f hx
      cases hb0 : Nat.beq t 0 || Nat.beq t 6 with
      | false => rw [hb0] at H; exact False.elim H
      | true =>
        rw [hb0] at H
        have h9 := H
        clear H
        obtain ⟨hin, H⟩ : vp_in i n ∧ _ := h9
        simp only [Bool.or_eq_true] at hb0
        intro p l e R s m args below meth c g A Hp locs cells slots mc ms ls Qc XC C hw hS hl hn hcb hsb hk
        obtain ⟨-, -, -, h3, ⟨adV, h4, h5⟩, -, -, -, -, -, -, b, h12, h13, h14, h15⟩ := C.2.2.2.2.2.2.2.2.2.2.2.2.2.2.2.2
        have kk := hK _ _ _ _ _ _ H p l e R s m args below meth c g A Hp locs cells slots mc ms ls Qc XC C hw hS hl hn hcb hsb hk
        rcases hb0 with hb0 | hb0
        · obtain rfl : t = 0 := Nat.eq_of_beq_eq_true hb0
          obtain ⟨j, rr, hi, rfl, rfl, rfl⟩ := e_xrow_0 hx
          obtain ⟨-, t, e1, e2⟩ := h3 j rr hi
          rw [List.map_cons, List.map_cons, show e_rel g (.retAddr (10 + j)) = g.2.1 (10 + j) from rfl, e1]
          exact va_ti C.1 C.2.1 e2 hS hin rfl hd kk
        · obtain rfl : t = 6 := Nat.eq_of_beq_eq_true hb0
          obtain ⟨rfl, rfl, rfl⟩ := e_xrow_6 hx
          rw [List.map_cons, List.map_cons, show e_rel g (.retAddr 20) = g.2.1 20 from rfl, h12]
          exact va_sld C.1 C.2.1 h13 h15 h14 hS hin hd kk
    · exact False.elim H
  · exact False.elim H
theorem e_s_caload {k pc len : Nat} {v : Value} {ns : List Nat} {ps : List (Nat × Nat)} {loc : List (Option Value)} {st : List Value} {h : e_H} {bc bs : Nat} {K : Nat → List (Option Value) → List Value → e_H → Nat → Nat → Prop} {Q : e_O → e_H → Prop}  (hd : decode (e_mb k) pc = .ok (.caload, 1))  (hK : ∀ pc loc st h bc bs, K pc loc st h bc bs → e_Wp k pc loc st h bc bs Q)
    (H : e_stp loc st h bc bs K Q (e_rt k) (pc, .caload, len, v, ns, ps)) : e_Wp k pc loc st h bc bs Q := by
  replace H : e_ald st h 2 7 7 (fun r => K (pc + 1) loc r h bc bs) := H
  unfold e_ald at H
  split at H
  · rename_i i a r
    split at H
    · rename_i t n ha
      cases hb0 : Nat.beq t 2 with
      | false => rw [hb0] at H; exact False.elim H
      | true =>
        rw [hb0] at H
        have htt : t = 2 := Nat.eq_of_beq_eq_true hb0
        subst htt
        have h9 := H
        clear H
        obtain ⟨hin, H⟩ : vp_in i n ∧ _ := h9
        intro p l e R s m args below meth c g A Hp locs cells slots mc ms ls Qc XC C hw hS hl hn hcb hsb hk
        exact va_cald C.1 C.2.1 C.2.2.2.2.2.2.2.2.2.2.2.2.2.2.2.1 hw.1 a 2 (e_ws_get (g := g) ha) (e_tys_get (t := 2) rfl) hin hd (hK _ _ _ _ _ _ H p l e R s m args below meth c g A Hp locs cells slots mc ms ls Qc XC C hw hS hl hn hcb hsb hk)
    · exact False.elim H
  · rename_i i a r
    split at H
    · rename_i t n f hx
      cases hb0 : Nat.beq t 7 || Nat.beq t 7 with
      | false => rw [hb0] at H; exact False.elim H
      | true =>
        rw [hb0] at H
        have h9 := H
        clear H
        obtain ⟨hin, H⟩ : vp_in i n ∧ _ := h9
        simp only [Bool.or_eq_true] at hb0
        exfalso
        have h7 : t = 7 := by rcases hb0 with hb0 | hb0 <;> exact Nat.eq_of_beq_eq_true hb0
        rcases e_xrow_t hx with h8 | h8 | h8 <;> omega
    · exact False.elim H
  · exact False.elim H
theorem e_s_baload {k pc len : Nat} {v : Value} {ns : List Nat} {ps : List (Nat × Nat)} {loc : List (Option Value)} {st : List Value} {h : e_H} {bc bs : Nat} {K : Nat → List (Option Value) → List Value → e_H → Nat → Nat → Prop} {Q : e_O → e_H → Prop}  (hd : decode (e_mb k) pc = .ok (.baload, 1))  (hK : ∀ pc loc st h bc bs, K pc loc st h bc bs → e_Wp k pc loc st h bc bs Q)
    (H : e_stp loc st h bc bs K Q (e_rt k) (pc, .baload, len, v, ns, ps)) : e_Wp k pc loc st h bc bs Q := by
  replace H : e_bald st h (fun r => K (pc + 1) loc r h bc bs) := H
  unfold e_bald at H
  split at H
  · rename_i i a r
    split at H
    · rename_i t n f hx
      have h9 := e_bif H
      clear H
      obtain ⟨hb0, hin, H⟩ := h9
      obtain rfl : t = 5 := Nat.eq_of_beq_eq_true hb0
      obtain ⟨j, hj, rfl, rfl, rfl⟩ := e_xrow_5 hx
      intro p l e R s m args below meth c g A Hp locs cells slots mc ms ls Qc XC C hw hS hl hn hcb hsb hk
      obtain ⟨-, -, -, h3, ⟨adV, h4, h5⟩, -, -, -, -, -, -, b, h12, h13, h14, h15⟩ := C.2.2.2.2.2.2.2.2.2.2.2.2.2.2.2.2
      have kk := hK _ _ _ _ _ _ H p l e R s m args below meth c g A Hp locs cells slots mc ms ls Qc XC C hw hS hl hn hcb hsb hk
      rw [List.map_cons, List.map_cons, show e_rel g (.retAddr (3 + j)) = g.2.1 (3 + j) from rfl, (h5 j hj).2]
      exact va_tb C.1 C.2.1 (h4.1 j hj).2.2.2 hS hin rfl hd kk
    · exact False.elim H
  · exact False.elim H
theorem e_s_laload {k pc len : Nat} {v : Value} {ns : List Nat} {ps : List (Nat × Nat)} {loc : List (Option Value)} {st : List Value} {h : e_H} {bc bs : Nat} {K : Nat → List (Option Value) → List Value → e_H → Nat → Nat → Prop} {Q : e_O → e_H → Prop}  (hd : decode (e_mb k) pc = .ok (.laload, 1))  (hK : ∀ pc loc st h bc bs, K pc loc st h bc bs → e_Wp k pc loc st h bc bs Q)
    (H : e_stp loc st h bc bs K Q (e_rt k) (pc, .laload, len, v, ns, ps)) : e_Wp k pc loc st h bc bs Q := by
  replace H : e_lald st h (fun r => K (pc + 1) loc r h bc bs) := H
  unfold e_lald at H
  split at H
  · rename_i i a r
    split at H
    · rename_i t n ha
      cases hb0 : Nat.beq t 1 with
      | false => rw [hb0] at H; exact False.elim H
      | true =>
        rw [hb0] at H
        have htt : t = 1 := Nat.eq_of_beq_eq_true hb0
        subst htt
        have h9 := H
        clear H
        obtain ⟨hin, H⟩ : vp_in i n ∧ _ := h9
        intro p l e R s m args below meth c g A Hp locs cells slots mc ms ls Qc XC C hw hS hl hn hcb hsb hk
        exact va_lald C.1 C.2.1 C.2.2.2.2.2.2.2.2.2.2.2.2.2.2.2.1 hw.1 a 1 (e_ws_get (g := g) ha) (e_tys_get (t := 1) rfl) hin hd (hK _ _ _ _ _ _ H p l e R s m args below meth c g A Hp locs cells slots mc ms ls Qc XC C hw hS hl hn hcb hsb hk)
    · exact False.elim H
  · exact False.elim H
theorem e_s_daload {k pc len : Nat} {v : Value} {ns : List Nat} {ps : List (Nat × Nat)} {loc : List (Option Value)} {st : List Value} {h : e_H} {bc bs : Nat} {K : Nat → List (Option Value) → List Value → e_H → Nat → Nat → Prop} {Q : e_O → e_H → Prop}  (hd : decode (e_mb k) pc = .ok (.daload, 1))  (hK : ∀ pc loc st h bc bs, K pc loc st h bc bs → e_Wp k pc loc st h bc bs Q)
    (H : e_stp loc st h bc bs K Q (e_rt k) (pc, .daload, len, v, ns, ps)) : e_Wp k pc loc st h bc bs Q := by
  replace H : e_dald st h (fun r => K (pc + 1) loc r h bc bs) := H
  unfold e_dald at H
  split at H
  · rename_i i a r
    split at H
    · rename_i t n ha
      cases hb0 : Nat.beq t 3 with
      | false => rw [hb0] at H; exact False.elim H
      | true =>
        rw [hb0] at H
        have htt : t = 3 := Nat.eq_of_beq_eq_true hb0
        subst htt
        have h9 := H
        clear H
        obtain ⟨hin, H⟩ : vp_in i n ∧ _ := h9
        intro p l e R s m args below meth c g A Hp locs cells slots mc ms ls Qc XC C hw hS hl hn hcb hsb hk
        exact va_dald C.1 C.2.1 C.2.2.2.2.2.2.2.2.2.2.2.2.2.2.2.1 hw.1 a 3 (e_ws_get (g := g) ha) (e_tys_get (t := 3) rfl) hin hd (hK _ _ _ _ _ _ H p l e R s m args below meth c g A Hp locs cells slots mc ms ls Qc XC C hw hS hl hn hcb hsb hk)
    · exact False.elim H
  · exact False.elim H
theorem e_s_aaload {k pc len : Nat} {v : Value} {ns : List Nat} {ps : List (Nat × Nat)} {loc : List (Option Value)} {st : List Value} {h : e_H} {bc bs : Nat} {K : Nat → List (Option Value) → List Value → e_H → Nat → Nat → Prop} {Q : e_O → e_H → Prop}  (hd : decode (e_mb k) pc = .ok (.aaload, 1))  (hK : ∀ pc loc st h bc bs, K pc loc st h bc bs → e_Wp k pc loc st h bc bs Q)
    (H : e_stp loc st h bc bs K Q (e_rt k) (pc, .aaload, len, v, ns, ps)) : e_Wp k pc loc st h bc bs Q := by
  replace H : e_aald st h (fun r => K (pc + 1) loc r h bc bs) := H
  unfold e_aald at H
  split at H
  · rename_i i a r
    split at H
    · rename_i n rs ha
      have h9 := H
      clear H
      obtain ⟨hin, H⟩ := h9
      intro p l e R s m args below meth c g A Hp locs cells slots mc ms ls Qc XC C hw hS hl hn hcb hsb hk
      refine va_aldq C.1 C.2.1 C.2.2.2.2.2.2.2.2.2.2.2.2.2.2.2.1 hw.1 a 4 (e_ws_get (g := g) ha) (e_tys_get (t := 4) rfl) hin hd ?_
      cases hq : rs.getD i.toNatClampNeg none with
      | none =>
        rw [hq] at H
        exact hK _ _ _ _ _ _ H p l e R s m args below meth c g A Hp locs cells slots mc ms ls Qc XC C hw hS hl hn hcb hsb hk
      | some q =>
        rw [hq] at H
        exact hK _ _ _ _ _ _ H p l e R s m args below meth c g A Hp locs cells slots mc ms ls Qc XC C hw hS hl hn hcb hsb hk
    · exact False.elim H
  · exact False.elim H
/-! the world behind a store -/
theorem e_up_same {α : Type} {f : Nat → Nat → α} {c k : Nat} {x : α} : e_up f c k x c = fun k' => if k' = k then x else f c k' := by
  unfold e_up
  rw [if_pos rfl]
theorem e_up_ne {α : Type} {f : Nat → Nat → α} {c k d : Nat} {x : α} (h : d ≠ c) : e_up f c k x d = f d := by
  unfold e_up
  rw [if_neg h]
theorem e_lay_set {h : e_H} {a : Nat} {e : e_C} (ha : (e_lay h)[a]? = some e) : e_lay h = (e_lay h).set a e := by
  apply List.ext_getElem?
  intro d
  rw [List.getElem?_set]
  by_cases hd : a = d
  · subst hd
    rw [if_pos rfl, if_pos (List.getElem?_eq_some_iff.mp ha).1, ha]
  · rw [if_neg hd]
theorem e_cell_I {g : e_G} {h h' : e_H} {d : Nat} (e : e_C) (hI : e_hI h' d = e_hI h d) (hL : e_hL h' d = e_hL h d) (hD : e_hD h' d = e_hD h d) : e_cell g h' d e = e_cell g h d e := by
  have hs : e_slot g h' d = e_slot g h d := by
    funext k v
    cases v <;> simp only [e_slot] <;> first | rw [hI] | rw [hL] | rfl
  rcases e with ⟨ci, tm⟩ | ⟨t, n⟩ | ⟨n, rs⟩
  · simp only [e_cell, hs]
  · simp only [e_cell, hI, hL, hD]
  · rfl
theorem e_ws_iast {g : e_G} {h : e_H} {a t n k : Nat} {x : Int32} (ha : (e_lay h)[a]? = some (.inr (.inl (t, n)))) (h1 : t ≠ 1) (h3 : t ≠ 3) :
    e_ws g (e_setI h a k x) = (e_ws g h).set a (g.1 a, .inl (g.2.2.1 t, n, .inl (upd (e_hI h a) k x))) := by
  refine e_ws_set (e' := .inr (.inl (t, n))) (e_lay_set ha) (List.getElem?_eq_some_iff.mp ha).1 ?_ (fun d e hd => e_cell_I e (e_up_ne hd) rfl rfl)
  simp only [e_cell, if_neg h1, if_neg h3]
  show (Sum.inl (g.2.2.1 t, n, Sum.inl (e_up (e_hI h) a k x a)) : va_E) = _
  rw [e_up_same]
  rfl
theorem e_ws_last {g : e_G} {h : e_H} {a n k : Nat} {x : Int64} (ha : (e_lay h)[a]? = some (.inr (.inl (1, n)))) :
    e_ws g (e_setL h a k x) = (e_ws g h).set a (g.1 a, .inl (g.2.2.1 1, n, .inr (.inl (vp_updL (e_hL h a) k x)))) := by
  refine e_ws_set (e' := .inr (.inl (1, n))) (e_lay_set ha) (List.getElem?_eq_some_iff.mp ha).1 ?_ (fun d e hd => e_cell_I e rfl (e_up_ne hd) rfl)
  show (Sum.inl (g.2.2.1 1, n, Sum.inr (Sum.inl (e_up (e_hL h) a k x a))) : va_E) = _
  rw [e_up_same]
  rfl
theorem e_ws_dast {g : e_G} {h : e_H} {a n k : Nat} {x : UInt64} (ha : (e_lay h)[a]? = some (.inr (.inl (3, n)))) :
    e_ws g (e_setD h a k x) = (e_ws g h).set a (g.1 a, .inl (g.2.2.1 3, n, .inr (.inr (.inr (.inl (vf_upd (e_hD h a) k x)))))) := by
  refine e_ws_set (e' := .inr (.inl (3, n))) (e_lay_set ha) (List.getElem?_eq_some_iff.mp ha).1 ?_ (fun d e hd => e_cell_I e rfl rfl (e_up_ne hd))
  show (Sum.inl (g.2.2.1 3, n, Sum.inr (Sum.inr (Sum.inr (Sum.inl (e_up (e_hD h) a k x a))))) : va_E) = _
  rw [e_up_same]
  rfl
theorem e_ws_rowI {g : e_G} {h : e_H} {a n : Nat} {r : Nat → Int32} (ha : (e_lay h)[a]? = some (.inr (.inl (0, n)))) :
    e_ws g (e_rowI h a r) = (e_ws g h).set a (g.1 a, .inl (g.2.2.1 0, n, .inl r)) := by
  refine e_ws_set (e' := .inr (.inl (0, n))) (e_lay_set ha) (List.getElem?_eq_some_iff.mp ha).1 ?_ (fun d e hd => e_cell_I e (show e_row (e_hI h) a r d = _ by unfold e_row; rw [if_neg hd]) rfl rfl)
  show (Sum.inl (g.2.2.1 0, n, Sum.inl (e_row (e_hI h) a r a)) : va_E) = _
  unfold e_row
  rw [if_pos rfl]
theorem e_ws_put {g : e_G} {h h' : e_H} {a ci k : Nat} {tm tm' : List Value} {w : Value} (ha : (e_lay h)[a]? = some (.inl (ci, tm))) (hl : e_lay h' = (e_lay h).set a (.inl (ci, tm')))
    (hv : tm'.mapIdx (e_slot g h' a) = (tm.mapIdx (e_slot g h a)).set k w) (ho : ∀ d, d ≠ a → e_hI h' d = e_hI h d ∧ e_hL h' d = e_hL h d ∧ e_hD h' d = e_hD h d) :
    e_ws g h' = (e_ws g h).set a (g.1 a, .inr (ci, (tm.mapIdx (e_slot g h a)).set k w)) := by
  refine e_ws_set (e' := .inl (ci, tm')) hl (List.getElem?_eq_some_iff.mp ha).1 ?_ (fun d e hd => e_cell_I e (ho d hd).1 (ho d hd).2.1 (ho d hd).2.2)
  simp only [e_cell, hv]
theorem e_map_set {g : e_G} {h h' : e_H} {a k : Nat} {tm tm' : List Value} {w : Value} (hlen : tm'.length = tm.length) (hk : k < tm.length) (hw : ∀ v, tm'[k]? = some v → e_slot g h' a k v = w) (ho : ∀ (j : Nat) (v : Value), j ≠ k → tm'[j]? = some v → tm[j]? = some v ∧ e_slot g h' a j v = e_slot g h a j v) :
    tm'.mapIdx (e_slot g h' a) = (tm.mapIdx (e_slot g h a)).set k w := by
  apply List.ext_getElem?
  intro j
  rw [List.getElem?_mapIdx, List.getElem?_set, List.length_mapIdx, List.getElem?_mapIdx]
  by_cases hj : k = j
  · subst hj
    rw [if_pos rfl, if_pos hk]
    rw [List.getElem?_eq_getElem (by omega), Option.map_some, hw _ (List.getElem?_eq_getElem (by omega))]
  · rw [if_neg hj]
    by_cases hjl : j < tm.length
    · have h1 : tm'[j]? = some tm'[j] := List.getElem?_eq_getElem (by omega)
      obtain ⟨h2, h3⟩ := ho j _ (Ne.symm hj) h1
      rw [h1, h2, Option.map_some, Option.map_some, h3]
    · rw [List.getElem?_eq_none (by omega), List.getElem?_eq_none (by omega)]
      rfl
theorem e_to.same {g : e_G} {h h' : e_H} (h1 : e_scr h' = e_scr h) (h2 : (e_lay h').length = (e_lay h).length) (h3 : e_fl h' = e_fl h) : e_to g h g h' := ⟨h1, Nat.le_of_eq h2.symm, e_ag.rf, fun _ => rfl, h3⟩
theorem e_s_iastore {k pc len : Nat} {v : Value} {ns : List Nat} {ps : List (Nat × Nat)} {loc : List (Option Value)} {st : List Value} {h : e_H} {bc bs : Nat} {K : Nat → List (Option Value) → List Value → e_H → Nat → Nat → Prop} {Q : e_O → e_H → Prop}  (hd : decode (e_mb k) pc = .ok (.iastore, 1))  (hK : ∀ pc loc st h bc bs, K pc loc st h bc bs → e_Wp k pc loc st h bc bs Q)
    (H : e_stp loc st h bc bs K Q (e_rt k) (pc, .iastore, len, v, ns, ps)) : e_Wp k pc loc st h bc bs Q := by
  replace H : e_iast st h 0 (fun x => x) (fun r h' => K (pc + 1) loc r h' bc bs) := H
  unfold e_iast at H
  split at H
  · rename_i x i a r
    split at H
    · rename_i t n ha
      cases hb0 : Nat.beq t 0 with
      | false => rw [hb0] at H; exact False.elim H
      | true =>
        rw [hb0] at H
        have htt : t = 0 := Nat.eq_of_beq_eq_true hb0
        subst htt
        have h9 := H
        clear H
        obtain ⟨hin, H⟩ : vp_in i n ∧ _ := h9
        intro p l e R s m args below meth c g A Hp locs cells slots mc ms ls Qc XC C hw hS hl hn hcb hsb hk
        refine va_iast C.1 C.2.1 C.2.2.2.2.2.2.2.2.2.2.2.2.2.2.2.1 hw.1 hw.2 hS a 0 (e_ws_get (g := g) ha) (e_tys_get (t := 0) rfl) hin hd (fun H1 locs1 hP1 hD1 hS1 => ?_)
        exact hK _ _ _ _ _ _ H p l e R s m args below meth c g A H1 locs1 cells slots mc ms ls Qc XC C ⟨by rw [e_ws_iast ha (by decide) (by decide)]; exact hP1, by rw [e_ws_iast ha (by decide) (by decide)]; exact hD1⟩ hS1 hl hn hcb hsb (hk.step (e_to.same rfl rfl rfl))
    · exact False.elim H
  · exact False.elim H
theorem e_s_castore {k pc len : Nat} {v : Value} {ns : List Nat} {ps : List (Nat × Nat)} {loc : List (Option Value)} {st : List Value} {h : e_H} {bc bs : Nat} {K : Nat → List (Option Value) → List Value → e_H → Nat → Nat → Prop} {Q : e_O → e_H → Prop}  (hd : decode (e_mb k) pc = .ok (.castore, 1))  (hK : ∀ pc loc st h bc bs, K pc loc st h bc bs → e_Wp k pc loc st h bc bs Q)
    (H : e_stp loc st h bc bs K Q (e_rt k) (pc, .castore, len, v, ns, ps)) : e_Wp k pc loc st h bc bs Q := by
  replace H : e_iast st h 2 (fun x => vp_nar .char x) (fun r h' => K (pc + 1) loc r h' bc bs) := H
  unfold e_iast at H
  split at H
  · rename_i x i a r
    split at H
    · rename_i t n ha
      cases hb0 : Nat.beq t 2 with
      | false => rw [hb0] at H; exact False.elim H
      | true =>
        rw [hb0] at H
        have htt : t = 2 := Nat.eq_of_beq_eq_true hb0
        subst htt
        have h9 := H
        clear H
        obtain ⟨hin, H⟩ : vp_in i n ∧ _ := h9
        intro p l e R s m args below meth c g A Hp locs cells slots mc ms ls Qc XC C hw hS hl hn hcb hsb hk
        refine va_cast C.1 C.2.1 C.2.2.2.2.2.2.2.2.2.2.2.2.2.2.2.1 hw.1 hw.2 hS a 2 (e_ws_get (g := g) ha) (e_tys_get (t := 2) rfl) hin hd (fun H1 locs1 hP1 hD1 hS1 => ?_)
        exact hK _ _ _ _ _ _ H p l e R s m args below meth c g A H1 locs1 cells slots mc ms ls Qc XC C ⟨by rw [e_ws_iast ha (by decide) (by decide)]; exact hP1, by rw [e_ws_iast ha (by decide) (by decide)]; exact hD1⟩ hS1 hl hn hcb hsb (hk.step (e_to.same rfl rfl rfl))
    · exact False.elim H
  · exact False.elim H
theorem e_s_lastore {k pc len : Nat} {v : Value} {ns : List Nat} {ps : List (Nat × Nat)} {loc : List (Option Value)} {st : List Value} {h : e_H} {bc bs : Nat} {K : Nat → List (Option Value) → List Value → e_H → Nat → Nat → Prop} {Q : e_O → e_H → Prop}  (hd : decode (e_mb k) pc = .ok (.lastore, 1))  (hK : ∀ pc loc st h bc bs, K pc loc st h bc bs → e_Wp k pc loc st h bc bs Q)
    (H : e_stp loc st h bc bs K Q (e_rt k) (pc, .lastore, len, v, ns, ps)) : e_Wp k pc loc st h bc bs Q := by
  replace H : e_last st h (fun r h' => K (pc + 1) loc r h' bc bs) := H
  unfold e_last at H
  split at H
  · rename_i x i a r
    split at H
    · rename_i t n ha
      cases hb0 : Nat.beq t 1 with
      | false => rw [hb0] at H; exact False.elim H
      | true =>
        rw [hb0] at H
        have htt : t = 1 := Nat.eq_of_beq_eq_true hb0
        subst htt
        have h9 := H
        clear H
        obtain ⟨hin, H⟩ : vp_in i n ∧ _ := h9
        intro p l e R s m args below meth c g A Hp locs cells slots mc ms ls Qc XC C hw hS hl hn hcb hsb hk
        refine va_last C.1 C.2.1 C.2.2.2.2.2.2.2.2.2.2.2.2.2.2.2.1 hw.1 hw.2 hS a 1 (e_ws_get (g := g) ha) (e_tys_get (t := 1) rfl) hin hd (fun H1 locs1 hP1 hD1 hS1 => ?_)
        exact hK _ _ _ _ _ _ H p l e R s m args below meth c g A H1 locs1 cells slots mc ms ls Qc XC C ⟨by rw [e_ws_last ha]; exact hP1, by rw [e_ws_last ha]; exact hD1⟩ hS1 hl hn hcb hsb (hk.step (e_to.same rfl rfl rfl))
    · exact False.elim H
  · exact False.elim H
theorem e_s_dastore {k pc len : Nat} {v : Value} {ns : List Nat} {ps : List (Nat × Nat)} {loc : List (Option Value)} {st : List Value} {h : e_H} {bc bs : Nat} {K : Nat → List (Option Value) → List Value → e_H → Nat → Nat → Prop} {Q : e_O → e_H → Prop}  (hd : decode (e_mb k) pc = .ok (.dastore, 1))  (hK : ∀ pc loc st h bc bs, K pc loc st h bc bs → e_Wp k pc loc st h bc bs Q)
    (H : e_stp loc st h bc bs K Q (e_rt k) (pc, .dastore, len, v, ns, ps)) : e_Wp k pc loc st h bc bs Q := by
  replace H : e_dast st h (fun r h' => K (pc + 1) loc r h' bc bs) := H
  unfold e_dast at H
  split at H
  · rename_i x i a r
    split at H
    · rename_i t n ha
      cases hb0 : Nat.beq t 3 with
      | false => rw [hb0] at H; exact False.elim H
      | true =>
        rw [hb0] at H
        have htt : t = 3 := Nat.eq_of_beq_eq_true hb0
        subst htt
        have h9 := H
        clear H
        obtain ⟨hin, H⟩ : vp_in i n ∧ _ := h9
        intro p l e R s m args below meth c g A Hp locs cells slots mc ms ls Qc XC C hw hS hl hn hcb hsb hk
        refine va_dast C.1 C.2.1 C.2.2.2.2.2.2.2.2.2.2.2.2.2.2.2.1 hw.1 hw.2 hS a 3 (e_ws_get (g := g) ha) (e_tys_get (t := 3) rfl) hin hd (fun H1 locs1 hP1 hD1 hS1 => ?_)
        exact hK _ _ _ _ _ _ H p l e R s m args below meth c g A H1 locs1 cells slots mc ms ls Qc XC C ⟨by rw [e_ws_dast ha]; exact hP1, by rw [e_ws_dast ha]; exact hD1⟩ hS1 hl hn hcb hsb (hk.step (e_to.same rfl rfl rfl))
    · exact False.elim H
  · exact False.elim H
theorem e_s_aastore {k pc len : Nat} {v : Value} {ns : List Nat} {ps : List (Nat × Nat)} {loc : List (Option Value)} {st : List Value} {h : e_H} {bc bs : Nat} {K : Nat → List (Option Value) → List Value → e_H → Nat → Nat → Prop} {Q : e_O → e_H → Prop}  (hd : decode (e_mb k) pc = .ok (.aastore, 1))  (hK : ∀ pc loc st h bc bs, K pc loc st h bc bs → e_Wp k pc loc st h bc bs Q)
    (H : e_stp loc st h bc bs K Q (e_rt k) (pc, .aastore, len, v, ns, ps)) : e_Wp k pc loc st h bc bs Q := by
  replace H : e_aast st h (fun r h' => K (pc + 1) loc r h' bc bs) := H
  unfold e_aast at H
  split at H
  · rename_i v i a r
    split at H
    · rename_i n rs ci tm ha hv
      cases hb0 : Nat.beq ci 2 && Nat.beq n rs.length with
      | false => rw [hb0] at H; exact False.elim H
      | true =>
        rw [hb0] at H
        simp only [Bool.and_eq_true] at hb0
        have h2 : ci = 2 := Nat.eq_of_beq_eq_true hb0.1
        have h3 : n = rs.length := Nat.eq_of_beq_eq_true hb0.2
        subst h2
        have h9 := H
        clear H
        obtain ⟨hin, H⟩ : vp_in i n ∧ _ := h9
        intro p l e R s m args below meth c g A Hp locs cells slots mc ms ls Qc XC C hw hS hl hn hcb hsb hk
        refine va_astq C.1 C.2.1 C.2.2.2.2.2.2.2.2.2.2.2.2.2.2.2.1 hw.1 hw.2 hS a 4 v 2 (e_ws_get (g := g) ha) (e_tys_get (t := 4) rfl) (e_ws_get (g := g) hv) (r := ("HexCampaign$Game", e_T e_f2, 9)) rfl hin hd (fun H1 locs1 hP1 hD1 hS1 => ?_)
        have hin2 : i.toNatClampNeg < rs.length := by
          rw [← h3]
          unfold vp_in at hin
          omega
        have hws : e_ws g (e_setC h a (.inr (.inr (n, rs.set i.toNatClampNeg (some v))))) = (e_ws g h).set a (g.1 a, .inl (g.2.2.1 4, n, .inr (.inr (.inr (.inr (va_up (fun i => (rs.getD i none).map g.1) i.toNatClampNeg (some (g.1 v)))))))) := by
          refine e_ws_set (e' := .inr (.inr (n, rs.set i.toNatClampNeg (some v)))) rfl (List.getElem?_eq_some_iff.mp ha).1 ?_ (fun d e hd => e_cell_I e rfl rfl rfl)
          show (Sum.inl (g.2.2.1 4, n, Sum.inr (Sum.inr (Sum.inr (Sum.inr _)))) : va_E) = _
          refine congrArg (fun z => (Sum.inl (g.2.2.1 4, n, Sum.inr (Sum.inr (Sum.inr (Sum.inr z)))) : va_E)) (funext fun j => ?_)
          show ((rs.set i.toNatClampNeg (some v)).getD j none).map g.1 = if j = i.toNatClampNeg then some (g.1 v) else (rs.getD j none).map g.1
          rw [List.getD_eq_getElem?_getD, List.getElem?_set, List.getD_eq_getElem?_getD]
          by_cases hj : i.toNatClampNeg = j
          · subst hj
            rw [if_pos rfl, if_pos hin2, if_pos rfl]
            rfl
          · rw [if_neg hj, if_neg (Ne.symm hj)]
        exact hK _ _ _ _ _ _ H p l e R s m args below meth c g A H1 locs1 cells slots mc ms ls Qc XC C ⟨by rw [hws]; exact hP1, by rw [hws]; exact hD1⟩ hS1 hl hn hcb hsb (hk.step (e_to.same rfl (by show ((e_lay h).set _ _).length = _; rw [List.length_set]) rfl))
    · exact False.elim H
  · exact False.elim H
/-! fields -/
theorem e_s_getO {k pc len : Nat} {v : Value} {ns : List Nat} {ps : List (Nat × Nat)} {loc : List (Option Value)} {st : List Value} {h : e_H} {bc bs : Nat} {K : Nat → List (Option Value) → List Value → e_H → Nat → Nat → Prop} {Q : e_O → e_H → Prop} {ix ci j f : Nat} (hd : decode (e_mb k) pc = .ok (.getfield ix, 3)) (hns : ns = [ci, j, f]) (hci : ci < e_cls.length) (hj : j < e_cK ci) (hdecl : (e_cT ci j).1 = e_cN ci) (hw1 : Cond.fieldLink (e_nm k).cls ix (e_cN ci) (e_cT ci j).2.1 (e_cT ci j).2.2.1 ∈ e_tb) (hK : ∀ pc loc st h bc bs, K pc loc st h bc bs → e_Wp k pc loc st h bc bs Q)
    (H : e_stp loc st h bc bs K Q (e_rt k) (pc, .getfield ix, len, v, ns, ps)) : e_Wp k pc loc st h bc bs Q := by
  subst hns
  replace H : e_get st h [ci, j, f] (fun r => K (pc + 3) loc r h bc bs) := H
  simp only [e_get] at H
  split at H
  · rename_i a r
    split at H
    · rename_i cj tm ha
      have h9 := e_bif H
      clear H
      obtain ⟨hb0, H⟩ := h9
      obtain rfl : cj = ci := Nat.eq_of_beq_eq_true hb0
      have row : ∀ (w : Value), (∀ g : e_G, (tm.mapIdx (e_slot g h a))[j]? = some (e_rel g w)) → K (pc + 3) loc (w :: r) h bc bs → e_Wp k pc loc (.ref a :: r) h bc bs Q := by
        intro w hw0 H
        intro p l e R s m args below meth c g A Hp locs cells slots mc ms ls Qc XC C hw hS hl hn hcb hsb hk
        exact va_get C.1 C.2.1 C.2.2.2.2.1 (e_clw _ hci) C.2.2.2.1 C.2.2.2.2.2.2.2.2.2.2.2.2.2.2.2.1 hw.1 a (e_ws_get (g := g) ha) (e_clc hci) j hj (C.2.2.2.2.1 _ hw1) (fun x hx => by rw [hdecl] at hx; exact hx) (hw0 g) hd (hK _ _ _ _ _ _ H p l e R s m args below meth c g A Hp locs cells slots mc ms ls Qc XC C hw hS hl hn hcb hsb hk)
      split at H
      · rename_i z hz
        exact row _ (fun g => by rw [List.getElem?_mapIdx, hz]; rfl) H
      · rename_i z hz
        exact row _ (fun g => by rw [List.getElem?_mapIdx, hz]; rfl) H
      · rename_i z hz
        exact row _ (fun g => by rw [List.getElem?_mapIdx, hz]; rfl) H
      · rename_i hz
        exact row _ (fun g => by rw [List.getElem?_mapIdx, hz]; rfl) H
      · exact False.elim H
    · exact False.elim H
  · exact False.elim H
theorem e_s_getS {k pc len : Nat} {v : Value} {ns : List Nat} {ps : List (Nat × Nat)} {loc : List (Option Value)} {st : List Value} {h : e_H} {bc bs : Nat} {K : Nat → List (Option Value) → List Value → e_H → Nat → Nat → Prop} {Q : e_O → e_H → Prop} {ix c9 j : Nat} (hd : decode (e_mb k) pc = .ok (.getfield ix, 3)) (hns : ns = [c9, j]) (hw1 : (j = 0 ∧ Cond.fieldLink (e_nm k).cls ix "java/lang/String" "coder" "B" ∈ e_tb) ∨ (j = 1 ∧ Cond.fieldLink (e_nm k).cls ix "java/lang/String" "value" "[B" ∈ e_tb)) (hK : ∀ pc loc st h bc bs, K pc loc st h bc bs → e_Wp k pc loc st h bc bs Q)
    (H : e_stp loc st h bc bs K Q (e_rt k) (pc, .getfield ix, len, v, ns, ps)) : e_Wp k pc loc st h bc bs Q := by
  subst hns
  replace H : e_get st h [c9, j] (fun r => K (pc + 3) loc r h bc bs) := H
  simp only [e_get] at H
  split at H
  · rename_i a r
    have h9 := e_bif H
    clear H
    obtain ⟨hb0, H⟩ := h9
    have ha : a < 3 := Nat.le_of_ble_eq_true hb0
    intro p l e R s m args below meth c g A Hp locs cells slots mc ms ls Qc XC C hw hS hl hn hcb hsb hk
    obtain ⟨-, -, -, h3, ⟨adV, h4, h5⟩, -, -, -, -, -, -, b, h12, h13, h14, h15⟩ := C.2.2.2.2.2.2.2.2.2.2.2.2.2.2.2.2
    have h6 := h4.1 a ha
    rcases hw1 with ⟨rfl, hw1⟩ | ⟨rfl, hw1⟩
    · rw [List.map_cons, show e_rel g (.retAddr a) = g.2.1 a from rfl, (h5 a ha).1]
      exact vk_getf C.1 C.2.1 h6.2.1 hS C.2.2.2.1 (C.2.2.2.2.1 _ hw1) (fun _ hh => hh) hd (hK _ _ _ _ _ _ H p l e R s m args below meth c g A Hp locs cells slots mc ms ls Qc XC C hw hS hl hn hcb hsb hk)
    · have kk := hK _ _ _ _ _ _ H p l e R s m args below meth c g A Hp locs cells slots mc ms ls Qc XC C hw hS hl hn hcb hsb hk
      rw [List.map_cons, show e_rel g (.retAddr (3 + a)) = g.2.1 (3 + a) from rfl, (h5 a ha).2] at kk
      rw [List.map_cons, show e_rel g (.retAddr a) = g.2.1 a from rfl, (h5 a ha).1]
      exact vk_getf C.1 C.2.1 h6.2.2.1 hS C.2.2.2.1 (C.2.2.2.2.1 _ hw1) (fun _ hh => hh) hd kk
  · exact False.elim H
/-- a field's store, final or not -/
theorem e_putrow {k pc ix ci j a : Nat} {loc : List (Option Value)} {r : List Value} {v : Value} {h h' : e_H} {bc bs : Nat} {Q : e_O → e_H → Prop} {tm : List Value} (hd : decode (e_mb k) pc = .ok (.putfield ix, 3)) (hci : ci < e_cls.length) (hj : j < e_cK ci) (hdecl : (e_cT ci j).1 = e_cN ci) (hw1 : Cond.fieldLink (e_nm k).cls ix (e_cN ci) (e_cT ci j).2.1 (e_cT ci j).2.2.1 ∈ e_tb)
    (hfin : (e_cT ci j).2.2.2 = false ∨ ((e_cT ci j).2.2.2 = true ∧ (e_nm k).cls = e_cN ci ∧ (e_nm k).name = "<init>")) (ha : (e_lay h)[a]? = some (.inl (ci, tm)))
    (hn0 : ∀ g : e_G, narrow (e_ty ci j) (e_rel g v) = e_rel g v) (hf0 : ∀ g : e_G, fits (e_ty ci j) (e_rel g v) = true) (hjl : j < tm.length) (hws : ∀ g : e_G, e_ws g h' = (e_ws g h).set a (g.1 a, .inr (ci, (tm.mapIdx (e_slot g h a)).set j (e_rel g v)))) (hto : ∀ g : e_G, e_to g h g h')
    (H : e_Wp k (pc + 3) loc r h' bc bs Q) : e_Wp k pc loc (v :: .ref a :: r) h bc bs Q := by
  intro p l e R s m args below meth c g A Hp locs cells slots mc ms ls Qc XC C hw hS hl hn hcb hsb hk
  have hjl2 : j < (tm.mapIdx (e_slot g h a)).length := by rw [List.length_mapIdx]; exact hjl
  have go : ∀ (H1 : Heap) (locs1 : List Loc), va_P g.2.2.2 e_cls ((e_ws g h).set a (g.1 a, .inr (ci, (tm.mapIdx (e_slot g h a)).set j (e_rel g v)))) H1 → va_D A ((e_ws g h).set a (g.1 a, .inr (ci, (tm.mapIdx (e_slot g h a)).set j (e_rel g v)))) → va_S A s.heap H1 locs1 → W p l e R s m args below meth c H1 locs1 cells slots (vx_MQ below Qc XC args s mc ms A) (F0 m (pc + 3) ls (r.map (e_rel g))) := by
    intro H1 locs1 hP1 hD1 hS1
    rw [← hws g] at hP1 hD1
    refine H p l e R s m args below meth c g A H1 locs1 cells slots mc ms ls Qc XC ?_ ⟨hP1, hD1⟩ hS1 hl hn hcb hsb (hk.step (hto g))
    rw [(hto g).1]
    exact C
  rcases hfin with hfin | ⟨hfin, hown, hinit⟩
  · exact va_put C.1 C.2.1 C.2.2.2.2.1 (e_clw _ hci) (e_ty ci) (fun k hk => e_clt hci hk) (e_cln _ hci) C.2.2.2.1 C.2.2.2.2.2.2.2.2.2.2.2.2.2.2.2.1 hw.1 hw.2 hS a (e_ws_get (g := g) ha) (e_clc hci) j hj (C.2.2.2.2.1 _ hw1) (fun x hx => by rw [hdecl] at hx; exact hx) hfin (e_clt hci hj) (hn0 g) (hf0 g) hjl2 hd go
  · exact va_putF C.1 C.2.1 C.2.2.2.2.1 (e_clw _ hci) (e_ty ci) (fun k hk => e_clt hci hk) (e_cln _ hci) C.2.2.2.1 C.2.2.2.2.2.2.2.2.2.2.2.2.2.2.2.1 hw.1 hw.2 hS a (e_ws_get (g := g) ha) (e_clc hci) j hj (C.2.2.2.2.1 _ hw1) (fun x hx => by rw [hdecl] at hx; exact hx) hfin (C.2.2.2.2.2.2.2.1.trans hinit) (hdecl.trans hown.symm) (e_clt hci hj) (hn0 g) (hf0 g) hjl2 hd go
theorem e_s_put {k pc len : Nat} {v : Value} {ns : List Nat} {ps : List (Nat × Nat)} {loc : List (Option Value)} {st : List Value} {h : e_H} {bc bs : Nat} {K : Nat → List (Option Value) → List Value → e_H → Nat → Nat → Prop} {Q : e_O → e_H → Prop} {ix ci j f tc : Nat} (hd : decode (e_mb k) pc = .ok (.putfield ix, 3)) (hns : ns = [ci, j, f, tc]) (htc : tc = e_kd (e_ty ci j)) (hci : ci < e_cls.length) (hj : j < e_cK ci) (hdecl : (e_cT ci j).1 = e_cN ci) (hw1 : Cond.fieldLink (e_nm k).cls ix (e_cN ci) (e_cT ci j).2.1 (e_cT ci j).2.2.1 ∈ e_tb) (hfin : (e_cT ci j).2.2.2 = false ∨ ((e_cT ci j).2.2.2 = true ∧ (e_nm k).cls = e_cN ci ∧ (e_nm k).name = "<init>")) (hK : ∀ pc loc st h bc bs, K pc loc st h bc bs → e_Wp k pc loc st h bc bs Q)
    (H : e_stp loc st h bc bs K Q (e_rt k) (pc, .putfield ix, len, v, ns, ps)) : e_Wp k pc loc st h bc bs Q := by
  subst hns
  replace H : e_put st h [ci, j, f, tc] (fun r h' => K (pc + 3) loc r h' bc bs) := H
  simp only [e_put] at H
  split at H
  · rename_i x a r
    split at H
    · rename_i cj tm ha
      have h9 := e_bif H
      clear H
      obtain ⟨hb0, H⟩ := h9
      obtain rfl : cj = ci := Nat.eq_of_beq_eq_true hb0
      split at H
      · rename_i z hz
        have hjl := (List.getElem?_eq_some_iff.mp hz).1
        have hws : ∀ g : e_G, e_ws g (e_setI h a j x) = (e_ws g h).set a (g.1 a, .inr (cj, (tm.mapIdx (e_slot g h a)).set j (.int x))) := fun g =>
          e_ws_put (h' := e_setI h a j x) ha (e_lay_set ha) (e_map_set rfl hjl (fun v hv => by rw [hz] at hv; cases hv; show Value.int (e_up (e_hI h) a j x a j) = _; rw [e_up_same]; exact congrArg Value.int (if_pos rfl)) (fun i v hi hv => ⟨hv, by
            cases v <;> first | rfl | (show Value.int (e_up (e_hI h) a j x a i) = Value.int _; rw [e_up_same]; exact congrArg Value.int (if_neg hi))⟩)) (fun d hd => ⟨e_up_ne hd, rfl, rfl⟩)
        cases hb1 : Nat.beq tc 0 with
        | true =>
          rw [hb1] at H
          have h0 : e_ty cj j = .int := by
            rw [Nat.eq_of_beq_eq_true hb1] at htc
            cases hq : e_ty cj j <;> rw [hq] at htc <;> first | rfl | (simp [e_kd] at htc)
          exact e_putrow hd hci hj hdecl hw1 hfin ha (fun g => by rw [h0]; rfl) (fun g => by rw [h0]; rfl) hjl hws (fun g => e_to.same rfl rfl rfl) (hK _ _ _ _ _ _ H)
        | false =>
          rw [hb1] at H
          have h9 := e_bif H
          clear H
          obtain ⟨hb2, hnar, H⟩ : Nat.beq tc 1 = true ∧ _ := h9
          have h0 : e_ty cj j = .boolean := by
            rw [Nat.eq_of_beq_eq_true hb2] at htc
            cases hq : e_ty cj j <;> rw [hq] at htc <;> first | rfl | (simp [e_kd] at htc)
          exact e_putrow hd hci hj hdecl hw1 hfin ha (fun g => by rw [h0]; rcases hnar with rfl | rfl <;> rfl) (fun g => by rw [h0]; rcases hnar with rfl | rfl <;> rfl) hjl hws (fun g => e_to.same rfl rfl rfl) (hK _ _ _ _ _ _ H)
      · exact False.elim H
    · exact False.elim H
  · rename_i x a r
    split at H
    · rename_i cj tm ha
      have h9 := e_bif H
      clear H
      obtain ⟨hb0, H⟩ := h9
      simp only [Bool.and_eq_true] at hb0
      obtain rfl : cj = ci := Nat.eq_of_beq_eq_true hb0.1
      have h0 : e_ty cj j = .long := by
        rw [Nat.eq_of_beq_eq_true hb0.2] at htc
        cases hq : e_ty cj j <;> rw [hq] at htc <;> first | rfl | (simp [e_kd] at htc)
      split at H
      · rename_i z hz
        have hjl := (List.getElem?_eq_some_iff.mp hz).1
        have hws : ∀ g : e_G, e_ws g (e_setL h a j x) = (e_ws g h).set a (g.1 a, .inr (cj, (tm.mapIdx (e_slot g h a)).set j (.long x))) := fun g =>
          e_ws_put (h' := e_setL h a j x) ha (e_lay_set ha) (e_map_set rfl hjl (fun v hv => by rw [hz] at hv; cases hv; show Value.long (e_up (e_hL h) a j x a j) = _; rw [e_up_same]; exact congrArg Value.long (if_pos rfl)) (fun i v hi hv => ⟨hv, by
            cases v <;> first | rfl | (show Value.long (e_up (e_hL h) a j x a i) = Value.long _; rw [e_up_same]; exact congrArg Value.long (if_neg hi))⟩)) (fun d hd => ⟨rfl, e_up_ne hd, rfl⟩)
        exact e_putrow hd hci hj hdecl hw1 hfin ha (fun g => by rw [h0]; rfl) (fun g => by rw [h0]; rfl) hjl hws (fun g => e_to.same rfl rfl rfl) (hK _ _ _ _ _ _ H)
      · exact False.elim H
    · exact False.elim H
  · rename_i v a r
    split at H
    · rename_i cj tm ha
      have h9 := e_bif H
      clear H
      obtain ⟨hb0, H⟩ := h9
      simp only [Bool.and_eq_true] at hb0
      obtain rfl : cj = ci := Nat.eq_of_beq_eq_true hb0.1
      have htc3 : e_kd (e_ty cj j) = 3 := by rw [← htc, Nat.eq_of_beq_eq_true hb0.2]
      split at H
      · rename_i hz
        have hjl := (List.getElem?_eq_some_iff.mp hz).1
        have hws : ∀ g : e_G, e_ws g (e_setC h a (.inl (cj, tm.set j (.ref v)))) = (e_ws g h).set a (g.1 a, .inr (cj, (tm.mapIdx (e_slot g h a)).set j (.ref (g.1 v)))) := fun g =>
          e_ws_put (h' := e_setC h a (.inl (cj, tm.set j (.ref v)))) ha rfl (e_map_set (by simp) hjl (fun w hw => by rw [List.getElem?_set, if_pos rfl, if_pos hjl] at hw; cases hw; rfl) (fun i w hi hw => ⟨by rw [List.getElem?_set, if_neg (Ne.symm hi)] at hw; exact hw, rfl⟩)) (fun d hd => ⟨rfl, rfl, rfl⟩)
        refine e_putrow hd hci hj hdecl hw1 hfin ha (fun g => ?_) (fun g => ?_) hjl hws (fun g => e_to.same rfl (by show ((e_lay h).set _ _).length = _; rw [List.length_set]) rfl) (hK _ _ _ _ _ _ H)
        · cases hq : e_ty cj j <;> rw [hq] at htc3 <;> first | rfl | (simp [e_kd] at htc3)
        · cases hq : e_ty cj j <;> rw [hq] at htc3 <;> first | rfl | (simp [e_kd] at htc3)
      · exact False.elim H
    · exact False.elim H
  · exact False.elim H
end
section
/-! calls -/
theorem e_cat_rel {g : e_G} (hx : ∀ k, e_refv (g.2.1 k)) (st : List Value) : ((st.map (e_rel g)).map fun v => v.category).sum = e_cat st := by
  unfold e_cat
  rw [List.map_map]
  congr 1
  exact List.map_congr_left (fun v _ => e_rel_cat (e_refc hx) v)
theorem e_rel_ag {g g' : e_G} {n : Nat} (hg : e_ag n g g') {v : Value} (hv : e_sv n v = true) : e_rel g' v = e_rel g v := by
  cases v with
  | ref k => exact congrArg Value.ref (hg.2 k (Nat.le_of_ble_eq_true hv))
  | retAddr k => show g'.2.1 k = g.2.1 k; rw [hg.1]
  | int x => rfl
  | long x => rfl
  | float x => rfl
  | double x => rfl
  | null => rfl
theorem e_scp_rel {g g' : e_G} {h h' : e_H} {loc : List (Option Value)} {st : List Value} (hs : e_scp h loc st = true) (ht : e_to g h g' h') : (∀ q ∈ e_as g' loc, q ∈ e_as g loc) ∧ st.map (e_rel g') = st.map (e_rel g) := by
  unfold e_scp at hs
  cases hf : e_fl h with
  | false =>
    have hgg := ht.2.2.2.1 hf
    subst hgg
    exact ⟨fun _ h => h, rfl⟩
  | true =>
    rw [hf] at hs
    simp only [Bool.not_true, Bool.false_or, Bool.and_eq_true] at hs
    refine ⟨?_, List.map_congr_left (fun v hv => e_rel_ag ht.2.2.1 (List.all_eq_true.mp hs.2 v hv))⟩
    rintro ⟨i, w⟩ hq
    obtain ⟨v, hv, rfl⟩ := e_as_mem.mp hq
    have h1 := List.all_eq_true.mp hs.1 (some v) (List.mem_of_getElem? hv)
    exact e_as_mem.mpr ⟨v, hv, e_rel_ag ht.2.2.1 h1⟩
theorem e_Cx.to {k : Nat} {p : Program} {l : Launch} {R : Room} {s : State} {m : MethodId} {args : Array Value} {meth : Method} {c : Code} {g g' : e_G} {A : Nat → Prop} {h h' : e_H} {mc ms : Nat} (C : e_Cx k p l R s m args meth c g A (e_scr h) mc ms) (ht : e_to g h g' h') : e_Cx k p l R s m args meth c g' A (e_scr h') mc ms := by
  obtain ⟨ad', r⟩ := g'
  obtain ⟨ad, r0⟩ := g
  have h1 : r = r0 := ht.2.2.1.1
  subst h1
  rw [ht.1]
  exact C
theorem e_freeA {g : e_G} {h : e_H} {A : Nat → Prop} {H0 H : Heap} {locs : List Loc} (hw : e_wd g h A H) (hS : va_S A H0 H locs) (hA : ∀ q, H0.size ≤ q → A q) : ∀ q, va_A (e_ws g h) H.size q → A q := by
  intro q hq
  rcases hq with ⟨k, e, hk⟩ | hq
  · exact hw.2.2 k (q, e) hk
  · exact hA q (Nat.le_trans hS.1 hq)
theorem e_blind {g : e_G} {sz : Nat} {avs : List Value} {h : e_H} : FrameBlind (e_Pc g sz avs h) := by
  intro a U g0 mk q
  obtain ⟨q0, q1, q2, q3, q4⟩ := q
  exact ⟨q0, q1, q2, va_K.moved (u := U) (U := U.calling g0 mk a) (Vm.Alike.refl U.vm) q3, e_F.moved (u := U) (U := U.calling g0 mk a) (State.WarmedH.refl U) q4⟩
theorem e_pre {k : Nat} {p : Program} {l : Launch} {R : Room} {s : State} {m : MethodId} {args : Array Value} {meth : Method} {c : Code} {g : e_G} {A : Nat → Prop} {h : e_H} {mc ms : Nat} {H : Heap} {locs : List Loc} {avs : List Value} (C : e_Cx k p l R s m args meth c g A (e_scr h) mc ms) (hw : e_wd g h A H) (hS : va_S A s.heap H locs) :
    ∀ U : State, U.heap = H → s.WarmedH U.vm → e_Pc g H.size avs h (avs.map (e_rel g)).toArray U := by
  intro U hU hW
  refine ⟨rfl, by rw [hU], by rw [hU]; exact ⟨hw.1, hw.2.weaken (fun _ _ _ _ => trivial)⟩, va_K.moved hW.alike C.2.2.2.2.2.2.2.2.2.2.2.2.2.2.2.1, ?_⟩
  rw [hU]
  exact ((C.2.2.2.2.2.2.2.2.2.2.2.2.2.2.2.2.kept hS.1 hS.2.1).narrow (e_freeA hw hS C.2.2.2.2.2.2.2.2.2.2.2.2.2.2.1)).moved hW
theorem e_wsk_good {z : Nat} (hz : z < 308) : GoodIn e_tb (e_wsk z) := by
  intro w hw
  unfold e_wsk at hw
  rcases List.mem_cons.mp hw with rfl | hw
  · exact e_tb_good _ (e_code_in hz)
  · exact e_tb_good _ hw
/-- behind a call: it has returned, or thrown -/
theorem e_callW {k : Nat} {p : Program} {l : Launch} {e : Env} {R : Room} {s : State} {m : MethodId} {args : Array Value} {below : List Frame} {meth : Method} {c : Code} {g : e_G} {A : Nat → Prop} {Hp : Heap} {locs : List Loc} {cells slots mc ms : Nat} {ls : Array Slot} {Qc : Array Value → State → Outcome → State → Prop} {XC : String → State → State → Prop}
    {pc c1 s1 bc bs : Nat} {loc : List (Option Value)} {st0 : List Value} {rest : List Value} {h : e_H} {Q Φ : e_O → e_H → Prop} {av : Array Value}
    (C : e_Cx k p l R s m args meth c g A (e_scr h) mc ms) (hw : e_wd g h A Hp) (hS : va_S A s.heap Hp locs) (hl : lv_has ls (e_ml k) (e_as g loc)) (hn : loc.length = e_ml k) (hcb : cells + bc ≤ mc) (hsb : slots + bs ≤ ms) (hk : e_Hk g h A args s Q Qc XC) (hc1 : c1 ≤ bc) (hs1 : s1 ≤ bs) (hsc : e_scp h loc rest = true)
    (hr : vx_Run p l e R s m args below meth c Hp locs cells slots c1 s1 (F0 m pc ls st0) (rest.map (e_rel g)) (e_Qc g Hp.size h Φ av) (e_Xc g Hp.size h Φ) (va_A (e_ws g h) Hp.size))
    (k1 : ∀ (v : Option Value) (h' : e_H), Φ (.inl v) h' → e_Wp k (pc + 3) loc (v.toList ++ rest) h' (bc - c1) (bs - s1) Q)
    (k2 : ∀ (E : String) (g' : e_G) (h' : e_H) (H1 : Heap) (locs1 : List Loc) (ce : Cell) (q : Addr), Φ (.inr E) h' → e_Cx k p l R s m args meth c g' A (e_scr h') mc ms → e_wd g' h' A H1 → va_S A s.heap H1 locs1 → lv_has ls (e_ml k) (e_as g' loc) → e_Hk g' h' A args s Q Qc XC → H1[q]? = some ce → ce.vm = .none → s.vm.findClass E = some ce.cls →
      vx_W p l e R s m args below meth c H1 locs1 (cells + c1) (slots + s1) (vx_MQ below Qc XC args s mc ms A) (F0 m pc ls (rest.map (e_rel g))) q) :
    W p l e R s m args below meth c Hp locs cells slots (vx_MQ below Qc XC args s mc ms A) (F0 m pc ls st0) := by
  intro T hT X
  have hfA := e_freeA hw hS C.2.2.2.2.2.2.2.2.2.2.2.2.2.2.1
  rcases hr T hT X with ⟨v, st₀, t, T', L, h0, X', hL, e1, e2, ⟨v', g', h', hv, hΦ, hto, hwd, hF⟩, stp⟩ | ⟨q, st₀, t, T', L, E, ce, h0, X', hL, e1, e2, ⟨g', h', hΦ, hto, hwd, hF⟩, hce, hcv, hcl, stp⟩
  · cases hv
    obtain ⟨-, -, k3⟩ := vx_keep h0 e1 hS (fun q _ hq => hfA q hq) hfA hL hF
    obtain ⟨r1, r2⟩ := e_scp_rel hsc hto
    have hwd' : e_wd g' h' A T'.heap := by rw [e1]; exact ⟨hwd.1, hwd.2.weaken (fun _ q _ hq => hfA q.1 hq)⟩
    obtain ⟨t2, a1, b1⟩ := k1 v' h' hΦ p l e R s m args below meth c g' A T'.heap (locs ++ L) (cells + c1) (slots + s1) mc ms ls Qc XC (C.to hto) hwd' k3 (e_lmono hl r1) hn (by omega) (by omega) (hk.step hto) T' rfl X'
    refine ⟨t2, stp t2 ?_, b1⟩
    have hst : (v'.toList ++ rest).map (e_rel g') = (v'.map (e_rel g')).toList ++ rest.map (e_rel g) := by
      rw [List.map_append, r2]
      cases v' <;> rfl
    rw [hst] at a1
    exact a1
  · obtain ⟨-, -, k3⟩ := vx_keep h0 e1 hS (fun q _ hq => hfA q hq) hfA hL hF
    obtain ⟨r1, r2⟩ := e_scp_rel hsc hto
    have hwd' : e_wd g' h' A T'.heap := by rw [e1]; exact ⟨hwd.1, hwd.2.weaken (fun _ q _ hq => hfA q.1 hq)⟩
    obtain ⟨t2, a1, b1⟩ := k2 E g' h' T'.heap (locs ++ L) ce q hΦ (C.to hto) hwd' k3 (e_lmono hl r1) (hk.step hto) (by rw [e1]; exact hce) hcv hcl T' rfl X'
    exact ⟨t2, stp.trans a1, b1⟩
theorem e_cast_in : ∀ E ∈ e_exc, Cond.castable E E ∈ e_tb := List.forall_mem_cons.mpr ⟨e_memw (i := 3) (j := 106) rfl rfl, List.forall_mem_cons.mpr ⟨e_memw (i := 3) (j := 127) rfl rfl, List.forall_mem_cons.mpr ⟨e_memw (i := 3) (j := 147) rfl rfl, List.forall_mem_cons.mpr ⟨e_memw (i := 3) (j := 224) rfl rfl, List.forall_mem_cons.mpr ⟨e_memw (i := 5) (j := 66) rfl rfl, List.forall_mem_cons.mpr ⟨e_memw (i := 5) (j := 231) rfl rfl, fun _ h => absurd h List.not_mem_nil⟩⟩⟩⟩⟩⟩
/-- an exception that no handler of the method takes -/
theorem e_leave {k : Nat} {p : Program} {l : Launch} {e : Env} {R : Room} {s : State} {m : MethodId} {args : Array Value} {below : List Frame} {meth : Method} {c : Code} {g : e_G} {A : Nat → Prop} {H1 : Heap} {locs1 : List Loc} {cells slots mc ms : Nat} {ls : Array Slot} {Qc : Array Value → State → Outcome → State → Prop} {XC : String → State → State → Prop} {pc : Nat} {rest : List Value} {h : e_H} {Q : e_O → e_H → Prop} {E : String} {ce : Cell} {q : Addr}
    (C : e_Cx k p l R s m args meth c g A (e_scr h) mc ms) (hhh : e_hh k = []) (hw : e_wd g h A H1) (hS : va_S A s.heap H1 locs1) (hc : cells ≤ mc) (hs : slots ≤ ms) (hk : e_Hk g h A args s Q Qc XC) (hQ : Q (.inr E) h) (hce : H1[q]? = some ce) (hcv : ce.vm = .none) (hcl : s.vm.findClass E = some ce.cls) :
    vx_W p l e R s m args below meth c H1 locs1 cells slots (vx_MQ below Qc XC args s mc ms A) (F0 m pc ls rest) q := by
  refine vx_out ?_ C.2.2.2.2.2.2.1 hce hcv hcl (fun t ht _ => hk.2 E g h t hQ e_to.rf (by rw [ht]; exact hw) (hS.F ht)) hS.2.2 hc hs
  rw [C.2.2.2.2.2.2.2.2.1, hhh]
  intro x hx
  cases hx
theorem e_setN_sub {g : e_G} (hx : ∀ k, (g.2.1 k).category = 1) {loc : List (Option Value)} {i : Nat} {w : Value} : ∀ q ∈ e_as g ((e_kill loc i).set i none), q ∈ (i, w) :: (e_as g loc).filter (fun q => !(q.1 == i) && !(q.1 + 1 == i && q.2.category == 2)) := by
  rintro ⟨j, u⟩ hq
  obtain ⟨v, hv, rfl⟩ := e_as_mem.mp hq
  rw [List.getElem?_set] at hv
  by_cases hij : i = j
  · subst hij
    rw [if_pos rfl] at hv
    split at hv <;> cases hv
  · rw [if_neg hij] at hv
    obtain ⟨h1, h2⟩ := e_kill_get hv
    refine List.mem_cons_of_mem _ (List.mem_filter.mpr ⟨e_as_mem.mpr ⟨v, h1, rfl⟩, ?_⟩)
    rw [e_rel_cat hx]
    simp only [Bool.and_eq_true, Bool.not_eq_true', beq_eq_false_iff_ne, Bool.and_eq_false_iff, ne_eq]
    refine ⟨Ne.symm hij, ?_⟩
    by_cases h3 : j + 1 = i
    · exact Or.inr (fun h => h2 ⟨h3, h⟩)
    · exact Or.inl h3
/-- the handlers of a method, one after the other -/
theorem e_hand {k : Nat} {p : Program} {l : Launch} {e : Env} {R : Room} {s : State} {m : MethodId} {args : Array Value} {below : List Frame} {meth : Method} {c : Code} {g : e_G} {A : Nat → Prop} {H1 : Heap} {locs1 : List Loc} {cells slots mc ms : Nat} {ls : Array Slot} {Qc : Array Value → State → Outcome → State → Prop} {XC : String → State → State → Prop} {pc bc bs : Nat} {loc : List (Option Value)} {rest : List Value} {h : e_H} {Q : e_O → e_H → Prop} {E : String} {ce : Cell} {q : Addr}
    (C : e_Cx k p l R s m args meth c g A (e_scr h) mc ms) (hw : e_wd g h A H1) (hS : va_S A s.heap H1 locs1) (hl : lv_has ls (e_ml k) (e_as g loc)) (hn : loc.length = e_ml k) (hc : cells + bc ≤ mc) (hs : slots + bs ≤ ms) (hk : e_Hk g h A args s Q Qc XC) (hE : E ∈ e_exc) (hce : H1[q]? = some ce) (hcv : ce.vm = .none) (hcl : s.vm.findClass E = some ce.cls) :
    ∀ (qs : List (Nat × Nat × Nat × Nat)) (hs : List Nat) (ps : List (Nat × Nat)) (pre : List (Nat × Nat × Nat × Nat)), e_hh k = pre ++ qs → e_ckh (e_nm k).cls (e_mb k) pc qs hs ps = true → (∀ w ∈ e_wdh (e_nm k).cls qs hs ps, w.2 ∈ e_tb) →
      (∀ z ∈ tableOf pre, covers z pc = false ∨ (z.catchType ≠ 0 ∧ ∃ nm : String, (Cond.classLink (e_nm k).cls z.catchType nm).before args s = true ∧ va_Nc E nm s)) →
      e_exn E (fun i np => bif Nat.ble (i + 1) loc.length then e_Wp k np ((e_kill loc i).set i none) [] h bc bs Q else False) (Q (.inr E) h) hs →
      vx_W p l e R s m args below meth c H1 locs1 cells slots (vx_MQ below Qc XC args s mc ms A) (F0 m pc ls rest) q
  | [], [], [], pre, hpre, _, _, hpass, hx => by
    refine vx_outP C.2.2.2.1 C.2.2.2.2.2.2.1 ?_ hce hcv hcl (fun t ht _ => hk.2 E g h t hx e_to.rf (by rw [ht]; exact hw) (hS.F ht)) hS.2.2 (by omega) (by omega)
    rw [C.2.2.2.2.2.2.2.2.1, hpre, List.append_nil]
    exact hpass
  | z :: qs, ei :: i :: np :: hs, pp :: ps, pre, hpre, hck, hwd, hpass, hx => by
    simp only [e_ckh, Bool.and_eq_true, Bool.not_eq_true'] at hck
    obtain ⟨⟨⟨⟨⟨⟨h1, h2⟩, h3⟩, h4⟩, h5⟩, h6⟩, h7⟩ := hck
    have h3' : z.2.2.2 ≠ 0 := fun hz => by rw [hz] at h3; cases h3
    have hlink : (Cond.classLink (e_nm k).cls z.2.2.2 (e_exc.getD ei "")).before args s = true := C.2.2.2.2.1 _ (hwd (pp, .classLink (e_nm k).cls z.2.2.2 (e_exc.getD ei "")) List.mem_cons_self)
    have hcov : covers ⟨z.1, z.2.1, z.2.2.1, z.2.2.2⟩ pc = true := by
      have := Nat.le_of_ble_eq_true h1
      have := Nat.le_of_ble_eq_true h2
      simp only [covers, Bool.and_eq_true, decide_eq_true_eq]
      omega
    by_cases hEe : E = e_exc.getD ei ""
    · obtain ⟨h4b, hgo⟩ := e_bif (hx.1 hEe)
      refine vx_catch C.2.2.2.1 (tableOf pre) ⟨z.1, z.2.1, z.2.2.1, z.2.2.2⟩ (tableOf qs) (by rw [C.2.2.2.2.2.2.2.2.1, hpre]; simp [tableOf]) hpass hcov h3' hlink (C.2.2.2.2.1 _ (by rw [← hEe]; exact e_cast_in E hE)) hce hcv hcl ?_
      have go : ∀ (ls' : Array Slot), lv_has ls' (e_ml k) ((i, .ref q) :: (e_as g loc).filter (fun q => !(q.1 == i) && !(q.1 + 1 == i && q.2.category == 2))) → W p l e R s m args below meth c H1 locs1 cells slots (vx_MQ below Qc XC args s mc ms A) (F0 m np ls' []) := fun ls' hl' =>
        hgo p l e R s m args below meth c g A H1 locs1 cells slots mc ms ls' Qc XC C hw hS (e_lmono hl' (e_setN_sub (e_refc C.2.2.2.2.2.2.2.2.2.2.2.2.2.2.2.2.1))) (by rw [List.length_set, e_kill_len]; exact hn) hc hs hk
      have hil : i < e_ml k := by
        have := Nat.le_of_ble_eq_true h4b
        omega
      simp only [Bool.or_eq_true, Bool.and_eq_true, decide_eq_true_eq] at h5
      rcases h5 with ⟨h5, h5'⟩ | ⟨⟨h5, h5'⟩, h5''⟩
      · have hnp := Nat.eq_of_beq_eq_true h5'
        refine lv_astore C.1 C.2.1 h5 hl hil rfl (fun ls' hl' => ?_)
        have := go ls' hl'
        rw [hnp] at this
        exact this
      · have hnp := Nat.eq_of_beq_eq_true h5''
        have hi4 := Nat.le_of_ble_eq_true h5
        refine lv_astore_n C.1 C.2.1 h5' (by simp [Fin.ofNat]; omega) hl hil rfl (fun ls' hl' => ?_)
        have := go ls' hl'
        rw [hnp] at this
        exact this
    · refine e_hand C hw hS hl hn hc hs hk hE hce hcv hcl qs hs ps (pre ++ [z]) (by rw [hpre]; simp) h7 (fun w hw0 => hwd w (List.mem_cons_of_mem _ hw0)) ?_ (hx.2 hEe)
      intro y hy
      simp only [tableOf, List.map_append, List.mem_append] at hy
      rcases hy with hy | hy
      · exact hpass y hy
      · simp at hy
        subst hy
        refine Or.inr ⟨h3', e_exc.getD ei "", hlink, ?_⟩
        have := List.all_eq_true.mp h6 E hE
        simp only [Bool.or_eq_true, beq_iff_eq, List.contains_iff_mem] at this
        rcases this with h8 | h8
        · exact absurd h8 hEe
        · exact C.2.2.2.2.2.2.2.2.2.2.2.2.2.2.2.2.2.2.2.2.2.2.2.2.2.1 _ h8
theorem e_take_rev {st : List Value} {n : Nat} {g : e_G} : st.map (e_rel g) = (((st.take n).reverse).map (e_rel g)).reverse ++ (st.drop n).map (e_rel g) := by
  rw [List.map_reverse, List.reverse_reverse, ← List.map_append, List.take_append_drop]
theorem e_okd {loc : List (Option Value)} {st : List Value} {h : e_H} {bc bs c s n : Nat} {rest : List Value} (H : e_ok loc st h bc bs c s n rest = true) : c ≤ bc ∧ s ≤ bs ∧ e_cat rest ≤ 8 ∧ n ≤ st.length ∧ e_scp h loc rest = true := by
  simp only [e_ok, Bool.and_eq_true] at H
  obtain ⟨⟨⟨⟨h1, h2⟩, h3⟩, h4⟩, h5⟩ := H
  exact ⟨Nat.le_of_ble_eq_true h1, Nat.le_of_ble_eq_true h2, Nat.le_of_ble_eq_true h3, Nat.le_of_ble_eq_true h4, h5⟩
theorem e_ckcd {k z n c s : Nat} (H : e_ckc k z n c s = true) : c = e_cc z ∧ s = e_cs z ∧ e_dd z + 1 ≤ e_dd k ∧ 8 + (e_ml z + 11) + e_ll z ≤ e_ll k ∧ n = e_npl.getD z 0 ∧ z < 308 := by
  simp only [e_ckc, Bool.and_eq_true] at H
  obtain ⟨⟨⟨⟨⟨h1, h2⟩, h3⟩, h4⟩, h5⟩, h6⟩ := H
  exact ⟨Nat.eq_of_beq_eq_true h1, Nat.eq_of_beq_eq_true h2, Nat.le_of_ble_eq_true h3, Nat.le_of_ble_eq_true h4, Nat.eq_of_beq_eq_true h5, Nat.le_of_ble_eq_true h6⟩
theorem e_fdg {z n : Nat} (hz : z < 308) (hn : n = e_npl.getD z 0) : (e_nm z).cls ≠ "java/lang/invoke/MethodHandle" ∧ (e_nm z).cls ≠ "java/lang/invoke/VarHandle" ∧ (parseMethodDescriptor (e_nm z).desc).map (fun d => d.parameters.length) = some n := by
  obtain ⟨h1, h2, h3⟩ := e_mok_at hz
  exact ⟨h2, h3, by rw [hn]; exact h1⟩
/-- where a call may end by an exception -/
theorem e_behind {k : Nat} {p : Program} {l : Launch} {e : Env} {R : Room} {s : State} {m : MethodId} {args : Array Value} {below : List Frame} {meth : Method} {c : Code} {A : Nat → Prop} {locs : List Loc} {cells slots mc ms : Nat} {ls : Array Slot} {Qc : Array Value → State → Outcome → State → Prop} {XC : String → State → State → Prop} {pc c1 s1 bc bs : Nat} {loc : List (Option Value)} {rest : List Value} {rest' : List Value} {h : e_H} {Q : e_O → e_H → Prop} {K : Nat → List (Option Value) → List Value → e_H → Nat → Nat → Prop} {hs : List Nat} {ph : List (Nat × Nat)}
    (hK : ∀ pc loc st h bc bs, K pc loc st h bc bs → e_Wp k pc loc st h bc bs Q) (hn : loc.length = e_ml k) (hcb : cells + bc ≤ mc) (hsb : slots + bs ≤ ms) (hc1 : c1 ≤ bc) (hs1 : s1 ≤ bs) (hck : e_ckh (e_nm k).cls (e_mb k) pc (e_hh k) hs ph = true) (hwd : ∀ w ∈ e_wdh (e_nm k).cls (e_hh k) hs ph, w.2 ∈ e_tb) :
    ∀ (E : String) (g' : e_G) (h' : e_H) (H1 : Heap) (locs1 : List Loc) (ce : Cell) (q : Addr), e_aft hs loc bc bs K Q pc c1 s1 rest (.inr E) h' → e_Cx k p l R s m args meth c g' A (e_scr h') mc ms → e_wd g' h' A H1 → va_S A s.heap H1 locs1 → lv_has ls (e_ml k) (e_as g' loc) → e_Hk g' h' A args s Q Qc XC → H1[q]? = some ce → ce.vm = .none → s.vm.findClass E = some ce.cls →
      vx_W p l e R s m args below meth c H1 locs1 (cells + c1) (slots + s1) (vx_MQ below Qc XC args s mc ms A) (F0 m pc ls rest') q := by
  intro E g' h' H1 locs1 ce q hΦ C hw hS hl hk hce hcv hcl
  cases hs with
  | nil =>
    have hhh : e_hh k = [] := by
      cases hq : e_hh k with
      | nil => rfl
      | cons a r => rw [hq] at hck; cases ph <;> simp [e_ckh] at hck
    exact e_leave C hhh hw hS (by omega) (by omega) hk hΦ hce hcv hcl
  | cons ei hs =>
    have hΦ' : E ∈ e_exc ∧ e_exn E (fun i np => bif Nat.ble (i + 1) loc.length then K np ((e_kill loc i).set i none) [] h' (bc - c1) (bs - s1) else False) (Q (.inr E) h') (ei :: hs) := hΦ
    refine e_hand (bc := bc - c1) (bs := bs - s1) C hw hS hl hn (by omega) (by omega) hk hΦ'.1 hce hcv hcl (e_hh k) (ei :: hs) ph [] rfl hck hwd (fun z hz => by cases hz) ?_
    have key : ∀ (l : List Nat) (X : Prop), e_exn E (fun i np => bif Nat.ble (i + 1) loc.length then K np ((e_kill loc i).set i none) [] h' (bc - c1) (bs - s1) else False) X l → e_exn E (fun i np => bif Nat.ble (i + 1) loc.length then e_Wp k np ((e_kill loc i).set i none) [] h' (bc - c1) (bs - s1) Q else False) X l := by
      intro l X
      induction l using e_exn.induct with
      | case1 ei i np r ih =>
        intro hx
        refine ⟨fun hE => ?_, fun hE => ih (hx.2 hE)⟩
        obtain ⟨h1, h2⟩ := e_bif (hx.1 hE)
        show bif Nat.ble (i + 1) loc.length then _ else False
        rw [h1]
        exact hK _ _ _ _ _ _ h2
      | case2 l hl =>
        intro hx
        unfold e_exn at hx ⊢
        split at hx
        · exact absurd rfl (hl _ _ _ _)
        · split
          · exact absurd rfl (hl _ _ _ _)
          · exact hx
    exact key _ _ hΦ'.2
theorem e_s_inv {k pc len : Nat} {v : Value} {ns : List Nat} {ps : List (Nat × Nat)} {loc : List (Option Value)} {st : List Value} {h : e_H} {bc bs : Nat} {K : Nat → List (Option Value) → List Value → e_H → Nat → Nat → Prop} {Q : e_O → e_H → Prop} {ix z n fl c1 s1 ci : Nat} {hs : List Nat} {ph : List (Nat × Nat)} (hd : decode (e_mb k) pc = .ok (.invokevirtual ix, 3)) (hns : ns = z :: n :: fl :: c1 :: s1 :: ci :: hs) (hck : e_ckc k z n c1 s1 = true) (hhz : e_hh z = []) (hw1 : Cond.methodLink (e_nm k).cls ix (e_nm z) ∈ e_tb) (hw2 : Cond.instanceMethod (e_nm z) ∈ e_tb) (hw3 : Cond.selects (e_nm z).cls (e_nm z) (e_nm z) ∈ e_tb) (hw4 : Cond.initialized (e_nm z).cls ∈ e_tb) (hcl : (ci = 99 ∧ (e_nm z).cls = "java/lang/String") ∨ ((e_nm z).cls = e_cN ci ∧ ci < e_cls.length)) (hckh : e_ckh (e_nm k).cls (e_mb k) pc (e_hh k) hs ph = true) (hwdh : ∀ w ∈ e_wdh (e_nm k).cls (e_hh k) hs ph, w.2 ∈ e_tb) (hK : ∀ pc loc st h bc bs, K pc loc st h bc bs → e_Wp k pc loc st h bc bs Q)
    (H : e_stp loc st h bc bs K Q (e_rt k) (pc, .invokevirtual ix, len, v, ns, ps)) : e_Wp k pc loc st h bc bs Q := by
  subst hns
  replace H : e_inv loc st h bc bs K Q pc (z :: n :: fl :: c1 :: s1 :: ci :: hs) := H
  obtain ⟨hc1, hs1, hdd, hll, hnp, hz⟩ := e_ckcd hck
  obtain ⟨f1, f2, f3⟩ := e_fdg hz hnp
  have hwz : e_wsk z = .code (e_nm z) (e_mb z) (e_ml z) (e_rt z) :: e_tb := by unfold e_wsk; rw [if_pos hhz]
  simp only [e_inv] at H
  have go : ∀ (a : Value) (rest : List Value), st.drop n = a :: rest → e_ok loc st h bc bs c1 s1 n rest = true → e_M z (a :: (st.take n).reverse) h (e_aft hs loc bc bs K Q pc c1 s1 rest) →
      (∀ (p : Program) (l : Launch) (R : Room) (s : State) (m : MethodId) (args : Array Value) (meth : Method) (c : Code) (g : e_G) (A : Nat → Prop) (Hp : Heap) (locs : List Loc) (mc ms : Nat), e_Cx k p l R s m args meth c g A (e_scr h) mc ms → e_wd g h A Hp → va_S A s.heap Hp locs → ∃ b, e_rel g a = .ref b ∧ ∃ cellB : Cell, Hp[b]? = some cellB ∧ cellB.vm.isStatics = false ∧ s.vm.findClass (e_nm z).cls = some cellB.cls) → e_Wp k pc loc st h bc bs Q := by
    intro a rest hdr hok hM hrecv
    obtain ⟨o1, o2, o3, o4, o5⟩ := e_okd hok
    intro p l e R s m args below meth c g A Hp locs cells slots mc ms ls Qc XC C hw hS hl hn hcb hsb hk
    obtain ⟨b, hb1, hb2⟩ := hrecv p l R s m args meth c g A Hp locs mc ms C hw hS
    have hts := C.2.2.2.2.1
    have hR1 : R.frames = e_dd k := C.2.2.2.2.2.2.2.2.2.1
    have hR2 : R.locals = e_ll k := C.2.2.2.2.2.2.2.2.2.2.1
    have hR3 : R.cells = mc := C.2.2.2.2.2.2.2.2.2.2.2.1
    have hR4 : R.slots = ms := C.2.2.2.2.2.2.2.2.2.2.2.2.1
    have hpre := e_pre (avs := a :: (st.take n).reverse) C hw hS
    rw [List.map_cons, hb1] at hpre
    have hrun := vx_runV (p := p) (l := l) (e := e) (R := R) (s := s) (m := m) (args := args) (below := below) (meth := meth) (c := c) (H := Hp) (locs := locs) (cells := cells) (slots := slots) (C := (e_nm z).cls) (b := b) (As := (st.take n).reverse.map (e_rel g)) (rest := rest.map (e_rel g)) (g := F0 m pc ls (st.map (e_rel g))) (n := n)
      ⟨C.1, C.2.1, C.2.2.1, C.2.2.2.1, hts⟩ (hM l C.2.2.2.2.2.2.2.2.2.2.2.2.2.1 g Hp.size)
      ⟨callB_of n hts (e_wsk_good hz) hwz rfl rfl (hts _ hw4) (hts _ hw1) ⟨f1, f2, f3⟩ ⟨by rw [hR1]; exact hdd, by rw [hR2]; exact hll⟩, hts _ hw2, hts _ hw3⟩
      ⟨e_blind, hb2, hpre⟩ rfl (by rw [List.length_map, List.length_reverse, List.length_take]; omega) hl.1
      (by show st.map (e_rel g) = _; rw [e_take_rev (n := n), hdr, List.map_cons, hb1]) (by show 2 * 0 + _ ≤ 8; rw [e_cat_rel C.2.2.2.2.2.2.2.2.2.2.2.2.2.2.2.2.1]; omega) hd ⟨by rw [hR3, ← hc1]; omega, by rw [hR4, ← hs1]; omega⟩
    rw [← hc1, ← hs1] at hrun
    refine e_callW C hw hS hl hn hcb hsb hk o1 o2 o5 hrun (fun v h' hΦ => ?_) (e_behind hK hn hcb hsb o1 o2 hckh hwdh)
    cases v with
    | none => exact hK _ _ _ _ _ _ hΦ
    | some v => exact hK _ _ _ _ _ _ hΦ
  split at H
  · rename_i a rest hdr
    split at H
    · rename_i cj tm ha
      have h9 := e_bif H
      clear H
      obtain ⟨hb0, H⟩ := h9
      simp only [Bool.and_eq_true] at hb0
      obtain rfl : cj = ci := Nat.eq_of_beq_eq_true hb0.1
      refine go _ _ hdr hb0.2 H (fun p l R s m args meth c g A Hp locs mc ms C hw hS => ⟨_, rfl, ?_⟩)
      rcases hcl with ⟨h99, -⟩ | ⟨hcl, hci⟩
      · exfalso
        subst h99
        have hat : va_at g.2.2.2 e_cls (g.1 a, e_cell g h a (.inl (99, tm))) Hp := hw.1 a _ (e_ws_get (g := g) ha)
        obtain ⟨r, hr, -⟩ := hat
        exact absurd hr (by simp [e_cls])
      · rw [hcl]
        exact va_recv C.2.2.2.2.2.2.2.2.2.2.2.2.2.2.2.1 hw.1 (e_clc hci) (e_ws_get (g := g) ha)
    · exact False.elim H
  · rename_i a rest hdr
    have h9 := e_bif H
    clear H
    obtain ⟨hb0, H⟩ := h9
    simp only [Bool.and_eq_true] at hb0
    have h99 := Nat.eq_of_beq_eq_true hb0.1.1
    have ha : a < 3 := Nat.le_of_ble_eq_true hb0.1.2
    refine go _ _ hdr hb0.2 H (fun p l R s m args meth c g A Hp locs mc ms C hw hS => ?_)
    obtain ⟨-, -, -, h3, ⟨adV, h4, h5⟩, -⟩ := C.2.2.2.2.2.2.2.2.2.2.2.2.2.2.2.2
    rcases hcl with ⟨-, hcl⟩ | ⟨-, hci⟩
    · rw [hcl]
      exact ⟨_, (h5 a ha).1, vk_recv h4 ha hS⟩
    · rw [h99] at hci
      exact absurd hci (by simp [e_cls])
  · exact False.elim H
end
