/-! the code words of all methods but the law stand among the words -/
theorem e_getD {α : Type} {l : List α} {z : Nat} {d : α} (h : z < l.length) : l.getD z d = l[z] := by
  rw [List.getD_eq_getElem?_getD, List.getElem?_eq_getElem h]
  rfl
theorem e_getL {α : Type} {l : List α} {z : Nat} {d : α} (h : z < l.length) : l[z]? = some (l.getD z d) := by rw [e_getD h, List.getElem?_eq_getElem h]
theorem e_memw {i j : Nat} {w : Cond} (h : (e_ch i)[j]? = some w) (hg : goodWord w = true) : w ∈ e_tb := List.mem_filter.mpr ⟨e_ch_in _ _ (List.mem_of_getElem? h), hg⟩
theorem e_cw0 : Cond.code ⟨"HexCampaign$Land", "<init>", "()V"⟩ prog_5_method_1_code 1 none ∈ e_tb := e_memw (i := 1) (j := 55) rfl rfl
theorem e_cw1 : Cond.code ⟨"HexCampaign$Units", "<init>", "()V"⟩ prog_11_method_1_code 1 none ∈ e_tb := e_memw (i := 1) (j := 72) rfl rfl
theorem e_cw2 : Cond.code ⟨"HexCampaign$Game", "<init>", "()V"⟩ prog_2_method_1_code 1 none ∈ e_tb := e_memw (i := 1) (j := 49) rfl rfl
theorem e_cw3 : Cond.code ⟨"HexCampaign$Waves", "<init>", "()V"⟩ prog_12_method_1_code 1 none ∈ e_tb := e_memw (i := 1) (j := 159) rfl rfl
theorem e_cw4 : Cond.code ⟨"HexCampaign$Play", "<init>", "()V"⟩ prog_8_method_1_code 1 none ∈ e_tb := e_memw (i := 1) (j := 43) rfl rfl
theorem e_cw5 : Cond.code ⟨"HexCampaign$History", "<init>", "()V"⟩ prog_4_method_1_code 2 none ∈ e_tb := e_memw (i := 1) (j := 209) rfl rfl
theorem e_cw6 : Cond.code ⟨"HexCampaign$Report", "<init>", "()V"⟩ prog_9_method_1_code 1 none ∈ e_tb := e_memw (i := 1) (j := 228) rfl rfl
theorem e_cw7 : Cond.code ⟨"HexCampaign$MapInput", "<init>", "()V"⟩ prog_7_method_1_code 1 none ∈ e_tb := e_memw (i := 2) (j := 4) rfl rfl
theorem e_cw8 : Cond.code ⟨"HexCampaign$Land", "clear", "()V"⟩ prog_5_method_2_code 2 none ∈ e_tb := e_memw (i := 2) (j := 21) rfl rfl
theorem e_cw9 : Cond.code ⟨"HexCampaign$Units", "beginTurn", "()V"⟩ prog_11_method_4_code 1 none ∈ e_tb := e_memw (i := 2) (j := 30) rfl rfl
theorem e_cw10 : Cond.code ⟨"HexCampaign$Row", "clear", "([I)V"⟩ prog_10_method_5_code 2 none ∈ e_tb := e_memw (i := 2) (j := 33) rfl rfl
theorem e_cw11 : Cond.code ⟨"HexCampaign$Units", "clear", "()V"⟩ prog_11_method_2_code 1 none ∈ e_tb := e_memw (i := 2) (j := 26) rfl rfl
theorem e_cw12 : Cond.code ⟨"HexCampaign$Game", "begin", "(I)V"⟩ prog_2_method_2_code 2 none ∈ e_tb := e_memw (i := 2) (j := 17) rfl rfl
theorem e_cw13 : Cond.code ⟨"HexCampaign", "<init>", "()V"⟩ prog_1_method_1_code 1 none ∈ e_tb := e_memw (i := 1) (j := 35) rfl rfl
theorem e_cw14 : Cond.code ⟨"java/lang/Integer", "bitCount", "(I)I"⟩ prog_24_method_49_code 1 (some .int) ∈ e_tb := e_memw (i := 2) (j := 66) rfl rfl
theorem e_cw15 : Cond.code ⟨"HexCampaign$Units", "howMany", "()I"⟩ prog_11_method_10_code 1 (some .int) ∈ e_tb := e_memw (i := 2) (j := 63) rfl rfl
theorem e_cw16 : Cond.code ⟨"HexCampaign$History", "forget", "()V"⟩ prog_4_method_3_code 1 none ∈ e_tb := e_memw (i := 2) (j := 73) rfl rfl
theorem e_cw17 : Cond.code ⟨"HexCampaign", "start", "(I)I"⟩ prog_1_method_2_code 3 (some .int) ∈ e_tb := e_memw (i := 2) (j := 59) rfl rfl
theorem e_cw18 : Cond.code ⟨"HexCampaign$History", "keptAt", "(I)LHexCampaign$Game;"⟩ prog_4_method_6_code 2 (some (.object "HexCampaign$Game")) ∈ e_tb := e_memw (i := 2) (j := 85) rfl rfl
theorem e_cw19 : Cond.code ⟨"HexCampaign$Row", "copySets", "([J[J)V"⟩ prog_10_method_8_code 3 none ∈ e_tb := e_memw (i := 2) (j := 96) rfl rfl
theorem e_cw20 : Cond.code ⟨"HexCampaign$Land", "copyFrom", "(LHexCampaign$Land;)V"⟩ prog_5_method_3_code 2 none ∈ e_tb := e_memw (i := 2) (j := 93) rfl rfl
theorem e_cw21 : Cond.code ⟨"HexCampaign$Row", "copy", "([I[I)V"⟩ prog_10_method_6_code 3 none ∈ e_tb := e_memw (i := 2) (j := 103) rfl rfl
theorem e_cw22 : Cond.code ⟨"HexCampaign$Units", "copyFrom", "(LHexCampaign$Units;)V"⟩ prog_11_method_3_code 2 none ∈ e_tb := e_memw (i := 2) (j := 100) rfl rfl
theorem e_cw23 : Cond.code ⟨"HexCampaign$Game", "copyFrom", "(LHexCampaign$Game;)V"⟩ prog_2_method_3_code 2 none ∈ e_tb := e_memw (i := 2) (j := 89) rfl rfl
theorem e_cw24 : Cond.code ⟨"java/lang/Math", "min", "(II)I"⟩ prog_25_method_69_code 2 (some .int) ∈ e_tb := e_memw (i := 2) (j := 106) rfl rfl
theorem e_cw25 : Cond.code ⟨"HexCampaign$History", "keep", "(LHexCampaign$Game;)V"⟩ prog_4_method_4_code 3 none ∈ e_tb := e_memw (i := 2) (j := 81) rfl rfl
theorem e_cw26 : Cond.code ⟨"HexCampaign$Units", "ownedBy", "(I)I"⟩ prog_11_method_12_code 2 (some .int) ∈ e_tb := e_memw (i := 2) (j := 114) rfl rfl
theorem e_cw27 : Cond.code ⟨"HexCampaign$Units", "has", "(II)Z"⟩ prog_11_method_6_code 2 (some .boolean) ∈ e_tb := e_memw (i := 2) (j := 131) rfl rfl
theorem e_cw28 : Cond.code ⟨"HexCampaign$Hexes", "only", "(I)J"⟩ prog_3_method_2_code 1 (some .long) ∈ e_tb := e_memw (i := 2) (j := 134) rfl rfl
theorem e_cw29 : Cond.code ⟨"HexCampaign$Units", "placesOf", "(I)J"⟩ prog_11_method_25_code 5 (some .long) ∈ e_tb := e_memw (i := 2) (j := 128) rfl rfl
theorem e_cw30 : Cond.code ⟨"HexCampaign$Row", "readSet", "([JI)J"⟩ prog_10_method_7_code 2 (some .long) ∈ e_tb := e_memw (i := 2) (j := 141) rfl rfl
theorem e_cw31 : Cond.code ⟨"HexCampaign$Land", "waters", "()J"⟩ prog_5_method_9_code 1 (some .long) ∈ e_tb := e_memw (i := 2) (j := 138) rfl rfl
theorem e_cw32 : Cond.code ⟨"HexCampaign$Hexes", "around", "(J)J"⟩ prog_3_method_5_code 8 (some .long) ∈ e_tb := e_memw (i := 2) (j := 148) rfl rfl
theorem e_cw33 : Cond.code ⟨"HexCampaign$Land", "zoneAround", "(J)J"⟩ prog_5_method_15_code 3 (some .long) ∈ e_tb := e_memw (i := 2) (j := 145) rfl rfl
theorem e_cw34 : Cond.code ⟨"HexCampaign$Game", "closedFor", "(I)J"⟩ prog_2_method_12_code 6 (some .long) ∈ e_tb := e_memw (i := 2) (j := 123) rfl rfl
theorem e_cw35 : Cond.code ⟨"HexCampaign$Land", "roads", "()J"⟩ prog_5_method_7_code 1 (some .long) ∈ e_tb := e_memw (i := 2) (j := 166) rfl rfl
theorem e_cw36 : Cond.code ⟨"HexCampaign$Row", "read", "([II)I"⟩ prog_10_method_2_code 2 (some .int) ∈ e_tb := e_memw (i := 2) (j := 178) rfl rfl
theorem e_cw37 : Cond.code ⟨"HexCampaign$Land", "priceOf", "(II)I"⟩ prog_5_method_13_code 2 (some .int) ∈ e_tb := e_memw (i := 2) (j := 173) rfl rfl
theorem e_cw38 : Cond.code ⟨"HexCampaign$Land", "enteredFor", "(II)J"⟩ prog_5_method_12_code 6 (some .long) ∈ e_tb := e_memw (i := 2) (j := 170) rfl rfl
theorem e_cw39 : Cond.code ⟨"HexCampaign$Waves", "layOut", "(LHexCampaign$Land;I)V"⟩ prog_12_method_2_code 4 none ∈ e_tb := e_memw (i := 2) (j := 162) rfl rfl
theorem e_cw40 : Cond.code ⟨"HexCampaign$Land", "sourcesOf", "(I)J"⟩ prog_5_method_8_code 2 (some .long) ∈ e_tb := e_memw (i := 2) (j := 182) rfl rfl
theorem e_cw41 : Cond.code ⟨"HexCampaign$Waves", "stepsFrom", "(JIJ)J"⟩ prog_12_method_5_code 8 (some .long) ∈ e_tb := e_memw (i := 2) (j := 197) rfl rfl
theorem e_cw42 : Cond.code ⟨"HexCampaign$Waves", "arrivals", "(I)J"⟩ prog_12_method_4_code 9 (some .long) ∈ e_tb := e_memw (i := 2) (j := 190) rfl rfl
theorem e_cw43 : Cond.code ⟨"HexCampaign$Waves", "flood", "(JJJJ)V"⟩ prog_12_method_3_code 15 none ∈ e_tb := e_memw (i := 2) (j := 186) rfl rfl
theorem e_cw44 : Cond.code ⟨"HexCampaign$Waves", "within", "(I)J"⟩ prog_12_method_7_code 5 (some .long) ∈ e_tb := e_memw (i := 2) (j := 202) rfl rfl
theorem e_cw45 : Cond.code ⟨"HexCampaign$Play", "suppliedCells", "(I)J"⟩ prog_8_method_2_code 4 (some .long) ∈ e_tb := e_memw (i := 2) (j := 119) rfl rfl
theorem e_cw46 : Cond.code ⟨"HexCampaign$Hexes", "has", "(JI)Z"⟩ prog_3_method_3_code 3 (some .boolean) ∈ e_tb := e_memw (i := 2) (j := 209) rfl rfl
theorem e_cw47 : Cond.code ⟨"HexCampaign$Units", "only", "(I)I"⟩ prog_11_method_5_code 1 (some .int) ∈ e_tb := e_memw (i := 2) (j := 212) rfl rfl
theorem e_cw48 : Cond.code ⟨"HexCampaign$Units", "standingIn", "(J)I"⟩ prog_11_method_24_code 5 (some .int) ∈ e_tb := e_memw (i := 2) (j := 206) rfl rfl
theorem e_cw49 : Cond.code ⟨"HexCampaign$Units", "sideOf", "(I)I"⟩ prog_11_method_13_code 2 (some .int) ∈ e_tb := e_memw (i := 2) (j := 221) rfl rfl
theorem e_cw50 : Cond.code ⟨"HexCampaign$Units", "strengthOf", "(I)I"⟩ prog_11_method_15_code 2 (some .int) ∈ e_tb := e_memw (i := 2) (j := 229) rfl rfl
theorem e_cw51 : Cond.code ⟨"HexCampaign$Row", "write", "([III)V"⟩ prog_10_method_3_code 3 none ∈ e_tb := e_memw (i := 2) (j := 233) rfl rfl
theorem e_cw52 : Cond.code ⟨"HexCampaign$Row", "increase", "([III)V"⟩ prog_10_method_4_code 3 none ∈ e_tb := e_memw (i := 2) (j := 236) rfl rfl
theorem e_cw53 : Cond.code ⟨"HexCampaign$Units", "weaken", "(II)I"⟩ prog_11_method_38_code 4 (some .int) ∈ e_tb := e_memw (i := 2) (j := 225) rfl rfl
theorem e_cw54 : Cond.code ⟨"HexCampaign$Units", "loseUnsupplied", "(II)V"⟩ prog_11_method_37_code 3 none ∈ e_tb := e_memw (i := 2) (j := 217) rfl rfl
theorem e_cw55 : Cond.code ⟨"HexCampaign$Game", "changeWeather", "()V"⟩ prog_2_method_14_code 2 none ∈ e_tb := e_memw (i := 3) (j := 5) rfl rfl
theorem e_cw56 : Cond.code ⟨"HexCampaign$Game", "passTurn", "()V"⟩ prog_2_method_13_code 1 none ∈ e_tb := e_memw (i := 3) (j := 0) rfl rfl
theorem e_cw57 : Cond.code ⟨"HexCampaign$Play", "finishTurn", "()I"⟩ prog_8_method_24_code 5 (some .int) ∈ e_tb := e_memw (i := 2) (j := 110) rfl rfl
theorem e_cw58 : Cond.code ⟨"HexCampaign", "endTurn", "()I"⟩ prog_1_method_22_code 1 (some .int) ∈ e_tb := e_memw (i := 2) (j := 77) rfl rfl
theorem e_cw59 : Cond.code ⟨"HexCampaign", "save", "()I"⟩ prog_1_method_30_code 1 (some .int) ∈ e_tb := e_memw (i := 3) (j := 10) rfl rfl
theorem e_cw60 : Cond.code ⟨"HexCampaign", "checkCell", "(I)V"⟩ prog_1_method_33_code 1 none ∈ e_tb := e_memw (i := 3) (j := 103) rfl rfl
theorem e_cw61 : Cond.code ⟨"HexCampaign$Units", "on", "(I)I"⟩ prog_11_method_23_code 2 (some .int) ∈ e_tb := e_memw (i := 3) (j := 143) rfl rfl
theorem e_cw62 : Cond.code ⟨"HexCampaign$Land", "terrainAt", "(I)I"⟩ prog_5_method_4_code 3 (some .int) ∈ e_tb := e_memw (i := 3) (j := 163) rfl rfl
theorem e_cw63 : Cond.code ⟨"HexCampaign$Land", "shape", "(IIZ)V"⟩ prog_5_method_5_code 7 none ∈ e_tb := e_memw (i := 3) (j := 168) rfl rfl
theorem e_cw64 : Cond.code ⟨"HexCampaign", "setTerrain", "(IIZ)I"⟩ prog_1_method_3_code 5 (some .int) ∈ e_tb := e_memw (i := 3) (j := 100) rfl rfl
theorem e_cw65 : Cond.codeWith ⟨"HexCampaignLaw", "setTerrain", "(LHexCampaign;IIZ[J)I"⟩ method_3_code 6 (some .int) [(0, 12, 15, 13), (0, 12, 19, 15), (0, 12, 23, 17)] ∈ e_tb := e_memw (i := 3) (j := 14) rfl rfl
theorem e_cw66 : Cond.code ⟨"HexCampaign", "checkSide", "(I)V"⟩ prog_1_method_34_code 1 none ∈ e_tb := e_memw (i := 3) (j := 179) rfl rfl
theorem e_cw67 : Cond.code ⟨"HexCampaign$Land", "markSource", "(IIZ)V"⟩ prog_5_method_6_code 6 none ∈ e_tb := e_memw (i := 3) (j := 185) rfl rfl
theorem e_cw68 : Cond.code ⟨"HexCampaign", "setSource", "(IIZ)Z"⟩ prog_1_method_4_code 5 (some .boolean) ∈ e_tb := e_memw (i := 3) (j := 176) rfl rfl
theorem e_cw69 : Cond.codeWith ⟨"HexCampaignLaw", "setSource", "(LHexCampaign;IIZ[J)I"⟩ method_4_code 6 (some .int) [(0, 19, 22, 13)] ∈ e_tb := e_memw (i := 3) (j := 172) rfl rfl
theorem e_cw70 : Cond.code ⟨"HexCampaign", "set", "(ZI)I"⟩ prog_1_method_5_code 5 (some .int) ∈ e_tb := e_memw (i := 3) (j := 192) rfl rfl
theorem e_cw71 : Cond.codeWith ⟨"HexCampaignLaw", "set", "(LHexCampaign;ZI[J)I"⟩ method_5_code 5 (some .int) [(0, 10, 13, 15)] ∈ e_tb := e_memw (i := 3) (j := 188) rfl rfl
theorem e_cw72 : Cond.code ⟨"HexCampaign", "oneIf", "(Z)I"⟩ prog_1_method_32_code 1 (some .int) ∈ e_tb := e_memw (i := 3) (j := 203) rfl rfl
theorem e_cw73 : Cond.code ⟨"HexCampaign$Units", "strengthsOf", "(I)I"⟩ prog_11_method_26_code 4 (some .int) ∈ e_tb := e_memw (i := 3) (j := 207) rfl rfl
theorem e_cw74 : Cond.code ⟨"HexCampaign", "cell", "(II)I"⟩ prog_1_method_6_code 3 (some .int) ∈ e_tb := e_memw (i := 3) (j := 199) rfl rfl
theorem e_cw75 : Cond.codeWith ⟨"HexCampaignLaw", "cell", "(LHexCampaign;II[J)I"⟩ method_6_code 5 (some .int) [(0, 10, 13, 13), (0, 10, 17, 15)] ∈ e_tb := e_memw (i := 3) (j := 195) rfl rfl
theorem e_cw76 : Cond.code ⟨"HexCampaign$Hexes", "at", "(II)I"⟩ prog_3_method_7_code 3 (some .int) ∈ e_tb := e_memw (i := 3) (j := 221) rfl rfl
theorem e_cw77 : Cond.code ⟨"HexCampaign$Hexes", "beside", "(II)I"⟩ prog_3_method_6_code 5 (some .int) ∈ e_tb := e_memw (i := 3) (j := 218) rfl rfl
theorem e_cw78 : Cond.code ⟨"HexCampaign", "neighbor", "(II)I"⟩ prog_1_method_7_code 4 (some .int) ∈ e_tb := e_memw (i := 3) (j := 215) rfl rfl
theorem e_cw79 : Cond.codeWith ⟨"HexCampaignLaw", "neighbor", "(LHexCampaign;II[J)I"⟩ method_7_code 5 (some .int) [(0, 10, 13, 13), (0, 10, 17, 34)] ∈ e_tb := e_memw (i := 3) (j := 210) rfl rfl
theorem e_cw80 : Cond.code ⟨"HexCampaign$Hexes", "slant", "(I)I"⟩ prog_3_method_9_code 1 (some .int) ∈ e_tb := e_memw (i := 4) (j := 9) rfl rfl
theorem e_cw81 : Cond.code ⟨"java/lang/Math", "abs", "(I)I"⟩ prog_25_method_59_code 1 (some .int) ∈ e_tb := e_memw (i := 4) (j := 12) rfl rfl
theorem e_cw82 : Cond.code ⟨"java/lang/Math", "max", "(II)I"⟩ prog_25_method_65_code 2 (some .int) ∈ e_tb := e_memw (i := 4) (j := 15) rfl rfl
theorem e_cw83 : Cond.code ⟨"HexCampaign$Hexes", "apart", "(II)I"⟩ prog_3_method_8_code 4 (some .int) ∈ e_tb := e_memw (i := 4) (j := 6) rfl rfl
theorem e_cw84 : Cond.code ⟨"HexCampaign", "distance", "(II)I"⟩ prog_1_method_8_code 3 (some .int) ∈ e_tb := e_memw (i := 4) (j := 3) rfl rfl
theorem e_cw85 : Cond.codeWith ⟨"HexCampaignLaw", "distance", "(LHexCampaign;II[J)I"⟩ method_8_code 5 (some .int) [(0, 10, 13, 13)] ∈ e_tb := e_memw (i := 3) (j := 239) rfl rfl
theorem e_cw86 : Cond.code ⟨"HexCampaign$Game", "sightRange", "()I"⟩ prog_2_method_4_code 1 (some .int) ∈ e_tb := e_memw (i := 4) (j := 26) rfl rfl
theorem e_cw87 : Cond.code ⟨"HexCampaign", "count", "(I)I"⟩ prog_1_method_9_code 2 (some .int) ∈ e_tb := e_memw (i := 4) (j := 22) rfl rfl
theorem e_cw88 : Cond.codeWith ⟨"HexCampaignLaw", "count", "(LHexCampaign;I[J)I"⟩ method_9_code 4 (some .int) [(0, 9, 12, 15)] ∈ e_tb := e_memw (i := 4) (j := 18) rfl rfl
theorem e_cw89 : Cond.code ⟨"HexCampaign$Units", "isFull", "()Z"⟩ prog_11_method_8_code 1 (some .boolean) ∈ e_tb := e_memw (i := 4) (j := 40) rfl rfl
theorem e_cw90 : Cond.code ⟨"HexCampaign$Units", "all", "()I"⟩ prog_11_method_11_code 1 (some .int) ∈ e_tb := e_memw (i := 4) (j := 44) rfl rfl
theorem e_cw91 : Cond.code ⟨"HexCampaign$Units", "isRoomAt", "(IIII)Z"⟩ prog_11_method_27_code 6 (some .boolean) ∈ e_tb := e_memw (i := 4) (j := 48) rfl rfl
theorem e_cw92 : Cond.code ⟨"HexCampaign$Units", "enlist", "(IIII)I"⟩ prog_11_method_32_code 6 (some .int) ∈ e_tb := e_memw (i := 4) (j := 54) rfl rfl
theorem e_cw93 : Cond.code ⟨"HexCampaign", "add", "(IIII)I"⟩ prog_1_method_10_code 5 (some .int) ∈ e_tb := e_memw (i := 4) (j := 36) rfl rfl
theorem e_cw94 : Cond.codeWith ⟨"HexCampaignLaw", "add", "(LHexCampaign;IIII[J)I"⟩ method_10_code 7 (some .int) [(0, 14, 17, 13), (0, 14, 21, 15), (0, 14, 25, 17)] ∈ e_tb := e_memw (i := 4) (j := 32) rfl rfl
theorem e_cw95 : Cond.code ⟨"HexCampaign$Units", "exists", "(I)Z"⟩ prog_11_method_9_code 2 (some .boolean) ∈ e_tb := e_memw (i := 4) (j := 69) rfl rfl
theorem e_cw96 : Cond.code ⟨"HexCampaign", "checkUnit", "(I)V"⟩ prog_1_method_35_code 2 none ∈ e_tb := e_memw (i := 4) (j := 65) rfl rfl
theorem e_cw97 : Cond.code ⟨"HexCampaign$Units", "placeOf", "(I)I"⟩ prog_11_method_14_code 2 (some .int) ∈ e_tb := e_memw (i := 4) (j := 74) rfl rfl
theorem e_cw98 : Cond.code ⟨"HexCampaign$Units", "movementOf", "(I)I"⟩ prog_11_method_16_code 2 (some .int) ∈ e_tb := e_memw (i := 4) (j := 79) rfl rfl
theorem e_cw99 : Cond.code ⟨"HexCampaign$Play", "isSupplied", "(I)Z"⟩ prog_8_method_4_code 2 (some .boolean) ∈ e_tb := e_memw (i := 4) (j := 87) rfl rfl
theorem e_cw100 : Cond.code ⟨"HexCampaign$Units", "halfOf", "(I)I"⟩ prog_11_method_31_code 1 (some .int) ∈ e_tb := e_memw (i := 4) (j := 98) rfl rfl
theorem e_cw101 : Cond.code ⟨"HexCampaign$Units", "allowanceOf", "(IZ)I"⟩ prog_11_method_30_code 3 (some .int) ∈ e_tb := e_memw (i := 4) (j := 94) rfl rfl
theorem e_cw102 : Cond.code ⟨"HexCampaign$Play", "allowanceOf", "(I)I"⟩ prog_8_method_5_code 2 (some .int) ∈ e_tb := e_memw (i := 4) (j := 83) rfl rfl
theorem e_cw103 : Cond.code ⟨"HexCampaign$Units", "forceOf", "(IZ)I"⟩ prog_11_method_29_code 3 (some .int) ∈ e_tb := e_memw (i := 4) (j := 103) rfl rfl
theorem e_cw104 : Cond.code ⟨"HexCampaign$Units", "attackedAlready", "()I"⟩ prog_11_method_22_code 1 (some .int) ∈ e_tb := e_memw (i := 4) (j := 116) rfl rfl
theorem e_cw105 : Cond.code ⟨"HexCampaign$Game", "canAttack", "(I)Z"⟩ prog_2_method_6_code 2 (some .boolean) ∈ e_tb := e_memw (i := 4) (j := 111) rfl rfl
theorem e_cw106 : Cond.code ⟨"HexCampaign$Units", "hasMoved", "(I)Z"⟩ prog_11_method_21_code 2 (some .boolean) ∈ e_tb := e_memw (i := 4) (j := 121) rfl rfl
theorem e_cw107 : Cond.code ⟨"HexCampaign$Game", "canMove", "(I)Z"⟩ prog_2_method_5_code 2 (some .boolean) ∈ e_tb := e_memw (i := 4) (j := 107) rfl rfl
theorem e_cw108 : Cond.code ⟨"HexCampaign$Land", "upToHeight", "(I)J"⟩ prog_5_method_11_code 5 (some .long) ∈ e_tb := e_memw (i := 4) (j := 139) rfl rfl
theorem e_cw109 : Cond.code ⟨"HexCampaign$Land", "inSight", "(IIJ)J"⟩ prog_5_method_17_code 13 (some .long) ∈ e_tb := e_memw (i := 4) (j := 142) rfl rfl
theorem e_cw110 : Cond.code ⟨"HexCampaign$Land", "seenFrom", "(II)J"⟩ prog_5_method_16_code 11 (some .long) ∈ e_tb := e_memw (i := 4) (j := 132) rfl rfl
theorem e_cw111 : Cond.code ⟨"HexCampaign$Game", "seenBy", "(I)J"⟩ prog_2_method_10_code 7 (some .long) ∈ e_tb := e_memw (i := 4) (j := 126) rfl rfl
theorem e_cw112 : Cond.code ⟨"HexCampaign", "unit", "(II)I"⟩ prog_1_method_11_code 4 (some .int) ∈ e_tb := e_memw (i := 4) (j := 61) rfl rfl
theorem e_cw113 : Cond.codeWith ⟨"HexCampaignLaw", "unit", "(LHexCampaign;II[J)I"⟩ method_11_code 5 (some .int) [(0, 10, 13, 13), (0, 10, 17, 15)] ∈ e_tb := e_memw (i := 4) (j := 57) rfl rfl
theorem e_cw114 : Cond.code ⟨"HexCampaign$Game", "knownTo", "(I)I"⟩ prog_2_method_11_code 2 (some .int) ∈ e_tb := e_memw (i := 4) (j := 153) rfl rfl
theorem e_cw115 : Cond.code ⟨"HexCampaign", "known", "(I)I"⟩ prog_1_method_12_code 2 (some .int) ∈ e_tb := e_memw (i := 4) (j := 149) rfl rfl
theorem e_cw116 : Cond.codeWith ⟨"HexCampaignLaw", "known", "(LHexCampaign;I[J)I"⟩ method_12_code 4 (some .int) [(0, 9, 12, 13)] ∈ e_tb := e_memw (i := 4) (j := 145) rfl rfl
theorem e_cw117 : Cond.code ⟨"HexCampaign$Game", "zoneOf", "(I)J"⟩ prog_2_method_9_code 2 (some .long) ∈ e_tb := e_memw (i := 4) (j := 166) rfl rfl
theorem e_cw118 : Cond.code ⟨"HexCampaign", "cells", "(II)J"⟩ prog_1_method_13_code 3 (some .long) ∈ e_tb := e_memw (i := 4) (j := 162) rfl rfl
theorem e_cw119 : Cond.codeWith ⟨"HexCampaignLaw", "cells", "(LHexCampaign;II[J)I"⟩ method_13_code 5 (some .int) [(0, 9, 12, 13), (0, 9, 16, 15)] ∈ e_tb := e_memw (i := 4) (j := 158) rfl rfl
theorem e_cw120 : Cond.code ⟨"HexCampaign", "isSeen", "(II)Z"⟩ prog_1_method_14_code 3 (some .boolean) ∈ e_tb := e_memw (i := 4) (j := 175) rfl rfl
theorem e_cw121 : Cond.codeWith ⟨"HexCampaignLaw", "isSeen", "(LHexCampaign;II[J)I"⟩ method_14_code 5 (some .int) [(0, 17, 20, 13)] ∈ e_tb := e_memw (i := 4) (j := 171) rfl rfl
theorem e_cw122 : Cond.code ⟨"HexCampaign$Waves", "costOf", "(I)I"⟩ prog_12_method_6_code 3 (some .int) ∈ e_tb := e_memw (i := 4) (j := 191) rfl rfl
theorem e_cw123 : Cond.code ⟨"HexCampaign$Play", "supplyCostAt", "(II)I"⟩ prog_8_method_3_code 3 (some .int) ∈ e_tb := e_memw (i := 4) (j := 187) rfl rfl
theorem e_cw124 : Cond.code ⟨"HexCampaign", "supplyCost", "(II)I"⟩ prog_1_method_15_code 4 (some .int) ∈ e_tb := e_memw (i := 4) (j := 183) rfl rfl
theorem e_cw125 : Cond.codeWith ⟨"HexCampaignLaw", "supplyCost", "(LHexCampaign;II[J)I"⟩ method_15_code 5 (some .int) [(0, 10, 13, 13), (0, 10, 17, 34)] ∈ e_tb := e_memw (i := 4) (j := 179) rfl rfl
theorem e_cw126 : Cond.code ⟨"HexCampaign$Play", "floodWays", "(I)V"⟩ prog_8_method_8_code 12 none ∈ e_tb := e_memw (i := 4) (j := 207) rfl rfl
theorem e_cw127 : Cond.code ⟨"HexCampaign$Play", "unitsInSight", "(I)I"⟩ prog_8_method_13_code 3 (some .int) ∈ e_tb := e_memw (i := 4) (j := 216) rfl rfl
theorem e_cw128 : Cond.code ⟨"HexCampaign$Units", "isRoomFor", "(III)Z"⟩ prog_11_method_28_code 4 (some .boolean) ∈ e_tb := e_memw (i := 4) (j := 220) rfl rfl
theorem e_cw129 : Cond.code ⟨"HexCampaign$Play", "reachOf", "(II)J"⟩ prog_8_method_11_code 9 (some .long) ∈ e_tb := e_memw (i := 4) (j := 203) rfl rfl
theorem e_cw130 : Cond.code ⟨"HexCampaign", "reach", "(I)J"⟩ prog_1_method_16_code 2 (some .long) ∈ e_tb := e_memw (i := 4) (j := 199) rfl rfl
theorem e_cw131 : Cond.codeWith ⟨"HexCampaignLaw", "reach", "(LHexCampaign;I[J)I"⟩ method_16_code 4 (some .int) [(0, 8, 11, 13)] ∈ e_tb := e_memw (i := 4) (j := 195) rfl rfl
theorem e_cw132 : Cond.code ⟨"HexCampaign$Waves", "usefulAfter", "(II)J"⟩ prog_12_method_11_code 5 (some .long) ∈ e_tb := e_memw (i := 5) (j := 10) rfl rfl
theorem e_cw133 : Cond.code ⟨"HexCampaign$Waves", "departures", "(I)J"⟩ prog_12_method_10_code 7 (some .long) ∈ e_tb := e_memw (i := 5) (j := 6) rfl rfl
theorem e_cw134 : Cond.code ⟨"HexCampaign$Waves", "markUseful", "(II)V"⟩ prog_12_method_9_code 4 none ∈ e_tb := e_memw (i := 5) (j := 1) rfl rfl
theorem e_cw135 : Cond.code ⟨"HexCampaign$Hexes", "lowest", "(J)I"⟩ prog_3_method_4_code 3 (some .int) ∈ e_tb := e_memw (i := 5) (j := 17) rfl rfl
theorem e_cw136 : Cond.code ⟨"HexCampaign$Waves", "nextOnWay", "(II)I"⟩ prog_12_method_12_code 8 (some .int) ∈ e_tb := e_memw (i := 5) (j := 14) rfl rfl
theorem e_cw137 : Cond.code ⟨"HexCampaign$Waves", "trace", "(II)V"⟩ prog_12_method_8_code 5 none ∈ e_tb := e_memw (i := 4) (j := 236) rfl rfl
theorem e_cw138 : Cond.code ⟨"HexCampaign$Play", "findWay", "(II)I"⟩ prog_8_method_9_code 5 (some .int) ∈ e_tb := e_memw (i := 4) (j := 232) rfl rfl
theorem e_cw139 : Cond.code ⟨"HexCampaign", "cost", "(II)I"⟩ prog_1_method_17_code 4 (some .int) ∈ e_tb := e_memw (i := 4) (j := 228) rfl rfl
theorem e_cw140 : Cond.codeWith ⟨"HexCampaignLaw", "cost", "(LHexCampaign;II[J)I"⟩ method_17_code 5 (some .int) [(0, 10, 13, 13), (0, 10, 17, 34)] ∈ e_tb := e_memw (i := 4) (j := 224) rfl rfl
theorem e_cw141 : Cond.code ⟨"HexCampaign$Waves", "trailAt", "(I)I"⟩ prog_12_method_14_code 2 (some .int) ∈ e_tb := e_memw (i := 5) (j := 33) rfl rfl
theorem e_cw142 : Cond.code ⟨"HexCampaign$Play", "wayAt", "(I)I"⟩ prog_8_method_10_code 2 (some .int) ∈ e_tb := e_memw (i := 5) (j := 29) rfl rfl
theorem e_cw143 : Cond.code ⟨"HexCampaign", "way", "(III)I"⟩ prog_1_method_18_code 5 (some .int) ∈ e_tb := e_memw (i := 5) (j := 25) rfl rfl
theorem e_cw144 : Cond.codeWith ⟨"HexCampaignLaw", "way", "(LHexCampaign;III[J)I"⟩ method_18_code 6 (some .int) [(0, 12, 15, 13), (0, 12, 19, 34)] ∈ e_tb := e_memw (i := 5) (j := 21) rfl rfl
theorem e_cw145 : Cond.code ⟨"HexCampaign$Play", "isRoomInSight", "(II)Z"⟩ prog_8_method_12_code 3 (some .boolean) ∈ e_tb := e_memw (i := 5) (j := 47) rfl rfl
theorem e_cw146 : Cond.code ⟨"HexCampaign$Report", "append", "(II)V"⟩ prog_9_method_3_code 3 none ∈ e_tb := e_memw (i := 5) (j := 55) rfl rfl
theorem e_cw147 : Cond.code ⟨"HexCampaign$Report", "begin", "(I)V"⟩ prog_9_method_2_code 2 none ∈ e_tb := e_memw (i := 5) (j := 51) rfl rfl
theorem e_cw148 : Cond.code ⟨"HexCampaign", "explainRefusal", "(IIIZ)V"⟩ prog_1_method_37_code 6 none ∈ e_tb := e_memw (i := 5) (j := 60) rfl rfl
theorem e_cw149 : Cond.code ⟨"HexCampaign$Waves", "steps", "()I"⟩ prog_12_method_13_code 1 (some .int) ∈ e_tb := e_memw (i := 5) (j := 90) rfl rfl
theorem e_cw150 : Cond.code ⟨"HexCampaign$Play", "stopOf", "(I)I"⟩ prog_8_method_15_code 9 (some .int) ∈ e_tb := e_memw (i := 5) (j := 86) rfl rfl
theorem e_cw151 : Cond.code ⟨"HexCampaign$Play", "backToRoom", "(II)I"⟩ prog_8_method_16_code 4 (some .int) ∈ e_tb := e_memw (i := 5) (j := 94) rfl rfl
theorem e_cw152 : Cond.code ⟨"HexCampaign$Units", "noteMove", "(I)V"⟩ prog_11_method_34_code 2 none ∈ e_tb := e_memw (i := 5) (j := 99) rfl rfl
theorem e_cw153 : Cond.code ⟨"HexCampaign$Units", "placeAt", "(II)V"⟩ prog_11_method_33_code 3 none ∈ e_tb := e_memw (i := 5) (j := 103) rfl rfl
theorem e_cw154 : Cond.code ⟨"HexCampaign$Play", "march", "(I)V"⟩ prog_8_method_14_code 3 none ∈ e_tb := e_memw (i := 5) (j := 82) rfl rfl
theorem e_cw155 : Cond.code ⟨"HexCampaign", "move", "(II)I"⟩ prog_1_method_19_code 6 (some .int) ∈ e_tb := e_memw (i := 5) (j := 42) rfl rfl
theorem e_cw156 : Cond.codeWith ⟨"HexCampaignLaw", "move", "(LHexCampaign;II[J)I"⟩ method_19_code 5 (some .int) [(0, 10, 13, 13), (0, 10, 17, 15), (0, 10, 21, 17), (0, 10, 25, 78)] ∈ e_tb := e_memw (i := 5) (j := 37) rfl rfl
theorem e_cw157 : Cond.code ⟨"HexCampaign$Game", "attackersOn", "(I)I"⟩ prog_2_method_7_code 2 (some .int) ∈ e_tb := e_memw (i := 5) (j := 118) rfl rfl
theorem e_cw158 : Cond.code ⟨"HexCampaign$Game", "defendersOn", "(I)I"⟩ prog_2_method_8_code 2 (some .int) ∈ e_tb := e_memw (i := 5) (j := 123) rfl rfl
theorem e_cw159 : Cond.code ⟨"HexCampaign", "checkAttack", "(II)V"⟩ prog_1_method_36_code 3 none ∈ e_tb := e_memw (i := 5) (j := 114) rfl rfl
theorem e_cw160 : Cond.code ⟨"HexCampaign$Play", "sumOfForces", "(IJ)I"⟩ prog_8_method_7_code 6 (some .int) ∈ e_tb := e_memw (i := 5) (j := 132) rfl rfl
theorem e_cw161 : Cond.code ⟨"HexCampaign$Land", "coverAt", "(I)I"⟩ prog_5_method_10_code 2 (some .int) ∈ e_tb := e_memw (i := 5) (j := 137) rfl rfl
theorem e_cw162 : Cond.code ⟨"HexCampaign$Play", "defenseAt", "(I)I"⟩ prog_8_method_18_code 3 (some .int) ∈ e_tb := e_memw (i := 5) (j := 127) rfl rfl
theorem e_cw163 : Cond.code ⟨"HexCampaign$Play", "attackFrom", "(I)I"⟩ prog_8_method_17_code 3 (some .int) ∈ e_tb := e_memw (i := 5) (j := 143) rfl rfl
theorem e_cw164 : Cond.code ⟨"HexCampaign", "odds", "(IIZ)I"⟩ prog_1_method_20_code 4 (some .int) ∈ e_tb := e_memw (i := 5) (j := 110) rfl rfl
theorem e_cw165 : Cond.codeWith ⟨"HexCampaignLaw", "odds", "(LHexCampaign;IIZ[J)I"⟩ method_20_code 6 (some .int) [(0, 12, 15, 13), (0, 12, 19, 15), (0, 12, 23, 34)] ∈ e_tb := e_memw (i := 5) (j := 106) rfl rfl
theorem e_cw166 : Cond.code ⟨"HexCampaign$Units", "noteAttack", "(I)V"⟩ prog_11_method_35_code 2 none ∈ e_tb := e_memw (i := 5) (j := 161) rfl rfl
theorem e_cw167 : Cond.code ⟨"HexCampaign$Units", "loseInAttack", "(II)V"⟩ prog_11_method_36_code 3 none ∈ e_tb := e_memw (i := 5) (j := 169) rfl rfl
theorem e_cw168 : Cond.code ⟨"HexCampaign$Play", "loseEach", "(I)V"⟩ prog_8_method_20_code 3 none ∈ e_tb := e_memw (i := 5) (j := 165) rfl rfl
theorem e_cw169 : Cond.code ⟨"HexCampaign$Land", "stepCost", "(III)I"⟩ prog_5_method_14_code 5 (some .int) ∈ e_tb := e_memw (i := 5) (j := 189) rfl rfl
theorem e_cw170 : Cond.code ⟨"HexCampaign$Play", "isBetterRefuge", "(IIII)Z"⟩ prog_8_method_23_code 8 (some .boolean) ∈ e_tb := e_memw (i := 5) (j := 184) rfl rfl
theorem e_cw171 : Cond.code ⟨"HexCampaign$Play", "refugeOf", "(II)I"⟩ prog_8_method_22_code 12 (some .int) ∈ e_tb := e_memw (i := 5) (j := 178) rfl rfl
theorem e_cw172 : Cond.code ⟨"HexCampaign$Play", "retreatEach", "(II)V"⟩ prog_8_method_21_code 5 none ∈ e_tb := e_memw (i := 5) (j := 173) rfl rfl
theorem e_cw173 : Cond.code ⟨"HexCampaign$Units", "lowest", "(I)I"⟩ prog_11_method_7_code 2 (some .int) ∈ e_tb := e_memw (i := 5) (j := 192) rfl rfl
theorem e_cw174 : Cond.code ⟨"HexCampaign$Play", "fight", "(II)I"⟩ prog_8_method_19_code 7 (some .int) ∈ e_tb := e_memw (i := 5) (j := 155) rfl rfl
theorem e_cw175 : Cond.code ⟨"HexCampaign", "attack", "(II)I"⟩ prog_1_method_21_code 3 (some .int) ∈ e_tb := e_memw (i := 5) (j := 151) rfl rfl
theorem e_cw176 : Cond.codeWith ⟨"HexCampaignLaw", "attack", "(LHexCampaign;II[J)I"⟩ method_21_code 5 (some .int) [(0, 10, 13, 13), (0, 10, 17, 15), (0, 10, 21, 34)] ∈ e_tb := e_memw (i := 5) (j := 147) rfl rfl
theorem e_cw177 : Cond.code ⟨"HexCampaign$Units", "addedBy", "(I)I"⟩ prog_11_method_17_code 2 (some .int) ∈ e_tb := e_memw (i := 5) (j := 203) rfl rfl
theorem e_cw178 : Cond.code ⟨"HexCampaign$Units", "lostInAttacksBy", "(I)I"⟩ prog_11_method_18_code 2 (some .int) ∈ e_tb := e_memw (i := 5) (j := 207) rfl rfl
theorem e_cw179 : Cond.code ⟨"HexCampaign$Units", "lostUnsuppliedBy", "(I)I"⟩ prog_11_method_19_code 2 (some .int) ∈ e_tb := e_memw (i := 5) (j := 211) rfl rfl
theorem e_cw180 : Cond.code ⟨"HexCampaign$Units", "removedFrom", "(I)I"⟩ prog_11_method_20_code 2 (some .int) ∈ e_tb := e_memw (i := 5) (j := 215) rfl rfl
theorem e_cw181 : Cond.code ⟨"HexCampaign", "account", "(II)I"⟩ prog_1_method_23_code 4 (some .int) ∈ e_tb := e_memw (i := 5) (j := 199) rfl rfl
theorem e_cw182 : Cond.codeWith ⟨"HexCampaignLaw", "account", "(LHexCampaign;II[J)I"⟩ method_22_code 5 (some .int) [(0, 10, 13, 13), (0, 10, 17, 15)] ∈ e_tb := e_memw (i := 5) (j := 195) rfl rfl
theorem e_cw183 : Cond.code ⟨"HexCampaign$Play", "forcesOf", "(I)I"⟩ prog_8_method_6_code 2 (some .int) ∈ e_tb := e_memw (i := 6) (j := 0) rfl rfl
theorem e_cw184 : Cond.code ⟨"HexCampaign", "balance", "()D"⟩ prog_1_method_24_code 5 (some .double) ∈ e_tb := e_memw (i := 5) (j := 236) rfl rfl
theorem e_cw185 : Cond.codeWith ⟨"HexCampaignLaw", "balance", "(LHexCampaign;[D)I"⟩ method_23_code 3 (some .int) [(0, 7, 10, 93)] ∈ e_tb := e_memw (i := 5) (j := 218) rfl rfl
theorem e_cw186 : Cond.code ⟨"HexCampaign$Report", "levels", "()I"⟩ prog_9_method_4_code 1 (some .int) ∈ e_tb := e_memw (i := 6) (j := 16) rfl rfl
theorem e_cw187 : Cond.code ⟨"HexCampaign$Report", "codeOf", "(I)I"⟩ prog_9_method_5_code 2 (some .int) ∈ e_tb := e_memw (i := 6) (j := 20) rfl rfl
theorem e_cw188 : Cond.code ⟨"HexCampaign$Report", "detailOf", "(I)I"⟩ prog_9_method_6_code 2 (some .int) ∈ e_tb := e_memw (i := 6) (j := 25) rfl rfl
theorem e_cw189 : Cond.code ⟨"HexCampaign", "report", "(II)I"⟩ prog_1_method_25_code 3 (some .int) ∈ e_tb := e_memw (i := 6) (j := 12) rfl rfl
theorem e_cw190 : Cond.codeWith ⟨"HexCampaignLaw", "report", "(LHexCampaign;II[J)I"⟩ method_24_code 5 (some .int) [(0, 10, 13, 34), (0, 10, 17, 15)] ∈ e_tb := e_memw (i := 6) (j := 8) rfl rfl
theorem e_cw191 : Cond.code ⟨"HexCampaign$MapInput", "isFull", "()Z"⟩ prog_7_method_2_code 1 (some .boolean) ∈ e_tb := e_memw (i := 6) (j := 36) rfl rfl
theorem e_cw192 : Cond.code ⟨"HexCampaign$MapInput", "append", "(C)I"⟩ prog_7_method_3_code 2 (some .int) ∈ e_tb := e_memw (i := 6) (j := 40) rfl rfl
theorem e_cw193 : Cond.code ⟨"HexCampaign", "feed", "(C)I"⟩ prog_1_method_26_code 2 (some .int) ∈ e_tb := e_memw (i := 6) (j := 32) rfl rfl
theorem e_cw194 : Cond.codeWith ⟨"HexCampaignLaw", "feed", "(LHexCampaign;C[J)I"⟩ method_25_code 4 (some .int) [(0, 9, 12, 17)] ∈ e_tb := e_memw (i := 6) (j := 28) rfl rfl
theorem e_cw195 : Cond.code ⟨"HexCampaign$Letters", "cellAt", "(I)I"⟩ prog_6_method_2_code 2 (some .int) ∈ e_tb := e_memw (i := 6) (j := 57) rfl rfl
theorem e_cw196 : Cond.code ⟨"java/lang/String", "coder", "()B"⟩ prog_27_method_152_code 1 (some .byte) ∈ e_tb := e_memw (i := 6) (j := 72) rfl rfl
theorem e_cw197 : Cond.code ⟨"java/lang/String", "length", "()I"⟩ prog_27_method_54_code 1 (some .int) ∈ e_tb := e_memw (i := 6) (j := 68) rfl rfl
theorem e_cw198 : Cond.code ⟨"java/lang/String", "isLatin1", "()Z"⟩ prog_27_method_154_code 1 (some .boolean) ∈ e_tb := e_memw (i := 6) (j := 82) rfl rfl
theorem e_cw199 : Cond.code ⟨"jdk/internal/util/Preconditions", "checkIndex", "(IILjava/util/function/BiFunction;)I"⟩ prog_36_method_11_code 3 (some .int) ∈ e_tb := e_memw (i := 6) (j := 93) rfl rfl
theorem e_cw200 : Cond.code ⟨"java/lang/String", "checkIndex", "(II)V"⟩ prog_27_method_155_code 2 none ∈ e_tb := e_memw (i := 6) (j := 88) rfl rfl
theorem e_cw201 : Cond.code ⟨"java/lang/StringLatin1", "charAt", "([BI)C"⟩ prog_28_method_2_code 2 (some .char) ∈ e_tb := e_memw (i := 6) (j := 85) rfl rfl
theorem e_cw202 : Cond.code ⟨"java/lang/String", "charAt", "(I)C"⟩ prog_27_method_56_code 2 (some .char) ∈ e_tb := e_memw (i := 6) (j := 78) rfl rfl
theorem e_cw203 : Cond.code ⟨"HexCampaign$Letters", "placeIn", "(Ljava/lang/String;C)I"⟩ prog_6_method_6_code 3 (some .int) ∈ e_tb := e_memw (i := 6) (j := 64) rfl rfl
theorem e_cw204 : Cond.code ⟨"HexCampaign$Letters", "terrainOf", "(C)I"⟩ prog_6_method_4_code 2 (some .int) ∈ e_tb := e_memw (i := 6) (j := 60) rfl rfl
theorem e_cw205 : Cond.code ⟨"HexCampaign$MapInput", "canStandAt", "(IC)Z"⟩ prog_7_method_6_code 2 (some .boolean) ∈ e_tb := e_memw (i := 6) (j := 54) rfl rfl
theorem e_cw206 : Cond.code ⟨"HexCampaign$MapInput", "errorPosition", "()I"⟩ prog_7_method_5_code 2 (some .int) ∈ e_tb := e_memw (i := 6) (j := 51) rfl rfl
theorem e_cw207 : Cond.code ⟨"HexCampaign$MapInput", "letters", "()I"⟩ prog_7_method_7_code 1 (some .int) ∈ e_tb := e_memw (i := 6) (j := 117) rfl rfl
theorem e_cw208 : Cond.code ⟨"HexCampaign$MapInput", "waters", "()J"⟩ prog_7_method_8_code 5 (some .long) ∈ e_tb := e_memw (i := 6) (j := 121) rfl rfl
theorem e_cw209 : Cond.code ⟨"HexCampaign$Letters", "hasRoad", "(C)Z"⟩ prog_6_method_5_code 1 (some .boolean) ∈ e_tb := e_memw (i := 6) (j := 130) rfl rfl
theorem e_cw210 : Cond.code ⟨"HexCampaign$MapInput", "shapeAll", "(LHexCampaign$Land;)V"⟩ prog_7_method_9_code 4 none ∈ e_tb := e_memw (i := 6) (j := 127) rfl rfl
theorem e_cw211 : Cond.code ⟨"HexCampaign$MapInput", "clear", "()V"⟩ prog_7_method_4_code 1 none ∈ e_tb := e_memw (i := 6) (j := 135) rfl rfl
theorem e_cw212 : Cond.code ⟨"HexCampaign", "readMap", "()I"⟩ prog_1_method_27_code 4 (some .int) ∈ e_tb := e_memw (i := 6) (j := 47) rfl rfl
theorem e_cw213 : Cond.codeWith ⟨"HexCampaignLaw", "readMap", "(LHexCampaign;[J)I"⟩ method_26_code 3 (some .int) [(0, 8, 11, 17)] ∈ e_tb := e_memw (i := 6) (j := 43) rfl rfl
theorem e_cw214 : Cond.code ⟨"HexCampaign$Letters", "letterOf", "(IZ)C"⟩ prog_6_method_3_code 3 (some .char) ∈ e_tb := e_memw (i := 6) (j := 146) rfl rfl
theorem e_cw215 : Cond.code ⟨"HexCampaign", "text", "(I)C"⟩ prog_1_method_28_code 3 (some .char) ∈ e_tb := e_memw (i := 6) (j := 142) rfl rfl
theorem e_cw216 : Cond.codeWith ⟨"HexCampaignLaw", "text", "(LHexCampaign;I[J)I"⟩ method_27_code 4 (some .int) [(0, 9, 12, 13)] ∈ e_tb := e_memw (i := 6) (j := 138) rfl rfl
theorem e_cw217 : Cond.code ⟨"HexCampaign$History", "held", "()I"⟩ prog_4_method_2_code 1 (some .int) ∈ e_tb := e_memw (i := 6) (j := 157) rfl rfl
theorem e_cw218 : Cond.code ⟨"HexCampaign$History", "takeBack", "(LHexCampaign$Game;)V"⟩ prog_4_method_5_code 4 none ∈ e_tb := e_memw (i := 6) (j := 161) rfl rfl
theorem e_cw219 : Cond.code ⟨"HexCampaign", "undo", "()I"⟩ prog_1_method_29_code 1 (some .int) ∈ e_tb := e_memw (i := 6) (j := 153) rfl rfl
theorem e_cw220 : Cond.codeWith ⟨"HexCampaignLaw", "undo", "(LHexCampaign;[J)I"⟩ method_28_code 3 (some .int) [(0, 8, 11, 17)] ∈ e_tb := e_memw (i := 6) (j := 149) rfl rfl
theorem e_cw221 : Cond.code ⟨"HexCampaign", "restore", "()I"⟩ prog_1_method_31_code 1 (some .int) ∈ e_tb := e_memw (i := 6) (j := 168) rfl rfl
theorem e_cw222 : Cond.codeWith ⟨"HexCampaignLaw", "restore", "(LHexCampaign;[J)I"⟩ method_29_code 3 (some .int) [(0, 8, 11, 17)] ∈ e_tb := e_memw (i := 6) (j := 164) rfl rfl
theorem e_cw223 : Cond.code ⟨"HexCampaignModel", "<init>", "()V"⟩ prog_14_method_1_code 1 none ∈ e_tb := e_memw (i := 6) (j := 173) rfl rfl
theorem e_cw224 : Cond.code ⟨"HexCampaignModel", "thrown", "()I"⟩ prog_14_method_2_code 1 (some .int) ∈ e_tb := e_memw (i := 6) (j := 233) rfl rfl
theorem e_cw225 : Cond.code ⟨"HexCampaignModel", "in", "(III)Z"⟩ prog_14_method_3_code 3 (some .boolean) ∈ e_tb := e_memw (i := 7) (j := 8) rfl rfl
theorem e_cw226 : Cond.code ⟨"HexCampaignModel", "of", "(II)I"⟩ prog_14_method_7_code 3 (some .int) ∈ e_tb := e_memw (i := 7) (j := 12) rfl rfl
theorem e_cw227 : Cond.code ⟨"HexCampaignModel", "isUnit", "(I)Z"⟩ prog_14_method_9_code 2 (some .boolean) ∈ e_tb := e_memw (i := 7) (j := 5) rfl rfl
theorem e_cw228 : Cond.code ⟨"HexCampaignModel", "unitCount", "()I"⟩ prog_14_method_12_code 3 (some .int) ∈ e_tb := e_memw (i := 7) (j := 1) rfl rfl
theorem e_cw229 : Cond.code ⟨"HexCampaignModel", "start", "(I)I"⟩ prog_14_method_13_code 4 (some .int) ∈ e_tb := e_memw (i := 6) (j := 237) rfl rfl
theorem e_cw230 : Cond.code ⟨"HexCampaignModel", "isCell", "(I)Z"⟩ prog_14_method_4_code 1 (some .boolean) ∈ e_tb := e_memw (i := 7) (j := 19) rfl rfl
theorem e_cw231 : Cond.code ⟨"HexCampaignModel", "unitsOn", "(I)I"⟩ prog_14_method_14_code 4 (some .int) ∈ e_tb := e_memw (i := 7) (j := 23) rfl rfl
theorem e_cw232 : Cond.code ⟨"HexCampaignModel", "change", "()V"⟩ prog_14_method_11_code 1 none ∈ e_tb := e_memw (i := 7) (j := 27) rfl rfl
theorem e_cw233 : Cond.code ⟨"HexCampaignModel", "setTerrain", "(IIZ)I"⟩ prog_14_method_15_code 5 (some .int) ∈ e_tb := e_memw (i := 7) (j := 16) rfl rfl
theorem e_cw234 : Cond.code ⟨"HexCampaignModel", "isSide", "(I)Z"⟩ prog_14_method_5_code 1 (some .boolean) ∈ e_tb := e_memw (i := 7) (j := 37) rfl rfl
theorem e_cw235 : Cond.code ⟨"HexCampaignModel", "setSource", "(IIZ)Z"⟩ prog_14_method_16_code 5 (some .boolean) ∈ e_tb := e_memw (i := 7) (j := 34) rfl rfl
theorem e_cw236 : Cond.code ⟨"HexCampaignModel", "set", "(ZI)I"⟩ prog_14_method_17_code 5 (some .int) ∈ e_tb := e_memw (i := 7) (j := 41) rfl rfl
theorem e_cw237 : Cond.code ⟨"HexCampaignModel", "strengthOn", "(I)I"⟩ prog_14_method_18_code 4 (some .int) ∈ e_tb := e_memw (i := 7) (j := 49) rfl rfl
theorem e_cw238 : Cond.code ⟨"HexCampaignModel", "cell", "(II)I"⟩ prog_14_method_19_code 3 (some .int) ∈ e_tb := e_memw (i := 7) (j := 45) rfl rfl
theorem e_cw239 : Cond.code ⟨"HexCampaignModel", "next", "(II)I"⟩ prog_14_method_20_code 6 (some .int) ∈ e_tb := e_memw (i := 7) (j := 56) rfl rfl
theorem e_cw240 : Cond.code ⟨"HexCampaignModel", "neighbor", "(II)I"⟩ prog_14_method_22_code 3 (some .int) ∈ e_tb := e_memw (i := 7) (j := 53) rfl rfl
theorem e_cw241 : Cond.code ⟨"HexCampaignModel", "has", "(JI)Z"⟩ prog_14_method_6_code 3 (some .boolean) ∈ e_tb := e_memw (i := 7) (j := 66) rfl rfl
theorem e_cw242 : Cond.code ⟨"HexCampaignModel", "around", "(J)J"⟩ prog_14_method_23_code 6 (some .long) ∈ e_tb := e_memw (i := 7) (j := 69) rfl rfl
theorem e_cw243 : Cond.code ⟨"HexCampaignModel", "steps", "(II)I"⟩ prog_14_method_24_code 5 (some .int) ∈ e_tb := e_memw (i := 7) (j := 63) rfl rfl
theorem e_cw244 : Cond.code ⟨"HexCampaignModel", "distance", "(II)I"⟩ prog_14_method_25_code 3 (some .int) ∈ e_tb := e_memw (i := 7) (j := 60) rfl rfl
theorem e_cw245 : Cond.code ⟨"HexCampaignModel", "count", "(I)I"⟩ prog_14_method_26_code 2 (some .int) ∈ e_tb := e_memw (i := 7) (j := 73) rfl rfl
theorem e_cw246 : Cond.code ⟨"HexCampaignModel", "isOf", "(II)Z"⟩ prog_14_method_10_code 3 (some .boolean) ∈ e_tb := e_memw (i := 7) (j := 91) rfl rfl
theorem e_cw247 : Cond.code ⟨"HexCampaignModel", "sees", "(II)Z"⟩ prog_14_method_32_code 10 (some .boolean) ∈ e_tb := e_memw (i := 7) (j := 95) rfl rfl
theorem e_cw248 : Cond.code ⟨"HexCampaignModel", "seenBy", "(I)J"⟩ prog_14_method_33_code 6 (some .long) ∈ e_tb := e_memw (i := 7) (j := 87) rfl rfl
theorem e_cw249 : Cond.code ⟨"HexCampaignModel", "knownTo", "(I)I"⟩ prog_14_method_34_code 6 (some .int) ∈ e_tb := e_memw (i := 7) (j := 83) rfl rfl
theorem e_cw250 : Cond.code ⟨"HexCampaignModel", "known", "(I)I"⟩ prog_14_method_35_code 2 (some .int) ∈ e_tb := e_memw (i := 7) (j := 79) rfl rfl
theorem e_cw251 : Cond.code ⟨"HexCampaignModel", "isSeen", "(II)Z"⟩ prog_14_method_36_code 3 (some .boolean) ∈ e_tb := e_memw (i := 7) (j := 103) rfl rfl
theorem e_cw252 : Cond.code ⟨"HexCampaignModel", "unitsOf", "(I)I"⟩ prog_14_method_30_code 4 (some .int) ∈ e_tb := e_memw (i := 7) (j := 111) rfl rfl
theorem e_cw253 : Cond.code ⟨"HexCampaignModel", "cellsOf", "(I)J"⟩ prog_14_method_29_code 5 (some .long) ∈ e_tb := e_memw (i := 7) (j := 119) rfl rfl
theorem e_cw254 : Cond.code ⟨"HexCampaignModel", "zone", "(I)J"⟩ prog_14_method_31_code 5 (some .long) ∈ e_tb := e_memw (i := 7) (j := 115) rfl rfl
theorem e_cw255 : Cond.code ⟨"HexCampaignModel", "sources", "(I)J"⟩ prog_14_method_38_code 5 (some .long) ∈ e_tb := e_memw (i := 7) (j := 123) rfl rfl
theorem e_cw256 : Cond.code ⟨"HexCampaignModel", "closed", "(I)J"⟩ prog_14_method_39_code 5 (some .long) ∈ e_tb := e_memw (i := 7) (j := 127) rfl rfl
theorem e_cw257 : Cond.code ⟨"HexCampaignModel", "stepCost", "(II)I"⟩ prog_14_method_37_code 3 (some .int) ∈ e_tb := e_memw (i := 7) (j := 140) rfl rfl
theorem e_cw258 : Cond.code ⟨"HexCampaignModel", "findSupply", "(I)V"⟩ prog_14_method_40_code 10 none ∈ e_tb := e_memw (i := 7) (j := 135) rfl rfl
theorem e_cw259 : Cond.code ⟨"HexCampaignModel", "suppliedCells", "(I)J"⟩ prog_14_method_43_code 5 (some .long) ∈ e_tb := e_memw (i := 7) (j := 131) rfl rfl
theorem e_cw260 : Cond.code ⟨"HexCampaignModel", "cells", "(II)J"⟩ prog_14_method_44_code 3 (some .long) ∈ e_tb := e_memw (i := 7) (j := 107) rfl rfl
theorem e_cw261 : Cond.code ⟨"HexCampaignModel", "supplyCost", "(II)I"⟩ prog_14_method_45_code 3 (some .int) ∈ e_tb := e_memw (i := 7) (j := 146) rfl rfl
theorem e_cw262 : Cond.code ⟨"HexCampaignModel", "hasRoom", "(IIIII)Z"⟩ prog_14_method_27_code 10 (some .boolean) ∈ e_tb := e_memw (i := 7) (j := 154) rfl rfl
theorem e_cw263 : Cond.code ⟨"HexCampaignModel", "unitAt", "(II)I"⟩ prog_14_method_8_code 2 (some .int) ∈ e_tb := e_memw (i := 7) (j := 157) rfl rfl
theorem e_cw264 : Cond.code ⟨"HexCampaignModel", "add", "(IIII)I"⟩ prog_14_method_46_code 6 (some .int) ∈ e_tb := e_memw (i := 7) (j := 150) rfl rfl
theorem e_cw265 : Cond.code ⟨"HexCampaignModel", "isSupplied", "(I)Z"⟩ prog_14_method_41_code 2 (some .boolean) ∈ e_tb := e_memw (i := 7) (j := 169) rfl rfl
theorem e_cw266 : Cond.code ⟨"HexCampaignModel", "reduced", "(II)I"⟩ prog_14_method_42_code 3 (some .int) ∈ e_tb := e_memw (i := 7) (j := 165) rfl rfl
theorem e_cw267 : Cond.code ⟨"HexCampaignModel", "canAttack", "(I)Z"⟩ prog_14_method_47_code 2 (some .boolean) ∈ e_tb := e_memw (i := 7) (j := 177) rfl rfl
theorem e_cw268 : Cond.code ⟨"HexCampaignModel", "canMove", "(I)Z"⟩ prog_14_method_48_code 2 (some .boolean) ∈ e_tb := e_memw (i := 7) (j := 173) rfl rfl
theorem e_cw269 : Cond.code ⟨"HexCampaignModel", "unit", "(II)I"⟩ prog_14_method_49_code 3 (some .int) ∈ e_tb := e_memw (i := 7) (j := 161) rfl rfl
theorem e_cw270 : Cond.code ⟨"HexCampaignModel", "isStep", "(III)Z"⟩ prog_14_method_50_code 5 (some .boolean) ∈ e_tb := e_memw (i := 7) (j := 189) rfl rfl
theorem e_cw271 : Cond.code ⟨"HexCampaignModel", "findWays", "(I)V"⟩ prog_14_method_51_code 8 none ∈ e_tb := e_memw (i := 7) (j := 185) rfl rfl
theorem e_cw272 : Cond.code ⟨"HexCampaignModel", "canReach", "(III)Z"⟩ prog_14_method_52_code 5 (some .boolean) ∈ e_tb := e_memw (i := 7) (j := 193) rfl rfl
theorem e_cw273 : Cond.code ⟨"HexCampaignModel", "reach", "(I)J"⟩ prog_14_method_53_code 6 (some .long) ∈ e_tb := e_memw (i := 7) (j := 181) rfl rfl
theorem e_cw274 : Cond.code ⟨"HexCampaignModel", "hasWay", "(II)Z"⟩ prog_14_method_56_code 3 (some .boolean) ∈ e_tb := e_memw (i := 7) (j := 201) rfl rfl
theorem e_cw275 : Cond.code ⟨"HexCampaignModel", "cost", "(II)I"⟩ prog_14_method_57_code 3 (some .int) ∈ e_tb := e_memw (i := 7) (j := 197) rfl rfl
theorem e_cw276 : Cond.code ⟨"HexCampaignModel", "isTight", "(III)Z"⟩ prog_14_method_54_code 4 (some .boolean) ∈ e_tb := e_memw (i := 7) (j := 213) rfl rfl
theorem e_cw277 : Cond.code ⟨"HexCampaignModel", "findWay", "(II)V"⟩ prog_14_method_55_code 11 none ∈ e_tb := e_memw (i := 7) (j := 209) rfl rfl
theorem e_cw278 : Cond.code ⟨"HexCampaignModel", "way", "(III)I"⟩ prog_14_method_58_code 4 (some .int) ∈ e_tb := e_memw (i := 7) (j := 205) rfl rfl
theorem e_cw279 : Cond.code ⟨"HexCampaignModel", "refuse", "(III)V"⟩ prog_14_method_59_code 6 none ∈ e_tb := e_memw (i := 7) (j := 222) rfl rfl
theorem e_cw280 : Cond.code ⟨"HexCampaignModel", "hasRoomFor", "(II)Z"⟩ prog_14_method_28_code 3 (some .boolean) ∈ e_tb := e_memw (i := 7) (j := 226) rfl rfl
theorem e_cw281 : Cond.code ⟨"HexCampaignModel", "move", "(II)I"⟩ prog_14_method_60_code 11 (some .int) ∈ e_tb := e_memw (i := 7) (j := 218) rfl rfl
theorem e_cw282 : Cond.code ⟨"HexCampaignModel", "areNeighbors", "(II)Z"⟩ prog_14_method_21_code 4 (some .boolean) ∈ e_tb := e_memw (i := 7) (j := 237) rfl rfl
theorem e_cw283 : Cond.code ⟨"HexCampaignModel", "attackers", "(I)I"⟩ prog_14_method_61_code 4 (some .int) ∈ e_tb := e_memw (i := 8) (j := 1) rfl rfl
theorem e_cw284 : Cond.code ⟨"HexCampaignModel", "attacked", "(I)I"⟩ prog_14_method_62_code 4 (some .int) ∈ e_tb := e_memw (i := 8) (j := 5) rfl rfl
theorem e_cw285 : Cond.code ⟨"HexCampaignModel", "whyNoAttack", "(II)I"⟩ prog_14_method_66_code 3 (some .int) ∈ e_tb := e_memw (i := 7) (j := 234) rfl rfl
theorem e_cw286 : Cond.code ⟨"HexCampaignModel", "forces", "(I)I"⟩ prog_14_method_63_code 4 (some .int) ∈ e_tb := e_memw (i := 8) (j := 13) rfl rfl
theorem e_cw287 : Cond.code ⟨"HexCampaignModel", "defenseOf", "(I)I"⟩ prog_14_method_65_code 2 (some .int) ∈ e_tb := e_memw (i := 8) (j := 9) rfl rfl
theorem e_cw288 : Cond.code ⟨"HexCampaignModel", "attackFrom", "(I)I"⟩ prog_14_method_64_code 2 (some .int) ∈ e_tb := e_memw (i := 8) (j := 19) rfl rfl
theorem e_cw289 : Cond.code ⟨"HexCampaignModel", "odds", "(IIZ)I"⟩ prog_14_method_67_code 4 (some .int) ∈ e_tb := e_memw (i := 7) (j := 230) rfl rfl
theorem e_cw290 : Cond.code ⟨"HexCampaignModel", "lose", "(III)V"⟩ prog_14_method_68_code 6 none ∈ e_tb := e_memw (i := 8) (j := 31) rfl rfl
theorem e_cw291 : Cond.code ⟨"HexCampaignModel", "loseAll", "(IZ)V"⟩ prog_14_method_69_code 5 none ∈ e_tb := e_memw (i := 8) (j := 27) rfl rfl
theorem e_cw292 : Cond.code ⟨"HexCampaignModel", "retreat", "(II)V"⟩ prog_14_method_70_code 14 none ∈ e_tb := e_memw (i := 8) (j := 35) rfl rfl
theorem e_cw293 : Cond.code ⟨"HexCampaignModel", "attack", "(II)I"⟩ prog_14_method_71_code 8 (some .int) ∈ e_tb := e_memw (i := 8) (j := 23) rfl rfl
theorem e_cw294 : Cond.code ⟨"HexCampaignModel", "endTurn", "()I"⟩ prog_14_method_72_code 5 (some .int) ∈ e_tb := e_memw (i := 8) (j := 39) rfl rfl
theorem e_cw295 : Cond.code ⟨"HexCampaignModel", "strengthOf", "(I)I"⟩ prog_14_method_73_code 4 (some .int) ∈ e_tb := e_memw (i := 8) (j := 48) rfl rfl
theorem e_cw296 : Cond.code ⟨"HexCampaignModel", "account", "(II)I"⟩ prog_14_method_74_code 6 (some .int) ∈ e_tb := e_memw (i := 8) (j := 44) rfl rfl
theorem e_cw297 : Cond.code ⟨"HexCampaignModel", "balance", "()D"⟩ prog_14_method_75_code 1 (some .double) ∈ e_tb := e_memw (i := 8) (j := 52) rfl rfl
theorem e_cw298 : Cond.code ⟨"HexCampaignModel", "report", "(II)I"⟩ prog_14_method_76_code 3 (some .int) ∈ e_tb := e_memw (i := 8) (j := 56) rfl rfl
theorem e_cw299 : Cond.code ⟨"HexCampaignModel", "feed", "(C)I"⟩ prog_14_method_77_code 2 (some .int) ∈ e_tb := e_memw (i := 8) (j := 60) rfl rfl
theorem e_cw300 : Cond.code ⟨"HexCampaignModel", "kindOf", "(C)I"⟩ prog_14_method_78_code 2 (some .int) ∈ e_tb := e_memw (i := 8) (j := 71) rfl rfl
theorem e_cw301 : Cond.code ⟨"HexCampaignModel", "goodLength", "()I"⟩ prog_14_method_79_code 4 (some .int) ∈ e_tb := e_memw (i := 8) (j := 68) rfl rfl
theorem e_cw302 : Cond.code ⟨"HexCampaignModel", "cellAt", "(I)I"⟩ prog_14_method_80_code 1 (some .int) ∈ e_tb := e_memw (i := 8) (j := 76) rfl rfl
theorem e_cw303 : Cond.code ⟨"HexCampaignModel", "readMap", "()I"⟩ prog_14_method_81_code 7 (some .int) ∈ e_tb := e_memw (i := 8) (j := 64) rfl rfl
theorem e_cw304 : Cond.code ⟨"HexCampaignModel", "text", "(I)C"⟩ prog_14_method_82_code 3 (some .char) ∈ e_tb := e_memw (i := 8) (j := 80) rfl rfl
theorem e_cw305 : Cond.code ⟨"HexCampaignModel", "undo", "()I"⟩ prog_14_method_83_code 1 (some .int) ∈ e_tb := e_memw (i := 8) (j := 84) rfl rfl
theorem e_cw306 : Cond.code ⟨"HexCampaignModel", "save", "()I"⟩ prog_14_method_84_code 1 (some .int) ∈ e_tb := e_memw (i := 8) (j := 88) rfl rfl
theorem e_cw307 : Cond.code ⟨"HexCampaignModel", "restore", "()I"⟩ prog_14_method_85_code 1 (some .int) ∈ e_tb := e_memw (i := 8) (j := 92) rfl rfl
theorem e_cwa0 : ∀ w ∈ (e_cwords.drop 0).take 22, w ∈ e_tb := List.forall_mem_cons.mpr ⟨e_cw0, List.forall_mem_cons.mpr ⟨e_cw1, List.forall_mem_cons.mpr ⟨e_cw2, List.forall_mem_cons.mpr ⟨e_cw3, List.forall_mem_cons.mpr ⟨e_cw4, List.forall_mem_cons.mpr ⟨e_cw5, List.forall_mem_cons.mpr ⟨e_cw6, List.forall_mem_cons.mpr ⟨e_cw7, List.forall_mem_cons.mpr ⟨e_cw8, List.forall_mem_cons.mpr ⟨e_cw9, List.forall_mem_cons.mpr ⟨e_cw10, List.forall_mem_cons.mpr ⟨e_cw11, List.forall_mem_cons.mpr ⟨e_cw12, List.forall_mem_cons.mpr ⟨e_cw13, List.forall_mem_cons.mpr ⟨e_cw14, List.forall_mem_cons.mpr ⟨e_cw15, List.forall_mem_cons.mpr ⟨e_cw16, List.forall_mem_cons.mpr ⟨e_cw17, List.forall_mem_cons.mpr ⟨e_cw18, List.forall_mem_cons.mpr ⟨e_cw19, List.forall_mem_cons.mpr ⟨e_cw20, List.forall_mem_cons.mpr ⟨e_cw21, fun _ h => absurd h List.not_mem_nil⟩⟩⟩⟩⟩⟩⟩⟩⟩⟩⟩⟩⟩⟩⟩⟩⟩⟩⟩⟩⟩⟩
theorem e_cwa1 : ∀ w ∈ (e_cwords.drop 22).take 22, w ∈ e_tb := List.forall_mem_cons.mpr ⟨e_cw22, List.forall_mem_cons.mpr ⟨e_cw23, List.forall_mem_cons.mpr ⟨e_cw24, List.forall_mem_cons.mpr ⟨e_cw25, List.forall_mem_cons.mpr ⟨e_cw26, List.forall_mem_cons.mpr ⟨e_cw27, List.forall_mem_cons.mpr ⟨e_cw28, List.forall_mem_cons.mpr ⟨e_cw29, List.forall_mem_cons.mpr ⟨e_cw30, List.forall_mem_cons.mpr ⟨e_cw31, List.forall_mem_cons.mpr ⟨e_cw32, List.forall_mem_cons.mpr ⟨e_cw33, List.forall_mem_cons.mpr ⟨e_cw34, List.forall_mem_cons.mpr ⟨e_cw35, List.forall_mem_cons.mpr ⟨e_cw36, List.forall_mem_cons.mpr ⟨e_cw37, List.forall_mem_cons.mpr ⟨e_cw38, List.forall_mem_cons.mpr ⟨e_cw39, List.forall_mem_cons.mpr ⟨e_cw40, List.forall_mem_cons.mpr ⟨e_cw41, List.forall_mem_cons.mpr ⟨e_cw42, List.forall_mem_cons.mpr ⟨e_cw43, fun _ h => absurd h List.not_mem_nil⟩⟩⟩⟩⟩⟩⟩⟩⟩⟩⟩⟩⟩⟩⟩⟩⟩⟩⟩⟩⟩⟩
theorem e_cwa2 : ∀ w ∈ (e_cwords.drop 44).take 22, w ∈ e_tb := List.forall_mem_cons.mpr ⟨e_cw44, List.forall_mem_cons.mpr ⟨e_cw45, List.forall_mem_cons.mpr ⟨e_cw46, List.forall_mem_cons.mpr ⟨e_cw47, List.forall_mem_cons.mpr ⟨e_cw48, List.forall_mem_cons.mpr ⟨e_cw49, List.forall_mem_cons.mpr ⟨e_cw50, List.forall_mem_cons.mpr ⟨e_cw51, List.forall_mem_cons.mpr ⟨e_cw52, List.forall_mem_cons.mpr ⟨e_cw53, List.forall_mem_cons.mpr ⟨e_cw54, List.forall_mem_cons.mpr ⟨e_cw55, List.forall_mem_cons.mpr ⟨e_cw56, List.forall_mem_cons.mpr ⟨e_cw57, List.forall_mem_cons.mpr ⟨e_cw58, List.forall_mem_cons.mpr ⟨e_cw59, List.forall_mem_cons.mpr ⟨e_cw60, List.forall_mem_cons.mpr ⟨e_cw61, List.forall_mem_cons.mpr ⟨e_cw62, List.forall_mem_cons.mpr ⟨e_cw63, List.forall_mem_cons.mpr ⟨e_cw64, List.forall_mem_cons.mpr ⟨e_cw65, fun _ h => absurd h List.not_mem_nil⟩⟩⟩⟩⟩⟩⟩⟩⟩⟩⟩⟩⟩⟩⟩⟩⟩⟩⟩⟩⟩⟩
theorem e_cwa3 : ∀ w ∈ (e_cwords.drop 66).take 22, w ∈ e_tb := List.forall_mem_cons.mpr ⟨e_cw66, List.forall_mem_cons.mpr ⟨e_cw67, List.forall_mem_cons.mpr ⟨e_cw68, List.forall_mem_cons.mpr ⟨e_cw69, List.forall_mem_cons.mpr ⟨e_cw70, List.forall_mem_cons.mpr ⟨e_cw71, List.forall_mem_cons.mpr ⟨e_cw72, List.forall_mem_cons.mpr ⟨e_cw73, List.forall_mem_cons.mpr ⟨e_cw74, List.forall_mem_cons.mpr ⟨e_cw75, List.forall_mem_cons.mpr ⟨e_cw76, List.forall_mem_cons.mpr ⟨e_cw77, List.forall_mem_cons.mpr ⟨e_cw78, List.forall_mem_cons.mpr ⟨e_cw79, List.forall_mem_cons.mpr ⟨e_cw80, List.forall_mem_cons.mpr ⟨e_cw81, List.forall_mem_cons.mpr ⟨e_cw82, List.forall_mem_cons.mpr ⟨e_cw83, List.forall_mem_cons.mpr ⟨e_cw84, List.forall_mem_cons.mpr ⟨e_cw85, List.forall_mem_cons.mpr ⟨e_cw86, List.forall_mem_cons.mpr ⟨e_cw87, fun _ h => absurd h List.not_mem_nil⟩⟩⟩⟩⟩⟩⟩⟩⟩⟩⟩⟩⟩⟩⟩⟩⟩⟩⟩⟩⟩⟩
theorem e_cwa4 : ∀ w ∈ (e_cwords.drop 88).take 22, w ∈ e_tb := List.forall_mem_cons.mpr ⟨e_cw88, List.forall_mem_cons.mpr ⟨e_cw89, List.forall_mem_cons.mpr ⟨e_cw90, List.forall_mem_cons.mpr ⟨e_cw91, List.forall_mem_cons.mpr ⟨e_cw92, List.forall_mem_cons.mpr ⟨e_cw93, List.forall_mem_cons.mpr ⟨e_cw94, List.forall_mem_cons.mpr ⟨e_cw95, List.forall_mem_cons.mpr ⟨e_cw96, List.forall_mem_cons.mpr ⟨e_cw97, List.forall_mem_cons.mpr ⟨e_cw98, List.forall_mem_cons.mpr ⟨e_cw99, List.forall_mem_cons.mpr ⟨e_cw100, List.forall_mem_cons.mpr ⟨e_cw101, List.forall_mem_cons.mpr ⟨e_cw102, List.forall_mem_cons.mpr ⟨e_cw103, List.forall_mem_cons.mpr ⟨e_cw104, List.forall_mem_cons.mpr ⟨e_cw105, List.forall_mem_cons.mpr ⟨e_cw106, List.forall_mem_cons.mpr ⟨e_cw107, List.forall_mem_cons.mpr ⟨e_cw108, List.forall_mem_cons.mpr ⟨e_cw109, fun _ h => absurd h List.not_mem_nil⟩⟩⟩⟩⟩⟩⟩⟩⟩⟩⟩⟩⟩⟩⟩⟩⟩⟩⟩⟩⟩⟩
theorem e_cwa5 : ∀ w ∈ (e_cwords.drop 110).take 22, w ∈ e_tb := List.forall_mem_cons.mpr ⟨e_cw110, List.forall_mem_cons.mpr ⟨e_cw111, List.forall_mem_cons.mpr ⟨e_cw112, List.forall_mem_cons.mpr ⟨e_cw113, List.forall_mem_cons.mpr ⟨e_cw114, List.forall_mem_cons.mpr ⟨e_cw115, List.forall_mem_cons.mpr ⟨e_cw116, List.forall_mem_cons.mpr ⟨e_cw117, List.forall_mem_cons.mpr ⟨e_cw118, List.forall_mem_cons.mpr ⟨e_cw119, List.forall_mem_cons.mpr ⟨e_cw120, List.forall_mem_cons.mpr ⟨e_cw121, List.forall_mem_cons.mpr ⟨e_cw122, List.forall_mem_cons.mpr ⟨e_cw123, List.forall_mem_cons.mpr ⟨e_cw124, List.forall_mem_cons.mpr ⟨e_cw125, List.forall_mem_cons.mpr ⟨e_cw126, List.forall_mem_cons.mpr ⟨e_cw127, List.forall_mem_cons.mpr ⟨e_cw128, List.forall_mem_cons.mpr ⟨e_cw129, List.forall_mem_cons.mpr ⟨e_cw130, List.forall_mem_cons.mpr ⟨e_cw131, fun _ h => absurd h List.not_mem_nil⟩⟩⟩⟩⟩⟩⟩⟩⟩⟩⟩⟩⟩⟩⟩⟩⟩⟩⟩⟩⟩⟩
theorem e_cwa6 : ∀ w ∈ (e_cwords.drop 132).take 22, w ∈ e_tb := List.forall_mem_cons.mpr ⟨e_cw132, List.forall_mem_cons.mpr ⟨e_cw133, List.forall_mem_cons.mpr ⟨e_cw134, List.forall_mem_cons.mpr ⟨e_cw135, List.forall_mem_cons.mpr ⟨e_cw136, List.forall_mem_cons.mpr ⟨e_cw137, List.forall_mem_cons.mpr ⟨e_cw138, List.forall_mem_cons.mpr ⟨e_cw139, List.forall_mem_cons.mpr ⟨e_cw140, List.forall_mem_cons.mpr ⟨e_cw141, List.forall_mem_cons.mpr ⟨e_cw142, List.forall_mem_cons.mpr ⟨e_cw143, List.forall_mem_cons.mpr ⟨e_cw144, List.forall_mem_cons.mpr ⟨e_cw145, List.forall_mem_cons.mpr ⟨e_cw146, List.forall_mem_cons.mpr ⟨e_cw147, List.forall_mem_cons.mpr ⟨e_cw148, List.forall_mem_cons.mpr ⟨e_cw149, List.forall_mem_cons.mpr ⟨e_cw150, List.forall_mem_cons.mpr ⟨e_cw151, List.forall_mem_cons.mpr ⟨e_cw152, List.forall_mem_cons.mpr ⟨e_cw153, fun _ h => absurd h List.not_mem_nil⟩⟩⟩⟩⟩⟩⟩⟩⟩⟩⟩⟩⟩⟩⟩⟩⟩⟩⟩⟩⟩⟩
theorem e_cwa7 : ∀ w ∈ (e_cwords.drop 154).take 22, w ∈ e_tb := List.forall_mem_cons.mpr ⟨e_cw154, List.forall_mem_cons.mpr ⟨e_cw155, List.forall_mem_cons.mpr ⟨e_cw156, List.forall_mem_cons.mpr ⟨e_cw157, List.forall_mem_cons.mpr ⟨e_cw158, List.forall_mem_cons.mpr ⟨e_cw159, List.forall_mem_cons.mpr ⟨e_cw160, List.forall_mem_cons.mpr ⟨e_cw161, List.forall_mem_cons.mpr ⟨e_cw162, List.forall_mem_cons.mpr ⟨e_cw163, List.forall_mem_cons.mpr ⟨e_cw164, List.forall_mem_cons.mpr ⟨e_cw165, List.forall_mem_cons.mpr ⟨e_cw166, List.forall_mem_cons.mpr ⟨e_cw167, List.forall_mem_cons.mpr ⟨e_cw168, List.forall_mem_cons.mpr ⟨e_cw169, List.forall_mem_cons.mpr ⟨e_cw170, List.forall_mem_cons.mpr ⟨e_cw171, List.forall_mem_cons.mpr ⟨e_cw172, List.forall_mem_cons.mpr ⟨e_cw173, List.forall_mem_cons.mpr ⟨e_cw174, List.forall_mem_cons.mpr ⟨e_cw175, fun _ h => absurd h List.not_mem_nil⟩⟩⟩⟩⟩⟩⟩⟩⟩⟩⟩⟩⟩⟩⟩⟩⟩⟩⟩⟩⟩⟩
theorem e_cwa8 : ∀ w ∈ (e_cwords.drop 176).take 22, w ∈ e_tb := List.forall_mem_cons.mpr ⟨e_cw176, List.forall_mem_cons.mpr ⟨e_cw177, List.forall_mem_cons.mpr ⟨e_cw178, List.forall_mem_cons.mpr ⟨e_cw179, List.forall_mem_cons.mpr ⟨e_cw180, List.forall_mem_cons.mpr ⟨e_cw181, List.forall_mem_cons.mpr ⟨e_cw182, List.forall_mem_cons.mpr ⟨e_cw183, List.forall_mem_cons.mpr ⟨e_cw184, List.forall_mem_cons.mpr ⟨e_cw185, List.forall_mem_cons.mpr ⟨e_cw186, List.forall_mem_cons.mpr ⟨e_cw187, List.forall_mem_cons.mpr ⟨e_cw188, List.forall_mem_cons.mpr ⟨e_cw189, List.forall_mem_cons.mpr ⟨e_cw190, List.forall_mem_cons.mpr ⟨e_cw191, List.forall_mem_cons.mpr ⟨e_cw192, List.forall_mem_cons.mpr ⟨e_cw193, List.forall_mem_cons.mpr ⟨e_cw194, List.forall_mem_cons.mpr ⟨e_cw195, List.forall_mem_cons.mpr ⟨e_cw196, List.forall_mem_cons.mpr ⟨e_cw197, fun _ h => absurd h List.not_mem_nil⟩⟩⟩⟩⟩⟩⟩⟩⟩⟩⟩⟩⟩⟩⟩⟩⟩⟩⟩⟩⟩⟩
theorem e_cwa9 : ∀ w ∈ (e_cwords.drop 198).take 22, w ∈ e_tb := List.forall_mem_cons.mpr ⟨e_cw198, List.forall_mem_cons.mpr ⟨e_cw199, List.forall_mem_cons.mpr ⟨e_cw200, List.forall_mem_cons.mpr ⟨e_cw201, List.forall_mem_cons.mpr ⟨e_cw202, List.forall_mem_cons.mpr ⟨e_cw203, List.forall_mem_cons.mpr ⟨e_cw204, List.forall_mem_cons.mpr ⟨e_cw205, List.forall_mem_cons.mpr ⟨e_cw206, List.forall_mem_cons.mpr ⟨e_cw207, List.forall_mem_cons.mpr ⟨e_cw208, List.forall_mem_cons.mpr ⟨e_cw209, List.forall_mem_cons.mpr ⟨e_cw210, List.forall_mem_cons.mpr ⟨e_cw211, List.forall_mem_cons.mpr ⟨e_cw212, List.forall_mem_cons.mpr ⟨e_cw213, List.forall_mem_cons.mpr ⟨e_cw214, List.forall_mem_cons.mpr ⟨e_cw215, List.forall_mem_cons.mpr ⟨e_cw216, List.forall_mem_cons.mpr ⟨e_cw217, List.forall_mem_cons.mpr ⟨e_cw218, List.forall_mem_cons.mpr ⟨e_cw219, fun _ h => absurd h List.not_mem_nil⟩⟩⟩⟩⟩⟩⟩⟩⟩⟩⟩⟩⟩⟩⟩⟩⟩⟩⟩⟩⟩⟩
theorem e_cwa10 : ∀ w ∈ (e_cwords.drop 220).take 22, w ∈ e_tb := List.forall_mem_cons.mpr ⟨e_cw220, List.forall_mem_cons.mpr ⟨e_cw221, List.forall_mem_cons.mpr ⟨e_cw222, List.forall_mem_cons.mpr ⟨e_cw223, List.forall_mem_cons.mpr ⟨e_cw224, List.forall_mem_cons.mpr ⟨e_cw225, List.forall_mem_cons.mpr ⟨e_cw226, List.forall_mem_cons.mpr ⟨e_cw227, List.forall_mem_cons.mpr ⟨e_cw228, List.forall_mem_cons.mpr ⟨e_cw229, List.forall_mem_cons.mpr ⟨e_cw230, List.forall_mem_cons.mpr ⟨e_cw231, List.forall_mem_cons.mpr ⟨e_cw232, List.forall_mem_cons.mpr ⟨e_cw233, List.forall_mem_cons.mpr ⟨e_cw234, List.forall_mem_cons.mpr ⟨e_cw235, List.forall_mem_cons.mpr ⟨e_cw236, List.forall_mem_cons.mpr ⟨e_cw237, List.forall_mem_cons.mpr ⟨e_cw238, List.forall_mem_cons.mpr ⟨e_cw239, List.forall_mem_cons.mpr ⟨e_cw240, List.forall_mem_cons.mpr ⟨e_cw241, fun _ h => absurd h List.not_mem_nil⟩⟩⟩⟩⟩⟩⟩⟩⟩⟩⟩⟩⟩⟩⟩⟩⟩⟩⟩⟩⟩⟩
theorem e_cwa11 : ∀ w ∈ (e_cwords.drop 242).take 22, w ∈ e_tb := List.forall_mem_cons.mpr ⟨e_cw242, List.forall_mem_cons.mpr ⟨e_cw243, List.forall_mem_cons.mpr ⟨e_cw244, List.forall_mem_cons.mpr ⟨e_cw245, List.forall_mem_cons.mpr ⟨e_cw246, List.forall_mem_cons.mpr ⟨e_cw247, List.forall_mem_cons.mpr ⟨e_cw248, List.forall_mem_cons.mpr ⟨e_cw249, List.forall_mem_cons.mpr ⟨e_cw250, List.forall_mem_cons.mpr ⟨e_cw251, List.forall_mem_cons.mpr ⟨e_cw252, List.forall_mem_cons.mpr ⟨e_cw253, List.forall_mem_cons.mpr ⟨e_cw254, List.forall_mem_cons.mpr ⟨e_cw255, List.forall_mem_cons.mpr ⟨e_cw256, List.forall_mem_cons.mpr ⟨e_cw257, List.forall_mem_cons.mpr ⟨e_cw258, List.forall_mem_cons.mpr ⟨e_cw259, List.forall_mem_cons.mpr ⟨e_cw260, List.forall_mem_cons.mpr ⟨e_cw261, List.forall_mem_cons.mpr ⟨e_cw262, List.forall_mem_cons.mpr ⟨e_cw263, fun _ h => absurd h List.not_mem_nil⟩⟩⟩⟩⟩⟩⟩⟩⟩⟩⟩⟩⟩⟩⟩⟩⟩⟩⟩⟩⟩⟩
theorem e_cwa12 : ∀ w ∈ (e_cwords.drop 264).take 22, w ∈ e_tb := List.forall_mem_cons.mpr ⟨e_cw264, List.forall_mem_cons.mpr ⟨e_cw265, List.forall_mem_cons.mpr ⟨e_cw266, List.forall_mem_cons.mpr ⟨e_cw267, List.forall_mem_cons.mpr ⟨e_cw268, List.forall_mem_cons.mpr ⟨e_cw269, List.forall_mem_cons.mpr ⟨e_cw270, List.forall_mem_cons.mpr ⟨e_cw271, List.forall_mem_cons.mpr ⟨e_cw272, List.forall_mem_cons.mpr ⟨e_cw273, List.forall_mem_cons.mpr ⟨e_cw274, List.forall_mem_cons.mpr ⟨e_cw275, List.forall_mem_cons.mpr ⟨e_cw276, List.forall_mem_cons.mpr ⟨e_cw277, List.forall_mem_cons.mpr ⟨e_cw278, List.forall_mem_cons.mpr ⟨e_cw279, List.forall_mem_cons.mpr ⟨e_cw280, List.forall_mem_cons.mpr ⟨e_cw281, List.forall_mem_cons.mpr ⟨e_cw282, List.forall_mem_cons.mpr ⟨e_cw283, List.forall_mem_cons.mpr ⟨e_cw284, List.forall_mem_cons.mpr ⟨e_cw285, fun _ h => absurd h List.not_mem_nil⟩⟩⟩⟩⟩⟩⟩⟩⟩⟩⟩⟩⟩⟩⟩⟩⟩⟩⟩⟩⟩⟩
theorem e_cwa13 : ∀ w ∈ (e_cwords.drop 286).take 22, w ∈ e_tb := List.forall_mem_cons.mpr ⟨e_cw286, List.forall_mem_cons.mpr ⟨e_cw287, List.forall_mem_cons.mpr ⟨e_cw288, List.forall_mem_cons.mpr ⟨e_cw289, List.forall_mem_cons.mpr ⟨e_cw290, List.forall_mem_cons.mpr ⟨e_cw291, List.forall_mem_cons.mpr ⟨e_cw292, List.forall_mem_cons.mpr ⟨e_cw293, List.forall_mem_cons.mpr ⟨e_cw294, List.forall_mem_cons.mpr ⟨e_cw295, List.forall_mem_cons.mpr ⟨e_cw296, List.forall_mem_cons.mpr ⟨e_cw297, List.forall_mem_cons.mpr ⟨e_cw298, List.forall_mem_cons.mpr ⟨e_cw299, List.forall_mem_cons.mpr ⟨e_cw300, List.forall_mem_cons.mpr ⟨e_cw301, List.forall_mem_cons.mpr ⟨e_cw302, List.forall_mem_cons.mpr ⟨e_cw303, List.forall_mem_cons.mpr ⟨e_cw304, List.forall_mem_cons.mpr ⟨e_cw305, List.forall_mem_cons.mpr ⟨e_cw306, List.forall_mem_cons.mpr ⟨e_cw307, fun _ h => absurd h List.not_mem_nil⟩⟩⟩⟩⟩⟩⟩⟩⟩⟩⟩⟩⟩⟩⟩⟩⟩⟩⟩⟩⟩⟩
theorem e_uw0 : ∀ w ∈ u_ws "HexCampaign$Land" (e_T e_f0) 3, w ∈ e_tb := List.forall_mem_cons.mpr ⟨e_memw (i := 1) (j := 60) rfl rfl, List.forall_mem_cons.mpr ⟨e_memw (i := 1) (j := 62) rfl rfl, List.forall_mem_cons.mpr ⟨e_memw (i := 1) (j := 64) rfl rfl, fun _ h => absurd h List.not_mem_nil⟩⟩⟩
theorem e_un0 : ∀ a, a < 3 → ∀ b, b < 3 → a ≠ b → (e_T e_f0 a).2.1 ≠ (e_T e_f0 b).2.1 := by decide +kernel
theorem e_ut0 : ∀ k, k < 3 → (parseFieldDescriptor (e_T e_f0 k).2.2.1).isSome = true := by decide +kernel
theorem e_uw1 : ∀ w ∈ u_ws "HexCampaign$Units" (e_T e_f1) 12, w ∈ e_tb := List.forall_mem_cons.mpr ⟨e_memw (i := 1) (j := 86) rfl rfl, List.forall_mem_cons.mpr ⟨e_memw (i := 1) (j := 88) rfl rfl, List.forall_mem_cons.mpr ⟨e_memw (i := 1) (j := 90) rfl rfl, List.forall_mem_cons.mpr ⟨e_memw (i := 1) (j := 92) rfl rfl, List.forall_mem_cons.mpr ⟨e_memw (i := 1) (j := 94) rfl rfl, List.forall_mem_cons.mpr ⟨e_memw (i := 1) (j := 96) rfl rfl, List.forall_mem_cons.mpr ⟨e_memw (i := 1) (j := 98) rfl rfl, List.forall_mem_cons.mpr ⟨e_memw (i := 1) (j := 100) rfl rfl, List.forall_mem_cons.mpr ⟨e_memw (i := 1) (j := 102) rfl rfl, List.forall_mem_cons.mpr ⟨e_memw (i := 1) (j := 104) rfl rfl, List.forall_mem_cons.mpr ⟨e_memw (i := 1) (j := 106) rfl rfl, List.forall_mem_cons.mpr ⟨e_memw (i := 1) (j := 108) rfl rfl, fun _ h => absurd h List.not_mem_nil⟩⟩⟩⟩⟩⟩⟩⟩⟩⟩⟩⟩
theorem e_un1 : ∀ a, a < 12 → ∀ b, b < 12 → a ≠ b → (e_T e_f1 a).2.1 ≠ (e_T e_f1 b).2.1 := by decide +kernel
theorem e_ut1 : ∀ k, k < 12 → (parseFieldDescriptor (e_T e_f1 k).2.2.1).isSome = true := by decide +kernel
theorem e_uw2 : ∀ w ∈ u_ws "HexCampaign$Game" (e_T e_f2) 9, w ∈ e_tb := List.forall_mem_cons.mpr ⟨e_memw (i := 1) (j := 136) rfl rfl, List.forall_mem_cons.mpr ⟨e_memw (i := 1) (j := 138) rfl rfl, List.forall_mem_cons.mpr ⟨e_memw (i := 1) (j := 140) rfl rfl, List.forall_mem_cons.mpr ⟨e_memw (i := 1) (j := 142) rfl rfl, List.forall_mem_cons.mpr ⟨e_memw (i := 1) (j := 144) rfl rfl, List.forall_mem_cons.mpr ⟨e_memw (i := 1) (j := 146) rfl rfl, List.forall_mem_cons.mpr ⟨e_memw (i := 1) (j := 148) rfl rfl, List.forall_mem_cons.mpr ⟨e_memw (i := 1) (j := 150) rfl rfl, List.forall_mem_cons.mpr ⟨e_memw (i := 1) (j := 152) rfl rfl, fun _ h => absurd h List.not_mem_nil⟩⟩⟩⟩⟩⟩⟩⟩⟩
theorem e_un2 : ∀ a, a < 9 → ∀ b, b < 9 → a ≠ b → (e_T e_f2 a).2.1 ≠ (e_T e_f2 b).2.1 := by decide +kernel
theorem e_ut2 : ∀ k, k < 9 → (parseFieldDescriptor (e_T e_f2 k).2.2.1).isSome = true := by decide +kernel
theorem e_uw3 : ∀ w ∈ u_ws "HexCampaign$Waves" (e_T e_f3) 8, w ∈ e_tb := List.forall_mem_cons.mpr ⟨e_memw (i := 1) (j := 169) rfl rfl, List.forall_mem_cons.mpr ⟨e_memw (i := 1) (j := 171) rfl rfl, List.forall_mem_cons.mpr ⟨e_memw (i := 1) (j := 173) rfl rfl, List.forall_mem_cons.mpr ⟨e_memw (i := 1) (j := 175) rfl rfl, List.forall_mem_cons.mpr ⟨e_memw (i := 1) (j := 177) rfl rfl, List.forall_mem_cons.mpr ⟨e_memw (i := 1) (j := 179) rfl rfl, List.forall_mem_cons.mpr ⟨e_memw (i := 1) (j := 181) rfl rfl, List.forall_mem_cons.mpr ⟨e_memw (i := 1) (j := 183) rfl rfl, fun _ h => absurd h List.not_mem_nil⟩⟩⟩⟩⟩⟩⟩⟩
theorem e_un3 : ∀ a, a < 8 → ∀ b, b < 8 → a ≠ b → (e_T e_f3 a).2.1 ≠ (e_T e_f3 b).2.1 := by decide +kernel
theorem e_ut3 : ∀ k, k < 8 → (parseFieldDescriptor (e_T e_f3 k).2.2.1).isSome = true := by decide +kernel
theorem e_uw4 : ∀ w ∈ u_ws "HexCampaign$Play" (e_T e_f4) 5, w ∈ e_tb := List.forall_mem_cons.mpr ⟨e_memw (i := 1) (j := 192) rfl rfl, List.forall_mem_cons.mpr ⟨e_memw (i := 1) (j := 194) rfl rfl, List.forall_mem_cons.mpr ⟨e_memw (i := 1) (j := 196) rfl rfl, List.forall_mem_cons.mpr ⟨e_memw (i := 1) (j := 198) rfl rfl, List.forall_mem_cons.mpr ⟨e_memw (i := 1) (j := 200) rfl rfl, fun _ h => absurd h List.not_mem_nil⟩⟩⟩⟩⟩
theorem e_un4 : ∀ a, a < 5 → ∀ b, b < 5 → a ≠ b → (e_T e_f4 a).2.1 ≠ (e_T e_f4 b).2.1 := by decide +kernel
theorem e_ut4 : ∀ k, k < 5 → (parseFieldDescriptor (e_T e_f4 k).2.2.1).isSome = true := by decide +kernel
theorem e_uw5 : ∀ w ∈ u_ws "HexCampaign$History" (e_T e_f5) 3, w ∈ e_tb := List.forall_mem_cons.mpr ⟨e_memw (i := 1) (j := 217) rfl rfl, List.forall_mem_cons.mpr ⟨e_memw (i := 1) (j := 219) rfl rfl, List.forall_mem_cons.mpr ⟨e_memw (i := 1) (j := 221) rfl rfl, fun _ h => absurd h List.not_mem_nil⟩⟩⟩
theorem e_un5 : ∀ a, a < 3 → ∀ b, b < 3 → a ≠ b → (e_T e_f5 a).2.1 ≠ (e_T e_f5 b).2.1 := by decide +kernel
theorem e_ut5 : ∀ k, k < 3 → (parseFieldDescriptor (e_T e_f5 k).2.2.1).isSome = true := by decide +kernel
theorem e_uw6 : ∀ w ∈ u_ws "HexCampaign$Report" (e_T e_f6) 3, w ∈ e_tb := List.forall_mem_cons.mpr ⟨e_memw (i := 1) (j := 233) rfl rfl, List.forall_mem_cons.mpr ⟨e_memw (i := 1) (j := 235) rfl rfl, List.forall_mem_cons.mpr ⟨e_memw (i := 1) (j := 237) rfl rfl, fun _ h => absurd h List.not_mem_nil⟩⟩⟩
theorem e_un6 : ∀ a, a < 3 → ∀ b, b < 3 → a ≠ b → (e_T e_f6 a).2.1 ≠ (e_T e_f6 b).2.1 := by decide +kernel
theorem e_ut6 : ∀ k, k < 3 → (parseFieldDescriptor (e_T e_f6 k).2.2.1).isSome = true := by decide +kernel
theorem e_uw7 : ∀ w ∈ u_ws "HexCampaign$MapInput" (e_T e_f7) 2, w ∈ e_tb := List.forall_mem_cons.mpr ⟨e_memw (i := 2) (j := 8) rfl rfl, List.forall_mem_cons.mpr ⟨e_memw (i := 2) (j := 10) rfl rfl, fun _ h => absurd h List.not_mem_nil⟩⟩
theorem e_un7 : ∀ a, a < 2 → ∀ b, b < 2 → a ≠ b → (e_T e_f7 a).2.1 ≠ (e_T e_f7 b).2.1 := by decide +kernel
theorem e_ut7 : ∀ k, k < 2 → (parseFieldDescriptor (e_T e_f7 k).2.2.1).isSome = true := by decide +kernel
theorem e_uw8 : ∀ w ∈ u_ws "HexCampaign" (e_T e_f8) 7, w ∈ e_tb := List.forall_mem_cons.mpr ⟨e_memw (i := 2) (j := 41) rfl rfl, List.forall_mem_cons.mpr ⟨e_memw (i := 2) (j := 43) rfl rfl, List.forall_mem_cons.mpr ⟨e_memw (i := 2) (j := 45) rfl rfl, List.forall_mem_cons.mpr ⟨e_memw (i := 2) (j := 47) rfl rfl, List.forall_mem_cons.mpr ⟨e_memw (i := 2) (j := 49) rfl rfl, List.forall_mem_cons.mpr ⟨e_memw (i := 2) (j := 51) rfl rfl, List.forall_mem_cons.mpr ⟨e_memw (i := 2) (j := 53) rfl rfl, fun _ h => absurd h List.not_mem_nil⟩⟩⟩⟩⟩⟩⟩
theorem e_un8 : ∀ a, a < 7 → ∀ b, b < 7 → a ≠ b → (e_T e_f8 a).2.1 ≠ (e_T e_f8 b).2.1 := by decide +kernel
theorem e_ut8 : ∀ k, k < 7 → (parseFieldDescriptor (e_T e_f8 k).2.2.1).isSome = true := by decide +kernel
theorem e_uw9 : ∀ w ∈ u_ws "HexCampaignModel" (e_T e_f9) 18, w ∈ e_tb := List.forall_mem_cons.mpr ⟨e_memw (i := 6) (j := 193) rfl rfl, List.forall_mem_cons.mpr ⟨e_memw (i := 6) (j := 195) rfl rfl, List.forall_mem_cons.mpr ⟨e_memw (i := 6) (j := 197) rfl rfl, List.forall_mem_cons.mpr ⟨e_memw (i := 6) (j := 199) rfl rfl, List.forall_mem_cons.mpr ⟨e_memw (i := 6) (j := 201) rfl rfl, List.forall_mem_cons.mpr ⟨e_memw (i := 6) (j := 203) rfl rfl, List.forall_mem_cons.mpr ⟨e_memw (i := 6) (j := 205) rfl rfl, List.forall_mem_cons.mpr ⟨e_memw (i := 6) (j := 207) rfl rfl, List.forall_mem_cons.mpr ⟨e_memw (i := 6) (j := 209) rfl rfl, List.forall_mem_cons.mpr ⟨e_memw (i := 6) (j := 211) rfl rfl, List.forall_mem_cons.mpr ⟨e_memw (i := 6) (j := 213) rfl rfl, List.forall_mem_cons.mpr ⟨e_memw (i := 6) (j := 215) rfl rfl, List.forall_mem_cons.mpr ⟨e_memw (i := 6) (j := 217) rfl rfl, List.forall_mem_cons.mpr ⟨e_memw (i := 6) (j := 219) rfl rfl, List.forall_mem_cons.mpr ⟨e_memw (i := 6) (j := 221) rfl rfl, List.forall_mem_cons.mpr ⟨e_memw (i := 6) (j := 223) rfl rfl, List.forall_mem_cons.mpr ⟨e_memw (i := 6) (j := 225) rfl rfl, List.forall_mem_cons.mpr ⟨e_memw (i := 6) (j := 227) rfl rfl, fun _ h => absurd h List.not_mem_nil⟩⟩⟩⟩⟩⟩⟩⟩⟩⟩⟩⟩⟩⟩⟩⟩⟩⟩
theorem e_un9 : ∀ a, a < 18 → ∀ b, b < 18 → a ≠ b → (e_T e_f9 a).2.1 ≠ (e_T e_f9 b).2.1 := by decide +kernel
theorem e_ut9 : ∀ k, k < 18 → (parseFieldDescriptor (e_T e_f9 k).2.2.1).isSome = true := by decide +kernel
theorem e_clw : ∀ (ci : Nat), ci < e_cls.length → ∀ w ∈ u_ws (e_cN ci) (e_cT ci) (e_cK ci), w ∈ e_tb
  | 0, _ => e_uw0
  | 1, _ => e_uw1
  | 2, _ => e_uw2
  | 3, _ => e_uw3
  | 4, _ => e_uw4
  | 5, _ => e_uw5
  | 6, _ => e_uw6
  | 7, _ => e_uw7
  | 8, _ => e_uw8
  | 9, _ => e_uw9
  | (n + 10), h => absurd h (by simp [e_cls])

theorem e_cln : ∀ (ci : Nat), ci < e_cls.length → ∀ a, a < e_cK ci → ∀ b, b < e_cK ci → a ≠ b → (e_cT ci a).2.1 ≠ (e_cT ci b).2.1
  | 0, _ => e_un0
  | 1, _ => e_un1
  | 2, _ => e_un2
  | 3, _ => e_un3
  | 4, _ => e_un4
  | 5, _ => e_un5
  | 6, _ => e_un6
  | 7, _ => e_un7
  | 8, _ => e_un8
  | 9, _ => e_un9
  | (n + 10), h => absurd h (by simp [e_cls])

theorem e_clt0 : ∀ (ci : Nat), ci < e_cls.length → ∀ k, k < e_cK ci → (parseFieldDescriptor (e_cT ci k).2.2.1).isSome = true
  | 0, _ => e_ut0
  | 1, _ => e_ut1
  | 2, _ => e_ut2
  | 3, _ => e_ut3
  | 4, _ => e_ut4
  | 5, _ => e_ut5
  | 6, _ => e_ut6
  | 7, _ => e_ut7
  | 8, _ => e_ut8
  | 9, _ => e_ut9
  | (n + 10), h => absurd h (by simp [e_cls])

theorem e_clt {ci : Nat} (h : ci < e_cls.length) {k : Nat} (hk : k < e_cK ci) : parseFieldDescriptor (e_cT ci k).2.2.1 = some (e_ty ci k) := by
  have h1 := e_clt0 ci h k hk
  unfold e_ty
  cases hq : parseFieldDescriptor (e_cT ci k).2.2.1 with
  | none => rw [hq] at h1; cases h1
  | some x => rfl
theorem e_clc {ci : Nat} (h : ci < e_cls.length) : e_cls[ci]? = some (e_cN ci, e_cT ci, e_cK ci) := e_getL h
/-- of each method: how many arguments, whose class it is -/
def e_mok (q : e_MD × Nat) : Bool := decide ((parseMethodDescriptor q.1.1.desc).map (fun d => d.parameters.length) = some q.2) && !(e_bad.contains q.1.1.cls)
theorem e_mk0 : (((e_prog.zip e_npl).drop 0).take 22).all e_mok = true := by decide +kernel
theorem e_mk1 : (((e_prog.zip e_npl).drop 22).take 22).all e_mok = true := by decide +kernel
theorem e_mk2 : (((e_prog.zip e_npl).drop 44).take 22).all e_mok = true := by decide +kernel
theorem e_mk3 : (((e_prog.zip e_npl).drop 66).take 22).all e_mok = true := by decide +kernel
theorem e_mk4 : (((e_prog.zip e_npl).drop 88).take 22).all e_mok = true := by decide +kernel
theorem e_mk5 : (((e_prog.zip e_npl).drop 110).take 22).all e_mok = true := by decide +kernel
theorem e_mk6 : (((e_prog.zip e_npl).drop 132).take 22).all e_mok = true := by decide +kernel
theorem e_mk7 : (((e_prog.zip e_npl).drop 154).take 22).all e_mok = true := by decide +kernel
theorem e_mk8 : (((e_prog.zip e_npl).drop 176).take 22).all e_mok = true := by decide +kernel
theorem e_mk9 : (((e_prog.zip e_npl).drop 198).take 22).all e_mok = true := by decide +kernel
theorem e_mk10 : (((e_prog.zip e_npl).drop 220).take 22).all e_mok = true := by decide +kernel
theorem e_mk11 : (((e_prog.zip e_npl).drop 242).take 22).all e_mok = true := by decide +kernel
theorem e_mk12 : (((e_prog.zip e_npl).drop 264).take 22).all e_mok = true := by decide +kernel
theorem e_mk13 : (((e_prog.zip e_npl).drop 286).take 22).all e_mok = true := by decide +kernel
theorem e_mk14 : (((e_prog.zip e_npl).drop 308).take 22).all e_mok = true := by decide +kernel
theorem e_split {α : Type} {p : α → Prop} (l : List α) (n : Nat) (h1 : ∀ w ∈ l.take n, p w) (h2 : ∀ w ∈ l.drop n, p w) : ∀ w ∈ l, p w := fun w hw => by rw [← List.take_append_drop n l] at hw; exact (List.mem_append.mp hw).elim (h1 w) (h2 w)
theorem e_drop {α : Type} {p : α → Prop} (l : List α) (n : Nat) (h : ∀ w ∈ l.drop (n + 22), p w) : ∀ w ∈ (l.drop n).drop 22, p w := by rw [List.drop_drop]; exact h
theorem e_cwords_in : ∀ w ∈ e_cwords, w ∈ e_tb := by
  refine e_split _ 22 (show ∀ w ∈ (e_cwords.drop 0).take 22, w ∈ e_tb from e_cwa0) ?_
  show ∀ w ∈ (e_cwords.drop 0).drop 22, w ∈ e_tb
  refine e_drop e_cwords 0 ?_
  refine e_split _ 22 (show ∀ w ∈ (e_cwords.drop 22).take 22, w ∈ e_tb from e_cwa1) ?_
  show ∀ w ∈ (e_cwords.drop 22).drop 22, w ∈ e_tb
  refine e_drop e_cwords 22 ?_
  refine e_split _ 22 (show ∀ w ∈ (e_cwords.drop 44).take 22, w ∈ e_tb from e_cwa2) ?_
  show ∀ w ∈ (e_cwords.drop 44).drop 22, w ∈ e_tb
  refine e_drop e_cwords 44 ?_
  refine e_split _ 22 (show ∀ w ∈ (e_cwords.drop 66).take 22, w ∈ e_tb from e_cwa3) ?_
  show ∀ w ∈ (e_cwords.drop 66).drop 22, w ∈ e_tb
  refine e_drop e_cwords 66 ?_
  refine e_split _ 22 (show ∀ w ∈ (e_cwords.drop 88).take 22, w ∈ e_tb from e_cwa4) ?_
  show ∀ w ∈ (e_cwords.drop 88).drop 22, w ∈ e_tb
  refine e_drop e_cwords 88 ?_
  refine e_split _ 22 (show ∀ w ∈ (e_cwords.drop 110).take 22, w ∈ e_tb from e_cwa5) ?_
  show ∀ w ∈ (e_cwords.drop 110).drop 22, w ∈ e_tb
  refine e_drop e_cwords 110 ?_
  refine e_split _ 22 (show ∀ w ∈ (e_cwords.drop 132).take 22, w ∈ e_tb from e_cwa6) ?_
  show ∀ w ∈ (e_cwords.drop 132).drop 22, w ∈ e_tb
  refine e_drop e_cwords 132 ?_
  refine e_split _ 22 (show ∀ w ∈ (e_cwords.drop 154).take 22, w ∈ e_tb from e_cwa7) ?_
  show ∀ w ∈ (e_cwords.drop 154).drop 22, w ∈ e_tb
  refine e_drop e_cwords 154 ?_
  refine e_split _ 22 (show ∀ w ∈ (e_cwords.drop 176).take 22, w ∈ e_tb from e_cwa8) ?_
  show ∀ w ∈ (e_cwords.drop 176).drop 22, w ∈ e_tb
  refine e_drop e_cwords 176 ?_
  refine e_split _ 22 (show ∀ w ∈ (e_cwords.drop 198).take 22, w ∈ e_tb from e_cwa9) ?_
  show ∀ w ∈ (e_cwords.drop 198).drop 22, w ∈ e_tb
  refine e_drop e_cwords 198 ?_
  refine e_split _ 22 (show ∀ w ∈ (e_cwords.drop 220).take 22, w ∈ e_tb from e_cwa10) ?_
  show ∀ w ∈ (e_cwords.drop 220).drop 22, w ∈ e_tb
  refine e_drop e_cwords 220 ?_
  refine e_split _ 22 (show ∀ w ∈ (e_cwords.drop 242).take 22, w ∈ e_tb from e_cwa11) ?_
  show ∀ w ∈ (e_cwords.drop 242).drop 22, w ∈ e_tb
  refine e_drop e_cwords 242 ?_
  refine e_split _ 22 (show ∀ w ∈ (e_cwords.drop 264).take 22, w ∈ e_tb from e_cwa12) ?_
  show ∀ w ∈ (e_cwords.drop 264).drop 22, w ∈ e_tb
  refine e_drop e_cwords 264 ?_
  exact fun w hw => e_cwa13 w (by rw [List.take_of_length_le (by decide +kernel)]; exact hw)
theorem e_mok_all : ∀ q ∈ e_prog.zip e_npl, e_mok q = true := by
  refine e_split _ 22 (show ∀ w ∈ ((e_prog.zip e_npl).drop 0).take 22, e_mok w = true from List.all_eq_true.mp e_mk0) ?_
  show ∀ w ∈ ((e_prog.zip e_npl).drop 0).drop 22, e_mok w = true
  refine e_drop (e_prog.zip e_npl) 0 ?_
  refine e_split _ 22 (show ∀ w ∈ ((e_prog.zip e_npl).drop 22).take 22, e_mok w = true from List.all_eq_true.mp e_mk1) ?_
  show ∀ w ∈ ((e_prog.zip e_npl).drop 22).drop 22, e_mok w = true
  refine e_drop (e_prog.zip e_npl) 22 ?_
  refine e_split _ 22 (show ∀ w ∈ ((e_prog.zip e_npl).drop 44).take 22, e_mok w = true from List.all_eq_true.mp e_mk2) ?_
  show ∀ w ∈ ((e_prog.zip e_npl).drop 44).drop 22, e_mok w = true
  refine e_drop (e_prog.zip e_npl) 44 ?_
  refine e_split _ 22 (show ∀ w ∈ ((e_prog.zip e_npl).drop 66).take 22, e_mok w = true from List.all_eq_true.mp e_mk3) ?_
  show ∀ w ∈ ((e_prog.zip e_npl).drop 66).drop 22, e_mok w = true
  refine e_drop (e_prog.zip e_npl) 66 ?_
  refine e_split _ 22 (show ∀ w ∈ ((e_prog.zip e_npl).drop 88).take 22, e_mok w = true from List.all_eq_true.mp e_mk4) ?_
  show ∀ w ∈ ((e_prog.zip e_npl).drop 88).drop 22, e_mok w = true
  refine e_drop (e_prog.zip e_npl) 88 ?_
  refine e_split _ 22 (show ∀ w ∈ ((e_prog.zip e_npl).drop 110).take 22, e_mok w = true from List.all_eq_true.mp e_mk5) ?_
  show ∀ w ∈ ((e_prog.zip e_npl).drop 110).drop 22, e_mok w = true
  refine e_drop (e_prog.zip e_npl) 110 ?_
  refine e_split _ 22 (show ∀ w ∈ ((e_prog.zip e_npl).drop 132).take 22, e_mok w = true from List.all_eq_true.mp e_mk6) ?_
  show ∀ w ∈ ((e_prog.zip e_npl).drop 132).drop 22, e_mok w = true
  refine e_drop (e_prog.zip e_npl) 132 ?_
  refine e_split _ 22 (show ∀ w ∈ ((e_prog.zip e_npl).drop 154).take 22, e_mok w = true from List.all_eq_true.mp e_mk7) ?_
  show ∀ w ∈ ((e_prog.zip e_npl).drop 154).drop 22, e_mok w = true
  refine e_drop (e_prog.zip e_npl) 154 ?_
  refine e_split _ 22 (show ∀ w ∈ ((e_prog.zip e_npl).drop 176).take 22, e_mok w = true from List.all_eq_true.mp e_mk8) ?_
  show ∀ w ∈ ((e_prog.zip e_npl).drop 176).drop 22, e_mok w = true
  refine e_drop (e_prog.zip e_npl) 176 ?_
  refine e_split _ 22 (show ∀ w ∈ ((e_prog.zip e_npl).drop 198).take 22, e_mok w = true from List.all_eq_true.mp e_mk9) ?_
  show ∀ w ∈ ((e_prog.zip e_npl).drop 198).drop 22, e_mok w = true
  refine e_drop (e_prog.zip e_npl) 198 ?_
  refine e_split _ 22 (show ∀ w ∈ ((e_prog.zip e_npl).drop 220).take 22, e_mok w = true from List.all_eq_true.mp e_mk10) ?_
  show ∀ w ∈ ((e_prog.zip e_npl).drop 220).drop 22, e_mok w = true
  refine e_drop (e_prog.zip e_npl) 220 ?_
  refine e_split _ 22 (show ∀ w ∈ ((e_prog.zip e_npl).drop 242).take 22, e_mok w = true from List.all_eq_true.mp e_mk11) ?_
  show ∀ w ∈ ((e_prog.zip e_npl).drop 242).drop 22, e_mok w = true
  refine e_drop (e_prog.zip e_npl) 242 ?_
  refine e_split _ 22 (show ∀ w ∈ ((e_prog.zip e_npl).drop 264).take 22, e_mok w = true from List.all_eq_true.mp e_mk12) ?_
  show ∀ w ∈ ((e_prog.zip e_npl).drop 264).drop 22, e_mok w = true
  refine e_drop (e_prog.zip e_npl) 264 ?_
  refine e_split _ 22 (show ∀ w ∈ ((e_prog.zip e_npl).drop 286).take 22, e_mok w = true from List.all_eq_true.mp e_mk13) ?_
  show ∀ w ∈ ((e_prog.zip e_npl).drop 286).drop 22, e_mok w = true
  refine e_drop (e_prog.zip e_npl) 286 ?_
  exact fun w hw => List.all_eq_true.mp e_mk14 w (by rw [List.take_of_length_le (by decide +kernel)]; exact hw)
theorem e_md_mem {z : Nat} (hz : z < 308) : e_md z ∈ e_prog.take 308 := by
  have hl : z < e_prog.length := Nat.lt_of_lt_of_le hz (by decide +kernel)
  refine List.mem_of_getElem? (i := z) ?_
  rw [List.getElem?_take_of_lt hz, List.getElem?_eq_getElem hl, e_md, e_getD hl]
theorem e_code_in {z : Nat} (hz : z < 308) : (if e_hh z = [] then Cond.code (e_nm z) (e_mb z) (e_ml z) (e_rt z) else Cond.codeWith (e_nm z) (e_mb z) (e_ml z) (e_rt z) (e_hh z)) ∈ e_tb := by
  refine e_cwords_in _ ?_
  unfold e_cwords
  exact List.mem_map.mpr ⟨e_md z, e_md_mem hz, by unfold e_cwd; rfl⟩
theorem e_zip_mem {α β : Type} {l : List α} {m : List β} {z : Nat} {a : α} {b : β} (h1 : l[z]? = some a) (h2 : m[z]? = some b) : (a, b) ∈ l.zip m := by
  refine List.mem_of_getElem? (i := z) ?_
  rw [List.getElem?_zip_eq_some]
  exact ⟨h1, h2⟩
theorem e_mok_at {z : Nat} (hz : z < 308) : (parseMethodDescriptor (e_nm z).desc).map (fun d => d.parameters.length) = some (e_npl.getD z 0) ∧ (e_nm z).cls ≠ "java/lang/invoke/MethodHandle" ∧ (e_nm z).cls ≠ "java/lang/invoke/VarHandle" := by
  have hl : z < e_prog.length := Nat.lt_of_lt_of_le hz (by decide +kernel)
  have hl2 : z < e_npl.length := Nat.lt_of_lt_of_le hz (by decide +kernel)
  have h := e_mok_all (e_md z, e_npl.getD z 0) (e_zip_mem (e_getL hl) (e_getL hl2))
  simp only [e_mok, Bool.and_eq_true, decide_eq_true_eq, Bool.not_eq_true'] at h
  refine ⟨h.1, ?_⟩
  have h3 := h.2
  simp [e_bad] at h3
  exact h3
