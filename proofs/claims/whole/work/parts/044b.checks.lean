/-! every instruction of the program is checked (1) -/
theorem e_ok62 : e_c62.all (e_ck 62) = true := by decide +kernel
set_option maxRecDepth 100000 in
theorem e_wk62 : e_wok (e_c62.flatMap (e_wds 62 (e_nm 62).cls)) := ⟨rfl, rfl⟩
theorem e_ok63 : e_c63.all (e_ck 63) = true := by decide +kernel
set_option maxRecDepth 100000 in
theorem e_wk63 : e_wok (e_c63.flatMap (e_wds 63 (e_nm 63).cls)) := ⟨rfl, rfl⟩
theorem e_ok64 : e_c64.all (e_ck 64) = true := by decide +kernel
set_option maxRecDepth 100000 in
theorem e_wk64 : e_wok (e_c64.flatMap (e_wds 64 (e_nm 64).cls)) := ⟨rfl, rfl⟩
theorem e_ok65 : e_c65.all (e_ck 65) = true := by decide +kernel
set_option maxRecDepth 100000 in
theorem e_wk65 : e_wok (e_c65.flatMap (e_wds 65 (e_nm 65).cls)) := ⟨rfl, rfl⟩
theorem e_ok66 : e_c66.all (e_ck 66) = true := by decide +kernel
set_option maxRecDepth 100000 in
theorem e_wk66 : e_wok (e_c66.flatMap (e_wds 66 (e_nm 66).cls)) := ⟨rfl, rfl⟩
theorem e_ok67 : e_c67.all (e_ck 67) = true := by decide +kernel
set_option maxRecDepth 100000 in
theorem e_wk67 : e_wok (e_c67.flatMap (e_wds 67 (e_nm 67).cls)) := ⟨rfl, rfl⟩
theorem e_ok68 : e_c68.all (e_ck 68) = true := by decide +kernel
set_option maxRecDepth 100000 in
theorem e_wk68 : e_wok (e_c68.flatMap (e_wds 68 (e_nm 68).cls)) := ⟨rfl, rfl⟩
theorem e_ok69 : e_c69.all (e_ck 69) = true := by decide +kernel
set_option maxRecDepth 100000 in
theorem e_wk69 : e_wok (e_c69.flatMap (e_wds 69 (e_nm 69).cls)) := ⟨rfl, rfl⟩
theorem e_ok70 : e_c70.all (e_ck 70) = true := by decide +kernel
set_option maxRecDepth 100000 in
theorem e_wk70 : e_wok (e_c70.flatMap (e_wds 70 (e_nm 70).cls)) := ⟨rfl, rfl⟩
theorem e_ok71 : e_c71.all (e_ck 71) = true := by decide +kernel
set_option maxRecDepth 100000 in
theorem e_wk71 : e_wok (e_c71.flatMap (e_wds 71 (e_nm 71).cls)) := ⟨rfl, rfl⟩
theorem e_ok72 : e_c72.all (e_ck 72) = true := by decide +kernel
set_option maxRecDepth 100000 in
theorem e_wk72 : e_wok (e_c72.flatMap (e_wds 72 (e_nm 72).cls)) := ⟨rfl, rfl⟩
theorem e_ok73 : e_c73.all (e_ck 73) = true := by decide +kernel
set_option maxRecDepth 100000 in
theorem e_wk73 : e_wok (e_c73.flatMap (e_wds 73 (e_nm 73).cls)) := ⟨rfl, rfl⟩
theorem e_ok74 : e_c74.all (e_ck 74) = true := by decide +kernel
set_option maxRecDepth 100000 in
theorem e_wk74 : e_wok (e_c74.flatMap (e_wds 74 (e_nm 74).cls)) := ⟨rfl, rfl⟩
theorem e_ok75 : e_c75.all (e_ck 75) = true := by decide +kernel
set_option maxRecDepth 100000 in
theorem e_wk75 : e_wok (e_c75.flatMap (e_wds 75 (e_nm 75).cls)) := ⟨rfl, rfl⟩
theorem e_ok76 : e_c76.all (e_ck 76) = true := by decide +kernel
set_option maxRecDepth 100000 in
theorem e_wk76 : e_wok (e_c76.flatMap (e_wds 76 (e_nm 76).cls)) := ⟨rfl, rfl⟩
theorem e_ok77 : e_c77.all (e_ck 77) = true := by decide +kernel
set_option maxRecDepth 100000 in
theorem e_wk77 : e_wok (e_c77.flatMap (e_wds 77 (e_nm 77).cls)) := ⟨rfl, rfl⟩
theorem e_ok78 : e_c78.all (e_ck 78) = true := by decide +kernel
set_option maxRecDepth 100000 in
theorem e_wk78 : e_wok (e_c78.flatMap (e_wds 78 (e_nm 78).cls)) := ⟨rfl, rfl⟩
theorem e_ok79 : e_c79.all (e_ck 79) = true := by decide +kernel
set_option maxRecDepth 100000 in
theorem e_wk79 : e_wok (e_c79.flatMap (e_wds 79 (e_nm 79).cls)) := ⟨rfl, rfl⟩
theorem e_ok80 : e_c80.all (e_ck 80) = true := by decide +kernel
set_option maxRecDepth 100000 in
theorem e_wk80 : e_wok (e_c80.flatMap (e_wds 80 (e_nm 80).cls)) := ⟨rfl, rfl⟩
theorem e_ok81 : e_c81.all (e_ck 81) = true := by decide +kernel
set_option maxRecDepth 100000 in
theorem e_wk81 : e_wok (e_c81.flatMap (e_wds 81 (e_nm 81).cls)) := ⟨rfl, rfl⟩
theorem e_ok82 : e_c82.all (e_ck 82) = true := by decide +kernel
set_option maxRecDepth 100000 in
theorem e_wk82 : e_wok (e_c82.flatMap (e_wds 82 (e_nm 82).cls)) := ⟨rfl, rfl⟩
theorem e_ok83 : e_c83.all (e_ck 83) = true := by decide +kernel
set_option maxRecDepth 100000 in
theorem e_wk83 : e_wok (e_c83.flatMap (e_wds 83 (e_nm 83).cls)) := ⟨rfl, rfl⟩
theorem e_ok84 : e_c84.all (e_ck 84) = true := by decide +kernel
set_option maxRecDepth 100000 in
theorem e_wk84 : e_wok (e_c84.flatMap (e_wds 84 (e_nm 84).cls)) := ⟨rfl, rfl⟩
theorem e_ok85 : e_c85.all (e_ck 85) = true := by decide +kernel
set_option maxRecDepth 100000 in
theorem e_wk85 : e_wok (e_c85.flatMap (e_wds 85 (e_nm 85).cls)) := ⟨rfl, rfl⟩
theorem e_ok86 : e_c86.all (e_ck 86) = true := by decide +kernel
set_option maxRecDepth 100000 in
theorem e_wk86 : e_wok (e_c86.flatMap (e_wds 86 (e_nm 86).cls)) := ⟨rfl, rfl⟩
theorem e_ok87 : e_c87.all (e_ck 87) = true := by decide +kernel
set_option maxRecDepth 100000 in
theorem e_wk87 : e_wok (e_c87.flatMap (e_wds 87 (e_nm 87).cls)) := ⟨rfl, rfl⟩
theorem e_ok88 : e_c88.all (e_ck 88) = true := by decide +kernel
set_option maxRecDepth 100000 in
theorem e_wk88 : e_wok (e_c88.flatMap (e_wds 88 (e_nm 88).cls)) := ⟨rfl, rfl⟩
theorem e_ok89 : e_c89.all (e_ck 89) = true := by decide +kernel
set_option maxRecDepth 100000 in
theorem e_wk89 : e_wok (e_c89.flatMap (e_wds 89 (e_nm 89).cls)) := ⟨rfl, rfl⟩
theorem e_ok90 : e_c90.all (e_ck 90) = true := by decide +kernel
set_option maxRecDepth 100000 in
theorem e_wk90 : e_wok (e_c90.flatMap (e_wds 90 (e_nm 90).cls)) := ⟨rfl, rfl⟩
theorem e_ok91 : e_c91.all (e_ck 91) = true := by decide +kernel
set_option maxRecDepth 100000 in
theorem e_wk91 : e_wok (e_c91.flatMap (e_wds 91 (e_nm 91).cls)) := ⟨rfl, rfl⟩
theorem e_ok92 : e_c92.all (e_ck 92) = true := by decide +kernel
set_option maxRecDepth 100000 in
theorem e_wk92 : e_wok (e_c92.flatMap (e_wds 92 (e_nm 92).cls)) := ⟨rfl, rfl⟩
theorem e_ok93 : e_c93.all (e_ck 93) = true := by decide +kernel
set_option maxRecDepth 100000 in
theorem e_wk93 : e_wok (e_c93.flatMap (e_wds 93 (e_nm 93).cls)) := ⟨rfl, rfl⟩
theorem e_ok94 : e_c94.all (e_ck 94) = true := by decide +kernel
set_option maxRecDepth 100000 in
theorem e_wk94 : e_wok (e_c94.flatMap (e_wds 94 (e_nm 94).cls)) := ⟨rfl, rfl⟩
theorem e_ok95 : e_c95.all (e_ck 95) = true := by decide +kernel
set_option maxRecDepth 100000 in
theorem e_wk95 : e_wok (e_c95.flatMap (e_wds 95 (e_nm 95).cls)) := ⟨rfl, rfl⟩
theorem e_ok96 : e_c96.all (e_ck 96) = true := by decide +kernel
set_option maxRecDepth 100000 in
theorem e_wk96 : e_wok (e_c96.flatMap (e_wds 96 (e_nm 96).cls)) := ⟨rfl, rfl⟩
theorem e_ok97 : e_c97.all (e_ck 97) = true := by decide +kernel
set_option maxRecDepth 100000 in
theorem e_wk97 : e_wok (e_c97.flatMap (e_wds 97 (e_nm 97).cls)) := ⟨rfl, rfl⟩
theorem e_ok98 : e_c98.all (e_ck 98) = true := by decide +kernel
set_option maxRecDepth 100000 in
theorem e_wk98 : e_wok (e_c98.flatMap (e_wds 98 (e_nm 98).cls)) := ⟨rfl, rfl⟩
theorem e_ok99 : e_c99.all (e_ck 99) = true := by decide +kernel
set_option maxRecDepth 100000 in
theorem e_wk99 : e_wok (e_c99.flatMap (e_wds 99 (e_nm 99).cls)) := ⟨rfl, rfl⟩
theorem e_ok100 : e_c100.all (e_ck 100) = true := by decide +kernel
set_option maxRecDepth 100000 in
theorem e_wk100 : e_wok (e_c100.flatMap (e_wds 100 (e_nm 100).cls)) := ⟨rfl, rfl⟩
theorem e_ok101 : e_c101.all (e_ck 101) = true := by decide +kernel
set_option maxRecDepth 100000 in
theorem e_wk101 : e_wok (e_c101.flatMap (e_wds 101 (e_nm 101).cls)) := ⟨rfl, rfl⟩
theorem e_ok102 : e_c102.all (e_ck 102) = true := by decide +kernel
set_option maxRecDepth 100000 in
theorem e_wk102 : e_wok (e_c102.flatMap (e_wds 102 (e_nm 102).cls)) := ⟨rfl, rfl⟩
theorem e_ok103 : e_c103.all (e_ck 103) = true := by decide +kernel
set_option maxRecDepth 100000 in
theorem e_wk103 : e_wok (e_c103.flatMap (e_wds 103 (e_nm 103).cls)) := ⟨rfl, rfl⟩
theorem e_ok104 : e_c104.all (e_ck 104) = true := by decide +kernel
set_option maxRecDepth 100000 in
theorem e_wk104 : e_wok (e_c104.flatMap (e_wds 104 (e_nm 104).cls)) := ⟨rfl, rfl⟩
theorem e_ok105 : e_c105.all (e_ck 105) = true := by decide +kernel
set_option maxRecDepth 100000 in
theorem e_wk105 : e_wok (e_c105.flatMap (e_wds 105 (e_nm 105).cls)) := ⟨rfl, rfl⟩
theorem e_ok106 : e_c106.all (e_ck 106) = true := by decide +kernel
set_option maxRecDepth 100000 in
theorem e_wk106 : e_wok (e_c106.flatMap (e_wds 106 (e_nm 106).cls)) := ⟨rfl, rfl⟩
theorem e_ok107 : e_c107.all (e_ck 107) = true := by decide +kernel
set_option maxRecDepth 100000 in
theorem e_wk107 : e_wok (e_c107.flatMap (e_wds 107 (e_nm 107).cls)) := ⟨rfl, rfl⟩
theorem e_ok108 : e_c108.all (e_ck 108) = true := by decide +kernel
set_option maxRecDepth 100000 in
theorem e_wk108 : e_wok (e_c108.flatMap (e_wds 108 (e_nm 108).cls)) := ⟨rfl, rfl⟩
theorem e_ok109 : e_c109.all (e_ck 109) = true := by decide +kernel
set_option maxRecDepth 100000 in
theorem e_wk109 : e_wok (e_c109.flatMap (e_wds 109 (e_nm 109).cls)) := ⟨rfl, rfl⟩
theorem e_ok110 : e_c110.all (e_ck 110) = true := by decide +kernel
set_option maxRecDepth 100000 in
theorem e_wk110 : e_wok (e_c110.flatMap (e_wds 110 (e_nm 110).cls)) := ⟨rfl, rfl⟩
theorem e_ok111 : e_c111.all (e_ck 111) = true := by decide +kernel
set_option maxRecDepth 100000 in
theorem e_wk111 : e_wok (e_c111.flatMap (e_wds 111 (e_nm 111).cls)) := ⟨rfl, rfl⟩
theorem e_ok112 : e_c112.all (e_ck 112) = true := by decide +kernel
set_option maxRecDepth 100000 in
theorem e_wk112 : e_wok (e_c112.flatMap (e_wds 112 (e_nm 112).cls)) := ⟨rfl, rfl⟩
theorem e_ok113 : e_c113.all (e_ck 113) = true := by decide +kernel
set_option maxRecDepth 100000 in
theorem e_wk113 : e_wok (e_c113.flatMap (e_wds 113 (e_nm 113).cls)) := ⟨rfl, rfl⟩
theorem e_ok114 : e_c114.all (e_ck 114) = true := by decide +kernel
set_option maxRecDepth 100000 in
theorem e_wk114 : e_wok (e_c114.flatMap (e_wds 114 (e_nm 114).cls)) := ⟨rfl, rfl⟩
theorem e_ok115 : e_c115.all (e_ck 115) = true := by decide +kernel
set_option maxRecDepth 100000 in
theorem e_wk115 : e_wok (e_c115.flatMap (e_wds 115 (e_nm 115).cls)) := ⟨rfl, rfl⟩
theorem e_ok116 : e_c116.all (e_ck 116) = true := by decide +kernel
set_option maxRecDepth 100000 in
theorem e_wk116 : e_wok (e_c116.flatMap (e_wds 116 (e_nm 116).cls)) := ⟨rfl, rfl⟩
theorem e_ok117 : e_c117.all (e_ck 117) = true := by decide +kernel
set_option maxRecDepth 100000 in
theorem e_wk117 : e_wok (e_c117.flatMap (e_wds 117 (e_nm 117).cls)) := ⟨rfl, rfl⟩
theorem e_ok118 : e_c118.all (e_ck 118) = true := by decide +kernel
set_option maxRecDepth 100000 in
theorem e_wk118 : e_wok (e_c118.flatMap (e_wds 118 (e_nm 118).cls)) := ⟨rfl, rfl⟩
theorem e_ok119 : e_c119.all (e_ck 119) = true := by decide +kernel
set_option maxRecDepth 100000 in
theorem e_wk119 : e_wok (e_c119.flatMap (e_wds 119 (e_nm 119).cls)) := ⟨rfl, rfl⟩
theorem e_ok120 : e_c120.all (e_ck 120) = true := by decide +kernel
set_option maxRecDepth 100000 in
theorem e_wk120 : e_wok (e_c120.flatMap (e_wds 120 (e_nm 120).cls)) := ⟨rfl, rfl⟩
theorem e_ok121 : e_c121.all (e_ck 121) = true := by decide +kernel
set_option maxRecDepth 100000 in
theorem e_wk121 : e_wok (e_c121.flatMap (e_wds 121 (e_nm 121).cls)) := ⟨rfl, rfl⟩
theorem e_ok122 : e_c122.all (e_ck 122) = true := by decide +kernel
set_option maxRecDepth 100000 in
theorem e_wk122 : e_wok (e_c122.flatMap (e_wds 122 (e_nm 122).cls)) := ⟨rfl, rfl⟩
theorem e_ok123 : e_c123.all (e_ck 123) = true := by decide +kernel
set_option maxRecDepth 100000 in
theorem e_wk123 : e_wok (e_c123.flatMap (e_wds 123 (e_nm 123).cls)) := ⟨rfl, rfl⟩
