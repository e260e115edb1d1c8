/-! every instruction of the program is checked (0) -/
theorem e_ok0 : e_c0.all (e_ck 0) = true := by decide +kernel
set_option maxRecDepth 100000 in
theorem e_wk0 : e_wok (e_c0.flatMap (e_wds 0 (e_nm 0).cls)) := ⟨rfl, rfl⟩
theorem e_ok1 : e_c1.all (e_ck 1) = true := by decide +kernel
set_option maxRecDepth 100000 in
theorem e_wk1 : e_wok (e_c1.flatMap (e_wds 1 (e_nm 1).cls)) := ⟨rfl, rfl⟩
theorem e_ok2 : e_c2.all (e_ck 2) = true := by decide +kernel
set_option maxRecDepth 100000 in
theorem e_wk2 : e_wok (e_c2.flatMap (e_wds 2 (e_nm 2).cls)) := ⟨rfl, rfl⟩
theorem e_ok3 : e_c3.all (e_ck 3) = true := by decide +kernel
set_option maxRecDepth 100000 in
theorem e_wk3 : e_wok (e_c3.flatMap (e_wds 3 (e_nm 3).cls)) := ⟨rfl, rfl⟩
theorem e_ok4 : e_c4.all (e_ck 4) = true := by decide +kernel
set_option maxRecDepth 100000 in
theorem e_wk4 : e_wok (e_c4.flatMap (e_wds 4 (e_nm 4).cls)) := ⟨rfl, rfl⟩
theorem e_ok5 : e_c5.all (e_ck 5) = true := by decide +kernel
set_option maxRecDepth 100000 in
theorem e_wk5 : e_wok (e_c5.flatMap (e_wds 5 (e_nm 5).cls)) := ⟨rfl, rfl⟩
theorem e_ok6 : e_c6.all (e_ck 6) = true := by decide +kernel
set_option maxRecDepth 100000 in
theorem e_wk6 : e_wok (e_c6.flatMap (e_wds 6 (e_nm 6).cls)) := ⟨rfl, rfl⟩
theorem e_ok7 : e_c7.all (e_ck 7) = true := by decide +kernel
set_option maxRecDepth 100000 in
theorem e_wk7 : e_wok (e_c7.flatMap (e_wds 7 (e_nm 7).cls)) := ⟨rfl, rfl⟩
theorem e_ok8 : e_c8.all (e_ck 8) = true := by decide +kernel
set_option maxRecDepth 100000 in
theorem e_wk8 : e_wok (e_c8.flatMap (e_wds 8 (e_nm 8).cls)) := ⟨rfl, rfl⟩
theorem e_ok9 : e_c9.all (e_ck 9) = true := by decide +kernel
set_option maxRecDepth 100000 in
theorem e_wk9 : e_wok (e_c9.flatMap (e_wds 9 (e_nm 9).cls)) := ⟨rfl, rfl⟩
theorem e_ok10 : e_c10.all (e_ck 10) = true := by decide +kernel
set_option maxRecDepth 100000 in
theorem e_wk10 : e_wok (e_c10.flatMap (e_wds 10 (e_nm 10).cls)) := ⟨rfl, rfl⟩
theorem e_ok11 : e_c11.all (e_ck 11) = true := by decide +kernel
set_option maxRecDepth 100000 in
theorem e_wk11 : e_wok (e_c11.flatMap (e_wds 11 (e_nm 11).cls)) := ⟨rfl, rfl⟩
theorem e_ok12 : e_c12.all (e_ck 12) = true := by decide +kernel
set_option maxRecDepth 100000 in
theorem e_wk12 : e_wok (e_c12.flatMap (e_wds 12 (e_nm 12).cls)) := ⟨rfl, rfl⟩
theorem e_ok13 : e_c13.all (e_ck 13) = true := by decide +kernel
set_option maxRecDepth 100000 in
theorem e_wk13 : e_wok (e_c13.flatMap (e_wds 13 (e_nm 13).cls)) := ⟨rfl, rfl⟩
theorem e_ok14 : e_c14.all (e_ck 14) = true := by decide +kernel
set_option maxRecDepth 100000 in
theorem e_wk14 : e_wok (e_c14.flatMap (e_wds 14 (e_nm 14).cls)) := ⟨rfl, rfl⟩
theorem e_ok15 : e_c15.all (e_ck 15) = true := by decide +kernel
set_option maxRecDepth 100000 in
theorem e_wk15 : e_wok (e_c15.flatMap (e_wds 15 (e_nm 15).cls)) := ⟨rfl, rfl⟩
theorem e_ok16 : e_c16.all (e_ck 16) = true := by decide +kernel
set_option maxRecDepth 100000 in
theorem e_wk16 : e_wok (e_c16.flatMap (e_wds 16 (e_nm 16).cls)) := ⟨rfl, rfl⟩
theorem e_ok17 : e_c17.all (e_ck 17) = true := by decide +kernel
set_option maxRecDepth 100000 in
theorem e_wk17 : e_wok (e_c17.flatMap (e_wds 17 (e_nm 17).cls)) := ⟨rfl, rfl⟩
theorem e_ok18 : e_c18.all (e_ck 18) = true := by decide +kernel
set_option maxRecDepth 100000 in
theorem e_wk18 : e_wok (e_c18.flatMap (e_wds 18 (e_nm 18).cls)) := ⟨rfl, rfl⟩
theorem e_ok19 : e_c19.all (e_ck 19) = true := by decide +kernel
set_option maxRecDepth 100000 in
theorem e_wk19 : e_wok (e_c19.flatMap (e_wds 19 (e_nm 19).cls)) := ⟨rfl, rfl⟩
theorem e_ok20 : e_c20.all (e_ck 20) = true := by decide +kernel
set_option maxRecDepth 100000 in
theorem e_wk20 : e_wok (e_c20.flatMap (e_wds 20 (e_nm 20).cls)) := ⟨rfl, rfl⟩
theorem e_ok21 : e_c21.all (e_ck 21) = true := by decide +kernel
set_option maxRecDepth 100000 in
theorem e_wk21 : e_wok (e_c21.flatMap (e_wds 21 (e_nm 21).cls)) := ⟨rfl, rfl⟩
theorem e_ok22 : e_c22.all (e_ck 22) = true := by decide +kernel
set_option maxRecDepth 100000 in
theorem e_wk22 : e_wok (e_c22.flatMap (e_wds 22 (e_nm 22).cls)) := ⟨rfl, rfl⟩
theorem e_ok23 : e_c23.all (e_ck 23) = true := by decide +kernel
set_option maxRecDepth 100000 in
theorem e_wk23 : e_wok (e_c23.flatMap (e_wds 23 (e_nm 23).cls)) := ⟨rfl, rfl⟩
theorem e_ok24 : e_c24.all (e_ck 24) = true := by decide +kernel
set_option maxRecDepth 100000 in
theorem e_wk24 : e_wok (e_c24.flatMap (e_wds 24 (e_nm 24).cls)) := ⟨rfl, rfl⟩
theorem e_ok25 : e_c25.all (e_ck 25) = true := by decide +kernel
set_option maxRecDepth 100000 in
theorem e_wk25 : e_wok (e_c25.flatMap (e_wds 25 (e_nm 25).cls)) := ⟨rfl, rfl⟩
theorem e_ok26 : e_c26.all (e_ck 26) = true := by decide +kernel
set_option maxRecDepth 100000 in
theorem e_wk26 : e_wok (e_c26.flatMap (e_wds 26 (e_nm 26).cls)) := ⟨rfl, rfl⟩
theorem e_ok27 : e_c27.all (e_ck 27) = true := by decide +kernel
set_option maxRecDepth 100000 in
theorem e_wk27 : e_wok (e_c27.flatMap (e_wds 27 (e_nm 27).cls)) := ⟨rfl, rfl⟩
theorem e_ok28 : e_c28.all (e_ck 28) = true := by decide +kernel
set_option maxRecDepth 100000 in
theorem e_wk28 : e_wok (e_c28.flatMap (e_wds 28 (e_nm 28).cls)) := ⟨rfl, rfl⟩
theorem e_ok29 : e_c29.all (e_ck 29) = true := by decide +kernel
set_option maxRecDepth 100000 in
theorem e_wk29 : e_wok (e_c29.flatMap (e_wds 29 (e_nm 29).cls)) := ⟨rfl, rfl⟩
theorem e_ok30 : e_c30.all (e_ck 30) = true := by decide +kernel
set_option maxRecDepth 100000 in
theorem e_wk30 : e_wok (e_c30.flatMap (e_wds 30 (e_nm 30).cls)) := ⟨rfl, rfl⟩
theorem e_ok31 : e_c31.all (e_ck 31) = true := by decide +kernel
set_option maxRecDepth 100000 in
theorem e_wk31 : e_wok (e_c31.flatMap (e_wds 31 (e_nm 31).cls)) := ⟨rfl, rfl⟩
theorem e_ok32 : e_c32.all (e_ck 32) = true := by decide +kernel
set_option maxRecDepth 100000 in
theorem e_wk32 : e_wok (e_c32.flatMap (e_wds 32 (e_nm 32).cls)) := ⟨rfl, rfl⟩
theorem e_ok33 : e_c33.all (e_ck 33) = true := by decide +kernel
set_option maxRecDepth 100000 in
theorem e_wk33 : e_wok (e_c33.flatMap (e_wds 33 (e_nm 33).cls)) := ⟨rfl, rfl⟩
theorem e_ok34 : e_c34.all (e_ck 34) = true := by decide +kernel
set_option maxRecDepth 100000 in
theorem e_wk34 : e_wok (e_c34.flatMap (e_wds 34 (e_nm 34).cls)) := ⟨rfl, rfl⟩
theorem e_ok35 : e_c35.all (e_ck 35) = true := by decide +kernel
set_option maxRecDepth 100000 in
theorem e_wk35 : e_wok (e_c35.flatMap (e_wds 35 (e_nm 35).cls)) := ⟨rfl, rfl⟩
theorem e_ok36 : e_c36.all (e_ck 36) = true := by decide +kernel
set_option maxRecDepth 100000 in
theorem e_wk36 : e_wok (e_c36.flatMap (e_wds 36 (e_nm 36).cls)) := ⟨rfl, rfl⟩
theorem e_ok37 : e_c37.all (e_ck 37) = true := by decide +kernel
set_option maxRecDepth 100000 in
theorem e_wk37 : e_wok (e_c37.flatMap (e_wds 37 (e_nm 37).cls)) := ⟨rfl, rfl⟩
theorem e_ok38 : e_c38.all (e_ck 38) = true := by decide +kernel
set_option maxRecDepth 100000 in
theorem e_wk38 : e_wok (e_c38.flatMap (e_wds 38 (e_nm 38).cls)) := ⟨rfl, rfl⟩
theorem e_ok39 : e_c39.all (e_ck 39) = true := by decide +kernel
set_option maxRecDepth 100000 in
theorem e_wk39 : e_wok (e_c39.flatMap (e_wds 39 (e_nm 39).cls)) := ⟨rfl, rfl⟩
theorem e_ok40 : e_c40.all (e_ck 40) = true := by decide +kernel
set_option maxRecDepth 100000 in
theorem e_wk40 : e_wok (e_c40.flatMap (e_wds 40 (e_nm 40).cls)) := ⟨rfl, rfl⟩
theorem e_ok41 : e_c41.all (e_ck 41) = true := by decide +kernel
set_option maxRecDepth 100000 in
theorem e_wk41 : e_wok (e_c41.flatMap (e_wds 41 (e_nm 41).cls)) := ⟨rfl, rfl⟩
theorem e_ok42 : e_c42.all (e_ck 42) = true := by decide +kernel
set_option maxRecDepth 100000 in
theorem e_wk42 : e_wok (e_c42.flatMap (e_wds 42 (e_nm 42).cls)) := ⟨rfl, rfl⟩
theorem e_ok43 : e_c43.all (e_ck 43) = true := by decide +kernel
set_option maxRecDepth 100000 in
theorem e_wk43 : e_wok (e_c43.flatMap (e_wds 43 (e_nm 43).cls)) := ⟨rfl, rfl⟩
theorem e_ok44 : e_c44.all (e_ck 44) = true := by decide +kernel
set_option maxRecDepth 100000 in
theorem e_wk44 : e_wok (e_c44.flatMap (e_wds 44 (e_nm 44).cls)) := ⟨rfl, rfl⟩
theorem e_ok45 : e_c45.all (e_ck 45) = true := by decide +kernel
set_option maxRecDepth 100000 in
theorem e_wk45 : e_wok (e_c45.flatMap (e_wds 45 (e_nm 45).cls)) := ⟨rfl, rfl⟩
theorem e_ok46 : e_c46.all (e_ck 46) = true := by decide +kernel
set_option maxRecDepth 100000 in
theorem e_wk46 : e_wok (e_c46.flatMap (e_wds 46 (e_nm 46).cls)) := ⟨rfl, rfl⟩
theorem e_ok47 : e_c47.all (e_ck 47) = true := by decide +kernel
set_option maxRecDepth 100000 in
theorem e_wk47 : e_wok (e_c47.flatMap (e_wds 47 (e_nm 47).cls)) := ⟨rfl, rfl⟩
theorem e_ok48 : e_c48.all (e_ck 48) = true := by decide +kernel
set_option maxRecDepth 100000 in
theorem e_wk48 : e_wok (e_c48.flatMap (e_wds 48 (e_nm 48).cls)) := ⟨rfl, rfl⟩
theorem e_ok49 : e_c49.all (e_ck 49) = true := by decide +kernel
set_option maxRecDepth 100000 in
theorem e_wk49 : e_wok (e_c49.flatMap (e_wds 49 (e_nm 49).cls)) := ⟨rfl, rfl⟩
theorem e_ok50 : e_c50.all (e_ck 50) = true := by decide +kernel
set_option maxRecDepth 100000 in
theorem e_wk50 : e_wok (e_c50.flatMap (e_wds 50 (e_nm 50).cls)) := ⟨rfl, rfl⟩
theorem e_ok51 : e_c51.all (e_ck 51) = true := by decide +kernel
set_option maxRecDepth 100000 in
theorem e_wk51 : e_wok (e_c51.flatMap (e_wds 51 (e_nm 51).cls)) := ⟨rfl, rfl⟩
theorem e_ok52 : e_c52.all (e_ck 52) = true := by decide +kernel
set_option maxRecDepth 100000 in
theorem e_wk52 : e_wok (e_c52.flatMap (e_wds 52 (e_nm 52).cls)) := ⟨rfl, rfl⟩
theorem e_ok53 : e_c53.all (e_ck 53) = true := by decide +kernel
set_option maxRecDepth 100000 in
theorem e_wk53 : e_wok (e_c53.flatMap (e_wds 53 (e_nm 53).cls)) := ⟨rfl, rfl⟩
theorem e_ok54 : e_c54.all (e_ck 54) = true := by decide +kernel
set_option maxRecDepth 100000 in
theorem e_wk54 : e_wok (e_c54.flatMap (e_wds 54 (e_nm 54).cls)) := ⟨rfl, rfl⟩
theorem e_ok55 : e_c55.all (e_ck 55) = true := by decide +kernel
set_option maxRecDepth 100000 in
theorem e_wk55 : e_wok (e_c55.flatMap (e_wds 55 (e_nm 55).cls)) := ⟨rfl, rfl⟩
theorem e_ok56 : e_c56.all (e_ck 56) = true := by decide +kernel
set_option maxRecDepth 100000 in
theorem e_wk56 : e_wok (e_c56.flatMap (e_wds 56 (e_nm 56).cls)) := ⟨rfl, rfl⟩
theorem e_ok57 : e_c57.all (e_ck 57) = true := by decide +kernel
set_option maxRecDepth 100000 in
theorem e_wk57 : e_wok (e_c57.flatMap (e_wds 57 (e_nm 57).cls)) := ⟨rfl, rfl⟩
theorem e_ok58 : e_c58.all (e_ck 58) = true := by decide +kernel
set_option maxRecDepth 100000 in
theorem e_wk58 : e_wok (e_c58.flatMap (e_wds 58 (e_nm 58).cls)) := ⟨rfl, rfl⟩
theorem e_ok59 : e_c59.all (e_ck 59) = true := by decide +kernel
set_option maxRecDepth 100000 in
theorem e_wk59 : e_wok (e_c59.flatMap (e_wds 59 (e_nm 59).cls)) := ⟨rfl, rfl⟩
theorem e_ok60 : e_c60.all (e_ck 60) = true := by decide +kernel
set_option maxRecDepth 100000 in
theorem e_wk60 : e_wok (e_c60.flatMap (e_wds 60 (e_nm 60).cls)) := ⟨rfl, rfl⟩
theorem e_ok61 : e_c61.all (e_ck 61) = true := by decide +kernel
set_option maxRecDepth 100000 in
theorem e_wk61 : e_wok (e_c61.flatMap (e_wds 61 (e_nm 61).cls)) := ⟨rfl, rfl⟩
