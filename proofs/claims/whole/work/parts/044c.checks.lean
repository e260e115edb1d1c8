/-! every instruction of the program is checked (2) -/
theorem e_ok124 : e_c124.all (e_ck 124) = true := by decide +kernel
set_option maxRecDepth 100000 in
theorem e_wk124 : e_wok (e_c124.flatMap (e_wds 124 (e_nm 124).cls)) := ⟨rfl, rfl⟩
theorem e_ok125 : e_c125.all (e_ck 125) = true := by decide +kernel
set_option maxRecDepth 100000 in
theorem e_wk125 : e_wok (e_c125.flatMap (e_wds 125 (e_nm 125).cls)) := ⟨rfl, rfl⟩
theorem e_ok126 : e_c126.all (e_ck 126) = true := by decide +kernel
set_option maxRecDepth 100000 in
theorem e_wk126 : e_wok (e_c126.flatMap (e_wds 126 (e_nm 126).cls)) := ⟨rfl, rfl⟩
theorem e_ok127 : e_c127.all (e_ck 127) = true := by decide +kernel
set_option maxRecDepth 100000 in
theorem e_wk127 : e_wok (e_c127.flatMap (e_wds 127 (e_nm 127).cls)) := ⟨rfl, rfl⟩
theorem e_ok128 : e_c128.all (e_ck 128) = true := by decide +kernel
set_option maxRecDepth 100000 in
theorem e_wk128 : e_wok (e_c128.flatMap (e_wds 128 (e_nm 128).cls)) := ⟨rfl, rfl⟩
theorem e_ok129 : e_c129.all (e_ck 129) = true := by decide +kernel
set_option maxRecDepth 100000 in
theorem e_wk129 : e_wok (e_c129.flatMap (e_wds 129 (e_nm 129).cls)) := ⟨rfl, rfl⟩
theorem e_ok130 : e_c130.all (e_ck 130) = true := by decide +kernel
set_option maxRecDepth 100000 in
theorem e_wk130 : e_wok (e_c130.flatMap (e_wds 130 (e_nm 130).cls)) := ⟨rfl, rfl⟩
theorem e_ok131 : e_c131.all (e_ck 131) = true := by decide +kernel
set_option maxRecDepth 100000 in
theorem e_wk131 : e_wok (e_c131.flatMap (e_wds 131 (e_nm 131).cls)) := ⟨rfl, rfl⟩
theorem e_ok132 : e_c132.all (e_ck 132) = true := by decide +kernel
set_option maxRecDepth 100000 in
theorem e_wk132 : e_wok (e_c132.flatMap (e_wds 132 (e_nm 132).cls)) := ⟨rfl, rfl⟩
theorem e_ok133 : e_c133.all (e_ck 133) = true := by decide +kernel
set_option maxRecDepth 100000 in
theorem e_wk133 : e_wok (e_c133.flatMap (e_wds 133 (e_nm 133).cls)) := ⟨rfl, rfl⟩
theorem e_ok134 : e_c134.all (e_ck 134) = true := by decide +kernel
set_option maxRecDepth 100000 in
theorem e_wk134 : e_wok (e_c134.flatMap (e_wds 134 (e_nm 134).cls)) := ⟨rfl, rfl⟩
theorem e_ok135 : e_c135.all (e_ck 135) = true := by decide +kernel
set_option maxRecDepth 100000 in
theorem e_wk135 : e_wok (e_c135.flatMap (e_wds 135 (e_nm 135).cls)) := ⟨rfl, rfl⟩
theorem e_ok136 : e_c136.all (e_ck 136) = true := by decide +kernel
set_option maxRecDepth 100000 in
theorem e_wk136 : e_wok (e_c136.flatMap (e_wds 136 (e_nm 136).cls)) := ⟨rfl, rfl⟩
theorem e_ok137 : e_c137.all (e_ck 137) = true := by decide +kernel
set_option maxRecDepth 100000 in
theorem e_wk137 : e_wok (e_c137.flatMap (e_wds 137 (e_nm 137).cls)) := ⟨rfl, rfl⟩
theorem e_ok138 : e_c138.all (e_ck 138) = true := by decide +kernel
set_option maxRecDepth 100000 in
theorem e_wk138 : e_wok (e_c138.flatMap (e_wds 138 (e_nm 138).cls)) := ⟨rfl, rfl⟩
theorem e_ok139 : e_c139.all (e_ck 139) = true := by decide +kernel
set_option maxRecDepth 100000 in
theorem e_wk139 : e_wok (e_c139.flatMap (e_wds 139 (e_nm 139).cls)) := ⟨rfl, rfl⟩
theorem e_ok140 : e_c140.all (e_ck 140) = true := by decide +kernel
set_option maxRecDepth 100000 in
theorem e_wk140 : e_wok (e_c140.flatMap (e_wds 140 (e_nm 140).cls)) := ⟨rfl, rfl⟩
theorem e_ok141 : e_c141.all (e_ck 141) = true := by decide +kernel
set_option maxRecDepth 100000 in
theorem e_wk141 : e_wok (e_c141.flatMap (e_wds 141 (e_nm 141).cls)) := ⟨rfl, rfl⟩
theorem e_ok142 : e_c142.all (e_ck 142) = true := by decide +kernel
set_option maxRecDepth 100000 in
theorem e_wk142 : e_wok (e_c142.flatMap (e_wds 142 (e_nm 142).cls)) := ⟨rfl, rfl⟩
theorem e_ok143 : e_c143.all (e_ck 143) = true := by decide +kernel
set_option maxRecDepth 100000 in
theorem e_wk143 : e_wok (e_c143.flatMap (e_wds 143 (e_nm 143).cls)) := ⟨rfl, rfl⟩
theorem e_ok144 : e_c144.all (e_ck 144) = true := by decide +kernel
set_option maxRecDepth 100000 in
theorem e_wk144 : e_wok (e_c144.flatMap (e_wds 144 (e_nm 144).cls)) := ⟨rfl, rfl⟩
theorem e_ok145 : e_c145.all (e_ck 145) = true := by decide +kernel
set_option maxRecDepth 100000 in
theorem e_wk145 : e_wok (e_c145.flatMap (e_wds 145 (e_nm 145).cls)) := ⟨rfl, rfl⟩
theorem e_ok146 : e_c146.all (e_ck 146) = true := by decide +kernel
set_option maxRecDepth 100000 in
theorem e_wk146 : e_wok (e_c146.flatMap (e_wds 146 (e_nm 146).cls)) := ⟨rfl, rfl⟩
theorem e_ok147 : e_c147.all (e_ck 147) = true := by decide +kernel
set_option maxRecDepth 100000 in
theorem e_wk147 : e_wok (e_c147.flatMap (e_wds 147 (e_nm 147).cls)) := ⟨rfl, rfl⟩
theorem e_ok148 : e_c148.all (e_ck 148) = true := by decide +kernel
set_option maxRecDepth 100000 in
theorem e_wk148 : e_wok (e_c148.flatMap (e_wds 148 (e_nm 148).cls)) := ⟨rfl, rfl⟩
theorem e_ok149 : e_c149.all (e_ck 149) = true := by decide +kernel
set_option maxRecDepth 100000 in
theorem e_wk149 : e_wok (e_c149.flatMap (e_wds 149 (e_nm 149).cls)) := ⟨rfl, rfl⟩
theorem e_ok150 : e_c150.all (e_ck 150) = true := by decide +kernel
set_option maxRecDepth 100000 in
theorem e_wk150 : e_wok (e_c150.flatMap (e_wds 150 (e_nm 150).cls)) := ⟨rfl, rfl⟩
theorem e_ok151 : e_c151.all (e_ck 151) = true := by decide +kernel
set_option maxRecDepth 100000 in
theorem e_wk151 : e_wok (e_c151.flatMap (e_wds 151 (e_nm 151).cls)) := ⟨rfl, rfl⟩
theorem e_ok152 : e_c152.all (e_ck 152) = true := by decide +kernel
set_option maxRecDepth 100000 in
theorem e_wk152 : e_wok (e_c152.flatMap (e_wds 152 (e_nm 152).cls)) := ⟨rfl, rfl⟩
theorem e_ok153 : e_c153.all (e_ck 153) = true := by decide +kernel
set_option maxRecDepth 100000 in
theorem e_wk153 : e_wok (e_c153.flatMap (e_wds 153 (e_nm 153).cls)) := ⟨rfl, rfl⟩
theorem e_ok154 : e_c154.all (e_ck 154) = true := by decide +kernel
set_option maxRecDepth 100000 in
theorem e_wk154 : e_wok (e_c154.flatMap (e_wds 154 (e_nm 154).cls)) := ⟨rfl, rfl⟩
theorem e_ok155 : e_c155.all (e_ck 155) = true := by decide +kernel
set_option maxRecDepth 100000 in
theorem e_wk155 : e_wok (e_c155.flatMap (e_wds 155 (e_nm 155).cls)) := ⟨rfl, rfl⟩
theorem e_ok156 : e_c156.all (e_ck 156) = true := by decide +kernel
set_option maxRecDepth 100000 in
theorem e_wk156 : e_wok (e_c156.flatMap (e_wds 156 (e_nm 156).cls)) := ⟨rfl, rfl⟩
theorem e_ok157 : e_c157.all (e_ck 157) = true := by decide +kernel
set_option maxRecDepth 100000 in
theorem e_wk157 : e_wok (e_c157.flatMap (e_wds 157 (e_nm 157).cls)) := ⟨rfl, rfl⟩
theorem e_ok158 : e_c158.all (e_ck 158) = true := by decide +kernel
set_option maxRecDepth 100000 in
theorem e_wk158 : e_wok (e_c158.flatMap (e_wds 158 (e_nm 158).cls)) := ⟨rfl, rfl⟩
theorem e_ok159 : e_c159.all (e_ck 159) = true := by decide +kernel
set_option maxRecDepth 100000 in
theorem e_wk159 : e_wok (e_c159.flatMap (e_wds 159 (e_nm 159).cls)) := ⟨rfl, rfl⟩
theorem e_ok160 : e_c160.all (e_ck 160) = true := by decide +kernel
set_option maxRecDepth 100000 in
theorem e_wk160 : e_wok (e_c160.flatMap (e_wds 160 (e_nm 160).cls)) := ⟨rfl, rfl⟩
theorem e_ok161 : e_c161.all (e_ck 161) = true := by decide +kernel
set_option maxRecDepth 100000 in
theorem e_wk161 : e_wok (e_c161.flatMap (e_wds 161 (e_nm 161).cls)) := ⟨rfl, rfl⟩
theorem e_ok162 : e_c162.all (e_ck 162) = true := by decide +kernel
set_option maxRecDepth 100000 in
theorem e_wk162 : e_wok (e_c162.flatMap (e_wds 162 (e_nm 162).cls)) := ⟨rfl, rfl⟩
theorem e_ok163 : e_c163.all (e_ck 163) = true := by decide +kernel
set_option maxRecDepth 100000 in
theorem e_wk163 : e_wok (e_c163.flatMap (e_wds 163 (e_nm 163).cls)) := ⟨rfl, rfl⟩
theorem e_ok164 : e_c164.all (e_ck 164) = true := by decide +kernel
set_option maxRecDepth 100000 in
theorem e_wk164 : e_wok (e_c164.flatMap (e_wds 164 (e_nm 164).cls)) := ⟨rfl, rfl⟩
theorem e_ok165 : e_c165.all (e_ck 165) = true := by decide +kernel
set_option maxRecDepth 100000 in
theorem e_wk165 : e_wok (e_c165.flatMap (e_wds 165 (e_nm 165).cls)) := ⟨rfl, rfl⟩
theorem e_ok166 : e_c166.all (e_ck 166) = true := by decide +kernel
set_option maxRecDepth 100000 in
theorem e_wk166 : e_wok (e_c166.flatMap (e_wds 166 (e_nm 166).cls)) := ⟨rfl, rfl⟩
theorem e_ok167 : e_c167.all (e_ck 167) = true := by decide +kernel
set_option maxRecDepth 100000 in
theorem e_wk167 : e_wok (e_c167.flatMap (e_wds 167 (e_nm 167).cls)) := ⟨rfl, rfl⟩
theorem e_ok168 : e_c168.all (e_ck 168) = true := by decide +kernel
set_option maxRecDepth 100000 in
theorem e_wk168 : e_wok (e_c168.flatMap (e_wds 168 (e_nm 168).cls)) := ⟨rfl, rfl⟩
theorem e_ok169 : e_c169.all (e_ck 169) = true := by decide +kernel
set_option maxRecDepth 100000 in
theorem e_wk169 : e_wok (e_c169.flatMap (e_wds 169 (e_nm 169).cls)) := ⟨rfl, rfl⟩
theorem e_ok170 : e_c170.all (e_ck 170) = true := by decide +kernel
set_option maxRecDepth 100000 in
theorem e_wk170 : e_wok (e_c170.flatMap (e_wds 170 (e_nm 170).cls)) := ⟨rfl, rfl⟩
theorem e_ok171 : e_c171.all (e_ck 171) = true := by decide +kernel
set_option maxRecDepth 100000 in
theorem e_wk171 : e_wok (e_c171.flatMap (e_wds 171 (e_nm 171).cls)) := ⟨rfl, rfl⟩
theorem e_ok172 : e_c172.all (e_ck 172) = true := by decide +kernel
set_option maxRecDepth 100000 in
theorem e_wk172 : e_wok (e_c172.flatMap (e_wds 172 (e_nm 172).cls)) := ⟨rfl, rfl⟩
theorem e_ok173 : e_c173.all (e_ck 173) = true := by decide +kernel
set_option maxRecDepth 100000 in
theorem e_wk173 : e_wok (e_c173.flatMap (e_wds 173 (e_nm 173).cls)) := ⟨rfl, rfl⟩
theorem e_ok174 : e_c174.all (e_ck 174) = true := by decide +kernel
set_option maxRecDepth 100000 in
theorem e_wk174 : e_wok (e_c174.flatMap (e_wds 174 (e_nm 174).cls)) := ⟨rfl, rfl⟩
theorem e_ok175 : e_c175.all (e_ck 175) = true := by decide +kernel
set_option maxRecDepth 100000 in
theorem e_wk175 : e_wok (e_c175.flatMap (e_wds 175 (e_nm 175).cls)) := ⟨rfl, rfl⟩
theorem e_ok176 : e_c176.all (e_ck 176) = true := by decide +kernel
set_option maxRecDepth 100000 in
theorem e_wk176 : e_wok (e_c176.flatMap (e_wds 176 (e_nm 176).cls)) := ⟨rfl, rfl⟩
theorem e_ok177 : e_c177.all (e_ck 177) = true := by decide +kernel
set_option maxRecDepth 100000 in
theorem e_wk177 : e_wok (e_c177.flatMap (e_wds 177 (e_nm 177).cls)) := ⟨rfl, rfl⟩
theorem e_ok178 : e_c178.all (e_ck 178) = true := by decide +kernel
set_option maxRecDepth 100000 in
theorem e_wk178 : e_wok (e_c178.flatMap (e_wds 178 (e_nm 178).cls)) := ⟨rfl, rfl⟩
theorem e_ok179 : e_c179.all (e_ck 179) = true := by decide +kernel
set_option maxRecDepth 100000 in
theorem e_wk179 : e_wok (e_c179.flatMap (e_wds 179 (e_nm 179).cls)) := ⟨rfl, rfl⟩
theorem e_ok180 : e_c180.all (e_ck 180) = true := by decide +kernel
set_option maxRecDepth 100000 in
theorem e_wk180 : e_wok (e_c180.flatMap (e_wds 180 (e_nm 180).cls)) := ⟨rfl, rfl⟩
theorem e_ok181 : e_c181.all (e_ck 181) = true := by decide +kernel
set_option maxRecDepth 100000 in
theorem e_wk181 : e_wok (e_c181.flatMap (e_wds 181 (e_nm 181).cls)) := ⟨rfl, rfl⟩
theorem e_ok182 : e_c182.all (e_ck 182) = true := by decide +kernel
set_option maxRecDepth 100000 in
theorem e_wk182 : e_wok (e_c182.flatMap (e_wds 182 (e_nm 182).cls)) := ⟨rfl, rfl⟩
theorem e_ok183 : e_c183.all (e_ck 183) = true := by decide +kernel
set_option maxRecDepth 100000 in
theorem e_wk183 : e_wok (e_c183.flatMap (e_wds 183 (e_nm 183).cls)) := ⟨rfl, rfl⟩
theorem e_ok184 : e_c184.all (e_ck 184) = true := by decide +kernel
set_option maxRecDepth 100000 in
theorem e_wk184 : e_wok (e_c184.flatMap (e_wds 184 (e_nm 184).cls)) := ⟨rfl, rfl⟩
theorem e_ok185 : e_c185.all (e_ck 185) = true := by decide +kernel
set_option maxRecDepth 100000 in
theorem e_wk185 : e_wok (e_c185.flatMap (e_wds 185 (e_nm 185).cls)) := ⟨rfl, rfl⟩
