/-! every instruction of the program is checked (3) -/
theorem e_ok186 : e_c186.all (e_ck 186) = true := by decide +kernel
set_option maxRecDepth 100000 in
theorem e_wk186 : e_wok (e_c186.flatMap (e_wds 186 (e_nm 186).cls)) := ⟨rfl, rfl⟩
theorem e_ok187 : e_c187.all (e_ck 187) = true := by decide +kernel
set_option maxRecDepth 100000 in
theorem e_wk187 : e_wok (e_c187.flatMap (e_wds 187 (e_nm 187).cls)) := ⟨rfl, rfl⟩
theorem e_ok188 : e_c188.all (e_ck 188) = true := by decide +kernel
set_option maxRecDepth 100000 in
theorem e_wk188 : e_wok (e_c188.flatMap (e_wds 188 (e_nm 188).cls)) := ⟨rfl, rfl⟩
theorem e_ok189 : e_c189.all (e_ck 189) = true := by decide +kernel
set_option maxRecDepth 100000 in
theorem e_wk189 : e_wok (e_c189.flatMap (e_wds 189 (e_nm 189).cls)) := ⟨rfl, rfl⟩
theorem e_ok190 : e_c190.all (e_ck 190) = true := by decide +kernel
set_option maxRecDepth 100000 in
theorem e_wk190 : e_wok (e_c190.flatMap (e_wds 190 (e_nm 190).cls)) := ⟨rfl, rfl⟩
theorem e_ok191 : e_c191.all (e_ck 191) = true := by decide +kernel
set_option maxRecDepth 100000 in
theorem e_wk191 : e_wok (e_c191.flatMap (e_wds 191 (e_nm 191).cls)) := ⟨rfl, rfl⟩
theorem e_ok192 : e_c192.all (e_ck 192) = true := by decide +kernel
set_option maxRecDepth 100000 in
theorem e_wk192 : e_wok (e_c192.flatMap (e_wds 192 (e_nm 192).cls)) := ⟨rfl, rfl⟩
theorem e_ok193 : e_c193.all (e_ck 193) = true := by decide +kernel
set_option maxRecDepth 100000 in
theorem e_wk193 : e_wok (e_c193.flatMap (e_wds 193 (e_nm 193).cls)) := ⟨rfl, rfl⟩
theorem e_ok194 : e_c194.all (e_ck 194) = true := by decide +kernel
set_option maxRecDepth 100000 in
theorem e_wk194 : e_wok (e_c194.flatMap (e_wds 194 (e_nm 194).cls)) := ⟨rfl, rfl⟩
theorem e_ok195 : e_c195.all (e_ck 195) = true := by decide +kernel
set_option maxRecDepth 100000 in
theorem e_wk195 : e_wok (e_c195.flatMap (e_wds 195 (e_nm 195).cls)) := ⟨rfl, rfl⟩
theorem e_ok196 : e_c196.all (e_ck 196) = true := by decide +kernel
set_option maxRecDepth 100000 in
theorem e_wk196 : e_wok (e_c196.flatMap (e_wds 196 (e_nm 196).cls)) := ⟨rfl, rfl⟩
theorem e_ok197 : e_c197.all (e_ck 197) = true := by decide +kernel
set_option maxRecDepth 100000 in
theorem e_wk197 : e_wok (e_c197.flatMap (e_wds 197 (e_nm 197).cls)) := ⟨rfl, rfl⟩
theorem e_ok198 : e_c198.all (e_ck 198) = true := by decide +kernel
set_option maxRecDepth 100000 in
theorem e_wk198 : e_wok (e_c198.flatMap (e_wds 198 (e_nm 198).cls)) := ⟨rfl, rfl⟩
theorem e_ok199 : e_c199.all (e_ck 199) = true := by decide +kernel
set_option maxRecDepth 100000 in
theorem e_wk199 : e_wok (e_c199.flatMap (e_wds 199 (e_nm 199).cls)) := ⟨rfl, rfl⟩
theorem e_ok200 : e_c200.all (e_ck 200) = true := by decide +kernel
set_option maxRecDepth 100000 in
theorem e_wk200 : e_wok (e_c200.flatMap (e_wds 200 (e_nm 200).cls)) := ⟨rfl, rfl⟩
theorem e_ok201 : e_c201.all (e_ck 201) = true := by decide +kernel
set_option maxRecDepth 100000 in
theorem e_wk201 : e_wok (e_c201.flatMap (e_wds 201 (e_nm 201).cls)) := ⟨rfl, rfl⟩
theorem e_ok202 : e_c202.all (e_ck 202) = true := by decide +kernel
set_option maxRecDepth 100000 in
theorem e_wk202 : e_wok (e_c202.flatMap (e_wds 202 (e_nm 202).cls)) := ⟨rfl, rfl⟩
theorem e_ok203 : e_c203.all (e_ck 203) = true := by decide +kernel
set_option maxRecDepth 100000 in
theorem e_wk203 : e_wok (e_c203.flatMap (e_wds 203 (e_nm 203).cls)) := ⟨rfl, rfl⟩
theorem e_ok204 : e_c204.all (e_ck 204) = true := by decide +kernel
set_option maxRecDepth 100000 in
theorem e_wk204 : e_wok (e_c204.flatMap (e_wds 204 (e_nm 204).cls)) := ⟨rfl, rfl⟩
theorem e_ok205 : e_c205.all (e_ck 205) = true := by decide +kernel
set_option maxRecDepth 100000 in
theorem e_wk205 : e_wok (e_c205.flatMap (e_wds 205 (e_nm 205).cls)) := ⟨rfl, rfl⟩
theorem e_ok206 : e_c206.all (e_ck 206) = true := by decide +kernel
set_option maxRecDepth 100000 in
theorem e_wk206 : e_wok (e_c206.flatMap (e_wds 206 (e_nm 206).cls)) := ⟨rfl, rfl⟩
theorem e_ok207 : e_c207.all (e_ck 207) = true := by decide +kernel
set_option maxRecDepth 100000 in
theorem e_wk207 : e_wok (e_c207.flatMap (e_wds 207 (e_nm 207).cls)) := ⟨rfl, rfl⟩
theorem e_ok208 : e_c208.all (e_ck 208) = true := by decide +kernel
set_option maxRecDepth 100000 in
theorem e_wk208 : e_wok (e_c208.flatMap (e_wds 208 (e_nm 208).cls)) := ⟨rfl, rfl⟩
theorem e_ok209 : e_c209.all (e_ck 209) = true := by decide +kernel
set_option maxRecDepth 100000 in
theorem e_wk209 : e_wok (e_c209.flatMap (e_wds 209 (e_nm 209).cls)) := ⟨rfl, rfl⟩
theorem e_ok210 : e_c210.all (e_ck 210) = true := by decide +kernel
set_option maxRecDepth 100000 in
theorem e_wk210 : e_wok (e_c210.flatMap (e_wds 210 (e_nm 210).cls)) := ⟨rfl, rfl⟩
theorem e_ok211 : e_c211.all (e_ck 211) = true := by decide +kernel
set_option maxRecDepth 100000 in
theorem e_wk211 : e_wok (e_c211.flatMap (e_wds 211 (e_nm 211).cls)) := ⟨rfl, rfl⟩
theorem e_ok212 : e_c212.all (e_ck 212) = true := by decide +kernel
set_option maxRecDepth 100000 in
theorem e_wk212 : e_wok (e_c212.flatMap (e_wds 212 (e_nm 212).cls)) := ⟨rfl, rfl⟩
theorem e_ok213 : e_c213.all (e_ck 213) = true := by decide +kernel
set_option maxRecDepth 100000 in
theorem e_wk213 : e_wok (e_c213.flatMap (e_wds 213 (e_nm 213).cls)) := ⟨rfl, rfl⟩
theorem e_ok214 : e_c214.all (e_ck 214) = true := by decide +kernel
set_option maxRecDepth 100000 in
theorem e_wk214 : e_wok (e_c214.flatMap (e_wds 214 (e_nm 214).cls)) := ⟨rfl, rfl⟩
theorem e_ok215 : e_c215.all (e_ck 215) = true := by decide +kernel
set_option maxRecDepth 100000 in
theorem e_wk215 : e_wok (e_c215.flatMap (e_wds 215 (e_nm 215).cls)) := ⟨rfl, rfl⟩
theorem e_ok216 : e_c216.all (e_ck 216) = true := by decide +kernel
set_option maxRecDepth 100000 in
theorem e_wk216 : e_wok (e_c216.flatMap (e_wds 216 (e_nm 216).cls)) := ⟨rfl, rfl⟩
theorem e_ok217 : e_c217.all (e_ck 217) = true := by decide +kernel
set_option maxRecDepth 100000 in
theorem e_wk217 : e_wok (e_c217.flatMap (e_wds 217 (e_nm 217).cls)) := ⟨rfl, rfl⟩
theorem e_ok218 : e_c218.all (e_ck 218) = true := by decide +kernel
set_option maxRecDepth 100000 in
theorem e_wk218 : e_wok (e_c218.flatMap (e_wds 218 (e_nm 218).cls)) := ⟨rfl, rfl⟩
theorem e_ok219 : e_c219.all (e_ck 219) = true := by decide +kernel
set_option maxRecDepth 100000 in
theorem e_wk219 : e_wok (e_c219.flatMap (e_wds 219 (e_nm 219).cls)) := ⟨rfl, rfl⟩
theorem e_ok220 : e_c220.all (e_ck 220) = true := by decide +kernel
set_option maxRecDepth 100000 in
theorem e_wk220 : e_wok (e_c220.flatMap (e_wds 220 (e_nm 220).cls)) := ⟨rfl, rfl⟩
theorem e_ok221 : e_c221.all (e_ck 221) = true := by decide +kernel
set_option maxRecDepth 100000 in
theorem e_wk221 : e_wok (e_c221.flatMap (e_wds 221 (e_nm 221).cls)) := ⟨rfl, rfl⟩
theorem e_ok222 : e_c222.all (e_ck 222) = true := by decide +kernel
set_option maxRecDepth 100000 in
theorem e_wk222 : e_wok (e_c222.flatMap (e_wds 222 (e_nm 222).cls)) := ⟨rfl, rfl⟩
theorem e_ok223 : e_c223.all (e_ck 223) = true := by decide +kernel
set_option maxRecDepth 100000 in
theorem e_wk223 : e_wok (e_c223.flatMap (e_wds 223 (e_nm 223).cls)) := ⟨rfl, rfl⟩
theorem e_ok224 : e_c224.all (e_ck 224) = true := by decide +kernel
set_option maxRecDepth 100000 in
theorem e_wk224 : e_wok (e_c224.flatMap (e_wds 224 (e_nm 224).cls)) := ⟨rfl, rfl⟩
theorem e_ok225 : e_c225.all (e_ck 225) = true := by decide +kernel
set_option maxRecDepth 100000 in
theorem e_wk225 : e_wok (e_c225.flatMap (e_wds 225 (e_nm 225).cls)) := ⟨rfl, rfl⟩
theorem e_ok226 : e_c226.all (e_ck 226) = true := by decide +kernel
set_option maxRecDepth 100000 in
theorem e_wk226 : e_wok (e_c226.flatMap (e_wds 226 (e_nm 226).cls)) := ⟨rfl, rfl⟩
theorem e_ok227 : e_c227.all (e_ck 227) = true := by decide +kernel
set_option maxRecDepth 100000 in
theorem e_wk227 : e_wok (e_c227.flatMap (e_wds 227 (e_nm 227).cls)) := ⟨rfl, rfl⟩
theorem e_ok228 : e_c228.all (e_ck 228) = true := by decide +kernel
set_option maxRecDepth 100000 in
theorem e_wk228 : e_wok (e_c228.flatMap (e_wds 228 (e_nm 228).cls)) := ⟨rfl, rfl⟩
theorem e_ok229 : e_c229.all (e_ck 229) = true := by decide +kernel
set_option maxRecDepth 100000 in
theorem e_wk229 : e_wok (e_c229.flatMap (e_wds 229 (e_nm 229).cls)) := ⟨rfl, rfl⟩
theorem e_ok230 : e_c230.all (e_ck 230) = true := by decide +kernel
set_option maxRecDepth 100000 in
theorem e_wk230 : e_wok (e_c230.flatMap (e_wds 230 (e_nm 230).cls)) := ⟨rfl, rfl⟩
theorem e_ok231 : e_c231.all (e_ck 231) = true := by decide +kernel
set_option maxRecDepth 100000 in
theorem e_wk231 : e_wok (e_c231.flatMap (e_wds 231 (e_nm 231).cls)) := ⟨rfl, rfl⟩
theorem e_ok232 : e_c232.all (e_ck 232) = true := by decide +kernel
set_option maxRecDepth 100000 in
theorem e_wk232 : e_wok (e_c232.flatMap (e_wds 232 (e_nm 232).cls)) := ⟨rfl, rfl⟩
theorem e_ok233 : e_c233.all (e_ck 233) = true := by decide +kernel
set_option maxRecDepth 100000 in
theorem e_wk233 : e_wok (e_c233.flatMap (e_wds 233 (e_nm 233).cls)) := ⟨rfl, rfl⟩
theorem e_ok234 : e_c234.all (e_ck 234) = true := by decide +kernel
set_option maxRecDepth 100000 in
theorem e_wk234 : e_wok (e_c234.flatMap (e_wds 234 (e_nm 234).cls)) := ⟨rfl, rfl⟩
theorem e_ok235 : e_c235.all (e_ck 235) = true := by decide +kernel
set_option maxRecDepth 100000 in
theorem e_wk235 : e_wok (e_c235.flatMap (e_wds 235 (e_nm 235).cls)) := ⟨rfl, rfl⟩
theorem e_ok236 : e_c236.all (e_ck 236) = true := by decide +kernel
set_option maxRecDepth 100000 in
theorem e_wk236 : e_wok (e_c236.flatMap (e_wds 236 (e_nm 236).cls)) := ⟨rfl, rfl⟩
theorem e_ok237 : e_c237.all (e_ck 237) = true := by decide +kernel
set_option maxRecDepth 100000 in
theorem e_wk237 : e_wok (e_c237.flatMap (e_wds 237 (e_nm 237).cls)) := ⟨rfl, rfl⟩
theorem e_ok238 : e_c238.all (e_ck 238) = true := by decide +kernel
set_option maxRecDepth 100000 in
theorem e_wk238 : e_wok (e_c238.flatMap (e_wds 238 (e_nm 238).cls)) := ⟨rfl, rfl⟩
theorem e_ok239 : e_c239.all (e_ck 239) = true := by decide +kernel
set_option maxRecDepth 100000 in
theorem e_wk239 : e_wok (e_c239.flatMap (e_wds 239 (e_nm 239).cls)) := ⟨rfl, rfl⟩
theorem e_ok240 : e_c240.all (e_ck 240) = true := by decide +kernel
set_option maxRecDepth 100000 in
theorem e_wk240 : e_wok (e_c240.flatMap (e_wds 240 (e_nm 240).cls)) := ⟨rfl, rfl⟩
theorem e_ok241 : e_c241.all (e_ck 241) = true := by decide +kernel
set_option maxRecDepth 100000 in
theorem e_wk241 : e_wok (e_c241.flatMap (e_wds 241 (e_nm 241).cls)) := ⟨rfl, rfl⟩
theorem e_ok242 : e_c242.all (e_ck 242) = true := by decide +kernel
set_option maxRecDepth 100000 in
theorem e_wk242 : e_wok (e_c242.flatMap (e_wds 242 (e_nm 242).cls)) := ⟨rfl, rfl⟩
theorem e_ok243 : e_c243.all (e_ck 243) = true := by decide +kernel
set_option maxRecDepth 100000 in
theorem e_wk243 : e_wok (e_c243.flatMap (e_wds 243 (e_nm 243).cls)) := ⟨rfl, rfl⟩
theorem e_ok244 : e_c244.all (e_ck 244) = true := by decide +kernel
set_option maxRecDepth 100000 in
theorem e_wk244 : e_wok (e_c244.flatMap (e_wds 244 (e_nm 244).cls)) := ⟨rfl, rfl⟩
theorem e_ok245 : e_c245.all (e_ck 245) = true := by decide +kernel
set_option maxRecDepth 100000 in
theorem e_wk245 : e_wok (e_c245.flatMap (e_wds 245 (e_nm 245).cls)) := ⟨rfl, rfl⟩
theorem e_ok246 : e_c246.all (e_ck 246) = true := by decide +kernel
set_option maxRecDepth 100000 in
theorem e_wk246 : e_wok (e_c246.flatMap (e_wds 246 (e_nm 246).cls)) := ⟨rfl, rfl⟩
theorem e_ok247 : e_c247.all (e_ck 247) = true := by decide +kernel
set_option maxRecDepth 100000 in
theorem e_wk247 : e_wok (e_c247.flatMap (e_wds 247 (e_nm 247).cls)) := ⟨rfl, rfl⟩
