/-! every instruction of the program is checked (4) -/
theorem e_ok248 : e_c248.all (e_ck 248) = true := by decide +kernel
set_option maxRecDepth 100000 in
theorem e_wk248 : e_wok (e_c248.flatMap (e_wds 248 (e_nm 248).cls)) := ⟨rfl, rfl⟩
theorem e_ok249 : e_c249.all (e_ck 249) = true := by decide +kernel
set_option maxRecDepth 100000 in
theorem e_wk249 : e_wok (e_c249.flatMap (e_wds 249 (e_nm 249).cls)) := ⟨rfl, rfl⟩
theorem e_ok250 : e_c250.all (e_ck 250) = true := by decide +kernel
set_option maxRecDepth 100000 in
theorem e_wk250 : e_wok (e_c250.flatMap (e_wds 250 (e_nm 250).cls)) := ⟨rfl, rfl⟩
theorem e_ok251 : e_c251.all (e_ck 251) = true := by decide +kernel
set_option maxRecDepth 100000 in
theorem e_wk251 : e_wok (e_c251.flatMap (e_wds 251 (e_nm 251).cls)) := ⟨rfl, rfl⟩
theorem e_ok252 : e_c252.all (e_ck 252) = true := by decide +kernel
set_option maxRecDepth 100000 in
theorem e_wk252 : e_wok (e_c252.flatMap (e_wds 252 (e_nm 252).cls)) := ⟨rfl, rfl⟩
theorem e_ok253 : e_c253.all (e_ck 253) = true := by decide +kernel
set_option maxRecDepth 100000 in
theorem e_wk253 : e_wok (e_c253.flatMap (e_wds 253 (e_nm 253).cls)) := ⟨rfl, rfl⟩
theorem e_ok254 : e_c254.all (e_ck 254) = true := by decide +kernel
set_option maxRecDepth 100000 in
theorem e_wk254 : e_wok (e_c254.flatMap (e_wds 254 (e_nm 254).cls)) := ⟨rfl, rfl⟩
theorem e_ok255 : e_c255.all (e_ck 255) = true := by decide +kernel
set_option maxRecDepth 100000 in
theorem e_wk255 : e_wok (e_c255.flatMap (e_wds 255 (e_nm 255).cls)) := ⟨rfl, rfl⟩
theorem e_ok256 : e_c256.all (e_ck 256) = true := by decide +kernel
set_option maxRecDepth 100000 in
theorem e_wk256 : e_wok (e_c256.flatMap (e_wds 256 (e_nm 256).cls)) := ⟨rfl, rfl⟩
theorem e_ok257 : e_c257.all (e_ck 257) = true := by decide +kernel
set_option maxRecDepth 100000 in
theorem e_wk257 : e_wok (e_c257.flatMap (e_wds 257 (e_nm 257).cls)) := ⟨rfl, rfl⟩
theorem e_ok258 : e_c258.all (e_ck 258) = true := by decide +kernel
set_option maxRecDepth 100000 in
theorem e_wk258 : e_wok (e_c258.flatMap (e_wds 258 (e_nm 258).cls)) := ⟨rfl, rfl⟩
theorem e_ok259 : e_c259.all (e_ck 259) = true := by decide +kernel
set_option maxRecDepth 100000 in
theorem e_wk259 : e_wok (e_c259.flatMap (e_wds 259 (e_nm 259).cls)) := ⟨rfl, rfl⟩
theorem e_ok260 : e_c260.all (e_ck 260) = true := by decide +kernel
set_option maxRecDepth 100000 in
theorem e_wk260 : e_wok (e_c260.flatMap (e_wds 260 (e_nm 260).cls)) := ⟨rfl, rfl⟩
theorem e_ok261 : e_c261.all (e_ck 261) = true := by decide +kernel
set_option maxRecDepth 100000 in
theorem e_wk261 : e_wok (e_c261.flatMap (e_wds 261 (e_nm 261).cls)) := ⟨rfl, rfl⟩
theorem e_ok262 : e_c262.all (e_ck 262) = true := by decide +kernel
set_option maxRecDepth 100000 in
theorem e_wk262 : e_wok (e_c262.flatMap (e_wds 262 (e_nm 262).cls)) := ⟨rfl, rfl⟩
theorem e_ok263 : e_c263.all (e_ck 263) = true := by decide +kernel
set_option maxRecDepth 100000 in
theorem e_wk263 : e_wok (e_c263.flatMap (e_wds 263 (e_nm 263).cls)) := ⟨rfl, rfl⟩
theorem e_ok264 : e_c264.all (e_ck 264) = true := by decide +kernel
set_option maxRecDepth 100000 in
theorem e_wk264 : e_wok (e_c264.flatMap (e_wds 264 (e_nm 264).cls)) := ⟨rfl, rfl⟩
theorem e_ok265 : e_c265.all (e_ck 265) = true := by decide +kernel
set_option maxRecDepth 100000 in
theorem e_wk265 : e_wok (e_c265.flatMap (e_wds 265 (e_nm 265).cls)) := ⟨rfl, rfl⟩
theorem e_ok266 : e_c266.all (e_ck 266) = true := by decide +kernel
set_option maxRecDepth 100000 in
theorem e_wk266 : e_wok (e_c266.flatMap (e_wds 266 (e_nm 266).cls)) := ⟨rfl, rfl⟩
theorem e_ok267 : e_c267.all (e_ck 267) = true := by decide +kernel
set_option maxRecDepth 100000 in
theorem e_wk267 : e_wok (e_c267.flatMap (e_wds 267 (e_nm 267).cls)) := ⟨rfl, rfl⟩
theorem e_ok268 : e_c268.all (e_ck 268) = true := by decide +kernel
set_option maxRecDepth 100000 in
theorem e_wk268 : e_wok (e_c268.flatMap (e_wds 268 (e_nm 268).cls)) := ⟨rfl, rfl⟩
theorem e_ok269 : e_c269.all (e_ck 269) = true := by decide +kernel
set_option maxRecDepth 100000 in
theorem e_wk269 : e_wok (e_c269.flatMap (e_wds 269 (e_nm 269).cls)) := ⟨rfl, rfl⟩
theorem e_ok270 : e_c270.all (e_ck 270) = true := by decide +kernel
set_option maxRecDepth 100000 in
theorem e_wk270 : e_wok (e_c270.flatMap (e_wds 270 (e_nm 270).cls)) := ⟨rfl, rfl⟩
theorem e_ok271 : e_c271.all (e_ck 271) = true := by decide +kernel
set_option maxRecDepth 100000 in
theorem e_wk271 : e_wok (e_c271.flatMap (e_wds 271 (e_nm 271).cls)) := ⟨rfl, rfl⟩
theorem e_ok272 : e_c272.all (e_ck 272) = true := by decide +kernel
set_option maxRecDepth 100000 in
theorem e_wk272 : e_wok (e_c272.flatMap (e_wds 272 (e_nm 272).cls)) := ⟨rfl, rfl⟩
theorem e_ok273 : e_c273.all (e_ck 273) = true := by decide +kernel
set_option maxRecDepth 100000 in
theorem e_wk273 : e_wok (e_c273.flatMap (e_wds 273 (e_nm 273).cls)) := ⟨rfl, rfl⟩
theorem e_ok274 : e_c274.all (e_ck 274) = true := by decide +kernel
set_option maxRecDepth 100000 in
theorem e_wk274 : e_wok (e_c274.flatMap (e_wds 274 (e_nm 274).cls)) := ⟨rfl, rfl⟩
theorem e_ok275 : e_c275.all (e_ck 275) = true := by decide +kernel
set_option maxRecDepth 100000 in
theorem e_wk275 : e_wok (e_c275.flatMap (e_wds 275 (e_nm 275).cls)) := ⟨rfl, rfl⟩
theorem e_ok276 : e_c276.all (e_ck 276) = true := by decide +kernel
set_option maxRecDepth 100000 in
theorem e_wk276 : e_wok (e_c276.flatMap (e_wds 276 (e_nm 276).cls)) := ⟨rfl, rfl⟩
theorem e_ok277 : e_c277.all (e_ck 277) = true := by decide +kernel
set_option maxRecDepth 100000 in
theorem e_wk277 : e_wok (e_c277.flatMap (e_wds 277 (e_nm 277).cls)) := ⟨rfl, rfl⟩
theorem e_ok278 : e_c278.all (e_ck 278) = true := by decide +kernel
set_option maxRecDepth 100000 in
theorem e_wk278 : e_wok (e_c278.flatMap (e_wds 278 (e_nm 278).cls)) := ⟨rfl, rfl⟩
theorem e_ok279 : e_c279.all (e_ck 279) = true := by decide +kernel
set_option maxRecDepth 100000 in
theorem e_wk279 : e_wok (e_c279.flatMap (e_wds 279 (e_nm 279).cls)) := ⟨rfl, rfl⟩
theorem e_ok280 : e_c280.all (e_ck 280) = true := by decide +kernel
set_option maxRecDepth 100000 in
theorem e_wk280 : e_wok (e_c280.flatMap (e_wds 280 (e_nm 280).cls)) := ⟨rfl, rfl⟩
theorem e_ok281 : e_c281.all (e_ck 281) = true := by decide +kernel
set_option maxRecDepth 100000 in
theorem e_wk281 : e_wok (e_c281.flatMap (e_wds 281 (e_nm 281).cls)) := ⟨rfl, rfl⟩
theorem e_ok282 : e_c282.all (e_ck 282) = true := by decide +kernel
set_option maxRecDepth 100000 in
theorem e_wk282 : e_wok (e_c282.flatMap (e_wds 282 (e_nm 282).cls)) := ⟨rfl, rfl⟩
theorem e_ok283 : e_c283.all (e_ck 283) = true := by decide +kernel
set_option maxRecDepth 100000 in
theorem e_wk283 : e_wok (e_c283.flatMap (e_wds 283 (e_nm 283).cls)) := ⟨rfl, rfl⟩
theorem e_ok284 : e_c284.all (e_ck 284) = true := by decide +kernel
set_option maxRecDepth 100000 in
theorem e_wk284 : e_wok (e_c284.flatMap (e_wds 284 (e_nm 284).cls)) := ⟨rfl, rfl⟩
theorem e_ok285 : e_c285.all (e_ck 285) = true := by decide +kernel
set_option maxRecDepth 100000 in
theorem e_wk285 : e_wok (e_c285.flatMap (e_wds 285 (e_nm 285).cls)) := ⟨rfl, rfl⟩
theorem e_ok286 : e_c286.all (e_ck 286) = true := by decide +kernel
set_option maxRecDepth 100000 in
theorem e_wk286 : e_wok (e_c286.flatMap (e_wds 286 (e_nm 286).cls)) := ⟨rfl, rfl⟩
theorem e_ok287 : e_c287.all (e_ck 287) = true := by decide +kernel
set_option maxRecDepth 100000 in
theorem e_wk287 : e_wok (e_c287.flatMap (e_wds 287 (e_nm 287).cls)) := ⟨rfl, rfl⟩
theorem e_ok288 : e_c288.all (e_ck 288) = true := by decide +kernel
set_option maxRecDepth 100000 in
theorem e_wk288 : e_wok (e_c288.flatMap (e_wds 288 (e_nm 288).cls)) := ⟨rfl, rfl⟩
theorem e_ok289 : e_c289.all (e_ck 289) = true := by decide +kernel
set_option maxRecDepth 100000 in
theorem e_wk289 : e_wok (e_c289.flatMap (e_wds 289 (e_nm 289).cls)) := ⟨rfl, rfl⟩
theorem e_ok290 : e_c290.all (e_ck 290) = true := by decide +kernel
set_option maxRecDepth 100000 in
theorem e_wk290 : e_wok (e_c290.flatMap (e_wds 290 (e_nm 290).cls)) := ⟨rfl, rfl⟩
theorem e_ok291 : e_c291.all (e_ck 291) = true := by decide +kernel
set_option maxRecDepth 100000 in
theorem e_wk291 : e_wok (e_c291.flatMap (e_wds 291 (e_nm 291).cls)) := ⟨rfl, rfl⟩
theorem e_ok292 : e_c292.all (e_ck 292) = true := by decide +kernel
set_option maxRecDepth 100000 in
theorem e_wk292 : e_wok (e_c292.flatMap (e_wds 292 (e_nm 292).cls)) := ⟨rfl, rfl⟩
theorem e_ok293 : e_c293.all (e_ck 293) = true := by decide +kernel
set_option maxRecDepth 100000 in
theorem e_wk293 : e_wok (e_c293.flatMap (e_wds 293 (e_nm 293).cls)) := ⟨rfl, rfl⟩
theorem e_ok294 : e_c294.all (e_ck 294) = true := by decide +kernel
set_option maxRecDepth 100000 in
theorem e_wk294 : e_wok (e_c294.flatMap (e_wds 294 (e_nm 294).cls)) := ⟨rfl, rfl⟩
theorem e_ok295 : e_c295.all (e_ck 295) = true := by decide +kernel
set_option maxRecDepth 100000 in
theorem e_wk295 : e_wok (e_c295.flatMap (e_wds 295 (e_nm 295).cls)) := ⟨rfl, rfl⟩
theorem e_ok296 : e_c296.all (e_ck 296) = true := by decide +kernel
set_option maxRecDepth 100000 in
theorem e_wk296 : e_wok (e_c296.flatMap (e_wds 296 (e_nm 296).cls)) := ⟨rfl, rfl⟩
theorem e_ok297 : e_c297.all (e_ck 297) = true := by decide +kernel
set_option maxRecDepth 100000 in
theorem e_wk297 : e_wok (e_c297.flatMap (e_wds 297 (e_nm 297).cls)) := ⟨rfl, rfl⟩
theorem e_ok298 : e_c298.all (e_ck 298) = true := by decide +kernel
set_option maxRecDepth 100000 in
theorem e_wk298 : e_wok (e_c298.flatMap (e_wds 298 (e_nm 298).cls)) := ⟨rfl, rfl⟩
theorem e_ok299 : e_c299.all (e_ck 299) = true := by decide +kernel
set_option maxRecDepth 100000 in
theorem e_wk299 : e_wok (e_c299.flatMap (e_wds 299 (e_nm 299).cls)) := ⟨rfl, rfl⟩
theorem e_ok300 : e_c300.all (e_ck 300) = true := by decide +kernel
set_option maxRecDepth 100000 in
theorem e_wk300 : e_wok (e_c300.flatMap (e_wds 300 (e_nm 300).cls)) := ⟨rfl, rfl⟩
theorem e_ok301 : e_c301.all (e_ck 301) = true := by decide +kernel
set_option maxRecDepth 100000 in
theorem e_wk301 : e_wok (e_c301.flatMap (e_wds 301 (e_nm 301).cls)) := ⟨rfl, rfl⟩
theorem e_ok302 : e_c302.all (e_ck 302) = true := by decide +kernel
set_option maxRecDepth 100000 in
theorem e_wk302 : e_wok (e_c302.flatMap (e_wds 302 (e_nm 302).cls)) := ⟨rfl, rfl⟩
theorem e_ok303 : e_c303.all (e_ck 303) = true := by decide +kernel
set_option maxRecDepth 100000 in
theorem e_wk303 : e_wok (e_c303.flatMap (e_wds 303 (e_nm 303).cls)) := ⟨rfl, rfl⟩
theorem e_ok304 : e_c304.all (e_ck 304) = true := by decide +kernel
set_option maxRecDepth 100000 in
theorem e_wk304 : e_wok (e_c304.flatMap (e_wds 304 (e_nm 304).cls)) := ⟨rfl, rfl⟩
theorem e_ok305 : e_c305.all (e_ck 305) = true := by decide +kernel
set_option maxRecDepth 100000 in
theorem e_wk305 : e_wok (e_c305.flatMap (e_wds 305 (e_nm 305).cls)) := ⟨rfl, rfl⟩
theorem e_ok306 : e_c306.all (e_ck 306) = true := by decide +kernel
set_option maxRecDepth 100000 in
theorem e_wk306 : e_wok (e_c306.flatMap (e_wds 306 (e_nm 306).cls)) := ⟨rfl, rfl⟩
theorem e_ok307 : e_c307.all (e_ck 307) = true := by decide +kernel
set_option maxRecDepth 100000 in
theorem e_wk307 : e_wok (e_c307.flatMap (e_wds 307 (e_nm 307).cls)) := ⟨rfl, rfl⟩
