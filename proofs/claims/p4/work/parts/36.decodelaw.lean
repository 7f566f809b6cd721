/-! ===== decode rows of the law ===== -/
set_option maxRecDepth 100000 in
theorem bL_law_0 : (decode cL_law 0 = .ok (.new 8, 3)) ∧ (decode cL_law 3 = .ok (.dup, 1)) ∧ (decode cL_law 4 = .ok (.invokespecial 161, 3)) ∧ (decode cL_law 7 = .ok (.astore_n 1, 1)) ∧ (decode cL_law 8 = .ok (.new 162, 3)) ∧ (decode cL_law 11 = .ok (.dup, 1)) ∧ (decode cL_law 12 = .ok (.invokespecial 164, 3)) ∧ (decode cL_law 15 = .ok (.astore_n 2, 1)) ∧ (decode cL_law 16 = .ok (.new 14, 3)) ∧ (decode cL_law 19 = .ok (.dup, 1)) ∧ (decode cL_law 20 = .ok (.invokespecial 165, 3)) ∧ (decode cL_law 23 = .ok (.astore_n 3, 1)) ∧ (decode cL_law 24 = .ok (.iconst 0, 1)) ∧ (decode cL_law 25 = .ok (.istore 4, 2)) ∧ (decode cL_law 27 = .ok (.iload 4, 2)) ∧ (decode cL_law 29 = .ok (.aload_n 0, 1)) := by decide +kernel
theorem dL_law_0 : decode cL_law 0 = .ok (.new 8, 3) := bL_law_0.1
theorem dL_law_3 : decode cL_law 3 = .ok (.dup, 1) := bL_law_0.2.1
theorem dL_law_4 : decode cL_law 4 = .ok (.invokespecial 161, 3) := bL_law_0.2.2.1
theorem dL_law_7 : decode cL_law 7 = .ok (.astore_n 1, 1) := bL_law_0.2.2.2.1
theorem dL_law_8 : decode cL_law 8 = .ok (.new 162, 3) := bL_law_0.2.2.2.2.1
theorem dL_law_11 : decode cL_law 11 = .ok (.dup, 1) := bL_law_0.2.2.2.2.2.1
theorem dL_law_12 : decode cL_law 12 = .ok (.invokespecial 164, 3) := bL_law_0.2.2.2.2.2.2.1
theorem dL_law_15 : decode cL_law 15 = .ok (.astore_n 2, 1) := bL_law_0.2.2.2.2.2.2.2.1
theorem dL_law_16 : decode cL_law 16 = .ok (.new 14, 3) := bL_law_0.2.2.2.2.2.2.2.2.1
theorem dL_law_19 : decode cL_law 19 = .ok (.dup, 1) := bL_law_0.2.2.2.2.2.2.2.2.2.1
theorem dL_law_20 : decode cL_law 20 = .ok (.invokespecial 165, 3) := bL_law_0.2.2.2.2.2.2.2.2.2.2.1
theorem dL_law_23 : decode cL_law 23 = .ok (.astore_n 3, 1) := bL_law_0.2.2.2.2.2.2.2.2.2.2.2.1
theorem dL_law_24 : decode cL_law 24 = .ok (.iconst 0, 1) := bL_law_0.2.2.2.2.2.2.2.2.2.2.2.2.1
theorem dL_law_25 : decode cL_law 25 = .ok (.istore 4, 2) := bL_law_0.2.2.2.2.2.2.2.2.2.2.2.2.2.1
theorem dL_law_27 : decode cL_law 27 = .ok (.iload 4, 2) := bL_law_0.2.2.2.2.2.2.2.2.2.2.2.2.2.2.1
theorem dL_law_29 : decode cL_law 29 = .ok (.aload_n 0, 1) := bL_law_0.2.2.2.2.2.2.2.2.2.2.2.2.2.2.2
set_option maxRecDepth 100000 in
theorem bL_law_30 : (decode cL_law 30 = .ok (.arraylength, 1)) ∧ (decode cL_law 31 = .ok (.bipush 6, 2)) ∧ (decode cL_law 33 = .ok (.isub, 1)) ∧ (decode cL_law 34 = .ok (.if_icmp .gt 1968, 3)) ∧ (decode cL_law 37 = .ok (.aload_n 0, 1)) ∧ (decode cL_law 38 = .ok (.iload 4, 2)) ∧ (decode cL_law 40 = .ok (.iaload, 1)) ∧ (decode cL_law 41 = .ok (.bipush 63, 2)) ∧ (decode cL_law 43 = .ok (.iand, 1)) ∧ (decode cL_law 44 = .ok (.tableswitch 1952 0 45 #[200, 276, 316, 397, 437, 465, 505, 557, 585, 625, 677, 705, 745, 785, 825, 853, 893, 933, 973, 1013, 1053, 1093, 1133, 1173, 1225, 1253, 1281, 1309, 1349, 1377, 1405, 1433, 1461, 1501, 1541, 1609, 1665, 1693, 1721, 1749, 1789, 1829, 1885, 1913, 1926, 1939], 200)) ∧ (decode cL_law 244 = .ok (.aload_n 1, 1)) ∧ (decode cL_law 245 = .ok (.aload_n 0, 1)) ∧ (decode cL_law 246 = .ok (.iload 4, 2)) ∧ (decode cL_law 248 = .ok (.iconst 1, 1)) ∧ (decode cL_law 249 = .ok (.iadd, 1)) ∧ (decode cL_law 250 = .ok (.iaload, 1)) := by decide +kernel
theorem dL_law_30 : decode cL_law 30 = .ok (.arraylength, 1) := bL_law_30.1
theorem dL_law_31 : decode cL_law 31 = .ok (.bipush 6, 2) := bL_law_30.2.1
theorem dL_law_33 : decode cL_law 33 = .ok (.isub, 1) := bL_law_30.2.2.1
theorem dL_law_34 : decode cL_law 34 = .ok (.if_icmp .gt 1968, 3) := bL_law_30.2.2.2.1
theorem dL_law_37 : decode cL_law 37 = .ok (.aload_n 0, 1) := bL_law_30.2.2.2.2.1
theorem dL_law_38 : decode cL_law 38 = .ok (.iload 4, 2) := bL_law_30.2.2.2.2.2.1
theorem dL_law_40 : decode cL_law 40 = .ok (.iaload, 1) := bL_law_30.2.2.2.2.2.2.1
theorem dL_law_41 : decode cL_law 41 = .ok (.bipush 63, 2) := bL_law_30.2.2.2.2.2.2.2.1
theorem dL_law_43 : decode cL_law 43 = .ok (.iand, 1) := bL_law_30.2.2.2.2.2.2.2.2.1
theorem dL_law_44 : decode cL_law 44 = .ok (.tableswitch 1952 0 45 #[200, 276, 316, 397, 437, 465, 505, 557, 585, 625, 677, 705, 745, 785, 825, 853, 893, 933, 973, 1013, 1053, 1093, 1133, 1173, 1225, 1253, 1281, 1309, 1349, 1377, 1405, 1433, 1461, 1501, 1541, 1609, 1665, 1693, 1721, 1749, 1789, 1829, 1885, 1913, 1926, 1939], 200) := bL_law_30.2.2.2.2.2.2.2.2.2.1
theorem dL_law_244 : decode cL_law 244 = .ok (.aload_n 1, 1) := bL_law_30.2.2.2.2.2.2.2.2.2.2.1
theorem dL_law_245 : decode cL_law 245 = .ok (.aload_n 0, 1) := bL_law_30.2.2.2.2.2.2.2.2.2.2.2.1
theorem dL_law_246 : decode cL_law 246 = .ok (.iload 4, 2) := bL_law_30.2.2.2.2.2.2.2.2.2.2.2.2.1
theorem dL_law_248 : decode cL_law 248 = .ok (.iconst 1, 1) := bL_law_30.2.2.2.2.2.2.2.2.2.2.2.2.2.1
theorem dL_law_249 : decode cL_law 249 = .ok (.iadd, 1) := bL_law_30.2.2.2.2.2.2.2.2.2.2.2.2.2.2.1
theorem dL_law_250 : decode cL_law 250 = .ok (.iaload, 1) := bL_law_30.2.2.2.2.2.2.2.2.2.2.2.2.2.2.2
set_option maxRecDepth 100000 in
theorem bL_law_251 : (decode cL_law 251 = .ok (.aload_n 0, 1)) ∧ (decode cL_law 252 = .ok (.iload 4, 2)) ∧ (decode cL_law 254 = .ok (.iconst 2, 1)) ∧ (decode cL_law 255 = .ok (.iadd, 1)) ∧ (decode cL_law 256 = .ok (.iaload, 1)) ∧ (decode cL_law 257 = .ok (.aload_n 0, 1)) ∧ (decode cL_law 258 = .ok (.iload 4, 2)) ∧ (decode cL_law 260 = .ok (.iconst 3, 1)) ∧ (decode cL_law 261 = .ok (.iadd, 1)) ∧ (decode cL_law 262 = .ok (.iaload, 1)) ∧ (decode cL_law 263 = .ok (.aload_n 0, 1)) ∧ (decode cL_law 264 = .ok (.iload 4, 2)) ∧ (decode cL_law 266 = .ok (.iconst 4, 1)) ∧ (decode cL_law 267 = .ok (.iadd, 1)) ∧ (decode cL_law 268 = .ok (.iaload, 1)) ∧ (decode cL_law 269 = .ok (.aload_n 0, 1)) := by decide +kernel
theorem dL_law_251 : decode cL_law 251 = .ok (.aload_n 0, 1) := bL_law_251.1
theorem dL_law_252 : decode cL_law 252 = .ok (.iload 4, 2) := bL_law_251.2.1
theorem dL_law_254 : decode cL_law 254 = .ok (.iconst 2, 1) := bL_law_251.2.2.1
theorem dL_law_255 : decode cL_law 255 = .ok (.iadd, 1) := bL_law_251.2.2.2.1
theorem dL_law_256 : decode cL_law 256 = .ok (.iaload, 1) := bL_law_251.2.2.2.2.1
theorem dL_law_257 : decode cL_law 257 = .ok (.aload_n 0, 1) := bL_law_251.2.2.2.2.2.1
theorem dL_law_258 : decode cL_law 258 = .ok (.iload 4, 2) := bL_law_251.2.2.2.2.2.2.1
theorem dL_law_260 : decode cL_law 260 = .ok (.iconst 3, 1) := bL_law_251.2.2.2.2.2.2.2.1
theorem dL_law_261 : decode cL_law 261 = .ok (.iadd, 1) := bL_law_251.2.2.2.2.2.2.2.2.1
theorem dL_law_262 : decode cL_law 262 = .ok (.iaload, 1) := bL_law_251.2.2.2.2.2.2.2.2.2.1
theorem dL_law_263 : decode cL_law 263 = .ok (.aload_n 0, 1) := bL_law_251.2.2.2.2.2.2.2.2.2.2.1
theorem dL_law_264 : decode cL_law 264 = .ok (.iload 4, 2) := bL_law_251.2.2.2.2.2.2.2.2.2.2.2.1
theorem dL_law_266 : decode cL_law 266 = .ok (.iconst 4, 1) := bL_law_251.2.2.2.2.2.2.2.2.2.2.2.2.1
theorem dL_law_267 : decode cL_law 267 = .ok (.iadd, 1) := bL_law_251.2.2.2.2.2.2.2.2.2.2.2.2.2.1
theorem dL_law_268 : decode cL_law 268 = .ok (.iaload, 1) := bL_law_251.2.2.2.2.2.2.2.2.2.2.2.2.2.2.1
theorem dL_law_269 : decode cL_law 269 = .ok (.aload_n 0, 1) := bL_law_251.2.2.2.2.2.2.2.2.2.2.2.2.2.2.2
set_option maxRecDepth 100000 in
theorem bL_law_270 : (decode cL_law 270 = .ok (.iload 4, 2)) ∧ (decode cL_law 272 = .ok (.iconst 5, 1)) ∧ (decode cL_law 273 = .ok (.iadd, 1)) ∧ (decode cL_law 274 = .ok (.iaload, 1)) ∧ (decode cL_law 275 = .ok (.aload_n 3, 1)) ∧ (decode cL_law 276 = .ok (.invokestatic 166, 3)) ∧ (decode cL_law 279 = .ok (.istore 5, 2)) ∧ (decode cL_law 281 = .ok (.aload_n 2, 1)) ∧ (decode cL_law 282 = .ok (.aload_n 0, 1)) ∧ (decode cL_law 283 = .ok (.iload 4, 2)) ∧ (decode cL_law 285 = .ok (.iconst 1, 1)) ∧ (decode cL_law 286 = .ok (.iadd, 1)) ∧ (decode cL_law 287 = .ok (.iaload, 1)) ∧ (decode cL_law 288 = .ok (.aload_n 0, 1)) ∧ (decode cL_law 289 = .ok (.iload 4, 2)) ∧ (decode cL_law 291 = .ok (.iconst 2, 1)) := by decide +kernel
theorem dL_law_270 : decode cL_law 270 = .ok (.iload 4, 2) := bL_law_270.1
theorem dL_law_272 : decode cL_law 272 = .ok (.iconst 5, 1) := bL_law_270.2.1
theorem dL_law_273 : decode cL_law 273 = .ok (.iadd, 1) := bL_law_270.2.2.1
theorem dL_law_274 : decode cL_law 274 = .ok (.iaload, 1) := bL_law_270.2.2.2.1
theorem dL_law_275 : decode cL_law 275 = .ok (.aload_n 3, 1) := bL_law_270.2.2.2.2.1
theorem dL_law_276 : decode cL_law 276 = .ok (.invokestatic 166, 3) := bL_law_270.2.2.2.2.2.1
theorem dL_law_279 : decode cL_law 279 = .ok (.istore 5, 2) := bL_law_270.2.2.2.2.2.2.1
theorem dL_law_281 : decode cL_law 281 = .ok (.aload_n 2, 1) := bL_law_270.2.2.2.2.2.2.2.1
theorem dL_law_282 : decode cL_law 282 = .ok (.aload_n 0, 1) := bL_law_270.2.2.2.2.2.2.2.2.1
theorem dL_law_283 : decode cL_law 283 = .ok (.iload 4, 2) := bL_law_270.2.2.2.2.2.2.2.2.2.1
theorem dL_law_285 : decode cL_law 285 = .ok (.iconst 1, 1) := bL_law_270.2.2.2.2.2.2.2.2.2.2.1
theorem dL_law_286 : decode cL_law 286 = .ok (.iadd, 1) := bL_law_270.2.2.2.2.2.2.2.2.2.2.2.1
theorem dL_law_287 : decode cL_law 287 = .ok (.iaload, 1) := bL_law_270.2.2.2.2.2.2.2.2.2.2.2.2.1
theorem dL_law_288 : decode cL_law 288 = .ok (.aload_n 0, 1) := bL_law_270.2.2.2.2.2.2.2.2.2.2.2.2.2.1
theorem dL_law_289 : decode cL_law 289 = .ok (.iload 4, 2) := bL_law_270.2.2.2.2.2.2.2.2.2.2.2.2.2.2.1
theorem dL_law_291 : decode cL_law 291 = .ok (.iconst 2, 1) := bL_law_270.2.2.2.2.2.2.2.2.2.2.2.2.2.2.2
set_option maxRecDepth 100000 in
theorem bL_law_292 : (decode cL_law 292 = .ok (.iadd, 1)) ∧ (decode cL_law 293 = .ok (.iaload, 1)) ∧ (decode cL_law 294 = .ok (.aload_n 0, 1)) ∧ (decode cL_law 295 = .ok (.iload 4, 2)) ∧ (decode cL_law 297 = .ok (.iconst 3, 1)) ∧ (decode cL_law 298 = .ok (.iadd, 1)) ∧ (decode cL_law 299 = .ok (.iaload, 1)) ∧ (decode cL_law 300 = .ok (.aload_n 0, 1)) ∧ (decode cL_law 301 = .ok (.iload 4, 2)) ∧ (decode cL_law 303 = .ok (.iconst 4, 1)) ∧ (decode cL_law 304 = .ok (.iadd, 1)) ∧ (decode cL_law 305 = .ok (.iaload, 1)) ∧ (decode cL_law 306 = .ok (.aload_n 0, 1)) ∧ (decode cL_law 307 = .ok (.iload 4, 2)) ∧ (decode cL_law 309 = .ok (.iconst 5, 1)) ∧ (decode cL_law 310 = .ok (.iadd, 1)) := by decide +kernel
theorem dL_law_292 : decode cL_law 292 = .ok (.iadd, 1) := bL_law_292.1
theorem dL_law_293 : decode cL_law 293 = .ok (.iaload, 1) := bL_law_292.2.1
theorem dL_law_294 : decode cL_law 294 = .ok (.aload_n 0, 1) := bL_law_292.2.2.1
theorem dL_law_295 : decode cL_law 295 = .ok (.iload 4, 2) := bL_law_292.2.2.2.1
theorem dL_law_297 : decode cL_law 297 = .ok (.iconst 3, 1) := bL_law_292.2.2.2.2.1
theorem dL_law_298 : decode cL_law 298 = .ok (.iadd, 1) := bL_law_292.2.2.2.2.2.1
theorem dL_law_299 : decode cL_law 299 = .ok (.iaload, 1) := bL_law_292.2.2.2.2.2.2.1
theorem dL_law_300 : decode cL_law 300 = .ok (.aload_n 0, 1) := bL_law_292.2.2.2.2.2.2.2.1
theorem dL_law_301 : decode cL_law 301 = .ok (.iload 4, 2) := bL_law_292.2.2.2.2.2.2.2.2.1
theorem dL_law_303 : decode cL_law 303 = .ok (.iconst 4, 1) := bL_law_292.2.2.2.2.2.2.2.2.2.1
theorem dL_law_304 : decode cL_law 304 = .ok (.iadd, 1) := bL_law_292.2.2.2.2.2.2.2.2.2.2.1
theorem dL_law_305 : decode cL_law 305 = .ok (.iaload, 1) := bL_law_292.2.2.2.2.2.2.2.2.2.2.2.1
theorem dL_law_306 : decode cL_law 306 = .ok (.aload_n 0, 1) := bL_law_292.2.2.2.2.2.2.2.2.2.2.2.2.1
theorem dL_law_307 : decode cL_law 307 = .ok (.iload 4, 2) := bL_law_292.2.2.2.2.2.2.2.2.2.2.2.2.2.1
theorem dL_law_309 : decode cL_law 309 = .ok (.iconst 5, 1) := bL_law_292.2.2.2.2.2.2.2.2.2.2.2.2.2.2.1
theorem dL_law_310 : decode cL_law 310 = .ok (.iadd, 1) := bL_law_292.2.2.2.2.2.2.2.2.2.2.2.2.2.2.2
set_option maxRecDepth 100000 in
theorem bL_law_311 : (decode cL_law 311 = .ok (.iaload, 1)) ∧ (decode cL_law 312 = .ok (.invokevirtual 171, 3)) ∧ (decode cL_law 315 = .ok (.istore 6, 2)) ∧ (decode cL_law 317 = .ok (.goto 1679, 3)) ∧ (decode cL_law 320 = .ok (.aload_n 1, 1)) ∧ (decode cL_law 321 = .ok (.aload_n 0, 1)) ∧ (decode cL_law 322 = .ok (.iload 4, 2)) ∧ (decode cL_law 324 = .ok (.iconst 1, 1)) ∧ (decode cL_law 325 = .ok (.iadd, 1)) ∧ (decode cL_law 326 = .ok (.iaload, 1)) ∧ (decode cL_law 327 = .ok (.aload_n 0, 1)) ∧ (decode cL_law 328 = .ok (.iload 4, 2)) ∧ (decode cL_law 330 = .ok (.iconst 2, 1)) ∧ (decode cL_law 331 = .ok (.iadd, 1)) ∧ (decode cL_law 332 = .ok (.iaload, 1)) ∧ (decode cL_law 333 = .ok (.aload_n 3, 1)) := by decide +kernel
theorem dL_law_311 : decode cL_law 311 = .ok (.iaload, 1) := bL_law_311.1
theorem dL_law_312 : decode cL_law 312 = .ok (.invokevirtual 171, 3) := bL_law_311.2.1
theorem dL_law_315 : decode cL_law 315 = .ok (.istore 6, 2) := bL_law_311.2.2.1
theorem dL_law_317 : decode cL_law 317 = .ok (.goto 1679, 3) := bL_law_311.2.2.2.1
theorem dL_law_320 : decode cL_law 320 = .ok (.aload_n 1, 1) := bL_law_311.2.2.2.2.1
theorem dL_law_321 : decode cL_law 321 = .ok (.aload_n 0, 1) := bL_law_311.2.2.2.2.2.1
theorem dL_law_322 : decode cL_law 322 = .ok (.iload 4, 2) := bL_law_311.2.2.2.2.2.2.1
theorem dL_law_324 : decode cL_law 324 = .ok (.iconst 1, 1) := bL_law_311.2.2.2.2.2.2.2.1
theorem dL_law_325 : decode cL_law 325 = .ok (.iadd, 1) := bL_law_311.2.2.2.2.2.2.2.2.1
theorem dL_law_326 : decode cL_law 326 = .ok (.iaload, 1) := bL_law_311.2.2.2.2.2.2.2.2.2.1
theorem dL_law_327 : decode cL_law 327 = .ok (.aload_n 0, 1) := bL_law_311.2.2.2.2.2.2.2.2.2.2.1
theorem dL_law_328 : decode cL_law 328 = .ok (.iload 4, 2) := bL_law_311.2.2.2.2.2.2.2.2.2.2.2.1
theorem dL_law_330 : decode cL_law 330 = .ok (.iconst 2, 1) := bL_law_311.2.2.2.2.2.2.2.2.2.2.2.2.1
theorem dL_law_331 : decode cL_law 331 = .ok (.iadd, 1) := bL_law_311.2.2.2.2.2.2.2.2.2.2.2.2.2.1
theorem dL_law_332 : decode cL_law 332 = .ok (.iaload, 1) := bL_law_311.2.2.2.2.2.2.2.2.2.2.2.2.2.2.1
theorem dL_law_333 : decode cL_law 333 = .ok (.aload_n 3, 1) := bL_law_311.2.2.2.2.2.2.2.2.2.2.2.2.2.2.2
set_option maxRecDepth 100000 in
theorem bL_law_334 : (decode cL_law 334 = .ok (.invokestatic 172, 3)) ∧ (decode cL_law 337 = .ok (.istore 5, 2)) ∧ (decode cL_law 339 = .ok (.aload_n 2, 1)) ∧ (decode cL_law 340 = .ok (.aload_n 0, 1)) ∧ (decode cL_law 341 = .ok (.iload 4, 2)) ∧ (decode cL_law 343 = .ok (.iconst 1, 1)) ∧ (decode cL_law 344 = .ok (.iadd, 1)) ∧ (decode cL_law 345 = .ok (.iaload, 1)) ∧ (decode cL_law 346 = .ok (.aload_n 0, 1)) ∧ (decode cL_law 347 = .ok (.iload 4, 2)) ∧ (decode cL_law 349 = .ok (.iconst 2, 1)) ∧ (decode cL_law 350 = .ok (.iadd, 1)) ∧ (decode cL_law 351 = .ok (.iaload, 1)) ∧ (decode cL_law 352 = .ok (.invokevirtual 175, 3)) ∧ (decode cL_law 355 = .ok (.istore 6, 2)) ∧ (decode cL_law 357 = .ok (.goto 1639, 3)) := by decide +kernel
theorem dL_law_334 : decode cL_law 334 = .ok (.invokestatic 172, 3) := bL_law_334.1
theorem dL_law_337 : decode cL_law 337 = .ok (.istore 5, 2) := bL_law_334.2.1
theorem dL_law_339 : decode cL_law 339 = .ok (.aload_n 2, 1) := bL_law_334.2.2.1
theorem dL_law_340 : decode cL_law 340 = .ok (.aload_n 0, 1) := bL_law_334.2.2.2.1
theorem dL_law_341 : decode cL_law 341 = .ok (.iload 4, 2) := bL_law_334.2.2.2.2.1
theorem dL_law_343 : decode cL_law 343 = .ok (.iconst 1, 1) := bL_law_334.2.2.2.2.2.1
theorem dL_law_344 : decode cL_law 344 = .ok (.iadd, 1) := bL_law_334.2.2.2.2.2.2.1
theorem dL_law_345 : decode cL_law 345 = .ok (.iaload, 1) := bL_law_334.2.2.2.2.2.2.2.1
theorem dL_law_346 : decode cL_law 346 = .ok (.aload_n 0, 1) := bL_law_334.2.2.2.2.2.2.2.2.1
theorem dL_law_347 : decode cL_law 347 = .ok (.iload 4, 2) := bL_law_334.2.2.2.2.2.2.2.2.2.1
theorem dL_law_349 : decode cL_law 349 = .ok (.iconst 2, 1) := bL_law_334.2.2.2.2.2.2.2.2.2.2.1
theorem dL_law_350 : decode cL_law 350 = .ok (.iadd, 1) := bL_law_334.2.2.2.2.2.2.2.2.2.2.2.1
theorem dL_law_351 : decode cL_law 351 = .ok (.iaload, 1) := bL_law_334.2.2.2.2.2.2.2.2.2.2.2.2.1
theorem dL_law_352 : decode cL_law 352 = .ok (.invokevirtual 175, 3) := bL_law_334.2.2.2.2.2.2.2.2.2.2.2.2.2.1
theorem dL_law_355 : decode cL_law 355 = .ok (.istore 6, 2) := bL_law_334.2.2.2.2.2.2.2.2.2.2.2.2.2.2.1
theorem dL_law_357 : decode cL_law 357 = .ok (.goto 1639, 3) := bL_law_334.2.2.2.2.2.2.2.2.2.2.2.2.2.2.2
set_option maxRecDepth 100000 in
theorem bL_law_360 : (decode cL_law 360 = .ok (.aload_n 1, 1)) ∧ (decode cL_law 361 = .ok (.aload_n 0, 1)) ∧ (decode cL_law 362 = .ok (.iload 4, 2)) ∧ (decode cL_law 364 = .ok (.iconst 1, 1)) ∧ (decode cL_law 365 = .ok (.iadd, 1)) ∧ (decode cL_law 366 = .ok (.iaload, 1)) ∧ (decode cL_law 367 = .ok (.aload_n 0, 1)) ∧ (decode cL_law 368 = .ok (.iload 4, 2)) ∧ (decode cL_law 370 = .ok (.iconst 2, 1)) ∧ (decode cL_law 371 = .ok (.iadd, 1)) ∧ (decode cL_law 372 = .ok (.iaload, 1)) ∧ (decode cL_law 373 = .ok (.aload_n 0, 1)) ∧ (decode cL_law 374 = .ok (.iload 4, 2)) ∧ (decode cL_law 376 = .ok (.iconst 3, 1)) ∧ (decode cL_law 377 = .ok (.iadd, 1)) ∧ (decode cL_law 378 = .ok (.iaload, 1)) := by decide +kernel
theorem dL_law_360 : decode cL_law 360 = .ok (.aload_n 1, 1) := bL_law_360.1
theorem dL_law_361 : decode cL_law 361 = .ok (.aload_n 0, 1) := bL_law_360.2.1
theorem dL_law_362 : decode cL_law 362 = .ok (.iload 4, 2) := bL_law_360.2.2.1
theorem dL_law_364 : decode cL_law 364 = .ok (.iconst 1, 1) := bL_law_360.2.2.2.1
theorem dL_law_365 : decode cL_law 365 = .ok (.iadd, 1) := bL_law_360.2.2.2.2.1
theorem dL_law_366 : decode cL_law 366 = .ok (.iaload, 1) := bL_law_360.2.2.2.2.2.1
theorem dL_law_367 : decode cL_law 367 = .ok (.aload_n 0, 1) := bL_law_360.2.2.2.2.2.2.1
theorem dL_law_368 : decode cL_law 368 = .ok (.iload 4, 2) := bL_law_360.2.2.2.2.2.2.2.1
theorem dL_law_370 : decode cL_law 370 = .ok (.iconst 2, 1) := bL_law_360.2.2.2.2.2.2.2.2.1
theorem dL_law_371 : decode cL_law 371 = .ok (.iadd, 1) := bL_law_360.2.2.2.2.2.2.2.2.2.1
theorem dL_law_372 : decode cL_law 372 = .ok (.iaload, 1) := bL_law_360.2.2.2.2.2.2.2.2.2.2.1
theorem dL_law_373 : decode cL_law 373 = .ok (.aload_n 0, 1) := bL_law_360.2.2.2.2.2.2.2.2.2.2.2.1
theorem dL_law_374 : decode cL_law 374 = .ok (.iload 4, 2) := bL_law_360.2.2.2.2.2.2.2.2.2.2.2.2.1
theorem dL_law_376 : decode cL_law 376 = .ok (.iconst 3, 1) := bL_law_360.2.2.2.2.2.2.2.2.2.2.2.2.2.1
theorem dL_law_377 : decode cL_law 377 = .ok (.iadd, 1) := bL_law_360.2.2.2.2.2.2.2.2.2.2.2.2.2.2.1
theorem dL_law_378 : decode cL_law 378 = .ok (.iaload, 1) := bL_law_360.2.2.2.2.2.2.2.2.2.2.2.2.2.2.2
set_option maxRecDepth 100000 in
theorem bL_law_379 : (decode cL_law 379 = .ok (.aload_n 3, 1)) ∧ (decode cL_law 380 = .ok (.invokestatic 176, 3)) ∧ (decode cL_law 383 = .ok (.istore 5, 2)) ∧ (decode cL_law 385 = .ok (.aload_n 2, 1)) ∧ (decode cL_law 386 = .ok (.aload_n 0, 1)) ∧ (decode cL_law 387 = .ok (.iload 4, 2)) ∧ (decode cL_law 389 = .ok (.iconst 1, 1)) ∧ (decode cL_law 390 = .ok (.iadd, 1)) ∧ (decode cL_law 391 = .ok (.iaload, 1)) ∧ (decode cL_law 392 = .ok (.aload_n 0, 1)) ∧ (decode cL_law 393 = .ok (.iload 4, 2)) ∧ (decode cL_law 395 = .ok (.iconst 2, 1)) ∧ (decode cL_law 396 = .ok (.iadd, 1)) ∧ (decode cL_law 397 = .ok (.iaload, 1)) ∧ (decode cL_law 398 = .ok (.aload_n 0, 1)) ∧ (decode cL_law 399 = .ok (.iload 4, 2)) := by decide +kernel
theorem dL_law_379 : decode cL_law 379 = .ok (.aload_n 3, 1) := bL_law_379.1
theorem dL_law_380 : decode cL_law 380 = .ok (.invokestatic 176, 3) := bL_law_379.2.1
theorem dL_law_383 : decode cL_law 383 = .ok (.istore 5, 2) := bL_law_379.2.2.1
theorem dL_law_385 : decode cL_law 385 = .ok (.aload_n 2, 1) := bL_law_379.2.2.2.1
theorem dL_law_386 : decode cL_law 386 = .ok (.aload_n 0, 1) := bL_law_379.2.2.2.2.1
theorem dL_law_387 : decode cL_law 387 = .ok (.iload 4, 2) := bL_law_379.2.2.2.2.2.1
theorem dL_law_389 : decode cL_law 389 = .ok (.iconst 1, 1) := bL_law_379.2.2.2.2.2.2.1
theorem dL_law_390 : decode cL_law 390 = .ok (.iadd, 1) := bL_law_379.2.2.2.2.2.2.2.1
theorem dL_law_391 : decode cL_law 391 = .ok (.iaload, 1) := bL_law_379.2.2.2.2.2.2.2.2.1
theorem dL_law_392 : decode cL_law 392 = .ok (.aload_n 0, 1) := bL_law_379.2.2.2.2.2.2.2.2.2.1
theorem dL_law_393 : decode cL_law 393 = .ok (.iload 4, 2) := bL_law_379.2.2.2.2.2.2.2.2.2.2.1
theorem dL_law_395 : decode cL_law 395 = .ok (.iconst 2, 1) := bL_law_379.2.2.2.2.2.2.2.2.2.2.2.1
theorem dL_law_396 : decode cL_law 396 = .ok (.iadd, 1) := bL_law_379.2.2.2.2.2.2.2.2.2.2.2.2.1
theorem dL_law_397 : decode cL_law 397 = .ok (.iaload, 1) := bL_law_379.2.2.2.2.2.2.2.2.2.2.2.2.2.1
theorem dL_law_398 : decode cL_law 398 = .ok (.aload_n 0, 1) := bL_law_379.2.2.2.2.2.2.2.2.2.2.2.2.2.2.1
theorem dL_law_399 : decode cL_law 399 = .ok (.iload 4, 2) := bL_law_379.2.2.2.2.2.2.2.2.2.2.2.2.2.2.2
set_option maxRecDepth 100000 in
theorem bL_law_401 : (decode cL_law 401 = .ok (.iconst 3, 1)) ∧ (decode cL_law 402 = .ok (.iadd, 1)) ∧ (decode cL_law 403 = .ok (.iaload, 1)) ∧ (decode cL_law 404 = .ok (.invokevirtual 179, 3)) ∧ (decode cL_law 407 = .ok (.istore 6, 2)) ∧ (decode cL_law 409 = .ok (.aload_n 2, 1)) ∧ (decode cL_law 410 = .ok (.invokevirtual 180, 3)) ∧ (decode cL_law 413 = .ok (.iload 5, 2)) ∧ (decode cL_law 415 = .ok (.if_icmp .eq 5, 3)) ∧ (decode cL_law 418 = .ok (.iconst 0, 1)) ∧ (decode cL_law 419 = .ok (.ireturn, 1)) ∧ (decode cL_law 420 = .ok (.iload 5, 2)) ∧ (decode cL_law 422 = .ok (.ifCond .ne 16, 3)) ∧ (decode cL_law 425 = .ok (.aload_n 3, 1)) ∧ (decode cL_law 426 = .ok (.getfield 13, 3)) ∧ (decode cL_law 429 = .ok (.iload 6, 2)) := by decide +kernel
theorem dL_law_401 : decode cL_law 401 = .ok (.iconst 3, 1) := bL_law_401.1
theorem dL_law_402 : decode cL_law 402 = .ok (.iadd, 1) := bL_law_401.2.1
theorem dL_law_403 : decode cL_law 403 = .ok (.iaload, 1) := bL_law_401.2.2.1
theorem dL_law_404 : decode cL_law 404 = .ok (.invokevirtual 179, 3) := bL_law_401.2.2.2.1
theorem dL_law_407 : decode cL_law 407 = .ok (.istore 6, 2) := bL_law_401.2.2.2.2.1
theorem dL_law_409 : decode cL_law 409 = .ok (.aload_n 2, 1) := bL_law_401.2.2.2.2.2.1
theorem dL_law_410 : decode cL_law 410 = .ok (.invokevirtual 180, 3) := bL_law_401.2.2.2.2.2.2.1
theorem dL_law_413 : decode cL_law 413 = .ok (.iload 5, 2) := bL_law_401.2.2.2.2.2.2.2.1
theorem dL_law_415 : decode cL_law 415 = .ok (.if_icmp .eq 5, 3) := bL_law_401.2.2.2.2.2.2.2.2.1
theorem dL_law_418 : decode cL_law 418 = .ok (.iconst 0, 1) := bL_law_401.2.2.2.2.2.2.2.2.2.1
theorem dL_law_419 : decode cL_law 419 = .ok (.ireturn, 1) := bL_law_401.2.2.2.2.2.2.2.2.2.2.1
theorem dL_law_420 : decode cL_law 420 = .ok (.iload 5, 2) := bL_law_401.2.2.2.2.2.2.2.2.2.2.2.1
theorem dL_law_422 : decode cL_law 422 = .ok (.ifCond .ne 16, 3) := bL_law_401.2.2.2.2.2.2.2.2.2.2.2.2.1
theorem dL_law_425 : decode cL_law 425 = .ok (.aload_n 3, 1) := bL_law_401.2.2.2.2.2.2.2.2.2.2.2.2.2.1
theorem dL_law_426 : decode cL_law 426 = .ok (.getfield 13, 3) := bL_law_401.2.2.2.2.2.2.2.2.2.2.2.2.2.2.1
theorem dL_law_429 : decode cL_law 429 = .ok (.iload 6, 2) := bL_law_401.2.2.2.2.2.2.2.2.2.2.2.2.2.2.2
set_option maxRecDepth 100000 in
theorem bL_law_431 : (decode cL_law 431 = .ok (.i2l, 1)) ∧ (decode cL_law 432 = .ok (.lcmp, 1)) ∧ (decode cL_law 433 = .ok (.ifCond .eq 5, 3)) ∧ (decode cL_law 436 = .ok (.iconst 0, 1)) ∧ (decode cL_law 437 = .ok (.ireturn, 1)) ∧ (decode cL_law 438 = .ok (.goto 1558, 3)) ∧ (decode cL_law 441 = .ok (.aload_n 1, 1)) ∧ (decode cL_law 442 = .ok (.aload_n 0, 1)) ∧ (decode cL_law 443 = .ok (.iload 4, 2)) ∧ (decode cL_law 445 = .ok (.iconst 1, 1)) ∧ (decode cL_law 446 = .ok (.iadd, 1)) ∧ (decode cL_law 447 = .ok (.iaload, 1)) ∧ (decode cL_law 448 = .ok (.aload_n 0, 1)) ∧ (decode cL_law 449 = .ok (.iload 4, 2)) ∧ (decode cL_law 451 = .ok (.iconst 2, 1)) ∧ (decode cL_law 452 = .ok (.iadd, 1)) := by decide +kernel
theorem dL_law_431 : decode cL_law 431 = .ok (.i2l, 1) := bL_law_431.1
theorem dL_law_432 : decode cL_law 432 = .ok (.lcmp, 1) := bL_law_431.2.1
theorem dL_law_433 : decode cL_law 433 = .ok (.ifCond .eq 5, 3) := bL_law_431.2.2.1
theorem dL_law_436 : decode cL_law 436 = .ok (.iconst 0, 1) := bL_law_431.2.2.2.1
theorem dL_law_437 : decode cL_law 437 = .ok (.ireturn, 1) := bL_law_431.2.2.2.2.1
theorem dL_law_438 : decode cL_law 438 = .ok (.goto 1558, 3) := bL_law_431.2.2.2.2.2.1
theorem dL_law_441 : decode cL_law 441 = .ok (.aload_n 1, 1) := bL_law_431.2.2.2.2.2.2.1
theorem dL_law_442 : decode cL_law 442 = .ok (.aload_n 0, 1) := bL_law_431.2.2.2.2.2.2.2.1
theorem dL_law_443 : decode cL_law 443 = .ok (.iload 4, 2) := bL_law_431.2.2.2.2.2.2.2.2.1
theorem dL_law_445 : decode cL_law 445 = .ok (.iconst 1, 1) := bL_law_431.2.2.2.2.2.2.2.2.2.1
theorem dL_law_446 : decode cL_law 446 = .ok (.iadd, 1) := bL_law_431.2.2.2.2.2.2.2.2.2.2.1
theorem dL_law_447 : decode cL_law 447 = .ok (.iaload, 1) := bL_law_431.2.2.2.2.2.2.2.2.2.2.2.1
theorem dL_law_448 : decode cL_law 448 = .ok (.aload_n 0, 1) := bL_law_431.2.2.2.2.2.2.2.2.2.2.2.2.1
theorem dL_law_449 : decode cL_law 449 = .ok (.iload 4, 2) := bL_law_431.2.2.2.2.2.2.2.2.2.2.2.2.2.1
theorem dL_law_451 : decode cL_law 451 = .ok (.iconst 2, 1) := bL_law_431.2.2.2.2.2.2.2.2.2.2.2.2.2.2.1
theorem dL_law_452 : decode cL_law 452 = .ok (.iadd, 1) := bL_law_431.2.2.2.2.2.2.2.2.2.2.2.2.2.2.2
set_option maxRecDepth 100000 in
theorem bL_law_453 : (decode cL_law 453 = .ok (.iaload, 1)) ∧ (decode cL_law 454 = .ok (.aload_n 3, 1)) ∧ (decode cL_law 455 = .ok (.invokestatic 184, 3)) ∧ (decode cL_law 458 = .ok (.istore 5, 2)) ∧ (decode cL_law 460 = .ok (.aload_n 2, 1)) ∧ (decode cL_law 461 = .ok (.aload_n 0, 1)) ∧ (decode cL_law 462 = .ok (.iload 4, 2)) ∧ (decode cL_law 464 = .ok (.iconst 1, 1)) ∧ (decode cL_law 465 = .ok (.iadd, 1)) ∧ (decode cL_law 466 = .ok (.iaload, 1)) ∧ (decode cL_law 467 = .ok (.aload_n 0, 1)) ∧ (decode cL_law 468 = .ok (.iload 4, 2)) ∧ (decode cL_law 470 = .ok (.iconst 2, 1)) ∧ (decode cL_law 471 = .ok (.iadd, 1)) ∧ (decode cL_law 472 = .ok (.iaload, 1)) ∧ (decode cL_law 473 = .ok (.invokevirtual 186, 3)) := by decide +kernel
theorem dL_law_453 : decode cL_law 453 = .ok (.iaload, 1) := bL_law_453.1
theorem dL_law_454 : decode cL_law 454 = .ok (.aload_n 3, 1) := bL_law_453.2.1
theorem dL_law_455 : decode cL_law 455 = .ok (.invokestatic 184, 3) := bL_law_453.2.2.1
theorem dL_law_458 : decode cL_law 458 = .ok (.istore 5, 2) := bL_law_453.2.2.2.1
theorem dL_law_460 : decode cL_law 460 = .ok (.aload_n 2, 1) := bL_law_453.2.2.2.2.1
theorem dL_law_461 : decode cL_law 461 = .ok (.aload_n 0, 1) := bL_law_453.2.2.2.2.2.1
theorem dL_law_462 : decode cL_law 462 = .ok (.iload 4, 2) := bL_law_453.2.2.2.2.2.2.1
theorem dL_law_464 : decode cL_law 464 = .ok (.iconst 1, 1) := bL_law_453.2.2.2.2.2.2.2.1
theorem dL_law_465 : decode cL_law 465 = .ok (.iadd, 1) := bL_law_453.2.2.2.2.2.2.2.2.1
theorem dL_law_466 : decode cL_law 466 = .ok (.iaload, 1) := bL_law_453.2.2.2.2.2.2.2.2.2.1
theorem dL_law_467 : decode cL_law 467 = .ok (.aload_n 0, 1) := bL_law_453.2.2.2.2.2.2.2.2.2.2.1
theorem dL_law_468 : decode cL_law 468 = .ok (.iload 4, 2) := bL_law_453.2.2.2.2.2.2.2.2.2.2.2.1
theorem dL_law_470 : decode cL_law 470 = .ok (.iconst 2, 1) := bL_law_453.2.2.2.2.2.2.2.2.2.2.2.2.1
theorem dL_law_471 : decode cL_law 471 = .ok (.iadd, 1) := bL_law_453.2.2.2.2.2.2.2.2.2.2.2.2.2.1
theorem dL_law_472 : decode cL_law 472 = .ok (.iaload, 1) := bL_law_453.2.2.2.2.2.2.2.2.2.2.2.2.2.2.1
theorem dL_law_473 : decode cL_law 473 = .ok (.invokevirtual 186, 3) := bL_law_453.2.2.2.2.2.2.2.2.2.2.2.2.2.2.2
set_option maxRecDepth 100000 in
theorem bL_law_476 : (decode cL_law 476 = .ok (.istore 6, 2)) ∧ (decode cL_law 478 = .ok (.goto 1518, 3)) ∧ (decode cL_law 481 = .ok (.aload_n 1, 1)) ∧ (decode cL_law 482 = .ok (.aload_n 0, 1)) ∧ (decode cL_law 483 = .ok (.iload 4, 2)) ∧ (decode cL_law 485 = .ok (.iconst 1, 1)) ∧ (decode cL_law 486 = .ok (.iadd, 1)) ∧ (decode cL_law 487 = .ok (.iaload, 1)) ∧ (decode cL_law 488 = .ok (.aload_n 3, 1)) ∧ (decode cL_law 489 = .ok (.invokestatic 187, 3)) ∧ (decode cL_law 492 = .ok (.istore 5, 2)) ∧ (decode cL_law 494 = .ok (.aload_n 2, 1)) ∧ (decode cL_law 495 = .ok (.aload_n 0, 1)) ∧ (decode cL_law 496 = .ok (.iload 4, 2)) ∧ (decode cL_law 498 = .ok (.iconst 1, 1)) ∧ (decode cL_law 499 = .ok (.iadd, 1)) := by decide +kernel
theorem dL_law_476 : decode cL_law 476 = .ok (.istore 6, 2) := bL_law_476.1
theorem dL_law_478 : decode cL_law 478 = .ok (.goto 1518, 3) := bL_law_476.2.1
theorem dL_law_481 : decode cL_law 481 = .ok (.aload_n 1, 1) := bL_law_476.2.2.1
theorem dL_law_482 : decode cL_law 482 = .ok (.aload_n 0, 1) := bL_law_476.2.2.2.1
theorem dL_law_483 : decode cL_law 483 = .ok (.iload 4, 2) := bL_law_476.2.2.2.2.1
theorem dL_law_485 : decode cL_law 485 = .ok (.iconst 1, 1) := bL_law_476.2.2.2.2.2.1
theorem dL_law_486 : decode cL_law 486 = .ok (.iadd, 1) := bL_law_476.2.2.2.2.2.2.1
theorem dL_law_487 : decode cL_law 487 = .ok (.iaload, 1) := bL_law_476.2.2.2.2.2.2.2.1
theorem dL_law_488 : decode cL_law 488 = .ok (.aload_n 3, 1) := bL_law_476.2.2.2.2.2.2.2.2.1
theorem dL_law_489 : decode cL_law 489 = .ok (.invokestatic 187, 3) := bL_law_476.2.2.2.2.2.2.2.2.2.1
theorem dL_law_492 : decode cL_law 492 = .ok (.istore 5, 2) := bL_law_476.2.2.2.2.2.2.2.2.2.2.1
theorem dL_law_494 : decode cL_law 494 = .ok (.aload_n 2, 1) := bL_law_476.2.2.2.2.2.2.2.2.2.2.2.1
theorem dL_law_495 : decode cL_law 495 = .ok (.aload_n 0, 1) := bL_law_476.2.2.2.2.2.2.2.2.2.2.2.2.1
theorem dL_law_496 : decode cL_law 496 = .ok (.iload 4, 2) := bL_law_476.2.2.2.2.2.2.2.2.2.2.2.2.2.1
theorem dL_law_498 : decode cL_law 498 = .ok (.iconst 1, 1) := bL_law_476.2.2.2.2.2.2.2.2.2.2.2.2.2.2.1
theorem dL_law_499 : decode cL_law 499 = .ok (.iadd, 1) := bL_law_476.2.2.2.2.2.2.2.2.2.2.2.2.2.2.2
set_option maxRecDepth 100000 in
theorem bL_law_500 : (decode cL_law 500 = .ok (.iaload, 1)) ∧ (decode cL_law 501 = .ok (.invokevirtual 190, 3)) ∧ (decode cL_law 504 = .ok (.istore 6, 2)) ∧ (decode cL_law 506 = .ok (.goto 1490, 3)) ∧ (decode cL_law 509 = .ok (.aload_n 1, 1)) ∧ (decode cL_law 510 = .ok (.aload_n 0, 1)) ∧ (decode cL_law 511 = .ok (.iload 4, 2)) ∧ (decode cL_law 513 = .ok (.iconst 1, 1)) ∧ (decode cL_law 514 = .ok (.iadd, 1)) ∧ (decode cL_law 515 = .ok (.iaload, 1)) ∧ (decode cL_law 516 = .ok (.aload_n 0, 1)) ∧ (decode cL_law 517 = .ok (.iload 4, 2)) ∧ (decode cL_law 519 = .ok (.iconst 2, 1)) ∧ (decode cL_law 520 = .ok (.iadd, 1)) ∧ (decode cL_law 521 = .ok (.iaload, 1)) ∧ (decode cL_law 522 = .ok (.aload_n 3, 1)) := by decide +kernel
theorem dL_law_500 : decode cL_law 500 = .ok (.iaload, 1) := bL_law_500.1
theorem dL_law_501 : decode cL_law 501 = .ok (.invokevirtual 190, 3) := bL_law_500.2.1
theorem dL_law_504 : decode cL_law 504 = .ok (.istore 6, 2) := bL_law_500.2.2.1
theorem dL_law_506 : decode cL_law 506 = .ok (.goto 1490, 3) := bL_law_500.2.2.2.1
theorem dL_law_509 : decode cL_law 509 = .ok (.aload_n 1, 1) := bL_law_500.2.2.2.2.1
theorem dL_law_510 : decode cL_law 510 = .ok (.aload_n 0, 1) := bL_law_500.2.2.2.2.2.1
theorem dL_law_511 : decode cL_law 511 = .ok (.iload 4, 2) := bL_law_500.2.2.2.2.2.2.1
theorem dL_law_513 : decode cL_law 513 = .ok (.iconst 1, 1) := bL_law_500.2.2.2.2.2.2.2.1
theorem dL_law_514 : decode cL_law 514 = .ok (.iadd, 1) := bL_law_500.2.2.2.2.2.2.2.2.1
theorem dL_law_515 : decode cL_law 515 = .ok (.iaload, 1) := bL_law_500.2.2.2.2.2.2.2.2.2.1
theorem dL_law_516 : decode cL_law 516 = .ok (.aload_n 0, 1) := bL_law_500.2.2.2.2.2.2.2.2.2.2.1
theorem dL_law_517 : decode cL_law 517 = .ok (.iload 4, 2) := bL_law_500.2.2.2.2.2.2.2.2.2.2.2.1
theorem dL_law_519 : decode cL_law 519 = .ok (.iconst 2, 1) := bL_law_500.2.2.2.2.2.2.2.2.2.2.2.2.1
theorem dL_law_520 : decode cL_law 520 = .ok (.iadd, 1) := bL_law_500.2.2.2.2.2.2.2.2.2.2.2.2.2.1
theorem dL_law_521 : decode cL_law 521 = .ok (.iaload, 1) := bL_law_500.2.2.2.2.2.2.2.2.2.2.2.2.2.2.1
theorem dL_law_522 : decode cL_law 522 = .ok (.aload_n 3, 1) := bL_law_500.2.2.2.2.2.2.2.2.2.2.2.2.2.2.2
set_option maxRecDepth 100000 in
theorem bL_law_523 : (decode cL_law 523 = .ok (.invokestatic 191, 3)) ∧ (decode cL_law 526 = .ok (.istore 5, 2)) ∧ (decode cL_law 528 = .ok (.aload_n 2, 1)) ∧ (decode cL_law 529 = .ok (.aload_n 0, 1)) ∧ (decode cL_law 530 = .ok (.iload 4, 2)) ∧ (decode cL_law 532 = .ok (.iconst 1, 1)) ∧ (decode cL_law 533 = .ok (.iadd, 1)) ∧ (decode cL_law 534 = .ok (.iaload, 1)) ∧ (decode cL_law 535 = .ok (.aload_n 0, 1)) ∧ (decode cL_law 536 = .ok (.iload 4, 2)) ∧ (decode cL_law 538 = .ok (.iconst 2, 1)) ∧ (decode cL_law 539 = .ok (.iadd, 1)) ∧ (decode cL_law 540 = .ok (.iaload, 1)) ∧ (decode cL_law 541 = .ok (.invokevirtual 193, 3)) ∧ (decode cL_law 544 = .ok (.istore 6, 2)) ∧ (decode cL_law 546 = .ok (.goto 1450, 3)) := by decide +kernel
theorem dL_law_523 : decode cL_law 523 = .ok (.invokestatic 191, 3) := bL_law_523.1
theorem dL_law_526 : decode cL_law 526 = .ok (.istore 5, 2) := bL_law_523.2.1
theorem dL_law_528 : decode cL_law 528 = .ok (.aload_n 2, 1) := bL_law_523.2.2.1
theorem dL_law_529 : decode cL_law 529 = .ok (.aload_n 0, 1) := bL_law_523.2.2.2.1
theorem dL_law_530 : decode cL_law 530 = .ok (.iload 4, 2) := bL_law_523.2.2.2.2.1
theorem dL_law_532 : decode cL_law 532 = .ok (.iconst 1, 1) := bL_law_523.2.2.2.2.2.1
theorem dL_law_533 : decode cL_law 533 = .ok (.iadd, 1) := bL_law_523.2.2.2.2.2.2.1
theorem dL_law_534 : decode cL_law 534 = .ok (.iaload, 1) := bL_law_523.2.2.2.2.2.2.2.1
theorem dL_law_535 : decode cL_law 535 = .ok (.aload_n 0, 1) := bL_law_523.2.2.2.2.2.2.2.2.1
theorem dL_law_536 : decode cL_law 536 = .ok (.iload 4, 2) := bL_law_523.2.2.2.2.2.2.2.2.2.1
theorem dL_law_538 : decode cL_law 538 = .ok (.iconst 2, 1) := bL_law_523.2.2.2.2.2.2.2.2.2.2.1
theorem dL_law_539 : decode cL_law 539 = .ok (.iadd, 1) := bL_law_523.2.2.2.2.2.2.2.2.2.2.2.1
theorem dL_law_540 : decode cL_law 540 = .ok (.iaload, 1) := bL_law_523.2.2.2.2.2.2.2.2.2.2.2.2.1
theorem dL_law_541 : decode cL_law 541 = .ok (.invokevirtual 193, 3) := bL_law_523.2.2.2.2.2.2.2.2.2.2.2.2.2.1
theorem dL_law_544 : decode cL_law 544 = .ok (.istore 6, 2) := bL_law_523.2.2.2.2.2.2.2.2.2.2.2.2.2.2.1
theorem dL_law_546 : decode cL_law 546 = .ok (.goto 1450, 3) := bL_law_523.2.2.2.2.2.2.2.2.2.2.2.2.2.2.2
set_option maxRecDepth 100000 in
theorem bL_law_549 : (decode cL_law 549 = .ok (.aload_n 1, 1)) ∧ (decode cL_law 550 = .ok (.aload_n 0, 1)) ∧ (decode cL_law 551 = .ok (.iload 4, 2)) ∧ (decode cL_law 553 = .ok (.iconst 1, 1)) ∧ (decode cL_law 554 = .ok (.iadd, 1)) ∧ (decode cL_law 555 = .ok (.iaload, 1)) ∧ (decode cL_law 556 = .ok (.aload_n 0, 1)) ∧ (decode cL_law 557 = .ok (.iload 4, 2)) ∧ (decode cL_law 559 = .ok (.iconst 2, 1)) ∧ (decode cL_law 560 = .ok (.iadd, 1)) ∧ (decode cL_law 561 = .ok (.iaload, 1)) ∧ (decode cL_law 562 = .ok (.aload_n 0, 1)) ∧ (decode cL_law 563 = .ok (.iload 4, 2)) ∧ (decode cL_law 565 = .ok (.iconst 3, 1)) ∧ (decode cL_law 566 = .ok (.iadd, 1)) ∧ (decode cL_law 567 = .ok (.iaload, 1)) := by decide +kernel
theorem dL_law_549 : decode cL_law 549 = .ok (.aload_n 1, 1) := bL_law_549.1
theorem dL_law_550 : decode cL_law 550 = .ok (.aload_n 0, 1) := bL_law_549.2.1
theorem dL_law_551 : decode cL_law 551 = .ok (.iload 4, 2) := bL_law_549.2.2.1
theorem dL_law_553 : decode cL_law 553 = .ok (.iconst 1, 1) := bL_law_549.2.2.2.1
theorem dL_law_554 : decode cL_law 554 = .ok (.iadd, 1) := bL_law_549.2.2.2.2.1
theorem dL_law_555 : decode cL_law 555 = .ok (.iaload, 1) := bL_law_549.2.2.2.2.2.1
theorem dL_law_556 : decode cL_law 556 = .ok (.aload_n 0, 1) := bL_law_549.2.2.2.2.2.2.1
theorem dL_law_557 : decode cL_law 557 = .ok (.iload 4, 2) := bL_law_549.2.2.2.2.2.2.2.1
theorem dL_law_559 : decode cL_law 559 = .ok (.iconst 2, 1) := bL_law_549.2.2.2.2.2.2.2.2.1
theorem dL_law_560 : decode cL_law 560 = .ok (.iadd, 1) := bL_law_549.2.2.2.2.2.2.2.2.2.1
theorem dL_law_561 : decode cL_law 561 = .ok (.iaload, 1) := bL_law_549.2.2.2.2.2.2.2.2.2.2.1
theorem dL_law_562 : decode cL_law 562 = .ok (.aload_n 0, 1) := bL_law_549.2.2.2.2.2.2.2.2.2.2.2.1
theorem dL_law_563 : decode cL_law 563 = .ok (.iload 4, 2) := bL_law_549.2.2.2.2.2.2.2.2.2.2.2.2.1
theorem dL_law_565 : decode cL_law 565 = .ok (.iconst 3, 1) := bL_law_549.2.2.2.2.2.2.2.2.2.2.2.2.2.1
theorem dL_law_566 : decode cL_law 566 = .ok (.iadd, 1) := bL_law_549.2.2.2.2.2.2.2.2.2.2.2.2.2.2.1
theorem dL_law_567 : decode cL_law 567 = .ok (.iaload, 1) := bL_law_549.2.2.2.2.2.2.2.2.2.2.2.2.2.2.2
set_option maxRecDepth 100000 in
theorem bL_law_568 : (decode cL_law 568 = .ok (.aload_n 3, 1)) ∧ (decode cL_law 569 = .ok (.invokestatic 194, 3)) ∧ (decode cL_law 572 = .ok (.istore 5, 2)) ∧ (decode cL_law 574 = .ok (.aload_n 2, 1)) ∧ (decode cL_law 575 = .ok (.aload_n 0, 1)) ∧ (decode cL_law 576 = .ok (.iload 4, 2)) ∧ (decode cL_law 578 = .ok (.iconst 1, 1)) ∧ (decode cL_law 579 = .ok (.iadd, 1)) ∧ (decode cL_law 580 = .ok (.iaload, 1)) ∧ (decode cL_law 581 = .ok (.aload_n 0, 1)) ∧ (decode cL_law 582 = .ok (.iload 4, 2)) ∧ (decode cL_law 584 = .ok (.iconst 2, 1)) ∧ (decode cL_law 585 = .ok (.iadd, 1)) ∧ (decode cL_law 586 = .ok (.iaload, 1)) ∧ (decode cL_law 587 = .ok (.aload_n 0, 1)) ∧ (decode cL_law 588 = .ok (.iload 4, 2)) := by decide +kernel
theorem dL_law_568 : decode cL_law 568 = .ok (.aload_n 3, 1) := bL_law_568.1
theorem dL_law_569 : decode cL_law 569 = .ok (.invokestatic 194, 3) := bL_law_568.2.1
theorem dL_law_572 : decode cL_law 572 = .ok (.istore 5, 2) := bL_law_568.2.2.1
theorem dL_law_574 : decode cL_law 574 = .ok (.aload_n 2, 1) := bL_law_568.2.2.2.1
theorem dL_law_575 : decode cL_law 575 = .ok (.aload_n 0, 1) := bL_law_568.2.2.2.2.1
theorem dL_law_576 : decode cL_law 576 = .ok (.iload 4, 2) := bL_law_568.2.2.2.2.2.1
theorem dL_law_578 : decode cL_law 578 = .ok (.iconst 1, 1) := bL_law_568.2.2.2.2.2.2.1
theorem dL_law_579 : decode cL_law 579 = .ok (.iadd, 1) := bL_law_568.2.2.2.2.2.2.2.1
theorem dL_law_580 : decode cL_law 580 = .ok (.iaload, 1) := bL_law_568.2.2.2.2.2.2.2.2.1
theorem dL_law_581 : decode cL_law 581 = .ok (.aload_n 0, 1) := bL_law_568.2.2.2.2.2.2.2.2.2.1
theorem dL_law_582 : decode cL_law 582 = .ok (.iload 4, 2) := bL_law_568.2.2.2.2.2.2.2.2.2.2.1
theorem dL_law_584 : decode cL_law 584 = .ok (.iconst 2, 1) := bL_law_568.2.2.2.2.2.2.2.2.2.2.2.1
theorem dL_law_585 : decode cL_law 585 = .ok (.iadd, 1) := bL_law_568.2.2.2.2.2.2.2.2.2.2.2.2.1
theorem dL_law_586 : decode cL_law 586 = .ok (.iaload, 1) := bL_law_568.2.2.2.2.2.2.2.2.2.2.2.2.2.1
theorem dL_law_587 : decode cL_law 587 = .ok (.aload_n 0, 1) := bL_law_568.2.2.2.2.2.2.2.2.2.2.2.2.2.2.1
theorem dL_law_588 : decode cL_law 588 = .ok (.iload 4, 2) := bL_law_568.2.2.2.2.2.2.2.2.2.2.2.2.2.2.2
set_option maxRecDepth 100000 in
theorem bL_law_590 : (decode cL_law 590 = .ok (.iconst 3, 1)) ∧ (decode cL_law 591 = .ok (.iadd, 1)) ∧ (decode cL_law 592 = .ok (.iaload, 1)) ∧ (decode cL_law 593 = .ok (.invokevirtual 196, 3)) ∧ (decode cL_law 596 = .ok (.istore 6, 2)) ∧ (decode cL_law 598 = .ok (.goto 1398, 3)) ∧ (decode cL_law 601 = .ok (.aload_n 1, 1)) ∧ (decode cL_law 602 = .ok (.aload_n 0, 1)) ∧ (decode cL_law 603 = .ok (.iload 4, 2)) ∧ (decode cL_law 605 = .ok (.iconst 1, 1)) ∧ (decode cL_law 606 = .ok (.iadd, 1)) ∧ (decode cL_law 607 = .ok (.iaload, 1)) ∧ (decode cL_law 608 = .ok (.aload_n 3, 1)) ∧ (decode cL_law 609 = .ok (.invokestatic 197, 3)) ∧ (decode cL_law 612 = .ok (.istore 5, 2)) ∧ (decode cL_law 614 = .ok (.aload_n 2, 1)) := by decide +kernel
theorem dL_law_590 : decode cL_law 590 = .ok (.iconst 3, 1) := bL_law_590.1
theorem dL_law_591 : decode cL_law 591 = .ok (.iadd, 1) := bL_law_590.2.1
theorem dL_law_592 : decode cL_law 592 = .ok (.iaload, 1) := bL_law_590.2.2.1
theorem dL_law_593 : decode cL_law 593 = .ok (.invokevirtual 196, 3) := bL_law_590.2.2.2.1
theorem dL_law_596 : decode cL_law 596 = .ok (.istore 6, 2) := bL_law_590.2.2.2.2.1
theorem dL_law_598 : decode cL_law 598 = .ok (.goto 1398, 3) := bL_law_590.2.2.2.2.2.1
theorem dL_law_601 : decode cL_law 601 = .ok (.aload_n 1, 1) := bL_law_590.2.2.2.2.2.2.1
theorem dL_law_602 : decode cL_law 602 = .ok (.aload_n 0, 1) := bL_law_590.2.2.2.2.2.2.2.1
theorem dL_law_603 : decode cL_law 603 = .ok (.iload 4, 2) := bL_law_590.2.2.2.2.2.2.2.2.1
theorem dL_law_605 : decode cL_law 605 = .ok (.iconst 1, 1) := bL_law_590.2.2.2.2.2.2.2.2.2.1
theorem dL_law_606 : decode cL_law 606 = .ok (.iadd, 1) := bL_law_590.2.2.2.2.2.2.2.2.2.2.1
theorem dL_law_607 : decode cL_law 607 = .ok (.iaload, 1) := bL_law_590.2.2.2.2.2.2.2.2.2.2.2.1
theorem dL_law_608 : decode cL_law 608 = .ok (.aload_n 3, 1) := bL_law_590.2.2.2.2.2.2.2.2.2.2.2.2.1
theorem dL_law_609 : decode cL_law 609 = .ok (.invokestatic 197, 3) := bL_law_590.2.2.2.2.2.2.2.2.2.2.2.2.2.1
theorem dL_law_612 : decode cL_law 612 = .ok (.istore 5, 2) := bL_law_590.2.2.2.2.2.2.2.2.2.2.2.2.2.2.1
theorem dL_law_614 : decode cL_law 614 = .ok (.aload_n 2, 1) := bL_law_590.2.2.2.2.2.2.2.2.2.2.2.2.2.2.2
set_option maxRecDepth 100000 in
theorem bL_law_615 : (decode cL_law 615 = .ok (.aload_n 0, 1)) ∧ (decode cL_law 616 = .ok (.iload 4, 2)) ∧ (decode cL_law 618 = .ok (.iconst 1, 1)) ∧ (decode cL_law 619 = .ok (.iadd, 1)) ∧ (decode cL_law 620 = .ok (.iaload, 1)) ∧ (decode cL_law 621 = .ok (.invokevirtual 199, 3)) ∧ (decode cL_law 624 = .ok (.istore 6, 2)) ∧ (decode cL_law 626 = .ok (.goto 1370, 3)) ∧ (decode cL_law 629 = .ok (.aload_n 1, 1)) ∧ (decode cL_law 630 = .ok (.aload_n 0, 1)) ∧ (decode cL_law 631 = .ok (.iload 4, 2)) ∧ (decode cL_law 633 = .ok (.iconst 1, 1)) ∧ (decode cL_law 634 = .ok (.iadd, 1)) ∧ (decode cL_law 635 = .ok (.iaload, 1)) ∧ (decode cL_law 636 = .ok (.aload_n 0, 1)) ∧ (decode cL_law 637 = .ok (.iload 4, 2)) := by decide +kernel
theorem dL_law_615 : decode cL_law 615 = .ok (.aload_n 0, 1) := bL_law_615.1
theorem dL_law_616 : decode cL_law 616 = .ok (.iload 4, 2) := bL_law_615.2.1
theorem dL_law_618 : decode cL_law 618 = .ok (.iconst 1, 1) := bL_law_615.2.2.1
theorem dL_law_619 : decode cL_law 619 = .ok (.iadd, 1) := bL_law_615.2.2.2.1
theorem dL_law_620 : decode cL_law 620 = .ok (.iaload, 1) := bL_law_615.2.2.2.2.1
theorem dL_law_621 : decode cL_law 621 = .ok (.invokevirtual 199, 3) := bL_law_615.2.2.2.2.2.1
theorem dL_law_624 : decode cL_law 624 = .ok (.istore 6, 2) := bL_law_615.2.2.2.2.2.2.1
theorem dL_law_626 : decode cL_law 626 = .ok (.goto 1370, 3) := bL_law_615.2.2.2.2.2.2.2.1
theorem dL_law_629 : decode cL_law 629 = .ok (.aload_n 1, 1) := bL_law_615.2.2.2.2.2.2.2.2.1
theorem dL_law_630 : decode cL_law 630 = .ok (.aload_n 0, 1) := bL_law_615.2.2.2.2.2.2.2.2.2.1
theorem dL_law_631 : decode cL_law 631 = .ok (.iload 4, 2) := bL_law_615.2.2.2.2.2.2.2.2.2.2.1
theorem dL_law_633 : decode cL_law 633 = .ok (.iconst 1, 1) := bL_law_615.2.2.2.2.2.2.2.2.2.2.2.1
theorem dL_law_634 : decode cL_law 634 = .ok (.iadd, 1) := bL_law_615.2.2.2.2.2.2.2.2.2.2.2.2.1
theorem dL_law_635 : decode cL_law 635 = .ok (.iaload, 1) := bL_law_615.2.2.2.2.2.2.2.2.2.2.2.2.2.1
theorem dL_law_636 : decode cL_law 636 = .ok (.aload_n 0, 1) := bL_law_615.2.2.2.2.2.2.2.2.2.2.2.2.2.2.1
theorem dL_law_637 : decode cL_law 637 = .ok (.iload 4, 2) := bL_law_615.2.2.2.2.2.2.2.2.2.2.2.2.2.2.2
set_option maxRecDepth 100000 in
theorem bL_law_639 : (decode cL_law 639 = .ok (.iconst 2, 1)) ∧ (decode cL_law 640 = .ok (.iadd, 1)) ∧ (decode cL_law 641 = .ok (.iaload, 1)) ∧ (decode cL_law 642 = .ok (.aload_n 3, 1)) ∧ (decode cL_law 643 = .ok (.invokestatic 200, 3)) ∧ (decode cL_law 646 = .ok (.istore 5, 2)) ∧ (decode cL_law 648 = .ok (.aload_n 2, 1)) ∧ (decode cL_law 649 = .ok (.aload_n 0, 1)) ∧ (decode cL_law 650 = .ok (.iload 4, 2)) ∧ (decode cL_law 652 = .ok (.iconst 1, 1)) ∧ (decode cL_law 653 = .ok (.iadd, 1)) ∧ (decode cL_law 654 = .ok (.iaload, 1)) ∧ (decode cL_law 655 = .ok (.aload_n 0, 1)) ∧ (decode cL_law 656 = .ok (.iload 4, 2)) ∧ (decode cL_law 658 = .ok (.iconst 2, 1)) ∧ (decode cL_law 659 = .ok (.iadd, 1)) := by decide +kernel
theorem dL_law_639 : decode cL_law 639 = .ok (.iconst 2, 1) := bL_law_639.1
theorem dL_law_640 : decode cL_law 640 = .ok (.iadd, 1) := bL_law_639.2.1
theorem dL_law_641 : decode cL_law 641 = .ok (.iaload, 1) := bL_law_639.2.2.1
theorem dL_law_642 : decode cL_law 642 = .ok (.aload_n 3, 1) := bL_law_639.2.2.2.1
theorem dL_law_643 : decode cL_law 643 = .ok (.invokestatic 200, 3) := bL_law_639.2.2.2.2.1
theorem dL_law_646 : decode cL_law 646 = .ok (.istore 5, 2) := bL_law_639.2.2.2.2.2.1
theorem dL_law_648 : decode cL_law 648 = .ok (.aload_n 2, 1) := bL_law_639.2.2.2.2.2.2.1
theorem dL_law_649 : decode cL_law 649 = .ok (.aload_n 0, 1) := bL_law_639.2.2.2.2.2.2.2.1
theorem dL_law_650 : decode cL_law 650 = .ok (.iload 4, 2) := bL_law_639.2.2.2.2.2.2.2.2.1
theorem dL_law_652 : decode cL_law 652 = .ok (.iconst 1, 1) := bL_law_639.2.2.2.2.2.2.2.2.2.1
theorem dL_law_653 : decode cL_law 653 = .ok (.iadd, 1) := bL_law_639.2.2.2.2.2.2.2.2.2.2.1
theorem dL_law_654 : decode cL_law 654 = .ok (.iaload, 1) := bL_law_639.2.2.2.2.2.2.2.2.2.2.2.1
theorem dL_law_655 : decode cL_law 655 = .ok (.aload_n 0, 1) := bL_law_639.2.2.2.2.2.2.2.2.2.2.2.2.1
theorem dL_law_656 : decode cL_law 656 = .ok (.iload 4, 2) := bL_law_639.2.2.2.2.2.2.2.2.2.2.2.2.2.1
theorem dL_law_658 : decode cL_law 658 = .ok (.iconst 2, 1) := bL_law_639.2.2.2.2.2.2.2.2.2.2.2.2.2.2.1
theorem dL_law_659 : decode cL_law 659 = .ok (.iadd, 1) := bL_law_639.2.2.2.2.2.2.2.2.2.2.2.2.2.2.2
set_option maxRecDepth 100000 in
theorem bL_law_660 : (decode cL_law 660 = .ok (.iaload, 1)) ∧ (decode cL_law 661 = .ok (.invokevirtual 202, 3)) ∧ (decode cL_law 664 = .ok (.istore 6, 2)) ∧ (decode cL_law 666 = .ok (.goto 1330, 3)) ∧ (decode cL_law 669 = .ok (.aload_n 1, 1)) ∧ (decode cL_law 670 = .ok (.aload_n 0, 1)) ∧ (decode cL_law 671 = .ok (.iload 4, 2)) ∧ (decode cL_law 673 = .ok (.iconst 1, 1)) ∧ (decode cL_law 674 = .ok (.iadd, 1)) ∧ (decode cL_law 675 = .ok (.iaload, 1)) ∧ (decode cL_law 676 = .ok (.aload_n 0, 1)) ∧ (decode cL_law 677 = .ok (.iload 4, 2)) ∧ (decode cL_law 679 = .ok (.iconst 2, 1)) ∧ (decode cL_law 680 = .ok (.iadd, 1)) ∧ (decode cL_law 681 = .ok (.iaload, 1)) ∧ (decode cL_law 682 = .ok (.aload_n 0, 1)) := by decide +kernel
theorem dL_law_660 : decode cL_law 660 = .ok (.iaload, 1) := bL_law_660.1
theorem dL_law_661 : decode cL_law 661 = .ok (.invokevirtual 202, 3) := bL_law_660.2.1
theorem dL_law_664 : decode cL_law 664 = .ok (.istore 6, 2) := bL_law_660.2.2.1
theorem dL_law_666 : decode cL_law 666 = .ok (.goto 1330, 3) := bL_law_660.2.2.2.1
theorem dL_law_669 : decode cL_law 669 = .ok (.aload_n 1, 1) := bL_law_660.2.2.2.2.1
theorem dL_law_670 : decode cL_law 670 = .ok (.aload_n 0, 1) := bL_law_660.2.2.2.2.2.1
theorem dL_law_671 : decode cL_law 671 = .ok (.iload 4, 2) := bL_law_660.2.2.2.2.2.2.1
theorem dL_law_673 : decode cL_law 673 = .ok (.iconst 1, 1) := bL_law_660.2.2.2.2.2.2.2.1
theorem dL_law_674 : decode cL_law 674 = .ok (.iadd, 1) := bL_law_660.2.2.2.2.2.2.2.2.1
theorem dL_law_675 : decode cL_law 675 = .ok (.iaload, 1) := bL_law_660.2.2.2.2.2.2.2.2.2.1
theorem dL_law_676 : decode cL_law 676 = .ok (.aload_n 0, 1) := bL_law_660.2.2.2.2.2.2.2.2.2.2.1
theorem dL_law_677 : decode cL_law 677 = .ok (.iload 4, 2) := bL_law_660.2.2.2.2.2.2.2.2.2.2.2.1
theorem dL_law_679 : decode cL_law 679 = .ok (.iconst 2, 1) := bL_law_660.2.2.2.2.2.2.2.2.2.2.2.2.1
theorem dL_law_680 : decode cL_law 680 = .ok (.iadd, 1) := bL_law_660.2.2.2.2.2.2.2.2.2.2.2.2.2.1
theorem dL_law_681 : decode cL_law 681 = .ok (.iaload, 1) := bL_law_660.2.2.2.2.2.2.2.2.2.2.2.2.2.2.1
theorem dL_law_682 : decode cL_law 682 = .ok (.aload_n 0, 1) := bL_law_660.2.2.2.2.2.2.2.2.2.2.2.2.2.2.2
set_option maxRecDepth 100000 in
theorem bL_law_683 : (decode cL_law 683 = .ok (.iload 4, 2)) ∧ (decode cL_law 685 = .ok (.iconst 3, 1)) ∧ (decode cL_law 686 = .ok (.iadd, 1)) ∧ (decode cL_law 687 = .ok (.iaload, 1)) ∧ (decode cL_law 688 = .ok (.aload_n 3, 1)) ∧ (decode cL_law 689 = .ok (.invokestatic 203, 3)) ∧ (decode cL_law 692 = .ok (.istore 5, 2)) ∧ (decode cL_law 694 = .ok (.aload_n 2, 1)) ∧ (decode cL_law 695 = .ok (.aload_n 0, 1)) ∧ (decode cL_law 696 = .ok (.iload 4, 2)) ∧ (decode cL_law 698 = .ok (.iconst 1, 1)) ∧ (decode cL_law 699 = .ok (.iadd, 1)) ∧ (decode cL_law 700 = .ok (.iaload, 1)) ∧ (decode cL_law 701 = .ok (.aload_n 0, 1)) ∧ (decode cL_law 702 = .ok (.iload 4, 2)) ∧ (decode cL_law 704 = .ok (.iconst 2, 1)) := by decide +kernel
theorem dL_law_683 : decode cL_law 683 = .ok (.iload 4, 2) := bL_law_683.1
theorem dL_law_685 : decode cL_law 685 = .ok (.iconst 3, 1) := bL_law_683.2.1
theorem dL_law_686 : decode cL_law 686 = .ok (.iadd, 1) := bL_law_683.2.2.1
theorem dL_law_687 : decode cL_law 687 = .ok (.iaload, 1) := bL_law_683.2.2.2.1
theorem dL_law_688 : decode cL_law 688 = .ok (.aload_n 3, 1) := bL_law_683.2.2.2.2.1
theorem dL_law_689 : decode cL_law 689 = .ok (.invokestatic 203, 3) := bL_law_683.2.2.2.2.2.1
theorem dL_law_692 : decode cL_law 692 = .ok (.istore 5, 2) := bL_law_683.2.2.2.2.2.2.1
theorem dL_law_694 : decode cL_law 694 = .ok (.aload_n 2, 1) := bL_law_683.2.2.2.2.2.2.2.1
theorem dL_law_695 : decode cL_law 695 = .ok (.aload_n 0, 1) := bL_law_683.2.2.2.2.2.2.2.2.1
theorem dL_law_696 : decode cL_law 696 = .ok (.iload 4, 2) := bL_law_683.2.2.2.2.2.2.2.2.2.1
theorem dL_law_698 : decode cL_law 698 = .ok (.iconst 1, 1) := bL_law_683.2.2.2.2.2.2.2.2.2.2.1
theorem dL_law_699 : decode cL_law 699 = .ok (.iadd, 1) := bL_law_683.2.2.2.2.2.2.2.2.2.2.2.1
theorem dL_law_700 : decode cL_law 700 = .ok (.iaload, 1) := bL_law_683.2.2.2.2.2.2.2.2.2.2.2.2.1
theorem dL_law_701 : decode cL_law 701 = .ok (.aload_n 0, 1) := bL_law_683.2.2.2.2.2.2.2.2.2.2.2.2.2.1
theorem dL_law_702 : decode cL_law 702 = .ok (.iload 4, 2) := bL_law_683.2.2.2.2.2.2.2.2.2.2.2.2.2.2.1
theorem dL_law_704 : decode cL_law 704 = .ok (.iconst 2, 1) := bL_law_683.2.2.2.2.2.2.2.2.2.2.2.2.2.2.2
set_option maxRecDepth 100000 in
theorem bL_law_705 : (decode cL_law 705 = .ok (.iadd, 1)) ∧ (decode cL_law 706 = .ok (.iaload, 1)) ∧ (decode cL_law 707 = .ok (.aload_n 0, 1)) ∧ (decode cL_law 708 = .ok (.iload 4, 2)) ∧ (decode cL_law 710 = .ok (.iconst 3, 1)) ∧ (decode cL_law 711 = .ok (.iadd, 1)) ∧ (decode cL_law 712 = .ok (.iaload, 1)) ∧ (decode cL_law 713 = .ok (.invokevirtual 205, 3)) ∧ (decode cL_law 716 = .ok (.istore 6, 2)) ∧ (decode cL_law 718 = .ok (.goto 1278, 3)) ∧ (decode cL_law 721 = .ok (.aload_n 1, 1)) ∧ (decode cL_law 722 = .ok (.aload_n 0, 1)) ∧ (decode cL_law 723 = .ok (.iload 4, 2)) ∧ (decode cL_law 725 = .ok (.iconst 1, 1)) ∧ (decode cL_law 726 = .ok (.iadd, 1)) ∧ (decode cL_law 727 = .ok (.iaload, 1)) := by decide +kernel
theorem dL_law_705 : decode cL_law 705 = .ok (.iadd, 1) := bL_law_705.1
theorem dL_law_706 : decode cL_law 706 = .ok (.iaload, 1) := bL_law_705.2.1
theorem dL_law_707 : decode cL_law 707 = .ok (.aload_n 0, 1) := bL_law_705.2.2.1
theorem dL_law_708 : decode cL_law 708 = .ok (.iload 4, 2) := bL_law_705.2.2.2.1
theorem dL_law_710 : decode cL_law 710 = .ok (.iconst 3, 1) := bL_law_705.2.2.2.2.1
theorem dL_law_711 : decode cL_law 711 = .ok (.iadd, 1) := bL_law_705.2.2.2.2.2.1
theorem dL_law_712 : decode cL_law 712 = .ok (.iaload, 1) := bL_law_705.2.2.2.2.2.2.1
theorem dL_law_713 : decode cL_law 713 = .ok (.invokevirtual 205, 3) := bL_law_705.2.2.2.2.2.2.2.1
theorem dL_law_716 : decode cL_law 716 = .ok (.istore 6, 2) := bL_law_705.2.2.2.2.2.2.2.2.1
theorem dL_law_718 : decode cL_law 718 = .ok (.goto 1278, 3) := bL_law_705.2.2.2.2.2.2.2.2.2.1
theorem dL_law_721 : decode cL_law 721 = .ok (.aload_n 1, 1) := bL_law_705.2.2.2.2.2.2.2.2.2.2.1
theorem dL_law_722 : decode cL_law 722 = .ok (.aload_n 0, 1) := bL_law_705.2.2.2.2.2.2.2.2.2.2.2.1
theorem dL_law_723 : decode cL_law 723 = .ok (.iload 4, 2) := bL_law_705.2.2.2.2.2.2.2.2.2.2.2.2.1
theorem dL_law_725 : decode cL_law 725 = .ok (.iconst 1, 1) := bL_law_705.2.2.2.2.2.2.2.2.2.2.2.2.2.1
theorem dL_law_726 : decode cL_law 726 = .ok (.iadd, 1) := bL_law_705.2.2.2.2.2.2.2.2.2.2.2.2.2.2.1
theorem dL_law_727 : decode cL_law 727 = .ok (.iaload, 1) := bL_law_705.2.2.2.2.2.2.2.2.2.2.2.2.2.2.2
set_option maxRecDepth 100000 in
theorem bL_law_728 : (decode cL_law 728 = .ok (.aload_n 3, 1)) ∧ (decode cL_law 729 = .ok (.invokestatic 206, 3)) ∧ (decode cL_law 732 = .ok (.istore 5, 2)) ∧ (decode cL_law 734 = .ok (.aload_n 2, 1)) ∧ (decode cL_law 735 = .ok (.aload_n 0, 1)) ∧ (decode cL_law 736 = .ok (.iload 4, 2)) ∧ (decode cL_law 738 = .ok (.iconst 1, 1)) ∧ (decode cL_law 739 = .ok (.iadd, 1)) ∧ (decode cL_law 740 = .ok (.iaload, 1)) ∧ (decode cL_law 741 = .ok (.invokevirtual 208, 3)) ∧ (decode cL_law 744 = .ok (.istore 6, 2)) ∧ (decode cL_law 746 = .ok (.goto 1250, 3)) ∧ (decode cL_law 749 = .ok (.aload_n 1, 1)) ∧ (decode cL_law 750 = .ok (.aload_n 0, 1)) ∧ (decode cL_law 751 = .ok (.iload 4, 2)) ∧ (decode cL_law 753 = .ok (.iconst 1, 1)) := by decide +kernel
theorem dL_law_728 : decode cL_law 728 = .ok (.aload_n 3, 1) := bL_law_728.1
theorem dL_law_729 : decode cL_law 729 = .ok (.invokestatic 206, 3) := bL_law_728.2.1
theorem dL_law_732 : decode cL_law 732 = .ok (.istore 5, 2) := bL_law_728.2.2.1
theorem dL_law_734 : decode cL_law 734 = .ok (.aload_n 2, 1) := bL_law_728.2.2.2.1
theorem dL_law_735 : decode cL_law 735 = .ok (.aload_n 0, 1) := bL_law_728.2.2.2.2.1
theorem dL_law_736 : decode cL_law 736 = .ok (.iload 4, 2) := bL_law_728.2.2.2.2.2.1
theorem dL_law_738 : decode cL_law 738 = .ok (.iconst 1, 1) := bL_law_728.2.2.2.2.2.2.1
theorem dL_law_739 : decode cL_law 739 = .ok (.iadd, 1) := bL_law_728.2.2.2.2.2.2.2.1
theorem dL_law_740 : decode cL_law 740 = .ok (.iaload, 1) := bL_law_728.2.2.2.2.2.2.2.2.1
theorem dL_law_741 : decode cL_law 741 = .ok (.invokevirtual 208, 3) := bL_law_728.2.2.2.2.2.2.2.2.2.1
theorem dL_law_744 : decode cL_law 744 = .ok (.istore 6, 2) := bL_law_728.2.2.2.2.2.2.2.2.2.2.1
theorem dL_law_746 : decode cL_law 746 = .ok (.goto 1250, 3) := bL_law_728.2.2.2.2.2.2.2.2.2.2.2.1
theorem dL_law_749 : decode cL_law 749 = .ok (.aload_n 1, 1) := bL_law_728.2.2.2.2.2.2.2.2.2.2.2.2.1
theorem dL_law_750 : decode cL_law 750 = .ok (.aload_n 0, 1) := bL_law_728.2.2.2.2.2.2.2.2.2.2.2.2.2.1
theorem dL_law_751 : decode cL_law 751 = .ok (.iload 4, 2) := bL_law_728.2.2.2.2.2.2.2.2.2.2.2.2.2.2.1
theorem dL_law_753 : decode cL_law 753 = .ok (.iconst 1, 1) := bL_law_728.2.2.2.2.2.2.2.2.2.2.2.2.2.2.2
set_option maxRecDepth 100000 in
theorem bL_law_754 : (decode cL_law 754 = .ok (.iadd, 1)) ∧ (decode cL_law 755 = .ok (.iaload, 1)) ∧ (decode cL_law 756 = .ok (.aload_n 0, 1)) ∧ (decode cL_law 757 = .ok (.iload 4, 2)) ∧ (decode cL_law 759 = .ok (.iconst 2, 1)) ∧ (decode cL_law 760 = .ok (.iadd, 1)) ∧ (decode cL_law 761 = .ok (.iaload, 1)) ∧ (decode cL_law 762 = .ok (.aload_n 3, 1)) ∧ (decode cL_law 763 = .ok (.invokestatic 209, 3)) ∧ (decode cL_law 766 = .ok (.istore 5, 2)) ∧ (decode cL_law 768 = .ok (.aload_n 2, 1)) ∧ (decode cL_law 769 = .ok (.aload_n 0, 1)) ∧ (decode cL_law 770 = .ok (.iload 4, 2)) ∧ (decode cL_law 772 = .ok (.iconst 1, 1)) ∧ (decode cL_law 773 = .ok (.iadd, 1)) ∧ (decode cL_law 774 = .ok (.iaload, 1)) := by decide +kernel
theorem dL_law_754 : decode cL_law 754 = .ok (.iadd, 1) := bL_law_754.1
theorem dL_law_755 : decode cL_law 755 = .ok (.iaload, 1) := bL_law_754.2.1
theorem dL_law_756 : decode cL_law 756 = .ok (.aload_n 0, 1) := bL_law_754.2.2.1
theorem dL_law_757 : decode cL_law 757 = .ok (.iload 4, 2) := bL_law_754.2.2.2.1
theorem dL_law_759 : decode cL_law 759 = .ok (.iconst 2, 1) := bL_law_754.2.2.2.2.1
theorem dL_law_760 : decode cL_law 760 = .ok (.iadd, 1) := bL_law_754.2.2.2.2.2.1
theorem dL_law_761 : decode cL_law 761 = .ok (.iaload, 1) := bL_law_754.2.2.2.2.2.2.1
theorem dL_law_762 : decode cL_law 762 = .ok (.aload_n 3, 1) := bL_law_754.2.2.2.2.2.2.2.1
theorem dL_law_763 : decode cL_law 763 = .ok (.invokestatic 209, 3) := bL_law_754.2.2.2.2.2.2.2.2.1
theorem dL_law_766 : decode cL_law 766 = .ok (.istore 5, 2) := bL_law_754.2.2.2.2.2.2.2.2.2.1
theorem dL_law_768 : decode cL_law 768 = .ok (.aload_n 2, 1) := bL_law_754.2.2.2.2.2.2.2.2.2.2.1
theorem dL_law_769 : decode cL_law 769 = .ok (.aload_n 0, 1) := bL_law_754.2.2.2.2.2.2.2.2.2.2.2.1
theorem dL_law_770 : decode cL_law 770 = .ok (.iload 4, 2) := bL_law_754.2.2.2.2.2.2.2.2.2.2.2.2.1
theorem dL_law_772 : decode cL_law 772 = .ok (.iconst 1, 1) := bL_law_754.2.2.2.2.2.2.2.2.2.2.2.2.2.1
theorem dL_law_773 : decode cL_law 773 = .ok (.iadd, 1) := bL_law_754.2.2.2.2.2.2.2.2.2.2.2.2.2.2.1
theorem dL_law_774 : decode cL_law 774 = .ok (.iaload, 1) := bL_law_754.2.2.2.2.2.2.2.2.2.2.2.2.2.2.2
set_option maxRecDepth 100000 in
theorem bL_law_775 : (decode cL_law 775 = .ok (.aload_n 0, 1)) ∧ (decode cL_law 776 = .ok (.iload 4, 2)) ∧ (decode cL_law 778 = .ok (.iconst 2, 1)) ∧ (decode cL_law 779 = .ok (.iadd, 1)) ∧ (decode cL_law 780 = .ok (.iaload, 1)) ∧ (decode cL_law 781 = .ok (.invokevirtual 211, 3)) ∧ (decode cL_law 784 = .ok (.istore 6, 2)) ∧ (decode cL_law 786 = .ok (.goto 1210, 3)) ∧ (decode cL_law 789 = .ok (.aload_n 1, 1)) ∧ (decode cL_law 790 = .ok (.aload_n 0, 1)) ∧ (decode cL_law 791 = .ok (.iload 4, 2)) ∧ (decode cL_law 793 = .ok (.iconst 1, 1)) ∧ (decode cL_law 794 = .ok (.iadd, 1)) ∧ (decode cL_law 795 = .ok (.iaload, 1)) ∧ (decode cL_law 796 = .ok (.aload_n 0, 1)) ∧ (decode cL_law 797 = .ok (.iload 4, 2)) := by decide +kernel
theorem dL_law_775 : decode cL_law 775 = .ok (.aload_n 0, 1) := bL_law_775.1
theorem dL_law_776 : decode cL_law 776 = .ok (.iload 4, 2) := bL_law_775.2.1
theorem dL_law_778 : decode cL_law 778 = .ok (.iconst 2, 1) := bL_law_775.2.2.1
theorem dL_law_779 : decode cL_law 779 = .ok (.iadd, 1) := bL_law_775.2.2.2.1
theorem dL_law_780 : decode cL_law 780 = .ok (.iaload, 1) := bL_law_775.2.2.2.2.1
theorem dL_law_781 : decode cL_law 781 = .ok (.invokevirtual 211, 3) := bL_law_775.2.2.2.2.2.1
theorem dL_law_784 : decode cL_law 784 = .ok (.istore 6, 2) := bL_law_775.2.2.2.2.2.2.1
theorem dL_law_786 : decode cL_law 786 = .ok (.goto 1210, 3) := bL_law_775.2.2.2.2.2.2.2.1
theorem dL_law_789 : decode cL_law 789 = .ok (.aload_n 1, 1) := bL_law_775.2.2.2.2.2.2.2.2.1
theorem dL_law_790 : decode cL_law 790 = .ok (.aload_n 0, 1) := bL_law_775.2.2.2.2.2.2.2.2.2.1
theorem dL_law_791 : decode cL_law 791 = .ok (.iload 4, 2) := bL_law_775.2.2.2.2.2.2.2.2.2.2.1
theorem dL_law_793 : decode cL_law 793 = .ok (.iconst 1, 1) := bL_law_775.2.2.2.2.2.2.2.2.2.2.2.1
theorem dL_law_794 : decode cL_law 794 = .ok (.iadd, 1) := bL_law_775.2.2.2.2.2.2.2.2.2.2.2.2.1
theorem dL_law_795 : decode cL_law 795 = .ok (.iaload, 1) := bL_law_775.2.2.2.2.2.2.2.2.2.2.2.2.2.1
theorem dL_law_796 : decode cL_law 796 = .ok (.aload_n 0, 1) := bL_law_775.2.2.2.2.2.2.2.2.2.2.2.2.2.2.1
theorem dL_law_797 : decode cL_law 797 = .ok (.iload 4, 2) := bL_law_775.2.2.2.2.2.2.2.2.2.2.2.2.2.2.2
set_option maxRecDepth 100000 in
theorem bL_law_799 : (decode cL_law 799 = .ok (.iconst 2, 1)) ∧ (decode cL_law 800 = .ok (.iadd, 1)) ∧ (decode cL_law 801 = .ok (.iaload, 1)) ∧ (decode cL_law 802 = .ok (.aload_n 3, 1)) ∧ (decode cL_law 803 = .ok (.invokestatic 212, 3)) ∧ (decode cL_law 806 = .ok (.istore 5, 2)) ∧ (decode cL_law 808 = .ok (.aload_n 2, 1)) ∧ (decode cL_law 809 = .ok (.aload_n 0, 1)) ∧ (decode cL_law 810 = .ok (.iload 4, 2)) ∧ (decode cL_law 812 = .ok (.iconst 1, 1)) ∧ (decode cL_law 813 = .ok (.iadd, 1)) ∧ (decode cL_law 814 = .ok (.iaload, 1)) ∧ (decode cL_law 815 = .ok (.aload_n 0, 1)) ∧ (decode cL_law 816 = .ok (.iload 4, 2)) ∧ (decode cL_law 818 = .ok (.iconst 2, 1)) ∧ (decode cL_law 819 = .ok (.iadd, 1)) := by decide +kernel
theorem dL_law_799 : decode cL_law 799 = .ok (.iconst 2, 1) := bL_law_799.1
theorem dL_law_800 : decode cL_law 800 = .ok (.iadd, 1) := bL_law_799.2.1
theorem dL_law_801 : decode cL_law 801 = .ok (.iaload, 1) := bL_law_799.2.2.1
theorem dL_law_802 : decode cL_law 802 = .ok (.aload_n 3, 1) := bL_law_799.2.2.2.1
theorem dL_law_803 : decode cL_law 803 = .ok (.invokestatic 212, 3) := bL_law_799.2.2.2.2.1
theorem dL_law_806 : decode cL_law 806 = .ok (.istore 5, 2) := bL_law_799.2.2.2.2.2.1
theorem dL_law_808 : decode cL_law 808 = .ok (.aload_n 2, 1) := bL_law_799.2.2.2.2.2.2.1
theorem dL_law_809 : decode cL_law 809 = .ok (.aload_n 0, 1) := bL_law_799.2.2.2.2.2.2.2.1
theorem dL_law_810 : decode cL_law 810 = .ok (.iload 4, 2) := bL_law_799.2.2.2.2.2.2.2.2.1
theorem dL_law_812 : decode cL_law 812 = .ok (.iconst 1, 1) := bL_law_799.2.2.2.2.2.2.2.2.2.1
theorem dL_law_813 : decode cL_law 813 = .ok (.iadd, 1) := bL_law_799.2.2.2.2.2.2.2.2.2.2.1
theorem dL_law_814 : decode cL_law 814 = .ok (.iaload, 1) := bL_law_799.2.2.2.2.2.2.2.2.2.2.2.1
theorem dL_law_815 : decode cL_law 815 = .ok (.aload_n 0, 1) := bL_law_799.2.2.2.2.2.2.2.2.2.2.2.2.1
theorem dL_law_816 : decode cL_law 816 = .ok (.iload 4, 2) := bL_law_799.2.2.2.2.2.2.2.2.2.2.2.2.2.1
theorem dL_law_818 : decode cL_law 818 = .ok (.iconst 2, 1) := bL_law_799.2.2.2.2.2.2.2.2.2.2.2.2.2.2.1
theorem dL_law_819 : decode cL_law 819 = .ok (.iadd, 1) := bL_law_799.2.2.2.2.2.2.2.2.2.2.2.2.2.2.2
set_option maxRecDepth 100000 in
theorem bL_law_820 : (decode cL_law 820 = .ok (.iaload, 1)) ∧ (decode cL_law 821 = .ok (.invokevirtual 214, 3)) ∧ (decode cL_law 824 = .ok (.istore 6, 2)) ∧ (decode cL_law 826 = .ok (.goto 1170, 3)) ∧ (decode cL_law 829 = .ok (.aload_n 1, 1)) ∧ (decode cL_law 830 = .ok (.aload_n 0, 1)) ∧ (decode cL_law 831 = .ok (.iload 4, 2)) ∧ (decode cL_law 833 = .ok (.iconst 1, 1)) ∧ (decode cL_law 834 = .ok (.iadd, 1)) ∧ (decode cL_law 835 = .ok (.iaload, 1)) ∧ (decode cL_law 836 = .ok (.aload_n 0, 1)) ∧ (decode cL_law 837 = .ok (.iload 4, 2)) ∧ (decode cL_law 839 = .ok (.iconst 2, 1)) ∧ (decode cL_law 840 = .ok (.iadd, 1)) ∧ (decode cL_law 841 = .ok (.iaload, 1)) ∧ (decode cL_law 842 = .ok (.aload_n 3, 1)) := by decide +kernel
theorem dL_law_820 : decode cL_law 820 = .ok (.iaload, 1) := bL_law_820.1
theorem dL_law_821 : decode cL_law 821 = .ok (.invokevirtual 214, 3) := bL_law_820.2.1
theorem dL_law_824 : decode cL_law 824 = .ok (.istore 6, 2) := bL_law_820.2.2.1
theorem dL_law_826 : decode cL_law 826 = .ok (.goto 1170, 3) := bL_law_820.2.2.2.1
theorem dL_law_829 : decode cL_law 829 = .ok (.aload_n 1, 1) := bL_law_820.2.2.2.2.1
theorem dL_law_830 : decode cL_law 830 = .ok (.aload_n 0, 1) := bL_law_820.2.2.2.2.2.1
theorem dL_law_831 : decode cL_law 831 = .ok (.iload 4, 2) := bL_law_820.2.2.2.2.2.2.1
theorem dL_law_833 : decode cL_law 833 = .ok (.iconst 1, 1) := bL_law_820.2.2.2.2.2.2.2.1
theorem dL_law_834 : decode cL_law 834 = .ok (.iadd, 1) := bL_law_820.2.2.2.2.2.2.2.2.1
theorem dL_law_835 : decode cL_law 835 = .ok (.iaload, 1) := bL_law_820.2.2.2.2.2.2.2.2.2.1
theorem dL_law_836 : decode cL_law 836 = .ok (.aload_n 0, 1) := bL_law_820.2.2.2.2.2.2.2.2.2.2.1
theorem dL_law_837 : decode cL_law 837 = .ok (.iload 4, 2) := bL_law_820.2.2.2.2.2.2.2.2.2.2.2.1
theorem dL_law_839 : decode cL_law 839 = .ok (.iconst 2, 1) := bL_law_820.2.2.2.2.2.2.2.2.2.2.2.2.1
theorem dL_law_840 : decode cL_law 840 = .ok (.iadd, 1) := bL_law_820.2.2.2.2.2.2.2.2.2.2.2.2.2.1
theorem dL_law_841 : decode cL_law 841 = .ok (.iaload, 1) := bL_law_820.2.2.2.2.2.2.2.2.2.2.2.2.2.2.1
theorem dL_law_842 : decode cL_law 842 = .ok (.aload_n 3, 1) := bL_law_820.2.2.2.2.2.2.2.2.2.2.2.2.2.2.2
set_option maxRecDepth 100000 in
theorem bL_law_843 : (decode cL_law 843 = .ok (.invokestatic 215, 3)) ∧ (decode cL_law 846 = .ok (.istore 5, 2)) ∧ (decode cL_law 848 = .ok (.aload_n 2, 1)) ∧ (decode cL_law 849 = .ok (.aload_n 0, 1)) ∧ (decode cL_law 850 = .ok (.iload 4, 2)) ∧ (decode cL_law 852 = .ok (.iconst 1, 1)) ∧ (decode cL_law 853 = .ok (.iadd, 1)) ∧ (decode cL_law 854 = .ok (.iaload, 1)) ∧ (decode cL_law 855 = .ok (.aload_n 0, 1)) ∧ (decode cL_law 856 = .ok (.iload 4, 2)) ∧ (decode cL_law 858 = .ok (.iconst 2, 1)) ∧ (decode cL_law 859 = .ok (.iadd, 1)) ∧ (decode cL_law 860 = .ok (.iaload, 1)) ∧ (decode cL_law 861 = .ok (.invokevirtual 217, 3)) ∧ (decode cL_law 864 = .ok (.istore 6, 2)) ∧ (decode cL_law 866 = .ok (.goto 1130, 3)) := by decide +kernel
theorem dL_law_843 : decode cL_law 843 = .ok (.invokestatic 215, 3) := bL_law_843.1
theorem dL_law_846 : decode cL_law 846 = .ok (.istore 5, 2) := bL_law_843.2.1
theorem dL_law_848 : decode cL_law 848 = .ok (.aload_n 2, 1) := bL_law_843.2.2.1
theorem dL_law_849 : decode cL_law 849 = .ok (.aload_n 0, 1) := bL_law_843.2.2.2.1
theorem dL_law_850 : decode cL_law 850 = .ok (.iload 4, 2) := bL_law_843.2.2.2.2.1
theorem dL_law_852 : decode cL_law 852 = .ok (.iconst 1, 1) := bL_law_843.2.2.2.2.2.1
theorem dL_law_853 : decode cL_law 853 = .ok (.iadd, 1) := bL_law_843.2.2.2.2.2.2.1
theorem dL_law_854 : decode cL_law 854 = .ok (.iaload, 1) := bL_law_843.2.2.2.2.2.2.2.1
theorem dL_law_855 : decode cL_law 855 = .ok (.aload_n 0, 1) := bL_law_843.2.2.2.2.2.2.2.2.1
theorem dL_law_856 : decode cL_law 856 = .ok (.iload 4, 2) := bL_law_843.2.2.2.2.2.2.2.2.2.1
theorem dL_law_858 : decode cL_law 858 = .ok (.iconst 2, 1) := bL_law_843.2.2.2.2.2.2.2.2.2.2.1
theorem dL_law_859 : decode cL_law 859 = .ok (.iadd, 1) := bL_law_843.2.2.2.2.2.2.2.2.2.2.2.1
theorem dL_law_860 : decode cL_law 860 = .ok (.iaload, 1) := bL_law_843.2.2.2.2.2.2.2.2.2.2.2.2.1
theorem dL_law_861 : decode cL_law 861 = .ok (.invokevirtual 217, 3) := bL_law_843.2.2.2.2.2.2.2.2.2.2.2.2.2.1
theorem dL_law_864 : decode cL_law 864 = .ok (.istore 6, 2) := bL_law_843.2.2.2.2.2.2.2.2.2.2.2.2.2.2.1
theorem dL_law_866 : decode cL_law 866 = .ok (.goto 1130, 3) := bL_law_843.2.2.2.2.2.2.2.2.2.2.2.2.2.2.2
set_option maxRecDepth 100000 in
theorem bL_law_869 : (decode cL_law 869 = .ok (.aload_n 1, 1)) ∧ (decode cL_law 870 = .ok (.aload_n 0, 1)) ∧ (decode cL_law 871 = .ok (.iload 4, 2)) ∧ (decode cL_law 873 = .ok (.iconst 1, 1)) ∧ (decode cL_law 874 = .ok (.iadd, 1)) ∧ (decode cL_law 875 = .ok (.iaload, 1)) ∧ (decode cL_law 876 = .ok (.aload_n 3, 1)) ∧ (decode cL_law 877 = .ok (.invokestatic 218, 3)) ∧ (decode cL_law 880 = .ok (.istore 5, 2)) ∧ (decode cL_law 882 = .ok (.aload_n 2, 1)) ∧ (decode cL_law 883 = .ok (.aload_n 0, 1)) ∧ (decode cL_law 884 = .ok (.iload 4, 2)) ∧ (decode cL_law 886 = .ok (.iconst 1, 1)) ∧ (decode cL_law 887 = .ok (.iadd, 1)) ∧ (decode cL_law 888 = .ok (.iaload, 1)) ∧ (decode cL_law 889 = .ok (.invokevirtual 220, 3)) := by decide +kernel
theorem dL_law_869 : decode cL_law 869 = .ok (.aload_n 1, 1) := bL_law_869.1
theorem dL_law_870 : decode cL_law 870 = .ok (.aload_n 0, 1) := bL_law_869.2.1
theorem dL_law_871 : decode cL_law 871 = .ok (.iload 4, 2) := bL_law_869.2.2.1
theorem dL_law_873 : decode cL_law 873 = .ok (.iconst 1, 1) := bL_law_869.2.2.2.1
theorem dL_law_874 : decode cL_law 874 = .ok (.iadd, 1) := bL_law_869.2.2.2.2.1
theorem dL_law_875 : decode cL_law 875 = .ok (.iaload, 1) := bL_law_869.2.2.2.2.2.1
theorem dL_law_876 : decode cL_law 876 = .ok (.aload_n 3, 1) := bL_law_869.2.2.2.2.2.2.1
theorem dL_law_877 : decode cL_law 877 = .ok (.invokestatic 218, 3) := bL_law_869.2.2.2.2.2.2.2.1
theorem dL_law_880 : decode cL_law 880 = .ok (.istore 5, 2) := bL_law_869.2.2.2.2.2.2.2.2.1
theorem dL_law_882 : decode cL_law 882 = .ok (.aload_n 2, 1) := bL_law_869.2.2.2.2.2.2.2.2.2.1
theorem dL_law_883 : decode cL_law 883 = .ok (.aload_n 0, 1) := bL_law_869.2.2.2.2.2.2.2.2.2.2.1
theorem dL_law_884 : decode cL_law 884 = .ok (.iload 4, 2) := bL_law_869.2.2.2.2.2.2.2.2.2.2.2.1
theorem dL_law_886 : decode cL_law 886 = .ok (.iconst 1, 1) := bL_law_869.2.2.2.2.2.2.2.2.2.2.2.2.1
theorem dL_law_887 : decode cL_law 887 = .ok (.iadd, 1) := bL_law_869.2.2.2.2.2.2.2.2.2.2.2.2.2.1
theorem dL_law_888 : decode cL_law 888 = .ok (.iaload, 1) := bL_law_869.2.2.2.2.2.2.2.2.2.2.2.2.2.2.1
theorem dL_law_889 : decode cL_law 889 = .ok (.invokevirtual 220, 3) := bL_law_869.2.2.2.2.2.2.2.2.2.2.2.2.2.2.2
set_option maxRecDepth 100000 in
theorem bL_law_892 : (decode cL_law 892 = .ok (.istore 6, 2)) ∧ (decode cL_law 894 = .ok (.goto 1102, 3)) ∧ (decode cL_law 897 = .ok (.aload_n 1, 1)) ∧ (decode cL_law 898 = .ok (.aload_n 0, 1)) ∧ (decode cL_law 899 = .ok (.iload 4, 2)) ∧ (decode cL_law 901 = .ok (.iconst 1, 1)) ∧ (decode cL_law 902 = .ok (.iadd, 1)) ∧ (decode cL_law 903 = .ok (.iaload, 1)) ∧ (decode cL_law 904 = .ok (.aload_n 0, 1)) ∧ (decode cL_law 905 = .ok (.iload 4, 2)) ∧ (decode cL_law 907 = .ok (.iconst 2, 1)) ∧ (decode cL_law 908 = .ok (.iadd, 1)) ∧ (decode cL_law 909 = .ok (.iaload, 1)) ∧ (decode cL_law 910 = .ok (.aload_n 3, 1)) ∧ (decode cL_law 911 = .ok (.invokestatic 221, 3)) ∧ (decode cL_law 914 = .ok (.istore 5, 2)) := by decide +kernel
theorem dL_law_892 : decode cL_law 892 = .ok (.istore 6, 2) := bL_law_892.1
theorem dL_law_894 : decode cL_law 894 = .ok (.goto 1102, 3) := bL_law_892.2.1
theorem dL_law_897 : decode cL_law 897 = .ok (.aload_n 1, 1) := bL_law_892.2.2.1
theorem dL_law_898 : decode cL_law 898 = .ok (.aload_n 0, 1) := bL_law_892.2.2.2.1
theorem dL_law_899 : decode cL_law 899 = .ok (.iload 4, 2) := bL_law_892.2.2.2.2.1
theorem dL_law_901 : decode cL_law 901 = .ok (.iconst 1, 1) := bL_law_892.2.2.2.2.2.1
theorem dL_law_902 : decode cL_law 902 = .ok (.iadd, 1) := bL_law_892.2.2.2.2.2.2.1
theorem dL_law_903 : decode cL_law 903 = .ok (.iaload, 1) := bL_law_892.2.2.2.2.2.2.2.1
theorem dL_law_904 : decode cL_law 904 = .ok (.aload_n 0, 1) := bL_law_892.2.2.2.2.2.2.2.2.1
theorem dL_law_905 : decode cL_law 905 = .ok (.iload 4, 2) := bL_law_892.2.2.2.2.2.2.2.2.2.1
theorem dL_law_907 : decode cL_law 907 = .ok (.iconst 2, 1) := bL_law_892.2.2.2.2.2.2.2.2.2.2.1
theorem dL_law_908 : decode cL_law 908 = .ok (.iadd, 1) := bL_law_892.2.2.2.2.2.2.2.2.2.2.2.1
theorem dL_law_909 : decode cL_law 909 = .ok (.iaload, 1) := bL_law_892.2.2.2.2.2.2.2.2.2.2.2.2.1
theorem dL_law_910 : decode cL_law 910 = .ok (.aload_n 3, 1) := bL_law_892.2.2.2.2.2.2.2.2.2.2.2.2.2.1
theorem dL_law_911 : decode cL_law 911 = .ok (.invokestatic 221, 3) := bL_law_892.2.2.2.2.2.2.2.2.2.2.2.2.2.2.1
theorem dL_law_914 : decode cL_law 914 = .ok (.istore 5, 2) := bL_law_892.2.2.2.2.2.2.2.2.2.2.2.2.2.2.2
set_option maxRecDepth 100000 in
theorem bL_law_916 : (decode cL_law 916 = .ok (.aload_n 2, 1)) ∧ (decode cL_law 917 = .ok (.aload_n 0, 1)) ∧ (decode cL_law 918 = .ok (.iload 4, 2)) ∧ (decode cL_law 920 = .ok (.iconst 1, 1)) ∧ (decode cL_law 921 = .ok (.iadd, 1)) ∧ (decode cL_law 922 = .ok (.iaload, 1)) ∧ (decode cL_law 923 = .ok (.aload_n 0, 1)) ∧ (decode cL_law 924 = .ok (.iload 4, 2)) ∧ (decode cL_law 926 = .ok (.iconst 2, 1)) ∧ (decode cL_law 927 = .ok (.iadd, 1)) ∧ (decode cL_law 928 = .ok (.iaload, 1)) ∧ (decode cL_law 929 = .ok (.invokevirtual 223, 3)) ∧ (decode cL_law 932 = .ok (.istore 6, 2)) ∧ (decode cL_law 934 = .ok (.goto 1062, 3)) ∧ (decode cL_law 937 = .ok (.aload_n 1, 1)) ∧ (decode cL_law 938 = .ok (.aload_n 0, 1)) := by decide +kernel
theorem dL_law_916 : decode cL_law 916 = .ok (.aload_n 2, 1) := bL_law_916.1
theorem dL_law_917 : decode cL_law 917 = .ok (.aload_n 0, 1) := bL_law_916.2.1
theorem dL_law_918 : decode cL_law 918 = .ok (.iload 4, 2) := bL_law_916.2.2.1
theorem dL_law_920 : decode cL_law 920 = .ok (.iconst 1, 1) := bL_law_916.2.2.2.1
theorem dL_law_921 : decode cL_law 921 = .ok (.iadd, 1) := bL_law_916.2.2.2.2.1
theorem dL_law_922 : decode cL_law 922 = .ok (.iaload, 1) := bL_law_916.2.2.2.2.2.1
theorem dL_law_923 : decode cL_law 923 = .ok (.aload_n 0, 1) := bL_law_916.2.2.2.2.2.2.1
theorem dL_law_924 : decode cL_law 924 = .ok (.iload 4, 2) := bL_law_916.2.2.2.2.2.2.2.1
theorem dL_law_926 : decode cL_law 926 = .ok (.iconst 2, 1) := bL_law_916.2.2.2.2.2.2.2.2.1
theorem dL_law_927 : decode cL_law 927 = .ok (.iadd, 1) := bL_law_916.2.2.2.2.2.2.2.2.2.1
theorem dL_law_928 : decode cL_law 928 = .ok (.iaload, 1) := bL_law_916.2.2.2.2.2.2.2.2.2.2.1
theorem dL_law_929 : decode cL_law 929 = .ok (.invokevirtual 223, 3) := bL_law_916.2.2.2.2.2.2.2.2.2.2.2.1
theorem dL_law_932 : decode cL_law 932 = .ok (.istore 6, 2) := bL_law_916.2.2.2.2.2.2.2.2.2.2.2.2.1
theorem dL_law_934 : decode cL_law 934 = .ok (.goto 1062, 3) := bL_law_916.2.2.2.2.2.2.2.2.2.2.2.2.2.1
theorem dL_law_937 : decode cL_law 937 = .ok (.aload_n 1, 1) := bL_law_916.2.2.2.2.2.2.2.2.2.2.2.2.2.2.1
theorem dL_law_938 : decode cL_law 938 = .ok (.aload_n 0, 1) := bL_law_916.2.2.2.2.2.2.2.2.2.2.2.2.2.2.2
set_option maxRecDepth 100000 in
theorem bL_law_939 : (decode cL_law 939 = .ok (.iload 4, 2)) ∧ (decode cL_law 941 = .ok (.iconst 1, 1)) ∧ (decode cL_law 942 = .ok (.iadd, 1)) ∧ (decode cL_law 943 = .ok (.iaload, 1)) ∧ (decode cL_law 944 = .ok (.aload_n 0, 1)) ∧ (decode cL_law 945 = .ok (.iload 4, 2)) ∧ (decode cL_law 947 = .ok (.iconst 2, 1)) ∧ (decode cL_law 948 = .ok (.iadd, 1)) ∧ (decode cL_law 949 = .ok (.iaload, 1)) ∧ (decode cL_law 950 = .ok (.aload_n 3, 1)) ∧ (decode cL_law 951 = .ok (.invokestatic 224, 3)) ∧ (decode cL_law 954 = .ok (.istore 5, 2)) ∧ (decode cL_law 956 = .ok (.aload_n 2, 1)) ∧ (decode cL_law 957 = .ok (.aload_n 0, 1)) ∧ (decode cL_law 958 = .ok (.iload 4, 2)) ∧ (decode cL_law 960 = .ok (.iconst 1, 1)) := by decide +kernel
theorem dL_law_939 : decode cL_law 939 = .ok (.iload 4, 2) := bL_law_939.1
theorem dL_law_941 : decode cL_law 941 = .ok (.iconst 1, 1) := bL_law_939.2.1
theorem dL_law_942 : decode cL_law 942 = .ok (.iadd, 1) := bL_law_939.2.2.1
theorem dL_law_943 : decode cL_law 943 = .ok (.iaload, 1) := bL_law_939.2.2.2.1
theorem dL_law_944 : decode cL_law 944 = .ok (.aload_n 0, 1) := bL_law_939.2.2.2.2.1
theorem dL_law_945 : decode cL_law 945 = .ok (.iload 4, 2) := bL_law_939.2.2.2.2.2.1
theorem dL_law_947 : decode cL_law 947 = .ok (.iconst 2, 1) := bL_law_939.2.2.2.2.2.2.1
theorem dL_law_948 : decode cL_law 948 = .ok (.iadd, 1) := bL_law_939.2.2.2.2.2.2.2.1
theorem dL_law_949 : decode cL_law 949 = .ok (.iaload, 1) := bL_law_939.2.2.2.2.2.2.2.2.1
theorem dL_law_950 : decode cL_law 950 = .ok (.aload_n 3, 1) := bL_law_939.2.2.2.2.2.2.2.2.2.1
theorem dL_law_951 : decode cL_law 951 = .ok (.invokestatic 224, 3) := bL_law_939.2.2.2.2.2.2.2.2.2.2.1
theorem dL_law_954 : decode cL_law 954 = .ok (.istore 5, 2) := bL_law_939.2.2.2.2.2.2.2.2.2.2.2.1
theorem dL_law_956 : decode cL_law 956 = .ok (.aload_n 2, 1) := bL_law_939.2.2.2.2.2.2.2.2.2.2.2.2.1
theorem dL_law_957 : decode cL_law 957 = .ok (.aload_n 0, 1) := bL_law_939.2.2.2.2.2.2.2.2.2.2.2.2.2.1
theorem dL_law_958 : decode cL_law 958 = .ok (.iload 4, 2) := bL_law_939.2.2.2.2.2.2.2.2.2.2.2.2.2.2.1
theorem dL_law_960 : decode cL_law 960 = .ok (.iconst 1, 1) := bL_law_939.2.2.2.2.2.2.2.2.2.2.2.2.2.2.2
set_option maxRecDepth 100000 in
theorem bL_law_961 : (decode cL_law 961 = .ok (.iadd, 1)) ∧ (decode cL_law 962 = .ok (.iaload, 1)) ∧ (decode cL_law 963 = .ok (.aload_n 0, 1)) ∧ (decode cL_law 964 = .ok (.iload 4, 2)) ∧ (decode cL_law 966 = .ok (.iconst 2, 1)) ∧ (decode cL_law 967 = .ok (.iadd, 1)) ∧ (decode cL_law 968 = .ok (.iaload, 1)) ∧ (decode cL_law 969 = .ok (.invokevirtual 226, 3)) ∧ (decode cL_law 972 = .ok (.istore 6, 2)) ∧ (decode cL_law 974 = .ok (.goto 1022, 3)) ∧ (decode cL_law 977 = .ok (.aload_n 1, 1)) ∧ (decode cL_law 978 = .ok (.aload_n 0, 1)) ∧ (decode cL_law 979 = .ok (.iload 4, 2)) ∧ (decode cL_law 981 = .ok (.iconst 1, 1)) ∧ (decode cL_law 982 = .ok (.iadd, 1)) ∧ (decode cL_law 983 = .ok (.iaload, 1)) := by decide +kernel
theorem dL_law_961 : decode cL_law 961 = .ok (.iadd, 1) := bL_law_961.1
theorem dL_law_962 : decode cL_law 962 = .ok (.iaload, 1) := bL_law_961.2.1
theorem dL_law_963 : decode cL_law 963 = .ok (.aload_n 0, 1) := bL_law_961.2.2.1
theorem dL_law_964 : decode cL_law 964 = .ok (.iload 4, 2) := bL_law_961.2.2.2.1
theorem dL_law_966 : decode cL_law 966 = .ok (.iconst 2, 1) := bL_law_961.2.2.2.2.1
theorem dL_law_967 : decode cL_law 967 = .ok (.iadd, 1) := bL_law_961.2.2.2.2.2.1
theorem dL_law_968 : decode cL_law 968 = .ok (.iaload, 1) := bL_law_961.2.2.2.2.2.2.1
theorem dL_law_969 : decode cL_law 969 = .ok (.invokevirtual 226, 3) := bL_law_961.2.2.2.2.2.2.2.1
theorem dL_law_972 : decode cL_law 972 = .ok (.istore 6, 2) := bL_law_961.2.2.2.2.2.2.2.2.1
theorem dL_law_974 : decode cL_law 974 = .ok (.goto 1022, 3) := bL_law_961.2.2.2.2.2.2.2.2.2.1
theorem dL_law_977 : decode cL_law 977 = .ok (.aload_n 1, 1) := bL_law_961.2.2.2.2.2.2.2.2.2.2.1
theorem dL_law_978 : decode cL_law 978 = .ok (.aload_n 0, 1) := bL_law_961.2.2.2.2.2.2.2.2.2.2.2.1
theorem dL_law_979 : decode cL_law 979 = .ok (.iload 4, 2) := bL_law_961.2.2.2.2.2.2.2.2.2.2.2.2.1
theorem dL_law_981 : decode cL_law 981 = .ok (.iconst 1, 1) := bL_law_961.2.2.2.2.2.2.2.2.2.2.2.2.2.1
theorem dL_law_982 : decode cL_law 982 = .ok (.iadd, 1) := bL_law_961.2.2.2.2.2.2.2.2.2.2.2.2.2.2.1
theorem dL_law_983 : decode cL_law 983 = .ok (.iaload, 1) := bL_law_961.2.2.2.2.2.2.2.2.2.2.2.2.2.2.2
set_option maxRecDepth 100000 in
theorem bL_law_984 : (decode cL_law 984 = .ok (.aload_n 0, 1)) ∧ (decode cL_law 985 = .ok (.iload 4, 2)) ∧ (decode cL_law 987 = .ok (.iconst 2, 1)) ∧ (decode cL_law 988 = .ok (.iadd, 1)) ∧ (decode cL_law 989 = .ok (.iaload, 1)) ∧ (decode cL_law 990 = .ok (.aload_n 3, 1)) ∧ (decode cL_law 991 = .ok (.invokestatic 227, 3)) ∧ (decode cL_law 994 = .ok (.istore 5, 2)) ∧ (decode cL_law 996 = .ok (.aload_n 2, 1)) ∧ (decode cL_law 997 = .ok (.aload_n 0, 1)) ∧ (decode cL_law 998 = .ok (.iload 4, 2)) ∧ (decode cL_law 1000 = .ok (.iconst 1, 1)) ∧ (decode cL_law 1001 = .ok (.iadd, 1)) ∧ (decode cL_law 1002 = .ok (.iaload, 1)) ∧ (decode cL_law 1003 = .ok (.aload_n 0, 1)) ∧ (decode cL_law 1004 = .ok (.iload 4, 2)) := by decide +kernel
theorem dL_law_984 : decode cL_law 984 = .ok (.aload_n 0, 1) := bL_law_984.1
theorem dL_law_985 : decode cL_law 985 = .ok (.iload 4, 2) := bL_law_984.2.1
theorem dL_law_987 : decode cL_law 987 = .ok (.iconst 2, 1) := bL_law_984.2.2.1
theorem dL_law_988 : decode cL_law 988 = .ok (.iadd, 1) := bL_law_984.2.2.2.1
theorem dL_law_989 : decode cL_law 989 = .ok (.iaload, 1) := bL_law_984.2.2.2.2.1
theorem dL_law_990 : decode cL_law 990 = .ok (.aload_n 3, 1) := bL_law_984.2.2.2.2.2.1
theorem dL_law_991 : decode cL_law 991 = .ok (.invokestatic 227, 3) := bL_law_984.2.2.2.2.2.2.1
theorem dL_law_994 : decode cL_law 994 = .ok (.istore 5, 2) := bL_law_984.2.2.2.2.2.2.2.1
theorem dL_law_996 : decode cL_law 996 = .ok (.aload_n 2, 1) := bL_law_984.2.2.2.2.2.2.2.2.1
theorem dL_law_997 : decode cL_law 997 = .ok (.aload_n 0, 1) := bL_law_984.2.2.2.2.2.2.2.2.2.1
theorem dL_law_998 : decode cL_law 998 = .ok (.iload 4, 2) := bL_law_984.2.2.2.2.2.2.2.2.2.2.1
theorem dL_law_1000 : decode cL_law 1000 = .ok (.iconst 1, 1) := bL_law_984.2.2.2.2.2.2.2.2.2.2.2.1
theorem dL_law_1001 : decode cL_law 1001 = .ok (.iadd, 1) := bL_law_984.2.2.2.2.2.2.2.2.2.2.2.2.1
theorem dL_law_1002 : decode cL_law 1002 = .ok (.iaload, 1) := bL_law_984.2.2.2.2.2.2.2.2.2.2.2.2.2.1
theorem dL_law_1003 : decode cL_law 1003 = .ok (.aload_n 0, 1) := bL_law_984.2.2.2.2.2.2.2.2.2.2.2.2.2.2.1
theorem dL_law_1004 : decode cL_law 1004 = .ok (.iload 4, 2) := bL_law_984.2.2.2.2.2.2.2.2.2.2.2.2.2.2.2
set_option maxRecDepth 100000 in
theorem bL_law_1006 : (decode cL_law 1006 = .ok (.iconst 2, 1)) ∧ (decode cL_law 1007 = .ok (.iadd, 1)) ∧ (decode cL_law 1008 = .ok (.iaload, 1)) ∧ (decode cL_law 1009 = .ok (.invokevirtual 229, 3)) ∧ (decode cL_law 1012 = .ok (.istore 6, 2)) ∧ (decode cL_law 1014 = .ok (.goto 982, 3)) ∧ (decode cL_law 1017 = .ok (.aload_n 1, 1)) ∧ (decode cL_law 1018 = .ok (.aload_n 0, 1)) ∧ (decode cL_law 1019 = .ok (.iload 4, 2)) ∧ (decode cL_law 1021 = .ok (.iconst 1, 1)) ∧ (decode cL_law 1022 = .ok (.iadd, 1)) ∧ (decode cL_law 1023 = .ok (.iaload, 1)) ∧ (decode cL_law 1024 = .ok (.aload_n 0, 1)) ∧ (decode cL_law 1025 = .ok (.iload 4, 2)) ∧ (decode cL_law 1027 = .ok (.iconst 2, 1)) ∧ (decode cL_law 1028 = .ok (.iadd, 1)) := by decide +kernel
theorem dL_law_1006 : decode cL_law 1006 = .ok (.iconst 2, 1) := bL_law_1006.1
theorem dL_law_1007 : decode cL_law 1007 = .ok (.iadd, 1) := bL_law_1006.2.1
theorem dL_law_1008 : decode cL_law 1008 = .ok (.iaload, 1) := bL_law_1006.2.2.1
theorem dL_law_1009 : decode cL_law 1009 = .ok (.invokevirtual 229, 3) := bL_law_1006.2.2.2.1
theorem dL_law_1012 : decode cL_law 1012 = .ok (.istore 6, 2) := bL_law_1006.2.2.2.2.1
theorem dL_law_1014 : decode cL_law 1014 = .ok (.goto 982, 3) := bL_law_1006.2.2.2.2.2.1
theorem dL_law_1017 : decode cL_law 1017 = .ok (.aload_n 1, 1) := bL_law_1006.2.2.2.2.2.2.1
theorem dL_law_1018 : decode cL_law 1018 = .ok (.aload_n 0, 1) := bL_law_1006.2.2.2.2.2.2.2.1
theorem dL_law_1019 : decode cL_law 1019 = .ok (.iload 4, 2) := bL_law_1006.2.2.2.2.2.2.2.2.1
theorem dL_law_1021 : decode cL_law 1021 = .ok (.iconst 1, 1) := bL_law_1006.2.2.2.2.2.2.2.2.2.1
theorem dL_law_1022 : decode cL_law 1022 = .ok (.iadd, 1) := bL_law_1006.2.2.2.2.2.2.2.2.2.2.1
theorem dL_law_1023 : decode cL_law 1023 = .ok (.iaload, 1) := bL_law_1006.2.2.2.2.2.2.2.2.2.2.2.1
theorem dL_law_1024 : decode cL_law 1024 = .ok (.aload_n 0, 1) := bL_law_1006.2.2.2.2.2.2.2.2.2.2.2.2.1
theorem dL_law_1025 : decode cL_law 1025 = .ok (.iload 4, 2) := bL_law_1006.2.2.2.2.2.2.2.2.2.2.2.2.2.1
theorem dL_law_1027 : decode cL_law 1027 = .ok (.iconst 2, 1) := bL_law_1006.2.2.2.2.2.2.2.2.2.2.2.2.2.2.1
theorem dL_law_1028 : decode cL_law 1028 = .ok (.iadd, 1) := bL_law_1006.2.2.2.2.2.2.2.2.2.2.2.2.2.2.2
set_option maxRecDepth 100000 in
theorem bL_law_1029 : (decode cL_law 1029 = .ok (.iaload, 1)) ∧ (decode cL_law 1030 = .ok (.aload_n 3, 1)) ∧ (decode cL_law 1031 = .ok (.invokestatic 230, 3)) ∧ (decode cL_law 1034 = .ok (.istore 5, 2)) ∧ (decode cL_law 1036 = .ok (.aload_n 2, 1)) ∧ (decode cL_law 1037 = .ok (.aload_n 0, 1)) ∧ (decode cL_law 1038 = .ok (.iload 4, 2)) ∧ (decode cL_law 1040 = .ok (.iconst 1, 1)) ∧ (decode cL_law 1041 = .ok (.iadd, 1)) ∧ (decode cL_law 1042 = .ok (.iaload, 1)) ∧ (decode cL_law 1043 = .ok (.aload_n 0, 1)) ∧ (decode cL_law 1044 = .ok (.iload 4, 2)) ∧ (decode cL_law 1046 = .ok (.iconst 2, 1)) ∧ (decode cL_law 1047 = .ok (.iadd, 1)) ∧ (decode cL_law 1048 = .ok (.iaload, 1)) ∧ (decode cL_law 1049 = .ok (.invokevirtual 232, 3)) := by decide +kernel
theorem dL_law_1029 : decode cL_law 1029 = .ok (.iaload, 1) := bL_law_1029.1
theorem dL_law_1030 : decode cL_law 1030 = .ok (.aload_n 3, 1) := bL_law_1029.2.1
theorem dL_law_1031 : decode cL_law 1031 = .ok (.invokestatic 230, 3) := bL_law_1029.2.2.1
theorem dL_law_1034 : decode cL_law 1034 = .ok (.istore 5, 2) := bL_law_1029.2.2.2.1
theorem dL_law_1036 : decode cL_law 1036 = .ok (.aload_n 2, 1) := bL_law_1029.2.2.2.2.1
theorem dL_law_1037 : decode cL_law 1037 = .ok (.aload_n 0, 1) := bL_law_1029.2.2.2.2.2.1
theorem dL_law_1038 : decode cL_law 1038 = .ok (.iload 4, 2) := bL_law_1029.2.2.2.2.2.2.1
theorem dL_law_1040 : decode cL_law 1040 = .ok (.iconst 1, 1) := bL_law_1029.2.2.2.2.2.2.2.1
theorem dL_law_1041 : decode cL_law 1041 = .ok (.iadd, 1) := bL_law_1029.2.2.2.2.2.2.2.2.1
theorem dL_law_1042 : decode cL_law 1042 = .ok (.iaload, 1) := bL_law_1029.2.2.2.2.2.2.2.2.2.1
theorem dL_law_1043 : decode cL_law 1043 = .ok (.aload_n 0, 1) := bL_law_1029.2.2.2.2.2.2.2.2.2.2.1
theorem dL_law_1044 : decode cL_law 1044 = .ok (.iload 4, 2) := bL_law_1029.2.2.2.2.2.2.2.2.2.2.2.1
theorem dL_law_1046 : decode cL_law 1046 = .ok (.iconst 2, 1) := bL_law_1029.2.2.2.2.2.2.2.2.2.2.2.2.1
theorem dL_law_1047 : decode cL_law 1047 = .ok (.iadd, 1) := bL_law_1029.2.2.2.2.2.2.2.2.2.2.2.2.2.1
theorem dL_law_1048 : decode cL_law 1048 = .ok (.iaload, 1) := bL_law_1029.2.2.2.2.2.2.2.2.2.2.2.2.2.2.1
theorem dL_law_1049 : decode cL_law 1049 = .ok (.invokevirtual 232, 3) := bL_law_1029.2.2.2.2.2.2.2.2.2.2.2.2.2.2.2
set_option maxRecDepth 100000 in
theorem bL_law_1052 : (decode cL_law 1052 = .ok (.istore 6, 2)) ∧ (decode cL_law 1054 = .ok (.goto 942, 3)) ∧ (decode cL_law 1057 = .ok (.aload_n 1, 1)) ∧ (decode cL_law 1058 = .ok (.aload_n 0, 1)) ∧ (decode cL_law 1059 = .ok (.iload 4, 2)) ∧ (decode cL_law 1061 = .ok (.iconst 1, 1)) ∧ (decode cL_law 1062 = .ok (.iadd, 1)) ∧ (decode cL_law 1063 = .ok (.iaload, 1)) ∧ (decode cL_law 1064 = .ok (.aload_n 0, 1)) ∧ (decode cL_law 1065 = .ok (.iload 4, 2)) ∧ (decode cL_law 1067 = .ok (.iconst 2, 1)) ∧ (decode cL_law 1068 = .ok (.iadd, 1)) ∧ (decode cL_law 1069 = .ok (.iaload, 1)) ∧ (decode cL_law 1070 = .ok (.aload_n 3, 1)) ∧ (decode cL_law 1071 = .ok (.invokestatic 233, 3)) ∧ (decode cL_law 1074 = .ok (.istore 5, 2)) := by decide +kernel
theorem dL_law_1052 : decode cL_law 1052 = .ok (.istore 6, 2) := bL_law_1052.1
theorem dL_law_1054 : decode cL_law 1054 = .ok (.goto 942, 3) := bL_law_1052.2.1
theorem dL_law_1057 : decode cL_law 1057 = .ok (.aload_n 1, 1) := bL_law_1052.2.2.1
theorem dL_law_1058 : decode cL_law 1058 = .ok (.aload_n 0, 1) := bL_law_1052.2.2.2.1
theorem dL_law_1059 : decode cL_law 1059 = .ok (.iload 4, 2) := bL_law_1052.2.2.2.2.1
theorem dL_law_1061 : decode cL_law 1061 = .ok (.iconst 1, 1) := bL_law_1052.2.2.2.2.2.1
theorem dL_law_1062 : decode cL_law 1062 = .ok (.iadd, 1) := bL_law_1052.2.2.2.2.2.2.1
theorem dL_law_1063 : decode cL_law 1063 = .ok (.iaload, 1) := bL_law_1052.2.2.2.2.2.2.2.1
theorem dL_law_1064 : decode cL_law 1064 = .ok (.aload_n 0, 1) := bL_law_1052.2.2.2.2.2.2.2.2.1
theorem dL_law_1065 : decode cL_law 1065 = .ok (.iload 4, 2) := bL_law_1052.2.2.2.2.2.2.2.2.2.1
theorem dL_law_1067 : decode cL_law 1067 = .ok (.iconst 2, 1) := bL_law_1052.2.2.2.2.2.2.2.2.2.2.1
theorem dL_law_1068 : decode cL_law 1068 = .ok (.iadd, 1) := bL_law_1052.2.2.2.2.2.2.2.2.2.2.2.1
theorem dL_law_1069 : decode cL_law 1069 = .ok (.iaload, 1) := bL_law_1052.2.2.2.2.2.2.2.2.2.2.2.2.1
theorem dL_law_1070 : decode cL_law 1070 = .ok (.aload_n 3, 1) := bL_law_1052.2.2.2.2.2.2.2.2.2.2.2.2.2.1
theorem dL_law_1071 : decode cL_law 1071 = .ok (.invokestatic 233, 3) := bL_law_1052.2.2.2.2.2.2.2.2.2.2.2.2.2.2.1
theorem dL_law_1074 : decode cL_law 1074 = .ok (.istore 5, 2) := bL_law_1052.2.2.2.2.2.2.2.2.2.2.2.2.2.2.2
set_option maxRecDepth 100000 in
theorem bL_law_1076 : (decode cL_law 1076 = .ok (.aload_n 2, 1)) ∧ (decode cL_law 1077 = .ok (.aload_n 0, 1)) ∧ (decode cL_law 1078 = .ok (.iload 4, 2)) ∧ (decode cL_law 1080 = .ok (.iconst 1, 1)) ∧ (decode cL_law 1081 = .ok (.iadd, 1)) ∧ (decode cL_law 1082 = .ok (.iaload, 1)) ∧ (decode cL_law 1083 = .ok (.aload_n 0, 1)) ∧ (decode cL_law 1084 = .ok (.iload 4, 2)) ∧ (decode cL_law 1086 = .ok (.iconst 2, 1)) ∧ (decode cL_law 1087 = .ok (.iadd, 1)) ∧ (decode cL_law 1088 = .ok (.iaload, 1)) ∧ (decode cL_law 1089 = .ok (.invokevirtual 235, 3)) ∧ (decode cL_law 1092 = .ok (.istore 6, 2)) ∧ (decode cL_law 1094 = .ok (.goto 902, 3)) ∧ (decode cL_law 1097 = .ok (.aload_n 1, 1)) ∧ (decode cL_law 1098 = .ok (.aload_n 0, 1)) := by decide +kernel
theorem dL_law_1076 : decode cL_law 1076 = .ok (.aload_n 2, 1) := bL_law_1076.1
theorem dL_law_1077 : decode cL_law 1077 = .ok (.aload_n 0, 1) := bL_law_1076.2.1
theorem dL_law_1078 : decode cL_law 1078 = .ok (.iload 4, 2) := bL_law_1076.2.2.1
theorem dL_law_1080 : decode cL_law 1080 = .ok (.iconst 1, 1) := bL_law_1076.2.2.2.1
theorem dL_law_1081 : decode cL_law 1081 = .ok (.iadd, 1) := bL_law_1076.2.2.2.2.1
theorem dL_law_1082 : decode cL_law 1082 = .ok (.iaload, 1) := bL_law_1076.2.2.2.2.2.1
theorem dL_law_1083 : decode cL_law 1083 = .ok (.aload_n 0, 1) := bL_law_1076.2.2.2.2.2.2.1
theorem dL_law_1084 : decode cL_law 1084 = .ok (.iload 4, 2) := bL_law_1076.2.2.2.2.2.2.2.1
theorem dL_law_1086 : decode cL_law 1086 = .ok (.iconst 2, 1) := bL_law_1076.2.2.2.2.2.2.2.2.1
theorem dL_law_1087 : decode cL_law 1087 = .ok (.iadd, 1) := bL_law_1076.2.2.2.2.2.2.2.2.2.1
theorem dL_law_1088 : decode cL_law 1088 = .ok (.iaload, 1) := bL_law_1076.2.2.2.2.2.2.2.2.2.2.1
theorem dL_law_1089 : decode cL_law 1089 = .ok (.invokevirtual 235, 3) := bL_law_1076.2.2.2.2.2.2.2.2.2.2.2.1
theorem dL_law_1092 : decode cL_law 1092 = .ok (.istore 6, 2) := bL_law_1076.2.2.2.2.2.2.2.2.2.2.2.2.1
theorem dL_law_1094 : decode cL_law 1094 = .ok (.goto 902, 3) := bL_law_1076.2.2.2.2.2.2.2.2.2.2.2.2.2.1
theorem dL_law_1097 : decode cL_law 1097 = .ok (.aload_n 1, 1) := bL_law_1076.2.2.2.2.2.2.2.2.2.2.2.2.2.2.1
theorem dL_law_1098 : decode cL_law 1098 = .ok (.aload_n 0, 1) := bL_law_1076.2.2.2.2.2.2.2.2.2.2.2.2.2.2.2
set_option maxRecDepth 100000 in
theorem bL_law_1099 : (decode cL_law 1099 = .ok (.iload 4, 2)) ∧ (decode cL_law 1101 = .ok (.iconst 1, 1)) ∧ (decode cL_law 1102 = .ok (.iadd, 1)) ∧ (decode cL_law 1103 = .ok (.iaload, 1)) ∧ (decode cL_law 1104 = .ok (.aload_n 0, 1)) ∧ (decode cL_law 1105 = .ok (.iload 4, 2)) ∧ (decode cL_law 1107 = .ok (.iconst 2, 1)) ∧ (decode cL_law 1108 = .ok (.iadd, 1)) ∧ (decode cL_law 1109 = .ok (.iaload, 1)) ∧ (decode cL_law 1110 = .ok (.aload_n 3, 1)) ∧ (decode cL_law 1111 = .ok (.invokestatic 236, 3)) ∧ (decode cL_law 1114 = .ok (.istore 5, 2)) ∧ (decode cL_law 1116 = .ok (.aload_n 2, 1)) ∧ (decode cL_law 1117 = .ok (.aload_n 0, 1)) ∧ (decode cL_law 1118 = .ok (.iload 4, 2)) ∧ (decode cL_law 1120 = .ok (.iconst 1, 1)) := by decide +kernel
theorem dL_law_1099 : decode cL_law 1099 = .ok (.iload 4, 2) := bL_law_1099.1
theorem dL_law_1101 : decode cL_law 1101 = .ok (.iconst 1, 1) := bL_law_1099.2.1
theorem dL_law_1102 : decode cL_law 1102 = .ok (.iadd, 1) := bL_law_1099.2.2.1
theorem dL_law_1103 : decode cL_law 1103 = .ok (.iaload, 1) := bL_law_1099.2.2.2.1
theorem dL_law_1104 : decode cL_law 1104 = .ok (.aload_n 0, 1) := bL_law_1099.2.2.2.2.1
theorem dL_law_1105 : decode cL_law 1105 = .ok (.iload 4, 2) := bL_law_1099.2.2.2.2.2.1
theorem dL_law_1107 : decode cL_law 1107 = .ok (.iconst 2, 1) := bL_law_1099.2.2.2.2.2.2.1
theorem dL_law_1108 : decode cL_law 1108 = .ok (.iadd, 1) := bL_law_1099.2.2.2.2.2.2.2.1
theorem dL_law_1109 : decode cL_law 1109 = .ok (.iaload, 1) := bL_law_1099.2.2.2.2.2.2.2.2.1
theorem dL_law_1110 : decode cL_law 1110 = .ok (.aload_n 3, 1) := bL_law_1099.2.2.2.2.2.2.2.2.2.1
theorem dL_law_1111 : decode cL_law 1111 = .ok (.invokestatic 236, 3) := bL_law_1099.2.2.2.2.2.2.2.2.2.2.1
theorem dL_law_1114 : decode cL_law 1114 = .ok (.istore 5, 2) := bL_law_1099.2.2.2.2.2.2.2.2.2.2.2.1
theorem dL_law_1116 : decode cL_law 1116 = .ok (.aload_n 2, 1) := bL_law_1099.2.2.2.2.2.2.2.2.2.2.2.2.1
theorem dL_law_1117 : decode cL_law 1117 = .ok (.aload_n 0, 1) := bL_law_1099.2.2.2.2.2.2.2.2.2.2.2.2.2.1
theorem dL_law_1118 : decode cL_law 1118 = .ok (.iload 4, 2) := bL_law_1099.2.2.2.2.2.2.2.2.2.2.2.2.2.2.1
theorem dL_law_1120 : decode cL_law 1120 = .ok (.iconst 1, 1) := bL_law_1099.2.2.2.2.2.2.2.2.2.2.2.2.2.2.2
set_option maxRecDepth 100000 in
theorem bL_law_1121 : (decode cL_law 1121 = .ok (.iadd, 1)) ∧ (decode cL_law 1122 = .ok (.iaload, 1)) ∧ (decode cL_law 1123 = .ok (.aload_n 0, 1)) ∧ (decode cL_law 1124 = .ok (.iload 4, 2)) ∧ (decode cL_law 1126 = .ok (.iconst 2, 1)) ∧ (decode cL_law 1127 = .ok (.iadd, 1)) ∧ (decode cL_law 1128 = .ok (.iaload, 1)) ∧ (decode cL_law 1129 = .ok (.invokevirtual 238, 3)) ∧ (decode cL_law 1132 = .ok (.istore 6, 2)) ∧ (decode cL_law 1134 = .ok (.goto 862, 3)) ∧ (decode cL_law 1137 = .ok (.aload_n 1, 1)) ∧ (decode cL_law 1138 = .ok (.aload_n 0, 1)) ∧ (decode cL_law 1139 = .ok (.iload 4, 2)) ∧ (decode cL_law 1141 = .ok (.iconst 1, 1)) ∧ (decode cL_law 1142 = .ok (.iadd, 1)) ∧ (decode cL_law 1143 = .ok (.iaload, 1)) := by decide +kernel
theorem dL_law_1121 : decode cL_law 1121 = .ok (.iadd, 1) := bL_law_1121.1
theorem dL_law_1122 : decode cL_law 1122 = .ok (.iaload, 1) := bL_law_1121.2.1
theorem dL_law_1123 : decode cL_law 1123 = .ok (.aload_n 0, 1) := bL_law_1121.2.2.1
theorem dL_law_1124 : decode cL_law 1124 = .ok (.iload 4, 2) := bL_law_1121.2.2.2.1
theorem dL_law_1126 : decode cL_law 1126 = .ok (.iconst 2, 1) := bL_law_1121.2.2.2.2.1
theorem dL_law_1127 : decode cL_law 1127 = .ok (.iadd, 1) := bL_law_1121.2.2.2.2.2.1
theorem dL_law_1128 : decode cL_law 1128 = .ok (.iaload, 1) := bL_law_1121.2.2.2.2.2.2.1
theorem dL_law_1129 : decode cL_law 1129 = .ok (.invokevirtual 238, 3) := bL_law_1121.2.2.2.2.2.2.2.1
theorem dL_law_1132 : decode cL_law 1132 = .ok (.istore 6, 2) := bL_law_1121.2.2.2.2.2.2.2.2.1
theorem dL_law_1134 : decode cL_law 1134 = .ok (.goto 862, 3) := bL_law_1121.2.2.2.2.2.2.2.2.2.1
theorem dL_law_1137 : decode cL_law 1137 = .ok (.aload_n 1, 1) := bL_law_1121.2.2.2.2.2.2.2.2.2.2.1
theorem dL_law_1138 : decode cL_law 1138 = .ok (.aload_n 0, 1) := bL_law_1121.2.2.2.2.2.2.2.2.2.2.2.1
theorem dL_law_1139 : decode cL_law 1139 = .ok (.iload 4, 2) := bL_law_1121.2.2.2.2.2.2.2.2.2.2.2.2.1
theorem dL_law_1141 : decode cL_law 1141 = .ok (.iconst 1, 1) := bL_law_1121.2.2.2.2.2.2.2.2.2.2.2.2.2.1
theorem dL_law_1142 : decode cL_law 1142 = .ok (.iadd, 1) := bL_law_1121.2.2.2.2.2.2.2.2.2.2.2.2.2.2.1
theorem dL_law_1143 : decode cL_law 1143 = .ok (.iaload, 1) := bL_law_1121.2.2.2.2.2.2.2.2.2.2.2.2.2.2.2
set_option maxRecDepth 100000 in
theorem bL_law_1144 : (decode cL_law 1144 = .ok (.aload_n 0, 1)) ∧ (decode cL_law 1145 = .ok (.iload 4, 2)) ∧ (decode cL_law 1147 = .ok (.iconst 2, 1)) ∧ (decode cL_law 1148 = .ok (.iadd, 1)) ∧ (decode cL_law 1149 = .ok (.iaload, 1)) ∧ (decode cL_law 1150 = .ok (.aload_n 3, 1)) ∧ (decode cL_law 1151 = .ok (.invokestatic 239, 3)) ∧ (decode cL_law 1154 = .ok (.istore 5, 2)) ∧ (decode cL_law 1156 = .ok (.aload_n 2, 1)) ∧ (decode cL_law 1157 = .ok (.aload_n 0, 1)) ∧ (decode cL_law 1158 = .ok (.iload 4, 2)) ∧ (decode cL_law 1160 = .ok (.iconst 1, 1)) ∧ (decode cL_law 1161 = .ok (.iadd, 1)) ∧ (decode cL_law 1162 = .ok (.iaload, 1)) ∧ (decode cL_law 1163 = .ok (.aload_n 0, 1)) ∧ (decode cL_law 1164 = .ok (.iload 4, 2)) := by decide +kernel
theorem dL_law_1144 : decode cL_law 1144 = .ok (.aload_n 0, 1) := bL_law_1144.1
theorem dL_law_1145 : decode cL_law 1145 = .ok (.iload 4, 2) := bL_law_1144.2.1
theorem dL_law_1147 : decode cL_law 1147 = .ok (.iconst 2, 1) := bL_law_1144.2.2.1
theorem dL_law_1148 : decode cL_law 1148 = .ok (.iadd, 1) := bL_law_1144.2.2.2.1
theorem dL_law_1149 : decode cL_law 1149 = .ok (.iaload, 1) := bL_law_1144.2.2.2.2.1
theorem dL_law_1150 : decode cL_law 1150 = .ok (.aload_n 3, 1) := bL_law_1144.2.2.2.2.2.1
theorem dL_law_1151 : decode cL_law 1151 = .ok (.invokestatic 239, 3) := bL_law_1144.2.2.2.2.2.2.1
theorem dL_law_1154 : decode cL_law 1154 = .ok (.istore 5, 2) := bL_law_1144.2.2.2.2.2.2.2.1
theorem dL_law_1156 : decode cL_law 1156 = .ok (.aload_n 2, 1) := bL_law_1144.2.2.2.2.2.2.2.2.1
theorem dL_law_1157 : decode cL_law 1157 = .ok (.aload_n 0, 1) := bL_law_1144.2.2.2.2.2.2.2.2.2.1
theorem dL_law_1158 : decode cL_law 1158 = .ok (.iload 4, 2) := bL_law_1144.2.2.2.2.2.2.2.2.2.2.1
theorem dL_law_1160 : decode cL_law 1160 = .ok (.iconst 1, 1) := bL_law_1144.2.2.2.2.2.2.2.2.2.2.2.1
theorem dL_law_1161 : decode cL_law 1161 = .ok (.iadd, 1) := bL_law_1144.2.2.2.2.2.2.2.2.2.2.2.2.1
theorem dL_law_1162 : decode cL_law 1162 = .ok (.iaload, 1) := bL_law_1144.2.2.2.2.2.2.2.2.2.2.2.2.2.1
theorem dL_law_1163 : decode cL_law 1163 = .ok (.aload_n 0, 1) := bL_law_1144.2.2.2.2.2.2.2.2.2.2.2.2.2.2.1
theorem dL_law_1164 : decode cL_law 1164 = .ok (.iload 4, 2) := bL_law_1144.2.2.2.2.2.2.2.2.2.2.2.2.2.2.2
set_option maxRecDepth 100000 in
theorem bL_law_1166 : (decode cL_law 1166 = .ok (.iconst 2, 1)) ∧ (decode cL_law 1167 = .ok (.iadd, 1)) ∧ (decode cL_law 1168 = .ok (.iaload, 1)) ∧ (decode cL_law 1169 = .ok (.invokevirtual 241, 3)) ∧ (decode cL_law 1172 = .ok (.istore 6, 2)) ∧ (decode cL_law 1174 = .ok (.goto 822, 3)) ∧ (decode cL_law 1177 = .ok (.aload_n 1, 1)) ∧ (decode cL_law 1178 = .ok (.aload_n 0, 1)) ∧ (decode cL_law 1179 = .ok (.iload 4, 2)) ∧ (decode cL_law 1181 = .ok (.iconst 1, 1)) ∧ (decode cL_law 1182 = .ok (.iadd, 1)) ∧ (decode cL_law 1183 = .ok (.iaload, 1)) ∧ (decode cL_law 1184 = .ok (.aload_n 0, 1)) ∧ (decode cL_law 1185 = .ok (.iload 4, 2)) ∧ (decode cL_law 1187 = .ok (.iconst 2, 1)) ∧ (decode cL_law 1188 = .ok (.iadd, 1)) := by decide +kernel
theorem dL_law_1166 : decode cL_law 1166 = .ok (.iconst 2, 1) := bL_law_1166.1
theorem dL_law_1167 : decode cL_law 1167 = .ok (.iadd, 1) := bL_law_1166.2.1
theorem dL_law_1168 : decode cL_law 1168 = .ok (.iaload, 1) := bL_law_1166.2.2.1
theorem dL_law_1169 : decode cL_law 1169 = .ok (.invokevirtual 241, 3) := bL_law_1166.2.2.2.1
theorem dL_law_1172 : decode cL_law 1172 = .ok (.istore 6, 2) := bL_law_1166.2.2.2.2.1
theorem dL_law_1174 : decode cL_law 1174 = .ok (.goto 822, 3) := bL_law_1166.2.2.2.2.2.1
theorem dL_law_1177 : decode cL_law 1177 = .ok (.aload_n 1, 1) := bL_law_1166.2.2.2.2.2.2.1
theorem dL_law_1178 : decode cL_law 1178 = .ok (.aload_n 0, 1) := bL_law_1166.2.2.2.2.2.2.2.1
theorem dL_law_1179 : decode cL_law 1179 = .ok (.iload 4, 2) := bL_law_1166.2.2.2.2.2.2.2.2.1
theorem dL_law_1181 : decode cL_law 1181 = .ok (.iconst 1, 1) := bL_law_1166.2.2.2.2.2.2.2.2.2.1
theorem dL_law_1182 : decode cL_law 1182 = .ok (.iadd, 1) := bL_law_1166.2.2.2.2.2.2.2.2.2.2.1
theorem dL_law_1183 : decode cL_law 1183 = .ok (.iaload, 1) := bL_law_1166.2.2.2.2.2.2.2.2.2.2.2.1
theorem dL_law_1184 : decode cL_law 1184 = .ok (.aload_n 0, 1) := bL_law_1166.2.2.2.2.2.2.2.2.2.2.2.2.1
theorem dL_law_1185 : decode cL_law 1185 = .ok (.iload 4, 2) := bL_law_1166.2.2.2.2.2.2.2.2.2.2.2.2.2.1
theorem dL_law_1187 : decode cL_law 1187 = .ok (.iconst 2, 1) := bL_law_1166.2.2.2.2.2.2.2.2.2.2.2.2.2.2.1
theorem dL_law_1188 : decode cL_law 1188 = .ok (.iadd, 1) := bL_law_1166.2.2.2.2.2.2.2.2.2.2.2.2.2.2.2
set_option maxRecDepth 100000 in
theorem bL_law_1189 : (decode cL_law 1189 = .ok (.iaload, 1)) ∧ (decode cL_law 1190 = .ok (.aload_n 3, 1)) ∧ (decode cL_law 1191 = .ok (.invokestatic 242, 3)) ∧ (decode cL_law 1194 = .ok (.istore 5, 2)) ∧ (decode cL_law 1196 = .ok (.aload_n 2, 1)) ∧ (decode cL_law 1197 = .ok (.aload_n 0, 1)) ∧ (decode cL_law 1198 = .ok (.iload 4, 2)) ∧ (decode cL_law 1200 = .ok (.iconst 1, 1)) ∧ (decode cL_law 1201 = .ok (.iadd, 1)) ∧ (decode cL_law 1202 = .ok (.iaload, 1)) ∧ (decode cL_law 1203 = .ok (.aload_n 0, 1)) ∧ (decode cL_law 1204 = .ok (.iload 4, 2)) ∧ (decode cL_law 1206 = .ok (.iconst 2, 1)) ∧ (decode cL_law 1207 = .ok (.iadd, 1)) ∧ (decode cL_law 1208 = .ok (.iaload, 1)) ∧ (decode cL_law 1209 = .ok (.invokevirtual 244, 3)) := by decide +kernel
theorem dL_law_1189 : decode cL_law 1189 = .ok (.iaload, 1) := bL_law_1189.1
theorem dL_law_1190 : decode cL_law 1190 = .ok (.aload_n 3, 1) := bL_law_1189.2.1
theorem dL_law_1191 : decode cL_law 1191 = .ok (.invokestatic 242, 3) := bL_law_1189.2.2.1
theorem dL_law_1194 : decode cL_law 1194 = .ok (.istore 5, 2) := bL_law_1189.2.2.2.1
theorem dL_law_1196 : decode cL_law 1196 = .ok (.aload_n 2, 1) := bL_law_1189.2.2.2.2.1
theorem dL_law_1197 : decode cL_law 1197 = .ok (.aload_n 0, 1) := bL_law_1189.2.2.2.2.2.1
theorem dL_law_1198 : decode cL_law 1198 = .ok (.iload 4, 2) := bL_law_1189.2.2.2.2.2.2.1
theorem dL_law_1200 : decode cL_law 1200 = .ok (.iconst 1, 1) := bL_law_1189.2.2.2.2.2.2.2.1
theorem dL_law_1201 : decode cL_law 1201 = .ok (.iadd, 1) := bL_law_1189.2.2.2.2.2.2.2.2.1
theorem dL_law_1202 : decode cL_law 1202 = .ok (.iaload, 1) := bL_law_1189.2.2.2.2.2.2.2.2.2.1
theorem dL_law_1203 : decode cL_law 1203 = .ok (.aload_n 0, 1) := bL_law_1189.2.2.2.2.2.2.2.2.2.2.1
theorem dL_law_1204 : decode cL_law 1204 = .ok (.iload 4, 2) := bL_law_1189.2.2.2.2.2.2.2.2.2.2.2.1
theorem dL_law_1206 : decode cL_law 1206 = .ok (.iconst 2, 1) := bL_law_1189.2.2.2.2.2.2.2.2.2.2.2.2.1
theorem dL_law_1207 : decode cL_law 1207 = .ok (.iadd, 1) := bL_law_1189.2.2.2.2.2.2.2.2.2.2.2.2.2.1
theorem dL_law_1208 : decode cL_law 1208 = .ok (.iaload, 1) := bL_law_1189.2.2.2.2.2.2.2.2.2.2.2.2.2.2.1
theorem dL_law_1209 : decode cL_law 1209 = .ok (.invokevirtual 244, 3) := bL_law_1189.2.2.2.2.2.2.2.2.2.2.2.2.2.2.2
set_option maxRecDepth 100000 in
theorem bL_law_1212 : (decode cL_law 1212 = .ok (.istore 6, 2)) ∧ (decode cL_law 1214 = .ok (.goto 782, 3)) ∧ (decode cL_law 1217 = .ok (.aload_n 1, 1)) ∧ (decode cL_law 1218 = .ok (.aload_n 0, 1)) ∧ (decode cL_law 1219 = .ok (.iload 4, 2)) ∧ (decode cL_law 1221 = .ok (.iconst 1, 1)) ∧ (decode cL_law 1222 = .ok (.iadd, 1)) ∧ (decode cL_law 1223 = .ok (.iaload, 1)) ∧ (decode cL_law 1224 = .ok (.aload_n 0, 1)) ∧ (decode cL_law 1225 = .ok (.iload 4, 2)) ∧ (decode cL_law 1227 = .ok (.iconst 2, 1)) ∧ (decode cL_law 1228 = .ok (.iadd, 1)) ∧ (decode cL_law 1229 = .ok (.iaload, 1)) ∧ (decode cL_law 1230 = .ok (.aload_n 0, 1)) ∧ (decode cL_law 1231 = .ok (.iload 4, 2)) ∧ (decode cL_law 1233 = .ok (.iconst 3, 1)) := by decide +kernel
theorem dL_law_1212 : decode cL_law 1212 = .ok (.istore 6, 2) := bL_law_1212.1
theorem dL_law_1214 : decode cL_law 1214 = .ok (.goto 782, 3) := bL_law_1212.2.1
theorem dL_law_1217 : decode cL_law 1217 = .ok (.aload_n 1, 1) := bL_law_1212.2.2.1
theorem dL_law_1218 : decode cL_law 1218 = .ok (.aload_n 0, 1) := bL_law_1212.2.2.2.1
theorem dL_law_1219 : decode cL_law 1219 = .ok (.iload 4, 2) := bL_law_1212.2.2.2.2.1
theorem dL_law_1221 : decode cL_law 1221 = .ok (.iconst 1, 1) := bL_law_1212.2.2.2.2.2.1
theorem dL_law_1222 : decode cL_law 1222 = .ok (.iadd, 1) := bL_law_1212.2.2.2.2.2.2.1
theorem dL_law_1223 : decode cL_law 1223 = .ok (.iaload, 1) := bL_law_1212.2.2.2.2.2.2.2.1
theorem dL_law_1224 : decode cL_law 1224 = .ok (.aload_n 0, 1) := bL_law_1212.2.2.2.2.2.2.2.2.1
theorem dL_law_1225 : decode cL_law 1225 = .ok (.iload 4, 2) := bL_law_1212.2.2.2.2.2.2.2.2.2.1
theorem dL_law_1227 : decode cL_law 1227 = .ok (.iconst 2, 1) := bL_law_1212.2.2.2.2.2.2.2.2.2.2.1
theorem dL_law_1228 : decode cL_law 1228 = .ok (.iadd, 1) := bL_law_1212.2.2.2.2.2.2.2.2.2.2.2.1
theorem dL_law_1229 : decode cL_law 1229 = .ok (.iaload, 1) := bL_law_1212.2.2.2.2.2.2.2.2.2.2.2.2.1
theorem dL_law_1230 : decode cL_law 1230 = .ok (.aload_n 0, 1) := bL_law_1212.2.2.2.2.2.2.2.2.2.2.2.2.2.1
theorem dL_law_1231 : decode cL_law 1231 = .ok (.iload 4, 2) := bL_law_1212.2.2.2.2.2.2.2.2.2.2.2.2.2.2.1
theorem dL_law_1233 : decode cL_law 1233 = .ok (.iconst 3, 1) := bL_law_1212.2.2.2.2.2.2.2.2.2.2.2.2.2.2.2
set_option maxRecDepth 100000 in
theorem bL_law_1234 : (decode cL_law 1234 = .ok (.iadd, 1)) ∧ (decode cL_law 1235 = .ok (.iaload, 1)) ∧ (decode cL_law 1236 = .ok (.aload_n 3, 1)) ∧ (decode cL_law 1237 = .ok (.invokestatic 245, 3)) ∧ (decode cL_law 1240 = .ok (.istore 5, 2)) ∧ (decode cL_law 1242 = .ok (.aload_n 2, 1)) ∧ (decode cL_law 1243 = .ok (.aload_n 0, 1)) ∧ (decode cL_law 1244 = .ok (.iload 4, 2)) ∧ (decode cL_law 1246 = .ok (.iconst 1, 1)) ∧ (decode cL_law 1247 = .ok (.iadd, 1)) ∧ (decode cL_law 1248 = .ok (.iaload, 1)) ∧ (decode cL_law 1249 = .ok (.aload_n 0, 1)) ∧ (decode cL_law 1250 = .ok (.iload 4, 2)) ∧ (decode cL_law 1252 = .ok (.iconst 2, 1)) ∧ (decode cL_law 1253 = .ok (.iadd, 1)) ∧ (decode cL_law 1254 = .ok (.iaload, 1)) := by decide +kernel
theorem dL_law_1234 : decode cL_law 1234 = .ok (.iadd, 1) := bL_law_1234.1
theorem dL_law_1235 : decode cL_law 1235 = .ok (.iaload, 1) := bL_law_1234.2.1
theorem dL_law_1236 : decode cL_law 1236 = .ok (.aload_n 3, 1) := bL_law_1234.2.2.1
theorem dL_law_1237 : decode cL_law 1237 = .ok (.invokestatic 245, 3) := bL_law_1234.2.2.2.1
theorem dL_law_1240 : decode cL_law 1240 = .ok (.istore 5, 2) := bL_law_1234.2.2.2.2.1
theorem dL_law_1242 : decode cL_law 1242 = .ok (.aload_n 2, 1) := bL_law_1234.2.2.2.2.2.1
theorem dL_law_1243 : decode cL_law 1243 = .ok (.aload_n 0, 1) := bL_law_1234.2.2.2.2.2.2.1
theorem dL_law_1244 : decode cL_law 1244 = .ok (.iload 4, 2) := bL_law_1234.2.2.2.2.2.2.2.1
theorem dL_law_1246 : decode cL_law 1246 = .ok (.iconst 1, 1) := bL_law_1234.2.2.2.2.2.2.2.2.1
theorem dL_law_1247 : decode cL_law 1247 = .ok (.iadd, 1) := bL_law_1234.2.2.2.2.2.2.2.2.2.1
theorem dL_law_1248 : decode cL_law 1248 = .ok (.iaload, 1) := bL_law_1234.2.2.2.2.2.2.2.2.2.2.1
theorem dL_law_1249 : decode cL_law 1249 = .ok (.aload_n 0, 1) := bL_law_1234.2.2.2.2.2.2.2.2.2.2.2.1
theorem dL_law_1250 : decode cL_law 1250 = .ok (.iload 4, 2) := bL_law_1234.2.2.2.2.2.2.2.2.2.2.2.2.1
theorem dL_law_1252 : decode cL_law 1252 = .ok (.iconst 2, 1) := bL_law_1234.2.2.2.2.2.2.2.2.2.2.2.2.2.1
theorem dL_law_1253 : decode cL_law 1253 = .ok (.iadd, 1) := bL_law_1234.2.2.2.2.2.2.2.2.2.2.2.2.2.2.1
theorem dL_law_1254 : decode cL_law 1254 = .ok (.iaload, 1) := bL_law_1234.2.2.2.2.2.2.2.2.2.2.2.2.2.2.2
set_option maxRecDepth 100000 in
theorem bL_law_1255 : (decode cL_law 1255 = .ok (.aload_n 0, 1)) ∧ (decode cL_law 1256 = .ok (.iload 4, 2)) ∧ (decode cL_law 1258 = .ok (.iconst 3, 1)) ∧ (decode cL_law 1259 = .ok (.iadd, 1)) ∧ (decode cL_law 1260 = .ok (.iaload, 1)) ∧ (decode cL_law 1261 = .ok (.invokevirtual 247, 3)) ∧ (decode cL_law 1264 = .ok (.astore 6, 2)) ∧ (decode cL_law 1266 = .ok (.goto 730, 3)) ∧ (decode cL_law 1269 = .ok (.aload_n 1, 1)) ∧ (decode cL_law 1270 = .ok (.aload_n 0, 1)) ∧ (decode cL_law 1271 = .ok (.iload 4, 2)) ∧ (decode cL_law 1273 = .ok (.iconst 1, 1)) ∧ (decode cL_law 1274 = .ok (.iadd, 1)) ∧ (decode cL_law 1275 = .ok (.iaload, 1)) ∧ (decode cL_law 1276 = .ok (.aload_n 3, 1)) ∧ (decode cL_law 1277 = .ok (.invokestatic 248, 3)) := by decide +kernel
theorem dL_law_1255 : decode cL_law 1255 = .ok (.aload_n 0, 1) := bL_law_1255.1
theorem dL_law_1256 : decode cL_law 1256 = .ok (.iload 4, 2) := bL_law_1255.2.1
theorem dL_law_1258 : decode cL_law 1258 = .ok (.iconst 3, 1) := bL_law_1255.2.2.1
theorem dL_law_1259 : decode cL_law 1259 = .ok (.iadd, 1) := bL_law_1255.2.2.2.1
theorem dL_law_1260 : decode cL_law 1260 = .ok (.iaload, 1) := bL_law_1255.2.2.2.2.1
theorem dL_law_1261 : decode cL_law 1261 = .ok (.invokevirtual 247, 3) := bL_law_1255.2.2.2.2.2.1
theorem dL_law_1264 : decode cL_law 1264 = .ok (.astore 6, 2) := bL_law_1255.2.2.2.2.2.2.1
theorem dL_law_1266 : decode cL_law 1266 = .ok (.goto 730, 3) := bL_law_1255.2.2.2.2.2.2.2.1
theorem dL_law_1269 : decode cL_law 1269 = .ok (.aload_n 1, 1) := bL_law_1255.2.2.2.2.2.2.2.2.1
theorem dL_law_1270 : decode cL_law 1270 = .ok (.aload_n 0, 1) := bL_law_1255.2.2.2.2.2.2.2.2.2.1
theorem dL_law_1271 : decode cL_law 1271 = .ok (.iload 4, 2) := bL_law_1255.2.2.2.2.2.2.2.2.2.2.1
theorem dL_law_1273 : decode cL_law 1273 = .ok (.iconst 1, 1) := bL_law_1255.2.2.2.2.2.2.2.2.2.2.2.1
theorem dL_law_1274 : decode cL_law 1274 = .ok (.iadd, 1) := bL_law_1255.2.2.2.2.2.2.2.2.2.2.2.2.1
theorem dL_law_1275 : decode cL_law 1275 = .ok (.iaload, 1) := bL_law_1255.2.2.2.2.2.2.2.2.2.2.2.2.2.1
theorem dL_law_1276 : decode cL_law 1276 = .ok (.aload_n 3, 1) := bL_law_1255.2.2.2.2.2.2.2.2.2.2.2.2.2.2.1
theorem dL_law_1277 : decode cL_law 1277 = .ok (.invokestatic 248, 3) := bL_law_1255.2.2.2.2.2.2.2.2.2.2.2.2.2.2.2
set_option maxRecDepth 100000 in
theorem bL_law_1280 : (decode cL_law 1280 = .ok (.istore 5, 2)) ∧ (decode cL_law 1282 = .ok (.aload_n 2, 1)) ∧ (decode cL_law 1283 = .ok (.aload_n 0, 1)) ∧ (decode cL_law 1284 = .ok (.iload 4, 2)) ∧ (decode cL_law 1286 = .ok (.iconst 1, 1)) ∧ (decode cL_law 1287 = .ok (.iadd, 1)) ∧ (decode cL_law 1288 = .ok (.iaload, 1)) ∧ (decode cL_law 1289 = .ok (.invokevirtual 250, 3)) ∧ (decode cL_law 1292 = .ok (.istore 6, 2)) ∧ (decode cL_law 1294 = .ok (.goto 702, 3)) ∧ (decode cL_law 1297 = .ok (.aload_n 1, 1)) ∧ (decode cL_law 1298 = .ok (.aload_n 0, 1)) ∧ (decode cL_law 1299 = .ok (.iload 4, 2)) ∧ (decode cL_law 1301 = .ok (.iconst 1, 1)) ∧ (decode cL_law 1302 = .ok (.iadd, 1)) ∧ (decode cL_law 1303 = .ok (.iaload, 1)) := by decide +kernel
theorem dL_law_1280 : decode cL_law 1280 = .ok (.istore 5, 2) := bL_law_1280.1
theorem dL_law_1282 : decode cL_law 1282 = .ok (.aload_n 2, 1) := bL_law_1280.2.1
theorem dL_law_1283 : decode cL_law 1283 = .ok (.aload_n 0, 1) := bL_law_1280.2.2.1
theorem dL_law_1284 : decode cL_law 1284 = .ok (.iload 4, 2) := bL_law_1280.2.2.2.1
theorem dL_law_1286 : decode cL_law 1286 = .ok (.iconst 1, 1) := bL_law_1280.2.2.2.2.1
theorem dL_law_1287 : decode cL_law 1287 = .ok (.iadd, 1) := bL_law_1280.2.2.2.2.2.1
theorem dL_law_1288 : decode cL_law 1288 = .ok (.iaload, 1) := bL_law_1280.2.2.2.2.2.2.1
theorem dL_law_1289 : decode cL_law 1289 = .ok (.invokevirtual 250, 3) := bL_law_1280.2.2.2.2.2.2.2.1
theorem dL_law_1292 : decode cL_law 1292 = .ok (.istore 6, 2) := bL_law_1280.2.2.2.2.2.2.2.2.1
theorem dL_law_1294 : decode cL_law 1294 = .ok (.goto 702, 3) := bL_law_1280.2.2.2.2.2.2.2.2.2.1
theorem dL_law_1297 : decode cL_law 1297 = .ok (.aload_n 1, 1) := bL_law_1280.2.2.2.2.2.2.2.2.2.2.1
theorem dL_law_1298 : decode cL_law 1298 = .ok (.aload_n 0, 1) := bL_law_1280.2.2.2.2.2.2.2.2.2.2.2.1
theorem dL_law_1299 : decode cL_law 1299 = .ok (.iload 4, 2) := bL_law_1280.2.2.2.2.2.2.2.2.2.2.2.2.1
theorem dL_law_1301 : decode cL_law 1301 = .ok (.iconst 1, 1) := bL_law_1280.2.2.2.2.2.2.2.2.2.2.2.2.2.1
theorem dL_law_1302 : decode cL_law 1302 = .ok (.iadd, 1) := bL_law_1280.2.2.2.2.2.2.2.2.2.2.2.2.2.2.1
theorem dL_law_1303 : decode cL_law 1303 = .ok (.iaload, 1) := bL_law_1280.2.2.2.2.2.2.2.2.2.2.2.2.2.2.2
set_option maxRecDepth 100000 in
theorem bL_law_1304 : (decode cL_law 1304 = .ok (.aload_n 3, 1)) ∧ (decode cL_law 1305 = .ok (.invokestatic 251, 3)) ∧ (decode cL_law 1308 = .ok (.istore 5, 2)) ∧ (decode cL_law 1310 = .ok (.aload_n 2, 1)) ∧ (decode cL_law 1311 = .ok (.aload_n 0, 1)) ∧ (decode cL_law 1312 = .ok (.iload 4, 2)) ∧ (decode cL_law 1314 = .ok (.iconst 1, 1)) ∧ (decode cL_law 1315 = .ok (.iadd, 1)) ∧ (decode cL_law 1316 = .ok (.iaload, 1)) ∧ (decode cL_law 1317 = .ok (.invokevirtual 253, 3)) ∧ (decode cL_law 1320 = .ok (.istore 6, 2)) ∧ (decode cL_law 1322 = .ok (.goto 674, 3)) ∧ (decode cL_law 1325 = .ok (.aload_n 1, 1)) ∧ (decode cL_law 1326 = .ok (.aload_n 0, 1)) ∧ (decode cL_law 1327 = .ok (.iload 4, 2)) ∧ (decode cL_law 1329 = .ok (.iconst 1, 1)) := by decide +kernel
theorem dL_law_1304 : decode cL_law 1304 = .ok (.aload_n 3, 1) := bL_law_1304.1
theorem dL_law_1305 : decode cL_law 1305 = .ok (.invokestatic 251, 3) := bL_law_1304.2.1
theorem dL_law_1308 : decode cL_law 1308 = .ok (.istore 5, 2) := bL_law_1304.2.2.1
theorem dL_law_1310 : decode cL_law 1310 = .ok (.aload_n 2, 1) := bL_law_1304.2.2.2.1
theorem dL_law_1311 : decode cL_law 1311 = .ok (.aload_n 0, 1) := bL_law_1304.2.2.2.2.1
theorem dL_law_1312 : decode cL_law 1312 = .ok (.iload 4, 2) := bL_law_1304.2.2.2.2.2.1
theorem dL_law_1314 : decode cL_law 1314 = .ok (.iconst 1, 1) := bL_law_1304.2.2.2.2.2.2.1
theorem dL_law_1315 : decode cL_law 1315 = .ok (.iadd, 1) := bL_law_1304.2.2.2.2.2.2.2.1
theorem dL_law_1316 : decode cL_law 1316 = .ok (.iaload, 1) := bL_law_1304.2.2.2.2.2.2.2.2.1
theorem dL_law_1317 : decode cL_law 1317 = .ok (.invokevirtual 253, 3) := bL_law_1304.2.2.2.2.2.2.2.2.2.1
theorem dL_law_1320 : decode cL_law 1320 = .ok (.istore 6, 2) := bL_law_1304.2.2.2.2.2.2.2.2.2.2.1
theorem dL_law_1322 : decode cL_law 1322 = .ok (.goto 674, 3) := bL_law_1304.2.2.2.2.2.2.2.2.2.2.2.1
theorem dL_law_1325 : decode cL_law 1325 = .ok (.aload_n 1, 1) := bL_law_1304.2.2.2.2.2.2.2.2.2.2.2.2.1
theorem dL_law_1326 : decode cL_law 1326 = .ok (.aload_n 0, 1) := bL_law_1304.2.2.2.2.2.2.2.2.2.2.2.2.2.1
theorem dL_law_1327 : decode cL_law 1327 = .ok (.iload 4, 2) := bL_law_1304.2.2.2.2.2.2.2.2.2.2.2.2.2.2.1
theorem dL_law_1329 : decode cL_law 1329 = .ok (.iconst 1, 1) := bL_law_1304.2.2.2.2.2.2.2.2.2.2.2.2.2.2.2
set_option maxRecDepth 100000 in
theorem bL_law_1330 : (decode cL_law 1330 = .ok (.iadd, 1)) ∧ (decode cL_law 1331 = .ok (.iaload, 1)) ∧ (decode cL_law 1332 = .ok (.aload_n 3, 1)) ∧ (decode cL_law 1333 = .ok (.invokestatic 254, 3)) ∧ (decode cL_law 1336 = .ok (.istore 5, 2)) ∧ (decode cL_law 1338 = .ok (.aload_n 2, 1)) ∧ (decode cL_law 1339 = .ok (.aload_n 0, 1)) ∧ (decode cL_law 1340 = .ok (.iload 4, 2)) ∧ (decode cL_law 1342 = .ok (.iconst 1, 1)) ∧ (decode cL_law 1343 = .ok (.iadd, 1)) ∧ (decode cL_law 1344 = .ok (.iaload, 1)) ∧ (decode cL_law 1345 = .ok (.invokevirtual 256, 3)) ∧ (decode cL_law 1348 = .ok (.istore 6, 2)) ∧ (decode cL_law 1350 = .ok (.goto 646, 3)) ∧ (decode cL_law 1353 = .ok (.aload_n 1, 1)) ∧ (decode cL_law 1354 = .ok (.aload_n 0, 1)) := by decide +kernel
theorem dL_law_1330 : decode cL_law 1330 = .ok (.iadd, 1) := bL_law_1330.1
theorem dL_law_1331 : decode cL_law 1331 = .ok (.iaload, 1) := bL_law_1330.2.1
theorem dL_law_1332 : decode cL_law 1332 = .ok (.aload_n 3, 1) := bL_law_1330.2.2.1
theorem dL_law_1333 : decode cL_law 1333 = .ok (.invokestatic 254, 3) := bL_law_1330.2.2.2.1
theorem dL_law_1336 : decode cL_law 1336 = .ok (.istore 5, 2) := bL_law_1330.2.2.2.2.1
theorem dL_law_1338 : decode cL_law 1338 = .ok (.aload_n 2, 1) := bL_law_1330.2.2.2.2.2.1
theorem dL_law_1339 : decode cL_law 1339 = .ok (.aload_n 0, 1) := bL_law_1330.2.2.2.2.2.2.1
theorem dL_law_1340 : decode cL_law 1340 = .ok (.iload 4, 2) := bL_law_1330.2.2.2.2.2.2.2.1
theorem dL_law_1342 : decode cL_law 1342 = .ok (.iconst 1, 1) := bL_law_1330.2.2.2.2.2.2.2.2.1
theorem dL_law_1343 : decode cL_law 1343 = .ok (.iadd, 1) := bL_law_1330.2.2.2.2.2.2.2.2.2.1
theorem dL_law_1344 : decode cL_law 1344 = .ok (.iaload, 1) := bL_law_1330.2.2.2.2.2.2.2.2.2.2.1
theorem dL_law_1345 : decode cL_law 1345 = .ok (.invokevirtual 256, 3) := bL_law_1330.2.2.2.2.2.2.2.2.2.2.2.1
theorem dL_law_1348 : decode cL_law 1348 = .ok (.istore 6, 2) := bL_law_1330.2.2.2.2.2.2.2.2.2.2.2.2.1
theorem dL_law_1350 : decode cL_law 1350 = .ok (.goto 646, 3) := bL_law_1330.2.2.2.2.2.2.2.2.2.2.2.2.2.1
theorem dL_law_1353 : decode cL_law 1353 = .ok (.aload_n 1, 1) := bL_law_1330.2.2.2.2.2.2.2.2.2.2.2.2.2.2.1
theorem dL_law_1354 : decode cL_law 1354 = .ok (.aload_n 0, 1) := bL_law_1330.2.2.2.2.2.2.2.2.2.2.2.2.2.2.2
set_option maxRecDepth 100000 in
theorem bL_law_1355 : (decode cL_law 1355 = .ok (.iload 4, 2)) ∧ (decode cL_law 1357 = .ok (.iconst 1, 1)) ∧ (decode cL_law 1358 = .ok (.iadd, 1)) ∧ (decode cL_law 1359 = .ok (.iaload, 1)) ∧ (decode cL_law 1360 = .ok (.aload_n 0, 1)) ∧ (decode cL_law 1361 = .ok (.iload 4, 2)) ∧ (decode cL_law 1363 = .ok (.iconst 2, 1)) ∧ (decode cL_law 1364 = .ok (.iadd, 1)) ∧ (decode cL_law 1365 = .ok (.iaload, 1)) ∧ (decode cL_law 1366 = .ok (.aload_n 3, 1)) ∧ (decode cL_law 1367 = .ok (.invokestatic 257, 3)) ∧ (decode cL_law 1370 = .ok (.istore 5, 2)) ∧ (decode cL_law 1372 = .ok (.aload_n 2, 1)) ∧ (decode cL_law 1373 = .ok (.aload_n 0, 1)) ∧ (decode cL_law 1374 = .ok (.iload 4, 2)) ∧ (decode cL_law 1376 = .ok (.iconst 1, 1)) := by decide +kernel
theorem dL_law_1355 : decode cL_law 1355 = .ok (.iload 4, 2) := bL_law_1355.1
theorem dL_law_1357 : decode cL_law 1357 = .ok (.iconst 1, 1) := bL_law_1355.2.1
theorem dL_law_1358 : decode cL_law 1358 = .ok (.iadd, 1) := bL_law_1355.2.2.1
theorem dL_law_1359 : decode cL_law 1359 = .ok (.iaload, 1) := bL_law_1355.2.2.2.1
theorem dL_law_1360 : decode cL_law 1360 = .ok (.aload_n 0, 1) := bL_law_1355.2.2.2.2.1
theorem dL_law_1361 : decode cL_law 1361 = .ok (.iload 4, 2) := bL_law_1355.2.2.2.2.2.1
theorem dL_law_1363 : decode cL_law 1363 = .ok (.iconst 2, 1) := bL_law_1355.2.2.2.2.2.2.1
theorem dL_law_1364 : decode cL_law 1364 = .ok (.iadd, 1) := bL_law_1355.2.2.2.2.2.2.2.1
theorem dL_law_1365 : decode cL_law 1365 = .ok (.iaload, 1) := bL_law_1355.2.2.2.2.2.2.2.2.1
theorem dL_law_1366 : decode cL_law 1366 = .ok (.aload_n 3, 1) := bL_law_1355.2.2.2.2.2.2.2.2.2.1
theorem dL_law_1367 : decode cL_law 1367 = .ok (.invokestatic 257, 3) := bL_law_1355.2.2.2.2.2.2.2.2.2.2.1
theorem dL_law_1370 : decode cL_law 1370 = .ok (.istore 5, 2) := bL_law_1355.2.2.2.2.2.2.2.2.2.2.2.1
theorem dL_law_1372 : decode cL_law 1372 = .ok (.aload_n 2, 1) := bL_law_1355.2.2.2.2.2.2.2.2.2.2.2.2.1
theorem dL_law_1373 : decode cL_law 1373 = .ok (.aload_n 0, 1) := bL_law_1355.2.2.2.2.2.2.2.2.2.2.2.2.2.1
theorem dL_law_1374 : decode cL_law 1374 = .ok (.iload 4, 2) := bL_law_1355.2.2.2.2.2.2.2.2.2.2.2.2.2.2.1
theorem dL_law_1376 : decode cL_law 1376 = .ok (.iconst 1, 1) := bL_law_1355.2.2.2.2.2.2.2.2.2.2.2.2.2.2.2
set_option maxRecDepth 100000 in
theorem bL_law_1377 : (decode cL_law 1377 = .ok (.iadd, 1)) ∧ (decode cL_law 1378 = .ok (.iaload, 1)) ∧ (decode cL_law 1379 = .ok (.aload_n 0, 1)) ∧ (decode cL_law 1380 = .ok (.iload 4, 2)) ∧ (decode cL_law 1382 = .ok (.iconst 2, 1)) ∧ (decode cL_law 1383 = .ok (.iadd, 1)) ∧ (decode cL_law 1384 = .ok (.iaload, 1)) ∧ (decode cL_law 1385 = .ok (.invokevirtual 259, 3)) ∧ (decode cL_law 1388 = .ok (.istore 6, 2)) ∧ (decode cL_law 1390 = .ok (.goto 606, 3)) ∧ (decode cL_law 1393 = .ok (.aload_n 1, 1)) ∧ (decode cL_law 1394 = .ok (.aload_n 0, 1)) ∧ (decode cL_law 1395 = .ok (.iload 4, 2)) ∧ (decode cL_law 1397 = .ok (.iconst 1, 1)) ∧ (decode cL_law 1398 = .ok (.iadd, 1)) ∧ (decode cL_law 1399 = .ok (.iaload, 1)) := by decide +kernel
theorem dL_law_1377 : decode cL_law 1377 = .ok (.iadd, 1) := bL_law_1377.1
theorem dL_law_1378 : decode cL_law 1378 = .ok (.iaload, 1) := bL_law_1377.2.1
theorem dL_law_1379 : decode cL_law 1379 = .ok (.aload_n 0, 1) := bL_law_1377.2.2.1
theorem dL_law_1380 : decode cL_law 1380 = .ok (.iload 4, 2) := bL_law_1377.2.2.2.1
theorem dL_law_1382 : decode cL_law 1382 = .ok (.iconst 2, 1) := bL_law_1377.2.2.2.2.1
theorem dL_law_1383 : decode cL_law 1383 = .ok (.iadd, 1) := bL_law_1377.2.2.2.2.2.1
theorem dL_law_1384 : decode cL_law 1384 = .ok (.iaload, 1) := bL_law_1377.2.2.2.2.2.2.1
theorem dL_law_1385 : decode cL_law 1385 = .ok (.invokevirtual 259, 3) := bL_law_1377.2.2.2.2.2.2.2.1
theorem dL_law_1388 : decode cL_law 1388 = .ok (.istore 6, 2) := bL_law_1377.2.2.2.2.2.2.2.2.1
theorem dL_law_1390 : decode cL_law 1390 = .ok (.goto 606, 3) := bL_law_1377.2.2.2.2.2.2.2.2.2.1
theorem dL_law_1393 : decode cL_law 1393 = .ok (.aload_n 1, 1) := bL_law_1377.2.2.2.2.2.2.2.2.2.2.1
theorem dL_law_1394 : decode cL_law 1394 = .ok (.aload_n 0, 1) := bL_law_1377.2.2.2.2.2.2.2.2.2.2.2.1
theorem dL_law_1395 : decode cL_law 1395 = .ok (.iload 4, 2) := bL_law_1377.2.2.2.2.2.2.2.2.2.2.2.2.1
theorem dL_law_1397 : decode cL_law 1397 = .ok (.iconst 1, 1) := bL_law_1377.2.2.2.2.2.2.2.2.2.2.2.2.2.1
theorem dL_law_1398 : decode cL_law 1398 = .ok (.iadd, 1) := bL_law_1377.2.2.2.2.2.2.2.2.2.2.2.2.2.2.1
theorem dL_law_1399 : decode cL_law 1399 = .ok (.iaload, 1) := bL_law_1377.2.2.2.2.2.2.2.2.2.2.2.2.2.2.2
set_option maxRecDepth 100000 in
theorem bL_law_1400 : (decode cL_law 1400 = .ok (.aload_n 3, 1)) ∧ (decode cL_law 1401 = .ok (.invokestatic 260, 3)) ∧ (decode cL_law 1404 = .ok (.istore 5, 2)) ∧ (decode cL_law 1406 = .ok (.aload_n 2, 1)) ∧ (decode cL_law 1407 = .ok (.aload_n 0, 1)) ∧ (decode cL_law 1408 = .ok (.iload 4, 2)) ∧ (decode cL_law 1410 = .ok (.iconst 1, 1)) ∧ (decode cL_law 1411 = .ok (.iadd, 1)) ∧ (decode cL_law 1412 = .ok (.iaload, 1)) ∧ (decode cL_law 1413 = .ok (.invokevirtual 262, 3)) ∧ (decode cL_law 1416 = .ok (.istore 6, 2)) ∧ (decode cL_law 1418 = .ok (.goto 578, 3)) ∧ (decode cL_law 1421 = .ok (.aload_n 1, 1)) ∧ (decode cL_law 1422 = .ok (.aload_n 0, 1)) ∧ (decode cL_law 1423 = .ok (.iload 4, 2)) ∧ (decode cL_law 1425 = .ok (.iconst 1, 1)) := by decide +kernel
theorem dL_law_1400 : decode cL_law 1400 = .ok (.aload_n 3, 1) := bL_law_1400.1
theorem dL_law_1401 : decode cL_law 1401 = .ok (.invokestatic 260, 3) := bL_law_1400.2.1
theorem dL_law_1404 : decode cL_law 1404 = .ok (.istore 5, 2) := bL_law_1400.2.2.1
theorem dL_law_1406 : decode cL_law 1406 = .ok (.aload_n 2, 1) := bL_law_1400.2.2.2.1
theorem dL_law_1407 : decode cL_law 1407 = .ok (.aload_n 0, 1) := bL_law_1400.2.2.2.2.1
theorem dL_law_1408 : decode cL_law 1408 = .ok (.iload 4, 2) := bL_law_1400.2.2.2.2.2.1
theorem dL_law_1410 : decode cL_law 1410 = .ok (.iconst 1, 1) := bL_law_1400.2.2.2.2.2.2.1
theorem dL_law_1411 : decode cL_law 1411 = .ok (.iadd, 1) := bL_law_1400.2.2.2.2.2.2.2.1
theorem dL_law_1412 : decode cL_law 1412 = .ok (.iaload, 1) := bL_law_1400.2.2.2.2.2.2.2.2.1
theorem dL_law_1413 : decode cL_law 1413 = .ok (.invokevirtual 262, 3) := bL_law_1400.2.2.2.2.2.2.2.2.2.1
theorem dL_law_1416 : decode cL_law 1416 = .ok (.istore 6, 2) := bL_law_1400.2.2.2.2.2.2.2.2.2.2.1
theorem dL_law_1418 : decode cL_law 1418 = .ok (.goto 578, 3) := bL_law_1400.2.2.2.2.2.2.2.2.2.2.2.1
theorem dL_law_1421 : decode cL_law 1421 = .ok (.aload_n 1, 1) := bL_law_1400.2.2.2.2.2.2.2.2.2.2.2.2.1
theorem dL_law_1422 : decode cL_law 1422 = .ok (.aload_n 0, 1) := bL_law_1400.2.2.2.2.2.2.2.2.2.2.2.2.2.1
theorem dL_law_1423 : decode cL_law 1423 = .ok (.iload 4, 2) := bL_law_1400.2.2.2.2.2.2.2.2.2.2.2.2.2.2.1
theorem dL_law_1425 : decode cL_law 1425 = .ok (.iconst 1, 1) := bL_law_1400.2.2.2.2.2.2.2.2.2.2.2.2.2.2.2
set_option maxRecDepth 100000 in
theorem bL_law_1426 : (decode cL_law 1426 = .ok (.iadd, 1)) ∧ (decode cL_law 1427 = .ok (.iaload, 1)) ∧ (decode cL_law 1428 = .ok (.aload_n 3, 1)) ∧ (decode cL_law 1429 = .ok (.invokestatic 263, 3)) ∧ (decode cL_law 1432 = .ok (.istore 5, 2)) ∧ (decode cL_law 1434 = .ok (.aload_n 2, 1)) ∧ (decode cL_law 1435 = .ok (.aload_n 0, 1)) ∧ (decode cL_law 1436 = .ok (.iload 4, 2)) ∧ (decode cL_law 1438 = .ok (.iconst 1, 1)) ∧ (decode cL_law 1439 = .ok (.iadd, 1)) ∧ (decode cL_law 1440 = .ok (.iaload, 1)) ∧ (decode cL_law 1441 = .ok (.invokevirtual 265, 3)) ∧ (decode cL_law 1444 = .ok (.istore 6, 2)) ∧ (decode cL_law 1446 = .ok (.goto 550, 3)) ∧ (decode cL_law 1449 = .ok (.aload_n 1, 1)) ∧ (decode cL_law 1450 = .ok (.aload_n 0, 1)) := by decide +kernel
theorem dL_law_1426 : decode cL_law 1426 = .ok (.iadd, 1) := bL_law_1426.1
theorem dL_law_1427 : decode cL_law 1427 = .ok (.iaload, 1) := bL_law_1426.2.1
theorem dL_law_1428 : decode cL_law 1428 = .ok (.aload_n 3, 1) := bL_law_1426.2.2.1
theorem dL_law_1429 : decode cL_law 1429 = .ok (.invokestatic 263, 3) := bL_law_1426.2.2.2.1
theorem dL_law_1432 : decode cL_law 1432 = .ok (.istore 5, 2) := bL_law_1426.2.2.2.2.1
theorem dL_law_1434 : decode cL_law 1434 = .ok (.aload_n 2, 1) := bL_law_1426.2.2.2.2.2.1
theorem dL_law_1435 : decode cL_law 1435 = .ok (.aload_n 0, 1) := bL_law_1426.2.2.2.2.2.2.1
theorem dL_law_1436 : decode cL_law 1436 = .ok (.iload 4, 2) := bL_law_1426.2.2.2.2.2.2.2.1
theorem dL_law_1438 : decode cL_law 1438 = .ok (.iconst 1, 1) := bL_law_1426.2.2.2.2.2.2.2.2.1
theorem dL_law_1439 : decode cL_law 1439 = .ok (.iadd, 1) := bL_law_1426.2.2.2.2.2.2.2.2.2.1
theorem dL_law_1440 : decode cL_law 1440 = .ok (.iaload, 1) := bL_law_1426.2.2.2.2.2.2.2.2.2.2.1
theorem dL_law_1441 : decode cL_law 1441 = .ok (.invokevirtual 265, 3) := bL_law_1426.2.2.2.2.2.2.2.2.2.2.2.1
theorem dL_law_1444 : decode cL_law 1444 = .ok (.istore 6, 2) := bL_law_1426.2.2.2.2.2.2.2.2.2.2.2.2.1
theorem dL_law_1446 : decode cL_law 1446 = .ok (.goto 550, 3) := bL_law_1426.2.2.2.2.2.2.2.2.2.2.2.2.2.1
theorem dL_law_1449 : decode cL_law 1449 = .ok (.aload_n 1, 1) := bL_law_1426.2.2.2.2.2.2.2.2.2.2.2.2.2.2.1
theorem dL_law_1450 : decode cL_law 1450 = .ok (.aload_n 0, 1) := bL_law_1426.2.2.2.2.2.2.2.2.2.2.2.2.2.2.2
set_option maxRecDepth 100000 in
theorem bL_law_1451 : (decode cL_law 1451 = .ok (.iload 4, 2)) ∧ (decode cL_law 1453 = .ok (.iconst 1, 1)) ∧ (decode cL_law 1454 = .ok (.iadd, 1)) ∧ (decode cL_law 1455 = .ok (.iaload, 1)) ∧ (decode cL_law 1456 = .ok (.aload_n 3, 1)) ∧ (decode cL_law 1457 = .ok (.invokestatic 266, 3)) ∧ (decode cL_law 1460 = .ok (.istore 5, 2)) ∧ (decode cL_law 1462 = .ok (.aload_n 2, 1)) ∧ (decode cL_law 1463 = .ok (.aload_n 0, 1)) ∧ (decode cL_law 1464 = .ok (.iload 4, 2)) ∧ (decode cL_law 1466 = .ok (.iconst 1, 1)) ∧ (decode cL_law 1467 = .ok (.iadd, 1)) ∧ (decode cL_law 1468 = .ok (.iaload, 1)) ∧ (decode cL_law 1469 = .ok (.invokevirtual 268, 3)) ∧ (decode cL_law 1472 = .ok (.istore 6, 2)) ∧ (decode cL_law 1474 = .ok (.goto 522, 3)) := by decide +kernel
theorem dL_law_1451 : decode cL_law 1451 = .ok (.iload 4, 2) := bL_law_1451.1
theorem dL_law_1453 : decode cL_law 1453 = .ok (.iconst 1, 1) := bL_law_1451.2.1
theorem dL_law_1454 : decode cL_law 1454 = .ok (.iadd, 1) := bL_law_1451.2.2.1
theorem dL_law_1455 : decode cL_law 1455 = .ok (.iaload, 1) := bL_law_1451.2.2.2.1
theorem dL_law_1456 : decode cL_law 1456 = .ok (.aload_n 3, 1) := bL_law_1451.2.2.2.2.1
theorem dL_law_1457 : decode cL_law 1457 = .ok (.invokestatic 266, 3) := bL_law_1451.2.2.2.2.2.1
theorem dL_law_1460 : decode cL_law 1460 = .ok (.istore 5, 2) := bL_law_1451.2.2.2.2.2.2.1
theorem dL_law_1462 : decode cL_law 1462 = .ok (.aload_n 2, 1) := bL_law_1451.2.2.2.2.2.2.2.1
theorem dL_law_1463 : decode cL_law 1463 = .ok (.aload_n 0, 1) := bL_law_1451.2.2.2.2.2.2.2.2.1
theorem dL_law_1464 : decode cL_law 1464 = .ok (.iload 4, 2) := bL_law_1451.2.2.2.2.2.2.2.2.2.1
theorem dL_law_1466 : decode cL_law 1466 = .ok (.iconst 1, 1) := bL_law_1451.2.2.2.2.2.2.2.2.2.2.1
theorem dL_law_1467 : decode cL_law 1467 = .ok (.iadd, 1) := bL_law_1451.2.2.2.2.2.2.2.2.2.2.2.1
theorem dL_law_1468 : decode cL_law 1468 = .ok (.iaload, 1) := bL_law_1451.2.2.2.2.2.2.2.2.2.2.2.2.1
theorem dL_law_1469 : decode cL_law 1469 = .ok (.invokevirtual 268, 3) := bL_law_1451.2.2.2.2.2.2.2.2.2.2.2.2.2.1
theorem dL_law_1472 : decode cL_law 1472 = .ok (.istore 6, 2) := bL_law_1451.2.2.2.2.2.2.2.2.2.2.2.2.2.2.1
theorem dL_law_1474 : decode cL_law 1474 = .ok (.goto 522, 3) := bL_law_1451.2.2.2.2.2.2.2.2.2.2.2.2.2.2.2
set_option maxRecDepth 100000 in
theorem bL_law_1477 : (decode cL_law 1477 = .ok (.aload_n 1, 1)) ∧ (decode cL_law 1478 = .ok (.aload_n 0, 1)) ∧ (decode cL_law 1479 = .ok (.iload 4, 2)) ∧ (decode cL_law 1481 = .ok (.iconst 1, 1)) ∧ (decode cL_law 1482 = .ok (.iadd, 1)) ∧ (decode cL_law 1483 = .ok (.iaload, 1)) ∧ (decode cL_law 1484 = .ok (.aload_n 3, 1)) ∧ (decode cL_law 1485 = .ok (.invokestatic 269, 3)) ∧ (decode cL_law 1488 = .ok (.istore 5, 2)) ∧ (decode cL_law 1490 = .ok (.aload_n 2, 1)) ∧ (decode cL_law 1491 = .ok (.aload_n 0, 1)) ∧ (decode cL_law 1492 = .ok (.iload 4, 2)) ∧ (decode cL_law 1494 = .ok (.iconst 1, 1)) ∧ (decode cL_law 1495 = .ok (.iadd, 1)) ∧ (decode cL_law 1496 = .ok (.iaload, 1)) ∧ (decode cL_law 1497 = .ok (.invokevirtual 271, 3)) := by decide +kernel
theorem dL_law_1477 : decode cL_law 1477 = .ok (.aload_n 1, 1) := bL_law_1477.1
theorem dL_law_1478 : decode cL_law 1478 = .ok (.aload_n 0, 1) := bL_law_1477.2.1
theorem dL_law_1479 : decode cL_law 1479 = .ok (.iload 4, 2) := bL_law_1477.2.2.1
theorem dL_law_1481 : decode cL_law 1481 = .ok (.iconst 1, 1) := bL_law_1477.2.2.2.1
theorem dL_law_1482 : decode cL_law 1482 = .ok (.iadd, 1) := bL_law_1477.2.2.2.2.1
theorem dL_law_1483 : decode cL_law 1483 = .ok (.iaload, 1) := bL_law_1477.2.2.2.2.2.1
theorem dL_law_1484 : decode cL_law 1484 = .ok (.aload_n 3, 1) := bL_law_1477.2.2.2.2.2.2.1
theorem dL_law_1485 : decode cL_law 1485 = .ok (.invokestatic 269, 3) := bL_law_1477.2.2.2.2.2.2.2.1
theorem dL_law_1488 : decode cL_law 1488 = .ok (.istore 5, 2) := bL_law_1477.2.2.2.2.2.2.2.2.1
theorem dL_law_1490 : decode cL_law 1490 = .ok (.aload_n 2, 1) := bL_law_1477.2.2.2.2.2.2.2.2.2.1
theorem dL_law_1491 : decode cL_law 1491 = .ok (.aload_n 0, 1) := bL_law_1477.2.2.2.2.2.2.2.2.2.2.1
theorem dL_law_1492 : decode cL_law 1492 = .ok (.iload 4, 2) := bL_law_1477.2.2.2.2.2.2.2.2.2.2.2.1
theorem dL_law_1494 : decode cL_law 1494 = .ok (.iconst 1, 1) := bL_law_1477.2.2.2.2.2.2.2.2.2.2.2.2.1
theorem dL_law_1495 : decode cL_law 1495 = .ok (.iadd, 1) := bL_law_1477.2.2.2.2.2.2.2.2.2.2.2.2.2.1
theorem dL_law_1496 : decode cL_law 1496 = .ok (.iaload, 1) := bL_law_1477.2.2.2.2.2.2.2.2.2.2.2.2.2.2.1
theorem dL_law_1497 : decode cL_law 1497 = .ok (.invokevirtual 271, 3) := bL_law_1477.2.2.2.2.2.2.2.2.2.2.2.2.2.2.2
set_option maxRecDepth 100000 in
theorem bL_law_1500 : (decode cL_law 1500 = .ok (.istore 6, 2)) ∧ (decode cL_law 1502 = .ok (.goto 494, 3)) ∧ (decode cL_law 1505 = .ok (.aload_n 1, 1)) ∧ (decode cL_law 1506 = .ok (.aload_n 0, 1)) ∧ (decode cL_law 1507 = .ok (.iload 4, 2)) ∧ (decode cL_law 1509 = .ok (.iconst 1, 1)) ∧ (decode cL_law 1510 = .ok (.iadd, 1)) ∧ (decode cL_law 1511 = .ok (.iaload, 1)) ∧ (decode cL_law 1512 = .ok (.aload_n 0, 1)) ∧ (decode cL_law 1513 = .ok (.iload 4, 2)) ∧ (decode cL_law 1515 = .ok (.iconst 2, 1)) ∧ (decode cL_law 1516 = .ok (.iadd, 1)) ∧ (decode cL_law 1517 = .ok (.iaload, 1)) ∧ (decode cL_law 1518 = .ok (.aload_n 3, 1)) ∧ (decode cL_law 1519 = .ok (.invokestatic 272, 3)) ∧ (decode cL_law 1522 = .ok (.istore 5, 2)) := by decide +kernel
theorem dL_law_1500 : decode cL_law 1500 = .ok (.istore 6, 2) := bL_law_1500.1
theorem dL_law_1502 : decode cL_law 1502 = .ok (.goto 494, 3) := bL_law_1500.2.1
theorem dL_law_1505 : decode cL_law 1505 = .ok (.aload_n 1, 1) := bL_law_1500.2.2.1
theorem dL_law_1506 : decode cL_law 1506 = .ok (.aload_n 0, 1) := bL_law_1500.2.2.2.1
theorem dL_law_1507 : decode cL_law 1507 = .ok (.iload 4, 2) := bL_law_1500.2.2.2.2.1
theorem dL_law_1509 : decode cL_law 1509 = .ok (.iconst 1, 1) := bL_law_1500.2.2.2.2.2.1
theorem dL_law_1510 : decode cL_law 1510 = .ok (.iadd, 1) := bL_law_1500.2.2.2.2.2.2.1
theorem dL_law_1511 : decode cL_law 1511 = .ok (.iaload, 1) := bL_law_1500.2.2.2.2.2.2.2.1
theorem dL_law_1512 : decode cL_law 1512 = .ok (.aload_n 0, 1) := bL_law_1500.2.2.2.2.2.2.2.2.1
theorem dL_law_1513 : decode cL_law 1513 = .ok (.iload 4, 2) := bL_law_1500.2.2.2.2.2.2.2.2.2.1
theorem dL_law_1515 : decode cL_law 1515 = .ok (.iconst 2, 1) := bL_law_1500.2.2.2.2.2.2.2.2.2.2.1
theorem dL_law_1516 : decode cL_law 1516 = .ok (.iadd, 1) := bL_law_1500.2.2.2.2.2.2.2.2.2.2.2.1
theorem dL_law_1517 : decode cL_law 1517 = .ok (.iaload, 1) := bL_law_1500.2.2.2.2.2.2.2.2.2.2.2.2.1
theorem dL_law_1518 : decode cL_law 1518 = .ok (.aload_n 3, 1) := bL_law_1500.2.2.2.2.2.2.2.2.2.2.2.2.2.1
theorem dL_law_1519 : decode cL_law 1519 = .ok (.invokestatic 272, 3) := bL_law_1500.2.2.2.2.2.2.2.2.2.2.2.2.2.2.1
theorem dL_law_1522 : decode cL_law 1522 = .ok (.istore 5, 2) := bL_law_1500.2.2.2.2.2.2.2.2.2.2.2.2.2.2.2
set_option maxRecDepth 100000 in
theorem bL_law_1524 : (decode cL_law 1524 = .ok (.aload_n 2, 1)) ∧ (decode cL_law 1525 = .ok (.aload_n 0, 1)) ∧ (decode cL_law 1526 = .ok (.iload 4, 2)) ∧ (decode cL_law 1528 = .ok (.iconst 1, 1)) ∧ (decode cL_law 1529 = .ok (.iadd, 1)) ∧ (decode cL_law 1530 = .ok (.iaload, 1)) ∧ (decode cL_law 1531 = .ok (.aload_n 0, 1)) ∧ (decode cL_law 1532 = .ok (.iload 4, 2)) ∧ (decode cL_law 1534 = .ok (.iconst 2, 1)) ∧ (decode cL_law 1535 = .ok (.iadd, 1)) ∧ (decode cL_law 1536 = .ok (.iaload, 1)) ∧ (decode cL_law 1537 = .ok (.invokevirtual 274, 3)) ∧ (decode cL_law 1540 = .ok (.istore 6, 2)) ∧ (decode cL_law 1542 = .ok (.goto 454, 3)) ∧ (decode cL_law 1545 = .ok (.aload_n 1, 1)) ∧ (decode cL_law 1546 = .ok (.aload_n 0, 1)) := by decide +kernel
theorem dL_law_1524 : decode cL_law 1524 = .ok (.aload_n 2, 1) := bL_law_1524.1
theorem dL_law_1525 : decode cL_law 1525 = .ok (.aload_n 0, 1) := bL_law_1524.2.1
theorem dL_law_1526 : decode cL_law 1526 = .ok (.iload 4, 2) := bL_law_1524.2.2.1
theorem dL_law_1528 : decode cL_law 1528 = .ok (.iconst 1, 1) := bL_law_1524.2.2.2.1
theorem dL_law_1529 : decode cL_law 1529 = .ok (.iadd, 1) := bL_law_1524.2.2.2.2.1
theorem dL_law_1530 : decode cL_law 1530 = .ok (.iaload, 1) := bL_law_1524.2.2.2.2.2.1
theorem dL_law_1531 : decode cL_law 1531 = .ok (.aload_n 0, 1) := bL_law_1524.2.2.2.2.2.2.1
theorem dL_law_1532 : decode cL_law 1532 = .ok (.iload 4, 2) := bL_law_1524.2.2.2.2.2.2.2.1
theorem dL_law_1534 : decode cL_law 1534 = .ok (.iconst 2, 1) := bL_law_1524.2.2.2.2.2.2.2.2.1
theorem dL_law_1535 : decode cL_law 1535 = .ok (.iadd, 1) := bL_law_1524.2.2.2.2.2.2.2.2.2.1
theorem dL_law_1536 : decode cL_law 1536 = .ok (.iaload, 1) := bL_law_1524.2.2.2.2.2.2.2.2.2.2.1
theorem dL_law_1537 : decode cL_law 1537 = .ok (.invokevirtual 274, 3) := bL_law_1524.2.2.2.2.2.2.2.2.2.2.2.1
theorem dL_law_1540 : decode cL_law 1540 = .ok (.istore 6, 2) := bL_law_1524.2.2.2.2.2.2.2.2.2.2.2.2.1
theorem dL_law_1542 : decode cL_law 1542 = .ok (.goto 454, 3) := bL_law_1524.2.2.2.2.2.2.2.2.2.2.2.2.2.1
theorem dL_law_1545 : decode cL_law 1545 = .ok (.aload_n 1, 1) := bL_law_1524.2.2.2.2.2.2.2.2.2.2.2.2.2.2.1
theorem dL_law_1546 : decode cL_law 1546 = .ok (.aload_n 0, 1) := bL_law_1524.2.2.2.2.2.2.2.2.2.2.2.2.2.2.2
set_option maxRecDepth 100000 in
theorem bL_law_1547 : (decode cL_law 1547 = .ok (.iload 4, 2)) ∧ (decode cL_law 1549 = .ok (.iconst 1, 1)) ∧ (decode cL_law 1550 = .ok (.iadd, 1)) ∧ (decode cL_law 1551 = .ok (.iaload, 1)) ∧ (decode cL_law 1552 = .ok (.aload_n 0, 1)) ∧ (decode cL_law 1553 = .ok (.iload 4, 2)) ∧ (decode cL_law 1555 = .ok (.iconst 2, 1)) ∧ (decode cL_law 1556 = .ok (.iadd, 1)) ∧ (decode cL_law 1557 = .ok (.iaload, 1)) ∧ (decode cL_law 1558 = .ok (.aload_n 3, 1)) ∧ (decode cL_law 1559 = .ok (.invokestatic 275, 3)) ∧ (decode cL_law 1562 = .ok (.istore 5, 2)) ∧ (decode cL_law 1564 = .ok (.aload_n 2, 1)) ∧ (decode cL_law 1565 = .ok (.aload_n 0, 1)) ∧ (decode cL_law 1566 = .ok (.iload 4, 2)) ∧ (decode cL_law 1568 = .ok (.iconst 1, 1)) := by decide +kernel
theorem dL_law_1547 : decode cL_law 1547 = .ok (.iload 4, 2) := bL_law_1547.1
theorem dL_law_1549 : decode cL_law 1549 = .ok (.iconst 1, 1) := bL_law_1547.2.1
theorem dL_law_1550 : decode cL_law 1550 = .ok (.iadd, 1) := bL_law_1547.2.2.1
theorem dL_law_1551 : decode cL_law 1551 = .ok (.iaload, 1) := bL_law_1547.2.2.2.1
theorem dL_law_1552 : decode cL_law 1552 = .ok (.aload_n 0, 1) := bL_law_1547.2.2.2.2.1
theorem dL_law_1553 : decode cL_law 1553 = .ok (.iload 4, 2) := bL_law_1547.2.2.2.2.2.1
theorem dL_law_1555 : decode cL_law 1555 = .ok (.iconst 2, 1) := bL_law_1547.2.2.2.2.2.2.1
theorem dL_law_1556 : decode cL_law 1556 = .ok (.iadd, 1) := bL_law_1547.2.2.2.2.2.2.2.1
theorem dL_law_1557 : decode cL_law 1557 = .ok (.iaload, 1) := bL_law_1547.2.2.2.2.2.2.2.2.1
theorem dL_law_1558 : decode cL_law 1558 = .ok (.aload_n 3, 1) := bL_law_1547.2.2.2.2.2.2.2.2.2.1
theorem dL_law_1559 : decode cL_law 1559 = .ok (.invokestatic 275, 3) := bL_law_1547.2.2.2.2.2.2.2.2.2.2.1
theorem dL_law_1562 : decode cL_law 1562 = .ok (.istore 5, 2) := bL_law_1547.2.2.2.2.2.2.2.2.2.2.2.1
theorem dL_law_1564 : decode cL_law 1564 = .ok (.aload_n 2, 1) := bL_law_1547.2.2.2.2.2.2.2.2.2.2.2.2.1
theorem dL_law_1565 : decode cL_law 1565 = .ok (.aload_n 0, 1) := bL_law_1547.2.2.2.2.2.2.2.2.2.2.2.2.2.1
theorem dL_law_1566 : decode cL_law 1566 = .ok (.iload 4, 2) := bL_law_1547.2.2.2.2.2.2.2.2.2.2.2.2.2.2.1
theorem dL_law_1568 : decode cL_law 1568 = .ok (.iconst 1, 1) := bL_law_1547.2.2.2.2.2.2.2.2.2.2.2.2.2.2.2
set_option maxRecDepth 100000 in
theorem bL_law_1569 : (decode cL_law 1569 = .ok (.iadd, 1)) ∧ (decode cL_law 1570 = .ok (.iaload, 1)) ∧ (decode cL_law 1571 = .ok (.aload_n 0, 1)) ∧ (decode cL_law 1572 = .ok (.iload 4, 2)) ∧ (decode cL_law 1574 = .ok (.iconst 2, 1)) ∧ (decode cL_law 1575 = .ok (.iadd, 1)) ∧ (decode cL_law 1576 = .ok (.iaload, 1)) ∧ (decode cL_law 1577 = .ok (.invokevirtual 277, 3)) ∧ (decode cL_law 1580 = .ok (.istore 6, 2)) ∧ (decode cL_law 1582 = .ok (.goto 414, 3)) ∧ (decode cL_law 1585 = .ok (.aload_n 1, 1)) ∧ (decode cL_law 1586 = .ok (.aload_n 0, 1)) ∧ (decode cL_law 1587 = .ok (.iload 4, 2)) ∧ (decode cL_law 1589 = .ok (.iconst 1, 1)) ∧ (decode cL_law 1590 = .ok (.iadd, 1)) ∧ (decode cL_law 1591 = .ok (.iaload, 1)) := by decide +kernel
theorem dL_law_1569 : decode cL_law 1569 = .ok (.iadd, 1) := bL_law_1569.1
theorem dL_law_1570 : decode cL_law 1570 = .ok (.iaload, 1) := bL_law_1569.2.1
theorem dL_law_1571 : decode cL_law 1571 = .ok (.aload_n 0, 1) := bL_law_1569.2.2.1
theorem dL_law_1572 : decode cL_law 1572 = .ok (.iload 4, 2) := bL_law_1569.2.2.2.1
theorem dL_law_1574 : decode cL_law 1574 = .ok (.iconst 2, 1) := bL_law_1569.2.2.2.2.1
theorem dL_law_1575 : decode cL_law 1575 = .ok (.iadd, 1) := bL_law_1569.2.2.2.2.2.1
theorem dL_law_1576 : decode cL_law 1576 = .ok (.iaload, 1) := bL_law_1569.2.2.2.2.2.2.1
theorem dL_law_1577 : decode cL_law 1577 = .ok (.invokevirtual 277, 3) := bL_law_1569.2.2.2.2.2.2.2.1
theorem dL_law_1580 : decode cL_law 1580 = .ok (.istore 6, 2) := bL_law_1569.2.2.2.2.2.2.2.2.1
theorem dL_law_1582 : decode cL_law 1582 = .ok (.goto 414, 3) := bL_law_1569.2.2.2.2.2.2.2.2.2.1
theorem dL_law_1585 : decode cL_law 1585 = .ok (.aload_n 1, 1) := bL_law_1569.2.2.2.2.2.2.2.2.2.2.1
theorem dL_law_1586 : decode cL_law 1586 = .ok (.aload_n 0, 1) := bL_law_1569.2.2.2.2.2.2.2.2.2.2.2.1
theorem dL_law_1587 : decode cL_law 1587 = .ok (.iload 4, 2) := bL_law_1569.2.2.2.2.2.2.2.2.2.2.2.2.1
theorem dL_law_1589 : decode cL_law 1589 = .ok (.iconst 1, 1) := bL_law_1569.2.2.2.2.2.2.2.2.2.2.2.2.2.1
theorem dL_law_1590 : decode cL_law 1590 = .ok (.iadd, 1) := bL_law_1569.2.2.2.2.2.2.2.2.2.2.2.2.2.2.1
theorem dL_law_1591 : decode cL_law 1591 = .ok (.iaload, 1) := bL_law_1569.2.2.2.2.2.2.2.2.2.2.2.2.2.2.2
set_option maxRecDepth 100000 in
theorem bL_law_1592 : (decode cL_law 1592 = .ok (.aload_n 0, 1)) ∧ (decode cL_law 1593 = .ok (.iload 4, 2)) ∧ (decode cL_law 1595 = .ok (.iconst 2, 1)) ∧ (decode cL_law 1596 = .ok (.iadd, 1)) ∧ (decode cL_law 1597 = .ok (.iaload, 1)) ∧ (decode cL_law 1598 = .ok (.aload_n 0, 1)) ∧ (decode cL_law 1599 = .ok (.iload 4, 2)) ∧ (decode cL_law 1601 = .ok (.iconst 3, 1)) ∧ (decode cL_law 1602 = .ok (.iadd, 1)) ∧ (decode cL_law 1603 = .ok (.iaload, 1)) ∧ (decode cL_law 1604 = .ok (.ifCond .eq 7, 3)) ∧ (decode cL_law 1607 = .ok (.iconst 1, 1)) ∧ (decode cL_law 1608 = .ok (.goto 4, 3)) ∧ (decode cL_law 1611 = .ok (.iconst 0, 1)) ∧ (decode cL_law 1612 = .ok (.aload_n 3, 1)) ∧ (decode cL_law 1613 = .ok (.invokestatic 278, 3)) := by decide +kernel
theorem dL_law_1592 : decode cL_law 1592 = .ok (.aload_n 0, 1) := bL_law_1592.1
theorem dL_law_1593 : decode cL_law 1593 = .ok (.iload 4, 2) := bL_law_1592.2.1
theorem dL_law_1595 : decode cL_law 1595 = .ok (.iconst 2, 1) := bL_law_1592.2.2.1
theorem dL_law_1596 : decode cL_law 1596 = .ok (.iadd, 1) := bL_law_1592.2.2.2.1
theorem dL_law_1597 : decode cL_law 1597 = .ok (.iaload, 1) := bL_law_1592.2.2.2.2.1
theorem dL_law_1598 : decode cL_law 1598 = .ok (.aload_n 0, 1) := bL_law_1592.2.2.2.2.2.1
theorem dL_law_1599 : decode cL_law 1599 = .ok (.iload 4, 2) := bL_law_1592.2.2.2.2.2.2.1
theorem dL_law_1601 : decode cL_law 1601 = .ok (.iconst 3, 1) := bL_law_1592.2.2.2.2.2.2.2.1
theorem dL_law_1602 : decode cL_law 1602 = .ok (.iadd, 1) := bL_law_1592.2.2.2.2.2.2.2.2.1
theorem dL_law_1603 : decode cL_law 1603 = .ok (.iaload, 1) := bL_law_1592.2.2.2.2.2.2.2.2.2.1
theorem dL_law_1604 : decode cL_law 1604 = .ok (.ifCond .eq 7, 3) := bL_law_1592.2.2.2.2.2.2.2.2.2.2.1
theorem dL_law_1607 : decode cL_law 1607 = .ok (.iconst 1, 1) := bL_law_1592.2.2.2.2.2.2.2.2.2.2.2.1
theorem dL_law_1608 : decode cL_law 1608 = .ok (.goto 4, 3) := bL_law_1592.2.2.2.2.2.2.2.2.2.2.2.2.1
theorem dL_law_1611 : decode cL_law 1611 = .ok (.iconst 0, 1) := bL_law_1592.2.2.2.2.2.2.2.2.2.2.2.2.2.1
theorem dL_law_1612 : decode cL_law 1612 = .ok (.aload_n 3, 1) := bL_law_1592.2.2.2.2.2.2.2.2.2.2.2.2.2.2.1
theorem dL_law_1613 : decode cL_law 1613 = .ok (.invokestatic 278, 3) := bL_law_1592.2.2.2.2.2.2.2.2.2.2.2.2.2.2.2
set_option maxRecDepth 100000 in
theorem bL_law_1616 : (decode cL_law 1616 = .ok (.istore 5, 2)) ∧ (decode cL_law 1618 = .ok (.aload_n 2, 1)) ∧ (decode cL_law 1619 = .ok (.aload_n 0, 1)) ∧ (decode cL_law 1620 = .ok (.iload 4, 2)) ∧ (decode cL_law 1622 = .ok (.iconst 1, 1)) ∧ (decode cL_law 1623 = .ok (.iadd, 1)) ∧ (decode cL_law 1624 = .ok (.iaload, 1)) ∧ (decode cL_law 1625 = .ok (.aload_n 0, 1)) ∧ (decode cL_law 1626 = .ok (.iload 4, 2)) ∧ (decode cL_law 1628 = .ok (.iconst 2, 1)) ∧ (decode cL_law 1629 = .ok (.iadd, 1)) ∧ (decode cL_law 1630 = .ok (.iaload, 1)) ∧ (decode cL_law 1631 = .ok (.aload_n 0, 1)) ∧ (decode cL_law 1632 = .ok (.iload 4, 2)) ∧ (decode cL_law 1634 = .ok (.iconst 3, 1)) ∧ (decode cL_law 1635 = .ok (.iadd, 1)) := by decide +kernel
theorem dL_law_1616 : decode cL_law 1616 = .ok (.istore 5, 2) := bL_law_1616.1
theorem dL_law_1618 : decode cL_law 1618 = .ok (.aload_n 2, 1) := bL_law_1616.2.1
theorem dL_law_1619 : decode cL_law 1619 = .ok (.aload_n 0, 1) := bL_law_1616.2.2.1
theorem dL_law_1620 : decode cL_law 1620 = .ok (.iload 4, 2) := bL_law_1616.2.2.2.1
theorem dL_law_1622 : decode cL_law 1622 = .ok (.iconst 1, 1) := bL_law_1616.2.2.2.2.1
theorem dL_law_1623 : decode cL_law 1623 = .ok (.iadd, 1) := bL_law_1616.2.2.2.2.2.1
theorem dL_law_1624 : decode cL_law 1624 = .ok (.iaload, 1) := bL_law_1616.2.2.2.2.2.2.1
theorem dL_law_1625 : decode cL_law 1625 = .ok (.aload_n 0, 1) := bL_law_1616.2.2.2.2.2.2.2.1
theorem dL_law_1626 : decode cL_law 1626 = .ok (.iload 4, 2) := bL_law_1616.2.2.2.2.2.2.2.2.1
theorem dL_law_1628 : decode cL_law 1628 = .ok (.iconst 2, 1) := bL_law_1616.2.2.2.2.2.2.2.2.2.1
theorem dL_law_1629 : decode cL_law 1629 = .ok (.iadd, 1) := bL_law_1616.2.2.2.2.2.2.2.2.2.2.1
theorem dL_law_1630 : decode cL_law 1630 = .ok (.iaload, 1) := bL_law_1616.2.2.2.2.2.2.2.2.2.2.2.1
theorem dL_law_1631 : decode cL_law 1631 = .ok (.aload_n 0, 1) := bL_law_1616.2.2.2.2.2.2.2.2.2.2.2.2.1
theorem dL_law_1632 : decode cL_law 1632 = .ok (.iload 4, 2) := bL_law_1616.2.2.2.2.2.2.2.2.2.2.2.2.2.1
theorem dL_law_1634 : decode cL_law 1634 = .ok (.iconst 3, 1) := bL_law_1616.2.2.2.2.2.2.2.2.2.2.2.2.2.2.1
theorem dL_law_1635 : decode cL_law 1635 = .ok (.iadd, 1) := bL_law_1616.2.2.2.2.2.2.2.2.2.2.2.2.2.2.2
set_option maxRecDepth 100000 in
theorem bL_law_1636 : (decode cL_law 1636 = .ok (.iaload, 1)) ∧ (decode cL_law 1637 = .ok (.ifCond .eq 7, 3)) ∧ (decode cL_law 1640 = .ok (.iconst 1, 1)) ∧ (decode cL_law 1641 = .ok (.goto 4, 3)) ∧ (decode cL_law 1644 = .ok (.iconst 0, 1)) ∧ (decode cL_law 1645 = .ok (.invokevirtual 281, 3)) ∧ (decode cL_law 1648 = .ok (.istore 6, 2)) ∧ (decode cL_law 1650 = .ok (.goto 346, 3)) ∧ (decode cL_law 1653 = .ok (.aload_n 1, 1)) ∧ (decode cL_law 1654 = .ok (.aload_n 0, 1)) ∧ (decode cL_law 1655 = .ok (.iload 4, 2)) ∧ (decode cL_law 1657 = .ok (.iconst 1, 1)) ∧ (decode cL_law 1658 = .ok (.iadd, 1)) ∧ (decode cL_law 1659 = .ok (.iaload, 1)) ∧ (decode cL_law 1660 = .ok (.aload_n 0, 1)) ∧ (decode cL_law 1661 = .ok (.iload 4, 2)) := by decide +kernel
theorem dL_law_1636 : decode cL_law 1636 = .ok (.iaload, 1) := bL_law_1636.1
theorem dL_law_1637 : decode cL_law 1637 = .ok (.ifCond .eq 7, 3) := bL_law_1636.2.1
theorem dL_law_1640 : decode cL_law 1640 = .ok (.iconst 1, 1) := bL_law_1636.2.2.1
theorem dL_law_1641 : decode cL_law 1641 = .ok (.goto 4, 3) := bL_law_1636.2.2.2.1
theorem dL_law_1644 : decode cL_law 1644 = .ok (.iconst 0, 1) := bL_law_1636.2.2.2.2.1
theorem dL_law_1645 : decode cL_law 1645 = .ok (.invokevirtual 281, 3) := bL_law_1636.2.2.2.2.2.1
theorem dL_law_1648 : decode cL_law 1648 = .ok (.istore 6, 2) := bL_law_1636.2.2.2.2.2.2.1
theorem dL_law_1650 : decode cL_law 1650 = .ok (.goto 346, 3) := bL_law_1636.2.2.2.2.2.2.2.1
theorem dL_law_1653 : decode cL_law 1653 = .ok (.aload_n 1, 1) := bL_law_1636.2.2.2.2.2.2.2.2.1
theorem dL_law_1654 : decode cL_law 1654 = .ok (.aload_n 0, 1) := bL_law_1636.2.2.2.2.2.2.2.2.2.1
theorem dL_law_1655 : decode cL_law 1655 = .ok (.iload 4, 2) := bL_law_1636.2.2.2.2.2.2.2.2.2.2.1
theorem dL_law_1657 : decode cL_law 1657 = .ok (.iconst 1, 1) := bL_law_1636.2.2.2.2.2.2.2.2.2.2.2.1
theorem dL_law_1658 : decode cL_law 1658 = .ok (.iadd, 1) := bL_law_1636.2.2.2.2.2.2.2.2.2.2.2.2.1
theorem dL_law_1659 : decode cL_law 1659 = .ok (.iaload, 1) := bL_law_1636.2.2.2.2.2.2.2.2.2.2.2.2.2.1
theorem dL_law_1660 : decode cL_law 1660 = .ok (.aload_n 0, 1) := bL_law_1636.2.2.2.2.2.2.2.2.2.2.2.2.2.2.1
theorem dL_law_1661 : decode cL_law 1661 = .ok (.iload 4, 2) := bL_law_1636.2.2.2.2.2.2.2.2.2.2.2.2.2.2.2
set_option maxRecDepth 100000 in
theorem bL_law_1663 : (decode cL_law 1663 = .ok (.iconst 2, 1)) ∧ (decode cL_law 1664 = .ok (.iadd, 1)) ∧ (decode cL_law 1665 = .ok (.iaload, 1)) ∧ (decode cL_law 1666 = .ok (.ifCond .eq 7, 3)) ∧ (decode cL_law 1669 = .ok (.iconst 1, 1)) ∧ (decode cL_law 1670 = .ok (.goto 4, 3)) ∧ (decode cL_law 1673 = .ok (.iconst 0, 1)) ∧ (decode cL_law 1674 = .ok (.aload_n 3, 1)) ∧ (decode cL_law 1675 = .ok (.invokestatic 282, 3)) ∧ (decode cL_law 1678 = .ok (.istore 5, 2)) ∧ (decode cL_law 1680 = .ok (.aload_n 2, 1)) ∧ (decode cL_law 1681 = .ok (.aload_n 0, 1)) ∧ (decode cL_law 1682 = .ok (.iload 4, 2)) ∧ (decode cL_law 1684 = .ok (.iconst 1, 1)) ∧ (decode cL_law 1685 = .ok (.iadd, 1)) ∧ (decode cL_law 1686 = .ok (.iaload, 1)) := by decide +kernel
theorem dL_law_1663 : decode cL_law 1663 = .ok (.iconst 2, 1) := bL_law_1663.1
theorem dL_law_1664 : decode cL_law 1664 = .ok (.iadd, 1) := bL_law_1663.2.1
theorem dL_law_1665 : decode cL_law 1665 = .ok (.iaload, 1) := bL_law_1663.2.2.1
theorem dL_law_1666 : decode cL_law 1666 = .ok (.ifCond .eq 7, 3) := bL_law_1663.2.2.2.1
theorem dL_law_1669 : decode cL_law 1669 = .ok (.iconst 1, 1) := bL_law_1663.2.2.2.2.1
theorem dL_law_1670 : decode cL_law 1670 = .ok (.goto 4, 3) := bL_law_1663.2.2.2.2.2.1
theorem dL_law_1673 : decode cL_law 1673 = .ok (.iconst 0, 1) := bL_law_1663.2.2.2.2.2.2.1
theorem dL_law_1674 : decode cL_law 1674 = .ok (.aload_n 3, 1) := bL_law_1663.2.2.2.2.2.2.2.1
theorem dL_law_1675 : decode cL_law 1675 = .ok (.invokestatic 282, 3) := bL_law_1663.2.2.2.2.2.2.2.2.1
theorem dL_law_1678 : decode cL_law 1678 = .ok (.istore 5, 2) := bL_law_1663.2.2.2.2.2.2.2.2.2.1
theorem dL_law_1680 : decode cL_law 1680 = .ok (.aload_n 2, 1) := bL_law_1663.2.2.2.2.2.2.2.2.2.2.1
theorem dL_law_1681 : decode cL_law 1681 = .ok (.aload_n 0, 1) := bL_law_1663.2.2.2.2.2.2.2.2.2.2.2.1
theorem dL_law_1682 : decode cL_law 1682 = .ok (.iload 4, 2) := bL_law_1663.2.2.2.2.2.2.2.2.2.2.2.2.1
theorem dL_law_1684 : decode cL_law 1684 = .ok (.iconst 1, 1) := bL_law_1663.2.2.2.2.2.2.2.2.2.2.2.2.2.1
theorem dL_law_1685 : decode cL_law 1685 = .ok (.iadd, 1) := bL_law_1663.2.2.2.2.2.2.2.2.2.2.2.2.2.2.1
theorem dL_law_1686 : decode cL_law 1686 = .ok (.iaload, 1) := bL_law_1663.2.2.2.2.2.2.2.2.2.2.2.2.2.2.2
set_option maxRecDepth 100000 in
theorem bL_law_1687 : (decode cL_law 1687 = .ok (.aload_n 0, 1)) ∧ (decode cL_law 1688 = .ok (.iload 4, 2)) ∧ (decode cL_law 1690 = .ok (.iconst 2, 1)) ∧ (decode cL_law 1691 = .ok (.iadd, 1)) ∧ (decode cL_law 1692 = .ok (.iaload, 1)) ∧ (decode cL_law 1693 = .ok (.ifCond .eq 7, 3)) ∧ (decode cL_law 1696 = .ok (.iconst 1, 1)) ∧ (decode cL_law 1697 = .ok (.goto 4, 3)) ∧ (decode cL_law 1700 = .ok (.iconst 0, 1)) ∧ (decode cL_law 1701 = .ok (.invokevirtual 285, 3)) ∧ (decode cL_law 1704 = .ok (.istore 6, 2)) ∧ (decode cL_law 1706 = .ok (.goto 290, 3)) ∧ (decode cL_law 1709 = .ok (.aload_n 1, 1)) ∧ (decode cL_law 1710 = .ok (.aload_n 0, 1)) ∧ (decode cL_law 1711 = .ok (.iload 4, 2)) ∧ (decode cL_law 1713 = .ok (.iconst 1, 1)) := by decide +kernel
theorem dL_law_1687 : decode cL_law 1687 = .ok (.aload_n 0, 1) := bL_law_1687.1
theorem dL_law_1688 : decode cL_law 1688 = .ok (.iload 4, 2) := bL_law_1687.2.1
theorem dL_law_1690 : decode cL_law 1690 = .ok (.iconst 2, 1) := bL_law_1687.2.2.1
theorem dL_law_1691 : decode cL_law 1691 = .ok (.iadd, 1) := bL_law_1687.2.2.2.1
theorem dL_law_1692 : decode cL_law 1692 = .ok (.iaload, 1) := bL_law_1687.2.2.2.2.1
theorem dL_law_1693 : decode cL_law 1693 = .ok (.ifCond .eq 7, 3) := bL_law_1687.2.2.2.2.2.1
theorem dL_law_1696 : decode cL_law 1696 = .ok (.iconst 1, 1) := bL_law_1687.2.2.2.2.2.2.1
theorem dL_law_1697 : decode cL_law 1697 = .ok (.goto 4, 3) := bL_law_1687.2.2.2.2.2.2.2.1
theorem dL_law_1700 : decode cL_law 1700 = .ok (.iconst 0, 1) := bL_law_1687.2.2.2.2.2.2.2.2.1
theorem dL_law_1701 : decode cL_law 1701 = .ok (.invokevirtual 285, 3) := bL_law_1687.2.2.2.2.2.2.2.2.2.1
theorem dL_law_1704 : decode cL_law 1704 = .ok (.istore 6, 2) := bL_law_1687.2.2.2.2.2.2.2.2.2.2.1
theorem dL_law_1706 : decode cL_law 1706 = .ok (.goto 290, 3) := bL_law_1687.2.2.2.2.2.2.2.2.2.2.2.1
theorem dL_law_1709 : decode cL_law 1709 = .ok (.aload_n 1, 1) := bL_law_1687.2.2.2.2.2.2.2.2.2.2.2.2.1
theorem dL_law_1710 : decode cL_law 1710 = .ok (.aload_n 0, 1) := bL_law_1687.2.2.2.2.2.2.2.2.2.2.2.2.2.1
theorem dL_law_1711 : decode cL_law 1711 = .ok (.iload 4, 2) := bL_law_1687.2.2.2.2.2.2.2.2.2.2.2.2.2.2.1
theorem dL_law_1713 : decode cL_law 1713 = .ok (.iconst 1, 1) := bL_law_1687.2.2.2.2.2.2.2.2.2.2.2.2.2.2.2
set_option maxRecDepth 100000 in
theorem bL_law_1714 : (decode cL_law 1714 = .ok (.iadd, 1)) ∧ (decode cL_law 1715 = .ok (.iaload, 1)) ∧ (decode cL_law 1716 = .ok (.aload_n 3, 1)) ∧ (decode cL_law 1717 = .ok (.invokestatic 286, 3)) ∧ (decode cL_law 1720 = .ok (.istore 5, 2)) ∧ (decode cL_law 1722 = .ok (.aload_n 2, 1)) ∧ (decode cL_law 1723 = .ok (.aload_n 0, 1)) ∧ (decode cL_law 1724 = .ok (.iload 4, 2)) ∧ (decode cL_law 1726 = .ok (.iconst 1, 1)) ∧ (decode cL_law 1727 = .ok (.iadd, 1)) ∧ (decode cL_law 1728 = .ok (.iaload, 1)) ∧ (decode cL_law 1729 = .ok (.invokevirtual 288, 3)) ∧ (decode cL_law 1732 = .ok (.istore 6, 2)) ∧ (decode cL_law 1734 = .ok (.goto 262, 3)) ∧ (decode cL_law 1737 = .ok (.aload_n 1, 1)) ∧ (decode cL_law 1738 = .ok (.aload_n 0, 1)) := by decide +kernel
theorem dL_law_1714 : decode cL_law 1714 = .ok (.iadd, 1) := bL_law_1714.1
theorem dL_law_1715 : decode cL_law 1715 = .ok (.iaload, 1) := bL_law_1714.2.1
theorem dL_law_1716 : decode cL_law 1716 = .ok (.aload_n 3, 1) := bL_law_1714.2.2.1
theorem dL_law_1717 : decode cL_law 1717 = .ok (.invokestatic 286, 3) := bL_law_1714.2.2.2.1
theorem dL_law_1720 : decode cL_law 1720 = .ok (.istore 5, 2) := bL_law_1714.2.2.2.2.1
theorem dL_law_1722 : decode cL_law 1722 = .ok (.aload_n 2, 1) := bL_law_1714.2.2.2.2.2.1
theorem dL_law_1723 : decode cL_law 1723 = .ok (.aload_n 0, 1) := bL_law_1714.2.2.2.2.2.2.1
theorem dL_law_1724 : decode cL_law 1724 = .ok (.iload 4, 2) := bL_law_1714.2.2.2.2.2.2.2.1
theorem dL_law_1726 : decode cL_law 1726 = .ok (.iconst 1, 1) := bL_law_1714.2.2.2.2.2.2.2.2.1
theorem dL_law_1727 : decode cL_law 1727 = .ok (.iadd, 1) := bL_law_1714.2.2.2.2.2.2.2.2.2.1
theorem dL_law_1728 : decode cL_law 1728 = .ok (.iaload, 1) := bL_law_1714.2.2.2.2.2.2.2.2.2.2.1
theorem dL_law_1729 : decode cL_law 1729 = .ok (.invokevirtual 288, 3) := bL_law_1714.2.2.2.2.2.2.2.2.2.2.2.1
theorem dL_law_1732 : decode cL_law 1732 = .ok (.istore 6, 2) := bL_law_1714.2.2.2.2.2.2.2.2.2.2.2.2.1
theorem dL_law_1734 : decode cL_law 1734 = .ok (.goto 262, 3) := bL_law_1714.2.2.2.2.2.2.2.2.2.2.2.2.2.1
theorem dL_law_1737 : decode cL_law 1737 = .ok (.aload_n 1, 1) := bL_law_1714.2.2.2.2.2.2.2.2.2.2.2.2.2.2.1
theorem dL_law_1738 : decode cL_law 1738 = .ok (.aload_n 0, 1) := bL_law_1714.2.2.2.2.2.2.2.2.2.2.2.2.2.2.2
set_option maxRecDepth 100000 in
theorem bL_law_1739 : (decode cL_law 1739 = .ok (.iload 4, 2)) ∧ (decode cL_law 1741 = .ok (.iconst 1, 1)) ∧ (decode cL_law 1742 = .ok (.iadd, 1)) ∧ (decode cL_law 1743 = .ok (.iaload, 1)) ∧ (decode cL_law 1744 = .ok (.aload_n 3, 1)) ∧ (decode cL_law 1745 = .ok (.invokestatic 289, 3)) ∧ (decode cL_law 1748 = .ok (.istore 5, 2)) ∧ (decode cL_law 1750 = .ok (.aload_n 2, 1)) ∧ (decode cL_law 1751 = .ok (.aload_n 0, 1)) ∧ (decode cL_law 1752 = .ok (.iload 4, 2)) ∧ (decode cL_law 1754 = .ok (.iconst 1, 1)) ∧ (decode cL_law 1755 = .ok (.iadd, 1)) ∧ (decode cL_law 1756 = .ok (.iaload, 1)) ∧ (decode cL_law 1757 = .ok (.invokevirtual 291, 3)) ∧ (decode cL_law 1760 = .ok (.istore 6, 2)) ∧ (decode cL_law 1762 = .ok (.goto 234, 3)) := by decide +kernel
theorem dL_law_1739 : decode cL_law 1739 = .ok (.iload 4, 2) := bL_law_1739.1
theorem dL_law_1741 : decode cL_law 1741 = .ok (.iconst 1, 1) := bL_law_1739.2.1
theorem dL_law_1742 : decode cL_law 1742 = .ok (.iadd, 1) := bL_law_1739.2.2.1
theorem dL_law_1743 : decode cL_law 1743 = .ok (.iaload, 1) := bL_law_1739.2.2.2.1
theorem dL_law_1744 : decode cL_law 1744 = .ok (.aload_n 3, 1) := bL_law_1739.2.2.2.2.1
theorem dL_law_1745 : decode cL_law 1745 = .ok (.invokestatic 289, 3) := bL_law_1739.2.2.2.2.2.1
theorem dL_law_1748 : decode cL_law 1748 = .ok (.istore 5, 2) := bL_law_1739.2.2.2.2.2.2.1
theorem dL_law_1750 : decode cL_law 1750 = .ok (.aload_n 2, 1) := bL_law_1739.2.2.2.2.2.2.2.1
theorem dL_law_1751 : decode cL_law 1751 = .ok (.aload_n 0, 1) := bL_law_1739.2.2.2.2.2.2.2.2.1
theorem dL_law_1752 : decode cL_law 1752 = .ok (.iload 4, 2) := bL_law_1739.2.2.2.2.2.2.2.2.2.1
theorem dL_law_1754 : decode cL_law 1754 = .ok (.iconst 1, 1) := bL_law_1739.2.2.2.2.2.2.2.2.2.2.1
theorem dL_law_1755 : decode cL_law 1755 = .ok (.iadd, 1) := bL_law_1739.2.2.2.2.2.2.2.2.2.2.2.1
theorem dL_law_1756 : decode cL_law 1756 = .ok (.iaload, 1) := bL_law_1739.2.2.2.2.2.2.2.2.2.2.2.2.1
theorem dL_law_1757 : decode cL_law 1757 = .ok (.invokevirtual 291, 3) := bL_law_1739.2.2.2.2.2.2.2.2.2.2.2.2.2.1
theorem dL_law_1760 : decode cL_law 1760 = .ok (.istore 6, 2) := bL_law_1739.2.2.2.2.2.2.2.2.2.2.2.2.2.2.1
theorem dL_law_1762 : decode cL_law 1762 = .ok (.goto 234, 3) := bL_law_1739.2.2.2.2.2.2.2.2.2.2.2.2.2.2.2
set_option maxRecDepth 100000 in
theorem bL_law_1765 : (decode cL_law 1765 = .ok (.aload_n 1, 1)) ∧ (decode cL_law 1766 = .ok (.aload_n 0, 1)) ∧ (decode cL_law 1767 = .ok (.iload 4, 2)) ∧ (decode cL_law 1769 = .ok (.iconst 1, 1)) ∧ (decode cL_law 1770 = .ok (.iadd, 1)) ∧ (decode cL_law 1771 = .ok (.iaload, 1)) ∧ (decode cL_law 1772 = .ok (.aload_n 3, 1)) ∧ (decode cL_law 1773 = .ok (.invokestatic 292, 3)) ∧ (decode cL_law 1776 = .ok (.istore 5, 2)) ∧ (decode cL_law 1778 = .ok (.aload_n 2, 1)) ∧ (decode cL_law 1779 = .ok (.aload_n 0, 1)) ∧ (decode cL_law 1780 = .ok (.iload 4, 2)) ∧ (decode cL_law 1782 = .ok (.iconst 1, 1)) ∧ (decode cL_law 1783 = .ok (.iadd, 1)) ∧ (decode cL_law 1784 = .ok (.iaload, 1)) ∧ (decode cL_law 1785 = .ok (.invokevirtual 294, 3)) := by decide +kernel
theorem dL_law_1765 : decode cL_law 1765 = .ok (.aload_n 1, 1) := bL_law_1765.1
theorem dL_law_1766 : decode cL_law 1766 = .ok (.aload_n 0, 1) := bL_law_1765.2.1
theorem dL_law_1767 : decode cL_law 1767 = .ok (.iload 4, 2) := bL_law_1765.2.2.1
theorem dL_law_1769 : decode cL_law 1769 = .ok (.iconst 1, 1) := bL_law_1765.2.2.2.1
theorem dL_law_1770 : decode cL_law 1770 = .ok (.iadd, 1) := bL_law_1765.2.2.2.2.1
theorem dL_law_1771 : decode cL_law 1771 = .ok (.iaload, 1) := bL_law_1765.2.2.2.2.2.1
theorem dL_law_1772 : decode cL_law 1772 = .ok (.aload_n 3, 1) := bL_law_1765.2.2.2.2.2.2.1
theorem dL_law_1773 : decode cL_law 1773 = .ok (.invokestatic 292, 3) := bL_law_1765.2.2.2.2.2.2.2.1
theorem dL_law_1776 : decode cL_law 1776 = .ok (.istore 5, 2) := bL_law_1765.2.2.2.2.2.2.2.2.1
theorem dL_law_1778 : decode cL_law 1778 = .ok (.aload_n 2, 1) := bL_law_1765.2.2.2.2.2.2.2.2.2.1
theorem dL_law_1779 : decode cL_law 1779 = .ok (.aload_n 0, 1) := bL_law_1765.2.2.2.2.2.2.2.2.2.2.1
theorem dL_law_1780 : decode cL_law 1780 = .ok (.iload 4, 2) := bL_law_1765.2.2.2.2.2.2.2.2.2.2.2.1
theorem dL_law_1782 : decode cL_law 1782 = .ok (.iconst 1, 1) := bL_law_1765.2.2.2.2.2.2.2.2.2.2.2.2.1
theorem dL_law_1783 : decode cL_law 1783 = .ok (.iadd, 1) := bL_law_1765.2.2.2.2.2.2.2.2.2.2.2.2.2.1
theorem dL_law_1784 : decode cL_law 1784 = .ok (.iaload, 1) := bL_law_1765.2.2.2.2.2.2.2.2.2.2.2.2.2.2.1
theorem dL_law_1785 : decode cL_law 1785 = .ok (.invokevirtual 294, 3) := bL_law_1765.2.2.2.2.2.2.2.2.2.2.2.2.2.2.2
set_option maxRecDepth 100000 in
theorem bL_law_1788 : (decode cL_law 1788 = .ok (.istore 6, 2)) ∧ (decode cL_law 1790 = .ok (.goto 206, 3)) ∧ (decode cL_law 1793 = .ok (.aload_n 1, 1)) ∧ (decode cL_law 1794 = .ok (.aload_n 0, 1)) ∧ (decode cL_law 1795 = .ok (.iload 4, 2)) ∧ (decode cL_law 1797 = .ok (.iconst 1, 1)) ∧ (decode cL_law 1798 = .ok (.iadd, 1)) ∧ (decode cL_law 1799 = .ok (.iaload, 1)) ∧ (decode cL_law 1800 = .ok (.aload_n 0, 1)) ∧ (decode cL_law 1801 = .ok (.iload 4, 2)) ∧ (decode cL_law 1803 = .ok (.iconst 2, 1)) ∧ (decode cL_law 1804 = .ok (.iadd, 1)) ∧ (decode cL_law 1805 = .ok (.iaload, 1)) ∧ (decode cL_law 1806 = .ok (.aload_n 3, 1)) ∧ (decode cL_law 1807 = .ok (.invokestatic 295, 3)) ∧ (decode cL_law 1810 = .ok (.istore 5, 2)) := by decide +kernel
theorem dL_law_1788 : decode cL_law 1788 = .ok (.istore 6, 2) := bL_law_1788.1
theorem dL_law_1790 : decode cL_law 1790 = .ok (.goto 206, 3) := bL_law_1788.2.1
theorem dL_law_1793 : decode cL_law 1793 = .ok (.aload_n 1, 1) := bL_law_1788.2.2.1
theorem dL_law_1794 : decode cL_law 1794 = .ok (.aload_n 0, 1) := bL_law_1788.2.2.2.1
theorem dL_law_1795 : decode cL_law 1795 = .ok (.iload 4, 2) := bL_law_1788.2.2.2.2.1
theorem dL_law_1797 : decode cL_law 1797 = .ok (.iconst 1, 1) := bL_law_1788.2.2.2.2.2.1
theorem dL_law_1798 : decode cL_law 1798 = .ok (.iadd, 1) := bL_law_1788.2.2.2.2.2.2.1
theorem dL_law_1799 : decode cL_law 1799 = .ok (.iaload, 1) := bL_law_1788.2.2.2.2.2.2.2.1
theorem dL_law_1800 : decode cL_law 1800 = .ok (.aload_n 0, 1) := bL_law_1788.2.2.2.2.2.2.2.2.1
theorem dL_law_1801 : decode cL_law 1801 = .ok (.iload 4, 2) := bL_law_1788.2.2.2.2.2.2.2.2.2.1
theorem dL_law_1803 : decode cL_law 1803 = .ok (.iconst 2, 1) := bL_law_1788.2.2.2.2.2.2.2.2.2.2.1
theorem dL_law_1804 : decode cL_law 1804 = .ok (.iadd, 1) := bL_law_1788.2.2.2.2.2.2.2.2.2.2.2.1
theorem dL_law_1805 : decode cL_law 1805 = .ok (.iaload, 1) := bL_law_1788.2.2.2.2.2.2.2.2.2.2.2.2.1
theorem dL_law_1806 : decode cL_law 1806 = .ok (.aload_n 3, 1) := bL_law_1788.2.2.2.2.2.2.2.2.2.2.2.2.2.1
theorem dL_law_1807 : decode cL_law 1807 = .ok (.invokestatic 295, 3) := bL_law_1788.2.2.2.2.2.2.2.2.2.2.2.2.2.2.1
theorem dL_law_1810 : decode cL_law 1810 = .ok (.istore 5, 2) := bL_law_1788.2.2.2.2.2.2.2.2.2.2.2.2.2.2.2
set_option maxRecDepth 100000 in
theorem bL_law_1812 : (decode cL_law 1812 = .ok (.aload_n 2, 1)) ∧ (decode cL_law 1813 = .ok (.aload_n 0, 1)) ∧ (decode cL_law 1814 = .ok (.iload 4, 2)) ∧ (decode cL_law 1816 = .ok (.iconst 1, 1)) ∧ (decode cL_law 1817 = .ok (.iadd, 1)) ∧ (decode cL_law 1818 = .ok (.iaload, 1)) ∧ (decode cL_law 1819 = .ok (.aload_n 0, 1)) ∧ (decode cL_law 1820 = .ok (.iload 4, 2)) ∧ (decode cL_law 1822 = .ok (.iconst 2, 1)) ∧ (decode cL_law 1823 = .ok (.iadd, 1)) ∧ (decode cL_law 1824 = .ok (.iaload, 1)) ∧ (decode cL_law 1825 = .ok (.invokevirtual 297, 3)) ∧ (decode cL_law 1828 = .ok (.istore 6, 2)) ∧ (decode cL_law 1830 = .ok (.goto 166, 3)) ∧ (decode cL_law 1833 = .ok (.aload_n 1, 1)) ∧ (decode cL_law 1834 = .ok (.aload_n 0, 1)) := by decide +kernel
theorem dL_law_1812 : decode cL_law 1812 = .ok (.aload_n 2, 1) := bL_law_1812.1
theorem dL_law_1813 : decode cL_law 1813 = .ok (.aload_n 0, 1) := bL_law_1812.2.1
theorem dL_law_1814 : decode cL_law 1814 = .ok (.iload 4, 2) := bL_law_1812.2.2.1
theorem dL_law_1816 : decode cL_law 1816 = .ok (.iconst 1, 1) := bL_law_1812.2.2.2.1
theorem dL_law_1817 : decode cL_law 1817 = .ok (.iadd, 1) := bL_law_1812.2.2.2.2.1
theorem dL_law_1818 : decode cL_law 1818 = .ok (.iaload, 1) := bL_law_1812.2.2.2.2.2.1
theorem dL_law_1819 : decode cL_law 1819 = .ok (.aload_n 0, 1) := bL_law_1812.2.2.2.2.2.2.1
theorem dL_law_1820 : decode cL_law 1820 = .ok (.iload 4, 2) := bL_law_1812.2.2.2.2.2.2.2.1
theorem dL_law_1822 : decode cL_law 1822 = .ok (.iconst 2, 1) := bL_law_1812.2.2.2.2.2.2.2.2.1
theorem dL_law_1823 : decode cL_law 1823 = .ok (.iadd, 1) := bL_law_1812.2.2.2.2.2.2.2.2.2.1
theorem dL_law_1824 : decode cL_law 1824 = .ok (.iaload, 1) := bL_law_1812.2.2.2.2.2.2.2.2.2.2.1
theorem dL_law_1825 : decode cL_law 1825 = .ok (.invokevirtual 297, 3) := bL_law_1812.2.2.2.2.2.2.2.2.2.2.2.1
theorem dL_law_1828 : decode cL_law 1828 = .ok (.istore 6, 2) := bL_law_1812.2.2.2.2.2.2.2.2.2.2.2.2.1
theorem dL_law_1830 : decode cL_law 1830 = .ok (.goto 166, 3) := bL_law_1812.2.2.2.2.2.2.2.2.2.2.2.2.2.1
theorem dL_law_1833 : decode cL_law 1833 = .ok (.aload_n 1, 1) := bL_law_1812.2.2.2.2.2.2.2.2.2.2.2.2.2.2.1
theorem dL_law_1834 : decode cL_law 1834 = .ok (.aload_n 0, 1) := bL_law_1812.2.2.2.2.2.2.2.2.2.2.2.2.2.2.2
set_option maxRecDepth 100000 in
theorem bL_law_1835 : (decode cL_law 1835 = .ok (.iload 4, 2)) ∧ (decode cL_law 1837 = .ok (.iconst 1, 1)) ∧ (decode cL_law 1838 = .ok (.iadd, 1)) ∧ (decode cL_law 1839 = .ok (.iaload, 1)) ∧ (decode cL_law 1840 = .ok (.aload_n 0, 1)) ∧ (decode cL_law 1841 = .ok (.iload 4, 2)) ∧ (decode cL_law 1843 = .ok (.iconst 2, 1)) ∧ (decode cL_law 1844 = .ok (.iadd, 1)) ∧ (decode cL_law 1845 = .ok (.iaload, 1)) ∧ (decode cL_law 1846 = .ok (.aload_n 3, 1)) ∧ (decode cL_law 1847 = .ok (.invokestatic 298, 3)) ∧ (decode cL_law 1850 = .ok (.istore 5, 2)) ∧ (decode cL_law 1852 = .ok (.aload_n 2, 1)) ∧ (decode cL_law 1853 = .ok (.aload_n 0, 1)) ∧ (decode cL_law 1854 = .ok (.iload 4, 2)) ∧ (decode cL_law 1856 = .ok (.iconst 1, 1)) := by decide +kernel
theorem dL_law_1835 : decode cL_law 1835 = .ok (.iload 4, 2) := bL_law_1835.1
theorem dL_law_1837 : decode cL_law 1837 = .ok (.iconst 1, 1) := bL_law_1835.2.1
theorem dL_law_1838 : decode cL_law 1838 = .ok (.iadd, 1) := bL_law_1835.2.2.1
theorem dL_law_1839 : decode cL_law 1839 = .ok (.iaload, 1) := bL_law_1835.2.2.2.1
theorem dL_law_1840 : decode cL_law 1840 = .ok (.aload_n 0, 1) := bL_law_1835.2.2.2.2.1
theorem dL_law_1841 : decode cL_law 1841 = .ok (.iload 4, 2) := bL_law_1835.2.2.2.2.2.1
theorem dL_law_1843 : decode cL_law 1843 = .ok (.iconst 2, 1) := bL_law_1835.2.2.2.2.2.2.1
theorem dL_law_1844 : decode cL_law 1844 = .ok (.iadd, 1) := bL_law_1835.2.2.2.2.2.2.2.1
theorem dL_law_1845 : decode cL_law 1845 = .ok (.iaload, 1) := bL_law_1835.2.2.2.2.2.2.2.2.1
theorem dL_law_1846 : decode cL_law 1846 = .ok (.aload_n 3, 1) := bL_law_1835.2.2.2.2.2.2.2.2.2.1
theorem dL_law_1847 : decode cL_law 1847 = .ok (.invokestatic 298, 3) := bL_law_1835.2.2.2.2.2.2.2.2.2.2.1
theorem dL_law_1850 : decode cL_law 1850 = .ok (.istore 5, 2) := bL_law_1835.2.2.2.2.2.2.2.2.2.2.2.1
theorem dL_law_1852 : decode cL_law 1852 = .ok (.aload_n 2, 1) := bL_law_1835.2.2.2.2.2.2.2.2.2.2.2.2.1
theorem dL_law_1853 : decode cL_law 1853 = .ok (.aload_n 0, 1) := bL_law_1835.2.2.2.2.2.2.2.2.2.2.2.2.2.1
theorem dL_law_1854 : decode cL_law 1854 = .ok (.iload 4, 2) := bL_law_1835.2.2.2.2.2.2.2.2.2.2.2.2.2.2.1
theorem dL_law_1856 : decode cL_law 1856 = .ok (.iconst 1, 1) := bL_law_1835.2.2.2.2.2.2.2.2.2.2.2.2.2.2.2
set_option maxRecDepth 100000 in
theorem bL_law_1857 : (decode cL_law 1857 = .ok (.iadd, 1)) ∧ (decode cL_law 1858 = .ok (.iaload, 1)) ∧ (decode cL_law 1859 = .ok (.aload_n 0, 1)) ∧ (decode cL_law 1860 = .ok (.iload 4, 2)) ∧ (decode cL_law 1862 = .ok (.iconst 2, 1)) ∧ (decode cL_law 1863 = .ok (.iadd, 1)) ∧ (decode cL_law 1864 = .ok (.iaload, 1)) ∧ (decode cL_law 1865 = .ok (.invokevirtual 300, 3)) ∧ (decode cL_law 1868 = .ok (.istore 6, 2)) ∧ (decode cL_law 1870 = .ok (.goto 126, 3)) ∧ (decode cL_law 1873 = .ok (.aload_n 1, 1)) ∧ (decode cL_law 1874 = .ok (.aload_n 0, 1)) ∧ (decode cL_law 1875 = .ok (.iload 4, 2)) ∧ (decode cL_law 1877 = .ok (.iconst 1, 1)) ∧ (decode cL_law 1878 = .ok (.iadd, 1)) ∧ (decode cL_law 1879 = .ok (.iaload, 1)) := by decide +kernel
theorem dL_law_1857 : decode cL_law 1857 = .ok (.iadd, 1) := bL_law_1857.1
theorem dL_law_1858 : decode cL_law 1858 = .ok (.iaload, 1) := bL_law_1857.2.1
theorem dL_law_1859 : decode cL_law 1859 = .ok (.aload_n 0, 1) := bL_law_1857.2.2.1
theorem dL_law_1860 : decode cL_law 1860 = .ok (.iload 4, 2) := bL_law_1857.2.2.2.1
theorem dL_law_1862 : decode cL_law 1862 = .ok (.iconst 2, 1) := bL_law_1857.2.2.2.2.1
theorem dL_law_1863 : decode cL_law 1863 = .ok (.iadd, 1) := bL_law_1857.2.2.2.2.2.1
theorem dL_law_1864 : decode cL_law 1864 = .ok (.iaload, 1) := bL_law_1857.2.2.2.2.2.2.1
theorem dL_law_1865 : decode cL_law 1865 = .ok (.invokevirtual 300, 3) := bL_law_1857.2.2.2.2.2.2.2.1
theorem dL_law_1868 : decode cL_law 1868 = .ok (.istore 6, 2) := bL_law_1857.2.2.2.2.2.2.2.2.1
theorem dL_law_1870 : decode cL_law 1870 = .ok (.goto 126, 3) := bL_law_1857.2.2.2.2.2.2.2.2.2.1
theorem dL_law_1873 : decode cL_law 1873 = .ok (.aload_n 1, 1) := bL_law_1857.2.2.2.2.2.2.2.2.2.2.1
theorem dL_law_1874 : decode cL_law 1874 = .ok (.aload_n 0, 1) := bL_law_1857.2.2.2.2.2.2.2.2.2.2.2.1
theorem dL_law_1875 : decode cL_law 1875 = .ok (.iload 4, 2) := bL_law_1857.2.2.2.2.2.2.2.2.2.2.2.2.1
theorem dL_law_1877 : decode cL_law 1877 = .ok (.iconst 1, 1) := bL_law_1857.2.2.2.2.2.2.2.2.2.2.2.2.2.1
theorem dL_law_1878 : decode cL_law 1878 = .ok (.iadd, 1) := bL_law_1857.2.2.2.2.2.2.2.2.2.2.2.2.2.2.1
theorem dL_law_1879 : decode cL_law 1879 = .ok (.iaload, 1) := bL_law_1857.2.2.2.2.2.2.2.2.2.2.2.2.2.2.2
set_option maxRecDepth 100000 in
theorem bL_law_1880 : (decode cL_law 1880 = .ok (.aload_n 0, 1)) ∧ (decode cL_law 1881 = .ok (.iload 4, 2)) ∧ (decode cL_law 1883 = .ok (.iconst 2, 1)) ∧ (decode cL_law 1884 = .ok (.iadd, 1)) ∧ (decode cL_law 1885 = .ok (.iaload, 1)) ∧ (decode cL_law 1886 = .ok (.ifCond .eq 7, 3)) ∧ (decode cL_law 1889 = .ok (.iconst 1, 1)) ∧ (decode cL_law 1890 = .ok (.goto 4, 3)) ∧ (decode cL_law 1893 = .ok (.iconst 0, 1)) ∧ (decode cL_law 1894 = .ok (.aload_n 3, 1)) ∧ (decode cL_law 1895 = .ok (.invokestatic 301, 3)) ∧ (decode cL_law 1898 = .ok (.istore 5, 2)) ∧ (decode cL_law 1900 = .ok (.aload_n 2, 1)) ∧ (decode cL_law 1901 = .ok (.aload_n 0, 1)) ∧ (decode cL_law 1902 = .ok (.iload 4, 2)) ∧ (decode cL_law 1904 = .ok (.iconst 1, 1)) := by decide +kernel
theorem dL_law_1880 : decode cL_law 1880 = .ok (.aload_n 0, 1) := bL_law_1880.1
theorem dL_law_1881 : decode cL_law 1881 = .ok (.iload 4, 2) := bL_law_1880.2.1
theorem dL_law_1883 : decode cL_law 1883 = .ok (.iconst 2, 1) := bL_law_1880.2.2.1
theorem dL_law_1884 : decode cL_law 1884 = .ok (.iadd, 1) := bL_law_1880.2.2.2.1
theorem dL_law_1885 : decode cL_law 1885 = .ok (.iaload, 1) := bL_law_1880.2.2.2.2.1
theorem dL_law_1886 : decode cL_law 1886 = .ok (.ifCond .eq 7, 3) := bL_law_1880.2.2.2.2.2.1
theorem dL_law_1889 : decode cL_law 1889 = .ok (.iconst 1, 1) := bL_law_1880.2.2.2.2.2.2.1
theorem dL_law_1890 : decode cL_law 1890 = .ok (.goto 4, 3) := bL_law_1880.2.2.2.2.2.2.2.1
theorem dL_law_1893 : decode cL_law 1893 = .ok (.iconst 0, 1) := bL_law_1880.2.2.2.2.2.2.2.2.1
theorem dL_law_1894 : decode cL_law 1894 = .ok (.aload_n 3, 1) := bL_law_1880.2.2.2.2.2.2.2.2.2.1
theorem dL_law_1895 : decode cL_law 1895 = .ok (.invokestatic 301, 3) := bL_law_1880.2.2.2.2.2.2.2.2.2.2.1
theorem dL_law_1898 : decode cL_law 1898 = .ok (.istore 5, 2) := bL_law_1880.2.2.2.2.2.2.2.2.2.2.2.1
theorem dL_law_1900 : decode cL_law 1900 = .ok (.aload_n 2, 1) := bL_law_1880.2.2.2.2.2.2.2.2.2.2.2.2.1
theorem dL_law_1901 : decode cL_law 1901 = .ok (.aload_n 0, 1) := bL_law_1880.2.2.2.2.2.2.2.2.2.2.2.2.2.1
theorem dL_law_1902 : decode cL_law 1902 = .ok (.iload 4, 2) := bL_law_1880.2.2.2.2.2.2.2.2.2.2.2.2.2.2.1
theorem dL_law_1904 : decode cL_law 1904 = .ok (.iconst 1, 1) := bL_law_1880.2.2.2.2.2.2.2.2.2.2.2.2.2.2.2
set_option maxRecDepth 100000 in
theorem bL_law_1905 : (decode cL_law 1905 = .ok (.iadd, 1)) ∧ (decode cL_law 1906 = .ok (.iaload, 1)) ∧ (decode cL_law 1907 = .ok (.aload_n 0, 1)) ∧ (decode cL_law 1908 = .ok (.iload 4, 2)) ∧ (decode cL_law 1910 = .ok (.iconst 2, 1)) ∧ (decode cL_law 1911 = .ok (.iadd, 1)) ∧ (decode cL_law 1912 = .ok (.iaload, 1)) ∧ (decode cL_law 1913 = .ok (.ifCond .eq 7, 3)) ∧ (decode cL_law 1916 = .ok (.iconst 1, 1)) ∧ (decode cL_law 1917 = .ok (.goto 4, 3)) ∧ (decode cL_law 1920 = .ok (.iconst 0, 1)) ∧ (decode cL_law 1921 = .ok (.invokevirtual 303, 3)) ∧ (decode cL_law 1924 = .ok (.istore 6, 2)) ∧ (decode cL_law 1926 = .ok (.goto 70, 3)) ∧ (decode cL_law 1929 = .ok (.aload_n 1, 1)) ∧ (decode cL_law 1930 = .ok (.aload_n 0, 1)) := by decide +kernel
theorem dL_law_1905 : decode cL_law 1905 = .ok (.iadd, 1) := bL_law_1905.1
theorem dL_law_1906 : decode cL_law 1906 = .ok (.iaload, 1) := bL_law_1905.2.1
theorem dL_law_1907 : decode cL_law 1907 = .ok (.aload_n 0, 1) := bL_law_1905.2.2.1
theorem dL_law_1908 : decode cL_law 1908 = .ok (.iload 4, 2) := bL_law_1905.2.2.2.1
theorem dL_law_1910 : decode cL_law 1910 = .ok (.iconst 2, 1) := bL_law_1905.2.2.2.2.1
theorem dL_law_1911 : decode cL_law 1911 = .ok (.iadd, 1) := bL_law_1905.2.2.2.2.2.1
theorem dL_law_1912 : decode cL_law 1912 = .ok (.iaload, 1) := bL_law_1905.2.2.2.2.2.2.1
theorem dL_law_1913 : decode cL_law 1913 = .ok (.ifCond .eq 7, 3) := bL_law_1905.2.2.2.2.2.2.2.1
theorem dL_law_1916 : decode cL_law 1916 = .ok (.iconst 1, 1) := bL_law_1905.2.2.2.2.2.2.2.2.1
theorem dL_law_1917 : decode cL_law 1917 = .ok (.goto 4, 3) := bL_law_1905.2.2.2.2.2.2.2.2.2.1
theorem dL_law_1920 : decode cL_law 1920 = .ok (.iconst 0, 1) := bL_law_1905.2.2.2.2.2.2.2.2.2.2.1
theorem dL_law_1921 : decode cL_law 1921 = .ok (.invokevirtual 303, 3) := bL_law_1905.2.2.2.2.2.2.2.2.2.2.2.1
theorem dL_law_1924 : decode cL_law 1924 = .ok (.istore 6, 2) := bL_law_1905.2.2.2.2.2.2.2.2.2.2.2.2.1
theorem dL_law_1926 : decode cL_law 1926 = .ok (.goto 70, 3) := bL_law_1905.2.2.2.2.2.2.2.2.2.2.2.2.2.1
theorem dL_law_1929 : decode cL_law 1929 = .ok (.aload_n 1, 1) := bL_law_1905.2.2.2.2.2.2.2.2.2.2.2.2.2.2.1
theorem dL_law_1930 : decode cL_law 1930 = .ok (.aload_n 0, 1) := bL_law_1905.2.2.2.2.2.2.2.2.2.2.2.2.2.2.2
set_option maxRecDepth 100000 in
theorem bL_law_1931 : (decode cL_law 1931 = .ok (.iload 4, 2)) ∧ (decode cL_law 1933 = .ok (.iconst 1, 1)) ∧ (decode cL_law 1934 = .ok (.iadd, 1)) ∧ (decode cL_law 1935 = .ok (.iaload, 1)) ∧ (decode cL_law 1936 = .ok (.aload_n 3, 1)) ∧ (decode cL_law 1937 = .ok (.invokestatic 304, 3)) ∧ (decode cL_law 1940 = .ok (.istore 5, 2)) ∧ (decode cL_law 1942 = .ok (.aload_n 2, 1)) ∧ (decode cL_law 1943 = .ok (.aload_n 0, 1)) ∧ (decode cL_law 1944 = .ok (.iload 4, 2)) ∧ (decode cL_law 1946 = .ok (.iconst 1, 1)) ∧ (decode cL_law 1947 = .ok (.iadd, 1)) ∧ (decode cL_law 1948 = .ok (.iaload, 1)) ∧ (decode cL_law 1949 = .ok (.invokevirtual 306, 3)) ∧ (decode cL_law 1952 = .ok (.istore 6, 2)) ∧ (decode cL_law 1954 = .ok (.goto 42, 3)) := by decide +kernel
theorem dL_law_1931 : decode cL_law 1931 = .ok (.iload 4, 2) := bL_law_1931.1
theorem dL_law_1933 : decode cL_law 1933 = .ok (.iconst 1, 1) := bL_law_1931.2.1
theorem dL_law_1934 : decode cL_law 1934 = .ok (.iadd, 1) := bL_law_1931.2.2.1
theorem dL_law_1935 : decode cL_law 1935 = .ok (.iaload, 1) := bL_law_1931.2.2.2.1
theorem dL_law_1936 : decode cL_law 1936 = .ok (.aload_n 3, 1) := bL_law_1931.2.2.2.2.1
theorem dL_law_1937 : decode cL_law 1937 = .ok (.invokestatic 304, 3) := bL_law_1931.2.2.2.2.2.1
theorem dL_law_1940 : decode cL_law 1940 = .ok (.istore 5, 2) := bL_law_1931.2.2.2.2.2.2.1
theorem dL_law_1942 : decode cL_law 1942 = .ok (.aload_n 2, 1) := bL_law_1931.2.2.2.2.2.2.2.1
theorem dL_law_1943 : decode cL_law 1943 = .ok (.aload_n 0, 1) := bL_law_1931.2.2.2.2.2.2.2.2.1
theorem dL_law_1944 : decode cL_law 1944 = .ok (.iload 4, 2) := bL_law_1931.2.2.2.2.2.2.2.2.2.1
theorem dL_law_1946 : decode cL_law 1946 = .ok (.iconst 1, 1) := bL_law_1931.2.2.2.2.2.2.2.2.2.2.1
theorem dL_law_1947 : decode cL_law 1947 = .ok (.iadd, 1) := bL_law_1931.2.2.2.2.2.2.2.2.2.2.2.1
theorem dL_law_1948 : decode cL_law 1948 = .ok (.iaload, 1) := bL_law_1931.2.2.2.2.2.2.2.2.2.2.2.2.1
theorem dL_law_1949 : decode cL_law 1949 = .ok (.invokevirtual 306, 3) := bL_law_1931.2.2.2.2.2.2.2.2.2.2.2.2.2.1
theorem dL_law_1952 : decode cL_law 1952 = .ok (.istore 6, 2) := bL_law_1931.2.2.2.2.2.2.2.2.2.2.2.2.2.2.1
theorem dL_law_1954 : decode cL_law 1954 = .ok (.goto 42, 3) := bL_law_1931.2.2.2.2.2.2.2.2.2.2.2.2.2.2.2
set_option maxRecDepth 100000 in
theorem bL_law_1957 : (decode cL_law 1957 = .ok (.aload_n 1, 1)) ∧ (decode cL_law 1958 = .ok (.invokevirtual 307, 3)) ∧ (decode cL_law 1961 = .ok (.pop, 1)) ∧ (decode cL_law 1962 = .ok (.aload_n 2, 1)) ∧ (decode cL_law 1963 = .ok (.invokevirtual 310, 3)) ∧ (decode cL_law 1966 = .ok (.pop, 1)) ∧ (decode cL_law 1967 = .ok (.goto 29, 3)) ∧ (decode cL_law 1970 = .ok (.aload_n 1, 1)) ∧ (decode cL_law 1971 = .ok (.invokevirtual 311, 3)) ∧ (decode cL_law 1974 = .ok (.pop, 1)) ∧ (decode cL_law 1975 = .ok (.aload_n 2, 1)) ∧ (decode cL_law 1976 = .ok (.invokevirtual 315, 3)) ∧ (decode cL_law 1979 = .ok (.pop, 1)) ∧ (decode cL_law 1980 = .ok (.goto 16, 3)) ∧ (decode cL_law 1983 = .ok (.aload_n 1, 1)) ∧ (decode cL_law 1984 = .ok (.invokevirtual 316, 3)) := by decide +kernel
theorem dL_law_1957 : decode cL_law 1957 = .ok (.aload_n 1, 1) := bL_law_1957.1
theorem dL_law_1958 : decode cL_law 1958 = .ok (.invokevirtual 307, 3) := bL_law_1957.2.1
theorem dL_law_1961 : decode cL_law 1961 = .ok (.pop, 1) := bL_law_1957.2.2.1
theorem dL_law_1962 : decode cL_law 1962 = .ok (.aload_n 2, 1) := bL_law_1957.2.2.2.1
theorem dL_law_1963 : decode cL_law 1963 = .ok (.invokevirtual 310, 3) := bL_law_1957.2.2.2.2.1
theorem dL_law_1966 : decode cL_law 1966 = .ok (.pop, 1) := bL_law_1957.2.2.2.2.2.1
theorem dL_law_1967 : decode cL_law 1967 = .ok (.goto 29, 3) := bL_law_1957.2.2.2.2.2.2.1
theorem dL_law_1970 : decode cL_law 1970 = .ok (.aload_n 1, 1) := bL_law_1957.2.2.2.2.2.2.2.1
theorem dL_law_1971 : decode cL_law 1971 = .ok (.invokevirtual 311, 3) := bL_law_1957.2.2.2.2.2.2.2.2.1
theorem dL_law_1974 : decode cL_law 1974 = .ok (.pop, 1) := bL_law_1957.2.2.2.2.2.2.2.2.2.1
theorem dL_law_1975 : decode cL_law 1975 = .ok (.aload_n 2, 1) := bL_law_1957.2.2.2.2.2.2.2.2.2.2.1
theorem dL_law_1976 : decode cL_law 1976 = .ok (.invokevirtual 315, 3) := bL_law_1957.2.2.2.2.2.2.2.2.2.2.2.1
theorem dL_law_1979 : decode cL_law 1979 = .ok (.pop, 1) := bL_law_1957.2.2.2.2.2.2.2.2.2.2.2.2.1
theorem dL_law_1980 : decode cL_law 1980 = .ok (.goto 16, 3) := bL_law_1957.2.2.2.2.2.2.2.2.2.2.2.2.2.1
theorem dL_law_1983 : decode cL_law 1983 = .ok (.aload_n 1, 1) := bL_law_1957.2.2.2.2.2.2.2.2.2.2.2.2.2.2.1
theorem dL_law_1984 : decode cL_law 1984 = .ok (.invokevirtual 316, 3) := bL_law_1957.2.2.2.2.2.2.2.2.2.2.2.2.2.2.2
set_option maxRecDepth 100000 in
theorem bL_law_1987 : (decode cL_law 1987 = .ok (.pop2, 1)) ∧ (decode cL_law 1988 = .ok (.aload_n 2, 1)) ∧ (decode cL_law 1989 = .ok (.invokevirtual 320, 3)) ∧ (decode cL_law 1992 = .ok (.pop2, 1)) ∧ (decode cL_law 1993 = .ok (.goto 3, 3)) ∧ (decode cL_law 1996 = .ok (.iinc 4 6, 3)) ∧ (decode cL_law 1999 = .ok (.goto (-1972), 3)) ∧ (decode cL_law 2002 = .ok (.iconst 1, 1)) ∧ (decode cL_law 2003 = .ok (.ireturn, 1)) := by decide +kernel
theorem dL_law_1987 : decode cL_law 1987 = .ok (.pop2, 1) := bL_law_1987.1
theorem dL_law_1988 : decode cL_law 1988 = .ok (.aload_n 2, 1) := bL_law_1987.2.1
theorem dL_law_1989 : decode cL_law 1989 = .ok (.invokevirtual 320, 3) := bL_law_1987.2.2.1
theorem dL_law_1992 : decode cL_law 1992 = .ok (.pop2, 1) := bL_law_1987.2.2.2.1
theorem dL_law_1993 : decode cL_law 1993 = .ok (.goto 3, 3) := bL_law_1987.2.2.2.2.1
theorem dL_law_1996 : decode cL_law 1996 = .ok (.iinc 4 6, 3) := bL_law_1987.2.2.2.2.2.1
theorem dL_law_1999 : decode cL_law 1999 = .ok (.goto (-1972), 3) := bL_law_1987.2.2.2.2.2.2.1
theorem dL_law_2002 : decode cL_law 2002 = .ok (.iconst 1, 1) := bL_law_1987.2.2.2.2.2.2.2.1
theorem dL_law_2003 : decode cL_law 2003 = .ok (.ireturn, 1) := bL_law_1987.2.2.2.2.2.2.2.2
