/-! ===== decode rows of the law ===== -/
set_option maxRecDepth 100000 in
theorem bL_law_0 : (decode cL_law 0 = .ok (.new 8, 3)) ∧ (decode cL_law 3 = .ok (.dup, 1)) ∧ (decode cL_law 4 = .ok (.invokespecial 161, 3)) ∧ (decode cL_law 7 = .ok (.astore_n 1, 1)) ∧ (decode cL_law 8 = .ok (.new 162, 3)) ∧ (decode cL_law 11 = .ok (.dup, 1)) ∧ (decode cL_law 12 = .ok (.invokespecial 164, 3)) ∧ (decode cL_law 15 = .ok (.astore_n 2, 1)) ∧ (decode cL_law 16 = .ok (.new 14, 3)) ∧ (decode cL_law 19 = .ok (.dup, 1)) ∧ (decode cL_law 20 = .ok (.invokespecial 165, 3)) ∧ (decode cL_law 23 = .ok (.astore_n 3, 1)) ∧ (decode cL_law 24 = .ok (.iconst 0, 1)) ∧ (decode cL_law 25 = .ok (.istore 4, 2)) ∧ (decode cL_law 27 = .ok (.iload 4, 2)) ∧ (decode cL_law 29 = .ok (.aload_n 0, 1)) := by decide +kernel
theorem dL_law_0 : decode cL_law 0 = .ok (.new 8, 3) := bL_law_0.1
theorem dL_law_3 : decode cL_law 3 = .ok (.dup, 1) := bL_law_0.2.1
theorem dL_law_4 : decode cL_law 4 = .ok (.invokespecial 161, 3) := bL_law_0.2.2.1
theorem dL_law_7 : decode cL_law 7 = .ok (.astore_n 1, 1) := bL_law_0.2.2.2.1
theorem dL_law_8 : decode cL_law 8 = .ok (.new 162, 3) := bL_law_0.2.2.2.2.1
theorem dL_law_11 : decode cL_law 11 = .ok (.dup, 1) := bL_law_0.2.2.2.2.2.1
theorem dL_law_12 : decode cL_law 12 = .ok (.invokespecial 164, 3) := bL_law_0.2.2.2.2.2.2.1
theorem dL_law_15 : decode cL_law 15 = .ok (.astore_n 2, 1) := bL_law_0.2.2.2.2.2.2.2.1
theorem dL_law_16 : decode cL_law 16 = .ok (.new 14, 3) := bL_law_0.2.2.2.2.2.2.2.2.1
theorem dL_law_19 : decode cL_law 19 = .ok (.dup, 1) := bL_law_0.2.2.2.2.2.2.2.2.2.1
theorem dL_law_20 : decode cL_law 20 = .ok (.invokespecial 165, 3) := bL_law_0.2.2.2.2.2.2.2.2.2.2.1
theorem dL_law_23 : decode cL_law 23 = .ok (.astore_n 3, 1) := bL_law_0.2.2.2.2.2.2.2.2.2.2.2.1
theorem dL_law_24 : decode cL_law 24 = .ok (.iconst 0, 1) := bL_law_0.2.2.2.2.2.2.2.2.2.2.2.2.1
theorem dL_law_25 : decode cL_law 25 = .ok (.istore 4, 2) := bL_law_0.2.2.2.2.2.2.2.2.2.2.2.2.2.1
theorem dL_law_27 : decode cL_law 27 = .ok (.iload 4, 2) := bL_law_0.2.2.2.2.2.2.2.2.2.2.2.2.2.2.1
theorem dL_law_29 : decode cL_law 29 = .ok (.aload_n 0, 1) := bL_law_0.2.2.2.2.2.2.2.2.2.2.2.2.2.2.2
set_option maxRecDepth 100000 in
theorem bL_law_30 : (decode cL_law 30 = .ok (.arraylength, 1)) ∧ (decode cL_law 31 = .ok (.bipush 6, 2)) ∧ (decode cL_law 33 = .ok (.isub, 1)) ∧ (decode cL_law 34 = .ok (.if_icmp .gt 1968, 3)) ∧ (decode cL_law 37 = .ok (.aload_n 0, 1)) ∧ (decode cL_law 38 = .ok (.iload 4, 2)) ∧ (decode cL_law 40 = .ok (.iaload, 1)) ∧ (decode cL_law 41 = .ok (.bipush 63, 2)) ∧ (decode cL_law 43 = .ok (.iand, 1)) ∧ (decode cL_law 44 = .ok (.tableswitch 1952 0 45 #[200, 276, 316, 368, 408, 436, 476, 528, 556, 596, 648, 676, 716, 756, 796, 824, 864, 904, 944, 984, 1024, 1064, 1104, 1144, 1196, 1224, 1252, 1280, 1320, 1348, 1376, 1404, 1432, 1472, 1512, 1580, 1665, 1693, 1721, 1749, 1789, 1829, 1885, 1913, 1926, 1939], 200)) ∧ (decode cL_law 244 = .ok (.aload_n 1, 1)) ∧ (decode cL_law 245 = .ok (.aload_n 0, 1)) ∧ (decode cL_law 246 = .ok (.iload 4, 2)) ∧ (decode cL_law 248 = .ok (.iconst 1, 1)) ∧ (decode cL_law 249 = .ok (.iadd, 1)) ∧ (decode cL_law 250 = .ok (.iaload, 1)) := by decide +kernel
theorem dL_law_30 : decode cL_law 30 = .ok (.arraylength, 1) := bL_law_30.1
theorem dL_law_31 : decode cL_law 31 = .ok (.bipush 6, 2) := bL_law_30.2.1
theorem dL_law_33 : decode cL_law 33 = .ok (.isub, 1) := bL_law_30.2.2.1
theorem dL_law_34 : decode cL_law 34 = .ok (.if_icmp .gt 1968, 3) := bL_law_30.2.2.2.1
theorem dL_law_37 : decode cL_law 37 = .ok (.aload_n 0, 1) := bL_law_30.2.2.2.2.1
theorem dL_law_38 : decode cL_law 38 = .ok (.iload 4, 2) := bL_law_30.2.2.2.2.2.1
theorem dL_law_40 : decode cL_law 40 = .ok (.iaload, 1) := bL_law_30.2.2.2.2.2.2.1
theorem dL_law_41 : decode cL_law 41 = .ok (.bipush 63, 2) := bL_law_30.2.2.2.2.2.2.2.1
theorem dL_law_43 : decode cL_law 43 = .ok (.iand, 1) := bL_law_30.2.2.2.2.2.2.2.2.1
theorem dL_law_44 : decode cL_law 44 = .ok (.tableswitch 1952 0 45 #[200, 276, 316, 368, 408, 436, 476, 528, 556, 596, 648, 676, 716, 756, 796, 824, 864, 904, 944, 984, 1024, 1064, 1104, 1144, 1196, 1224, 1252, 1280, 1320, 1348, 1376, 1404, 1432, 1472, 1512, 1580, 1665, 1693, 1721, 1749, 1789, 1829, 1885, 1913, 1926, 1939], 200) := bL_law_30.2.2.2.2.2.2.2.2.2.1
theorem dL_law_244 : decode cL_law 244 = .ok (.aload_n 1, 1) := bL_law_30.2.2.2.2.2.2.2.2.2.2.1
theorem dL_law_245 : decode cL_law 245 = .ok (.aload_n 0, 1) := bL_law_30.2.2.2.2.2.2.2.2.2.2.2.1
theorem dL_law_246 : decode cL_law 246 = .ok (.iload 4, 2) := bL_law_30.2.2.2.2.2.2.2.2.2.2.2.2.1
theorem dL_law_248 : decode cL_law 248 = .ok (.iconst 1, 1) := bL_law_30.2.2.2.2.2.2.2.2.2.2.2.2.2.1
theorem dL_law_249 : decode cL_law 249 = .ok (.iadd, 1) := bL_law_30.2.2.2.2.2.2.2.2.2.2.2.2.2.2.1
theorem dL_law_250 : decode cL_law 250 = .ok (.iaload, 1) := bL_law_30.2.2.2.2.2.2.2.2.2.2.2.2.2.2.2
set_option maxRecDepth 100000 in
theorem bL_law_251 : (decode cL_law 251 = .ok (.aload_n 0, 1)) ∧ (decode cL_law 252 = .ok (.iload 4, 2)) ∧ (decode cL_law 254 = .ok (.iconst 2, 1)) ∧ (decode cL_law 255 = .ok (.iadd, 1)) ∧ (decode cL_law 256 = .ok (.iaload, 1)) ∧ (decode cL_law 257 = .ok (.aload_n 0, 1)) ∧ (decode cL_law 258 = .ok (.iload 4, 2)) ∧ (decode cL_law 260 = .ok (.iconst 3, 1)) ∧ (decode cL_law 261 = .ok (.iadd, 1)) ∧ (decode cL_law 262 = .ok (.iaload, 1)) ∧ (decode cL_law 263 = .ok (.aload_n 0, 1)) ∧ (decode cL_law 264 = .ok (.iload 4, 2)) ∧ (decode cL_law 266 = .ok (.iconst 4, 1)) ∧ (decode cL_law 267 = .ok (.iadd, 1)) ∧ (decode cL_law 268 = .ok (.iaload, 1)) ∧ (decode cL_law 269 = .ok (.aload_n 0, 1)) := by decide +kernel
theorem dL_law_251 : decode cL_law 251 = .ok (.aload_n 0, 1) := bL_law_251.1
theorem dL_law_252 : decode cL_law 252 = .ok (.iload 4, 2) := bL_law_251.2.1
theorem dL_law_254 : decode cL_law 254 = .ok (.iconst 2, 1) := bL_law_251.2.2.1
theorem dL_law_255 : decode cL_law 255 = .ok (.iadd, 1) := bL_law_251.2.2.2.1
theorem dL_law_256 : decode cL_law 256 = .ok (.iaload, 1) := bL_law_251.2.2.2.2.1
theorem dL_law_257 : decode cL_law 257 = .ok (.aload_n 0, 1) := bL_law_251.2.2.2.2.2.1
theorem dL_law_258 : decode cL_law 258 = .ok (.iload 4, 2) := bL_law_251.2.2.2.2.2.2.1
theorem dL_law_260 : decode cL_law 260 = .ok (.iconst 3, 1) := bL_law_251.2.2.2.2.2.2.2.1
theorem dL_law_261 : decode cL_law 261 = .ok (.iadd, 1) := bL_law_251.2.2.2.2.2.2.2.2.1
theorem dL_law_262 : decode cL_law 262 = .ok (.iaload, 1) := bL_law_251.2.2.2.2.2.2.2.2.2.1
theorem dL_law_263 : decode cL_law 263 = .ok (.aload_n 0, 1) := bL_law_251.2.2.2.2.2.2.2.2.2.2.1
theorem dL_law_264 : decode cL_law 264 = .ok (.iload 4, 2) := bL_law_251.2.2.2.2.2.2.2.2.2.2.2.1
theorem dL_law_266 : decode cL_law 266 = .ok (.iconst 4, 1) := bL_law_251.2.2.2.2.2.2.2.2.2.2.2.2.1
theorem dL_law_267 : decode cL_law 267 = .ok (.iadd, 1) := bL_law_251.2.2.2.2.2.2.2.2.2.2.2.2.2.1
theorem dL_law_268 : decode cL_law 268 = .ok (.iaload, 1) := bL_law_251.2.2.2.2.2.2.2.2.2.2.2.2.2.2.1
theorem dL_law_269 : decode cL_law 269 = .ok (.aload_n 0, 1) := bL_law_251.2.2.2.2.2.2.2.2.2.2.2.2.2.2.2
set_option maxRecDepth 100000 in
theorem bL_law_270 : (decode cL_law 270 = .ok (.iload 4, 2)) ∧ (decode cL_law 272 = .ok (.iconst 5, 1)) ∧ (decode cL_law 273 = .ok (.iadd, 1)) ∧ (decode cL_law 274 = .ok (.iaload, 1)) ∧ (decode cL_law 275 = .ok (.aload_n 3, 1)) ∧ (decode cL_law 276 = .ok (.invokestatic 166, 3)) ∧ (decode cL_law 279 = .ok (.istore 5, 2)) ∧ (decode cL_law 281 = .ok (.aload_n 2, 1)) ∧ (decode cL_law 282 = .ok (.aload_n 0, 1)) ∧ (decode cL_law 283 = .ok (.iload 4, 2)) ∧ (decode cL_law 285 = .ok (.iconst 1, 1)) ∧ (decode cL_law 286 = .ok (.iadd, 1)) ∧ (decode cL_law 287 = .ok (.iaload, 1)) ∧ (decode cL_law 288 = .ok (.aload_n 0, 1)) ∧ (decode cL_law 289 = .ok (.iload 4, 2)) ∧ (decode cL_law 291 = .ok (.iconst 2, 1)) := by decide +kernel
theorem dL_law_270 : decode cL_law 270 = .ok (.iload 4, 2) := bL_law_270.1
theorem dL_law_272 : decode cL_law 272 = .ok (.iconst 5, 1) := bL_law_270.2.1
theorem dL_law_273 : decode cL_law 273 = .ok (.iadd, 1) := bL_law_270.2.2.1
theorem dL_law_274 : decode cL_law 274 = .ok (.iaload, 1) := bL_law_270.2.2.2.1
theorem dL_law_275 : decode cL_law 275 = .ok (.aload_n 3, 1) := bL_law_270.2.2.2.2.1
theorem dL_law_276 : decode cL_law 276 = .ok (.invokestatic 166, 3) := bL_law_270.2.2.2.2.2.1
theorem dL_law_279 : decode cL_law 279 = .ok (.istore 5, 2) := bL_law_270.2.2.2.2.2.2.1
theorem dL_law_281 : decode cL_law 281 = .ok (.aload_n 2, 1) := bL_law_270.2.2.2.2.2.2.2.1
theorem dL_law_282 : decode cL_law 282 = .ok (.aload_n 0, 1) := bL_law_270.2.2.2.2.2.2.2.2.1
theorem dL_law_283 : decode cL_law 283 = .ok (.iload 4, 2) := bL_law_270.2.2.2.2.2.2.2.2.2.1
theorem dL_law_285 : decode cL_law 285 = .ok (.iconst 1, 1) := bL_law_270.2.2.2.2.2.2.2.2.2.2.1
theorem dL_law_286 : decode cL_law 286 = .ok (.iadd, 1) := bL_law_270.2.2.2.2.2.2.2.2.2.2.2.1
theorem dL_law_287 : decode cL_law 287 = .ok (.iaload, 1) := bL_law_270.2.2.2.2.2.2.2.2.2.2.2.2.1
theorem dL_law_288 : decode cL_law 288 = .ok (.aload_n 0, 1) := bL_law_270.2.2.2.2.2.2.2.2.2.2.2.2.2.1
theorem dL_law_289 : decode cL_law 289 = .ok (.iload 4, 2) := bL_law_270.2.2.2.2.2.2.2.2.2.2.2.2.2.2.1
theorem dL_law_291 : decode cL_law 291 = .ok (.iconst 2, 1) := bL_law_270.2.2.2.2.2.2.2.2.2.2.2.2.2.2.2
set_option maxRecDepth 100000 in
theorem bL_law_292 : (decode cL_law 292 = .ok (.iadd, 1)) ∧ (decode cL_law 293 = .ok (.iaload, 1)) ∧ (decode cL_law 294 = .ok (.aload_n 0, 1)) ∧ (decode cL_law 295 = .ok (.iload 4, 2)) ∧ (decode cL_law 297 = .ok (.iconst 3, 1)) ∧ (decode cL_law 298 = .ok (.iadd, 1)) ∧ (decode cL_law 299 = .ok (.iaload, 1)) ∧ (decode cL_law 300 = .ok (.aload_n 0, 1)) ∧ (decode cL_law 301 = .ok (.iload 4, 2)) ∧ (decode cL_law 303 = .ok (.iconst 4, 1)) ∧ (decode cL_law 304 = .ok (.iadd, 1)) ∧ (decode cL_law 305 = .ok (.iaload, 1)) ∧ (decode cL_law 306 = .ok (.aload_n 0, 1)) ∧ (decode cL_law 307 = .ok (.iload 4, 2)) ∧ (decode cL_law 309 = .ok (.iconst 5, 1)) ∧ (decode cL_law 310 = .ok (.iadd, 1)) := by decide +kernel
theorem dL_law_292 : decode cL_law 292 = .ok (.iadd, 1) := bL_law_292.1
theorem dL_law_293 : decode cL_law 293 = .ok (.iaload, 1) := bL_law_292.2.1
theorem dL_law_294 : decode cL_law 294 = .ok (.aload_n 0, 1) := bL_law_292.2.2.1
theorem dL_law_295 : decode cL_law 295 = .ok (.iload 4, 2) := bL_law_292.2.2.2.1
theorem dL_law_297 : decode cL_law 297 = .ok (.iconst 3, 1) := bL_law_292.2.2.2.2.1
theorem dL_law_298 : decode cL_law 298 = .ok (.iadd, 1) := bL_law_292.2.2.2.2.2.1
theorem dL_law_299 : decode cL_law 299 = .ok (.iaload, 1) := bL_law_292.2.2.2.2.2.2.1
theorem dL_law_300 : decode cL_law 300 = .ok (.aload_n 0, 1) := bL_law_292.2.2.2.2.2.2.2.1
theorem dL_law_301 : decode cL_law 301 = .ok (.iload 4, 2) := bL_law_292.2.2.2.2.2.2.2.2.1
theorem dL_law_303 : decode cL_law 303 = .ok (.iconst 4, 1) := bL_law_292.2.2.2.2.2.2.2.2.2.1
theorem dL_law_304 : decode cL_law 304 = .ok (.iadd, 1) := bL_law_292.2.2.2.2.2.2.2.2.2.2.1
theorem dL_law_305 : decode cL_law 305 = .ok (.iaload, 1) := bL_law_292.2.2.2.2.2.2.2.2.2.2.2.1
theorem dL_law_306 : decode cL_law 306 = .ok (.aload_n 0, 1) := bL_law_292.2.2.2.2.2.2.2.2.2.2.2.2.1
theorem dL_law_307 : decode cL_law 307 = .ok (.iload 4, 2) := bL_law_292.2.2.2.2.2.2.2.2.2.2.2.2.2.1
theorem dL_law_309 : decode cL_law 309 = .ok (.iconst 5, 1) := bL_law_292.2.2.2.2.2.2.2.2.2.2.2.2.2.2.1
theorem dL_law_310 : decode cL_law 310 = .ok (.iadd, 1) := bL_law_292.2.2.2.2.2.2.2.2.2.2.2.2.2.2.2
set_option maxRecDepth 100000 in
theorem bL_law_311 : (decode cL_law 311 = .ok (.iaload, 1)) ∧ (decode cL_law 312 = .ok (.invokevirtual 171, 3)) ∧ (decode cL_law 315 = .ok (.istore 6, 2)) ∧ (decode cL_law 317 = .ok (.goto 1679, 3)) ∧ (decode cL_law 320 = .ok (.aload_n 1, 1)) ∧ (decode cL_law 321 = .ok (.aload_n 0, 1)) ∧ (decode cL_law 322 = .ok (.iload 4, 2)) ∧ (decode cL_law 324 = .ok (.iconst 1, 1)) ∧ (decode cL_law 325 = .ok (.iadd, 1)) ∧ (decode cL_law 326 = .ok (.iaload, 1)) ∧ (decode cL_law 327 = .ok (.aload_n 0, 1)) ∧ (decode cL_law 328 = .ok (.iload 4, 2)) ∧ (decode cL_law 330 = .ok (.iconst 2, 1)) ∧ (decode cL_law 331 = .ok (.iadd, 1)) ∧ (decode cL_law 332 = .ok (.iaload, 1)) ∧ (decode cL_law 333 = .ok (.aload_n 3, 1)) := by decide +kernel
theorem dL_law_311 : decode cL_law 311 = .ok (.iaload, 1) := bL_law_311.1
theorem dL_law_312 : decode cL_law 312 = .ok (.invokevirtual 171, 3) := bL_law_311.2.1
theorem dL_law_315 : decode cL_law 315 = .ok (.istore 6, 2) := bL_law_311.2.2.1
theorem dL_law_317 : decode cL_law 317 = .ok (.goto 1679, 3) := bL_law_311.2.2.2.1
theorem dL_law_320 : decode cL_law 320 = .ok (.aload_n 1, 1) := bL_law_311.2.2.2.2.1
theorem dL_law_321 : decode cL_law 321 = .ok (.aload_n 0, 1) := bL_law_311.2.2.2.2.2.1
theorem dL_law_322 : decode cL_law 322 = .ok (.iload 4, 2) := bL_law_311.2.2.2.2.2.2.1
theorem dL_law_324 : decode cL_law 324 = .ok (.iconst 1, 1) := bL_law_311.2.2.2.2.2.2.2.1
theorem dL_law_325 : decode cL_law 325 = .ok (.iadd, 1) := bL_law_311.2.2.2.2.2.2.2.2.1
theorem dL_law_326 : decode cL_law 326 = .ok (.iaload, 1) := bL_law_311.2.2.2.2.2.2.2.2.2.1
theorem dL_law_327 : decode cL_law 327 = .ok (.aload_n 0, 1) := bL_law_311.2.2.2.2.2.2.2.2.2.2.1
theorem dL_law_328 : decode cL_law 328 = .ok (.iload 4, 2) := bL_law_311.2.2.2.2.2.2.2.2.2.2.2.1
theorem dL_law_330 : decode cL_law 330 = .ok (.iconst 2, 1) := bL_law_311.2.2.2.2.2.2.2.2.2.2.2.2.1
theorem dL_law_331 : decode cL_law 331 = .ok (.iadd, 1) := bL_law_311.2.2.2.2.2.2.2.2.2.2.2.2.2.1
theorem dL_law_332 : decode cL_law 332 = .ok (.iaload, 1) := bL_law_311.2.2.2.2.2.2.2.2.2.2.2.2.2.2.1
theorem dL_law_333 : decode cL_law 333 = .ok (.aload_n 3, 1) := bL_law_311.2.2.2.2.2.2.2.2.2.2.2.2.2.2.2
set_option maxRecDepth 100000 in
theorem bL_law_334 : (decode cL_law 334 = .ok (.invokestatic 172, 3)) ∧ (decode cL_law 337 = .ok (.istore 5, 2)) ∧ (decode cL_law 339 = .ok (.aload_n 2, 1)) ∧ (decode cL_law 340 = .ok (.aload_n 0, 1)) ∧ (decode cL_law 341 = .ok (.iload 4, 2)) ∧ (decode cL_law 343 = .ok (.iconst 1, 1)) ∧ (decode cL_law 344 = .ok (.iadd, 1)) ∧ (decode cL_law 345 = .ok (.iaload, 1)) ∧ (decode cL_law 346 = .ok (.aload_n 0, 1)) ∧ (decode cL_law 347 = .ok (.iload 4, 2)) ∧ (decode cL_law 349 = .ok (.iconst 2, 1)) ∧ (decode cL_law 350 = .ok (.iadd, 1)) ∧ (decode cL_law 351 = .ok (.iaload, 1)) ∧ (decode cL_law 352 = .ok (.invokevirtual 175, 3)) ∧ (decode cL_law 355 = .ok (.istore 6, 2)) ∧ (decode cL_law 357 = .ok (.goto 1639, 3)) := by decide +kernel
theorem dL_law_334 : decode cL_law 334 = .ok (.invokestatic 172, 3) := bL_law_334.1
theorem dL_law_337 : decode cL_law 337 = .ok (.istore 5, 2) := bL_law_334.2.1
theorem dL_law_339 : decode cL_law 339 = .ok (.aload_n 2, 1) := bL_law_334.2.2.1
theorem dL_law_340 : decode cL_law 340 = .ok (.aload_n 0, 1) := bL_law_334.2.2.2.1
theorem dL_law_341 : decode cL_law 341 = .ok (.iload 4, 2) := bL_law_334.2.2.2.2.1
theorem dL_law_343 : decode cL_law 343 = .ok (.iconst 1, 1) := bL_law_334.2.2.2.2.2.1
theorem dL_law_344 : decode cL_law 344 = .ok (.iadd, 1) := bL_law_334.2.2.2.2.2.2.1
theorem dL_law_345 : decode cL_law 345 = .ok (.iaload, 1) := bL_law_334.2.2.2.2.2.2.2.1
theorem dL_law_346 : decode cL_law 346 = .ok (.aload_n 0, 1) := bL_law_334.2.2.2.2.2.2.2.2.1
theorem dL_law_347 : decode cL_law 347 = .ok (.iload 4, 2) := bL_law_334.2.2.2.2.2.2.2.2.2.1
theorem dL_law_349 : decode cL_law 349 = .ok (.iconst 2, 1) := bL_law_334.2.2.2.2.2.2.2.2.2.2.1
theorem dL_law_350 : decode cL_law 350 = .ok (.iadd, 1) := bL_law_334.2.2.2.2.2.2.2.2.2.2.2.1
theorem dL_law_351 : decode cL_law 351 = .ok (.iaload, 1) := bL_law_334.2.2.2.2.2.2.2.2.2.2.2.2.1
theorem dL_law_352 : decode cL_law 352 = .ok (.invokevirtual 175, 3) := bL_law_334.2.2.2.2.2.2.2.2.2.2.2.2.2.1
theorem dL_law_355 : decode cL_law 355 = .ok (.istore 6, 2) := bL_law_334.2.2.2.2.2.2.2.2.2.2.2.2.2.2.1
theorem dL_law_357 : decode cL_law 357 = .ok (.goto 1639, 3) := bL_law_334.2.2.2.2.2.2.2.2.2.2.2.2.2.2.2
set_option maxRecDepth 100000 in
theorem bL_law_360 : (decode cL_law 360 = .ok (.aload_n 1, 1)) ∧ (decode cL_law 361 = .ok (.aload_n 0, 1)) ∧ (decode cL_law 362 = .ok (.iload 4, 2)) ∧ (decode cL_law 364 = .ok (.iconst 1, 1)) ∧ (decode cL_law 365 = .ok (.iadd, 1)) ∧ (decode cL_law 366 = .ok (.iaload, 1)) ∧ (decode cL_law 367 = .ok (.aload_n 0, 1)) ∧ (decode cL_law 368 = .ok (.iload 4, 2)) ∧ (decode cL_law 370 = .ok (.iconst 2, 1)) ∧ (decode cL_law 371 = .ok (.iadd, 1)) ∧ (decode cL_law 372 = .ok (.iaload, 1)) ∧ (decode cL_law 373 = .ok (.aload_n 0, 1)) ∧ (decode cL_law 374 = .ok (.iload 4, 2)) ∧ (decode cL_law 376 = .ok (.iconst 3, 1)) ∧ (decode cL_law 377 = .ok (.iadd, 1)) ∧ (decode cL_law 378 = .ok (.iaload, 1)) := by decide +kernel
theorem dL_law_360 : decode cL_law 360 = .ok (.aload_n 1, 1) := bL_law_360.1
theorem dL_law_361 : decode cL_law 361 = .ok (.aload_n 0, 1) := bL_law_360.2.1
theorem dL_law_362 : decode cL_law 362 = .ok (.iload 4, 2) := bL_law_360.2.2.1
theorem dL_law_364 : decode cL_law 364 = .ok (.iconst 1, 1) := bL_law_360.2.2.2.1
theorem dL_law_365 : decode cL_law 365 = .ok (.iadd, 1) := bL_law_360.2.2.2.2.1
theorem dL_law_366 : decode cL_law 366 = .ok (.iaload, 1) := bL_law_360.2.2.2.2.2.1
theorem dL_law_367 : decode cL_law 367 = .ok (.aload_n 0, 1) := bL_law_360.2.2.2.2.2.2.1
theorem dL_law_368 : decode cL_law 368 = .ok (.iload 4, 2) := bL_law_360.2.2.2.2.2.2.2.1
theorem dL_law_370 : decode cL_law 370 = .ok (.iconst 2, 1) := bL_law_360.2.2.2.2.2.2.2.2.1
theorem dL_law_371 : decode cL_law 371 = .ok (.iadd, 1) := bL_law_360.2.2.2.2.2.2.2.2.2.1
theorem dL_law_372 : decode cL_law 372 = .ok (.iaload, 1) := bL_law_360.2.2.2.2.2.2.2.2.2.2.1
theorem dL_law_373 : decode cL_law 373 = .ok (.aload_n 0, 1) := bL_law_360.2.2.2.2.2.2.2.2.2.2.2.1
theorem dL_law_374 : decode cL_law 374 = .ok (.iload 4, 2) := bL_law_360.2.2.2.2.2.2.2.2.2.2.2.2.1
theorem dL_law_376 : decode cL_law 376 = .ok (.iconst 3, 1) := bL_law_360.2.2.2.2.2.2.2.2.2.2.2.2.2.1
theorem dL_law_377 : decode cL_law 377 = .ok (.iadd, 1) := bL_law_360.2.2.2.2.2.2.2.2.2.2.2.2.2.2.1
theorem dL_law_378 : decode cL_law 378 = .ok (.iaload, 1) := bL_law_360.2.2.2.2.2.2.2.2.2.2.2.2.2.2.2
set_option maxRecDepth 100000 in
theorem bL_law_379 : (decode cL_law 379 = .ok (.aload_n 3, 1)) ∧ (decode cL_law 380 = .ok (.invokestatic 176, 3)) ∧ (decode cL_law 383 = .ok (.istore 5, 2)) ∧ (decode cL_law 385 = .ok (.aload_n 2, 1)) ∧ (decode cL_law 386 = .ok (.aload_n 0, 1)) ∧ (decode cL_law 387 = .ok (.iload 4, 2)) ∧ (decode cL_law 389 = .ok (.iconst 1, 1)) ∧ (decode cL_law 390 = .ok (.iadd, 1)) ∧ (decode cL_law 391 = .ok (.iaload, 1)) ∧ (decode cL_law 392 = .ok (.aload_n 0, 1)) ∧ (decode cL_law 393 = .ok (.iload 4, 2)) ∧ (decode cL_law 395 = .ok (.iconst 2, 1)) ∧ (decode cL_law 396 = .ok (.iadd, 1)) ∧ (decode cL_law 397 = .ok (.iaload, 1)) ∧ (decode cL_law 398 = .ok (.aload_n 0, 1)) ∧ (decode cL_law 399 = .ok (.iload 4, 2)) := by decide +kernel
theorem dL_law_379 : decode cL_law 379 = .ok (.aload_n 3, 1) := bL_law_379.1
theorem dL_law_380 : decode cL_law 380 = .ok (.invokestatic 176, 3) := bL_law_379.2.1
theorem dL_law_383 : decode cL_law 383 = .ok (.istore 5, 2) := bL_law_379.2.2.1
theorem dL_law_385 : decode cL_law 385 = .ok (.aload_n 2, 1) := bL_law_379.2.2.2.1
theorem dL_law_386 : decode cL_law 386 = .ok (.aload_n 0, 1) := bL_law_379.2.2.2.2.1
theorem dL_law_387 : decode cL_law 387 = .ok (.iload 4, 2) := bL_law_379.2.2.2.2.2.1
theorem dL_law_389 : decode cL_law 389 = .ok (.iconst 1, 1) := bL_law_379.2.2.2.2.2.2.1
theorem dL_law_390 : decode cL_law 390 = .ok (.iadd, 1) := bL_law_379.2.2.2.2.2.2.2.1
theorem dL_law_391 : decode cL_law 391 = .ok (.iaload, 1) := bL_law_379.2.2.2.2.2.2.2.2.1
theorem dL_law_392 : decode cL_law 392 = .ok (.aload_n 0, 1) := bL_law_379.2.2.2.2.2.2.2.2.2.1
theorem dL_law_393 : decode cL_law 393 = .ok (.iload 4, 2) := bL_law_379.2.2.2.2.2.2.2.2.2.2.1
theorem dL_law_395 : decode cL_law 395 = .ok (.iconst 2, 1) := bL_law_379.2.2.2.2.2.2.2.2.2.2.2.1
theorem dL_law_396 : decode cL_law 396 = .ok (.iadd, 1) := bL_law_379.2.2.2.2.2.2.2.2.2.2.2.2.1
theorem dL_law_397 : decode cL_law 397 = .ok (.iaload, 1) := bL_law_379.2.2.2.2.2.2.2.2.2.2.2.2.2.1
theorem dL_law_398 : decode cL_law 398 = .ok (.aload_n 0, 1) := bL_law_379.2.2.2.2.2.2.2.2.2.2.2.2.2.2.1
theorem dL_law_399 : decode cL_law 399 = .ok (.iload 4, 2) := bL_law_379.2.2.2.2.2.2.2.2.2.2.2.2.2.2.2
set_option maxRecDepth 100000 in
theorem bL_law_401 : (decode cL_law 401 = .ok (.iconst 3, 1)) ∧ (decode cL_law 402 = .ok (.iadd, 1)) ∧ (decode cL_law 403 = .ok (.iaload, 1)) ∧ (decode cL_law 404 = .ok (.invokevirtual 179, 3)) ∧ (decode cL_law 407 = .ok (.istore 6, 2)) ∧ (decode cL_law 409 = .ok (.goto 1587, 3)) ∧ (decode cL_law 412 = .ok (.aload_n 1, 1)) ∧ (decode cL_law 413 = .ok (.aload_n 0, 1)) ∧ (decode cL_law 414 = .ok (.iload 4, 2)) ∧ (decode cL_law 416 = .ok (.iconst 1, 1)) ∧ (decode cL_law 417 = .ok (.iadd, 1)) ∧ (decode cL_law 418 = .ok (.iaload, 1)) ∧ (decode cL_law 419 = .ok (.aload_n 0, 1)) ∧ (decode cL_law 420 = .ok (.iload 4, 2)) ∧ (decode cL_law 422 = .ok (.iconst 2, 1)) ∧ (decode cL_law 423 = .ok (.iadd, 1)) := by decide +kernel
theorem dL_law_401 : decode cL_law 401 = .ok (.iconst 3, 1) := bL_law_401.1
theorem dL_law_402 : decode cL_law 402 = .ok (.iadd, 1) := bL_law_401.2.1
theorem dL_law_403 : decode cL_law 403 = .ok (.iaload, 1) := bL_law_401.2.2.1
theorem dL_law_404 : decode cL_law 404 = .ok (.invokevirtual 179, 3) := bL_law_401.2.2.2.1
theorem dL_law_407 : decode cL_law 407 = .ok (.istore 6, 2) := bL_law_401.2.2.2.2.1
theorem dL_law_409 : decode cL_law 409 = .ok (.goto 1587, 3) := bL_law_401.2.2.2.2.2.1
theorem dL_law_412 : decode cL_law 412 = .ok (.aload_n 1, 1) := bL_law_401.2.2.2.2.2.2.1
theorem dL_law_413 : decode cL_law 413 = .ok (.aload_n 0, 1) := bL_law_401.2.2.2.2.2.2.2.1
theorem dL_law_414 : decode cL_law 414 = .ok (.iload 4, 2) := bL_law_401.2.2.2.2.2.2.2.2.1
theorem dL_law_416 : decode cL_law 416 = .ok (.iconst 1, 1) := bL_law_401.2.2.2.2.2.2.2.2.2.1
theorem dL_law_417 : decode cL_law 417 = .ok (.iadd, 1) := bL_law_401.2.2.2.2.2.2.2.2.2.2.1
theorem dL_law_418 : decode cL_law 418 = .ok (.iaload, 1) := bL_law_401.2.2.2.2.2.2.2.2.2.2.2.1
theorem dL_law_419 : decode cL_law 419 = .ok (.aload_n 0, 1) := bL_law_401.2.2.2.2.2.2.2.2.2.2.2.2.1
theorem dL_law_420 : decode cL_law 420 = .ok (.iload 4, 2) := bL_law_401.2.2.2.2.2.2.2.2.2.2.2.2.2.1
theorem dL_law_422 : decode cL_law 422 = .ok (.iconst 2, 1) := bL_law_401.2.2.2.2.2.2.2.2.2.2.2.2.2.2.1
theorem dL_law_423 : decode cL_law 423 = .ok (.iadd, 1) := bL_law_401.2.2.2.2.2.2.2.2.2.2.2.2.2.2.2
set_option maxRecDepth 100000 in
theorem bL_law_424 : (decode cL_law 424 = .ok (.iaload, 1)) ∧ (decode cL_law 425 = .ok (.aload_n 3, 1)) ∧ (decode cL_law 426 = .ok (.invokestatic 180, 3)) ∧ (decode cL_law 429 = .ok (.istore 5, 2)) ∧ (decode cL_law 431 = .ok (.aload_n 2, 1)) ∧ (decode cL_law 432 = .ok (.aload_n 0, 1)) ∧ (decode cL_law 433 = .ok (.iload 4, 2)) ∧ (decode cL_law 435 = .ok (.iconst 1, 1)) ∧ (decode cL_law 436 = .ok (.iadd, 1)) ∧ (decode cL_law 437 = .ok (.iaload, 1)) ∧ (decode cL_law 438 = .ok (.aload_n 0, 1)) ∧ (decode cL_law 439 = .ok (.iload 4, 2)) ∧ (decode cL_law 441 = .ok (.iconst 2, 1)) ∧ (decode cL_law 442 = .ok (.iadd, 1)) ∧ (decode cL_law 443 = .ok (.iaload, 1)) ∧ (decode cL_law 444 = .ok (.invokevirtual 182, 3)) := by decide +kernel
theorem dL_law_424 : decode cL_law 424 = .ok (.iaload, 1) := bL_law_424.1
theorem dL_law_425 : decode cL_law 425 = .ok (.aload_n 3, 1) := bL_law_424.2.1
theorem dL_law_426 : decode cL_law 426 = .ok (.invokestatic 180, 3) := bL_law_424.2.2.1
theorem dL_law_429 : decode cL_law 429 = .ok (.istore 5, 2) := bL_law_424.2.2.2.1
theorem dL_law_431 : decode cL_law 431 = .ok (.aload_n 2, 1) := bL_law_424.2.2.2.2.1
theorem dL_law_432 : decode cL_law 432 = .ok (.aload_n 0, 1) := bL_law_424.2.2.2.2.2.1
theorem dL_law_433 : decode cL_law 433 = .ok (.iload 4, 2) := bL_law_424.2.2.2.2.2.2.1
theorem dL_law_435 : decode cL_law 435 = .ok (.iconst 1, 1) := bL_law_424.2.2.2.2.2.2.2.1
theorem dL_law_436 : decode cL_law 436 = .ok (.iadd, 1) := bL_law_424.2.2.2.2.2.2.2.2.1
theorem dL_law_437 : decode cL_law 437 = .ok (.iaload, 1) := bL_law_424.2.2.2.2.2.2.2.2.2.1
theorem dL_law_438 : decode cL_law 438 = .ok (.aload_n 0, 1) := bL_law_424.2.2.2.2.2.2.2.2.2.2.1
theorem dL_law_439 : decode cL_law 439 = .ok (.iload 4, 2) := bL_law_424.2.2.2.2.2.2.2.2.2.2.2.1
theorem dL_law_441 : decode cL_law 441 = .ok (.iconst 2, 1) := bL_law_424.2.2.2.2.2.2.2.2.2.2.2.2.1
theorem dL_law_442 : decode cL_law 442 = .ok (.iadd, 1) := bL_law_424.2.2.2.2.2.2.2.2.2.2.2.2.2.1
theorem dL_law_443 : decode cL_law 443 = .ok (.iaload, 1) := bL_law_424.2.2.2.2.2.2.2.2.2.2.2.2.2.2.1
theorem dL_law_444 : decode cL_law 444 = .ok (.invokevirtual 182, 3) := bL_law_424.2.2.2.2.2.2.2.2.2.2.2.2.2.2.2
set_option maxRecDepth 100000 in
theorem bL_law_447 : (decode cL_law 447 = .ok (.istore 6, 2)) ∧ (decode cL_law 449 = .ok (.goto 1547, 3)) ∧ (decode cL_law 452 = .ok (.aload_n 1, 1)) ∧ (decode cL_law 453 = .ok (.aload_n 0, 1)) ∧ (decode cL_law 454 = .ok (.iload 4, 2)) ∧ (decode cL_law 456 = .ok (.iconst 1, 1)) ∧ (decode cL_law 457 = .ok (.iadd, 1)) ∧ (decode cL_law 458 = .ok (.iaload, 1)) ∧ (decode cL_law 459 = .ok (.aload_n 3, 1)) ∧ (decode cL_law 460 = .ok (.invokestatic 183, 3)) ∧ (decode cL_law 463 = .ok (.istore 5, 2)) ∧ (decode cL_law 465 = .ok (.aload_n 2, 1)) ∧ (decode cL_law 466 = .ok (.aload_n 0, 1)) ∧ (decode cL_law 467 = .ok (.iload 4, 2)) ∧ (decode cL_law 469 = .ok (.iconst 1, 1)) ∧ (decode cL_law 470 = .ok (.iadd, 1)) := by decide +kernel
theorem dL_law_447 : decode cL_law 447 = .ok (.istore 6, 2) := bL_law_447.1
theorem dL_law_449 : decode cL_law 449 = .ok (.goto 1547, 3) := bL_law_447.2.1
theorem dL_law_452 : decode cL_law 452 = .ok (.aload_n 1, 1) := bL_law_447.2.2.1
theorem dL_law_453 : decode cL_law 453 = .ok (.aload_n 0, 1) := bL_law_447.2.2.2.1
theorem dL_law_454 : decode cL_law 454 = .ok (.iload 4, 2) := bL_law_447.2.2.2.2.1
theorem dL_law_456 : decode cL_law 456 = .ok (.iconst 1, 1) := bL_law_447.2.2.2.2.2.1
theorem dL_law_457 : decode cL_law 457 = .ok (.iadd, 1) := bL_law_447.2.2.2.2.2.2.1
theorem dL_law_458 : decode cL_law 458 = .ok (.iaload, 1) := bL_law_447.2.2.2.2.2.2.2.1
theorem dL_law_459 : decode cL_law 459 = .ok (.aload_n 3, 1) := bL_law_447.2.2.2.2.2.2.2.2.1
theorem dL_law_460 : decode cL_law 460 = .ok (.invokestatic 183, 3) := bL_law_447.2.2.2.2.2.2.2.2.2.1
theorem dL_law_463 : decode cL_law 463 = .ok (.istore 5, 2) := bL_law_447.2.2.2.2.2.2.2.2.2.2.1
theorem dL_law_465 : decode cL_law 465 = .ok (.aload_n 2, 1) := bL_law_447.2.2.2.2.2.2.2.2.2.2.2.1
theorem dL_law_466 : decode cL_law 466 = .ok (.aload_n 0, 1) := bL_law_447.2.2.2.2.2.2.2.2.2.2.2.2.1
theorem dL_law_467 : decode cL_law 467 = .ok (.iload 4, 2) := bL_law_447.2.2.2.2.2.2.2.2.2.2.2.2.2.1
theorem dL_law_469 : decode cL_law 469 = .ok (.iconst 1, 1) := bL_law_447.2.2.2.2.2.2.2.2.2.2.2.2.2.2.1
theorem dL_law_470 : decode cL_law 470 = .ok (.iadd, 1) := bL_law_447.2.2.2.2.2.2.2.2.2.2.2.2.2.2.2
set_option maxRecDepth 100000 in
theorem bL_law_471 : (decode cL_law 471 = .ok (.iaload, 1)) ∧ (decode cL_law 472 = .ok (.invokevirtual 186, 3)) ∧ (decode cL_law 475 = .ok (.istore 6, 2)) ∧ (decode cL_law 477 = .ok (.goto 1519, 3)) ∧ (decode cL_law 480 = .ok (.aload_n 1, 1)) ∧ (decode cL_law 481 = .ok (.aload_n 0, 1)) ∧ (decode cL_law 482 = .ok (.iload 4, 2)) ∧ (decode cL_law 484 = .ok (.iconst 1, 1)) ∧ (decode cL_law 485 = .ok (.iadd, 1)) ∧ (decode cL_law 486 = .ok (.iaload, 1)) ∧ (decode cL_law 487 = .ok (.aload_n 0, 1)) ∧ (decode cL_law 488 = .ok (.iload 4, 2)) ∧ (decode cL_law 490 = .ok (.iconst 2, 1)) ∧ (decode cL_law 491 = .ok (.iadd, 1)) ∧ (decode cL_law 492 = .ok (.iaload, 1)) ∧ (decode cL_law 493 = .ok (.aload_n 3, 1)) := by decide +kernel
theorem dL_law_471 : decode cL_law 471 = .ok (.iaload, 1) := bL_law_471.1
theorem dL_law_472 : decode cL_law 472 = .ok (.invokevirtual 186, 3) := bL_law_471.2.1
theorem dL_law_475 : decode cL_law 475 = .ok (.istore 6, 2) := bL_law_471.2.2.1
theorem dL_law_477 : decode cL_law 477 = .ok (.goto 1519, 3) := bL_law_471.2.2.2.1
theorem dL_law_480 : decode cL_law 480 = .ok (.aload_n 1, 1) := bL_law_471.2.2.2.2.1
theorem dL_law_481 : decode cL_law 481 = .ok (.aload_n 0, 1) := bL_law_471.2.2.2.2.2.1
theorem dL_law_482 : decode cL_law 482 = .ok (.iload 4, 2) := bL_law_471.2.2.2.2.2.2.1
theorem dL_law_484 : decode cL_law 484 = .ok (.iconst 1, 1) := bL_law_471.2.2.2.2.2.2.2.1
theorem dL_law_485 : decode cL_law 485 = .ok (.iadd, 1) := bL_law_471.2.2.2.2.2.2.2.2.1
theorem dL_law_486 : decode cL_law 486 = .ok (.iaload, 1) := bL_law_471.2.2.2.2.2.2.2.2.2.1
theorem dL_law_487 : decode cL_law 487 = .ok (.aload_n 0, 1) := bL_law_471.2.2.2.2.2.2.2.2.2.2.1
theorem dL_law_488 : decode cL_law 488 = .ok (.iload 4, 2) := bL_law_471.2.2.2.2.2.2.2.2.2.2.2.1
theorem dL_law_490 : decode cL_law 490 = .ok (.iconst 2, 1) := bL_law_471.2.2.2.2.2.2.2.2.2.2.2.2.1
theorem dL_law_491 : decode cL_law 491 = .ok (.iadd, 1) := bL_law_471.2.2.2.2.2.2.2.2.2.2.2.2.2.1
theorem dL_law_492 : decode cL_law 492 = .ok (.iaload, 1) := bL_law_471.2.2.2.2.2.2.2.2.2.2.2.2.2.2.1
theorem dL_law_493 : decode cL_law 493 = .ok (.aload_n 3, 1) := bL_law_471.2.2.2.2.2.2.2.2.2.2.2.2.2.2.2
set_option maxRecDepth 100000 in
theorem bL_law_494 : (decode cL_law 494 = .ok (.invokestatic 187, 3)) ∧ (decode cL_law 497 = .ok (.istore 5, 2)) ∧ (decode cL_law 499 = .ok (.aload_n 2, 1)) ∧ (decode cL_law 500 = .ok (.aload_n 0, 1)) ∧ (decode cL_law 501 = .ok (.iload 4, 2)) ∧ (decode cL_law 503 = .ok (.iconst 1, 1)) ∧ (decode cL_law 504 = .ok (.iadd, 1)) ∧ (decode cL_law 505 = .ok (.iaload, 1)) ∧ (decode cL_law 506 = .ok (.aload_n 0, 1)) ∧ (decode cL_law 507 = .ok (.iload 4, 2)) ∧ (decode cL_law 509 = .ok (.iconst 2, 1)) ∧ (decode cL_law 510 = .ok (.iadd, 1)) ∧ (decode cL_law 511 = .ok (.iaload, 1)) ∧ (decode cL_law 512 = .ok (.invokevirtual 189, 3)) ∧ (decode cL_law 515 = .ok (.istore 6, 2)) ∧ (decode cL_law 517 = .ok (.goto 1479, 3)) := by decide +kernel
theorem dL_law_494 : decode cL_law 494 = .ok (.invokestatic 187, 3) := bL_law_494.1
theorem dL_law_497 : decode cL_law 497 = .ok (.istore 5, 2) := bL_law_494.2.1
theorem dL_law_499 : decode cL_law 499 = .ok (.aload_n 2, 1) := bL_law_494.2.2.1
theorem dL_law_500 : decode cL_law 500 = .ok (.aload_n 0, 1) := bL_law_494.2.2.2.1
theorem dL_law_501 : decode cL_law 501 = .ok (.iload 4, 2) := bL_law_494.2.2.2.2.1
theorem dL_law_503 : decode cL_law 503 = .ok (.iconst 1, 1) := bL_law_494.2.2.2.2.2.1
theorem dL_law_504 : decode cL_law 504 = .ok (.iadd, 1) := bL_law_494.2.2.2.2.2.2.1
theorem dL_law_505 : decode cL_law 505 = .ok (.iaload, 1) := bL_law_494.2.2.2.2.2.2.2.1
theorem dL_law_506 : decode cL_law 506 = .ok (.aload_n 0, 1) := bL_law_494.2.2.2.2.2.2.2.2.1
theorem dL_law_507 : decode cL_law 507 = .ok (.iload 4, 2) := bL_law_494.2.2.2.2.2.2.2.2.2.1
theorem dL_law_509 : decode cL_law 509 = .ok (.iconst 2, 1) := bL_law_494.2.2.2.2.2.2.2.2.2.2.1
theorem dL_law_510 : decode cL_law 510 = .ok (.iadd, 1) := bL_law_494.2.2.2.2.2.2.2.2.2.2.2.1
theorem dL_law_511 : decode cL_law 511 = .ok (.iaload, 1) := bL_law_494.2.2.2.2.2.2.2.2.2.2.2.2.1
theorem dL_law_512 : decode cL_law 512 = .ok (.invokevirtual 189, 3) := bL_law_494.2.2.2.2.2.2.2.2.2.2.2.2.2.1
theorem dL_law_515 : decode cL_law 515 = .ok (.istore 6, 2) := bL_law_494.2.2.2.2.2.2.2.2.2.2.2.2.2.2.1
theorem dL_law_517 : decode cL_law 517 = .ok (.goto 1479, 3) := bL_law_494.2.2.2.2.2.2.2.2.2.2.2.2.2.2.2
set_option maxRecDepth 100000 in
theorem bL_law_520 : (decode cL_law 520 = .ok (.aload_n 1, 1)) ∧ (decode cL_law 521 = .ok (.aload_n 0, 1)) ∧ (decode cL_law 522 = .ok (.iload 4, 2)) ∧ (decode cL_law 524 = .ok (.iconst 1, 1)) ∧ (decode cL_law 525 = .ok (.iadd, 1)) ∧ (decode cL_law 526 = .ok (.iaload, 1)) ∧ (decode cL_law 527 = .ok (.aload_n 0, 1)) ∧ (decode cL_law 528 = .ok (.iload 4, 2)) ∧ (decode cL_law 530 = .ok (.iconst 2, 1)) ∧ (decode cL_law 531 = .ok (.iadd, 1)) ∧ (decode cL_law 532 = .ok (.iaload, 1)) ∧ (decode cL_law 533 = .ok (.aload_n 0, 1)) ∧ (decode cL_law 534 = .ok (.iload 4, 2)) ∧ (decode cL_law 536 = .ok (.iconst 3, 1)) ∧ (decode cL_law 537 = .ok (.iadd, 1)) ∧ (decode cL_law 538 = .ok (.iaload, 1)) := by decide +kernel
theorem dL_law_520 : decode cL_law 520 = .ok (.aload_n 1, 1) := bL_law_520.1
theorem dL_law_521 : decode cL_law 521 = .ok (.aload_n 0, 1) := bL_law_520.2.1
theorem dL_law_522 : decode cL_law 522 = .ok (.iload 4, 2) := bL_law_520.2.2.1
theorem dL_law_524 : decode cL_law 524 = .ok (.iconst 1, 1) := bL_law_520.2.2.2.1
theorem dL_law_525 : decode cL_law 525 = .ok (.iadd, 1) := bL_law_520.2.2.2.2.1
theorem dL_law_526 : decode cL_law 526 = .ok (.iaload, 1) := bL_law_520.2.2.2.2.2.1
theorem dL_law_527 : decode cL_law 527 = .ok (.aload_n 0, 1) := bL_law_520.2.2.2.2.2.2.1
theorem dL_law_528 : decode cL_law 528 = .ok (.iload 4, 2) := bL_law_520.2.2.2.2.2.2.2.1
theorem dL_law_530 : decode cL_law 530 = .ok (.iconst 2, 1) := bL_law_520.2.2.2.2.2.2.2.2.1
theorem dL_law_531 : decode cL_law 531 = .ok (.iadd, 1) := bL_law_520.2.2.2.2.2.2.2.2.2.1
theorem dL_law_532 : decode cL_law 532 = .ok (.iaload, 1) := bL_law_520.2.2.2.2.2.2.2.2.2.2.1
theorem dL_law_533 : decode cL_law 533 = .ok (.aload_n 0, 1) := bL_law_520.2.2.2.2.2.2.2.2.2.2.2.1
theorem dL_law_534 : decode cL_law 534 = .ok (.iload 4, 2) := bL_law_520.2.2.2.2.2.2.2.2.2.2.2.2.1
theorem dL_law_536 : decode cL_law 536 = .ok (.iconst 3, 1) := bL_law_520.2.2.2.2.2.2.2.2.2.2.2.2.2.1
theorem dL_law_537 : decode cL_law 537 = .ok (.iadd, 1) := bL_law_520.2.2.2.2.2.2.2.2.2.2.2.2.2.2.1
theorem dL_law_538 : decode cL_law 538 = .ok (.iaload, 1) := bL_law_520.2.2.2.2.2.2.2.2.2.2.2.2.2.2.2
set_option maxRecDepth 100000 in
theorem bL_law_539 : (decode cL_law 539 = .ok (.aload_n 3, 1)) ∧ (decode cL_law 540 = .ok (.invokestatic 190, 3)) ∧ (decode cL_law 543 = .ok (.istore 5, 2)) ∧ (decode cL_law 545 = .ok (.aload_n 2, 1)) ∧ (decode cL_law 546 = .ok (.aload_n 0, 1)) ∧ (decode cL_law 547 = .ok (.iload 4, 2)) ∧ (decode cL_law 549 = .ok (.iconst 1, 1)) ∧ (decode cL_law 550 = .ok (.iadd, 1)) ∧ (decode cL_law 551 = .ok (.iaload, 1)) ∧ (decode cL_law 552 = .ok (.aload_n 0, 1)) ∧ (decode cL_law 553 = .ok (.iload 4, 2)) ∧ (decode cL_law 555 = .ok (.iconst 2, 1)) ∧ (decode cL_law 556 = .ok (.iadd, 1)) ∧ (decode cL_law 557 = .ok (.iaload, 1)) ∧ (decode cL_law 558 = .ok (.aload_n 0, 1)) ∧ (decode cL_law 559 = .ok (.iload 4, 2)) := by decide +kernel
theorem dL_law_539 : decode cL_law 539 = .ok (.aload_n 3, 1) := bL_law_539.1
theorem dL_law_540 : decode cL_law 540 = .ok (.invokestatic 190, 3) := bL_law_539.2.1
theorem dL_law_543 : decode cL_law 543 = .ok (.istore 5, 2) := bL_law_539.2.2.1
theorem dL_law_545 : decode cL_law 545 = .ok (.aload_n 2, 1) := bL_law_539.2.2.2.1
theorem dL_law_546 : decode cL_law 546 = .ok (.aload_n 0, 1) := bL_law_539.2.2.2.2.1
theorem dL_law_547 : decode cL_law 547 = .ok (.iload 4, 2) := bL_law_539.2.2.2.2.2.1
theorem dL_law_549 : decode cL_law 549 = .ok (.iconst 1, 1) := bL_law_539.2.2.2.2.2.2.1
theorem dL_law_550 : decode cL_law 550 = .ok (.iadd, 1) := bL_law_539.2.2.2.2.2.2.2.1
theorem dL_law_551 : decode cL_law 551 = .ok (.iaload, 1) := bL_law_539.2.2.2.2.2.2.2.2.1
theorem dL_law_552 : decode cL_law 552 = .ok (.aload_n 0, 1) := bL_law_539.2.2.2.2.2.2.2.2.2.1
theorem dL_law_553 : decode cL_law 553 = .ok (.iload 4, 2) := bL_law_539.2.2.2.2.2.2.2.2.2.2.1
theorem dL_law_555 : decode cL_law 555 = .ok (.iconst 2, 1) := bL_law_539.2.2.2.2.2.2.2.2.2.2.2.1
theorem dL_law_556 : decode cL_law 556 = .ok (.iadd, 1) := bL_law_539.2.2.2.2.2.2.2.2.2.2.2.2.1
theorem dL_law_557 : decode cL_law 557 = .ok (.iaload, 1) := bL_law_539.2.2.2.2.2.2.2.2.2.2.2.2.2.1
theorem dL_law_558 : decode cL_law 558 = .ok (.aload_n 0, 1) := bL_law_539.2.2.2.2.2.2.2.2.2.2.2.2.2.2.1
theorem dL_law_559 : decode cL_law 559 = .ok (.iload 4, 2) := bL_law_539.2.2.2.2.2.2.2.2.2.2.2.2.2.2.2
set_option maxRecDepth 100000 in
theorem bL_law_561 : (decode cL_law 561 = .ok (.iconst 3, 1)) ∧ (decode cL_law 562 = .ok (.iadd, 1)) ∧ (decode cL_law 563 = .ok (.iaload, 1)) ∧ (decode cL_law 564 = .ok (.invokevirtual 192, 3)) ∧ (decode cL_law 567 = .ok (.istore 6, 2)) ∧ (decode cL_law 569 = .ok (.goto 1427, 3)) ∧ (decode cL_law 572 = .ok (.aload_n 1, 1)) ∧ (decode cL_law 573 = .ok (.aload_n 0, 1)) ∧ (decode cL_law 574 = .ok (.iload 4, 2)) ∧ (decode cL_law 576 = .ok (.iconst 1, 1)) ∧ (decode cL_law 577 = .ok (.iadd, 1)) ∧ (decode cL_law 578 = .ok (.iaload, 1)) ∧ (decode cL_law 579 = .ok (.aload_n 3, 1)) ∧ (decode cL_law 580 = .ok (.invokestatic 193, 3)) ∧ (decode cL_law 583 = .ok (.istore 5, 2)) ∧ (decode cL_law 585 = .ok (.aload_n 2, 1)) := by decide +kernel
theorem dL_law_561 : decode cL_law 561 = .ok (.iconst 3, 1) := bL_law_561.1
theorem dL_law_562 : decode cL_law 562 = .ok (.iadd, 1) := bL_law_561.2.1
theorem dL_law_563 : decode cL_law 563 = .ok (.iaload, 1) := bL_law_561.2.2.1
theorem dL_law_564 : decode cL_law 564 = .ok (.invokevirtual 192, 3) := bL_law_561.2.2.2.1
theorem dL_law_567 : decode cL_law 567 = .ok (.istore 6, 2) := bL_law_561.2.2.2.2.1
theorem dL_law_569 : decode cL_law 569 = .ok (.goto 1427, 3) := bL_law_561.2.2.2.2.2.1
theorem dL_law_572 : decode cL_law 572 = .ok (.aload_n 1, 1) := bL_law_561.2.2.2.2.2.2.1
theorem dL_law_573 : decode cL_law 573 = .ok (.aload_n 0, 1) := bL_law_561.2.2.2.2.2.2.2.1
theorem dL_law_574 : decode cL_law 574 = .ok (.iload 4, 2) := bL_law_561.2.2.2.2.2.2.2.2.1
theorem dL_law_576 : decode cL_law 576 = .ok (.iconst 1, 1) := bL_law_561.2.2.2.2.2.2.2.2.2.1
theorem dL_law_577 : decode cL_law 577 = .ok (.iadd, 1) := bL_law_561.2.2.2.2.2.2.2.2.2.2.1
theorem dL_law_578 : decode cL_law 578 = .ok (.iaload, 1) := bL_law_561.2.2.2.2.2.2.2.2.2.2.2.1
theorem dL_law_579 : decode cL_law 579 = .ok (.aload_n 3, 1) := bL_law_561.2.2.2.2.2.2.2.2.2.2.2.2.1
theorem dL_law_580 : decode cL_law 580 = .ok (.invokestatic 193, 3) := bL_law_561.2.2.2.2.2.2.2.2.2.2.2.2.2.1
theorem dL_law_583 : decode cL_law 583 = .ok (.istore 5, 2) := bL_law_561.2.2.2.2.2.2.2.2.2.2.2.2.2.2.1
theorem dL_law_585 : decode cL_law 585 = .ok (.aload_n 2, 1) := bL_law_561.2.2.2.2.2.2.2.2.2.2.2.2.2.2.2
set_option maxRecDepth 100000 in
theorem bL_law_586 : (decode cL_law 586 = .ok (.aload_n 0, 1)) ∧ (decode cL_law 587 = .ok (.iload 4, 2)) ∧ (decode cL_law 589 = .ok (.iconst 1, 1)) ∧ (decode cL_law 590 = .ok (.iadd, 1)) ∧ (decode cL_law 591 = .ok (.iaload, 1)) ∧ (decode cL_law 592 = .ok (.invokevirtual 195, 3)) ∧ (decode cL_law 595 = .ok (.istore 6, 2)) ∧ (decode cL_law 597 = .ok (.goto 1399, 3)) ∧ (decode cL_law 600 = .ok (.aload_n 1, 1)) ∧ (decode cL_law 601 = .ok (.aload_n 0, 1)) ∧ (decode cL_law 602 = .ok (.iload 4, 2)) ∧ (decode cL_law 604 = .ok (.iconst 1, 1)) ∧ (decode cL_law 605 = .ok (.iadd, 1)) ∧ (decode cL_law 606 = .ok (.iaload, 1)) ∧ (decode cL_law 607 = .ok (.aload_n 0, 1)) ∧ (decode cL_law 608 = .ok (.iload 4, 2)) := by decide +kernel
theorem dL_law_586 : decode cL_law 586 = .ok (.aload_n 0, 1) := bL_law_586.1
theorem dL_law_587 : decode cL_law 587 = .ok (.iload 4, 2) := bL_law_586.2.1
theorem dL_law_589 : decode cL_law 589 = .ok (.iconst 1, 1) := bL_law_586.2.2.1
theorem dL_law_590 : decode cL_law 590 = .ok (.iadd, 1) := bL_law_586.2.2.2.1
theorem dL_law_591 : decode cL_law 591 = .ok (.iaload, 1) := bL_law_586.2.2.2.2.1
theorem dL_law_592 : decode cL_law 592 = .ok (.invokevirtual 195, 3) := bL_law_586.2.2.2.2.2.1
theorem dL_law_595 : decode cL_law 595 = .ok (.istore 6, 2) := bL_law_586.2.2.2.2.2.2.1
theorem dL_law_597 : decode cL_law 597 = .ok (.goto 1399, 3) := bL_law_586.2.2.2.2.2.2.2.1
theorem dL_law_600 : decode cL_law 600 = .ok (.aload_n 1, 1) := bL_law_586.2.2.2.2.2.2.2.2.1
theorem dL_law_601 : decode cL_law 601 = .ok (.aload_n 0, 1) := bL_law_586.2.2.2.2.2.2.2.2.2.1
theorem dL_law_602 : decode cL_law 602 = .ok (.iload 4, 2) := bL_law_586.2.2.2.2.2.2.2.2.2.2.1
theorem dL_law_604 : decode cL_law 604 = .ok (.iconst 1, 1) := bL_law_586.2.2.2.2.2.2.2.2.2.2.2.1
theorem dL_law_605 : decode cL_law 605 = .ok (.iadd, 1) := bL_law_586.2.2.2.2.2.2.2.2.2.2.2.2.1
theorem dL_law_606 : decode cL_law 606 = .ok (.iaload, 1) := bL_law_586.2.2.2.2.2.2.2.2.2.2.2.2.2.1
theorem dL_law_607 : decode cL_law 607 = .ok (.aload_n 0, 1) := bL_law_586.2.2.2.2.2.2.2.2.2.2.2.2.2.2.1
theorem dL_law_608 : decode cL_law 608 = .ok (.iload 4, 2) := bL_law_586.2.2.2.2.2.2.2.2.2.2.2.2.2.2.2
set_option maxRecDepth 100000 in
theorem bL_law_610 : (decode cL_law 610 = .ok (.iconst 2, 1)) ∧ (decode cL_law 611 = .ok (.iadd, 1)) ∧ (decode cL_law 612 = .ok (.iaload, 1)) ∧ (decode cL_law 613 = .ok (.aload_n 3, 1)) ∧ (decode cL_law 614 = .ok (.invokestatic 196, 3)) ∧ (decode cL_law 617 = .ok (.istore 5, 2)) ∧ (decode cL_law 619 = .ok (.aload_n 2, 1)) ∧ (decode cL_law 620 = .ok (.aload_n 0, 1)) ∧ (decode cL_law 621 = .ok (.iload 4, 2)) ∧ (decode cL_law 623 = .ok (.iconst 1, 1)) ∧ (decode cL_law 624 = .ok (.iadd, 1)) ∧ (decode cL_law 625 = .ok (.iaload, 1)) ∧ (decode cL_law 626 = .ok (.aload_n 0, 1)) ∧ (decode cL_law 627 = .ok (.iload 4, 2)) ∧ (decode cL_law 629 = .ok (.iconst 2, 1)) ∧ (decode cL_law 630 = .ok (.iadd, 1)) := by decide +kernel
theorem dL_law_610 : decode cL_law 610 = .ok (.iconst 2, 1) := bL_law_610.1
theorem dL_law_611 : decode cL_law 611 = .ok (.iadd, 1) := bL_law_610.2.1
theorem dL_law_612 : decode cL_law 612 = .ok (.iaload, 1) := bL_law_610.2.2.1
theorem dL_law_613 : decode cL_law 613 = .ok (.aload_n 3, 1) := bL_law_610.2.2.2.1
theorem dL_law_614 : decode cL_law 614 = .ok (.invokestatic 196, 3) := bL_law_610.2.2.2.2.1
theorem dL_law_617 : decode cL_law 617 = .ok (.istore 5, 2) := bL_law_610.2.2.2.2.2.1
theorem dL_law_619 : decode cL_law 619 = .ok (.aload_n 2, 1) := bL_law_610.2.2.2.2.2.2.1
theorem dL_law_620 : decode cL_law 620 = .ok (.aload_n 0, 1) := bL_law_610.2.2.2.2.2.2.2.1
theorem dL_law_621 : decode cL_law 621 = .ok (.iload 4, 2) := bL_law_610.2.2.2.2.2.2.2.2.1
theorem dL_law_623 : decode cL_law 623 = .ok (.iconst 1, 1) := bL_law_610.2.2.2.2.2.2.2.2.2.1
theorem dL_law_624 : decode cL_law 624 = .ok (.iadd, 1) := bL_law_610.2.2.2.2.2.2.2.2.2.2.1
theorem dL_law_625 : decode cL_law 625 = .ok (.iaload, 1) := bL_law_610.2.2.2.2.2.2.2.2.2.2.2.1
theorem dL_law_626 : decode cL_law 626 = .ok (.aload_n 0, 1) := bL_law_610.2.2.2.2.2.2.2.2.2.2.2.2.1
theorem dL_law_627 : decode cL_law 627 = .ok (.iload 4, 2) := bL_law_610.2.2.2.2.2.2.2.2.2.2.2.2.2.1
theorem dL_law_629 : decode cL_law 629 = .ok (.iconst 2, 1) := bL_law_610.2.2.2.2.2.2.2.2.2.2.2.2.2.2.1
theorem dL_law_630 : decode cL_law 630 = .ok (.iadd, 1) := bL_law_610.2.2.2.2.2.2.2.2.2.2.2.2.2.2.2
set_option maxRecDepth 100000 in
theorem bL_law_631 : (decode cL_law 631 = .ok (.iaload, 1)) ∧ (decode cL_law 632 = .ok (.invokevirtual 198, 3)) ∧ (decode cL_law 635 = .ok (.istore 6, 2)) ∧ (decode cL_law 637 = .ok (.goto 1359, 3)) ∧ (decode cL_law 640 = .ok (.aload_n 1, 1)) ∧ (decode cL_law 641 = .ok (.aload_n 0, 1)) ∧ (decode cL_law 642 = .ok (.iload 4, 2)) ∧ (decode cL_law 644 = .ok (.iconst 1, 1)) ∧ (decode cL_law 645 = .ok (.iadd, 1)) ∧ (decode cL_law 646 = .ok (.iaload, 1)) ∧ (decode cL_law 647 = .ok (.aload_n 0, 1)) ∧ (decode cL_law 648 = .ok (.iload 4, 2)) ∧ (decode cL_law 650 = .ok (.iconst 2, 1)) ∧ (decode cL_law 651 = .ok (.iadd, 1)) ∧ (decode cL_law 652 = .ok (.iaload, 1)) ∧ (decode cL_law 653 = .ok (.aload_n 0, 1)) := by decide +kernel
theorem dL_law_631 : decode cL_law 631 = .ok (.iaload, 1) := bL_law_631.1
theorem dL_law_632 : decode cL_law 632 = .ok (.invokevirtual 198, 3) := bL_law_631.2.1
theorem dL_law_635 : decode cL_law 635 = .ok (.istore 6, 2) := bL_law_631.2.2.1
theorem dL_law_637 : decode cL_law 637 = .ok (.goto 1359, 3) := bL_law_631.2.2.2.1
theorem dL_law_640 : decode cL_law 640 = .ok (.aload_n 1, 1) := bL_law_631.2.2.2.2.1
theorem dL_law_641 : decode cL_law 641 = .ok (.aload_n 0, 1) := bL_law_631.2.2.2.2.2.1
theorem dL_law_642 : decode cL_law 642 = .ok (.iload 4, 2) := bL_law_631.2.2.2.2.2.2.1
theorem dL_law_644 : decode cL_law 644 = .ok (.iconst 1, 1) := bL_law_631.2.2.2.2.2.2.2.1
theorem dL_law_645 : decode cL_law 645 = .ok (.iadd, 1) := bL_law_631.2.2.2.2.2.2.2.2.1
theorem dL_law_646 : decode cL_law 646 = .ok (.iaload, 1) := bL_law_631.2.2.2.2.2.2.2.2.2.1
theorem dL_law_647 : decode cL_law 647 = .ok (.aload_n 0, 1) := bL_law_631.2.2.2.2.2.2.2.2.2.2.1
theorem dL_law_648 : decode cL_law 648 = .ok (.iload 4, 2) := bL_law_631.2.2.2.2.2.2.2.2.2.2.2.1
theorem dL_law_650 : decode cL_law 650 = .ok (.iconst 2, 1) := bL_law_631.2.2.2.2.2.2.2.2.2.2.2.2.1
theorem dL_law_651 : decode cL_law 651 = .ok (.iadd, 1) := bL_law_631.2.2.2.2.2.2.2.2.2.2.2.2.2.1
theorem dL_law_652 : decode cL_law 652 = .ok (.iaload, 1) := bL_law_631.2.2.2.2.2.2.2.2.2.2.2.2.2.2.1
theorem dL_law_653 : decode cL_law 653 = .ok (.aload_n 0, 1) := bL_law_631.2.2.2.2.2.2.2.2.2.2.2.2.2.2.2
set_option maxRecDepth 100000 in
theorem bL_law_654 : (decode cL_law 654 = .ok (.iload 4, 2)) ∧ (decode cL_law 656 = .ok (.iconst 3, 1)) ∧ (decode cL_law 657 = .ok (.iadd, 1)) ∧ (decode cL_law 658 = .ok (.iaload, 1)) ∧ (decode cL_law 659 = .ok (.aload_n 3, 1)) ∧ (decode cL_law 660 = .ok (.invokestatic 199, 3)) ∧ (decode cL_law 663 = .ok (.istore 5, 2)) ∧ (decode cL_law 665 = .ok (.aload_n 2, 1)) ∧ (decode cL_law 666 = .ok (.aload_n 0, 1)) ∧ (decode cL_law 667 = .ok (.iload 4, 2)) ∧ (decode cL_law 669 = .ok (.iconst 1, 1)) ∧ (decode cL_law 670 = .ok (.iadd, 1)) ∧ (decode cL_law 671 = .ok (.iaload, 1)) ∧ (decode cL_law 672 = .ok (.aload_n 0, 1)) ∧ (decode cL_law 673 = .ok (.iload 4, 2)) ∧ (decode cL_law 675 = .ok (.iconst 2, 1)) := by decide +kernel
theorem dL_law_654 : decode cL_law 654 = .ok (.iload 4, 2) := bL_law_654.1
theorem dL_law_656 : decode cL_law 656 = .ok (.iconst 3, 1) := bL_law_654.2.1
theorem dL_law_657 : decode cL_law 657 = .ok (.iadd, 1) := bL_law_654.2.2.1
theorem dL_law_658 : decode cL_law 658 = .ok (.iaload, 1) := bL_law_654.2.2.2.1
theorem dL_law_659 : decode cL_law 659 = .ok (.aload_n 3, 1) := bL_law_654.2.2.2.2.1
theorem dL_law_660 : decode cL_law 660 = .ok (.invokestatic 199, 3) := bL_law_654.2.2.2.2.2.1
theorem dL_law_663 : decode cL_law 663 = .ok (.istore 5, 2) := bL_law_654.2.2.2.2.2.2.1
theorem dL_law_665 : decode cL_law 665 = .ok (.aload_n 2, 1) := bL_law_654.2.2.2.2.2.2.2.1
theorem dL_law_666 : decode cL_law 666 = .ok (.aload_n 0, 1) := bL_law_654.2.2.2.2.2.2.2.2.1
theorem dL_law_667 : decode cL_law 667 = .ok (.iload 4, 2) := bL_law_654.2.2.2.2.2.2.2.2.2.1
theorem dL_law_669 : decode cL_law 669 = .ok (.iconst 1, 1) := bL_law_654.2.2.2.2.2.2.2.2.2.2.1
theorem dL_law_670 : decode cL_law 670 = .ok (.iadd, 1) := bL_law_654.2.2.2.2.2.2.2.2.2.2.2.1
theorem dL_law_671 : decode cL_law 671 = .ok (.iaload, 1) := bL_law_654.2.2.2.2.2.2.2.2.2.2.2.2.1
theorem dL_law_672 : decode cL_law 672 = .ok (.aload_n 0, 1) := bL_law_654.2.2.2.2.2.2.2.2.2.2.2.2.2.1
theorem dL_law_673 : decode cL_law 673 = .ok (.iload 4, 2) := bL_law_654.2.2.2.2.2.2.2.2.2.2.2.2.2.2.1
theorem dL_law_675 : decode cL_law 675 = .ok (.iconst 2, 1) := bL_law_654.2.2.2.2.2.2.2.2.2.2.2.2.2.2.2
set_option maxRecDepth 100000 in
theorem bL_law_676 : (decode cL_law 676 = .ok (.iadd, 1)) ∧ (decode cL_law 677 = .ok (.iaload, 1)) ∧ (decode cL_law 678 = .ok (.aload_n 0, 1)) ∧ (decode cL_law 679 = .ok (.iload 4, 2)) ∧ (decode cL_law 681 = .ok (.iconst 3, 1)) ∧ (decode cL_law 682 = .ok (.iadd, 1)) ∧ (decode cL_law 683 = .ok (.iaload, 1)) ∧ (decode cL_law 684 = .ok (.invokevirtual 201, 3)) ∧ (decode cL_law 687 = .ok (.istore 6, 2)) ∧ (decode cL_law 689 = .ok (.goto 1307, 3)) ∧ (decode cL_law 692 = .ok (.aload_n 1, 1)) ∧ (decode cL_law 693 = .ok (.aload_n 0, 1)) ∧ (decode cL_law 694 = .ok (.iload 4, 2)) ∧ (decode cL_law 696 = .ok (.iconst 1, 1)) ∧ (decode cL_law 697 = .ok (.iadd, 1)) ∧ (decode cL_law 698 = .ok (.iaload, 1)) := by decide +kernel
theorem dL_law_676 : decode cL_law 676 = .ok (.iadd, 1) := bL_law_676.1
theorem dL_law_677 : decode cL_law 677 = .ok (.iaload, 1) := bL_law_676.2.1
theorem dL_law_678 : decode cL_law 678 = .ok (.aload_n 0, 1) := bL_law_676.2.2.1
theorem dL_law_679 : decode cL_law 679 = .ok (.iload 4, 2) := bL_law_676.2.2.2.1
theorem dL_law_681 : decode cL_law 681 = .ok (.iconst 3, 1) := bL_law_676.2.2.2.2.1
theorem dL_law_682 : decode cL_law 682 = .ok (.iadd, 1) := bL_law_676.2.2.2.2.2.1
theorem dL_law_683 : decode cL_law 683 = .ok (.iaload, 1) := bL_law_676.2.2.2.2.2.2.1
theorem dL_law_684 : decode cL_law 684 = .ok (.invokevirtual 201, 3) := bL_law_676.2.2.2.2.2.2.2.1
theorem dL_law_687 : decode cL_law 687 = .ok (.istore 6, 2) := bL_law_676.2.2.2.2.2.2.2.2.1
theorem dL_law_689 : decode cL_law 689 = .ok (.goto 1307, 3) := bL_law_676.2.2.2.2.2.2.2.2.2.1
theorem dL_law_692 : decode cL_law 692 = .ok (.aload_n 1, 1) := bL_law_676.2.2.2.2.2.2.2.2.2.2.1
theorem dL_law_693 : decode cL_law 693 = .ok (.aload_n 0, 1) := bL_law_676.2.2.2.2.2.2.2.2.2.2.2.1
theorem dL_law_694 : decode cL_law 694 = .ok (.iload 4, 2) := bL_law_676.2.2.2.2.2.2.2.2.2.2.2.2.1
theorem dL_law_696 : decode cL_law 696 = .ok (.iconst 1, 1) := bL_law_676.2.2.2.2.2.2.2.2.2.2.2.2.2.1
theorem dL_law_697 : decode cL_law 697 = .ok (.iadd, 1) := bL_law_676.2.2.2.2.2.2.2.2.2.2.2.2.2.2.1
theorem dL_law_698 : decode cL_law 698 = .ok (.iaload, 1) := bL_law_676.2.2.2.2.2.2.2.2.2.2.2.2.2.2.2
set_option maxRecDepth 100000 in
theorem bL_law_699 : (decode cL_law 699 = .ok (.aload_n 3, 1)) ∧ (decode cL_law 700 = .ok (.invokestatic 202, 3)) ∧ (decode cL_law 703 = .ok (.istore 5, 2)) ∧ (decode cL_law 705 = .ok (.aload_n 2, 1)) ∧ (decode cL_law 706 = .ok (.aload_n 0, 1)) ∧ (decode cL_law 707 = .ok (.iload 4, 2)) ∧ (decode cL_law 709 = .ok (.iconst 1, 1)) ∧ (decode cL_law 710 = .ok (.iadd, 1)) ∧ (decode cL_law 711 = .ok (.iaload, 1)) ∧ (decode cL_law 712 = .ok (.invokevirtual 204, 3)) ∧ (decode cL_law 715 = .ok (.istore 6, 2)) ∧ (decode cL_law 717 = .ok (.goto 1279, 3)) ∧ (decode cL_law 720 = .ok (.aload_n 1, 1)) ∧ (decode cL_law 721 = .ok (.aload_n 0, 1)) ∧ (decode cL_law 722 = .ok (.iload 4, 2)) ∧ (decode cL_law 724 = .ok (.iconst 1, 1)) := by decide +kernel
theorem dL_law_699 : decode cL_law 699 = .ok (.aload_n 3, 1) := bL_law_699.1
theorem dL_law_700 : decode cL_law 700 = .ok (.invokestatic 202, 3) := bL_law_699.2.1
theorem dL_law_703 : decode cL_law 703 = .ok (.istore 5, 2) := bL_law_699.2.2.1
theorem dL_law_705 : decode cL_law 705 = .ok (.aload_n 2, 1) := bL_law_699.2.2.2.1
theorem dL_law_706 : decode cL_law 706 = .ok (.aload_n 0, 1) := bL_law_699.2.2.2.2.1
theorem dL_law_707 : decode cL_law 707 = .ok (.iload 4, 2) := bL_law_699.2.2.2.2.2.1
theorem dL_law_709 : decode cL_law 709 = .ok (.iconst 1, 1) := bL_law_699.2.2.2.2.2.2.1
theorem dL_law_710 : decode cL_law 710 = .ok (.iadd, 1) := bL_law_699.2.2.2.2.2.2.2.1
theorem dL_law_711 : decode cL_law 711 = .ok (.iaload, 1) := bL_law_699.2.2.2.2.2.2.2.2.1
theorem dL_law_712 : decode cL_law 712 = .ok (.invokevirtual 204, 3) := bL_law_699.2.2.2.2.2.2.2.2.2.1
theorem dL_law_715 : decode cL_law 715 = .ok (.istore 6, 2) := bL_law_699.2.2.2.2.2.2.2.2.2.2.1
theorem dL_law_717 : decode cL_law 717 = .ok (.goto 1279, 3) := bL_law_699.2.2.2.2.2.2.2.2.2.2.2.1
theorem dL_law_720 : decode cL_law 720 = .ok (.aload_n 1, 1) := bL_law_699.2.2.2.2.2.2.2.2.2.2.2.2.1
theorem dL_law_721 : decode cL_law 721 = .ok (.aload_n 0, 1) := bL_law_699.2.2.2.2.2.2.2.2.2.2.2.2.2.1
theorem dL_law_722 : decode cL_law 722 = .ok (.iload 4, 2) := bL_law_699.2.2.2.2.2.2.2.2.2.2.2.2.2.2.1
theorem dL_law_724 : decode cL_law 724 = .ok (.iconst 1, 1) := bL_law_699.2.2.2.2.2.2.2.2.2.2.2.2.2.2.2
set_option maxRecDepth 100000 in
theorem bL_law_725 : (decode cL_law 725 = .ok (.iadd, 1)) ∧ (decode cL_law 726 = .ok (.iaload, 1)) ∧ (decode cL_law 727 = .ok (.aload_n 0, 1)) ∧ (decode cL_law 728 = .ok (.iload 4, 2)) ∧ (decode cL_law 730 = .ok (.iconst 2, 1)) ∧ (decode cL_law 731 = .ok (.iadd, 1)) ∧ (decode cL_law 732 = .ok (.iaload, 1)) ∧ (decode cL_law 733 = .ok (.aload_n 3, 1)) ∧ (decode cL_law 734 = .ok (.invokestatic 205, 3)) ∧ (decode cL_law 737 = .ok (.istore 5, 2)) ∧ (decode cL_law 739 = .ok (.aload_n 2, 1)) ∧ (decode cL_law 740 = .ok (.aload_n 0, 1)) ∧ (decode cL_law 741 = .ok (.iload 4, 2)) ∧ (decode cL_law 743 = .ok (.iconst 1, 1)) ∧ (decode cL_law 744 = .ok (.iadd, 1)) ∧ (decode cL_law 745 = .ok (.iaload, 1)) := by decide +kernel
theorem dL_law_725 : decode cL_law 725 = .ok (.iadd, 1) := bL_law_725.1
theorem dL_law_726 : decode cL_law 726 = .ok (.iaload, 1) := bL_law_725.2.1
theorem dL_law_727 : decode cL_law 727 = .ok (.aload_n 0, 1) := bL_law_725.2.2.1
theorem dL_law_728 : decode cL_law 728 = .ok (.iload 4, 2) := bL_law_725.2.2.2.1
theorem dL_law_730 : decode cL_law 730 = .ok (.iconst 2, 1) := bL_law_725.2.2.2.2.1
theorem dL_law_731 : decode cL_law 731 = .ok (.iadd, 1) := bL_law_725.2.2.2.2.2.1
theorem dL_law_732 : decode cL_law 732 = .ok (.iaload, 1) := bL_law_725.2.2.2.2.2.2.1
theorem dL_law_733 : decode cL_law 733 = .ok (.aload_n 3, 1) := bL_law_725.2.2.2.2.2.2.2.1
theorem dL_law_734 : decode cL_law 734 = .ok (.invokestatic 205, 3) := bL_law_725.2.2.2.2.2.2.2.2.1
theorem dL_law_737 : decode cL_law 737 = .ok (.istore 5, 2) := bL_law_725.2.2.2.2.2.2.2.2.2.1
theorem dL_law_739 : decode cL_law 739 = .ok (.aload_n 2, 1) := bL_law_725.2.2.2.2.2.2.2.2.2.2.1
theorem dL_law_740 : decode cL_law 740 = .ok (.aload_n 0, 1) := bL_law_725.2.2.2.2.2.2.2.2.2.2.2.1
theorem dL_law_741 : decode cL_law 741 = .ok (.iload 4, 2) := bL_law_725.2.2.2.2.2.2.2.2.2.2.2.2.1
theorem dL_law_743 : decode cL_law 743 = .ok (.iconst 1, 1) := bL_law_725.2.2.2.2.2.2.2.2.2.2.2.2.2.1
theorem dL_law_744 : decode cL_law 744 = .ok (.iadd, 1) := bL_law_725.2.2.2.2.2.2.2.2.2.2.2.2.2.2.1
theorem dL_law_745 : decode cL_law 745 = .ok (.iaload, 1) := bL_law_725.2.2.2.2.2.2.2.2.2.2.2.2.2.2.2
set_option maxRecDepth 100000 in
theorem bL_law_746 : (decode cL_law 746 = .ok (.aload_n 0, 1)) ∧ (decode cL_law 747 = .ok (.iload 4, 2)) ∧ (decode cL_law 749 = .ok (.iconst 2, 1)) ∧ (decode cL_law 750 = .ok (.iadd, 1)) ∧ (decode cL_law 751 = .ok (.iaload, 1)) ∧ (decode cL_law 752 = .ok (.invokevirtual 207, 3)) ∧ (decode cL_law 755 = .ok (.istore 6, 2)) ∧ (decode cL_law 757 = .ok (.goto 1239, 3)) ∧ (decode cL_law 760 = .ok (.aload_n 1, 1)) ∧ (decode cL_law 761 = .ok (.aload_n 0, 1)) ∧ (decode cL_law 762 = .ok (.iload 4, 2)) ∧ (decode cL_law 764 = .ok (.iconst 1, 1)) ∧ (decode cL_law 765 = .ok (.iadd, 1)) ∧ (decode cL_law 766 = .ok (.iaload, 1)) ∧ (decode cL_law 767 = .ok (.aload_n 0, 1)) ∧ (decode cL_law 768 = .ok (.iload 4, 2)) := by decide +kernel
theorem dL_law_746 : decode cL_law 746 = .ok (.aload_n 0, 1) := bL_law_746.1
theorem dL_law_747 : decode cL_law 747 = .ok (.iload 4, 2) := bL_law_746.2.1
theorem dL_law_749 : decode cL_law 749 = .ok (.iconst 2, 1) := bL_law_746.2.2.1
theorem dL_law_750 : decode cL_law 750 = .ok (.iadd, 1) := bL_law_746.2.2.2.1
theorem dL_law_751 : decode cL_law 751 = .ok (.iaload, 1) := bL_law_746.2.2.2.2.1
theorem dL_law_752 : decode cL_law 752 = .ok (.invokevirtual 207, 3) := bL_law_746.2.2.2.2.2.1
theorem dL_law_755 : decode cL_law 755 = .ok (.istore 6, 2) := bL_law_746.2.2.2.2.2.2.1
theorem dL_law_757 : decode cL_law 757 = .ok (.goto 1239, 3) := bL_law_746.2.2.2.2.2.2.2.1
theorem dL_law_760 : decode cL_law 760 = .ok (.aload_n 1, 1) := bL_law_746.2.2.2.2.2.2.2.2.1
theorem dL_law_761 : decode cL_law 761 = .ok (.aload_n 0, 1) := bL_law_746.2.2.2.2.2.2.2.2.2.1
theorem dL_law_762 : decode cL_law 762 = .ok (.iload 4, 2) := bL_law_746.2.2.2.2.2.2.2.2.2.2.1
theorem dL_law_764 : decode cL_law 764 = .ok (.iconst 1, 1) := bL_law_746.2.2.2.2.2.2.2.2.2.2.2.1
theorem dL_law_765 : decode cL_law 765 = .ok (.iadd, 1) := bL_law_746.2.2.2.2.2.2.2.2.2.2.2.2.1
theorem dL_law_766 : decode cL_law 766 = .ok (.iaload, 1) := bL_law_746.2.2.2.2.2.2.2.2.2.2.2.2.2.1
theorem dL_law_767 : decode cL_law 767 = .ok (.aload_n 0, 1) := bL_law_746.2.2.2.2.2.2.2.2.2.2.2.2.2.2.1
theorem dL_law_768 : decode cL_law 768 = .ok (.iload 4, 2) := bL_law_746.2.2.2.2.2.2.2.2.2.2.2.2.2.2.2
set_option maxRecDepth 100000 in
theorem bL_law_770 : (decode cL_law 770 = .ok (.iconst 2, 1)) ∧ (decode cL_law 771 = .ok (.iadd, 1)) ∧ (decode cL_law 772 = .ok (.iaload, 1)) ∧ (decode cL_law 773 = .ok (.aload_n 3, 1)) ∧ (decode cL_law 774 = .ok (.invokestatic 208, 3)) ∧ (decode cL_law 777 = .ok (.istore 5, 2)) ∧ (decode cL_law 779 = .ok (.aload_n 2, 1)) ∧ (decode cL_law 780 = .ok (.aload_n 0, 1)) ∧ (decode cL_law 781 = .ok (.iload 4, 2)) ∧ (decode cL_law 783 = .ok (.iconst 1, 1)) ∧ (decode cL_law 784 = .ok (.iadd, 1)) ∧ (decode cL_law 785 = .ok (.iaload, 1)) ∧ (decode cL_law 786 = .ok (.aload_n 0, 1)) ∧ (decode cL_law 787 = .ok (.iload 4, 2)) ∧ (decode cL_law 789 = .ok (.iconst 2, 1)) ∧ (decode cL_law 790 = .ok (.iadd, 1)) := by decide +kernel
theorem dL_law_770 : decode cL_law 770 = .ok (.iconst 2, 1) := bL_law_770.1
theorem dL_law_771 : decode cL_law 771 = .ok (.iadd, 1) := bL_law_770.2.1
theorem dL_law_772 : decode cL_law 772 = .ok (.iaload, 1) := bL_law_770.2.2.1
theorem dL_law_773 : decode cL_law 773 = .ok (.aload_n 3, 1) := bL_law_770.2.2.2.1
theorem dL_law_774 : decode cL_law 774 = .ok (.invokestatic 208, 3) := bL_law_770.2.2.2.2.1
theorem dL_law_777 : decode cL_law 777 = .ok (.istore 5, 2) := bL_law_770.2.2.2.2.2.1
theorem dL_law_779 : decode cL_law 779 = .ok (.aload_n 2, 1) := bL_law_770.2.2.2.2.2.2.1
theorem dL_law_780 : decode cL_law 780 = .ok (.aload_n 0, 1) := bL_law_770.2.2.2.2.2.2.2.1
theorem dL_law_781 : decode cL_law 781 = .ok (.iload 4, 2) := bL_law_770.2.2.2.2.2.2.2.2.1
theorem dL_law_783 : decode cL_law 783 = .ok (.iconst 1, 1) := bL_law_770.2.2.2.2.2.2.2.2.2.1
theorem dL_law_784 : decode cL_law 784 = .ok (.iadd, 1) := bL_law_770.2.2.2.2.2.2.2.2.2.2.1
theorem dL_law_785 : decode cL_law 785 = .ok (.iaload, 1) := bL_law_770.2.2.2.2.2.2.2.2.2.2.2.1
theorem dL_law_786 : decode cL_law 786 = .ok (.aload_n 0, 1) := bL_law_770.2.2.2.2.2.2.2.2.2.2.2.2.1
theorem dL_law_787 : decode cL_law 787 = .ok (.iload 4, 2) := bL_law_770.2.2.2.2.2.2.2.2.2.2.2.2.2.1
theorem dL_law_789 : decode cL_law 789 = .ok (.iconst 2, 1) := bL_law_770.2.2.2.2.2.2.2.2.2.2.2.2.2.2.1
theorem dL_law_790 : decode cL_law 790 = .ok (.iadd, 1) := bL_law_770.2.2.2.2.2.2.2.2.2.2.2.2.2.2.2
set_option maxRecDepth 100000 in
theorem bL_law_791 : (decode cL_law 791 = .ok (.iaload, 1)) ∧ (decode cL_law 792 = .ok (.invokevirtual 210, 3)) ∧ (decode cL_law 795 = .ok (.istore 6, 2)) ∧ (decode cL_law 797 = .ok (.goto 1199, 3)) ∧ (decode cL_law 800 = .ok (.aload_n 1, 1)) ∧ (decode cL_law 801 = .ok (.aload_n 0, 1)) ∧ (decode cL_law 802 = .ok (.iload 4, 2)) ∧ (decode cL_law 804 = .ok (.iconst 1, 1)) ∧ (decode cL_law 805 = .ok (.iadd, 1)) ∧ (decode cL_law 806 = .ok (.iaload, 1)) ∧ (decode cL_law 807 = .ok (.aload_n 0, 1)) ∧ (decode cL_law 808 = .ok (.iload 4, 2)) ∧ (decode cL_law 810 = .ok (.iconst 2, 1)) ∧ (decode cL_law 811 = .ok (.iadd, 1)) ∧ (decode cL_law 812 = .ok (.iaload, 1)) ∧ (decode cL_law 813 = .ok (.aload_n 3, 1)) := by decide +kernel
theorem dL_law_791 : decode cL_law 791 = .ok (.iaload, 1) := bL_law_791.1
theorem dL_law_792 : decode cL_law 792 = .ok (.invokevirtual 210, 3) := bL_law_791.2.1
theorem dL_law_795 : decode cL_law 795 = .ok (.istore 6, 2) := bL_law_791.2.2.1
theorem dL_law_797 : decode cL_law 797 = .ok (.goto 1199, 3) := bL_law_791.2.2.2.1
theorem dL_law_800 : decode cL_law 800 = .ok (.aload_n 1, 1) := bL_law_791.2.2.2.2.1
theorem dL_law_801 : decode cL_law 801 = .ok (.aload_n 0, 1) := bL_law_791.2.2.2.2.2.1
theorem dL_law_802 : decode cL_law 802 = .ok (.iload 4, 2) := bL_law_791.2.2.2.2.2.2.1
theorem dL_law_804 : decode cL_law 804 = .ok (.iconst 1, 1) := bL_law_791.2.2.2.2.2.2.2.1
theorem dL_law_805 : decode cL_law 805 = .ok (.iadd, 1) := bL_law_791.2.2.2.2.2.2.2.2.1
theorem dL_law_806 : decode cL_law 806 = .ok (.iaload, 1) := bL_law_791.2.2.2.2.2.2.2.2.2.1
theorem dL_law_807 : decode cL_law 807 = .ok (.aload_n 0, 1) := bL_law_791.2.2.2.2.2.2.2.2.2.2.1
theorem dL_law_808 : decode cL_law 808 = .ok (.iload 4, 2) := bL_law_791.2.2.2.2.2.2.2.2.2.2.2.1
theorem dL_law_810 : decode cL_law 810 = .ok (.iconst 2, 1) := bL_law_791.2.2.2.2.2.2.2.2.2.2.2.2.1
theorem dL_law_811 : decode cL_law 811 = .ok (.iadd, 1) := bL_law_791.2.2.2.2.2.2.2.2.2.2.2.2.2.1
theorem dL_law_812 : decode cL_law 812 = .ok (.iaload, 1) := bL_law_791.2.2.2.2.2.2.2.2.2.2.2.2.2.2.1
theorem dL_law_813 : decode cL_law 813 = .ok (.aload_n 3, 1) := bL_law_791.2.2.2.2.2.2.2.2.2.2.2.2.2.2.2
set_option maxRecDepth 100000 in
theorem bL_law_814 : (decode cL_law 814 = .ok (.invokestatic 211, 3)) ∧ (decode cL_law 817 = .ok (.istore 5, 2)) ∧ (decode cL_law 819 = .ok (.aload_n 2, 1)) ∧ (decode cL_law 820 = .ok (.aload_n 0, 1)) ∧ (decode cL_law 821 = .ok (.iload 4, 2)) ∧ (decode cL_law 823 = .ok (.iconst 1, 1)) ∧ (decode cL_law 824 = .ok (.iadd, 1)) ∧ (decode cL_law 825 = .ok (.iaload, 1)) ∧ (decode cL_law 826 = .ok (.aload_n 0, 1)) ∧ (decode cL_law 827 = .ok (.iload 4, 2)) ∧ (decode cL_law 829 = .ok (.iconst 2, 1)) ∧ (decode cL_law 830 = .ok (.iadd, 1)) ∧ (decode cL_law 831 = .ok (.iaload, 1)) ∧ (decode cL_law 832 = .ok (.invokevirtual 213, 3)) ∧ (decode cL_law 835 = .ok (.istore 6, 2)) ∧ (decode cL_law 837 = .ok (.goto 1159, 3)) := by decide +kernel
theorem dL_law_814 : decode cL_law 814 = .ok (.invokestatic 211, 3) := bL_law_814.1
theorem dL_law_817 : decode cL_law 817 = .ok (.istore 5, 2) := bL_law_814.2.1
theorem dL_law_819 : decode cL_law 819 = .ok (.aload_n 2, 1) := bL_law_814.2.2.1
theorem dL_law_820 : decode cL_law 820 = .ok (.aload_n 0, 1) := bL_law_814.2.2.2.1
theorem dL_law_821 : decode cL_law 821 = .ok (.iload 4, 2) := bL_law_814.2.2.2.2.1
theorem dL_law_823 : decode cL_law 823 = .ok (.iconst 1, 1) := bL_law_814.2.2.2.2.2.1
theorem dL_law_824 : decode cL_law 824 = .ok (.iadd, 1) := bL_law_814.2.2.2.2.2.2.1
theorem dL_law_825 : decode cL_law 825 = .ok (.iaload, 1) := bL_law_814.2.2.2.2.2.2.2.1
theorem dL_law_826 : decode cL_law 826 = .ok (.aload_n 0, 1) := bL_law_814.2.2.2.2.2.2.2.2.1
theorem dL_law_827 : decode cL_law 827 = .ok (.iload 4, 2) := bL_law_814.2.2.2.2.2.2.2.2.2.1
theorem dL_law_829 : decode cL_law 829 = .ok (.iconst 2, 1) := bL_law_814.2.2.2.2.2.2.2.2.2.2.1
theorem dL_law_830 : decode cL_law 830 = .ok (.iadd, 1) := bL_law_814.2.2.2.2.2.2.2.2.2.2.2.1
theorem dL_law_831 : decode cL_law 831 = .ok (.iaload, 1) := bL_law_814.2.2.2.2.2.2.2.2.2.2.2.2.1
theorem dL_law_832 : decode cL_law 832 = .ok (.invokevirtual 213, 3) := bL_law_814.2.2.2.2.2.2.2.2.2.2.2.2.2.1
theorem dL_law_835 : decode cL_law 835 = .ok (.istore 6, 2) := bL_law_814.2.2.2.2.2.2.2.2.2.2.2.2.2.2.1
theorem dL_law_837 : decode cL_law 837 = .ok (.goto 1159, 3) := bL_law_814.2.2.2.2.2.2.2.2.2.2.2.2.2.2.2
set_option maxRecDepth 100000 in
theorem bL_law_840 : (decode cL_law 840 = .ok (.aload_n 1, 1)) ∧ (decode cL_law 841 = .ok (.aload_n 0, 1)) ∧ (decode cL_law 842 = .ok (.iload 4, 2)) ∧ (decode cL_law 844 = .ok (.iconst 1, 1)) ∧ (decode cL_law 845 = .ok (.iadd, 1)) ∧ (decode cL_law 846 = .ok (.iaload, 1)) ∧ (decode cL_law 847 = .ok (.aload_n 3, 1)) ∧ (decode cL_law 848 = .ok (.invokestatic 214, 3)) ∧ (decode cL_law 851 = .ok (.istore 5, 2)) ∧ (decode cL_law 853 = .ok (.aload_n 2, 1)) ∧ (decode cL_law 854 = .ok (.aload_n 0, 1)) ∧ (decode cL_law 855 = .ok (.iload 4, 2)) ∧ (decode cL_law 857 = .ok (.iconst 1, 1)) ∧ (decode cL_law 858 = .ok (.iadd, 1)) ∧ (decode cL_law 859 = .ok (.iaload, 1)) ∧ (decode cL_law 860 = .ok (.invokevirtual 216, 3)) := by decide +kernel
theorem dL_law_840 : decode cL_law 840 = .ok (.aload_n 1, 1) := bL_law_840.1
theorem dL_law_841 : decode cL_law 841 = .ok (.aload_n 0, 1) := bL_law_840.2.1
theorem dL_law_842 : decode cL_law 842 = .ok (.iload 4, 2) := bL_law_840.2.2.1
theorem dL_law_844 : decode cL_law 844 = .ok (.iconst 1, 1) := bL_law_840.2.2.2.1
theorem dL_law_845 : decode cL_law 845 = .ok (.iadd, 1) := bL_law_840.2.2.2.2.1
theorem dL_law_846 : decode cL_law 846 = .ok (.iaload, 1) := bL_law_840.2.2.2.2.2.1
theorem dL_law_847 : decode cL_law 847 = .ok (.aload_n 3, 1) := bL_law_840.2.2.2.2.2.2.1
theorem dL_law_848 : decode cL_law 848 = .ok (.invokestatic 214, 3) := bL_law_840.2.2.2.2.2.2.2.1
theorem dL_law_851 : decode cL_law 851 = .ok (.istore 5, 2) := bL_law_840.2.2.2.2.2.2.2.2.1
theorem dL_law_853 : decode cL_law 853 = .ok (.aload_n 2, 1) := bL_law_840.2.2.2.2.2.2.2.2.2.1
theorem dL_law_854 : decode cL_law 854 = .ok (.aload_n 0, 1) := bL_law_840.2.2.2.2.2.2.2.2.2.2.1
theorem dL_law_855 : decode cL_law 855 = .ok (.iload 4, 2) := bL_law_840.2.2.2.2.2.2.2.2.2.2.2.1
theorem dL_law_857 : decode cL_law 857 = .ok (.iconst 1, 1) := bL_law_840.2.2.2.2.2.2.2.2.2.2.2.2.1
theorem dL_law_858 : decode cL_law 858 = .ok (.iadd, 1) := bL_law_840.2.2.2.2.2.2.2.2.2.2.2.2.2.1
theorem dL_law_859 : decode cL_law 859 = .ok (.iaload, 1) := bL_law_840.2.2.2.2.2.2.2.2.2.2.2.2.2.2.1
theorem dL_law_860 : decode cL_law 860 = .ok (.invokevirtual 216, 3) := bL_law_840.2.2.2.2.2.2.2.2.2.2.2.2.2.2.2
set_option maxRecDepth 100000 in
theorem bL_law_863 : (decode cL_law 863 = .ok (.istore 6, 2)) ∧ (decode cL_law 865 = .ok (.goto 1131, 3)) ∧ (decode cL_law 868 = .ok (.aload_n 1, 1)) ∧ (decode cL_law 869 = .ok (.aload_n 0, 1)) ∧ (decode cL_law 870 = .ok (.iload 4, 2)) ∧ (decode cL_law 872 = .ok (.iconst 1, 1)) ∧ (decode cL_law 873 = .ok (.iadd, 1)) ∧ (decode cL_law 874 = .ok (.iaload, 1)) ∧ (decode cL_law 875 = .ok (.aload_n 0, 1)) ∧ (decode cL_law 876 = .ok (.iload 4, 2)) ∧ (decode cL_law 878 = .ok (.iconst 2, 1)) ∧ (decode cL_law 879 = .ok (.iadd, 1)) ∧ (decode cL_law 880 = .ok (.iaload, 1)) ∧ (decode cL_law 881 = .ok (.aload_n 3, 1)) ∧ (decode cL_law 882 = .ok (.invokestatic 217, 3)) ∧ (decode cL_law 885 = .ok (.istore 5, 2)) := by decide +kernel
theorem dL_law_863 : decode cL_law 863 = .ok (.istore 6, 2) := bL_law_863.1
theorem dL_law_865 : decode cL_law 865 = .ok (.goto 1131, 3) := bL_law_863.2.1
theorem dL_law_868 : decode cL_law 868 = .ok (.aload_n 1, 1) := bL_law_863.2.2.1
theorem dL_law_869 : decode cL_law 869 = .ok (.aload_n 0, 1) := bL_law_863.2.2.2.1
theorem dL_law_870 : decode cL_law 870 = .ok (.iload 4, 2) := bL_law_863.2.2.2.2.1
theorem dL_law_872 : decode cL_law 872 = .ok (.iconst 1, 1) := bL_law_863.2.2.2.2.2.1
theorem dL_law_873 : decode cL_law 873 = .ok (.iadd, 1) := bL_law_863.2.2.2.2.2.2.1
theorem dL_law_874 : decode cL_law 874 = .ok (.iaload, 1) := bL_law_863.2.2.2.2.2.2.2.1
theorem dL_law_875 : decode cL_law 875 = .ok (.aload_n 0, 1) := bL_law_863.2.2.2.2.2.2.2.2.1
theorem dL_law_876 : decode cL_law 876 = .ok (.iload 4, 2) := bL_law_863.2.2.2.2.2.2.2.2.2.1
theorem dL_law_878 : decode cL_law 878 = .ok (.iconst 2, 1) := bL_law_863.2.2.2.2.2.2.2.2.2.2.1
theorem dL_law_879 : decode cL_law 879 = .ok (.iadd, 1) := bL_law_863.2.2.2.2.2.2.2.2.2.2.2.1
theorem dL_law_880 : decode cL_law 880 = .ok (.iaload, 1) := bL_law_863.2.2.2.2.2.2.2.2.2.2.2.2.1
theorem dL_law_881 : decode cL_law 881 = .ok (.aload_n 3, 1) := bL_law_863.2.2.2.2.2.2.2.2.2.2.2.2.2.1
theorem dL_law_882 : decode cL_law 882 = .ok (.invokestatic 217, 3) := bL_law_863.2.2.2.2.2.2.2.2.2.2.2.2.2.2.1
theorem dL_law_885 : decode cL_law 885 = .ok (.istore 5, 2) := bL_law_863.2.2.2.2.2.2.2.2.2.2.2.2.2.2.2
set_option maxRecDepth 100000 in
theorem bL_law_887 : (decode cL_law 887 = .ok (.aload_n 2, 1)) ∧ (decode cL_law 888 = .ok (.aload_n 0, 1)) ∧ (decode cL_law 889 = .ok (.iload 4, 2)) ∧ (decode cL_law 891 = .ok (.iconst 1, 1)) ∧ (decode cL_law 892 = .ok (.iadd, 1)) ∧ (decode cL_law 893 = .ok (.iaload, 1)) ∧ (decode cL_law 894 = .ok (.aload_n 0, 1)) ∧ (decode cL_law 895 = .ok (.iload 4, 2)) ∧ (decode cL_law 897 = .ok (.iconst 2, 1)) ∧ (decode cL_law 898 = .ok (.iadd, 1)) ∧ (decode cL_law 899 = .ok (.iaload, 1)) ∧ (decode cL_law 900 = .ok (.invokevirtual 219, 3)) ∧ (decode cL_law 903 = .ok (.istore 6, 2)) ∧ (decode cL_law 905 = .ok (.goto 1091, 3)) ∧ (decode cL_law 908 = .ok (.aload_n 1, 1)) ∧ (decode cL_law 909 = .ok (.aload_n 0, 1)) := by decide +kernel
theorem dL_law_887 : decode cL_law 887 = .ok (.aload_n 2, 1) := bL_law_887.1
theorem dL_law_888 : decode cL_law 888 = .ok (.aload_n 0, 1) := bL_law_887.2.1
theorem dL_law_889 : decode cL_law 889 = .ok (.iload 4, 2) := bL_law_887.2.2.1
theorem dL_law_891 : decode cL_law 891 = .ok (.iconst 1, 1) := bL_law_887.2.2.2.1
theorem dL_law_892 : decode cL_law 892 = .ok (.iadd, 1) := bL_law_887.2.2.2.2.1
theorem dL_law_893 : decode cL_law 893 = .ok (.iaload, 1) := bL_law_887.2.2.2.2.2.1
theorem dL_law_894 : decode cL_law 894 = .ok (.aload_n 0, 1) := bL_law_887.2.2.2.2.2.2.1
theorem dL_law_895 : decode cL_law 895 = .ok (.iload 4, 2) := bL_law_887.2.2.2.2.2.2.2.1
theorem dL_law_897 : decode cL_law 897 = .ok (.iconst 2, 1) := bL_law_887.2.2.2.2.2.2.2.2.1
theorem dL_law_898 : decode cL_law 898 = .ok (.iadd, 1) := bL_law_887.2.2.2.2.2.2.2.2.2.1
theorem dL_law_899 : decode cL_law 899 = .ok (.iaload, 1) := bL_law_887.2.2.2.2.2.2.2.2.2.2.1
theorem dL_law_900 : decode cL_law 900 = .ok (.invokevirtual 219, 3) := bL_law_887.2.2.2.2.2.2.2.2.2.2.2.1
theorem dL_law_903 : decode cL_law 903 = .ok (.istore 6, 2) := bL_law_887.2.2.2.2.2.2.2.2.2.2.2.2.1
theorem dL_law_905 : decode cL_law 905 = .ok (.goto 1091, 3) := bL_law_887.2.2.2.2.2.2.2.2.2.2.2.2.2.1
theorem dL_law_908 : decode cL_law 908 = .ok (.aload_n 1, 1) := bL_law_887.2.2.2.2.2.2.2.2.2.2.2.2.2.2.1
theorem dL_law_909 : decode cL_law 909 = .ok (.aload_n 0, 1) := bL_law_887.2.2.2.2.2.2.2.2.2.2.2.2.2.2.2
set_option maxRecDepth 100000 in
theorem bL_law_910 : (decode cL_law 910 = .ok (.iload 4, 2)) ∧ (decode cL_law 912 = .ok (.iconst 1, 1)) ∧ (decode cL_law 913 = .ok (.iadd, 1)) ∧ (decode cL_law 914 = .ok (.iaload, 1)) ∧ (decode cL_law 915 = .ok (.aload_n 0, 1)) ∧ (decode cL_law 916 = .ok (.iload 4, 2)) ∧ (decode cL_law 918 = .ok (.iconst 2, 1)) ∧ (decode cL_law 919 = .ok (.iadd, 1)) ∧ (decode cL_law 920 = .ok (.iaload, 1)) ∧ (decode cL_law 921 = .ok (.aload_n 3, 1)) ∧ (decode cL_law 922 = .ok (.invokestatic 220, 3)) ∧ (decode cL_law 925 = .ok (.istore 5, 2)) ∧ (decode cL_law 927 = .ok (.aload_n 2, 1)) ∧ (decode cL_law 928 = .ok (.aload_n 0, 1)) ∧ (decode cL_law 929 = .ok (.iload 4, 2)) ∧ (decode cL_law 931 = .ok (.iconst 1, 1)) := by decide +kernel
theorem dL_law_910 : decode cL_law 910 = .ok (.iload 4, 2) := bL_law_910.1
theorem dL_law_912 : decode cL_law 912 = .ok (.iconst 1, 1) := bL_law_910.2.1
theorem dL_law_913 : decode cL_law 913 = .ok (.iadd, 1) := bL_law_910.2.2.1
theorem dL_law_914 : decode cL_law 914 = .ok (.iaload, 1) := bL_law_910.2.2.2.1
theorem dL_law_915 : decode cL_law 915 = .ok (.aload_n 0, 1) := bL_law_910.2.2.2.2.1
theorem dL_law_916 : decode cL_law 916 = .ok (.iload 4, 2) := bL_law_910.2.2.2.2.2.1
theorem dL_law_918 : decode cL_law 918 = .ok (.iconst 2, 1) := bL_law_910.2.2.2.2.2.2.1
theorem dL_law_919 : decode cL_law 919 = .ok (.iadd, 1) := bL_law_910.2.2.2.2.2.2.2.1
theorem dL_law_920 : decode cL_law 920 = .ok (.iaload, 1) := bL_law_910.2.2.2.2.2.2.2.2.1
theorem dL_law_921 : decode cL_law 921 = .ok (.aload_n 3, 1) := bL_law_910.2.2.2.2.2.2.2.2.2.1
theorem dL_law_922 : decode cL_law 922 = .ok (.invokestatic 220, 3) := bL_law_910.2.2.2.2.2.2.2.2.2.2.1
theorem dL_law_925 : decode cL_law 925 = .ok (.istore 5, 2) := bL_law_910.2.2.2.2.2.2.2.2.2.2.2.1
theorem dL_law_927 : decode cL_law 927 = .ok (.aload_n 2, 1) := bL_law_910.2.2.2.2.2.2.2.2.2.2.2.2.1
theorem dL_law_928 : decode cL_law 928 = .ok (.aload_n 0, 1) := bL_law_910.2.2.2.2.2.2.2.2.2.2.2.2.2.1
theorem dL_law_929 : decode cL_law 929 = .ok (.iload 4, 2) := bL_law_910.2.2.2.2.2.2.2.2.2.2.2.2.2.2.1
theorem dL_law_931 : decode cL_law 931 = .ok (.iconst 1, 1) := bL_law_910.2.2.2.2.2.2.2.2.2.2.2.2.2.2.2
set_option maxRecDepth 100000 in
theorem bL_law_932 : (decode cL_law 932 = .ok (.iadd, 1)) ∧ (decode cL_law 933 = .ok (.iaload, 1)) ∧ (decode cL_law 934 = .ok (.aload_n 0, 1)) ∧ (decode cL_law 935 = .ok (.iload 4, 2)) ∧ (decode cL_law 937 = .ok (.iconst 2, 1)) ∧ (decode cL_law 938 = .ok (.iadd, 1)) ∧ (decode cL_law 939 = .ok (.iaload, 1)) ∧ (decode cL_law 940 = .ok (.invokevirtual 222, 3)) ∧ (decode cL_law 943 = .ok (.istore 6, 2)) ∧ (decode cL_law 945 = .ok (.goto 1051, 3)) ∧ (decode cL_law 948 = .ok (.aload_n 1, 1)) ∧ (decode cL_law 949 = .ok (.aload_n 0, 1)) ∧ (decode cL_law 950 = .ok (.iload 4, 2)) ∧ (decode cL_law 952 = .ok (.iconst 1, 1)) ∧ (decode cL_law 953 = .ok (.iadd, 1)) ∧ (decode cL_law 954 = .ok (.iaload, 1)) := by decide +kernel
theorem dL_law_932 : decode cL_law 932 = .ok (.iadd, 1) := bL_law_932.1
theorem dL_law_933 : decode cL_law 933 = .ok (.iaload, 1) := bL_law_932.2.1
theorem dL_law_934 : decode cL_law 934 = .ok (.aload_n 0, 1) := bL_law_932.2.2.1
theorem dL_law_935 : decode cL_law 935 = .ok (.iload 4, 2) := bL_law_932.2.2.2.1
theorem dL_law_937 : decode cL_law 937 = .ok (.iconst 2, 1) := bL_law_932.2.2.2.2.1
theorem dL_law_938 : decode cL_law 938 = .ok (.iadd, 1) := bL_law_932.2.2.2.2.2.1
theorem dL_law_939 : decode cL_law 939 = .ok (.iaload, 1) := bL_law_932.2.2.2.2.2.2.1
theorem dL_law_940 : decode cL_law 940 = .ok (.invokevirtual 222, 3) := bL_law_932.2.2.2.2.2.2.2.1
theorem dL_law_943 : decode cL_law 943 = .ok (.istore 6, 2) := bL_law_932.2.2.2.2.2.2.2.2.1
theorem dL_law_945 : decode cL_law 945 = .ok (.goto 1051, 3) := bL_law_932.2.2.2.2.2.2.2.2.2.1
theorem dL_law_948 : decode cL_law 948 = .ok (.aload_n 1, 1) := bL_law_932.2.2.2.2.2.2.2.2.2.2.1
theorem dL_law_949 : decode cL_law 949 = .ok (.aload_n 0, 1) := bL_law_932.2.2.2.2.2.2.2.2.2.2.2.1
theorem dL_law_950 : decode cL_law 950 = .ok (.iload 4, 2) := bL_law_932.2.2.2.2.2.2.2.2.2.2.2.2.1
theorem dL_law_952 : decode cL_law 952 = .ok (.iconst 1, 1) := bL_law_932.2.2.2.2.2.2.2.2.2.2.2.2.2.1
theorem dL_law_953 : decode cL_law 953 = .ok (.iadd, 1) := bL_law_932.2.2.2.2.2.2.2.2.2.2.2.2.2.2.1
theorem dL_law_954 : decode cL_law 954 = .ok (.iaload, 1) := bL_law_932.2.2.2.2.2.2.2.2.2.2.2.2.2.2.2
set_option maxRecDepth 100000 in
theorem bL_law_955 : (decode cL_law 955 = .ok (.aload_n 0, 1)) ∧ (decode cL_law 956 = .ok (.iload 4, 2)) ∧ (decode cL_law 958 = .ok (.iconst 2, 1)) ∧ (decode cL_law 959 = .ok (.iadd, 1)) ∧ (decode cL_law 960 = .ok (.iaload, 1)) ∧ (decode cL_law 961 = .ok (.aload_n 3, 1)) ∧ (decode cL_law 962 = .ok (.invokestatic 223, 3)) ∧ (decode cL_law 965 = .ok (.istore 5, 2)) ∧ (decode cL_law 967 = .ok (.aload_n 2, 1)) ∧ (decode cL_law 968 = .ok (.aload_n 0, 1)) ∧ (decode cL_law 969 = .ok (.iload 4, 2)) ∧ (decode cL_law 971 = .ok (.iconst 1, 1)) ∧ (decode cL_law 972 = .ok (.iadd, 1)) ∧ (decode cL_law 973 = .ok (.iaload, 1)) ∧ (decode cL_law 974 = .ok (.aload_n 0, 1)) ∧ (decode cL_law 975 = .ok (.iload 4, 2)) := by decide +kernel
theorem dL_law_955 : decode cL_law 955 = .ok (.aload_n 0, 1) := bL_law_955.1
theorem dL_law_956 : decode cL_law 956 = .ok (.iload 4, 2) := bL_law_955.2.1
theorem dL_law_958 : decode cL_law 958 = .ok (.iconst 2, 1) := bL_law_955.2.2.1
theorem dL_law_959 : decode cL_law 959 = .ok (.iadd, 1) := bL_law_955.2.2.2.1
theorem dL_law_960 : decode cL_law 960 = .ok (.iaload, 1) := bL_law_955.2.2.2.2.1
theorem dL_law_961 : decode cL_law 961 = .ok (.aload_n 3, 1) := bL_law_955.2.2.2.2.2.1
theorem dL_law_962 : decode cL_law 962 = .ok (.invokestatic 223, 3) := bL_law_955.2.2.2.2.2.2.1
theorem dL_law_965 : decode cL_law 965 = .ok (.istore 5, 2) := bL_law_955.2.2.2.2.2.2.2.1
theorem dL_law_967 : decode cL_law 967 = .ok (.aload_n 2, 1) := bL_law_955.2.2.2.2.2.2.2.2.1
theorem dL_law_968 : decode cL_law 968 = .ok (.aload_n 0, 1) := bL_law_955.2.2.2.2.2.2.2.2.2.1
theorem dL_law_969 : decode cL_law 969 = .ok (.iload 4, 2) := bL_law_955.2.2.2.2.2.2.2.2.2.2.1
theorem dL_law_971 : decode cL_law 971 = .ok (.iconst 1, 1) := bL_law_955.2.2.2.2.2.2.2.2.2.2.2.1
theorem dL_law_972 : decode cL_law 972 = .ok (.iadd, 1) := bL_law_955.2.2.2.2.2.2.2.2.2.2.2.2.1
theorem dL_law_973 : decode cL_law 973 = .ok (.iaload, 1) := bL_law_955.2.2.2.2.2.2.2.2.2.2.2.2.2.1
theorem dL_law_974 : decode cL_law 974 = .ok (.aload_n 0, 1) := bL_law_955.2.2.2.2.2.2.2.2.2.2.2.2.2.2.1
theorem dL_law_975 : decode cL_law 975 = .ok (.iload 4, 2) := bL_law_955.2.2.2.2.2.2.2.2.2.2.2.2.2.2.2
set_option maxRecDepth 100000 in
theorem bL_law_977 : (decode cL_law 977 = .ok (.iconst 2, 1)) ∧ (decode cL_law 978 = .ok (.iadd, 1)) ∧ (decode cL_law 979 = .ok (.iaload, 1)) ∧ (decode cL_law 980 = .ok (.invokevirtual 225, 3)) ∧ (decode cL_law 983 = .ok (.istore 6, 2)) ∧ (decode cL_law 985 = .ok (.goto 1011, 3)) ∧ (decode cL_law 988 = .ok (.aload_n 1, 1)) ∧ (decode cL_law 989 = .ok (.aload_n 0, 1)) ∧ (decode cL_law 990 = .ok (.iload 4, 2)) ∧ (decode cL_law 992 = .ok (.iconst 1, 1)) ∧ (decode cL_law 993 = .ok (.iadd, 1)) ∧ (decode cL_law 994 = .ok (.iaload, 1)) ∧ (decode cL_law 995 = .ok (.aload_n 0, 1)) ∧ (decode cL_law 996 = .ok (.iload 4, 2)) ∧ (decode cL_law 998 = .ok (.iconst 2, 1)) ∧ (decode cL_law 999 = .ok (.iadd, 1)) := by decide +kernel
theorem dL_law_977 : decode cL_law 977 = .ok (.iconst 2, 1) := bL_law_977.1
theorem dL_law_978 : decode cL_law 978 = .ok (.iadd, 1) := bL_law_977.2.1
theorem dL_law_979 : decode cL_law 979 = .ok (.iaload, 1) := bL_law_977.2.2.1
theorem dL_law_980 : decode cL_law 980 = .ok (.invokevirtual 225, 3) := bL_law_977.2.2.2.1
theorem dL_law_983 : decode cL_law 983 = .ok (.istore 6, 2) := bL_law_977.2.2.2.2.1
theorem dL_law_985 : decode cL_law 985 = .ok (.goto 1011, 3) := bL_law_977.2.2.2.2.2.1
theorem dL_law_988 : decode cL_law 988 = .ok (.aload_n 1, 1) := bL_law_977.2.2.2.2.2.2.1
theorem dL_law_989 : decode cL_law 989 = .ok (.aload_n 0, 1) := bL_law_977.2.2.2.2.2.2.2.1
theorem dL_law_990 : decode cL_law 990 = .ok (.iload 4, 2) := bL_law_977.2.2.2.2.2.2.2.2.1
theorem dL_law_992 : decode cL_law 992 = .ok (.iconst 1, 1) := bL_law_977.2.2.2.2.2.2.2.2.2.1
theorem dL_law_993 : decode cL_law 993 = .ok (.iadd, 1) := bL_law_977.2.2.2.2.2.2.2.2.2.2.1
theorem dL_law_994 : decode cL_law 994 = .ok (.iaload, 1) := bL_law_977.2.2.2.2.2.2.2.2.2.2.2.1
theorem dL_law_995 : decode cL_law 995 = .ok (.aload_n 0, 1) := bL_law_977.2.2.2.2.2.2.2.2.2.2.2.2.1
theorem dL_law_996 : decode cL_law 996 = .ok (.iload 4, 2) := bL_law_977.2.2.2.2.2.2.2.2.2.2.2.2.2.1
theorem dL_law_998 : decode cL_law 998 = .ok (.iconst 2, 1) := bL_law_977.2.2.2.2.2.2.2.2.2.2.2.2.2.2.1
theorem dL_law_999 : decode cL_law 999 = .ok (.iadd, 1) := bL_law_977.2.2.2.2.2.2.2.2.2.2.2.2.2.2.2
set_option maxRecDepth 100000 in
theorem bL_law_1000 : (decode cL_law 1000 = .ok (.iaload, 1)) ∧ (decode cL_law 1001 = .ok (.aload_n 3, 1)) ∧ (decode cL_law 1002 = .ok (.invokestatic 226, 3)) ∧ (decode cL_law 1005 = .ok (.istore 5, 2)) ∧ (decode cL_law 1007 = .ok (.aload_n 2, 1)) ∧ (decode cL_law 1008 = .ok (.aload_n 0, 1)) ∧ (decode cL_law 1009 = .ok (.iload 4, 2)) ∧ (decode cL_law 1011 = .ok (.iconst 1, 1)) ∧ (decode cL_law 1012 = .ok (.iadd, 1)) ∧ (decode cL_law 1013 = .ok (.iaload, 1)) ∧ (decode cL_law 1014 = .ok (.aload_n 0, 1)) ∧ (decode cL_law 1015 = .ok (.iload 4, 2)) ∧ (decode cL_law 1017 = .ok (.iconst 2, 1)) ∧ (decode cL_law 1018 = .ok (.iadd, 1)) ∧ (decode cL_law 1019 = .ok (.iaload, 1)) ∧ (decode cL_law 1020 = .ok (.invokevirtual 228, 3)) := by decide +kernel
theorem dL_law_1000 : decode cL_law 1000 = .ok (.iaload, 1) := bL_law_1000.1
theorem dL_law_1001 : decode cL_law 1001 = .ok (.aload_n 3, 1) := bL_law_1000.2.1
theorem dL_law_1002 : decode cL_law 1002 = .ok (.invokestatic 226, 3) := bL_law_1000.2.2.1
theorem dL_law_1005 : decode cL_law 1005 = .ok (.istore 5, 2) := bL_law_1000.2.2.2.1
theorem dL_law_1007 : decode cL_law 1007 = .ok (.aload_n 2, 1) := bL_law_1000.2.2.2.2.1
theorem dL_law_1008 : decode cL_law 1008 = .ok (.aload_n 0, 1) := bL_law_1000.2.2.2.2.2.1
theorem dL_law_1009 : decode cL_law 1009 = .ok (.iload 4, 2) := bL_law_1000.2.2.2.2.2.2.1
theorem dL_law_1011 : decode cL_law 1011 = .ok (.iconst 1, 1) := bL_law_1000.2.2.2.2.2.2.2.1
theorem dL_law_1012 : decode cL_law 1012 = .ok (.iadd, 1) := bL_law_1000.2.2.2.2.2.2.2.2.1
theorem dL_law_1013 : decode cL_law 1013 = .ok (.iaload, 1) := bL_law_1000.2.2.2.2.2.2.2.2.2.1
theorem dL_law_1014 : decode cL_law 1014 = .ok (.aload_n 0, 1) := bL_law_1000.2.2.2.2.2.2.2.2.2.2.1
theorem dL_law_1015 : decode cL_law 1015 = .ok (.iload 4, 2) := bL_law_1000.2.2.2.2.2.2.2.2.2.2.2.1
theorem dL_law_1017 : decode cL_law 1017 = .ok (.iconst 2, 1) := bL_law_1000.2.2.2.2.2.2.2.2.2.2.2.2.1
theorem dL_law_1018 : decode cL_law 1018 = .ok (.iadd, 1) := bL_law_1000.2.2.2.2.2.2.2.2.2.2.2.2.2.1
theorem dL_law_1019 : decode cL_law 1019 = .ok (.iaload, 1) := bL_law_1000.2.2.2.2.2.2.2.2.2.2.2.2.2.2.1
theorem dL_law_1020 : decode cL_law 1020 = .ok (.invokevirtual 228, 3) := bL_law_1000.2.2.2.2.2.2.2.2.2.2.2.2.2.2.2
set_option maxRecDepth 100000 in
theorem bL_law_1023 : (decode cL_law 1023 = .ok (.istore 6, 2)) ∧ (decode cL_law 1025 = .ok (.goto 971, 3)) ∧ (decode cL_law 1028 = .ok (.aload_n 1, 1)) ∧ (decode cL_law 1029 = .ok (.aload_n 0, 1)) ∧ (decode cL_law 1030 = .ok (.iload 4, 2)) ∧ (decode cL_law 1032 = .ok (.iconst 1, 1)) ∧ (decode cL_law 1033 = .ok (.iadd, 1)) ∧ (decode cL_law 1034 = .ok (.iaload, 1)) ∧ (decode cL_law 1035 = .ok (.aload_n 0, 1)) ∧ (decode cL_law 1036 = .ok (.iload 4, 2)) ∧ (decode cL_law 1038 = .ok (.iconst 2, 1)) ∧ (decode cL_law 1039 = .ok (.iadd, 1)) ∧ (decode cL_law 1040 = .ok (.iaload, 1)) ∧ (decode cL_law 1041 = .ok (.aload_n 3, 1)) ∧ (decode cL_law 1042 = .ok (.invokestatic 229, 3)) ∧ (decode cL_law 1045 = .ok (.istore 5, 2)) := by decide +kernel
theorem dL_law_1023 : decode cL_law 1023 = .ok (.istore 6, 2) := bL_law_1023.1
theorem dL_law_1025 : decode cL_law 1025 = .ok (.goto 971, 3) := bL_law_1023.2.1
theorem dL_law_1028 : decode cL_law 1028 = .ok (.aload_n 1, 1) := bL_law_1023.2.2.1
theorem dL_law_1029 : decode cL_law 1029 = .ok (.aload_n 0, 1) := bL_law_1023.2.2.2.1
theorem dL_law_1030 : decode cL_law 1030 = .ok (.iload 4, 2) := bL_law_1023.2.2.2.2.1
theorem dL_law_1032 : decode cL_law 1032 = .ok (.iconst 1, 1) := bL_law_1023.2.2.2.2.2.1
theorem dL_law_1033 : decode cL_law 1033 = .ok (.iadd, 1) := bL_law_1023.2.2.2.2.2.2.1
theorem dL_law_1034 : decode cL_law 1034 = .ok (.iaload, 1) := bL_law_1023.2.2.2.2.2.2.2.1
theorem dL_law_1035 : decode cL_law 1035 = .ok (.aload_n 0, 1) := bL_law_1023.2.2.2.2.2.2.2.2.1
theorem dL_law_1036 : decode cL_law 1036 = .ok (.iload 4, 2) := bL_law_1023.2.2.2.2.2.2.2.2.2.1
theorem dL_law_1038 : decode cL_law 1038 = .ok (.iconst 2, 1) := bL_law_1023.2.2.2.2.2.2.2.2.2.2.1
theorem dL_law_1039 : decode cL_law 1039 = .ok (.iadd, 1) := bL_law_1023.2.2.2.2.2.2.2.2.2.2.2.1
theorem dL_law_1040 : decode cL_law 1040 = .ok (.iaload, 1) := bL_law_1023.2.2.2.2.2.2.2.2.2.2.2.2.1
theorem dL_law_1041 : decode cL_law 1041 = .ok (.aload_n 3, 1) := bL_law_1023.2.2.2.2.2.2.2.2.2.2.2.2.2.1
theorem dL_law_1042 : decode cL_law 1042 = .ok (.invokestatic 229, 3) := bL_law_1023.2.2.2.2.2.2.2.2.2.2.2.2.2.2.1
theorem dL_law_1045 : decode cL_law 1045 = .ok (.istore 5, 2) := bL_law_1023.2.2.2.2.2.2.2.2.2.2.2.2.2.2.2
set_option maxRecDepth 100000 in
theorem bL_law_1047 : (decode cL_law 1047 = .ok (.aload_n 2, 1)) ∧ (decode cL_law 1048 = .ok (.aload_n 0, 1)) ∧ (decode cL_law 1049 = .ok (.iload 4, 2)) ∧ (decode cL_law 1051 = .ok (.iconst 1, 1)) ∧ (decode cL_law 1052 = .ok (.iadd, 1)) ∧ (decode cL_law 1053 = .ok (.iaload, 1)) ∧ (decode cL_law 1054 = .ok (.aload_n 0, 1)) ∧ (decode cL_law 1055 = .ok (.iload 4, 2)) ∧ (decode cL_law 1057 = .ok (.iconst 2, 1)) ∧ (decode cL_law 1058 = .ok (.iadd, 1)) ∧ (decode cL_law 1059 = .ok (.iaload, 1)) ∧ (decode cL_law 1060 = .ok (.invokevirtual 231, 3)) ∧ (decode cL_law 1063 = .ok (.istore 6, 2)) ∧ (decode cL_law 1065 = .ok (.goto 931, 3)) ∧ (decode cL_law 1068 = .ok (.aload_n 1, 1)) ∧ (decode cL_law 1069 = .ok (.aload_n 0, 1)) := by decide +kernel
theorem dL_law_1047 : decode cL_law 1047 = .ok (.aload_n 2, 1) := bL_law_1047.1
theorem dL_law_1048 : decode cL_law 1048 = .ok (.aload_n 0, 1) := bL_law_1047.2.1
theorem dL_law_1049 : decode cL_law 1049 = .ok (.iload 4, 2) := bL_law_1047.2.2.1
theorem dL_law_1051 : decode cL_law 1051 = .ok (.iconst 1, 1) := bL_law_1047.2.2.2.1
theorem dL_law_1052 : decode cL_law 1052 = .ok (.iadd, 1) := bL_law_1047.2.2.2.2.1
theorem dL_law_1053 : decode cL_law 1053 = .ok (.iaload, 1) := bL_law_1047.2.2.2.2.2.1
theorem dL_law_1054 : decode cL_law 1054 = .ok (.aload_n 0, 1) := bL_law_1047.2.2.2.2.2.2.1
theorem dL_law_1055 : decode cL_law 1055 = .ok (.iload 4, 2) := bL_law_1047.2.2.2.2.2.2.2.1
theorem dL_law_1057 : decode cL_law 1057 = .ok (.iconst 2, 1) := bL_law_1047.2.2.2.2.2.2.2.2.1
theorem dL_law_1058 : decode cL_law 1058 = .ok (.iadd, 1) := bL_law_1047.2.2.2.2.2.2.2.2.2.1
theorem dL_law_1059 : decode cL_law 1059 = .ok (.iaload, 1) := bL_law_1047.2.2.2.2.2.2.2.2.2.2.1
theorem dL_law_1060 : decode cL_law 1060 = .ok (.invokevirtual 231, 3) := bL_law_1047.2.2.2.2.2.2.2.2.2.2.2.1
theorem dL_law_1063 : decode cL_law 1063 = .ok (.istore 6, 2) := bL_law_1047.2.2.2.2.2.2.2.2.2.2.2.2.1
theorem dL_law_1065 : decode cL_law 1065 = .ok (.goto 931, 3) := bL_law_1047.2.2.2.2.2.2.2.2.2.2.2.2.2.1
theorem dL_law_1068 : decode cL_law 1068 = .ok (.aload_n 1, 1) := bL_law_1047.2.2.2.2.2.2.2.2.2.2.2.2.2.2.1
theorem dL_law_1069 : decode cL_law 1069 = .ok (.aload_n 0, 1) := bL_law_1047.2.2.2.2.2.2.2.2.2.2.2.2.2.2.2
set_option maxRecDepth 100000 in
theorem bL_law_1070 : (decode cL_law 1070 = .ok (.iload 4, 2)) ∧ (decode cL_law 1072 = .ok (.iconst 1, 1)) ∧ (decode cL_law 1073 = .ok (.iadd, 1)) ∧ (decode cL_law 1074 = .ok (.iaload, 1)) ∧ (decode cL_law 1075 = .ok (.aload_n 0, 1)) ∧ (decode cL_law 1076 = .ok (.iload 4, 2)) ∧ (decode cL_law 1078 = .ok (.iconst 2, 1)) ∧ (decode cL_law 1079 = .ok (.iadd, 1)) ∧ (decode cL_law 1080 = .ok (.iaload, 1)) ∧ (decode cL_law 1081 = .ok (.aload_n 3, 1)) ∧ (decode cL_law 1082 = .ok (.invokestatic 232, 3)) ∧ (decode cL_law 1085 = .ok (.istore 5, 2)) ∧ (decode cL_law 1087 = .ok (.aload_n 2, 1)) ∧ (decode cL_law 1088 = .ok (.aload_n 0, 1)) ∧ (decode cL_law 1089 = .ok (.iload 4, 2)) ∧ (decode cL_law 1091 = .ok (.iconst 1, 1)) := by decide +kernel
theorem dL_law_1070 : decode cL_law 1070 = .ok (.iload 4, 2) := bL_law_1070.1
theorem dL_law_1072 : decode cL_law 1072 = .ok (.iconst 1, 1) := bL_law_1070.2.1
theorem dL_law_1073 : decode cL_law 1073 = .ok (.iadd, 1) := bL_law_1070.2.2.1
theorem dL_law_1074 : decode cL_law 1074 = .ok (.iaload, 1) := bL_law_1070.2.2.2.1
theorem dL_law_1075 : decode cL_law 1075 = .ok (.aload_n 0, 1) := bL_law_1070.2.2.2.2.1
theorem dL_law_1076 : decode cL_law 1076 = .ok (.iload 4, 2) := bL_law_1070.2.2.2.2.2.1
theorem dL_law_1078 : decode cL_law 1078 = .ok (.iconst 2, 1) := bL_law_1070.2.2.2.2.2.2.1
theorem dL_law_1079 : decode cL_law 1079 = .ok (.iadd, 1) := bL_law_1070.2.2.2.2.2.2.2.1
theorem dL_law_1080 : decode cL_law 1080 = .ok (.iaload, 1) := bL_law_1070.2.2.2.2.2.2.2.2.1
theorem dL_law_1081 : decode cL_law 1081 = .ok (.aload_n 3, 1) := bL_law_1070.2.2.2.2.2.2.2.2.2.1
theorem dL_law_1082 : decode cL_law 1082 = .ok (.invokestatic 232, 3) := bL_law_1070.2.2.2.2.2.2.2.2.2.2.1
theorem dL_law_1085 : decode cL_law 1085 = .ok (.istore 5, 2) := bL_law_1070.2.2.2.2.2.2.2.2.2.2.2.1
theorem dL_law_1087 : decode cL_law 1087 = .ok (.aload_n 2, 1) := bL_law_1070.2.2.2.2.2.2.2.2.2.2.2.2.1
theorem dL_law_1088 : decode cL_law 1088 = .ok (.aload_n 0, 1) := bL_law_1070.2.2.2.2.2.2.2.2.2.2.2.2.2.1
theorem dL_law_1089 : decode cL_law 1089 = .ok (.iload 4, 2) := bL_law_1070.2.2.2.2.2.2.2.2.2.2.2.2.2.2.1
theorem dL_law_1091 : decode cL_law 1091 = .ok (.iconst 1, 1) := bL_law_1070.2.2.2.2.2.2.2.2.2.2.2.2.2.2.2
set_option maxRecDepth 100000 in
theorem bL_law_1092 : (decode cL_law 1092 = .ok (.iadd, 1)) ∧ (decode cL_law 1093 = .ok (.iaload, 1)) ∧ (decode cL_law 1094 = .ok (.aload_n 0, 1)) ∧ (decode cL_law 1095 = .ok (.iload 4, 2)) ∧ (decode cL_law 1097 = .ok (.iconst 2, 1)) ∧ (decode cL_law 1098 = .ok (.iadd, 1)) ∧ (decode cL_law 1099 = .ok (.iaload, 1)) ∧ (decode cL_law 1100 = .ok (.invokevirtual 234, 3)) ∧ (decode cL_law 1103 = .ok (.istore 6, 2)) ∧ (decode cL_law 1105 = .ok (.goto 891, 3)) ∧ (decode cL_law 1108 = .ok (.aload_n 1, 1)) ∧ (decode cL_law 1109 = .ok (.aload_n 0, 1)) ∧ (decode cL_law 1110 = .ok (.iload 4, 2)) ∧ (decode cL_law 1112 = .ok (.iconst 1, 1)) ∧ (decode cL_law 1113 = .ok (.iadd, 1)) ∧ (decode cL_law 1114 = .ok (.iaload, 1)) := by decide +kernel
theorem dL_law_1092 : decode cL_law 1092 = .ok (.iadd, 1) := bL_law_1092.1
theorem dL_law_1093 : decode cL_law 1093 = .ok (.iaload, 1) := bL_law_1092.2.1
theorem dL_law_1094 : decode cL_law 1094 = .ok (.aload_n 0, 1) := bL_law_1092.2.2.1
theorem dL_law_1095 : decode cL_law 1095 = .ok (.iload 4, 2) := bL_law_1092.2.2.2.1
theorem dL_law_1097 : decode cL_law 1097 = .ok (.iconst 2, 1) := bL_law_1092.2.2.2.2.1
theorem dL_law_1098 : decode cL_law 1098 = .ok (.iadd, 1) := bL_law_1092.2.2.2.2.2.1
theorem dL_law_1099 : decode cL_law 1099 = .ok (.iaload, 1) := bL_law_1092.2.2.2.2.2.2.1
theorem dL_law_1100 : decode cL_law 1100 = .ok (.invokevirtual 234, 3) := bL_law_1092.2.2.2.2.2.2.2.1
theorem dL_law_1103 : decode cL_law 1103 = .ok (.istore 6, 2) := bL_law_1092.2.2.2.2.2.2.2.2.1
theorem dL_law_1105 : decode cL_law 1105 = .ok (.goto 891, 3) := bL_law_1092.2.2.2.2.2.2.2.2.2.1
theorem dL_law_1108 : decode cL_law 1108 = .ok (.aload_n 1, 1) := bL_law_1092.2.2.2.2.2.2.2.2.2.2.1
theorem dL_law_1109 : decode cL_law 1109 = .ok (.aload_n 0, 1) := bL_law_1092.2.2.2.2.2.2.2.2.2.2.2.1
theorem dL_law_1110 : decode cL_law 1110 = .ok (.iload 4, 2) := bL_law_1092.2.2.2.2.2.2.2.2.2.2.2.2.1
theorem dL_law_1112 : decode cL_law 1112 = .ok (.iconst 1, 1) := bL_law_1092.2.2.2.2.2.2.2.2.2.2.2.2.2.1
theorem dL_law_1113 : decode cL_law 1113 = .ok (.iadd, 1) := bL_law_1092.2.2.2.2.2.2.2.2.2.2.2.2.2.2.1
theorem dL_law_1114 : decode cL_law 1114 = .ok (.iaload, 1) := bL_law_1092.2.2.2.2.2.2.2.2.2.2.2.2.2.2.2
set_option maxRecDepth 100000 in
theorem bL_law_1115 : (decode cL_law 1115 = .ok (.aload_n 0, 1)) ∧ (decode cL_law 1116 = .ok (.iload 4, 2)) ∧ (decode cL_law 1118 = .ok (.iconst 2, 1)) ∧ (decode cL_law 1119 = .ok (.iadd, 1)) ∧ (decode cL_law 1120 = .ok (.iaload, 1)) ∧ (decode cL_law 1121 = .ok (.aload_n 3, 1)) ∧ (decode cL_law 1122 = .ok (.invokestatic 235, 3)) ∧ (decode cL_law 1125 = .ok (.istore 5, 2)) ∧ (decode cL_law 1127 = .ok (.aload_n 2, 1)) ∧ (decode cL_law 1128 = .ok (.aload_n 0, 1)) ∧ (decode cL_law 1129 = .ok (.iload 4, 2)) ∧ (decode cL_law 1131 = .ok (.iconst 1, 1)) ∧ (decode cL_law 1132 = .ok (.iadd, 1)) ∧ (decode cL_law 1133 = .ok (.iaload, 1)) ∧ (decode cL_law 1134 = .ok (.aload_n 0, 1)) ∧ (decode cL_law 1135 = .ok (.iload 4, 2)) := by decide +kernel
theorem dL_law_1115 : decode cL_law 1115 = .ok (.aload_n 0, 1) := bL_law_1115.1
theorem dL_law_1116 : decode cL_law 1116 = .ok (.iload 4, 2) := bL_law_1115.2.1
theorem dL_law_1118 : decode cL_law 1118 = .ok (.iconst 2, 1) := bL_law_1115.2.2.1
theorem dL_law_1119 : decode cL_law 1119 = .ok (.iadd, 1) := bL_law_1115.2.2.2.1
theorem dL_law_1120 : decode cL_law 1120 = .ok (.iaload, 1) := bL_law_1115.2.2.2.2.1
theorem dL_law_1121 : decode cL_law 1121 = .ok (.aload_n 3, 1) := bL_law_1115.2.2.2.2.2.1
theorem dL_law_1122 : decode cL_law 1122 = .ok (.invokestatic 235, 3) := bL_law_1115.2.2.2.2.2.2.1
theorem dL_law_1125 : decode cL_law 1125 = .ok (.istore 5, 2) := bL_law_1115.2.2.2.2.2.2.2.1
theorem dL_law_1127 : decode cL_law 1127 = .ok (.aload_n 2, 1) := bL_law_1115.2.2.2.2.2.2.2.2.1
theorem dL_law_1128 : decode cL_law 1128 = .ok (.aload_n 0, 1) := bL_law_1115.2.2.2.2.2.2.2.2.2.1
theorem dL_law_1129 : decode cL_law 1129 = .ok (.iload 4, 2) := bL_law_1115.2.2.2.2.2.2.2.2.2.2.1
theorem dL_law_1131 : decode cL_law 1131 = .ok (.iconst 1, 1) := bL_law_1115.2.2.2.2.2.2.2.2.2.2.2.1
theorem dL_law_1132 : decode cL_law 1132 = .ok (.iadd, 1) := bL_law_1115.2.2.2.2.2.2.2.2.2.2.2.2.1
theorem dL_law_1133 : decode cL_law 1133 = .ok (.iaload, 1) := bL_law_1115.2.2.2.2.2.2.2.2.2.2.2.2.2.1
theorem dL_law_1134 : decode cL_law 1134 = .ok (.aload_n 0, 1) := bL_law_1115.2.2.2.2.2.2.2.2.2.2.2.2.2.2.1
theorem dL_law_1135 : decode cL_law 1135 = .ok (.iload 4, 2) := bL_law_1115.2.2.2.2.2.2.2.2.2.2.2.2.2.2.2
set_option maxRecDepth 100000 in
theorem bL_law_1137 : (decode cL_law 1137 = .ok (.iconst 2, 1)) ∧ (decode cL_law 1138 = .ok (.iadd, 1)) ∧ (decode cL_law 1139 = .ok (.iaload, 1)) ∧ (decode cL_law 1140 = .ok (.invokevirtual 237, 3)) ∧ (decode cL_law 1143 = .ok (.istore 6, 2)) ∧ (decode cL_law 1145 = .ok (.goto 851, 3)) ∧ (decode cL_law 1148 = .ok (.aload_n 1, 1)) ∧ (decode cL_law 1149 = .ok (.aload_n 0, 1)) ∧ (decode cL_law 1150 = .ok (.iload 4, 2)) ∧ (decode cL_law 1152 = .ok (.iconst 1, 1)) ∧ (decode cL_law 1153 = .ok (.iadd, 1)) ∧ (decode cL_law 1154 = .ok (.iaload, 1)) ∧ (decode cL_law 1155 = .ok (.aload_n 0, 1)) ∧ (decode cL_law 1156 = .ok (.iload 4, 2)) ∧ (decode cL_law 1158 = .ok (.iconst 2, 1)) ∧ (decode cL_law 1159 = .ok (.iadd, 1)) := by decide +kernel
theorem dL_law_1137 : decode cL_law 1137 = .ok (.iconst 2, 1) := bL_law_1137.1
theorem dL_law_1138 : decode cL_law 1138 = .ok (.iadd, 1) := bL_law_1137.2.1
theorem dL_law_1139 : decode cL_law 1139 = .ok (.iaload, 1) := bL_law_1137.2.2.1
theorem dL_law_1140 : decode cL_law 1140 = .ok (.invokevirtual 237, 3) := bL_law_1137.2.2.2.1
theorem dL_law_1143 : decode cL_law 1143 = .ok (.istore 6, 2) := bL_law_1137.2.2.2.2.1
theorem dL_law_1145 : decode cL_law 1145 = .ok (.goto 851, 3) := bL_law_1137.2.2.2.2.2.1
theorem dL_law_1148 : decode cL_law 1148 = .ok (.aload_n 1, 1) := bL_law_1137.2.2.2.2.2.2.1
theorem dL_law_1149 : decode cL_law 1149 = .ok (.aload_n 0, 1) := bL_law_1137.2.2.2.2.2.2.2.1
theorem dL_law_1150 : decode cL_law 1150 = .ok (.iload 4, 2) := bL_law_1137.2.2.2.2.2.2.2.2.1
theorem dL_law_1152 : decode cL_law 1152 = .ok (.iconst 1, 1) := bL_law_1137.2.2.2.2.2.2.2.2.2.1
theorem dL_law_1153 : decode cL_law 1153 = .ok (.iadd, 1) := bL_law_1137.2.2.2.2.2.2.2.2.2.2.1
theorem dL_law_1154 : decode cL_law 1154 = .ok (.iaload, 1) := bL_law_1137.2.2.2.2.2.2.2.2.2.2.2.1
theorem dL_law_1155 : decode cL_law 1155 = .ok (.aload_n 0, 1) := bL_law_1137.2.2.2.2.2.2.2.2.2.2.2.2.1
theorem dL_law_1156 : decode cL_law 1156 = .ok (.iload 4, 2) := bL_law_1137.2.2.2.2.2.2.2.2.2.2.2.2.2.1
theorem dL_law_1158 : decode cL_law 1158 = .ok (.iconst 2, 1) := bL_law_1137.2.2.2.2.2.2.2.2.2.2.2.2.2.2.1
theorem dL_law_1159 : decode cL_law 1159 = .ok (.iadd, 1) := bL_law_1137.2.2.2.2.2.2.2.2.2.2.2.2.2.2.2
set_option maxRecDepth 100000 in
theorem bL_law_1160 : (decode cL_law 1160 = .ok (.iaload, 1)) ∧ (decode cL_law 1161 = .ok (.aload_n 3, 1)) ∧ (decode cL_law 1162 = .ok (.invokestatic 238, 3)) ∧ (decode cL_law 1165 = .ok (.istore 5, 2)) ∧ (decode cL_law 1167 = .ok (.aload_n 2, 1)) ∧ (decode cL_law 1168 = .ok (.aload_n 0, 1)) ∧ (decode cL_law 1169 = .ok (.iload 4, 2)) ∧ (decode cL_law 1171 = .ok (.iconst 1, 1)) ∧ (decode cL_law 1172 = .ok (.iadd, 1)) ∧ (decode cL_law 1173 = .ok (.iaload, 1)) ∧ (decode cL_law 1174 = .ok (.aload_n 0, 1)) ∧ (decode cL_law 1175 = .ok (.iload 4, 2)) ∧ (decode cL_law 1177 = .ok (.iconst 2, 1)) ∧ (decode cL_law 1178 = .ok (.iadd, 1)) ∧ (decode cL_law 1179 = .ok (.iaload, 1)) ∧ (decode cL_law 1180 = .ok (.invokevirtual 240, 3)) := by decide +kernel
theorem dL_law_1160 : decode cL_law 1160 = .ok (.iaload, 1) := bL_law_1160.1
theorem dL_law_1161 : decode cL_law 1161 = .ok (.aload_n 3, 1) := bL_law_1160.2.1
theorem dL_law_1162 : decode cL_law 1162 = .ok (.invokestatic 238, 3) := bL_law_1160.2.2.1
theorem dL_law_1165 : decode cL_law 1165 = .ok (.istore 5, 2) := bL_law_1160.2.2.2.1
theorem dL_law_1167 : decode cL_law 1167 = .ok (.aload_n 2, 1) := bL_law_1160.2.2.2.2.1
theorem dL_law_1168 : decode cL_law 1168 = .ok (.aload_n 0, 1) := bL_law_1160.2.2.2.2.2.1
theorem dL_law_1169 : decode cL_law 1169 = .ok (.iload 4, 2) := bL_law_1160.2.2.2.2.2.2.1
theorem dL_law_1171 : decode cL_law 1171 = .ok (.iconst 1, 1) := bL_law_1160.2.2.2.2.2.2.2.1
theorem dL_law_1172 : decode cL_law 1172 = .ok (.iadd, 1) := bL_law_1160.2.2.2.2.2.2.2.2.1
theorem dL_law_1173 : decode cL_law 1173 = .ok (.iaload, 1) := bL_law_1160.2.2.2.2.2.2.2.2.2.1
theorem dL_law_1174 : decode cL_law 1174 = .ok (.aload_n 0, 1) := bL_law_1160.2.2.2.2.2.2.2.2.2.2.1
theorem dL_law_1175 : decode cL_law 1175 = .ok (.iload 4, 2) := bL_law_1160.2.2.2.2.2.2.2.2.2.2.2.1
theorem dL_law_1177 : decode cL_law 1177 = .ok (.iconst 2, 1) := bL_law_1160.2.2.2.2.2.2.2.2.2.2.2.2.1
theorem dL_law_1178 : decode cL_law 1178 = .ok (.iadd, 1) := bL_law_1160.2.2.2.2.2.2.2.2.2.2.2.2.2.1
theorem dL_law_1179 : decode cL_law 1179 = .ok (.iaload, 1) := bL_law_1160.2.2.2.2.2.2.2.2.2.2.2.2.2.2.1
theorem dL_law_1180 : decode cL_law 1180 = .ok (.invokevirtual 240, 3) := bL_law_1160.2.2.2.2.2.2.2.2.2.2.2.2.2.2.2
set_option maxRecDepth 100000 in
theorem bL_law_1183 : (decode cL_law 1183 = .ok (.istore 6, 2)) ∧ (decode cL_law 1185 = .ok (.goto 811, 3)) ∧ (decode cL_law 1188 = .ok (.aload_n 1, 1)) ∧ (decode cL_law 1189 = .ok (.aload_n 0, 1)) ∧ (decode cL_law 1190 = .ok (.iload 4, 2)) ∧ (decode cL_law 1192 = .ok (.iconst 1, 1)) ∧ (decode cL_law 1193 = .ok (.iadd, 1)) ∧ (decode cL_law 1194 = .ok (.iaload, 1)) ∧ (decode cL_law 1195 = .ok (.aload_n 0, 1)) ∧ (decode cL_law 1196 = .ok (.iload 4, 2)) ∧ (decode cL_law 1198 = .ok (.iconst 2, 1)) ∧ (decode cL_law 1199 = .ok (.iadd, 1)) ∧ (decode cL_law 1200 = .ok (.iaload, 1)) ∧ (decode cL_law 1201 = .ok (.aload_n 0, 1)) ∧ (decode cL_law 1202 = .ok (.iload 4, 2)) ∧ (decode cL_law 1204 = .ok (.iconst 3, 1)) := by decide +kernel
theorem dL_law_1183 : decode cL_law 1183 = .ok (.istore 6, 2) := bL_law_1183.1
theorem dL_law_1185 : decode cL_law 1185 = .ok (.goto 811, 3) := bL_law_1183.2.1
theorem dL_law_1188 : decode cL_law 1188 = .ok (.aload_n 1, 1) := bL_law_1183.2.2.1
theorem dL_law_1189 : decode cL_law 1189 = .ok (.aload_n 0, 1) := bL_law_1183.2.2.2.1
theorem dL_law_1190 : decode cL_law 1190 = .ok (.iload 4, 2) := bL_law_1183.2.2.2.2.1
theorem dL_law_1192 : decode cL_law 1192 = .ok (.iconst 1, 1) := bL_law_1183.2.2.2.2.2.1
theorem dL_law_1193 : decode cL_law 1193 = .ok (.iadd, 1) := bL_law_1183.2.2.2.2.2.2.1
theorem dL_law_1194 : decode cL_law 1194 = .ok (.iaload, 1) := bL_law_1183.2.2.2.2.2.2.2.1
theorem dL_law_1195 : decode cL_law 1195 = .ok (.aload_n 0, 1) := bL_law_1183.2.2.2.2.2.2.2.2.1
theorem dL_law_1196 : decode cL_law 1196 = .ok (.iload 4, 2) := bL_law_1183.2.2.2.2.2.2.2.2.2.1
theorem dL_law_1198 : decode cL_law 1198 = .ok (.iconst 2, 1) := bL_law_1183.2.2.2.2.2.2.2.2.2.2.1
theorem dL_law_1199 : decode cL_law 1199 = .ok (.iadd, 1) := bL_law_1183.2.2.2.2.2.2.2.2.2.2.2.1
theorem dL_law_1200 : decode cL_law 1200 = .ok (.iaload, 1) := bL_law_1183.2.2.2.2.2.2.2.2.2.2.2.2.1
theorem dL_law_1201 : decode cL_law 1201 = .ok (.aload_n 0, 1) := bL_law_1183.2.2.2.2.2.2.2.2.2.2.2.2.2.1
theorem dL_law_1202 : decode cL_law 1202 = .ok (.iload 4, 2) := bL_law_1183.2.2.2.2.2.2.2.2.2.2.2.2.2.2.1
theorem dL_law_1204 : decode cL_law 1204 = .ok (.iconst 3, 1) := bL_law_1183.2.2.2.2.2.2.2.2.2.2.2.2.2.2.2
set_option maxRecDepth 100000 in
theorem bL_law_1205 : (decode cL_law 1205 = .ok (.iadd, 1)) ∧ (decode cL_law 1206 = .ok (.iaload, 1)) ∧ (decode cL_law 1207 = .ok (.aload_n 3, 1)) ∧ (decode cL_law 1208 = .ok (.invokestatic 241, 3)) ∧ (decode cL_law 1211 = .ok (.istore 5, 2)) ∧ (decode cL_law 1213 = .ok (.aload_n 2, 1)) ∧ (decode cL_law 1214 = .ok (.aload_n 0, 1)) ∧ (decode cL_law 1215 = .ok (.iload 4, 2)) ∧ (decode cL_law 1217 = .ok (.iconst 1, 1)) ∧ (decode cL_law 1218 = .ok (.iadd, 1)) ∧ (decode cL_law 1219 = .ok (.iaload, 1)) ∧ (decode cL_law 1220 = .ok (.aload_n 0, 1)) ∧ (decode cL_law 1221 = .ok (.iload 4, 2)) ∧ (decode cL_law 1223 = .ok (.iconst 2, 1)) ∧ (decode cL_law 1224 = .ok (.iadd, 1)) ∧ (decode cL_law 1225 = .ok (.iaload, 1)) := by decide +kernel
theorem dL_law_1205 : decode cL_law 1205 = .ok (.iadd, 1) := bL_law_1205.1
theorem dL_law_1206 : decode cL_law 1206 = .ok (.iaload, 1) := bL_law_1205.2.1
theorem dL_law_1207 : decode cL_law 1207 = .ok (.aload_n 3, 1) := bL_law_1205.2.2.1
theorem dL_law_1208 : decode cL_law 1208 = .ok (.invokestatic 241, 3) := bL_law_1205.2.2.2.1
theorem dL_law_1211 : decode cL_law 1211 = .ok (.istore 5, 2) := bL_law_1205.2.2.2.2.1
theorem dL_law_1213 : decode cL_law 1213 = .ok (.aload_n 2, 1) := bL_law_1205.2.2.2.2.2.1
theorem dL_law_1214 : decode cL_law 1214 = .ok (.aload_n 0, 1) := bL_law_1205.2.2.2.2.2.2.1
theorem dL_law_1215 : decode cL_law 1215 = .ok (.iload 4, 2) := bL_law_1205.2.2.2.2.2.2.2.1
theorem dL_law_1217 : decode cL_law 1217 = .ok (.iconst 1, 1) := bL_law_1205.2.2.2.2.2.2.2.2.1
theorem dL_law_1218 : decode cL_law 1218 = .ok (.iadd, 1) := bL_law_1205.2.2.2.2.2.2.2.2.2.1
theorem dL_law_1219 : decode cL_law 1219 = .ok (.iaload, 1) := bL_law_1205.2.2.2.2.2.2.2.2.2.2.1
theorem dL_law_1220 : decode cL_law 1220 = .ok (.aload_n 0, 1) := bL_law_1205.2.2.2.2.2.2.2.2.2.2.2.1
theorem dL_law_1221 : decode cL_law 1221 = .ok (.iload 4, 2) := bL_law_1205.2.2.2.2.2.2.2.2.2.2.2.2.1
theorem dL_law_1223 : decode cL_law 1223 = .ok (.iconst 2, 1) := bL_law_1205.2.2.2.2.2.2.2.2.2.2.2.2.2.1
theorem dL_law_1224 : decode cL_law 1224 = .ok (.iadd, 1) := bL_law_1205.2.2.2.2.2.2.2.2.2.2.2.2.2.2.1
theorem dL_law_1225 : decode cL_law 1225 = .ok (.iaload, 1) := bL_law_1205.2.2.2.2.2.2.2.2.2.2.2.2.2.2.2
set_option maxRecDepth 100000 in
theorem bL_law_1226 : (decode cL_law 1226 = .ok (.aload_n 0, 1)) ∧ (decode cL_law 1227 = .ok (.iload 4, 2)) ∧ (decode cL_law 1229 = .ok (.iconst 3, 1)) ∧ (decode cL_law 1230 = .ok (.iadd, 1)) ∧ (decode cL_law 1231 = .ok (.iaload, 1)) ∧ (decode cL_law 1232 = .ok (.invokevirtual 243, 3)) ∧ (decode cL_law 1235 = .ok (.astore 6, 2)) ∧ (decode cL_law 1237 = .ok (.goto 759, 3)) ∧ (decode cL_law 1240 = .ok (.aload_n 1, 1)) ∧ (decode cL_law 1241 = .ok (.aload_n 0, 1)) ∧ (decode cL_law 1242 = .ok (.iload 4, 2)) ∧ (decode cL_law 1244 = .ok (.iconst 1, 1)) ∧ (decode cL_law 1245 = .ok (.iadd, 1)) ∧ (decode cL_law 1246 = .ok (.iaload, 1)) ∧ (decode cL_law 1247 = .ok (.aload_n 3, 1)) ∧ (decode cL_law 1248 = .ok (.invokestatic 244, 3)) := by decide +kernel
theorem dL_law_1226 : decode cL_law 1226 = .ok (.aload_n 0, 1) := bL_law_1226.1
theorem dL_law_1227 : decode cL_law 1227 = .ok (.iload 4, 2) := bL_law_1226.2.1
theorem dL_law_1229 : decode cL_law 1229 = .ok (.iconst 3, 1) := bL_law_1226.2.2.1
theorem dL_law_1230 : decode cL_law 1230 = .ok (.iadd, 1) := bL_law_1226.2.2.2.1
theorem dL_law_1231 : decode cL_law 1231 = .ok (.iaload, 1) := bL_law_1226.2.2.2.2.1
theorem dL_law_1232 : decode cL_law 1232 = .ok (.invokevirtual 243, 3) := bL_law_1226.2.2.2.2.2.1
theorem dL_law_1235 : decode cL_law 1235 = .ok (.astore 6, 2) := bL_law_1226.2.2.2.2.2.2.1
theorem dL_law_1237 : decode cL_law 1237 = .ok (.goto 759, 3) := bL_law_1226.2.2.2.2.2.2.2.1
theorem dL_law_1240 : decode cL_law 1240 = .ok (.aload_n 1, 1) := bL_law_1226.2.2.2.2.2.2.2.2.1
theorem dL_law_1241 : decode cL_law 1241 = .ok (.aload_n 0, 1) := bL_law_1226.2.2.2.2.2.2.2.2.2.1
theorem dL_law_1242 : decode cL_law 1242 = .ok (.iload 4, 2) := bL_law_1226.2.2.2.2.2.2.2.2.2.2.1
theorem dL_law_1244 : decode cL_law 1244 = .ok (.iconst 1, 1) := bL_law_1226.2.2.2.2.2.2.2.2.2.2.2.1
theorem dL_law_1245 : decode cL_law 1245 = .ok (.iadd, 1) := bL_law_1226.2.2.2.2.2.2.2.2.2.2.2.2.1
theorem dL_law_1246 : decode cL_law 1246 = .ok (.iaload, 1) := bL_law_1226.2.2.2.2.2.2.2.2.2.2.2.2.2.1
theorem dL_law_1247 : decode cL_law 1247 = .ok (.aload_n 3, 1) := bL_law_1226.2.2.2.2.2.2.2.2.2.2.2.2.2.2.1
theorem dL_law_1248 : decode cL_law 1248 = .ok (.invokestatic 244, 3) := bL_law_1226.2.2.2.2.2.2.2.2.2.2.2.2.2.2.2
set_option maxRecDepth 100000 in
theorem bL_law_1251 : (decode cL_law 1251 = .ok (.istore 5, 2)) ∧ (decode cL_law 1253 = .ok (.aload_n 2, 1)) ∧ (decode cL_law 1254 = .ok (.aload_n 0, 1)) ∧ (decode cL_law 1255 = .ok (.iload 4, 2)) ∧ (decode cL_law 1257 = .ok (.iconst 1, 1)) ∧ (decode cL_law 1258 = .ok (.iadd, 1)) ∧ (decode cL_law 1259 = .ok (.iaload, 1)) ∧ (decode cL_law 1260 = .ok (.invokevirtual 246, 3)) ∧ (decode cL_law 1263 = .ok (.istore 6, 2)) ∧ (decode cL_law 1265 = .ok (.goto 731, 3)) ∧ (decode cL_law 1268 = .ok (.aload_n 1, 1)) ∧ (decode cL_law 1269 = .ok (.aload_n 0, 1)) ∧ (decode cL_law 1270 = .ok (.iload 4, 2)) ∧ (decode cL_law 1272 = .ok (.iconst 1, 1)) ∧ (decode cL_law 1273 = .ok (.iadd, 1)) ∧ (decode cL_law 1274 = .ok (.iaload, 1)) := by decide +kernel
theorem dL_law_1251 : decode cL_law 1251 = .ok (.istore 5, 2) := bL_law_1251.1
theorem dL_law_1253 : decode cL_law 1253 = .ok (.aload_n 2, 1) := bL_law_1251.2.1
theorem dL_law_1254 : decode cL_law 1254 = .ok (.aload_n 0, 1) := bL_law_1251.2.2.1
theorem dL_law_1255 : decode cL_law 1255 = .ok (.iload 4, 2) := bL_law_1251.2.2.2.1
theorem dL_law_1257 : decode cL_law 1257 = .ok (.iconst 1, 1) := bL_law_1251.2.2.2.2.1
theorem dL_law_1258 : decode cL_law 1258 = .ok (.iadd, 1) := bL_law_1251.2.2.2.2.2.1
theorem dL_law_1259 : decode cL_law 1259 = .ok (.iaload, 1) := bL_law_1251.2.2.2.2.2.2.1
theorem dL_law_1260 : decode cL_law 1260 = .ok (.invokevirtual 246, 3) := bL_law_1251.2.2.2.2.2.2.2.1
theorem dL_law_1263 : decode cL_law 1263 = .ok (.istore 6, 2) := bL_law_1251.2.2.2.2.2.2.2.2.1
theorem dL_law_1265 : decode cL_law 1265 = .ok (.goto 731, 3) := bL_law_1251.2.2.2.2.2.2.2.2.2.1
theorem dL_law_1268 : decode cL_law 1268 = .ok (.aload_n 1, 1) := bL_law_1251.2.2.2.2.2.2.2.2.2.2.1
theorem dL_law_1269 : decode cL_law 1269 = .ok (.aload_n 0, 1) := bL_law_1251.2.2.2.2.2.2.2.2.2.2.2.1
theorem dL_law_1270 : decode cL_law 1270 = .ok (.iload 4, 2) := bL_law_1251.2.2.2.2.2.2.2.2.2.2.2.2.1
theorem dL_law_1272 : decode cL_law 1272 = .ok (.iconst 1, 1) := bL_law_1251.2.2.2.2.2.2.2.2.2.2.2.2.2.1
theorem dL_law_1273 : decode cL_law 1273 = .ok (.iadd, 1) := bL_law_1251.2.2.2.2.2.2.2.2.2.2.2.2.2.2.1
theorem dL_law_1274 : decode cL_law 1274 = .ok (.iaload, 1) := bL_law_1251.2.2.2.2.2.2.2.2.2.2.2.2.2.2.2
set_option maxRecDepth 100000 in
theorem bL_law_1275 : (decode cL_law 1275 = .ok (.aload_n 3, 1)) ∧ (decode cL_law 1276 = .ok (.invokestatic 247, 3)) ∧ (decode cL_law 1279 = .ok (.istore 5, 2)) ∧ (decode cL_law 1281 = .ok (.aload_n 2, 1)) ∧ (decode cL_law 1282 = .ok (.aload_n 0, 1)) ∧ (decode cL_law 1283 = .ok (.iload 4, 2)) ∧ (decode cL_law 1285 = .ok (.iconst 1, 1)) ∧ (decode cL_law 1286 = .ok (.iadd, 1)) ∧ (decode cL_law 1287 = .ok (.iaload, 1)) ∧ (decode cL_law 1288 = .ok (.invokevirtual 249, 3)) ∧ (decode cL_law 1291 = .ok (.istore 6, 2)) ∧ (decode cL_law 1293 = .ok (.goto 703, 3)) ∧ (decode cL_law 1296 = .ok (.aload_n 1, 1)) ∧ (decode cL_law 1297 = .ok (.aload_n 0, 1)) ∧ (decode cL_law 1298 = .ok (.iload 4, 2)) ∧ (decode cL_law 1300 = .ok (.iconst 1, 1)) := by decide +kernel
theorem dL_law_1275 : decode cL_law 1275 = .ok (.aload_n 3, 1) := bL_law_1275.1
theorem dL_law_1276 : decode cL_law 1276 = .ok (.invokestatic 247, 3) := bL_law_1275.2.1
theorem dL_law_1279 : decode cL_law 1279 = .ok (.istore 5, 2) := bL_law_1275.2.2.1
theorem dL_law_1281 : decode cL_law 1281 = .ok (.aload_n 2, 1) := bL_law_1275.2.2.2.1
theorem dL_law_1282 : decode cL_law 1282 = .ok (.aload_n 0, 1) := bL_law_1275.2.2.2.2.1
theorem dL_law_1283 : decode cL_law 1283 = .ok (.iload 4, 2) := bL_law_1275.2.2.2.2.2.1
theorem dL_law_1285 : decode cL_law 1285 = .ok (.iconst 1, 1) := bL_law_1275.2.2.2.2.2.2.1
theorem dL_law_1286 : decode cL_law 1286 = .ok (.iadd, 1) := bL_law_1275.2.2.2.2.2.2.2.1
theorem dL_law_1287 : decode cL_law 1287 = .ok (.iaload, 1) := bL_law_1275.2.2.2.2.2.2.2.2.1
theorem dL_law_1288 : decode cL_law 1288 = .ok (.invokevirtual 249, 3) := bL_law_1275.2.2.2.2.2.2.2.2.2.1
theorem dL_law_1291 : decode cL_law 1291 = .ok (.istore 6, 2) := bL_law_1275.2.2.2.2.2.2.2.2.2.2.1
theorem dL_law_1293 : decode cL_law 1293 = .ok (.goto 703, 3) := bL_law_1275.2.2.2.2.2.2.2.2.2.2.2.1
theorem dL_law_1296 : decode cL_law 1296 = .ok (.aload_n 1, 1) := bL_law_1275.2.2.2.2.2.2.2.2.2.2.2.2.1
theorem dL_law_1297 : decode cL_law 1297 = .ok (.aload_n 0, 1) := bL_law_1275.2.2.2.2.2.2.2.2.2.2.2.2.2.1
theorem dL_law_1298 : decode cL_law 1298 = .ok (.iload 4, 2) := bL_law_1275.2.2.2.2.2.2.2.2.2.2.2.2.2.2.1
theorem dL_law_1300 : decode cL_law 1300 = .ok (.iconst 1, 1) := bL_law_1275.2.2.2.2.2.2.2.2.2.2.2.2.2.2.2
set_option maxRecDepth 100000 in
theorem bL_law_1301 : (decode cL_law 1301 = .ok (.iadd, 1)) ∧ (decode cL_law 1302 = .ok (.iaload, 1)) ∧ (decode cL_law 1303 = .ok (.aload_n 3, 1)) ∧ (decode cL_law 1304 = .ok (.invokestatic 250, 3)) ∧ (decode cL_law 1307 = .ok (.istore 5, 2)) ∧ (decode cL_law 1309 = .ok (.aload_n 2, 1)) ∧ (decode cL_law 1310 = .ok (.aload_n 0, 1)) ∧ (decode cL_law 1311 = .ok (.iload 4, 2)) ∧ (decode cL_law 1313 = .ok (.iconst 1, 1)) ∧ (decode cL_law 1314 = .ok (.iadd, 1)) ∧ (decode cL_law 1315 = .ok (.iaload, 1)) ∧ (decode cL_law 1316 = .ok (.invokevirtual 252, 3)) ∧ (decode cL_law 1319 = .ok (.istore 6, 2)) ∧ (decode cL_law 1321 = .ok (.goto 675, 3)) ∧ (decode cL_law 1324 = .ok (.aload_n 1, 1)) ∧ (decode cL_law 1325 = .ok (.aload_n 0, 1)) := by decide +kernel
theorem dL_law_1301 : decode cL_law 1301 = .ok (.iadd, 1) := bL_law_1301.1
theorem dL_law_1302 : decode cL_law 1302 = .ok (.iaload, 1) := bL_law_1301.2.1
theorem dL_law_1303 : decode cL_law 1303 = .ok (.aload_n 3, 1) := bL_law_1301.2.2.1
theorem dL_law_1304 : decode cL_law 1304 = .ok (.invokestatic 250, 3) := bL_law_1301.2.2.2.1
theorem dL_law_1307 : decode cL_law 1307 = .ok (.istore 5, 2) := bL_law_1301.2.2.2.2.1
theorem dL_law_1309 : decode cL_law 1309 = .ok (.aload_n 2, 1) := bL_law_1301.2.2.2.2.2.1
theorem dL_law_1310 : decode cL_law 1310 = .ok (.aload_n 0, 1) := bL_law_1301.2.2.2.2.2.2.1
theorem dL_law_1311 : decode cL_law 1311 = .ok (.iload 4, 2) := bL_law_1301.2.2.2.2.2.2.2.1
theorem dL_law_1313 : decode cL_law 1313 = .ok (.iconst 1, 1) := bL_law_1301.2.2.2.2.2.2.2.2.1
theorem dL_law_1314 : decode cL_law 1314 = .ok (.iadd, 1) := bL_law_1301.2.2.2.2.2.2.2.2.2.1
theorem dL_law_1315 : decode cL_law 1315 = .ok (.iaload, 1) := bL_law_1301.2.2.2.2.2.2.2.2.2.2.1
theorem dL_law_1316 : decode cL_law 1316 = .ok (.invokevirtual 252, 3) := bL_law_1301.2.2.2.2.2.2.2.2.2.2.2.1
theorem dL_law_1319 : decode cL_law 1319 = .ok (.istore 6, 2) := bL_law_1301.2.2.2.2.2.2.2.2.2.2.2.2.1
theorem dL_law_1321 : decode cL_law 1321 = .ok (.goto 675, 3) := bL_law_1301.2.2.2.2.2.2.2.2.2.2.2.2.2.1
theorem dL_law_1324 : decode cL_law 1324 = .ok (.aload_n 1, 1) := bL_law_1301.2.2.2.2.2.2.2.2.2.2.2.2.2.2.1
theorem dL_law_1325 : decode cL_law 1325 = .ok (.aload_n 0, 1) := bL_law_1301.2.2.2.2.2.2.2.2.2.2.2.2.2.2.2
set_option maxRecDepth 100000 in
theorem bL_law_1326 : (decode cL_law 1326 = .ok (.iload 4, 2)) ∧ (decode cL_law 1328 = .ok (.iconst 1, 1)) ∧ (decode cL_law 1329 = .ok (.iadd, 1)) ∧ (decode cL_law 1330 = .ok (.iaload, 1)) ∧ (decode cL_law 1331 = .ok (.aload_n 0, 1)) ∧ (decode cL_law 1332 = .ok (.iload 4, 2)) ∧ (decode cL_law 1334 = .ok (.iconst 2, 1)) ∧ (decode cL_law 1335 = .ok (.iadd, 1)) ∧ (decode cL_law 1336 = .ok (.iaload, 1)) ∧ (decode cL_law 1337 = .ok (.aload_n 3, 1)) ∧ (decode cL_law 1338 = .ok (.invokestatic 253, 3)) ∧ (decode cL_law 1341 = .ok (.istore 5, 2)) ∧ (decode cL_law 1343 = .ok (.aload_n 2, 1)) ∧ (decode cL_law 1344 = .ok (.aload_n 0, 1)) ∧ (decode cL_law 1345 = .ok (.iload 4, 2)) ∧ (decode cL_law 1347 = .ok (.iconst 1, 1)) := by decide +kernel
theorem dL_law_1326 : decode cL_law 1326 = .ok (.iload 4, 2) := bL_law_1326.1
theorem dL_law_1328 : decode cL_law 1328 = .ok (.iconst 1, 1) := bL_law_1326.2.1
theorem dL_law_1329 : decode cL_law 1329 = .ok (.iadd, 1) := bL_law_1326.2.2.1
theorem dL_law_1330 : decode cL_law 1330 = .ok (.iaload, 1) := bL_law_1326.2.2.2.1
theorem dL_law_1331 : decode cL_law 1331 = .ok (.aload_n 0, 1) := bL_law_1326.2.2.2.2.1
theorem dL_law_1332 : decode cL_law 1332 = .ok (.iload 4, 2) := bL_law_1326.2.2.2.2.2.1
theorem dL_law_1334 : decode cL_law 1334 = .ok (.iconst 2, 1) := bL_law_1326.2.2.2.2.2.2.1
theorem dL_law_1335 : decode cL_law 1335 = .ok (.iadd, 1) := bL_law_1326.2.2.2.2.2.2.2.1
theorem dL_law_1336 : decode cL_law 1336 = .ok (.iaload, 1) := bL_law_1326.2.2.2.2.2.2.2.2.1
theorem dL_law_1337 : decode cL_law 1337 = .ok (.aload_n 3, 1) := bL_law_1326.2.2.2.2.2.2.2.2.2.1
theorem dL_law_1338 : decode cL_law 1338 = .ok (.invokestatic 253, 3) := bL_law_1326.2.2.2.2.2.2.2.2.2.2.1
theorem dL_law_1341 : decode cL_law 1341 = .ok (.istore 5, 2) := bL_law_1326.2.2.2.2.2.2.2.2.2.2.2.1
theorem dL_law_1343 : decode cL_law 1343 = .ok (.aload_n 2, 1) := bL_law_1326.2.2.2.2.2.2.2.2.2.2.2.2.1
theorem dL_law_1344 : decode cL_law 1344 = .ok (.aload_n 0, 1) := bL_law_1326.2.2.2.2.2.2.2.2.2.2.2.2.2.1
theorem dL_law_1345 : decode cL_law 1345 = .ok (.iload 4, 2) := bL_law_1326.2.2.2.2.2.2.2.2.2.2.2.2.2.2.1
theorem dL_law_1347 : decode cL_law 1347 = .ok (.iconst 1, 1) := bL_law_1326.2.2.2.2.2.2.2.2.2.2.2.2.2.2.2
set_option maxRecDepth 100000 in
theorem bL_law_1348 : (decode cL_law 1348 = .ok (.iadd, 1)) ∧ (decode cL_law 1349 = .ok (.iaload, 1)) ∧ (decode cL_law 1350 = .ok (.aload_n 0, 1)) ∧ (decode cL_law 1351 = .ok (.iload 4, 2)) ∧ (decode cL_law 1353 = .ok (.iconst 2, 1)) ∧ (decode cL_law 1354 = .ok (.iadd, 1)) ∧ (decode cL_law 1355 = .ok (.iaload, 1)) ∧ (decode cL_law 1356 = .ok (.invokevirtual 255, 3)) ∧ (decode cL_law 1359 = .ok (.istore 6, 2)) ∧ (decode cL_law 1361 = .ok (.goto 635, 3)) ∧ (decode cL_law 1364 = .ok (.aload_n 1, 1)) ∧ (decode cL_law 1365 = .ok (.aload_n 0, 1)) ∧ (decode cL_law 1366 = .ok (.iload 4, 2)) ∧ (decode cL_law 1368 = .ok (.iconst 1, 1)) ∧ (decode cL_law 1369 = .ok (.iadd, 1)) ∧ (decode cL_law 1370 = .ok (.iaload, 1)) := by decide +kernel
theorem dL_law_1348 : decode cL_law 1348 = .ok (.iadd, 1) := bL_law_1348.1
theorem dL_law_1349 : decode cL_law 1349 = .ok (.iaload, 1) := bL_law_1348.2.1
theorem dL_law_1350 : decode cL_law 1350 = .ok (.aload_n 0, 1) := bL_law_1348.2.2.1
theorem dL_law_1351 : decode cL_law 1351 = .ok (.iload 4, 2) := bL_law_1348.2.2.2.1
theorem dL_law_1353 : decode cL_law 1353 = .ok (.iconst 2, 1) := bL_law_1348.2.2.2.2.1
theorem dL_law_1354 : decode cL_law 1354 = .ok (.iadd, 1) := bL_law_1348.2.2.2.2.2.1
theorem dL_law_1355 : decode cL_law 1355 = .ok (.iaload, 1) := bL_law_1348.2.2.2.2.2.2.1
theorem dL_law_1356 : decode cL_law 1356 = .ok (.invokevirtual 255, 3) := bL_law_1348.2.2.2.2.2.2.2.1
theorem dL_law_1359 : decode cL_law 1359 = .ok (.istore 6, 2) := bL_law_1348.2.2.2.2.2.2.2.2.1
theorem dL_law_1361 : decode cL_law 1361 = .ok (.goto 635, 3) := bL_law_1348.2.2.2.2.2.2.2.2.2.1
theorem dL_law_1364 : decode cL_law 1364 = .ok (.aload_n 1, 1) := bL_law_1348.2.2.2.2.2.2.2.2.2.2.1
theorem dL_law_1365 : decode cL_law 1365 = .ok (.aload_n 0, 1) := bL_law_1348.2.2.2.2.2.2.2.2.2.2.2.1
theorem dL_law_1366 : decode cL_law 1366 = .ok (.iload 4, 2) := bL_law_1348.2.2.2.2.2.2.2.2.2.2.2.2.1
theorem dL_law_1368 : decode cL_law 1368 = .ok (.iconst 1, 1) := bL_law_1348.2.2.2.2.2.2.2.2.2.2.2.2.2.1
theorem dL_law_1369 : decode cL_law 1369 = .ok (.iadd, 1) := bL_law_1348.2.2.2.2.2.2.2.2.2.2.2.2.2.2.1
theorem dL_law_1370 : decode cL_law 1370 = .ok (.iaload, 1) := bL_law_1348.2.2.2.2.2.2.2.2.2.2.2.2.2.2.2
set_option maxRecDepth 100000 in
theorem bL_law_1371 : (decode cL_law 1371 = .ok (.aload_n 3, 1)) ∧ (decode cL_law 1372 = .ok (.invokestatic 256, 3)) ∧ (decode cL_law 1375 = .ok (.istore 5, 2)) ∧ (decode cL_law 1377 = .ok (.aload_n 2, 1)) ∧ (decode cL_law 1378 = .ok (.aload_n 0, 1)) ∧ (decode cL_law 1379 = .ok (.iload 4, 2)) ∧ (decode cL_law 1381 = .ok (.iconst 1, 1)) ∧ (decode cL_law 1382 = .ok (.iadd, 1)) ∧ (decode cL_law 1383 = .ok (.iaload, 1)) ∧ (decode cL_law 1384 = .ok (.invokevirtual 258, 3)) ∧ (decode cL_law 1387 = .ok (.istore 6, 2)) ∧ (decode cL_law 1389 = .ok (.goto 607, 3)) ∧ (decode cL_law 1392 = .ok (.aload_n 1, 1)) ∧ (decode cL_law 1393 = .ok (.aload_n 0, 1)) ∧ (decode cL_law 1394 = .ok (.iload 4, 2)) ∧ (decode cL_law 1396 = .ok (.iconst 1, 1)) := by decide +kernel
theorem dL_law_1371 : decode cL_law 1371 = .ok (.aload_n 3, 1) := bL_law_1371.1
theorem dL_law_1372 : decode cL_law 1372 = .ok (.invokestatic 256, 3) := bL_law_1371.2.1
theorem dL_law_1375 : decode cL_law 1375 = .ok (.istore 5, 2) := bL_law_1371.2.2.1
theorem dL_law_1377 : decode cL_law 1377 = .ok (.aload_n 2, 1) := bL_law_1371.2.2.2.1
theorem dL_law_1378 : decode cL_law 1378 = .ok (.aload_n 0, 1) := bL_law_1371.2.2.2.2.1
theorem dL_law_1379 : decode cL_law 1379 = .ok (.iload 4, 2) := bL_law_1371.2.2.2.2.2.1
theorem dL_law_1381 : decode cL_law 1381 = .ok (.iconst 1, 1) := bL_law_1371.2.2.2.2.2.2.1
theorem dL_law_1382 : decode cL_law 1382 = .ok (.iadd, 1) := bL_law_1371.2.2.2.2.2.2.2.1
theorem dL_law_1383 : decode cL_law 1383 = .ok (.iaload, 1) := bL_law_1371.2.2.2.2.2.2.2.2.1
theorem dL_law_1384 : decode cL_law 1384 = .ok (.invokevirtual 258, 3) := bL_law_1371.2.2.2.2.2.2.2.2.2.1
theorem dL_law_1387 : decode cL_law 1387 = .ok (.istore 6, 2) := bL_law_1371.2.2.2.2.2.2.2.2.2.2.1
theorem dL_law_1389 : decode cL_law 1389 = .ok (.goto 607, 3) := bL_law_1371.2.2.2.2.2.2.2.2.2.2.2.1
theorem dL_law_1392 : decode cL_law 1392 = .ok (.aload_n 1, 1) := bL_law_1371.2.2.2.2.2.2.2.2.2.2.2.2.1
theorem dL_law_1393 : decode cL_law 1393 = .ok (.aload_n 0, 1) := bL_law_1371.2.2.2.2.2.2.2.2.2.2.2.2.2.1
theorem dL_law_1394 : decode cL_law 1394 = .ok (.iload 4, 2) := bL_law_1371.2.2.2.2.2.2.2.2.2.2.2.2.2.2.1
theorem dL_law_1396 : decode cL_law 1396 = .ok (.iconst 1, 1) := bL_law_1371.2.2.2.2.2.2.2.2.2.2.2.2.2.2.2
set_option maxRecDepth 100000 in
theorem bL_law_1397 : (decode cL_law 1397 = .ok (.iadd, 1)) ∧ (decode cL_law 1398 = .ok (.iaload, 1)) ∧ (decode cL_law 1399 = .ok (.aload_n 3, 1)) ∧ (decode cL_law 1400 = .ok (.invokestatic 259, 3)) ∧ (decode cL_law 1403 = .ok (.istore 5, 2)) ∧ (decode cL_law 1405 = .ok (.aload_n 2, 1)) ∧ (decode cL_law 1406 = .ok (.aload_n 0, 1)) ∧ (decode cL_law 1407 = .ok (.iload 4, 2)) ∧ (decode cL_law 1409 = .ok (.iconst 1, 1)) ∧ (decode cL_law 1410 = .ok (.iadd, 1)) ∧ (decode cL_law 1411 = .ok (.iaload, 1)) ∧ (decode cL_law 1412 = .ok (.invokevirtual 261, 3)) ∧ (decode cL_law 1415 = .ok (.istore 6, 2)) ∧ (decode cL_law 1417 = .ok (.goto 579, 3)) ∧ (decode cL_law 1420 = .ok (.aload_n 1, 1)) ∧ (decode cL_law 1421 = .ok (.aload_n 0, 1)) := by decide +kernel
theorem dL_law_1397 : decode cL_law 1397 = .ok (.iadd, 1) := bL_law_1397.1
theorem dL_law_1398 : decode cL_law 1398 = .ok (.iaload, 1) := bL_law_1397.2.1
theorem dL_law_1399 : decode cL_law 1399 = .ok (.aload_n 3, 1) := bL_law_1397.2.2.1
theorem dL_law_1400 : decode cL_law 1400 = .ok (.invokestatic 259, 3) := bL_law_1397.2.2.2.1
theorem dL_law_1403 : decode cL_law 1403 = .ok (.istore 5, 2) := bL_law_1397.2.2.2.2.1
theorem dL_law_1405 : decode cL_law 1405 = .ok (.aload_n 2, 1) := bL_law_1397.2.2.2.2.2.1
theorem dL_law_1406 : decode cL_law 1406 = .ok (.aload_n 0, 1) := bL_law_1397.2.2.2.2.2.2.1
theorem dL_law_1407 : decode cL_law 1407 = .ok (.iload 4, 2) := bL_law_1397.2.2.2.2.2.2.2.1
theorem dL_law_1409 : decode cL_law 1409 = .ok (.iconst 1, 1) := bL_law_1397.2.2.2.2.2.2.2.2.1
theorem dL_law_1410 : decode cL_law 1410 = .ok (.iadd, 1) := bL_law_1397.2.2.2.2.2.2.2.2.2.1
theorem dL_law_1411 : decode cL_law 1411 = .ok (.iaload, 1) := bL_law_1397.2.2.2.2.2.2.2.2.2.2.1
theorem dL_law_1412 : decode cL_law 1412 = .ok (.invokevirtual 261, 3) := bL_law_1397.2.2.2.2.2.2.2.2.2.2.2.1
theorem dL_law_1415 : decode cL_law 1415 = .ok (.istore 6, 2) := bL_law_1397.2.2.2.2.2.2.2.2.2.2.2.2.1
theorem dL_law_1417 : decode cL_law 1417 = .ok (.goto 579, 3) := bL_law_1397.2.2.2.2.2.2.2.2.2.2.2.2.2.1
theorem dL_law_1420 : decode cL_law 1420 = .ok (.aload_n 1, 1) := bL_law_1397.2.2.2.2.2.2.2.2.2.2.2.2.2.2.1
theorem dL_law_1421 : decode cL_law 1421 = .ok (.aload_n 0, 1) := bL_law_1397.2.2.2.2.2.2.2.2.2.2.2.2.2.2.2
set_option maxRecDepth 100000 in
theorem bL_law_1422 : (decode cL_law 1422 = .ok (.iload 4, 2)) ∧ (decode cL_law 1424 = .ok (.iconst 1, 1)) ∧ (decode cL_law 1425 = .ok (.iadd, 1)) ∧ (decode cL_law 1426 = .ok (.iaload, 1)) ∧ (decode cL_law 1427 = .ok (.aload_n 3, 1)) ∧ (decode cL_law 1428 = .ok (.invokestatic 262, 3)) ∧ (decode cL_law 1431 = .ok (.istore 5, 2)) ∧ (decode cL_law 1433 = .ok (.aload_n 2, 1)) ∧ (decode cL_law 1434 = .ok (.aload_n 0, 1)) ∧ (decode cL_law 1435 = .ok (.iload 4, 2)) ∧ (decode cL_law 1437 = .ok (.iconst 1, 1)) ∧ (decode cL_law 1438 = .ok (.iadd, 1)) ∧ (decode cL_law 1439 = .ok (.iaload, 1)) ∧ (decode cL_law 1440 = .ok (.invokevirtual 264, 3)) ∧ (decode cL_law 1443 = .ok (.istore 6, 2)) ∧ (decode cL_law 1445 = .ok (.goto 551, 3)) := by decide +kernel
theorem dL_law_1422 : decode cL_law 1422 = .ok (.iload 4, 2) := bL_law_1422.1
theorem dL_law_1424 : decode cL_law 1424 = .ok (.iconst 1, 1) := bL_law_1422.2.1
theorem dL_law_1425 : decode cL_law 1425 = .ok (.iadd, 1) := bL_law_1422.2.2.1
theorem dL_law_1426 : decode cL_law 1426 = .ok (.iaload, 1) := bL_law_1422.2.2.2.1
theorem dL_law_1427 : decode cL_law 1427 = .ok (.aload_n 3, 1) := bL_law_1422.2.2.2.2.1
theorem dL_law_1428 : decode cL_law 1428 = .ok (.invokestatic 262, 3) := bL_law_1422.2.2.2.2.2.1
theorem dL_law_1431 : decode cL_law 1431 = .ok (.istore 5, 2) := bL_law_1422.2.2.2.2.2.2.1
theorem dL_law_1433 : decode cL_law 1433 = .ok (.aload_n 2, 1) := bL_law_1422.2.2.2.2.2.2.2.1
theorem dL_law_1434 : decode cL_law 1434 = .ok (.aload_n 0, 1) := bL_law_1422.2.2.2.2.2.2.2.2.1
theorem dL_law_1435 : decode cL_law 1435 = .ok (.iload 4, 2) := bL_law_1422.2.2.2.2.2.2.2.2.2.1
theorem dL_law_1437 : decode cL_law 1437 = .ok (.iconst 1, 1) := bL_law_1422.2.2.2.2.2.2.2.2.2.2.1
theorem dL_law_1438 : decode cL_law 1438 = .ok (.iadd, 1) := bL_law_1422.2.2.2.2.2.2.2.2.2.2.2.1
theorem dL_law_1439 : decode cL_law 1439 = .ok (.iaload, 1) := bL_law_1422.2.2.2.2.2.2.2.2.2.2.2.2.1
theorem dL_law_1440 : decode cL_law 1440 = .ok (.invokevirtual 264, 3) := bL_law_1422.2.2.2.2.2.2.2.2.2.2.2.2.2.1
theorem dL_law_1443 : decode cL_law 1443 = .ok (.istore 6, 2) := bL_law_1422.2.2.2.2.2.2.2.2.2.2.2.2.2.2.1
theorem dL_law_1445 : decode cL_law 1445 = .ok (.goto 551, 3) := bL_law_1422.2.2.2.2.2.2.2.2.2.2.2.2.2.2.2
set_option maxRecDepth 100000 in
theorem bL_law_1448 : (decode cL_law 1448 = .ok (.aload_n 1, 1)) ∧ (decode cL_law 1449 = .ok (.aload_n 0, 1)) ∧ (decode cL_law 1450 = .ok (.iload 4, 2)) ∧ (decode cL_law 1452 = .ok (.iconst 1, 1)) ∧ (decode cL_law 1453 = .ok (.iadd, 1)) ∧ (decode cL_law 1454 = .ok (.iaload, 1)) ∧ (decode cL_law 1455 = .ok (.aload_n 3, 1)) ∧ (decode cL_law 1456 = .ok (.invokestatic 265, 3)) ∧ (decode cL_law 1459 = .ok (.istore 5, 2)) ∧ (decode cL_law 1461 = .ok (.aload_n 2, 1)) ∧ (decode cL_law 1462 = .ok (.aload_n 0, 1)) ∧ (decode cL_law 1463 = .ok (.iload 4, 2)) ∧ (decode cL_law 1465 = .ok (.iconst 1, 1)) ∧ (decode cL_law 1466 = .ok (.iadd, 1)) ∧ (decode cL_law 1467 = .ok (.iaload, 1)) ∧ (decode cL_law 1468 = .ok (.invokevirtual 267, 3)) := by decide +kernel
theorem dL_law_1448 : decode cL_law 1448 = .ok (.aload_n 1, 1) := bL_law_1448.1
theorem dL_law_1449 : decode cL_law 1449 = .ok (.aload_n 0, 1) := bL_law_1448.2.1
theorem dL_law_1450 : decode cL_law 1450 = .ok (.iload 4, 2) := bL_law_1448.2.2.1
theorem dL_law_1452 : decode cL_law 1452 = .ok (.iconst 1, 1) := bL_law_1448.2.2.2.1
theorem dL_law_1453 : decode cL_law 1453 = .ok (.iadd, 1) := bL_law_1448.2.2.2.2.1
theorem dL_law_1454 : decode cL_law 1454 = .ok (.iaload, 1) := bL_law_1448.2.2.2.2.2.1
theorem dL_law_1455 : decode cL_law 1455 = .ok (.aload_n 3, 1) := bL_law_1448.2.2.2.2.2.2.1
theorem dL_law_1456 : decode cL_law 1456 = .ok (.invokestatic 265, 3) := bL_law_1448.2.2.2.2.2.2.2.1
theorem dL_law_1459 : decode cL_law 1459 = .ok (.istore 5, 2) := bL_law_1448.2.2.2.2.2.2.2.2.1
theorem dL_law_1461 : decode cL_law 1461 = .ok (.aload_n 2, 1) := bL_law_1448.2.2.2.2.2.2.2.2.2.1
theorem dL_law_1462 : decode cL_law 1462 = .ok (.aload_n 0, 1) := bL_law_1448.2.2.2.2.2.2.2.2.2.2.1
theorem dL_law_1463 : decode cL_law 1463 = .ok (.iload 4, 2) := bL_law_1448.2.2.2.2.2.2.2.2.2.2.2.1
theorem dL_law_1465 : decode cL_law 1465 = .ok (.iconst 1, 1) := bL_law_1448.2.2.2.2.2.2.2.2.2.2.2.2.1
theorem dL_law_1466 : decode cL_law 1466 = .ok (.iadd, 1) := bL_law_1448.2.2.2.2.2.2.2.2.2.2.2.2.2.1
theorem dL_law_1467 : decode cL_law 1467 = .ok (.iaload, 1) := bL_law_1448.2.2.2.2.2.2.2.2.2.2.2.2.2.2.1
theorem dL_law_1468 : decode cL_law 1468 = .ok (.invokevirtual 267, 3) := bL_law_1448.2.2.2.2.2.2.2.2.2.2.2.2.2.2.2
set_option maxRecDepth 100000 in
theorem bL_law_1471 : (decode cL_law 1471 = .ok (.istore 6, 2)) ∧ (decode cL_law 1473 = .ok (.goto 523, 3)) ∧ (decode cL_law 1476 = .ok (.aload_n 1, 1)) ∧ (decode cL_law 1477 = .ok (.aload_n 0, 1)) ∧ (decode cL_law 1478 = .ok (.iload 4, 2)) ∧ (decode cL_law 1480 = .ok (.iconst 1, 1)) ∧ (decode cL_law 1481 = .ok (.iadd, 1)) ∧ (decode cL_law 1482 = .ok (.iaload, 1)) ∧ (decode cL_law 1483 = .ok (.aload_n 0, 1)) ∧ (decode cL_law 1484 = .ok (.iload 4, 2)) ∧ (decode cL_law 1486 = .ok (.iconst 2, 1)) ∧ (decode cL_law 1487 = .ok (.iadd, 1)) ∧ (decode cL_law 1488 = .ok (.iaload, 1)) ∧ (decode cL_law 1489 = .ok (.aload_n 3, 1)) ∧ (decode cL_law 1490 = .ok (.invokestatic 268, 3)) ∧ (decode cL_law 1493 = .ok (.istore 5, 2)) := by decide +kernel
theorem dL_law_1471 : decode cL_law 1471 = .ok (.istore 6, 2) := bL_law_1471.1
theorem dL_law_1473 : decode cL_law 1473 = .ok (.goto 523, 3) := bL_law_1471.2.1
theorem dL_law_1476 : decode cL_law 1476 = .ok (.aload_n 1, 1) := bL_law_1471.2.2.1
theorem dL_law_1477 : decode cL_law 1477 = .ok (.aload_n 0, 1) := bL_law_1471.2.2.2.1
theorem dL_law_1478 : decode cL_law 1478 = .ok (.iload 4, 2) := bL_law_1471.2.2.2.2.1
theorem dL_law_1480 : decode cL_law 1480 = .ok (.iconst 1, 1) := bL_law_1471.2.2.2.2.2.1
theorem dL_law_1481 : decode cL_law 1481 = .ok (.iadd, 1) := bL_law_1471.2.2.2.2.2.2.1
theorem dL_law_1482 : decode cL_law 1482 = .ok (.iaload, 1) := bL_law_1471.2.2.2.2.2.2.2.1
theorem dL_law_1483 : decode cL_law 1483 = .ok (.aload_n 0, 1) := bL_law_1471.2.2.2.2.2.2.2.2.1
theorem dL_law_1484 : decode cL_law 1484 = .ok (.iload 4, 2) := bL_law_1471.2.2.2.2.2.2.2.2.2.1
theorem dL_law_1486 : decode cL_law 1486 = .ok (.iconst 2, 1) := bL_law_1471.2.2.2.2.2.2.2.2.2.2.1
theorem dL_law_1487 : decode cL_law 1487 = .ok (.iadd, 1) := bL_law_1471.2.2.2.2.2.2.2.2.2.2.2.1
theorem dL_law_1488 : decode cL_law 1488 = .ok (.iaload, 1) := bL_law_1471.2.2.2.2.2.2.2.2.2.2.2.2.1
theorem dL_law_1489 : decode cL_law 1489 = .ok (.aload_n 3, 1) := bL_law_1471.2.2.2.2.2.2.2.2.2.2.2.2.2.1
theorem dL_law_1490 : decode cL_law 1490 = .ok (.invokestatic 268, 3) := bL_law_1471.2.2.2.2.2.2.2.2.2.2.2.2.2.2.1
theorem dL_law_1493 : decode cL_law 1493 = .ok (.istore 5, 2) := bL_law_1471.2.2.2.2.2.2.2.2.2.2.2.2.2.2.2
set_option maxRecDepth 100000 in
theorem bL_law_1495 : (decode cL_law 1495 = .ok (.aload_n 2, 1)) ∧ (decode cL_law 1496 = .ok (.aload_n 0, 1)) ∧ (decode cL_law 1497 = .ok (.iload 4, 2)) ∧ (decode cL_law 1499 = .ok (.iconst 1, 1)) ∧ (decode cL_law 1500 = .ok (.iadd, 1)) ∧ (decode cL_law 1501 = .ok (.iaload, 1)) ∧ (decode cL_law 1502 = .ok (.aload_n 0, 1)) ∧ (decode cL_law 1503 = .ok (.iload 4, 2)) ∧ (decode cL_law 1505 = .ok (.iconst 2, 1)) ∧ (decode cL_law 1506 = .ok (.iadd, 1)) ∧ (decode cL_law 1507 = .ok (.iaload, 1)) ∧ (decode cL_law 1508 = .ok (.invokevirtual 270, 3)) ∧ (decode cL_law 1511 = .ok (.istore 6, 2)) ∧ (decode cL_law 1513 = .ok (.goto 483, 3)) ∧ (decode cL_law 1516 = .ok (.aload_n 1, 1)) ∧ (decode cL_law 1517 = .ok (.aload_n 0, 1)) := by decide +kernel
theorem dL_law_1495 : decode cL_law 1495 = .ok (.aload_n 2, 1) := bL_law_1495.1
theorem dL_law_1496 : decode cL_law 1496 = .ok (.aload_n 0, 1) := bL_law_1495.2.1
theorem dL_law_1497 : decode cL_law 1497 = .ok (.iload 4, 2) := bL_law_1495.2.2.1
theorem dL_law_1499 : decode cL_law 1499 = .ok (.iconst 1, 1) := bL_law_1495.2.2.2.1
theorem dL_law_1500 : decode cL_law 1500 = .ok (.iadd, 1) := bL_law_1495.2.2.2.2.1
theorem dL_law_1501 : decode cL_law 1501 = .ok (.iaload, 1) := bL_law_1495.2.2.2.2.2.1
theorem dL_law_1502 : decode cL_law 1502 = .ok (.aload_n 0, 1) := bL_law_1495.2.2.2.2.2.2.1
theorem dL_law_1503 : decode cL_law 1503 = .ok (.iload 4, 2) := bL_law_1495.2.2.2.2.2.2.2.1
theorem dL_law_1505 : decode cL_law 1505 = .ok (.iconst 2, 1) := bL_law_1495.2.2.2.2.2.2.2.2.1
theorem dL_law_1506 : decode cL_law 1506 = .ok (.iadd, 1) := bL_law_1495.2.2.2.2.2.2.2.2.2.1
theorem dL_law_1507 : decode cL_law 1507 = .ok (.iaload, 1) := bL_law_1495.2.2.2.2.2.2.2.2.2.2.1
theorem dL_law_1508 : decode cL_law 1508 = .ok (.invokevirtual 270, 3) := bL_law_1495.2.2.2.2.2.2.2.2.2.2.2.1
theorem dL_law_1511 : decode cL_law 1511 = .ok (.istore 6, 2) := bL_law_1495.2.2.2.2.2.2.2.2.2.2.2.2.1
theorem dL_law_1513 : decode cL_law 1513 = .ok (.goto 483, 3) := bL_law_1495.2.2.2.2.2.2.2.2.2.2.2.2.2.1
theorem dL_law_1516 : decode cL_law 1516 = .ok (.aload_n 1, 1) := bL_law_1495.2.2.2.2.2.2.2.2.2.2.2.2.2.2.1
theorem dL_law_1517 : decode cL_law 1517 = .ok (.aload_n 0, 1) := bL_law_1495.2.2.2.2.2.2.2.2.2.2.2.2.2.2.2
set_option maxRecDepth 100000 in
theorem bL_law_1518 : (decode cL_law 1518 = .ok (.iload 4, 2)) ∧ (decode cL_law 1520 = .ok (.iconst 1, 1)) ∧ (decode cL_law 1521 = .ok (.iadd, 1)) ∧ (decode cL_law 1522 = .ok (.iaload, 1)) ∧ (decode cL_law 1523 = .ok (.aload_n 0, 1)) ∧ (decode cL_law 1524 = .ok (.iload 4, 2)) ∧ (decode cL_law 1526 = .ok (.iconst 2, 1)) ∧ (decode cL_law 1527 = .ok (.iadd, 1)) ∧ (decode cL_law 1528 = .ok (.iaload, 1)) ∧ (decode cL_law 1529 = .ok (.aload_n 3, 1)) ∧ (decode cL_law 1530 = .ok (.invokestatic 271, 3)) ∧ (decode cL_law 1533 = .ok (.istore 5, 2)) ∧ (decode cL_law 1535 = .ok (.aload_n 2, 1)) ∧ (decode cL_law 1536 = .ok (.aload_n 0, 1)) ∧ (decode cL_law 1537 = .ok (.iload 4, 2)) ∧ (decode cL_law 1539 = .ok (.iconst 1, 1)) := by decide +kernel
theorem dL_law_1518 : decode cL_law 1518 = .ok (.iload 4, 2) := bL_law_1518.1
theorem dL_law_1520 : decode cL_law 1520 = .ok (.iconst 1, 1) := bL_law_1518.2.1
theorem dL_law_1521 : decode cL_law 1521 = .ok (.iadd, 1) := bL_law_1518.2.2.1
theorem dL_law_1522 : decode cL_law 1522 = .ok (.iaload, 1) := bL_law_1518.2.2.2.1
theorem dL_law_1523 : decode cL_law 1523 = .ok (.aload_n 0, 1) := bL_law_1518.2.2.2.2.1
theorem dL_law_1524 : decode cL_law 1524 = .ok (.iload 4, 2) := bL_law_1518.2.2.2.2.2.1
theorem dL_law_1526 : decode cL_law 1526 = .ok (.iconst 2, 1) := bL_law_1518.2.2.2.2.2.2.1
theorem dL_law_1527 : decode cL_law 1527 = .ok (.iadd, 1) := bL_law_1518.2.2.2.2.2.2.2.1
theorem dL_law_1528 : decode cL_law 1528 = .ok (.iaload, 1) := bL_law_1518.2.2.2.2.2.2.2.2.1
theorem dL_law_1529 : decode cL_law 1529 = .ok (.aload_n 3, 1) := bL_law_1518.2.2.2.2.2.2.2.2.2.1
theorem dL_law_1530 : decode cL_law 1530 = .ok (.invokestatic 271, 3) := bL_law_1518.2.2.2.2.2.2.2.2.2.2.1
theorem dL_law_1533 : decode cL_law 1533 = .ok (.istore 5, 2) := bL_law_1518.2.2.2.2.2.2.2.2.2.2.2.1
theorem dL_law_1535 : decode cL_law 1535 = .ok (.aload_n 2, 1) := bL_law_1518.2.2.2.2.2.2.2.2.2.2.2.2.1
theorem dL_law_1536 : decode cL_law 1536 = .ok (.aload_n 0, 1) := bL_law_1518.2.2.2.2.2.2.2.2.2.2.2.2.2.1
theorem dL_law_1537 : decode cL_law 1537 = .ok (.iload 4, 2) := bL_law_1518.2.2.2.2.2.2.2.2.2.2.2.2.2.2.1
theorem dL_law_1539 : decode cL_law 1539 = .ok (.iconst 1, 1) := bL_law_1518.2.2.2.2.2.2.2.2.2.2.2.2.2.2.2
set_option maxRecDepth 100000 in
theorem bL_law_1540 : (decode cL_law 1540 = .ok (.iadd, 1)) ∧ (decode cL_law 1541 = .ok (.iaload, 1)) ∧ (decode cL_law 1542 = .ok (.aload_n 0, 1)) ∧ (decode cL_law 1543 = .ok (.iload 4, 2)) ∧ (decode cL_law 1545 = .ok (.iconst 2, 1)) ∧ (decode cL_law 1546 = .ok (.iadd, 1)) ∧ (decode cL_law 1547 = .ok (.iaload, 1)) ∧ (decode cL_law 1548 = .ok (.invokevirtual 273, 3)) ∧ (decode cL_law 1551 = .ok (.istore 6, 2)) ∧ (decode cL_law 1553 = .ok (.goto 443, 3)) ∧ (decode cL_law 1556 = .ok (.aload_n 1, 1)) ∧ (decode cL_law 1557 = .ok (.aload_n 0, 1)) ∧ (decode cL_law 1558 = .ok (.iload 4, 2)) ∧ (decode cL_law 1560 = .ok (.iconst 1, 1)) ∧ (decode cL_law 1561 = .ok (.iadd, 1)) ∧ (decode cL_law 1562 = .ok (.iaload, 1)) := by decide +kernel
theorem dL_law_1540 : decode cL_law 1540 = .ok (.iadd, 1) := bL_law_1540.1
theorem dL_law_1541 : decode cL_law 1541 = .ok (.iaload, 1) := bL_law_1540.2.1
theorem dL_law_1542 : decode cL_law 1542 = .ok (.aload_n 0, 1) := bL_law_1540.2.2.1
theorem dL_law_1543 : decode cL_law 1543 = .ok (.iload 4, 2) := bL_law_1540.2.2.2.1
theorem dL_law_1545 : decode cL_law 1545 = .ok (.iconst 2, 1) := bL_law_1540.2.2.2.2.1
theorem dL_law_1546 : decode cL_law 1546 = .ok (.iadd, 1) := bL_law_1540.2.2.2.2.2.1
theorem dL_law_1547 : decode cL_law 1547 = .ok (.iaload, 1) := bL_law_1540.2.2.2.2.2.2.1
theorem dL_law_1548 : decode cL_law 1548 = .ok (.invokevirtual 273, 3) := bL_law_1540.2.2.2.2.2.2.2.1
theorem dL_law_1551 : decode cL_law 1551 = .ok (.istore 6, 2) := bL_law_1540.2.2.2.2.2.2.2.2.1
theorem dL_law_1553 : decode cL_law 1553 = .ok (.goto 443, 3) := bL_law_1540.2.2.2.2.2.2.2.2.2.1
theorem dL_law_1556 : decode cL_law 1556 = .ok (.aload_n 1, 1) := bL_law_1540.2.2.2.2.2.2.2.2.2.2.1
theorem dL_law_1557 : decode cL_law 1557 = .ok (.aload_n 0, 1) := bL_law_1540.2.2.2.2.2.2.2.2.2.2.2.1
theorem dL_law_1558 : decode cL_law 1558 = .ok (.iload 4, 2) := bL_law_1540.2.2.2.2.2.2.2.2.2.2.2.2.1
theorem dL_law_1560 : decode cL_law 1560 = .ok (.iconst 1, 1) := bL_law_1540.2.2.2.2.2.2.2.2.2.2.2.2.2.1
theorem dL_law_1561 : decode cL_law 1561 = .ok (.iadd, 1) := bL_law_1540.2.2.2.2.2.2.2.2.2.2.2.2.2.2.1
theorem dL_law_1562 : decode cL_law 1562 = .ok (.iaload, 1) := bL_law_1540.2.2.2.2.2.2.2.2.2.2.2.2.2.2.2
set_option maxRecDepth 100000 in
theorem bL_law_1563 : (decode cL_law 1563 = .ok (.aload_n 0, 1)) ∧ (decode cL_law 1564 = .ok (.iload 4, 2)) ∧ (decode cL_law 1566 = .ok (.iconst 2, 1)) ∧ (decode cL_law 1567 = .ok (.iadd, 1)) ∧ (decode cL_law 1568 = .ok (.iaload, 1)) ∧ (decode cL_law 1569 = .ok (.aload_n 0, 1)) ∧ (decode cL_law 1570 = .ok (.iload 4, 2)) ∧ (decode cL_law 1572 = .ok (.iconst 3, 1)) ∧ (decode cL_law 1573 = .ok (.iadd, 1)) ∧ (decode cL_law 1574 = .ok (.iaload, 1)) ∧ (decode cL_law 1575 = .ok (.ifCond .eq 7, 3)) ∧ (decode cL_law 1578 = .ok (.iconst 1, 1)) ∧ (decode cL_law 1579 = .ok (.goto 4, 3)) ∧ (decode cL_law 1582 = .ok (.iconst 0, 1)) ∧ (decode cL_law 1583 = .ok (.aload_n 3, 1)) ∧ (decode cL_law 1584 = .ok (.invokestatic 274, 3)) := by decide +kernel
theorem dL_law_1563 : decode cL_law 1563 = .ok (.aload_n 0, 1) := bL_law_1563.1
theorem dL_law_1564 : decode cL_law 1564 = .ok (.iload 4, 2) := bL_law_1563.2.1
theorem dL_law_1566 : decode cL_law 1566 = .ok (.iconst 2, 1) := bL_law_1563.2.2.1
theorem dL_law_1567 : decode cL_law 1567 = .ok (.iadd, 1) := bL_law_1563.2.2.2.1
theorem dL_law_1568 : decode cL_law 1568 = .ok (.iaload, 1) := bL_law_1563.2.2.2.2.1
theorem dL_law_1569 : decode cL_law 1569 = .ok (.aload_n 0, 1) := bL_law_1563.2.2.2.2.2.1
theorem dL_law_1570 : decode cL_law 1570 = .ok (.iload 4, 2) := bL_law_1563.2.2.2.2.2.2.1
theorem dL_law_1572 : decode cL_law 1572 = .ok (.iconst 3, 1) := bL_law_1563.2.2.2.2.2.2.2.1
theorem dL_law_1573 : decode cL_law 1573 = .ok (.iadd, 1) := bL_law_1563.2.2.2.2.2.2.2.2.1
theorem dL_law_1574 : decode cL_law 1574 = .ok (.iaload, 1) := bL_law_1563.2.2.2.2.2.2.2.2.2.1
theorem dL_law_1575 : decode cL_law 1575 = .ok (.ifCond .eq 7, 3) := bL_law_1563.2.2.2.2.2.2.2.2.2.2.1
theorem dL_law_1578 : decode cL_law 1578 = .ok (.iconst 1, 1) := bL_law_1563.2.2.2.2.2.2.2.2.2.2.2.1
theorem dL_law_1579 : decode cL_law 1579 = .ok (.goto 4, 3) := bL_law_1563.2.2.2.2.2.2.2.2.2.2.2.2.1
theorem dL_law_1582 : decode cL_law 1582 = .ok (.iconst 0, 1) := bL_law_1563.2.2.2.2.2.2.2.2.2.2.2.2.2.1
theorem dL_law_1583 : decode cL_law 1583 = .ok (.aload_n 3, 1) := bL_law_1563.2.2.2.2.2.2.2.2.2.2.2.2.2.2.1
theorem dL_law_1584 : decode cL_law 1584 = .ok (.invokestatic 274, 3) := bL_law_1563.2.2.2.2.2.2.2.2.2.2.2.2.2.2.2
set_option maxRecDepth 100000 in
theorem bL_law_1587 : (decode cL_law 1587 = .ok (.istore 5, 2)) ∧ (decode cL_law 1589 = .ok (.aload_n 2, 1)) ∧ (decode cL_law 1590 = .ok (.aload_n 0, 1)) ∧ (decode cL_law 1591 = .ok (.iload 4, 2)) ∧ (decode cL_law 1593 = .ok (.iconst 1, 1)) ∧ (decode cL_law 1594 = .ok (.iadd, 1)) ∧ (decode cL_law 1595 = .ok (.iaload, 1)) ∧ (decode cL_law 1596 = .ok (.aload_n 0, 1)) ∧ (decode cL_law 1597 = .ok (.iload 4, 2)) ∧ (decode cL_law 1599 = .ok (.iconst 2, 1)) ∧ (decode cL_law 1600 = .ok (.iadd, 1)) ∧ (decode cL_law 1601 = .ok (.iaload, 1)) ∧ (decode cL_law 1602 = .ok (.aload_n 0, 1)) ∧ (decode cL_law 1603 = .ok (.iload 4, 2)) ∧ (decode cL_law 1605 = .ok (.iconst 3, 1)) ∧ (decode cL_law 1606 = .ok (.iadd, 1)) := by decide +kernel
theorem dL_law_1587 : decode cL_law 1587 = .ok (.istore 5, 2) := bL_law_1587.1
theorem dL_law_1589 : decode cL_law 1589 = .ok (.aload_n 2, 1) := bL_law_1587.2.1
theorem dL_law_1590 : decode cL_law 1590 = .ok (.aload_n 0, 1) := bL_law_1587.2.2.1
theorem dL_law_1591 : decode cL_law 1591 = .ok (.iload 4, 2) := bL_law_1587.2.2.2.1
theorem dL_law_1593 : decode cL_law 1593 = .ok (.iconst 1, 1) := bL_law_1587.2.2.2.2.1
theorem dL_law_1594 : decode cL_law 1594 = .ok (.iadd, 1) := bL_law_1587.2.2.2.2.2.1
theorem dL_law_1595 : decode cL_law 1595 = .ok (.iaload, 1) := bL_law_1587.2.2.2.2.2.2.1
theorem dL_law_1596 : decode cL_law 1596 = .ok (.aload_n 0, 1) := bL_law_1587.2.2.2.2.2.2.2.1
theorem dL_law_1597 : decode cL_law 1597 = .ok (.iload 4, 2) := bL_law_1587.2.2.2.2.2.2.2.2.1
theorem dL_law_1599 : decode cL_law 1599 = .ok (.iconst 2, 1) := bL_law_1587.2.2.2.2.2.2.2.2.2.1
theorem dL_law_1600 : decode cL_law 1600 = .ok (.iadd, 1) := bL_law_1587.2.2.2.2.2.2.2.2.2.2.1
theorem dL_law_1601 : decode cL_law 1601 = .ok (.iaload, 1) := bL_law_1587.2.2.2.2.2.2.2.2.2.2.2.1
theorem dL_law_1602 : decode cL_law 1602 = .ok (.aload_n 0, 1) := bL_law_1587.2.2.2.2.2.2.2.2.2.2.2.2.1
theorem dL_law_1603 : decode cL_law 1603 = .ok (.iload 4, 2) := bL_law_1587.2.2.2.2.2.2.2.2.2.2.2.2.2.1
theorem dL_law_1605 : decode cL_law 1605 = .ok (.iconst 3, 1) := bL_law_1587.2.2.2.2.2.2.2.2.2.2.2.2.2.2.1
theorem dL_law_1606 : decode cL_law 1606 = .ok (.iadd, 1) := bL_law_1587.2.2.2.2.2.2.2.2.2.2.2.2.2.2.2
set_option maxRecDepth 100000 in
theorem bL_law_1607 : (decode cL_law 1607 = .ok (.iaload, 1)) ∧ (decode cL_law 1608 = .ok (.ifCond .eq 7, 3)) ∧ (decode cL_law 1611 = .ok (.iconst 1, 1)) ∧ (decode cL_law 1612 = .ok (.goto 4, 3)) ∧ (decode cL_law 1615 = .ok (.iconst 0, 1)) ∧ (decode cL_law 1616 = .ok (.invokevirtual 277, 3)) ∧ (decode cL_law 1619 = .ok (.istore 6, 2)) ∧ (decode cL_law 1621 = .ok (.goto 375, 3)) ∧ (decode cL_law 1624 = .ok (.aload_n 1, 1)) ∧ (decode cL_law 1625 = .ok (.aload_n 0, 1)) ∧ (decode cL_law 1626 = .ok (.iload 4, 2)) ∧ (decode cL_law 1628 = .ok (.iconst 1, 1)) ∧ (decode cL_law 1629 = .ok (.iadd, 1)) ∧ (decode cL_law 1630 = .ok (.iaload, 1)) ∧ (decode cL_law 1631 = .ok (.aload_n 0, 1)) ∧ (decode cL_law 1632 = .ok (.iload 4, 2)) := by decide +kernel
theorem dL_law_1607 : decode cL_law 1607 = .ok (.iaload, 1) := bL_law_1607.1
theorem dL_law_1608 : decode cL_law 1608 = .ok (.ifCond .eq 7, 3) := bL_law_1607.2.1
theorem dL_law_1611 : decode cL_law 1611 = .ok (.iconst 1, 1) := bL_law_1607.2.2.1
theorem dL_law_1612 : decode cL_law 1612 = .ok (.goto 4, 3) := bL_law_1607.2.2.2.1
theorem dL_law_1615 : decode cL_law 1615 = .ok (.iconst 0, 1) := bL_law_1607.2.2.2.2.1
theorem dL_law_1616 : decode cL_law 1616 = .ok (.invokevirtual 277, 3) := bL_law_1607.2.2.2.2.2.1
theorem dL_law_1619 : decode cL_law 1619 = .ok (.istore 6, 2) := bL_law_1607.2.2.2.2.2.2.1
theorem dL_law_1621 : decode cL_law 1621 = .ok (.goto 375, 3) := bL_law_1607.2.2.2.2.2.2.2.1
theorem dL_law_1624 : decode cL_law 1624 = .ok (.aload_n 1, 1) := bL_law_1607.2.2.2.2.2.2.2.2.1
theorem dL_law_1625 : decode cL_law 1625 = .ok (.aload_n 0, 1) := bL_law_1607.2.2.2.2.2.2.2.2.2.1
theorem dL_law_1626 : decode cL_law 1626 = .ok (.iload 4, 2) := bL_law_1607.2.2.2.2.2.2.2.2.2.2.1
theorem dL_law_1628 : decode cL_law 1628 = .ok (.iconst 1, 1) := bL_law_1607.2.2.2.2.2.2.2.2.2.2.2.1
theorem dL_law_1629 : decode cL_law 1629 = .ok (.iadd, 1) := bL_law_1607.2.2.2.2.2.2.2.2.2.2.2.2.1
theorem dL_law_1630 : decode cL_law 1630 = .ok (.iaload, 1) := bL_law_1607.2.2.2.2.2.2.2.2.2.2.2.2.2.1
theorem dL_law_1631 : decode cL_law 1631 = .ok (.aload_n 0, 1) := bL_law_1607.2.2.2.2.2.2.2.2.2.2.2.2.2.2.1
theorem dL_law_1632 : decode cL_law 1632 = .ok (.iload 4, 2) := bL_law_1607.2.2.2.2.2.2.2.2.2.2.2.2.2.2.2
set_option maxRecDepth 100000 in
theorem bL_law_1634 : (decode cL_law 1634 = .ok (.iconst 2, 1)) ∧ (decode cL_law 1635 = .ok (.iadd, 1)) ∧ (decode cL_law 1636 = .ok (.iaload, 1)) ∧ (decode cL_law 1637 = .ok (.ifCond .eq 7, 3)) ∧ (decode cL_law 1640 = .ok (.iconst 1, 1)) ∧ (decode cL_law 1641 = .ok (.goto 4, 3)) ∧ (decode cL_law 1644 = .ok (.iconst 0, 1)) ∧ (decode cL_law 1645 = .ok (.aload_n 3, 1)) ∧ (decode cL_law 1646 = .ok (.invokestatic 278, 3)) ∧ (decode cL_law 1649 = .ok (.istore 5, 2)) ∧ (decode cL_law 1651 = .ok (.aload_n 2, 1)) ∧ (decode cL_law 1652 = .ok (.aload_n 0, 1)) ∧ (decode cL_law 1653 = .ok (.iload 4, 2)) ∧ (decode cL_law 1655 = .ok (.iconst 1, 1)) ∧ (decode cL_law 1656 = .ok (.iadd, 1)) ∧ (decode cL_law 1657 = .ok (.iaload, 1)) := by decide +kernel
theorem dL_law_1634 : decode cL_law 1634 = .ok (.iconst 2, 1) := bL_law_1634.1
theorem dL_law_1635 : decode cL_law 1635 = .ok (.iadd, 1) := bL_law_1634.2.1
theorem dL_law_1636 : decode cL_law 1636 = .ok (.iaload, 1) := bL_law_1634.2.2.1
theorem dL_law_1637 : decode cL_law 1637 = .ok (.ifCond .eq 7, 3) := bL_law_1634.2.2.2.1
theorem dL_law_1640 : decode cL_law 1640 = .ok (.iconst 1, 1) := bL_law_1634.2.2.2.2.1
theorem dL_law_1641 : decode cL_law 1641 = .ok (.goto 4, 3) := bL_law_1634.2.2.2.2.2.1
theorem dL_law_1644 : decode cL_law 1644 = .ok (.iconst 0, 1) := bL_law_1634.2.2.2.2.2.2.1
theorem dL_law_1645 : decode cL_law 1645 = .ok (.aload_n 3, 1) := bL_law_1634.2.2.2.2.2.2.2.1
theorem dL_law_1646 : decode cL_law 1646 = .ok (.invokestatic 278, 3) := bL_law_1634.2.2.2.2.2.2.2.2.1
theorem dL_law_1649 : decode cL_law 1649 = .ok (.istore 5, 2) := bL_law_1634.2.2.2.2.2.2.2.2.2.1
theorem dL_law_1651 : decode cL_law 1651 = .ok (.aload_n 2, 1) := bL_law_1634.2.2.2.2.2.2.2.2.2.2.1
theorem dL_law_1652 : decode cL_law 1652 = .ok (.aload_n 0, 1) := bL_law_1634.2.2.2.2.2.2.2.2.2.2.2.1
theorem dL_law_1653 : decode cL_law 1653 = .ok (.iload 4, 2) := bL_law_1634.2.2.2.2.2.2.2.2.2.2.2.2.1
theorem dL_law_1655 : decode cL_law 1655 = .ok (.iconst 1, 1) := bL_law_1634.2.2.2.2.2.2.2.2.2.2.2.2.2.1
theorem dL_law_1656 : decode cL_law 1656 = .ok (.iadd, 1) := bL_law_1634.2.2.2.2.2.2.2.2.2.2.2.2.2.2.1
theorem dL_law_1657 : decode cL_law 1657 = .ok (.iaload, 1) := bL_law_1634.2.2.2.2.2.2.2.2.2.2.2.2.2.2.2
set_option maxRecDepth 100000 in
theorem bL_law_1658 : (decode cL_law 1658 = .ok (.aload_n 0, 1)) ∧ (decode cL_law 1659 = .ok (.iload 4, 2)) ∧ (decode cL_law 1661 = .ok (.iconst 2, 1)) ∧ (decode cL_law 1662 = .ok (.iadd, 1)) ∧ (decode cL_law 1663 = .ok (.iaload, 1)) ∧ (decode cL_law 1664 = .ok (.ifCond .eq 7, 3)) ∧ (decode cL_law 1667 = .ok (.iconst 1, 1)) ∧ (decode cL_law 1668 = .ok (.goto 4, 3)) ∧ (decode cL_law 1671 = .ok (.iconst 0, 1)) ∧ (decode cL_law 1672 = .ok (.invokevirtual 281, 3)) ∧ (decode cL_law 1675 = .ok (.istore 6, 2)) ∧ (decode cL_law 1677 = .ok (.aload_n 2, 1)) ∧ (decode cL_law 1678 = .ok (.invokevirtual 282, 3)) ∧ (decode cL_law 1681 = .ok (.iload 5, 2)) ∧ (decode cL_law 1683 = .ok (.if_icmp .eq 5, 3)) ∧ (decode cL_law 1686 = .ok (.iconst 0, 1)) := by decide +kernel
theorem dL_law_1658 : decode cL_law 1658 = .ok (.aload_n 0, 1) := bL_law_1658.1
theorem dL_law_1659 : decode cL_law 1659 = .ok (.iload 4, 2) := bL_law_1658.2.1
theorem dL_law_1661 : decode cL_law 1661 = .ok (.iconst 2, 1) := bL_law_1658.2.2.1
theorem dL_law_1662 : decode cL_law 1662 = .ok (.iadd, 1) := bL_law_1658.2.2.2.1
theorem dL_law_1663 : decode cL_law 1663 = .ok (.iaload, 1) := bL_law_1658.2.2.2.2.1
theorem dL_law_1664 : decode cL_law 1664 = .ok (.ifCond .eq 7, 3) := bL_law_1658.2.2.2.2.2.1
theorem dL_law_1667 : decode cL_law 1667 = .ok (.iconst 1, 1) := bL_law_1658.2.2.2.2.2.2.1
theorem dL_law_1668 : decode cL_law 1668 = .ok (.goto 4, 3) := bL_law_1658.2.2.2.2.2.2.2.1
theorem dL_law_1671 : decode cL_law 1671 = .ok (.iconst 0, 1) := bL_law_1658.2.2.2.2.2.2.2.2.1
theorem dL_law_1672 : decode cL_law 1672 = .ok (.invokevirtual 281, 3) := bL_law_1658.2.2.2.2.2.2.2.2.2.1
theorem dL_law_1675 : decode cL_law 1675 = .ok (.istore 6, 2) := bL_law_1658.2.2.2.2.2.2.2.2.2.2.1
theorem dL_law_1677 : decode cL_law 1677 = .ok (.aload_n 2, 1) := bL_law_1658.2.2.2.2.2.2.2.2.2.2.2.1
theorem dL_law_1678 : decode cL_law 1678 = .ok (.invokevirtual 282, 3) := bL_law_1658.2.2.2.2.2.2.2.2.2.2.2.2.1
theorem dL_law_1681 : decode cL_law 1681 = .ok (.iload 5, 2) := bL_law_1658.2.2.2.2.2.2.2.2.2.2.2.2.2.1
theorem dL_law_1683 : decode cL_law 1683 = .ok (.if_icmp .eq 5, 3) := bL_law_1658.2.2.2.2.2.2.2.2.2.2.2.2.2.2.1
theorem dL_law_1686 : decode cL_law 1686 = .ok (.iconst 0, 1) := bL_law_1658.2.2.2.2.2.2.2.2.2.2.2.2.2.2.2
set_option maxRecDepth 100000 in
theorem bL_law_1687 : (decode cL_law 1687 = .ok (.ireturn, 1)) ∧ (decode cL_law 1688 = .ok (.iload 5, 2)) ∧ (decode cL_law 1690 = .ok (.ifCond .ne 16, 3)) ∧ (decode cL_law 1693 = .ok (.aload_n 3, 1)) ∧ (decode cL_law 1694 = .ok (.getfield 13, 3)) ∧ (decode cL_law 1697 = .ok (.iload 6, 2)) ∧ (decode cL_law 1699 = .ok (.i2l, 1)) ∧ (decode cL_law 1700 = .ok (.lcmp, 1)) ∧ (decode cL_law 1701 = .ok (.ifCond .eq 5, 3)) ∧ (decode cL_law 1704 = .ok (.iconst 0, 1)) ∧ (decode cL_law 1705 = .ok (.ireturn, 1)) ∧ (decode cL_law 1706 = .ok (.goto 290, 3)) ∧ (decode cL_law 1709 = .ok (.aload_n 1, 1)) ∧ (decode cL_law 1710 = .ok (.aload_n 0, 1)) ∧ (decode cL_law 1711 = .ok (.iload 4, 2)) ∧ (decode cL_law 1713 = .ok (.iconst 1, 1)) := by decide +kernel
theorem dL_law_1687 : decode cL_law 1687 = .ok (.ireturn, 1) := bL_law_1687.1
theorem dL_law_1688 : decode cL_law 1688 = .ok (.iload 5, 2) := bL_law_1687.2.1
theorem dL_law_1690 : decode cL_law 1690 = .ok (.ifCond .ne 16, 3) := bL_law_1687.2.2.1
theorem dL_law_1693 : decode cL_law 1693 = .ok (.aload_n 3, 1) := bL_law_1687.2.2.2.1
theorem dL_law_1694 : decode cL_law 1694 = .ok (.getfield 13, 3) := bL_law_1687.2.2.2.2.1
theorem dL_law_1697 : decode cL_law 1697 = .ok (.iload 6, 2) := bL_law_1687.2.2.2.2.2.1
theorem dL_law_1699 : decode cL_law 1699 = .ok (.i2l, 1) := bL_law_1687.2.2.2.2.2.2.1
theorem dL_law_1700 : decode cL_law 1700 = .ok (.lcmp, 1) := bL_law_1687.2.2.2.2.2.2.2.1
theorem dL_law_1701 : decode cL_law 1701 = .ok (.ifCond .eq 5, 3) := bL_law_1687.2.2.2.2.2.2.2.2.1
theorem dL_law_1704 : decode cL_law 1704 = .ok (.iconst 0, 1) := bL_law_1687.2.2.2.2.2.2.2.2.2.1
theorem dL_law_1705 : decode cL_law 1705 = .ok (.ireturn, 1) := bL_law_1687.2.2.2.2.2.2.2.2.2.2.1
theorem dL_law_1706 : decode cL_law 1706 = .ok (.goto 290, 3) := bL_law_1687.2.2.2.2.2.2.2.2.2.2.2.1
theorem dL_law_1709 : decode cL_law 1709 = .ok (.aload_n 1, 1) := bL_law_1687.2.2.2.2.2.2.2.2.2.2.2.2.1
theorem dL_law_1710 : decode cL_law 1710 = .ok (.aload_n 0, 1) := bL_law_1687.2.2.2.2.2.2.2.2.2.2.2.2.2.1
theorem dL_law_1711 : decode cL_law 1711 = .ok (.iload 4, 2) := bL_law_1687.2.2.2.2.2.2.2.2.2.2.2.2.2.2.1
theorem dL_law_1713 : decode cL_law 1713 = .ok (.iconst 1, 1) := bL_law_1687.2.2.2.2.2.2.2.2.2.2.2.2.2.2.2
set_option maxRecDepth 100000 in
theorem bL_law_1714 : (decode cL_law 1714 = .ok (.iadd, 1)) ∧ (decode cL_law 1715 = .ok (.iaload, 1)) ∧ (decode cL_law 1716 = .ok (.aload_n 3, 1)) ∧ (decode cL_law 1717 = .ok (.invokestatic 286, 3)) ∧ (decode cL_law 1720 = .ok (.istore 5, 2)) ∧ (decode cL_law 1722 = .ok (.aload_n 2, 1)) ∧ (decode cL_law 1723 = .ok (.aload_n 0, 1)) ∧ (decode cL_law 1724 = .ok (.iload 4, 2)) ∧ (decode cL_law 1726 = .ok (.iconst 1, 1)) ∧ (decode cL_law 1727 = .ok (.iadd, 1)) ∧ (decode cL_law 1728 = .ok (.iaload, 1)) ∧ (decode cL_law 1729 = .ok (.invokevirtual 288, 3)) ∧ (decode cL_law 1732 = .ok (.istore 6, 2)) ∧ (decode cL_law 1734 = .ok (.goto 262, 3)) ∧ (decode cL_law 1737 = .ok (.aload_n 1, 1)) ∧ (decode cL_law 1738 = .ok (.aload_n 0, 1)) := by decide +kernel
theorem dL_law_1714 : decode cL_law 1714 = .ok (.iadd, 1) := bL_law_1714.1
theorem dL_law_1715 : decode cL_law 1715 = .ok (.iaload, 1) := bL_law_1714.2.1
theorem dL_law_1716 : decode cL_law 1716 = .ok (.aload_n 3, 1) := bL_law_1714.2.2.1
theorem dL_law_1717 : decode cL_law 1717 = .ok (.invokestatic 286, 3) := bL_law_1714.2.2.2.1
theorem dL_law_1720 : decode cL_law 1720 = .ok (.istore 5, 2) := bL_law_1714.2.2.2.2.1
theorem dL_law_1722 : decode cL_law 1722 = .ok (.aload_n 2, 1) := bL_law_1714.2.2.2.2.2.1
theorem dL_law_1723 : decode cL_law 1723 = .ok (.aload_n 0, 1) := bL_law_1714.2.2.2.2.2.2.1
theorem dL_law_1724 : decode cL_law 1724 = .ok (.iload 4, 2) := bL_law_1714.2.2.2.2.2.2.2.1
theorem dL_law_1726 : decode cL_law 1726 = .ok (.iconst 1, 1) := bL_law_1714.2.2.2.2.2.2.2.2.1
theorem dL_law_1727 : decode cL_law 1727 = .ok (.iadd, 1) := bL_law_1714.2.2.2.2.2.2.2.2.2.1
theorem dL_law_1728 : decode cL_law 1728 = .ok (.iaload, 1) := bL_law_1714.2.2.2.2.2.2.2.2.2.2.1
theorem dL_law_1729 : decode cL_law 1729 = .ok (.invokevirtual 288, 3) := bL_law_1714.2.2.2.2.2.2.2.2.2.2.2.1
theorem dL_law_1732 : decode cL_law 1732 = .ok (.istore 6, 2) := bL_law_1714.2.2.2.2.2.2.2.2.2.2.2.2.1
theorem dL_law_1734 : decode cL_law 1734 = .ok (.goto 262, 3) := bL_law_1714.2.2.2.2.2.2.2.2.2.2.2.2.2.1
theorem dL_law_1737 : decode cL_law 1737 = .ok (.aload_n 1, 1) := bL_law_1714.2.2.2.2.2.2.2.2.2.2.2.2.2.2.1
theorem dL_law_1738 : decode cL_law 1738 = .ok (.aload_n 0, 1) := bL_law_1714.2.2.2.2.2.2.2.2.2.2.2.2.2.2.2
set_option maxRecDepth 100000 in
theorem bL_law_1739 : (decode cL_law 1739 = .ok (.iload 4, 2)) ∧ (decode cL_law 1741 = .ok (.iconst 1, 1)) ∧ (decode cL_law 1742 = .ok (.iadd, 1)) ∧ (decode cL_law 1743 = .ok (.iaload, 1)) ∧ (decode cL_law 1744 = .ok (.aload_n 3, 1)) ∧ (decode cL_law 1745 = .ok (.invokestatic 289, 3)) ∧ (decode cL_law 1748 = .ok (.istore 5, 2)) ∧ (decode cL_law 1750 = .ok (.aload_n 2, 1)) ∧ (decode cL_law 1751 = .ok (.aload_n 0, 1)) ∧ (decode cL_law 1752 = .ok (.iload 4, 2)) ∧ (decode cL_law 1754 = .ok (.iconst 1, 1)) ∧ (decode cL_law 1755 = .ok (.iadd, 1)) ∧ (decode cL_law 1756 = .ok (.iaload, 1)) ∧ (decode cL_law 1757 = .ok (.invokevirtual 291, 3)) ∧ (decode cL_law 1760 = .ok (.istore 6, 2)) ∧ (decode cL_law 1762 = .ok (.goto 234, 3)) := by decide +kernel
theorem dL_law_1739 : decode cL_law 1739 = .ok (.iload 4, 2) := bL_law_1739.1
theorem dL_law_1741 : decode cL_law 1741 = .ok (.iconst 1, 1) := bL_law_1739.2.1
theorem dL_law_1742 : decode cL_law 1742 = .ok (.iadd, 1) := bL_law_1739.2.2.1
theorem dL_law_1743 : decode cL_law 1743 = .ok (.iaload, 1) := bL_law_1739.2.2.2.1
theorem dL_law_1744 : decode cL_law 1744 = .ok (.aload_n 3, 1) := bL_law_1739.2.2.2.2.1
theorem dL_law_1745 : decode cL_law 1745 = .ok (.invokestatic 289, 3) := bL_law_1739.2.2.2.2.2.1
theorem dL_law_1748 : decode cL_law 1748 = .ok (.istore 5, 2) := bL_law_1739.2.2.2.2.2.2.1
theorem dL_law_1750 : decode cL_law 1750 = .ok (.aload_n 2, 1) := bL_law_1739.2.2.2.2.2.2.2.1
theorem dL_law_1751 : decode cL_law 1751 = .ok (.aload_n 0, 1) := bL_law_1739.2.2.2.2.2.2.2.2.1
theorem dL_law_1752 : decode cL_law 1752 = .ok (.iload 4, 2) := bL_law_1739.2.2.2.2.2.2.2.2.2.1
theorem dL_law_1754 : decode cL_law 1754 = .ok (.iconst 1, 1) := bL_law_1739.2.2.2.2.2.2.2.2.2.2.1
theorem dL_law_1755 : decode cL_law 1755 = .ok (.iadd, 1) := bL_law_1739.2.2.2.2.2.2.2.2.2.2.2.1
theorem dL_law_1756 : decode cL_law 1756 = .ok (.iaload, 1) := bL_law_1739.2.2.2.2.2.2.2.2.2.2.2.2.1
theorem dL_law_1757 : decode cL_law 1757 = .ok (.invokevirtual 291, 3) := bL_law_1739.2.2.2.2.2.2.2.2.2.2.2.2.2.1
theorem dL_law_1760 : decode cL_law 1760 = .ok (.istore 6, 2) := bL_law_1739.2.2.2.2.2.2.2.2.2.2.2.2.2.2.1
theorem dL_law_1762 : decode cL_law 1762 = .ok (.goto 234, 3) := bL_law_1739.2.2.2.2.2.2.2.2.2.2.2.2.2.2.2
set_option maxRecDepth 100000 in
theorem bL_law_1765 : (decode cL_law 1765 = .ok (.aload_n 1, 1)) ∧ (decode cL_law 1766 = .ok (.aload_n 0, 1)) ∧ (decode cL_law 1767 = .ok (.iload 4, 2)) ∧ (decode cL_law 1769 = .ok (.iconst 1, 1)) ∧ (decode cL_law 1770 = .ok (.iadd, 1)) ∧ (decode cL_law 1771 = .ok (.iaload, 1)) ∧ (decode cL_law 1772 = .ok (.aload_n 3, 1)) ∧ (decode cL_law 1773 = .ok (.invokestatic 292, 3)) ∧ (decode cL_law 1776 = .ok (.istore 5, 2)) ∧ (decode cL_law 1778 = .ok (.aload_n 2, 1)) ∧ (decode cL_law 1779 = .ok (.aload_n 0, 1)) ∧ (decode cL_law 1780 = .ok (.iload 4, 2)) ∧ (decode cL_law 1782 = .ok (.iconst 1, 1)) ∧ (decode cL_law 1783 = .ok (.iadd, 1)) ∧ (decode cL_law 1784 = .ok (.iaload, 1)) ∧ (decode cL_law 1785 = .ok (.invokevirtual 294, 3)) := by decide +kernel
theorem dL_law_1765 : decode cL_law 1765 = .ok (.aload_n 1, 1) := bL_law_1765.1
theorem dL_law_1766 : decode cL_law 1766 = .ok (.aload_n 0, 1) := bL_law_1765.2.1
theorem dL_law_1767 : decode cL_law 1767 = .ok (.iload 4, 2) := bL_law_1765.2.2.1
theorem dL_law_1769 : decode cL_law 1769 = .ok (.iconst 1, 1) := bL_law_1765.2.2.2.1
theorem dL_law_1770 : decode cL_law 1770 = .ok (.iadd, 1) := bL_law_1765.2.2.2.2.1
theorem dL_law_1771 : decode cL_law 1771 = .ok (.iaload, 1) := bL_law_1765.2.2.2.2.2.1
theorem dL_law_1772 : decode cL_law 1772 = .ok (.aload_n 3, 1) := bL_law_1765.2.2.2.2.2.2.1
theorem dL_law_1773 : decode cL_law 1773 = .ok (.invokestatic 292, 3) := bL_law_1765.2.2.2.2.2.2.2.1
theorem dL_law_1776 : decode cL_law 1776 = .ok (.istore 5, 2) := bL_law_1765.2.2.2.2.2.2.2.2.1
theorem dL_law_1778 : decode cL_law 1778 = .ok (.aload_n 2, 1) := bL_law_1765.2.2.2.2.2.2.2.2.2.1
theorem dL_law_1779 : decode cL_law 1779 = .ok (.aload_n 0, 1) := bL_law_1765.2.2.2.2.2.2.2.2.2.2.1
theorem dL_law_1780 : decode cL_law 1780 = .ok (.iload 4, 2) := bL_law_1765.2.2.2.2.2.2.2.2.2.2.2.1
theorem dL_law_1782 : decode cL_law 1782 = .ok (.iconst 1, 1) := bL_law_1765.2.2.2.2.2.2.2.2.2.2.2.2.1
theorem dL_law_1783 : decode cL_law 1783 = .ok (.iadd, 1) := bL_law_1765.2.2.2.2.2.2.2.2.2.2.2.2.2.1
theorem dL_law_1784 : decode cL_law 1784 = .ok (.iaload, 1) := bL_law_1765.2.2.2.2.2.2.2.2.2.2.2.2.2.2.1
theorem dL_law_1785 : decode cL_law 1785 = .ok (.invokevirtual 294, 3) := bL_law_1765.2.2.2.2.2.2.2.2.2.2.2.2.2.2.2
set_option maxRecDepth 100000 in
theorem bL_law_1788 : (decode cL_law 1788 = .ok (.istore 6, 2)) ∧ (decode cL_law 1790 = .ok (.goto 206, 3)) ∧ (decode cL_law 1793 = .ok (.aload_n 1, 1)) ∧ (decode cL_law 1794 = .ok (.aload_n 0, 1)) ∧ (decode cL_law 1795 = .ok (.iload 4, 2)) ∧ (decode cL_law 1797 = .ok (.iconst 1, 1)) ∧ (decode cL_law 1798 = .ok (.iadd, 1)) ∧ (decode cL_law 1799 = .ok (.iaload, 1)) ∧ (decode cL_law 1800 = .ok (.aload_n 0, 1)) ∧ (decode cL_law 1801 = .ok (.iload 4, 2)) ∧ (decode cL_law 1803 = .ok (.iconst 2, 1)) ∧ (decode cL_law 1804 = .ok (.iadd, 1)) ∧ (decode cL_law 1805 = .ok (.iaload, 1)) ∧ (decode cL_law 1806 = .ok (.aload_n 3, 1)) ∧ (decode cL_law 1807 = .ok (.invokestatic 295, 3)) ∧ (decode cL_law 1810 = .ok (.istore 5, 2)) := by decide +kernel
theorem dL_law_1788 : decode cL_law 1788 = .ok (.istore 6, 2) := bL_law_1788.1
theorem dL_law_1790 : decode cL_law 1790 = .ok (.goto 206, 3) := bL_law_1788.2.1
theorem dL_law_1793 : decode cL_law 1793 = .ok (.aload_n 1, 1) := bL_law_1788.2.2.1
theorem dL_law_1794 : decode cL_law 1794 = .ok (.aload_n 0, 1) := bL_law_1788.2.2.2.1
theorem dL_law_1795 : decode cL_law 1795 = .ok (.iload 4, 2) := bL_law_1788.2.2.2.2.1
theorem dL_law_1797 : decode cL_law 1797 = .ok (.iconst 1, 1) := bL_law_1788.2.2.2.2.2.1
theorem dL_law_1798 : decode cL_law 1798 = .ok (.iadd, 1) := bL_law_1788.2.2.2.2.2.2.1
theorem dL_law_1799 : decode cL_law 1799 = .ok (.iaload, 1) := bL_law_1788.2.2.2.2.2.2.2.1
theorem dL_law_1800 : decode cL_law 1800 = .ok (.aload_n 0, 1) := bL_law_1788.2.2.2.2.2.2.2.2.1
theorem dL_law_1801 : decode cL_law 1801 = .ok (.iload 4, 2) := bL_law_1788.2.2.2.2.2.2.2.2.2.1
theorem dL_law_1803 : decode cL_law 1803 = .ok (.iconst 2, 1) := bL_law_1788.2.2.2.2.2.2.2.2.2.2.1
theorem dL_law_1804 : decode cL_law 1804 = .ok (.iadd, 1) := bL_law_1788.2.2.2.2.2.2.2.2.2.2.2.1
theorem dL_law_1805 : decode cL_law 1805 = .ok (.iaload, 1) := bL_law_1788.2.2.2.2.2.2.2.2.2.2.2.2.1
theorem dL_law_1806 : decode cL_law 1806 = .ok (.aload_n 3, 1) := bL_law_1788.2.2.2.2.2.2.2.2.2.2.2.2.2.1
theorem dL_law_1807 : decode cL_law 1807 = .ok (.invokestatic 295, 3) := bL_law_1788.2.2.2.2.2.2.2.2.2.2.2.2.2.2.1
theorem dL_law_1810 : decode cL_law 1810 = .ok (.istore 5, 2) := bL_law_1788.2.2.2.2.2.2.2.2.2.2.2.2.2.2.2
set_option maxRecDepth 100000 in
theorem bL_law_1812 : (decode cL_law 1812 = .ok (.aload_n 2, 1)) ∧ (decode cL_law 1813 = .ok (.aload_n 0, 1)) ∧ (decode cL_law 1814 = .ok (.iload 4, 2)) ∧ (decode cL_law 1816 = .ok (.iconst 1, 1)) ∧ (decode cL_law 1817 = .ok (.iadd, 1)) ∧ (decode cL_law 1818 = .ok (.iaload, 1)) ∧ (decode cL_law 1819 = .ok (.aload_n 0, 1)) ∧ (decode cL_law 1820 = .ok (.iload 4, 2)) ∧ (decode cL_law 1822 = .ok (.iconst 2, 1)) ∧ (decode cL_law 1823 = .ok (.iadd, 1)) ∧ (decode cL_law 1824 = .ok (.iaload, 1)) ∧ (decode cL_law 1825 = .ok (.invokevirtual 297, 3)) ∧ (decode cL_law 1828 = .ok (.istore 6, 2)) ∧ (decode cL_law 1830 = .ok (.goto 166, 3)) ∧ (decode cL_law 1833 = .ok (.aload_n 1, 1)) ∧ (decode cL_law 1834 = .ok (.aload_n 0, 1)) := by decide +kernel
theorem dL_law_1812 : decode cL_law 1812 = .ok (.aload_n 2, 1) := bL_law_1812.1
theorem dL_law_1813 : decode cL_law 1813 = .ok (.aload_n 0, 1) := bL_law_1812.2.1
theorem dL_law_1814 : decode cL_law 1814 = .ok (.iload 4, 2) := bL_law_1812.2.2.1
theorem dL_law_1816 : decode cL_law 1816 = .ok (.iconst 1, 1) := bL_law_1812.2.2.2.1
theorem dL_law_1817 : decode cL_law 1817 = .ok (.iadd, 1) := bL_law_1812.2.2.2.2.1
theorem dL_law_1818 : decode cL_law 1818 = .ok (.iaload, 1) := bL_law_1812.2.2.2.2.2.1
theorem dL_law_1819 : decode cL_law 1819 = .ok (.aload_n 0, 1) := bL_law_1812.2.2.2.2.2.2.1
theorem dL_law_1820 : decode cL_law 1820 = .ok (.iload 4, 2) := bL_law_1812.2.2.2.2.2.2.2.1
theorem dL_law_1822 : decode cL_law 1822 = .ok (.iconst 2, 1) := bL_law_1812.2.2.2.2.2.2.2.2.1
theorem dL_law_1823 : decode cL_law 1823 = .ok (.iadd, 1) := bL_law_1812.2.2.2.2.2.2.2.2.2.1
theorem dL_law_1824 : decode cL_law 1824 = .ok (.iaload, 1) := bL_law_1812.2.2.2.2.2.2.2.2.2.2.1
theorem dL_law_1825 : decode cL_law 1825 = .ok (.invokevirtual 297, 3) := bL_law_1812.2.2.2.2.2.2.2.2.2.2.2.1
theorem dL_law_1828 : decode cL_law 1828 = .ok (.istore 6, 2) := bL_law_1812.2.2.2.2.2.2.2.2.2.2.2.2.1
theorem dL_law_1830 : decode cL_law 1830 = .ok (.goto 166, 3) := bL_law_1812.2.2.2.2.2.2.2.2.2.2.2.2.2.1
theorem dL_law_1833 : decode cL_law 1833 = .ok (.aload_n 1, 1) := bL_law_1812.2.2.2.2.2.2.2.2.2.2.2.2.2.2.1
theorem dL_law_1834 : decode cL_law 1834 = .ok (.aload_n 0, 1) := bL_law_1812.2.2.2.2.2.2.2.2.2.2.2.2.2.2.2
set_option maxRecDepth 100000 in
theorem bL_law_1835 : (decode cL_law 1835 = .ok (.iload 4, 2)) ∧ (decode cL_law 1837 = .ok (.iconst 1, 1)) ∧ (decode cL_law 1838 = .ok (.iadd, 1)) ∧ (decode cL_law 1839 = .ok (.iaload, 1)) ∧ (decode cL_law 1840 = .ok (.aload_n 0, 1)) ∧ (decode cL_law 1841 = .ok (.iload 4, 2)) ∧ (decode cL_law 1843 = .ok (.iconst 2, 1)) ∧ (decode cL_law 1844 = .ok (.iadd, 1)) ∧ (decode cL_law 1845 = .ok (.iaload, 1)) ∧ (decode cL_law 1846 = .ok (.aload_n 3, 1)) ∧ (decode cL_law 1847 = .ok (.invokestatic 298, 3)) ∧ (decode cL_law 1850 = .ok (.istore 5, 2)) ∧ (decode cL_law 1852 = .ok (.aload_n 2, 1)) ∧ (decode cL_law 1853 = .ok (.aload_n 0, 1)) ∧ (decode cL_law 1854 = .ok (.iload 4, 2)) ∧ (decode cL_law 1856 = .ok (.iconst 1, 1)) := by decide +kernel
theorem dL_law_1835 : decode cL_law 1835 = .ok (.iload 4, 2) := bL_law_1835.1
theorem dL_law_1837 : decode cL_law 1837 = .ok (.iconst 1, 1) := bL_law_1835.2.1
theorem dL_law_1838 : decode cL_law 1838 = .ok (.iadd, 1) := bL_law_1835.2.2.1
theorem dL_law_1839 : decode cL_law 1839 = .ok (.iaload, 1) := bL_law_1835.2.2.2.1
theorem dL_law_1840 : decode cL_law 1840 = .ok (.aload_n 0, 1) := bL_law_1835.2.2.2.2.1
theorem dL_law_1841 : decode cL_law 1841 = .ok (.iload 4, 2) := bL_law_1835.2.2.2.2.2.1
theorem dL_law_1843 : decode cL_law 1843 = .ok (.iconst 2, 1) := bL_law_1835.2.2.2.2.2.2.1
theorem dL_law_1844 : decode cL_law 1844 = .ok (.iadd, 1) := bL_law_1835.2.2.2.2.2.2.2.1
theorem dL_law_1845 : decode cL_law 1845 = .ok (.iaload, 1) := bL_law_1835.2.2.2.2.2.2.2.2.1
theorem dL_law_1846 : decode cL_law 1846 = .ok (.aload_n 3, 1) := bL_law_1835.2.2.2.2.2.2.2.2.2.1
theorem dL_law_1847 : decode cL_law 1847 = .ok (.invokestatic 298, 3) := bL_law_1835.2.2.2.2.2.2.2.2.2.2.1
theorem dL_law_1850 : decode cL_law 1850 = .ok (.istore 5, 2) := bL_law_1835.2.2.2.2.2.2.2.2.2.2.2.1
theorem dL_law_1852 : decode cL_law 1852 = .ok (.aload_n 2, 1) := bL_law_1835.2.2.2.2.2.2.2.2.2.2.2.2.1
theorem dL_law_1853 : decode cL_law 1853 = .ok (.aload_n 0, 1) := bL_law_1835.2.2.2.2.2.2.2.2.2.2.2.2.2.1
theorem dL_law_1854 : decode cL_law 1854 = .ok (.iload 4, 2) := bL_law_1835.2.2.2.2.2.2.2.2.2.2.2.2.2.2.1
theorem dL_law_1856 : decode cL_law 1856 = .ok (.iconst 1, 1) := bL_law_1835.2.2.2.2.2.2.2.2.2.2.2.2.2.2.2
set_option maxRecDepth 100000 in
theorem bL_law_1857 : (decode cL_law 1857 = .ok (.iadd, 1)) ∧ (decode cL_law 1858 = .ok (.iaload, 1)) ∧ (decode cL_law 1859 = .ok (.aload_n 0, 1)) ∧ (decode cL_law 1860 = .ok (.iload 4, 2)) ∧ (decode cL_law 1862 = .ok (.iconst 2, 1)) ∧ (decode cL_law 1863 = .ok (.iadd, 1)) ∧ (decode cL_law 1864 = .ok (.iaload, 1)) ∧ (decode cL_law 1865 = .ok (.invokevirtual 300, 3)) ∧ (decode cL_law 1868 = .ok (.istore 6, 2)) ∧ (decode cL_law 1870 = .ok (.goto 126, 3)) ∧ (decode cL_law 1873 = .ok (.aload_n 1, 1)) ∧ (decode cL_law 1874 = .ok (.aload_n 0, 1)) ∧ (decode cL_law 1875 = .ok (.iload 4, 2)) ∧ (decode cL_law 1877 = .ok (.iconst 1, 1)) ∧ (decode cL_law 1878 = .ok (.iadd, 1)) ∧ (decode cL_law 1879 = .ok (.iaload, 1)) := by decide +kernel
theorem dL_law_1857 : decode cL_law 1857 = .ok (.iadd, 1) := bL_law_1857.1
theorem dL_law_1858 : decode cL_law 1858 = .ok (.iaload, 1) := bL_law_1857.2.1
theorem dL_law_1859 : decode cL_law 1859 = .ok (.aload_n 0, 1) := bL_law_1857.2.2.1
theorem dL_law_1860 : decode cL_law 1860 = .ok (.iload 4, 2) := bL_law_1857.2.2.2.1
theorem dL_law_1862 : decode cL_law 1862 = .ok (.iconst 2, 1) := bL_law_1857.2.2.2.2.1
theorem dL_law_1863 : decode cL_law 1863 = .ok (.iadd, 1) := bL_law_1857.2.2.2.2.2.1
theorem dL_law_1864 : decode cL_law 1864 = .ok (.iaload, 1) := bL_law_1857.2.2.2.2.2.2.1
theorem dL_law_1865 : decode cL_law 1865 = .ok (.invokevirtual 300, 3) := bL_law_1857.2.2.2.2.2.2.2.1
theorem dL_law_1868 : decode cL_law 1868 = .ok (.istore 6, 2) := bL_law_1857.2.2.2.2.2.2.2.2.1
theorem dL_law_1870 : decode cL_law 1870 = .ok (.goto 126, 3) := bL_law_1857.2.2.2.2.2.2.2.2.2.1
theorem dL_law_1873 : decode cL_law 1873 = .ok (.aload_n 1, 1) := bL_law_1857.2.2.2.2.2.2.2.2.2.2.1
theorem dL_law_1874 : decode cL_law 1874 = .ok (.aload_n 0, 1) := bL_law_1857.2.2.2.2.2.2.2.2.2.2.2.1
theorem dL_law_1875 : decode cL_law 1875 = .ok (.iload 4, 2) := bL_law_1857.2.2.2.2.2.2.2.2.2.2.2.2.1
theorem dL_law_1877 : decode cL_law 1877 = .ok (.iconst 1, 1) := bL_law_1857.2.2.2.2.2.2.2.2.2.2.2.2.2.1
theorem dL_law_1878 : decode cL_law 1878 = .ok (.iadd, 1) := bL_law_1857.2.2.2.2.2.2.2.2.2.2.2.2.2.2.1
theorem dL_law_1879 : decode cL_law 1879 = .ok (.iaload, 1) := bL_law_1857.2.2.2.2.2.2.2.2.2.2.2.2.2.2.2
set_option maxRecDepth 100000 in
theorem bL_law_1880 : (decode cL_law 1880 = .ok (.aload_n 0, 1)) ∧ (decode cL_law 1881 = .ok (.iload 4, 2)) ∧ (decode cL_law 1883 = .ok (.iconst 2, 1)) ∧ (decode cL_law 1884 = .ok (.iadd, 1)) ∧ (decode cL_law 1885 = .ok (.iaload, 1)) ∧ (decode cL_law 1886 = .ok (.ifCond .eq 7, 3)) ∧ (decode cL_law 1889 = .ok (.iconst 1, 1)) ∧ (decode cL_law 1890 = .ok (.goto 4, 3)) ∧ (decode cL_law 1893 = .ok (.iconst 0, 1)) ∧ (decode cL_law 1894 = .ok (.aload_n 3, 1)) ∧ (decode cL_law 1895 = .ok (.invokestatic 301, 3)) ∧ (decode cL_law 1898 = .ok (.istore 5, 2)) ∧ (decode cL_law 1900 = .ok (.aload_n 2, 1)) ∧ (decode cL_law 1901 = .ok (.aload_n 0, 1)) ∧ (decode cL_law 1902 = .ok (.iload 4, 2)) ∧ (decode cL_law 1904 = .ok (.iconst 1, 1)) := by decide +kernel
theorem dL_law_1880 : decode cL_law 1880 = .ok (.aload_n 0, 1) := bL_law_1880.1
theorem dL_law_1881 : decode cL_law 1881 = .ok (.iload 4, 2) := bL_law_1880.2.1
theorem dL_law_1883 : decode cL_law 1883 = .ok (.iconst 2, 1) := bL_law_1880.2.2.1
theorem dL_law_1884 : decode cL_law 1884 = .ok (.iadd, 1) := bL_law_1880.2.2.2.1
theorem dL_law_1885 : decode cL_law 1885 = .ok (.iaload, 1) := bL_law_1880.2.2.2.2.1
theorem dL_law_1886 : decode cL_law 1886 = .ok (.ifCond .eq 7, 3) := bL_law_1880.2.2.2.2.2.1
theorem dL_law_1889 : decode cL_law 1889 = .ok (.iconst 1, 1) := bL_law_1880.2.2.2.2.2.2.1
theorem dL_law_1890 : decode cL_law 1890 = .ok (.goto 4, 3) := bL_law_1880.2.2.2.2.2.2.2.1
theorem dL_law_1893 : decode cL_law 1893 = .ok (.iconst 0, 1) := bL_law_1880.2.2.2.2.2.2.2.2.1
theorem dL_law_1894 : decode cL_law 1894 = .ok (.aload_n 3, 1) := bL_law_1880.2.2.2.2.2.2.2.2.2.1
theorem dL_law_1895 : decode cL_law 1895 = .ok (.invokestatic 301, 3) := bL_law_1880.2.2.2.2.2.2.2.2.2.2.1
theorem dL_law_1898 : decode cL_law 1898 = .ok (.istore 5, 2) := bL_law_1880.2.2.2.2.2.2.2.2.2.2.2.1
theorem dL_law_1900 : decode cL_law 1900 = .ok (.aload_n 2, 1) := bL_law_1880.2.2.2.2.2.2.2.2.2.2.2.2.1
theorem dL_law_1901 : decode cL_law 1901 = .ok (.aload_n 0, 1) := bL_law_1880.2.2.2.2.2.2.2.2.2.2.2.2.2.1
theorem dL_law_1902 : decode cL_law 1902 = .ok (.iload 4, 2) := bL_law_1880.2.2.2.2.2.2.2.2.2.2.2.2.2.2.1
theorem dL_law_1904 : decode cL_law 1904 = .ok (.iconst 1, 1) := bL_law_1880.2.2.2.2.2.2.2.2.2.2.2.2.2.2.2
set_option maxRecDepth 100000 in
theorem bL_law_1905 : (decode cL_law 1905 = .ok (.iadd, 1)) ∧ (decode cL_law 1906 = .ok (.iaload, 1)) ∧ (decode cL_law 1907 = .ok (.aload_n 0, 1)) ∧ (decode cL_law 1908 = .ok (.iload 4, 2)) ∧ (decode cL_law 1910 = .ok (.iconst 2, 1)) ∧ (decode cL_law 1911 = .ok (.iadd, 1)) ∧ (decode cL_law 1912 = .ok (.iaload, 1)) ∧ (decode cL_law 1913 = .ok (.ifCond .eq 7, 3)) ∧ (decode cL_law 1916 = .ok (.iconst 1, 1)) ∧ (decode cL_law 1917 = .ok (.goto 4, 3)) ∧ (decode cL_law 1920 = .ok (.iconst 0, 1)) ∧ (decode cL_law 1921 = .ok (.invokevirtual 303, 3)) ∧ (decode cL_law 1924 = .ok (.istore 6, 2)) ∧ (decode cL_law 1926 = .ok (.goto 70, 3)) ∧ (decode cL_law 1929 = .ok (.aload_n 1, 1)) ∧ (decode cL_law 1930 = .ok (.aload_n 0, 1)) := by decide +kernel
theorem dL_law_1905 : decode cL_law 1905 = .ok (.iadd, 1) := bL_law_1905.1
theorem dL_law_1906 : decode cL_law 1906 = .ok (.iaload, 1) := bL_law_1905.2.1
theorem dL_law_1907 : decode cL_law 1907 = .ok (.aload_n 0, 1) := bL_law_1905.2.2.1
theorem dL_law_1908 : decode cL_law 1908 = .ok (.iload 4, 2) := bL_law_1905.2.2.2.1
theorem dL_law_1910 : decode cL_law 1910 = .ok (.iconst 2, 1) := bL_law_1905.2.2.2.2.1
theorem dL_law_1911 : decode cL_law 1911 = .ok (.iadd, 1) := bL_law_1905.2.2.2.2.2.1
theorem dL_law_1912 : decode cL_law 1912 = .ok (.iaload, 1) := bL_law_1905.2.2.2.2.2.2.1
theorem dL_law_1913 : decode cL_law 1913 = .ok (.ifCond .eq 7, 3) := bL_law_1905.2.2.2.2.2.2.2.1
theorem dL_law_1916 : decode cL_law 1916 = .ok (.iconst 1, 1) := bL_law_1905.2.2.2.2.2.2.2.2.1
theorem dL_law_1917 : decode cL_law 1917 = .ok (.goto 4, 3) := bL_law_1905.2.2.2.2.2.2.2.2.2.1
theorem dL_law_1920 : decode cL_law 1920 = .ok (.iconst 0, 1) := bL_law_1905.2.2.2.2.2.2.2.2.2.2.1
theorem dL_law_1921 : decode cL_law 1921 = .ok (.invokevirtual 303, 3) := bL_law_1905.2.2.2.2.2.2.2.2.2.2.2.1
theorem dL_law_1924 : decode cL_law 1924 = .ok (.istore 6, 2) := bL_law_1905.2.2.2.2.2.2.2.2.2.2.2.2.1
theorem dL_law_1926 : decode cL_law 1926 = .ok (.goto 70, 3) := bL_law_1905.2.2.2.2.2.2.2.2.2.2.2.2.2.1
theorem dL_law_1929 : decode cL_law 1929 = .ok (.aload_n 1, 1) := bL_law_1905.2.2.2.2.2.2.2.2.2.2.2.2.2.2.1
theorem dL_law_1930 : decode cL_law 1930 = .ok (.aload_n 0, 1) := bL_law_1905.2.2.2.2.2.2.2.2.2.2.2.2.2.2.2
set_option maxRecDepth 100000 in
theorem bL_law_1931 : (decode cL_law 1931 = .ok (.iload 4, 2)) ∧ (decode cL_law 1933 = .ok (.iconst 1, 1)) ∧ (decode cL_law 1934 = .ok (.iadd, 1)) ∧ (decode cL_law 1935 = .ok (.iaload, 1)) ∧ (decode cL_law 1936 = .ok (.aload_n 3, 1)) ∧ (decode cL_law 1937 = .ok (.invokestatic 304, 3)) ∧ (decode cL_law 1940 = .ok (.istore 5, 2)) ∧ (decode cL_law 1942 = .ok (.aload_n 2, 1)) ∧ (decode cL_law 1943 = .ok (.aload_n 0, 1)) ∧ (decode cL_law 1944 = .ok (.iload 4, 2)) ∧ (decode cL_law 1946 = .ok (.iconst 1, 1)) ∧ (decode cL_law 1947 = .ok (.iadd, 1)) ∧ (decode cL_law 1948 = .ok (.iaload, 1)) ∧ (decode cL_law 1949 = .ok (.invokevirtual 306, 3)) ∧ (decode cL_law 1952 = .ok (.istore 6, 2)) ∧ (decode cL_law 1954 = .ok (.goto 42, 3)) := by decide +kernel
theorem dL_law_1931 : decode cL_law 1931 = .ok (.iload 4, 2) := bL_law_1931.1
theorem dL_law_1933 : decode cL_law 1933 = .ok (.iconst 1, 1) := bL_law_1931.2.1
theorem dL_law_1934 : decode cL_law 1934 = .ok (.iadd, 1) := bL_law_1931.2.2.1
theorem dL_law_1935 : decode cL_law 1935 = .ok (.iaload, 1) := bL_law_1931.2.2.2.1
theorem dL_law_1936 : decode cL_law 1936 = .ok (.aload_n 3, 1) := bL_law_1931.2.2.2.2.1
theorem dL_law_1937 : decode cL_law 1937 = .ok (.invokestatic 304, 3) := bL_law_1931.2.2.2.2.2.1
theorem dL_law_1940 : decode cL_law 1940 = .ok (.istore 5, 2) := bL_law_1931.2.2.2.2.2.2.1
theorem dL_law_1942 : decode cL_law 1942 = .ok (.aload_n 2, 1) := bL_law_1931.2.2.2.2.2.2.2.1
theorem dL_law_1943 : decode cL_law 1943 = .ok (.aload_n 0, 1) := bL_law_1931.2.2.2.2.2.2.2.2.1
theorem dL_law_1944 : decode cL_law 1944 = .ok (.iload 4, 2) := bL_law_1931.2.2.2.2.2.2.2.2.2.1
theorem dL_law_1946 : decode cL_law 1946 = .ok (.iconst 1, 1) := bL_law_1931.2.2.2.2.2.2.2.2.2.2.1
theorem dL_law_1947 : decode cL_law 1947 = .ok (.iadd, 1) := bL_law_1931.2.2.2.2.2.2.2.2.2.2.2.1
theorem dL_law_1948 : decode cL_law 1948 = .ok (.iaload, 1) := bL_law_1931.2.2.2.2.2.2.2.2.2.2.2.2.1
theorem dL_law_1949 : decode cL_law 1949 = .ok (.invokevirtual 306, 3) := bL_law_1931.2.2.2.2.2.2.2.2.2.2.2.2.2.1
theorem dL_law_1952 : decode cL_law 1952 = .ok (.istore 6, 2) := bL_law_1931.2.2.2.2.2.2.2.2.2.2.2.2.2.2.1
theorem dL_law_1954 : decode cL_law 1954 = .ok (.goto 42, 3) := bL_law_1931.2.2.2.2.2.2.2.2.2.2.2.2.2.2.2
set_option maxRecDepth 100000 in
theorem bL_law_1957 : (decode cL_law 1957 = .ok (.aload_n 1, 1)) ∧ (decode cL_law 1958 = .ok (.invokevirtual 307, 3)) ∧ (decode cL_law 1961 = .ok (.pop, 1)) ∧ (decode cL_law 1962 = .ok (.aload_n 2, 1)) ∧ (decode cL_law 1963 = .ok (.invokevirtual 310, 3)) ∧ (decode cL_law 1966 = .ok (.pop, 1)) ∧ (decode cL_law 1967 = .ok (.goto 29, 3)) ∧ (decode cL_law 1970 = .ok (.aload_n 1, 1)) ∧ (decode cL_law 1971 = .ok (.invokevirtual 311, 3)) ∧ (decode cL_law 1974 = .ok (.pop, 1)) ∧ (decode cL_law 1975 = .ok (.aload_n 2, 1)) ∧ (decode cL_law 1976 = .ok (.invokevirtual 315, 3)) ∧ (decode cL_law 1979 = .ok (.pop, 1)) ∧ (decode cL_law 1980 = .ok (.goto 16, 3)) ∧ (decode cL_law 1983 = .ok (.aload_n 1, 1)) ∧ (decode cL_law 1984 = .ok (.invokevirtual 316, 3)) := by decide +kernel
theorem dL_law_1957 : decode cL_law 1957 = .ok (.aload_n 1, 1) := bL_law_1957.1
theorem dL_law_1958 : decode cL_law 1958 = .ok (.invokevirtual 307, 3) := bL_law_1957.2.1
theorem dL_law_1961 : decode cL_law 1961 = .ok (.pop, 1) := bL_law_1957.2.2.1
theorem dL_law_1962 : decode cL_law 1962 = .ok (.aload_n 2, 1) := bL_law_1957.2.2.2.1
theorem dL_law_1963 : decode cL_law 1963 = .ok (.invokevirtual 310, 3) := bL_law_1957.2.2.2.2.1
theorem dL_law_1966 : decode cL_law 1966 = .ok (.pop, 1) := bL_law_1957.2.2.2.2.2.1
theorem dL_law_1967 : decode cL_law 1967 = .ok (.goto 29, 3) := bL_law_1957.2.2.2.2.2.2.1
theorem dL_law_1970 : decode cL_law 1970 = .ok (.aload_n 1, 1) := bL_law_1957.2.2.2.2.2.2.2.1
theorem dL_law_1971 : decode cL_law 1971 = .ok (.invokevirtual 311, 3) := bL_law_1957.2.2.2.2.2.2.2.2.1
theorem dL_law_1974 : decode cL_law 1974 = .ok (.pop, 1) := bL_law_1957.2.2.2.2.2.2.2.2.2.1
theorem dL_law_1975 : decode cL_law 1975 = .ok (.aload_n 2, 1) := bL_law_1957.2.2.2.2.2.2.2.2.2.2.1
theorem dL_law_1976 : decode cL_law 1976 = .ok (.invokevirtual 315, 3) := bL_law_1957.2.2.2.2.2.2.2.2.2.2.2.1
theorem dL_law_1979 : decode cL_law 1979 = .ok (.pop, 1) := bL_law_1957.2.2.2.2.2.2.2.2.2.2.2.2.1
theorem dL_law_1980 : decode cL_law 1980 = .ok (.goto 16, 3) := bL_law_1957.2.2.2.2.2.2.2.2.2.2.2.2.2.1
theorem dL_law_1983 : decode cL_law 1983 = .ok (.aload_n 1, 1) := bL_law_1957.2.2.2.2.2.2.2.2.2.2.2.2.2.2.1
theorem dL_law_1984 : decode cL_law 1984 = .ok (.invokevirtual 316, 3) := bL_law_1957.2.2.2.2.2.2.2.2.2.2.2.2.2.2.2
set_option maxRecDepth 100000 in
theorem bL_law_1987 : (decode cL_law 1987 = .ok (.pop2, 1)) ∧ (decode cL_law 1988 = .ok (.aload_n 2, 1)) ∧ (decode cL_law 1989 = .ok (.invokevirtual 320, 3)) ∧ (decode cL_law 1992 = .ok (.pop2, 1)) ∧ (decode cL_law 1993 = .ok (.goto 3, 3)) ∧ (decode cL_law 1996 = .ok (.iinc 4 6, 3)) ∧ (decode cL_law 1999 = .ok (.goto (-1972), 3)) ∧ (decode cL_law 2002 = .ok (.iconst 1, 1)) ∧ (decode cL_law 2003 = .ok (.ireturn, 1)) := by decide +kernel
theorem dL_law_1987 : decode cL_law 1987 = .ok (.pop2, 1) := bL_law_1987.1
theorem dL_law_1988 : decode cL_law 1988 = .ok (.aload_n 2, 1) := bL_law_1987.2.1
theorem dL_law_1989 : decode cL_law 1989 = .ok (.invokevirtual 320, 3) := bL_law_1987.2.2.1
theorem dL_law_1992 : decode cL_law 1992 = .ok (.pop2, 1) := bL_law_1987.2.2.2.1
theorem dL_law_1993 : decode cL_law 1993 = .ok (.goto 3, 3) := bL_law_1987.2.2.2.2.1
theorem dL_law_1996 : decode cL_law 1996 = .ok (.iinc 4 6, 3) := bL_law_1987.2.2.2.2.2.1
theorem dL_law_1999 : decode cL_law 1999 = .ok (.goto (-1972), 3) := bL_law_1987.2.2.2.2.2.2.1
theorem dL_law_2002 : decode cL_law 2002 = .ok (.iconst 1, 1) := bL_law_1987.2.2.2.2.2.2.2.1
theorem dL_law_2003 : decode cL_law 2003 = .ok (.ireturn, 1) := bL_law_1987.2.2.2.2.2.2.2.2
