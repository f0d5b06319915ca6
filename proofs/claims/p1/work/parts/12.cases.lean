section WR
variable {p : Program} {l : Launch} {e : Env} {R : Room} {s : State} {m : MethodId} {args : Array Value} {below : List Frame} {meth : Method} {c : Code} {H : Heap} {locs : List Loc} {cells slots : Nat} {Q : State → Prop}
variable {pc : Nat} {ls : Array Slot} {rest : List Value} {G : GG} {ws : va_W} {A : Nat → Prop} {y0 : MethodName} {b0 : ByteArray} {mL0 : Nat} {rt0 : Option FieldType} {a : Nat} {H0 : Heap}
theorem dL_law_216 : decode cL_law 216 = .ok (.aload_n 1, 1) := by decide +kernel
theorem dL_law_217 : decode cL_law 217 = .ok (.aload_n 0, 1) := by decide +kernel
theorem dL_law_218 : decode cL_law 218 = .ok (.iload_n 3, 1) := by decide +kernel
theorem dL_law_219 : decode cL_law 219 = .ok (.iconst 1, 1) := by decide +kernel
theorem dL_law_220 : decode cL_law 220 = .ok (.iadd, 1) := by decide +kernel
theorem dL_law_221 : decode cL_law 221 = .ok (.iaload, 1) := by decide +kernel
theorem dL_law_222 : decode cL_law 222 = .ok (.invokevirtual 13, 3) := by decide +kernel
theorem m_211 : Cond.code yX11_days cX11_days 2 (some .int) ∈ BW := List.mem_of_getElem? (i := 211) (by decide +kernel)
theorem m_208 : Cond.methodLink RL 13 yX11_days ∈ BW := List.mem_of_getElem? (i := 208) (by decide +kernel)
theorem m_209 : Cond.instanceMethod yX11_days ∈ BW := List.mem_of_getElem? (i := 209) (by decide +kernel)
theorem m_210 : Cond.selects RX11 yX11_days yX11_days ∈ BW := List.mem_of_getElem? (i := 210) (by decide +kernel)
theorem si_L_13 : SV RL RX11 13 yX11_days cX11_days 2 (some .int) 1 := ⟨⟨m_208, m_209, m_210, m_2, m_211⟩, rfl, by decide +kernel, by decide +kernel, by decide +kernel⟩
theorem dL_law_225 : decode cL_law 225 = .ok (.aload_n 2, 1) := by decide +kernel
theorem dL_law_226 : decode cL_law 226 = .ok (.aload_n 0, 1) := by decide +kernel
theorem dL_law_227 : decode cL_law 227 = .ok (.iload_n 3, 1) := by decide +kernel
theorem dL_law_228 : decode cL_law 228 = .ok (.iconst 1, 1) := by decide +kernel
theorem dL_law_229 : decode cL_law 229 = .ok (.iadd, 1) := by decide +kernel
theorem dL_law_230 : decode cL_law 230 = .ok (.iaload, 1) := by decide +kernel
theorem dL_law_231 : decode cL_law 231 = .ok (.invokevirtual 17, 3) := by decide +kernel
theorem m_218 : Cond.code yX12_days cX12_days 2 (some .int) ∈ BW := List.mem_of_getElem? (i := 218) (by decide +kernel)
theorem m_215 : Cond.methodLink RL 17 yX12_days ∈ BW := List.mem_of_getElem? (i := 215) (by decide +kernel)
theorem m_216 : Cond.instanceMethod yX12_days ∈ BW := List.mem_of_getElem? (i := 216) (by decide +kernel)
theorem m_217 : Cond.selects RX12 yX12_days yX12_days ∈ BW := List.mem_of_getElem? (i := 217) (by decide +kernel)
theorem si_L_17 : SV RL RX12 17 yX12_days cX12_days 2 (some .int) 1 := ⟨⟨m_215, m_216, m_217, m_5, m_218⟩, rfl, by decide +kernel, by decide +kernel, by decide +kernel⟩
theorem dL_law_234 : decode cL_law 234 = .ok (.if_icmp .eq 1484, 3) := by decide +kernel
theorem dL_law_239 : decode cL_law 239 = .ok (.aload_n 1, 1) := by decide +kernel
theorem dL_law_240 : decode cL_law 240 = .ok (.aload_n 0, 1) := by decide +kernel
theorem dL_law_241 : decode cL_law 241 = .ok (.iload_n 3, 1) := by decide +kernel
theorem dL_law_242 : decode cL_law 242 = .ok (.iconst 1, 1) := by decide +kernel
theorem dL_law_243 : decode cL_law 243 = .ok (.iadd, 1) := by decide +kernel
theorem dL_law_244 : decode cL_law 244 = .ok (.iaload, 1) := by decide +kernel
theorem dL_law_245 : decode cL_law 245 = .ok (.aload_n 0, 1) := by decide +kernel
theorem dL_law_246 : decode cL_law 246 = .ok (.iload_n 3, 1) := by decide +kernel
theorem dL_law_247 : decode cL_law 247 = .ok (.iconst 2, 1) := by decide +kernel
theorem dL_law_248 : decode cL_law 248 = .ok (.iadd, 1) := by decide +kernel
theorem dL_law_249 : decode cL_law 249 = .ok (.iaload, 1) := by decide +kernel
theorem dL_law_250 : decode cL_law 250 = .ok (.invokevirtual 18, 3) := by decide +kernel
theorem m_225 : Cond.code yX11_view cX11_view 3 (some .int) ∈ BW := List.mem_of_getElem? (i := 225) (by decide +kernel)
theorem m_222 : Cond.methodLink RL 18 yX11_view ∈ BW := List.mem_of_getElem? (i := 222) (by decide +kernel)
theorem m_223 : Cond.instanceMethod yX11_view ∈ BW := List.mem_of_getElem? (i := 223) (by decide +kernel)
theorem m_224 : Cond.selects RX11 yX11_view yX11_view ∈ BW := List.mem_of_getElem? (i := 224) (by decide +kernel)
theorem si_L_18 : SV RL RX11 18 yX11_view cX11_view 3 (some .int) 2 := ⟨⟨m_222, m_223, m_224, m_2, m_225⟩, rfl, by decide +kernel, by decide +kernel, by decide +kernel⟩
theorem dL_law_253 : decode cL_law 253 = .ok (.aload_n 2, 1) := by decide +kernel
theorem dL_law_254 : decode cL_law 254 = .ok (.aload_n 0, 1) := by decide +kernel
theorem dL_law_255 : decode cL_law 255 = .ok (.iload_n 3, 1) := by decide +kernel
theorem dL_law_256 : decode cL_law 256 = .ok (.iconst 1, 1) := by decide +kernel
theorem dL_law_257 : decode cL_law 257 = .ok (.iadd, 1) := by decide +kernel
theorem dL_law_258 : decode cL_law 258 = .ok (.iaload, 1) := by decide +kernel
theorem dL_law_259 : decode cL_law 259 = .ok (.aload_n 0, 1) := by decide +kernel
theorem dL_law_260 : decode cL_law 260 = .ok (.iload_n 3, 1) := by decide +kernel
theorem dL_law_261 : decode cL_law 261 = .ok (.iconst 2, 1) := by decide +kernel
theorem dL_law_262 : decode cL_law 262 = .ok (.iadd, 1) := by decide +kernel
theorem dL_law_263 : decode cL_law 263 = .ok (.iaload, 1) := by decide +kernel
theorem dL_law_264 : decode cL_law 264 = .ok (.invokevirtual 22, 3) := by decide +kernel
theorem m_252 : Cond.code yX12_view cX12_view 3 (some .int) ∈ BW := List.mem_of_getElem? (i := 252) (by decide +kernel)
theorem m_249 : Cond.methodLink RL 22 yX12_view ∈ BW := List.mem_of_getElem? (i := 249) (by decide +kernel)
theorem m_250 : Cond.instanceMethod yX12_view ∈ BW := List.mem_of_getElem? (i := 250) (by decide +kernel)
theorem m_251 : Cond.selects RX12 yX12_view yX12_view ∈ BW := List.mem_of_getElem? (i := 251) (by decide +kernel)
theorem si_L_22 : SV RL RX12 22 yX12_view cX12_view 3 (some .int) 2 := ⟨⟨m_249, m_250, m_251, m_5, m_252⟩, rfl, by decide +kernel, by decide +kernel, by decide +kernel⟩
theorem dL_law_267 : decode cL_law 267 = .ok (.if_icmp .eq 1451, 3) := by decide +kernel
theorem dL_law_272 : decode cL_law 272 = .ok (.aload_n 1, 1) := by decide +kernel
theorem dL_law_273 : decode cL_law 273 = .ok (.aload_n 0, 1) := by decide +kernel
theorem dL_law_274 : decode cL_law 274 = .ok (.iload_n 3, 1) := by decide +kernel
theorem dL_law_275 : decode cL_law 275 = .ok (.iconst 1, 1) := by decide +kernel
theorem dL_law_276 : decode cL_law 276 = .ok (.iadd, 1) := by decide +kernel
theorem dL_law_277 : decode cL_law 277 = .ok (.iaload, 1) := by decide +kernel
theorem dL_law_278 : decode cL_law 278 = .ok (.aload_n 0, 1) := by decide +kernel
theorem dL_law_279 : decode cL_law 279 = .ok (.iload_n 3, 1) := by decide +kernel
theorem dL_law_280 : decode cL_law 280 = .ok (.iconst 2, 1) := by decide +kernel
theorem dL_law_281 : decode cL_law 281 = .ok (.iadd, 1) := by decide +kernel
theorem dL_law_282 : decode cL_law 282 = .ok (.iaload, 1) := by decide +kernel
theorem dL_law_283 : decode cL_law 283 = .ok (.invokevirtual 23, 3) := by decide +kernel
theorem m_279 : Cond.code yX11_person cX11_person 4 (some .int) ∈ BW := List.mem_of_getElem? (i := 279) (by decide +kernel)
theorem m_276 : Cond.methodLink RL 23 yX11_person ∈ BW := List.mem_of_getElem? (i := 276) (by decide +kernel)
theorem m_277 : Cond.instanceMethod yX11_person ∈ BW := List.mem_of_getElem? (i := 277) (by decide +kernel)
theorem m_278 : Cond.selects RX11 yX11_person yX11_person ∈ BW := List.mem_of_getElem? (i := 278) (by decide +kernel)
theorem si_L_23 : SV RL RX11 23 yX11_person cX11_person 4 (some .int) 2 := ⟨⟨m_276, m_277, m_278, m_2, m_279⟩, rfl, by decide +kernel, by decide +kernel, by decide +kernel⟩
theorem dL_law_286 : decode cL_law 286 = .ok (.aload_n 2, 1) := by decide +kernel
theorem dL_law_287 : decode cL_law 287 = .ok (.aload_n 0, 1) := by decide +kernel
theorem dL_law_288 : decode cL_law 288 = .ok (.iload_n 3, 1) := by decide +kernel
theorem dL_law_289 : decode cL_law 289 = .ok (.iconst 1, 1) := by decide +kernel
theorem dL_law_290 : decode cL_law 290 = .ok (.iadd, 1) := by decide +kernel
theorem dL_law_291 : decode cL_law 291 = .ok (.iaload, 1) := by decide +kernel
theorem dL_law_292 : decode cL_law 292 = .ok (.aload_n 0, 1) := by decide +kernel
theorem dL_law_293 : decode cL_law 293 = .ok (.iload_n 3, 1) := by decide +kernel
theorem dL_law_294 : decode cL_law 294 = .ok (.iconst 2, 1) := by decide +kernel
theorem dL_law_295 : decode cL_law 295 = .ok (.iadd, 1) := by decide +kernel
theorem dL_law_296 : decode cL_law 296 = .ok (.iaload, 1) := by decide +kernel
theorem dL_law_297 : decode cL_law 297 = .ok (.invokevirtual 26, 3) := by decide +kernel
theorem m_295 : Cond.code yX12_person cX12_person 4 (some .int) ∈ BW := List.mem_of_getElem? (i := 295) (by decide +kernel)
theorem m_292 : Cond.methodLink RL 26 yX12_person ∈ BW := List.mem_of_getElem? (i := 292) (by decide +kernel)
theorem m_293 : Cond.instanceMethod yX12_person ∈ BW := List.mem_of_getElem? (i := 293) (by decide +kernel)
theorem m_294 : Cond.selects RX12 yX12_person yX12_person ∈ BW := List.mem_of_getElem? (i := 294) (by decide +kernel)
theorem si_L_26 : SV RL RX12 26 yX12_person cX12_person 4 (some .int) 2 := ⟨⟨m_292, m_293, m_294, m_5, m_295⟩, rfl, by decide +kernel, by decide +kernel, by decide +kernel⟩
theorem dL_law_300 : decode cL_law 300 = .ok (.if_icmp .eq 1418, 3) := by decide +kernel
theorem dL_law_305 : decode cL_law 305 = .ok (.aload_n 1, 1) := by decide +kernel
theorem dL_law_306 : decode cL_law 306 = .ok (.aload_n 0, 1) := by decide +kernel
theorem dL_law_307 : decode cL_law 307 = .ok (.iload_n 3, 1) := by decide +kernel
theorem dL_law_308 : decode cL_law 308 = .ok (.iconst 1, 1) := by decide +kernel
theorem dL_law_309 : decode cL_law 309 = .ok (.iadd, 1) := by decide +kernel
theorem dL_law_310 : decode cL_law 310 = .ok (.iaload, 1) := by decide +kernel
theorem dL_law_311 : decode cL_law 311 = .ok (.aload_n 0, 1) := by decide +kernel
theorem dL_law_312 : decode cL_law 312 = .ok (.iload_n 3, 1) := by decide +kernel
theorem dL_law_313 : decode cL_law 313 = .ok (.iconst 2, 1) := by decide +kernel
theorem dL_law_314 : decode cL_law 314 = .ok (.iadd, 1) := by decide +kernel
theorem dL_law_315 : decode cL_law 315 = .ok (.iaload, 1) := by decide +kernel
theorem dL_law_316 : decode cL_law 316 = .ok (.invokevirtual 27, 3) := by decide +kernel
theorem m_299 : Cond.code yX11_personOf cX11_personOf 3 (some .int) ∈ BW := List.mem_of_getElem? (i := 299) (by decide +kernel)
theorem m_296 : Cond.methodLink RL 27 yX11_personOf ∈ BW := List.mem_of_getElem? (i := 296) (by decide +kernel)
theorem m_297 : Cond.instanceMethod yX11_personOf ∈ BW := List.mem_of_getElem? (i := 297) (by decide +kernel)
theorem m_298 : Cond.selects RX11 yX11_personOf yX11_personOf ∈ BW := List.mem_of_getElem? (i := 298) (by decide +kernel)
theorem si_L_27 : SV RL RX11 27 yX11_personOf cX11_personOf 3 (some .int) 2 := ⟨⟨m_296, m_297, m_298, m_2, m_299⟩, rfl, by decide +kernel, by decide +kernel, by decide +kernel⟩
theorem dL_law_319 : decode cL_law 319 = .ok (.aload_n 2, 1) := by decide +kernel
theorem dL_law_320 : decode cL_law 320 = .ok (.aload_n 0, 1) := by decide +kernel
theorem dL_law_321 : decode cL_law 321 = .ok (.iload_n 3, 1) := by decide +kernel
theorem dL_law_322 : decode cL_law 322 = .ok (.iconst 1, 1) := by decide +kernel
theorem dL_law_323 : decode cL_law 323 = .ok (.iadd, 1) := by decide +kernel
theorem dL_law_324 : decode cL_law 324 = .ok (.iaload, 1) := by decide +kernel
theorem dL_law_325 : decode cL_law 325 = .ok (.aload_n 0, 1) := by decide +kernel
theorem dL_law_326 : decode cL_law 326 = .ok (.iload_n 3, 1) := by decide +kernel
theorem dL_law_327 : decode cL_law 327 = .ok (.iconst 2, 1) := by decide +kernel
theorem dL_law_328 : decode cL_law 328 = .ok (.iadd, 1) := by decide +kernel
theorem dL_law_329 : decode cL_law 329 = .ok (.iaload, 1) := by decide +kernel
theorem dL_law_330 : decode cL_law 330 = .ok (.invokevirtual 30, 3) := by decide +kernel
theorem m_326 : Cond.code yX12_personOf cX12_personOf 3 (some .int) ∈ BW := List.mem_of_getElem? (i := 326) (by decide +kernel)
theorem m_323 : Cond.methodLink RL 30 yX12_personOf ∈ BW := List.mem_of_getElem? (i := 323) (by decide +kernel)
theorem m_324 : Cond.instanceMethod yX12_personOf ∈ BW := List.mem_of_getElem? (i := 324) (by decide +kernel)
theorem m_325 : Cond.selects RX12 yX12_personOf yX12_personOf ∈ BW := List.mem_of_getElem? (i := 325) (by decide +kernel)
theorem si_L_30 : SV RL RX12 30 yX12_personOf cX12_personOf 3 (some .int) 2 := ⟨⟨m_323, m_324, m_325, m_5, m_326⟩, rfl, by decide +kernel, by decide +kernel, by decide +kernel⟩
theorem dL_law_333 : decode cL_law 333 = .ok (.if_icmp .eq 1385, 3) := by decide +kernel
theorem dL_law_338 : decode cL_law 338 = .ok (.aload_n 1, 1) := by decide +kernel
theorem dL_law_339 : decode cL_law 339 = .ok (.aload_n 0, 1) := by decide +kernel
theorem dL_law_340 : decode cL_law 340 = .ok (.iload_n 3, 1) := by decide +kernel
theorem dL_law_341 : decode cL_law 341 = .ok (.iconst 1, 1) := by decide +kernel
theorem dL_law_342 : decode cL_law 342 = .ok (.iadd, 1) := by decide +kernel
theorem dL_law_343 : decode cL_law 343 = .ok (.iaload, 1) := by decide +kernel
theorem dL_law_344 : decode cL_law 344 = .ok (.aload_n 0, 1) := by decide +kernel
theorem dL_law_345 : decode cL_law 345 = .ok (.iload_n 3, 1) := by decide +kernel
theorem dL_law_346 : decode cL_law 346 = .ok (.iconst 2, 1) := by decide +kernel
theorem dL_law_347 : decode cL_law 347 = .ok (.iadd, 1) := by decide +kernel
theorem dL_law_348 : decode cL_law 348 = .ok (.iaload, 1) := by decide +kernel
theorem dL_law_349 : decode cL_law 349 = .ok (.aload_n 0, 1) := by decide +kernel
theorem dL_law_350 : decode cL_law 350 = .ok (.iload_n 3, 1) := by decide +kernel
theorem dL_law_351 : decode cL_law 351 = .ok (.iconst 3, 1) := by decide +kernel
theorem dL_law_352 : decode cL_law 352 = .ok (.iadd, 1) := by decide +kernel
theorem dL_law_353 : decode cL_law 353 = .ok (.iaload, 1) := by decide +kernel
theorem dL_law_354 : decode cL_law 354 = .ok (.aload_n 0, 1) := by decide +kernel
theorem dL_law_355 : decode cL_law 355 = .ok (.iload_n 3, 1) := by decide +kernel
theorem dL_law_356 : decode cL_law 356 = .ok (.iconst 4, 1) := by decide +kernel
theorem dL_law_357 : decode cL_law 357 = .ok (.iadd, 1) := by decide +kernel
theorem dL_law_358 : decode cL_law 358 = .ok (.iaload, 1) := by decide +kernel
theorem dL_law_359 : decode cL_law 359 = .ok (.invokevirtual 31, 3) := by decide +kernel
theorem m_350 : Cond.code yX11_paper cX11_paper 6 (some .int) ∈ BW := List.mem_of_getElem? (i := 350) (by decide +kernel)
theorem m_347 : Cond.methodLink RL 31 yX11_paper ∈ BW := List.mem_of_getElem? (i := 347) (by decide +kernel)
theorem m_348 : Cond.instanceMethod yX11_paper ∈ BW := List.mem_of_getElem? (i := 348) (by decide +kernel)
theorem m_349 : Cond.selects RX11 yX11_paper yX11_paper ∈ BW := List.mem_of_getElem? (i := 349) (by decide +kernel)
theorem si_L_31 : SV RL RX11 31 yX11_paper cX11_paper 6 (some .int) 4 := ⟨⟨m_347, m_348, m_349, m_2, m_350⟩, rfl, by decide +kernel, by decide +kernel, by decide +kernel⟩
theorem dL_law_362 : decode cL_law 362 = .ok (.aload_n 2, 1) := by decide +kernel
theorem dL_law_363 : decode cL_law 363 = .ok (.aload_n 0, 1) := by decide +kernel
theorem dL_law_364 : decode cL_law 364 = .ok (.iload_n 3, 1) := by decide +kernel
theorem dL_law_365 : decode cL_law 365 = .ok (.iconst 1, 1) := by decide +kernel
theorem dL_law_366 : decode cL_law 366 = .ok (.iadd, 1) := by decide +kernel
theorem dL_law_367 : decode cL_law 367 = .ok (.iaload, 1) := by decide +kernel
theorem dL_law_368 : decode cL_law 368 = .ok (.aload_n 0, 1) := by decide +kernel
theorem dL_law_369 : decode cL_law 369 = .ok (.iload_n 3, 1) := by decide +kernel
theorem dL_law_370 : decode cL_law 370 = .ok (.iconst 2, 1) := by decide +kernel
theorem dL_law_371 : decode cL_law 371 = .ok (.iadd, 1) := by decide +kernel
theorem dL_law_372 : decode cL_law 372 = .ok (.iaload, 1) := by decide +kernel
theorem dL_law_373 : decode cL_law 373 = .ok (.aload_n 0, 1) := by decide +kernel
theorem dL_law_374 : decode cL_law 374 = .ok (.iload_n 3, 1) := by decide +kernel
theorem dL_law_375 : decode cL_law 375 = .ok (.iconst 3, 1) := by decide +kernel
theorem dL_law_376 : decode cL_law 376 = .ok (.iadd, 1) := by decide +kernel
theorem dL_law_377 : decode cL_law 377 = .ok (.iaload, 1) := by decide +kernel
theorem dL_law_378 : decode cL_law 378 = .ok (.aload_n 0, 1) := by decide +kernel
theorem dL_law_379 : decode cL_law 379 = .ok (.iload_n 3, 1) := by decide +kernel
theorem dL_law_380 : decode cL_law 380 = .ok (.iconst 4, 1) := by decide +kernel
theorem dL_law_381 : decode cL_law 381 = .ok (.iadd, 1) := by decide +kernel
theorem dL_law_382 : decode cL_law 382 = .ok (.iaload, 1) := by decide +kernel
theorem dL_law_383 : decode cL_law 383 = .ok (.invokevirtual 35, 3) := by decide +kernel
theorem m_361 : Cond.code yX12_paper_ cX12_paper_ 7 (some .int) ∈ BW := List.mem_of_getElem? (i := 361) (by decide +kernel)
theorem m_358 : Cond.methodLink RL 35 yX12_paper_ ∈ BW := List.mem_of_getElem? (i := 358) (by decide +kernel)
theorem m_359 : Cond.instanceMethod yX12_paper_ ∈ BW := List.mem_of_getElem? (i := 359) (by decide +kernel)
theorem m_360 : Cond.selects RX12 yX12_paper_ yX12_paper_ ∈ BW := List.mem_of_getElem? (i := 360) (by decide +kernel)
theorem si_L_35 : SV RL RX12 35 yX12_paper_ cX12_paper_ 7 (some .int) 4 := ⟨⟨m_358, m_359, m_360, m_5, m_361⟩, rfl, by decide +kernel, by decide +kernel, by decide +kernel⟩
theorem dL_law_386 : decode cL_law 386 = .ok (.if_icmp .eq 1332, 3) := by decide +kernel
theorem dL_law_391 : decode cL_law 391 = .ok (.aload_n 1, 1) := by decide +kernel
theorem dL_law_392 : decode cL_law 392 = .ok (.aload_n 0, 1) := by decide +kernel
theorem dL_law_393 : decode cL_law 393 = .ok (.iload_n 3, 1) := by decide +kernel
theorem dL_law_394 : decode cL_law 394 = .ok (.iconst 1, 1) := by decide +kernel
theorem dL_law_395 : decode cL_law 395 = .ok (.iadd, 1) := by decide +kernel
theorem dL_law_396 : decode cL_law 396 = .ok (.iaload, 1) := by decide +kernel
theorem dL_law_397 : decode cL_law 397 = .ok (.invokevirtual 36, 3) := by decide +kernel
theorem m_365 : Cond.code yX11_lose cX11_lose 2 (some .int) ∈ BW := List.mem_of_getElem? (i := 365) (by decide +kernel)
theorem m_362 : Cond.methodLink RL 36 yX11_lose ∈ BW := List.mem_of_getElem? (i := 362) (by decide +kernel)
theorem m_363 : Cond.instanceMethod yX11_lose ∈ BW := List.mem_of_getElem? (i := 363) (by decide +kernel)
theorem m_364 : Cond.selects RX11 yX11_lose yX11_lose ∈ BW := List.mem_of_getElem? (i := 364) (by decide +kernel)
theorem si_L_36 : SV RL RX11 36 yX11_lose cX11_lose 2 (some .int) 1 := ⟨⟨m_362, m_363, m_364, m_2, m_365⟩, rfl, by decide +kernel, by decide +kernel, by decide +kernel⟩
theorem dL_law_400 : decode cL_law 400 = .ok (.aload_n 2, 1) := by decide +kernel
theorem dL_law_401 : decode cL_law 401 = .ok (.aload_n 0, 1) := by decide +kernel
theorem dL_law_402 : decode cL_law 402 = .ok (.iload_n 3, 1) := by decide +kernel
theorem dL_law_403 : decode cL_law 403 = .ok (.iconst 1, 1) := by decide +kernel
theorem dL_law_404 : decode cL_law 404 = .ok (.iadd, 1) := by decide +kernel
theorem dL_law_405 : decode cL_law 405 = .ok (.iaload, 1) := by decide +kernel
theorem dL_law_406 : decode cL_law 406 = .ok (.invokevirtual 39, 3) := by decide +kernel
theorem m_369 : Cond.code yX12_lose cX12_lose 2 (some .int) ∈ BW := List.mem_of_getElem? (i := 369) (by decide +kernel)
theorem m_366 : Cond.methodLink RL 39 yX12_lose ∈ BW := List.mem_of_getElem? (i := 366) (by decide +kernel)
theorem m_367 : Cond.instanceMethod yX12_lose ∈ BW := List.mem_of_getElem? (i := 367) (by decide +kernel)
theorem m_368 : Cond.selects RX12 yX12_lose yX12_lose ∈ BW := List.mem_of_getElem? (i := 368) (by decide +kernel)
theorem si_L_39 : SV RL RX12 39 yX12_lose cX12_lose 2 (some .int) 1 := ⟨⟨m_366, m_367, m_368, m_5, m_369⟩, rfl, by decide +kernel, by decide +kernel, by decide +kernel⟩
theorem dL_law_409 : decode cL_law 409 = .ok (.if_icmp .eq 1309, 3) := by decide +kernel
theorem dL_law_414 : decode cL_law 414 = .ok (.aload_n 1, 1) := by decide +kernel
theorem dL_law_415 : decode cL_law 415 = .ok (.aload_n 0, 1) := by decide +kernel
theorem dL_law_416 : decode cL_law 416 = .ok (.iload_n 3, 1) := by decide +kernel
theorem dL_law_417 : decode cL_law 417 = .ok (.iconst 1, 1) := by decide +kernel
theorem dL_law_418 : decode cL_law 418 = .ok (.iadd, 1) := by decide +kernel
theorem dL_law_419 : decode cL_law 419 = .ok (.iaload, 1) := by decide +kernel
theorem dL_law_420 : decode cL_law 420 = .ok (.aload_n 0, 1) := by decide +kernel
theorem dL_law_421 : decode cL_law 421 = .ok (.iload_n 3, 1) := by decide +kernel
theorem dL_law_422 : decode cL_law 422 = .ok (.iconst 2, 1) := by decide +kernel
theorem dL_law_423 : decode cL_law 423 = .ok (.iadd, 1) := by decide +kernel
theorem dL_law_424 : decode cL_law 424 = .ok (.iaload, 1) := by decide +kernel
theorem dL_law_425 : decode cL_law 425 = .ok (.invokevirtual 40, 3) := by decide +kernel
theorem m_373 : Cond.code yX11_paperOf cX11_paperOf 3 (some .int) ∈ BW := List.mem_of_getElem? (i := 373) (by decide +kernel)
theorem m_370 : Cond.methodLink RL 40 yX11_paperOf ∈ BW := List.mem_of_getElem? (i := 370) (by decide +kernel)
theorem m_371 : Cond.instanceMethod yX11_paperOf ∈ BW := List.mem_of_getElem? (i := 371) (by decide +kernel)
theorem m_372 : Cond.selects RX11 yX11_paperOf yX11_paperOf ∈ BW := List.mem_of_getElem? (i := 372) (by decide +kernel)
theorem si_L_40 : SV RL RX11 40 yX11_paperOf cX11_paperOf 3 (some .int) 2 := ⟨⟨m_370, m_371, m_372, m_2, m_373⟩, rfl, by decide +kernel, by decide +kernel, by decide +kernel⟩
theorem dL_law_428 : decode cL_law 428 = .ok (.aload_n 2, 1) := by decide +kernel
theorem dL_law_429 : decode cL_law 429 = .ok (.aload_n 0, 1) := by decide +kernel
theorem dL_law_430 : decode cL_law 430 = .ok (.iload_n 3, 1) := by decide +kernel
theorem dL_law_431 : decode cL_law 431 = .ok (.iconst 1, 1) := by decide +kernel
theorem dL_law_432 : decode cL_law 432 = .ok (.iadd, 1) := by decide +kernel
theorem dL_law_433 : decode cL_law 433 = .ok (.iaload, 1) := by decide +kernel
theorem dL_law_434 : decode cL_law 434 = .ok (.aload_n 0, 1) := by decide +kernel
theorem dL_law_435 : decode cL_law 435 = .ok (.iload_n 3, 1) := by decide +kernel
theorem dL_law_436 : decode cL_law 436 = .ok (.iconst 2, 1) := by decide +kernel
theorem dL_law_437 : decode cL_law 437 = .ok (.iadd, 1) := by decide +kernel
theorem dL_law_438 : decode cL_law 438 = .ok (.iaload, 1) := by decide +kernel
theorem dL_law_439 : decode cL_law 439 = .ok (.invokevirtual 43, 3) := by decide +kernel
theorem m_382 : Cond.code yX12_paperOf cX12_paperOf 3 (some .int) ∈ BW := List.mem_of_getElem? (i := 382) (by decide +kernel)
theorem m_379 : Cond.methodLink RL 43 yX12_paperOf ∈ BW := List.mem_of_getElem? (i := 379) (by decide +kernel)
theorem m_380 : Cond.instanceMethod yX12_paperOf ∈ BW := List.mem_of_getElem? (i := 380) (by decide +kernel)
theorem m_381 : Cond.selects RX12 yX12_paperOf yX12_paperOf ∈ BW := List.mem_of_getElem? (i := 381) (by decide +kernel)
theorem si_L_43 : SV RL RX12 43 yX12_paperOf cX12_paperOf 3 (some .int) 2 := ⟨⟨m_379, m_380, m_381, m_5, m_382⟩, rfl, by decide +kernel, by decide +kernel, by decide +kernel⟩
theorem dL_law_442 : decode cL_law 442 = .ok (.if_icmp .eq 1276, 3) := by decide +kernel
theorem dL_law_447 : decode cL_law 447 = .ok (.aload_n 1, 1) := by decide +kernel
theorem dL_law_448 : decode cL_law 448 = .ok (.aload_n 0, 1) := by decide +kernel
theorem dL_law_449 : decode cL_law 449 = .ok (.iload_n 3, 1) := by decide +kernel
theorem dL_law_450 : decode cL_law 450 = .ok (.iconst 1, 1) := by decide +kernel
theorem dL_law_451 : decode cL_law 451 = .ok (.iadd, 1) := by decide +kernel
theorem dL_law_452 : decode cL_law 452 = .ok (.iaload, 1) := by decide +kernel
theorem dL_law_453 : decode cL_law 453 = .ok (.aload_n 0, 1) := by decide +kernel
theorem dL_law_454 : decode cL_law 454 = .ok (.iload_n 3, 1) := by decide +kernel
theorem dL_law_455 : decode cL_law 455 = .ok (.iconst 2, 1) := by decide +kernel
theorem dL_law_456 : decode cL_law 456 = .ok (.iadd, 1) := by decide +kernel
theorem dL_law_457 : decode cL_law 457 = .ok (.iaload, 1) := by decide +kernel
theorem dL_law_458 : decode cL_law 458 = .ok (.aload_n 0, 1) := by decide +kernel
theorem dL_law_459 : decode cL_law 459 = .ok (.iload_n 3, 1) := by decide +kernel
theorem dL_law_460 : decode cL_law 460 = .ok (.iconst 3, 1) := by decide +kernel
theorem dL_law_461 : decode cL_law 461 = .ok (.iadd, 1) := by decide +kernel
theorem dL_law_462 : decode cL_law 462 = .ok (.iaload, 1) := by decide +kernel
theorem dL_law_463 : decode cL_law 463 = .ok (.invokevirtual 44, 3) := by decide +kernel
theorem m_390 : Cond.code yX11_stamp cX11_stamp 4 (some .int) ∈ BW := List.mem_of_getElem? (i := 390) (by decide +kernel)
theorem m_387 : Cond.methodLink RL 44 yX11_stamp ∈ BW := List.mem_of_getElem? (i := 387) (by decide +kernel)
theorem m_388 : Cond.instanceMethod yX11_stamp ∈ BW := List.mem_of_getElem? (i := 388) (by decide +kernel)
theorem m_389 : Cond.selects RX11 yX11_stamp yX11_stamp ∈ BW := List.mem_of_getElem? (i := 389) (by decide +kernel)
theorem si_L_44 : SV RL RX11 44 yX11_stamp cX11_stamp 4 (some .int) 3 := ⟨⟨m_387, m_388, m_389, m_2, m_390⟩, rfl, by decide +kernel, by decide +kernel, by decide +kernel⟩
theorem dL_law_466 : decode cL_law 466 = .ok (.aload_n 2, 1) := by decide +kernel
theorem dL_law_467 : decode cL_law 467 = .ok (.aload_n 0, 1) := by decide +kernel
theorem dL_law_468 : decode cL_law 468 = .ok (.iload_n 3, 1) := by decide +kernel
theorem dL_law_469 : decode cL_law 469 = .ok (.iconst 1, 1) := by decide +kernel
theorem dL_law_470 : decode cL_law 470 = .ok (.iadd, 1) := by decide +kernel
theorem dL_law_471 : decode cL_law 471 = .ok (.iaload, 1) := by decide +kernel
theorem dL_law_472 : decode cL_law 472 = .ok (.aload_n 0, 1) := by decide +kernel
theorem dL_law_473 : decode cL_law 473 = .ok (.iload_n 3, 1) := by decide +kernel
theorem dL_law_474 : decode cL_law 474 = .ok (.iconst 2, 1) := by decide +kernel
theorem dL_law_475 : decode cL_law 475 = .ok (.iadd, 1) := by decide +kernel
theorem dL_law_476 : decode cL_law 476 = .ok (.iaload, 1) := by decide +kernel
theorem dL_law_477 : decode cL_law 477 = .ok (.aload_n 0, 1) := by decide +kernel
theorem dL_law_478 : decode cL_law 478 = .ok (.iload_n 3, 1) := by decide +kernel
theorem dL_law_479 : decode cL_law 479 = .ok (.iconst 3, 1) := by decide +kernel
theorem dL_law_480 : decode cL_law 480 = .ok (.iadd, 1) := by decide +kernel
theorem dL_law_481 : decode cL_law 481 = .ok (.iaload, 1) := by decide +kernel
theorem dL_law_482 : decode cL_law 482 = .ok (.invokevirtual 48, 3) := by decide +kernel
theorem m_403 : Cond.code yX12_stamp cX12_stamp 4 (some .int) ∈ BW := List.mem_of_getElem? (i := 403) (by decide +kernel)
theorem m_400 : Cond.methodLink RL 48 yX12_stamp ∈ BW := List.mem_of_getElem? (i := 400) (by decide +kernel)
theorem m_401 : Cond.instanceMethod yX12_stamp ∈ BW := List.mem_of_getElem? (i := 401) (by decide +kernel)
theorem m_402 : Cond.selects RX12 yX12_stamp yX12_stamp ∈ BW := List.mem_of_getElem? (i := 402) (by decide +kernel)
theorem si_L_48 : SV RL RX12 48 yX12_stamp cX12_stamp 4 (some .int) 3 := ⟨⟨m_400, m_401, m_402, m_5, m_403⟩, rfl, by decide +kernel, by decide +kernel, by decide +kernel⟩
theorem dL_law_485 : decode cL_law 485 = .ok (.if_icmp .eq 1233, 3) := by decide +kernel
theorem dL_law_490 : decode cL_law 490 = .ok (.aload_n 1, 1) := by decide +kernel
theorem dL_law_491 : decode cL_law 491 = .ok (.aload_n 0, 1) := by decide +kernel
theorem dL_law_492 : decode cL_law 492 = .ok (.iload_n 3, 1) := by decide +kernel
theorem dL_law_493 : decode cL_law 493 = .ok (.iconst 1, 1) := by decide +kernel
theorem dL_law_494 : decode cL_law 494 = .ok (.iadd, 1) := by decide +kernel
theorem dL_law_495 : decode cL_law 495 = .ok (.iaload, 1) := by decide +kernel
theorem dL_law_496 : decode cL_law 496 = .ok (.aload_n 0, 1) := by decide +kernel
theorem dL_law_497 : decode cL_law 497 = .ok (.iload_n 3, 1) := by decide +kernel
theorem dL_law_498 : decode cL_law 498 = .ok (.iconst 2, 1) := by decide +kernel
theorem dL_law_499 : decode cL_law 499 = .ok (.iadd, 1) := by decide +kernel
theorem dL_law_500 : decode cL_law 500 = .ok (.iaload, 1) := by decide +kernel
theorem dL_law_501 : decode cL_law 501 = .ok (.aload_n 0, 1) := by decide +kernel
theorem dL_law_502 : decode cL_law 502 = .ok (.iload_n 3, 1) := by decide +kernel
theorem dL_law_503 : decode cL_law 503 = .ok (.iconst 3, 1) := by decide +kernel
theorem dL_law_504 : decode cL_law 504 = .ok (.iadd, 1) := by decide +kernel
theorem dL_law_505 : decode cL_law 505 = .ok (.iaload, 1) := by decide +kernel
theorem dL_law_506 : decode cL_law 506 = .ok (.aload_n 0, 1) := by decide +kernel
theorem dL_law_507 : decode cL_law 507 = .ok (.iload_n 3, 1) := by decide +kernel
theorem dL_law_508 : decode cL_law 508 = .ok (.iconst 4, 1) := by decide +kernel
theorem dL_law_509 : decode cL_law 509 = .ok (.iadd, 1) := by decide +kernel
theorem dL_law_510 : decode cL_law 510 = .ok (.iaload, 1) := by decide +kernel
theorem dL_law_511 : decode cL_law 511 = .ok (.invokevirtual 49, 3) := by decide +kernel
theorem m_411 : Cond.code yX11_stamps cX11_stamps 7 (some .int) ∈ BW := List.mem_of_getElem? (i := 411) (by decide +kernel)
theorem m_408 : Cond.methodLink RL 49 yX11_stamps ∈ BW := List.mem_of_getElem? (i := 408) (by decide +kernel)
theorem m_409 : Cond.instanceMethod yX11_stamps ∈ BW := List.mem_of_getElem? (i := 409) (by decide +kernel)
theorem m_410 : Cond.selects RX11 yX11_stamps yX11_stamps ∈ BW := List.mem_of_getElem? (i := 410) (by decide +kernel)
theorem si_L_49 : SV RL RX11 49 yX11_stamps cX11_stamps 7 (some .int) 4 := ⟨⟨m_408, m_409, m_410, m_2, m_411⟩, rfl, by decide +kernel, by decide +kernel, by decide +kernel⟩
theorem dL_law_514 : decode cL_law 514 = .ok (.aload_n 2, 1) := by decide +kernel
theorem dL_law_515 : decode cL_law 515 = .ok (.aload_n 0, 1) := by decide +kernel
theorem dL_law_516 : decode cL_law 516 = .ok (.iload_n 3, 1) := by decide +kernel
theorem dL_law_517 : decode cL_law 517 = .ok (.iconst 1, 1) := by decide +kernel
theorem dL_law_518 : decode cL_law 518 = .ok (.iadd, 1) := by decide +kernel
theorem dL_law_519 : decode cL_law 519 = .ok (.iaload, 1) := by decide +kernel
theorem dL_law_520 : decode cL_law 520 = .ok (.aload_n 0, 1) := by decide +kernel
theorem dL_law_521 : decode cL_law 521 = .ok (.iload_n 3, 1) := by decide +kernel
theorem dL_law_522 : decode cL_law 522 = .ok (.iconst 2, 1) := by decide +kernel
theorem dL_law_523 : decode cL_law 523 = .ok (.iadd, 1) := by decide +kernel
theorem dL_law_524 : decode cL_law 524 = .ok (.iaload, 1) := by decide +kernel
theorem dL_law_525 : decode cL_law 525 = .ok (.aload_n 0, 1) := by decide +kernel
theorem dL_law_526 : decode cL_law 526 = .ok (.iload_n 3, 1) := by decide +kernel
theorem dL_law_527 : decode cL_law 527 = .ok (.iconst 3, 1) := by decide +kernel
theorem dL_law_528 : decode cL_law 528 = .ok (.iadd, 1) := by decide +kernel
theorem dL_law_529 : decode cL_law 529 = .ok (.iaload, 1) := by decide +kernel
theorem dL_law_530 : decode cL_law 530 = .ok (.aload_n 0, 1) := by decide +kernel
theorem dL_law_531 : decode cL_law 531 = .ok (.iload_n 3, 1) := by decide +kernel
theorem dL_law_532 : decode cL_law 532 = .ok (.iconst 4, 1) := by decide +kernel
theorem dL_law_533 : decode cL_law 533 = .ok (.iadd, 1) := by decide +kernel
theorem dL_law_534 : decode cL_law 534 = .ok (.iaload, 1) := by decide +kernel
theorem dL_law_535 : decode cL_law 535 = .ok (.invokevirtual 52, 3) := by decide +kernel
theorem m_435 : Cond.code yX12_stamps cX12_stamps 9 (some .int) ∈ BW := List.mem_of_getElem? (i := 435) (by decide +kernel)
theorem m_432 : Cond.methodLink RL 52 yX12_stamps ∈ BW := List.mem_of_getElem? (i := 432) (by decide +kernel)
theorem m_433 : Cond.instanceMethod yX12_stamps ∈ BW := List.mem_of_getElem? (i := 433) (by decide +kernel)
theorem m_434 : Cond.selects RX12 yX12_stamps yX12_stamps ∈ BW := List.mem_of_getElem? (i := 434) (by decide +kernel)
theorem si_L_52 : SV RL RX12 52 yX12_stamps cX12_stamps 9 (some .int) 4 := ⟨⟨m_432, m_433, m_434, m_5, m_435⟩, rfl, by decide +kernel, by decide +kernel, by decide +kernel⟩
theorem dL_law_538 : decode cL_law 538 = .ok (.if_icmp .eq 1180, 3) := by decide +kernel
theorem dL_law_543 : decode cL_law 543 = .ok (.aload_n 1, 1) := by decide +kernel
theorem dL_law_544 : decode cL_law 544 = .ok (.aload_n 0, 1) := by decide +kernel
theorem dL_law_545 : decode cL_law 545 = .ok (.iload_n 3, 1) := by decide +kernel
theorem dL_law_546 : decode cL_law 546 = .ok (.iconst 1, 1) := by decide +kernel
theorem dL_law_547 : decode cL_law 547 = .ok (.iadd, 1) := by decide +kernel
theorem dL_law_548 : decode cL_law 548 = .ok (.iaload, 1) := by decide +kernel
theorem dL_law_549 : decode cL_law 549 = .ok (.invokevirtual 53, 3) := by decide +kernel
theorem m_443 : Cond.code yX11_gap cX11_gap 3 (some .int) ∈ BW := List.mem_of_getElem? (i := 443) (by decide +kernel)
theorem m_440 : Cond.methodLink RL 53 yX11_gap ∈ BW := List.mem_of_getElem? (i := 440) (by decide +kernel)
theorem m_441 : Cond.instanceMethod yX11_gap ∈ BW := List.mem_of_getElem? (i := 441) (by decide +kernel)
theorem m_442 : Cond.selects RX11 yX11_gap yX11_gap ∈ BW := List.mem_of_getElem? (i := 442) (by decide +kernel)
theorem si_L_53 : SV RL RX11 53 yX11_gap cX11_gap 3 (some .int) 1 := ⟨⟨m_440, m_441, m_442, m_2, m_443⟩, rfl, by decide +kernel, by decide +kernel, by decide +kernel⟩
theorem dL_law_552 : decode cL_law 552 = .ok (.aload_n 2, 1) := by decide +kernel
theorem dL_law_553 : decode cL_law 553 = .ok (.aload_n 0, 1) := by decide +kernel
theorem dL_law_554 : decode cL_law 554 = .ok (.iload_n 3, 1) := by decide +kernel
theorem dL_law_555 : decode cL_law 555 = .ok (.iconst 1, 1) := by decide +kernel
theorem dL_law_556 : decode cL_law 556 = .ok (.iadd, 1) := by decide +kernel
theorem dL_law_557 : decode cL_law 557 = .ok (.iaload, 1) := by decide +kernel
theorem dL_law_558 : decode cL_law 558 = .ok (.invokevirtual 56, 3) := by decide +kernel
theorem m_447 : Cond.code yX12_gap cX12_gap 3 (some .int) ∈ BW := List.mem_of_getElem? (i := 447) (by decide +kernel)
theorem m_444 : Cond.methodLink RL 56 yX12_gap ∈ BW := List.mem_of_getElem? (i := 444) (by decide +kernel)
theorem m_445 : Cond.instanceMethod yX12_gap ∈ BW := List.mem_of_getElem? (i := 445) (by decide +kernel)
theorem m_446 : Cond.selects RX12 yX12_gap yX12_gap ∈ BW := List.mem_of_getElem? (i := 446) (by decide +kernel)
theorem si_L_56 : SV RL RX12 56 yX12_gap cX12_gap 3 (some .int) 1 := ⟨⟨m_444, m_445, m_446, m_5, m_447⟩, rfl, by decide +kernel, by decide +kernel, by decide +kernel⟩
theorem dL_law_561 : decode cL_law 561 = .ok (.if_icmp .eq 1157, 3) := by decide +kernel
theorem dL_law_566 : decode cL_law 566 = .ok (.aload_n 1, 1) := by decide +kernel
theorem dL_law_567 : decode cL_law 567 = .ok (.aload_n 0, 1) := by decide +kernel
theorem dL_law_568 : decode cL_law 568 = .ok (.iload_n 3, 1) := by decide +kernel
theorem dL_law_569 : decode cL_law 569 = .ok (.iconst 1, 1) := by decide +kernel
theorem dL_law_570 : decode cL_law 570 = .ok (.iadd, 1) := by decide +kernel
theorem dL_law_571 : decode cL_law 571 = .ok (.iaload, 1) := by decide +kernel
theorem dL_law_572 : decode cL_law 572 = .ok (.invokevirtual 57, 3) := by decide +kernel
theorem m_451 : Cond.code yX11_clash cX11_clash 2 (some .int) ∈ BW := List.mem_of_getElem? (i := 451) (by decide +kernel)
theorem m_448 : Cond.methodLink RL 57 yX11_clash ∈ BW := List.mem_of_getElem? (i := 448) (by decide +kernel)
theorem m_449 : Cond.instanceMethod yX11_clash ∈ BW := List.mem_of_getElem? (i := 449) (by decide +kernel)
theorem m_450 : Cond.selects RX11 yX11_clash yX11_clash ∈ BW := List.mem_of_getElem? (i := 450) (by decide +kernel)
theorem si_L_57 : SV RL RX11 57 yX11_clash cX11_clash 2 (some .int) 1 := ⟨⟨m_448, m_449, m_450, m_2, m_451⟩, rfl, by decide +kernel, by decide +kernel, by decide +kernel⟩
theorem dL_law_575 : decode cL_law 575 = .ok (.aload_n 2, 1) := by decide +kernel
theorem dL_law_576 : decode cL_law 576 = .ok (.aload_n 0, 1) := by decide +kernel
theorem dL_law_577 : decode cL_law 577 = .ok (.iload_n 3, 1) := by decide +kernel
theorem dL_law_578 : decode cL_law 578 = .ok (.iconst 1, 1) := by decide +kernel
theorem dL_law_579 : decode cL_law 579 = .ok (.iadd, 1) := by decide +kernel
theorem dL_law_580 : decode cL_law 580 = .ok (.iaload, 1) := by decide +kernel
theorem dL_law_581 : decode cL_law 581 = .ok (.invokevirtual 60, 3) := by decide +kernel
theorem m_519 : Cond.code yX12_clash cX12_clash 2 (some .int) ∈ BW := List.mem_of_getElem? (i := 519) (by decide +kernel)
theorem m_516 : Cond.methodLink RL 60 yX12_clash ∈ BW := List.mem_of_getElem? (i := 516) (by decide +kernel)
theorem m_517 : Cond.instanceMethod yX12_clash ∈ BW := List.mem_of_getElem? (i := 517) (by decide +kernel)
theorem m_518 : Cond.selects RX12 yX12_clash yX12_clash ∈ BW := List.mem_of_getElem? (i := 518) (by decide +kernel)
theorem si_L_60 : SV RL RX12 60 yX12_clash cX12_clash 2 (some .int) 1 := ⟨⟨m_516, m_517, m_518, m_5, m_519⟩, rfl, by decide +kernel, by decide +kernel, by decide +kernel⟩
theorem dL_law_584 : decode cL_law 584 = .ok (.if_icmp .eq 1134, 3) := by decide +kernel
theorem dL_law_589 : decode cL_law 589 = .ok (.aload_n 1, 1) := by decide +kernel
theorem dL_law_590 : decode cL_law 590 = .ok (.aload_n 0, 1) := by decide +kernel
theorem dL_law_591 : decode cL_law 591 = .ok (.iload_n 3, 1) := by decide +kernel
theorem dL_law_592 : decode cL_law 592 = .ok (.iconst 1, 1) := by decide +kernel
theorem dL_law_593 : decode cL_law 593 = .ok (.iadd, 1) := by decide +kernel
theorem dL_law_594 : decode cL_law 594 = .ok (.iaload, 1) := by decide +kernel
theorem dL_law_595 : decode cL_law 595 = .ok (.aload_n 0, 1) := by decide +kernel
theorem dL_law_596 : decode cL_law 596 = .ok (.iload_n 3, 1) := by decide +kernel
theorem dL_law_597 : decode cL_law 597 = .ok (.iconst 2, 1) := by decide +kernel
theorem dL_law_598 : decode cL_law 598 = .ok (.iadd, 1) := by decide +kernel
theorem dL_law_599 : decode cL_law 599 = .ok (.iaload, 1) := by decide +kernel
theorem dL_law_600 : decode cL_law 600 = .ok (.ifCond .eq 7, 3) := by decide +kernel
theorem dL_law_607 : decode cL_law 607 = .ok (.iconst 0, 1) := by decide +kernel
theorem dL_law_608 : decode cL_law 608 = .ok (.invokevirtual 61, 3) := by decide +kernel
theorem m_540 : Cond.code yX11_span cX11_span 3 (some .int) ∈ BW := List.mem_of_getElem? (i := 540) (by decide +kernel)
theorem m_537 : Cond.methodLink RL 61 yX11_span ∈ BW := List.mem_of_getElem? (i := 537) (by decide +kernel)
theorem m_538 : Cond.instanceMethod yX11_span ∈ BW := List.mem_of_getElem? (i := 538) (by decide +kernel)
theorem m_539 : Cond.selects RX11 yX11_span yX11_span ∈ BW := List.mem_of_getElem? (i := 539) (by decide +kernel)
theorem si_L_61 : SV RL RX11 61 yX11_span cX11_span 3 (some .int) 2 := ⟨⟨m_537, m_538, m_539, m_2, m_540⟩, rfl, by decide +kernel, by decide +kernel, by decide +kernel⟩
theorem dL_law_611 : decode cL_law 611 = .ok (.aload_n 2, 1) := by decide +kernel
theorem dL_law_612 : decode cL_law 612 = .ok (.aload_n 0, 1) := by decide +kernel
theorem dL_law_613 : decode cL_law 613 = .ok (.iload_n 3, 1) := by decide +kernel
theorem dL_law_614 : decode cL_law 614 = .ok (.iconst 1, 1) := by decide +kernel
theorem dL_law_615 : decode cL_law 615 = .ok (.iadd, 1) := by decide +kernel
theorem dL_law_616 : decode cL_law 616 = .ok (.iaload, 1) := by decide +kernel
theorem dL_law_617 : decode cL_law 617 = .ok (.aload_n 0, 1) := by decide +kernel
theorem dL_law_618 : decode cL_law 618 = .ok (.iload_n 3, 1) := by decide +kernel
theorem dL_law_619 : decode cL_law 619 = .ok (.iconst 2, 1) := by decide +kernel
theorem dL_law_620 : decode cL_law 620 = .ok (.iadd, 1) := by decide +kernel
theorem dL_law_621 : decode cL_law 621 = .ok (.iaload, 1) := by decide +kernel
theorem dL_law_622 : decode cL_law 622 = .ok (.ifCond .eq 7, 3) := by decide +kernel
theorem dL_law_629 : decode cL_law 629 = .ok (.iconst 0, 1) := by decide +kernel
theorem dL_law_630 : decode cL_law 630 = .ok (.invokevirtual 65, 3) := by decide +kernel
theorem m_548 : Cond.code yX12_span cX12_span 3 (some .int) ∈ BW := List.mem_of_getElem? (i := 548) (by decide +kernel)
theorem m_545 : Cond.methodLink RL 65 yX12_span ∈ BW := List.mem_of_getElem? (i := 545) (by decide +kernel)
theorem m_546 : Cond.instanceMethod yX12_span ∈ BW := List.mem_of_getElem? (i := 546) (by decide +kernel)
theorem m_547 : Cond.selects RX12 yX12_span yX12_span ∈ BW := List.mem_of_getElem? (i := 547) (by decide +kernel)
theorem si_L_65 : SV RL RX12 65 yX12_span cX12_span 3 (some .int) 2 := ⟨⟨m_545, m_546, m_547, m_5, m_548⟩, rfl, by decide +kernel, by decide +kernel, by decide +kernel⟩
theorem dL_law_633 : decode cL_law 633 = .ok (.if_icmp .eq 1085, 3) := by decide +kernel
theorem dL_law_603 : decode cL_law 603 = .ok (.iconst 1, 1) := by decide +kernel
theorem dL_law_604 : decode cL_law 604 = .ok (.goto 4, 3) := by decide +kernel
theorem dL_law_625 : decode cL_law 625 = .ok (.iconst 1, 1) := by decide +kernel
theorem dL_law_626 : decode cL_law 626 = .ok (.goto 4, 3) := by decide +kernel
theorem dL_law_638 : decode cL_law 638 = .ok (.aload_n 1, 1) := by decide +kernel
theorem dL_law_639 : decode cL_law 639 = .ok (.aload_n 0, 1) := by decide +kernel
theorem dL_law_640 : decode cL_law 640 = .ok (.iload_n 3, 1) := by decide +kernel
theorem dL_law_641 : decode cL_law 641 = .ok (.iconst 1, 1) := by decide +kernel
theorem dL_law_642 : decode cL_law 642 = .ok (.iadd, 1) := by decide +kernel
theorem dL_law_643 : decode cL_law 643 = .ok (.iaload, 1) := by decide +kernel
theorem dL_law_644 : decode cL_law 644 = .ok (.aload_n 0, 1) := by decide +kernel
theorem dL_law_645 : decode cL_law 645 = .ok (.iload_n 3, 1) := by decide +kernel
theorem dL_law_646 : decode cL_law 646 = .ok (.iconst 2, 1) := by decide +kernel
theorem dL_law_647 : decode cL_law 647 = .ok (.iadd, 1) := by decide +kernel
theorem dL_law_648 : decode cL_law 648 = .ok (.iaload, 1) := by decide +kernel
theorem dL_law_649 : decode cL_law 649 = .ok (.ifCond .eq 7, 3) := by decide +kernel
theorem dL_law_656 : decode cL_law 656 = .ok (.iconst 0, 1) := by decide +kernel
theorem dL_law_657 : decode cL_law 657 = .ok (.invokevirtual 66, 3) := by decide +kernel
theorem m_560 : Cond.code yX11_sent cX11_sent 3 (some .int) ∈ BW := List.mem_of_getElem? (i := 560) (by decide +kernel)
theorem m_557 : Cond.methodLink RL 66 yX11_sent ∈ BW := List.mem_of_getElem? (i := 557) (by decide +kernel)
theorem m_558 : Cond.instanceMethod yX11_sent ∈ BW := List.mem_of_getElem? (i := 558) (by decide +kernel)
theorem m_559 : Cond.selects RX11 yX11_sent yX11_sent ∈ BW := List.mem_of_getElem? (i := 559) (by decide +kernel)
theorem si_L_66 : SV RL RX11 66 yX11_sent cX11_sent 3 (some .int) 2 := ⟨⟨m_557, m_558, m_559, m_2, m_560⟩, rfl, by decide +kernel, by decide +kernel, by decide +kernel⟩
theorem dL_law_660 : decode cL_law 660 = .ok (.aload_n 2, 1) := by decide +kernel
theorem dL_law_661 : decode cL_law 661 = .ok (.aload_n 0, 1) := by decide +kernel
theorem dL_law_662 : decode cL_law 662 = .ok (.iload_n 3, 1) := by decide +kernel
theorem dL_law_663 : decode cL_law 663 = .ok (.iconst 1, 1) := by decide +kernel
theorem dL_law_664 : decode cL_law 664 = .ok (.iadd, 1) := by decide +kernel
theorem dL_law_665 : decode cL_law 665 = .ok (.iaload, 1) := by decide +kernel
theorem dL_law_666 : decode cL_law 666 = .ok (.aload_n 0, 1) := by decide +kernel
theorem dL_law_667 : decode cL_law 667 = .ok (.iload_n 3, 1) := by decide +kernel
theorem dL_law_668 : decode cL_law 668 = .ok (.iconst 2, 1) := by decide +kernel
theorem dL_law_669 : decode cL_law 669 = .ok (.iadd, 1) := by decide +kernel
theorem dL_law_670 : decode cL_law 670 = .ok (.iaload, 1) := by decide +kernel
theorem dL_law_671 : decode cL_law 671 = .ok (.ifCond .eq 7, 3) := by decide +kernel
theorem dL_law_678 : decode cL_law 678 = .ok (.iconst 0, 1) := by decide +kernel
theorem dL_law_679 : decode cL_law 679 = .ok (.invokevirtual 69, 3) := by decide +kernel
theorem m_573 : Cond.code yX12_sent cX12_sent 3 (some .int) ∈ BW := List.mem_of_getElem? (i := 573) (by decide +kernel)
theorem m_570 : Cond.methodLink RL 69 yX12_sent ∈ BW := List.mem_of_getElem? (i := 570) (by decide +kernel)
theorem m_571 : Cond.instanceMethod yX12_sent ∈ BW := List.mem_of_getElem? (i := 571) (by decide +kernel)
theorem m_572 : Cond.selects RX12 yX12_sent yX12_sent ∈ BW := List.mem_of_getElem? (i := 572) (by decide +kernel)
theorem si_L_69 : SV RL RX12 69 yX12_sent cX12_sent 3 (some .int) 2 := ⟨⟨m_570, m_571, m_572, m_5, m_573⟩, rfl, by decide +kernel, by decide +kernel, by decide +kernel⟩
theorem dL_law_682 : decode cL_law 682 = .ok (.if_icmp .eq 1036, 3) := by decide +kernel
theorem dL_law_652 : decode cL_law 652 = .ok (.iconst 1, 1) := by decide +kernel
theorem dL_law_653 : decode cL_law 653 = .ok (.goto 4, 3) := by decide +kernel
theorem dL_law_674 : decode cL_law 674 = .ok (.iconst 1, 1) := by decide +kernel
theorem dL_law_675 : decode cL_law 675 = .ok (.goto 4, 3) := by decide +kernel
theorem dL_law_687 : decode cL_law 687 = .ok (.aload_n 1, 1) := by decide +kernel
theorem dL_law_688 : decode cL_law 688 = .ok (.aload_n 0, 1) := by decide +kernel
theorem dL_law_689 : decode cL_law 689 = .ok (.iload_n 3, 1) := by decide +kernel
theorem dL_law_690 : decode cL_law 690 = .ok (.iconst 1, 1) := by decide +kernel
theorem dL_law_691 : decode cL_law 691 = .ok (.iadd, 1) := by decide +kernel
theorem dL_law_692 : decode cL_law 692 = .ok (.iaload, 1) := by decide +kernel
theorem dL_law_693 : decode cL_law 693 = .ok (.aload_n 0, 1) := by decide +kernel
theorem dL_law_694 : decode cL_law 694 = .ok (.iload_n 3, 1) := by decide +kernel
theorem dL_law_695 : decode cL_law 695 = .ok (.iconst 2, 1) := by decide +kernel
theorem dL_law_696 : decode cL_law 696 = .ok (.iadd, 1) := by decide +kernel
theorem dL_law_697 : decode cL_law 697 = .ok (.iaload, 1) := by decide +kernel
theorem dL_law_698 : decode cL_law 698 = .ok (.aload_n 0, 1) := by decide +kernel
theorem dL_law_699 : decode cL_law 699 = .ok (.iload_n 3, 1) := by decide +kernel
theorem dL_law_700 : decode cL_law 700 = .ok (.iconst 3, 1) := by decide +kernel
theorem dL_law_701 : decode cL_law 701 = .ok (.iadd, 1) := by decide +kernel
theorem dL_law_702 : decode cL_law 702 = .ok (.iaload, 1) := by decide +kernel
theorem dL_law_703 : decode cL_law 703 = .ok (.ifCond .eq 7, 3) := by decide +kernel
theorem dL_law_710 : decode cL_law 710 = .ok (.iconst 0, 1) := by decide +kernel
theorem dL_law_711 : decode cL_law 711 = .ok (.invokevirtual 70, 3) := by decide +kernel
theorem m_583 : Cond.code yX11_hand cX11_hand 4 (some .int) ∈ BW := List.mem_of_getElem? (i := 583) (by decide +kernel)
theorem m_580 : Cond.methodLink RL 70 yX11_hand ∈ BW := List.mem_of_getElem? (i := 580) (by decide +kernel)
theorem m_581 : Cond.instanceMethod yX11_hand ∈ BW := List.mem_of_getElem? (i := 581) (by decide +kernel)
theorem m_582 : Cond.selects RX11 yX11_hand yX11_hand ∈ BW := List.mem_of_getElem? (i := 582) (by decide +kernel)
theorem si_L_70 : SV RL RX11 70 yX11_hand cX11_hand 4 (some .int) 3 := ⟨⟨m_580, m_581, m_582, m_2, m_583⟩, rfl, by decide +kernel, by decide +kernel, by decide +kernel⟩
theorem dL_law_714 : decode cL_law 714 = .ok (.aload_n 2, 1) := by decide +kernel
theorem dL_law_715 : decode cL_law 715 = .ok (.aload_n 0, 1) := by decide +kernel
theorem dL_law_716 : decode cL_law 716 = .ok (.iload_n 3, 1) := by decide +kernel
theorem dL_law_717 : decode cL_law 717 = .ok (.iconst 1, 1) := by decide +kernel
theorem dL_law_718 : decode cL_law 718 = .ok (.iadd, 1) := by decide +kernel
theorem dL_law_719 : decode cL_law 719 = .ok (.iaload, 1) := by decide +kernel
theorem dL_law_720 : decode cL_law 720 = .ok (.aload_n 0, 1) := by decide +kernel
theorem dL_law_721 : decode cL_law 721 = .ok (.iload_n 3, 1) := by decide +kernel
theorem dL_law_722 : decode cL_law 722 = .ok (.iconst 2, 1) := by decide +kernel
theorem dL_law_723 : decode cL_law 723 = .ok (.iadd, 1) := by decide +kernel
theorem dL_law_724 : decode cL_law 724 = .ok (.iaload, 1) := by decide +kernel
theorem dL_law_725 : decode cL_law 725 = .ok (.aload_n 0, 1) := by decide +kernel
theorem dL_law_726 : decode cL_law 726 = .ok (.iload_n 3, 1) := by decide +kernel
theorem dL_law_727 : decode cL_law 727 = .ok (.iconst 3, 1) := by decide +kernel
theorem dL_law_728 : decode cL_law 728 = .ok (.iadd, 1) := by decide +kernel
theorem dL_law_729 : decode cL_law 729 = .ok (.iaload, 1) := by decide +kernel
theorem dL_law_730 : decode cL_law 730 = .ok (.ifCond .eq 7, 3) := by decide +kernel
theorem dL_law_737 : decode cL_law 737 = .ok (.iconst 0, 1) := by decide +kernel
theorem dL_law_738 : decode cL_law 738 = .ok (.invokevirtual 74, 3) := by decide +kernel
theorem m_595 : Cond.code yX12_hand cX12_hand 4 (some .int) ∈ BW := List.mem_of_getElem? (i := 595) (by decide +kernel)
theorem m_592 : Cond.methodLink RL 74 yX12_hand ∈ BW := List.mem_of_getElem? (i := 592) (by decide +kernel)
theorem m_593 : Cond.instanceMethod yX12_hand ∈ BW := List.mem_of_getElem? (i := 593) (by decide +kernel)
theorem m_594 : Cond.selects RX12 yX12_hand yX12_hand ∈ BW := List.mem_of_getElem? (i := 594) (by decide +kernel)
theorem si_L_74 : SV RL RX12 74 yX12_hand cX12_hand 4 (some .int) 3 := ⟨⟨m_592, m_593, m_594, m_5, m_595⟩, rfl, by decide +kernel, by decide +kernel, by decide +kernel⟩
theorem dL_law_741 : decode cL_law 741 = .ok (.if_icmp .eq 977, 3) := by decide +kernel
theorem dL_law_706 : decode cL_law 706 = .ok (.iconst 1, 1) := by decide +kernel
theorem dL_law_707 : decode cL_law 707 = .ok (.goto 4, 3) := by decide +kernel
theorem dL_law_733 : decode cL_law 733 = .ok (.iconst 1, 1) := by decide +kernel
theorem dL_law_734 : decode cL_law 734 = .ok (.goto 4, 3) := by decide +kernel
theorem dL_law_746 : decode cL_law 746 = .ok (.aload_n 1, 1) := by decide +kernel
theorem dL_law_747 : decode cL_law 747 = .ok (.aload_n 0, 1) := by decide +kernel
theorem dL_law_748 : decode cL_law 748 = .ok (.iload_n 3, 1) := by decide +kernel
theorem dL_law_749 : decode cL_law 749 = .ok (.iconst 1, 1) := by decide +kernel
theorem dL_law_750 : decode cL_law 750 = .ok (.iadd, 1) := by decide +kernel
theorem dL_law_751 : decode cL_law 751 = .ok (.iaload, 1) := by decide +kernel
theorem dL_law_752 : decode cL_law 752 = .ok (.aload_n 0, 1) := by decide +kernel
theorem dL_law_753 : decode cL_law 753 = .ok (.iload_n 3, 1) := by decide +kernel
theorem dL_law_754 : decode cL_law 754 = .ok (.iconst 2, 1) := by decide +kernel
theorem dL_law_755 : decode cL_law 755 = .ok (.iadd, 1) := by decide +kernel
theorem dL_law_756 : decode cL_law 756 = .ok (.iaload, 1) := by decide +kernel
theorem dL_law_757 : decode cL_law 757 = .ok (.invokevirtual 75, 3) := by decide +kernel
theorem m_603 : Cond.code yX11_before cX11_before 3 (some .int) ∈ BW := List.mem_of_getElem? (i := 603) (by decide +kernel)
theorem m_600 : Cond.methodLink RL 75 yX11_before ∈ BW := List.mem_of_getElem? (i := 600) (by decide +kernel)
theorem m_601 : Cond.instanceMethod yX11_before ∈ BW := List.mem_of_getElem? (i := 601) (by decide +kernel)
theorem m_602 : Cond.selects RX11 yX11_before yX11_before ∈ BW := List.mem_of_getElem? (i := 602) (by decide +kernel)
theorem si_L_75 : SV RL RX11 75 yX11_before cX11_before 3 (some .int) 2 := ⟨⟨m_600, m_601, m_602, m_2, m_603⟩, rfl, by decide +kernel, by decide +kernel, by decide +kernel⟩
theorem dL_law_760 : decode cL_law 760 = .ok (.aload_n 2, 1) := by decide +kernel
theorem dL_law_761 : decode cL_law 761 = .ok (.aload_n 0, 1) := by decide +kernel
theorem dL_law_762 : decode cL_law 762 = .ok (.iload_n 3, 1) := by decide +kernel
theorem dL_law_763 : decode cL_law 763 = .ok (.iconst 1, 1) := by decide +kernel
theorem dL_law_764 : decode cL_law 764 = .ok (.iadd, 1) := by decide +kernel
theorem dL_law_765 : decode cL_law 765 = .ok (.iaload, 1) := by decide +kernel
theorem dL_law_766 : decode cL_law 766 = .ok (.aload_n 0, 1) := by decide +kernel
theorem dL_law_767 : decode cL_law 767 = .ok (.iload_n 3, 1) := by decide +kernel
theorem dL_law_768 : decode cL_law 768 = .ok (.iconst 2, 1) := by decide +kernel
theorem dL_law_769 : decode cL_law 769 = .ok (.iadd, 1) := by decide +kernel
theorem dL_law_770 : decode cL_law 770 = .ok (.iaload, 1) := by decide +kernel
theorem dL_law_771 : decode cL_law 771 = .ok (.invokevirtual 78, 3) := by decide +kernel
theorem m_623 : Cond.code yX12_before cX12_before 9 (some .int) ∈ BW := List.mem_of_getElem? (i := 623) (by decide +kernel)
theorem m_620 : Cond.methodLink RL 78 yX12_before ∈ BW := List.mem_of_getElem? (i := 620) (by decide +kernel)
theorem m_621 : Cond.instanceMethod yX12_before ∈ BW := List.mem_of_getElem? (i := 621) (by decide +kernel)
theorem m_622 : Cond.selects RX12 yX12_before yX12_before ∈ BW := List.mem_of_getElem? (i := 622) (by decide +kernel)
theorem si_L_78 : SV RL RX12 78 yX12_before cX12_before 9 (some .int) 2 := ⟨⟨m_620, m_621, m_622, m_5, m_623⟩, rfl, by decide +kernel, by decide +kernel, by decide +kernel⟩
theorem dL_law_774 : decode cL_law 774 = .ok (.if_icmp .eq 944, 3) := by decide +kernel
theorem dL_law_779 : decode cL_law 779 = .ok (.aload_n 1, 1) := by decide +kernel
theorem dL_law_780 : decode cL_law 780 = .ok (.aload_n 0, 1) := by decide +kernel
theorem dL_law_781 : decode cL_law 781 = .ok (.iload_n 3, 1) := by decide +kernel
theorem dL_law_782 : decode cL_law 782 = .ok (.iconst 1, 1) := by decide +kernel
theorem dL_law_783 : decode cL_law 783 = .ok (.iadd, 1) := by decide +kernel
theorem dL_law_784 : decode cL_law 784 = .ok (.iaload, 1) := by decide +kernel
theorem dL_law_785 : decode cL_law 785 = .ok (.aload_n 0, 1) := by decide +kernel
theorem dL_law_786 : decode cL_law 786 = .ok (.iload_n 3, 1) := by decide +kernel
theorem dL_law_787 : decode cL_law 787 = .ok (.iconst 2, 1) := by decide +kernel
theorem dL_law_788 : decode cL_law 788 = .ok (.iadd, 1) := by decide +kernel
theorem dL_law_789 : decode cL_law 789 = .ok (.iaload, 1) := by decide +kernel
theorem dL_law_790 : decode cL_law 790 = .ok (.aload_n 0, 1) := by decide +kernel
theorem dL_law_791 : decode cL_law 791 = .ok (.iload_n 3, 1) := by decide +kernel
theorem dL_law_792 : decode cL_law 792 = .ok (.iconst 3, 1) := by decide +kernel
theorem dL_law_793 : decode cL_law 793 = .ok (.iadd, 1) := by decide +kernel
theorem dL_law_794 : decode cL_law 794 = .ok (.iaload, 1) := by decide +kernel
theorem dL_law_795 : decode cL_law 795 = .ok (.invokevirtual 79, 3) := by decide +kernel
theorem m_627 : Cond.code yX11_knew cX11_knew 5 (some .int) ∈ BW := List.mem_of_getElem? (i := 627) (by decide +kernel)
theorem m_624 : Cond.methodLink RL 79 yX11_knew ∈ BW := List.mem_of_getElem? (i := 624) (by decide +kernel)
theorem m_625 : Cond.instanceMethod yX11_knew ∈ BW := List.mem_of_getElem? (i := 625) (by decide +kernel)
theorem m_626 : Cond.selects RX11 yX11_knew yX11_knew ∈ BW := List.mem_of_getElem? (i := 626) (by decide +kernel)
theorem si_L_79 : SV RL RX11 79 yX11_knew cX11_knew 5 (some .int) 3 := ⟨⟨m_624, m_625, m_626, m_2, m_627⟩, rfl, by decide +kernel, by decide +kernel, by decide +kernel⟩
theorem dL_law_798 : decode cL_law 798 = .ok (.aload_n 2, 1) := by decide +kernel
theorem dL_law_799 : decode cL_law 799 = .ok (.aload_n 0, 1) := by decide +kernel
theorem dL_law_800 : decode cL_law 800 = .ok (.iload_n 3, 1) := by decide +kernel
theorem dL_law_801 : decode cL_law 801 = .ok (.iconst 1, 1) := by decide +kernel
theorem dL_law_802 : decode cL_law 802 = .ok (.iadd, 1) := by decide +kernel
theorem dL_law_803 : decode cL_law 803 = .ok (.iaload, 1) := by decide +kernel
theorem dL_law_804 : decode cL_law 804 = .ok (.aload_n 0, 1) := by decide +kernel
theorem dL_law_805 : decode cL_law 805 = .ok (.iload_n 3, 1) := by decide +kernel
theorem dL_law_806 : decode cL_law 806 = .ok (.iconst 2, 1) := by decide +kernel
theorem dL_law_807 : decode cL_law 807 = .ok (.iadd, 1) := by decide +kernel
theorem dL_law_808 : decode cL_law 808 = .ok (.iaload, 1) := by decide +kernel
theorem dL_law_809 : decode cL_law 809 = .ok (.aload_n 0, 1) := by decide +kernel
theorem dL_law_810 : decode cL_law 810 = .ok (.iload_n 3, 1) := by decide +kernel
theorem dL_law_811 : decode cL_law 811 = .ok (.iconst 3, 1) := by decide +kernel
theorem dL_law_812 : decode cL_law 812 = .ok (.iadd, 1) := by decide +kernel
theorem dL_law_813 : decode cL_law 813 = .ok (.iaload, 1) := by decide +kernel
theorem dL_law_814 : decode cL_law 814 = .ok (.invokevirtual 82, 3) := by decide +kernel
theorem m_692 : Cond.code yX12_knew cX12_knew 5 (some .int) ∈ BW := List.mem_of_getElem? (i := 692) (by decide +kernel)
theorem m_689 : Cond.methodLink RL 82 yX12_knew ∈ BW := List.mem_of_getElem? (i := 689) (by decide +kernel)
theorem m_690 : Cond.instanceMethod yX12_knew ∈ BW := List.mem_of_getElem? (i := 690) (by decide +kernel)
theorem m_691 : Cond.selects RX12 yX12_knew yX12_knew ∈ BW := List.mem_of_getElem? (i := 691) (by decide +kernel)
theorem si_L_82 : SV RL RX12 82 yX12_knew cX12_knew 5 (some .int) 3 := ⟨⟨m_689, m_690, m_691, m_5, m_692⟩, rfl, by decide +kernel, by decide +kernel, by decide +kernel⟩
theorem dL_law_817 : decode cL_law 817 = .ok (.if_icmp .eq 901, 3) := by decide +kernel
theorem dL_law_822 : decode cL_law 822 = .ok (.aload_n 1, 1) := by decide +kernel
theorem dL_law_823 : decode cL_law 823 = .ok (.aload_n 0, 1) := by decide +kernel
theorem dL_law_824 : decode cL_law 824 = .ok (.iload_n 3, 1) := by decide +kernel
theorem dL_law_825 : decode cL_law 825 = .ok (.iconst 1, 1) := by decide +kernel
theorem dL_law_826 : decode cL_law 826 = .ok (.iadd, 1) := by decide +kernel
theorem dL_law_827 : decode cL_law 827 = .ok (.iaload, 1) := by decide +kernel
theorem dL_law_828 : decode cL_law 828 = .ok (.i2l, 1) := by decide +kernel
theorem dL_law_829 : decode cL_law 829 = .ok (.bipush 32, 2) := by decide +kernel
theorem dL_law_831 : decode cL_law 831 = .ok (.lshl, 1) := by decide +kernel
theorem dL_law_832 : decode cL_law 832 = .ok (.aload_n 0, 1) := by decide +kernel
theorem dL_law_833 : decode cL_law 833 = .ok (.iload_n 3, 1) := by decide +kernel
theorem dL_law_834 : decode cL_law 834 = .ok (.iconst 2, 1) := by decide +kernel
theorem dL_law_835 : decode cL_law 835 = .ok (.iadd, 1) := by decide +kernel
theorem dL_law_836 : decode cL_law 836 = .ok (.iaload, 1) := by decide +kernel
theorem dL_law_837 : decode cL_law 837 = .ok (.i2l, 1) := by decide +kernel
theorem dL_law_838 : decode cL_law 838 = .ok (.ldc2_w 83, 3) := by decide +kernel
theorem m_6 : Cond.constantLong RL 83 (4294967295) ∈ BW := List.mem_of_getElem? (i := 6) (by decide +kernel)
theorem dL_law_841 : decode cL_law 841 = .ok (.land, 1) := by decide +kernel
theorem dL_law_842 : decode cL_law 842 = .ok (.lor, 1) := by decide +kernel
theorem dL_law_843 : decode cL_law 843 = .ok (.aload_n 0, 1) := by decide +kernel
theorem dL_law_844 : decode cL_law 844 = .ok (.iload_n 3, 1) := by decide +kernel
theorem dL_law_845 : decode cL_law 845 = .ok (.iconst 3, 1) := by decide +kernel
theorem dL_law_846 : decode cL_law 846 = .ok (.iadd, 1) := by decide +kernel
theorem dL_law_847 : decode cL_law 847 = .ok (.iaload, 1) := by decide +kernel
theorem dL_law_848 : decode cL_law 848 = .ok (.invokevirtual 85, 3) := by decide +kernel
theorem m_737 : Cond.code yX11_feed cX11_feed 5 (some .int) ∈ BW := List.mem_of_getElem? (i := 737) (by decide +kernel)
theorem m_734 : Cond.methodLink RL 85 yX11_feed ∈ BW := List.mem_of_getElem? (i := 734) (by decide +kernel)
theorem m_735 : Cond.instanceMethod yX11_feed ∈ BW := List.mem_of_getElem? (i := 735) (by decide +kernel)
theorem m_736 : Cond.selects RX11 yX11_feed yX11_feed ∈ BW := List.mem_of_getElem? (i := 736) (by decide +kernel)
theorem si_L_85 : SV RL RX11 85 yX11_feed cX11_feed 5 (some .int) 2 := ⟨⟨m_734, m_735, m_736, m_2, m_737⟩, rfl, by decide +kernel, by decide +kernel, by decide +kernel⟩
theorem dL_law_851 : decode cL_law 851 = .ok (.aload_n 2, 1) := by decide +kernel
theorem dL_law_852 : decode cL_law 852 = .ok (.aload_n 0, 1) := by decide +kernel
theorem dL_law_853 : decode cL_law 853 = .ok (.iload_n 3, 1) := by decide +kernel
theorem dL_law_854 : decode cL_law 854 = .ok (.iconst 1, 1) := by decide +kernel
theorem dL_law_855 : decode cL_law 855 = .ok (.iadd, 1) := by decide +kernel
theorem dL_law_856 : decode cL_law 856 = .ok (.iaload, 1) := by decide +kernel
theorem dL_law_857 : decode cL_law 857 = .ok (.i2l, 1) := by decide +kernel
theorem dL_law_858 : decode cL_law 858 = .ok (.bipush 32, 2) := by decide +kernel
theorem dL_law_860 : decode cL_law 860 = .ok (.lshl, 1) := by decide +kernel
theorem dL_law_861 : decode cL_law 861 = .ok (.aload_n 0, 1) := by decide +kernel
theorem dL_law_862 : decode cL_law 862 = .ok (.iload_n 3, 1) := by decide +kernel
theorem dL_law_863 : decode cL_law 863 = .ok (.iconst 2, 1) := by decide +kernel
theorem dL_law_864 : decode cL_law 864 = .ok (.iadd, 1) := by decide +kernel
theorem dL_law_865 : decode cL_law 865 = .ok (.iaload, 1) := by decide +kernel
theorem dL_law_866 : decode cL_law 866 = .ok (.i2l, 1) := by decide +kernel
theorem dL_law_867 : decode cL_law 867 = .ok (.ldc2_w 83, 3) := by decide +kernel
theorem dL_law_870 : decode cL_law 870 = .ok (.land, 1) := by decide +kernel
theorem dL_law_871 : decode cL_law 871 = .ok (.lor, 1) := by decide +kernel
theorem dL_law_872 : decode cL_law 872 = .ok (.aload_n 0, 1) := by decide +kernel
theorem dL_law_873 : decode cL_law 873 = .ok (.iload_n 3, 1) := by decide +kernel
theorem dL_law_874 : decode cL_law 874 = .ok (.iconst 3, 1) := by decide +kernel
theorem dL_law_875 : decode cL_law 875 = .ok (.iadd, 1) := by decide +kernel
theorem dL_law_876 : decode cL_law 876 = .ok (.iaload, 1) := by decide +kernel
theorem dL_law_877 : decode cL_law 877 = .ok (.invokevirtual 89, 3) := by decide +kernel
theorem m_749 : Cond.code yX12_feed cX12_feed 5 (some .int) ∈ BW := List.mem_of_getElem? (i := 749) (by decide +kernel)
theorem m_746 : Cond.methodLink RL 89 yX12_feed ∈ BW := List.mem_of_getElem? (i := 746) (by decide +kernel)
theorem m_747 : Cond.instanceMethod yX12_feed ∈ BW := List.mem_of_getElem? (i := 747) (by decide +kernel)
theorem m_748 : Cond.selects RX12 yX12_feed yX12_feed ∈ BW := List.mem_of_getElem? (i := 748) (by decide +kernel)
theorem si_L_89 : SV RL RX12 89 yX12_feed cX12_feed 5 (some .int) 2 := ⟨⟨m_746, m_747, m_748, m_5, m_749⟩, rfl, by decide +kernel, by decide +kernel, by decide +kernel⟩
theorem dL_law_880 : decode cL_law 880 = .ok (.if_icmp .eq 838, 3) := by decide +kernel
theorem dL_law_885 : decode cL_law 885 = .ok (.aload_n 1, 1) := by decide +kernel
theorem dL_law_886 : decode cL_law 886 = .ok (.invokevirtual 90, 3) := by decide +kernel
theorem m_755 : Cond.code yX11_read cX11_read 2 (some .int) ∈ BW := List.mem_of_getElem? (i := 755) (by decide +kernel)
theorem m_752 : Cond.methodLink RL 90 yX11_read ∈ BW := List.mem_of_getElem? (i := 752) (by decide +kernel)
theorem m_753 : Cond.instanceMethod yX11_read ∈ BW := List.mem_of_getElem? (i := 753) (by decide +kernel)
theorem m_754 : Cond.selects RX11 yX11_read yX11_read ∈ BW := List.mem_of_getElem? (i := 754) (by decide +kernel)
theorem si_L_90 : SV RL RX11 90 yX11_read cX11_read 2 (some .int) 0 := ⟨⟨m_752, m_753, m_754, m_2, m_755⟩, rfl, by decide +kernel, by decide +kernel, by decide +kernel⟩
theorem dL_law_889 : decode cL_law 889 = .ok (.aload_n 2, 1) := by decide +kernel
theorem dL_law_890 : decode cL_law 890 = .ok (.invokevirtual 94, 3) := by decide +kernel
theorem m_906 : Cond.code yX12_read cX12_read 5 (some .int) ∈ BW := List.mem_of_getElem? (i := 906) (by decide +kernel)
theorem m_903 : Cond.methodLink RL 94 yX12_read ∈ BW := List.mem_of_getElem? (i := 903) (by decide +kernel)
theorem m_904 : Cond.instanceMethod yX12_read ∈ BW := List.mem_of_getElem? (i := 904) (by decide +kernel)
theorem m_905 : Cond.selects RX12 yX12_read yX12_read ∈ BW := List.mem_of_getElem? (i := 905) (by decide +kernel)
theorem si_L_94 : SV RL RX12 94 yX12_read cX12_read 5 (some .int) 0 := ⟨⟨m_903, m_904, m_905, m_5, m_906⟩, rfl, by decide +kernel, by decide +kernel, by decide +kernel⟩
theorem dL_law_893 : decode cL_law 893 = .ok (.if_icmp .eq 825, 3) := by decide +kernel
theorem dL_law_898 : decode cL_law 898 = .ok (.aload_n 1, 1) := by decide +kernel
theorem dL_law_899 : decode cL_law 899 = .ok (.aload_n 0, 1) := by decide +kernel
theorem dL_law_900 : decode cL_law 900 = .ok (.iload_n 3, 1) := by decide +kernel
theorem dL_law_901 : decode cL_law 901 = .ok (.iconst 1, 1) := by decide +kernel
theorem dL_law_902 : decode cL_law 902 = .ok (.iadd, 1) := by decide +kernel
theorem dL_law_903 : decode cL_law 903 = .ok (.iaload, 1) := by decide +kernel
theorem dL_law_904 : decode cL_law 904 = .ok (.aload_n 0, 1) := by decide +kernel
theorem dL_law_905 : decode cL_law 905 = .ok (.iload_n 3, 1) := by decide +kernel
theorem dL_law_906 : decode cL_law 906 = .ok (.iconst 2, 1) := by decide +kernel
theorem dL_law_907 : decode cL_law 907 = .ok (.iadd, 1) := by decide +kernel
theorem dL_law_908 : decode cL_law 908 = .ok (.iaload, 1) := by decide +kernel
theorem dL_law_909 : decode cL_law 909 = .ok (.aload_n 0, 1) := by decide +kernel
theorem dL_law_910 : decode cL_law 910 = .ok (.iload_n 3, 1) := by decide +kernel
theorem dL_law_911 : decode cL_law 911 = .ok (.iconst 3, 1) := by decide +kernel
theorem dL_law_912 : decode cL_law 912 = .ok (.iadd, 1) := by decide +kernel
theorem dL_law_913 : decode cL_law 913 = .ok (.iaload, 1) := by decide +kernel
theorem dL_law_914 : decode cL_law 914 = .ok (.invokevirtual 95, 3) := by decide +kernel
theorem m_963 : Cond.code yX11_line cX11_line 5 (some .int) ∈ BW := List.mem_of_getElem? (i := 963) (by decide +kernel)
theorem m_960 : Cond.methodLink RL 95 yX11_line ∈ BW := List.mem_of_getElem? (i := 960) (by decide +kernel)
theorem m_961 : Cond.instanceMethod yX11_line ∈ BW := List.mem_of_getElem? (i := 961) (by decide +kernel)
theorem m_962 : Cond.selects RX11 yX11_line yX11_line ∈ BW := List.mem_of_getElem? (i := 962) (by decide +kernel)
theorem si_L_95 : SV RL RX11 95 yX11_line cX11_line 5 (some .int) 3 := ⟨⟨m_960, m_961, m_962, m_2, m_963⟩, rfl, by decide +kernel, by decide +kernel, by decide +kernel⟩
theorem dL_law_917 : decode cL_law 917 = .ok (.aload_n 2, 1) := by decide +kernel
theorem dL_law_918 : decode cL_law 918 = .ok (.aload_n 0, 1) := by decide +kernel
theorem dL_law_919 : decode cL_law 919 = .ok (.iload_n 3, 1) := by decide +kernel
theorem dL_law_920 : decode cL_law 920 = .ok (.iconst 1, 1) := by decide +kernel
theorem dL_law_921 : decode cL_law 921 = .ok (.iadd, 1) := by decide +kernel
theorem dL_law_922 : decode cL_law 922 = .ok (.iaload, 1) := by decide +kernel
theorem dL_law_923 : decode cL_law 923 = .ok (.aload_n 0, 1) := by decide +kernel
theorem dL_law_924 : decode cL_law 924 = .ok (.iload_n 3, 1) := by decide +kernel
theorem dL_law_925 : decode cL_law 925 = .ok (.iconst 2, 1) := by decide +kernel
theorem dL_law_926 : decode cL_law 926 = .ok (.iadd, 1) := by decide +kernel
theorem dL_law_927 : decode cL_law 927 = .ok (.iaload, 1) := by decide +kernel
theorem dL_law_928 : decode cL_law 928 = .ok (.aload_n 0, 1) := by decide +kernel
theorem dL_law_929 : decode cL_law 929 = .ok (.iload_n 3, 1) := by decide +kernel
theorem dL_law_930 : decode cL_law 930 = .ok (.iconst 3, 1) := by decide +kernel
theorem dL_law_931 : decode cL_law 931 = .ok (.iadd, 1) := by decide +kernel
theorem dL_law_932 : decode cL_law 932 = .ok (.iaload, 1) := by decide +kernel
theorem dL_law_933 : decode cL_law 933 = .ok (.invokevirtual 98, 3) := by decide +kernel
theorem m_967 : Cond.code yX12_line cX12_line 4 (some .int) ∈ BW := List.mem_of_getElem? (i := 967) (by decide +kernel)
theorem m_964 : Cond.methodLink RL 98 yX12_line ∈ BW := List.mem_of_getElem? (i := 964) (by decide +kernel)
theorem m_965 : Cond.instanceMethod yX12_line ∈ BW := List.mem_of_getElem? (i := 965) (by decide +kernel)
theorem m_966 : Cond.selects RX12 yX12_line yX12_line ∈ BW := List.mem_of_getElem? (i := 966) (by decide +kernel)
theorem si_L_98 : SV RL RX12 98 yX12_line cX12_line 4 (some .int) 3 := ⟨⟨m_964, m_965, m_966, m_5, m_967⟩, rfl, by decide +kernel, by decide +kernel, by decide +kernel⟩
theorem dL_law_936 : decode cL_law 936 = .ok (.if_icmp .eq 782, 3) := by decide +kernel
theorem dL_law_941 : decode cL_law 941 = .ok (.aload_n 1, 1) := by decide +kernel
theorem dL_law_942 : decode cL_law 942 = .ok (.aload_n 0, 1) := by decide +kernel
theorem dL_law_943 : decode cL_law 943 = .ok (.iload_n 3, 1) := by decide +kernel
theorem dL_law_944 : decode cL_law 944 = .ok (.iconst 1, 1) := by decide +kernel
theorem dL_law_945 : decode cL_law 945 = .ok (.iadd, 1) := by decide +kernel
theorem dL_law_946 : decode cL_law 946 = .ok (.iaload, 1) := by decide +kernel
theorem dL_law_947 : decode cL_law 947 = .ok (.aload_n 0, 1) := by decide +kernel
theorem dL_law_948 : decode cL_law 948 = .ok (.iload_n 3, 1) := by decide +kernel
theorem dL_law_949 : decode cL_law 949 = .ok (.iconst 2, 1) := by decide +kernel
theorem dL_law_950 : decode cL_law 950 = .ok (.iadd, 1) := by decide +kernel
theorem dL_law_951 : decode cL_law 951 = .ok (.iaload, 1) := by decide +kernel
theorem dL_law_952 : decode cL_law 952 = .ok (.invokevirtual 99, 3) := by decide +kernel
theorem m_971 : Cond.code yX11_why cX11_why 5 (some .int) ∈ BW := List.mem_of_getElem? (i := 971) (by decide +kernel)
theorem m_968 : Cond.methodLink RL 99 yX11_why ∈ BW := List.mem_of_getElem? (i := 968) (by decide +kernel)
theorem m_969 : Cond.instanceMethod yX11_why ∈ BW := List.mem_of_getElem? (i := 969) (by decide +kernel)
theorem m_970 : Cond.selects RX11 yX11_why yX11_why ∈ BW := List.mem_of_getElem? (i := 970) (by decide +kernel)
theorem si_L_99 : SV RL RX11 99 yX11_why cX11_why 5 (some .int) 2 := ⟨⟨m_968, m_969, m_970, m_2, m_971⟩, rfl, by decide +kernel, by decide +kernel, by decide +kernel⟩
theorem dL_law_955 : decode cL_law 955 = .ok (.aload_n 2, 1) := by decide +kernel
theorem dL_law_956 : decode cL_law 956 = .ok (.aload_n 0, 1) := by decide +kernel
theorem dL_law_957 : decode cL_law 957 = .ok (.iload_n 3, 1) := by decide +kernel
theorem dL_law_958 : decode cL_law 958 = .ok (.iconst 1, 1) := by decide +kernel
theorem dL_law_959 : decode cL_law 959 = .ok (.iadd, 1) := by decide +kernel
theorem dL_law_960 : decode cL_law 960 = .ok (.iaload, 1) := by decide +kernel
theorem dL_law_961 : decode cL_law 961 = .ok (.aload_n 0, 1) := by decide +kernel
theorem dL_law_962 : decode cL_law 962 = .ok (.iload_n 3, 1) := by decide +kernel
theorem dL_law_963 : decode cL_law 963 = .ok (.iconst 2, 1) := by decide +kernel
theorem dL_law_964 : decode cL_law 964 = .ok (.iadd, 1) := by decide +kernel
theorem dL_law_965 : decode cL_law 965 = .ok (.iaload, 1) := by decide +kernel
theorem dL_law_966 : decode cL_law 966 = .ok (.invokevirtual 102, 3) := by decide +kernel
theorem m_979 : Cond.code yX12_why cX12_why 5 (some .int) ∈ BW := List.mem_of_getElem? (i := 979) (by decide +kernel)
theorem m_976 : Cond.methodLink RL 102 yX12_why ∈ BW := List.mem_of_getElem? (i := 976) (by decide +kernel)
theorem m_977 : Cond.instanceMethod yX12_why ∈ BW := List.mem_of_getElem? (i := 977) (by decide +kernel)
theorem m_978 : Cond.selects RX12 yX12_why yX12_why ∈ BW := List.mem_of_getElem? (i := 978) (by decide +kernel)
theorem si_L_102 : SV RL RX12 102 yX12_why cX12_why 5 (some .int) 2 := ⟨⟨m_976, m_977, m_978, m_5, m_979⟩, rfl, by decide +kernel, by decide +kernel, by decide +kernel⟩
theorem dL_law_969 : decode cL_law 969 = .ok (.if_icmp .eq 749, 3) := by decide +kernel
theorem dL_law_974 : decode cL_law 974 = .ok (.aload_n 1, 1) := by decide +kernel
theorem dL_law_975 : decode cL_law 975 = .ok (.aload_n 0, 1) := by decide +kernel
theorem dL_law_976 : decode cL_law 976 = .ok (.iload_n 3, 1) := by decide +kernel
theorem dL_law_977 : decode cL_law 977 = .ok (.iconst 1, 1) := by decide +kernel
theorem dL_law_978 : decode cL_law 978 = .ok (.iadd, 1) := by decide +kernel
theorem dL_law_979 : decode cL_law 979 = .ok (.iaload, 1) := by decide +kernel
theorem dL_law_980 : decode cL_law 980 = .ok (.aload_n 0, 1) := by decide +kernel
theorem dL_law_981 : decode cL_law 981 = .ok (.iload_n 3, 1) := by decide +kernel
theorem dL_law_982 : decode cL_law 982 = .ok (.iconst 2, 1) := by decide +kernel
theorem dL_law_983 : decode cL_law 983 = .ok (.iadd, 1) := by decide +kernel
theorem dL_law_984 : decode cL_law 984 = .ok (.iaload, 1) := by decide +kernel
theorem dL_law_985 : decode cL_law 985 = .ok (.aload_n 0, 1) := by decide +kernel
theorem dL_law_986 : decode cL_law 986 = .ok (.iload_n 3, 1) := by decide +kernel
theorem dL_law_987 : decode cL_law 987 = .ok (.iconst 3, 1) := by decide +kernel
theorem dL_law_988 : decode cL_law 988 = .ok (.iadd, 1) := by decide +kernel
theorem dL_law_989 : decode cL_law 989 = .ok (.iaload, 1) := by decide +kernel
theorem dL_law_990 : decode cL_law 990 = .ok (.aload_n 0, 1) := by decide +kernel
theorem dL_law_991 : decode cL_law 991 = .ok (.iload_n 3, 1) := by decide +kernel
theorem dL_law_992 : decode cL_law 992 = .ok (.iconst 4, 1) := by decide +kernel
theorem dL_law_993 : decode cL_law 993 = .ok (.iadd, 1) := by decide +kernel
theorem dL_law_994 : decode cL_law 994 = .ok (.iaload, 1) := by decide +kernel
theorem dL_law_995 : decode cL_law 995 = .ok (.aload_n 0, 1) := by decide +kernel
theorem dL_law_996 : decode cL_law 996 = .ok (.iload_n 3, 1) := by decide +kernel
theorem dL_law_997 : decode cL_law 997 = .ok (.iconst 5, 1) := by decide +kernel
theorem dL_law_998 : decode cL_law 998 = .ok (.iadd, 1) := by decide +kernel
theorem dL_law_999 : decode cL_law 999 = .ok (.iaload, 1) := by decide +kernel
theorem dL_law_1000 : decode cL_law 1000 = .ok (.ifCond .eq 7, 3) := by decide +kernel
theorem dL_law_1007 : decode cL_law 1007 = .ok (.iconst 0, 1) := by decide +kernel
theorem dL_law_1008 : decode cL_law 1008 = .ok (.aload_n 0, 1) := by decide +kernel
theorem dL_law_1009 : decode cL_law 1009 = .ok (.iload_n 3, 1) := by decide +kernel
theorem dL_law_1010 : decode cL_law 1010 = .ok (.bipush 6, 2) := by decide +kernel
theorem dL_law_1012 : decode cL_law 1012 = .ok (.iadd, 1) := by decide +kernel
theorem dL_law_1013 : decode cL_law 1013 = .ok (.iaload, 1) := by decide +kernel
theorem dL_law_1014 : decode cL_law 1014 = .ok (.invokevirtual 103, 3) := by decide +kernel
theorem m_983 : Cond.code yX11_saying cX11_saying 8 (some .int) ∈ BW := List.mem_of_getElem? (i := 983) (by decide +kernel)
theorem m_980 : Cond.methodLink RL 103 yX11_saying ∈ BW := List.mem_of_getElem? (i := 980) (by decide +kernel)
theorem m_981 : Cond.instanceMethod yX11_saying ∈ BW := List.mem_of_getElem? (i := 981) (by decide +kernel)
theorem m_982 : Cond.selects RX11 yX11_saying yX11_saying ∈ BW := List.mem_of_getElem? (i := 982) (by decide +kernel)
theorem si_L_103 : SV RL RX11 103 yX11_saying cX11_saying 8 (some .int) 6 := ⟨⟨m_980, m_981, m_982, m_2, m_983⟩, rfl, by decide +kernel, by decide +kernel, by decide +kernel⟩
theorem dL_law_1017 : decode cL_law 1017 = .ok (.aload_n 2, 1) := by decide +kernel
theorem dL_law_1018 : decode cL_law 1018 = .ok (.aload_n 0, 1) := by decide +kernel
theorem dL_law_1019 : decode cL_law 1019 = .ok (.iload_n 3, 1) := by decide +kernel
theorem dL_law_1020 : decode cL_law 1020 = .ok (.iconst 1, 1) := by decide +kernel
theorem dL_law_1021 : decode cL_law 1021 = .ok (.iadd, 1) := by decide +kernel
theorem dL_law_1022 : decode cL_law 1022 = .ok (.iaload, 1) := by decide +kernel
theorem dL_law_1023 : decode cL_law 1023 = .ok (.aload_n 0, 1) := by decide +kernel
theorem dL_law_1024 : decode cL_law 1024 = .ok (.iload_n 3, 1) := by decide +kernel
theorem dL_law_1025 : decode cL_law 1025 = .ok (.iconst 2, 1) := by decide +kernel
theorem dL_law_1026 : decode cL_law 1026 = .ok (.iadd, 1) := by decide +kernel
theorem dL_law_1027 : decode cL_law 1027 = .ok (.iaload, 1) := by decide +kernel
theorem dL_law_1028 : decode cL_law 1028 = .ok (.aload_n 0, 1) := by decide +kernel
theorem dL_law_1029 : decode cL_law 1029 = .ok (.iload_n 3, 1) := by decide +kernel
theorem dL_law_1030 : decode cL_law 1030 = .ok (.iconst 3, 1) := by decide +kernel
theorem dL_law_1031 : decode cL_law 1031 = .ok (.iadd, 1) := by decide +kernel
theorem dL_law_1032 : decode cL_law 1032 = .ok (.iaload, 1) := by decide +kernel
theorem dL_law_1033 : decode cL_law 1033 = .ok (.aload_n 0, 1) := by decide +kernel
theorem dL_law_1034 : decode cL_law 1034 = .ok (.iload_n 3, 1) := by decide +kernel
theorem dL_law_1035 : decode cL_law 1035 = .ok (.iconst 4, 1) := by decide +kernel
theorem dL_law_1036 : decode cL_law 1036 = .ok (.iadd, 1) := by decide +kernel
theorem dL_law_1037 : decode cL_law 1037 = .ok (.iaload, 1) := by decide +kernel
theorem dL_law_1038 : decode cL_law 1038 = .ok (.aload_n 0, 1) := by decide +kernel
theorem dL_law_1039 : decode cL_law 1039 = .ok (.iload_n 3, 1) := by decide +kernel
theorem dL_law_1040 : decode cL_law 1040 = .ok (.iconst 5, 1) := by decide +kernel
theorem dL_law_1041 : decode cL_law 1041 = .ok (.iadd, 1) := by decide +kernel
theorem dL_law_1042 : decode cL_law 1042 = .ok (.iaload, 1) := by decide +kernel
theorem dL_law_1043 : decode cL_law 1043 = .ok (.ifCond .eq 7, 3) := by decide +kernel
theorem dL_law_1050 : decode cL_law 1050 = .ok (.iconst 0, 1) := by decide +kernel
theorem dL_law_1051 : decode cL_law 1051 = .ok (.aload_n 0, 1) := by decide +kernel
theorem dL_law_1052 : decode cL_law 1052 = .ok (.iload_n 3, 1) := by decide +kernel
theorem dL_law_1053 : decode cL_law 1053 = .ok (.bipush 6, 2) := by decide +kernel
theorem dL_law_1055 : decode cL_law 1055 = .ok (.iadd, 1) := by decide +kernel
theorem dL_law_1056 : decode cL_law 1056 = .ok (.iaload, 1) := by decide +kernel
theorem dL_law_1057 : decode cL_law 1057 = .ok (.invokevirtual 107, 3) := by decide +kernel
theorem m_987 : Cond.code yX12_saying_ cX12_saying_ 10 (some .int) ∈ BW := List.mem_of_getElem? (i := 987) (by decide +kernel)
theorem m_984 : Cond.methodLink RL 107 yX12_saying_ ∈ BW := List.mem_of_getElem? (i := 984) (by decide +kernel)
theorem m_985 : Cond.instanceMethod yX12_saying_ ∈ BW := List.mem_of_getElem? (i := 985) (by decide +kernel)
theorem m_986 : Cond.selects RX12 yX12_saying_ yX12_saying_ ∈ BW := List.mem_of_getElem? (i := 986) (by decide +kernel)
theorem si_L_107 : SV RL RX12 107 yX12_saying_ cX12_saying_ 10 (some .int) 6 := ⟨⟨m_984, m_985, m_986, m_5, m_987⟩, rfl, by decide +kernel, by decide +kernel, by decide +kernel⟩
theorem dL_law_1060 : decode cL_law 1060 = .ok (.if_icmp .eq 658, 3) := by decide +kernel
theorem dL_law_1003 : decode cL_law 1003 = .ok (.iconst 1, 1) := by decide +kernel
theorem dL_law_1004 : decode cL_law 1004 = .ok (.goto 4, 3) := by decide +kernel
theorem dL_law_1046 : decode cL_law 1046 = .ok (.iconst 1, 1) := by decide +kernel
theorem dL_law_1047 : decode cL_law 1047 = .ok (.goto 4, 3) := by decide +kernel
theorem dL_law_1065 : decode cL_law 1065 = .ok (.aload_n 1, 1) := by decide +kernel
theorem dL_law_1066 : decode cL_law 1066 = .ok (.aload_n 0, 1) := by decide +kernel
theorem dL_law_1067 : decode cL_law 1067 = .ok (.iload_n 3, 1) := by decide +kernel
theorem dL_law_1068 : decode cL_law 1068 = .ok (.iconst 1, 1) := by decide +kernel
theorem dL_law_1069 : decode cL_law 1069 = .ok (.iadd, 1) := by decide +kernel
theorem dL_law_1070 : decode cL_law 1070 = .ok (.iaload, 1) := by decide +kernel
theorem dL_law_1071 : decode cL_law 1071 = .ok (.aload_n 0, 1) := by decide +kernel
theorem dL_law_1072 : decode cL_law 1072 = .ok (.iload_n 3, 1) := by decide +kernel
theorem dL_law_1073 : decode cL_law 1073 = .ok (.iconst 2, 1) := by decide +kernel
theorem dL_law_1074 : decode cL_law 1074 = .ok (.iadd, 1) := by decide +kernel
theorem dL_law_1075 : decode cL_law 1075 = .ok (.iaload, 1) := by decide +kernel
theorem dL_law_1076 : decode cL_law 1076 = .ok (.aload_n 0, 1) := by decide +kernel
theorem dL_law_1077 : decode cL_law 1077 = .ok (.iload_n 3, 1) := by decide +kernel
theorem dL_law_1078 : decode cL_law 1078 = .ok (.iconst 3, 1) := by decide +kernel
theorem dL_law_1079 : decode cL_law 1079 = .ok (.iadd, 1) := by decide +kernel
theorem dL_law_1080 : decode cL_law 1080 = .ok (.iaload, 1) := by decide +kernel
theorem dL_law_1081 : decode cL_law 1081 = .ok (.invokevirtual 108, 3) := by decide +kernel
theorem m_991 : Cond.code yX11_quarrel cX11_quarrel 5 (some .int) ∈ BW := List.mem_of_getElem? (i := 991) (by decide +kernel)
theorem m_988 : Cond.methodLink RL 108 yX11_quarrel ∈ BW := List.mem_of_getElem? (i := 988) (by decide +kernel)
theorem m_989 : Cond.instanceMethod yX11_quarrel ∈ BW := List.mem_of_getElem? (i := 989) (by decide +kernel)
theorem m_990 : Cond.selects RX11 yX11_quarrel yX11_quarrel ∈ BW := List.mem_of_getElem? (i := 990) (by decide +kernel)
theorem si_L_108 : SV RL RX11 108 yX11_quarrel cX11_quarrel 5 (some .int) 3 := ⟨⟨m_988, m_989, m_990, m_2, m_991⟩, rfl, by decide +kernel, by decide +kernel, by decide +kernel⟩
theorem dL_law_1084 : decode cL_law 1084 = .ok (.aload_n 2, 1) := by decide +kernel
theorem dL_law_1085 : decode cL_law 1085 = .ok (.aload_n 0, 1) := by decide +kernel
theorem dL_law_1086 : decode cL_law 1086 = .ok (.iload_n 3, 1) := by decide +kernel
theorem dL_law_1087 : decode cL_law 1087 = .ok (.iconst 1, 1) := by decide +kernel
theorem dL_law_1088 : decode cL_law 1088 = .ok (.iadd, 1) := by decide +kernel
theorem dL_law_1089 : decode cL_law 1089 = .ok (.iaload, 1) := by decide +kernel
theorem dL_law_1090 : decode cL_law 1090 = .ok (.aload_n 0, 1) := by decide +kernel
theorem dL_law_1091 : decode cL_law 1091 = .ok (.iload_n 3, 1) := by decide +kernel
theorem dL_law_1092 : decode cL_law 1092 = .ok (.iconst 2, 1) := by decide +kernel
theorem dL_law_1093 : decode cL_law 1093 = .ok (.iadd, 1) := by decide +kernel
theorem dL_law_1094 : decode cL_law 1094 = .ok (.iaload, 1) := by decide +kernel
theorem dL_law_1095 : decode cL_law 1095 = .ok (.aload_n 0, 1) := by decide +kernel
theorem dL_law_1096 : decode cL_law 1096 = .ok (.iload_n 3, 1) := by decide +kernel
theorem dL_law_1097 : decode cL_law 1097 = .ok (.iconst 3, 1) := by decide +kernel
theorem dL_law_1098 : decode cL_law 1098 = .ok (.iadd, 1) := by decide +kernel
theorem dL_law_1099 : decode cL_law 1099 = .ok (.iaload, 1) := by decide +kernel
theorem dL_law_1100 : decode cL_law 1100 = .ok (.invokevirtual 111, 3) := by decide +kernel
theorem m_1024 : Cond.code yX12_quarrel cX12_quarrel 10 (some .int) ∈ BW := List.mem_of_getElem? (i := 1024) (by decide +kernel)
theorem m_1021 : Cond.methodLink RL 111 yX12_quarrel ∈ BW := List.mem_of_getElem? (i := 1021) (by decide +kernel)
theorem m_1022 : Cond.instanceMethod yX12_quarrel ∈ BW := List.mem_of_getElem? (i := 1022) (by decide +kernel)
theorem m_1023 : Cond.selects RX12 yX12_quarrel yX12_quarrel ∈ BW := List.mem_of_getElem? (i := 1023) (by decide +kernel)
theorem si_L_111 : SV RL RX12 111 yX12_quarrel cX12_quarrel 10 (some .int) 3 := ⟨⟨m_1021, m_1022, m_1023, m_5, m_1024⟩, rfl, by decide +kernel, by decide +kernel, by decide +kernel⟩
theorem dL_law_1103 : decode cL_law 1103 = .ok (.if_icmp .eq 615, 3) := by decide +kernel
theorem dL_law_1108 : decode cL_law 1108 = .ok (.aload_n 1, 1) := by decide +kernel
theorem dL_law_1109 : decode cL_law 1109 = .ok (.invokevirtual 112, 3) := by decide +kernel
theorem m_1036 : Cond.code yX11_impossible cX11_impossible 2 (some .int) ∈ BW := List.mem_of_getElem? (i := 1036) (by decide +kernel)
theorem m_1033 : Cond.methodLink RL 112 yX11_impossible ∈ BW := List.mem_of_getElem? (i := 1033) (by decide +kernel)
theorem m_1034 : Cond.instanceMethod yX11_impossible ∈ BW := List.mem_of_getElem? (i := 1034) (by decide +kernel)
theorem m_1035 : Cond.selects RX11 yX11_impossible yX11_impossible ∈ BW := List.mem_of_getElem? (i := 1035) (by decide +kernel)
theorem si_L_112 : SV RL RX11 112 yX11_impossible cX11_impossible 2 (some .int) 0 := ⟨⟨m_1033, m_1034, m_1035, m_2, m_1036⟩, rfl, by decide +kernel, by decide +kernel, by decide +kernel⟩
theorem dL_law_1112 : decode cL_law 1112 = .ok (.aload_n 2, 1) := by decide +kernel
theorem dL_law_1113 : decode cL_law 1113 = .ok (.invokevirtual 115, 3) := by decide +kernel
theorem m_1044 : Cond.code yX12_impossible cX12_impossible 6 (some .int) ∈ BW := List.mem_of_getElem? (i := 1044) (by decide +kernel)
theorem m_1041 : Cond.methodLink RL 115 yX12_impossible ∈ BW := List.mem_of_getElem? (i := 1041) (by decide +kernel)
theorem m_1042 : Cond.instanceMethod yX12_impossible ∈ BW := List.mem_of_getElem? (i := 1042) (by decide +kernel)
theorem m_1043 : Cond.selects RX12 yX12_impossible yX12_impossible ∈ BW := List.mem_of_getElem? (i := 1043) (by decide +kernel)
theorem si_L_115 : SV RL RX12 115 yX12_impossible cX12_impossible 6 (some .int) 0 := ⟨⟨m_1041, m_1042, m_1043, m_5, m_1044⟩, rfl, by decide +kernel, by decide +kernel, by decide +kernel⟩
theorem dL_law_1116 : decode cL_law 1116 = .ok (.if_icmp .eq 602, 3) := by decide +kernel
theorem dL_law_1121 : decode cL_law 1121 = .ok (.aload_n 1, 1) := by decide +kernel
theorem dL_law_1122 : decode cL_law 1122 = .ok (.aload_n 0, 1) := by decide +kernel
theorem dL_law_1123 : decode cL_law 1123 = .ok (.iload_n 3, 1) := by decide +kernel
theorem dL_law_1124 : decode cL_law 1124 = .ok (.iconst 1, 1) := by decide +kernel
theorem dL_law_1125 : decode cL_law 1125 = .ok (.iadd, 1) := by decide +kernel
theorem dL_law_1126 : decode cL_law 1126 = .ok (.iaload, 1) := by decide +kernel
theorem dL_law_1127 : decode cL_law 1127 = .ok (.aload_n 0, 1) := by decide +kernel
theorem dL_law_1128 : decode cL_law 1128 = .ok (.iload_n 3, 1) := by decide +kernel
theorem dL_law_1129 : decode cL_law 1129 = .ok (.iconst 2, 1) := by decide +kernel
theorem dL_law_1130 : decode cL_law 1130 = .ok (.iadd, 1) := by decide +kernel
theorem dL_law_1131 : decode cL_law 1131 = .ok (.iaload, 1) := by decide +kernel
theorem dL_law_1132 : decode cL_law 1132 = .ok (.aload_n 0, 1) := by decide +kernel
theorem dL_law_1133 : decode cL_law 1133 = .ok (.iload_n 3, 1) := by decide +kernel
theorem dL_law_1134 : decode cL_law 1134 = .ok (.iconst 3, 1) := by decide +kernel
theorem dL_law_1135 : decode cL_law 1135 = .ok (.iadd, 1) := by decide +kernel
theorem dL_law_1136 : decode cL_law 1136 = .ok (.iaload, 1) := by decide +kernel
theorem dL_law_1137 : decode cL_law 1137 = .ok (.aload_n 0, 1) := by decide +kernel
theorem dL_law_1138 : decode cL_law 1138 = .ok (.iload_n 3, 1) := by decide +kernel
theorem dL_law_1139 : decode cL_law 1139 = .ok (.iconst 4, 1) := by decide +kernel
theorem dL_law_1140 : decode cL_law 1140 = .ok (.iadd, 1) := by decide +kernel
theorem dL_law_1141 : decode cL_law 1141 = .ok (.iaload, 1) := by decide +kernel
theorem dL_law_1142 : decode cL_law 1142 = .ok (.invokevirtual 116, 3) := by decide +kernel
theorem m_1048 : Cond.code yX11_finding cX11_finding 6 (some .int) ∈ BW := List.mem_of_getElem? (i := 1048) (by decide +kernel)
theorem m_1045 : Cond.methodLink RL 116 yX11_finding ∈ BW := List.mem_of_getElem? (i := 1045) (by decide +kernel)
theorem m_1046 : Cond.instanceMethod yX11_finding ∈ BW := List.mem_of_getElem? (i := 1046) (by decide +kernel)
theorem m_1047 : Cond.selects RX11 yX11_finding yX11_finding ∈ BW := List.mem_of_getElem? (i := 1047) (by decide +kernel)
theorem si_L_116 : SV RL RX11 116 yX11_finding cX11_finding 6 (some .int) 4 := ⟨⟨m_1045, m_1046, m_1047, m_2, m_1048⟩, rfl, by decide +kernel, by decide +kernel, by decide +kernel⟩
theorem dL_law_1145 : decode cL_law 1145 = .ok (.aload_n 2, 1) := by decide +kernel
theorem dL_law_1146 : decode cL_law 1146 = .ok (.aload_n 0, 1) := by decide +kernel
theorem dL_law_1147 : decode cL_law 1147 = .ok (.iload_n 3, 1) := by decide +kernel
theorem dL_law_1148 : decode cL_law 1148 = .ok (.iconst 1, 1) := by decide +kernel
theorem dL_law_1149 : decode cL_law 1149 = .ok (.iadd, 1) := by decide +kernel
theorem dL_law_1150 : decode cL_law 1150 = .ok (.iaload, 1) := by decide +kernel
theorem dL_law_1151 : decode cL_law 1151 = .ok (.aload_n 0, 1) := by decide +kernel
theorem dL_law_1152 : decode cL_law 1152 = .ok (.iload_n 3, 1) := by decide +kernel
theorem dL_law_1153 : decode cL_law 1153 = .ok (.iconst 2, 1) := by decide +kernel
theorem dL_law_1154 : decode cL_law 1154 = .ok (.iadd, 1) := by decide +kernel
theorem dL_law_1155 : decode cL_law 1155 = .ok (.iaload, 1) := by decide +kernel
theorem dL_law_1156 : decode cL_law 1156 = .ok (.aload_n 0, 1) := by decide +kernel
theorem dL_law_1157 : decode cL_law 1157 = .ok (.iload_n 3, 1) := by decide +kernel
theorem dL_law_1158 : decode cL_law 1158 = .ok (.iconst 3, 1) := by decide +kernel
theorem dL_law_1159 : decode cL_law 1159 = .ok (.iadd, 1) := by decide +kernel
theorem dL_law_1160 : decode cL_law 1160 = .ok (.iaload, 1) := by decide +kernel
theorem dL_law_1161 : decode cL_law 1161 = .ok (.aload_n 0, 1) := by decide +kernel
theorem dL_law_1162 : decode cL_law 1162 = .ok (.iload_n 3, 1) := by decide +kernel
theorem dL_law_1163 : decode cL_law 1163 = .ok (.iconst 4, 1) := by decide +kernel
theorem dL_law_1164 : decode cL_law 1164 = .ok (.iadd, 1) := by decide +kernel
theorem dL_law_1165 : decode cL_law 1165 = .ok (.iaload, 1) := by decide +kernel
theorem dL_law_1166 : decode cL_law 1166 = .ok (.invokevirtual 119, 3) := by decide +kernel
theorem m_1052 : Cond.code yX12_finding cX12_finding 7 (some .int) ∈ BW := List.mem_of_getElem? (i := 1052) (by decide +kernel)
theorem m_1049 : Cond.methodLink RL 119 yX12_finding ∈ BW := List.mem_of_getElem? (i := 1049) (by decide +kernel)
theorem m_1050 : Cond.instanceMethod yX12_finding ∈ BW := List.mem_of_getElem? (i := 1050) (by decide +kernel)
theorem m_1051 : Cond.selects RX12 yX12_finding yX12_finding ∈ BW := List.mem_of_getElem? (i := 1051) (by decide +kernel)
theorem si_L_119 : SV RL RX12 119 yX12_finding cX12_finding 7 (some .int) 4 := ⟨⟨m_1049, m_1050, m_1051, m_5, m_1052⟩, rfl, by decide +kernel, by decide +kernel, by decide +kernel⟩
theorem dL_law_1169 : decode cL_law 1169 = .ok (.if_icmp .eq 549, 3) := by decide +kernel
theorem dL_law_1174 : decode cL_law 1174 = .ok (.aload_n 1, 1) := by decide +kernel
theorem dL_law_1175 : decode cL_law 1175 = .ok (.aload_n 0, 1) := by decide +kernel
theorem dL_law_1176 : decode cL_law 1176 = .ok (.iload_n 3, 1) := by decide +kernel
theorem dL_law_1177 : decode cL_law 1177 = .ok (.iconst 1, 1) := by decide +kernel
theorem dL_law_1178 : decode cL_law 1178 = .ok (.iadd, 1) := by decide +kernel
theorem dL_law_1179 : decode cL_law 1179 = .ok (.iaload, 1) := by decide +kernel
theorem dL_law_1180 : decode cL_law 1180 = .ok (.aload_n 0, 1) := by decide +kernel
theorem dL_law_1181 : decode cL_law 1181 = .ok (.iload_n 3, 1) := by decide +kernel
theorem dL_law_1182 : decode cL_law 1182 = .ok (.iconst 2, 1) := by decide +kernel
theorem dL_law_1183 : decode cL_law 1183 = .ok (.iadd, 1) := by decide +kernel
theorem dL_law_1184 : decode cL_law 1184 = .ok (.iaload, 1) := by decide +kernel
theorem dL_law_1185 : decode cL_law 1185 = .ok (.invokevirtual 120, 3) := by decide +kernel
theorem m_1056 : Cond.code yX11_findingOf cX11_findingOf 4 (some .int) ∈ BW := List.mem_of_getElem? (i := 1056) (by decide +kernel)
theorem m_1053 : Cond.methodLink RL 120 yX11_findingOf ∈ BW := List.mem_of_getElem? (i := 1053) (by decide +kernel)
theorem m_1054 : Cond.instanceMethod yX11_findingOf ∈ BW := List.mem_of_getElem? (i := 1054) (by decide +kernel)
theorem m_1055 : Cond.selects RX11 yX11_findingOf yX11_findingOf ∈ BW := List.mem_of_getElem? (i := 1055) (by decide +kernel)
theorem si_L_120 : SV RL RX11 120 yX11_findingOf cX11_findingOf 4 (some .int) 2 := ⟨⟨m_1053, m_1054, m_1055, m_2, m_1056⟩, rfl, by decide +kernel, by decide +kernel, by decide +kernel⟩
theorem dL_law_1188 : decode cL_law 1188 = .ok (.aload_n 2, 1) := by decide +kernel
theorem dL_law_1189 : decode cL_law 1189 = .ok (.aload_n 0, 1) := by decide +kernel
theorem dL_law_1190 : decode cL_law 1190 = .ok (.iload_n 3, 1) := by decide +kernel
theorem dL_law_1191 : decode cL_law 1191 = .ok (.iconst 1, 1) := by decide +kernel
theorem dL_law_1192 : decode cL_law 1192 = .ok (.iadd, 1) := by decide +kernel
theorem dL_law_1193 : decode cL_law 1193 = .ok (.iaload, 1) := by decide +kernel
theorem dL_law_1194 : decode cL_law 1194 = .ok (.aload_n 0, 1) := by decide +kernel
theorem dL_law_1195 : decode cL_law 1195 = .ok (.iload_n 3, 1) := by decide +kernel
theorem dL_law_1196 : decode cL_law 1196 = .ok (.iconst 2, 1) := by decide +kernel
theorem dL_law_1197 : decode cL_law 1197 = .ok (.iadd, 1) := by decide +kernel
theorem dL_law_1198 : decode cL_law 1198 = .ok (.iaload, 1) := by decide +kernel
theorem dL_law_1199 : decode cL_law 1199 = .ok (.invokevirtual 123, 3) := by decide +kernel
theorem m_1086 : Cond.code yX12_findingOf cX12_findingOf 3 (some .int) ∈ BW := List.mem_of_getElem? (i := 1086) (by decide +kernel)
theorem m_1083 : Cond.methodLink RL 123 yX12_findingOf ∈ BW := List.mem_of_getElem? (i := 1083) (by decide +kernel)
theorem m_1084 : Cond.instanceMethod yX12_findingOf ∈ BW := List.mem_of_getElem? (i := 1084) (by decide +kernel)
theorem m_1085 : Cond.selects RX12 yX12_findingOf yX12_findingOf ∈ BW := List.mem_of_getElem? (i := 1085) (by decide +kernel)
theorem si_L_123 : SV RL RX12 123 yX12_findingOf cX12_findingOf 3 (some .int) 2 := ⟨⟨m_1083, m_1084, m_1085, m_5, m_1086⟩, rfl, by decide +kernel, by decide +kernel, by decide +kernel⟩
theorem dL_law_1202 : decode cL_law 1202 = .ok (.if_icmp .eq 516, 3) := by decide +kernel
theorem dL_law_1207 : decode cL_law 1207 = .ok (.aload_n 1, 1) := by decide +kernel
theorem dL_law_1208 : decode cL_law 1208 = .ok (.aload_n 0, 1) := by decide +kernel
theorem dL_law_1209 : decode cL_law 1209 = .ok (.iload_n 3, 1) := by decide +kernel
theorem dL_law_1210 : decode cL_law 1210 = .ok (.iconst 1, 1) := by decide +kernel
theorem dL_law_1211 : decode cL_law 1211 = .ok (.iadd, 1) := by decide +kernel
theorem dL_law_1212 : decode cL_law 1212 = .ok (.iaload, 1) := by decide +kernel
theorem dL_law_1213 : decode cL_law 1213 = .ok (.aload_n 0, 1) := by decide +kernel
theorem dL_law_1214 : decode cL_law 1214 = .ok (.iload_n 3, 1) := by decide +kernel
theorem dL_law_1215 : decode cL_law 1215 = .ok (.iconst 2, 1) := by decide +kernel
theorem dL_law_1216 : decode cL_law 1216 = .ok (.iadd, 1) := by decide +kernel
theorem dL_law_1217 : decode cL_law 1217 = .ok (.iaload, 1) := by decide +kernel
theorem dL_law_1218 : decode cL_law 1218 = .ok (.invokevirtual 124, 3) := by decide +kernel
theorem m_1107 : Cond.code yX11_warn cX11_warn 4 (some .int) ∈ BW := List.mem_of_getElem? (i := 1107) (by decide +kernel)
theorem m_1104 : Cond.methodLink RL 124 yX11_warn ∈ BW := List.mem_of_getElem? (i := 1104) (by decide +kernel)
theorem m_1105 : Cond.instanceMethod yX11_warn ∈ BW := List.mem_of_getElem? (i := 1105) (by decide +kernel)
theorem m_1106 : Cond.selects RX11 yX11_warn yX11_warn ∈ BW := List.mem_of_getElem? (i := 1106) (by decide +kernel)
theorem si_L_124 : SV RL RX11 124 yX11_warn cX11_warn 4 (some .int) 2 := ⟨⟨m_1104, m_1105, m_1106, m_2, m_1107⟩, rfl, by decide +kernel, by decide +kernel, by decide +kernel⟩
theorem dL_law_1221 : decode cL_law 1221 = .ok (.aload_n 2, 1) := by decide +kernel
theorem dL_law_1222 : decode cL_law 1222 = .ok (.aload_n 0, 1) := by decide +kernel
theorem dL_law_1223 : decode cL_law 1223 = .ok (.iload_n 3, 1) := by decide +kernel
theorem dL_law_1224 : decode cL_law 1224 = .ok (.iconst 1, 1) := by decide +kernel
theorem dL_law_1225 : decode cL_law 1225 = .ok (.iadd, 1) := by decide +kernel
theorem dL_law_1226 : decode cL_law 1226 = .ok (.iaload, 1) := by decide +kernel
theorem dL_law_1227 : decode cL_law 1227 = .ok (.aload_n 0, 1) := by decide +kernel
theorem dL_law_1228 : decode cL_law 1228 = .ok (.iload_n 3, 1) := by decide +kernel
theorem dL_law_1229 : decode cL_law 1229 = .ok (.iconst 2, 1) := by decide +kernel
theorem dL_law_1230 : decode cL_law 1230 = .ok (.iadd, 1) := by decide +kernel
theorem dL_law_1231 : decode cL_law 1231 = .ok (.iaload, 1) := by decide +kernel
theorem dL_law_1232 : decode cL_law 1232 = .ok (.invokevirtual 127, 3) := by decide +kernel
theorem m_1111 : Cond.code yX12_warn cX12_warn 4 (some .int) ∈ BW := List.mem_of_getElem? (i := 1111) (by decide +kernel)
theorem m_1108 : Cond.methodLink RL 127 yX12_warn ∈ BW := List.mem_of_getElem? (i := 1108) (by decide +kernel)
theorem m_1109 : Cond.instanceMethod yX12_warn ∈ BW := List.mem_of_getElem? (i := 1109) (by decide +kernel)
theorem m_1110 : Cond.selects RX12 yX12_warn yX12_warn ∈ BW := List.mem_of_getElem? (i := 1110) (by decide +kernel)
theorem si_L_127 : SV RL RX12 127 yX12_warn cX12_warn 4 (some .int) 2 := ⟨⟨m_1108, m_1109, m_1110, m_5, m_1111⟩, rfl, by decide +kernel, by decide +kernel, by decide +kernel⟩
theorem dL_law_1235 : decode cL_law 1235 = .ok (.if_icmp .eq 483, 3) := by decide +kernel
theorem dL_law_1240 : decode cL_law 1240 = .ok (.aload_n 1, 1) := by decide +kernel
theorem dL_law_1241 : decode cL_law 1241 = .ok (.aload_n 0, 1) := by decide +kernel
theorem dL_law_1242 : decode cL_law 1242 = .ok (.iload_n 3, 1) := by decide +kernel
theorem dL_law_1243 : decode cL_law 1243 = .ok (.iconst 1, 1) := by decide +kernel
theorem dL_law_1244 : decode cL_law 1244 = .ok (.iadd, 1) := by decide +kernel
theorem dL_law_1245 : decode cL_law 1245 = .ok (.iaload, 1) := by decide +kernel
theorem dL_law_1246 : decode cL_law 1246 = .ok (.aload_n 0, 1) := by decide +kernel
theorem dL_law_1247 : decode cL_law 1247 = .ok (.iload_n 3, 1) := by decide +kernel
theorem dL_law_1248 : decode cL_law 1248 = .ok (.iconst 2, 1) := by decide +kernel
theorem dL_law_1249 : decode cL_law 1249 = .ok (.iadd, 1) := by decide +kernel
theorem dL_law_1250 : decode cL_law 1250 = .ok (.iaload, 1) := by decide +kernel
theorem dL_law_1251 : decode cL_law 1251 = .ok (.invokevirtual 128, 3) := by decide +kernel
theorem m_1115 : Cond.code yX11_question cX11_question 4 (some .int) ∈ BW := List.mem_of_getElem? (i := 1115) (by decide +kernel)
theorem m_1112 : Cond.methodLink RL 128 yX11_question ∈ BW := List.mem_of_getElem? (i := 1112) (by decide +kernel)
theorem m_1113 : Cond.instanceMethod yX11_question ∈ BW := List.mem_of_getElem? (i := 1113) (by decide +kernel)
theorem m_1114 : Cond.selects RX11 yX11_question yX11_question ∈ BW := List.mem_of_getElem? (i := 1114) (by decide +kernel)
theorem si_L_128 : SV RL RX11 128 yX11_question cX11_question 4 (some .int) 2 := ⟨⟨m_1112, m_1113, m_1114, m_2, m_1115⟩, rfl, by decide +kernel, by decide +kernel, by decide +kernel⟩
theorem dL_law_1254 : decode cL_law 1254 = .ok (.aload_n 2, 1) := by decide +kernel
theorem dL_law_1255 : decode cL_law 1255 = .ok (.aload_n 0, 1) := by decide +kernel
theorem dL_law_1256 : decode cL_law 1256 = .ok (.iload_n 3, 1) := by decide +kernel
theorem dL_law_1257 : decode cL_law 1257 = .ok (.iconst 1, 1) := by decide +kernel
theorem dL_law_1258 : decode cL_law 1258 = .ok (.iadd, 1) := by decide +kernel
theorem dL_law_1259 : decode cL_law 1259 = .ok (.iaload, 1) := by decide +kernel
theorem dL_law_1260 : decode cL_law 1260 = .ok (.aload_n 0, 1) := by decide +kernel
theorem dL_law_1261 : decode cL_law 1261 = .ok (.iload_n 3, 1) := by decide +kernel
theorem dL_law_1262 : decode cL_law 1262 = .ok (.iconst 2, 1) := by decide +kernel
theorem dL_law_1263 : decode cL_law 1263 = .ok (.iadd, 1) := by decide +kernel
theorem dL_law_1264 : decode cL_law 1264 = .ok (.iaload, 1) := by decide +kernel
theorem dL_law_1265 : decode cL_law 1265 = .ok (.invokevirtual 131, 3) := by decide +kernel
theorem m_1119 : Cond.code yX12_question cX12_question 4 (some .int) ∈ BW := List.mem_of_getElem? (i := 1119) (by decide +kernel)
theorem m_1116 : Cond.methodLink RL 131 yX12_question ∈ BW := List.mem_of_getElem? (i := 1116) (by decide +kernel)
theorem m_1117 : Cond.instanceMethod yX12_question ∈ BW := List.mem_of_getElem? (i := 1117) (by decide +kernel)
theorem m_1118 : Cond.selects RX12 yX12_question yX12_question ∈ BW := List.mem_of_getElem? (i := 1118) (by decide +kernel)
theorem si_L_131 : SV RL RX12 131 yX12_question cX12_question 4 (some .int) 2 := ⟨⟨m_1116, m_1117, m_1118, m_5, m_1119⟩, rfl, by decide +kernel, by decide +kernel, by decide +kernel⟩
theorem dL_law_1268 : decode cL_law 1268 = .ok (.if_icmp .eq 450, 3) := by decide +kernel
theorem dL_law_1273 : decode cL_law 1273 = .ok (.aload_n 1, 1) := by decide +kernel
theorem dL_law_1274 : decode cL_law 1274 = .ok (.aload_n 0, 1) := by decide +kernel
theorem dL_law_1275 : decode cL_law 1275 = .ok (.iload_n 3, 1) := by decide +kernel
theorem dL_law_1276 : decode cL_law 1276 = .ok (.iconst 1, 1) := by decide +kernel
theorem dL_law_1277 : decode cL_law 1277 = .ok (.iadd, 1) := by decide +kernel
theorem dL_law_1278 : decode cL_law 1278 = .ok (.iaload, 1) := by decide +kernel
theorem dL_law_1279 : decode cL_law 1279 = .ok (.invokevirtual 132, 3) := by decide +kernel
theorem m_1123 : Cond.code yX11_round cX11_round 2 (some .int) ∈ BW := List.mem_of_getElem? (i := 1123) (by decide +kernel)
theorem m_1120 : Cond.methodLink RL 132 yX11_round ∈ BW := List.mem_of_getElem? (i := 1120) (by decide +kernel)
theorem m_1121 : Cond.instanceMethod yX11_round ∈ BW := List.mem_of_getElem? (i := 1121) (by decide +kernel)
theorem m_1122 : Cond.selects RX11 yX11_round yX11_round ∈ BW := List.mem_of_getElem? (i := 1122) (by decide +kernel)
theorem si_L_132 : SV RL RX11 132 yX11_round cX11_round 2 (some .int) 1 := ⟨⟨m_1120, m_1121, m_1122, m_2, m_1123⟩, rfl, by decide +kernel, by decide +kernel, by decide +kernel⟩
theorem dL_law_1282 : decode cL_law 1282 = .ok (.aload_n 2, 1) := by decide +kernel
theorem dL_law_1283 : decode cL_law 1283 = .ok (.aload_n 0, 1) := by decide +kernel
theorem dL_law_1284 : decode cL_law 1284 = .ok (.iload_n 3, 1) := by decide +kernel
theorem dL_law_1285 : decode cL_law 1285 = .ok (.iconst 1, 1) := by decide +kernel
theorem dL_law_1286 : decode cL_law 1286 = .ok (.iadd, 1) := by decide +kernel
theorem dL_law_1287 : decode cL_law 1287 = .ok (.iaload, 1) := by decide +kernel
theorem dL_law_1288 : decode cL_law 1288 = .ok (.invokevirtual 135, 3) := by decide +kernel
theorem m_1153 : Cond.code yX12_round cX12_round 4 (some .int) ∈ BW := List.mem_of_getElem? (i := 1153) (by decide +kernel)
theorem m_1150 : Cond.methodLink RL 135 yX12_round ∈ BW := List.mem_of_getElem? (i := 1150) (by decide +kernel)
theorem m_1151 : Cond.instanceMethod yX12_round ∈ BW := List.mem_of_getElem? (i := 1151) (by decide +kernel)
theorem m_1152 : Cond.selects RX12 yX12_round yX12_round ∈ BW := List.mem_of_getElem? (i := 1152) (by decide +kernel)
theorem si_L_135 : SV RL RX12 135 yX12_round cX12_round 4 (some .int) 1 := ⟨⟨m_1150, m_1151, m_1152, m_5, m_1153⟩, rfl, by decide +kernel, by decide +kernel, by decide +kernel⟩
theorem dL_law_1291 : decode cL_law 1291 = .ok (.if_icmp .eq 427, 3) := by decide +kernel
theorem dL_law_1296 : decode cL_law 1296 = .ok (.aload_n 1, 1) := by decide +kernel
theorem dL_law_1297 : decode cL_law 1297 = .ok (.aload_n 0, 1) := by decide +kernel
theorem dL_law_1298 : decode cL_law 1298 = .ok (.iload_n 3, 1) := by decide +kernel
theorem dL_law_1299 : decode cL_law 1299 = .ok (.iconst 1, 1) := by decide +kernel
theorem dL_law_1300 : decode cL_law 1300 = .ok (.iadd, 1) := by decide +kernel
theorem dL_law_1301 : decode cL_law 1301 = .ok (.iaload, 1) := by decide +kernel
theorem dL_law_1302 : decode cL_law 1302 = .ok (.aload_n 0, 1) := by decide +kernel
theorem dL_law_1303 : decode cL_law 1303 = .ok (.iload_n 3, 1) := by decide +kernel
theorem dL_law_1304 : decode cL_law 1304 = .ok (.iconst 2, 1) := by decide +kernel
theorem dL_law_1305 : decode cL_law 1305 = .ok (.iadd, 1) := by decide +kernel
theorem dL_law_1306 : decode cL_law 1306 = .ok (.iaload, 1) := by decide +kernel
theorem dL_law_1307 : decode cL_law 1307 = .ok (.invokevirtual 136, 3) := by decide +kernel
theorem m_1164 : Cond.code yX11_row cX11_row 3 (some .int) ∈ BW := List.mem_of_getElem? (i := 1164) (by decide +kernel)
theorem m_1161 : Cond.methodLink RL 136 yX11_row ∈ BW := List.mem_of_getElem? (i := 1161) (by decide +kernel)
theorem m_1162 : Cond.instanceMethod yX11_row ∈ BW := List.mem_of_getElem? (i := 1162) (by decide +kernel)
theorem m_1163 : Cond.selects RX11 yX11_row yX11_row ∈ BW := List.mem_of_getElem? (i := 1163) (by decide +kernel)
theorem si_L_136 : SV RL RX11 136 yX11_row cX11_row 3 (some .int) 2 := ⟨⟨m_1161, m_1162, m_1163, m_2, m_1164⟩, rfl, by decide +kernel, by decide +kernel, by decide +kernel⟩
theorem dL_law_1310 : decode cL_law 1310 = .ok (.aload_n 2, 1) := by decide +kernel
theorem dL_law_1311 : decode cL_law 1311 = .ok (.aload_n 0, 1) := by decide +kernel
theorem dL_law_1312 : decode cL_law 1312 = .ok (.iload_n 3, 1) := by decide +kernel
theorem dL_law_1313 : decode cL_law 1313 = .ok (.iconst 1, 1) := by decide +kernel
theorem dL_law_1314 : decode cL_law 1314 = .ok (.iadd, 1) := by decide +kernel
theorem dL_law_1315 : decode cL_law 1315 = .ok (.iaload, 1) := by decide +kernel
theorem dL_law_1316 : decode cL_law 1316 = .ok (.aload_n 0, 1) := by decide +kernel
theorem dL_law_1317 : decode cL_law 1317 = .ok (.iload_n 3, 1) := by decide +kernel
theorem dL_law_1318 : decode cL_law 1318 = .ok (.iconst 2, 1) := by decide +kernel
theorem dL_law_1319 : decode cL_law 1319 = .ok (.iadd, 1) := by decide +kernel
theorem dL_law_1320 : decode cL_law 1320 = .ok (.iaload, 1) := by decide +kernel
theorem dL_law_1321 : decode cL_law 1321 = .ok (.invokevirtual 139, 3) := by decide +kernel
theorem m_1168 : Cond.code yX12_row cX12_row 3 (some .int) ∈ BW := List.mem_of_getElem? (i := 1168) (by decide +kernel)
theorem m_1165 : Cond.methodLink RL 139 yX12_row ∈ BW := List.mem_of_getElem? (i := 1165) (by decide +kernel)
theorem m_1166 : Cond.instanceMethod yX12_row ∈ BW := List.mem_of_getElem? (i := 1166) (by decide +kernel)
theorem m_1167 : Cond.selects RX12 yX12_row yX12_row ∈ BW := List.mem_of_getElem? (i := 1167) (by decide +kernel)
theorem si_L_139 : SV RL RX12 139 yX12_row cX12_row 3 (some .int) 2 := ⟨⟨m_1165, m_1166, m_1167, m_5, m_1168⟩, rfl, by decide +kernel, by decide +kernel, by decide +kernel⟩
theorem dL_law_1324 : decode cL_law 1324 = .ok (.if_icmp .eq 394, 3) := by decide +kernel
theorem dL_law_1329 : decode cL_law 1329 = .ok (.aload_n 1, 1) := by decide +kernel
theorem dL_law_1330 : decode cL_law 1330 = .ok (.aload_n 0, 1) := by decide +kernel
theorem dL_law_1331 : decode cL_law 1331 = .ok (.iload_n 3, 1) := by decide +kernel
theorem dL_law_1332 : decode cL_law 1332 = .ok (.iconst 1, 1) := by decide +kernel
theorem dL_law_1333 : decode cL_law 1333 = .ok (.iadd, 1) := by decide +kernel
theorem dL_law_1334 : decode cL_law 1334 = .ok (.iaload, 1) := by decide +kernel
theorem dL_law_1335 : decode cL_law 1335 = .ok (.aload_n 0, 1) := by decide +kernel
theorem dL_law_1336 : decode cL_law 1336 = .ok (.iload_n 3, 1) := by decide +kernel
theorem dL_law_1337 : decode cL_law 1337 = .ok (.iconst 2, 1) := by decide +kernel
theorem dL_law_1338 : decode cL_law 1338 = .ok (.iadd, 1) := by decide +kernel
theorem dL_law_1339 : decode cL_law 1339 = .ok (.iaload, 1) := by decide +kernel
theorem dL_law_1340 : decode cL_law 1340 = .ok (.aload_n 0, 1) := by decide +kernel
theorem dL_law_1341 : decode cL_law 1341 = .ok (.iload_n 3, 1) := by decide +kernel
theorem dL_law_1342 : decode cL_law 1342 = .ok (.iconst 3, 1) := by decide +kernel
theorem dL_law_1343 : decode cL_law 1343 = .ok (.iadd, 1) := by decide +kernel
theorem dL_law_1344 : decode cL_law 1344 = .ok (.iaload, 1) := by decide +kernel
theorem dL_law_1345 : decode cL_law 1345 = .ok (.invokevirtual 140, 3) := by decide +kernel
theorem m_1176 : Cond.code yX11_alterRow cX11_alterRow 5 (some .int) ∈ BW := List.mem_of_getElem? (i := 1176) (by decide +kernel)
theorem m_1173 : Cond.methodLink RL 140 yX11_alterRow ∈ BW := List.mem_of_getElem? (i := 1173) (by decide +kernel)
theorem m_1174 : Cond.instanceMethod yX11_alterRow ∈ BW := List.mem_of_getElem? (i := 1174) (by decide +kernel)
theorem m_1175 : Cond.selects RX11 yX11_alterRow yX11_alterRow ∈ BW := List.mem_of_getElem? (i := 1175) (by decide +kernel)
theorem si_L_140 : SV RL RX11 140 yX11_alterRow cX11_alterRow 5 (some .int) 3 := ⟨⟨m_1173, m_1174, m_1175, m_2, m_1176⟩, rfl, by decide +kernel, by decide +kernel, by decide +kernel⟩
theorem dL_law_1348 : decode cL_law 1348 = .ok (.aload_n 2, 1) := by decide +kernel
theorem dL_law_1349 : decode cL_law 1349 = .ok (.aload_n 0, 1) := by decide +kernel
theorem dL_law_1350 : decode cL_law 1350 = .ok (.iload_n 3, 1) := by decide +kernel
theorem dL_law_1351 : decode cL_law 1351 = .ok (.iconst 1, 1) := by decide +kernel
theorem dL_law_1352 : decode cL_law 1352 = .ok (.iadd, 1) := by decide +kernel
theorem dL_law_1353 : decode cL_law 1353 = .ok (.iaload, 1) := by decide +kernel
theorem dL_law_1354 : decode cL_law 1354 = .ok (.aload_n 0, 1) := by decide +kernel
theorem dL_law_1355 : decode cL_law 1355 = .ok (.iload_n 3, 1) := by decide +kernel
theorem dL_law_1356 : decode cL_law 1356 = .ok (.iconst 2, 1) := by decide +kernel
theorem dL_law_1357 : decode cL_law 1357 = .ok (.iadd, 1) := by decide +kernel
theorem dL_law_1358 : decode cL_law 1358 = .ok (.iaload, 1) := by decide +kernel
theorem dL_law_1359 : decode cL_law 1359 = .ok (.aload_n 0, 1) := by decide +kernel
theorem dL_law_1360 : decode cL_law 1360 = .ok (.iload_n 3, 1) := by decide +kernel
theorem dL_law_1361 : decode cL_law 1361 = .ok (.iconst 3, 1) := by decide +kernel
theorem dL_law_1362 : decode cL_law 1362 = .ok (.iadd, 1) := by decide +kernel
theorem dL_law_1363 : decode cL_law 1363 = .ok (.iaload, 1) := by decide +kernel
theorem dL_law_1364 : decode cL_law 1364 = .ok (.invokevirtual 143, 3) := by decide +kernel
theorem m_1180 : Cond.code yX12_alterRow cX12_alterRow 5 (some .int) ∈ BW := List.mem_of_getElem? (i := 1180) (by decide +kernel)
theorem m_1177 : Cond.methodLink RL 143 yX12_alterRow ∈ BW := List.mem_of_getElem? (i := 1177) (by decide +kernel)
theorem m_1178 : Cond.instanceMethod yX12_alterRow ∈ BW := List.mem_of_getElem? (i := 1178) (by decide +kernel)
theorem m_1179 : Cond.selects RX12 yX12_alterRow yX12_alterRow ∈ BW := List.mem_of_getElem? (i := 1179) (by decide +kernel)
theorem si_L_143 : SV RL RX12 143 yX12_alterRow cX12_alterRow 5 (some .int) 3 := ⟨⟨m_1177, m_1178, m_1179, m_5, m_1180⟩, rfl, by decide +kernel, by decide +kernel, by decide +kernel⟩
theorem dL_law_1367 : decode cL_law 1367 = .ok (.if_icmp .eq 351, 3) := by decide +kernel
theorem dL_law_1372 : decode cL_law 1372 = .ok (.aload_n 1, 1) := by decide +kernel
theorem dL_law_1373 : decode cL_law 1373 = .ok (.invokevirtual 144, 3) := by decide +kernel
theorem m_1184 : Cond.code yX11_dropRow cX11_dropRow 1 (some .int) ∈ BW := List.mem_of_getElem? (i := 1184) (by decide +kernel)
theorem m_1181 : Cond.methodLink RL 144 yX11_dropRow ∈ BW := List.mem_of_getElem? (i := 1181) (by decide +kernel)
theorem m_1182 : Cond.instanceMethod yX11_dropRow ∈ BW := List.mem_of_getElem? (i := 1182) (by decide +kernel)
theorem m_1183 : Cond.selects RX11 yX11_dropRow yX11_dropRow ∈ BW := List.mem_of_getElem? (i := 1183) (by decide +kernel)
theorem si_L_144 : SV RL RX11 144 yX11_dropRow cX11_dropRow 1 (some .int) 0 := ⟨⟨m_1181, m_1182, m_1183, m_2, m_1184⟩, rfl, by decide +kernel, by decide +kernel, by decide +kernel⟩
theorem dL_law_1376 : decode cL_law 1376 = .ok (.aload_n 2, 1) := by decide +kernel
theorem dL_law_1377 : decode cL_law 1377 = .ok (.invokevirtual 147, 3) := by decide +kernel
theorem m_1189 : Cond.code yX12_dropRow cX12_dropRow 1 (some .int) ∈ BW := List.mem_of_getElem? (i := 1189) (by decide +kernel)
theorem m_1186 : Cond.methodLink RL 147 yX12_dropRow ∈ BW := List.mem_of_getElem? (i := 1186) (by decide +kernel)
theorem m_1187 : Cond.instanceMethod yX12_dropRow ∈ BW := List.mem_of_getElem? (i := 1187) (by decide +kernel)
theorem m_1188 : Cond.selects RX12 yX12_dropRow yX12_dropRow ∈ BW := List.mem_of_getElem? (i := 1188) (by decide +kernel)
theorem si_L_147 : SV RL RX12 147 yX12_dropRow cX12_dropRow 1 (some .int) 0 := ⟨⟨m_1186, m_1187, m_1188, m_5, m_1189⟩, rfl, by decide +kernel, by decide +kernel, by decide +kernel⟩
theorem dL_law_1380 : decode cL_law 1380 = .ok (.if_icmp .eq 338, 3) := by decide +kernel
theorem dL_law_1385 : decode cL_law 1385 = .ok (.aload_n 1, 1) := by decide +kernel
theorem dL_law_1386 : decode cL_law 1386 = .ok (.invokevirtual 148, 3) := by decide +kernel
theorem m_1193 : Cond.code yX11_judge cX11_judge 1 (some .int) ∈ BW := List.mem_of_getElem? (i := 1193) (by decide +kernel)
theorem m_1190 : Cond.methodLink RL 148 yX11_judge ∈ BW := List.mem_of_getElem? (i := 1190) (by decide +kernel)
theorem m_1191 : Cond.instanceMethod yX11_judge ∈ BW := List.mem_of_getElem? (i := 1191) (by decide +kernel)
theorem m_1192 : Cond.selects RX11 yX11_judge yX11_judge ∈ BW := List.mem_of_getElem? (i := 1192) (by decide +kernel)
theorem si_L_148 : SV RL RX11 148 yX11_judge cX11_judge 1 (some .int) 0 := ⟨⟨m_1190, m_1191, m_1192, m_2, m_1193⟩, rfl, by decide +kernel, by decide +kernel, by decide +kernel⟩
theorem dL_law_1389 : decode cL_law 1389 = .ok (.aload_n 2, 1) := by decide +kernel
theorem dL_law_1390 : decode cL_law 1390 = .ok (.invokevirtual 151, 3) := by decide +kernel
theorem m_1206 : Cond.code yX12_judge cX12_judge 5 (some .int) ∈ BW := List.mem_of_getElem? (i := 1206) (by decide +kernel)
theorem m_1203 : Cond.methodLink RL 151 yX12_judge ∈ BW := List.mem_of_getElem? (i := 1203) (by decide +kernel)
theorem m_1204 : Cond.instanceMethod yX12_judge ∈ BW := List.mem_of_getElem? (i := 1204) (by decide +kernel)
theorem m_1205 : Cond.selects RX12 yX12_judge yX12_judge ∈ BW := List.mem_of_getElem? (i := 1205) (by decide +kernel)
theorem si_L_151 : SV RL RX12 151 yX12_judge cX12_judge 5 (some .int) 0 := ⟨⟨m_1203, m_1204, m_1205, m_5, m_1206⟩, rfl, by decide +kernel, by decide +kernel, by decide +kernel⟩
theorem dL_law_1393 : decode cL_law 1393 = .ok (.if_icmp .eq 325, 3) := by decide +kernel
theorem dL_law_1398 : decode cL_law 1398 = .ok (.aload_n 1, 1) := by decide +kernel
theorem dL_law_1399 : decode cL_law 1399 = .ok (.aload_n 0, 1) := by decide +kernel
theorem dL_law_1400 : decode cL_law 1400 = .ok (.iload_n 3, 1) := by decide +kernel
theorem dL_law_1401 : decode cL_law 1401 = .ok (.iconst 1, 1) := by decide +kernel
theorem dL_law_1402 : decode cL_law 1402 = .ok (.iadd, 1) := by decide +kernel
theorem dL_law_1403 : decode cL_law 1403 = .ok (.iaload, 1) := by decide +kernel
theorem dL_law_1404 : decode cL_law 1404 = .ok (.aload_n 0, 1) := by decide +kernel
theorem dL_law_1405 : decode cL_law 1405 = .ok (.iload_n 3, 1) := by decide +kernel
theorem dL_law_1406 : decode cL_law 1406 = .ok (.iconst 2, 1) := by decide +kernel
theorem dL_law_1407 : decode cL_law 1407 = .ok (.iadd, 1) := by decide +kernel
theorem dL_law_1408 : decode cL_law 1408 = .ok (.iaload, 1) := by decide +kernel
theorem dL_law_1409 : decode cL_law 1409 = .ok (.aload_n 0, 1) := by decide +kernel
theorem dL_law_1410 : decode cL_law 1410 = .ok (.iload_n 3, 1) := by decide +kernel
theorem dL_law_1411 : decode cL_law 1411 = .ok (.iconst 3, 1) := by decide +kernel
theorem dL_law_1412 : decode cL_law 1412 = .ok (.iadd, 1) := by decide +kernel
theorem dL_law_1413 : decode cL_law 1413 = .ok (.iaload, 1) := by decide +kernel
theorem dL_law_1414 : decode cL_law 1414 = .ok (.invokevirtual 152, 3) := by decide +kernel
theorem m_1210 : Cond.code yX11_sheet cX11_sheet 4 (some .int) ∈ BW := List.mem_of_getElem? (i := 1210) (by decide +kernel)
theorem m_1207 : Cond.methodLink RL 152 yX11_sheet ∈ BW := List.mem_of_getElem? (i := 1207) (by decide +kernel)
theorem m_1208 : Cond.instanceMethod yX11_sheet ∈ BW := List.mem_of_getElem? (i := 1208) (by decide +kernel)
theorem m_1209 : Cond.selects RX11 yX11_sheet yX11_sheet ∈ BW := List.mem_of_getElem? (i := 1209) (by decide +kernel)
theorem si_L_152 : SV RL RX11 152 yX11_sheet cX11_sheet 4 (some .int) 3 := ⟨⟨m_1207, m_1208, m_1209, m_2, m_1210⟩, rfl, by decide +kernel, by decide +kernel, by decide +kernel⟩
theorem dL_law_1417 : decode cL_law 1417 = .ok (.aload_n 2, 1) := by decide +kernel
theorem dL_law_1418 : decode cL_law 1418 = .ok (.aload_n 0, 1) := by decide +kernel
theorem dL_law_1419 : decode cL_law 1419 = .ok (.iload_n 3, 1) := by decide +kernel
theorem dL_law_1420 : decode cL_law 1420 = .ok (.iconst 1, 1) := by decide +kernel
theorem dL_law_1421 : decode cL_law 1421 = .ok (.iadd, 1) := by decide +kernel
theorem dL_law_1422 : decode cL_law 1422 = .ok (.iaload, 1) := by decide +kernel
theorem dL_law_1423 : decode cL_law 1423 = .ok (.aload_n 0, 1) := by decide +kernel
theorem dL_law_1424 : decode cL_law 1424 = .ok (.iload_n 3, 1) := by decide +kernel
theorem dL_law_1425 : decode cL_law 1425 = .ok (.iconst 2, 1) := by decide +kernel
theorem dL_law_1426 : decode cL_law 1426 = .ok (.iadd, 1) := by decide +kernel
theorem dL_law_1427 : decode cL_law 1427 = .ok (.iaload, 1) := by decide +kernel
theorem dL_law_1428 : decode cL_law 1428 = .ok (.aload_n 0, 1) := by decide +kernel
theorem dL_law_1429 : decode cL_law 1429 = .ok (.iload_n 3, 1) := by decide +kernel
theorem dL_law_1430 : decode cL_law 1430 = .ok (.iconst 3, 1) := by decide +kernel
theorem dL_law_1431 : decode cL_law 1431 = .ok (.iadd, 1) := by decide +kernel
theorem dL_law_1432 : decode cL_law 1432 = .ok (.iaload, 1) := by decide +kernel
theorem dL_law_1433 : decode cL_law 1433 = .ok (.invokevirtual 155, 3) := by decide +kernel
theorem m_1222 : Cond.code yX12_sheet cX12_sheet 5 (some .int) ∈ BW := List.mem_of_getElem? (i := 1222) (by decide +kernel)
theorem m_1219 : Cond.methodLink RL 155 yX12_sheet ∈ BW := List.mem_of_getElem? (i := 1219) (by decide +kernel)
theorem m_1220 : Cond.instanceMethod yX12_sheet ∈ BW := List.mem_of_getElem? (i := 1220) (by decide +kernel)
theorem m_1221 : Cond.selects RX12 yX12_sheet yX12_sheet ∈ BW := List.mem_of_getElem? (i := 1221) (by decide +kernel)
theorem si_L_155 : SV RL RX12 155 yX12_sheet cX12_sheet 5 (some .int) 3 := ⟨⟨m_1219, m_1220, m_1221, m_5, m_1222⟩, rfl, by decide +kernel, by decide +kernel, by decide +kernel⟩
theorem dL_law_1436 : decode cL_law 1436 = .ok (.if_icmp .eq 282, 3) := by decide +kernel
theorem dL_law_1441 : decode cL_law 1441 = .ok (.aload_n 1, 1) := by decide +kernel
theorem dL_law_1442 : decode cL_law 1442 = .ok (.aload_n 0, 1) := by decide +kernel
theorem dL_law_1443 : decode cL_law 1443 = .ok (.iload_n 3, 1) := by decide +kernel
theorem dL_law_1444 : decode cL_law 1444 = .ok (.iconst 1, 1) := by decide +kernel
theorem dL_law_1445 : decode cL_law 1445 = .ok (.iadd, 1) := by decide +kernel
theorem dL_law_1446 : decode cL_law 1446 = .ok (.iaload, 1) := by decide +kernel
theorem dL_law_1447 : decode cL_law 1447 = .ok (.aload_n 0, 1) := by decide +kernel
theorem dL_law_1448 : decode cL_law 1448 = .ok (.iload_n 3, 1) := by decide +kernel
theorem dL_law_1449 : decode cL_law 1449 = .ok (.iconst 2, 1) := by decide +kernel
theorem dL_law_1450 : decode cL_law 1450 = .ok (.iadd, 1) := by decide +kernel
theorem dL_law_1451 : decode cL_law 1451 = .ok (.iaload, 1) := by decide +kernel
theorem dL_law_1452 : decode cL_law 1452 = .ok (.aload_n 0, 1) := by decide +kernel
theorem dL_law_1453 : decode cL_law 1453 = .ok (.iload_n 3, 1) := by decide +kernel
theorem dL_law_1454 : decode cL_law 1454 = .ok (.iconst 3, 1) := by decide +kernel
theorem dL_law_1455 : decode cL_law 1455 = .ok (.iadd, 1) := by decide +kernel
theorem dL_law_1456 : decode cL_law 1456 = .ok (.iaload, 1) := by decide +kernel
theorem dL_law_1457 : decode cL_law 1457 = .ok (.invokevirtual 156, 3) := by decide +kernel
theorem m_1226 : Cond.code yX11_put cX11_put 4 (some .int) ∈ BW := List.mem_of_getElem? (i := 1226) (by decide +kernel)
theorem m_1223 : Cond.methodLink RL 156 yX11_put ∈ BW := List.mem_of_getElem? (i := 1223) (by decide +kernel)
theorem m_1224 : Cond.instanceMethod yX11_put ∈ BW := List.mem_of_getElem? (i := 1224) (by decide +kernel)
theorem m_1225 : Cond.selects RX11 yX11_put yX11_put ∈ BW := List.mem_of_getElem? (i := 1225) (by decide +kernel)
theorem si_L_156 : SV RL RX11 156 yX11_put cX11_put 4 (some .int) 3 := ⟨⟨m_1223, m_1224, m_1225, m_2, m_1226⟩, rfl, by decide +kernel, by decide +kernel, by decide +kernel⟩
theorem dL_law_1460 : decode cL_law 1460 = .ok (.aload_n 2, 1) := by decide +kernel
theorem dL_law_1461 : decode cL_law 1461 = .ok (.aload_n 0, 1) := by decide +kernel
theorem dL_law_1462 : decode cL_law 1462 = .ok (.iload_n 3, 1) := by decide +kernel
theorem dL_law_1463 : decode cL_law 1463 = .ok (.iconst 1, 1) := by decide +kernel
theorem dL_law_1464 : decode cL_law 1464 = .ok (.iadd, 1) := by decide +kernel
theorem dL_law_1465 : decode cL_law 1465 = .ok (.iaload, 1) := by decide +kernel
theorem dL_law_1466 : decode cL_law 1466 = .ok (.aload_n 0, 1) := by decide +kernel
theorem dL_law_1467 : decode cL_law 1467 = .ok (.iload_n 3, 1) := by decide +kernel
theorem dL_law_1468 : decode cL_law 1468 = .ok (.iconst 2, 1) := by decide +kernel
theorem dL_law_1469 : decode cL_law 1469 = .ok (.iadd, 1) := by decide +kernel
theorem dL_law_1470 : decode cL_law 1470 = .ok (.iaload, 1) := by decide +kernel
theorem dL_law_1471 : decode cL_law 1471 = .ok (.aload_n 0, 1) := by decide +kernel
theorem dL_law_1472 : decode cL_law 1472 = .ok (.iload_n 3, 1) := by decide +kernel
theorem dL_law_1473 : decode cL_law 1473 = .ok (.iconst 3, 1) := by decide +kernel
theorem dL_law_1474 : decode cL_law 1474 = .ok (.iadd, 1) := by decide +kernel
theorem dL_law_1475 : decode cL_law 1475 = .ok (.iaload, 1) := by decide +kernel
theorem dL_law_1476 : decode cL_law 1476 = .ok (.invokevirtual 159, 3) := by decide +kernel
theorem m_1235 : Cond.code yX12_put cX12_put 4 (some .int) ∈ BW := List.mem_of_getElem? (i := 1235) (by decide +kernel)
theorem m_1232 : Cond.methodLink RL 159 yX12_put ∈ BW := List.mem_of_getElem? (i := 1232) (by decide +kernel)
theorem m_1233 : Cond.instanceMethod yX12_put ∈ BW := List.mem_of_getElem? (i := 1233) (by decide +kernel)
theorem m_1234 : Cond.selects RX12 yX12_put yX12_put ∈ BW := List.mem_of_getElem? (i := 1234) (by decide +kernel)
theorem si_L_159 : SV RL RX12 159 yX12_put cX12_put 4 (some .int) 3 := ⟨⟨m_1232, m_1233, m_1234, m_5, m_1235⟩, rfl, by decide +kernel, by decide +kernel, by decide +kernel⟩
theorem dL_law_1479 : decode cL_law 1479 = .ok (.if_icmp .eq 239, 3) := by decide +kernel
theorem dL_law_1484 : decode cL_law 1484 = .ok (.aload_n 1, 1) := by decide +kernel
theorem dL_law_1485 : decode cL_law 1485 = .ok (.aload_n 0, 1) := by decide +kernel
theorem dL_law_1486 : decode cL_law 1486 = .ok (.iload_n 3, 1) := by decide +kernel
theorem dL_law_1487 : decode cL_law 1487 = .ok (.iconst 1, 1) := by decide +kernel
theorem dL_law_1488 : decode cL_law 1488 = .ok (.iadd, 1) := by decide +kernel
theorem dL_law_1489 : decode cL_law 1489 = .ok (.iaload, 1) := by decide +kernel
theorem dL_law_1490 : decode cL_law 1490 = .ok (.aload_n 0, 1) := by decide +kernel
theorem dL_law_1491 : decode cL_law 1491 = .ok (.iload_n 3, 1) := by decide +kernel
theorem dL_law_1492 : decode cL_law 1492 = .ok (.iconst 2, 1) := by decide +kernel
theorem dL_law_1493 : decode cL_law 1493 = .ok (.iadd, 1) := by decide +kernel
theorem dL_law_1494 : decode cL_law 1494 = .ok (.iaload, 1) := by decide +kernel
theorem dL_law_1495 : decode cL_law 1495 = .ok (.aload_n 0, 1) := by decide +kernel
theorem dL_law_1496 : decode cL_law 1496 = .ok (.iload_n 3, 1) := by decide +kernel
theorem dL_law_1497 : decode cL_law 1497 = .ok (.iconst 3, 1) := by decide +kernel
theorem dL_law_1498 : decode cL_law 1498 = .ok (.iadd, 1) := by decide +kernel
theorem dL_law_1499 : decode cL_law 1499 = .ok (.iaload, 1) := by decide +kernel
theorem dL_law_1500 : decode cL_law 1500 = .ok (.invokevirtual 160, 3) := by decide +kernel
theorem m_1239 : Cond.code yX11_item cX11_item 5 (some .int) ∈ BW := List.mem_of_getElem? (i := 1239) (by decide +kernel)
theorem m_1236 : Cond.methodLink RL 160 yX11_item ∈ BW := List.mem_of_getElem? (i := 1236) (by decide +kernel)
theorem m_1237 : Cond.instanceMethod yX11_item ∈ BW := List.mem_of_getElem? (i := 1237) (by decide +kernel)
theorem m_1238 : Cond.selects RX11 yX11_item yX11_item ∈ BW := List.mem_of_getElem? (i := 1238) (by decide +kernel)
theorem si_L_160 : SV RL RX11 160 yX11_item cX11_item 5 (some .int) 3 := ⟨⟨m_1236, m_1237, m_1238, m_2, m_1239⟩, rfl, by decide +kernel, by decide +kernel, by decide +kernel⟩
theorem dL_law_1503 : decode cL_law 1503 = .ok (.aload_n 2, 1) := by decide +kernel
theorem dL_law_1504 : decode cL_law 1504 = .ok (.aload_n 0, 1) := by decide +kernel
theorem dL_law_1505 : decode cL_law 1505 = .ok (.iload_n 3, 1) := by decide +kernel
theorem dL_law_1506 : decode cL_law 1506 = .ok (.iconst 1, 1) := by decide +kernel
theorem dL_law_1507 : decode cL_law 1507 = .ok (.iadd, 1) := by decide +kernel
theorem dL_law_1508 : decode cL_law 1508 = .ok (.iaload, 1) := by decide +kernel
theorem dL_law_1509 : decode cL_law 1509 = .ok (.aload_n 0, 1) := by decide +kernel
theorem dL_law_1510 : decode cL_law 1510 = .ok (.iload_n 3, 1) := by decide +kernel
theorem dL_law_1511 : decode cL_law 1511 = .ok (.iconst 2, 1) := by decide +kernel
theorem dL_law_1512 : decode cL_law 1512 = .ok (.iadd, 1) := by decide +kernel
theorem dL_law_1513 : decode cL_law 1513 = .ok (.iaload, 1) := by decide +kernel
theorem dL_law_1514 : decode cL_law 1514 = .ok (.aload_n 0, 1) := by decide +kernel
theorem dL_law_1515 : decode cL_law 1515 = .ok (.iload_n 3, 1) := by decide +kernel
theorem dL_law_1516 : decode cL_law 1516 = .ok (.iconst 3, 1) := by decide +kernel
theorem dL_law_1517 : decode cL_law 1517 = .ok (.iadd, 1) := by decide +kernel
theorem dL_law_1518 : decode cL_law 1518 = .ok (.iaload, 1) := by decide +kernel
theorem dL_law_1519 : decode cL_law 1519 = .ok (.invokevirtual 163, 3) := by decide +kernel
theorem m_1246 : Cond.code yX12_item cX12_item 5 (some .int) ∈ BW := List.mem_of_getElem? (i := 1246) (by decide +kernel)
theorem m_1243 : Cond.methodLink RL 163 yX12_item ∈ BW := List.mem_of_getElem? (i := 1243) (by decide +kernel)
theorem m_1244 : Cond.instanceMethod yX12_item ∈ BW := List.mem_of_getElem? (i := 1244) (by decide +kernel)
theorem m_1245 : Cond.selects RX12 yX12_item yX12_item ∈ BW := List.mem_of_getElem? (i := 1245) (by decide +kernel)
theorem si_L_163 : SV RL RX12 163 yX12_item cX12_item 5 (some .int) 3 := ⟨⟨m_1243, m_1244, m_1245, m_5, m_1246⟩, rfl, by decide +kernel, by decide +kernel, by decide +kernel⟩
theorem dL_law_1522 : decode cL_law 1522 = .ok (.if_icmp .eq 196, 3) := by decide +kernel
theorem dL_law_1527 : decode cL_law 1527 = .ok (.aload_n 1, 1) := by decide +kernel
theorem dL_law_1528 : decode cL_law 1528 = .ok (.aload_n 0, 1) := by decide +kernel
theorem dL_law_1529 : decode cL_law 1529 = .ok (.iload_n 3, 1) := by decide +kernel
theorem dL_law_1530 : decode cL_law 1530 = .ok (.iconst 1, 1) := by decide +kernel
theorem dL_law_1531 : decode cL_law 1531 = .ok (.iadd, 1) := by decide +kernel
theorem dL_law_1532 : decode cL_law 1532 = .ok (.iaload, 1) := by decide +kernel
theorem dL_law_1533 : decode cL_law 1533 = .ok (.aload_n 0, 1) := by decide +kernel
theorem dL_law_1534 : decode cL_law 1534 = .ok (.iload_n 3, 1) := by decide +kernel
theorem dL_law_1535 : decode cL_law 1535 = .ok (.iconst 2, 1) := by decide +kernel
theorem dL_law_1536 : decode cL_law 1536 = .ok (.iadd, 1) := by decide +kernel
theorem dL_law_1537 : decode cL_law 1537 = .ok (.iaload, 1) := by decide +kernel
theorem dL_law_1538 : decode cL_law 1538 = .ok (.aload_n 0, 1) := by decide +kernel
theorem dL_law_1539 : decode cL_law 1539 = .ok (.iload_n 3, 1) := by decide +kernel
theorem dL_law_1540 : decode cL_law 1540 = .ok (.iconst 3, 1) := by decide +kernel
theorem dL_law_1541 : decode cL_law 1541 = .ok (.iadd, 1) := by decide +kernel
theorem dL_law_1542 : decode cL_law 1542 = .ok (.iaload, 1) := by decide +kernel
theorem dL_law_1543 : decode cL_law 1543 = .ok (.invokevirtual 164, 3) := by decide +kernel
theorem m_1254 : Cond.code yX11_shelf cX11_shelf 4 (some .int) ∈ BW := List.mem_of_getElem? (i := 1254) (by decide +kernel)
theorem m_1251 : Cond.methodLink RL 164 yX11_shelf ∈ BW := List.mem_of_getElem? (i := 1251) (by decide +kernel)
theorem m_1252 : Cond.instanceMethod yX11_shelf ∈ BW := List.mem_of_getElem? (i := 1252) (by decide +kernel)
theorem m_1253 : Cond.selects RX11 yX11_shelf yX11_shelf ∈ BW := List.mem_of_getElem? (i := 1253) (by decide +kernel)
theorem si_L_164 : SV RL RX11 164 yX11_shelf cX11_shelf 4 (some .int) 3 := ⟨⟨m_1251, m_1252, m_1253, m_2, m_1254⟩, rfl, by decide +kernel, by decide +kernel, by decide +kernel⟩
theorem dL_law_1546 : decode cL_law 1546 = .ok (.aload_n 2, 1) := by decide +kernel
theorem dL_law_1547 : decode cL_law 1547 = .ok (.aload_n 0, 1) := by decide +kernel
theorem dL_law_1548 : decode cL_law 1548 = .ok (.iload_n 3, 1) := by decide +kernel
theorem dL_law_1549 : decode cL_law 1549 = .ok (.iconst 1, 1) := by decide +kernel
theorem dL_law_1550 : decode cL_law 1550 = .ok (.iadd, 1) := by decide +kernel
theorem dL_law_1551 : decode cL_law 1551 = .ok (.iaload, 1) := by decide +kernel
theorem dL_law_1552 : decode cL_law 1552 = .ok (.aload_n 0, 1) := by decide +kernel
theorem dL_law_1553 : decode cL_law 1553 = .ok (.iload_n 3, 1) := by decide +kernel
theorem dL_law_1554 : decode cL_law 1554 = .ok (.iconst 2, 1) := by decide +kernel
theorem dL_law_1555 : decode cL_law 1555 = .ok (.iadd, 1) := by decide +kernel
theorem dL_law_1556 : decode cL_law 1556 = .ok (.iaload, 1) := by decide +kernel
theorem dL_law_1557 : decode cL_law 1557 = .ok (.aload_n 0, 1) := by decide +kernel
theorem dL_law_1558 : decode cL_law 1558 = .ok (.iload_n 3, 1) := by decide +kernel
theorem dL_law_1559 : decode cL_law 1559 = .ok (.iconst 3, 1) := by decide +kernel
theorem dL_law_1560 : decode cL_law 1560 = .ok (.iadd, 1) := by decide +kernel
theorem dL_law_1561 : decode cL_law 1561 = .ok (.iaload, 1) := by decide +kernel
theorem dL_law_1562 : decode cL_law 1562 = .ok (.invokevirtual 167, 3) := by decide +kernel
theorem m_1270 : Cond.code yX12_shelf cX12_shelf 6 (some .int) ∈ BW := List.mem_of_getElem? (i := 1270) (by decide +kernel)
theorem m_1267 : Cond.methodLink RL 167 yX12_shelf ∈ BW := List.mem_of_getElem? (i := 1267) (by decide +kernel)
theorem m_1268 : Cond.instanceMethod yX12_shelf ∈ BW := List.mem_of_getElem? (i := 1268) (by decide +kernel)
theorem m_1269 : Cond.selects RX12 yX12_shelf yX12_shelf ∈ BW := List.mem_of_getElem? (i := 1269) (by decide +kernel)
theorem si_L_167 : SV RL RX12 167 yX12_shelf cX12_shelf 6 (some .int) 3 := ⟨⟨m_1267, m_1268, m_1269, m_5, m_1270⟩, rfl, by decide +kernel, by decide +kernel, by decide +kernel⟩
theorem dL_law_1565 : decode cL_law 1565 = .ok (.if_icmp .eq 153, 3) := by decide +kernel
theorem dL_law_1570 : decode cL_law 1570 = .ok (.aload_n 1, 1) := by decide +kernel
theorem dL_law_1571 : decode cL_law 1571 = .ok (.aload_n 0, 1) := by decide +kernel
theorem dL_law_1572 : decode cL_law 1572 = .ok (.iload_n 3, 1) := by decide +kernel
theorem dL_law_1573 : decode cL_law 1573 = .ok (.iconst 1, 1) := by decide +kernel
theorem dL_law_1574 : decode cL_law 1574 = .ok (.iadd, 1) := by decide +kernel
theorem dL_law_1575 : decode cL_law 1575 = .ok (.iaload, 1) := by decide +kernel
theorem dL_law_1576 : decode cL_law 1576 = .ok (.aload_n 0, 1) := by decide +kernel
theorem dL_law_1577 : decode cL_law 1577 = .ok (.iload_n 3, 1) := by decide +kernel
theorem dL_law_1578 : decode cL_law 1578 = .ok (.iconst 2, 1) := by decide +kernel
theorem dL_law_1579 : decode cL_law 1579 = .ok (.iadd, 1) := by decide +kernel
theorem dL_law_1580 : decode cL_law 1580 = .ok (.iaload, 1) := by decide +kernel
theorem dL_law_1581 : decode cL_law 1581 = .ok (.invokevirtual 168, 3) := by decide +kernel
theorem m_1274 : Cond.code yX11_taken cX11_taken 4 (some .int) ∈ BW := List.mem_of_getElem? (i := 1274) (by decide +kernel)
theorem m_1271 : Cond.methodLink RL 168 yX11_taken ∈ BW := List.mem_of_getElem? (i := 1271) (by decide +kernel)
theorem m_1272 : Cond.instanceMethod yX11_taken ∈ BW := List.mem_of_getElem? (i := 1272) (by decide +kernel)
theorem m_1273 : Cond.selects RX11 yX11_taken yX11_taken ∈ BW := List.mem_of_getElem? (i := 1273) (by decide +kernel)
theorem si_L_168 : SV RL RX11 168 yX11_taken cX11_taken 4 (some .int) 2 := ⟨⟨m_1271, m_1272, m_1273, m_2, m_1274⟩, rfl, by decide +kernel, by decide +kernel, by decide +kernel⟩
theorem dL_law_1584 : decode cL_law 1584 = .ok (.aload_n 2, 1) := by decide +kernel
theorem dL_law_1585 : decode cL_law 1585 = .ok (.aload_n 0, 1) := by decide +kernel
theorem dL_law_1586 : decode cL_law 1586 = .ok (.iload_n 3, 1) := by decide +kernel
theorem dL_law_1587 : decode cL_law 1587 = .ok (.iconst 1, 1) := by decide +kernel
theorem dL_law_1588 : decode cL_law 1588 = .ok (.iadd, 1) := by decide +kernel
theorem dL_law_1589 : decode cL_law 1589 = .ok (.iaload, 1) := by decide +kernel
theorem dL_law_1590 : decode cL_law 1590 = .ok (.aload_n 0, 1) := by decide +kernel
theorem dL_law_1591 : decode cL_law 1591 = .ok (.iload_n 3, 1) := by decide +kernel
theorem dL_law_1592 : decode cL_law 1592 = .ok (.iconst 2, 1) := by decide +kernel
theorem dL_law_1593 : decode cL_law 1593 = .ok (.iadd, 1) := by decide +kernel
theorem dL_law_1594 : decode cL_law 1594 = .ok (.iaload, 1) := by decide +kernel
theorem dL_law_1595 : decode cL_law 1595 = .ok (.invokevirtual 171, 3) := by decide +kernel
theorem m_1305 : Cond.code yX12_taken cX12_taken 4 (some .int) ∈ BW := List.mem_of_getElem? (i := 1305) (by decide +kernel)
theorem m_1302 : Cond.methodLink RL 171 yX12_taken ∈ BW := List.mem_of_getElem? (i := 1302) (by decide +kernel)
theorem m_1303 : Cond.instanceMethod yX12_taken ∈ BW := List.mem_of_getElem? (i := 1303) (by decide +kernel)
theorem m_1304 : Cond.selects RX12 yX12_taken yX12_taken ∈ BW := List.mem_of_getElem? (i := 1304) (by decide +kernel)
theorem si_L_171 : SV RL RX12 171 yX12_taken cX12_taken 4 (some .int) 2 := ⟨⟨m_1302, m_1303, m_1304, m_5, m_1305⟩, rfl, by decide +kernel, by decide +kernel, by decide +kernel⟩
theorem dL_law_1598 : decode cL_law 1598 = .ok (.if_icmp .eq 120, 3) := by decide +kernel
theorem dL_law_1603 : decode cL_law 1603 = .ok (.aload_n 1, 1) := by decide +kernel
theorem dL_law_1604 : decode cL_law 1604 = .ok (.aload_n 0, 1) := by decide +kernel
theorem dL_law_1605 : decode cL_law 1605 = .ok (.iload_n 3, 1) := by decide +kernel
theorem dL_law_1606 : decode cL_law 1606 = .ok (.iconst 1, 1) := by decide +kernel
theorem dL_law_1607 : decode cL_law 1607 = .ok (.iadd, 1) := by decide +kernel
theorem dL_law_1608 : decode cL_law 1608 = .ok (.iaload, 1) := by decide +kernel
theorem dL_law_1609 : decode cL_law 1609 = .ok (.aload_n 0, 1) := by decide +kernel
theorem dL_law_1610 : decode cL_law 1610 = .ok (.iload_n 3, 1) := by decide +kernel
theorem dL_law_1611 : decode cL_law 1611 = .ok (.iconst 2, 1) := by decide +kernel
theorem dL_law_1612 : decode cL_law 1612 = .ok (.iadd, 1) := by decide +kernel
theorem dL_law_1613 : decode cL_law 1613 = .ok (.iaload, 1) := by decide +kernel
theorem dL_law_1614 : decode cL_law 1614 = .ok (.aload_n 0, 1) := by decide +kernel
theorem dL_law_1615 : decode cL_law 1615 = .ok (.iload_n 3, 1) := by decide +kernel
theorem dL_law_1616 : decode cL_law 1616 = .ok (.iconst 3, 1) := by decide +kernel
theorem dL_law_1617 : decode cL_law 1617 = .ok (.iadd, 1) := by decide +kernel
theorem dL_law_1618 : decode cL_law 1618 = .ok (.iaload, 1) := by decide +kernel
theorem dL_law_1619 : decode cL_law 1619 = .ok (.invokevirtual 172, 3) := by decide +kernel
theorem m_1316 : Cond.code yX11_deal cX11_deal 5 (some .int) ∈ BW := List.mem_of_getElem? (i := 1316) (by decide +kernel)
theorem m_1313 : Cond.methodLink RL 172 yX11_deal ∈ BW := List.mem_of_getElem? (i := 1313) (by decide +kernel)
theorem m_1314 : Cond.instanceMethod yX11_deal ∈ BW := List.mem_of_getElem? (i := 1314) (by decide +kernel)
theorem m_1315 : Cond.selects RX11 yX11_deal yX11_deal ∈ BW := List.mem_of_getElem? (i := 1315) (by decide +kernel)
theorem si_L_172 : SV RL RX11 172 yX11_deal cX11_deal 5 (some .int) 3 := ⟨⟨m_1313, m_1314, m_1315, m_2, m_1316⟩, rfl, by decide +kernel, by decide +kernel, by decide +kernel⟩
theorem dL_law_1622 : decode cL_law 1622 = .ok (.aload_n 2, 1) := by decide +kernel
theorem dL_law_1623 : decode cL_law 1623 = .ok (.aload_n 0, 1) := by decide +kernel
theorem dL_law_1624 : decode cL_law 1624 = .ok (.iload_n 3, 1) := by decide +kernel
theorem dL_law_1625 : decode cL_law 1625 = .ok (.iconst 1, 1) := by decide +kernel
theorem dL_law_1626 : decode cL_law 1626 = .ok (.iadd, 1) := by decide +kernel
theorem dL_law_1627 : decode cL_law 1627 = .ok (.iaload, 1) := by decide +kernel
theorem dL_law_1628 : decode cL_law 1628 = .ok (.aload_n 0, 1) := by decide +kernel
theorem dL_law_1629 : decode cL_law 1629 = .ok (.iload_n 3, 1) := by decide +kernel
theorem dL_law_1630 : decode cL_law 1630 = .ok (.iconst 2, 1) := by decide +kernel
theorem dL_law_1631 : decode cL_law 1631 = .ok (.iadd, 1) := by decide +kernel
theorem dL_law_1632 : decode cL_law 1632 = .ok (.iaload, 1) := by decide +kernel
theorem dL_law_1633 : decode cL_law 1633 = .ok (.aload_n 0, 1) := by decide +kernel
theorem dL_law_1634 : decode cL_law 1634 = .ok (.iload_n 3, 1) := by decide +kernel
theorem dL_law_1635 : decode cL_law 1635 = .ok (.iconst 3, 1) := by decide +kernel
theorem dL_law_1636 : decode cL_law 1636 = .ok (.iadd, 1) := by decide +kernel
theorem dL_law_1637 : decode cL_law 1637 = .ok (.iaload, 1) := by decide +kernel
theorem dL_law_1638 : decode cL_law 1638 = .ok (.invokevirtual 175, 3) := by decide +kernel
theorem m_1345 : Cond.code yX12_deal cX12_deal 8 (some .int) ∈ BW := List.mem_of_getElem? (i := 1345) (by decide +kernel)
theorem m_1342 : Cond.methodLink RL 175 yX12_deal ∈ BW := List.mem_of_getElem? (i := 1342) (by decide +kernel)
theorem m_1343 : Cond.instanceMethod yX12_deal ∈ BW := List.mem_of_getElem? (i := 1343) (by decide +kernel)
theorem m_1344 : Cond.selects RX12 yX12_deal yX12_deal ∈ BW := List.mem_of_getElem? (i := 1344) (by decide +kernel)
theorem si_L_175 : SV RL RX12 175 yX12_deal cX12_deal 8 (some .int) 3 := ⟨⟨m_1342, m_1343, m_1344, m_5, m_1345⟩, rfl, by decide +kernel, by decide +kernel, by decide +kernel⟩
theorem dL_law_1641 : decode cL_law 1641 = .ok (.if_icmp .eq 77, 3) := by decide +kernel
theorem dL_law_1646 : decode cL_law 1646 = .ok (.aload_n 1, 1) := by decide +kernel
theorem dL_law_1647 : decode cL_law 1647 = .ok (.aload_n 0, 1) := by decide +kernel
theorem dL_law_1648 : decode cL_law 1648 = .ok (.iload_n 3, 1) := by decide +kernel
theorem dL_law_1649 : decode cL_law 1649 = .ok (.iconst 1, 1) := by decide +kernel
theorem dL_law_1650 : decode cL_law 1650 = .ok (.iadd, 1) := by decide +kernel
theorem dL_law_1651 : decode cL_law 1651 = .ok (.iaload, 1) := by decide +kernel
theorem dL_law_1652 : decode cL_law 1652 = .ok (.invokevirtual 176, 3) := by decide +kernel
theorem m_1374 : Cond.code yX11_trace cX11_trace 2 (some .int) ∈ BW := List.mem_of_getElem? (i := 1374) (by decide +kernel)
theorem m_1371 : Cond.methodLink RL 176 yX11_trace ∈ BW := List.mem_of_getElem? (i := 1371) (by decide +kernel)
theorem m_1372 : Cond.instanceMethod yX11_trace ∈ BW := List.mem_of_getElem? (i := 1372) (by decide +kernel)
theorem m_1373 : Cond.selects RX11 yX11_trace yX11_trace ∈ BW := List.mem_of_getElem? (i := 1373) (by decide +kernel)
theorem si_L_176 : SV RL RX11 176 yX11_trace cX11_trace 2 (some .int) 1 := ⟨⟨m_1371, m_1372, m_1373, m_2, m_1374⟩, rfl, by decide +kernel, by decide +kernel, by decide +kernel⟩
theorem dL_law_1655 : decode cL_law 1655 = .ok (.aload_n 2, 1) := by decide +kernel
theorem dL_law_1656 : decode cL_law 1656 = .ok (.aload_n 0, 1) := by decide +kernel
theorem dL_law_1657 : decode cL_law 1657 = .ok (.iload_n 3, 1) := by decide +kernel
theorem dL_law_1658 : decode cL_law 1658 = .ok (.iconst 1, 1) := by decide +kernel
theorem dL_law_1659 : decode cL_law 1659 = .ok (.iadd, 1) := by decide +kernel
theorem dL_law_1660 : decode cL_law 1660 = .ok (.iaload, 1) := by decide +kernel
theorem dL_law_1661 : decode cL_law 1661 = .ok (.invokevirtual 179, 3) := by decide +kernel
theorem m_1386 : Cond.code yX12_trace cX12_trace 2 (some .int) ∈ BW := List.mem_of_getElem? (i := 1386) (by decide +kernel)
theorem m_1383 : Cond.methodLink RL 179 yX12_trace ∈ BW := List.mem_of_getElem? (i := 1383) (by decide +kernel)
theorem m_1384 : Cond.instanceMethod yX12_trace ∈ BW := List.mem_of_getElem? (i := 1384) (by decide +kernel)
theorem m_1385 : Cond.selects RX12 yX12_trace yX12_trace ∈ BW := List.mem_of_getElem? (i := 1385) (by decide +kernel)
theorem si_L_179 : SV RL RX12 179 yX12_trace cX12_trace 2 (some .int) 1 := ⟨⟨m_1383, m_1384, m_1385, m_5, m_1386⟩, rfl, by decide +kernel, by decide +kernel, by decide +kernel⟩
theorem dL_law_1664 : decode cL_law 1664 = .ok (.if_icmp .eq 54, 3) := by decide +kernel
theorem dL_law_1669 : decode cL_law 1669 = .ok (.aload_n 1, 1) := by decide +kernel
theorem dL_law_1670 : decode cL_law 1670 = .ok (.aload_n 0, 1) := by decide +kernel
theorem dL_law_1671 : decode cL_law 1671 = .ok (.iload_n 3, 1) := by decide +kernel
theorem dL_law_1672 : decode cL_law 1672 = .ok (.iconst 1, 1) := by decide +kernel
theorem dL_law_1673 : decode cL_law 1673 = .ok (.iadd, 1) := by decide +kernel
theorem dL_law_1674 : decode cL_law 1674 = .ok (.iaload, 1) := by decide +kernel
theorem dL_law_1675 : decode cL_law 1675 = .ok (.invokevirtual 180, 3) := by decide +kernel
theorem m_1390 : Cond.code yX11_many cX11_many 2 (some .int) ∈ BW := List.mem_of_getElem? (i := 1390) (by decide +kernel)
theorem m_1387 : Cond.methodLink RL 180 yX11_many ∈ BW := List.mem_of_getElem? (i := 1387) (by decide +kernel)
theorem m_1388 : Cond.instanceMethod yX11_many ∈ BW := List.mem_of_getElem? (i := 1388) (by decide +kernel)
theorem m_1389 : Cond.selects RX11 yX11_many yX11_many ∈ BW := List.mem_of_getElem? (i := 1389) (by decide +kernel)
theorem si_L_180 : SV RL RX11 180 yX11_many cX11_many 2 (some .int) 1 := ⟨⟨m_1387, m_1388, m_1389, m_2, m_1390⟩, rfl, by decide +kernel, by decide +kernel, by decide +kernel⟩
theorem dL_law_1678 : decode cL_law 1678 = .ok (.aload_n 2, 1) := by decide +kernel
theorem dL_law_1679 : decode cL_law 1679 = .ok (.aload_n 0, 1) := by decide +kernel
theorem dL_law_1680 : decode cL_law 1680 = .ok (.iload_n 3, 1) := by decide +kernel
theorem dL_law_1681 : decode cL_law 1681 = .ok (.iconst 1, 1) := by decide +kernel
theorem dL_law_1682 : decode cL_law 1682 = .ok (.iadd, 1) := by decide +kernel
theorem dL_law_1683 : decode cL_law 1683 = .ok (.iaload, 1) := by decide +kernel
theorem dL_law_1684 : decode cL_law 1684 = .ok (.invokevirtual 183, 3) := by decide +kernel
theorem m_1402 : Cond.code yX12_many cX12_many 4 (some .int) ∈ BW := List.mem_of_getElem? (i := 1402) (by decide +kernel)
theorem m_1399 : Cond.methodLink RL 183 yX12_many ∈ BW := List.mem_of_getElem? (i := 1399) (by decide +kernel)
theorem m_1400 : Cond.instanceMethod yX12_many ∈ BW := List.mem_of_getElem? (i := 1400) (by decide +kernel)
theorem m_1401 : Cond.selects RX12 yX12_many yX12_many ∈ BW := List.mem_of_getElem? (i := 1401) (by decide +kernel)
theorem si_L_183 : SV RL RX12 183 yX12_many cX12_many 4 (some .int) 1 := ⟨⟨m_1399, m_1400, m_1401, m_5, m_1402⟩, rfl, by decide +kernel, by decide +kernel, by decide +kernel⟩
theorem dL_law_1687 : decode cL_law 1687 = .ok (.if_icmp .eq 31, 3) := by decide +kernel
theorem dL_law_1692 : decode cL_law 1692 = .ok (.aload_n 1, 1) := by decide +kernel
theorem dL_law_1693 : decode cL_law 1693 = .ok (.invokevirtual 184, 3) := by decide +kernel
theorem m_1406 : Cond.code yX11_keep cX11_keep 1 (some .int) ∈ BW := List.mem_of_getElem? (i := 1406) (by decide +kernel)
theorem m_1403 : Cond.methodLink RL 184 yX11_keep ∈ BW := List.mem_of_getElem? (i := 1403) (by decide +kernel)
theorem m_1404 : Cond.instanceMethod yX11_keep ∈ BW := List.mem_of_getElem? (i := 1404) (by decide +kernel)
theorem m_1405 : Cond.selects RX11 yX11_keep yX11_keep ∈ BW := List.mem_of_getElem? (i := 1405) (by decide +kernel)
theorem si_L_184 : SV RL RX11 184 yX11_keep cX11_keep 1 (some .int) 0 := ⟨⟨m_1403, m_1404, m_1405, m_2, m_1406⟩, rfl, by decide +kernel, by decide +kernel, by decide +kernel⟩
theorem dL_law_1696 : decode cL_law 1696 = .ok (.aload_n 2, 1) := by decide +kernel
theorem dL_law_1697 : decode cL_law 1697 = .ok (.invokevirtual 187, 3) := by decide +kernel
theorem m_1419 : Cond.code yX12_keep cX12_keep 2 (some .int) ∈ BW := List.mem_of_getElem? (i := 1419) (by decide +kernel)
theorem m_1416 : Cond.methodLink RL 187 yX12_keep ∈ BW := List.mem_of_getElem? (i := 1416) (by decide +kernel)
theorem m_1417 : Cond.instanceMethod yX12_keep ∈ BW := List.mem_of_getElem? (i := 1417) (by decide +kernel)
theorem m_1418 : Cond.selects RX12 yX12_keep yX12_keep ∈ BW := List.mem_of_getElem? (i := 1418) (by decide +kernel)
theorem si_L_187 : SV RL RX12 187 yX12_keep cX12_keep 2 (some .int) 0 := ⟨⟨m_1416, m_1417, m_1418, m_5, m_1419⟩, rfl, by decide +kernel, by decide +kernel, by decide +kernel⟩
theorem dL_law_1700 : decode cL_law 1700 = .ok (.if_icmp .eq 18, 3) := by decide +kernel
theorem dL_law_1705 : decode cL_law 1705 = .ok (.aload_n 1, 1) := by decide +kernel
theorem dL_law_1706 : decode cL_law 1706 = .ok (.invokevirtual 188, 3) := by decide +kernel
theorem m_1424 : Cond.code yX11_again cX11_again 1 (some .int) ∈ BW := List.mem_of_getElem? (i := 1424) (by decide +kernel)
theorem m_1421 : Cond.methodLink RL 188 yX11_again ∈ BW := List.mem_of_getElem? (i := 1421) (by decide +kernel)
theorem m_1422 : Cond.instanceMethod yX11_again ∈ BW := List.mem_of_getElem? (i := 1422) (by decide +kernel)
theorem m_1423 : Cond.selects RX11 yX11_again yX11_again ∈ BW := List.mem_of_getElem? (i := 1423) (by decide +kernel)
theorem si_L_188 : SV RL RX11 188 yX11_again cX11_again 1 (some .int) 0 := ⟨⟨m_1421, m_1422, m_1423, m_2, m_1424⟩, rfl, by decide +kernel, by decide +kernel, by decide +kernel⟩
theorem dL_law_1709 : decode cL_law 1709 = .ok (.aload_n 2, 1) := by decide +kernel
theorem dL_law_1710 : decode cL_law 1710 = .ok (.invokevirtual 191, 3) := by decide +kernel
theorem m_1428 : Cond.code yX12_again cX12_again 2 (some .int) ∈ BW := List.mem_of_getElem? (i := 1428) (by decide +kernel)
theorem m_1425 : Cond.methodLink RL 191 yX12_again ∈ BW := List.mem_of_getElem? (i := 1425) (by decide +kernel)
theorem m_1426 : Cond.instanceMethod yX12_again ∈ BW := List.mem_of_getElem? (i := 1426) (by decide +kernel)
theorem m_1427 : Cond.selects RX12 yX12_again yX12_again ∈ BW := List.mem_of_getElem? (i := 1427) (by decide +kernel)
theorem si_L_191 : SV RL RX12 191 yX12_again cX12_again 2 (some .int) 0 := ⟨⟨m_1425, m_1426, m_1427, m_5, m_1428⟩, rfl, by decide +kernel, by decide +kernel, by decide +kernel⟩
theorem dL_law_1713 : decode cL_law 1713 = .ok (.if_icmp .eq 5, 3) := by decide +kernel
end WR
abbrev WLAW (G : GG) (x mm : Nat) (ad am : Nat → Nat) (hf : Nat → Option Nat) : va_W := [(x, .inr (11, [.ref (ad 0), .ref (ad 1), .int 0, .ref (ad 2), .ref (ad 3), .ref (ad 4), .ref (ad 5), .ref (ad 6), .ref (ad 7), .ref (ad 8), .ref (ad 9)])), ((ad 0), .inr (0, [.ref (ad 10), .ref (ad 11), .ref (ad 12), .ref (ad 13), .ref (ad 14), .ref (ad 15), .ref (ad 16), .ref (ad 17), .ref (ad 18), .ref (ad 19), .int 0, .int (-1), .int 3, .int 24])), ((ad 10), .inr (8, [.int 10, .int 2, .ref (ad 20), .int 0])), ((ad 20), .inl (G.2.1, 20, .inl (fun _ => 0))), ((ad 11), .inr (8, [.int 12, .int 6, .ref (ad 21), .int 0])), ((ad 21), .inl (G.2.1, 72, .inl (fun _ => 0))), ((ad 12), .inr (8, [.int 24, .int 3, .ref (ad 22), .int 0])), ((ad 22), .inl (G.2.1, 72, .inl (fun _ => 0))), ((ad 13), .inr (8, [.int 8, .int 3, .ref (ad 23), .int 0])), ((ad 23), .inl (G.2.1, 24, .inl (fun _ => 0))), ((ad 14), .inr (8, [.int 72, .int 7, .ref (ad 24), .int 0])), ((ad 24), .inl (G.2.1, 504, .inl (fun _ => 0))), ((ad 15), .inr (8, [.int 960, .int 1, .ref (ad 25), .int 0])), ((ad 25), .inl (G.2.1, 960, .inl (fun _ => 0))), ((ad 16), .inr (8, [.int 16, .int 8, .ref (ad 26), .int 0])), ((ad 26), .inl (G.2.1, 128, .inl (fun _ => 0))), ((ad 17), .inr (8, [.int 12, .int 4, .ref (ad 27), .int 0])), ((ad 27), .inl (G.2.1, 48, .inl (fun _ => 0))), ((ad 18), .inr (8, [.int 16, .int 3, .ref (ad 28), .int 0])), ((ad 28), .inl (G.2.1, 48, .inl (fun _ => 0))), ((ad 19), .inr (8, [.int 7, .int 2, .ref (ad 29), .int 0])), ((ad 29), .inl (G.2.1, 14, .inl (fun _ => 0))), ((ad 1), .inr (0, [.ref (ad 30), .ref (ad 31), .ref (ad 32), .ref (ad 33), .ref (ad 34), .ref (ad 35), .ref (ad 36), .ref (ad 37), .ref (ad 38), .ref (ad 39), .int 0, .int (-1), .int 3, .int 24])), ((ad 30), .inr (8, [.int 10, .int 2, .ref (ad 40), .int 0])), ((ad 40), .inl (G.2.1, 20, .inl (fun _ => 0))), ((ad 31), .inr (8, [.int 12, .int 6, .ref (ad 41), .int 0])), ((ad 41), .inl (G.2.1, 72, .inl (fun _ => 0))), ((ad 32), .inr (8, [.int 24, .int 3, .ref (ad 42), .int 0])), ((ad 42), .inl (G.2.1, 72, .inl (fun _ => 0))), ((ad 33), .inr (8, [.int 8, .int 3, .ref (ad 43), .int 0])), ((ad 43), .inl (G.2.1, 24, .inl (fun _ => 0))), ((ad 34), .inr (8, [.int 72, .int 7, .ref (ad 44), .int 0])), ((ad 44), .inl (G.2.1, 504, .inl (fun _ => 0))), ((ad 35), .inr (8, [.int 960, .int 1, .ref (ad 45), .int 0])), ((ad 45), .inl (G.2.1, 960, .inl (fun _ => 0))), ((ad 36), .inr (8, [.int 16, .int 8, .ref (ad 46), .int 0])), ((ad 46), .inl (G.2.1, 128, .inl (fun _ => 0))), ((ad 37), .inr (8, [.int 12, .int 4, .ref (ad 47), .int 0])), ((ad 47), .inl (G.2.1, 48, .inl (fun _ => 0))), ((ad 38), .inr (8, [.int 16, .int 3, .ref (ad 48), .int 0])), ((ad 48), .inl (G.2.1, 48, .inl (fun _ => 0))), ((ad 39), .inr (8, [.int 7, .int 2, .ref (ad 49), .int 0])), ((ad 49), .inl (G.2.1, 14, .inl (fun _ => 0))), ((ad 2), .inr (7, [.ref (ad 0), .ref (ad 50), .ref (ad 51), .ref (ad 52), .ref (ad 53), .ref (ad 54), .ref (ad 55), .ref (ad 56), .int 0])), ((ad 50), .inr (1, [.ref (ad 57)])), ((ad 57), .inl (G.2.1, 36, .inl (fun _ => 0))), ((ad 51), .inl (G.2.1, 12, .inl (fun _ => 0))), ((ad 52), .inl (G.2.1, 12, .inl (fun _ => 0))), ((ad 53), .inl (G.2.1, 12, .inl (fun _ => 0))), ((ad 54), .inl (G.2.1, 12, .inl (fun _ => 0))), ((ad 55), .inl (G.2.1, 12, .inl (fun _ => 0))), ((ad 56), .inl (G.2.1, 12, .inl (fun _ => 0))), ((ad 3), .inr (3, [.ref (ad 0), .ref (ad 58), .int 0, .int 0, .int 0])), ((ad 58), .inl (G.2.2.1, 13, .inr (.inr (.inr (.inr hf))))), ((ad 59), .inr (1, [.ref (ad 60)])), ((ad 60), .inl (G.2.1, 36, .inl (fun _ => 0))), ((ad 5), .inr (9, [.ref (ad 0), .ref (ad 2), .int 0, .int 0, .int 0, .int 0])), ((ad 6), .inr (10, [.ref (ad 61), .int 0, .ref (ad 62), .ref (ad 63), .int (-1), .int 0, .int 0, .int (-1)])), ((ad 61), .inl (G.2.1, 240, .inl (fun _ => 0))), ((ad 62), .inr (8, [.int 9, .int 7, .ref (ad 64), .int 0])), ((ad 64), .inl (G.2.1, 63, .inl (fun _ => 0))), ((ad 63), .inr (8, [.int 120, .int 1, .ref (ad 65), .int 0])), ((ad 65), .inl (G.2.1, 120, .inl (fun _ => 0))), ((ad 7), .inr (5, [.ref (ad 0), .ref (ad 66), .ref (ad 67), .int 0, .int 0, .int 0])), ((ad 66), .inr (8, [.int 7, .int 2, .ref (ad 68), .int 0])), ((ad 68), .inl (G.2.1, 14, .inl (fun _ => 0))), ((ad 8), .inr (4, [.ref (ad 69), .ref (ad 70), .ref (ad 71), .ref (ad 72), .ref (ad 73), .ref (ad 74)])), ((ad 69), .inl (G.2.1, 4, .inl (upd (upd (upd (upd (fun _ => 0) 0 (-1)) 1 (-1)) 2 (-1)) 3 (-1)))), ((ad 70), .inl (G.2.1, 4, .inl (fun _ => 0))), ((ad 71), .inl (G.2.1, 160, .inl (fun _ => 0))), ((ad 72), .inl (G.2.1, 4, .inl (upd (upd (upd (upd (fun _ => 0) 0 4) 1 4) 2 4) 3 4))), ((ad 73), .inl (G.2.1, 4, .inl (fun _ => 0))), ((ad 74), .inl (G.2.1, 4, .inl (fun _ => 0))), ((ad 9), .inr (2, [.ref (ad 0), .ref (ad 75), .int 0, .int 0, .int 0, .int 0, .int 0, .int 0])), (mm, .inr (12, [.ref (am 0), .ref (am 1), .int 0, .ref (am 2), .int 0, .ref (am 3), .int 0, .int (-1), .int 0, .int 0, .ref (am 4), .int 0, .int 0, .ref (am 5), .int 0, .int 0, .int 0, .int 0, .int 0, .int 0, .int 0, .ref (am 6), .ref (am 7), .ref (am 8), .ref (am 9), .ref (am 10), .ref (am 11), .int 0, .ref (am 12), .ref (am 13), .ref (am 14), .ref (am 15), .ref (am 16), .ref (am 17), .ref (am 18), .int 0, .int 0, .int 0, .int 0, .int 0, .int 0])), ((am 0), .inl (G.2.1, 1662, .inl NOW0)), ((am 1), .inl (G.2.1, 1662, .inl (fun _ => 0))), ((am 2), .inl (G.2.1, 240, .inl (fun _ => 0))), ((am 4), .inl (G.2.1, 36, .inl (fun _ => 0))), ((am 6), .inl (G.2.1, 54, .inl (fun _ => 0))), ((am 12), .inl (G.2.1, 4, .inl (upd (upd (upd (upd (fun _ => 0) 0 (-1)) 1 (-1)) 2 (-1)) 3 (-1)))), ((am 13), .inl (G.2.1, 4, .inl (fun _ => 0))), ((am 14), .inl (G.2.1, 160, .inl (fun _ => 0))), ((am 15), .inl (G.2.1, 4, .inl (fun _ => 0))), ((am 16), .inl (G.2.1, 4, .inl (fun _ => 0))), ((am 17), .inl (G.2.1, 4, .inl (fun _ => 0)))]
section WR
variable {p : Program} {l : Launch} {e : Env} {R : Room} {s : State} {m : MethodId} {args : Array Value} {below : List Frame} {meth : Method} {c : Code} {H : Heap} {locs : List Loc} {cells slots : Nat} {Q : State → Prop}
variable {pc : Nat} {ls : Array Slot} {rest : List Value} {G : GG} {ws : va_W} {A : Nat → Prop} {y0 : MethodName} {b0 : ByteArray} {mL0 : Nat} {rt0 : Option FieldType} {a : Nat} {H0 : Heap}
end WR
set_option maxHeartbeats 4000000 in
set_option maxRecDepth 100000 in
theorem law_0 {p : Program} {l : Launch} {e : Env} {s : State} {m : MethodId} {below : List Frame} {meth : Method} {c : Code} {b : Nat} {xs : Nat → Int32} {G : GG} {A : Nat → Prop} {H : Heap} {locs : List Loc} {ls : Array Slot} {x mm : Nat} {ad am : Nat → Nat} {hf : Nat → Option Nat} (hC : CX p s m meth c ⟨RL, meth.name, ""⟩ cL_law 4 ret #[Value.ref b]) (hK : KK G s) (hX : va_X b 7 xs s s.heap) (hbl : b < s.heap.size) (hbA : ¬ A b) (hA : ∀ q : Nat, s.heap.size ≤ q → A q) (hA2 : ∀ q : Nat, A q → s.heap.size ≤ q) (hhf : hf 0 = some (ad 59)) (hP : va_P G.1 vwCl (WLAW G x mm ad am hf) H) (hD : va_D A (WLAW G x mm ad am hf)) (hS : va_S A s.heap H locs) (hl : lv_has ls 4 [(3, .int 0), (2, .ref mm), (1, .ref x), (0, .ref b)]) : W p l e room_1 s m #[Value.ref b] below meth c H locs 123 9503 (lw_Z below #[Value.ref b] s) (F0 m 216 ls []) := by
  obtain ⟨hx, hb, hr, hml, hB, hown, hlocks, hnm⟩ := id hC
  have hP := hP.sub (ws' := [(x, .inr (11, [.ref (ad 0), .ref (ad 1), .int 0, .ref (ad 2), .ref (ad 3), .ref (ad 4), .ref (ad 5), .ref (ad 6), .ref (ad 7), .ref (ad 8), .ref (ad 9)])), ((ad 0), .inr (0, [.ref (ad 10), .ref (ad 11), .ref (ad 12), .ref (ad 13), .ref (ad 14), .ref (ad 15), .ref (ad 16), .ref (ad 17), .ref (ad 18), .ref (ad 19), .int 0, .int (-1), .int 3, .int 24])), (mm, .inr (12, [.ref (am 0), .ref (am 1), .int 0, .ref (am 2), .int 0, .ref (am 3), .int 0, .int (-1), .int 0, .int 0, .ref (am 4), .int 0, .int 0, .ref (am 5), .int 0, .int 0, .int 0, .int 0, .int 0, .int 0, .int 0, .ref (am 6), .ref (am 7), .ref (am 8), .ref (am 9), .ref (am 10), .ref (am 11), .int 0, .ref (am 12), .ref (am 13), .ref (am 14), .ref (am 15), .ref (am 16), .ref (am 17), .ref (am 18), .int 0, .int 0, .int 0, .int 0, .int 0, .int 0])), ((am 0), .inl (G.2.1, 1662, .inl NOW0))]) [0, 1, 74, 75] rfl
  have hD := hD.sub (ws' := [(x, .inr (11, [.ref (ad 0), .ref (ad 1), .int 0, .ref (ad 2), .ref (ad 3), .ref (ad 4), .ref (ad 5), .ref (ad 6), .ref (ad 7), .ref (ad 8), .ref (ad 9)])), ((ad 0), .inr (0, [.ref (ad 10), .ref (ad 11), .ref (ad 12), .ref (ad 13), .ref (ad 14), .ref (ad 15), .ref (ad 16), .ref (ad 17), .ref (ad 18), .ref (ad 19), .int 0, .int (-1), .int 3, .int 24])), (mm, .inr (12, [.ref (am 0), .ref (am 1), .int 0, .ref (am 2), .int 0, .ref (am 3), .int 0, .int (-1), .int 0, .int 0, .ref (am 4), .int 0, .int 0, .ref (am 5), .int 0, .int 0, .int 0, .int 0, .int 0, .int 0, .int 0, .ref (am 6), .ref (am 7), .ref (am 8), .ref (am 9), .ref (am 10), .ref (am 11), .int 0, .ref (am 12), .ref (am 13), .ref (am 14), .ref (am 15), .ref (am 16), .ref (am 17), .ref (am 18), .int 0, .int 0, .int 0, .int 0, .int 0, .int 0])), ((am 0), .inl (G.2.1, 1662, .inl NOW0))]) [0, 1, 74, 75] (by decide) rfl
  refine lv_aload_n hx hb dL_law_216 rfl (lv_at hl 2 rfl) ?_
  refine lv_aload_n hx hb dL_law_217 rfl (lv_at hl 3 rfl) ?_
  refine lv_iload_n hx hb dL_law_218 rfl (lv_at hl 0 rfl) ?_
  refine lv_iconst (v := 1) hx hb dL_law_219 (by decide) ?_
  refine lv_iadd hx hb dL_law_220 ?_
  refine eqi (x1 := 1) (by decide) ?_
  refine va_sld hx hb hX hbl hbA hS (vin (by decide +kernel)) dL_law_221 ?_
  refine eqi (x1 := xs 1) (congrArg xs (by decide +kernel)) ?_
  refine iV (wr := [(mm, .inr (12, [.ref (am 0), .ref (am 1), .int 0, .ref (am 2), .int 0, .ref (am 3), .int 0, .int (-1), .int 0, .int 0, .ref (am 4), .int 0, .int 0, .ref (am 5), .int 0, .int 0, .int 0, .int 0, .int 0, .int 0, .int 0, .ref (am 6), .ref (am 7), .ref (am 8), .ref (am 9), .ref (am 10), .ref (am 11), .int 0, .ref (am 12), .ref (am 13), .ref (am 14), .ref (am 15), .ref (am 16), .ref (am 17), .ref (am 18), .int 0, .int 0, .int 0, .int 0, .int 0, .int 0])), ((am 0), .inl (G.2.1, 1662, .inl NOW0))]) hC hK hl hP hD hS hA (c_days l G x (xs 1) (ad 0) (ad 1) (ad 2) (ad 3) (ad 4) (ad 5) (ad 6) (ad 7) (ad 8) (ad 9) (ad 10) (ad 11) (ad 12) (ad 13) (ad 14) (ad 15) (ad 16) (ad 17) (ad 18) (ad 19)) si_L_13 [0, 1] [2, 3] rfl rfl (by decide) rfl (by decide) (by decide) rfl rfl rfl rfl rfl (Nat.le_of_ble_eq_true rfl) ⟨Nat.le_of_ble_eq_true rfl, Nat.le_of_ble_eq_true rfl⟩ ⟨by first | exact Nat.le_of_ble_eq_true rfl | omega, by first | exact Nat.le_of_ble_eq_true rfl | omega⟩ dL_law_222 (fun r1695 u1696 H locs hr1695 hP hD hS => ?_)
  have hP : va_P G.1 vwCl [(mm, .inr (12, [.ref (am 0), .ref (am 1), .int 0, .ref (am 2), .int 0, .ref (am 3), .int 0, .int (-1), .int 0, .int 0, .ref (am 4), .int 0, .int 0, .ref (am 5), .int 0, .int 0, .int 0, .int 0, .int 0, .int 0, .int 0, .ref (am 6), .ref (am 7), .ref (am 8), .ref (am 9), .ref (am 10), .ref (am 11), .int 0, .ref (am 12), .ref (am 13), .ref (am 14), .ref (am 15), .ref (am 16), .ref (am 17), .ref (am 18), .int 0, .int 0, .int 0, .int 0, .int 0, .int 0])), ((am 0), .inl (G.2.1, 1662, .inl NOW0))] H := hP
  have hD : va_D A [(mm, .inr (12, [.ref (am 0), .ref (am 1), .int 0, .ref (am 2), .int 0, .ref (am 3), .int 0, .int (-1), .int 0, .int 0, .ref (am 4), .int 0, .int 0, .ref (am 5), .int 0, .int 0, .int 0, .int 0, .int 0, .int 0, .int 0, .ref (am 6), .ref (am 7), .ref (am 8), .ref (am 9), .ref (am 10), .ref (am 11), .int 0, .ref (am 12), .ref (am 13), .ref (am 14), .ref (am 15), .ref (am 16), .ref (am 17), .ref (am 18), .int 0, .int 0, .int 0, .int 0, .int 0, .int 0])), ((am 0), .inl (G.2.1, 1662, .inl NOW0))] := hD
  obtain rfl := hr1695
  refine lv_aload_n hx hb dL_law_225 rfl (lv_at hl 1 rfl) ?_
  refine lv_aload_n hx hb dL_law_226 rfl (lv_at hl 3 rfl) ?_
  refine lv_iload_n hx hb dL_law_227 rfl (lv_at hl 0 rfl) ?_
  refine lv_iconst (v := 1) hx hb dL_law_228 (by decide) ?_
  refine lv_iadd hx hb dL_law_229 ?_
  refine eqi (x1 := 1) (by decide) ?_
  refine va_sld hx hb hX hbl hbA hS (vin (by decide +kernel)) dL_law_230 ?_
  refine eqi (x1 := xs 1) (congrArg xs (by decide +kernel)) ?_
  refine iV (wr := []) hC hK hl hP hD hS hA (m_days l G mm (xs 1) (am 0) (am 1) (am 2) (am 3) (am 4) (am 5) (am 6) (am 7) (am 8) (am 9) (am 10) (am 11) (am 12) (am 13) (am 14) (am 15) (am 16) (am 17) (am 18)) si_L_17 [0, 1] [] rfl rfl (by decide) rfl (by decide) (by decide) rfl rfl rfl rfl rfl (Nat.le_of_ble_eq_true rfl) ⟨Nat.le_of_ble_eq_true rfl, Nat.le_of_ble_eq_true rfl⟩ ⟨by first | exact Nat.le_of_ble_eq_true rfl | omega, by first | exact Nat.le_of_ble_eq_true rfl | omega⟩ dL_law_231 (fun r1698 u1699 H locs hr1698 hP hD hS => ?_)
  have hP : va_P G.1 vwCl [] H := hP
  have hD : va_D A [] := hD
  obtain rfl := hr1698
  refine lv_icmp_eq (tgt := 1718) hx hb dL_law_234 (by decide) (fun _ => ?_) (fun c9 => absurd (rfl) c9)
  exact law_end hC hK hX hbl hbA hA hA2 hS (lv_sub hl [0, 1, 2, 3] rfl)
set_option maxHeartbeats 4000000 in
set_option maxRecDepth 100000 in
theorem law_1 {p : Program} {l : Launch} {e : Env} {s : State} {m : MethodId} {below : List Frame} {meth : Method} {c : Code} {b : Nat} {xs : Nat → Int32} {G : GG} {A : Nat → Prop} {H : Heap} {locs : List Loc} {ls : Array Slot} {x mm : Nat} {ad am : Nat → Nat} {hf : Nat → Option Nat} (hC : CX p s m meth c ⟨RL, meth.name, ""⟩ cL_law 4 ret #[Value.ref b]) (hK : KK G s) (hX : va_X b 7 xs s s.heap) (hbl : b < s.heap.size) (hbA : ¬ A b) (hA : ∀ q : Nat, s.heap.size ≤ q → A q) (hA2 : ∀ q : Nat, A q → s.heap.size ≤ q) (hhf : hf 0 = some (ad 59)) (hP : va_P G.1 vwCl (WLAW G x mm ad am hf) H) (hD : va_D A (WLAW G x mm ad am hf)) (hS : va_S A s.heap H locs) (hl : lv_has ls 4 [(3, .int 0), (2, .ref mm), (1, .ref x), (0, .ref b)]) : W p l e room_1 s m #[Value.ref b] below meth c H locs 123 9503 (lw_Z below #[Value.ref b] s) (F0 m 239 ls []) := by
  obtain ⟨hx, hb, hr, hml, hB, hown, hlocks, hnm⟩ := id hC
  have hP := hP.sub (ws' := [(x, .inr (11, [.ref (ad 0), .ref (ad 1), .int 0, .ref (ad 2), .ref (ad 3), .ref (ad 4), .ref (ad 5), .ref (ad 6), .ref (ad 7), .ref (ad 8), .ref (ad 9)])), ((ad 0), .inr (0, [.ref (ad 10), .ref (ad 11), .ref (ad 12), .ref (ad 13), .ref (ad 14), .ref (ad 15), .ref (ad 16), .ref (ad 17), .ref (ad 18), .ref (ad 19), .int 0, .int (-1), .int 3, .int 24])), ((ad 11), .inr (8, [.int 12, .int 6, .ref (ad 21), .int 0])), (mm, .inr (12, [.ref (am 0), .ref (am 1), .int 0, .ref (am 2), .int 0, .ref (am 3), .int 0, .int (-1), .int 0, .int 0, .ref (am 4), .int 0, .int 0, .ref (am 5), .int 0, .int 0, .int 0, .int 0, .int 0, .int 0, .int 0, .ref (am 6), .ref (am 7), .ref (am 8), .ref (am 9), .ref (am 10), .ref (am 11), .int 0, .ref (am 12), .ref (am 13), .ref (am 14), .ref (am 15), .ref (am 16), .ref (am 17), .ref (am 18), .int 0, .int 0, .int 0, .int 0, .int 0, .int 0])), ((am 0), .inl (G.2.1, 1662, .inl NOW0))]) [0, 1, 4, 74, 75] rfl
  have hD := hD.sub (ws' := [(x, .inr (11, [.ref (ad 0), .ref (ad 1), .int 0, .ref (ad 2), .ref (ad 3), .ref (ad 4), .ref (ad 5), .ref (ad 6), .ref (ad 7), .ref (ad 8), .ref (ad 9)])), ((ad 0), .inr (0, [.ref (ad 10), .ref (ad 11), .ref (ad 12), .ref (ad 13), .ref (ad 14), .ref (ad 15), .ref (ad 16), .ref (ad 17), .ref (ad 18), .ref (ad 19), .int 0, .int (-1), .int 3, .int 24])), ((ad 11), .inr (8, [.int 12, .int 6, .ref (ad 21), .int 0])), (mm, .inr (12, [.ref (am 0), .ref (am 1), .int 0, .ref (am 2), .int 0, .ref (am 3), .int 0, .int (-1), .int 0, .int 0, .ref (am 4), .int 0, .int 0, .ref (am 5), .int 0, .int 0, .int 0, .int 0, .int 0, .int 0, .int 0, .ref (am 6), .ref (am 7), .ref (am 8), .ref (am 9), .ref (am 10), .ref (am 11), .int 0, .ref (am 12), .ref (am 13), .ref (am 14), .ref (am 15), .ref (am 16), .ref (am 17), .ref (am 18), .int 0, .int 0, .int 0, .int 0, .int 0, .int 0])), ((am 0), .inl (G.2.1, 1662, .inl NOW0))]) [0, 1, 4, 74, 75] (by decide) rfl
  refine lv_aload_n hx hb dL_law_239 rfl (lv_at hl 2 rfl) ?_
  refine lv_aload_n hx hb dL_law_240 rfl (lv_at hl 3 rfl) ?_
  refine lv_iload_n hx hb dL_law_241 rfl (lv_at hl 0 rfl) ?_
  refine lv_iconst (v := 1) hx hb dL_law_242 (by decide) ?_
  refine lv_iadd hx hb dL_law_243 ?_
  refine eqi (x1 := 1) (by decide) ?_
  refine va_sld hx hb hX hbl hbA hS (vin (by decide +kernel)) dL_law_244 ?_
  refine eqi (x1 := xs 1) (congrArg xs (by decide +kernel)) ?_
  refine lv_aload_n hx hb dL_law_245 rfl (lv_at hl 3 rfl) ?_
  refine lv_iload_n hx hb dL_law_246 rfl (lv_at hl 0 rfl) ?_
  refine lv_iconst (v := 2) hx hb dL_law_247 (by decide) ?_
  refine lv_iadd hx hb dL_law_248 ?_
  refine eqi (x1 := 2) (by decide) ?_
  refine va_sld hx hb hX hbl hbA hS (vin (by decide +kernel)) dL_law_249 ?_
  refine eqi (x1 := xs 2) (congrArg xs (by decide +kernel)) ?_
  refine iV (wr := [(mm, .inr (12, [.ref (am 0), .ref (am 1), .int 0, .ref (am 2), .int 0, .ref (am 3), .int 0, .int (-1), .int 0, .int 0, .ref (am 4), .int 0, .int 0, .ref (am 5), .int 0, .int 0, .int 0, .int 0, .int 0, .int 0, .int 0, .ref (am 6), .ref (am 7), .ref (am 8), .ref (am 9), .ref (am 10), .ref (am 11), .int 0, .ref (am 12), .ref (am 13), .ref (am 14), .ref (am 15), .ref (am 16), .ref (am 17), .ref (am 18), .int 0, .int 0, .int 0, .int 0, .int 0, .int 0])), ((am 0), .inl (G.2.1, 1662, .inl NOW0))]) hC hK hl hP hD hS hA (c_view l G x (xs 1) (xs 2) (ad 0) (ad 1) (ad 2) (ad 3) (ad 4) (ad 5) (ad 6) (ad 7) (ad 8) (ad 9) (ad 10) (ad 11) (ad 12) (ad 13) (ad 14) (ad 15) (ad 16) (ad 17) (ad 18) (ad 19) (ad 21)) si_L_18 [0, 1, 2] [3, 4] rfl rfl (by decide) rfl (by decide) (by decide) rfl rfl rfl rfl rfl (Nat.le_of_ble_eq_true rfl) ⟨Nat.le_of_ble_eq_true rfl, Nat.le_of_ble_eq_true rfl⟩ ⟨by first | exact Nat.le_of_ble_eq_true rfl | omega, by first | exact Nat.le_of_ble_eq_true rfl | omega⟩ dL_law_250 (fun r1701 u1702 H locs hr1701 hP hD hS => ?_)
  have hP : va_P G.1 vwCl [(mm, .inr (12, [.ref (am 0), .ref (am 1), .int 0, .ref (am 2), .int 0, .ref (am 3), .int 0, .int (-1), .int 0, .int 0, .ref (am 4), .int 0, .int 0, .ref (am 5), .int 0, .int 0, .int 0, .int 0, .int 0, .int 0, .int 0, .ref (am 6), .ref (am 7), .ref (am 8), .ref (am 9), .ref (am 10), .ref (am 11), .int 0, .ref (am 12), .ref (am 13), .ref (am 14), .ref (am 15), .ref (am 16), .ref (am 17), .ref (am 18), .int 0, .int 0, .int 0, .int 0, .int 0, .int 0])), ((am 0), .inl (G.2.1, 1662, .inl NOW0))] H := hP
  have hD : va_D A [(mm, .inr (12, [.ref (am 0), .ref (am 1), .int 0, .ref (am 2), .int 0, .ref (am 3), .int 0, .int (-1), .int 0, .int 0, .ref (am 4), .int 0, .int 0, .ref (am 5), .int 0, .int 0, .int 0, .int 0, .int 0, .int 0, .int 0, .ref (am 6), .ref (am 7), .ref (am 8), .ref (am 9), .ref (am 10), .ref (am 11), .int 0, .ref (am 12), .ref (am 13), .ref (am 14), .ref (am 15), .ref (am 16), .ref (am 17), .ref (am 18), .int 0, .int 0, .int 0, .int 0, .int 0, .int 0])), ((am 0), .inl (G.2.1, 1662, .inl NOW0))] := hD
  obtain rfl := hr1701
  refine lv_aload_n hx hb dL_law_253 rfl (lv_at hl 1 rfl) ?_
  refine lv_aload_n hx hb dL_law_254 rfl (lv_at hl 3 rfl) ?_
  refine lv_iload_n hx hb dL_law_255 rfl (lv_at hl 0 rfl) ?_
  refine lv_iconst (v := 1) hx hb dL_law_256 (by decide) ?_
  refine lv_iadd hx hb dL_law_257 ?_
  refine eqi (x1 := 1) (by decide) ?_
  refine va_sld hx hb hX hbl hbA hS (vin (by decide +kernel)) dL_law_258 ?_
  refine eqi (x1 := xs 1) (congrArg xs (by decide +kernel)) ?_
  refine lv_aload_n hx hb dL_law_259 rfl (lv_at hl 3 rfl) ?_
  refine lv_iload_n hx hb dL_law_260 rfl (lv_at hl 0 rfl) ?_
  refine lv_iconst (v := 2) hx hb dL_law_261 (by decide) ?_
  refine lv_iadd hx hb dL_law_262 ?_
  refine eqi (x1 := 2) (by decide) ?_
  refine va_sld hx hb hX hbl hbA hS (vin (by decide +kernel)) dL_law_263 ?_
  refine eqi (x1 := xs 2) (congrArg xs (by decide +kernel)) ?_
  refine iV (wr := []) hC hK hl hP hD hS hA (m_view l G mm (xs 1) (xs 2) (am 0) (am 1) (am 2) (am 3) (am 4) (am 5) (am 6) (am 7) (am 8) (am 9) (am 10) (am 11) (am 12) (am 13) (am 14) (am 15) (am 16) (am 17) (am 18)) si_L_22 [0, 1] [] rfl rfl (by decide) rfl (by decide) (by decide) rfl rfl rfl rfl rfl (Nat.le_of_ble_eq_true rfl) ⟨Nat.le_of_ble_eq_true rfl, Nat.le_of_ble_eq_true rfl⟩ ⟨by first | exact Nat.le_of_ble_eq_true rfl | omega, by first | exact Nat.le_of_ble_eq_true rfl | omega⟩ dL_law_264 (fun r1704 u1705 H locs hr1704 hP hD hS => ?_)
  have hP : va_P G.1 vwCl [] H := hP
  have hD : va_D A [] := hD
  obtain rfl := hr1704
  refine lv_icmp_eq (tgt := 1718) hx hb dL_law_267 (by decide) (fun _ => ?_) (fun c9 => absurd (rfl) c9)
  exact law_end hC hK hX hbl hbA hA hA2 hS (lv_sub hl [0, 1, 2, 3] rfl)
set_option maxHeartbeats 4000000 in
set_option maxRecDepth 100000 in
theorem law_2 {p : Program} {l : Launch} {e : Env} {s : State} {m : MethodId} {below : List Frame} {meth : Method} {c : Code} {b : Nat} {xs : Nat → Int32} {G : GG} {A : Nat → Prop} {H : Heap} {locs : List Loc} {ls : Array Slot} {x mm : Nat} {ad am : Nat → Nat} {hf : Nat → Option Nat} (hC : CX p s m meth c ⟨RL, meth.name, ""⟩ cL_law 4 ret #[Value.ref b]) (hK : KK G s) (hX : va_X b 7 xs s s.heap) (hbl : b < s.heap.size) (hbA : ¬ A b) (hA : ∀ q : Nat, s.heap.size ≤ q → A q) (hA2 : ∀ q : Nat, A q → s.heap.size ≤ q) (hhf : hf 0 = some (ad 59)) (hP : va_P G.1 vwCl (WLAW G x mm ad am hf) H) (hD : va_D A (WLAW G x mm ad am hf)) (hS : va_S A s.heap H locs) (hl : lv_has ls 4 [(3, .int 0), (2, .ref mm), (1, .ref x), (0, .ref b)]) : W p l e room_1 s m #[Value.ref b] below meth c H locs 123 9503 (lw_Z below #[Value.ref b] s) (F0 m 272 ls []) := by
  obtain ⟨hx, hb, hr, hml, hB, hown, hlocks, hnm⟩ := id hC
  have hP := hP.sub (ws' := [(x, .inr (11, [.ref (ad 0), .ref (ad 1), .int 0, .ref (ad 2), .ref (ad 3), .ref (ad 4), .ref (ad 5), .ref (ad 6), .ref (ad 7), .ref (ad 8), .ref (ad 9)])), ((ad 0), .inr (0, [.ref (ad 10), .ref (ad 11), .ref (ad 12), .ref (ad 13), .ref (ad 14), .ref (ad 15), .ref (ad 16), .ref (ad 17), .ref (ad 18), .ref (ad 19), .int 0, .int (-1), .int 3, .int 24])), ((ad 10), .inr (8, [.int 10, .int 2, .ref (ad 20), .int 0])), ((ad 20), .inl (G.2.1, 20, .inl (fun _ => 0))), (mm, .inr (12, [.ref (am 0), .ref (am 1), .int 0, .ref (am 2), .int 0, .ref (am 3), .int 0, .int (-1), .int 0, .int 0, .ref (am 4), .int 0, .int 0, .ref (am 5), .int 0, .int 0, .int 0, .int 0, .int 0, .int 0, .int 0, .ref (am 6), .ref (am 7), .ref (am 8), .ref (am 9), .ref (am 10), .ref (am 11), .int 0, .ref (am 12), .ref (am 13), .ref (am 14), .ref (am 15), .ref (am 16), .ref (am 17), .ref (am 18), .int 0, .int 0, .int 0, .int 0, .int 0, .int 0])), ((am 0), .inl (G.2.1, 1662, .inl NOW0))]) [0, 1, 2, 3, 74, 75] rfl
  have hD := hD.sub (ws' := [(x, .inr (11, [.ref (ad 0), .ref (ad 1), .int 0, .ref (ad 2), .ref (ad 3), .ref (ad 4), .ref (ad 5), .ref (ad 6), .ref (ad 7), .ref (ad 8), .ref (ad 9)])), ((ad 0), .inr (0, [.ref (ad 10), .ref (ad 11), .ref (ad 12), .ref (ad 13), .ref (ad 14), .ref (ad 15), .ref (ad 16), .ref (ad 17), .ref (ad 18), .ref (ad 19), .int 0, .int (-1), .int 3, .int 24])), ((ad 10), .inr (8, [.int 10, .int 2, .ref (ad 20), .int 0])), ((ad 20), .inl (G.2.1, 20, .inl (fun _ => 0))), (mm, .inr (12, [.ref (am 0), .ref (am 1), .int 0, .ref (am 2), .int 0, .ref (am 3), .int 0, .int (-1), .int 0, .int 0, .ref (am 4), .int 0, .int 0, .ref (am 5), .int 0, .int 0, .int 0, .int 0, .int 0, .int 0, .int 0, .ref (am 6), .ref (am 7), .ref (am 8), .ref (am 9), .ref (am 10), .ref (am 11), .int 0, .ref (am 12), .ref (am 13), .ref (am 14), .ref (am 15), .ref (am 16), .ref (am 17), .ref (am 18), .int 0, .int 0, .int 0, .int 0, .int 0, .int 0])), ((am 0), .inl (G.2.1, 1662, .inl NOW0))]) [0, 1, 2, 3, 74, 75] (by decide) rfl
  refine lv_aload_n hx hb dL_law_272 rfl (lv_at hl 2 rfl) ?_
  refine lv_aload_n hx hb dL_law_273 rfl (lv_at hl 3 rfl) ?_
  refine lv_iload_n hx hb dL_law_274 rfl (lv_at hl 0 rfl) ?_
  refine lv_iconst (v := 1) hx hb dL_law_275 (by decide) ?_
  refine lv_iadd hx hb dL_law_276 ?_
  refine eqi (x1 := 1) (by decide) ?_
  refine va_sld hx hb hX hbl hbA hS (vin (by decide +kernel)) dL_law_277 ?_
  refine eqi (x1 := xs 1) (congrArg xs (by decide +kernel)) ?_
  refine lv_aload_n hx hb dL_law_278 rfl (lv_at hl 3 rfl) ?_
  refine lv_iload_n hx hb dL_law_279 rfl (lv_at hl 0 rfl) ?_
  refine lv_iconst (v := 2) hx hb dL_law_280 (by decide) ?_
  refine lv_iadd hx hb dL_law_281 ?_
  refine eqi (x1 := 2) (by decide) ?_
  refine va_sld hx hb hX hbl hbA hS (vin (by decide +kernel)) dL_law_282 ?_
  refine eqi (x1 := xs 2) (congrArg xs (by decide +kernel)) ?_
  refine iV (wr := [(mm, .inr (12, [.ref (am 0), .ref (am 1), .int 0, .ref (am 2), .int 0, .ref (am 3), .int 0, .int (-1), .int 0, .int 0, .ref (am 4), .int 0, .int 0, .ref (am 5), .int 0, .int 0, .int 0, .int 0, .int 0, .int 0, .int 0, .ref (am 6), .ref (am 7), .ref (am 8), .ref (am 9), .ref (am 10), .ref (am 11), .int 0, .ref (am 12), .ref (am 13), .ref (am 14), .ref (am 15), .ref (am 16), .ref (am 17), .ref (am 18), .int 0, .int 0, .int 0, .int 0, .int 0, .int 0])), ((am 0), .inl (G.2.1, 1662, .inl NOW0))]) hC hK hl hP hD hS hA (c_person l G x (xs 1) (xs 2) (ad 0) (ad 1) (ad 2) (ad 3) (ad 4) (ad 5) (ad 6) (ad 7) (ad 8) (ad 9) (ad 10) (ad 11) (ad 12) (ad 13) (ad 14) (ad 15) (ad 16) (ad 17) (ad 18) (ad 19) (ad 20)) si_L_23 [0, 1, 2, 3] [4, 5] rfl rfl (by decide) rfl (by decide) (by decide) rfl rfl rfl rfl rfl (Nat.le_of_ble_eq_true rfl) ⟨Nat.le_of_ble_eq_true rfl, Nat.le_of_ble_eq_true rfl⟩ ⟨by first | exact Nat.le_of_ble_eq_true rfl | omega, by first | exact Nat.le_of_ble_eq_true rfl | omega⟩ dL_law_283 (fun r1707 u1708 H locs hr1707 hP hD hS => ?_)
  have hP : va_P G.1 vwCl [(mm, .inr (12, [.ref (am 0), .ref (am 1), .int 0, .ref (am 2), .int 0, .ref (am 3), .int 0, .int (-1), .int 0, .int 0, .ref (am 4), .int 0, .int 0, .ref (am 5), .int 0, .int 0, .int 0, .int 0, .int 0, .int 0, .int 0, .ref (am 6), .ref (am 7), .ref (am 8), .ref (am 9), .ref (am 10), .ref (am 11), .int 0, .ref (am 12), .ref (am 13), .ref (am 14), .ref (am 15), .ref (am 16), .ref (am 17), .ref (am 18), .int 0, .int 0, .int 0, .int 0, .int 0, .int 0])), ((am 0), .inl (G.2.1, 1662, .inl NOW0))] H := hP
  have hD : va_D A [(mm, .inr (12, [.ref (am 0), .ref (am 1), .int 0, .ref (am 2), .int 0, .ref (am 3), .int 0, .int (-1), .int 0, .int 0, .ref (am 4), .int 0, .int 0, .ref (am 5), .int 0, .int 0, .int 0, .int 0, .int 0, .int 0, .int 0, .ref (am 6), .ref (am 7), .ref (am 8), .ref (am 9), .ref (am 10), .ref (am 11), .int 0, .ref (am 12), .ref (am 13), .ref (am 14), .ref (am 15), .ref (am 16), .ref (am 17), .ref (am 18), .int 0, .int 0, .int 0, .int 0, .int 0, .int 0])), ((am 0), .inl (G.2.1, 1662, .inl NOW0))] := hD
  obtain rfl := hr1707
  refine lv_aload_n hx hb dL_law_286 rfl (lv_at hl 1 rfl) ?_
  refine lv_aload_n hx hb dL_law_287 rfl (lv_at hl 3 rfl) ?_
  refine lv_iload_n hx hb dL_law_288 rfl (lv_at hl 0 rfl) ?_
  refine lv_iconst (v := 1) hx hb dL_law_289 (by decide) ?_
  refine lv_iadd hx hb dL_law_290 ?_
  refine eqi (x1 := 1) (by decide) ?_
  refine va_sld hx hb hX hbl hbA hS (vin (by decide +kernel)) dL_law_291 ?_
  refine eqi (x1 := xs 1) (congrArg xs (by decide +kernel)) ?_
  refine lv_aload_n hx hb dL_law_292 rfl (lv_at hl 3 rfl) ?_
  refine lv_iload_n hx hb dL_law_293 rfl (lv_at hl 0 rfl) ?_
  refine lv_iconst (v := 2) hx hb dL_law_294 (by decide) ?_
  refine lv_iadd hx hb dL_law_295 ?_
  refine eqi (x1 := 2) (by decide) ?_
  refine va_sld hx hb hX hbl hbA hS (vin (by decide +kernel)) dL_law_296 ?_
  refine eqi (x1 := xs 2) (congrArg xs (by decide +kernel)) ?_
  refine iV (wr := []) hC hK hl hP hD hS hA (m_person l G mm (xs 1) (xs 2) (am 0) (am 1) (am 2) (am 3) (am 4) (am 5) (am 6) (am 7) (am 8) (am 9) (am 10) (am 11) (am 12) (am 13) (am 14) (am 15) (am 16) (am 17) (am 18)) si_L_26 [0, 1] [] rfl rfl (by decide) rfl (by decide) (by decide) rfl rfl rfl rfl rfl (Nat.le_of_ble_eq_true rfl) ⟨Nat.le_of_ble_eq_true rfl, Nat.le_of_ble_eq_true rfl⟩ ⟨by first | exact Nat.le_of_ble_eq_true rfl | omega, by first | exact Nat.le_of_ble_eq_true rfl | omega⟩ dL_law_297 (fun r1710 u1711 H locs hr1710 hP hD hS => ?_)
  have hP : va_P G.1 vwCl [] H := hP
  have hD : va_D A [] := hD
  obtain rfl := hr1710
  refine lv_icmp_eq (tgt := 1718) hx hb dL_law_300 (by decide) (fun _ => ?_) (fun c9 => absurd (rfl) c9)
  exact law_end hC hK hX hbl hbA hA hA2 hS (lv_sub hl [0, 1, 2, 3] rfl)
set_option maxHeartbeats 4000000 in
set_option maxRecDepth 100000 in
theorem law_3 {p : Program} {l : Launch} {e : Env} {s : State} {m : MethodId} {below : List Frame} {meth : Method} {c : Code} {b : Nat} {xs : Nat → Int32} {G : GG} {A : Nat → Prop} {H : Heap} {locs : List Loc} {ls : Array Slot} {x mm : Nat} {ad am : Nat → Nat} {hf : Nat → Option Nat} (hC : CX p s m meth c ⟨RL, meth.name, ""⟩ cL_law 4 ret #[Value.ref b]) (hK : KK G s) (hX : va_X b 7 xs s s.heap) (hbl : b < s.heap.size) (hbA : ¬ A b) (hA : ∀ q : Nat, s.heap.size ≤ q → A q) (hA2 : ∀ q : Nat, A q → s.heap.size ≤ q) (hhf : hf 0 = some (ad 59)) (hP : va_P G.1 vwCl (WLAW G x mm ad am hf) H) (hD : va_D A (WLAW G x mm ad am hf)) (hS : va_S A s.heap H locs) (hl : lv_has ls 4 [(3, .int 0), (2, .ref mm), (1, .ref x), (0, .ref b)]) : W p l e room_1 s m #[Value.ref b] below meth c H locs 123 9503 (lw_Z below #[Value.ref b] s) (F0 m 305 ls []) := by
  obtain ⟨hx, hb, hr, hml, hB, hown, hlocks, hnm⟩ := id hC
  have hP := hP.sub (ws' := [(x, .inr (11, [.ref (ad 0), .ref (ad 1), .int 0, .ref (ad 2), .ref (ad 3), .ref (ad 4), .ref (ad 5), .ref (ad 6), .ref (ad 7), .ref (ad 8), .ref (ad 9)])), ((ad 0), .inr (0, [.ref (ad 10), .ref (ad 11), .ref (ad 12), .ref (ad 13), .ref (ad 14), .ref (ad 15), .ref (ad 16), .ref (ad 17), .ref (ad 18), .ref (ad 19), .int 0, .int (-1), .int 3, .int 24])), ((ad 10), .inr (8, [.int 10, .int 2, .ref (ad 20), .int 0])), (mm, .inr (12, [.ref (am 0), .ref (am 1), .int 0, .ref (am 2), .int 0, .ref (am 3), .int 0, .int (-1), .int 0, .int 0, .ref (am 4), .int 0, .int 0, .ref (am 5), .int 0, .int 0, .int 0, .int 0, .int 0, .int 0, .int 0, .ref (am 6), .ref (am 7), .ref (am 8), .ref (am 9), .ref (am 10), .ref (am 11), .int 0, .ref (am 12), .ref (am 13), .ref (am 14), .ref (am 15), .ref (am 16), .ref (am 17), .ref (am 18), .int 0, .int 0, .int 0, .int 0, .int 0, .int 0])), ((am 0), .inl (G.2.1, 1662, .inl NOW0))]) [0, 1, 2, 74, 75] rfl
  have hD := hD.sub (ws' := [(x, .inr (11, [.ref (ad 0), .ref (ad 1), .int 0, .ref (ad 2), .ref (ad 3), .ref (ad 4), .ref (ad 5), .ref (ad 6), .ref (ad 7), .ref (ad 8), .ref (ad 9)])), ((ad 0), .inr (0, [.ref (ad 10), .ref (ad 11), .ref (ad 12), .ref (ad 13), .ref (ad 14), .ref (ad 15), .ref (ad 16), .ref (ad 17), .ref (ad 18), .ref (ad 19), .int 0, .int (-1), .int 3, .int 24])), ((ad 10), .inr (8, [.int 10, .int 2, .ref (ad 20), .int 0])), (mm, .inr (12, [.ref (am 0), .ref (am 1), .int 0, .ref (am 2), .int 0, .ref (am 3), .int 0, .int (-1), .int 0, .int 0, .ref (am 4), .int 0, .int 0, .ref (am 5), .int 0, .int 0, .int 0, .int 0, .int 0, .int 0, .int 0, .ref (am 6), .ref (am 7), .ref (am 8), .ref (am 9), .ref (am 10), .ref (am 11), .int 0, .ref (am 12), .ref (am 13), .ref (am 14), .ref (am 15), .ref (am 16), .ref (am 17), .ref (am 18), .int 0, .int 0, .int 0, .int 0, .int 0, .int 0])), ((am 0), .inl (G.2.1, 1662, .inl NOW0))]) [0, 1, 2, 74, 75] (by decide) rfl
  refine lv_aload_n hx hb dL_law_305 rfl (lv_at hl 2 rfl) ?_
  refine lv_aload_n hx hb dL_law_306 rfl (lv_at hl 3 rfl) ?_
  refine lv_iload_n hx hb dL_law_307 rfl (lv_at hl 0 rfl) ?_
  refine lv_iconst (v := 1) hx hb dL_law_308 (by decide) ?_
  refine lv_iadd hx hb dL_law_309 ?_
  refine eqi (x1 := 1) (by decide) ?_
  refine va_sld hx hb hX hbl hbA hS (vin (by decide +kernel)) dL_law_310 ?_
  refine eqi (x1 := xs 1) (congrArg xs (by decide +kernel)) ?_
  refine lv_aload_n hx hb dL_law_311 rfl (lv_at hl 3 rfl) ?_
  refine lv_iload_n hx hb dL_law_312 rfl (lv_at hl 0 rfl) ?_
  refine lv_iconst (v := 2) hx hb dL_law_313 (by decide) ?_
  refine lv_iadd hx hb dL_law_314 ?_
  refine eqi (x1 := 2) (by decide) ?_
  refine va_sld hx hb hX hbl hbA hS (vin (by decide +kernel)) dL_law_315 ?_
  refine eqi (x1 := xs 2) (congrArg xs (by decide +kernel)) ?_
  refine pV hC hK hl hP hD (c_personOf l G x (xs 1) (xs 2) (ad 0) (ad 1) (ad 2) (ad 3) (ad 4) (ad 5) (ad 6) (ad 7) (ad 8) (ad 9) (ad 10) (ad 11) (ad 12) (ad 13) (ad 14) (ad 15) (ad 16) (ad 17) (ad 18) (ad 19) (ad 20)) si_L_27 [0, 1, 2] rfl rfl (by decide) rfl rfl rfl rfl rfl (Nat.le_of_ble_eq_true rfl) ⟨Nat.le_of_ble_eq_true rfl, Nat.le_of_ble_eq_true rfl⟩ ⟨by first | exact Nat.le_of_ble_eq_true rfl | exact Nat.zero_le _, by first | exact Nat.le_of_ble_eq_true rfl | exact Nat.zero_le _⟩ dL_law_316 (fun r1713 hr1713 => ?_)
  obtain rfl := hr1713
  refine lv_aload_n hx hb dL_law_319 rfl (lv_at hl 1 rfl) ?_
  refine lv_aload_n hx hb dL_law_320 rfl (lv_at hl 3 rfl) ?_
  refine lv_iload_n hx hb dL_law_321 rfl (lv_at hl 0 rfl) ?_
  refine lv_iconst (v := 1) hx hb dL_law_322 (by decide) ?_
  refine lv_iadd hx hb dL_law_323 ?_
  refine eqi (x1 := 1) (by decide) ?_
  refine va_sld hx hb hX hbl hbA hS (vin (by decide +kernel)) dL_law_324 ?_
  refine eqi (x1 := xs 1) (congrArg xs (by decide +kernel)) ?_
  refine lv_aload_n hx hb dL_law_325 rfl (lv_at hl 3 rfl) ?_
  refine lv_iload_n hx hb dL_law_326 rfl (lv_at hl 0 rfl) ?_
  refine lv_iconst (v := 2) hx hb dL_law_327 (by decide) ?_
  refine lv_iadd hx hb dL_law_328 ?_
  refine eqi (x1 := 2) (by decide) ?_
  refine va_sld hx hb hX hbl hbA hS (vin (by decide +kernel)) dL_law_329 ?_
  refine eqi (x1 := xs 2) (congrArg xs (by decide +kernel)) ?_
  refine pV hC hK hl hP hD (m_personOf l G mm (xs 1) (xs 2) (am 0) (am 1) (am 2) (am 3) (am 4) (am 5) (am 6) (am 7) (am 8) (am 9) (am 10) (am 11) (am 12) (am 13) (am 14) (am 15) (am 16) (am 17) (am 18)) si_L_30 [3, 4] rfl rfl (by decide) rfl rfl rfl rfl rfl (Nat.le_of_ble_eq_true rfl) ⟨Nat.le_of_ble_eq_true rfl, Nat.le_of_ble_eq_true rfl⟩ ⟨by first | exact Nat.le_of_ble_eq_true rfl | exact Nat.zero_le _, by first | exact Nat.le_of_ble_eq_true rfl | exact Nat.zero_le _⟩ dL_law_330 (fun r1715 hr1715 => ?_)
  obtain rfl := hr1715
  refine lv_icmp_eq (tgt := 1718) hx hb dL_law_333 (by decide) (fun _ => ?_) (fun c9 => absurd (by decide) c9)
  exact law_end hC hK hX hbl hbA hA hA2 hS (lv_sub hl [0, 1, 2, 3] rfl)
set_option maxHeartbeats 4000000 in
set_option maxRecDepth 100000 in
theorem law_4 {p : Program} {l : Launch} {e : Env} {s : State} {m : MethodId} {below : List Frame} {meth : Method} {c : Code} {b : Nat} {xs : Nat → Int32} {G : GG} {A : Nat → Prop} {H : Heap} {locs : List Loc} {ls : Array Slot} {x mm : Nat} {ad am : Nat → Nat} {hf : Nat → Option Nat} (hC : CX p s m meth c ⟨RL, meth.name, ""⟩ cL_law 4 ret #[Value.ref b]) (hK : KK G s) (hX : va_X b 7 xs s s.heap) (hbl : b < s.heap.size) (hbA : ¬ A b) (hA : ∀ q : Nat, s.heap.size ≤ q → A q) (hA2 : ∀ q : Nat, A q → s.heap.size ≤ q) (hhf : hf 0 = some (ad 59)) (hP : va_P G.1 vwCl (WLAW G x mm ad am hf) H) (hD : va_D A (WLAW G x mm ad am hf)) (hS : va_S A s.heap H locs) (hl : lv_has ls 4 [(3, .int 0), (2, .ref mm), (1, .ref x), (0, .ref b)]) : W p l e room_1 s m #[Value.ref b] below meth c H locs 123 9503 (lw_Z below #[Value.ref b] s) (F0 m 338 ls []) := by
  obtain ⟨hx, hb, hr, hml, hB, hown, hlocks, hnm⟩ := id hC
  have hP := hP.sub (ws' := [(x, .inr (11, [.ref (ad 0), .ref (ad 1), .int 0, .ref (ad 2), .ref (ad 3), .ref (ad 4), .ref (ad 5), .ref (ad 6), .ref (ad 7), .ref (ad 8), .ref (ad 9)])), ((ad 0), .inr (0, [.ref (ad 10), .ref (ad 11), .ref (ad 12), .ref (ad 13), .ref (ad 14), .ref (ad 15), .ref (ad 16), .ref (ad 17), .ref (ad 18), .ref (ad 19), .int 0, .int (-1), .int 3, .int 24])), ((ad 10), .inr (8, [.int 10, .int 2, .ref (ad 20), .int 0])), (mm, .inr (12, [.ref (am 0), .ref (am 1), .int 0, .ref (am 2), .int 0, .ref (am 3), .int 0, .int (-1), .int 0, .int 0, .ref (am 4), .int 0, .int 0, .ref (am 5), .int 0, .int 0, .int 0, .int 0, .int 0, .int 0, .int 0, .ref (am 6), .ref (am 7), .ref (am 8), .ref (am 9), .ref (am 10), .ref (am 11), .int 0, .ref (am 12), .ref (am 13), .ref (am 14), .ref (am 15), .ref (am 16), .ref (am 17), .ref (am 18), .int 0, .int 0, .int 0, .int 0, .int 0, .int 0])), ((am 0), .inl (G.2.1, 1662, .inl NOW0))]) [0, 1, 2, 74, 75] rfl
  have hD := hD.sub (ws' := [(x, .inr (11, [.ref (ad 0), .ref (ad 1), .int 0, .ref (ad 2), .ref (ad 3), .ref (ad 4), .ref (ad 5), .ref (ad 6), .ref (ad 7), .ref (ad 8), .ref (ad 9)])), ((ad 0), .inr (0, [.ref (ad 10), .ref (ad 11), .ref (ad 12), .ref (ad 13), .ref (ad 14), .ref (ad 15), .ref (ad 16), .ref (ad 17), .ref (ad 18), .ref (ad 19), .int 0, .int (-1), .int 3, .int 24])), ((ad 10), .inr (8, [.int 10, .int 2, .ref (ad 20), .int 0])), (mm, .inr (12, [.ref (am 0), .ref (am 1), .int 0, .ref (am 2), .int 0, .ref (am 3), .int 0, .int (-1), .int 0, .int 0, .ref (am 4), .int 0, .int 0, .ref (am 5), .int 0, .int 0, .int 0, .int 0, .int 0, .int 0, .int 0, .ref (am 6), .ref (am 7), .ref (am 8), .ref (am 9), .ref (am 10), .ref (am 11), .int 0, .ref (am 12), .ref (am 13), .ref (am 14), .ref (am 15), .ref (am 16), .ref (am 17), .ref (am 18), .int 0, .int 0, .int 0, .int 0, .int 0, .int 0])), ((am 0), .inl (G.2.1, 1662, .inl NOW0))]) [0, 1, 2, 74, 75] (by decide) rfl
  refine lv_aload_n hx hb dL_law_338 rfl (lv_at hl 2 rfl) ?_
  refine lv_aload_n hx hb dL_law_339 rfl (lv_at hl 3 rfl) ?_
  refine lv_iload_n hx hb dL_law_340 rfl (lv_at hl 0 rfl) ?_
  refine lv_iconst (v := 1) hx hb dL_law_341 (by decide) ?_
  refine lv_iadd hx hb dL_law_342 ?_
  refine eqi (x1 := 1) (by decide) ?_
  refine va_sld hx hb hX hbl hbA hS (vin (by decide +kernel)) dL_law_343 ?_
  refine eqi (x1 := xs 1) (congrArg xs (by decide +kernel)) ?_
  refine lv_aload_n hx hb dL_law_344 rfl (lv_at hl 3 rfl) ?_
  refine lv_iload_n hx hb dL_law_345 rfl (lv_at hl 0 rfl) ?_
  refine lv_iconst (v := 2) hx hb dL_law_346 (by decide) ?_
  refine lv_iadd hx hb dL_law_347 ?_
  refine eqi (x1 := 2) (by decide) ?_
  refine va_sld hx hb hX hbl hbA hS (vin (by decide +kernel)) dL_law_348 ?_
  refine eqi (x1 := xs 2) (congrArg xs (by decide +kernel)) ?_
  refine lv_aload_n hx hb dL_law_349 rfl (lv_at hl 3 rfl) ?_
  refine lv_iload_n hx hb dL_law_350 rfl (lv_at hl 0 rfl) ?_
  refine lv_iconst (v := 3) hx hb dL_law_351 (by decide) ?_
  refine lv_iadd hx hb dL_law_352 ?_
  refine eqi (x1 := 3) (by decide) ?_
  refine va_sld hx hb hX hbl hbA hS (vin (by decide +kernel)) dL_law_353 ?_
  refine eqi (x1 := xs 3) (congrArg xs (by decide +kernel)) ?_
  refine lv_aload_n hx hb dL_law_354 rfl (lv_at hl 3 rfl) ?_
  refine lv_iload_n hx hb dL_law_355 rfl (lv_at hl 0 rfl) ?_
  refine lv_iconst (v := 4) hx hb dL_law_356 (by decide) ?_
  refine lv_iadd hx hb dL_law_357 ?_
  refine eqi (x1 := 4) (by decide) ?_
  refine va_sld hx hb hX hbl hbA hS (vin (by decide +kernel)) dL_law_358 ?_
  refine eqi (x1 := xs 4) (congrArg xs (by decide +kernel)) ?_
  refine pV hC hK hl hP hD (c_paper l G x (xs 1) (xs 2) (xs 3) (xs 4) (ad 0) (ad 1) (ad 2) (ad 3) (ad 4) (ad 5) (ad 6) (ad 7) (ad 8) (ad 9) (ad 10) (ad 11) (ad 12) (ad 13) (ad 14) (ad 15) (ad 16) (ad 17) (ad 18) (ad 19) (ad 20)) si_L_31 [0, 1, 2] rfl rfl (by decide) rfl rfl rfl rfl rfl (Nat.le_of_ble_eq_true rfl) ⟨Nat.le_of_ble_eq_true rfl, Nat.le_of_ble_eq_true rfl⟩ ⟨by first | exact Nat.le_of_ble_eq_true rfl | exact Nat.zero_le _, by first | exact Nat.le_of_ble_eq_true rfl | exact Nat.zero_le _⟩ dL_law_359 (fun r1717 hr1717 => ?_)
  obtain rfl := hr1717
  refine lv_aload_n hx hb dL_law_362 rfl (lv_at hl 1 rfl) ?_
  refine lv_aload_n hx hb dL_law_363 rfl (lv_at hl 3 rfl) ?_
  refine lv_iload_n hx hb dL_law_364 rfl (lv_at hl 0 rfl) ?_
  refine lv_iconst (v := 1) hx hb dL_law_365 (by decide) ?_
  refine lv_iadd hx hb dL_law_366 ?_
  refine eqi (x1 := 1) (by decide) ?_
  refine va_sld hx hb hX hbl hbA hS (vin (by decide +kernel)) dL_law_367 ?_
  refine eqi (x1 := xs 1) (congrArg xs (by decide +kernel)) ?_
  refine lv_aload_n hx hb dL_law_368 rfl (lv_at hl 3 rfl) ?_
  refine lv_iload_n hx hb dL_law_369 rfl (lv_at hl 0 rfl) ?_
  refine lv_iconst (v := 2) hx hb dL_law_370 (by decide) ?_
  refine lv_iadd hx hb dL_law_371 ?_
  refine eqi (x1 := 2) (by decide) ?_
  refine va_sld hx hb hX hbl hbA hS (vin (by decide +kernel)) dL_law_372 ?_
  refine eqi (x1 := xs 2) (congrArg xs (by decide +kernel)) ?_
  refine lv_aload_n hx hb dL_law_373 rfl (lv_at hl 3 rfl) ?_
  refine lv_iload_n hx hb dL_law_374 rfl (lv_at hl 0 rfl) ?_
  refine lv_iconst (v := 3) hx hb dL_law_375 (by decide) ?_
  refine lv_iadd hx hb dL_law_376 ?_
  refine eqi (x1 := 3) (by decide) ?_
  refine va_sld hx hb hX hbl hbA hS (vin (by decide +kernel)) dL_law_377 ?_
  refine eqi (x1 := xs 3) (congrArg xs (by decide +kernel)) ?_
  refine lv_aload_n hx hb dL_law_378 rfl (lv_at hl 3 rfl) ?_
  refine lv_iload_n hx hb dL_law_379 rfl (lv_at hl 0 rfl) ?_
  refine lv_iconst (v := 4) hx hb dL_law_380 (by decide) ?_
  refine lv_iadd hx hb dL_law_381 ?_
  refine eqi (x1 := 4) (by decide) ?_
  refine va_sld hx hb hX hbl hbA hS (vin (by decide +kernel)) dL_law_382 ?_
  refine eqi (x1 := xs 4) (congrArg xs (by decide +kernel)) ?_
  refine pV hC hK hl hP hD (m_paper l G mm (xs 1) (xs 2) (xs 3) (xs 4) (am 0) (am 1) (am 2) (am 3) (am 4) (am 5) (am 6) (am 7) (am 8) (am 9) (am 10) (am 11) (am 12) (am 13) (am 14) (am 15) (am 16) (am 17) (am 18)) si_L_35 [3, 4] rfl rfl (by decide) rfl rfl rfl rfl rfl (Nat.le_of_ble_eq_true rfl) ⟨Nat.le_of_ble_eq_true rfl, Nat.le_of_ble_eq_true rfl⟩ ⟨by first | exact Nat.le_of_ble_eq_true rfl | exact Nat.zero_le _, by first | exact Nat.le_of_ble_eq_true rfl | exact Nat.zero_le _⟩ dL_law_383 (fun r1719 hr1719 => ?_)
  obtain rfl := hr1719
  refine lv_icmp_eq (tgt := 1718) hx hb dL_law_386 (by decide) (fun _ => ?_) (fun c9 => absurd (by decide) c9)
  exact law_end hC hK hX hbl hbA hA hA2 hS (lv_sub hl [0, 1, 2, 3] rfl)
set_option maxHeartbeats 4000000 in
set_option maxRecDepth 100000 in
theorem law_5 {p : Program} {l : Launch} {e : Env} {s : State} {m : MethodId} {below : List Frame} {meth : Method} {c : Code} {b : Nat} {xs : Nat → Int32} {G : GG} {A : Nat → Prop} {H : Heap} {locs : List Loc} {ls : Array Slot} {x mm : Nat} {ad am : Nat → Nat} {hf : Nat → Option Nat} (hC : CX p s m meth c ⟨RL, meth.name, ""⟩ cL_law 4 ret #[Value.ref b]) (hK : KK G s) (hX : va_X b 7 xs s s.heap) (hbl : b < s.heap.size) (hbA : ¬ A b) (hA : ∀ q : Nat, s.heap.size ≤ q → A q) (hA2 : ∀ q : Nat, A q → s.heap.size ≤ q) (hhf : hf 0 = some (ad 59)) (hP : va_P G.1 vwCl (WLAW G x mm ad am hf) H) (hD : va_D A (WLAW G x mm ad am hf)) (hS : va_S A s.heap H locs) (hl : lv_has ls 4 [(3, .int 0), (2, .ref mm), (1, .ref x), (0, .ref b)]) : W p l e room_1 s m #[Value.ref b] below meth c H locs 123 9503 (lw_Z below #[Value.ref b] s) (F0 m 391 ls []) := by
  obtain ⟨hx, hb, hr, hml, hB, hown, hlocks, hnm⟩ := id hC
  have hP := hP.sub (ws' := [(x, .inr (11, [.ref (ad 0), .ref (ad 1), .int 0, .ref (ad 2), .ref (ad 3), .ref (ad 4), .ref (ad 5), .ref (ad 6), .ref (ad 7), .ref (ad 8), .ref (ad 9)])), ((ad 0), .inr (0, [.ref (ad 10), .ref (ad 11), .ref (ad 12), .ref (ad 13), .ref (ad 14), .ref (ad 15), .ref (ad 16), .ref (ad 17), .ref (ad 18), .ref (ad 19), .int 0, .int (-1), .int 3, .int 24])), ((ad 11), .inr (8, [.int 12, .int 6, .ref (ad 21), .int 0])), (mm, .inr (12, [.ref (am 0), .ref (am 1), .int 0, .ref (am 2), .int 0, .ref (am 3), .int 0, .int (-1), .int 0, .int 0, .ref (am 4), .int 0, .int 0, .ref (am 5), .int 0, .int 0, .int 0, .int 0, .int 0, .int 0, .int 0, .ref (am 6), .ref (am 7), .ref (am 8), .ref (am 9), .ref (am 10), .ref (am 11), .int 0, .ref (am 12), .ref (am 13), .ref (am 14), .ref (am 15), .ref (am 16), .ref (am 17), .ref (am 18), .int 0, .int 0, .int 0, .int 0, .int 0, .int 0])), ((am 0), .inl (G.2.1, 1662, .inl NOW0))]) [0, 1, 4, 74, 75] rfl
  have hD := hD.sub (ws' := [(x, .inr (11, [.ref (ad 0), .ref (ad 1), .int 0, .ref (ad 2), .ref (ad 3), .ref (ad 4), .ref (ad 5), .ref (ad 6), .ref (ad 7), .ref (ad 8), .ref (ad 9)])), ((ad 0), .inr (0, [.ref (ad 10), .ref (ad 11), .ref (ad 12), .ref (ad 13), .ref (ad 14), .ref (ad 15), .ref (ad 16), .ref (ad 17), .ref (ad 18), .ref (ad 19), .int 0, .int (-1), .int 3, .int 24])), ((ad 11), .inr (8, [.int 12, .int 6, .ref (ad 21), .int 0])), (mm, .inr (12, [.ref (am 0), .ref (am 1), .int 0, .ref (am 2), .int 0, .ref (am 3), .int 0, .int (-1), .int 0, .int 0, .ref (am 4), .int 0, .int 0, .ref (am 5), .int 0, .int 0, .int 0, .int 0, .int 0, .int 0, .int 0, .ref (am 6), .ref (am 7), .ref (am 8), .ref (am 9), .ref (am 10), .ref (am 11), .int 0, .ref (am 12), .ref (am 13), .ref (am 14), .ref (am 15), .ref (am 16), .ref (am 17), .ref (am 18), .int 0, .int 0, .int 0, .int 0, .int 0, .int 0])), ((am 0), .inl (G.2.1, 1662, .inl NOW0))]) [0, 1, 4, 74, 75] (by decide) rfl
  refine lv_aload_n hx hb dL_law_391 rfl (lv_at hl 2 rfl) ?_
  refine lv_aload_n hx hb dL_law_392 rfl (lv_at hl 3 rfl) ?_
  refine lv_iload_n hx hb dL_law_393 rfl (lv_at hl 0 rfl) ?_
  refine lv_iconst (v := 1) hx hb dL_law_394 (by decide) ?_
  refine lv_iadd hx hb dL_law_395 ?_
  refine eqi (x1 := 1) (by decide) ?_
  refine va_sld hx hb hX hbl hbA hS (vin (by decide +kernel)) dL_law_396 ?_
  refine eqi (x1 := xs 1) (congrArg xs (by decide +kernel)) ?_
  refine pV hC hK hl hP hD (c_lose l G x (xs 1) (ad 0) (ad 1) (ad 2) (ad 3) (ad 4) (ad 5) (ad 6) (ad 7) (ad 8) (ad 9) (ad 10) (ad 11) (ad 12) (ad 13) (ad 14) (ad 15) (ad 16) (ad 17) (ad 18) (ad 19) (ad 21)) si_L_36 [0, 1, 2] rfl rfl (by decide) rfl rfl rfl rfl rfl (Nat.le_of_ble_eq_true rfl) ⟨Nat.le_of_ble_eq_true rfl, Nat.le_of_ble_eq_true rfl⟩ ⟨by first | exact Nat.le_of_ble_eq_true rfl | exact Nat.zero_le _, by first | exact Nat.le_of_ble_eq_true rfl | exact Nat.zero_le _⟩ dL_law_397 (fun r1721 hr1721 => ?_)
  obtain rfl := hr1721
  refine lv_aload_n hx hb dL_law_400 rfl (lv_at hl 1 rfl) ?_
  refine lv_aload_n hx hb dL_law_401 rfl (lv_at hl 3 rfl) ?_
  refine lv_iload_n hx hb dL_law_402 rfl (lv_at hl 0 rfl) ?_
  refine lv_iconst (v := 1) hx hb dL_law_403 (by decide) ?_
  refine lv_iadd hx hb dL_law_404 ?_
  refine eqi (x1 := 1) (by decide) ?_
  refine va_sld hx hb hX hbl hbA hS (vin (by decide +kernel)) dL_law_405 ?_
  refine eqi (x1 := xs 1) (congrArg xs (by decide +kernel)) ?_
  refine pV hC hK hl hP hD (m_lose l G mm (xs 1) (am 0) (am 1) (am 2) (am 3) (am 4) (am 5) (am 6) (am 7) (am 8) (am 9) (am 10) (am 11) (am 12) (am 13) (am 14) (am 15) (am 16) (am 17) (am 18)) si_L_39 [3, 4] rfl rfl (by decide) rfl rfl rfl rfl rfl (Nat.le_of_ble_eq_true rfl) ⟨Nat.le_of_ble_eq_true rfl, Nat.le_of_ble_eq_true rfl⟩ ⟨by first | exact Nat.le_of_ble_eq_true rfl | exact Nat.zero_le _, by first | exact Nat.le_of_ble_eq_true rfl | exact Nat.zero_le _⟩ dL_law_406 (fun r1723 hr1723 => ?_)
  obtain rfl := hr1723
  refine lv_icmp_eq (tgt := 1718) hx hb dL_law_409 (by decide) (fun _ => ?_) (fun c9 => absurd (by decide) c9)
  exact law_end hC hK hX hbl hbA hA hA2 hS (lv_sub hl [0, 1, 2, 3] rfl)
set_option maxHeartbeats 4000000 in
set_option maxRecDepth 100000 in
theorem law_6 {p : Program} {l : Launch} {e : Env} {s : State} {m : MethodId} {below : List Frame} {meth : Method} {c : Code} {b : Nat} {xs : Nat → Int32} {G : GG} {A : Nat → Prop} {H : Heap} {locs : List Loc} {ls : Array Slot} {x mm : Nat} {ad am : Nat → Nat} {hf : Nat → Option Nat} (hC : CX p s m meth c ⟨RL, meth.name, ""⟩ cL_law 4 ret #[Value.ref b]) (hK : KK G s) (hX : va_X b 7 xs s s.heap) (hbl : b < s.heap.size) (hbA : ¬ A b) (hA : ∀ q : Nat, s.heap.size ≤ q → A q) (hA2 : ∀ q : Nat, A q → s.heap.size ≤ q) (hhf : hf 0 = some (ad 59)) (hP : va_P G.1 vwCl (WLAW G x mm ad am hf) H) (hD : va_D A (WLAW G x mm ad am hf)) (hS : va_S A s.heap H locs) (hl : lv_has ls 4 [(3, .int 0), (2, .ref mm), (1, .ref x), (0, .ref b)]) : W p l e room_1 s m #[Value.ref b] below meth c H locs 123 9503 (lw_Z below #[Value.ref b] s) (F0 m 414 ls []) := by
  obtain ⟨hx, hb, hr, hml, hB, hown, hlocks, hnm⟩ := id hC
  have hP := hP.sub (ws' := [(x, .inr (11, [.ref (ad 0), .ref (ad 1), .int 0, .ref (ad 2), .ref (ad 3), .ref (ad 4), .ref (ad 5), .ref (ad 6), .ref (ad 7), .ref (ad 8), .ref (ad 9)])), ((ad 0), .inr (0, [.ref (ad 10), .ref (ad 11), .ref (ad 12), .ref (ad 13), .ref (ad 14), .ref (ad 15), .ref (ad 16), .ref (ad 17), .ref (ad 18), .ref (ad 19), .int 0, .int (-1), .int 3, .int 24])), ((ad 11), .inr (8, [.int 12, .int 6, .ref (ad 21), .int 0])), (mm, .inr (12, [.ref (am 0), .ref (am 1), .int 0, .ref (am 2), .int 0, .ref (am 3), .int 0, .int (-1), .int 0, .int 0, .ref (am 4), .int 0, .int 0, .ref (am 5), .int 0, .int 0, .int 0, .int 0, .int 0, .int 0, .int 0, .ref (am 6), .ref (am 7), .ref (am 8), .ref (am 9), .ref (am 10), .ref (am 11), .int 0, .ref (am 12), .ref (am 13), .ref (am 14), .ref (am 15), .ref (am 16), .ref (am 17), .ref (am 18), .int 0, .int 0, .int 0, .int 0, .int 0, .int 0])), ((am 0), .inl (G.2.1, 1662, .inl NOW0))]) [0, 1, 4, 74, 75] rfl
  have hD := hD.sub (ws' := [(x, .inr (11, [.ref (ad 0), .ref (ad 1), .int 0, .ref (ad 2), .ref (ad 3), .ref (ad 4), .ref (ad 5), .ref (ad 6), .ref (ad 7), .ref (ad 8), .ref (ad 9)])), ((ad 0), .inr (0, [.ref (ad 10), .ref (ad 11), .ref (ad 12), .ref (ad 13), .ref (ad 14), .ref (ad 15), .ref (ad 16), .ref (ad 17), .ref (ad 18), .ref (ad 19), .int 0, .int (-1), .int 3, .int 24])), ((ad 11), .inr (8, [.int 12, .int 6, .ref (ad 21), .int 0])), (mm, .inr (12, [.ref (am 0), .ref (am 1), .int 0, .ref (am 2), .int 0, .ref (am 3), .int 0, .int (-1), .int 0, .int 0, .ref (am 4), .int 0, .int 0, .ref (am 5), .int 0, .int 0, .int 0, .int 0, .int 0, .int 0, .int 0, .ref (am 6), .ref (am 7), .ref (am 8), .ref (am 9), .ref (am 10), .ref (am 11), .int 0, .ref (am 12), .ref (am 13), .ref (am 14), .ref (am 15), .ref (am 16), .ref (am 17), .ref (am 18), .int 0, .int 0, .int 0, .int 0, .int 0, .int 0])), ((am 0), .inl (G.2.1, 1662, .inl NOW0))]) [0, 1, 4, 74, 75] (by decide) rfl
  refine lv_aload_n hx hb dL_law_414 rfl (lv_at hl 2 rfl) ?_
  refine lv_aload_n hx hb dL_law_415 rfl (lv_at hl 3 rfl) ?_
  refine lv_iload_n hx hb dL_law_416 rfl (lv_at hl 0 rfl) ?_
  refine lv_iconst (v := 1) hx hb dL_law_417 (by decide) ?_
  refine lv_iadd hx hb dL_law_418 ?_
  refine eqi (x1 := 1) (by decide) ?_
  refine va_sld hx hb hX hbl hbA hS (vin (by decide +kernel)) dL_law_419 ?_
  refine eqi (x1 := xs 1) (congrArg xs (by decide +kernel)) ?_
  refine lv_aload_n hx hb dL_law_420 rfl (lv_at hl 3 rfl) ?_
  refine lv_iload_n hx hb dL_law_421 rfl (lv_at hl 0 rfl) ?_
  refine lv_iconst (v := 2) hx hb dL_law_422 (by decide) ?_
  refine lv_iadd hx hb dL_law_423 ?_
  refine eqi (x1 := 2) (by decide) ?_
  refine va_sld hx hb hX hbl hbA hS (vin (by decide +kernel)) dL_law_424 ?_
  refine eqi (x1 := xs 2) (congrArg xs (by decide +kernel)) ?_
  refine pV hC hK hl hP hD (c_paperOf l G x (xs 1) (xs 2) (ad 0) (ad 1) (ad 2) (ad 3) (ad 4) (ad 5) (ad 6) (ad 7) (ad 8) (ad 9) (ad 10) (ad 11) (ad 12) (ad 13) (ad 14) (ad 15) (ad 16) (ad 17) (ad 18) (ad 19) (ad 21)) si_L_40 [0, 1, 2] rfl rfl (by decide) rfl rfl rfl rfl rfl (Nat.le_of_ble_eq_true rfl) ⟨Nat.le_of_ble_eq_true rfl, Nat.le_of_ble_eq_true rfl⟩ ⟨by first | exact Nat.le_of_ble_eq_true rfl | exact Nat.zero_le _, by first | exact Nat.le_of_ble_eq_true rfl | exact Nat.zero_le _⟩ dL_law_425 (fun r1725 hr1725 => ?_)
  obtain rfl := hr1725
  refine lv_aload_n hx hb dL_law_428 rfl (lv_at hl 1 rfl) ?_
  refine lv_aload_n hx hb dL_law_429 rfl (lv_at hl 3 rfl) ?_
  refine lv_iload_n hx hb dL_law_430 rfl (lv_at hl 0 rfl) ?_
  refine lv_iconst (v := 1) hx hb dL_law_431 (by decide) ?_
  refine lv_iadd hx hb dL_law_432 ?_
  refine eqi (x1 := 1) (by decide) ?_
  refine va_sld hx hb hX hbl hbA hS (vin (by decide +kernel)) dL_law_433 ?_
  refine eqi (x1 := xs 1) (congrArg xs (by decide +kernel)) ?_
  refine lv_aload_n hx hb dL_law_434 rfl (lv_at hl 3 rfl) ?_
  refine lv_iload_n hx hb dL_law_435 rfl (lv_at hl 0 rfl) ?_
  refine lv_iconst (v := 2) hx hb dL_law_436 (by decide) ?_
  refine lv_iadd hx hb dL_law_437 ?_
  refine eqi (x1 := 2) (by decide) ?_
  refine va_sld hx hb hX hbl hbA hS (vin (by decide +kernel)) dL_law_438 ?_
  refine eqi (x1 := xs 2) (congrArg xs (by decide +kernel)) ?_
  refine pV hC hK hl hP hD (m_paperOf l G mm (xs 1) (xs 2) (am 0) (am 1) (am 2) (am 3) (am 4) (am 5) (am 6) (am 7) (am 8) (am 9) (am 10) (am 11) (am 12) (am 13) (am 14) (am 15) (am 16) (am 17) (am 18)) si_L_43 [3, 4] rfl rfl (by decide) rfl rfl rfl rfl rfl (Nat.le_of_ble_eq_true rfl) ⟨Nat.le_of_ble_eq_true rfl, Nat.le_of_ble_eq_true rfl⟩ ⟨by first | exact Nat.le_of_ble_eq_true rfl | exact Nat.zero_le _, by first | exact Nat.le_of_ble_eq_true rfl | exact Nat.zero_le _⟩ dL_law_439 (fun r1727 hr1727 => ?_)
  obtain rfl := hr1727
  refine lv_icmp_eq (tgt := 1718) hx hb dL_law_442 (by decide) (fun _ => ?_) (fun c9 => absurd (by decide) c9)
  exact law_end hC hK hX hbl hbA hA hA2 hS (lv_sub hl [0, 1, 2, 3] rfl)
set_option maxHeartbeats 4000000 in
set_option maxRecDepth 100000 in
theorem law_7 {p : Program} {l : Launch} {e : Env} {s : State} {m : MethodId} {below : List Frame} {meth : Method} {c : Code} {b : Nat} {xs : Nat → Int32} {G : GG} {A : Nat → Prop} {H : Heap} {locs : List Loc} {ls : Array Slot} {x mm : Nat} {ad am : Nat → Nat} {hf : Nat → Option Nat} (hC : CX p s m meth c ⟨RL, meth.name, ""⟩ cL_law 4 ret #[Value.ref b]) (hK : KK G s) (hX : va_X b 7 xs s s.heap) (hbl : b < s.heap.size) (hbA : ¬ A b) (hA : ∀ q : Nat, s.heap.size ≤ q → A q) (hA2 : ∀ q : Nat, A q → s.heap.size ≤ q) (hhf : hf 0 = some (ad 59)) (hP : va_P G.1 vwCl (WLAW G x mm ad am hf) H) (hD : va_D A (WLAW G x mm ad am hf)) (hS : va_S A s.heap H locs) (hl : lv_has ls 4 [(3, .int 0), (2, .ref mm), (1, .ref x), (0, .ref b)]) : W p l e room_1 s m #[Value.ref b] below meth c H locs 123 9503 (lw_Z below #[Value.ref b] s) (F0 m 447 ls []) := by
  obtain ⟨hx, hb, hr, hml, hB, hown, hlocks, hnm⟩ := id hC
  have hP := hP.sub (ws' := [(x, .inr (11, [.ref (ad 0), .ref (ad 1), .int 0, .ref (ad 2), .ref (ad 3), .ref (ad 4), .ref (ad 5), .ref (ad 6), .ref (ad 7), .ref (ad 8), .ref (ad 9)])), ((ad 0), .inr (0, [.ref (ad 10), .ref (ad 11), .ref (ad 12), .ref (ad 13), .ref (ad 14), .ref (ad 15), .ref (ad 16), .ref (ad 17), .ref (ad 18), .ref (ad 19), .int 0, .int (-1), .int 3, .int 24])), ((ad 11), .inr (8, [.int 12, .int 6, .ref (ad 21), .int 0])), (mm, .inr (12, [.ref (am 0), .ref (am 1), .int 0, .ref (am 2), .int 0, .ref (am 3), .int 0, .int (-1), .int 0, .int 0, .ref (am 4), .int 0, .int 0, .ref (am 5), .int 0, .int 0, .int 0, .int 0, .int 0, .int 0, .int 0, .ref (am 6), .ref (am 7), .ref (am 8), .ref (am 9), .ref (am 10), .ref (am 11), .int 0, .ref (am 12), .ref (am 13), .ref (am 14), .ref (am 15), .ref (am 16), .ref (am 17), .ref (am 18), .int 0, .int 0, .int 0, .int 0, .int 0, .int 0])), ((am 0), .inl (G.2.1, 1662, .inl NOW0))]) [0, 1, 4, 74, 75] rfl
  have hD := hD.sub (ws' := [(x, .inr (11, [.ref (ad 0), .ref (ad 1), .int 0, .ref (ad 2), .ref (ad 3), .ref (ad 4), .ref (ad 5), .ref (ad 6), .ref (ad 7), .ref (ad 8), .ref (ad 9)])), ((ad 0), .inr (0, [.ref (ad 10), .ref (ad 11), .ref (ad 12), .ref (ad 13), .ref (ad 14), .ref (ad 15), .ref (ad 16), .ref (ad 17), .ref (ad 18), .ref (ad 19), .int 0, .int (-1), .int 3, .int 24])), ((ad 11), .inr (8, [.int 12, .int 6, .ref (ad 21), .int 0])), (mm, .inr (12, [.ref (am 0), .ref (am 1), .int 0, .ref (am 2), .int 0, .ref (am 3), .int 0, .int (-1), .int 0, .int 0, .ref (am 4), .int 0, .int 0, .ref (am 5), .int 0, .int 0, .int 0, .int 0, .int 0, .int 0, .int 0, .ref (am 6), .ref (am 7), .ref (am 8), .ref (am 9), .ref (am 10), .ref (am 11), .int 0, .ref (am 12), .ref (am 13), .ref (am 14), .ref (am 15), .ref (am 16), .ref (am 17), .ref (am 18), .int 0, .int 0, .int 0, .int 0, .int 0, .int 0])), ((am 0), .inl (G.2.1, 1662, .inl NOW0))]) [0, 1, 4, 74, 75] (by decide) rfl
  refine lv_aload_n hx hb dL_law_447 rfl (lv_at hl 2 rfl) ?_
  refine lv_aload_n hx hb dL_law_448 rfl (lv_at hl 3 rfl) ?_
  refine lv_iload_n hx hb dL_law_449 rfl (lv_at hl 0 rfl) ?_
  refine lv_iconst (v := 1) hx hb dL_law_450 (by decide) ?_
  refine lv_iadd hx hb dL_law_451 ?_
  refine eqi (x1 := 1) (by decide) ?_
  refine va_sld hx hb hX hbl hbA hS (vin (by decide +kernel)) dL_law_452 ?_
  refine eqi (x1 := xs 1) (congrArg xs (by decide +kernel)) ?_
  refine lv_aload_n hx hb dL_law_453 rfl (lv_at hl 3 rfl) ?_
  refine lv_iload_n hx hb dL_law_454 rfl (lv_at hl 0 rfl) ?_
  refine lv_iconst (v := 2) hx hb dL_law_455 (by decide) ?_
  refine lv_iadd hx hb dL_law_456 ?_
  refine eqi (x1 := 2) (by decide) ?_
  refine va_sld hx hb hX hbl hbA hS (vin (by decide +kernel)) dL_law_457 ?_
  refine eqi (x1 := xs 2) (congrArg xs (by decide +kernel)) ?_
  refine lv_aload_n hx hb dL_law_458 rfl (lv_at hl 3 rfl) ?_
  refine lv_iload_n hx hb dL_law_459 rfl (lv_at hl 0 rfl) ?_
  refine lv_iconst (v := 3) hx hb dL_law_460 (by decide) ?_
  refine lv_iadd hx hb dL_law_461 ?_
  refine eqi (x1 := 3) (by decide) ?_
  refine va_sld hx hb hX hbl hbA hS (vin (by decide +kernel)) dL_law_462 ?_
  refine eqi (x1 := xs 3) (congrArg xs (by decide +kernel)) ?_
  refine pV hC hK hl hP hD (c_stamp l G x (xs 1) (xs 2) (xs 3) (ad 0) (ad 1) (ad 2) (ad 3) (ad 4) (ad 5) (ad 6) (ad 7) (ad 8) (ad 9) (ad 10) (ad 11) (ad 12) (ad 13) (ad 14) (ad 15) (ad 16) (ad 17) (ad 18) (ad 19) (ad 21)) si_L_44 [0, 1, 2] rfl rfl (by decide) rfl rfl rfl rfl rfl (Nat.le_of_ble_eq_true rfl) ⟨Nat.le_of_ble_eq_true rfl, Nat.le_of_ble_eq_true rfl⟩ ⟨by first | exact Nat.le_of_ble_eq_true rfl | exact Nat.zero_le _, by first | exact Nat.le_of_ble_eq_true rfl | exact Nat.zero_le _⟩ dL_law_463 (fun r1729 hr1729 => ?_)
  obtain rfl := hr1729
  refine lv_aload_n hx hb dL_law_466 rfl (lv_at hl 1 rfl) ?_
  refine lv_aload_n hx hb dL_law_467 rfl (lv_at hl 3 rfl) ?_
  refine lv_iload_n hx hb dL_law_468 rfl (lv_at hl 0 rfl) ?_
  refine lv_iconst (v := 1) hx hb dL_law_469 (by decide) ?_
  refine lv_iadd hx hb dL_law_470 ?_
  refine eqi (x1 := 1) (by decide) ?_
  refine va_sld hx hb hX hbl hbA hS (vin (by decide +kernel)) dL_law_471 ?_
  refine eqi (x1 := xs 1) (congrArg xs (by decide +kernel)) ?_
  refine lv_aload_n hx hb dL_law_472 rfl (lv_at hl 3 rfl) ?_
  refine lv_iload_n hx hb dL_law_473 rfl (lv_at hl 0 rfl) ?_
  refine lv_iconst (v := 2) hx hb dL_law_474 (by decide) ?_
  refine lv_iadd hx hb dL_law_475 ?_
  refine eqi (x1 := 2) (by decide) ?_
  refine va_sld hx hb hX hbl hbA hS (vin (by decide +kernel)) dL_law_476 ?_
  refine eqi (x1 := xs 2) (congrArg xs (by decide +kernel)) ?_
  refine lv_aload_n hx hb dL_law_477 rfl (lv_at hl 3 rfl) ?_
  refine lv_iload_n hx hb dL_law_478 rfl (lv_at hl 0 rfl) ?_
  refine lv_iconst (v := 3) hx hb dL_law_479 (by decide) ?_
  refine lv_iadd hx hb dL_law_480 ?_
  refine eqi (x1 := 3) (by decide) ?_
  refine va_sld hx hb hX hbl hbA hS (vin (by decide +kernel)) dL_law_481 ?_
  refine eqi (x1 := xs 3) (congrArg xs (by decide +kernel)) ?_
  refine pV hC hK hl hP hD (m_stamp l G mm (xs 1) (xs 2) (xs 3) (am 0) (am 1) (am 2) (am 3) (am 4) (am 5) (am 6) (am 7) (am 8) (am 9) (am 10) (am 11) (am 12) (am 13) (am 14) (am 15) (am 16) (am 17) (am 18)) si_L_48 [3, 4] rfl rfl (by decide) rfl rfl rfl rfl rfl (Nat.le_of_ble_eq_true rfl) ⟨Nat.le_of_ble_eq_true rfl, Nat.le_of_ble_eq_true rfl⟩ ⟨by first | exact Nat.le_of_ble_eq_true rfl | exact Nat.zero_le _, by first | exact Nat.le_of_ble_eq_true rfl | exact Nat.zero_le _⟩ dL_law_482 (fun r1731 hr1731 => ?_)
  obtain rfl := hr1731
  refine lv_icmp_eq (tgt := 1718) hx hb dL_law_485 (by decide) (fun _ => ?_) (fun c9 => absurd (by decide) c9)
  exact law_end hC hK hX hbl hbA hA hA2 hS (lv_sub hl [0, 1, 2, 3] rfl)
set_option maxHeartbeats 4000000 in
set_option maxRecDepth 100000 in
theorem law_8 {p : Program} {l : Launch} {e : Env} {s : State} {m : MethodId} {below : List Frame} {meth : Method} {c : Code} {b : Nat} {xs : Nat → Int32} {G : GG} {A : Nat → Prop} {H : Heap} {locs : List Loc} {ls : Array Slot} {x mm : Nat} {ad am : Nat → Nat} {hf : Nat → Option Nat} (hC : CX p s m meth c ⟨RL, meth.name, ""⟩ cL_law 4 ret #[Value.ref b]) (hK : KK G s) (hX : va_X b 7 xs s s.heap) (hbl : b < s.heap.size) (hbA : ¬ A b) (hA : ∀ q : Nat, s.heap.size ≤ q → A q) (hA2 : ∀ q : Nat, A q → s.heap.size ≤ q) (hhf : hf 0 = some (ad 59)) (hP : va_P G.1 vwCl (WLAW G x mm ad am hf) H) (hD : va_D A (WLAW G x mm ad am hf)) (hS : va_S A s.heap H locs) (hl : lv_has ls 4 [(3, .int 0), (2, .ref mm), (1, .ref x), (0, .ref b)]) : W p l e room_1 s m #[Value.ref b] below meth c H locs 123 9503 (lw_Z below #[Value.ref b] s) (F0 m 490 ls []) := by
  obtain ⟨hx, hb, hr, hml, hB, hown, hlocks, hnm⟩ := id hC
  have hP := hP.sub (ws' := [(x, .inr (11, [.ref (ad 0), .ref (ad 1), .int 0, .ref (ad 2), .ref (ad 3), .ref (ad 4), .ref (ad 5), .ref (ad 6), .ref (ad 7), .ref (ad 8), .ref (ad 9)])), ((ad 0), .inr (0, [.ref (ad 10), .ref (ad 11), .ref (ad 12), .ref (ad 13), .ref (ad 14), .ref (ad 15), .ref (ad 16), .ref (ad 17), .ref (ad 18), .ref (ad 19), .int 0, .int (-1), .int 3, .int 24])), ((ad 11), .inr (8, [.int 12, .int 6, .ref (ad 21), .int 0])), (mm, .inr (12, [.ref (am 0), .ref (am 1), .int 0, .ref (am 2), .int 0, .ref (am 3), .int 0, .int (-1), .int 0, .int 0, .ref (am 4), .int 0, .int 0, .ref (am 5), .int 0, .int 0, .int 0, .int 0, .int 0, .int 0, .int 0, .ref (am 6), .ref (am 7), .ref (am 8), .ref (am 9), .ref (am 10), .ref (am 11), .int 0, .ref (am 12), .ref (am 13), .ref (am 14), .ref (am 15), .ref (am 16), .ref (am 17), .ref (am 18), .int 0, .int 0, .int 0, .int 0, .int 0, .int 0])), ((am 0), .inl (G.2.1, 1662, .inl NOW0))]) [0, 1, 4, 74, 75] rfl
  have hD := hD.sub (ws' := [(x, .inr (11, [.ref (ad 0), .ref (ad 1), .int 0, .ref (ad 2), .ref (ad 3), .ref (ad 4), .ref (ad 5), .ref (ad 6), .ref (ad 7), .ref (ad 8), .ref (ad 9)])), ((ad 0), .inr (0, [.ref (ad 10), .ref (ad 11), .ref (ad 12), .ref (ad 13), .ref (ad 14), .ref (ad 15), .ref (ad 16), .ref (ad 17), .ref (ad 18), .ref (ad 19), .int 0, .int (-1), .int 3, .int 24])), ((ad 11), .inr (8, [.int 12, .int 6, .ref (ad 21), .int 0])), (mm, .inr (12, [.ref (am 0), .ref (am 1), .int 0, .ref (am 2), .int 0, .ref (am 3), .int 0, .int (-1), .int 0, .int 0, .ref (am 4), .int 0, .int 0, .ref (am 5), .int 0, .int 0, .int 0, .int 0, .int 0, .int 0, .int 0, .ref (am 6), .ref (am 7), .ref (am 8), .ref (am 9), .ref (am 10), .ref (am 11), .int 0, .ref (am 12), .ref (am 13), .ref (am 14), .ref (am 15), .ref (am 16), .ref (am 17), .ref (am 18), .int 0, .int 0, .int 0, .int 0, .int 0, .int 0])), ((am 0), .inl (G.2.1, 1662, .inl NOW0))]) [0, 1, 4, 74, 75] (by decide) rfl
  refine lv_aload_n hx hb dL_law_490 rfl (lv_at hl 2 rfl) ?_
  refine lv_aload_n hx hb dL_law_491 rfl (lv_at hl 3 rfl) ?_
  refine lv_iload_n hx hb dL_law_492 rfl (lv_at hl 0 rfl) ?_
  refine lv_iconst (v := 1) hx hb dL_law_493 (by decide) ?_
  refine lv_iadd hx hb dL_law_494 ?_
  refine eqi (x1 := 1) (by decide) ?_
  refine va_sld hx hb hX hbl hbA hS (vin (by decide +kernel)) dL_law_495 ?_
  refine eqi (x1 := xs 1) (congrArg xs (by decide +kernel)) ?_
  refine lv_aload_n hx hb dL_law_496 rfl (lv_at hl 3 rfl) ?_
  refine lv_iload_n hx hb dL_law_497 rfl (lv_at hl 0 rfl) ?_
  refine lv_iconst (v := 2) hx hb dL_law_498 (by decide) ?_
  refine lv_iadd hx hb dL_law_499 ?_
  refine eqi (x1 := 2) (by decide) ?_
  refine va_sld hx hb hX hbl hbA hS (vin (by decide +kernel)) dL_law_500 ?_
  refine eqi (x1 := xs 2) (congrArg xs (by decide +kernel)) ?_
  refine lv_aload_n hx hb dL_law_501 rfl (lv_at hl 3 rfl) ?_
  refine lv_iload_n hx hb dL_law_502 rfl (lv_at hl 0 rfl) ?_
  refine lv_iconst (v := 3) hx hb dL_law_503 (by decide) ?_
  refine lv_iadd hx hb dL_law_504 ?_
  refine eqi (x1 := 3) (by decide) ?_
  refine va_sld hx hb hX hbl hbA hS (vin (by decide +kernel)) dL_law_505 ?_
  refine eqi (x1 := xs 3) (congrArg xs (by decide +kernel)) ?_
  refine lv_aload_n hx hb dL_law_506 rfl (lv_at hl 3 rfl) ?_
  refine lv_iload_n hx hb dL_law_507 rfl (lv_at hl 0 rfl) ?_
  refine lv_iconst (v := 4) hx hb dL_law_508 (by decide) ?_
  refine lv_iadd hx hb dL_law_509 ?_
  refine eqi (x1 := 4) (by decide) ?_
  refine va_sld hx hb hX hbl hbA hS (vin (by decide +kernel)) dL_law_510 ?_
  refine eqi (x1 := xs 4) (congrArg xs (by decide +kernel)) ?_
  refine pV hC hK hl hP hD (c_stamps l G x (xs 1) (xs 2) (xs 3) (xs 4) (ad 0) (ad 1) (ad 2) (ad 3) (ad 4) (ad 5) (ad 6) (ad 7) (ad 8) (ad 9) (ad 10) (ad 11) (ad 12) (ad 13) (ad 14) (ad 15) (ad 16) (ad 17) (ad 18) (ad 19) (ad 21)) si_L_49 [0, 1, 2] rfl rfl (by decide) rfl rfl rfl rfl rfl (Nat.le_of_ble_eq_true rfl) ⟨Nat.le_of_ble_eq_true rfl, Nat.le_of_ble_eq_true rfl⟩ ⟨by first | exact Nat.le_of_ble_eq_true rfl | exact Nat.zero_le _, by first | exact Nat.le_of_ble_eq_true rfl | exact Nat.zero_le _⟩ dL_law_511 (fun r1733 hr1733 => ?_)
  obtain rfl := hr1733
  refine lv_aload_n hx hb dL_law_514 rfl (lv_at hl 1 rfl) ?_
  refine lv_aload_n hx hb dL_law_515 rfl (lv_at hl 3 rfl) ?_
  refine lv_iload_n hx hb dL_law_516 rfl (lv_at hl 0 rfl) ?_
  refine lv_iconst (v := 1) hx hb dL_law_517 (by decide) ?_
  refine lv_iadd hx hb dL_law_518 ?_
  refine eqi (x1 := 1) (by decide) ?_
  refine va_sld hx hb hX hbl hbA hS (vin (by decide +kernel)) dL_law_519 ?_
  refine eqi (x1 := xs 1) (congrArg xs (by decide +kernel)) ?_
  refine lv_aload_n hx hb dL_law_520 rfl (lv_at hl 3 rfl) ?_
  refine lv_iload_n hx hb dL_law_521 rfl (lv_at hl 0 rfl) ?_
  refine lv_iconst (v := 2) hx hb dL_law_522 (by decide) ?_
  refine lv_iadd hx hb dL_law_523 ?_
  refine eqi (x1 := 2) (by decide) ?_
  refine va_sld hx hb hX hbl hbA hS (vin (by decide +kernel)) dL_law_524 ?_
  refine eqi (x1 := xs 2) (congrArg xs (by decide +kernel)) ?_
  refine lv_aload_n hx hb dL_law_525 rfl (lv_at hl 3 rfl) ?_
  refine lv_iload_n hx hb dL_law_526 rfl (lv_at hl 0 rfl) ?_
  refine lv_iconst (v := 3) hx hb dL_law_527 (by decide) ?_
  refine lv_iadd hx hb dL_law_528 ?_
  refine eqi (x1 := 3) (by decide) ?_
  refine va_sld hx hb hX hbl hbA hS (vin (by decide +kernel)) dL_law_529 ?_
  refine eqi (x1 := xs 3) (congrArg xs (by decide +kernel)) ?_
  refine lv_aload_n hx hb dL_law_530 rfl (lv_at hl 3 rfl) ?_
  refine lv_iload_n hx hb dL_law_531 rfl (lv_at hl 0 rfl) ?_
  refine lv_iconst (v := 4) hx hb dL_law_532 (by decide) ?_
  refine lv_iadd hx hb dL_law_533 ?_
  refine eqi (x1 := 4) (by decide) ?_
  refine va_sld hx hb hX hbl hbA hS (vin (by decide +kernel)) dL_law_534 ?_
  refine eqi (x1 := xs 4) (congrArg xs (by decide +kernel)) ?_
  refine pV hC hK hl hP hD (m_stamps l G mm (xs 1) (xs 2) (xs 3) (xs 4) (am 0) (am 1) (am 2) (am 3) (am 4) (am 5) (am 6) (am 7) (am 8) (am 9) (am 10) (am 11) (am 12) (am 13) (am 14) (am 15) (am 16) (am 17) (am 18)) si_L_52 [3, 4] rfl rfl (by decide) rfl rfl rfl rfl rfl (Nat.le_of_ble_eq_true rfl) ⟨Nat.le_of_ble_eq_true rfl, Nat.le_of_ble_eq_true rfl⟩ ⟨by first | exact Nat.le_of_ble_eq_true rfl | exact Nat.zero_le _, by first | exact Nat.le_of_ble_eq_true rfl | exact Nat.zero_le _⟩ dL_law_535 (fun r1735 hr1735 => ?_)
  obtain rfl := hr1735
  refine lv_icmp_eq (tgt := 1718) hx hb dL_law_538 (by decide) (fun _ => ?_) (fun c9 => absurd (by decide) c9)
  exact law_end hC hK hX hbl hbA hA hA2 hS (lv_sub hl [0, 1, 2, 3] rfl)
set_option maxHeartbeats 4000000 in
set_option maxRecDepth 100000 in
theorem law_9 {p : Program} {l : Launch} {e : Env} {s : State} {m : MethodId} {below : List Frame} {meth : Method} {c : Code} {b : Nat} {xs : Nat → Int32} {G : GG} {A : Nat → Prop} {H : Heap} {locs : List Loc} {ls : Array Slot} {x mm : Nat} {ad am : Nat → Nat} {hf : Nat → Option Nat} (hC : CX p s m meth c ⟨RL, meth.name, ""⟩ cL_law 4 ret #[Value.ref b]) (hK : KK G s) (hX : va_X b 7 xs s s.heap) (hbl : b < s.heap.size) (hbA : ¬ A b) (hA : ∀ q : Nat, s.heap.size ≤ q → A q) (hA2 : ∀ q : Nat, A q → s.heap.size ≤ q) (hhf : hf 0 = some (ad 59)) (hP : va_P G.1 vwCl (WLAW G x mm ad am hf) H) (hD : va_D A (WLAW G x mm ad am hf)) (hS : va_S A s.heap H locs) (hl : lv_has ls 4 [(3, .int 0), (2, .ref mm), (1, .ref x), (0, .ref b)]) : W p l e room_1 s m #[Value.ref b] below meth c H locs 123 9503 (lw_Z below #[Value.ref b] s) (F0 m 543 ls []) := by
  obtain ⟨hx, hb, hr, hml, hB, hown, hlocks, hnm⟩ := id hC
  have hP := hP.sub (ws' := [(x, .inr (11, [.ref (ad 0), .ref (ad 1), .int 0, .ref (ad 2), .ref (ad 3), .ref (ad 4), .ref (ad 5), .ref (ad 6), .ref (ad 7), .ref (ad 8), .ref (ad 9)])), ((ad 0), .inr (0, [.ref (ad 10), .ref (ad 11), .ref (ad 12), .ref (ad 13), .ref (ad 14), .ref (ad 15), .ref (ad 16), .ref (ad 17), .ref (ad 18), .ref (ad 19), .int 0, .int (-1), .int 3, .int 24])), (mm, .inr (12, [.ref (am 0), .ref (am 1), .int 0, .ref (am 2), .int 0, .ref (am 3), .int 0, .int (-1), .int 0, .int 0, .ref (am 4), .int 0, .int 0, .ref (am 5), .int 0, .int 0, .int 0, .int 0, .int 0, .int 0, .int 0, .ref (am 6), .ref (am 7), .ref (am 8), .ref (am 9), .ref (am 10), .ref (am 11), .int 0, .ref (am 12), .ref (am 13), .ref (am 14), .ref (am 15), .ref (am 16), .ref (am 17), .ref (am 18), .int 0, .int 0, .int 0, .int 0, .int 0, .int 0])), ((am 0), .inl (G.2.1, 1662, .inl NOW0))]) [0, 1, 74, 75] rfl
  have hD := hD.sub (ws' := [(x, .inr (11, [.ref (ad 0), .ref (ad 1), .int 0, .ref (ad 2), .ref (ad 3), .ref (ad 4), .ref (ad 5), .ref (ad 6), .ref (ad 7), .ref (ad 8), .ref (ad 9)])), ((ad 0), .inr (0, [.ref (ad 10), .ref (ad 11), .ref (ad 12), .ref (ad 13), .ref (ad 14), .ref (ad 15), .ref (ad 16), .ref (ad 17), .ref (ad 18), .ref (ad 19), .int 0, .int (-1), .int 3, .int 24])), (mm, .inr (12, [.ref (am 0), .ref (am 1), .int 0, .ref (am 2), .int 0, .ref (am 3), .int 0, .int (-1), .int 0, .int 0, .ref (am 4), .int 0, .int 0, .ref (am 5), .int 0, .int 0, .int 0, .int 0, .int 0, .int 0, .int 0, .ref (am 6), .ref (am 7), .ref (am 8), .ref (am 9), .ref (am 10), .ref (am 11), .int 0, .ref (am 12), .ref (am 13), .ref (am 14), .ref (am 15), .ref (am 16), .ref (am 17), .ref (am 18), .int 0, .int 0, .int 0, .int 0, .int 0, .int 0])), ((am 0), .inl (G.2.1, 1662, .inl NOW0))]) [0, 1, 74, 75] (by decide) rfl
  refine lv_aload_n hx hb dL_law_543 rfl (lv_at hl 2 rfl) ?_
  refine lv_aload_n hx hb dL_law_544 rfl (lv_at hl 3 rfl) ?_
  refine lv_iload_n hx hb dL_law_545 rfl (lv_at hl 0 rfl) ?_
  refine lv_iconst (v := 1) hx hb dL_law_546 (by decide) ?_
  refine lv_iadd hx hb dL_law_547 ?_
  refine eqi (x1 := 1) (by decide) ?_
  refine va_sld hx hb hX hbl hbA hS (vin (by decide +kernel)) dL_law_548 ?_
  refine eqi (x1 := xs 1) (congrArg xs (by decide +kernel)) ?_
  refine iV (wr := [(mm, .inr (12, [.ref (am 0), .ref (am 1), .int 0, .ref (am 2), .int 0, .ref (am 3), .int 0, .int (-1), .int 0, .int 0, .ref (am 4), .int 0, .int 0, .ref (am 5), .int 0, .int 0, .int 0, .int 0, .int 0, .int 0, .int 0, .ref (am 6), .ref (am 7), .ref (am 8), .ref (am 9), .ref (am 10), .ref (am 11), .int 0, .ref (am 12), .ref (am 13), .ref (am 14), .ref (am 15), .ref (am 16), .ref (am 17), .ref (am 18), .int 0, .int 0, .int 0, .int 0, .int 0, .int 0])), ((am 0), .inl (G.2.1, 1662, .inl NOW0))]) hC hK hl hP hD hS hA (c_gap l G x (xs 1) (ad 0) (ad 1) (ad 2) (ad 3) (ad 4) (ad 5) (ad 6) (ad 7) (ad 8) (ad 9) (ad 10) (ad 11) (ad 12) (ad 13) (ad 14) (ad 15) (ad 16) (ad 17) (ad 18) (ad 19)) si_L_53 [0, 1] [2, 3] rfl rfl (by decide) rfl (by decide) (by decide) rfl rfl rfl rfl rfl (Nat.le_of_ble_eq_true rfl) ⟨Nat.le_of_ble_eq_true rfl, Nat.le_of_ble_eq_true rfl⟩ ⟨by first | exact Nat.le_of_ble_eq_true rfl | omega, by first | exact Nat.le_of_ble_eq_true rfl | omega⟩ dL_law_549 (fun r1737 u1738 H locs hr1737 hP hD hS => ?_)
  have hP : va_P G.1 vwCl [(mm, .inr (12, [.ref (am 0), .ref (am 1), .int 0, .ref (am 2), .int 0, .ref (am 3), .int 0, .int (-1), .int 0, .int 0, .ref (am 4), .int 0, .int 0, .ref (am 5), .int 0, .int 0, .int 0, .int 0, .int 0, .int 0, .int 0, .ref (am 6), .ref (am 7), .ref (am 8), .ref (am 9), .ref (am 10), .ref (am 11), .int 0, .ref (am 12), .ref (am 13), .ref (am 14), .ref (am 15), .ref (am 16), .ref (am 17), .ref (am 18), .int 0, .int 0, .int 0, .int 0, .int 0, .int 0])), ((am 0), .inl (G.2.1, 1662, .inl NOW0))] H := hP
  have hD : va_D A [(mm, .inr (12, [.ref (am 0), .ref (am 1), .int 0, .ref (am 2), .int 0, .ref (am 3), .int 0, .int (-1), .int 0, .int 0, .ref (am 4), .int 0, .int 0, .ref (am 5), .int 0, .int 0, .int 0, .int 0, .int 0, .int 0, .int 0, .ref (am 6), .ref (am 7), .ref (am 8), .ref (am 9), .ref (am 10), .ref (am 11), .int 0, .ref (am 12), .ref (am 13), .ref (am 14), .ref (am 15), .ref (am 16), .ref (am 17), .ref (am 18), .int 0, .int 0, .int 0, .int 0, .int 0, .int 0])), ((am 0), .inl (G.2.1, 1662, .inl NOW0))] := hD
  obtain rfl := hr1737
  refine lv_aload_n hx hb dL_law_552 rfl (lv_at hl 1 rfl) ?_
  refine lv_aload_n hx hb dL_law_553 rfl (lv_at hl 3 rfl) ?_
  refine lv_iload_n hx hb dL_law_554 rfl (lv_at hl 0 rfl) ?_
  refine lv_iconst (v := 1) hx hb dL_law_555 (by decide) ?_
  refine lv_iadd hx hb dL_law_556 ?_
  refine eqi (x1 := 1) (by decide) ?_
  refine va_sld hx hb hX hbl hbA hS (vin (by decide +kernel)) dL_law_557 ?_
  refine eqi (x1 := xs 1) (congrArg xs (by decide +kernel)) ?_
  refine iV (wr := []) hC hK hl hP hD hS hA (m_gap l G mm (xs 1) (am 0) (am 1) (am 2) (am 3) (am 4) (am 5) (am 6) (am 7) (am 8) (am 9) (am 10) (am 11) (am 12) (am 13) (am 14) (am 15) (am 16) (am 17) (am 18)) si_L_56 [0, 1] [] rfl rfl (by decide) rfl (by decide) (by decide) rfl rfl rfl rfl rfl (Nat.le_of_ble_eq_true rfl) ⟨Nat.le_of_ble_eq_true rfl, Nat.le_of_ble_eq_true rfl⟩ ⟨by first | exact Nat.le_of_ble_eq_true rfl | omega, by first | exact Nat.le_of_ble_eq_true rfl | omega⟩ dL_law_558 (fun r1740 u1741 H locs hr1740 hP hD hS => ?_)
  have hP : va_P G.1 vwCl [] H := hP
  have hD : va_D A [] := hD
  obtain rfl := hr1740
  refine lv_icmp_eq (tgt := 1718) hx hb dL_law_561 (by decide) (fun _ => ?_) (fun c9 => absurd (rfl) c9)
  exact law_end hC hK hX hbl hbA hA hA2 hS (lv_sub hl [0, 1, 2, 3] rfl)
set_option maxHeartbeats 4000000 in
set_option maxRecDepth 100000 in
theorem law_10 {p : Program} {l : Launch} {e : Env} {s : State} {m : MethodId} {below : List Frame} {meth : Method} {c : Code} {b : Nat} {xs : Nat → Int32} {G : GG} {A : Nat → Prop} {H : Heap} {locs : List Loc} {ls : Array Slot} {x mm : Nat} {ad am : Nat → Nat} {hf : Nat → Option Nat} (hC : CX p s m meth c ⟨RL, meth.name, ""⟩ cL_law 4 ret #[Value.ref b]) (hK : KK G s) (hX : va_X b 7 xs s s.heap) (hbl : b < s.heap.size) (hbA : ¬ A b) (hA : ∀ q : Nat, s.heap.size ≤ q → A q) (hA2 : ∀ q : Nat, A q → s.heap.size ≤ q) (hhf : hf 0 = some (ad 59)) (hP : va_P G.1 vwCl (WLAW G x mm ad am hf) H) (hD : va_D A (WLAW G x mm ad am hf)) (hS : va_S A s.heap H locs) (hl : lv_has ls 4 [(3, .int 0), (2, .ref mm), (1, .ref x), (0, .ref b)]) : W p l e room_1 s m #[Value.ref b] below meth c H locs 123 9503 (lw_Z below #[Value.ref b] s) (F0 m 566 ls []) := by
  obtain ⟨hx, hb, hr, hml, hB, hown, hlocks, hnm⟩ := id hC
  have hP := hP.sub (ws' := [(x, .inr (11, [.ref (ad 0), .ref (ad 1), .int 0, .ref (ad 2), .ref (ad 3), .ref (ad 4), .ref (ad 5), .ref (ad 6), .ref (ad 7), .ref (ad 8), .ref (ad 9)])), ((ad 0), .inr (0, [.ref (ad 10), .ref (ad 11), .ref (ad 12), .ref (ad 13), .ref (ad 14), .ref (ad 15), .ref (ad 16), .ref (ad 17), .ref (ad 18), .ref (ad 19), .int 0, .int (-1), .int 3, .int 24])), ((ad 11), .inr (8, [.int 12, .int 6, .ref (ad 21), .int 0])), ((ad 12), .inr (8, [.int 24, .int 3, .ref (ad 22), .int 0])), ((ad 2), .inr (7, [.ref (ad 0), .ref (ad 50), .ref (ad 51), .ref (ad 52), .ref (ad 53), .ref (ad 54), .ref (ad 55), .ref (ad 56), .int 0])), ((ad 50), .inr (1, [.ref (ad 57)])), ((ad 57), .inl (G.2.1, 36, .inl (fun _ => 0))), ((ad 51), .inl (G.2.1, 12, .inl (fun _ => 0))), ((ad 52), .inl (G.2.1, 12, .inl (fun _ => 0))), ((ad 3), .inr (3, [.ref (ad 0), .ref (ad 58), .int 0, .int 0, .int 0])), ((ad 58), .inl (G.2.2.1, 13, .inr (.inr (.inr (.inr hf))))), ((ad 59), .inr (1, [.ref (ad 60)])), ((ad 60), .inl (G.2.1, 36, .inl (fun _ => 0))), (mm, .inr (12, [.ref (am 0), .ref (am 1), .int 0, .ref (am 2), .int 0, .ref (am 3), .int 0, .int (-1), .int 0, .int 0, .ref (am 4), .int 0, .int 0, .ref (am 5), .int 0, .int 0, .int 0, .int 0, .int 0, .int 0, .int 0, .ref (am 6), .ref (am 7), .ref (am 8), .ref (am 9), .ref (am 10), .ref (am 11), .int 0, .ref (am 12), .ref (am 13), .ref (am 14), .ref (am 15), .ref (am 16), .ref (am 17), .ref (am 18), .int 0, .int 0, .int 0, .int 0, .int 0, .int 0])), ((am 0), .inl (G.2.1, 1662, .inl NOW0)), ((am 4), .inl (G.2.1, 36, .inl (fun _ => 0)))]) [0, 1, 4, 6, 43, 44, 45, 46, 47, 52, 53, 54, 55, 74, 75, 78] rfl
  have hD := hD.sub (ws' := [(x, .inr (11, [.ref (ad 0), .ref (ad 1), .int 0, .ref (ad 2), .ref (ad 3), .ref (ad 4), .ref (ad 5), .ref (ad 6), .ref (ad 7), .ref (ad 8), .ref (ad 9)])), ((ad 0), .inr (0, [.ref (ad 10), .ref (ad 11), .ref (ad 12), .ref (ad 13), .ref (ad 14), .ref (ad 15), .ref (ad 16), .ref (ad 17), .ref (ad 18), .ref (ad 19), .int 0, .int (-1), .int 3, .int 24])), ((ad 11), .inr (8, [.int 12, .int 6, .ref (ad 21), .int 0])), ((ad 12), .inr (8, [.int 24, .int 3, .ref (ad 22), .int 0])), ((ad 2), .inr (7, [.ref (ad 0), .ref (ad 50), .ref (ad 51), .ref (ad 52), .ref (ad 53), .ref (ad 54), .ref (ad 55), .ref (ad 56), .int 0])), ((ad 50), .inr (1, [.ref (ad 57)])), ((ad 57), .inl (G.2.1, 36, .inl (fun _ => 0))), ((ad 51), .inl (G.2.1, 12, .inl (fun _ => 0))), ((ad 52), .inl (G.2.1, 12, .inl (fun _ => 0))), ((ad 3), .inr (3, [.ref (ad 0), .ref (ad 58), .int 0, .int 0, .int 0])), ((ad 58), .inl (G.2.2.1, 13, .inr (.inr (.inr (.inr hf))))), ((ad 59), .inr (1, [.ref (ad 60)])), ((ad 60), .inl (G.2.1, 36, .inl (fun _ => 0))), (mm, .inr (12, [.ref (am 0), .ref (am 1), .int 0, .ref (am 2), .int 0, .ref (am 3), .int 0, .int (-1), .int 0, .int 0, .ref (am 4), .int 0, .int 0, .ref (am 5), .int 0, .int 0, .int 0, .int 0, .int 0, .int 0, .int 0, .ref (am 6), .ref (am 7), .ref (am 8), .ref (am 9), .ref (am 10), .ref (am 11), .int 0, .ref (am 12), .ref (am 13), .ref (am 14), .ref (am 15), .ref (am 16), .ref (am 17), .ref (am 18), .int 0, .int 0, .int 0, .int 0, .int 0, .int 0])), ((am 0), .inl (G.2.1, 1662, .inl NOW0)), ((am 4), .inl (G.2.1, 36, .inl (fun _ => 0)))]) [0, 1, 4, 6, 43, 44, 45, 46, 47, 52, 53, 54, 55, 74, 75, 78] (by decide) rfl
  refine lv_aload_n hx hb dL_law_566 rfl (lv_at hl 2 rfl) ?_
  refine lv_aload_n hx hb dL_law_567 rfl (lv_at hl 3 rfl) ?_
  refine lv_iload_n hx hb dL_law_568 rfl (lv_at hl 0 rfl) ?_
  refine lv_iconst (v := 1) hx hb dL_law_569 (by decide) ?_
  refine lv_iadd hx hb dL_law_570 ?_
  refine eqi (x1 := 1) (by decide) ?_
  refine va_sld hx hb hX hbl hbA hS (vin (by decide +kernel)) dL_law_571 ?_
  refine eqi (x1 := xs 1) (congrArg xs (by decide +kernel)) ?_
  refine iV (wr := [(mm, .inr (12, [.ref (am 0), .ref (am 1), .int 0, .ref (am 2), .int 0, .ref (am 3), .int 0, .int (-1), .int 0, .int 0, .ref (am 4), .int 0, .int 0, .ref (am 5), .int 0, .int 0, .int 0, .int 0, .int 0, .int 0, .int 0, .ref (am 6), .ref (am 7), .ref (am 8), .ref (am 9), .ref (am 10), .ref (am 11), .int 0, .ref (am 12), .ref (am 13), .ref (am 14), .ref (am 15), .ref (am 16), .ref (am 17), .ref (am 18), .int 0, .int 0, .int 0, .int 0, .int 0, .int 0])), ((am 0), .inl (G.2.1, 1662, .inl NOW0)), ((am 4), .inl (G.2.1, 36, .inl (fun _ => 0)))]) hC hK hl hP hD hS hA (c_clash l G x (xs 1) (ad 0) (ad 1) (ad 2) (ad 3) (ad 4) (ad 5) (ad 6) (ad 7) (ad 8) (ad 9) (ad 10) (ad 11) (ad 12) (ad 13) (ad 14) (ad 15) (ad 16) (ad 17) (ad 18) (ad 19) (ad 21) (ad 22) (ad 50) (ad 51) (ad 52) (ad 53) (ad 54) (ad 55) (ad 56) (ad 57) (ad 58) hf (ad 59) (ad 60) (hhf)) si_L_57 [0, 1, 2, 3, 4, 5, 6, 7, 8, 9, 10, 11, 12] [13, 14, 15] rfl rfl (by decide) rfl (by decide) (by decide) rfl rfl rfl rfl rfl (Nat.le_of_ble_eq_true rfl) ⟨Nat.le_of_ble_eq_true rfl, Nat.le_of_ble_eq_true rfl⟩ ⟨by first | exact Nat.le_of_ble_eq_true rfl | omega, by first | exact Nat.le_of_ble_eq_true rfl | omega⟩ dL_law_572 (fun r1743 u1744 H locs hr1743 hP hD hS => ?_)
  have hP : va_P G.1 vwCl [(mm, .inr (12, [.ref (am 0), .ref (am 1), .int 0, .ref (am 2), .int 0, .ref (am 3), .int 0, .int (-1), .int 0, .int 0, .ref (am 4), .int 0, .int 0, .ref (am 5), .int 0, .int 0, .int 0, .int 0, .int 0, .int 0, .int 0, .ref (am 6), .ref (am 7), .ref (am 8), .ref (am 9), .ref (am 10), .ref (am 11), .int 0, .ref (am 12), .ref (am 13), .ref (am 14), .ref (am 15), .ref (am 16), .ref (am 17), .ref (am 18), .int 0, .int 0, .int 0, .int 0, .int 0, .int 0])), ((am 0), .inl (G.2.1, 1662, .inl NOW0)), ((am 4), .inl (G.2.1, 36, .inl (fun _ => 0)))] H := hP
  have hD : va_D A [(mm, .inr (12, [.ref (am 0), .ref (am 1), .int 0, .ref (am 2), .int 0, .ref (am 3), .int 0, .int (-1), .int 0, .int 0, .ref (am 4), .int 0, .int 0, .ref (am 5), .int 0, .int 0, .int 0, .int 0, .int 0, .int 0, .int 0, .ref (am 6), .ref (am 7), .ref (am 8), .ref (am 9), .ref (am 10), .ref (am 11), .int 0, .ref (am 12), .ref (am 13), .ref (am 14), .ref (am 15), .ref (am 16), .ref (am 17), .ref (am 18), .int 0, .int 0, .int 0, .int 0, .int 0, .int 0])), ((am 0), .inl (G.2.1, 1662, .inl NOW0)), ((am 4), .inl (G.2.1, 36, .inl (fun _ => 0)))] := hD
  obtain rfl := hr1743
  refine lv_aload_n hx hb dL_law_575 rfl (lv_at hl 1 rfl) ?_
  refine lv_aload_n hx hb dL_law_576 rfl (lv_at hl 3 rfl) ?_
  refine lv_iload_n hx hb dL_law_577 rfl (lv_at hl 0 rfl) ?_
  refine lv_iconst (v := 1) hx hb dL_law_578 (by decide) ?_
  refine lv_iadd hx hb dL_law_579 ?_
  refine eqi (x1 := 1) (by decide) ?_
  refine va_sld hx hb hX hbl hbA hS (vin (by decide +kernel)) dL_law_580 ?_
  refine eqi (x1 := xs 1) (congrArg xs (by decide +kernel)) ?_
  refine iV (wr := []) hC hK hl hP hD hS hA (m_clash l G mm (xs 1) (am 0) (am 1) (am 2) (am 3) (am 4) (am 5) (am 6) (am 7) (am 8) (am 9) (am 10) (am 11) (am 12) (am 13) (am 14) (am 15) (am 16) (am 17) (am 18)) si_L_60 [0, 1, 2] [] rfl rfl (by decide) rfl (by decide) (by decide) rfl rfl rfl rfl rfl (Nat.le_of_ble_eq_true rfl) ⟨Nat.le_of_ble_eq_true rfl, Nat.le_of_ble_eq_true rfl⟩ ⟨by first | exact Nat.le_of_ble_eq_true rfl | omega, by first | exact Nat.le_of_ble_eq_true rfl | omega⟩ dL_law_581 (fun r1746 u1747 H locs hr1746 hP hD hS => ?_)
  have hP : va_P G.1 vwCl [] H := hP
  have hD : va_D A [] := hD
  obtain rfl := hr1746
  refine lv_icmp_eq (tgt := 1718) hx hb dL_law_584 (by decide) (fun _ => ?_) (fun c9 => absurd (rfl) c9)
  exact law_end hC hK hX hbl hbA hA hA2 hS (lv_sub hl [0, 1, 2, 3] rfl)
set_option maxHeartbeats 4000000 in
set_option maxRecDepth 100000 in
theorem law_11 {p : Program} {l : Launch} {e : Env} {s : State} {m : MethodId} {below : List Frame} {meth : Method} {c : Code} {b : Nat} {xs : Nat → Int32} {G : GG} {A : Nat → Prop} {H : Heap} {locs : List Loc} {ls : Array Slot} {x mm : Nat} {ad am : Nat → Nat} {hf : Nat → Option Nat} (hC : CX p s m meth c ⟨RL, meth.name, ""⟩ cL_law 4 ret #[Value.ref b]) (hK : KK G s) (hX : va_X b 7 xs s s.heap) (hbl : b < s.heap.size) (hbA : ¬ A b) (hA : ∀ q : Nat, s.heap.size ≤ q → A q) (hA2 : ∀ q : Nat, A q → s.heap.size ≤ q) (hhf : hf 0 = some (ad 59)) (hP : va_P G.1 vwCl (WLAW G x mm ad am hf) H) (hD : va_D A (WLAW G x mm ad am hf)) (hS : va_S A s.heap H locs) (hl : lv_has ls 4 [(3, .int 0), (2, .ref mm), (1, .ref x), (0, .ref b)]) : W p l e room_1 s m #[Value.ref b] below meth c H locs 123 9503 (lw_Z below #[Value.ref b] s) (F0 m 589 ls []) := by
  obtain ⟨hx, hb, hr, hml, hB, hown, hlocks, hnm⟩ := id hC
  have hP := hP.sub (ws' := [(x, .inr (11, [.ref (ad 0), .ref (ad 1), .int 0, .ref (ad 2), .ref (ad 3), .ref (ad 4), .ref (ad 5), .ref (ad 6), .ref (ad 7), .ref (ad 8), .ref (ad 9)])), ((ad 0), .inr (0, [.ref (ad 10), .ref (ad 11), .ref (ad 12), .ref (ad 13), .ref (ad 14), .ref (ad 15), .ref (ad 16), .ref (ad 17), .ref (ad 18), .ref (ad 19), .int 0, .int (-1), .int 3, .int 24])), ((ad 11), .inr (8, [.int 12, .int 6, .ref (ad 21), .int 0])), ((ad 12), .inr (8, [.int 24, .int 3, .ref (ad 22), .int 0])), ((ad 2), .inr (7, [.ref (ad 0), .ref (ad 50), .ref (ad 51), .ref (ad 52), .ref (ad 53), .ref (ad 54), .ref (ad 55), .ref (ad 56), .int 0])), ((ad 50), .inr (1, [.ref (ad 57)])), ((ad 57), .inl (G.2.1, 36, .inl (fun _ => 0))), ((ad 51), .inl (G.2.1, 12, .inl (fun _ => 0))), ((ad 52), .inl (G.2.1, 12, .inl (fun _ => 0))), (mm, .inr (12, [.ref (am 0), .ref (am 1), .int 0, .ref (am 2), .int 0, .ref (am 3), .int 0, .int (-1), .int 0, .int 0, .ref (am 4), .int 0, .int 0, .ref (am 5), .int 0, .int 0, .int 0, .int 0, .int 0, .int 0, .int 0, .ref (am 6), .ref (am 7), .ref (am 8), .ref (am 9), .ref (am 10), .ref (am 11), .int 0, .ref (am 12), .ref (am 13), .ref (am 14), .ref (am 15), .ref (am 16), .ref (am 17), .ref (am 18), .int 0, .int 0, .int 0, .int 0, .int 0, .int 0])), ((am 0), .inl (G.2.1, 1662, .inl NOW0)), ((am 4), .inl (G.2.1, 36, .inl (fun _ => 0)))]) [0, 1, 4, 6, 43, 44, 45, 46, 47, 74, 75, 78] rfl
  have hD := hD.sub (ws' := [(x, .inr (11, [.ref (ad 0), .ref (ad 1), .int 0, .ref (ad 2), .ref (ad 3), .ref (ad 4), .ref (ad 5), .ref (ad 6), .ref (ad 7), .ref (ad 8), .ref (ad 9)])), ((ad 0), .inr (0, [.ref (ad 10), .ref (ad 11), .ref (ad 12), .ref (ad 13), .ref (ad 14), .ref (ad 15), .ref (ad 16), .ref (ad 17), .ref (ad 18), .ref (ad 19), .int 0, .int (-1), .int 3, .int 24])), ((ad 11), .inr (8, [.int 12, .int 6, .ref (ad 21), .int 0])), ((ad 12), .inr (8, [.int 24, .int 3, .ref (ad 22), .int 0])), ((ad 2), .inr (7, [.ref (ad 0), .ref (ad 50), .ref (ad 51), .ref (ad 52), .ref (ad 53), .ref (ad 54), .ref (ad 55), .ref (ad 56), .int 0])), ((ad 50), .inr (1, [.ref (ad 57)])), ((ad 57), .inl (G.2.1, 36, .inl (fun _ => 0))), ((ad 51), .inl (G.2.1, 12, .inl (fun _ => 0))), ((ad 52), .inl (G.2.1, 12, .inl (fun _ => 0))), (mm, .inr (12, [.ref (am 0), .ref (am 1), .int 0, .ref (am 2), .int 0, .ref (am 3), .int 0, .int (-1), .int 0, .int 0, .ref (am 4), .int 0, .int 0, .ref (am 5), .int 0, .int 0, .int 0, .int 0, .int 0, .int 0, .int 0, .ref (am 6), .ref (am 7), .ref (am 8), .ref (am 9), .ref (am 10), .ref (am 11), .int 0, .ref (am 12), .ref (am 13), .ref (am 14), .ref (am 15), .ref (am 16), .ref (am 17), .ref (am 18), .int 0, .int 0, .int 0, .int 0, .int 0, .int 0])), ((am 0), .inl (G.2.1, 1662, .inl NOW0)), ((am 4), .inl (G.2.1, 36, .inl (fun _ => 0)))]) [0, 1, 4, 6, 43, 44, 45, 46, 47, 74, 75, 78] (by decide) rfl
  refine lv_aload_n hx hb dL_law_589 rfl (lv_at hl 2 rfl) ?_
  refine lv_aload_n hx hb dL_law_590 rfl (lv_at hl 3 rfl) ?_
  refine lv_iload_n hx hb dL_law_591 rfl (lv_at hl 0 rfl) ?_
  refine lv_iconst (v := 1) hx hb dL_law_592 (by decide) ?_
  refine lv_iadd hx hb dL_law_593 ?_
  refine eqi (x1 := 1) (by decide) ?_
  refine va_sld hx hb hX hbl hbA hS (vin (by decide +kernel)) dL_law_594 ?_
  refine eqi (x1 := xs 1) (congrArg xs (by decide +kernel)) ?_
  refine lv_aload_n hx hb dL_law_595 rfl (lv_at hl 3 rfl) ?_
  refine lv_iload_n hx hb dL_law_596 rfl (lv_at hl 0 rfl) ?_
  refine lv_iconst (v := 2) hx hb dL_law_597 (by decide) ?_
  refine lv_iadd hx hb dL_law_598 ?_
  refine eqi (x1 := 2) (by decide) ?_
  refine va_sld hx hb hX hbl hbA hS (vin (by decide +kernel)) dL_law_599 ?_
  refine eqi (x1 := xs 2) (congrArg xs (by decide +kernel)) ?_
  refine lv_if_eq (tgt := 607) hx hb dL_law_600 (by decide) (fun c_600_1749 => ?_) (fun c_600_1749 => ?_)
  · refine lv_iconst (v := 0) hx hb dL_law_607 (by decide) ?_
    refine iV (wr := [(mm, .inr (12, [.ref (am 0), .ref (am 1), .int 0, .ref (am 2), .int 0, .ref (am 3), .int 0, .int (-1), .int 0, .int 0, .ref (am 4), .int 0, .int 0, .ref (am 5), .int 0, .int 0, .int 0, .int 0, .int 0, .int 0, .int 0, .ref (am 6), .ref (am 7), .ref (am 8), .ref (am 9), .ref (am 10), .ref (am 11), .int 0, .ref (am 12), .ref (am 13), .ref (am 14), .ref (am 15), .ref (am 16), .ref (am 17), .ref (am 18), .int 0, .int 0, .int 0, .int 0, .int 0, .int 0])), ((am 0), .inl (G.2.1, 1662, .inl NOW0)), ((am 4), .inl (G.2.1, 36, .inl (fun _ => 0)))]) hC hK hl hP hD hS hA (c_span_0 l G x (xs 1) (ad 0) (ad 1) (ad 2) (ad 3) (ad 4) (ad 5) (ad 6) (ad 7) (ad 8) (ad 9) (ad 10) (ad 11) (ad 12) (ad 13) (ad 14) (ad 15) (ad 16) (ad 17) (ad 18) (ad 19) (ad 21) (ad 22) (ad 50) (ad 51) (ad 52) (ad 53) (ad 54) (ad 55) (ad 56) (ad 57)) si_L_61 [0, 1, 2, 3, 4, 5, 6, 7, 8] [9, 10, 11] rfl rfl (by decide) rfl (by decide) (by decide) rfl rfl rfl rfl rfl (Nat.le_of_ble_eq_true rfl) ⟨Nat.le_of_ble_eq_true rfl, Nat.le_of_ble_eq_true rfl⟩ ⟨by first | exact Nat.le_of_ble_eq_true rfl | omega, by first | exact Nat.le_of_ble_eq_true rfl | omega⟩ dL_law_608 (fun r1750 u1751 H locs hr1750 hP hD hS => ?_)
    have hP : va_P G.1 vwCl [(mm, .inr (12, [.ref (am 0), .ref (am 1), .int 0, .ref (am 2), .int 0, .ref (am 3), .int 0, .int (-1), .int 0, .int 0, .ref (am 4), .int 0, .int 0, .ref (am 5), .int 0, .int 0, .int 0, .int 0, .int 0, .int 0, .int 0, .ref (am 6), .ref (am 7), .ref (am 8), .ref (am 9), .ref (am 10), .ref (am 11), .int 0, .ref (am 12), .ref (am 13), .ref (am 14), .ref (am 15), .ref (am 16), .ref (am 17), .ref (am 18), .int 0, .int 0, .int 0, .int 0, .int 0, .int 0])), ((am 0), .inl (G.2.1, 1662, .inl NOW0)), ((am 4), .inl (G.2.1, 36, .inl (fun _ => 0)))] H := hP
    have hD : va_D A [(mm, .inr (12, [.ref (am 0), .ref (am 1), .int 0, .ref (am 2), .int 0, .ref (am 3), .int 0, .int (-1), .int 0, .int 0, .ref (am 4), .int 0, .int 0, .ref (am 5), .int 0, .int 0, .int 0, .int 0, .int 0, .int 0, .int 0, .ref (am 6), .ref (am 7), .ref (am 8), .ref (am 9), .ref (am 10), .ref (am 11), .int 0, .ref (am 12), .ref (am 13), .ref (am 14), .ref (am 15), .ref (am 16), .ref (am 17), .ref (am 18), .int 0, .int 0, .int 0, .int 0, .int 0, .int 0])), ((am 0), .inl (G.2.1, 1662, .inl NOW0)), ((am 4), .inl (G.2.1, 36, .inl (fun _ => 0)))] := hD
    obtain rfl := hr1750
    refine lv_aload_n hx hb dL_law_611 rfl (lv_at hl 1 rfl) ?_
    refine lv_aload_n hx hb dL_law_612 rfl (lv_at hl 3 rfl) ?_
    refine lv_iload_n hx hb dL_law_613 rfl (lv_at hl 0 rfl) ?_
    refine lv_iconst (v := 1) hx hb dL_law_614 (by decide) ?_
    refine lv_iadd hx hb dL_law_615 ?_
    refine eqi (x1 := 1) (by decide) ?_
    refine va_sld hx hb hX hbl hbA hS (vin (by decide +kernel)) dL_law_616 ?_
    refine eqi (x1 := xs 1) (congrArg xs (by decide +kernel)) ?_
    refine lv_aload_n hx hb dL_law_617 rfl (lv_at hl 3 rfl) ?_
    refine lv_iload_n hx hb dL_law_618 rfl (lv_at hl 0 rfl) ?_
    refine lv_iconst (v := 2) hx hb dL_law_619 (by decide) ?_
    refine lv_iadd hx hb dL_law_620 ?_
    refine eqi (x1 := 2) (by decide) ?_
    refine va_sld hx hb hX hbl hbA hS (vin (by decide +kernel)) dL_law_621 ?_
    refine eqi (x1 := xs 2) (congrArg xs (by decide +kernel)) ?_
    refine lv_if_eq (tgt := 629) hx hb dL_law_622 (by decide) (fun _ => ?_) (fun c9 => absurd (c_600_1749) c9)
    refine lv_iconst (v := 0) hx hb dL_law_629 (by decide) ?_
    refine iV (wr := []) hC hK hl hP hD hS hA (m_span_0 l G mm (xs 1) (am 0) (am 1) (am 2) (am 3) (am 4) (am 5) (am 6) (am 7) (am 8) (am 9) (am 10) (am 11) (am 12) (am 13) (am 14) (am 15) (am 16) (am 17) (am 18)) si_L_65 [0, 1, 2] [] rfl rfl (by decide) rfl (by decide) (by decide) rfl rfl rfl rfl rfl (Nat.le_of_ble_eq_true rfl) ⟨Nat.le_of_ble_eq_true rfl, Nat.le_of_ble_eq_true rfl⟩ ⟨by first | exact Nat.le_of_ble_eq_true rfl | omega, by first | exact Nat.le_of_ble_eq_true rfl | omega⟩ dL_law_630 (fun r1753 u1754 H locs hr1753 hP hD hS => ?_)
    have hP : va_P G.1 vwCl [] H := hP
    have hD : va_D A [] := hD
    obtain rfl := hr1753
    refine lv_icmp_eq (tgt := 1718) hx hb dL_law_633 (by decide) (fun _ => ?_) (fun c9 => absurd (rfl) c9)
    exact law_end hC hK hX hbl hbA hA hA2 hS (lv_sub hl [0, 1, 2, 3] rfl)
  · refine lv_iconst (v := 1) hx hb dL_law_603 (by decide) ?_
    refine lv_goto (tgt := 608) hx hb dL_law_604 (by decide) ?_
    refine iV (wr := [(mm, .inr (12, [.ref (am 0), .ref (am 1), .int 0, .ref (am 2), .int 0, .ref (am 3), .int 0, .int (-1), .int 0, .int 0, .ref (am 4), .int 0, .int 0, .ref (am 5), .int 0, .int 0, .int 0, .int 0, .int 0, .int 0, .int 0, .ref (am 6), .ref (am 7), .ref (am 8), .ref (am 9), .ref (am 10), .ref (am 11), .int 0, .ref (am 12), .ref (am 13), .ref (am 14), .ref (am 15), .ref (am 16), .ref (am 17), .ref (am 18), .int 0, .int 0, .int 0, .int 0, .int 0, .int 0])), ((am 0), .inl (G.2.1, 1662, .inl NOW0)), ((am 4), .inl (G.2.1, 36, .inl (fun _ => 0)))]) hC hK hl hP hD hS hA (c_span_1 l G x (xs 1) (ad 0) (ad 1) (ad 2) (ad 3) (ad 4) (ad 5) (ad 6) (ad 7) (ad 8) (ad 9) (ad 10) (ad 11) (ad 12) (ad 13) (ad 14) (ad 15) (ad 16) (ad 17) (ad 18) (ad 19) (ad 21) (ad 22) (ad 50) (ad 51) (ad 52) (ad 53) (ad 54) (ad 55) (ad 56) (ad 57)) si_L_61 [0, 1, 2, 3, 4, 5, 6, 7, 8] [9, 10, 11] rfl rfl (by decide) rfl (by decide) (by decide) rfl rfl rfl rfl rfl (Nat.le_of_ble_eq_true rfl) ⟨Nat.le_of_ble_eq_true rfl, Nat.le_of_ble_eq_true rfl⟩ ⟨by first | exact Nat.le_of_ble_eq_true rfl | omega, by first | exact Nat.le_of_ble_eq_true rfl | omega⟩ dL_law_608 (fun r1756 u1757 H locs hr1756 hP hD hS => ?_)
    have hP : va_P G.1 vwCl [(mm, .inr (12, [.ref (am 0), .ref (am 1), .int 0, .ref (am 2), .int 0, .ref (am 3), .int 0, .int (-1), .int 0, .int 0, .ref (am 4), .int 0, .int 0, .ref (am 5), .int 0, .int 0, .int 0, .int 0, .int 0, .int 0, .int 0, .ref (am 6), .ref (am 7), .ref (am 8), .ref (am 9), .ref (am 10), .ref (am 11), .int 0, .ref (am 12), .ref (am 13), .ref (am 14), .ref (am 15), .ref (am 16), .ref (am 17), .ref (am 18), .int 0, .int 0, .int 0, .int 0, .int 0, .int 0])), ((am 0), .inl (G.2.1, 1662, .inl NOW0)), ((am 4), .inl (G.2.1, 36, .inl (fun _ => 0)))] H := hP
    have hD : va_D A [(mm, .inr (12, [.ref (am 0), .ref (am 1), .int 0, .ref (am 2), .int 0, .ref (am 3), .int 0, .int (-1), .int 0, .int 0, .ref (am 4), .int 0, .int 0, .ref (am 5), .int 0, .int 0, .int 0, .int 0, .int 0, .int 0, .int 0, .ref (am 6), .ref (am 7), .ref (am 8), .ref (am 9), .ref (am 10), .ref (am 11), .int 0, .ref (am 12), .ref (am 13), .ref (am 14), .ref (am 15), .ref (am 16), .ref (am 17), .ref (am 18), .int 0, .int 0, .int 0, .int 0, .int 0, .int 0])), ((am 0), .inl (G.2.1, 1662, .inl NOW0)), ((am 4), .inl (G.2.1, 36, .inl (fun _ => 0)))] := hD
    obtain rfl := hr1756
    refine lv_aload_n hx hb dL_law_611 rfl (lv_at hl 1 rfl) ?_
    refine lv_aload_n hx hb dL_law_612 rfl (lv_at hl 3 rfl) ?_
    refine lv_iload_n hx hb dL_law_613 rfl (lv_at hl 0 rfl) ?_
    refine lv_iconst (v := 1) hx hb dL_law_614 (by decide) ?_
    refine lv_iadd hx hb dL_law_615 ?_
    refine eqi (x1 := 1) (by decide) ?_
    refine va_sld hx hb hX hbl hbA hS (vin (by decide +kernel)) dL_law_616 ?_
    refine eqi (x1 := xs 1) (congrArg xs (by decide +kernel)) ?_
    refine lv_aload_n hx hb dL_law_617 rfl (lv_at hl 3 rfl) ?_
    refine lv_iload_n hx hb dL_law_618 rfl (lv_at hl 0 rfl) ?_
    refine lv_iconst (v := 2) hx hb dL_law_619 (by decide) ?_
    refine lv_iadd hx hb dL_law_620 ?_
    refine eqi (x1 := 2) (by decide) ?_
    refine va_sld hx hb hX hbl hbA hS (vin (by decide +kernel)) dL_law_621 ?_
    refine eqi (x1 := xs 2) (congrArg xs (by decide +kernel)) ?_
    refine lv_if_eq (tgt := 629) hx hb dL_law_622 (by decide) (fun c9 => absurd c9 (c_600_1749)) (fun _ => ?_)
    refine lv_iconst (v := 1) hx hb dL_law_625 (by decide) ?_
    refine lv_goto (tgt := 630) hx hb dL_law_626 (by decide) ?_
    refine iV (wr := []) hC hK hl hP hD hS hA (m_span_1 l G mm (xs 1) (am 0) (am 1) (am 2) (am 3) (am 4) (am 5) (am 6) (am 7) (am 8) (am 9) (am 10) (am 11) (am 12) (am 13) (am 14) (am 15) (am 16) (am 17) (am 18)) si_L_65 [0, 1, 2] [] rfl rfl (by decide) rfl (by decide) (by decide) rfl rfl rfl rfl rfl (Nat.le_of_ble_eq_true rfl) ⟨Nat.le_of_ble_eq_true rfl, Nat.le_of_ble_eq_true rfl⟩ ⟨by first | exact Nat.le_of_ble_eq_true rfl | omega, by first | exact Nat.le_of_ble_eq_true rfl | omega⟩ dL_law_630 (fun r1759 u1760 H locs hr1759 hP hD hS => ?_)
    have hP : va_P G.1 vwCl [] H := hP
    have hD : va_D A [] := hD
    obtain rfl := hr1759
    refine lv_icmp_eq (tgt := 1718) hx hb dL_law_633 (by decide) (fun _ => ?_) (fun c9 => absurd (rfl) c9)
    exact law_end hC hK hX hbl hbA hA hA2 hS (lv_sub hl [0, 1, 2, 3] rfl)
set_option maxHeartbeats 4000000 in
set_option maxRecDepth 100000 in
theorem law_12 {p : Program} {l : Launch} {e : Env} {s : State} {m : MethodId} {below : List Frame} {meth : Method} {c : Code} {b : Nat} {xs : Nat → Int32} {G : GG} {A : Nat → Prop} {H : Heap} {locs : List Loc} {ls : Array Slot} {x mm : Nat} {ad am : Nat → Nat} {hf : Nat → Option Nat} (hC : CX p s m meth c ⟨RL, meth.name, ""⟩ cL_law 4 ret #[Value.ref b]) (hK : KK G s) (hX : va_X b 7 xs s s.heap) (hbl : b < s.heap.size) (hbA : ¬ A b) (hA : ∀ q : Nat, s.heap.size ≤ q → A q) (hA2 : ∀ q : Nat, A q → s.heap.size ≤ q) (hhf : hf 0 = some (ad 59)) (hP : va_P G.1 vwCl (WLAW G x mm ad am hf) H) (hD : va_D A (WLAW G x mm ad am hf)) (hS : va_S A s.heap H locs) (hl : lv_has ls 4 [(3, .int 0), (2, .ref mm), (1, .ref x), (0, .ref b)]) : W p l e room_1 s m #[Value.ref b] below meth c H locs 123 9503 (lw_Z below #[Value.ref b] s) (F0 m 638 ls []) := by
  obtain ⟨hx, hb, hr, hml, hB, hown, hlocks, hnm⟩ := id hC
  have hP := hP.sub (ws' := [(x, .inr (11, [.ref (ad 0), .ref (ad 1), .int 0, .ref (ad 2), .ref (ad 3), .ref (ad 4), .ref (ad 5), .ref (ad 6), .ref (ad 7), .ref (ad 8), .ref (ad 9)])), ((ad 0), .inr (0, [.ref (ad 10), .ref (ad 11), .ref (ad 12), .ref (ad 13), .ref (ad 14), .ref (ad 15), .ref (ad 16), .ref (ad 17), .ref (ad 18), .ref (ad 19), .int 0, .int (-1), .int 3, .int 24])), ((ad 11), .inr (8, [.int 12, .int 6, .ref (ad 21), .int 0])), (mm, .inr (12, [.ref (am 0), .ref (am 1), .int 0, .ref (am 2), .int 0, .ref (am 3), .int 0, .int (-1), .int 0, .int 0, .ref (am 4), .int 0, .int 0, .ref (am 5), .int 0, .int 0, .int 0, .int 0, .int 0, .int 0, .int 0, .ref (am 6), .ref (am 7), .ref (am 8), .ref (am 9), .ref (am 10), .ref (am 11), .int 0, .ref (am 12), .ref (am 13), .ref (am 14), .ref (am 15), .ref (am 16), .ref (am 17), .ref (am 18), .int 0, .int 0, .int 0, .int 0, .int 0, .int 0])), ((am 0), .inl (G.2.1, 1662, .inl NOW0))]) [0, 1, 4, 74, 75] rfl
  have hD := hD.sub (ws' := [(x, .inr (11, [.ref (ad 0), .ref (ad 1), .int 0, .ref (ad 2), .ref (ad 3), .ref (ad 4), .ref (ad 5), .ref (ad 6), .ref (ad 7), .ref (ad 8), .ref (ad 9)])), ((ad 0), .inr (0, [.ref (ad 10), .ref (ad 11), .ref (ad 12), .ref (ad 13), .ref (ad 14), .ref (ad 15), .ref (ad 16), .ref (ad 17), .ref (ad 18), .ref (ad 19), .int 0, .int (-1), .int 3, .int 24])), ((ad 11), .inr (8, [.int 12, .int 6, .ref (ad 21), .int 0])), (mm, .inr (12, [.ref (am 0), .ref (am 1), .int 0, .ref (am 2), .int 0, .ref (am 3), .int 0, .int (-1), .int 0, .int 0, .ref (am 4), .int 0, .int 0, .ref (am 5), .int 0, .int 0, .int 0, .int 0, .int 0, .int 0, .int 0, .ref (am 6), .ref (am 7), .ref (am 8), .ref (am 9), .ref (am 10), .ref (am 11), .int 0, .ref (am 12), .ref (am 13), .ref (am 14), .ref (am 15), .ref (am 16), .ref (am 17), .ref (am 18), .int 0, .int 0, .int 0, .int 0, .int 0, .int 0])), ((am 0), .inl (G.2.1, 1662, .inl NOW0))]) [0, 1, 4, 74, 75] (by decide) rfl
  refine lv_aload_n hx hb dL_law_638 rfl (lv_at hl 2 rfl) ?_
  refine lv_aload_n hx hb dL_law_639 rfl (lv_at hl 3 rfl) ?_
  refine lv_iload_n hx hb dL_law_640 rfl (lv_at hl 0 rfl) ?_
  refine lv_iconst (v := 1) hx hb dL_law_641 (by decide) ?_
  refine lv_iadd hx hb dL_law_642 ?_
  refine eqi (x1 := 1) (by decide) ?_
  refine va_sld hx hb hX hbl hbA hS (vin (by decide +kernel)) dL_law_643 ?_
  refine eqi (x1 := xs 1) (congrArg xs (by decide +kernel)) ?_
  refine lv_aload_n hx hb dL_law_644 rfl (lv_at hl 3 rfl) ?_
  refine lv_iload_n hx hb dL_law_645 rfl (lv_at hl 0 rfl) ?_
  refine lv_iconst (v := 2) hx hb dL_law_646 (by decide) ?_
  refine lv_iadd hx hb dL_law_647 ?_
  refine eqi (x1 := 2) (by decide) ?_
  refine va_sld hx hb hX hbl hbA hS (vin (by decide +kernel)) dL_law_648 ?_
  refine eqi (x1 := xs 2) (congrArg xs (by decide +kernel)) ?_
  refine lv_if_eq (tgt := 656) hx hb dL_law_649 (by decide) (fun c_649_1762 => ?_) (fun c_649_1762 => ?_)
  · refine lv_iconst (v := 0) hx hb dL_law_656 (by decide) ?_
    refine pV hC hK hl hP hD (c_sent l G x (xs 1) 0 (ad 0) (ad 1) (ad 2) (ad 3) (ad 4) (ad 5) (ad 6) (ad 7) (ad 8) (ad 9) (ad 10) (ad 11) (ad 12) (ad 13) (ad 14) (ad 15) (ad 16) (ad 17) (ad 18) (ad 19) (ad 21)) si_L_66 [0, 1, 2] rfl rfl (by decide) rfl rfl rfl rfl rfl (Nat.le_of_ble_eq_true rfl) ⟨Nat.le_of_ble_eq_true rfl, Nat.le_of_ble_eq_true rfl⟩ ⟨by first | exact Nat.le_of_ble_eq_true rfl | exact Nat.zero_le _, by first | exact Nat.le_of_ble_eq_true rfl | exact Nat.zero_le _⟩ dL_law_657 (fun r1763 hr1763 => ?_)
    obtain rfl := hr1763
    refine lv_aload_n hx hb dL_law_660 rfl (lv_at hl 1 rfl) ?_
    refine lv_aload_n hx hb dL_law_661 rfl (lv_at hl 3 rfl) ?_
    refine lv_iload_n hx hb dL_law_662 rfl (lv_at hl 0 rfl) ?_
    refine lv_iconst (v := 1) hx hb dL_law_663 (by decide) ?_
    refine lv_iadd hx hb dL_law_664 ?_
    refine eqi (x1 := 1) (by decide) ?_
    refine va_sld hx hb hX hbl hbA hS (vin (by decide +kernel)) dL_law_665 ?_
    refine eqi (x1 := xs 1) (congrArg xs (by decide +kernel)) ?_
    refine lv_aload_n hx hb dL_law_666 rfl (lv_at hl 3 rfl) ?_
    refine lv_iload_n hx hb dL_law_667 rfl (lv_at hl 0 rfl) ?_
    refine lv_iconst (v := 2) hx hb dL_law_668 (by decide) ?_
    refine lv_iadd hx hb dL_law_669 ?_
    refine eqi (x1 := 2) (by decide) ?_
    refine va_sld hx hb hX hbl hbA hS (vin (by decide +kernel)) dL_law_670 ?_
    refine eqi (x1 := xs 2) (congrArg xs (by decide +kernel)) ?_
    refine lv_if_eq (tgt := 678) hx hb dL_law_671 (by decide) (fun _ => ?_) (fun c9 => absurd (c_649_1762) c9)
    refine lv_iconst (v := 0) hx hb dL_law_678 (by decide) ?_
    refine pV hC hK hl hP hD (m_sent l G mm (xs 1) 0 (am 0) (am 1) (am 2) (am 3) (am 4) (am 5) (am 6) (am 7) (am 8) (am 9) (am 10) (am 11) (am 12) (am 13) (am 14) (am 15) (am 16) (am 17) (am 18)) si_L_69 [3, 4] rfl rfl (by decide) rfl rfl rfl rfl rfl (Nat.le_of_ble_eq_true rfl) ⟨Nat.le_of_ble_eq_true rfl, Nat.le_of_ble_eq_true rfl⟩ ⟨by first | exact Nat.le_of_ble_eq_true rfl | exact Nat.zero_le _, by first | exact Nat.le_of_ble_eq_true rfl | exact Nat.zero_le _⟩ dL_law_679 (fun r1765 hr1765 => ?_)
    obtain rfl := hr1765
    refine lv_icmp_eq (tgt := 1718) hx hb dL_law_682 (by decide) (fun _ => ?_) (fun c9 => absurd (by decide) c9)
    exact law_end hC hK hX hbl hbA hA hA2 hS (lv_sub hl [0, 1, 2, 3] rfl)
  · refine lv_iconst (v := 1) hx hb dL_law_652 (by decide) ?_
    refine lv_goto (tgt := 657) hx hb dL_law_653 (by decide) ?_
    refine pV hC hK hl hP hD (c_sent l G x (xs 1) 1 (ad 0) (ad 1) (ad 2) (ad 3) (ad 4) (ad 5) (ad 6) (ad 7) (ad 8) (ad 9) (ad 10) (ad 11) (ad 12) (ad 13) (ad 14) (ad 15) (ad 16) (ad 17) (ad 18) (ad 19) (ad 21)) si_L_66 [0, 1, 2] rfl rfl (by decide) rfl rfl rfl rfl rfl (Nat.le_of_ble_eq_true rfl) ⟨Nat.le_of_ble_eq_true rfl, Nat.le_of_ble_eq_true rfl⟩ ⟨by first | exact Nat.le_of_ble_eq_true rfl | exact Nat.zero_le _, by first | exact Nat.le_of_ble_eq_true rfl | exact Nat.zero_le _⟩ dL_law_657 (fun r1767 hr1767 => ?_)
    obtain rfl := hr1767
    refine lv_aload_n hx hb dL_law_660 rfl (lv_at hl 1 rfl) ?_
    refine lv_aload_n hx hb dL_law_661 rfl (lv_at hl 3 rfl) ?_
    refine lv_iload_n hx hb dL_law_662 rfl (lv_at hl 0 rfl) ?_
    refine lv_iconst (v := 1) hx hb dL_law_663 (by decide) ?_
    refine lv_iadd hx hb dL_law_664 ?_
    refine eqi (x1 := 1) (by decide) ?_
    refine va_sld hx hb hX hbl hbA hS (vin (by decide +kernel)) dL_law_665 ?_
    refine eqi (x1 := xs 1) (congrArg xs (by decide +kernel)) ?_
    refine lv_aload_n hx hb dL_law_666 rfl (lv_at hl 3 rfl) ?_
    refine lv_iload_n hx hb dL_law_667 rfl (lv_at hl 0 rfl) ?_
    refine lv_iconst (v := 2) hx hb dL_law_668 (by decide) ?_
    refine lv_iadd hx hb dL_law_669 ?_
    refine eqi (x1 := 2) (by decide) ?_
    refine va_sld hx hb hX hbl hbA hS (vin (by decide +kernel)) dL_law_670 ?_
    refine eqi (x1 := xs 2) (congrArg xs (by decide +kernel)) ?_
    refine lv_if_eq (tgt := 678) hx hb dL_law_671 (by decide) (fun c9 => absurd c9 (c_649_1762)) (fun _ => ?_)
    refine lv_iconst (v := 1) hx hb dL_law_674 (by decide) ?_
    refine lv_goto (tgt := 679) hx hb dL_law_675 (by decide) ?_
    refine pV hC hK hl hP hD (m_sent l G mm (xs 1) 1 (am 0) (am 1) (am 2) (am 3) (am 4) (am 5) (am 6) (am 7) (am 8) (am 9) (am 10) (am 11) (am 12) (am 13) (am 14) (am 15) (am 16) (am 17) (am 18)) si_L_69 [3, 4] rfl rfl (by decide) rfl rfl rfl rfl rfl (Nat.le_of_ble_eq_true rfl) ⟨Nat.le_of_ble_eq_true rfl, Nat.le_of_ble_eq_true rfl⟩ ⟨by first | exact Nat.le_of_ble_eq_true rfl | exact Nat.zero_le _, by first | exact Nat.le_of_ble_eq_true rfl | exact Nat.zero_le _⟩ dL_law_679 (fun r1769 hr1769 => ?_)
    obtain rfl := hr1769
    refine lv_icmp_eq (tgt := 1718) hx hb dL_law_682 (by decide) (fun _ => ?_) (fun c9 => absurd (by decide) c9)
    exact law_end hC hK hX hbl hbA hA hA2 hS (lv_sub hl [0, 1, 2, 3] rfl)
set_option maxHeartbeats 4000000 in
set_option maxRecDepth 100000 in
theorem law_13 {p : Program} {l : Launch} {e : Env} {s : State} {m : MethodId} {below : List Frame} {meth : Method} {c : Code} {b : Nat} {xs : Nat → Int32} {G : GG} {A : Nat → Prop} {H : Heap} {locs : List Loc} {ls : Array Slot} {x mm : Nat} {ad am : Nat → Nat} {hf : Nat → Option Nat} (hC : CX p s m meth c ⟨RL, meth.name, ""⟩ cL_law 4 ret #[Value.ref b]) (hK : KK G s) (hX : va_X b 7 xs s s.heap) (hbl : b < s.heap.size) (hbA : ¬ A b) (hA : ∀ q : Nat, s.heap.size ≤ q → A q) (hA2 : ∀ q : Nat, A q → s.heap.size ≤ q) (hhf : hf 0 = some (ad 59)) (hP : va_P G.1 vwCl (WLAW G x mm ad am hf) H) (hD : va_D A (WLAW G x mm ad am hf)) (hS : va_S A s.heap H locs) (hl : lv_has ls 4 [(3, .int 0), (2, .ref mm), (1, .ref x), (0, .ref b)]) : W p l e room_1 s m #[Value.ref b] below meth c H locs 123 9503 (lw_Z below #[Value.ref b] s) (F0 m 687 ls []) := by
  obtain ⟨hx, hb, hr, hml, hB, hown, hlocks, hnm⟩ := id hC
  have hP := hP.sub (ws' := [(x, .inr (11, [.ref (ad 0), .ref (ad 1), .int 0, .ref (ad 2), .ref (ad 3), .ref (ad 4), .ref (ad 5), .ref (ad 6), .ref (ad 7), .ref (ad 8), .ref (ad 9)])), ((ad 0), .inr (0, [.ref (ad 10), .ref (ad 11), .ref (ad 12), .ref (ad 13), .ref (ad 14), .ref (ad 15), .ref (ad 16), .ref (ad 17), .ref (ad 18), .ref (ad 19), .int 0, .int (-1), .int 3, .int 24])), ((ad 11), .inr (8, [.int 12, .int 6, .ref (ad 21), .int 0])), (mm, .inr (12, [.ref (am 0), .ref (am 1), .int 0, .ref (am 2), .int 0, .ref (am 3), .int 0, .int (-1), .int 0, .int 0, .ref (am 4), .int 0, .int 0, .ref (am 5), .int 0, .int 0, .int 0, .int 0, .int 0, .int 0, .int 0, .ref (am 6), .ref (am 7), .ref (am 8), .ref (am 9), .ref (am 10), .ref (am 11), .int 0, .ref (am 12), .ref (am 13), .ref (am 14), .ref (am 15), .ref (am 16), .ref (am 17), .ref (am 18), .int 0, .int 0, .int 0, .int 0, .int 0, .int 0])), ((am 0), .inl (G.2.1, 1662, .inl NOW0))]) [0, 1, 4, 74, 75] rfl
  have hD := hD.sub (ws' := [(x, .inr (11, [.ref (ad 0), .ref (ad 1), .int 0, .ref (ad 2), .ref (ad 3), .ref (ad 4), .ref (ad 5), .ref (ad 6), .ref (ad 7), .ref (ad 8), .ref (ad 9)])), ((ad 0), .inr (0, [.ref (ad 10), .ref (ad 11), .ref (ad 12), .ref (ad 13), .ref (ad 14), .ref (ad 15), .ref (ad 16), .ref (ad 17), .ref (ad 18), .ref (ad 19), .int 0, .int (-1), .int 3, .int 24])), ((ad 11), .inr (8, [.int 12, .int 6, .ref (ad 21), .int 0])), (mm, .inr (12, [.ref (am 0), .ref (am 1), .int 0, .ref (am 2), .int 0, .ref (am 3), .int 0, .int (-1), .int 0, .int 0, .ref (am 4), .int 0, .int 0, .ref (am 5), .int 0, .int 0, .int 0, .int 0, .int 0, .int 0, .int 0, .ref (am 6), .ref (am 7), .ref (am 8), .ref (am 9), .ref (am 10), .ref (am 11), .int 0, .ref (am 12), .ref (am 13), .ref (am 14), .ref (am 15), .ref (am 16), .ref (am 17), .ref (am 18), .int 0, .int 0, .int 0, .int 0, .int 0, .int 0])), ((am 0), .inl (G.2.1, 1662, .inl NOW0))]) [0, 1, 4, 74, 75] (by decide) rfl
  refine lv_aload_n hx hb dL_law_687 rfl (lv_at hl 2 rfl) ?_
  refine lv_aload_n hx hb dL_law_688 rfl (lv_at hl 3 rfl) ?_
  refine lv_iload_n hx hb dL_law_689 rfl (lv_at hl 0 rfl) ?_
  refine lv_iconst (v := 1) hx hb dL_law_690 (by decide) ?_
  refine lv_iadd hx hb dL_law_691 ?_
  refine eqi (x1 := 1) (by decide) ?_
  refine va_sld hx hb hX hbl hbA hS (vin (by decide +kernel)) dL_law_692 ?_
  refine eqi (x1 := xs 1) (congrArg xs (by decide +kernel)) ?_
  refine lv_aload_n hx hb dL_law_693 rfl (lv_at hl 3 rfl) ?_
  refine lv_iload_n hx hb dL_law_694 rfl (lv_at hl 0 rfl) ?_
  refine lv_iconst (v := 2) hx hb dL_law_695 (by decide) ?_
  refine lv_iadd hx hb dL_law_696 ?_
  refine eqi (x1 := 2) (by decide) ?_
  refine va_sld hx hb hX hbl hbA hS (vin (by decide +kernel)) dL_law_697 ?_
  refine eqi (x1 := xs 2) (congrArg xs (by decide +kernel)) ?_
  refine lv_aload_n hx hb dL_law_698 rfl (lv_at hl 3 rfl) ?_
  refine lv_iload_n hx hb dL_law_699 rfl (lv_at hl 0 rfl) ?_
  refine lv_iconst (v := 3) hx hb dL_law_700 (by decide) ?_
  refine lv_iadd hx hb dL_law_701 ?_
  refine eqi (x1 := 3) (by decide) ?_
  refine va_sld hx hb hX hbl hbA hS (vin (by decide +kernel)) dL_law_702 ?_
  refine eqi (x1 := xs 3) (congrArg xs (by decide +kernel)) ?_
  refine lv_if_eq (tgt := 710) hx hb dL_law_703 (by decide) (fun c_703_1771 => ?_) (fun c_703_1771 => ?_)
  · refine lv_iconst (v := 0) hx hb dL_law_710 (by decide) ?_
    refine pV hC hK hl hP hD (c_hand l G x (xs 1) (xs 2) 0 (ad 0) (ad 1) (ad 2) (ad 3) (ad 4) (ad 5) (ad 6) (ad 7) (ad 8) (ad 9) (ad 10) (ad 11) (ad 12) (ad 13) (ad 14) (ad 15) (ad 16) (ad 17) (ad 18) (ad 19) (ad 21)) si_L_70 [0, 1, 2] rfl rfl (by decide) rfl rfl rfl rfl rfl (Nat.le_of_ble_eq_true rfl) ⟨Nat.le_of_ble_eq_true rfl, Nat.le_of_ble_eq_true rfl⟩ ⟨by first | exact Nat.le_of_ble_eq_true rfl | exact Nat.zero_le _, by first | exact Nat.le_of_ble_eq_true rfl | exact Nat.zero_le _⟩ dL_law_711 (fun r1772 hr1772 => ?_)
    obtain rfl := hr1772
    refine lv_aload_n hx hb dL_law_714 rfl (lv_at hl 1 rfl) ?_
    refine lv_aload_n hx hb dL_law_715 rfl (lv_at hl 3 rfl) ?_
    refine lv_iload_n hx hb dL_law_716 rfl (lv_at hl 0 rfl) ?_
    refine lv_iconst (v := 1) hx hb dL_law_717 (by decide) ?_
    refine lv_iadd hx hb dL_law_718 ?_
    refine eqi (x1 := 1) (by decide) ?_
    refine va_sld hx hb hX hbl hbA hS (vin (by decide +kernel)) dL_law_719 ?_
    refine eqi (x1 := xs 1) (congrArg xs (by decide +kernel)) ?_
    refine lv_aload_n hx hb dL_law_720 rfl (lv_at hl 3 rfl) ?_
    refine lv_iload_n hx hb dL_law_721 rfl (lv_at hl 0 rfl) ?_
    refine lv_iconst (v := 2) hx hb dL_law_722 (by decide) ?_
    refine lv_iadd hx hb dL_law_723 ?_
    refine eqi (x1 := 2) (by decide) ?_
    refine va_sld hx hb hX hbl hbA hS (vin (by decide +kernel)) dL_law_724 ?_
    refine eqi (x1 := xs 2) (congrArg xs (by decide +kernel)) ?_
    refine lv_aload_n hx hb dL_law_725 rfl (lv_at hl 3 rfl) ?_
    refine lv_iload_n hx hb dL_law_726 rfl (lv_at hl 0 rfl) ?_
    refine lv_iconst (v := 3) hx hb dL_law_727 (by decide) ?_
    refine lv_iadd hx hb dL_law_728 ?_
    refine eqi (x1 := 3) (by decide) ?_
    refine va_sld hx hb hX hbl hbA hS (vin (by decide +kernel)) dL_law_729 ?_
    refine eqi (x1 := xs 3) (congrArg xs (by decide +kernel)) ?_
    refine lv_if_eq (tgt := 737) hx hb dL_law_730 (by decide) (fun _ => ?_) (fun c9 => absurd (c_703_1771) c9)
    refine lv_iconst (v := 0) hx hb dL_law_737 (by decide) ?_
    refine pV hC hK hl hP hD (m_hand l G mm (xs 1) (xs 2) 0 (am 0) (am 1) (am 2) (am 3) (am 4) (am 5) (am 6) (am 7) (am 8) (am 9) (am 10) (am 11) (am 12) (am 13) (am 14) (am 15) (am 16) (am 17) (am 18)) si_L_74 [3, 4] rfl rfl (by decide) rfl rfl rfl rfl rfl (Nat.le_of_ble_eq_true rfl) ⟨Nat.le_of_ble_eq_true rfl, Nat.le_of_ble_eq_true rfl⟩ ⟨by first | exact Nat.le_of_ble_eq_true rfl | exact Nat.zero_le _, by first | exact Nat.le_of_ble_eq_true rfl | exact Nat.zero_le _⟩ dL_law_738 (fun r1774 hr1774 => ?_)
    obtain rfl := hr1774
    refine lv_icmp_eq (tgt := 1718) hx hb dL_law_741 (by decide) (fun _ => ?_) (fun c9 => absurd (by decide) c9)
    exact law_end hC hK hX hbl hbA hA hA2 hS (lv_sub hl [0, 1, 2, 3] rfl)
  · refine lv_iconst (v := 1) hx hb dL_law_706 (by decide) ?_
    refine lv_goto (tgt := 711) hx hb dL_law_707 (by decide) ?_
    refine pV hC hK hl hP hD (c_hand l G x (xs 1) (xs 2) 1 (ad 0) (ad 1) (ad 2) (ad 3) (ad 4) (ad 5) (ad 6) (ad 7) (ad 8) (ad 9) (ad 10) (ad 11) (ad 12) (ad 13) (ad 14) (ad 15) (ad 16) (ad 17) (ad 18) (ad 19) (ad 21)) si_L_70 [0, 1, 2] rfl rfl (by decide) rfl rfl rfl rfl rfl (Nat.le_of_ble_eq_true rfl) ⟨Nat.le_of_ble_eq_true rfl, Nat.le_of_ble_eq_true rfl⟩ ⟨by first | exact Nat.le_of_ble_eq_true rfl | exact Nat.zero_le _, by first | exact Nat.le_of_ble_eq_true rfl | exact Nat.zero_le _⟩ dL_law_711 (fun r1776 hr1776 => ?_)
    obtain rfl := hr1776
    refine lv_aload_n hx hb dL_law_714 rfl (lv_at hl 1 rfl) ?_
    refine lv_aload_n hx hb dL_law_715 rfl (lv_at hl 3 rfl) ?_
    refine lv_iload_n hx hb dL_law_716 rfl (lv_at hl 0 rfl) ?_
    refine lv_iconst (v := 1) hx hb dL_law_717 (by decide) ?_
    refine lv_iadd hx hb dL_law_718 ?_
    refine eqi (x1 := 1) (by decide) ?_
    refine va_sld hx hb hX hbl hbA hS (vin (by decide +kernel)) dL_law_719 ?_
    refine eqi (x1 := xs 1) (congrArg xs (by decide +kernel)) ?_
    refine lv_aload_n hx hb dL_law_720 rfl (lv_at hl 3 rfl) ?_
    refine lv_iload_n hx hb dL_law_721 rfl (lv_at hl 0 rfl) ?_
    refine lv_iconst (v := 2) hx hb dL_law_722 (by decide) ?_
    refine lv_iadd hx hb dL_law_723 ?_
    refine eqi (x1 := 2) (by decide) ?_
    refine va_sld hx hb hX hbl hbA hS (vin (by decide +kernel)) dL_law_724 ?_
    refine eqi (x1 := xs 2) (congrArg xs (by decide +kernel)) ?_
    refine lv_aload_n hx hb dL_law_725 rfl (lv_at hl 3 rfl) ?_
    refine lv_iload_n hx hb dL_law_726 rfl (lv_at hl 0 rfl) ?_
    refine lv_iconst (v := 3) hx hb dL_law_727 (by decide) ?_
    refine lv_iadd hx hb dL_law_728 ?_
    refine eqi (x1 := 3) (by decide) ?_
    refine va_sld hx hb hX hbl hbA hS (vin (by decide +kernel)) dL_law_729 ?_
    refine eqi (x1 := xs 3) (congrArg xs (by decide +kernel)) ?_
    refine lv_if_eq (tgt := 737) hx hb dL_law_730 (by decide) (fun c9 => absurd c9 (c_703_1771)) (fun _ => ?_)
    refine lv_iconst (v := 1) hx hb dL_law_733 (by decide) ?_
    refine lv_goto (tgt := 738) hx hb dL_law_734 (by decide) ?_
    refine pV hC hK hl hP hD (m_hand l G mm (xs 1) (xs 2) 1 (am 0) (am 1) (am 2) (am 3) (am 4) (am 5) (am 6) (am 7) (am 8) (am 9) (am 10) (am 11) (am 12) (am 13) (am 14) (am 15) (am 16) (am 17) (am 18)) si_L_74 [3, 4] rfl rfl (by decide) rfl rfl rfl rfl rfl (Nat.le_of_ble_eq_true rfl) ⟨Nat.le_of_ble_eq_true rfl, Nat.le_of_ble_eq_true rfl⟩ ⟨by first | exact Nat.le_of_ble_eq_true rfl | exact Nat.zero_le _, by first | exact Nat.le_of_ble_eq_true rfl | exact Nat.zero_le _⟩ dL_law_738 (fun r1778 hr1778 => ?_)
    obtain rfl := hr1778
    refine lv_icmp_eq (tgt := 1718) hx hb dL_law_741 (by decide) (fun _ => ?_) (fun c9 => absurd (by decide) c9)
    exact law_end hC hK hX hbl hbA hA hA2 hS (lv_sub hl [0, 1, 2, 3] rfl)
set_option maxHeartbeats 4000000 in
set_option maxRecDepth 100000 in
theorem law_14 {p : Program} {l : Launch} {e : Env} {s : State} {m : MethodId} {below : List Frame} {meth : Method} {c : Code} {b : Nat} {xs : Nat → Int32} {G : GG} {A : Nat → Prop} {H : Heap} {locs : List Loc} {ls : Array Slot} {x mm : Nat} {ad am : Nat → Nat} {hf : Nat → Option Nat} (hC : CX p s m meth c ⟨RL, meth.name, ""⟩ cL_law 4 ret #[Value.ref b]) (hK : KK G s) (hX : va_X b 7 xs s s.heap) (hbl : b < s.heap.size) (hbA : ¬ A b) (hA : ∀ q : Nat, s.heap.size ≤ q → A q) (hA2 : ∀ q : Nat, A q → s.heap.size ≤ q) (hhf : hf 0 = some (ad 59)) (hP : va_P G.1 vwCl (WLAW G x mm ad am hf) H) (hD : va_D A (WLAW G x mm ad am hf)) (hS : va_S A s.heap H locs) (hl : lv_has ls 4 [(3, .int 0), (2, .ref mm), (1, .ref x), (0, .ref b)]) : W p l e room_1 s m #[Value.ref b] below meth c H locs 123 9503 (lw_Z below #[Value.ref b] s) (F0 m 746 ls []) := by
  obtain ⟨hx, hb, hr, hml, hB, hown, hlocks, hnm⟩ := id hC
  have hP := hP.sub (ws' := [(x, .inr (11, [.ref (ad 0), .ref (ad 1), .int 0, .ref (ad 2), .ref (ad 3), .ref (ad 4), .ref (ad 5), .ref (ad 6), .ref (ad 7), .ref (ad 8), .ref (ad 9)])), ((ad 0), .inr (0, [.ref (ad 10), .ref (ad 11), .ref (ad 12), .ref (ad 13), .ref (ad 14), .ref (ad 15), .ref (ad 16), .ref (ad 17), .ref (ad 18), .ref (ad 19), .int 0, .int (-1), .int 3, .int 24])), ((ad 11), .inr (8, [.int 12, .int 6, .ref (ad 21), .int 0])), (mm, .inr (12, [.ref (am 0), .ref (am 1), .int 0, .ref (am 2), .int 0, .ref (am 3), .int 0, .int (-1), .int 0, .int 0, .ref (am 4), .int 0, .int 0, .ref (am 5), .int 0, .int 0, .int 0, .int 0, .int 0, .int 0, .int 0, .ref (am 6), .ref (am 7), .ref (am 8), .ref (am 9), .ref (am 10), .ref (am 11), .int 0, .ref (am 12), .ref (am 13), .ref (am 14), .ref (am 15), .ref (am 16), .ref (am 17), .ref (am 18), .int 0, .int 0, .int 0, .int 0, .int 0, .int 0])), ((am 0), .inl (G.2.1, 1662, .inl NOW0))]) [0, 1, 4, 74, 75] rfl
  have hD := hD.sub (ws' := [(x, .inr (11, [.ref (ad 0), .ref (ad 1), .int 0, .ref (ad 2), .ref (ad 3), .ref (ad 4), .ref (ad 5), .ref (ad 6), .ref (ad 7), .ref (ad 8), .ref (ad 9)])), ((ad 0), .inr (0, [.ref (ad 10), .ref (ad 11), .ref (ad 12), .ref (ad 13), .ref (ad 14), .ref (ad 15), .ref (ad 16), .ref (ad 17), .ref (ad 18), .ref (ad 19), .int 0, .int (-1), .int 3, .int 24])), ((ad 11), .inr (8, [.int 12, .int 6, .ref (ad 21), .int 0])), (mm, .inr (12, [.ref (am 0), .ref (am 1), .int 0, .ref (am 2), .int 0, .ref (am 3), .int 0, .int (-1), .int 0, .int 0, .ref (am 4), .int 0, .int 0, .ref (am 5), .int 0, .int 0, .int 0, .int 0, .int 0, .int 0, .int 0, .ref (am 6), .ref (am 7), .ref (am 8), .ref (am 9), .ref (am 10), .ref (am 11), .int 0, .ref (am 12), .ref (am 13), .ref (am 14), .ref (am 15), .ref (am 16), .ref (am 17), .ref (am 18), .int 0, .int 0, .int 0, .int 0, .int 0, .int 0])), ((am 0), .inl (G.2.1, 1662, .inl NOW0))]) [0, 1, 4, 74, 75] (by decide) rfl
  refine lv_aload_n hx hb dL_law_746 rfl (lv_at hl 2 rfl) ?_
  refine lv_aload_n hx hb dL_law_747 rfl (lv_at hl 3 rfl) ?_
  refine lv_iload_n hx hb dL_law_748 rfl (lv_at hl 0 rfl) ?_
  refine lv_iconst (v := 1) hx hb dL_law_749 (by decide) ?_
  refine lv_iadd hx hb dL_law_750 ?_
  refine eqi (x1 := 1) (by decide) ?_
  refine va_sld hx hb hX hbl hbA hS (vin (by decide +kernel)) dL_law_751 ?_
  refine eqi (x1 := xs 1) (congrArg xs (by decide +kernel)) ?_
  refine lv_aload_n hx hb dL_law_752 rfl (lv_at hl 3 rfl) ?_
  refine lv_iload_n hx hb dL_law_753 rfl (lv_at hl 0 rfl) ?_
  refine lv_iconst (v := 2) hx hb dL_law_754 (by decide) ?_
  refine lv_iadd hx hb dL_law_755 ?_
  refine eqi (x1 := 2) (by decide) ?_
  refine va_sld hx hb hX hbl hbA hS (vin (by decide +kernel)) dL_law_756 ?_
  refine eqi (x1 := xs 2) (congrArg xs (by decide +kernel)) ?_
  refine pV hC hK hl hP hD (c_before l G x (xs 1) (xs 2) (ad 0) (ad 1) (ad 2) (ad 3) (ad 4) (ad 5) (ad 6) (ad 7) (ad 8) (ad 9) (ad 10) (ad 11) (ad 12) (ad 13) (ad 14) (ad 15) (ad 16) (ad 17) (ad 18) (ad 19) (ad 21)) si_L_75 [0, 1, 2] rfl rfl (by decide) rfl rfl rfl rfl rfl (Nat.le_of_ble_eq_true rfl) ⟨Nat.le_of_ble_eq_true rfl, Nat.le_of_ble_eq_true rfl⟩ ⟨by first | exact Nat.le_of_ble_eq_true rfl | exact Nat.zero_le _, by first | exact Nat.le_of_ble_eq_true rfl | exact Nat.zero_le _⟩ dL_law_757 (fun r1780 hr1780 => ?_)
  obtain rfl := hr1780
  refine lv_aload_n hx hb dL_law_760 rfl (lv_at hl 1 rfl) ?_
  refine lv_aload_n hx hb dL_law_761 rfl (lv_at hl 3 rfl) ?_
  refine lv_iload_n hx hb dL_law_762 rfl (lv_at hl 0 rfl) ?_
  refine lv_iconst (v := 1) hx hb dL_law_763 (by decide) ?_
  refine lv_iadd hx hb dL_law_764 ?_
  refine eqi (x1 := 1) (by decide) ?_
  refine va_sld hx hb hX hbl hbA hS (vin (by decide +kernel)) dL_law_765 ?_
  refine eqi (x1 := xs 1) (congrArg xs (by decide +kernel)) ?_
  refine lv_aload_n hx hb dL_law_766 rfl (lv_at hl 3 rfl) ?_
  refine lv_iload_n hx hb dL_law_767 rfl (lv_at hl 0 rfl) ?_
  refine lv_iconst (v := 2) hx hb dL_law_768 (by decide) ?_
  refine lv_iadd hx hb dL_law_769 ?_
  refine eqi (x1 := 2) (by decide) ?_
  refine va_sld hx hb hX hbl hbA hS (vin (by decide +kernel)) dL_law_770 ?_
  refine eqi (x1 := xs 2) (congrArg xs (by decide +kernel)) ?_
  refine pV hC hK hl hP hD (m_before l G mm (xs 1) (xs 2) (am 0) (am 1) (am 2) (am 3) (am 4) (am 5) (am 6) (am 7) (am 8) (am 9) (am 10) (am 11) (am 12) (am 13) (am 14) (am 15) (am 16) (am 17) (am 18)) si_L_78 [3, 4] rfl rfl (by decide) rfl rfl rfl rfl rfl (Nat.le_of_ble_eq_true rfl) ⟨Nat.le_of_ble_eq_true rfl, Nat.le_of_ble_eq_true rfl⟩ ⟨by first | exact Nat.le_of_ble_eq_true rfl | exact Nat.zero_le _, by first | exact Nat.le_of_ble_eq_true rfl | exact Nat.zero_le _⟩ dL_law_771 (fun r1782 hr1782 => ?_)
  obtain rfl := hr1782
  refine lv_icmp_eq (tgt := 1718) hx hb dL_law_774 (by decide) (fun _ => ?_) (fun c9 => absurd (by decide) c9)
  exact law_end hC hK hX hbl hbA hA hA2 hS (lv_sub hl [0, 1, 2, 3] rfl)
set_option maxHeartbeats 4000000 in
set_option maxRecDepth 100000 in
theorem law_15 {p : Program} {l : Launch} {e : Env} {s : State} {m : MethodId} {below : List Frame} {meth : Method} {c : Code} {b : Nat} {xs : Nat → Int32} {G : GG} {A : Nat → Prop} {H : Heap} {locs : List Loc} {ls : Array Slot} {x mm : Nat} {ad am : Nat → Nat} {hf : Nat → Option Nat} (hC : CX p s m meth c ⟨RL, meth.name, ""⟩ cL_law 4 ret #[Value.ref b]) (hK : KK G s) (hX : va_X b 7 xs s s.heap) (hbl : b < s.heap.size) (hbA : ¬ A b) (hA : ∀ q : Nat, s.heap.size ≤ q → A q) (hA2 : ∀ q : Nat, A q → s.heap.size ≤ q) (hhf : hf 0 = some (ad 59)) (hP : va_P G.1 vwCl (WLAW G x mm ad am hf) H) (hD : va_D A (WLAW G x mm ad am hf)) (hS : va_S A s.heap H locs) (hl : lv_has ls 4 [(3, .int 0), (2, .ref mm), (1, .ref x), (0, .ref b)]) : W p l e room_1 s m #[Value.ref b] below meth c H locs 123 9503 (lw_Z below #[Value.ref b] s) (F0 m 779 ls []) := by
  obtain ⟨hx, hb, hr, hml, hB, hown, hlocks, hnm⟩ := id hC
  have hP := hP.sub (ws' := [(x, .inr (11, [.ref (ad 0), .ref (ad 1), .int 0, .ref (ad 2), .ref (ad 3), .ref (ad 4), .ref (ad 5), .ref (ad 6), .ref (ad 7), .ref (ad 8), .ref (ad 9)])), ((ad 0), .inr (0, [.ref (ad 10), .ref (ad 11), .ref (ad 12), .ref (ad 13), .ref (ad 14), .ref (ad 15), .ref (ad 16), .ref (ad 17), .ref (ad 18), .ref (ad 19), .int 0, .int (-1), .int 3, .int 24])), ((ad 10), .inr (8, [.int 10, .int 2, .ref (ad 20), .int 0])), (mm, .inr (12, [.ref (am 0), .ref (am 1), .int 0, .ref (am 2), .int 0, .ref (am 3), .int 0, .int (-1), .int 0, .int 0, .ref (am 4), .int 0, .int 0, .ref (am 5), .int 0, .int 0, .int 0, .int 0, .int 0, .int 0, .int 0, .ref (am 6), .ref (am 7), .ref (am 8), .ref (am 9), .ref (am 10), .ref (am 11), .int 0, .ref (am 12), .ref (am 13), .ref (am 14), .ref (am 15), .ref (am 16), .ref (am 17), .ref (am 18), .int 0, .int 0, .int 0, .int 0, .int 0, .int 0])), ((am 0), .inl (G.2.1, 1662, .inl NOW0))]) [0, 1, 2, 74, 75] rfl
  have hD := hD.sub (ws' := [(x, .inr (11, [.ref (ad 0), .ref (ad 1), .int 0, .ref (ad 2), .ref (ad 3), .ref (ad 4), .ref (ad 5), .ref (ad 6), .ref (ad 7), .ref (ad 8), .ref (ad 9)])), ((ad 0), .inr (0, [.ref (ad 10), .ref (ad 11), .ref (ad 12), .ref (ad 13), .ref (ad 14), .ref (ad 15), .ref (ad 16), .ref (ad 17), .ref (ad 18), .ref (ad 19), .int 0, .int (-1), .int 3, .int 24])), ((ad 10), .inr (8, [.int 10, .int 2, .ref (ad 20), .int 0])), (mm, .inr (12, [.ref (am 0), .ref (am 1), .int 0, .ref (am 2), .int 0, .ref (am 3), .int 0, .int (-1), .int 0, .int 0, .ref (am 4), .int 0, .int 0, .ref (am 5), .int 0, .int 0, .int 0, .int 0, .int 0, .int 0, .int 0, .ref (am 6), .ref (am 7), .ref (am 8), .ref (am 9), .ref (am 10), .ref (am 11), .int 0, .ref (am 12), .ref (am 13), .ref (am 14), .ref (am 15), .ref (am 16), .ref (am 17), .ref (am 18), .int 0, .int 0, .int 0, .int 0, .int 0, .int 0])), ((am 0), .inl (G.2.1, 1662, .inl NOW0))]) [0, 1, 2, 74, 75] (by decide) rfl
  refine lv_aload_n hx hb dL_law_779 rfl (lv_at hl 2 rfl) ?_
  refine lv_aload_n hx hb dL_law_780 rfl (lv_at hl 3 rfl) ?_
  refine lv_iload_n hx hb dL_law_781 rfl (lv_at hl 0 rfl) ?_
  refine lv_iconst (v := 1) hx hb dL_law_782 (by decide) ?_
  refine lv_iadd hx hb dL_law_783 ?_
  refine eqi (x1 := 1) (by decide) ?_
  refine va_sld hx hb hX hbl hbA hS (vin (by decide +kernel)) dL_law_784 ?_
  refine eqi (x1 := xs 1) (congrArg xs (by decide +kernel)) ?_
  refine lv_aload_n hx hb dL_law_785 rfl (lv_at hl 3 rfl) ?_
  refine lv_iload_n hx hb dL_law_786 rfl (lv_at hl 0 rfl) ?_
  refine lv_iconst (v := 2) hx hb dL_law_787 (by decide) ?_
  refine lv_iadd hx hb dL_law_788 ?_
  refine eqi (x1 := 2) (by decide) ?_
  refine va_sld hx hb hX hbl hbA hS (vin (by decide +kernel)) dL_law_789 ?_
  refine eqi (x1 := xs 2) (congrArg xs (by decide +kernel)) ?_
  refine lv_aload_n hx hb dL_law_790 rfl (lv_at hl 3 rfl) ?_
  refine lv_iload_n hx hb dL_law_791 rfl (lv_at hl 0 rfl) ?_
  refine lv_iconst (v := 3) hx hb dL_law_792 (by decide) ?_
  refine lv_iadd hx hb dL_law_793 ?_
  refine eqi (x1 := 3) (by decide) ?_
  refine va_sld hx hb hX hbl hbA hS (vin (by decide +kernel)) dL_law_794 ?_
  refine eqi (x1 := xs 3) (congrArg xs (by decide +kernel)) ?_
  refine pV hC hK hl hP hD (c_knew l G x (xs 1) (xs 2) (xs 3) (ad 0) (ad 1) (ad 2) (ad 3) (ad 4) (ad 5) (ad 6) (ad 7) (ad 8) (ad 9) (ad 10) (ad 11) (ad 12) (ad 13) (ad 14) (ad 15) (ad 16) (ad 17) (ad 18) (ad 19) (ad 20)) si_L_79 [0, 1, 2] rfl rfl (by decide) rfl rfl rfl rfl rfl (Nat.le_of_ble_eq_true rfl) ⟨Nat.le_of_ble_eq_true rfl, Nat.le_of_ble_eq_true rfl⟩ ⟨by first | exact Nat.le_of_ble_eq_true rfl | exact Nat.zero_le _, by first | exact Nat.le_of_ble_eq_true rfl | exact Nat.zero_le _⟩ dL_law_795 (fun r1784 hr1784 => ?_)
  obtain rfl := hr1784
  refine lv_aload_n hx hb dL_law_798 rfl (lv_at hl 1 rfl) ?_
  refine lv_aload_n hx hb dL_law_799 rfl (lv_at hl 3 rfl) ?_
  refine lv_iload_n hx hb dL_law_800 rfl (lv_at hl 0 rfl) ?_
  refine lv_iconst (v := 1) hx hb dL_law_801 (by decide) ?_
  refine lv_iadd hx hb dL_law_802 ?_
  refine eqi (x1 := 1) (by decide) ?_
  refine va_sld hx hb hX hbl hbA hS (vin (by decide +kernel)) dL_law_803 ?_
  refine eqi (x1 := xs 1) (congrArg xs (by decide +kernel)) ?_
  refine lv_aload_n hx hb dL_law_804 rfl (lv_at hl 3 rfl) ?_
  refine lv_iload_n hx hb dL_law_805 rfl (lv_at hl 0 rfl) ?_
  refine lv_iconst (v := 2) hx hb dL_law_806 (by decide) ?_
  refine lv_iadd hx hb dL_law_807 ?_
  refine eqi (x1 := 2) (by decide) ?_
  refine va_sld hx hb hX hbl hbA hS (vin (by decide +kernel)) dL_law_808 ?_
  refine eqi (x1 := xs 2) (congrArg xs (by decide +kernel)) ?_
  refine lv_aload_n hx hb dL_law_809 rfl (lv_at hl 3 rfl) ?_
  refine lv_iload_n hx hb dL_law_810 rfl (lv_at hl 0 rfl) ?_
  refine lv_iconst (v := 3) hx hb dL_law_811 (by decide) ?_
  refine lv_iadd hx hb dL_law_812 ?_
  refine eqi (x1 := 3) (by decide) ?_
  refine va_sld hx hb hX hbl hbA hS (vin (by decide +kernel)) dL_law_813 ?_
  refine eqi (x1 := xs 3) (congrArg xs (by decide +kernel)) ?_
  refine pV hC hK hl hP hD (m_knew l G mm (xs 1) (xs 2) (xs 3) (am 0) (am 1) (am 2) (am 3) (am 4) (am 5) (am 6) (am 7) (am 8) (am 9) (am 10) (am 11) (am 12) (am 13) (am 14) (am 15) (am 16) (am 17) (am 18)) si_L_82 [3, 4] rfl rfl (by decide) rfl rfl rfl rfl rfl (Nat.le_of_ble_eq_true rfl) ⟨Nat.le_of_ble_eq_true rfl, Nat.le_of_ble_eq_true rfl⟩ ⟨by first | exact Nat.le_of_ble_eq_true rfl | exact Nat.zero_le _, by first | exact Nat.le_of_ble_eq_true rfl | exact Nat.zero_le _⟩ dL_law_814 (fun r1786 hr1786 => ?_)
  obtain rfl := hr1786
  refine lv_icmp_eq (tgt := 1718) hx hb dL_law_817 (by decide) (fun _ => ?_) (fun c9 => absurd (by decide) c9)
  exact law_end hC hK hX hbl hbA hA hA2 hS (lv_sub hl [0, 1, 2, 3] rfl)
set_option maxHeartbeats 4000000 in
set_option maxRecDepth 100000 in
theorem law_16 {p : Program} {l : Launch} {e : Env} {s : State} {m : MethodId} {below : List Frame} {meth : Method} {c : Code} {b : Nat} {xs : Nat → Int32} {G : GG} {A : Nat → Prop} {H : Heap} {locs : List Loc} {ls : Array Slot} {x mm : Nat} {ad am : Nat → Nat} {hf : Nat → Option Nat} (hC : CX p s m meth c ⟨RL, meth.name, ""⟩ cL_law 4 ret #[Value.ref b]) (hK : KK G s) (hX : va_X b 7 xs s s.heap) (hbl : b < s.heap.size) (hbA : ¬ A b) (hA : ∀ q : Nat, s.heap.size ≤ q → A q) (hA2 : ∀ q : Nat, A q → s.heap.size ≤ q) (hhf : hf 0 = some (ad 59)) (hP : va_P G.1 vwCl (WLAW G x mm ad am hf) H) (hD : va_D A (WLAW G x mm ad am hf)) (hS : va_S A s.heap H locs) (hl : lv_has ls 4 [(3, .int 0), (2, .ref mm), (1, .ref x), (0, .ref b)]) : W p l e room_1 s m #[Value.ref b] below meth c H locs 123 9503 (lw_Z below #[Value.ref b] s) (F0 m 822 ls []) := by
  obtain ⟨hx, hb, hr, hml, hB, hown, hlocks, hnm⟩ := id hC
  have hP := hP.sub (ws' := [(x, .inr (11, [.ref (ad 0), .ref (ad 1), .int 0, .ref (ad 2), .ref (ad 3), .ref (ad 4), .ref (ad 5), .ref (ad 6), .ref (ad 7), .ref (ad 8), .ref (ad 9)])), ((ad 6), .inr (10, [.ref (ad 61), .int 0, .ref (ad 62), .ref (ad 63), .int (-1), .int 0, .int 0, .int (-1)])), ((ad 61), .inl (G.2.1, 240, .inl (fun _ => 0))), (mm, .inr (12, [.ref (am 0), .ref (am 1), .int 0, .ref (am 2), .int 0, .ref (am 3), .int 0, .int (-1), .int 0, .int 0, .ref (am 4), .int 0, .int 0, .ref (am 5), .int 0, .int 0, .int 0, .int 0, .int 0, .int 0, .int 0, .ref (am 6), .ref (am 7), .ref (am 8), .ref (am 9), .ref (am 10), .ref (am 11), .int 0, .ref (am 12), .ref (am 13), .ref (am 14), .ref (am 15), .ref (am 16), .ref (am 17), .ref (am 18), .int 0, .int 0, .int 0, .int 0, .int 0, .int 0])), ((am 2), .inl (G.2.1, 240, .inl (fun _ => 0)))]) [0, 57, 58, 74, 77] rfl
  have hD := hD.sub (ws' := [(x, .inr (11, [.ref (ad 0), .ref (ad 1), .int 0, .ref (ad 2), .ref (ad 3), .ref (ad 4), .ref (ad 5), .ref (ad 6), .ref (ad 7), .ref (ad 8), .ref (ad 9)])), ((ad 6), .inr (10, [.ref (ad 61), .int 0, .ref (ad 62), .ref (ad 63), .int (-1), .int 0, .int 0, .int (-1)])), ((ad 61), .inl (G.2.1, 240, .inl (fun _ => 0))), (mm, .inr (12, [.ref (am 0), .ref (am 1), .int 0, .ref (am 2), .int 0, .ref (am 3), .int 0, .int (-1), .int 0, .int 0, .ref (am 4), .int 0, .int 0, .ref (am 5), .int 0, .int 0, .int 0, .int 0, .int 0, .int 0, .int 0, .ref (am 6), .ref (am 7), .ref (am 8), .ref (am 9), .ref (am 10), .ref (am 11), .int 0, .ref (am 12), .ref (am 13), .ref (am 14), .ref (am 15), .ref (am 16), .ref (am 17), .ref (am 18), .int 0, .int 0, .int 0, .int 0, .int 0, .int 0])), ((am 2), .inl (G.2.1, 240, .inl (fun _ => 0)))]) [0, 57, 58, 74, 77] (by decide) rfl
  refine lv_aload_n hx hb dL_law_822 rfl (lv_at hl 2 rfl) ?_
  refine lv_aload_n hx hb dL_law_823 rfl (lv_at hl 3 rfl) ?_
  refine lv_iload_n hx hb dL_law_824 rfl (lv_at hl 0 rfl) ?_
  refine lv_iconst (v := 1) hx hb dL_law_825 (by decide) ?_
  refine lv_iadd hx hb dL_law_826 ?_
  refine eqi (x1 := 1) (by decide) ?_
  refine va_sld hx hb hX hbl hbA hS (vin (by decide +kernel)) dL_law_827 ?_
  refine eqi (x1 := xs 1) (congrArg xs (by decide +kernel)) ?_
  refine lv_i2l hx hb dL_law_828 rfl ?_
  refine lv_bipush (v := 32) hx hb dL_law_829 (by decide) ?_
  refine lv_lshl hx hb dL_law_831 rfl ?_
  refine lv_topl (fun x1788 _ => ?_)
  refine lv_aload_n hx hb dL_law_832 rfl (lv_at hl 3 rfl) ?_
  refine lv_iload_n hx hb dL_law_833 rfl (lv_at hl 0 rfl) ?_
  refine lv_iconst (v := 2) hx hb dL_law_834 (by decide) ?_
  refine lv_iadd hx hb dL_law_835 ?_
  refine eqi (x1 := 2) (by decide) ?_
  refine va_sld hx hb hX hbl hbA hS (vin (by decide +kernel)) dL_law_836 ?_
  refine eqi (x1 := xs 2) (congrArg xs (by decide +kernel)) ?_
  refine lv_i2l hx hb dL_law_837 rfl ?_
  refine lv_ldc2 hx hb hown (hB _ m_6) dL_law_838 ?_
  refine lv_land hx hb dL_law_841 ?_
  refine lv_lor hx hb dL_law_842 ?_
  refine lv_aload_n hx hb dL_law_843 rfl (lv_at hl 3 rfl) ?_
  refine lv_iload_n hx hb dL_law_844 rfl (lv_at hl 0 rfl) ?_
  refine lv_iconst (v := 3) hx hb dL_law_845 (by decide) ?_
  refine lv_iadd hx hb dL_law_846 ?_
  refine eqi (x1 := 3) (by decide) ?_
  refine va_sld hx hb hX hbl hbA hS (vin (by decide +kernel)) dL_law_847 ?_
  refine eqi (x1 := xs 3) (congrArg xs (by decide +kernel)) ?_
  refine iV (wr := [(mm, .inr (12, [.ref (am 0), .ref (am 1), .int 0, .ref (am 2), .int 0, .ref (am 3), .int 0, .int (-1), .int 0, .int 0, .ref (am 4), .int 0, .int 0, .ref (am 5), .int 0, .int 0, .int 0, .int 0, .int 0, .int 0, .int 0, .ref (am 6), .ref (am 7), .ref (am 8), .ref (am 9), .ref (am 10), .ref (am 11), .int 0, .ref (am 12), .ref (am 13), .ref (am 14), .ref (am 15), .ref (am 16), .ref (am 17), .ref (am 18), .int 0, .int 0, .int 0, .int 0, .int 0, .int 0])), ((am 2), .inl (G.2.1, 240, .inl (fun _ => 0)))]) hC hK hl hP hD hS hA (c_feed l G x (x1788 ||| (((xs 2).toInt64) &&& 4294967295)) (xs 3) (ad 0) (ad 1) (ad 2) (ad 3) (ad 4) (ad 5) (ad 6) (ad 7) (ad 8) (ad 9) (ad 61) (ad 62) (ad 63)) si_L_85 [0, 1, 2] [3, 4] rfl rfl (by decide) rfl (by decide) (by decide) rfl rfl rfl rfl rfl (Nat.le_of_ble_eq_true rfl) ⟨Nat.le_of_ble_eq_true rfl, Nat.le_of_ble_eq_true rfl⟩ ⟨by first | exact Nat.le_of_ble_eq_true rfl | omega, by first | exact Nat.le_of_ble_eq_true rfl | omega⟩ dL_law_848 (fun r1789 u1790 H locs hr1789 hP hD hS => ?_)
  have hP : va_P G.1 vwCl [(mm, .inr (12, [.ref (am 0), .ref (am 1), .int 0, .ref (am 2), .int 0, .ref (am 3), .int 0, .int (-1), .int 0, .int 0, .ref (am 4), .int 0, .int 0, .ref (am 5), .int 0, .int 0, .int 0, .int 0, .int 0, .int 0, .int 0, .ref (am 6), .ref (am 7), .ref (am 8), .ref (am 9), .ref (am 10), .ref (am 11), .int 0, .ref (am 12), .ref (am 13), .ref (am 14), .ref (am 15), .ref (am 16), .ref (am 17), .ref (am 18), .int 0, .int 0, .int 0, .int 0, .int 0, .int 0])), ((am 2), .inl (G.2.1, 240, .inl (fun _ => 0)))] H := hP
  have hD : va_D A [(mm, .inr (12, [.ref (am 0), .ref (am 1), .int 0, .ref (am 2), .int 0, .ref (am 3), .int 0, .int (-1), .int 0, .int 0, .ref (am 4), .int 0, .int 0, .ref (am 5), .int 0, .int 0, .int 0, .int 0, .int 0, .int 0, .int 0, .ref (am 6), .ref (am 7), .ref (am 8), .ref (am 9), .ref (am 10), .ref (am 11), .int 0, .ref (am 12), .ref (am 13), .ref (am 14), .ref (am 15), .ref (am 16), .ref (am 17), .ref (am 18), .int 0, .int 0, .int 0, .int 0, .int 0, .int 0])), ((am 2), .inl (G.2.1, 240, .inl (fun _ => 0)))] := hD
  obtain rfl := hr1789
  refine lv_aload_n hx hb dL_law_851 rfl (lv_at hl 1 rfl) ?_
  refine lv_aload_n hx hb dL_law_852 rfl (lv_at hl 3 rfl) ?_
  refine lv_iload_n hx hb dL_law_853 rfl (lv_at hl 0 rfl) ?_
  refine lv_iconst (v := 1) hx hb dL_law_854 (by decide) ?_
  refine lv_iadd hx hb dL_law_855 ?_
  refine eqi (x1 := 1) (by decide) ?_
  refine va_sld hx hb hX hbl hbA hS (vin (by decide +kernel)) dL_law_856 ?_
  refine eqi (x1 := xs 1) (congrArg xs (by decide +kernel)) ?_
  refine lv_i2l hx hb dL_law_857 rfl ?_
  refine lv_bipush (v := 32) hx hb dL_law_858 (by decide) ?_
  refine lv_lshl hx hb dL_law_860 rfl ?_
  refine lv_topl (fun x1792 _ => ?_)
  refine lv_aload_n hx hb dL_law_861 rfl (lv_at hl 3 rfl) ?_
  refine lv_iload_n hx hb dL_law_862 rfl (lv_at hl 0 rfl) ?_
  refine lv_iconst (v := 2) hx hb dL_law_863 (by decide) ?_
  refine lv_iadd hx hb dL_law_864 ?_
  refine eqi (x1 := 2) (by decide) ?_
  refine va_sld hx hb hX hbl hbA hS (vin (by decide +kernel)) dL_law_865 ?_
  refine eqi (x1 := xs 2) (congrArg xs (by decide +kernel)) ?_
  refine lv_i2l hx hb dL_law_866 rfl ?_
  refine lv_ldc2 hx hb hown (hB _ m_6) dL_law_867 ?_
  refine lv_land hx hb dL_law_870 ?_
  refine lv_lor hx hb dL_law_871 ?_
  refine lv_aload_n hx hb dL_law_872 rfl (lv_at hl 3 rfl) ?_
  refine lv_iload_n hx hb dL_law_873 rfl (lv_at hl 0 rfl) ?_
  refine lv_iconst (v := 3) hx hb dL_law_874 (by decide) ?_
  refine lv_iadd hx hb dL_law_875 ?_
  refine eqi (x1 := 3) (by decide) ?_
  refine va_sld hx hb hX hbl hbA hS (vin (by decide +kernel)) dL_law_876 ?_
  refine eqi (x1 := xs 3) (congrArg xs (by decide +kernel)) ?_
  refine iV (wr := []) hC hK hl hP hD hS hA (m_feed l G mm (x1792 ||| (((xs 2).toInt64) &&& 4294967295)) (xs 3) (am 0) (am 1) (am 2) (am 3) (am 4) (am 5) (am 6) (am 7) (am 8) (am 9) (am 10) (am 11) (am 12) (am 13) (am 14) (am 15) (am 16) (am 17) (am 18)) si_L_89 [0, 1] [] rfl rfl (by decide) rfl (by decide) (by decide) rfl rfl rfl rfl rfl (Nat.le_of_ble_eq_true rfl) ⟨Nat.le_of_ble_eq_true rfl, Nat.le_of_ble_eq_true rfl⟩ ⟨by first | exact Nat.le_of_ble_eq_true rfl | omega, by first | exact Nat.le_of_ble_eq_true rfl | omega⟩ dL_law_877 (fun r1793 u1794 H locs hr1793 hP hD hS => ?_)
  have hP : va_P G.1 vwCl [] H := hP
  have hD : va_D A [] := hD
  obtain rfl := hr1793
  refine lv_icmp_eq (tgt := 1718) hx hb dL_law_880 (by decide) (fun _ => ?_) (fun c9 => absurd (rfl) c9)
  exact law_end hC hK hX hbl hbA hA hA2 hS (lv_sub hl [0, 1, 2, 3] rfl)
set_option maxHeartbeats 4000000 in
set_option maxRecDepth 100000 in
theorem law_17 {p : Program} {l : Launch} {e : Env} {s : State} {m : MethodId} {below : List Frame} {meth : Method} {c : Code} {b : Nat} {xs : Nat → Int32} {G : GG} {A : Nat → Prop} {H : Heap} {locs : List Loc} {ls : Array Slot} {x mm : Nat} {ad am : Nat → Nat} {hf : Nat → Option Nat} (hC : CX p s m meth c ⟨RL, meth.name, ""⟩ cL_law 4 ret #[Value.ref b]) (hK : KK G s) (hX : va_X b 7 xs s s.heap) (hbl : b < s.heap.size) (hbA : ¬ A b) (hA : ∀ q : Nat, s.heap.size ≤ q → A q) (hA2 : ∀ q : Nat, A q → s.heap.size ≤ q) (hhf : hf 0 = some (ad 59)) (hP : va_P G.1 vwCl (WLAW G x mm ad am hf) H) (hD : va_D A (WLAW G x mm ad am hf)) (hS : va_S A s.heap H locs) (hl : lv_has ls 4 [(3, .int 0), (2, .ref mm), (1, .ref x), (0, .ref b)]) : W p l e room_1 s m #[Value.ref b] below meth c H locs 123 9503 (lw_Z below #[Value.ref b] s) (F0 m 885 ls []) := by
  obtain ⟨hx, hb, hr, hml, hB, hown, hlocks, hnm⟩ := id hC
  have hP := hP.sub (ws' := [(x, .inr (11, [.ref (ad 0), .ref (ad 1), .int 0, .ref (ad 2), .ref (ad 3), .ref (ad 4), .ref (ad 5), .ref (ad 6), .ref (ad 7), .ref (ad 8), .ref (ad 9)])), ((ad 0), .inr (0, [.ref (ad 10), .ref (ad 11), .ref (ad 12), .ref (ad 13), .ref (ad 14), .ref (ad 15), .ref (ad 16), .ref (ad 17), .ref (ad 18), .ref (ad 19), .int 0, .int (-1), .int 3, .int 24])), ((ad 13), .inr (8, [.int 8, .int 3, .ref (ad 23), .int 0])), ((ad 23), .inl (G.2.1, 24, .inl (fun _ => 0))), ((ad 14), .inr (8, [.int 72, .int 7, .ref (ad 24), .int 0])), ((ad 15), .inr (8, [.int 960, .int 1, .ref (ad 25), .int 0])), ((ad 6), .inr (10, [.ref (ad 61), .int 0, .ref (ad 62), .ref (ad 63), .int (-1), .int 0, .int 0, .int (-1)])), ((ad 62), .inr (8, [.int 9, .int 7, .ref (ad 64), .int 0])), ((ad 63), .inr (8, [.int 120, .int 1, .ref (ad 65), .int 0])), (mm, .inr (12, [.ref (am 0), .ref (am 1), .int 0, .ref (am 2), .int 0, .ref (am 3), .int 0, .int (-1), .int 0, .int 0, .ref (am 4), .int 0, .int 0, .ref (am 5), .int 0, .int 0, .int 0, .int 0, .int 0, .int 0, .int 0, .ref (am 6), .ref (am 7), .ref (am 8), .ref (am 9), .ref (am 10), .ref (am 11), .int 0, .ref (am 12), .ref (am 13), .ref (am 14), .ref (am 15), .ref (am 16), .ref (am 17), .ref (am 18), .int 0, .int 0, .int 0, .int 0, .int 0, .int 0])), ((am 0), .inl (G.2.1, 1662, .inl NOW0)), ((am 6), .inl (G.2.1, 54, .inl (fun _ => 0)))]) [0, 1, 8, 9, 10, 12, 57, 59, 61, 74, 75, 79] rfl
  have hD := hD.sub (ws' := [(x, .inr (11, [.ref (ad 0), .ref (ad 1), .int 0, .ref (ad 2), .ref (ad 3), .ref (ad 4), .ref (ad 5), .ref (ad 6), .ref (ad 7), .ref (ad 8), .ref (ad 9)])), ((ad 0), .inr (0, [.ref (ad 10), .ref (ad 11), .ref (ad 12), .ref (ad 13), .ref (ad 14), .ref (ad 15), .ref (ad 16), .ref (ad 17), .ref (ad 18), .ref (ad 19), .int 0, .int (-1), .int 3, .int 24])), ((ad 13), .inr (8, [.int 8, .int 3, .ref (ad 23), .int 0])), ((ad 23), .inl (G.2.1, 24, .inl (fun _ => 0))), ((ad 14), .inr (8, [.int 72, .int 7, .ref (ad 24), .int 0])), ((ad 15), .inr (8, [.int 960, .int 1, .ref (ad 25), .int 0])), ((ad 6), .inr (10, [.ref (ad 61), .int 0, .ref (ad 62), .ref (ad 63), .int (-1), .int 0, .int 0, .int (-1)])), ((ad 62), .inr (8, [.int 9, .int 7, .ref (ad 64), .int 0])), ((ad 63), .inr (8, [.int 120, .int 1, .ref (ad 65), .int 0])), (mm, .inr (12, [.ref (am 0), .ref (am 1), .int 0, .ref (am 2), .int 0, .ref (am 3), .int 0, .int (-1), .int 0, .int 0, .ref (am 4), .int 0, .int 0, .ref (am 5), .int 0, .int 0, .int 0, .int 0, .int 0, .int 0, .int 0, .ref (am 6), .ref (am 7), .ref (am 8), .ref (am 9), .ref (am 10), .ref (am 11), .int 0, .ref (am 12), .ref (am 13), .ref (am 14), .ref (am 15), .ref (am 16), .ref (am 17), .ref (am 18), .int 0, .int 0, .int 0, .int 0, .int 0, .int 0])), ((am 0), .inl (G.2.1, 1662, .inl NOW0)), ((am 6), .inl (G.2.1, 54, .inl (fun _ => 0)))]) [0, 1, 8, 9, 10, 12, 57, 59, 61, 74, 75, 79] (by decide) rfl
  refine lv_aload_n hx hb dL_law_885 rfl (lv_at hl 2 rfl) ?_
  refine iV (wr := [(mm, .inr (12, [.ref (am 0), .ref (am 1), .int 0, .ref (am 2), .int 0, .ref (am 3), .int 0, .int (-1), .int 0, .int 0, .ref (am 4), .int 0, .int 0, .ref (am 5), .int 0, .int 0, .int 0, .int 0, .int 0, .int 0, .int 0, .ref (am 6), .ref (am 7), .ref (am 8), .ref (am 9), .ref (am 10), .ref (am 11), .int 0, .ref (am 12), .ref (am 13), .ref (am 14), .ref (am 15), .ref (am 16), .ref (am 17), .ref (am 18), .int 0, .int 0, .int 0, .int 0, .int 0, .int 0])), ((am 0), .inl (G.2.1, 1662, .inl NOW0)), ((am 6), .inl (G.2.1, 54, .inl (fun _ => 0)))]) hC hK hl hP hD hS hA (c_read l G x (ad 0) (ad 1) (ad 2) (ad 3) (ad 4) (ad 5) (ad 6) (ad 7) (ad 8) (ad 9) (ad 61) (ad 62) (ad 63) (ad 64) (ad 65) (ad 10) (ad 11) (ad 12) (ad 13) (ad 14) (ad 15) (ad 16) (ad 17) (ad 18) (ad 19) (ad 23) (ad 24) (ad 25)) si_L_90 [0, 6, 7, 8, 1, 2, 3, 4, 5] [9, 10, 11] rfl rfl (by decide) rfl (by decide) (by decide) rfl rfl rfl rfl rfl (Nat.le_of_ble_eq_true rfl) ⟨Nat.le_of_ble_eq_true rfl, Nat.le_of_ble_eq_true rfl⟩ ⟨by first | exact Nat.le_of_ble_eq_true rfl | omega, by first | exact Nat.le_of_ble_eq_true rfl | omega⟩ dL_law_886 (fun r1796 u1797 H locs hr1796 hP hD hS => ?_)
  have hP : va_P G.1 vwCl [(mm, .inr (12, [.ref (am 0), .ref (am 1), .int 0, .ref (am 2), .int 0, .ref (am 3), .int 0, .int (-1), .int 0, .int 0, .ref (am 4), .int 0, .int 0, .ref (am 5), .int 0, .int 0, .int 0, .int 0, .int 0, .int 0, .int 0, .ref (am 6), .ref (am 7), .ref (am 8), .ref (am 9), .ref (am 10), .ref (am 11), .int 0, .ref (am 12), .ref (am 13), .ref (am 14), .ref (am 15), .ref (am 16), .ref (am 17), .ref (am 18), .int 0, .int 0, .int 0, .int 0, .int 0, .int 0])), ((am 0), .inl (G.2.1, 1662, .inl NOW0)), ((am 6), .inl (G.2.1, 54, .inl (fun _ => 0)))] H := hP
  have hD : va_D A [(mm, .inr (12, [.ref (am 0), .ref (am 1), .int 0, .ref (am 2), .int 0, .ref (am 3), .int 0, .int (-1), .int 0, .int 0, .ref (am 4), .int 0, .int 0, .ref (am 5), .int 0, .int 0, .int 0, .int 0, .int 0, .int 0, .int 0, .ref (am 6), .ref (am 7), .ref (am 8), .ref (am 9), .ref (am 10), .ref (am 11), .int 0, .ref (am 12), .ref (am 13), .ref (am 14), .ref (am 15), .ref (am 16), .ref (am 17), .ref (am 18), .int 0, .int 0, .int 0, .int 0, .int 0, .int 0])), ((am 0), .inl (G.2.1, 1662, .inl NOW0)), ((am 6), .inl (G.2.1, 54, .inl (fun _ => 0)))] := hD
  obtain rfl := hr1796
  refine lv_aload_n hx hb dL_law_889 rfl (lv_at hl 1 rfl) ?_
  refine iV (wr := []) hC hK hl hP hD hS hA (m_read l G mm (am 0) (am 1) (am 2) (am 3) (am 4) (am 5) (am 6) (am 7) (am 8) (am 9) (am 10) (am 11) (am 12) (am 13) (am 14) (am 15) (am 16) (am 17) (am 18)) si_L_94 [0, 1, 2] [] rfl rfl (by decide) rfl (by decide) (by decide) rfl rfl rfl rfl rfl (Nat.le_of_ble_eq_true rfl) ⟨Nat.le_of_ble_eq_true rfl, Nat.le_of_ble_eq_true rfl⟩ ⟨by first | exact Nat.le_of_ble_eq_true rfl | omega, by first | exact Nat.le_of_ble_eq_true rfl | omega⟩ dL_law_890 (fun r1799 u1800 H locs hr1799 hP hD hS => ?_)
  have hP : va_P G.1 vwCl [] H := hP
  have hD : va_D A [] := hD
  obtain rfl := hr1799
  refine lv_icmp_eq (tgt := 1718) hx hb dL_law_893 (by decide) (fun _ => ?_) (fun c9 => absurd (by decide) c9)
  exact law_end hC hK hX hbl hbA hA hA2 hS (lv_sub hl [0, 1, 2, 3] rfl)
set_option maxHeartbeats 4000000 in
set_option maxRecDepth 100000 in
theorem law_18 {p : Program} {l : Launch} {e : Env} {s : State} {m : MethodId} {below : List Frame} {meth : Method} {c : Code} {b : Nat} {xs : Nat → Int32} {G : GG} {A : Nat → Prop} {H : Heap} {locs : List Loc} {ls : Array Slot} {x mm : Nat} {ad am : Nat → Nat} {hf : Nat → Option Nat} (hC : CX p s m meth c ⟨RL, meth.name, ""⟩ cL_law 4 ret #[Value.ref b]) (hK : KK G s) (hX : va_X b 7 xs s s.heap) (hbl : b < s.heap.size) (hbA : ¬ A b) (hA : ∀ q : Nat, s.heap.size ≤ q → A q) (hA2 : ∀ q : Nat, A q → s.heap.size ≤ q) (hhf : hf 0 = some (ad 59)) (hP : va_P G.1 vwCl (WLAW G x mm ad am hf) H) (hD : va_D A (WLAW G x mm ad am hf)) (hS : va_S A s.heap H locs) (hl : lv_has ls 4 [(3, .int 0), (2, .ref mm), (1, .ref x), (0, .ref b)]) : W p l e room_1 s m #[Value.ref b] below meth c H locs 123 9503 (lw_Z below #[Value.ref b] s) (F0 m 898 ls []) := by
  obtain ⟨hx, hb, hr, hml, hB, hown, hlocks, hnm⟩ := id hC
  have hP := hP.sub (ws' := [(x, .inr (11, [.ref (ad 0), .ref (ad 1), .int 0, .ref (ad 2), .ref (ad 3), .ref (ad 4), .ref (ad 5), .ref (ad 6), .ref (ad 7), .ref (ad 8), .ref (ad 9)])), ((ad 0), .inr (0, [.ref (ad 10), .ref (ad 11), .ref (ad 12), .ref (ad 13), .ref (ad 14), .ref (ad 15), .ref (ad 16), .ref (ad 17), .ref (ad 18), .ref (ad 19), .int 0, .int (-1), .int 3, .int 24])), ((ad 13), .inr (8, [.int 8, .int 3, .ref (ad 23), .int 0])), (mm, .inr (12, [.ref (am 0), .ref (am 1), .int 0, .ref (am 2), .int 0, .ref (am 3), .int 0, .int (-1), .int 0, .int 0, .ref (am 4), .int 0, .int 0, .ref (am 5), .int 0, .int 0, .int 0, .int 0, .int 0, .int 0, .int 0, .ref (am 6), .ref (am 7), .ref (am 8), .ref (am 9), .ref (am 10), .ref (am 11), .int 0, .ref (am 12), .ref (am 13), .ref (am 14), .ref (am 15), .ref (am 16), .ref (am 17), .ref (am 18), .int 0, .int 0, .int 0, .int 0, .int 0, .int 0])), ((am 0), .inl (G.2.1, 1662, .inl NOW0))]) [0, 1, 8, 74, 75] rfl
  have hD := hD.sub (ws' := [(x, .inr (11, [.ref (ad 0), .ref (ad 1), .int 0, .ref (ad 2), .ref (ad 3), .ref (ad 4), .ref (ad 5), .ref (ad 6), .ref (ad 7), .ref (ad 8), .ref (ad 9)])), ((ad 0), .inr (0, [.ref (ad 10), .ref (ad 11), .ref (ad 12), .ref (ad 13), .ref (ad 14), .ref (ad 15), .ref (ad 16), .ref (ad 17), .ref (ad 18), .ref (ad 19), .int 0, .int (-1), .int 3, .int 24])), ((ad 13), .inr (8, [.int 8, .int 3, .ref (ad 23), .int 0])), (mm, .inr (12, [.ref (am 0), .ref (am 1), .int 0, .ref (am 2), .int 0, .ref (am 3), .int 0, .int (-1), .int 0, .int 0, .ref (am 4), .int 0, .int 0, .ref (am 5), .int 0, .int 0, .int 0, .int 0, .int 0, .int 0, .int 0, .ref (am 6), .ref (am 7), .ref (am 8), .ref (am 9), .ref (am 10), .ref (am 11), .int 0, .ref (am 12), .ref (am 13), .ref (am 14), .ref (am 15), .ref (am 16), .ref (am 17), .ref (am 18), .int 0, .int 0, .int 0, .int 0, .int 0, .int 0])), ((am 0), .inl (G.2.1, 1662, .inl NOW0))]) [0, 1, 8, 74, 75] (by decide) rfl
  refine lv_aload_n hx hb dL_law_898 rfl (lv_at hl 2 rfl) ?_
  refine lv_aload_n hx hb dL_law_899 rfl (lv_at hl 3 rfl) ?_
  refine lv_iload_n hx hb dL_law_900 rfl (lv_at hl 0 rfl) ?_
  refine lv_iconst (v := 1) hx hb dL_law_901 (by decide) ?_
  refine lv_iadd hx hb dL_law_902 ?_
  refine eqi (x1 := 1) (by decide) ?_
  refine va_sld hx hb hX hbl hbA hS (vin (by decide +kernel)) dL_law_903 ?_
  refine eqi (x1 := xs 1) (congrArg xs (by decide +kernel)) ?_
  refine lv_aload_n hx hb dL_law_904 rfl (lv_at hl 3 rfl) ?_
  refine lv_iload_n hx hb dL_law_905 rfl (lv_at hl 0 rfl) ?_
  refine lv_iconst (v := 2) hx hb dL_law_906 (by decide) ?_
  refine lv_iadd hx hb dL_law_907 ?_
  refine eqi (x1 := 2) (by decide) ?_
  refine va_sld hx hb hX hbl hbA hS (vin (by decide +kernel)) dL_law_908 ?_
  refine eqi (x1 := xs 2) (congrArg xs (by decide +kernel)) ?_
  refine lv_aload_n hx hb dL_law_909 rfl (lv_at hl 3 rfl) ?_
  refine lv_iload_n hx hb dL_law_910 rfl (lv_at hl 0 rfl) ?_
  refine lv_iconst (v := 3) hx hb dL_law_911 (by decide) ?_
  refine lv_iadd hx hb dL_law_912 ?_
  refine eqi (x1 := 3) (by decide) ?_
  refine va_sld hx hb hX hbl hbA hS (vin (by decide +kernel)) dL_law_913 ?_
  refine eqi (x1 := xs 3) (congrArg xs (by decide +kernel)) ?_
  refine pV hC hK hl hP hD (c_line l G x (xs 1) (xs 2) (xs 3) (ad 0) (ad 1) (ad 2) (ad 3) (ad 4) (ad 5) (ad 6) (ad 7) (ad 8) (ad 9) (ad 10) (ad 11) (ad 12) (ad 13) (ad 14) (ad 15) (ad 16) (ad 17) (ad 18) (ad 19) (ad 23)) si_L_95 [0, 1, 2] rfl rfl (by decide) rfl rfl rfl rfl rfl (Nat.le_of_ble_eq_true rfl) ⟨Nat.le_of_ble_eq_true rfl, Nat.le_of_ble_eq_true rfl⟩ ⟨by first | exact Nat.le_of_ble_eq_true rfl | exact Nat.zero_le _, by first | exact Nat.le_of_ble_eq_true rfl | exact Nat.zero_le _⟩ dL_law_914 (fun r1802 hr1802 => ?_)
  obtain rfl := hr1802
  refine lv_aload_n hx hb dL_law_917 rfl (lv_at hl 1 rfl) ?_
  refine lv_aload_n hx hb dL_law_918 rfl (lv_at hl 3 rfl) ?_
  refine lv_iload_n hx hb dL_law_919 rfl (lv_at hl 0 rfl) ?_
  refine lv_iconst (v := 1) hx hb dL_law_920 (by decide) ?_
  refine lv_iadd hx hb dL_law_921 ?_
  refine eqi (x1 := 1) (by decide) ?_
  refine va_sld hx hb hX hbl hbA hS (vin (by decide +kernel)) dL_law_922 ?_
  refine eqi (x1 := xs 1) (congrArg xs (by decide +kernel)) ?_
  refine lv_aload_n hx hb dL_law_923 rfl (lv_at hl 3 rfl) ?_
  refine lv_iload_n hx hb dL_law_924 rfl (lv_at hl 0 rfl) ?_
  refine lv_iconst (v := 2) hx hb dL_law_925 (by decide) ?_
  refine lv_iadd hx hb dL_law_926 ?_
  refine eqi (x1 := 2) (by decide) ?_
  refine va_sld hx hb hX hbl hbA hS (vin (by decide +kernel)) dL_law_927 ?_
  refine eqi (x1 := xs 2) (congrArg xs (by decide +kernel)) ?_
  refine lv_aload_n hx hb dL_law_928 rfl (lv_at hl 3 rfl) ?_
  refine lv_iload_n hx hb dL_law_929 rfl (lv_at hl 0 rfl) ?_
  refine lv_iconst (v := 3) hx hb dL_law_930 (by decide) ?_
  refine lv_iadd hx hb dL_law_931 ?_
  refine eqi (x1 := 3) (by decide) ?_
  refine va_sld hx hb hX hbl hbA hS (vin (by decide +kernel)) dL_law_932 ?_
  refine eqi (x1 := xs 3) (congrArg xs (by decide +kernel)) ?_
  refine pV hC hK hl hP hD (m_line l G mm (xs 1) (xs 2) (xs 3) (am 0) (am 1) (am 2) (am 3) (am 4) (am 5) (am 6) (am 7) (am 8) (am 9) (am 10) (am 11) (am 12) (am 13) (am 14) (am 15) (am 16) (am 17) (am 18)) si_L_98 [3, 4] rfl rfl (by decide) rfl rfl rfl rfl rfl (Nat.le_of_ble_eq_true rfl) ⟨Nat.le_of_ble_eq_true rfl, Nat.le_of_ble_eq_true rfl⟩ ⟨by first | exact Nat.le_of_ble_eq_true rfl | exact Nat.zero_le _, by first | exact Nat.le_of_ble_eq_true rfl | exact Nat.zero_le _⟩ dL_law_933 (fun r1804 hr1804 => ?_)
  obtain rfl := hr1804
  refine lv_icmp_eq (tgt := 1718) hx hb dL_law_936 (by decide) (fun _ => ?_) (fun c9 => absurd (by decide) c9)
  exact law_end hC hK hX hbl hbA hA hA2 hS (lv_sub hl [0, 1, 2, 3] rfl)
set_option maxHeartbeats 4000000 in
set_option maxRecDepth 100000 in
theorem law_19 {p : Program} {l : Launch} {e : Env} {s : State} {m : MethodId} {below : List Frame} {meth : Method} {c : Code} {b : Nat} {xs : Nat → Int32} {G : GG} {A : Nat → Prop} {H : Heap} {locs : List Loc} {ls : Array Slot} {x mm : Nat} {ad am : Nat → Nat} {hf : Nat → Option Nat} (hC : CX p s m meth c ⟨RL, meth.name, ""⟩ cL_law 4 ret #[Value.ref b]) (hK : KK G s) (hX : va_X b 7 xs s s.heap) (hbl : b < s.heap.size) (hbA : ¬ A b) (hA : ∀ q : Nat, s.heap.size ≤ q → A q) (hA2 : ∀ q : Nat, A q → s.heap.size ≤ q) (hhf : hf 0 = some (ad 59)) (hP : va_P G.1 vwCl (WLAW G x mm ad am hf) H) (hD : va_D A (WLAW G x mm ad am hf)) (hS : va_S A s.heap H locs) (hl : lv_has ls 4 [(3, .int 0), (2, .ref mm), (1, .ref x), (0, .ref b)]) : W p l e room_1 s m #[Value.ref b] below meth c H locs 123 9503 (lw_Z below #[Value.ref b] s) (F0 m 941 ls []) := by
  obtain ⟨hx, hb, hr, hml, hB, hown, hlocks, hnm⟩ := id hC
  have hP := hP.sub (ws' := [(x, .inr (11, [.ref (ad 0), .ref (ad 1), .int 0, .ref (ad 2), .ref (ad 3), .ref (ad 4), .ref (ad 5), .ref (ad 6), .ref (ad 7), .ref (ad 8), .ref (ad 9)])), ((ad 0), .inr (0, [.ref (ad 10), .ref (ad 11), .ref (ad 12), .ref (ad 13), .ref (ad 14), .ref (ad 15), .ref (ad 16), .ref (ad 17), .ref (ad 18), .ref (ad 19), .int 0, .int (-1), .int 3, .int 24])), ((ad 10), .inr (8, [.int 10, .int 2, .ref (ad 20), .int 0])), (mm, .inr (12, [.ref (am 0), .ref (am 1), .int 0, .ref (am 2), .int 0, .ref (am 3), .int 0, .int (-1), .int 0, .int 0, .ref (am 4), .int 0, .int 0, .ref (am 5), .int 0, .int 0, .int 0, .int 0, .int 0, .int 0, .int 0, .ref (am 6), .ref (am 7), .ref (am 8), .ref (am 9), .ref (am 10), .ref (am 11), .int 0, .ref (am 12), .ref (am 13), .ref (am 14), .ref (am 15), .ref (am 16), .ref (am 17), .ref (am 18), .int 0, .int 0, .int 0, .int 0, .int 0, .int 0])), ((am 0), .inl (G.2.1, 1662, .inl NOW0))]) [0, 1, 2, 74, 75] rfl
  have hD := hD.sub (ws' := [(x, .inr (11, [.ref (ad 0), .ref (ad 1), .int 0, .ref (ad 2), .ref (ad 3), .ref (ad 4), .ref (ad 5), .ref (ad 6), .ref (ad 7), .ref (ad 8), .ref (ad 9)])), ((ad 0), .inr (0, [.ref (ad 10), .ref (ad 11), .ref (ad 12), .ref (ad 13), .ref (ad 14), .ref (ad 15), .ref (ad 16), .ref (ad 17), .ref (ad 18), .ref (ad 19), .int 0, .int (-1), .int 3, .int 24])), ((ad 10), .inr (8, [.int 10, .int 2, .ref (ad 20), .int 0])), (mm, .inr (12, [.ref (am 0), .ref (am 1), .int 0, .ref (am 2), .int 0, .ref (am 3), .int 0, .int (-1), .int 0, .int 0, .ref (am 4), .int 0, .int 0, .ref (am 5), .int 0, .int 0, .int 0, .int 0, .int 0, .int 0, .int 0, .ref (am 6), .ref (am 7), .ref (am 8), .ref (am 9), .ref (am 10), .ref (am 11), .int 0, .ref (am 12), .ref (am 13), .ref (am 14), .ref (am 15), .ref (am 16), .ref (am 17), .ref (am 18), .int 0, .int 0, .int 0, .int 0, .int 0, .int 0])), ((am 0), .inl (G.2.1, 1662, .inl NOW0))]) [0, 1, 2, 74, 75] (by decide) rfl
  refine lv_aload_n hx hb dL_law_941 rfl (lv_at hl 2 rfl) ?_
  refine lv_aload_n hx hb dL_law_942 rfl (lv_at hl 3 rfl) ?_
  refine lv_iload_n hx hb dL_law_943 rfl (lv_at hl 0 rfl) ?_
  refine lv_iconst (v := 1) hx hb dL_law_944 (by decide) ?_
  refine lv_iadd hx hb dL_law_945 ?_
  refine eqi (x1 := 1) (by decide) ?_
  refine va_sld hx hb hX hbl hbA hS (vin (by decide +kernel)) dL_law_946 ?_
  refine eqi (x1 := xs 1) (congrArg xs (by decide +kernel)) ?_
  refine lv_aload_n hx hb dL_law_947 rfl (lv_at hl 3 rfl) ?_
  refine lv_iload_n hx hb dL_law_948 rfl (lv_at hl 0 rfl) ?_
  refine lv_iconst (v := 2) hx hb dL_law_949 (by decide) ?_
  refine lv_iadd hx hb dL_law_950 ?_
  refine eqi (x1 := 2) (by decide) ?_
  refine va_sld hx hb hX hbl hbA hS (vin (by decide +kernel)) dL_law_951 ?_
  refine eqi (x1 := xs 2) (congrArg xs (by decide +kernel)) ?_
  refine pV hC hK hl hP hD (c_why l G x (xs 1) (xs 2) (ad 0) (ad 1) (ad 2) (ad 3) (ad 4) (ad 5) (ad 6) (ad 7) (ad 8) (ad 9) (ad 10) (ad 11) (ad 12) (ad 13) (ad 14) (ad 15) (ad 16) (ad 17) (ad 18) (ad 19) (ad 20)) si_L_99 [0, 1, 2] rfl rfl (by decide) rfl rfl rfl rfl rfl (Nat.le_of_ble_eq_true rfl) ⟨Nat.le_of_ble_eq_true rfl, Nat.le_of_ble_eq_true rfl⟩ ⟨by first | exact Nat.le_of_ble_eq_true rfl | exact Nat.zero_le _, by first | exact Nat.le_of_ble_eq_true rfl | exact Nat.zero_le _⟩ dL_law_952 (fun r1806 hr1806 => ?_)
  obtain rfl := hr1806
  refine lv_aload_n hx hb dL_law_955 rfl (lv_at hl 1 rfl) ?_
  refine lv_aload_n hx hb dL_law_956 rfl (lv_at hl 3 rfl) ?_
  refine lv_iload_n hx hb dL_law_957 rfl (lv_at hl 0 rfl) ?_
  refine lv_iconst (v := 1) hx hb dL_law_958 (by decide) ?_
  refine lv_iadd hx hb dL_law_959 ?_
  refine eqi (x1 := 1) (by decide) ?_
  refine va_sld hx hb hX hbl hbA hS (vin (by decide +kernel)) dL_law_960 ?_
  refine eqi (x1 := xs 1) (congrArg xs (by decide +kernel)) ?_
  refine lv_aload_n hx hb dL_law_961 rfl (lv_at hl 3 rfl) ?_
  refine lv_iload_n hx hb dL_law_962 rfl (lv_at hl 0 rfl) ?_
  refine lv_iconst (v := 2) hx hb dL_law_963 (by decide) ?_
  refine lv_iadd hx hb dL_law_964 ?_
  refine eqi (x1 := 2) (by decide) ?_
  refine va_sld hx hb hX hbl hbA hS (vin (by decide +kernel)) dL_law_965 ?_
  refine eqi (x1 := xs 2) (congrArg xs (by decide +kernel)) ?_
  refine pV hC hK hl hP hD (m_why l G mm (xs 1) (xs 2) (am 0) (am 1) (am 2) (am 3) (am 4) (am 5) (am 6) (am 7) (am 8) (am 9) (am 10) (am 11) (am 12) (am 13) (am 14) (am 15) (am 16) (am 17) (am 18)) si_L_102 [3, 4] rfl rfl (by decide) rfl rfl rfl rfl rfl (Nat.le_of_ble_eq_true rfl) ⟨Nat.le_of_ble_eq_true rfl, Nat.le_of_ble_eq_true rfl⟩ ⟨by first | exact Nat.le_of_ble_eq_true rfl | exact Nat.zero_le _, by first | exact Nat.le_of_ble_eq_true rfl | exact Nat.zero_le _⟩ dL_law_966 (fun r1808 hr1808 => ?_)
  obtain rfl := hr1808
  refine lv_icmp_eq (tgt := 1718) hx hb dL_law_969 (by decide) (fun _ => ?_) (fun c9 => absurd (by decide) c9)
  exact law_end hC hK hX hbl hbA hA hA2 hS (lv_sub hl [0, 1, 2, 3] rfl)
set_option maxHeartbeats 4000000 in
set_option maxRecDepth 100000 in
theorem law_20 {p : Program} {l : Launch} {e : Env} {s : State} {m : MethodId} {below : List Frame} {meth : Method} {c : Code} {b : Nat} {xs : Nat → Int32} {G : GG} {A : Nat → Prop} {H : Heap} {locs : List Loc} {ls : Array Slot} {x mm : Nat} {ad am : Nat → Nat} {hf : Nat → Option Nat} (hC : CX p s m meth c ⟨RL, meth.name, ""⟩ cL_law 4 ret #[Value.ref b]) (hK : KK G s) (hX : va_X b 7 xs s s.heap) (hbl : b < s.heap.size) (hbA : ¬ A b) (hA : ∀ q : Nat, s.heap.size ≤ q → A q) (hA2 : ∀ q : Nat, A q → s.heap.size ≤ q) (hhf : hf 0 = some (ad 59)) (hP : va_P G.1 vwCl (WLAW G x mm ad am hf) H) (hD : va_D A (WLAW G x mm ad am hf)) (hS : va_S A s.heap H locs) (hl : lv_has ls 4 [(3, .int 0), (2, .ref mm), (1, .ref x), (0, .ref b)]) : W p l e room_1 s m #[Value.ref b] below meth c H locs 123 9503 (lw_Z below #[Value.ref b] s) (F0 m 974 ls []) := by
  obtain ⟨hx, hb, hr, hml, hB, hown, hlocks, hnm⟩ := id hC
  have hP := hP.sub (ws' := [(x, .inr (11, [.ref (ad 0), .ref (ad 1), .int 0, .ref (ad 2), .ref (ad 3), .ref (ad 4), .ref (ad 5), .ref (ad 6), .ref (ad 7), .ref (ad 8), .ref (ad 9)])), ((ad 0), .inr (0, [.ref (ad 10), .ref (ad 11), .ref (ad 12), .ref (ad 13), .ref (ad 14), .ref (ad 15), .ref (ad 16), .ref (ad 17), .ref (ad 18), .ref (ad 19), .int 0, .int (-1), .int 3, .int 24])), ((ad 10), .inr (8, [.int 10, .int 2, .ref (ad 20), .int 0])), (mm, .inr (12, [.ref (am 0), .ref (am 1), .int 0, .ref (am 2), .int 0, .ref (am 3), .int 0, .int (-1), .int 0, .int 0, .ref (am 4), .int 0, .int 0, .ref (am 5), .int 0, .int 0, .int 0, .int 0, .int 0, .int 0, .int 0, .ref (am 6), .ref (am 7), .ref (am 8), .ref (am 9), .ref (am 10), .ref (am 11), .int 0, .ref (am 12), .ref (am 13), .ref (am 14), .ref (am 15), .ref (am 16), .ref (am 17), .ref (am 18), .int 0, .int 0, .int 0, .int 0, .int 0, .int 0])), ((am 0), .inl (G.2.1, 1662, .inl NOW0))]) [0, 1, 2, 74, 75] rfl
  have hD := hD.sub (ws' := [(x, .inr (11, [.ref (ad 0), .ref (ad 1), .int 0, .ref (ad 2), .ref (ad 3), .ref (ad 4), .ref (ad 5), .ref (ad 6), .ref (ad 7), .ref (ad 8), .ref (ad 9)])), ((ad 0), .inr (0, [.ref (ad 10), .ref (ad 11), .ref (ad 12), .ref (ad 13), .ref (ad 14), .ref (ad 15), .ref (ad 16), .ref (ad 17), .ref (ad 18), .ref (ad 19), .int 0, .int (-1), .int 3, .int 24])), ((ad 10), .inr (8, [.int 10, .int 2, .ref (ad 20), .int 0])), (mm, .inr (12, [.ref (am 0), .ref (am 1), .int 0, .ref (am 2), .int 0, .ref (am 3), .int 0, .int (-1), .int 0, .int 0, .ref (am 4), .int 0, .int 0, .ref (am 5), .int 0, .int 0, .int 0, .int 0, .int 0, .int 0, .int 0, .ref (am 6), .ref (am 7), .ref (am 8), .ref (am 9), .ref (am 10), .ref (am 11), .int 0, .ref (am 12), .ref (am 13), .ref (am 14), .ref (am 15), .ref (am 16), .ref (am 17), .ref (am 18), .int 0, .int 0, .int 0, .int 0, .int 0, .int 0])), ((am 0), .inl (G.2.1, 1662, .inl NOW0))]) [0, 1, 2, 74, 75] (by decide) rfl
  refine lv_aload_n hx hb dL_law_974 rfl (lv_at hl 2 rfl) ?_
  refine lv_aload_n hx hb dL_law_975 rfl (lv_at hl 3 rfl) ?_
  refine lv_iload_n hx hb dL_law_976 rfl (lv_at hl 0 rfl) ?_
  refine lv_iconst (v := 1) hx hb dL_law_977 (by decide) ?_
  refine lv_iadd hx hb dL_law_978 ?_
  refine eqi (x1 := 1) (by decide) ?_
  refine va_sld hx hb hX hbl hbA hS (vin (by decide +kernel)) dL_law_979 ?_
  refine eqi (x1 := xs 1) (congrArg xs (by decide +kernel)) ?_
  refine lv_aload_n hx hb dL_law_980 rfl (lv_at hl 3 rfl) ?_
  refine lv_iload_n hx hb dL_law_981 rfl (lv_at hl 0 rfl) ?_
  refine lv_iconst (v := 2) hx hb dL_law_982 (by decide) ?_
  refine lv_iadd hx hb dL_law_983 ?_
  refine eqi (x1 := 2) (by decide) ?_
  refine va_sld hx hb hX hbl hbA hS (vin (by decide +kernel)) dL_law_984 ?_
  refine eqi (x1 := xs 2) (congrArg xs (by decide +kernel)) ?_
  refine lv_aload_n hx hb dL_law_985 rfl (lv_at hl 3 rfl) ?_
  refine lv_iload_n hx hb dL_law_986 rfl (lv_at hl 0 rfl) ?_
  refine lv_iconst (v := 3) hx hb dL_law_987 (by decide) ?_
  refine lv_iadd hx hb dL_law_988 ?_
  refine eqi (x1 := 3) (by decide) ?_
  refine va_sld hx hb hX hbl hbA hS (vin (by decide +kernel)) dL_law_989 ?_
  refine eqi (x1 := xs 3) (congrArg xs (by decide +kernel)) ?_
  refine lv_aload_n hx hb dL_law_990 rfl (lv_at hl 3 rfl) ?_
  refine lv_iload_n hx hb dL_law_991 rfl (lv_at hl 0 rfl) ?_
  refine lv_iconst (v := 4) hx hb dL_law_992 (by decide) ?_
  refine lv_iadd hx hb dL_law_993 ?_
  refine eqi (x1 := 4) (by decide) ?_
  refine va_sld hx hb hX hbl hbA hS (vin (by decide +kernel)) dL_law_994 ?_
  refine eqi (x1 := xs 4) (congrArg xs (by decide +kernel)) ?_
  refine lv_aload_n hx hb dL_law_995 rfl (lv_at hl 3 rfl) ?_
  refine lv_iload_n hx hb dL_law_996 rfl (lv_at hl 0 rfl) ?_
  refine lv_iconst (v := 5) hx hb dL_law_997 (by decide) ?_
  refine lv_iadd hx hb dL_law_998 ?_
  refine eqi (x1 := 5) (by decide) ?_
  refine va_sld hx hb hX hbl hbA hS (vin (by decide +kernel)) dL_law_999 ?_
  refine eqi (x1 := xs 5) (congrArg xs (by decide +kernel)) ?_
  refine lv_if_eq (tgt := 1007) hx hb dL_law_1000 (by decide) (fun c_1000_1810 => ?_) (fun c_1000_1810 => ?_)
  · refine lv_iconst (v := 0) hx hb dL_law_1007 (by decide) ?_
    refine lv_aload_n hx hb dL_law_1008 rfl (lv_at hl 3 rfl) ?_
    refine lv_iload_n hx hb dL_law_1009 rfl (lv_at hl 0 rfl) ?_
    refine lv_bipush (v := 6) hx hb dL_law_1010 (by decide) ?_
    refine lv_iadd hx hb dL_law_1012 ?_
    refine eqi (x1 := 6) (by decide) ?_
    refine va_sld hx hb hX hbl hbA hS (vin (by decide +kernel)) dL_law_1013 ?_
    refine eqi (x1 := xs 6) (congrArg xs (by decide +kernel)) ?_
    refine pV hC hK hl hP hD (c_saying l G x (xs 1) (xs 2) (xs 3) (xs 4) 0 (xs 6) (ad 0) (ad 1) (ad 2) (ad 3) (ad 4) (ad 5) (ad 6) (ad 7) (ad 8) (ad 9) (ad 10) (ad 11) (ad 12) (ad 13) (ad 14) (ad 15) (ad 16) (ad 17) (ad 18) (ad 19) (ad 20)) si_L_103 [0, 1, 2] rfl rfl (by decide) rfl rfl rfl rfl rfl (Nat.le_of_ble_eq_true rfl) ⟨Nat.le_of_ble_eq_true rfl, Nat.le_of_ble_eq_true rfl⟩ ⟨by first | exact Nat.le_of_ble_eq_true rfl | exact Nat.zero_le _, by first | exact Nat.le_of_ble_eq_true rfl | exact Nat.zero_le _⟩ dL_law_1014 (fun r1811 hr1811 => ?_)
    obtain rfl := hr1811
    refine lv_aload_n hx hb dL_law_1017 rfl (lv_at hl 1 rfl) ?_
    refine lv_aload_n hx hb dL_law_1018 rfl (lv_at hl 3 rfl) ?_
    refine lv_iload_n hx hb dL_law_1019 rfl (lv_at hl 0 rfl) ?_
    refine lv_iconst (v := 1) hx hb dL_law_1020 (by decide) ?_
    refine lv_iadd hx hb dL_law_1021 ?_
    refine eqi (x1 := 1) (by decide) ?_
    refine va_sld hx hb hX hbl hbA hS (vin (by decide +kernel)) dL_law_1022 ?_
    refine eqi (x1 := xs 1) (congrArg xs (by decide +kernel)) ?_
    refine lv_aload_n hx hb dL_law_1023 rfl (lv_at hl 3 rfl) ?_
    refine lv_iload_n hx hb dL_law_1024 rfl (lv_at hl 0 rfl) ?_
    refine lv_iconst (v := 2) hx hb dL_law_1025 (by decide) ?_
    refine lv_iadd hx hb dL_law_1026 ?_
    refine eqi (x1 := 2) (by decide) ?_
    refine va_sld hx hb hX hbl hbA hS (vin (by decide +kernel)) dL_law_1027 ?_
    refine eqi (x1 := xs 2) (congrArg xs (by decide +kernel)) ?_
    refine lv_aload_n hx hb dL_law_1028 rfl (lv_at hl 3 rfl) ?_
    refine lv_iload_n hx hb dL_law_1029 rfl (lv_at hl 0 rfl) ?_
    refine lv_iconst (v := 3) hx hb dL_law_1030 (by decide) ?_
    refine lv_iadd hx hb dL_law_1031 ?_
    refine eqi (x1 := 3) (by decide) ?_
    refine va_sld hx hb hX hbl hbA hS (vin (by decide +kernel)) dL_law_1032 ?_
    refine eqi (x1 := xs 3) (congrArg xs (by decide +kernel)) ?_
    refine lv_aload_n hx hb dL_law_1033 rfl (lv_at hl 3 rfl) ?_
    refine lv_iload_n hx hb dL_law_1034 rfl (lv_at hl 0 rfl) ?_
    refine lv_iconst (v := 4) hx hb dL_law_1035 (by decide) ?_
    refine lv_iadd hx hb dL_law_1036 ?_
    refine eqi (x1 := 4) (by decide) ?_
    refine va_sld hx hb hX hbl hbA hS (vin (by decide +kernel)) dL_law_1037 ?_
    refine eqi (x1 := xs 4) (congrArg xs (by decide +kernel)) ?_
    refine lv_aload_n hx hb dL_law_1038 rfl (lv_at hl 3 rfl) ?_
    refine lv_iload_n hx hb dL_law_1039 rfl (lv_at hl 0 rfl) ?_
    refine lv_iconst (v := 5) hx hb dL_law_1040 (by decide) ?_
    refine lv_iadd hx hb dL_law_1041 ?_
    refine eqi (x1 := 5) (by decide) ?_
    refine va_sld hx hb hX hbl hbA hS (vin (by decide +kernel)) dL_law_1042 ?_
    refine eqi (x1 := xs 5) (congrArg xs (by decide +kernel)) ?_
    refine lv_if_eq (tgt := 1050) hx hb dL_law_1043 (by decide) (fun _ => ?_) (fun c9 => absurd (c_1000_1810) c9)
    refine lv_iconst (v := 0) hx hb dL_law_1050 (by decide) ?_
    refine lv_aload_n hx hb dL_law_1051 rfl (lv_at hl 3 rfl) ?_
    refine lv_iload_n hx hb dL_law_1052 rfl (lv_at hl 0 rfl) ?_
    refine lv_bipush (v := 6) hx hb dL_law_1053 (by decide) ?_
    refine lv_iadd hx hb dL_law_1055 ?_
    refine eqi (x1 := 6) (by decide) ?_
    refine va_sld hx hb hX hbl hbA hS (vin (by decide +kernel)) dL_law_1056 ?_
    refine eqi (x1 := xs 6) (congrArg xs (by decide +kernel)) ?_
    refine pV hC hK hl hP hD (m_saying l G mm (xs 1) (xs 2) (xs 3) (xs 4) 0 (xs 6) (am 0) (am 1) (am 2) (am 3) (am 4) (am 5) (am 6) (am 7) (am 8) (am 9) (am 10) (am 11) (am 12) (am 13) (am 14) (am 15) (am 16) (am 17) (am 18)) si_L_107 [3, 4] rfl rfl (by decide) rfl rfl rfl rfl rfl (Nat.le_of_ble_eq_true rfl) ⟨Nat.le_of_ble_eq_true rfl, Nat.le_of_ble_eq_true rfl⟩ ⟨by first | exact Nat.le_of_ble_eq_true rfl | exact Nat.zero_le _, by first | exact Nat.le_of_ble_eq_true rfl | exact Nat.zero_le _⟩ dL_law_1057 (fun r1813 hr1813 => ?_)
    obtain rfl := hr1813
    refine lv_icmp_eq (tgt := 1718) hx hb dL_law_1060 (by decide) (fun _ => ?_) (fun c9 => absurd (by decide) c9)
    exact law_end hC hK hX hbl hbA hA hA2 hS (lv_sub hl [0, 1, 2, 3] rfl)
  · refine lv_iconst (v := 1) hx hb dL_law_1003 (by decide) ?_
    refine lv_goto (tgt := 1008) hx hb dL_law_1004 (by decide) ?_
    refine lv_aload_n hx hb dL_law_1008 rfl (lv_at hl 3 rfl) ?_
    refine lv_iload_n hx hb dL_law_1009 rfl (lv_at hl 0 rfl) ?_
    refine lv_bipush (v := 6) hx hb dL_law_1010 (by decide) ?_
    refine lv_iadd hx hb dL_law_1012 ?_
    refine eqi (x1 := 6) (by decide) ?_
    refine va_sld hx hb hX hbl hbA hS (vin (by decide +kernel)) dL_law_1013 ?_
    refine eqi (x1 := xs 6) (congrArg xs (by decide +kernel)) ?_
    refine pV hC hK hl hP hD (c_saying l G x (xs 1) (xs 2) (xs 3) (xs 4) 1 (xs 6) (ad 0) (ad 1) (ad 2) (ad 3) (ad 4) (ad 5) (ad 6) (ad 7) (ad 8) (ad 9) (ad 10) (ad 11) (ad 12) (ad 13) (ad 14) (ad 15) (ad 16) (ad 17) (ad 18) (ad 19) (ad 20)) si_L_103 [0, 1, 2] rfl rfl (by decide) rfl rfl rfl rfl rfl (Nat.le_of_ble_eq_true rfl) ⟨Nat.le_of_ble_eq_true rfl, Nat.le_of_ble_eq_true rfl⟩ ⟨by first | exact Nat.le_of_ble_eq_true rfl | exact Nat.zero_le _, by first | exact Nat.le_of_ble_eq_true rfl | exact Nat.zero_le _⟩ dL_law_1014 (fun r1815 hr1815 => ?_)
    obtain rfl := hr1815
    refine lv_aload_n hx hb dL_law_1017 rfl (lv_at hl 1 rfl) ?_
    refine lv_aload_n hx hb dL_law_1018 rfl (lv_at hl 3 rfl) ?_
    refine lv_iload_n hx hb dL_law_1019 rfl (lv_at hl 0 rfl) ?_
    refine lv_iconst (v := 1) hx hb dL_law_1020 (by decide) ?_
    refine lv_iadd hx hb dL_law_1021 ?_
    refine eqi (x1 := 1) (by decide) ?_
    refine va_sld hx hb hX hbl hbA hS (vin (by decide +kernel)) dL_law_1022 ?_
    refine eqi (x1 := xs 1) (congrArg xs (by decide +kernel)) ?_
    refine lv_aload_n hx hb dL_law_1023 rfl (lv_at hl 3 rfl) ?_
    refine lv_iload_n hx hb dL_law_1024 rfl (lv_at hl 0 rfl) ?_
    refine lv_iconst (v := 2) hx hb dL_law_1025 (by decide) ?_
    refine lv_iadd hx hb dL_law_1026 ?_
    refine eqi (x1 := 2) (by decide) ?_
    refine va_sld hx hb hX hbl hbA hS (vin (by decide +kernel)) dL_law_1027 ?_
    refine eqi (x1 := xs 2) (congrArg xs (by decide +kernel)) ?_
    refine lv_aload_n hx hb dL_law_1028 rfl (lv_at hl 3 rfl) ?_
    refine lv_iload_n hx hb dL_law_1029 rfl (lv_at hl 0 rfl) ?_
    refine lv_iconst (v := 3) hx hb dL_law_1030 (by decide) ?_
    refine lv_iadd hx hb dL_law_1031 ?_
    refine eqi (x1 := 3) (by decide) ?_
    refine va_sld hx hb hX hbl hbA hS (vin (by decide +kernel)) dL_law_1032 ?_
    refine eqi (x1 := xs 3) (congrArg xs (by decide +kernel)) ?_
    refine lv_aload_n hx hb dL_law_1033 rfl (lv_at hl 3 rfl) ?_
    refine lv_iload_n hx hb dL_law_1034 rfl (lv_at hl 0 rfl) ?_
    refine lv_iconst (v := 4) hx hb dL_law_1035 (by decide) ?_
    refine lv_iadd hx hb dL_law_1036 ?_
    refine eqi (x1 := 4) (by decide) ?_
    refine va_sld hx hb hX hbl hbA hS (vin (by decide +kernel)) dL_law_1037 ?_
    refine eqi (x1 := xs 4) (congrArg xs (by decide +kernel)) ?_
    refine lv_aload_n hx hb dL_law_1038 rfl (lv_at hl 3 rfl) ?_
    refine lv_iload_n hx hb dL_law_1039 rfl (lv_at hl 0 rfl) ?_
    refine lv_iconst (v := 5) hx hb dL_law_1040 (by decide) ?_
    refine lv_iadd hx hb dL_law_1041 ?_
    refine eqi (x1 := 5) (by decide) ?_
    refine va_sld hx hb hX hbl hbA hS (vin (by decide +kernel)) dL_law_1042 ?_
    refine eqi (x1 := xs 5) (congrArg xs (by decide +kernel)) ?_
    refine lv_if_eq (tgt := 1050) hx hb dL_law_1043 (by decide) (fun c9 => absurd c9 (c_1000_1810)) (fun _ => ?_)
    refine lv_iconst (v := 1) hx hb dL_law_1046 (by decide) ?_
    refine lv_goto (tgt := 1051) hx hb dL_law_1047 (by decide) ?_
    refine lv_aload_n hx hb dL_law_1051 rfl (lv_at hl 3 rfl) ?_
    refine lv_iload_n hx hb dL_law_1052 rfl (lv_at hl 0 rfl) ?_
    refine lv_bipush (v := 6) hx hb dL_law_1053 (by decide) ?_
    refine lv_iadd hx hb dL_law_1055 ?_
    refine eqi (x1 := 6) (by decide) ?_
    refine va_sld hx hb hX hbl hbA hS (vin (by decide +kernel)) dL_law_1056 ?_
    refine eqi (x1 := xs 6) (congrArg xs (by decide +kernel)) ?_
    refine pV hC hK hl hP hD (m_saying l G mm (xs 1) (xs 2) (xs 3) (xs 4) 1 (xs 6) (am 0) (am 1) (am 2) (am 3) (am 4) (am 5) (am 6) (am 7) (am 8) (am 9) (am 10) (am 11) (am 12) (am 13) (am 14) (am 15) (am 16) (am 17) (am 18)) si_L_107 [3, 4] rfl rfl (by decide) rfl rfl rfl rfl rfl (Nat.le_of_ble_eq_true rfl) ⟨Nat.le_of_ble_eq_true rfl, Nat.le_of_ble_eq_true rfl⟩ ⟨by first | exact Nat.le_of_ble_eq_true rfl | exact Nat.zero_le _, by first | exact Nat.le_of_ble_eq_true rfl | exact Nat.zero_le _⟩ dL_law_1057 (fun r1817 hr1817 => ?_)
    obtain rfl := hr1817
    refine lv_icmp_eq (tgt := 1718) hx hb dL_law_1060 (by decide) (fun _ => ?_) (fun c9 => absurd (by decide) c9)
    exact law_end hC hK hX hbl hbA hA hA2 hS (lv_sub hl [0, 1, 2, 3] rfl)
set_option maxHeartbeats 4000000 in
set_option maxRecDepth 100000 in
theorem law_21 {p : Program} {l : Launch} {e : Env} {s : State} {m : MethodId} {below : List Frame} {meth : Method} {c : Code} {b : Nat} {xs : Nat → Int32} {G : GG} {A : Nat → Prop} {H : Heap} {locs : List Loc} {ls : Array Slot} {x mm : Nat} {ad am : Nat → Nat} {hf : Nat → Option Nat} (hC : CX p s m meth c ⟨RL, meth.name, ""⟩ cL_law 4 ret #[Value.ref b]) (hK : KK G s) (hX : va_X b 7 xs s s.heap) (hbl : b < s.heap.size) (hbA : ¬ A b) (hA : ∀ q : Nat, s.heap.size ≤ q → A q) (hA2 : ∀ q : Nat, A q → s.heap.size ≤ q) (hhf : hf 0 = some (ad 59)) (hP : va_P G.1 vwCl (WLAW G x mm ad am hf) H) (hD : va_D A (WLAW G x mm ad am hf)) (hS : va_S A s.heap H locs) (hl : lv_has ls 4 [(3, .int 0), (2, .ref mm), (1, .ref x), (0, .ref b)]) : W p l e room_1 s m #[Value.ref b] below meth c H locs 123 9503 (lw_Z below #[Value.ref b] s) (F0 m 1065 ls []) := by
  obtain ⟨hx, hb, hr, hml, hB, hown, hlocks, hnm⟩ := id hC
  have hP := hP.sub (ws' := [(x, .inr (11, [.ref (ad 0), .ref (ad 1), .int 0, .ref (ad 2), .ref (ad 3), .ref (ad 4), .ref (ad 5), .ref (ad 6), .ref (ad 7), .ref (ad 8), .ref (ad 9)])), ((ad 0), .inr (0, [.ref (ad 10), .ref (ad 11), .ref (ad 12), .ref (ad 13), .ref (ad 14), .ref (ad 15), .ref (ad 16), .ref (ad 17), .ref (ad 18), .ref (ad 19), .int 0, .int (-1), .int 3, .int 24])), ((ad 10), .inr (8, [.int 10, .int 2, .ref (ad 20), .int 0])), (mm, .inr (12, [.ref (am 0), .ref (am 1), .int 0, .ref (am 2), .int 0, .ref (am 3), .int 0, .int (-1), .int 0, .int 0, .ref (am 4), .int 0, .int 0, .ref (am 5), .int 0, .int 0, .int 0, .int 0, .int 0, .int 0, .int 0, .ref (am 6), .ref (am 7), .ref (am 8), .ref (am 9), .ref (am 10), .ref (am 11), .int 0, .ref (am 12), .ref (am 13), .ref (am 14), .ref (am 15), .ref (am 16), .ref (am 17), .ref (am 18), .int 0, .int 0, .int 0, .int 0, .int 0, .int 0])), ((am 0), .inl (G.2.1, 1662, .inl NOW0))]) [0, 1, 2, 74, 75] rfl
  have hD := hD.sub (ws' := [(x, .inr (11, [.ref (ad 0), .ref (ad 1), .int 0, .ref (ad 2), .ref (ad 3), .ref (ad 4), .ref (ad 5), .ref (ad 6), .ref (ad 7), .ref (ad 8), .ref (ad 9)])), ((ad 0), .inr (0, [.ref (ad 10), .ref (ad 11), .ref (ad 12), .ref (ad 13), .ref (ad 14), .ref (ad 15), .ref (ad 16), .ref (ad 17), .ref (ad 18), .ref (ad 19), .int 0, .int (-1), .int 3, .int 24])), ((ad 10), .inr (8, [.int 10, .int 2, .ref (ad 20), .int 0])), (mm, .inr (12, [.ref (am 0), .ref (am 1), .int 0, .ref (am 2), .int 0, .ref (am 3), .int 0, .int (-1), .int 0, .int 0, .ref (am 4), .int 0, .int 0, .ref (am 5), .int 0, .int 0, .int 0, .int 0, .int 0, .int 0, .int 0, .ref (am 6), .ref (am 7), .ref (am 8), .ref (am 9), .ref (am 10), .ref (am 11), .int 0, .ref (am 12), .ref (am 13), .ref (am 14), .ref (am 15), .ref (am 16), .ref (am 17), .ref (am 18), .int 0, .int 0, .int 0, .int 0, .int 0, .int 0])), ((am 0), .inl (G.2.1, 1662, .inl NOW0))]) [0, 1, 2, 74, 75] (by decide) rfl
  refine lv_aload_n hx hb dL_law_1065 rfl (lv_at hl 2 rfl) ?_
  refine lv_aload_n hx hb dL_law_1066 rfl (lv_at hl 3 rfl) ?_
  refine lv_iload_n hx hb dL_law_1067 rfl (lv_at hl 0 rfl) ?_
  refine lv_iconst (v := 1) hx hb dL_law_1068 (by decide) ?_
  refine lv_iadd hx hb dL_law_1069 ?_
  refine eqi (x1 := 1) (by decide) ?_
  refine va_sld hx hb hX hbl hbA hS (vin (by decide +kernel)) dL_law_1070 ?_
  refine eqi (x1 := xs 1) (congrArg xs (by decide +kernel)) ?_
  refine lv_aload_n hx hb dL_law_1071 rfl (lv_at hl 3 rfl) ?_
  refine lv_iload_n hx hb dL_law_1072 rfl (lv_at hl 0 rfl) ?_
  refine lv_iconst (v := 2) hx hb dL_law_1073 (by decide) ?_
  refine lv_iadd hx hb dL_law_1074 ?_
  refine eqi (x1 := 2) (by decide) ?_
  refine va_sld hx hb hX hbl hbA hS (vin (by decide +kernel)) dL_law_1075 ?_
  refine eqi (x1 := xs 2) (congrArg xs (by decide +kernel)) ?_
  refine lv_aload_n hx hb dL_law_1076 rfl (lv_at hl 3 rfl) ?_
  refine lv_iload_n hx hb dL_law_1077 rfl (lv_at hl 0 rfl) ?_
  refine lv_iconst (v := 3) hx hb dL_law_1078 (by decide) ?_
  refine lv_iadd hx hb dL_law_1079 ?_
  refine eqi (x1 := 3) (by decide) ?_
  refine va_sld hx hb hX hbl hbA hS (vin (by decide +kernel)) dL_law_1080 ?_
  refine eqi (x1 := xs 3) (congrArg xs (by decide +kernel)) ?_
  refine pV hC hK hl hP hD (c_quarrel l G x (xs 1) (xs 2) (xs 3) (ad 0) (ad 1) (ad 2) (ad 3) (ad 4) (ad 5) (ad 6) (ad 7) (ad 8) (ad 9) (ad 10) (ad 11) (ad 12) (ad 13) (ad 14) (ad 15) (ad 16) (ad 17) (ad 18) (ad 19) (ad 20)) si_L_108 [0, 1, 2] rfl rfl (by decide) rfl rfl rfl rfl rfl (Nat.le_of_ble_eq_true rfl) ⟨Nat.le_of_ble_eq_true rfl, Nat.le_of_ble_eq_true rfl⟩ ⟨by first | exact Nat.le_of_ble_eq_true rfl | exact Nat.zero_le _, by first | exact Nat.le_of_ble_eq_true rfl | exact Nat.zero_le _⟩ dL_law_1081 (fun r1819 hr1819 => ?_)
  obtain rfl := hr1819
  refine lv_aload_n hx hb dL_law_1084 rfl (lv_at hl 1 rfl) ?_
  refine lv_aload_n hx hb dL_law_1085 rfl (lv_at hl 3 rfl) ?_
  refine lv_iload_n hx hb dL_law_1086 rfl (lv_at hl 0 rfl) ?_
  refine lv_iconst (v := 1) hx hb dL_law_1087 (by decide) ?_
  refine lv_iadd hx hb dL_law_1088 ?_
  refine eqi (x1 := 1) (by decide) ?_
  refine va_sld hx hb hX hbl hbA hS (vin (by decide +kernel)) dL_law_1089 ?_
  refine eqi (x1 := xs 1) (congrArg xs (by decide +kernel)) ?_
  refine lv_aload_n hx hb dL_law_1090 rfl (lv_at hl 3 rfl) ?_
  refine lv_iload_n hx hb dL_law_1091 rfl (lv_at hl 0 rfl) ?_
  refine lv_iconst (v := 2) hx hb dL_law_1092 (by decide) ?_
  refine lv_iadd hx hb dL_law_1093 ?_
  refine eqi (x1 := 2) (by decide) ?_
  refine va_sld hx hb hX hbl hbA hS (vin (by decide +kernel)) dL_law_1094 ?_
  refine eqi (x1 := xs 2) (congrArg xs (by decide +kernel)) ?_
  refine lv_aload_n hx hb dL_law_1095 rfl (lv_at hl 3 rfl) ?_
  refine lv_iload_n hx hb dL_law_1096 rfl (lv_at hl 0 rfl) ?_
  refine lv_iconst (v := 3) hx hb dL_law_1097 (by decide) ?_
  refine lv_iadd hx hb dL_law_1098 ?_
  refine eqi (x1 := 3) (by decide) ?_
  refine va_sld hx hb hX hbl hbA hS (vin (by decide +kernel)) dL_law_1099 ?_
  refine eqi (x1 := xs 3) (congrArg xs (by decide +kernel)) ?_
  refine pV hC hK hl hP hD (m_quarrel l G mm (xs 1) (xs 2) (xs 3) (am 0) (am 1) (am 2) (am 3) (am 4) (am 5) (am 6) (am 7) (am 8) (am 9) (am 10) (am 11) (am 12) (am 13) (am 14) (am 15) (am 16) (am 17) (am 18)) si_L_111 [3, 4] rfl rfl (by decide) rfl rfl rfl rfl rfl (Nat.le_of_ble_eq_true rfl) ⟨Nat.le_of_ble_eq_true rfl, Nat.le_of_ble_eq_true rfl⟩ ⟨by first | exact Nat.le_of_ble_eq_true rfl | exact Nat.zero_le _, by first | exact Nat.le_of_ble_eq_true rfl | exact Nat.zero_le _⟩ dL_law_1100 (fun r1821 hr1821 => ?_)
  obtain rfl := hr1821
  refine lv_icmp_eq (tgt := 1718) hx hb dL_law_1103 (by decide) (fun _ => ?_) (fun c9 => absurd (by decide) c9)
  exact law_end hC hK hX hbl hbA hA hA2 hS (lv_sub hl [0, 1, 2, 3] rfl)
set_option maxHeartbeats 4000000 in
set_option maxRecDepth 100000 in
theorem law_22 {p : Program} {l : Launch} {e : Env} {s : State} {m : MethodId} {below : List Frame} {meth : Method} {c : Code} {b : Nat} {xs : Nat → Int32} {G : GG} {A : Nat → Prop} {H : Heap} {locs : List Loc} {ls : Array Slot} {x mm : Nat} {ad am : Nat → Nat} {hf : Nat → Option Nat} (hC : CX p s m meth c ⟨RL, meth.name, ""⟩ cL_law 4 ret #[Value.ref b]) (hK : KK G s) (hX : va_X b 7 xs s s.heap) (hbl : b < s.heap.size) (hbA : ¬ A b) (hA : ∀ q : Nat, s.heap.size ≤ q → A q) (hA2 : ∀ q : Nat, A q → s.heap.size ≤ q) (hhf : hf 0 = some (ad 59)) (hP : va_P G.1 vwCl (WLAW G x mm ad am hf) H) (hD : va_D A (WLAW G x mm ad am hf)) (hS : va_S A s.heap H locs) (hl : lv_has ls 4 [(3, .int 0), (2, .ref mm), (1, .ref x), (0, .ref b)]) : W p l e room_1 s m #[Value.ref b] below meth c H locs 123 9503 (lw_Z below #[Value.ref b] s) (F0 m 1108 ls []) := by
  obtain ⟨hx, hb, hr, hml, hB, hown, hlocks, hnm⟩ := id hC
  have hP := hP.sub (ws' := [(x, .inr (11, [.ref (ad 0), .ref (ad 1), .int 0, .ref (ad 2), .ref (ad 3), .ref (ad 4), .ref (ad 5), .ref (ad 6), .ref (ad 7), .ref (ad 8), .ref (ad 9)])), ((ad 0), .inr (0, [.ref (ad 10), .ref (ad 11), .ref (ad 12), .ref (ad 13), .ref (ad 14), .ref (ad 15), .ref (ad 16), .ref (ad 17), .ref (ad 18), .ref (ad 19), .int 0, .int (-1), .int 3, .int 24])), ((ad 11), .inr (8, [.int 12, .int 6, .ref (ad 21), .int 0])), ((ad 12), .inr (8, [.int 24, .int 3, .ref (ad 22), .int 0])), ((ad 16), .inr (8, [.int 16, .int 8, .ref (ad 26), .int 0])), ((ad 2), .inr (7, [.ref (ad 0), .ref (ad 50), .ref (ad 51), .ref (ad 52), .ref (ad 53), .ref (ad 54), .ref (ad 55), .ref (ad 56), .int 0])), ((ad 50), .inr (1, [.ref (ad 57)])), ((ad 57), .inl (G.2.1, 36, .inl (fun _ => 0))), ((ad 51), .inl (G.2.1, 12, .inl (fun _ => 0))), ((ad 52), .inl (G.2.1, 12, .inl (fun _ => 0))), ((ad 5), .inr (9, [.ref (ad 0), .ref (ad 2), .int 0, .int 0, .int 0, .int 0])), (mm, .inr (12, [.ref (am 0), .ref (am 1), .int 0, .ref (am 2), .int 0, .ref (am 3), .int 0, .int (-1), .int 0, .int 0, .ref (am 4), .int 0, .int 0, .ref (am 5), .int 0, .int 0, .int 0, .int 0, .int 0, .int 0, .int 0, .ref (am 6), .ref (am 7), .ref (am 8), .ref (am 9), .ref (am 10), .ref (am 11), .int 0, .ref (am 12), .ref (am 13), .ref (am 14), .ref (am 15), .ref (am 16), .ref (am 17), .ref (am 18), .int 0, .int 0, .int 0, .int 0, .int 0, .int 0])), ((am 0), .inl (G.2.1, 1662, .inl NOW0)), ((am 4), .inl (G.2.1, 36, .inl (fun _ => 0)))]) [0, 1, 4, 6, 14, 43, 44, 45, 46, 47, 56, 74, 75, 78] rfl
  have hD := hD.sub (ws' := [(x, .inr (11, [.ref (ad 0), .ref (ad 1), .int 0, .ref (ad 2), .ref (ad 3), .ref (ad 4), .ref (ad 5), .ref (ad 6), .ref (ad 7), .ref (ad 8), .ref (ad 9)])), ((ad 0), .inr (0, [.ref (ad 10), .ref (ad 11), .ref (ad 12), .ref (ad 13), .ref (ad 14), .ref (ad 15), .ref (ad 16), .ref (ad 17), .ref (ad 18), .ref (ad 19), .int 0, .int (-1), .int 3, .int 24])), ((ad 11), .inr (8, [.int 12, .int 6, .ref (ad 21), .int 0])), ((ad 12), .inr (8, [.int 24, .int 3, .ref (ad 22), .int 0])), ((ad 16), .inr (8, [.int 16, .int 8, .ref (ad 26), .int 0])), ((ad 2), .inr (7, [.ref (ad 0), .ref (ad 50), .ref (ad 51), .ref (ad 52), .ref (ad 53), .ref (ad 54), .ref (ad 55), .ref (ad 56), .int 0])), ((ad 50), .inr (1, [.ref (ad 57)])), ((ad 57), .inl (G.2.1, 36, .inl (fun _ => 0))), ((ad 51), .inl (G.2.1, 12, .inl (fun _ => 0))), ((ad 52), .inl (G.2.1, 12, .inl (fun _ => 0))), ((ad 5), .inr (9, [.ref (ad 0), .ref (ad 2), .int 0, .int 0, .int 0, .int 0])), (mm, .inr (12, [.ref (am 0), .ref (am 1), .int 0, .ref (am 2), .int 0, .ref (am 3), .int 0, .int (-1), .int 0, .int 0, .ref (am 4), .int 0, .int 0, .ref (am 5), .int 0, .int 0, .int 0, .int 0, .int 0, .int 0, .int 0, .ref (am 6), .ref (am 7), .ref (am 8), .ref (am 9), .ref (am 10), .ref (am 11), .int 0, .ref (am 12), .ref (am 13), .ref (am 14), .ref (am 15), .ref (am 16), .ref (am 17), .ref (am 18), .int 0, .int 0, .int 0, .int 0, .int 0, .int 0])), ((am 0), .inl (G.2.1, 1662, .inl NOW0)), ((am 4), .inl (G.2.1, 36, .inl (fun _ => 0)))]) [0, 1, 4, 6, 14, 43, 44, 45, 46, 47, 56, 74, 75, 78] (by decide) rfl
  refine lv_aload_n hx hb dL_law_1108 rfl (lv_at hl 2 rfl) ?_
  refine iV (wr := [(mm, .inr (12, [.ref (am 0), .ref (am 1), .int 0, .ref (am 2), .int 0, .ref (am 3), .int 0, .int (-1), .int 0, .int 0, .ref (am 4), .int 0, .int 0, .ref (am 5), .int 0, .int 0, .int 0, .int 0, .int 0, .int 0, .int 0, .ref (am 6), .ref (am 7), .ref (am 8), .ref (am 9), .ref (am 10), .ref (am 11), .int 0, .ref (am 12), .ref (am 13), .ref (am 14), .ref (am 15), .ref (am 16), .ref (am 17), .ref (am 18), .int 0, .int 0, .int 0, .int 0, .int 0, .int 0])), ((am 0), .inl (G.2.1, 1662, .inl NOW0)), ((am 4), .inl (G.2.1, 36, .inl (fun _ => 0)))]) hC hK hl hP hD hS hA (c_impossible l G x (ad 0) (ad 1) (ad 2) (ad 3) (ad 4) (ad 5) (ad 6) (ad 7) (ad 8) (ad 9) (ad 10) (ad 11) (ad 12) (ad 13) (ad 14) (ad 15) (ad 16) (ad 17) (ad 18) (ad 19) (ad 21) (ad 22) (ad 50) (ad 51) (ad 52) (ad 53) (ad 54) (ad 55) (ad 56) (ad 57) (ad 26)) si_L_112 [0, 1, 2, 3, 5, 6, 7, 8, 9, 10, 4] [11, 12, 13] rfl rfl (by decide) rfl (by decide) (by decide) rfl rfl rfl rfl rfl (Nat.le_of_ble_eq_true rfl) ⟨Nat.le_of_ble_eq_true rfl, Nat.le_of_ble_eq_true rfl⟩ ⟨by first | exact Nat.le_of_ble_eq_true rfl | omega, by first | exact Nat.le_of_ble_eq_true rfl | omega⟩ dL_law_1109 (fun r1823 u1824 H locs hr1823 hP hD hS => ?_)
  have hP : va_P G.1 vwCl [(mm, .inr (12, [.ref (am 0), .ref (am 1), .int 0, .ref (am 2), .int 0, .ref (am 3), .int 0, .int (-1), .int 0, .int 0, .ref (am 4), .int 0, .int 0, .ref (am 5), .int 0, .int 0, .int 0, .int 0, .int 0, .int 0, .int 0, .ref (am 6), .ref (am 7), .ref (am 8), .ref (am 9), .ref (am 10), .ref (am 11), .int 0, .ref (am 12), .ref (am 13), .ref (am 14), .ref (am 15), .ref (am 16), .ref (am 17), .ref (am 18), .int 0, .int 0, .int 0, .int 0, .int 0, .int 0])), ((am 0), .inl (G.2.1, 1662, .inl NOW0)), ((am 4), .inl (G.2.1, 36, .inl (fun _ => 0)))] H := hP
  have hD : va_D A [(mm, .inr (12, [.ref (am 0), .ref (am 1), .int 0, .ref (am 2), .int 0, .ref (am 3), .int 0, .int (-1), .int 0, .int 0, .ref (am 4), .int 0, .int 0, .ref (am 5), .int 0, .int 0, .int 0, .int 0, .int 0, .int 0, .int 0, .ref (am 6), .ref (am 7), .ref (am 8), .ref (am 9), .ref (am 10), .ref (am 11), .int 0, .ref (am 12), .ref (am 13), .ref (am 14), .ref (am 15), .ref (am 16), .ref (am 17), .ref (am 18), .int 0, .int 0, .int 0, .int 0, .int 0, .int 0])), ((am 0), .inl (G.2.1, 1662, .inl NOW0)), ((am 4), .inl (G.2.1, 36, .inl (fun _ => 0)))] := hD
  obtain rfl := hr1823
  refine lv_aload_n hx hb dL_law_1112 rfl (lv_at hl 1 rfl) ?_
  refine iV (wr := []) hC hK hl hP hD hS hA (m_impossible l G mm (am 0) (am 1) (am 2) (am 3) (am 4) (am 5) (am 6) (am 7) (am 8) (am 9) (am 10) (am 11) (am 12) (am 13) (am 14) (am 15) (am 16) (am 17) (am 18)) si_L_115 [0, 1, 2] [] rfl rfl (by decide) rfl (by decide) (by decide) rfl rfl rfl rfl rfl (Nat.le_of_ble_eq_true rfl) ⟨Nat.le_of_ble_eq_true rfl, Nat.le_of_ble_eq_true rfl⟩ ⟨by first | exact Nat.le_of_ble_eq_true rfl | omega, by first | exact Nat.le_of_ble_eq_true rfl | omega⟩ dL_law_1113 (fun r1826 u1827 H locs hr1826 hP hD hS => ?_)
  have hP : va_P G.1 vwCl [] H := hP
  have hD : va_D A [] := hD
  obtain rfl := hr1826
  refine lv_icmp_eq (tgt := 1718) hx hb dL_law_1116 (by decide) (fun _ => ?_) (fun c9 => absurd (by decide) c9)
  exact law_end hC hK hX hbl hbA hA hA2 hS (lv_sub hl [0, 1, 2, 3] rfl)
set_option maxHeartbeats 4000000 in
set_option maxRecDepth 100000 in
theorem law_23 {p : Program} {l : Launch} {e : Env} {s : State} {m : MethodId} {below : List Frame} {meth : Method} {c : Code} {b : Nat} {xs : Nat → Int32} {G : GG} {A : Nat → Prop} {H : Heap} {locs : List Loc} {ls : Array Slot} {x mm : Nat} {ad am : Nat → Nat} {hf : Nat → Option Nat} (hC : CX p s m meth c ⟨RL, meth.name, ""⟩ cL_law 4 ret #[Value.ref b]) (hK : KK G s) (hX : va_X b 7 xs s s.heap) (hbl : b < s.heap.size) (hbA : ¬ A b) (hA : ∀ q : Nat, s.heap.size ≤ q → A q) (hA2 : ∀ q : Nat, A q → s.heap.size ≤ q) (hhf : hf 0 = some (ad 59)) (hP : va_P G.1 vwCl (WLAW G x mm ad am hf) H) (hD : va_D A (WLAW G x mm ad am hf)) (hS : va_S A s.heap H locs) (hl : lv_has ls 4 [(3, .int 0), (2, .ref mm), (1, .ref x), (0, .ref b)]) : W p l e room_1 s m #[Value.ref b] below meth c H locs 123 9503 (lw_Z below #[Value.ref b] s) (F0 m 1121 ls []) := by
  obtain ⟨hx, hb, hr, hml, hB, hown, hlocks, hnm⟩ := id hC
  have hP := hP.sub (ws' := [(x, .inr (11, [.ref (ad 0), .ref (ad 1), .int 0, .ref (ad 2), .ref (ad 3), .ref (ad 4), .ref (ad 5), .ref (ad 6), .ref (ad 7), .ref (ad 8), .ref (ad 9)])), ((ad 0), .inr (0, [.ref (ad 10), .ref (ad 11), .ref (ad 12), .ref (ad 13), .ref (ad 14), .ref (ad 15), .ref (ad 16), .ref (ad 17), .ref (ad 18), .ref (ad 19), .int 0, .int (-1), .int 3, .int 24])), ((ad 10), .inr (8, [.int 10, .int 2, .ref (ad 20), .int 0])), (mm, .inr (12, [.ref (am 0), .ref (am 1), .int 0, .ref (am 2), .int 0, .ref (am 3), .int 0, .int (-1), .int 0, .int 0, .ref (am 4), .int 0, .int 0, .ref (am 5), .int 0, .int 0, .int 0, .int 0, .int 0, .int 0, .int 0, .ref (am 6), .ref (am 7), .ref (am 8), .ref (am 9), .ref (am 10), .ref (am 11), .int 0, .ref (am 12), .ref (am 13), .ref (am 14), .ref (am 15), .ref (am 16), .ref (am 17), .ref (am 18), .int 0, .int 0, .int 0, .int 0, .int 0, .int 0])), ((am 0), .inl (G.2.1, 1662, .inl NOW0))]) [0, 1, 2, 74, 75] rfl
  have hD := hD.sub (ws' := [(x, .inr (11, [.ref (ad 0), .ref (ad 1), .int 0, .ref (ad 2), .ref (ad 3), .ref (ad 4), .ref (ad 5), .ref (ad 6), .ref (ad 7), .ref (ad 8), .ref (ad 9)])), ((ad 0), .inr (0, [.ref (ad 10), .ref (ad 11), .ref (ad 12), .ref (ad 13), .ref (ad 14), .ref (ad 15), .ref (ad 16), .ref (ad 17), .ref (ad 18), .ref (ad 19), .int 0, .int (-1), .int 3, .int 24])), ((ad 10), .inr (8, [.int 10, .int 2, .ref (ad 20), .int 0])), (mm, .inr (12, [.ref (am 0), .ref (am 1), .int 0, .ref (am 2), .int 0, .ref (am 3), .int 0, .int (-1), .int 0, .int 0, .ref (am 4), .int 0, .int 0, .ref (am 5), .int 0, .int 0, .int 0, .int 0, .int 0, .int 0, .int 0, .ref (am 6), .ref (am 7), .ref (am 8), .ref (am 9), .ref (am 10), .ref (am 11), .int 0, .ref (am 12), .ref (am 13), .ref (am 14), .ref (am 15), .ref (am 16), .ref (am 17), .ref (am 18), .int 0, .int 0, .int 0, .int 0, .int 0, .int 0])), ((am 0), .inl (G.2.1, 1662, .inl NOW0))]) [0, 1, 2, 74, 75] (by decide) rfl
  refine lv_aload_n hx hb dL_law_1121 rfl (lv_at hl 2 rfl) ?_
  refine lv_aload_n hx hb dL_law_1122 rfl (lv_at hl 3 rfl) ?_
  refine lv_iload_n hx hb dL_law_1123 rfl (lv_at hl 0 rfl) ?_
  refine lv_iconst (v := 1) hx hb dL_law_1124 (by decide) ?_
  refine lv_iadd hx hb dL_law_1125 ?_
  refine eqi (x1 := 1) (by decide) ?_
  refine va_sld hx hb hX hbl hbA hS (vin (by decide +kernel)) dL_law_1126 ?_
  refine eqi (x1 := xs 1) (congrArg xs (by decide +kernel)) ?_
  refine lv_aload_n hx hb dL_law_1127 rfl (lv_at hl 3 rfl) ?_
  refine lv_iload_n hx hb dL_law_1128 rfl (lv_at hl 0 rfl) ?_
  refine lv_iconst (v := 2) hx hb dL_law_1129 (by decide) ?_
  refine lv_iadd hx hb dL_law_1130 ?_
  refine eqi (x1 := 2) (by decide) ?_
  refine va_sld hx hb hX hbl hbA hS (vin (by decide +kernel)) dL_law_1131 ?_
  refine eqi (x1 := xs 2) (congrArg xs (by decide +kernel)) ?_
  refine lv_aload_n hx hb dL_law_1132 rfl (lv_at hl 3 rfl) ?_
  refine lv_iload_n hx hb dL_law_1133 rfl (lv_at hl 0 rfl) ?_
  refine lv_iconst (v := 3) hx hb dL_law_1134 (by decide) ?_
  refine lv_iadd hx hb dL_law_1135 ?_
  refine eqi (x1 := 3) (by decide) ?_
  refine va_sld hx hb hX hbl hbA hS (vin (by decide +kernel)) dL_law_1136 ?_
  refine eqi (x1 := xs 3) (congrArg xs (by decide +kernel)) ?_
  refine lv_aload_n hx hb dL_law_1137 rfl (lv_at hl 3 rfl) ?_
  refine lv_iload_n hx hb dL_law_1138 rfl (lv_at hl 0 rfl) ?_
  refine lv_iconst (v := 4) hx hb dL_law_1139 (by decide) ?_
  refine lv_iadd hx hb dL_law_1140 ?_
  refine eqi (x1 := 4) (by decide) ?_
  refine va_sld hx hb hX hbl hbA hS (vin (by decide +kernel)) dL_law_1141 ?_
  refine eqi (x1 := xs 4) (congrArg xs (by decide +kernel)) ?_
  refine pV hC hK hl hP hD (c_finding l G x (xs 1) (xs 2) (xs 3) (xs 4) (ad 0) (ad 1) (ad 2) (ad 3) (ad 4) (ad 5) (ad 6) (ad 7) (ad 8) (ad 9) (ad 10) (ad 11) (ad 12) (ad 13) (ad 14) (ad 15) (ad 16) (ad 17) (ad 18) (ad 19) (ad 20)) si_L_116 [0, 1, 2] rfl rfl (by decide) rfl rfl rfl rfl rfl (Nat.le_of_ble_eq_true rfl) ⟨Nat.le_of_ble_eq_true rfl, Nat.le_of_ble_eq_true rfl⟩ ⟨by first | exact Nat.le_of_ble_eq_true rfl | exact Nat.zero_le _, by first | exact Nat.le_of_ble_eq_true rfl | exact Nat.zero_le _⟩ dL_law_1142 (fun r1829 hr1829 => ?_)
  obtain rfl := hr1829
  refine lv_aload_n hx hb dL_law_1145 rfl (lv_at hl 1 rfl) ?_
  refine lv_aload_n hx hb dL_law_1146 rfl (lv_at hl 3 rfl) ?_
  refine lv_iload_n hx hb dL_law_1147 rfl (lv_at hl 0 rfl) ?_
  refine lv_iconst (v := 1) hx hb dL_law_1148 (by decide) ?_
  refine lv_iadd hx hb dL_law_1149 ?_
  refine eqi (x1 := 1) (by decide) ?_
  refine va_sld hx hb hX hbl hbA hS (vin (by decide +kernel)) dL_law_1150 ?_
  refine eqi (x1 := xs 1) (congrArg xs (by decide +kernel)) ?_
  refine lv_aload_n hx hb dL_law_1151 rfl (lv_at hl 3 rfl) ?_
  refine lv_iload_n hx hb dL_law_1152 rfl (lv_at hl 0 rfl) ?_
  refine lv_iconst (v := 2) hx hb dL_law_1153 (by decide) ?_
  refine lv_iadd hx hb dL_law_1154 ?_
  refine eqi (x1 := 2) (by decide) ?_
  refine va_sld hx hb hX hbl hbA hS (vin (by decide +kernel)) dL_law_1155 ?_
  refine eqi (x1 := xs 2) (congrArg xs (by decide +kernel)) ?_
  refine lv_aload_n hx hb dL_law_1156 rfl (lv_at hl 3 rfl) ?_
  refine lv_iload_n hx hb dL_law_1157 rfl (lv_at hl 0 rfl) ?_
  refine lv_iconst (v := 3) hx hb dL_law_1158 (by decide) ?_
  refine lv_iadd hx hb dL_law_1159 ?_
  refine eqi (x1 := 3) (by decide) ?_
  refine va_sld hx hb hX hbl hbA hS (vin (by decide +kernel)) dL_law_1160 ?_
  refine eqi (x1 := xs 3) (congrArg xs (by decide +kernel)) ?_
  refine lv_aload_n hx hb dL_law_1161 rfl (lv_at hl 3 rfl) ?_
  refine lv_iload_n hx hb dL_law_1162 rfl (lv_at hl 0 rfl) ?_
  refine lv_iconst (v := 4) hx hb dL_law_1163 (by decide) ?_
  refine lv_iadd hx hb dL_law_1164 ?_
  refine eqi (x1 := 4) (by decide) ?_
  refine va_sld hx hb hX hbl hbA hS (vin (by decide +kernel)) dL_law_1165 ?_
  refine eqi (x1 := xs 4) (congrArg xs (by decide +kernel)) ?_
  refine pV hC hK hl hP hD (m_finding l G mm (xs 1) (xs 2) (xs 3) (xs 4) (am 0) (am 1) (am 2) (am 3) (am 4) (am 5) (am 6) (am 7) (am 8) (am 9) (am 10) (am 11) (am 12) (am 13) (am 14) (am 15) (am 16) (am 17) (am 18)) si_L_119 [3, 4] rfl rfl (by decide) rfl rfl rfl rfl rfl (Nat.le_of_ble_eq_true rfl) ⟨Nat.le_of_ble_eq_true rfl, Nat.le_of_ble_eq_true rfl⟩ ⟨by first | exact Nat.le_of_ble_eq_true rfl | exact Nat.zero_le _, by first | exact Nat.le_of_ble_eq_true rfl | exact Nat.zero_le _⟩ dL_law_1166 (fun r1831 hr1831 => ?_)
  obtain rfl := hr1831
  refine lv_icmp_eq (tgt := 1718) hx hb dL_law_1169 (by decide) (fun _ => ?_) (fun c9 => absurd (by decide) c9)
  exact law_end hC hK hX hbl hbA hA hA2 hS (lv_sub hl [0, 1, 2, 3] rfl)
set_option maxHeartbeats 4000000 in
set_option maxRecDepth 100000 in
theorem law_24 {p : Program} {l : Launch} {e : Env} {s : State} {m : MethodId} {below : List Frame} {meth : Method} {c : Code} {b : Nat} {xs : Nat → Int32} {G : GG} {A : Nat → Prop} {H : Heap} {locs : List Loc} {ls : Array Slot} {x mm : Nat} {ad am : Nat → Nat} {hf : Nat → Option Nat} (hC : CX p s m meth c ⟨RL, meth.name, ""⟩ cL_law 4 ret #[Value.ref b]) (hK : KK G s) (hX : va_X b 7 xs s s.heap) (hbl : b < s.heap.size) (hbA : ¬ A b) (hA : ∀ q : Nat, s.heap.size ≤ q → A q) (hA2 : ∀ q : Nat, A q → s.heap.size ≤ q) (hhf : hf 0 = some (ad 59)) (hP : va_P G.1 vwCl (WLAW G x mm ad am hf) H) (hD : va_D A (WLAW G x mm ad am hf)) (hS : va_S A s.heap H locs) (hl : lv_has ls 4 [(3, .int 0), (2, .ref mm), (1, .ref x), (0, .ref b)]) : W p l e room_1 s m #[Value.ref b] below meth c H locs 123 9503 (lw_Z below #[Value.ref b] s) (F0 m 1174 ls []) := by
  obtain ⟨hx, hb, hr, hml, hB, hown, hlocks, hnm⟩ := id hC
  have hP := hP.sub (ws' := [(x, .inr (11, [.ref (ad 0), .ref (ad 1), .int 0, .ref (ad 2), .ref (ad 3), .ref (ad 4), .ref (ad 5), .ref (ad 6), .ref (ad 7), .ref (ad 8), .ref (ad 9)])), ((ad 0), .inr (0, [.ref (ad 10), .ref (ad 11), .ref (ad 12), .ref (ad 13), .ref (ad 14), .ref (ad 15), .ref (ad 16), .ref (ad 17), .ref (ad 18), .ref (ad 19), .int 0, .int (-1), .int 3, .int 24])), ((ad 17), .inr (8, [.int 12, .int 4, .ref (ad 27), .int 0])), (mm, .inr (12, [.ref (am 0), .ref (am 1), .int 0, .ref (am 2), .int 0, .ref (am 3), .int 0, .int (-1), .int 0, .int 0, .ref (am 4), .int 0, .int 0, .ref (am 5), .int 0, .int 0, .int 0, .int 0, .int 0, .int 0, .int 0, .ref (am 6), .ref (am 7), .ref (am 8), .ref (am 9), .ref (am 10), .ref (am 11), .int 0, .ref (am 12), .ref (am 13), .ref (am 14), .ref (am 15), .ref (am 16), .ref (am 17), .ref (am 18), .int 0, .int 0, .int 0, .int 0, .int 0, .int 0])), ((am 0), .inl (G.2.1, 1662, .inl NOW0))]) [0, 1, 16, 74, 75] rfl
  have hD := hD.sub (ws' := [(x, .inr (11, [.ref (ad 0), .ref (ad 1), .int 0, .ref (ad 2), .ref (ad 3), .ref (ad 4), .ref (ad 5), .ref (ad 6), .ref (ad 7), .ref (ad 8), .ref (ad 9)])), ((ad 0), .inr (0, [.ref (ad 10), .ref (ad 11), .ref (ad 12), .ref (ad 13), .ref (ad 14), .ref (ad 15), .ref (ad 16), .ref (ad 17), .ref (ad 18), .ref (ad 19), .int 0, .int (-1), .int 3, .int 24])), ((ad 17), .inr (8, [.int 12, .int 4, .ref (ad 27), .int 0])), (mm, .inr (12, [.ref (am 0), .ref (am 1), .int 0, .ref (am 2), .int 0, .ref (am 3), .int 0, .int (-1), .int 0, .int 0, .ref (am 4), .int 0, .int 0, .ref (am 5), .int 0, .int 0, .int 0, .int 0, .int 0, .int 0, .int 0, .ref (am 6), .ref (am 7), .ref (am 8), .ref (am 9), .ref (am 10), .ref (am 11), .int 0, .ref (am 12), .ref (am 13), .ref (am 14), .ref (am 15), .ref (am 16), .ref (am 17), .ref (am 18), .int 0, .int 0, .int 0, .int 0, .int 0, .int 0])), ((am 0), .inl (G.2.1, 1662, .inl NOW0))]) [0, 1, 16, 74, 75] (by decide) rfl
  refine lv_aload_n hx hb dL_law_1174 rfl (lv_at hl 2 rfl) ?_
  refine lv_aload_n hx hb dL_law_1175 rfl (lv_at hl 3 rfl) ?_
  refine lv_iload_n hx hb dL_law_1176 rfl (lv_at hl 0 rfl) ?_
  refine lv_iconst (v := 1) hx hb dL_law_1177 (by decide) ?_
  refine lv_iadd hx hb dL_law_1178 ?_
  refine eqi (x1 := 1) (by decide) ?_
  refine va_sld hx hb hX hbl hbA hS (vin (by decide +kernel)) dL_law_1179 ?_
  refine eqi (x1 := xs 1) (congrArg xs (by decide +kernel)) ?_
  refine lv_aload_n hx hb dL_law_1180 rfl (lv_at hl 3 rfl) ?_
  refine lv_iload_n hx hb dL_law_1181 rfl (lv_at hl 0 rfl) ?_
  refine lv_iconst (v := 2) hx hb dL_law_1182 (by decide) ?_
  refine lv_iadd hx hb dL_law_1183 ?_
  refine eqi (x1 := 2) (by decide) ?_
  refine va_sld hx hb hX hbl hbA hS (vin (by decide +kernel)) dL_law_1184 ?_
  refine eqi (x1 := xs 2) (congrArg xs (by decide +kernel)) ?_
  refine pV hC hK hl hP hD (c_findingOf l G x (xs 1) (xs 2) (ad 0) (ad 1) (ad 2) (ad 3) (ad 4) (ad 5) (ad 6) (ad 7) (ad 8) (ad 9) (ad 10) (ad 11) (ad 12) (ad 13) (ad 14) (ad 15) (ad 16) (ad 17) (ad 18) (ad 19) (ad 27)) si_L_120 [0, 1, 2] rfl rfl (by decide) rfl rfl rfl rfl rfl (Nat.le_of_ble_eq_true rfl) ⟨Nat.le_of_ble_eq_true rfl, Nat.le_of_ble_eq_true rfl⟩ ⟨by first | exact Nat.le_of_ble_eq_true rfl | exact Nat.zero_le _, by first | exact Nat.le_of_ble_eq_true rfl | exact Nat.zero_le _⟩ dL_law_1185 (fun r1833 hr1833 => ?_)
  obtain rfl := hr1833
  refine lv_aload_n hx hb dL_law_1188 rfl (lv_at hl 1 rfl) ?_
  refine lv_aload_n hx hb dL_law_1189 rfl (lv_at hl 3 rfl) ?_
  refine lv_iload_n hx hb dL_law_1190 rfl (lv_at hl 0 rfl) ?_
  refine lv_iconst (v := 1) hx hb dL_law_1191 (by decide) ?_
  refine lv_iadd hx hb dL_law_1192 ?_
  refine eqi (x1 := 1) (by decide) ?_
  refine va_sld hx hb hX hbl hbA hS (vin (by decide +kernel)) dL_law_1193 ?_
  refine eqi (x1 := xs 1) (congrArg xs (by decide +kernel)) ?_
  refine lv_aload_n hx hb dL_law_1194 rfl (lv_at hl 3 rfl) ?_
  refine lv_iload_n hx hb dL_law_1195 rfl (lv_at hl 0 rfl) ?_
  refine lv_iconst (v := 2) hx hb dL_law_1196 (by decide) ?_
  refine lv_iadd hx hb dL_law_1197 ?_
  refine eqi (x1 := 2) (by decide) ?_
  refine va_sld hx hb hX hbl hbA hS (vin (by decide +kernel)) dL_law_1198 ?_
  refine eqi (x1 := xs 2) (congrArg xs (by decide +kernel)) ?_
  refine pV hC hK hl hP hD (m_findingOf l G mm (xs 1) (xs 2) (am 0) (am 1) (am 2) (am 3) (am 4) (am 5) (am 6) (am 7) (am 8) (am 9) (am 10) (am 11) (am 12) (am 13) (am 14) (am 15) (am 16) (am 17) (am 18)) si_L_123 [3, 4] rfl rfl (by decide) rfl rfl rfl rfl rfl (Nat.le_of_ble_eq_true rfl) ⟨Nat.le_of_ble_eq_true rfl, Nat.le_of_ble_eq_true rfl⟩ ⟨by first | exact Nat.le_of_ble_eq_true rfl | exact Nat.zero_le _, by first | exact Nat.le_of_ble_eq_true rfl | exact Nat.zero_le _⟩ dL_law_1199 (fun r1835 hr1835 => ?_)
  obtain rfl := hr1835
  refine lv_icmp_eq (tgt := 1718) hx hb dL_law_1202 (by decide) (fun _ => ?_) (fun c9 => absurd (by decide) c9)
  exact law_end hC hK hX hbl hbA hA hA2 hS (lv_sub hl [0, 1, 2, 3] rfl)
set_option maxHeartbeats 4000000 in
set_option maxRecDepth 100000 in
theorem law_25 {p : Program} {l : Launch} {e : Env} {s : State} {m : MethodId} {below : List Frame} {meth : Method} {c : Code} {b : Nat} {xs : Nat → Int32} {G : GG} {A : Nat → Prop} {H : Heap} {locs : List Loc} {ls : Array Slot} {x mm : Nat} {ad am : Nat → Nat} {hf : Nat → Option Nat} (hC : CX p s m meth c ⟨RL, meth.name, ""⟩ cL_law 4 ret #[Value.ref b]) (hK : KK G s) (hX : va_X b 7 xs s s.heap) (hbl : b < s.heap.size) (hbA : ¬ A b) (hA : ∀ q : Nat, s.heap.size ≤ q → A q) (hA2 : ∀ q : Nat, A q → s.heap.size ≤ q) (hhf : hf 0 = some (ad 59)) (hP : va_P G.1 vwCl (WLAW G x mm ad am hf) H) (hD : va_D A (WLAW G x mm ad am hf)) (hS : va_S A s.heap H locs) (hl : lv_has ls 4 [(3, .int 0), (2, .ref mm), (1, .ref x), (0, .ref b)]) : W p l e room_1 s m #[Value.ref b] below meth c H locs 123 9503 (lw_Z below #[Value.ref b] s) (F0 m 1207 ls []) := by
  obtain ⟨hx, hb, hr, hml, hB, hown, hlocks, hnm⟩ := id hC
  have hP := hP.sub (ws' := [(x, .inr (11, [.ref (ad 0), .ref (ad 1), .int 0, .ref (ad 2), .ref (ad 3), .ref (ad 4), .ref (ad 5), .ref (ad 6), .ref (ad 7), .ref (ad 8), .ref (ad 9)])), ((ad 0), .inr (0, [.ref (ad 10), .ref (ad 11), .ref (ad 12), .ref (ad 13), .ref (ad 14), .ref (ad 15), .ref (ad 16), .ref (ad 17), .ref (ad 18), .ref (ad 19), .int 0, .int (-1), .int 3, .int 24])), ((ad 10), .inr (8, [.int 10, .int 2, .ref (ad 20), .int 0])), (mm, .inr (12, [.ref (am 0), .ref (am 1), .int 0, .ref (am 2), .int 0, .ref (am 3), .int 0, .int (-1), .int 0, .int 0, .ref (am 4), .int 0, .int 0, .ref (am 5), .int 0, .int 0, .int 0, .int 0, .int 0, .int 0, .int 0, .ref (am 6), .ref (am 7), .ref (am 8), .ref (am 9), .ref (am 10), .ref (am 11), .int 0, .ref (am 12), .ref (am 13), .ref (am 14), .ref (am 15), .ref (am 16), .ref (am 17), .ref (am 18), .int 0, .int 0, .int 0, .int 0, .int 0, .int 0])), ((am 0), .inl (G.2.1, 1662, .inl NOW0))]) [0, 1, 2, 74, 75] rfl
  have hD := hD.sub (ws' := [(x, .inr (11, [.ref (ad 0), .ref (ad 1), .int 0, .ref (ad 2), .ref (ad 3), .ref (ad 4), .ref (ad 5), .ref (ad 6), .ref (ad 7), .ref (ad 8), .ref (ad 9)])), ((ad 0), .inr (0, [.ref (ad 10), .ref (ad 11), .ref (ad 12), .ref (ad 13), .ref (ad 14), .ref (ad 15), .ref (ad 16), .ref (ad 17), .ref (ad 18), .ref (ad 19), .int 0, .int (-1), .int 3, .int 24])), ((ad 10), .inr (8, [.int 10, .int 2, .ref (ad 20), .int 0])), (mm, .inr (12, [.ref (am 0), .ref (am 1), .int 0, .ref (am 2), .int 0, .ref (am 3), .int 0, .int (-1), .int 0, .int 0, .ref (am 4), .int 0, .int 0, .ref (am 5), .int 0, .int 0, .int 0, .int 0, .int 0, .int 0, .int 0, .ref (am 6), .ref (am 7), .ref (am 8), .ref (am 9), .ref (am 10), .ref (am 11), .int 0, .ref (am 12), .ref (am 13), .ref (am 14), .ref (am 15), .ref (am 16), .ref (am 17), .ref (am 18), .int 0, .int 0, .int 0, .int 0, .int 0, .int 0])), ((am 0), .inl (G.2.1, 1662, .inl NOW0))]) [0, 1, 2, 74, 75] (by decide) rfl
  refine lv_aload_n hx hb dL_law_1207 rfl (lv_at hl 2 rfl) ?_
  refine lv_aload_n hx hb dL_law_1208 rfl (lv_at hl 3 rfl) ?_
  refine lv_iload_n hx hb dL_law_1209 rfl (lv_at hl 0 rfl) ?_
  refine lv_iconst (v := 1) hx hb dL_law_1210 (by decide) ?_
  refine lv_iadd hx hb dL_law_1211 ?_
  refine eqi (x1 := 1) (by decide) ?_
  refine va_sld hx hb hX hbl hbA hS (vin (by decide +kernel)) dL_law_1212 ?_
  refine eqi (x1 := xs 1) (congrArg xs (by decide +kernel)) ?_
  refine lv_aload_n hx hb dL_law_1213 rfl (lv_at hl 3 rfl) ?_
  refine lv_iload_n hx hb dL_law_1214 rfl (lv_at hl 0 rfl) ?_
  refine lv_iconst (v := 2) hx hb dL_law_1215 (by decide) ?_
  refine lv_iadd hx hb dL_law_1216 ?_
  refine eqi (x1 := 2) (by decide) ?_
  refine va_sld hx hb hX hbl hbA hS (vin (by decide +kernel)) dL_law_1217 ?_
  refine eqi (x1 := xs 2) (congrArg xs (by decide +kernel)) ?_
  refine pV hC hK hl hP hD (c_warn l G x (xs 1) (xs 2) (ad 0) (ad 1) (ad 2) (ad 3) (ad 4) (ad 5) (ad 6) (ad 7) (ad 8) (ad 9) (ad 10) (ad 11) (ad 12) (ad 13) (ad 14) (ad 15) (ad 16) (ad 17) (ad 18) (ad 19) (ad 20)) si_L_124 [0, 1, 2] rfl rfl (by decide) rfl rfl rfl rfl rfl (Nat.le_of_ble_eq_true rfl) ⟨Nat.le_of_ble_eq_true rfl, Nat.le_of_ble_eq_true rfl⟩ ⟨by first | exact Nat.le_of_ble_eq_true rfl | exact Nat.zero_le _, by first | exact Nat.le_of_ble_eq_true rfl | exact Nat.zero_le _⟩ dL_law_1218 (fun r1837 hr1837 => ?_)
  obtain rfl := hr1837
  refine lv_aload_n hx hb dL_law_1221 rfl (lv_at hl 1 rfl) ?_
  refine lv_aload_n hx hb dL_law_1222 rfl (lv_at hl 3 rfl) ?_
  refine lv_iload_n hx hb dL_law_1223 rfl (lv_at hl 0 rfl) ?_
  refine lv_iconst (v := 1) hx hb dL_law_1224 (by decide) ?_
  refine lv_iadd hx hb dL_law_1225 ?_
  refine eqi (x1 := 1) (by decide) ?_
  refine va_sld hx hb hX hbl hbA hS (vin (by decide +kernel)) dL_law_1226 ?_
  refine eqi (x1 := xs 1) (congrArg xs (by decide +kernel)) ?_
  refine lv_aload_n hx hb dL_law_1227 rfl (lv_at hl 3 rfl) ?_
  refine lv_iload_n hx hb dL_law_1228 rfl (lv_at hl 0 rfl) ?_
  refine lv_iconst (v := 2) hx hb dL_law_1229 (by decide) ?_
  refine lv_iadd hx hb dL_law_1230 ?_
  refine eqi (x1 := 2) (by decide) ?_
  refine va_sld hx hb hX hbl hbA hS (vin (by decide +kernel)) dL_law_1231 ?_
  refine eqi (x1 := xs 2) (congrArg xs (by decide +kernel)) ?_
  refine pV hC hK hl hP hD (m_warn l G mm (xs 1) (xs 2) (am 0) (am 1) (am 2) (am 3) (am 4) (am 5) (am 6) (am 7) (am 8) (am 9) (am 10) (am 11) (am 12) (am 13) (am 14) (am 15) (am 16) (am 17) (am 18)) si_L_127 [3, 4] rfl rfl (by decide) rfl rfl rfl rfl rfl (Nat.le_of_ble_eq_true rfl) ⟨Nat.le_of_ble_eq_true rfl, Nat.le_of_ble_eq_true rfl⟩ ⟨by first | exact Nat.le_of_ble_eq_true rfl | exact Nat.zero_le _, by first | exact Nat.le_of_ble_eq_true rfl | exact Nat.zero_le _⟩ dL_law_1232 (fun r1839 hr1839 => ?_)
  obtain rfl := hr1839
  refine lv_icmp_eq (tgt := 1718) hx hb dL_law_1235 (by decide) (fun _ => ?_) (fun c9 => absurd (by decide) c9)
  exact law_end hC hK hX hbl hbA hA hA2 hS (lv_sub hl [0, 1, 2, 3] rfl)
set_option maxHeartbeats 4000000 in
set_option maxRecDepth 100000 in
theorem law_26 {p : Program} {l : Launch} {e : Env} {s : State} {m : MethodId} {below : List Frame} {meth : Method} {c : Code} {b : Nat} {xs : Nat → Int32} {G : GG} {A : Nat → Prop} {H : Heap} {locs : List Loc} {ls : Array Slot} {x mm : Nat} {ad am : Nat → Nat} {hf : Nat → Option Nat} (hC : CX p s m meth c ⟨RL, meth.name, ""⟩ cL_law 4 ret #[Value.ref b]) (hK : KK G s) (hX : va_X b 7 xs s s.heap) (hbl : b < s.heap.size) (hbA : ¬ A b) (hA : ∀ q : Nat, s.heap.size ≤ q → A q) (hA2 : ∀ q : Nat, A q → s.heap.size ≤ q) (hhf : hf 0 = some (ad 59)) (hP : va_P G.1 vwCl (WLAW G x mm ad am hf) H) (hD : va_D A (WLAW G x mm ad am hf)) (hS : va_S A s.heap H locs) (hl : lv_has ls 4 [(3, .int 0), (2, .ref mm), (1, .ref x), (0, .ref b)]) : W p l e room_1 s m #[Value.ref b] below meth c H locs 123 9503 (lw_Z below #[Value.ref b] s) (F0 m 1240 ls []) := by
  obtain ⟨hx, hb, hr, hml, hB, hown, hlocks, hnm⟩ := id hC
  have hP := hP.sub (ws' := [(x, .inr (11, [.ref (ad 0), .ref (ad 1), .int 0, .ref (ad 2), .ref (ad 3), .ref (ad 4), .ref (ad 5), .ref (ad 6), .ref (ad 7), .ref (ad 8), .ref (ad 9)])), ((ad 0), .inr (0, [.ref (ad 10), .ref (ad 11), .ref (ad 12), .ref (ad 13), .ref (ad 14), .ref (ad 15), .ref (ad 16), .ref (ad 17), .ref (ad 18), .ref (ad 19), .int 0, .int (-1), .int 3, .int 24])), ((ad 19), .inr (8, [.int 7, .int 2, .ref (ad 29), .int 0])), ((ad 29), .inl (G.2.1, 14, .inl (fun _ => 0))), (mm, .inr (12, [.ref (am 0), .ref (am 1), .int 0, .ref (am 2), .int 0, .ref (am 3), .int 0, .int (-1), .int 0, .int 0, .ref (am 4), .int 0, .int 0, .ref (am 5), .int 0, .int 0, .int 0, .int 0, .int 0, .int 0, .int 0, .ref (am 6), .ref (am 7), .ref (am 8), .ref (am 9), .ref (am 10), .ref (am 11), .int 0, .ref (am 12), .ref (am 13), .ref (am 14), .ref (am 15), .ref (am 16), .ref (am 17), .ref (am 18), .int 0, .int 0, .int 0, .int 0, .int 0, .int 0])), ((am 0), .inl (G.2.1, 1662, .inl NOW0))]) [0, 1, 20, 21, 74, 75] rfl
  have hD := hD.sub (ws' := [(x, .inr (11, [.ref (ad 0), .ref (ad 1), .int 0, .ref (ad 2), .ref (ad 3), .ref (ad 4), .ref (ad 5), .ref (ad 6), .ref (ad 7), .ref (ad 8), .ref (ad 9)])), ((ad 0), .inr (0, [.ref (ad 10), .ref (ad 11), .ref (ad 12), .ref (ad 13), .ref (ad 14), .ref (ad 15), .ref (ad 16), .ref (ad 17), .ref (ad 18), .ref (ad 19), .int 0, .int (-1), .int 3, .int 24])), ((ad 19), .inr (8, [.int 7, .int 2, .ref (ad 29), .int 0])), ((ad 29), .inl (G.2.1, 14, .inl (fun _ => 0))), (mm, .inr (12, [.ref (am 0), .ref (am 1), .int 0, .ref (am 2), .int 0, .ref (am 3), .int 0, .int (-1), .int 0, .int 0, .ref (am 4), .int 0, .int 0, .ref (am 5), .int 0, .int 0, .int 0, .int 0, .int 0, .int 0, .int 0, .ref (am 6), .ref (am 7), .ref (am 8), .ref (am 9), .ref (am 10), .ref (am 11), .int 0, .ref (am 12), .ref (am 13), .ref (am 14), .ref (am 15), .ref (am 16), .ref (am 17), .ref (am 18), .int 0, .int 0, .int 0, .int 0, .int 0, .int 0])), ((am 0), .inl (G.2.1, 1662, .inl NOW0))]) [0, 1, 20, 21, 74, 75] (by decide) rfl
  refine lv_aload_n hx hb dL_law_1240 rfl (lv_at hl 2 rfl) ?_
  refine lv_aload_n hx hb dL_law_1241 rfl (lv_at hl 3 rfl) ?_
  refine lv_iload_n hx hb dL_law_1242 rfl (lv_at hl 0 rfl) ?_
  refine lv_iconst (v := 1) hx hb dL_law_1243 (by decide) ?_
  refine lv_iadd hx hb dL_law_1244 ?_
  refine eqi (x1 := 1) (by decide) ?_
  refine va_sld hx hb hX hbl hbA hS (vin (by decide +kernel)) dL_law_1245 ?_
  refine eqi (x1 := xs 1) (congrArg xs (by decide +kernel)) ?_
  refine lv_aload_n hx hb dL_law_1246 rfl (lv_at hl 3 rfl) ?_
  refine lv_iload_n hx hb dL_law_1247 rfl (lv_at hl 0 rfl) ?_
  refine lv_iconst (v := 2) hx hb dL_law_1248 (by decide) ?_
  refine lv_iadd hx hb dL_law_1249 ?_
  refine eqi (x1 := 2) (by decide) ?_
  refine va_sld hx hb hX hbl hbA hS (vin (by decide +kernel)) dL_law_1250 ?_
  refine eqi (x1 := xs 2) (congrArg xs (by decide +kernel)) ?_
  refine iV (wr := [(mm, .inr (12, [.ref (am 0), .ref (am 1), .int 0, .ref (am 2), .int 0, .ref (am 3), .int 0, .int (-1), .int 0, .int 0, .ref (am 4), .int 0, .int 0, .ref (am 5), .int 0, .int 0, .int 0, .int 0, .int 0, .int 0, .int 0, .ref (am 6), .ref (am 7), .ref (am 8), .ref (am 9), .ref (am 10), .ref (am 11), .int 0, .ref (am 12), .ref (am 13), .ref (am 14), .ref (am 15), .ref (am 16), .ref (am 17), .ref (am 18), .int 0, .int 0, .int 0, .int 0, .int 0, .int 0])), ((am 0), .inl (G.2.1, 1662, .inl NOW0))]) hC hK hl hP hD hS hA (c_question l G x (xs 1) (xs 2) (ad 0) (ad 1) (ad 2) (ad 3) (ad 4) (ad 5) (ad 6) (ad 7) (ad 8) (ad 9) (ad 10) (ad 11) (ad 12) (ad 13) (ad 14) (ad 15) (ad 16) (ad 17) (ad 18) (ad 19) (ad 29)) si_L_128 [0, 1, 2, 3] [4, 5] rfl rfl (by decide) rfl (by decide) (by decide) rfl rfl rfl rfl rfl (Nat.le_of_ble_eq_true rfl) ⟨Nat.le_of_ble_eq_true rfl, Nat.le_of_ble_eq_true rfl⟩ ⟨by first | exact Nat.le_of_ble_eq_true rfl | omega, by first | exact Nat.le_of_ble_eq_true rfl | omega⟩ dL_law_1251 (fun r1841 u1842 H locs hr1841 hP hD hS => ?_)
  have hP : va_P G.1 vwCl [(mm, .inr (12, [.ref (am 0), .ref (am 1), .int 0, .ref (am 2), .int 0, .ref (am 3), .int 0, .int (-1), .int 0, .int 0, .ref (am 4), .int 0, .int 0, .ref (am 5), .int 0, .int 0, .int 0, .int 0, .int 0, .int 0, .int 0, .ref (am 6), .ref (am 7), .ref (am 8), .ref (am 9), .ref (am 10), .ref (am 11), .int 0, .ref (am 12), .ref (am 13), .ref (am 14), .ref (am 15), .ref (am 16), .ref (am 17), .ref (am 18), .int 0, .int 0, .int 0, .int 0, .int 0, .int 0])), ((am 0), .inl (G.2.1, 1662, .inl NOW0))] H := hP
  have hD : va_D A [(mm, .inr (12, [.ref (am 0), .ref (am 1), .int 0, .ref (am 2), .int 0, .ref (am 3), .int 0, .int (-1), .int 0, .int 0, .ref (am 4), .int 0, .int 0, .ref (am 5), .int 0, .int 0, .int 0, .int 0, .int 0, .int 0, .int 0, .ref (am 6), .ref (am 7), .ref (am 8), .ref (am 9), .ref (am 10), .ref (am 11), .int 0, .ref (am 12), .ref (am 13), .ref (am 14), .ref (am 15), .ref (am 16), .ref (am 17), .ref (am 18), .int 0, .int 0, .int 0, .int 0, .int 0, .int 0])), ((am 0), .inl (G.2.1, 1662, .inl NOW0))] := hD
  obtain rfl := hr1841
  refine lv_aload_n hx hb dL_law_1254 rfl (lv_at hl 1 rfl) ?_
  refine lv_aload_n hx hb dL_law_1255 rfl (lv_at hl 3 rfl) ?_
  refine lv_iload_n hx hb dL_law_1256 rfl (lv_at hl 0 rfl) ?_
  refine lv_iconst (v := 1) hx hb dL_law_1257 (by decide) ?_
  refine lv_iadd hx hb dL_law_1258 ?_
  refine eqi (x1 := 1) (by decide) ?_
  refine va_sld hx hb hX hbl hbA hS (vin (by decide +kernel)) dL_law_1259 ?_
  refine eqi (x1 := xs 1) (congrArg xs (by decide +kernel)) ?_
  refine lv_aload_n hx hb dL_law_1260 rfl (lv_at hl 3 rfl) ?_
  refine lv_iload_n hx hb dL_law_1261 rfl (lv_at hl 0 rfl) ?_
  refine lv_iconst (v := 2) hx hb dL_law_1262 (by decide) ?_
  refine lv_iadd hx hb dL_law_1263 ?_
  refine eqi (x1 := 2) (by decide) ?_
  refine va_sld hx hb hX hbl hbA hS (vin (by decide +kernel)) dL_law_1264 ?_
  refine eqi (x1 := xs 2) (congrArg xs (by decide +kernel)) ?_
  refine iV (wr := []) hC hK hl hP hD hS hA (m_question l G mm (xs 1) (xs 2) (am 0) (am 1) (am 2) (am 3) (am 4) (am 5) (am 6) (am 7) (am 8) (am 9) (am 10) (am 11) (am 12) (am 13) (am 14) (am 15) (am 16) (am 17) (am 18)) si_L_131 [0, 1] [] rfl rfl (by decide) rfl (by decide) (by decide) rfl rfl rfl rfl rfl (Nat.le_of_ble_eq_true rfl) ⟨Nat.le_of_ble_eq_true rfl, Nat.le_of_ble_eq_true rfl⟩ ⟨by first | exact Nat.le_of_ble_eq_true rfl | omega, by first | exact Nat.le_of_ble_eq_true rfl | omega⟩ dL_law_1265 (fun r1844 u1845 H locs hr1844 hP hD hS => ?_)
  have hP : va_P G.1 vwCl [] H := hP
  have hD : va_D A [] := hD
  obtain rfl := hr1844
  refine lv_icmp_eq (tgt := 1718) hx hb dL_law_1268 (by decide) (fun _ => ?_) (fun c9 => absurd (rfl) c9)
  exact law_end hC hK hX hbl hbA hA hA2 hS (lv_sub hl [0, 1, 2, 3] rfl)
set_option maxHeartbeats 4000000 in
set_option maxRecDepth 100000 in
theorem law_27 {p : Program} {l : Launch} {e : Env} {s : State} {m : MethodId} {below : List Frame} {meth : Method} {c : Code} {b : Nat} {xs : Nat → Int32} {G : GG} {A : Nat → Prop} {H : Heap} {locs : List Loc} {ls : Array Slot} {x mm : Nat} {ad am : Nat → Nat} {hf : Nat → Option Nat} (hC : CX p s m meth c ⟨RL, meth.name, ""⟩ cL_law 4 ret #[Value.ref b]) (hK : KK G s) (hX : va_X b 7 xs s s.heap) (hbl : b < s.heap.size) (hbA : ¬ A b) (hA : ∀ q : Nat, s.heap.size ≤ q → A q) (hA2 : ∀ q : Nat, A q → s.heap.size ≤ q) (hhf : hf 0 = some (ad 59)) (hP : va_P G.1 vwCl (WLAW G x mm ad am hf) H) (hD : va_D A (WLAW G x mm ad am hf)) (hS : va_S A s.heap H locs) (hl : lv_has ls 4 [(3, .int 0), (2, .ref mm), (1, .ref x), (0, .ref b)]) : W p l e room_1 s m #[Value.ref b] below meth c H locs 123 9503 (lw_Z below #[Value.ref b] s) (F0 m 1273 ls []) := by
  obtain ⟨hx, hb, hr, hml, hB, hown, hlocks, hnm⟩ := id hC
  have hP := hP.sub (ws' := [(x, .inr (11, [.ref (ad 0), .ref (ad 1), .int 0, .ref (ad 2), .ref (ad 3), .ref (ad 4), .ref (ad 5), .ref (ad 6), .ref (ad 7), .ref (ad 8), .ref (ad 9)])), ((ad 0), .inr (0, [.ref (ad 10), .ref (ad 11), .ref (ad 12), .ref (ad 13), .ref (ad 14), .ref (ad 15), .ref (ad 16), .ref (ad 17), .ref (ad 18), .ref (ad 19), .int 0, .int (-1), .int 3, .int 24])), ((ad 19), .inr (8, [.int 7, .int 2, .ref (ad 29), .int 0])), (mm, .inr (12, [.ref (am 0), .ref (am 1), .int 0, .ref (am 2), .int 0, .ref (am 3), .int 0, .int (-1), .int 0, .int 0, .ref (am 4), .int 0, .int 0, .ref (am 5), .int 0, .int 0, .int 0, .int 0, .int 0, .int 0, .int 0, .ref (am 6), .ref (am 7), .ref (am 8), .ref (am 9), .ref (am 10), .ref (am 11), .int 0, .ref (am 12), .ref (am 13), .ref (am 14), .ref (am 15), .ref (am 16), .ref (am 17), .ref (am 18), .int 0, .int 0, .int 0, .int 0, .int 0, .int 0])), ((am 0), .inl (G.2.1, 1662, .inl NOW0))]) [0, 1, 20, 74, 75] rfl
  have hD := hD.sub (ws' := [(x, .inr (11, [.ref (ad 0), .ref (ad 1), .int 0, .ref (ad 2), .ref (ad 3), .ref (ad 4), .ref (ad 5), .ref (ad 6), .ref (ad 7), .ref (ad 8), .ref (ad 9)])), ((ad 0), .inr (0, [.ref (ad 10), .ref (ad 11), .ref (ad 12), .ref (ad 13), .ref (ad 14), .ref (ad 15), .ref (ad 16), .ref (ad 17), .ref (ad 18), .ref (ad 19), .int 0, .int (-1), .int 3, .int 24])), ((ad 19), .inr (8, [.int 7, .int 2, .ref (ad 29), .int 0])), (mm, .inr (12, [.ref (am 0), .ref (am 1), .int 0, .ref (am 2), .int 0, .ref (am 3), .int 0, .int (-1), .int 0, .int 0, .ref (am 4), .int 0, .int 0, .ref (am 5), .int 0, .int 0, .int 0, .int 0, .int 0, .int 0, .int 0, .ref (am 6), .ref (am 7), .ref (am 8), .ref (am 9), .ref (am 10), .ref (am 11), .int 0, .ref (am 12), .ref (am 13), .ref (am 14), .ref (am 15), .ref (am 16), .ref (am 17), .ref (am 18), .int 0, .int 0, .int 0, .int 0, .int 0, .int 0])), ((am 0), .inl (G.2.1, 1662, .inl NOW0))]) [0, 1, 20, 74, 75] (by decide) rfl
  refine lv_aload_n hx hb dL_law_1273 rfl (lv_at hl 2 rfl) ?_
  refine lv_aload_n hx hb dL_law_1274 rfl (lv_at hl 3 rfl) ?_
  refine lv_iload_n hx hb dL_law_1275 rfl (lv_at hl 0 rfl) ?_
  refine lv_iconst (v := 1) hx hb dL_law_1276 (by decide) ?_
  refine lv_iadd hx hb dL_law_1277 ?_
  refine eqi (x1 := 1) (by decide) ?_
  refine va_sld hx hb hX hbl hbA hS (vin (by decide +kernel)) dL_law_1278 ?_
  refine eqi (x1 := xs 1) (congrArg xs (by decide +kernel)) ?_
  refine pV hC hK hl hP hD (c_round l G x (xs 1) (ad 0) (ad 1) (ad 2) (ad 3) (ad 4) (ad 5) (ad 6) (ad 7) (ad 8) (ad 9) (ad 10) (ad 11) (ad 12) (ad 13) (ad 14) (ad 15) (ad 16) (ad 17) (ad 18) (ad 19) (ad 29)) si_L_132 [0, 1, 2] rfl rfl (by decide) rfl rfl rfl rfl rfl (Nat.le_of_ble_eq_true rfl) ⟨Nat.le_of_ble_eq_true rfl, Nat.le_of_ble_eq_true rfl⟩ ⟨by first | exact Nat.le_of_ble_eq_true rfl | exact Nat.zero_le _, by first | exact Nat.le_of_ble_eq_true rfl | exact Nat.zero_le _⟩ dL_law_1279 (fun r1847 hr1847 => ?_)
  obtain rfl := hr1847
  refine lv_aload_n hx hb dL_law_1282 rfl (lv_at hl 1 rfl) ?_
  refine lv_aload_n hx hb dL_law_1283 rfl (lv_at hl 3 rfl) ?_
  refine lv_iload_n hx hb dL_law_1284 rfl (lv_at hl 0 rfl) ?_
  refine lv_iconst (v := 1) hx hb dL_law_1285 (by decide) ?_
  refine lv_iadd hx hb dL_law_1286 ?_
  refine eqi (x1 := 1) (by decide) ?_
  refine va_sld hx hb hX hbl hbA hS (vin (by decide +kernel)) dL_law_1287 ?_
  refine eqi (x1 := xs 1) (congrArg xs (by decide +kernel)) ?_
  refine pV hC hK hl hP hD (m_round l G mm (xs 1) (am 0) (am 1) (am 2) (am 3) (am 4) (am 5) (am 6) (am 7) (am 8) (am 9) (am 10) (am 11) (am 12) (am 13) (am 14) (am 15) (am 16) (am 17) (am 18)) si_L_135 [3, 4] rfl rfl (by decide) rfl rfl rfl rfl rfl (Nat.le_of_ble_eq_true rfl) ⟨Nat.le_of_ble_eq_true rfl, Nat.le_of_ble_eq_true rfl⟩ ⟨by first | exact Nat.le_of_ble_eq_true rfl | exact Nat.zero_le _, by first | exact Nat.le_of_ble_eq_true rfl | exact Nat.zero_le _⟩ dL_law_1288 (fun r1849 hr1849 => ?_)
  obtain rfl := hr1849
  refine lv_icmp_eq (tgt := 1718) hx hb dL_law_1291 (by decide) (fun _ => ?_) (fun c9 => absurd (rfl) c9)
  exact law_end hC hK hX hbl hbA hA hA2 hS (lv_sub hl [0, 1, 2, 3] rfl)
set_option maxHeartbeats 4000000 in
set_option maxRecDepth 100000 in
theorem law_28 {p : Program} {l : Launch} {e : Env} {s : State} {m : MethodId} {below : List Frame} {meth : Method} {c : Code} {b : Nat} {xs : Nat → Int32} {G : GG} {A : Nat → Prop} {H : Heap} {locs : List Loc} {ls : Array Slot} {x mm : Nat} {ad am : Nat → Nat} {hf : Nat → Option Nat} (hC : CX p s m meth c ⟨RL, meth.name, ""⟩ cL_law 4 ret #[Value.ref b]) (hK : KK G s) (hX : va_X b 7 xs s s.heap) (hbl : b < s.heap.size) (hbA : ¬ A b) (hA : ∀ q : Nat, s.heap.size ≤ q → A q) (hA2 : ∀ q : Nat, A q → s.heap.size ≤ q) (hhf : hf 0 = some (ad 59)) (hP : va_P G.1 vwCl (WLAW G x mm ad am hf) H) (hD : va_D A (WLAW G x mm ad am hf)) (hS : va_S A s.heap H locs) (hl : lv_has ls 4 [(3, .int 0), (2, .ref mm), (1, .ref x), (0, .ref b)]) : W p l e room_1 s m #[Value.ref b] below meth c H locs 123 9503 (lw_Z below #[Value.ref b] s) (F0 m 1296 ls []) := by
  obtain ⟨hx, hb, hr, hml, hB, hown, hlocks, hnm⟩ := id hC
  have hP := hP.sub (ws' := [(x, .inr (11, [.ref (ad 0), .ref (ad 1), .int 0, .ref (ad 2), .ref (ad 3), .ref (ad 4), .ref (ad 5), .ref (ad 6), .ref (ad 7), .ref (ad 8), .ref (ad 9)])), ((ad 7), .inr (5, [.ref (ad 0), .ref (ad 66), .ref (ad 67), .int 0, .int 0, .int 0])), ((ad 66), .inr (8, [.int 7, .int 2, .ref (ad 68), .int 0])), (mm, .inr (12, [.ref (am 0), .ref (am 1), .int 0, .ref (am 2), .int 0, .ref (am 3), .int 0, .int (-1), .int 0, .int 0, .ref (am 4), .int 0, .int 0, .ref (am 5), .int 0, .int 0, .int 0, .int 0, .int 0, .int 0, .int 0, .ref (am 6), .ref (am 7), .ref (am 8), .ref (am 9), .ref (am 10), .ref (am 11), .int 0, .ref (am 12), .ref (am 13), .ref (am 14), .ref (am 15), .ref (am 16), .ref (am 17), .ref (am 18), .int 0, .int 0, .int 0, .int 0, .int 0, .int 0]))]) [0, 63, 64, 74] rfl
  have hD := hD.sub (ws' := [(x, .inr (11, [.ref (ad 0), .ref (ad 1), .int 0, .ref (ad 2), .ref (ad 3), .ref (ad 4), .ref (ad 5), .ref (ad 6), .ref (ad 7), .ref (ad 8), .ref (ad 9)])), ((ad 7), .inr (5, [.ref (ad 0), .ref (ad 66), .ref (ad 67), .int 0, .int 0, .int 0])), ((ad 66), .inr (8, [.int 7, .int 2, .ref (ad 68), .int 0])), (mm, .inr (12, [.ref (am 0), .ref (am 1), .int 0, .ref (am 2), .int 0, .ref (am 3), .int 0, .int (-1), .int 0, .int 0, .ref (am 4), .int 0, .int 0, .ref (am 5), .int 0, .int 0, .int 0, .int 0, .int 0, .int 0, .int 0, .ref (am 6), .ref (am 7), .ref (am 8), .ref (am 9), .ref (am 10), .ref (am 11), .int 0, .ref (am 12), .ref (am 13), .ref (am 14), .ref (am 15), .ref (am 16), .ref (am 17), .ref (am 18), .int 0, .int 0, .int 0, .int 0, .int 0, .int 0]))]) [0, 63, 64, 74] (by decide) rfl
  refine lv_aload_n hx hb dL_law_1296 rfl (lv_at hl 2 rfl) ?_
  refine lv_aload_n hx hb dL_law_1297 rfl (lv_at hl 3 rfl) ?_
  refine lv_iload_n hx hb dL_law_1298 rfl (lv_at hl 0 rfl) ?_
  refine lv_iconst (v := 1) hx hb dL_law_1299 (by decide) ?_
  refine lv_iadd hx hb dL_law_1300 ?_
  refine eqi (x1 := 1) (by decide) ?_
  refine va_sld hx hb hX hbl hbA hS (vin (by decide +kernel)) dL_law_1301 ?_
  refine eqi (x1 := xs 1) (congrArg xs (by decide +kernel)) ?_
  refine lv_aload_n hx hb dL_law_1302 rfl (lv_at hl 3 rfl) ?_
  refine lv_iload_n hx hb dL_law_1303 rfl (lv_at hl 0 rfl) ?_
  refine lv_iconst (v := 2) hx hb dL_law_1304 (by decide) ?_
  refine lv_iadd hx hb dL_law_1305 ?_
  refine eqi (x1 := 2) (by decide) ?_
  refine va_sld hx hb hX hbl hbA hS (vin (by decide +kernel)) dL_law_1306 ?_
  refine eqi (x1 := xs 2) (congrArg xs (by decide +kernel)) ?_
  refine pV hC hK hl hP hD (c_row l G x (xs 1) (xs 2) (ad 0) (ad 1) (ad 2) (ad 3) (ad 4) (ad 5) (ad 6) (ad 7) (ad 8) (ad 9) (ad 66) (ad 67) (ad 68)) si_L_136 [0, 1, 2] rfl rfl (by decide) rfl rfl rfl rfl rfl (Nat.le_of_ble_eq_true rfl) ⟨Nat.le_of_ble_eq_true rfl, Nat.le_of_ble_eq_true rfl⟩ ⟨by first | exact Nat.le_of_ble_eq_true rfl | exact Nat.zero_le _, by first | exact Nat.le_of_ble_eq_true rfl | exact Nat.zero_le _⟩ dL_law_1307 (fun r1851 hr1851 => ?_)
  obtain rfl := hr1851
  refine lv_aload_n hx hb dL_law_1310 rfl (lv_at hl 1 rfl) ?_
  refine lv_aload_n hx hb dL_law_1311 rfl (lv_at hl 3 rfl) ?_
  refine lv_iload_n hx hb dL_law_1312 rfl (lv_at hl 0 rfl) ?_
  refine lv_iconst (v := 1) hx hb dL_law_1313 (by decide) ?_
  refine lv_iadd hx hb dL_law_1314 ?_
  refine eqi (x1 := 1) (by decide) ?_
  refine va_sld hx hb hX hbl hbA hS (vin (by decide +kernel)) dL_law_1315 ?_
  refine eqi (x1 := xs 1) (congrArg xs (by decide +kernel)) ?_
  refine lv_aload_n hx hb dL_law_1316 rfl (lv_at hl 3 rfl) ?_
  refine lv_iload_n hx hb dL_law_1317 rfl (lv_at hl 0 rfl) ?_
  refine lv_iconst (v := 2) hx hb dL_law_1318 (by decide) ?_
  refine lv_iadd hx hb dL_law_1319 ?_
  refine eqi (x1 := 2) (by decide) ?_
  refine va_sld hx hb hX hbl hbA hS (vin (by decide +kernel)) dL_law_1320 ?_
  refine eqi (x1 := xs 2) (congrArg xs (by decide +kernel)) ?_
  refine pV hC hK hl hP hD (m_row l G mm (xs 1) (xs 2) (am 0) (am 1) (am 2) (am 3) (am 4) (am 5) (am 6) (am 7) (am 8) (am 9) (am 10) (am 11) (am 12) (am 13) (am 14) (am 15) (am 16) (am 17) (am 18)) si_L_139 [3] rfl rfl (by decide) rfl rfl rfl rfl rfl (Nat.le_of_ble_eq_true rfl) ⟨Nat.le_of_ble_eq_true rfl, Nat.le_of_ble_eq_true rfl⟩ ⟨by first | exact Nat.le_of_ble_eq_true rfl | exact Nat.zero_le _, by first | exact Nat.le_of_ble_eq_true rfl | exact Nat.zero_le _⟩ dL_law_1321 (fun r1853 hr1853 => ?_)
  obtain rfl := hr1853
  refine lv_icmp_eq (tgt := 1718) hx hb dL_law_1324 (by decide) (fun _ => ?_) (fun c9 => absurd (by decide) c9)
  exact law_end hC hK hX hbl hbA hA hA2 hS (lv_sub hl [0, 1, 2, 3] rfl)
set_option maxHeartbeats 4000000 in
set_option maxRecDepth 100000 in
theorem law_29 {p : Program} {l : Launch} {e : Env} {s : State} {m : MethodId} {below : List Frame} {meth : Method} {c : Code} {b : Nat} {xs : Nat → Int32} {G : GG} {A : Nat → Prop} {H : Heap} {locs : List Loc} {ls : Array Slot} {x mm : Nat} {ad am : Nat → Nat} {hf : Nat → Option Nat} (hC : CX p s m meth c ⟨RL, meth.name, ""⟩ cL_law 4 ret #[Value.ref b]) (hK : KK G s) (hX : va_X b 7 xs s s.heap) (hbl : b < s.heap.size) (hbA : ¬ A b) (hA : ∀ q : Nat, s.heap.size ≤ q → A q) (hA2 : ∀ q : Nat, A q → s.heap.size ≤ q) (hhf : hf 0 = some (ad 59)) (hP : va_P G.1 vwCl (WLAW G x mm ad am hf) H) (hD : va_D A (WLAW G x mm ad am hf)) (hS : va_S A s.heap H locs) (hl : lv_has ls 4 [(3, .int 0), (2, .ref mm), (1, .ref x), (0, .ref b)]) : W p l e room_1 s m #[Value.ref b] below meth c H locs 123 9503 (lw_Z below #[Value.ref b] s) (F0 m 1329 ls []) := by
  obtain ⟨hx, hb, hr, hml, hB, hown, hlocks, hnm⟩ := id hC
  have hP := hP.sub (ws' := [(x, .inr (11, [.ref (ad 0), .ref (ad 1), .int 0, .ref (ad 2), .ref (ad 3), .ref (ad 4), .ref (ad 5), .ref (ad 6), .ref (ad 7), .ref (ad 8), .ref (ad 9)])), ((ad 7), .inr (5, [.ref (ad 0), .ref (ad 66), .ref (ad 67), .int 0, .int 0, .int 0])), ((ad 66), .inr (8, [.int 7, .int 2, .ref (ad 68), .int 0])), (mm, .inr (12, [.ref (am 0), .ref (am 1), .int 0, .ref (am 2), .int 0, .ref (am 3), .int 0, .int (-1), .int 0, .int 0, .ref (am 4), .int 0, .int 0, .ref (am 5), .int 0, .int 0, .int 0, .int 0, .int 0, .int 0, .int 0, .ref (am 6), .ref (am 7), .ref (am 8), .ref (am 9), .ref (am 10), .ref (am 11), .int 0, .ref (am 12), .ref (am 13), .ref (am 14), .ref (am 15), .ref (am 16), .ref (am 17), .ref (am 18), .int 0, .int 0, .int 0, .int 0, .int 0, .int 0]))]) [0, 63, 64, 74] rfl
  have hD := hD.sub (ws' := [(x, .inr (11, [.ref (ad 0), .ref (ad 1), .int 0, .ref (ad 2), .ref (ad 3), .ref (ad 4), .ref (ad 5), .ref (ad 6), .ref (ad 7), .ref (ad 8), .ref (ad 9)])), ((ad 7), .inr (5, [.ref (ad 0), .ref (ad 66), .ref (ad 67), .int 0, .int 0, .int 0])), ((ad 66), .inr (8, [.int 7, .int 2, .ref (ad 68), .int 0])), (mm, .inr (12, [.ref (am 0), .ref (am 1), .int 0, .ref (am 2), .int 0, .ref (am 3), .int 0, .int (-1), .int 0, .int 0, .ref (am 4), .int 0, .int 0, .ref (am 5), .int 0, .int 0, .int 0, .int 0, .int 0, .int 0, .int 0, .ref (am 6), .ref (am 7), .ref (am 8), .ref (am 9), .ref (am 10), .ref (am 11), .int 0, .ref (am 12), .ref (am 13), .ref (am 14), .ref (am 15), .ref (am 16), .ref (am 17), .ref (am 18), .int 0, .int 0, .int 0, .int 0, .int 0, .int 0]))]) [0, 63, 64, 74] (by decide) rfl
  refine lv_aload_n hx hb dL_law_1329 rfl (lv_at hl 2 rfl) ?_
  refine lv_aload_n hx hb dL_law_1330 rfl (lv_at hl 3 rfl) ?_
  refine lv_iload_n hx hb dL_law_1331 rfl (lv_at hl 0 rfl) ?_
  refine lv_iconst (v := 1) hx hb dL_law_1332 (by decide) ?_
  refine lv_iadd hx hb dL_law_1333 ?_
  refine eqi (x1 := 1) (by decide) ?_
  refine va_sld hx hb hX hbl hbA hS (vin (by decide +kernel)) dL_law_1334 ?_
  refine eqi (x1 := xs 1) (congrArg xs (by decide +kernel)) ?_
  refine lv_aload_n hx hb dL_law_1335 rfl (lv_at hl 3 rfl) ?_
  refine lv_iload_n hx hb dL_law_1336 rfl (lv_at hl 0 rfl) ?_
  refine lv_iconst (v := 2) hx hb dL_law_1337 (by decide) ?_
  refine lv_iadd hx hb dL_law_1338 ?_
  refine eqi (x1 := 2) (by decide) ?_
  refine va_sld hx hb hX hbl hbA hS (vin (by decide +kernel)) dL_law_1339 ?_
  refine eqi (x1 := xs 2) (congrArg xs (by decide +kernel)) ?_
  refine lv_aload_n hx hb dL_law_1340 rfl (lv_at hl 3 rfl) ?_
  refine lv_iload_n hx hb dL_law_1341 rfl (lv_at hl 0 rfl) ?_
  refine lv_iconst (v := 3) hx hb dL_law_1342 (by decide) ?_
  refine lv_iadd hx hb dL_law_1343 ?_
  refine eqi (x1 := 3) (by decide) ?_
  refine va_sld hx hb hX hbl hbA hS (vin (by decide +kernel)) dL_law_1344 ?_
  refine eqi (x1 := xs 3) (congrArg xs (by decide +kernel)) ?_
  refine pV hC hK hl hP hD (c_alterRow l G x (xs 1) (xs 2) (xs 3) (ad 0) (ad 1) (ad 2) (ad 3) (ad 4) (ad 5) (ad 6) (ad 7) (ad 8) (ad 9) (ad 66) (ad 67) (ad 68)) si_L_140 [0, 1, 2] rfl rfl (by decide) rfl rfl rfl rfl rfl (Nat.le_of_ble_eq_true rfl) ⟨Nat.le_of_ble_eq_true rfl, Nat.le_of_ble_eq_true rfl⟩ ⟨by first | exact Nat.le_of_ble_eq_true rfl | exact Nat.zero_le _, by first | exact Nat.le_of_ble_eq_true rfl | exact Nat.zero_le _⟩ dL_law_1345 (fun r1855 hr1855 => ?_)
  obtain rfl := hr1855
  refine lv_aload_n hx hb dL_law_1348 rfl (lv_at hl 1 rfl) ?_
  refine lv_aload_n hx hb dL_law_1349 rfl (lv_at hl 3 rfl) ?_
  refine lv_iload_n hx hb dL_law_1350 rfl (lv_at hl 0 rfl) ?_
  refine lv_iconst (v := 1) hx hb dL_law_1351 (by decide) ?_
  refine lv_iadd hx hb dL_law_1352 ?_
  refine eqi (x1 := 1) (by decide) ?_
  refine va_sld hx hb hX hbl hbA hS (vin (by decide +kernel)) dL_law_1353 ?_
  refine eqi (x1 := xs 1) (congrArg xs (by decide +kernel)) ?_
  refine lv_aload_n hx hb dL_law_1354 rfl (lv_at hl 3 rfl) ?_
  refine lv_iload_n hx hb dL_law_1355 rfl (lv_at hl 0 rfl) ?_
  refine lv_iconst (v := 2) hx hb dL_law_1356 (by decide) ?_
  refine lv_iadd hx hb dL_law_1357 ?_
  refine eqi (x1 := 2) (by decide) ?_
  refine va_sld hx hb hX hbl hbA hS (vin (by decide +kernel)) dL_law_1358 ?_
  refine eqi (x1 := xs 2) (congrArg xs (by decide +kernel)) ?_
  refine lv_aload_n hx hb dL_law_1359 rfl (lv_at hl 3 rfl) ?_
  refine lv_iload_n hx hb dL_law_1360 rfl (lv_at hl 0 rfl) ?_
  refine lv_iconst (v := 3) hx hb dL_law_1361 (by decide) ?_
  refine lv_iadd hx hb dL_law_1362 ?_
  refine eqi (x1 := 3) (by decide) ?_
  refine va_sld hx hb hX hbl hbA hS (vin (by decide +kernel)) dL_law_1363 ?_
  refine eqi (x1 := xs 3) (congrArg xs (by decide +kernel)) ?_
  refine pV hC hK hl hP hD (m_alterRow l G mm (xs 1) (xs 2) (xs 3) (am 0) (am 1) (am 2) (am 3) (am 4) (am 5) (am 6) (am 7) (am 8) (am 9) (am 10) (am 11) (am 12) (am 13) (am 14) (am 15) (am 16) (am 17) (am 18)) si_L_143 [3] rfl rfl (by decide) rfl rfl rfl rfl rfl (Nat.le_of_ble_eq_true rfl) ⟨Nat.le_of_ble_eq_true rfl, Nat.le_of_ble_eq_true rfl⟩ ⟨by first | exact Nat.le_of_ble_eq_true rfl | exact Nat.zero_le _, by first | exact Nat.le_of_ble_eq_true rfl | exact Nat.zero_le _⟩ dL_law_1364 (fun r1857 hr1857 => ?_)
  obtain rfl := hr1857
  refine lv_icmp_eq (tgt := 1718) hx hb dL_law_1367 (by decide) (fun _ => ?_) (fun c9 => absurd (by decide) c9)
  exact law_end hC hK hX hbl hbA hA hA2 hS (lv_sub hl [0, 1, 2, 3] rfl)
set_option maxHeartbeats 4000000 in
set_option maxRecDepth 100000 in
theorem law_30 {p : Program} {l : Launch} {e : Env} {s : State} {m : MethodId} {below : List Frame} {meth : Method} {c : Code} {b : Nat} {xs : Nat → Int32} {G : GG} {A : Nat → Prop} {H : Heap} {locs : List Loc} {ls : Array Slot} {x mm : Nat} {ad am : Nat → Nat} {hf : Nat → Option Nat} (hC : CX p s m meth c ⟨RL, meth.name, ""⟩ cL_law 4 ret #[Value.ref b]) (hK : KK G s) (hX : va_X b 7 xs s s.heap) (hbl : b < s.heap.size) (hbA : ¬ A b) (hA : ∀ q : Nat, s.heap.size ≤ q → A q) (hA2 : ∀ q : Nat, A q → s.heap.size ≤ q) (hhf : hf 0 = some (ad 59)) (hP : va_P G.1 vwCl (WLAW G x mm ad am hf) H) (hD : va_D A (WLAW G x mm ad am hf)) (hS : va_S A s.heap H locs) (hl : lv_has ls 4 [(3, .int 0), (2, .ref mm), (1, .ref x), (0, .ref b)]) : W p l e room_1 s m #[Value.ref b] below meth c H locs 123 9503 (lw_Z below #[Value.ref b] s) (F0 m 1372 ls []) := by
  obtain ⟨hx, hb, hr, hml, hB, hown, hlocks, hnm⟩ := id hC
  have hP := hP.sub (ws' := [(x, .inr (11, [.ref (ad 0), .ref (ad 1), .int 0, .ref (ad 2), .ref (ad 3), .ref (ad 4), .ref (ad 5), .ref (ad 6), .ref (ad 7), .ref (ad 8), .ref (ad 9)])), ((ad 7), .inr (5, [.ref (ad 0), .ref (ad 66), .ref (ad 67), .int 0, .int 0, .int 0])), ((ad 66), .inr (8, [.int 7, .int 2, .ref (ad 68), .int 0])), (mm, .inr (12, [.ref (am 0), .ref (am 1), .int 0, .ref (am 2), .int 0, .ref (am 3), .int 0, .int (-1), .int 0, .int 0, .ref (am 4), .int 0, .int 0, .ref (am 5), .int 0, .int 0, .int 0, .int 0, .int 0, .int 0, .int 0, .ref (am 6), .ref (am 7), .ref (am 8), .ref (am 9), .ref (am 10), .ref (am 11), .int 0, .ref (am 12), .ref (am 13), .ref (am 14), .ref (am 15), .ref (am 16), .ref (am 17), .ref (am 18), .int 0, .int 0, .int 0, .int 0, .int 0, .int 0]))]) [0, 63, 64, 74] rfl
  have hD := hD.sub (ws' := [(x, .inr (11, [.ref (ad 0), .ref (ad 1), .int 0, .ref (ad 2), .ref (ad 3), .ref (ad 4), .ref (ad 5), .ref (ad 6), .ref (ad 7), .ref (ad 8), .ref (ad 9)])), ((ad 7), .inr (5, [.ref (ad 0), .ref (ad 66), .ref (ad 67), .int 0, .int 0, .int 0])), ((ad 66), .inr (8, [.int 7, .int 2, .ref (ad 68), .int 0])), (mm, .inr (12, [.ref (am 0), .ref (am 1), .int 0, .ref (am 2), .int 0, .ref (am 3), .int 0, .int (-1), .int 0, .int 0, .ref (am 4), .int 0, .int 0, .ref (am 5), .int 0, .int 0, .int 0, .int 0, .int 0, .int 0, .int 0, .ref (am 6), .ref (am 7), .ref (am 8), .ref (am 9), .ref (am 10), .ref (am 11), .int 0, .ref (am 12), .ref (am 13), .ref (am 14), .ref (am 15), .ref (am 16), .ref (am 17), .ref (am 18), .int 0, .int 0, .int 0, .int 0, .int 0, .int 0]))]) [0, 63, 64, 74] (by decide) rfl
  refine lv_aload_n hx hb dL_law_1372 rfl (lv_at hl 2 rfl) ?_
  refine pV hC hK hl hP hD (c_dropRow l G x (ad 0) (ad 1) (ad 2) (ad 3) (ad 4) (ad 5) (ad 6) (ad 7) (ad 8) (ad 9) (ad 66) (ad 67) (ad 68)) si_L_144 [0, 1, 2] rfl rfl (by decide) rfl rfl rfl rfl rfl (Nat.le_of_ble_eq_true rfl) ⟨Nat.le_of_ble_eq_true rfl, Nat.le_of_ble_eq_true rfl⟩ ⟨by first | exact Nat.le_of_ble_eq_true rfl | exact Nat.zero_le _, by first | exact Nat.le_of_ble_eq_true rfl | exact Nat.zero_le _⟩ dL_law_1373 (fun r1859 hr1859 => ?_)
  obtain rfl := hr1859
  refine lv_aload_n hx hb dL_law_1376 rfl (lv_at hl 1 rfl) ?_
  refine pV hC hK hl hP hD (m_dropRow l G mm (am 0) (am 1) (am 2) (am 3) (am 4) (am 5) (am 6) (am 7) (am 8) (am 9) (am 10) (am 11) (am 12) (am 13) (am 14) (am 15) (am 16) (am 17) (am 18)) si_L_147 [3] rfl rfl (by decide) rfl rfl rfl rfl rfl (Nat.le_of_ble_eq_true rfl) ⟨Nat.le_of_ble_eq_true rfl, Nat.le_of_ble_eq_true rfl⟩ ⟨by first | exact Nat.le_of_ble_eq_true rfl | exact Nat.zero_le _, by first | exact Nat.le_of_ble_eq_true rfl | exact Nat.zero_le _⟩ dL_law_1377 (fun r1861 hr1861 => ?_)
  obtain rfl := hr1861
  refine lv_icmp_eq (tgt := 1718) hx hb dL_law_1380 (by decide) (fun _ => ?_) (fun c9 => absurd (by decide) c9)
  exact law_end hC hK hX hbl hbA hA hA2 hS (lv_sub hl [0, 1, 2, 3] rfl)
set_option maxHeartbeats 4000000 in
set_option maxRecDepth 100000 in
theorem law_31 {p : Program} {l : Launch} {e : Env} {s : State} {m : MethodId} {below : List Frame} {meth : Method} {c : Code} {b : Nat} {xs : Nat → Int32} {G : GG} {A : Nat → Prop} {H : Heap} {locs : List Loc} {ls : Array Slot} {x mm : Nat} {ad am : Nat → Nat} {hf : Nat → Option Nat} (hC : CX p s m meth c ⟨RL, meth.name, ""⟩ cL_law 4 ret #[Value.ref b]) (hK : KK G s) (hX : va_X b 7 xs s s.heap) (hbl : b < s.heap.size) (hbA : ¬ A b) (hA : ∀ q : Nat, s.heap.size ≤ q → A q) (hA2 : ∀ q : Nat, A q → s.heap.size ≤ q) (hhf : hf 0 = some (ad 59)) (hP : va_P G.1 vwCl (WLAW G x mm ad am hf) H) (hD : va_D A (WLAW G x mm ad am hf)) (hS : va_S A s.heap H locs) (hl : lv_has ls 4 [(3, .int 0), (2, .ref mm), (1, .ref x), (0, .ref b)]) : W p l e room_1 s m #[Value.ref b] below meth c H locs 123 9503 (lw_Z below #[Value.ref b] s) (F0 m 1385 ls []) := by
  obtain ⟨hx, hb, hr, hml, hB, hown, hlocks, hnm⟩ := id hC
  have hP := hP.sub (ws' := [(x, .inr (11, [.ref (ad 0), .ref (ad 1), .int 0, .ref (ad 2), .ref (ad 3), .ref (ad 4), .ref (ad 5), .ref (ad 6), .ref (ad 7), .ref (ad 8), .ref (ad 9)])), ((ad 7), .inr (5, [.ref (ad 0), .ref (ad 66), .ref (ad 67), .int 0, .int 0, .int 0])), (mm, .inr (12, [.ref (am 0), .ref (am 1), .int 0, .ref (am 2), .int 0, .ref (am 3), .int 0, .int (-1), .int 0, .int 0, .ref (am 4), .int 0, .int 0, .ref (am 5), .int 0, .int 0, .int 0, .int 0, .int 0, .int 0, .int 0, .ref (am 6), .ref (am 7), .ref (am 8), .ref (am 9), .ref (am 10), .ref (am 11), .int 0, .ref (am 12), .ref (am 13), .ref (am 14), .ref (am 15), .ref (am 16), .ref (am 17), .ref (am 18), .int 0, .int 0, .int 0, .int 0, .int 0, .int 0]))]) [0, 63, 74] rfl
  have hD := hD.sub (ws' := [(x, .inr (11, [.ref (ad 0), .ref (ad 1), .int 0, .ref (ad 2), .ref (ad 3), .ref (ad 4), .ref (ad 5), .ref (ad 6), .ref (ad 7), .ref (ad 8), .ref (ad 9)])), ((ad 7), .inr (5, [.ref (ad 0), .ref (ad 66), .ref (ad 67), .int 0, .int 0, .int 0])), (mm, .inr (12, [.ref (am 0), .ref (am 1), .int 0, .ref (am 2), .int 0, .ref (am 3), .int 0, .int (-1), .int 0, .int 0, .ref (am 4), .int 0, .int 0, .ref (am 5), .int 0, .int 0, .int 0, .int 0, .int 0, .int 0, .int 0, .ref (am 6), .ref (am 7), .ref (am 8), .ref (am 9), .ref (am 10), .ref (am 11), .int 0, .ref (am 12), .ref (am 13), .ref (am 14), .ref (am 15), .ref (am 16), .ref (am 17), .ref (am 18), .int 0, .int 0, .int 0, .int 0, .int 0, .int 0]))]) [0, 63, 74] (by decide) rfl
  refine lv_aload_n hx hb dL_law_1385 rfl (lv_at hl 2 rfl) ?_
  refine pV hC hK hl hP hD (c_judge l G x (ad 0) (ad 1) (ad 2) (ad 3) (ad 4) (ad 5) (ad 6) (ad 7) (ad 8) (ad 9) (ad 66) (ad 67)) si_L_148 [0, 1] rfl rfl (by decide) rfl rfl rfl rfl rfl (Nat.le_of_ble_eq_true rfl) ⟨Nat.le_of_ble_eq_true rfl, Nat.le_of_ble_eq_true rfl⟩ ⟨by first | exact Nat.le_of_ble_eq_true rfl | exact Nat.zero_le _, by first | exact Nat.le_of_ble_eq_true rfl | exact Nat.zero_le _⟩ dL_law_1386 (fun r1863 hr1863 => ?_)
  obtain rfl := hr1863
  refine lv_aload_n hx hb dL_law_1389 rfl (lv_at hl 1 rfl) ?_
  refine pV hC hK hl hP hD (m_judge l G mm (am 0) (am 1) (am 2) (am 3) (am 4) (am 5) (am 6) (am 7) (am 8) (am 9) (am 10) (am 11) (am 12) (am 13) (am 14) (am 15) (am 16) (am 17) (am 18)) si_L_151 [2] rfl rfl (by decide) rfl rfl rfl rfl rfl (Nat.le_of_ble_eq_true rfl) ⟨Nat.le_of_ble_eq_true rfl, Nat.le_of_ble_eq_true rfl⟩ ⟨by first | exact Nat.le_of_ble_eq_true rfl | exact Nat.zero_le _, by first | exact Nat.le_of_ble_eq_true rfl | exact Nat.zero_le _⟩ dL_law_1390 (fun r1865 hr1865 => ?_)
  obtain rfl := hr1865
  refine lv_icmp_eq (tgt := 1718) hx hb dL_law_1393 (by decide) (fun _ => ?_) (fun c9 => absurd (by decide) c9)
  exact law_end hC hK hX hbl hbA hA hA2 hS (lv_sub hl [0, 1, 2, 3] rfl)
set_option maxHeartbeats 4000000 in
set_option maxRecDepth 100000 in
theorem law_32 {p : Program} {l : Launch} {e : Env} {s : State} {m : MethodId} {below : List Frame} {meth : Method} {c : Code} {b : Nat} {xs : Nat → Int32} {G : GG} {A : Nat → Prop} {H : Heap} {locs : List Loc} {ls : Array Slot} {x mm : Nat} {ad am : Nat → Nat} {hf : Nat → Option Nat} (hC : CX p s m meth c ⟨RL, meth.name, ""⟩ cL_law 4 ret #[Value.ref b]) (hK : KK G s) (hX : va_X b 7 xs s s.heap) (hbl : b < s.heap.size) (hbA : ¬ A b) (hA : ∀ q : Nat, s.heap.size ≤ q → A q) (hA2 : ∀ q : Nat, A q → s.heap.size ≤ q) (hhf : hf 0 = some (ad 59)) (hP : va_P G.1 vwCl (WLAW G x mm ad am hf) H) (hD : va_D A (WLAW G x mm ad am hf)) (hS : va_S A s.heap H locs) (hl : lv_has ls 4 [(3, .int 0), (2, .ref mm), (1, .ref x), (0, .ref b)]) : W p l e room_1 s m #[Value.ref b] below meth c H locs 123 9503 (lw_Z below #[Value.ref b] s) (F0 m 1398 ls []) := by
  obtain ⟨hx, hb, hr, hml, hB, hown, hlocks, hnm⟩ := id hC
  have hP := hP.sub (ws' := [(x, .inr (11, [.ref (ad 0), .ref (ad 1), .int 0, .ref (ad 2), .ref (ad 3), .ref (ad 4), .ref (ad 5), .ref (ad 6), .ref (ad 7), .ref (ad 8), .ref (ad 9)])), ((ad 8), .inr (4, [.ref (ad 69), .ref (ad 70), .ref (ad 71), .ref (ad 72), .ref (ad 73), .ref (ad 74)])), ((ad 69), .inl (G.2.1, 4, .inl (upd (upd (upd (upd (fun _ => 0) 0 (-1)) 1 (-1)) 2 (-1)) 3 (-1)))), ((ad 70), .inl (G.2.1, 4, .inl (fun _ => 0))), ((ad 71), .inl (G.2.1, 160, .inl (fun _ => 0))), (mm, .inr (12, [.ref (am 0), .ref (am 1), .int 0, .ref (am 2), .int 0, .ref (am 3), .int 0, .int (-1), .int 0, .int 0, .ref (am 4), .int 0, .int 0, .ref (am 5), .int 0, .int 0, .int 0, .int 0, .int 0, .int 0, .int 0, .ref (am 6), .ref (am 7), .ref (am 8), .ref (am 9), .ref (am 10), .ref (am 11), .int 0, .ref (am 12), .ref (am 13), .ref (am 14), .ref (am 15), .ref (am 16), .ref (am 17), .ref (am 18), .int 0, .int 0, .int 0, .int 0, .int 0, .int 0])), ((am 12), .inl (G.2.1, 4, .inl (upd (upd (upd (upd (fun _ => 0) 0 (-1)) 1 (-1)) 2 (-1)) 3 (-1)))), ((am 13), .inl (G.2.1, 4, .inl (fun _ => 0))), ((am 14), .inl (G.2.1, 160, .inl (fun _ => 0)))]) [0, 66, 67, 68, 69, 74, 80, 81, 82] rfl
  have hD := hD.sub (ws' := [(x, .inr (11, [.ref (ad 0), .ref (ad 1), .int 0, .ref (ad 2), .ref (ad 3), .ref (ad 4), .ref (ad 5), .ref (ad 6), .ref (ad 7), .ref (ad 8), .ref (ad 9)])), ((ad 8), .inr (4, [.ref (ad 69), .ref (ad 70), .ref (ad 71), .ref (ad 72), .ref (ad 73), .ref (ad 74)])), ((ad 69), .inl (G.2.1, 4, .inl (upd (upd (upd (upd (fun _ => 0) 0 (-1)) 1 (-1)) 2 (-1)) 3 (-1)))), ((ad 70), .inl (G.2.1, 4, .inl (fun _ => 0))), ((ad 71), .inl (G.2.1, 160, .inl (fun _ => 0))), (mm, .inr (12, [.ref (am 0), .ref (am 1), .int 0, .ref (am 2), .int 0, .ref (am 3), .int 0, .int (-1), .int 0, .int 0, .ref (am 4), .int 0, .int 0, .ref (am 5), .int 0, .int 0, .int 0, .int 0, .int 0, .int 0, .int 0, .ref (am 6), .ref (am 7), .ref (am 8), .ref (am 9), .ref (am 10), .ref (am 11), .int 0, .ref (am 12), .ref (am 13), .ref (am 14), .ref (am 15), .ref (am 16), .ref (am 17), .ref (am 18), .int 0, .int 0, .int 0, .int 0, .int 0, .int 0])), ((am 12), .inl (G.2.1, 4, .inl (upd (upd (upd (upd (fun _ => 0) 0 (-1)) 1 (-1)) 2 (-1)) 3 (-1)))), ((am 13), .inl (G.2.1, 4, .inl (fun _ => 0))), ((am 14), .inl (G.2.1, 160, .inl (fun _ => 0)))]) [0, 66, 67, 68, 69, 74, 80, 81, 82] (by decide) rfl
  refine lv_aload_n hx hb dL_law_1398 rfl (lv_at hl 2 rfl) ?_
  refine lv_aload_n hx hb dL_law_1399 rfl (lv_at hl 3 rfl) ?_
  refine lv_iload_n hx hb dL_law_1400 rfl (lv_at hl 0 rfl) ?_
  refine lv_iconst (v := 1) hx hb dL_law_1401 (by decide) ?_
  refine lv_iadd hx hb dL_law_1402 ?_
  refine eqi (x1 := 1) (by decide) ?_
  refine va_sld hx hb hX hbl hbA hS (vin (by decide +kernel)) dL_law_1403 ?_
  refine eqi (x1 := xs 1) (congrArg xs (by decide +kernel)) ?_
  refine lv_aload_n hx hb dL_law_1404 rfl (lv_at hl 3 rfl) ?_
  refine lv_iload_n hx hb dL_law_1405 rfl (lv_at hl 0 rfl) ?_
  refine lv_iconst (v := 2) hx hb dL_law_1406 (by decide) ?_
  refine lv_iadd hx hb dL_law_1407 ?_
  refine eqi (x1 := 2) (by decide) ?_
  refine va_sld hx hb hX hbl hbA hS (vin (by decide +kernel)) dL_law_1408 ?_
  refine eqi (x1 := xs 2) (congrArg xs (by decide +kernel)) ?_
  refine lv_aload_n hx hb dL_law_1409 rfl (lv_at hl 3 rfl) ?_
  refine lv_iload_n hx hb dL_law_1410 rfl (lv_at hl 0 rfl) ?_
  refine lv_iconst (v := 3) hx hb dL_law_1411 (by decide) ?_
  refine lv_iadd hx hb dL_law_1412 ?_
  refine eqi (x1 := 3) (by decide) ?_
  refine va_sld hx hb hX hbl hbA hS (vin (by decide +kernel)) dL_law_1413 ?_
  refine eqi (x1 := xs 3) (congrArg xs (by decide +kernel)) ?_
  refine iV (wr := [(mm, .inr (12, [.ref (am 0), .ref (am 1), .int 0, .ref (am 2), .int 0, .ref (am 3), .int 0, .int (-1), .int 0, .int 0, .ref (am 4), .int 0, .int 0, .ref (am 5), .int 0, .int 0, .int 0, .int 0, .int 0, .int 0, .int 0, .ref (am 6), .ref (am 7), .ref (am 8), .ref (am 9), .ref (am 10), .ref (am 11), .int 0, .ref (am 12), .ref (am 13), .ref (am 14), .ref (am 15), .ref (am 16), .ref (am 17), .ref (am 18), .int 0, .int 0, .int 0, .int 0, .int 0, .int 0])), ((am 12), .inl (G.2.1, 4, .inl (upd (upd (upd (upd (fun _ => 0) 0 (-1)) 1 (-1)) 2 (-1)) 3 (-1)))), ((am 13), .inl (G.2.1, 4, .inl (fun _ => 0))), ((am 14), .inl (G.2.1, 160, .inl (fun _ => 0)))]) hC hK hl hP hD hS hA (c_sheet l G x (xs 1) (xs 2) (xs 3) (ad 0) (ad 1) (ad 2) (ad 3) (ad 4) (ad 5) (ad 6) (ad 7) (ad 8) (ad 9) (ad 69) (ad 70) (ad 71) (ad 72) (ad 73) (ad 74)) si_L_152 [0, 1, 2, 3, 4] [5, 6, 7, 8] rfl rfl (by decide) rfl (by decide) (by decide) rfl rfl rfl rfl rfl (Nat.le_of_ble_eq_true rfl) ⟨Nat.le_of_ble_eq_true rfl, Nat.le_of_ble_eq_true rfl⟩ ⟨by first | exact Nat.le_of_ble_eq_true rfl | omega, by first | exact Nat.le_of_ble_eq_true rfl | omega⟩ dL_law_1414 (fun r1867 u1868 H locs hr1867 hP hD hS => ?_)
  have hP : va_P G.1 vwCl [(mm, .inr (12, [.ref (am 0), .ref (am 1), .int 0, .ref (am 2), .int 0, .ref (am 3), .int 0, .int (-1), .int 0, .int 0, .ref (am 4), .int 0, .int 0, .ref (am 5), .int 0, .int 0, .int 0, .int 0, .int 0, .int 0, .int 0, .ref (am 6), .ref (am 7), .ref (am 8), .ref (am 9), .ref (am 10), .ref (am 11), .int 0, .ref (am 12), .ref (am 13), .ref (am 14), .ref (am 15), .ref (am 16), .ref (am 17), .ref (am 18), .int 0, .int 0, .int 0, .int 0, .int 0, .int 0])), ((am 12), .inl (G.2.1, 4, .inl (upd (upd (upd (upd (fun _ => 0) 0 (-1)) 1 (-1)) 2 (-1)) 3 (-1)))), ((am 13), .inl (G.2.1, 4, .inl (fun _ => 0))), ((am 14), .inl (G.2.1, 160, .inl (fun _ => 0)))] H := hP
  have hD : va_D A [(mm, .inr (12, [.ref (am 0), .ref (am 1), .int 0, .ref (am 2), .int 0, .ref (am 3), .int 0, .int (-1), .int 0, .int 0, .ref (am 4), .int 0, .int 0, .ref (am 5), .int 0, .int 0, .int 0, .int 0, .int 0, .int 0, .int 0, .ref (am 6), .ref (am 7), .ref (am 8), .ref (am 9), .ref (am 10), .ref (am 11), .int 0, .ref (am 12), .ref (am 13), .ref (am 14), .ref (am 15), .ref (am 16), .ref (am 17), .ref (am 18), .int 0, .int 0, .int 0, .int 0, .int 0, .int 0])), ((am 12), .inl (G.2.1, 4, .inl (upd (upd (upd (upd (fun _ => 0) 0 (-1)) 1 (-1)) 2 (-1)) 3 (-1)))), ((am 13), .inl (G.2.1, 4, .inl (fun _ => 0))), ((am 14), .inl (G.2.1, 160, .inl (fun _ => 0)))] := hD
  obtain rfl := hr1867
  refine lv_aload_n hx hb dL_law_1417 rfl (lv_at hl 1 rfl) ?_
  refine lv_aload_n hx hb dL_law_1418 rfl (lv_at hl 3 rfl) ?_
  refine lv_iload_n hx hb dL_law_1419 rfl (lv_at hl 0 rfl) ?_
  refine lv_iconst (v := 1) hx hb dL_law_1420 (by decide) ?_
  refine lv_iadd hx hb dL_law_1421 ?_
  refine eqi (x1 := 1) (by decide) ?_
  refine va_sld hx hb hX hbl hbA hS (vin (by decide +kernel)) dL_law_1422 ?_
  refine eqi (x1 := xs 1) (congrArg xs (by decide +kernel)) ?_
  refine lv_aload_n hx hb dL_law_1423 rfl (lv_at hl 3 rfl) ?_
  refine lv_iload_n hx hb dL_law_1424 rfl (lv_at hl 0 rfl) ?_
  refine lv_iconst (v := 2) hx hb dL_law_1425 (by decide) ?_
  refine lv_iadd hx hb dL_law_1426 ?_
  refine eqi (x1 := 2) (by decide) ?_
  refine va_sld hx hb hX hbl hbA hS (vin (by decide +kernel)) dL_law_1427 ?_
  refine eqi (x1 := xs 2) (congrArg xs (by decide +kernel)) ?_
  refine lv_aload_n hx hb dL_law_1428 rfl (lv_at hl 3 rfl) ?_
  refine lv_iload_n hx hb dL_law_1429 rfl (lv_at hl 0 rfl) ?_
  refine lv_iconst (v := 3) hx hb dL_law_1430 (by decide) ?_
  refine lv_iadd hx hb dL_law_1431 ?_
  refine eqi (x1 := 3) (by decide) ?_
  refine va_sld hx hb hX hbl hbA hS (vin (by decide +kernel)) dL_law_1432 ?_
  refine eqi (x1 := xs 3) (congrArg xs (by decide +kernel)) ?_
  refine iV (wr := []) hC hK hl hP hD hS hA (m_sheet l G mm (xs 1) (xs 2) (xs 3) (am 0) (am 1) (am 2) (am 3) (am 4) (am 5) (am 6) (am 7) (am 8) (am 9) (am 10) (am 11) (am 12) (am 13) (am 14) (am 15) (am 16) (am 17) (am 18)) si_L_155 [0, 1, 2, 3] [] rfl rfl (by decide) rfl (by decide) (by decide) rfl rfl rfl rfl rfl (Nat.le_of_ble_eq_true rfl) ⟨Nat.le_of_ble_eq_true rfl, Nat.le_of_ble_eq_true rfl⟩ ⟨by first | exact Nat.le_of_ble_eq_true rfl | omega, by first | exact Nat.le_of_ble_eq_true rfl | omega⟩ dL_law_1433 (fun r1870 u1871 H locs hr1870 hP hD hS => ?_)
  have hP : va_P G.1 vwCl [] H := hP
  have hD : va_D A [] := hD
  obtain rfl := hr1870
  refine lv_icmp_eq (tgt := 1718) hx hb dL_law_1436 (by decide) (fun _ => ?_) (fun c9 => absurd (rfl) c9)
  exact law_end hC hK hX hbl hbA hA hA2 hS (lv_sub hl [0, 1, 2, 3] rfl)
set_option maxHeartbeats 4000000 in
set_option maxRecDepth 100000 in
theorem law_33 {p : Program} {l : Launch} {e : Env} {s : State} {m : MethodId} {below : List Frame} {meth : Method} {c : Code} {b : Nat} {xs : Nat → Int32} {G : GG} {A : Nat → Prop} {H : Heap} {locs : List Loc} {ls : Array Slot} {x mm : Nat} {ad am : Nat → Nat} {hf : Nat → Option Nat} (hC : CX p s m meth c ⟨RL, meth.name, ""⟩ cL_law 4 ret #[Value.ref b]) (hK : KK G s) (hX : va_X b 7 xs s s.heap) (hbl : b < s.heap.size) (hbA : ¬ A b) (hA : ∀ q : Nat, s.heap.size ≤ q → A q) (hA2 : ∀ q : Nat, A q → s.heap.size ≤ q) (hhf : hf 0 = some (ad 59)) (hP : va_P G.1 vwCl (WLAW G x mm ad am hf) H) (hD : va_D A (WLAW G x mm ad am hf)) (hS : va_S A s.heap H locs) (hl : lv_has ls 4 [(3, .int 0), (2, .ref mm), (1, .ref x), (0, .ref b)]) : W p l e room_1 s m #[Value.ref b] below meth c H locs 123 9503 (lw_Z below #[Value.ref b] s) (F0 m 1441 ls []) := by
  obtain ⟨hx, hb, hr, hml, hB, hown, hlocks, hnm⟩ := id hC
  have hP := hP.sub (ws' := [(x, .inr (11, [.ref (ad 0), .ref (ad 1), .int 0, .ref (ad 2), .ref (ad 3), .ref (ad 4), .ref (ad 5), .ref (ad 6), .ref (ad 7), .ref (ad 8), .ref (ad 9)])), ((ad 8), .inr (4, [.ref (ad 69), .ref (ad 70), .ref (ad 71), .ref (ad 72), .ref (ad 73), .ref (ad 74)])), ((ad 69), .inl (G.2.1, 4, .inl (upd (upd (upd (upd (fun _ => 0) 0 (-1)) 1 (-1)) 2 (-1)) 3 (-1)))), (mm, .inr (12, [.ref (am 0), .ref (am 1), .int 0, .ref (am 2), .int 0, .ref (am 3), .int 0, .int (-1), .int 0, .int 0, .ref (am 4), .int 0, .int 0, .ref (am 5), .int 0, .int 0, .int 0, .int 0, .int 0, .int 0, .int 0, .ref (am 6), .ref (am 7), .ref (am 8), .ref (am 9), .ref (am 10), .ref (am 11), .int 0, .ref (am 12), .ref (am 13), .ref (am 14), .ref (am 15), .ref (am 16), .ref (am 17), .ref (am 18), .int 0, .int 0, .int 0, .int 0, .int 0, .int 0])), ((am 12), .inl (G.2.1, 4, .inl (upd (upd (upd (upd (fun _ => 0) 0 (-1)) 1 (-1)) 2 (-1)) 3 (-1))))]) [0, 66, 67, 74, 80] rfl
  have hD := hD.sub (ws' := [(x, .inr (11, [.ref (ad 0), .ref (ad 1), .int 0, .ref (ad 2), .ref (ad 3), .ref (ad 4), .ref (ad 5), .ref (ad 6), .ref (ad 7), .ref (ad 8), .ref (ad 9)])), ((ad 8), .inr (4, [.ref (ad 69), .ref (ad 70), .ref (ad 71), .ref (ad 72), .ref (ad 73), .ref (ad 74)])), ((ad 69), .inl (G.2.1, 4, .inl (upd (upd (upd (upd (fun _ => 0) 0 (-1)) 1 (-1)) 2 (-1)) 3 (-1)))), (mm, .inr (12, [.ref (am 0), .ref (am 1), .int 0, .ref (am 2), .int 0, .ref (am 3), .int 0, .int (-1), .int 0, .int 0, .ref (am 4), .int 0, .int 0, .ref (am 5), .int 0, .int 0, .int 0, .int 0, .int 0, .int 0, .int 0, .ref (am 6), .ref (am 7), .ref (am 8), .ref (am 9), .ref (am 10), .ref (am 11), .int 0, .ref (am 12), .ref (am 13), .ref (am 14), .ref (am 15), .ref (am 16), .ref (am 17), .ref (am 18), .int 0, .int 0, .int 0, .int 0, .int 0, .int 0])), ((am 12), .inl (G.2.1, 4, .inl (upd (upd (upd (upd (fun _ => 0) 0 (-1)) 1 (-1)) 2 (-1)) 3 (-1))))]) [0, 66, 67, 74, 80] (by decide) rfl
  refine lv_aload_n hx hb dL_law_1441 rfl (lv_at hl 2 rfl) ?_
  refine lv_aload_n hx hb dL_law_1442 rfl (lv_at hl 3 rfl) ?_
  refine lv_iload_n hx hb dL_law_1443 rfl (lv_at hl 0 rfl) ?_
  refine lv_iconst (v := 1) hx hb dL_law_1444 (by decide) ?_
  refine lv_iadd hx hb dL_law_1445 ?_
  refine eqi (x1 := 1) (by decide) ?_
  refine va_sld hx hb hX hbl hbA hS (vin (by decide +kernel)) dL_law_1446 ?_
  refine eqi (x1 := xs 1) (congrArg xs (by decide +kernel)) ?_
  refine lv_aload_n hx hb dL_law_1447 rfl (lv_at hl 3 rfl) ?_
  refine lv_iload_n hx hb dL_law_1448 rfl (lv_at hl 0 rfl) ?_
  refine lv_iconst (v := 2) hx hb dL_law_1449 (by decide) ?_
  refine lv_iadd hx hb dL_law_1450 ?_
  refine eqi (x1 := 2) (by decide) ?_
  refine va_sld hx hb hX hbl hbA hS (vin (by decide +kernel)) dL_law_1451 ?_
  refine eqi (x1 := xs 2) (congrArg xs (by decide +kernel)) ?_
  refine lv_aload_n hx hb dL_law_1452 rfl (lv_at hl 3 rfl) ?_
  refine lv_iload_n hx hb dL_law_1453 rfl (lv_at hl 0 rfl) ?_
  refine lv_iconst (v := 3) hx hb dL_law_1454 (by decide) ?_
  refine lv_iadd hx hb dL_law_1455 ?_
  refine eqi (x1 := 3) (by decide) ?_
  refine va_sld hx hb hX hbl hbA hS (vin (by decide +kernel)) dL_law_1456 ?_
  refine eqi (x1 := xs 3) (congrArg xs (by decide +kernel)) ?_
  refine pV hC hK hl hP hD (c_put l G x (xs 1) (xs 2) (xs 3) (ad 0) (ad 1) (ad 2) (ad 3) (ad 4) (ad 5) (ad 6) (ad 7) (ad 8) (ad 9) (ad 69) (ad 70) (ad 71) (ad 72) (ad 73) (ad 74)) si_L_156 [0, 1, 2] rfl rfl (by decide) rfl rfl rfl rfl rfl (Nat.le_of_ble_eq_true rfl) ⟨Nat.le_of_ble_eq_true rfl, Nat.le_of_ble_eq_true rfl⟩ ⟨by first | exact Nat.le_of_ble_eq_true rfl | exact Nat.zero_le _, by first | exact Nat.le_of_ble_eq_true rfl | exact Nat.zero_le _⟩ dL_law_1457 (fun r1873 hr1873 => ?_)
  obtain rfl := hr1873
  refine lv_aload_n hx hb dL_law_1460 rfl (lv_at hl 1 rfl) ?_
  refine lv_aload_n hx hb dL_law_1461 rfl (lv_at hl 3 rfl) ?_
  refine lv_iload_n hx hb dL_law_1462 rfl (lv_at hl 0 rfl) ?_
  refine lv_iconst (v := 1) hx hb dL_law_1463 (by decide) ?_
  refine lv_iadd hx hb dL_law_1464 ?_
  refine eqi (x1 := 1) (by decide) ?_
  refine va_sld hx hb hX hbl hbA hS (vin (by decide +kernel)) dL_law_1465 ?_
  refine eqi (x1 := xs 1) (congrArg xs (by decide +kernel)) ?_
  refine lv_aload_n hx hb dL_law_1466 rfl (lv_at hl 3 rfl) ?_
  refine lv_iload_n hx hb dL_law_1467 rfl (lv_at hl 0 rfl) ?_
  refine lv_iconst (v := 2) hx hb dL_law_1468 (by decide) ?_
  refine lv_iadd hx hb dL_law_1469 ?_
  refine eqi (x1 := 2) (by decide) ?_
  refine va_sld hx hb hX hbl hbA hS (vin (by decide +kernel)) dL_law_1470 ?_
  refine eqi (x1 := xs 2) (congrArg xs (by decide +kernel)) ?_
  refine lv_aload_n hx hb dL_law_1471 rfl (lv_at hl 3 rfl) ?_
  refine lv_iload_n hx hb dL_law_1472 rfl (lv_at hl 0 rfl) ?_
  refine lv_iconst (v := 3) hx hb dL_law_1473 (by decide) ?_
  refine lv_iadd hx hb dL_law_1474 ?_
  refine eqi (x1 := 3) (by decide) ?_
  refine va_sld hx hb hX hbl hbA hS (vin (by decide +kernel)) dL_law_1475 ?_
  refine eqi (x1 := xs 3) (congrArg xs (by decide +kernel)) ?_
  refine pV hC hK hl hP hD (m_put l G mm (xs 1) (xs 2) (xs 3) (am 0) (am 1) (am 2) (am 3) (am 4) (am 5) (am 6) (am 7) (am 8) (am 9) (am 10) (am 11) (am 12) (am 13) (am 14) (am 15) (am 16) (am 17) (am 18)) si_L_159 [3, 4] rfl rfl (by decide) rfl rfl rfl rfl rfl (Nat.le_of_ble_eq_true rfl) ⟨Nat.le_of_ble_eq_true rfl, Nat.le_of_ble_eq_true rfl⟩ ⟨by first | exact Nat.le_of_ble_eq_true rfl | exact Nat.zero_le _, by first | exact Nat.le_of_ble_eq_true rfl | exact Nat.zero_le _⟩ dL_law_1476 (fun r1875 hr1875 => ?_)
  obtain rfl := hr1875
  refine lv_icmp_eq (tgt := 1718) hx hb dL_law_1479 (by decide) (fun _ => ?_) (fun c9 => absurd (rfl) c9)
  exact law_end hC hK hX hbl hbA hA hA2 hS (lv_sub hl [0, 1, 2, 3] rfl)
set_option maxHeartbeats 4000000 in
set_option maxRecDepth 100000 in
theorem law_34 {p : Program} {l : Launch} {e : Env} {s : State} {m : MethodId} {below : List Frame} {meth : Method} {c : Code} {b : Nat} {xs : Nat → Int32} {G : GG} {A : Nat → Prop} {H : Heap} {locs : List Loc} {ls : Array Slot} {x mm : Nat} {ad am : Nat → Nat} {hf : Nat → Option Nat} (hC : CX p s m meth c ⟨RL, meth.name, ""⟩ cL_law 4 ret #[Value.ref b]) (hK : KK G s) (hX : va_X b 7 xs s s.heap) (hbl : b < s.heap.size) (hbA : ¬ A b) (hA : ∀ q : Nat, s.heap.size ≤ q → A q) (hA2 : ∀ q : Nat, A q → s.heap.size ≤ q) (hhf : hf 0 = some (ad 59)) (hP : va_P G.1 vwCl (WLAW G x mm ad am hf) H) (hD : va_D A (WLAW G x mm ad am hf)) (hS : va_S A s.heap H locs) (hl : lv_has ls 4 [(3, .int 0), (2, .ref mm), (1, .ref x), (0, .ref b)]) : W p l e room_1 s m #[Value.ref b] below meth c H locs 123 9503 (lw_Z below #[Value.ref b] s) (F0 m 1484 ls []) := by
  obtain ⟨hx, hb, hr, hml, hB, hown, hlocks, hnm⟩ := id hC
  have hP := hP.sub (ws' := [(x, .inr (11, [.ref (ad 0), .ref (ad 1), .int 0, .ref (ad 2), .ref (ad 3), .ref (ad 4), .ref (ad 5), .ref (ad 6), .ref (ad 7), .ref (ad 8), .ref (ad 9)])), ((ad 8), .inr (4, [.ref (ad 69), .ref (ad 70), .ref (ad 71), .ref (ad 72), .ref (ad 73), .ref (ad 74)])), ((ad 69), .inl (G.2.1, 4, .inl (upd (upd (upd (upd (fun _ => 0) 0 (-1)) 1 (-1)) 2 (-1)) 3 (-1)))), (mm, .inr (12, [.ref (am 0), .ref (am 1), .int 0, .ref (am 2), .int 0, .ref (am 3), .int 0, .int (-1), .int 0, .int 0, .ref (am 4), .int 0, .int 0, .ref (am 5), .int 0, .int 0, .int 0, .int 0, .int 0, .int 0, .int 0, .ref (am 6), .ref (am 7), .ref (am 8), .ref (am 9), .ref (am 10), .ref (am 11), .int 0, .ref (am 12), .ref (am 13), .ref (am 14), .ref (am 15), .ref (am 16), .ref (am 17), .ref (am 18), .int 0, .int 0, .int 0, .int 0, .int 0, .int 0])), ((am 12), .inl (G.2.1, 4, .inl (upd (upd (upd (upd (fun _ => 0) 0 (-1)) 1 (-1)) 2 (-1)) 3 (-1))))]) [0, 66, 67, 74, 80] rfl
  have hD := hD.sub (ws' := [(x, .inr (11, [.ref (ad 0), .ref (ad 1), .int 0, .ref (ad 2), .ref (ad 3), .ref (ad 4), .ref (ad 5), .ref (ad 6), .ref (ad 7), .ref (ad 8), .ref (ad 9)])), ((ad 8), .inr (4, [.ref (ad 69), .ref (ad 70), .ref (ad 71), .ref (ad 72), .ref (ad 73), .ref (ad 74)])), ((ad 69), .inl (G.2.1, 4, .inl (upd (upd (upd (upd (fun _ => 0) 0 (-1)) 1 (-1)) 2 (-1)) 3 (-1)))), (mm, .inr (12, [.ref (am 0), .ref (am 1), .int 0, .ref (am 2), .int 0, .ref (am 3), .int 0, .int (-1), .int 0, .int 0, .ref (am 4), .int 0, .int 0, .ref (am 5), .int 0, .int 0, .int 0, .int 0, .int 0, .int 0, .int 0, .ref (am 6), .ref (am 7), .ref (am 8), .ref (am 9), .ref (am 10), .ref (am 11), .int 0, .ref (am 12), .ref (am 13), .ref (am 14), .ref (am 15), .ref (am 16), .ref (am 17), .ref (am 18), .int 0, .int 0, .int 0, .int 0, .int 0, .int 0])), ((am 12), .inl (G.2.1, 4, .inl (upd (upd (upd (upd (fun _ => 0) 0 (-1)) 1 (-1)) 2 (-1)) 3 (-1))))]) [0, 66, 67, 74, 80] (by decide) rfl
  refine lv_aload_n hx hb dL_law_1484 rfl (lv_at hl 2 rfl) ?_
  refine lv_aload_n hx hb dL_law_1485 rfl (lv_at hl 3 rfl) ?_
  refine lv_iload_n hx hb dL_law_1486 rfl (lv_at hl 0 rfl) ?_
  refine lv_iconst (v := 1) hx hb dL_law_1487 (by decide) ?_
  refine lv_iadd hx hb dL_law_1488 ?_
  refine eqi (x1 := 1) (by decide) ?_
  refine va_sld hx hb hX hbl hbA hS (vin (by decide +kernel)) dL_law_1489 ?_
  refine eqi (x1 := xs 1) (congrArg xs (by decide +kernel)) ?_
  refine lv_aload_n hx hb dL_law_1490 rfl (lv_at hl 3 rfl) ?_
  refine lv_iload_n hx hb dL_law_1491 rfl (lv_at hl 0 rfl) ?_
  refine lv_iconst (v := 2) hx hb dL_law_1492 (by decide) ?_
  refine lv_iadd hx hb dL_law_1493 ?_
  refine eqi (x1 := 2) (by decide) ?_
  refine va_sld hx hb hX hbl hbA hS (vin (by decide +kernel)) dL_law_1494 ?_
  refine eqi (x1 := xs 2) (congrArg xs (by decide +kernel)) ?_
  refine lv_aload_n hx hb dL_law_1495 rfl (lv_at hl 3 rfl) ?_
  refine lv_iload_n hx hb dL_law_1496 rfl (lv_at hl 0 rfl) ?_
  refine lv_iconst (v := 3) hx hb dL_law_1497 (by decide) ?_
  refine lv_iadd hx hb dL_law_1498 ?_
  refine eqi (x1 := 3) (by decide) ?_
  refine va_sld hx hb hX hbl hbA hS (vin (by decide +kernel)) dL_law_1499 ?_
  refine eqi (x1 := xs 3) (congrArg xs (by decide +kernel)) ?_
  refine pV hC hK hl hP hD (c_item l G x (xs 1) (xs 2) (xs 3) (ad 0) (ad 1) (ad 2) (ad 3) (ad 4) (ad 5) (ad 6) (ad 7) (ad 8) (ad 9) (ad 69) (ad 70) (ad 71) (ad 72) (ad 73) (ad 74)) si_L_160 [0, 1, 2] rfl rfl (by decide) rfl rfl rfl rfl rfl (Nat.le_of_ble_eq_true rfl) ⟨Nat.le_of_ble_eq_true rfl, Nat.le_of_ble_eq_true rfl⟩ ⟨by first | exact Nat.le_of_ble_eq_true rfl | exact Nat.zero_le _, by first | exact Nat.le_of_ble_eq_true rfl | exact Nat.zero_le _⟩ dL_law_1500 (fun r1877 hr1877 => ?_)
  obtain rfl := hr1877
  refine lv_aload_n hx hb dL_law_1503 rfl (lv_at hl 1 rfl) ?_
  refine lv_aload_n hx hb dL_law_1504 rfl (lv_at hl 3 rfl) ?_
  refine lv_iload_n hx hb dL_law_1505 rfl (lv_at hl 0 rfl) ?_
  refine lv_iconst (v := 1) hx hb dL_law_1506 (by decide) ?_
  refine lv_iadd hx hb dL_law_1507 ?_
  refine eqi (x1 := 1) (by decide) ?_
  refine va_sld hx hb hX hbl hbA hS (vin (by decide +kernel)) dL_law_1508 ?_
  refine eqi (x1 := xs 1) (congrArg xs (by decide +kernel)) ?_
  refine lv_aload_n hx hb dL_law_1509 rfl (lv_at hl 3 rfl) ?_
  refine lv_iload_n hx hb dL_law_1510 rfl (lv_at hl 0 rfl) ?_
  refine lv_iconst (v := 2) hx hb dL_law_1511 (by decide) ?_
  refine lv_iadd hx hb dL_law_1512 ?_
  refine eqi (x1 := 2) (by decide) ?_
  refine va_sld hx hb hX hbl hbA hS (vin (by decide +kernel)) dL_law_1513 ?_
  refine eqi (x1 := xs 2) (congrArg xs (by decide +kernel)) ?_
  refine lv_aload_n hx hb dL_law_1514 rfl (lv_at hl 3 rfl) ?_
  refine lv_iload_n hx hb dL_law_1515 rfl (lv_at hl 0 rfl) ?_
  refine lv_iconst (v := 3) hx hb dL_law_1516 (by decide) ?_
  refine lv_iadd hx hb dL_law_1517 ?_
  refine eqi (x1 := 3) (by decide) ?_
  refine va_sld hx hb hX hbl hbA hS (vin (by decide +kernel)) dL_law_1518 ?_
  refine eqi (x1 := xs 3) (congrArg xs (by decide +kernel)) ?_
  refine pV hC hK hl hP hD (m_item l G mm (xs 1) (xs 2) (xs 3) (am 0) (am 1) (am 2) (am 3) (am 4) (am 5) (am 6) (am 7) (am 8) (am 9) (am 10) (am 11) (am 12) (am 13) (am 14) (am 15) (am 16) (am 17) (am 18)) si_L_163 [3, 4] rfl rfl (by decide) rfl rfl rfl rfl rfl (Nat.le_of_ble_eq_true rfl) ⟨Nat.le_of_ble_eq_true rfl, Nat.le_of_ble_eq_true rfl⟩ ⟨by first | exact Nat.le_of_ble_eq_true rfl | exact Nat.zero_le _, by first | exact Nat.le_of_ble_eq_true rfl | exact Nat.zero_le _⟩ dL_law_1519 (fun r1879 hr1879 => ?_)
  obtain rfl := hr1879
  refine lv_icmp_eq (tgt := 1718) hx hb dL_law_1522 (by decide) (fun _ => ?_) (fun c9 => absurd (rfl) c9)
  exact law_end hC hK hX hbl hbA hA hA2 hS (lv_sub hl [0, 1, 2, 3] rfl)
set_option maxHeartbeats 4000000 in
set_option maxRecDepth 100000 in
theorem law_35 {p : Program} {l : Launch} {e : Env} {s : State} {m : MethodId} {below : List Frame} {meth : Method} {c : Code} {b : Nat} {xs : Nat → Int32} {G : GG} {A : Nat → Prop} {H : Heap} {locs : List Loc} {ls : Array Slot} {x mm : Nat} {ad am : Nat → Nat} {hf : Nat → Option Nat} (hC : CX p s m meth c ⟨RL, meth.name, ""⟩ cL_law 4 ret #[Value.ref b]) (hK : KK G s) (hX : va_X b 7 xs s s.heap) (hbl : b < s.heap.size) (hbA : ¬ A b) (hA : ∀ q : Nat, s.heap.size ≤ q → A q) (hA2 : ∀ q : Nat, A q → s.heap.size ≤ q) (hhf : hf 0 = some (ad 59)) (hP : va_P G.1 vwCl (WLAW G x mm ad am hf) H) (hD : va_D A (WLAW G x mm ad am hf)) (hS : va_S A s.heap H locs) (hl : lv_has ls 4 [(3, .int 0), (2, .ref mm), (1, .ref x), (0, .ref b)]) : W p l e room_1 s m #[Value.ref b] below meth c H locs 123 9503 (lw_Z below #[Value.ref b] s) (F0 m 1527 ls []) := by
  obtain ⟨hx, hb, hr, hml, hB, hown, hlocks, hnm⟩ := id hC
  have hP := hP.sub (ws' := [(x, .inr (11, [.ref (ad 0), .ref (ad 1), .int 0, .ref (ad 2), .ref (ad 3), .ref (ad 4), .ref (ad 5), .ref (ad 6), .ref (ad 7), .ref (ad 8), .ref (ad 9)])), ((ad 0), .inr (0, [.ref (ad 10), .ref (ad 11), .ref (ad 12), .ref (ad 13), .ref (ad 14), .ref (ad 15), .ref (ad 16), .ref (ad 17), .ref (ad 18), .ref (ad 19), .int 0, .int (-1), .int 3, .int 24])), ((ad 11), .inr (8, [.int 12, .int 6, .ref (ad 21), .int 0])), ((ad 16), .inr (8, [.int 16, .int 8, .ref (ad 26), .int 0])), ((ad 17), .inr (8, [.int 12, .int 4, .ref (ad 27), .int 0])), ((ad 8), .inr (4, [.ref (ad 69), .ref (ad 70), .ref (ad 71), .ref (ad 72), .ref (ad 73), .ref (ad 74)])), ((ad 69), .inl (G.2.1, 4, .inl (upd (upd (upd (upd (fun _ => 0) 0 (-1)) 1 (-1)) 2 (-1)) 3 (-1)))), ((ad 70), .inl (G.2.1, 4, .inl (fun _ => 0))), ((ad 72), .inl (G.2.1, 4, .inl (upd (upd (upd (upd (fun _ => 0) 0 4) 1 4) 2 4) 3 4))), ((ad 73), .inl (G.2.1, 4, .inl (fun _ => 0))), ((ad 74), .inl (G.2.1, 4, .inl (fun _ => 0))), (mm, .inr (12, [.ref (am 0), .ref (am 1), .int 0, .ref (am 2), .int 0, .ref (am 3), .int 0, .int (-1), .int 0, .int 0, .ref (am 4), .int 0, .int 0, .ref (am 5), .int 0, .int 0, .int 0, .int 0, .int 0, .int 0, .int 0, .ref (am 6), .ref (am 7), .ref (am 8), .ref (am 9), .ref (am 10), .ref (am 11), .int 0, .ref (am 12), .ref (am 13), .ref (am 14), .ref (am 15), .ref (am 16), .ref (am 17), .ref (am 18), .int 0, .int 0, .int 0, .int 0, .int 0, .int 0])), ((am 0), .inl (G.2.1, 1662, .inl NOW0)), ((am 12), .inl (G.2.1, 4, .inl (upd (upd (upd (upd (fun _ => 0) 0 (-1)) 1 (-1)) 2 (-1)) 3 (-1)))), ((am 13), .inl (G.2.1, 4, .inl (fun _ => 0))), ((am 15), .inl (G.2.1, 4, .inl (fun _ => 0))), ((am 16), .inl (G.2.1, 4, .inl (fun _ => 0))), ((am 17), .inl (G.2.1, 4, .inl (fun _ => 0)))]) [0, 1, 4, 14, 16, 66, 67, 68, 70, 71, 72, 74, 75, 80, 81, 83, 84, 85] rfl
  have hD := hD.sub (ws' := [(x, .inr (11, [.ref (ad 0), .ref (ad 1), .int 0, .ref (ad 2), .ref (ad 3), .ref (ad 4), .ref (ad 5), .ref (ad 6), .ref (ad 7), .ref (ad 8), .ref (ad 9)])), ((ad 0), .inr (0, [.ref (ad 10), .ref (ad 11), .ref (ad 12), .ref (ad 13), .ref (ad 14), .ref (ad 15), .ref (ad 16), .ref (ad 17), .ref (ad 18), .ref (ad 19), .int 0, .int (-1), .int 3, .int 24])), ((ad 11), .inr (8, [.int 12, .int 6, .ref (ad 21), .int 0])), ((ad 16), .inr (8, [.int 16, .int 8, .ref (ad 26), .int 0])), ((ad 17), .inr (8, [.int 12, .int 4, .ref (ad 27), .int 0])), ((ad 8), .inr (4, [.ref (ad 69), .ref (ad 70), .ref (ad 71), .ref (ad 72), .ref (ad 73), .ref (ad 74)])), ((ad 69), .inl (G.2.1, 4, .inl (upd (upd (upd (upd (fun _ => 0) 0 (-1)) 1 (-1)) 2 (-1)) 3 (-1)))), ((ad 70), .inl (G.2.1, 4, .inl (fun _ => 0))), ((ad 72), .inl (G.2.1, 4, .inl (upd (upd (upd (upd (fun _ => 0) 0 4) 1 4) 2 4) 3 4))), ((ad 73), .inl (G.2.1, 4, .inl (fun _ => 0))), ((ad 74), .inl (G.2.1, 4, .inl (fun _ => 0))), (mm, .inr (12, [.ref (am 0), .ref (am 1), .int 0, .ref (am 2), .int 0, .ref (am 3), .int 0, .int (-1), .int 0, .int 0, .ref (am 4), .int 0, .int 0, .ref (am 5), .int 0, .int 0, .int 0, .int 0, .int 0, .int 0, .int 0, .ref (am 6), .ref (am 7), .ref (am 8), .ref (am 9), .ref (am 10), .ref (am 11), .int 0, .ref (am 12), .ref (am 13), .ref (am 14), .ref (am 15), .ref (am 16), .ref (am 17), .ref (am 18), .int 0, .int 0, .int 0, .int 0, .int 0, .int 0])), ((am 0), .inl (G.2.1, 1662, .inl NOW0)), ((am 12), .inl (G.2.1, 4, .inl (upd (upd (upd (upd (fun _ => 0) 0 (-1)) 1 (-1)) 2 (-1)) 3 (-1)))), ((am 13), .inl (G.2.1, 4, .inl (fun _ => 0))), ((am 15), .inl (G.2.1, 4, .inl (fun _ => 0))), ((am 16), .inl (G.2.1, 4, .inl (fun _ => 0))), ((am 17), .inl (G.2.1, 4, .inl (fun _ => 0)))]) [0, 1, 4, 14, 16, 66, 67, 68, 70, 71, 72, 74, 75, 80, 81, 83, 84, 85] (by decide) rfl
  refine lv_aload_n hx hb dL_law_1527 rfl (lv_at hl 2 rfl) ?_
  refine lv_aload_n hx hb dL_law_1528 rfl (lv_at hl 3 rfl) ?_
  refine lv_iload_n hx hb dL_law_1529 rfl (lv_at hl 0 rfl) ?_
  refine lv_iconst (v := 1) hx hb dL_law_1530 (by decide) ?_
  refine lv_iadd hx hb dL_law_1531 ?_
  refine eqi (x1 := 1) (by decide) ?_
  refine va_sld hx hb hX hbl hbA hS (vin (by decide +kernel)) dL_law_1532 ?_
  refine eqi (x1 := xs 1) (congrArg xs (by decide +kernel)) ?_
  refine lv_aload_n hx hb dL_law_1533 rfl (lv_at hl 3 rfl) ?_
  refine lv_iload_n hx hb dL_law_1534 rfl (lv_at hl 0 rfl) ?_
  refine lv_iconst (v := 2) hx hb dL_law_1535 (by decide) ?_
  refine lv_iadd hx hb dL_law_1536 ?_
  refine eqi (x1 := 2) (by decide) ?_
  refine va_sld hx hb hX hbl hbA hS (vin (by decide +kernel)) dL_law_1537 ?_
  refine eqi (x1 := xs 2) (congrArg xs (by decide +kernel)) ?_
  refine lv_aload_n hx hb dL_law_1538 rfl (lv_at hl 3 rfl) ?_
  refine lv_iload_n hx hb dL_law_1539 rfl (lv_at hl 0 rfl) ?_
  refine lv_iconst (v := 3) hx hb dL_law_1540 (by decide) ?_
  refine lv_iadd hx hb dL_law_1541 ?_
  refine eqi (x1 := 3) (by decide) ?_
  refine va_sld hx hb hX hbl hbA hS (vin (by decide +kernel)) dL_law_1542 ?_
  refine eqi (x1 := xs 3) (congrArg xs (by decide +kernel)) ?_
  refine iV (wr := [(mm, .inr (12, [.ref (am 0), .ref (am 1), .int 0, .ref (am 2), .int 0, .ref (am 3), .int 0, .int (-1), .int 0, .int 0, .ref (am 4), .int 0, .int 0, .ref (am 5), .int 0, .int 0, .int 0, .int 0, .int 0, .int 0, .int 0, .ref (am 6), .ref (am 7), .ref (am 8), .ref (am 9), .ref (am 10), .ref (am 11), .int 0, .ref (am 12), .ref (am 13), .ref (am 14), .ref (am 15), .ref (am 16), .ref (am 17), .ref (am 18), .int 0, .int 0, .int 0, .int 0, .int 0, .int 0])), ((am 0), .inl (G.2.1, 1662, .inl NOW0)), ((am 12), .inl (G.2.1, 4, .inl (upd (upd (upd (upd (fun _ => 0) 0 (-1)) 1 (-1)) 2 (-1)) 3 (-1)))), ((am 13), .inl (G.2.1, 4, .inl (fun _ => 0))), ((am 15), .inl (G.2.1, 4, .inl (fun _ => 0))), ((am 16), .inl (G.2.1, 4, .inl (fun _ => 0))), ((am 17), .inl (G.2.1, 4, .inl (fun _ => 0)))]) hC hK hl hP hD hS hA (c_shelf l G x (xs 1) (xs 2) (xs 3) (ad 0) (ad 1) (ad 2) (ad 3) (ad 4) (ad 5) (ad 6) (ad 7) (ad 8) (ad 9) (ad 69) (ad 70) (ad 71) (ad 72) (ad 73) (ad 74) (ad 10) (ad 11) (ad 12) (ad 13) (ad 14) (ad 15) (ad 16) (ad 17) (ad 18) (ad 19) (ad 21) (ad 26) (ad 27)) si_L_164 [0, 5, 8, 9, 10, 6, 7, 1, 2, 3, 4] [11, 12, 13, 14, 15, 16, 17] rfl rfl (by decide) rfl (by decide) (by decide) rfl rfl rfl rfl rfl (Nat.le_of_ble_eq_true rfl) ⟨Nat.le_of_ble_eq_true rfl, Nat.le_of_ble_eq_true rfl⟩ ⟨by first | exact Nat.le_of_ble_eq_true rfl | omega, by first | exact Nat.le_of_ble_eq_true rfl | omega⟩ dL_law_1543 (fun r1881 u1882 H locs hr1881 hP hD hS => ?_)
  have hP : va_P G.1 vwCl [(mm, .inr (12, [.ref (am 0), .ref (am 1), .int 0, .ref (am 2), .int 0, .ref (am 3), .int 0, .int (-1), .int 0, .int 0, .ref (am 4), .int 0, .int 0, .ref (am 5), .int 0, .int 0, .int 0, .int 0, .int 0, .int 0, .int 0, .ref (am 6), .ref (am 7), .ref (am 8), .ref (am 9), .ref (am 10), .ref (am 11), .int 0, .ref (am 12), .ref (am 13), .ref (am 14), .ref (am 15), .ref (am 16), .ref (am 17), .ref (am 18), .int 0, .int 0, .int 0, .int 0, .int 0, .int 0])), ((am 0), .inl (G.2.1, 1662, .inl NOW0)), ((am 12), .inl (G.2.1, 4, .inl (upd (upd (upd (upd (fun _ => 0) 0 (-1)) 1 (-1)) 2 (-1)) 3 (-1)))), ((am 13), .inl (G.2.1, 4, .inl (fun _ => 0))), ((am 15), .inl (G.2.1, 4, .inl (fun _ => 0))), ((am 16), .inl (G.2.1, 4, .inl (fun _ => 0))), ((am 17), .inl (G.2.1, 4, .inl (fun _ => 0)))] H := hP
  have hD : va_D A [(mm, .inr (12, [.ref (am 0), .ref (am 1), .int 0, .ref (am 2), .int 0, .ref (am 3), .int 0, .int (-1), .int 0, .int 0, .ref (am 4), .int 0, .int 0, .ref (am 5), .int 0, .int 0, .int 0, .int 0, .int 0, .int 0, .int 0, .ref (am 6), .ref (am 7), .ref (am 8), .ref (am 9), .ref (am 10), .ref (am 11), .int 0, .ref (am 12), .ref (am 13), .ref (am 14), .ref (am 15), .ref (am 16), .ref (am 17), .ref (am 18), .int 0, .int 0, .int 0, .int 0, .int 0, .int 0])), ((am 0), .inl (G.2.1, 1662, .inl NOW0)), ((am 12), .inl (G.2.1, 4, .inl (upd (upd (upd (upd (fun _ => 0) 0 (-1)) 1 (-1)) 2 (-1)) 3 (-1)))), ((am 13), .inl (G.2.1, 4, .inl (fun _ => 0))), ((am 15), .inl (G.2.1, 4, .inl (fun _ => 0))), ((am 16), .inl (G.2.1, 4, .inl (fun _ => 0))), ((am 17), .inl (G.2.1, 4, .inl (fun _ => 0)))] := hD
  obtain rfl := hr1881
  refine lv_aload_n hx hb dL_law_1546 rfl (lv_at hl 1 rfl) ?_
  refine lv_aload_n hx hb dL_law_1547 rfl (lv_at hl 3 rfl) ?_
  refine lv_iload_n hx hb dL_law_1548 rfl (lv_at hl 0 rfl) ?_
  refine lv_iconst (v := 1) hx hb dL_law_1549 (by decide) ?_
  refine lv_iadd hx hb dL_law_1550 ?_
  refine eqi (x1 := 1) (by decide) ?_
  refine va_sld hx hb hX hbl hbA hS (vin (by decide +kernel)) dL_law_1551 ?_
  refine eqi (x1 := xs 1) (congrArg xs (by decide +kernel)) ?_
  refine lv_aload_n hx hb dL_law_1552 rfl (lv_at hl 3 rfl) ?_
  refine lv_iload_n hx hb dL_law_1553 rfl (lv_at hl 0 rfl) ?_
  refine lv_iconst (v := 2) hx hb dL_law_1554 (by decide) ?_
  refine lv_iadd hx hb dL_law_1555 ?_
  refine eqi (x1 := 2) (by decide) ?_
  refine va_sld hx hb hX hbl hbA hS (vin (by decide +kernel)) dL_law_1556 ?_
  refine eqi (x1 := xs 2) (congrArg xs (by decide +kernel)) ?_
  refine lv_aload_n hx hb dL_law_1557 rfl (lv_at hl 3 rfl) ?_
  refine lv_iload_n hx hb dL_law_1558 rfl (lv_at hl 0 rfl) ?_
  refine lv_iconst (v := 3) hx hb dL_law_1559 (by decide) ?_
  refine lv_iadd hx hb dL_law_1560 ?_
  refine eqi (x1 := 3) (by decide) ?_
  refine va_sld hx hb hX hbl hbA hS (vin (by decide +kernel)) dL_law_1561 ?_
  refine eqi (x1 := xs 3) (congrArg xs (by decide +kernel)) ?_
  refine iV (wr := []) hC hK hl hP hD hS hA (m_shelf l G mm (xs 1) (xs 2) (xs 3) (am 0) (am 1) (am 2) (am 3) (am 4) (am 5) (am 6) (am 7) (am 8) (am 9) (am 10) (am 11) (am 12) (am 13) (am 14) (am 15) (am 16) (am 17) (am 18)) si_L_167 [0, 2, 3, 4, 5, 6, 1] [] rfl rfl (by decide) rfl (by decide) (by decide) rfl rfl rfl rfl rfl (Nat.le_of_ble_eq_true rfl) ⟨Nat.le_of_ble_eq_true rfl, Nat.le_of_ble_eq_true rfl⟩ ⟨by first | exact Nat.le_of_ble_eq_true rfl | omega, by first | exact Nat.le_of_ble_eq_true rfl | omega⟩ dL_law_1562 (fun r1884 u1885 H locs hr1884 hP hD hS => ?_)
  have hP : va_P G.1 vwCl [] H := hP
  have hD : va_D A [] := hD
  obtain rfl := hr1884
  refine lv_icmp_eq (tgt := 1718) hx hb dL_law_1565 (by decide) (fun _ => ?_) (fun c9 => absurd (rfl) c9)
  exact law_end hC hK hX hbl hbA hA hA2 hS (lv_sub hl [0, 1, 2, 3] rfl)
set_option maxHeartbeats 4000000 in
set_option maxRecDepth 100000 in
theorem law_36 {p : Program} {l : Launch} {e : Env} {s : State} {m : MethodId} {below : List Frame} {meth : Method} {c : Code} {b : Nat} {xs : Nat → Int32} {G : GG} {A : Nat → Prop} {H : Heap} {locs : List Loc} {ls : Array Slot} {x mm : Nat} {ad am : Nat → Nat} {hf : Nat → Option Nat} (hC : CX p s m meth c ⟨RL, meth.name, ""⟩ cL_law 4 ret #[Value.ref b]) (hK : KK G s) (hX : va_X b 7 xs s s.heap) (hbl : b < s.heap.size) (hbA : ¬ A b) (hA : ∀ q : Nat, s.heap.size ≤ q → A q) (hA2 : ∀ q : Nat, A q → s.heap.size ≤ q) (hhf : hf 0 = some (ad 59)) (hP : va_P G.1 vwCl (WLAW G x mm ad am hf) H) (hD : va_D A (WLAW G x mm ad am hf)) (hS : va_S A s.heap H locs) (hl : lv_has ls 4 [(3, .int 0), (2, .ref mm), (1, .ref x), (0, .ref b)]) : W p l e room_1 s m #[Value.ref b] below meth c H locs 123 9503 (lw_Z below #[Value.ref b] s) (F0 m 1570 ls []) := by
  obtain ⟨hx, hb, hr, hml, hB, hown, hlocks, hnm⟩ := id hC
  have hP := hP.sub (ws' := [(x, .inr (11, [.ref (ad 0), .ref (ad 1), .int 0, .ref (ad 2), .ref (ad 3), .ref (ad 4), .ref (ad 5), .ref (ad 6), .ref (ad 7), .ref (ad 8), .ref (ad 9)])), ((ad 8), .inr (4, [.ref (ad 69), .ref (ad 70), .ref (ad 71), .ref (ad 72), .ref (ad 73), .ref (ad 74)])), ((ad 72), .inl (G.2.1, 4, .inl (upd (upd (upd (upd (fun _ => 0) 0 4) 1 4) 2 4) 3 4))), (mm, .inr (12, [.ref (am 0), .ref (am 1), .int 0, .ref (am 2), .int 0, .ref (am 3), .int 0, .int (-1), .int 0, .int 0, .ref (am 4), .int 0, .int 0, .ref (am 5), .int 0, .int 0, .int 0, .int 0, .int 0, .int 0, .int 0, .ref (am 6), .ref (am 7), .ref (am 8), .ref (am 9), .ref (am 10), .ref (am 11), .int 0, .ref (am 12), .ref (am 13), .ref (am 14), .ref (am 15), .ref (am 16), .ref (am 17), .ref (am 18), .int 0, .int 0, .int 0, .int 0, .int 0, .int 0])), ((am 15), .inl (G.2.1, 4, .inl (fun _ => 0))), ((am 16), .inl (G.2.1, 4, .inl (fun _ => 0)))]) [0, 66, 70, 74, 83, 84] rfl
  have hD := hD.sub (ws' := [(x, .inr (11, [.ref (ad 0), .ref (ad 1), .int 0, .ref (ad 2), .ref (ad 3), .ref (ad 4), .ref (ad 5), .ref (ad 6), .ref (ad 7), .ref (ad 8), .ref (ad 9)])), ((ad 8), .inr (4, [.ref (ad 69), .ref (ad 70), .ref (ad 71), .ref (ad 72), .ref (ad 73), .ref (ad 74)])), ((ad 72), .inl (G.2.1, 4, .inl (upd (upd (upd (upd (fun _ => 0) 0 4) 1 4) 2 4) 3 4))), (mm, .inr (12, [.ref (am 0), .ref (am 1), .int 0, .ref (am 2), .int 0, .ref (am 3), .int 0, .int (-1), .int 0, .int 0, .ref (am 4), .int 0, .int 0, .ref (am 5), .int 0, .int 0, .int 0, .int 0, .int 0, .int 0, .int 0, .ref (am 6), .ref (am 7), .ref (am 8), .ref (am 9), .ref (am 10), .ref (am 11), .int 0, .ref (am 12), .ref (am 13), .ref (am 14), .ref (am 15), .ref (am 16), .ref (am 17), .ref (am 18), .int 0, .int 0, .int 0, .int 0, .int 0, .int 0])), ((am 15), .inl (G.2.1, 4, .inl (fun _ => 0))), ((am 16), .inl (G.2.1, 4, .inl (fun _ => 0)))]) [0, 66, 70, 74, 83, 84] (by decide) rfl
  refine lv_aload_n hx hb dL_law_1570 rfl (lv_at hl 2 rfl) ?_
  refine lv_aload_n hx hb dL_law_1571 rfl (lv_at hl 3 rfl) ?_
  refine lv_iload_n hx hb dL_law_1572 rfl (lv_at hl 0 rfl) ?_
  refine lv_iconst (v := 1) hx hb dL_law_1573 (by decide) ?_
  refine lv_iadd hx hb dL_law_1574 ?_
  refine eqi (x1 := 1) (by decide) ?_
  refine va_sld hx hb hX hbl hbA hS (vin (by decide +kernel)) dL_law_1575 ?_
  refine eqi (x1 := xs 1) (congrArg xs (by decide +kernel)) ?_
  refine lv_aload_n hx hb dL_law_1576 rfl (lv_at hl 3 rfl) ?_
  refine lv_iload_n hx hb dL_law_1577 rfl (lv_at hl 0 rfl) ?_
  refine lv_iconst (v := 2) hx hb dL_law_1578 (by decide) ?_
  refine lv_iadd hx hb dL_law_1579 ?_
  refine eqi (x1 := 2) (by decide) ?_
  refine va_sld hx hb hX hbl hbA hS (vin (by decide +kernel)) dL_law_1580 ?_
  refine eqi (x1 := xs 2) (congrArg xs (by decide +kernel)) ?_
  refine pV hC hK hl hP hD (c_taken l G x (xs 1) (xs 2) (ad 0) (ad 1) (ad 2) (ad 3) (ad 4) (ad 5) (ad 6) (ad 7) (ad 8) (ad 9) (ad 69) (ad 70) (ad 71) (ad 72) (ad 73) (ad 74)) si_L_168 [0, 1, 2] rfl rfl (by decide) rfl rfl rfl rfl rfl (Nat.le_of_ble_eq_true rfl) ⟨Nat.le_of_ble_eq_true rfl, Nat.le_of_ble_eq_true rfl⟩ ⟨by first | exact Nat.le_of_ble_eq_true rfl | exact Nat.zero_le _, by first | exact Nat.le_of_ble_eq_true rfl | exact Nat.zero_le _⟩ dL_law_1581 (fun r1887 hr1887 => ?_)
  obtain rfl := hr1887
  refine lv_aload_n hx hb dL_law_1584 rfl (lv_at hl 1 rfl) ?_
  refine lv_aload_n hx hb dL_law_1585 rfl (lv_at hl 3 rfl) ?_
  refine lv_iload_n hx hb dL_law_1586 rfl (lv_at hl 0 rfl) ?_
  refine lv_iconst (v := 1) hx hb dL_law_1587 (by decide) ?_
  refine lv_iadd hx hb dL_law_1588 ?_
  refine eqi (x1 := 1) (by decide) ?_
  refine va_sld hx hb hX hbl hbA hS (vin (by decide +kernel)) dL_law_1589 ?_
  refine eqi (x1 := xs 1) (congrArg xs (by decide +kernel)) ?_
  refine lv_aload_n hx hb dL_law_1590 rfl (lv_at hl 3 rfl) ?_
  refine lv_iload_n hx hb dL_law_1591 rfl (lv_at hl 0 rfl) ?_
  refine lv_iconst (v := 2) hx hb dL_law_1592 (by decide) ?_
  refine lv_iadd hx hb dL_law_1593 ?_
  refine eqi (x1 := 2) (by decide) ?_
  refine va_sld hx hb hX hbl hbA hS (vin (by decide +kernel)) dL_law_1594 ?_
  refine eqi (x1 := xs 2) (congrArg xs (by decide +kernel)) ?_
  refine pV hC hK hl hP hD (m_taken l G mm (xs 1) (xs 2) (am 0) (am 1) (am 2) (am 3) (am 4) (am 5) (am 6) (am 7) (am 8) (am 9) (am 10) (am 11) (am 12) (am 13) (am 14) (am 15) (am 16) (am 17) (am 18)) si_L_171 [3, 4, 5] rfl rfl (by decide) rfl rfl rfl rfl rfl (Nat.le_of_ble_eq_true rfl) ⟨Nat.le_of_ble_eq_true rfl, Nat.le_of_ble_eq_true rfl⟩ ⟨by first | exact Nat.le_of_ble_eq_true rfl | exact Nat.zero_le _, by first | exact Nat.le_of_ble_eq_true rfl | exact Nat.zero_le _⟩ dL_law_1595 (fun r1889 hr1889 => ?_)
  obtain rfl := hr1889
  refine lv_icmp_eq (tgt := 1718) hx hb dL_law_1598 (by decide) (fun _ => ?_) (fun c9 => absurd (rfl) c9)
  exact law_end hC hK hX hbl hbA hA hA2 hS (lv_sub hl [0, 1, 2, 3] rfl)
set_option maxHeartbeats 4000000 in
set_option maxRecDepth 100000 in
theorem law_37 {p : Program} {l : Launch} {e : Env} {s : State} {m : MethodId} {below : List Frame} {meth : Method} {c : Code} {b : Nat} {xs : Nat → Int32} {G : GG} {A : Nat → Prop} {H : Heap} {locs : List Loc} {ls : Array Slot} {x mm : Nat} {ad am : Nat → Nat} {hf : Nat → Option Nat} (hC : CX p s m meth c ⟨RL, meth.name, ""⟩ cL_law 4 ret #[Value.ref b]) (hK : KK G s) (hX : va_X b 7 xs s s.heap) (hbl : b < s.heap.size) (hbA : ¬ A b) (hA : ∀ q : Nat, s.heap.size ≤ q → A q) (hA2 : ∀ q : Nat, A q → s.heap.size ≤ q) (hhf : hf 0 = some (ad 59)) (hP : va_P G.1 vwCl (WLAW G x mm ad am hf) H) (hD : va_D A (WLAW G x mm ad am hf)) (hS : va_S A s.heap H locs) (hl : lv_has ls 4 [(3, .int 0), (2, .ref mm), (1, .ref x), (0, .ref b)]) : W p l e room_1 s m #[Value.ref b] below meth c H locs 123 9503 (lw_Z below #[Value.ref b] s) (F0 m 1603 ls []) := by
  obtain ⟨hx, hb, hr, hml, hB, hown, hlocks, hnm⟩ := id hC
  have hP := hP.sub (ws' := [(x, .inr (11, [.ref (ad 0), .ref (ad 1), .int 0, .ref (ad 2), .ref (ad 3), .ref (ad 4), .ref (ad 5), .ref (ad 6), .ref (ad 7), .ref (ad 8), .ref (ad 9)])), ((ad 8), .inr (4, [.ref (ad 69), .ref (ad 70), .ref (ad 71), .ref (ad 72), .ref (ad 73), .ref (ad 74)])), ((ad 72), .inl (G.2.1, 4, .inl (upd (upd (upd (upd (fun _ => 0) 0 4) 1 4) 2 4) 3 4))), ((ad 9), .inr (2, [.ref (ad 0), .ref (ad 75), .int 0, .int 0, .int 0, .int 0, .int 0, .int 0])), (mm, .inr (12, [.ref (am 0), .ref (am 1), .int 0, .ref (am 2), .int 0, .ref (am 3), .int 0, .int (-1), .int 0, .int 0, .ref (am 4), .int 0, .int 0, .ref (am 5), .int 0, .int 0, .int 0, .int 0, .int 0, .int 0, .int 0, .ref (am 6), .ref (am 7), .ref (am 8), .ref (am 9), .ref (am 10), .ref (am 11), .int 0, .ref (am 12), .ref (am 13), .ref (am 14), .ref (am 15), .ref (am 16), .ref (am 17), .ref (am 18), .int 0, .int 0, .int 0, .int 0, .int 0, .int 0])), ((am 15), .inl (G.2.1, 4, .inl (fun _ => 0))), ((am 16), .inl (G.2.1, 4, .inl (fun _ => 0)))]) [0, 66, 70, 73, 74, 83, 84] rfl
  have hD := hD.sub (ws' := [(x, .inr (11, [.ref (ad 0), .ref (ad 1), .int 0, .ref (ad 2), .ref (ad 3), .ref (ad 4), .ref (ad 5), .ref (ad 6), .ref (ad 7), .ref (ad 8), .ref (ad 9)])), ((ad 8), .inr (4, [.ref (ad 69), .ref (ad 70), .ref (ad 71), .ref (ad 72), .ref (ad 73), .ref (ad 74)])), ((ad 72), .inl (G.2.1, 4, .inl (upd (upd (upd (upd (fun _ => 0) 0 4) 1 4) 2 4) 3 4))), ((ad 9), .inr (2, [.ref (ad 0), .ref (ad 75), .int 0, .int 0, .int 0, .int 0, .int 0, .int 0])), (mm, .inr (12, [.ref (am 0), .ref (am 1), .int 0, .ref (am 2), .int 0, .ref (am 3), .int 0, .int (-1), .int 0, .int 0, .ref (am 4), .int 0, .int 0, .ref (am 5), .int 0, .int 0, .int 0, .int 0, .int 0, .int 0, .int 0, .ref (am 6), .ref (am 7), .ref (am 8), .ref (am 9), .ref (am 10), .ref (am 11), .int 0, .ref (am 12), .ref (am 13), .ref (am 14), .ref (am 15), .ref (am 16), .ref (am 17), .ref (am 18), .int 0, .int 0, .int 0, .int 0, .int 0, .int 0])), ((am 15), .inl (G.2.1, 4, .inl (fun _ => 0))), ((am 16), .inl (G.2.1, 4, .inl (fun _ => 0)))]) [0, 66, 70, 73, 74, 83, 84] (by decide) rfl
  refine lv_aload_n hx hb dL_law_1603 rfl (lv_at hl 2 rfl) ?_
  refine lv_aload_n hx hb dL_law_1604 rfl (lv_at hl 3 rfl) ?_
  refine lv_iload_n hx hb dL_law_1605 rfl (lv_at hl 0 rfl) ?_
  refine lv_iconst (v := 1) hx hb dL_law_1606 (by decide) ?_
  refine lv_iadd hx hb dL_law_1607 ?_
  refine eqi (x1 := 1) (by decide) ?_
  refine va_sld hx hb hX hbl hbA hS (vin (by decide +kernel)) dL_law_1608 ?_
  refine eqi (x1 := xs 1) (congrArg xs (by decide +kernel)) ?_
  refine lv_aload_n hx hb dL_law_1609 rfl (lv_at hl 3 rfl) ?_
  refine lv_iload_n hx hb dL_law_1610 rfl (lv_at hl 0 rfl) ?_
  refine lv_iconst (v := 2) hx hb dL_law_1611 (by decide) ?_
  refine lv_iadd hx hb dL_law_1612 ?_
  refine eqi (x1 := 2) (by decide) ?_
  refine va_sld hx hb hX hbl hbA hS (vin (by decide +kernel)) dL_law_1613 ?_
  refine eqi (x1 := xs 2) (congrArg xs (by decide +kernel)) ?_
  refine lv_aload_n hx hb dL_law_1614 rfl (lv_at hl 3 rfl) ?_
  refine lv_iload_n hx hb dL_law_1615 rfl (lv_at hl 0 rfl) ?_
  refine lv_iconst (v := 3) hx hb dL_law_1616 (by decide) ?_
  refine lv_iadd hx hb dL_law_1617 ?_
  refine eqi (x1 := 3) (by decide) ?_
  refine va_sld hx hb hX hbl hbA hS (vin (by decide +kernel)) dL_law_1618 ?_
  refine eqi (x1 := xs 3) (congrArg xs (by decide +kernel)) ?_
  refine iV (wr := [(mm, .inr (12, [.ref (am 0), .ref (am 1), .int 0, .ref (am 2), .int 0, .ref (am 3), .int 0, .int (-1), .int 0, .int 0, .ref (am 4), .int 0, .int 0, .ref (am 5), .int 0, .int 0, .int 0, .int 0, .int 0, .int 0, .int 0, .ref (am 6), .ref (am 7), .ref (am 8), .ref (am 9), .ref (am 10), .ref (am 11), .int 0, .ref (am 12), .ref (am 13), .ref (am 14), .ref (am 15), .ref (am 16), .ref (am 17), .ref (am 18), .int 0, .int 0, .int 0, .int 0, .int 0, .int 0])), ((am 15), .inl (G.2.1, 4, .inl (fun _ => 0))), ((am 16), .inl (G.2.1, 4, .inl (fun _ => 0)))]) hC hK hl hP hD hS hA (c_deal l G x (xs 1) (xs 2) (xs 3) (ad 0) (ad 1) (ad 2) (ad 3) (ad 4) (ad 5) (ad 6) (ad 7) (ad 8) (ad 9) (ad 69) (ad 70) (ad 71) (ad 72) (ad 73) (ad 74) (ad 75)) si_L_172 [0, 1, 2, 3] [4, 5, 6] rfl rfl (by decide) rfl (by decide) (by decide) rfl rfl rfl rfl rfl (Nat.le_of_ble_eq_true rfl) ⟨Nat.le_of_ble_eq_true rfl, Nat.le_of_ble_eq_true rfl⟩ ⟨by first | exact Nat.le_of_ble_eq_true rfl | omega, by first | exact Nat.le_of_ble_eq_true rfl | omega⟩ dL_law_1619 (fun r1891 u1892 H locs hr1891 hP hD hS => ?_)
  have hP : va_P G.1 vwCl [(mm, .inr (12, [.ref (am 0), .ref (am 1), .int 0, .ref (am 2), .int 0, .ref (am 3), .int 0, .int (-1), .int 0, .int 0, .ref (am 4), .int 0, .int 0, .ref (am 5), .int 0, .int 0, .int 0, .int 0, .int 0, .int 0, .int 0, .ref (am 6), .ref (am 7), .ref (am 8), .ref (am 9), .ref (am 10), .ref (am 11), .int 0, .ref (am 12), .ref (am 13), .ref (am 14), .ref (am 15), .ref (am 16), .ref (am 17), .ref (am 18), .int 0, .int 0, .int 0, .int 0, .int 0, .int 0])), ((am 15), .inl (G.2.1, 4, .inl (fun _ => 0))), ((am 16), .inl (G.2.1, 4, .inl (fun _ => 0)))] H := hP
  have hD : va_D A [(mm, .inr (12, [.ref (am 0), .ref (am 1), .int 0, .ref (am 2), .int 0, .ref (am 3), .int 0, .int (-1), .int 0, .int 0, .ref (am 4), .int 0, .int 0, .ref (am 5), .int 0, .int 0, .int 0, .int 0, .int 0, .int 0, .int 0, .ref (am 6), .ref (am 7), .ref (am 8), .ref (am 9), .ref (am 10), .ref (am 11), .int 0, .ref (am 12), .ref (am 13), .ref (am 14), .ref (am 15), .ref (am 16), .ref (am 17), .ref (am 18), .int 0, .int 0, .int 0, .int 0, .int 0, .int 0])), ((am 15), .inl (G.2.1, 4, .inl (fun _ => 0))), ((am 16), .inl (G.2.1, 4, .inl (fun _ => 0)))] := hD
  obtain rfl := hr1891
  refine lv_aload_n hx hb dL_law_1622 rfl (lv_at hl 1 rfl) ?_
  refine lv_aload_n hx hb dL_law_1623 rfl (lv_at hl 3 rfl) ?_
  refine lv_iload_n hx hb dL_law_1624 rfl (lv_at hl 0 rfl) ?_
  refine lv_iconst (v := 1) hx hb dL_law_1625 (by decide) ?_
  refine lv_iadd hx hb dL_law_1626 ?_
  refine eqi (x1 := 1) (by decide) ?_
  refine va_sld hx hb hX hbl hbA hS (vin (by decide +kernel)) dL_law_1627 ?_
  refine eqi (x1 := xs 1) (congrArg xs (by decide +kernel)) ?_
  refine lv_aload_n hx hb dL_law_1628 rfl (lv_at hl 3 rfl) ?_
  refine lv_iload_n hx hb dL_law_1629 rfl (lv_at hl 0 rfl) ?_
  refine lv_iconst (v := 2) hx hb dL_law_1630 (by decide) ?_
  refine lv_iadd hx hb dL_law_1631 ?_
  refine eqi (x1 := 2) (by decide) ?_
  refine va_sld hx hb hX hbl hbA hS (vin (by decide +kernel)) dL_law_1632 ?_
  refine eqi (x1 := xs 2) (congrArg xs (by decide +kernel)) ?_
  refine lv_aload_n hx hb dL_law_1633 rfl (lv_at hl 3 rfl) ?_
  refine lv_iload_n hx hb dL_law_1634 rfl (lv_at hl 0 rfl) ?_
  refine lv_iconst (v := 3) hx hb dL_law_1635 (by decide) ?_
  refine lv_iadd hx hb dL_law_1636 ?_
  refine eqi (x1 := 3) (by decide) ?_
  refine va_sld hx hb hX hbl hbA hS (vin (by decide +kernel)) dL_law_1637 ?_
  refine eqi (x1 := xs 3) (congrArg xs (by decide +kernel)) ?_
  refine iV (wr := []) hC hK hl hP hD hS hA (m_deal l G mm (xs 1) (xs 2) (xs 3) (am 0) (am 1) (am 2) (am 3) (am 4) (am 5) (am 6) (am 7) (am 8) (am 9) (am 10) (am 11) (am 12) (am 13) (am 14) (am 15) (am 16) (am 17) (am 18)) si_L_175 [0, 1, 2] [] rfl rfl (by decide) rfl (by decide) (by decide) rfl rfl rfl rfl rfl (Nat.le_of_ble_eq_true rfl) ⟨Nat.le_of_ble_eq_true rfl, Nat.le_of_ble_eq_true rfl⟩ ⟨by first | exact Nat.le_of_ble_eq_true rfl | omega, by first | exact Nat.le_of_ble_eq_true rfl | omega⟩ dL_law_1638 (fun r1894 u1895 H locs hr1894 hP hD hS => ?_)
  have hP : va_P G.1 vwCl [] H := hP
  have hD : va_D A [] := hD
  obtain rfl := hr1894
  refine lv_icmp_eq (tgt := 1718) hx hb dL_law_1641 (by decide) (fun _ => ?_) (fun c9 => absurd (by decide) c9)
  exact law_end hC hK hX hbl hbA hA hA2 hS (lv_sub hl [0, 1, 2, 3] rfl)
set_option maxHeartbeats 4000000 in
set_option maxRecDepth 100000 in
theorem law_38 {p : Program} {l : Launch} {e : Env} {s : State} {m : MethodId} {below : List Frame} {meth : Method} {c : Code} {b : Nat} {xs : Nat → Int32} {G : GG} {A : Nat → Prop} {H : Heap} {locs : List Loc} {ls : Array Slot} {x mm : Nat} {ad am : Nat → Nat} {hf : Nat → Option Nat} (hC : CX p s m meth c ⟨RL, meth.name, ""⟩ cL_law 4 ret #[Value.ref b]) (hK : KK G s) (hX : va_X b 7 xs s s.heap) (hbl : b < s.heap.size) (hbA : ¬ A b) (hA : ∀ q : Nat, s.heap.size ≤ q → A q) (hA2 : ∀ q : Nat, A q → s.heap.size ≤ q) (hhf : hf 0 = some (ad 59)) (hP : va_P G.1 vwCl (WLAW G x mm ad am hf) H) (hD : va_D A (WLAW G x mm ad am hf)) (hS : va_S A s.heap H locs) (hl : lv_has ls 4 [(3, .int 0), (2, .ref mm), (1, .ref x), (0, .ref b)]) : W p l e room_1 s m #[Value.ref b] below meth c H locs 123 9503 (lw_Z below #[Value.ref b] s) (F0 m 1646 ls []) := by
  obtain ⟨hx, hb, hr, hml, hB, hown, hlocks, hnm⟩ := id hC
  have hP := hP.sub (ws' := [(x, .inr (11, [.ref (ad 0), .ref (ad 1), .int 0, .ref (ad 2), .ref (ad 3), .ref (ad 4), .ref (ad 5), .ref (ad 6), .ref (ad 7), .ref (ad 8), .ref (ad 9)])), ((ad 9), .inr (2, [.ref (ad 0), .ref (ad 75), .int 0, .int 0, .int 0, .int 0, .int 0, .int 0])), (mm, .inr (12, [.ref (am 0), .ref (am 1), .int 0, .ref (am 2), .int 0, .ref (am 3), .int 0, .int (-1), .int 0, .int 0, .ref (am 4), .int 0, .int 0, .ref (am 5), .int 0, .int 0, .int 0, .int 0, .int 0, .int 0, .int 0, .ref (am 6), .ref (am 7), .ref (am 8), .ref (am 9), .ref (am 10), .ref (am 11), .int 0, .ref (am 12), .ref (am 13), .ref (am 14), .ref (am 15), .ref (am 16), .ref (am 17), .ref (am 18), .int 0, .int 0, .int 0, .int 0, .int 0, .int 0]))]) [0, 73, 74] rfl
  have hD := hD.sub (ws' := [(x, .inr (11, [.ref (ad 0), .ref (ad 1), .int 0, .ref (ad 2), .ref (ad 3), .ref (ad 4), .ref (ad 5), .ref (ad 6), .ref (ad 7), .ref (ad 8), .ref (ad 9)])), ((ad 9), .inr (2, [.ref (ad 0), .ref (ad 75), .int 0, .int 0, .int 0, .int 0, .int 0, .int 0])), (mm, .inr (12, [.ref (am 0), .ref (am 1), .int 0, .ref (am 2), .int 0, .ref (am 3), .int 0, .int (-1), .int 0, .int 0, .ref (am 4), .int 0, .int 0, .ref (am 5), .int 0, .int 0, .int 0, .int 0, .int 0, .int 0, .int 0, .ref (am 6), .ref (am 7), .ref (am 8), .ref (am 9), .ref (am 10), .ref (am 11), .int 0, .ref (am 12), .ref (am 13), .ref (am 14), .ref (am 15), .ref (am 16), .ref (am 17), .ref (am 18), .int 0, .int 0, .int 0, .int 0, .int 0, .int 0]))]) [0, 73, 74] (by decide) rfl
  refine lv_aload_n hx hb dL_law_1646 rfl (lv_at hl 2 rfl) ?_
  refine lv_aload_n hx hb dL_law_1647 rfl (lv_at hl 3 rfl) ?_
  refine lv_iload_n hx hb dL_law_1648 rfl (lv_at hl 0 rfl) ?_
  refine lv_iconst (v := 1) hx hb dL_law_1649 (by decide) ?_
  refine lv_iadd hx hb dL_law_1650 ?_
  refine eqi (x1 := 1) (by decide) ?_
  refine va_sld hx hb hX hbl hbA hS (vin (by decide +kernel)) dL_law_1651 ?_
  refine eqi (x1 := xs 1) (congrArg xs (by decide +kernel)) ?_
  refine pV hC hK hl hP hD (c_trace l G x (xs 1) (ad 0) (ad 1) (ad 2) (ad 3) (ad 4) (ad 5) (ad 6) (ad 7) (ad 8) (ad 9) (ad 75)) si_L_176 [0, 1] rfl rfl (by decide) rfl rfl rfl rfl rfl (Nat.le_of_ble_eq_true rfl) ⟨Nat.le_of_ble_eq_true rfl, Nat.le_of_ble_eq_true rfl⟩ ⟨by first | exact Nat.le_of_ble_eq_true rfl | exact Nat.zero_le _, by first | exact Nat.le_of_ble_eq_true rfl | exact Nat.zero_le _⟩ dL_law_1652 (fun r1897 hr1897 => ?_)
  obtain rfl := hr1897
  refine lv_aload_n hx hb dL_law_1655 rfl (lv_at hl 1 rfl) ?_
  refine lv_aload_n hx hb dL_law_1656 rfl (lv_at hl 3 rfl) ?_
  refine lv_iload_n hx hb dL_law_1657 rfl (lv_at hl 0 rfl) ?_
  refine lv_iconst (v := 1) hx hb dL_law_1658 (by decide) ?_
  refine lv_iadd hx hb dL_law_1659 ?_
  refine eqi (x1 := 1) (by decide) ?_
  refine va_sld hx hb hX hbl hbA hS (vin (by decide +kernel)) dL_law_1660 ?_
  refine eqi (x1 := xs 1) (congrArg xs (by decide +kernel)) ?_
  refine pV hC hK hl hP hD (m_trace l G mm (xs 1) (am 0) (am 1) (am 2) (am 3) (am 4) (am 5) (am 6) (am 7) (am 8) (am 9) (am 10) (am 11) (am 12) (am 13) (am 14) (am 15) (am 16) (am 17) (am 18)) si_L_179 [2] rfl rfl (by decide) rfl rfl rfl rfl rfl (Nat.le_of_ble_eq_true rfl) ⟨Nat.le_of_ble_eq_true rfl, Nat.le_of_ble_eq_true rfl⟩ ⟨by first | exact Nat.le_of_ble_eq_true rfl | exact Nat.zero_le _, by first | exact Nat.le_of_ble_eq_true rfl | exact Nat.zero_le _⟩ dL_law_1661 (fun r1899 hr1899 => ?_)
  obtain rfl := hr1899
  refine lv_icmp_eq (tgt := 1718) hx hb dL_law_1664 (by decide) (fun _ => ?_) (fun c9 => absurd (by decide) c9)
  exact law_end hC hK hX hbl hbA hA hA2 hS (lv_sub hl [0, 1, 2, 3] rfl)
set_option maxHeartbeats 4000000 in
set_option maxRecDepth 100000 in
theorem law_39 {p : Program} {l : Launch} {e : Env} {s : State} {m : MethodId} {below : List Frame} {meth : Method} {c : Code} {b : Nat} {xs : Nat → Int32} {G : GG} {A : Nat → Prop} {H : Heap} {locs : List Loc} {ls : Array Slot} {x mm : Nat} {ad am : Nat → Nat} {hf : Nat → Option Nat} (hC : CX p s m meth c ⟨RL, meth.name, ""⟩ cL_law 4 ret #[Value.ref b]) (hK : KK G s) (hX : va_X b 7 xs s s.heap) (hbl : b < s.heap.size) (hbA : ¬ A b) (hA : ∀ q : Nat, s.heap.size ≤ q → A q) (hA2 : ∀ q : Nat, A q → s.heap.size ≤ q) (hhf : hf 0 = some (ad 59)) (hP : va_P G.1 vwCl (WLAW G x mm ad am hf) H) (hD : va_D A (WLAW G x mm ad am hf)) (hS : va_S A s.heap H locs) (hl : lv_has ls 4 [(3, .int 0), (2, .ref mm), (1, .ref x), (0, .ref b)]) : W p l e room_1 s m #[Value.ref b] below meth c H locs 123 9503 (lw_Z below #[Value.ref b] s) (F0 m 1669 ls []) := by
  obtain ⟨hx, hb, hr, hml, hB, hown, hlocks, hnm⟩ := id hC
  have hP := hP.sub (ws' := [(x, .inr (11, [.ref (ad 0), .ref (ad 1), .int 0, .ref (ad 2), .ref (ad 3), .ref (ad 4), .ref (ad 5), .ref (ad 6), .ref (ad 7), .ref (ad 8), .ref (ad 9)])), ((ad 0), .inr (0, [.ref (ad 10), .ref (ad 11), .ref (ad 12), .ref (ad 13), .ref (ad 14), .ref (ad 15), .ref (ad 16), .ref (ad 17), .ref (ad 18), .ref (ad 19), .int 0, .int (-1), .int 3, .int 24])), ((ad 10), .inr (8, [.int 10, .int 2, .ref (ad 20), .int 0])), ((ad 11), .inr (8, [.int 12, .int 6, .ref (ad 21), .int 0])), ((ad 12), .inr (8, [.int 24, .int 3, .ref (ad 22), .int 0])), ((ad 13), .inr (8, [.int 8, .int 3, .ref (ad 23), .int 0])), ((ad 16), .inr (8, [.int 16, .int 8, .ref (ad 26), .int 0])), ((ad 17), .inr (8, [.int 12, .int 4, .ref (ad 27), .int 0])), ((ad 18), .inr (8, [.int 16, .int 3, .ref (ad 28), .int 0])), ((ad 19), .inr (8, [.int 7, .int 2, .ref (ad 29), .int 0])), ((ad 6), .inr (10, [.ref (ad 61), .int 0, .ref (ad 62), .ref (ad 63), .int (-1), .int 0, .int 0, .int (-1)])), ((ad 7), .inr (5, [.ref (ad 0), .ref (ad 66), .ref (ad 67), .int 0, .int 0, .int 0])), ((ad 66), .inr (8, [.int 7, .int 2, .ref (ad 68), .int 0])), ((ad 9), .inr (2, [.ref (ad 0), .ref (ad 75), .int 0, .int 0, .int 0, .int 0, .int 0, .int 0])), (mm, .inr (12, [.ref (am 0), .ref (am 1), .int 0, .ref (am 2), .int 0, .ref (am 3), .int 0, .int (-1), .int 0, .int 0, .ref (am 4), .int 0, .int 0, .ref (am 5), .int 0, .int 0, .int 0, .int 0, .int 0, .int 0, .int 0, .ref (am 6), .ref (am 7), .ref (am 8), .ref (am 9), .ref (am 10), .ref (am 11), .int 0, .ref (am 12), .ref (am 13), .ref (am 14), .ref (am 15), .ref (am 16), .ref (am 17), .ref (am 18), .int 0, .int 0, .int 0, .int 0, .int 0, .int 0])), ((am 0), .inl (G.2.1, 1662, .inl NOW0))]) [0, 1, 2, 4, 6, 8, 14, 16, 18, 20, 57, 63, 64, 73, 74, 75] rfl
  have hD := hD.sub (ws' := [(x, .inr (11, [.ref (ad 0), .ref (ad 1), .int 0, .ref (ad 2), .ref (ad 3), .ref (ad 4), .ref (ad 5), .ref (ad 6), .ref (ad 7), .ref (ad 8), .ref (ad 9)])), ((ad 0), .inr (0, [.ref (ad 10), .ref (ad 11), .ref (ad 12), .ref (ad 13), .ref (ad 14), .ref (ad 15), .ref (ad 16), .ref (ad 17), .ref (ad 18), .ref (ad 19), .int 0, .int (-1), .int 3, .int 24])), ((ad 10), .inr (8, [.int 10, .int 2, .ref (ad 20), .int 0])), ((ad 11), .inr (8, [.int 12, .int 6, .ref (ad 21), .int 0])), ((ad 12), .inr (8, [.int 24, .int 3, .ref (ad 22), .int 0])), ((ad 13), .inr (8, [.int 8, .int 3, .ref (ad 23), .int 0])), ((ad 16), .inr (8, [.int 16, .int 8, .ref (ad 26), .int 0])), ((ad 17), .inr (8, [.int 12, .int 4, .ref (ad 27), .int 0])), ((ad 18), .inr (8, [.int 16, .int 3, .ref (ad 28), .int 0])), ((ad 19), .inr (8, [.int 7, .int 2, .ref (ad 29), .int 0])), ((ad 6), .inr (10, [.ref (ad 61), .int 0, .ref (ad 62), .ref (ad 63), .int (-1), .int 0, .int 0, .int (-1)])), ((ad 7), .inr (5, [.ref (ad 0), .ref (ad 66), .ref (ad 67), .int 0, .int 0, .int 0])), ((ad 66), .inr (8, [.int 7, .int 2, .ref (ad 68), .int 0])), ((ad 9), .inr (2, [.ref (ad 0), .ref (ad 75), .int 0, .int 0, .int 0, .int 0, .int 0, .int 0])), (mm, .inr (12, [.ref (am 0), .ref (am 1), .int 0, .ref (am 2), .int 0, .ref (am 3), .int 0, .int (-1), .int 0, .int 0, .ref (am 4), .int 0, .int 0, .ref (am 5), .int 0, .int 0, .int 0, .int 0, .int 0, .int 0, .int 0, .ref (am 6), .ref (am 7), .ref (am 8), .ref (am 9), .ref (am 10), .ref (am 11), .int 0, .ref (am 12), .ref (am 13), .ref (am 14), .ref (am 15), .ref (am 16), .ref (am 17), .ref (am 18), .int 0, .int 0, .int 0, .int 0, .int 0, .int 0])), ((am 0), .inl (G.2.1, 1662, .inl NOW0))]) [0, 1, 2, 4, 6, 8, 14, 16, 18, 20, 57, 63, 64, 73, 74, 75] (by decide) rfl
  refine lv_aload_n hx hb dL_law_1669 rfl (lv_at hl 2 rfl) ?_
  refine lv_aload_n hx hb dL_law_1670 rfl (lv_at hl 3 rfl) ?_
  refine lv_iload_n hx hb dL_law_1671 rfl (lv_at hl 0 rfl) ?_
  refine lv_iconst (v := 1) hx hb dL_law_1672 (by decide) ?_
  refine lv_iadd hx hb dL_law_1673 ?_
  refine eqi (x1 := 1) (by decide) ?_
  refine va_sld hx hb hX hbl hbA hS (vin (by decide +kernel)) dL_law_1674 ?_
  refine eqi (x1 := xs 1) (congrArg xs (by decide +kernel)) ?_
  refine pV hC hK hl hP hD (c_many l G x (xs 1) (ad 0) (ad 1) (ad 2) (ad 3) (ad 4) (ad 5) (ad 6) (ad 7) (ad 8) (ad 9) (ad 10) (ad 11) (ad 12) (ad 13) (ad 14) (ad 15) (ad 16) (ad 17) (ad 18) (ad 19) (ad 20) (ad 21) (ad 22) (ad 23) (ad 26) (ad 27) (ad 28) (ad 29) (ad 66) (ad 67) (ad 68) (ad 61) (ad 62) (ad 63) (ad 75)) si_L_180 [0, 1, 2, 3, 4, 5, 6, 7, 8, 9, 11, 12, 10, 13] rfl rfl (by decide) rfl rfl rfl rfl rfl (Nat.le_of_ble_eq_true rfl) ⟨Nat.le_of_ble_eq_true rfl, Nat.le_of_ble_eq_true rfl⟩ ⟨by first | exact Nat.le_of_ble_eq_true rfl | exact Nat.zero_le _, by first | exact Nat.le_of_ble_eq_true rfl | exact Nat.zero_le _⟩ dL_law_1675 (fun r1901 hr1901 => ?_)
  obtain rfl := hr1901
  refine lv_aload_n hx hb dL_law_1678 rfl (lv_at hl 1 rfl) ?_
  refine lv_aload_n hx hb dL_law_1679 rfl (lv_at hl 3 rfl) ?_
  refine lv_iload_n hx hb dL_law_1680 rfl (lv_at hl 0 rfl) ?_
  refine lv_iconst (v := 1) hx hb dL_law_1681 (by decide) ?_
  refine lv_iadd hx hb dL_law_1682 ?_
  refine eqi (x1 := 1) (by decide) ?_
  refine va_sld hx hb hX hbl hbA hS (vin (by decide +kernel)) dL_law_1683 ?_
  refine eqi (x1 := xs 1) (congrArg xs (by decide +kernel)) ?_
  refine pV hC hK hl hP hD (m_many l G mm (xs 1) (am 0) (am 1) (am 2) (am 3) (am 4) (am 5) (am 6) (am 7) (am 8) (am 9) (am 10) (am 11) (am 12) (am 13) (am 14) (am 15) (am 16) (am 17) (am 18)) si_L_183 [14, 15] rfl rfl (by decide) rfl rfl rfl rfl rfl (Nat.le_of_ble_eq_true rfl) ⟨Nat.le_of_ble_eq_true rfl, Nat.le_of_ble_eq_true rfl⟩ ⟨by first | exact Nat.le_of_ble_eq_true rfl | exact Nat.zero_le _, by first | exact Nat.le_of_ble_eq_true rfl | exact Nat.zero_le _⟩ dL_law_1684 (fun r1903 hr1903 => ?_)
  obtain rfl := hr1903
  refine lv_icmp_eq (tgt := 1718) hx hb dL_law_1687 (by decide) (fun _ => ?_) (fun c9 => absurd (rfl) c9)
  exact law_end hC hK hX hbl hbA hA hA2 hS (lv_sub hl [0, 1, 2, 3] rfl)
set_option maxHeartbeats 4000000 in
set_option maxRecDepth 100000 in
theorem law_40 {p : Program} {l : Launch} {e : Env} {s : State} {m : MethodId} {below : List Frame} {meth : Method} {c : Code} {b : Nat} {xs : Nat → Int32} {G : GG} {A : Nat → Prop} {H : Heap} {locs : List Loc} {ls : Array Slot} {x mm : Nat} {ad am : Nat → Nat} {hf : Nat → Option Nat} (hC : CX p s m meth c ⟨RL, meth.name, ""⟩ cL_law 4 ret #[Value.ref b]) (hK : KK G s) (hX : va_X b 7 xs s s.heap) (hbl : b < s.heap.size) (hbA : ¬ A b) (hA : ∀ q : Nat, s.heap.size ≤ q → A q) (hA2 : ∀ q : Nat, A q → s.heap.size ≤ q) (hhf : hf 0 = some (ad 59)) (hP : va_P G.1 vwCl (WLAW G x mm ad am hf) H) (hD : va_D A (WLAW G x mm ad am hf)) (hS : va_S A s.heap H locs) (hl : lv_has ls 4 [(3, .int 0), (2, .ref mm), (1, .ref x), (0, .ref b)]) : W p l e room_1 s m #[Value.ref b] below meth c H locs 123 9503 (lw_Z below #[Value.ref b] s) (F0 m 1692 ls []) := by
  obtain ⟨hx, hb, hr, hml, hB, hown, hlocks, hnm⟩ := id hC
  have hP := hP.sub (ws' := [(x, .inr (11, [.ref (ad 0), .ref (ad 1), .int 0, .ref (ad 2), .ref (ad 3), .ref (ad 4), .ref (ad 5), .ref (ad 6), .ref (ad 7), .ref (ad 8), .ref (ad 9)])), ((ad 0), .inr (0, [.ref (ad 10), .ref (ad 11), .ref (ad 12), .ref (ad 13), .ref (ad 14), .ref (ad 15), .ref (ad 16), .ref (ad 17), .ref (ad 18), .ref (ad 19), .int 0, .int (-1), .int 3, .int 24])), ((ad 10), .inr (8, [.int 10, .int 2, .ref (ad 20), .int 0])), ((ad 20), .inl (G.2.1, 20, .inl (fun _ => 0))), ((ad 11), .inr (8, [.int 12, .int 6, .ref (ad 21), .int 0])), ((ad 21), .inl (G.2.1, 72, .inl (fun _ => 0))), ((ad 12), .inr (8, [.int 24, .int 3, .ref (ad 22), .int 0])), ((ad 22), .inl (G.2.1, 72, .inl (fun _ => 0))), ((ad 13), .inr (8, [.int 8, .int 3, .ref (ad 23), .int 0])), ((ad 23), .inl (G.2.1, 24, .inl (fun _ => 0))), ((ad 14), .inr (8, [.int 72, .int 7, .ref (ad 24), .int 0])), ((ad 24), .inl (G.2.1, 504, .inl (fun _ => 0))), ((ad 15), .inr (8, [.int 960, .int 1, .ref (ad 25), .int 0])), ((ad 25), .inl (G.2.1, 960, .inl (fun _ => 0))), ((ad 16), .inr (8, [.int 16, .int 8, .ref (ad 26), .int 0])), ((ad 26), .inl (G.2.1, 128, .inl (fun _ => 0))), ((ad 17), .inr (8, [.int 12, .int 4, .ref (ad 27), .int 0])), ((ad 27), .inl (G.2.1, 48, .inl (fun _ => 0))), ((ad 18), .inr (8, [.int 16, .int 3, .ref (ad 28), .int 0])), ((ad 28), .inl (G.2.1, 48, .inl (fun _ => 0))), ((ad 19), .inr (8, [.int 7, .int 2, .ref (ad 29), .int 0])), ((ad 29), .inl (G.2.1, 14, .inl (fun _ => 0))), ((ad 1), .inr (0, [.ref (ad 30), .ref (ad 31), .ref (ad 32), .ref (ad 33), .ref (ad 34), .ref (ad 35), .ref (ad 36), .ref (ad 37), .ref (ad 38), .ref (ad 39), .int 0, .int (-1), .int 3, .int 24])), ((ad 30), .inr (8, [.int 10, .int 2, .ref (ad 40), .int 0])), ((ad 40), .inl (G.2.1, 20, .inl (fun _ => 0))), ((ad 31), .inr (8, [.int 12, .int 6, .ref (ad 41), .int 0])), ((ad 41), .inl (G.2.1, 72, .inl (fun _ => 0))), ((ad 32), .inr (8, [.int 24, .int 3, .ref (ad 42), .int 0])), ((ad 42), .inl (G.2.1, 72, .inl (fun _ => 0))), ((ad 33), .inr (8, [.int 8, .int 3, .ref (ad 43), .int 0])), ((ad 43), .inl (G.2.1, 24, .inl (fun _ => 0))), ((ad 34), .inr (8, [.int 72, .int 7, .ref (ad 44), .int 0])), ((ad 44), .inl (G.2.1, 504, .inl (fun _ => 0))), ((ad 35), .inr (8, [.int 960, .int 1, .ref (ad 45), .int 0])), ((ad 45), .inl (G.2.1, 960, .inl (fun _ => 0))), ((ad 36), .inr (8, [.int 16, .int 8, .ref (ad 46), .int 0])), ((ad 46), .inl (G.2.1, 128, .inl (fun _ => 0))), ((ad 37), .inr (8, [.int 12, .int 4, .ref (ad 47), .int 0])), ((ad 47), .inl (G.2.1, 48, .inl (fun _ => 0))), ((ad 38), .inr (8, [.int 16, .int 3, .ref (ad 48), .int 0])), ((ad 48), .inl (G.2.1, 48, .inl (fun _ => 0))), ((ad 39), .inr (8, [.int 7, .int 2, .ref (ad 49), .int 0])), ((ad 49), .inl (G.2.1, 14, .inl (fun _ => 0))), (mm, .inr (12, [.ref (am 0), .ref (am 1), .int 0, .ref (am 2), .int 0, .ref (am 3), .int 0, .int (-1), .int 0, .int 0, .ref (am 4), .int 0, .int 0, .ref (am 5), .int 0, .int 0, .int 0, .int 0, .int 0, .int 0, .int 0, .ref (am 6), .ref (am 7), .ref (am 8), .ref (am 9), .ref (am 10), .ref (am 11), .int 0, .ref (am 12), .ref (am 13), .ref (am 14), .ref (am 15), .ref (am 16), .ref (am 17), .ref (am 18), .int 0, .int 0, .int 0, .int 0, .int 0, .int 0])), ((am 0), .inl (G.2.1, 1662, .inl NOW0)), ((am 1), .inl (G.2.1, 1662, .inl (fun _ => 0)))]) [0, 1, 2, 3, 4, 5, 6, 7, 8, 9, 10, 11, 12, 13, 14, 15, 16, 17, 18, 19, 20, 21, 22, 23, 24, 25, 26, 27, 28, 29, 30, 31, 32, 33, 34, 35, 36, 37, 38, 39, 40, 41, 42, 74, 75, 76] rfl
  have hD := hD.sub (ws' := [(x, .inr (11, [.ref (ad 0), .ref (ad 1), .int 0, .ref (ad 2), .ref (ad 3), .ref (ad 4), .ref (ad 5), .ref (ad 6), .ref (ad 7), .ref (ad 8), .ref (ad 9)])), ((ad 0), .inr (0, [.ref (ad 10), .ref (ad 11), .ref (ad 12), .ref (ad 13), .ref (ad 14), .ref (ad 15), .ref (ad 16), .ref (ad 17), .ref (ad 18), .ref (ad 19), .int 0, .int (-1), .int 3, .int 24])), ((ad 10), .inr (8, [.int 10, .int 2, .ref (ad 20), .int 0])), ((ad 20), .inl (G.2.1, 20, .inl (fun _ => 0))), ((ad 11), .inr (8, [.int 12, .int 6, .ref (ad 21), .int 0])), ((ad 21), .inl (G.2.1, 72, .inl (fun _ => 0))), ((ad 12), .inr (8, [.int 24, .int 3, .ref (ad 22), .int 0])), ((ad 22), .inl (G.2.1, 72, .inl (fun _ => 0))), ((ad 13), .inr (8, [.int 8, .int 3, .ref (ad 23), .int 0])), ((ad 23), .inl (G.2.1, 24, .inl (fun _ => 0))), ((ad 14), .inr (8, [.int 72, .int 7, .ref (ad 24), .int 0])), ((ad 24), .inl (G.2.1, 504, .inl (fun _ => 0))), ((ad 15), .inr (8, [.int 960, .int 1, .ref (ad 25), .int 0])), ((ad 25), .inl (G.2.1, 960, .inl (fun _ => 0))), ((ad 16), .inr (8, [.int 16, .int 8, .ref (ad 26), .int 0])), ((ad 26), .inl (G.2.1, 128, .inl (fun _ => 0))), ((ad 17), .inr (8, [.int 12, .int 4, .ref (ad 27), .int 0])), ((ad 27), .inl (G.2.1, 48, .inl (fun _ => 0))), ((ad 18), .inr (8, [.int 16, .int 3, .ref (ad 28), .int 0])), ((ad 28), .inl (G.2.1, 48, .inl (fun _ => 0))), ((ad 19), .inr (8, [.int 7, .int 2, .ref (ad 29), .int 0])), ((ad 29), .inl (G.2.1, 14, .inl (fun _ => 0))), ((ad 1), .inr (0, [.ref (ad 30), .ref (ad 31), .ref (ad 32), .ref (ad 33), .ref (ad 34), .ref (ad 35), .ref (ad 36), .ref (ad 37), .ref (ad 38), .ref (ad 39), .int 0, .int (-1), .int 3, .int 24])), ((ad 30), .inr (8, [.int 10, .int 2, .ref (ad 40), .int 0])), ((ad 40), .inl (G.2.1, 20, .inl (fun _ => 0))), ((ad 31), .inr (8, [.int 12, .int 6, .ref (ad 41), .int 0])), ((ad 41), .inl (G.2.1, 72, .inl (fun _ => 0))), ((ad 32), .inr (8, [.int 24, .int 3, .ref (ad 42), .int 0])), ((ad 42), .inl (G.2.1, 72, .inl (fun _ => 0))), ((ad 33), .inr (8, [.int 8, .int 3, .ref (ad 43), .int 0])), ((ad 43), .inl (G.2.1, 24, .inl (fun _ => 0))), ((ad 34), .inr (8, [.int 72, .int 7, .ref (ad 44), .int 0])), ((ad 44), .inl (G.2.1, 504, .inl (fun _ => 0))), ((ad 35), .inr (8, [.int 960, .int 1, .ref (ad 45), .int 0])), ((ad 45), .inl (G.2.1, 960, .inl (fun _ => 0))), ((ad 36), .inr (8, [.int 16, .int 8, .ref (ad 46), .int 0])), ((ad 46), .inl (G.2.1, 128, .inl (fun _ => 0))), ((ad 37), .inr (8, [.int 12, .int 4, .ref (ad 47), .int 0])), ((ad 47), .inl (G.2.1, 48, .inl (fun _ => 0))), ((ad 38), .inr (8, [.int 16, .int 3, .ref (ad 48), .int 0])), ((ad 48), .inl (G.2.1, 48, .inl (fun _ => 0))), ((ad 39), .inr (8, [.int 7, .int 2, .ref (ad 49), .int 0])), ((ad 49), .inl (G.2.1, 14, .inl (fun _ => 0))), (mm, .inr (12, [.ref (am 0), .ref (am 1), .int 0, .ref (am 2), .int 0, .ref (am 3), .int 0, .int (-1), .int 0, .int 0, .ref (am 4), .int 0, .int 0, .ref (am 5), .int 0, .int 0, .int 0, .int 0, .int 0, .int 0, .int 0, .ref (am 6), .ref (am 7), .ref (am 8), .ref (am 9), .ref (am 10), .ref (am 11), .int 0, .ref (am 12), .ref (am 13), .ref (am 14), .ref (am 15), .ref (am 16), .ref (am 17), .ref (am 18), .int 0, .int 0, .int 0, .int 0, .int 0, .int 0])), ((am 0), .inl (G.2.1, 1662, .inl NOW0)), ((am 1), .inl (G.2.1, 1662, .inl (fun _ => 0)))]) [0, 1, 2, 3, 4, 5, 6, 7, 8, 9, 10, 11, 12, 13, 14, 15, 16, 17, 18, 19, 20, 21, 22, 23, 24, 25, 26, 27, 28, 29, 30, 31, 32, 33, 34, 35, 36, 37, 38, 39, 40, 41, 42, 74, 75, 76] (by decide) rfl
  refine lv_aload_n hx hb dL_law_1692 rfl (lv_at hl 2 rfl) ?_
  refine iV (wr := [(mm, .inr (12, [.ref (am 0), .ref (am 1), .int 0, .ref (am 2), .int 0, .ref (am 3), .int 0, .int (-1), .int 0, .int 0, .ref (am 4), .int 0, .int 0, .ref (am 5), .int 0, .int 0, .int 0, .int 0, .int 0, .int 0, .int 0, .ref (am 6), .ref (am 7), .ref (am 8), .ref (am 9), .ref (am 10), .ref (am 11), .int 0, .ref (am 12), .ref (am 13), .ref (am 14), .ref (am 15), .ref (am 16), .ref (am 17), .ref (am 18), .int 0, .int 0, .int 0, .int 0, .int 0, .int 0])), ((am 0), .inl (G.2.1, 1662, .inl NOW0)), ((am 1), .inl (G.2.1, 1662, .inl (fun _ => 0)))]) hC hK hl hP hD hS hA (c_keep l G x (ad 0) (ad 1) (ad 2) (ad 3) (ad 4) (ad 5) (ad 6) (ad 7) (ad 8) (ad 9) (ad 30) (ad 31) (ad 32) (ad 33) (ad 34) (ad 35) (ad 36) (ad 37) (ad 38) (ad 39) (ad 40) (ad 41) (ad 42) (ad 43) (ad 44) (ad 45) (ad 46) (ad 47) (ad 48) (ad 49) (ad 10) (ad 11) (ad 12) (ad 13) (ad 14) (ad 15) (ad 16) (ad 17) (ad 18) (ad 19) (ad 20) (ad 21) (ad 22) (ad 23) (ad 24) (ad 25) (ad 26) (ad 27) (ad 28) (ad 29)) si_L_184 [0, 22, 23, 24, 25, 26, 27, 28, 29, 30, 31, 32, 33, 34, 35, 36, 37, 38, 39, 40, 41, 42, 1, 2, 3, 4, 5, 6, 7, 8, 9, 10, 11, 12, 13, 14, 15, 16, 17, 18, 19, 20, 21] [43, 44, 45] rfl rfl (by decide) rfl (by decide) (by decide) rfl rfl rfl rfl rfl (Nat.le_of_ble_eq_true rfl) ⟨Nat.le_of_ble_eq_true rfl, Nat.le_of_ble_eq_true rfl⟩ ⟨by first | exact Nat.le_of_ble_eq_true rfl | omega, by first | exact Nat.le_of_ble_eq_true rfl | omega⟩ dL_law_1693 (fun r1905 u1906 H locs hr1905 hP hD hS => ?_)
  have hP : va_P G.1 vwCl [(mm, .inr (12, [.ref (am 0), .ref (am 1), .int 0, .ref (am 2), .int 0, .ref (am 3), .int 0, .int (-1), .int 0, .int 0, .ref (am 4), .int 0, .int 0, .ref (am 5), .int 0, .int 0, .int 0, .int 0, .int 0, .int 0, .int 0, .ref (am 6), .ref (am 7), .ref (am 8), .ref (am 9), .ref (am 10), .ref (am 11), .int 0, .ref (am 12), .ref (am 13), .ref (am 14), .ref (am 15), .ref (am 16), .ref (am 17), .ref (am 18), .int 0, .int 0, .int 0, .int 0, .int 0, .int 0])), ((am 0), .inl (G.2.1, 1662, .inl NOW0)), ((am 1), .inl (G.2.1, 1662, .inl (fun _ => 0)))] H := hP
  have hD : va_D A [(mm, .inr (12, [.ref (am 0), .ref (am 1), .int 0, .ref (am 2), .int 0, .ref (am 3), .int 0, .int (-1), .int 0, .int 0, .ref (am 4), .int 0, .int 0, .ref (am 5), .int 0, .int 0, .int 0, .int 0, .int 0, .int 0, .int 0, .ref (am 6), .ref (am 7), .ref (am 8), .ref (am 9), .ref (am 10), .ref (am 11), .int 0, .ref (am 12), .ref (am 13), .ref (am 14), .ref (am 15), .ref (am 16), .ref (am 17), .ref (am 18), .int 0, .int 0, .int 0, .int 0, .int 0, .int 0])), ((am 0), .inl (G.2.1, 1662, .inl NOW0)), ((am 1), .inl (G.2.1, 1662, .inl (fun _ => 0)))] := hD
  obtain rfl := hr1905
  refine lv_aload_n hx hb dL_law_1696 rfl (lv_at hl 1 rfl) ?_
  refine iV (wr := []) hC hK hl hP hD hS hA (m_keep l G mm (am 0) (am 1) (am 2) (am 3) (am 4) (am 5) (am 6) (am 7) (am 8) (am 9) (am 10) (am 11) (am 12) (am 13) (am 14) (am 15) (am 16) (am 17) (am 18)) si_L_187 [0, 1, 2] [] rfl rfl (by decide) rfl (by decide) (by decide) rfl rfl rfl rfl rfl (Nat.le_of_ble_eq_true rfl) ⟨Nat.le_of_ble_eq_true rfl, Nat.le_of_ble_eq_true rfl⟩ ⟨by first | exact Nat.le_of_ble_eq_true rfl | omega, by first | exact Nat.le_of_ble_eq_true rfl | omega⟩ dL_law_1697 (fun r1908 u1909 H locs hr1908 hP hD hS => ?_)
  have hP : va_P G.1 vwCl [] H := hP
  have hD : va_D A [] := hD
  obtain rfl := hr1908
  refine lv_icmp_eq (tgt := 1718) hx hb dL_law_1700 (by decide) (fun _ => ?_) (fun c9 => absurd (by decide) c9)
  exact law_end hC hK hX hbl hbA hA hA2 hS (lv_sub hl [0, 1, 2, 3] rfl)
set_option maxHeartbeats 4000000 in
set_option maxRecDepth 100000 in
theorem law_41 {p : Program} {l : Launch} {e : Env} {s : State} {m : MethodId} {below : List Frame} {meth : Method} {c : Code} {b : Nat} {xs : Nat → Int32} {G : GG} {A : Nat → Prop} {H : Heap} {locs : List Loc} {ls : Array Slot} {x mm : Nat} {ad am : Nat → Nat} {hf : Nat → Option Nat} (hC : CX p s m meth c ⟨RL, meth.name, ""⟩ cL_law 4 ret #[Value.ref b]) (hK : KK G s) (hX : va_X b 7 xs s s.heap) (hbl : b < s.heap.size) (hbA : ¬ A b) (hA : ∀ q : Nat, s.heap.size ≤ q → A q) (hA2 : ∀ q : Nat, A q → s.heap.size ≤ q) (hhf : hf 0 = some (ad 59)) (hP : va_P G.1 vwCl (WLAW G x mm ad am hf) H) (hD : va_D A (WLAW G x mm ad am hf)) (hS : va_S A s.heap H locs) (hl : lv_has ls 4 [(3, .int 0), (2, .ref mm), (1, .ref x), (0, .ref b)]) : W p l e room_1 s m #[Value.ref b] below meth c H locs 123 9503 (lw_Z below #[Value.ref b] s) (F0 m 1705 ls []) := by
  obtain ⟨hx, hb, hr, hml, hB, hown, hlocks, hnm⟩ := id hC
  have hP := hP.sub (ws' := [(x, .inr (11, [.ref (ad 0), .ref (ad 1), .int 0, .ref (ad 2), .ref (ad 3), .ref (ad 4), .ref (ad 5), .ref (ad 6), .ref (ad 7), .ref (ad 8), .ref (ad 9)])), (mm, .inr (12, [.ref (am 0), .ref (am 1), .int 0, .ref (am 2), .int 0, .ref (am 3), .int 0, .int (-1), .int 0, .int 0, .ref (am 4), .int 0, .int 0, .ref (am 5), .int 0, .int 0, .int 0, .int 0, .int 0, .int 0, .int 0, .ref (am 6), .ref (am 7), .ref (am 8), .ref (am 9), .ref (am 10), .ref (am 11), .int 0, .ref (am 12), .ref (am 13), .ref (am 14), .ref (am 15), .ref (am 16), .ref (am 17), .ref (am 18), .int 0, .int 0, .int 0, .int 0, .int 0, .int 0]))]) [0, 74] rfl
  have hD := hD.sub (ws' := [(x, .inr (11, [.ref (ad 0), .ref (ad 1), .int 0, .ref (ad 2), .ref (ad 3), .ref (ad 4), .ref (ad 5), .ref (ad 6), .ref (ad 7), .ref (ad 8), .ref (ad 9)])), (mm, .inr (12, [.ref (am 0), .ref (am 1), .int 0, .ref (am 2), .int 0, .ref (am 3), .int 0, .int (-1), .int 0, .int 0, .ref (am 4), .int 0, .int 0, .ref (am 5), .int 0, .int 0, .int 0, .int 0, .int 0, .int 0, .int 0, .ref (am 6), .ref (am 7), .ref (am 8), .ref (am 9), .ref (am 10), .ref (am 11), .int 0, .ref (am 12), .ref (am 13), .ref (am 14), .ref (am 15), .ref (am 16), .ref (am 17), .ref (am 18), .int 0, .int 0, .int 0, .int 0, .int 0, .int 0]))]) [0, 74] (by decide) rfl
  refine lv_aload_n hx hb dL_law_1705 rfl (lv_at hl 2 rfl) ?_
  refine pV hC hK hl hP hD (c_again l G x (ad 0) (ad 1) (ad 2) (ad 3) (ad 4) (ad 5) (ad 6) (ad 7) (ad 8) (ad 9)) si_L_188 [0] rfl rfl (by decide) rfl rfl rfl rfl rfl (Nat.le_of_ble_eq_true rfl) ⟨Nat.le_of_ble_eq_true rfl, Nat.le_of_ble_eq_true rfl⟩ ⟨by first | exact Nat.le_of_ble_eq_true rfl | exact Nat.zero_le _, by first | exact Nat.le_of_ble_eq_true rfl | exact Nat.zero_le _⟩ dL_law_1706 (fun r1911 hr1911 => ?_)
  obtain rfl := hr1911
  refine lv_aload_n hx hb dL_law_1709 rfl (lv_at hl 1 rfl) ?_
  refine pV hC hK hl hP hD (m_again l G mm (am 0) (am 1) (am 2) (am 3) (am 4) (am 5) (am 6) (am 7) (am 8) (am 9) (am 10) (am 11) (am 12) (am 13) (am 14) (am 15) (am 16) (am 17) (am 18)) si_L_191 [1] rfl rfl (by decide) rfl rfl rfl rfl rfl (Nat.le_of_ble_eq_true rfl) ⟨Nat.le_of_ble_eq_true rfl, Nat.le_of_ble_eq_true rfl⟩ ⟨by first | exact Nat.le_of_ble_eq_true rfl | exact Nat.zero_le _, by first | exact Nat.le_of_ble_eq_true rfl | exact Nat.zero_le _⟩ dL_law_1710 (fun r1913 hr1913 => ?_)
  obtain rfl := hr1913
  refine lv_icmp_eq (tgt := 1718) hx hb dL_law_1713 (by decide) (fun _ => ?_) (fun c9 => absurd (by decide) c9)
  exact law_end hC hK hX hbl hbA hA hA2 hS (lv_sub hl [0, 1, 2, 3] rfl)
