theorem pl_W_law : (am_pg z_W_law).1 = 4 := rfl
theorem pm_W_law : (am_pg z_W_law).2 = am_at rw_W_law := rfl
theorem rl_W_law_0 : (am_pg z_W_law).2 0 = some (.new 7, 3, 8, 0, 0, 0, 0, []) := (congrFun pm_W_law 0).trans rfl
theorem rl_W_law_3 : (am_pg z_W_law).2 3 = some (.dup, 4, 0, 0, 0, 0, 0, []) := (congrFun pm_W_law 3).trans rfl
theorem rl_W_law_4 : (am_pg z_W_law).2 4 = some (.invokespecial 9, 7, 0, 0, 0, 0, 0, []) := (congrFun pm_W_law 4).trans rfl
theorem rl_W_law_7 : (am_pg z_W_law).2 7 = some (.astore_n 1, 8, 1, 0, 0, 0, 0, []) := (congrFun pm_W_law 7).trans rfl
theorem rl_W_law_8 : (am_pg z_W_law).2 8 = some (.new 10, 11, 9, 0, 0, 10, 0, []) := (congrFun pm_W_law 8).trans rfl
theorem rl_W_law_11 : (am_pg z_W_law).2 11 = some (.dup, 12, 0, 0, 0, 0, 0, []) := (congrFun pm_W_law 11).trans rfl
theorem rl_W_law_12 : (am_pg z_W_law).2 12 = some (.invokespecial 12, 15, 83, 0, 0, 204, 0, []) := (congrFun pm_W_law 12).trans rfl
theorem rl_W_law_15 : (am_pg z_W_law).2 15 = some (.astore_n 2, 16, 2, 0, 0, 0, 0, []) := (congrFun pm_W_law 15).trans rfl
theorem rl_W_law_16 : (am_pg z_W_law).2 16 = some (.iconst (0), 17, 0, 0, 0, 0, 0, []) := (congrFun pm_W_law 16).trans rfl
theorem rl_W_law_17 : (am_pg z_W_law).2 17 = some (.istore_n 3, 18, 3, 0, 0, 0, 0, []) := (congrFun pm_W_law 17).trans rfl
theorem rl_W_law_18 : (am_pg z_W_law).2 18 = some (.iload_n 3, 19, 3, 0, 0, 0, 0, []) := (congrFun pm_W_law 18).trans rfl
theorem rl_W_law_19 : (am_pg z_W_law).2 19 = some (.aload_n 0, 20, 0, 0, 0, 0, 0, []) := (congrFun pm_W_law 19).trans rfl
theorem rl_W_law_20 : (am_pg z_W_law).2 20 = some (.arraylength, 21, 0, 0, 0, 0, 0, []) := (congrFun pm_W_law 20).trans rfl
theorem rl_W_law_21 : (am_pg z_W_law).2 21 = some (.bipush (6), 23, 0, 0, 0, 0, 6, []) := (congrFun pm_W_law 21).trans rfl
theorem rl_W_law_23 : (am_pg z_W_law).2 23 = some (.isub, 24, 0, 0, 0, 0, 0, []) := (congrFun pm_W_law 23).trans rfl
theorem rl_W_law_24 : (am_pg z_W_law).2 24 = some (.if_icmp .gt (2455), 27, 2479, 0, 0, 0, 0, []) := (congrFun pm_W_law 24).trans rfl
theorem rl_W_law_27 : (am_pg z_W_law).2 27 = some (.aload_n 0, 28, 0, 0, 0, 0, 0, []) := (congrFun pm_W_law 27).trans rfl
theorem rl_W_law_28 : (am_pg z_W_law).2 28 = some (.iload_n 3, 29, 3, 0, 0, 0, 0, []) := (congrFun pm_W_law 28).trans rfl
theorem rl_W_law_29 : (am_pg z_W_law).2 29 = some (.iaload, 30, 0, 0, 0, 0, 0, []) := (congrFun pm_W_law 29).trans rfl
theorem rl_W_law_30 : (am_pg z_W_law).2 30 = some (.bipush (63), 32, 0, 0, 0, 0, 63, []) := (congrFun pm_W_law 30).trans rfl
theorem rl_W_law_32 : (am_pg z_W_law).2 32 = some (.iand, 33, 0, 0, 0, 0, 0, []) := (congrFun pm_W_law 32).trans rfl
theorem rl_W_law_33 : (am_pg z_W_law).2 33 = some (.tableswitch (2440) (0) (58) #[251, 314, 337, 380, 449, 492, 541, 584, 617, 640, 683, 726, 759, 792, 835, 878, 911, 944, 977, 1020, 1053, 1096, 1149, 1192, 1225, 1258, 1301, 1344, 1377, 1420, 1473, 1506, 1549, 1582, 1615, 1628, 1661, 1684, 1717, 1760, 1803, 1826, 1859, 1902, 1925, 1968, 2001, 2044, 2077, 2120, 2153, 2186, 2219, 2252, 2315, 2348, 2391, 2414, 2427], 284, 2473, 0, 0, 0, 0, [(0, 284), (1, 347), (2, 370), (3, 413), (4, 482), (5, 525), (6, 574), (7, 617), (8, 650), (9, 673), (10, 716), (11, 759), (12, 792), (13, 825), (14, 868), (15, 911), (16, 944), (17, 977), (18, 1010), (19, 1053), (20, 1086), (21, 1129), (22, 1182), (23, 1225), (24, 1258), (25, 1291), (26, 1334), (27, 1377), (28, 1410), (29, 1453), (30, 1506), (31, 1539), (32, 1582), (33, 1615), (34, 1648), (35, 1661), (36, 1694), (37, 1717), (38, 1750), (39, 1793), (40, 1836), (41, 1859), (42, 1892), (43, 1935), (44, 1958), (45, 2001), (46, 2034), (47, 2077), (48, 2110), (49, 2153), (50, 2186), (51, 2219), (52, 2252), (53, 2285), (54, 2348), (55, 2381), (56, 2424), (57, 2447), (58, 2460)]) := (congrFun pm_W_law 33).trans rfl
theorem rl_W_law_284 : (am_pg z_W_law).2 284 = some (.aload_n 1, 285, 1, 0, 0, 0, 0, []) := (congrFun pm_W_law 284).trans rfl
theorem rl_W_law_285 : (am_pg z_W_law).2 285 = some (.aload_n 0, 286, 0, 0, 0, 0, 0, []) := (congrFun pm_W_law 285).trans rfl
theorem rl_W_law_286 : (am_pg z_W_law).2 286 = some (.iload_n 3, 287, 3, 0, 0, 0, 0, []) := (congrFun pm_W_law 286).trans rfl
theorem rl_W_law_287 : (am_pg z_W_law).2 287 = some (.iconst (1), 288, 0, 0, 0, 0, 1, []) := (congrFun pm_W_law 287).trans rfl
theorem rl_W_law_288 : (am_pg z_W_law).2 288 = some (.iadd, 289, 0, 0, 0, 0, 0, []) := (congrFun pm_W_law 288).trans rfl
theorem rl_W_law_289 : (am_pg z_W_law).2 289 = some (.iaload, 290, 0, 0, 0, 0, 0, []) := (congrFun pm_W_law 289).trans rfl
theorem rl_W_law_290 : (am_pg z_W_law).2 290 = some (.aload_n 0, 291, 0, 0, 0, 0, 0, []) := (congrFun pm_W_law 290).trans rfl
theorem rl_W_law_291 : (am_pg z_W_law).2 291 = some (.iload_n 3, 292, 3, 0, 0, 0, 0, []) := (congrFun pm_W_law 291).trans rfl
theorem rl_W_law_292 : (am_pg z_W_law).2 292 = some (.iconst (2), 293, 0, 0, 0, 0, 2, []) := (congrFun pm_W_law 292).trans rfl
theorem rl_W_law_293 : (am_pg z_W_law).2 293 = some (.iadd, 294, 0, 0, 0, 0, 0, []) := (congrFun pm_W_law 293).trans rfl
theorem rl_W_law_294 : (am_pg z_W_law).2 294 = some (.iaload, 295, 0, 0, 0, 0, 0, []) := (congrFun pm_W_law 294).trans rfl
theorem rl_W_law_295 : (am_pg z_W_law).2 295 = some (.aload_n 0, 296, 0, 0, 0, 0, 0, []) := (congrFun pm_W_law 295).trans rfl
theorem rl_W_law_296 : (am_pg z_W_law).2 296 = some (.iload_n 3, 297, 3, 0, 0, 0, 0, []) := (congrFun pm_W_law 296).trans rfl
theorem rl_W_law_297 : (am_pg z_W_law).2 297 = some (.iconst (3), 298, 0, 0, 0, 0, 3, []) := (congrFun pm_W_law 297).trans rfl
theorem rl_W_law_298 : (am_pg z_W_law).2 298 = some (.iadd, 299, 0, 0, 0, 0, 0, []) := (congrFun pm_W_law 298).trans rfl
theorem rl_W_law_299 : (am_pg z_W_law).2 299 = some (.iaload, 300, 0, 0, 0, 0, 0, []) := (congrFun pm_W_law 299).trans rfl
theorem rl_W_law_300 : (am_pg z_W_law).2 300 = some (.aload_n 0, 301, 0, 0, 0, 0, 0, []) := (congrFun pm_W_law 300).trans rfl
theorem rl_W_law_301 : (am_pg z_W_law).2 301 = some (.iload_n 3, 302, 3, 0, 0, 0, 0, []) := (congrFun pm_W_law 301).trans rfl
theorem rl_W_law_302 : (am_pg z_W_law).2 302 = some (.iconst (4), 303, 0, 0, 0, 0, 4, []) := (congrFun pm_W_law 302).trans rfl
theorem rl_W_law_303 : (am_pg z_W_law).2 303 = some (.iadd, 304, 0, 0, 0, 0, 0, []) := (congrFun pm_W_law 303).trans rfl
theorem rl_W_law_304 : (am_pg z_W_law).2 304 = some (.iaload, 305, 0, 0, 0, 0, 0, []) := (congrFun pm_W_law 304).trans rfl
theorem rl_W_law_305 : (am_pg z_W_law).2 305 = some (.aload_n 0, 306, 0, 0, 0, 0, 0, []) := (congrFun pm_W_law 305).trans rfl
theorem rl_W_law_306 : (am_pg z_W_law).2 306 = some (.iload_n 3, 307, 3, 0, 0, 0, 0, []) := (congrFun pm_W_law 306).trans rfl
theorem rl_W_law_307 : (am_pg z_W_law).2 307 = some (.iconst (5), 308, 0, 0, 0, 0, 5, []) := (congrFun pm_W_law 307).trans rfl
theorem rl_W_law_308 : (am_pg z_W_law).2 308 = some (.iadd, 309, 0, 0, 0, 0, 0, []) := (congrFun pm_W_law 308).trans rfl
theorem rl_W_law_309 : (am_pg z_W_law).2 309 = some (.iaload, 310, 0, 0, 0, 0, 0, []) := (congrFun pm_W_law 309).trans rfl
theorem rl_W_law_310 : (am_pg z_W_law).2 310 = some (.invokevirtual 13, 313, 1, 5, 8, 12, 0, []) := (congrFun pm_W_law 310).trans rfl
theorem rl_W_law_313 : (am_pg z_W_law).2 313 = some (.aload_n 2, 314, 2, 0, 0, 0, 0, []) := (congrFun pm_W_law 313).trans rfl
theorem rl_W_law_314 : (am_pg z_W_law).2 314 = some (.aload_n 0, 315, 0, 0, 0, 0, 0, []) := (congrFun pm_W_law 314).trans rfl
theorem rl_W_law_315 : (am_pg z_W_law).2 315 = some (.iload_n 3, 316, 3, 0, 0, 0, 0, []) := (congrFun pm_W_law 315).trans rfl
theorem rl_W_law_316 : (am_pg z_W_law).2 316 = some (.iconst (1), 317, 0, 0, 0, 0, 1, []) := (congrFun pm_W_law 316).trans rfl
theorem rl_W_law_317 : (am_pg z_W_law).2 317 = some (.iadd, 318, 0, 0, 0, 0, 0, []) := (congrFun pm_W_law 317).trans rfl
theorem rl_W_law_318 : (am_pg z_W_law).2 318 = some (.iaload, 319, 0, 0, 0, 0, 0, []) := (congrFun pm_W_law 318).trans rfl
theorem rl_W_law_319 : (am_pg z_W_law).2 319 = some (.aload_n 0, 320, 0, 0, 0, 0, 0, []) := (congrFun pm_W_law 319).trans rfl
theorem rl_W_law_320 : (am_pg z_W_law).2 320 = some (.iload_n 3, 321, 3, 0, 0, 0, 0, []) := (congrFun pm_W_law 320).trans rfl
theorem rl_W_law_321 : (am_pg z_W_law).2 321 = some (.iconst (2), 322, 0, 0, 0, 0, 2, []) := (congrFun pm_W_law 321).trans rfl
theorem rl_W_law_322 : (am_pg z_W_law).2 322 = some (.iadd, 323, 0, 0, 0, 0, 0, []) := (congrFun pm_W_law 322).trans rfl
theorem rl_W_law_323 : (am_pg z_W_law).2 323 = some (.iaload, 324, 0, 0, 0, 0, 0, []) := (congrFun pm_W_law 323).trans rfl
theorem rl_W_law_324 : (am_pg z_W_law).2 324 = some (.aload_n 0, 325, 0, 0, 0, 0, 0, []) := (congrFun pm_W_law 324).trans rfl
theorem rl_W_law_325 : (am_pg z_W_law).2 325 = some (.iload_n 3, 326, 3, 0, 0, 0, 0, []) := (congrFun pm_W_law 325).trans rfl
theorem rl_W_law_326 : (am_pg z_W_law).2 326 = some (.iconst (3), 327, 0, 0, 0, 0, 3, []) := (congrFun pm_W_law 326).trans rfl
theorem rl_W_law_327 : (am_pg z_W_law).2 327 = some (.iadd, 328, 0, 0, 0, 0, 0, []) := (congrFun pm_W_law 327).trans rfl
theorem rl_W_law_328 : (am_pg z_W_law).2 328 = some (.iaload, 329, 0, 0, 0, 0, 0, []) := (congrFun pm_W_law 328).trans rfl
theorem rl_W_law_329 : (am_pg z_W_law).2 329 = some (.aload_n 0, 330, 0, 0, 0, 0, 0, []) := (congrFun pm_W_law 329).trans rfl
theorem rl_W_law_330 : (am_pg z_W_law).2 330 = some (.iload_n 3, 331, 3, 0, 0, 0, 0, []) := (congrFun pm_W_law 330).trans rfl
theorem rl_W_law_331 : (am_pg z_W_law).2 331 = some (.iconst (4), 332, 0, 0, 0, 0, 4, []) := (congrFun pm_W_law 331).trans rfl
theorem rl_W_law_332 : (am_pg z_W_law).2 332 = some (.iadd, 333, 0, 0, 0, 0, 0, []) := (congrFun pm_W_law 332).trans rfl
theorem rl_W_law_333 : (am_pg z_W_law).2 333 = some (.iaload, 334, 0, 0, 0, 0, 0, []) := (congrFun pm_W_law 333).trans rfl
theorem rl_W_law_334 : (am_pg z_W_law).2 334 = some (.aload_n 0, 335, 0, 0, 0, 0, 0, []) := (congrFun pm_W_law 334).trans rfl
theorem rl_W_law_335 : (am_pg z_W_law).2 335 = some (.iload_n 3, 336, 3, 0, 0, 0, 0, []) := (congrFun pm_W_law 335).trans rfl
theorem rl_W_law_336 : (am_pg z_W_law).2 336 = some (.iconst (5), 337, 0, 0, 0, 0, 5, []) := (congrFun pm_W_law 336).trans rfl
theorem rl_W_law_337 : (am_pg z_W_law).2 337 = some (.iadd, 338, 0, 0, 0, 0, 0, []) := (congrFun pm_W_law 337).trans rfl
theorem rl_W_law_338 : (am_pg z_W_law).2 338 = some (.iaload, 339, 0, 0, 0, 0, 0, []) := (congrFun pm_W_law 338).trans rfl
theorem rl_W_law_339 : (am_pg z_W_law).2 339 = some (.invokevirtual 17, 342, 95, 5, 9, 206, 0, []) := (congrFun pm_W_law 339).trans rfl
theorem rl_W_law_342 : (am_pg z_W_law).2 342 = some (.if_icmp .eq (2131), 345, 2473, 0, 0, 0, 0, []) := (congrFun pm_W_law 342).trans rfl
theorem rl_W_law_345 : (am_pg z_W_law).2 345 = some (.iconst (0), 346, 0, 0, 0, 0, 0, []) := (congrFun pm_W_law 345).trans rfl
theorem rl_W_law_346 : (am_pg z_W_law).2 346 = some (.ireturn, 347, 0, 0, 1, 0, 0, []) := (congrFun pm_W_law 346).trans rfl
theorem rl_W_law_347 : (am_pg z_W_law).2 347 = some (.aload_n 1, 348, 1, 0, 0, 0, 0, []) := (congrFun pm_W_law 347).trans rfl
theorem rl_W_law_348 : (am_pg z_W_law).2 348 = some (.aload_n 0, 349, 0, 0, 0, 0, 0, []) := (congrFun pm_W_law 348).trans rfl
theorem rl_W_law_349 : (am_pg z_W_law).2 349 = some (.iload_n 3, 350, 3, 0, 0, 0, 0, []) := (congrFun pm_W_law 349).trans rfl
theorem rl_W_law_350 : (am_pg z_W_law).2 350 = some (.iconst (1), 351, 0, 0, 0, 0, 1, []) := (congrFun pm_W_law 350).trans rfl
theorem rl_W_law_351 : (am_pg z_W_law).2 351 = some (.iadd, 352, 0, 0, 0, 0, 0, []) := (congrFun pm_W_law 351).trans rfl
theorem rl_W_law_352 : (am_pg z_W_law).2 352 = some (.iaload, 353, 0, 0, 0, 0, 0, []) := (congrFun pm_W_law 352).trans rfl
theorem rl_W_law_353 : (am_pg z_W_law).2 353 = some (.invokevirtual 18, 356, 2, 1, 8, 14, 0, []) := (congrFun pm_W_law 353).trans rfl
theorem rl_W_law_356 : (am_pg z_W_law).2 356 = some (.aload_n 2, 357, 2, 0, 0, 0, 0, []) := (congrFun pm_W_law 356).trans rfl
theorem rl_W_law_357 : (am_pg z_W_law).2 357 = some (.aload_n 0, 358, 0, 0, 0, 0, 0, []) := (congrFun pm_W_law 357).trans rfl
theorem rl_W_law_358 : (am_pg z_W_law).2 358 = some (.iload_n 3, 359, 3, 0, 0, 0, 0, []) := (congrFun pm_W_law 358).trans rfl
theorem rl_W_law_359 : (am_pg z_W_law).2 359 = some (.iconst (1), 360, 0, 0, 0, 0, 1, []) := (congrFun pm_W_law 359).trans rfl
theorem rl_W_law_360 : (am_pg z_W_law).2 360 = some (.iadd, 361, 0, 0, 0, 0, 0, []) := (congrFun pm_W_law 360).trans rfl
theorem rl_W_law_361 : (am_pg z_W_law).2 361 = some (.iaload, 362, 0, 0, 0, 0, 0, []) := (congrFun pm_W_law 361).trans rfl
theorem rl_W_law_362 : (am_pg z_W_law).2 362 = some (.invokevirtual 22, 365, 104, 1, 9, 208, 0, []) := (congrFun pm_W_law 362).trans rfl
theorem rl_W_law_365 : (am_pg z_W_law).2 365 = some (.if_icmp .eq (2108), 368, 2473, 0, 0, 0, 0, []) := (congrFun pm_W_law 365).trans rfl
theorem rl_W_law_368 : (am_pg z_W_law).2 368 = some (.iconst (0), 369, 0, 0, 0, 0, 0, []) := (congrFun pm_W_law 368).trans rfl
theorem rl_W_law_369 : (am_pg z_W_law).2 369 = some (.ireturn, 370, 0, 0, 1, 0, 0, []) := (congrFun pm_W_law 369).trans rfl
theorem rl_W_law_370 : (am_pg z_W_law).2 370 = some (.aload_n 1, 371, 1, 0, 0, 0, 0, []) := (congrFun pm_W_law 370).trans rfl
theorem rl_W_law_371 : (am_pg z_W_law).2 371 = some (.aload_n 0, 372, 0, 0, 0, 0, 0, []) := (congrFun pm_W_law 371).trans rfl
theorem rl_W_law_372 : (am_pg z_W_law).2 372 = some (.iload_n 3, 373, 3, 0, 0, 0, 0, []) := (congrFun pm_W_law 372).trans rfl
theorem rl_W_law_373 : (am_pg z_W_law).2 373 = some (.iconst (1), 374, 0, 0, 0, 0, 1, []) := (congrFun pm_W_law 373).trans rfl
theorem rl_W_law_374 : (am_pg z_W_law).2 374 = some (.iadd, 375, 0, 0, 0, 0, 0, []) := (congrFun pm_W_law 374).trans rfl
theorem rl_W_law_375 : (am_pg z_W_law).2 375 = some (.iaload, 376, 0, 0, 0, 0, 0, []) := (congrFun pm_W_law 375).trans rfl
theorem rl_W_law_376 : (am_pg z_W_law).2 376 = some (.aload_n 0, 377, 0, 0, 0, 0, 0, []) := (congrFun pm_W_law 376).trans rfl
theorem rl_W_law_377 : (am_pg z_W_law).2 377 = some (.iload_n 3, 378, 3, 0, 0, 0, 0, []) := (congrFun pm_W_law 377).trans rfl
theorem rl_W_law_378 : (am_pg z_W_law).2 378 = some (.iconst (2), 379, 0, 0, 0, 0, 2, []) := (congrFun pm_W_law 378).trans rfl
theorem rl_W_law_379 : (am_pg z_W_law).2 379 = some (.iadd, 380, 0, 0, 0, 0, 0, []) := (congrFun pm_W_law 379).trans rfl
theorem rl_W_law_380 : (am_pg z_W_law).2 380 = some (.iaload, 381, 0, 0, 0, 0, 0, []) := (congrFun pm_W_law 380).trans rfl
theorem rl_W_law_381 : (am_pg z_W_law).2 381 = some (.aload_n 0, 382, 0, 0, 0, 0, 0, []) := (congrFun pm_W_law 381).trans rfl
theorem rl_W_law_382 : (am_pg z_W_law).2 382 = some (.iload_n 3, 383, 3, 0, 0, 0, 0, []) := (congrFun pm_W_law 382).trans rfl
theorem rl_W_law_383 : (am_pg z_W_law).2 383 = some (.iconst (3), 384, 0, 0, 0, 0, 3, []) := (congrFun pm_W_law 383).trans rfl
theorem rl_W_law_384 : (am_pg z_W_law).2 384 = some (.iadd, 385, 0, 0, 0, 0, 0, []) := (congrFun pm_W_law 384).trans rfl
theorem rl_W_law_385 : (am_pg z_W_law).2 385 = some (.iaload, 386, 0, 0, 0, 0, 0, []) := (congrFun pm_W_law 385).trans rfl
theorem rl_W_law_386 : (am_pg z_W_law).2 386 = some (.invokevirtual 23, 389, 3, 3, 8, 31, 0, []) := (congrFun pm_W_law 386).trans rfl
theorem rl_W_law_389 : (am_pg z_W_law).2 389 = some (.aload_n 2, 390, 2, 0, 0, 0, 0, []) := (congrFun pm_W_law 389).trans rfl
theorem rl_W_law_390 : (am_pg z_W_law).2 390 = some (.aload_n 0, 391, 0, 0, 0, 0, 0, []) := (congrFun pm_W_law 390).trans rfl
theorem rl_W_law_391 : (am_pg z_W_law).2 391 = some (.iload_n 3, 392, 3, 0, 0, 0, 0, []) := (congrFun pm_W_law 391).trans rfl
theorem rl_W_law_392 : (am_pg z_W_law).2 392 = some (.iconst (1), 393, 0, 0, 0, 0, 1, []) := (congrFun pm_W_law 392).trans rfl
theorem rl_W_law_393 : (am_pg z_W_law).2 393 = some (.iadd, 394, 0, 0, 0, 0, 0, []) := (congrFun pm_W_law 393).trans rfl
theorem rl_W_law_394 : (am_pg z_W_law).2 394 = some (.iaload, 395, 0, 0, 0, 0, 0, []) := (congrFun pm_W_law 394).trans rfl
theorem rl_W_law_395 : (am_pg z_W_law).2 395 = some (.aload_n 0, 396, 0, 0, 0, 0, 0, []) := (congrFun pm_W_law 395).trans rfl
theorem rl_W_law_396 : (am_pg z_W_law).2 396 = some (.iload_n 3, 397, 3, 0, 0, 0, 0, []) := (congrFun pm_W_law 396).trans rfl
theorem rl_W_law_397 : (am_pg z_W_law).2 397 = some (.iconst (2), 398, 0, 0, 0, 0, 2, []) := (congrFun pm_W_law 397).trans rfl
theorem rl_W_law_398 : (am_pg z_W_law).2 398 = some (.iadd, 399, 0, 0, 0, 0, 0, []) := (congrFun pm_W_law 398).trans rfl
theorem rl_W_law_399 : (am_pg z_W_law).2 399 = some (.iaload, 400, 0, 0, 0, 0, 0, []) := (congrFun pm_W_law 399).trans rfl
theorem rl_W_law_400 : (am_pg z_W_law).2 400 = some (.aload_n 0, 401, 0, 0, 0, 0, 0, []) := (congrFun pm_W_law 400).trans rfl
theorem rl_W_law_401 : (am_pg z_W_law).2 401 = some (.iload_n 3, 402, 3, 0, 0, 0, 0, []) := (congrFun pm_W_law 401).trans rfl
theorem rl_W_law_402 : (am_pg z_W_law).2 402 = some (.iconst (3), 403, 0, 0, 0, 0, 3, []) := (congrFun pm_W_law 402).trans rfl
theorem rl_W_law_403 : (am_pg z_W_law).2 403 = some (.iadd, 404, 0, 0, 0, 0, 0, []) := (congrFun pm_W_law 403).trans rfl
theorem rl_W_law_404 : (am_pg z_W_law).2 404 = some (.iaload, 405, 0, 0, 0, 0, 0, []) := (congrFun pm_W_law 404).trans rfl
theorem rl_W_law_405 : (am_pg z_W_law).2 405 = some (.invokevirtual 27, 408, 105, 3, 9, 218, 0, []) := (congrFun pm_W_law 405).trans rfl
theorem rl_W_law_408 : (am_pg z_W_law).2 408 = some (.if_icmp .eq (2065), 411, 2473, 0, 0, 0, 0, []) := (congrFun pm_W_law 408).trans rfl
theorem rl_W_law_411 : (am_pg z_W_law).2 411 = some (.iconst (0), 412, 0, 0, 0, 0, 0, []) := (congrFun pm_W_law 411).trans rfl
theorem rl_W_law_412 : (am_pg z_W_law).2 412 = some (.ireturn, 413, 0, 0, 1, 0, 0, []) := (congrFun pm_W_law 412).trans rfl
theorem rl_W_law_413 : (am_pg z_W_law).2 413 = some (.aload_n 1, 414, 1, 0, 0, 0, 0, []) := (congrFun pm_W_law 413).trans rfl
theorem rl_W_law_414 : (am_pg z_W_law).2 414 = some (.aload_n 0, 415, 0, 0, 0, 0, 0, []) := (congrFun pm_W_law 414).trans rfl
theorem rl_W_law_415 : (am_pg z_W_law).2 415 = some (.iload_n 3, 416, 3, 0, 0, 0, 0, []) := (congrFun pm_W_law 415).trans rfl
theorem rl_W_law_416 : (am_pg z_W_law).2 416 = some (.iconst (1), 417, 0, 0, 0, 0, 1, []) := (congrFun pm_W_law 416).trans rfl
theorem rl_W_law_417 : (am_pg z_W_law).2 417 = some (.iadd, 418, 0, 0, 0, 0, 0, []) := (congrFun pm_W_law 417).trans rfl
theorem rl_W_law_418 : (am_pg z_W_law).2 418 = some (.iaload, 419, 0, 0, 0, 0, 0, []) := (congrFun pm_W_law 418).trans rfl
theorem rl_W_law_419 : (am_pg z_W_law).2 419 = some (.aload_n 0, 420, 0, 0, 0, 0, 0, []) := (congrFun pm_W_law 419).trans rfl
theorem rl_W_law_420 : (am_pg z_W_law).2 420 = some (.iload_n 3, 421, 3, 0, 0, 0, 0, []) := (congrFun pm_W_law 420).trans rfl
theorem rl_W_law_421 : (am_pg z_W_law).2 421 = some (.iconst (2), 422, 0, 0, 0, 0, 2, []) := (congrFun pm_W_law 421).trans rfl
theorem rl_W_law_422 : (am_pg z_W_law).2 422 = some (.iadd, 423, 0, 0, 0, 0, 0, []) := (congrFun pm_W_law 422).trans rfl
theorem rl_W_law_423 : (am_pg z_W_law).2 423 = some (.iaload, 424, 0, 0, 0, 0, 0, []) := (congrFun pm_W_law 423).trans rfl
theorem rl_W_law_424 : (am_pg z_W_law).2 424 = some (.aload_n 0, 425, 0, 0, 0, 0, 0, []) := (congrFun pm_W_law 424).trans rfl
theorem rl_W_law_425 : (am_pg z_W_law).2 425 = some (.iload_n 3, 426, 3, 0, 0, 0, 0, []) := (congrFun pm_W_law 425).trans rfl
theorem rl_W_law_426 : (am_pg z_W_law).2 426 = some (.iconst (3), 427, 0, 0, 0, 0, 3, []) := (congrFun pm_W_law 426).trans rfl
theorem rl_W_law_427 : (am_pg z_W_law).2 427 = some (.iadd, 428, 0, 0, 0, 0, 0, []) := (congrFun pm_W_law 427).trans rfl
theorem rl_W_law_428 : (am_pg z_W_law).2 428 = some (.iaload, 429, 0, 0, 0, 0, 0, []) := (congrFun pm_W_law 428).trans rfl
theorem rl_W_law_429 : (am_pg z_W_law).2 429 = some (.aload_n 0, 430, 0, 0, 0, 0, 0, []) := (congrFun pm_W_law 429).trans rfl
theorem rl_W_law_430 : (am_pg z_W_law).2 430 = some (.iload_n 3, 431, 3, 0, 0, 0, 0, []) := (congrFun pm_W_law 430).trans rfl
theorem rl_W_law_431 : (am_pg z_W_law).2 431 = some (.iconst (4), 432, 0, 0, 0, 0, 4, []) := (congrFun pm_W_law 431).trans rfl
theorem rl_W_law_432 : (am_pg z_W_law).2 432 = some (.iadd, 433, 0, 0, 0, 0, 0, []) := (congrFun pm_W_law 432).trans rfl
theorem rl_W_law_433 : (am_pg z_W_law).2 433 = some (.iaload, 434, 0, 0, 0, 0, 0, []) := (congrFun pm_W_law 433).trans rfl
theorem rl_W_law_434 : (am_pg z_W_law).2 434 = some (.ifCond .eq (7), 437, 441, 0, 0, 0, 0, []) := (congrFun pm_W_law 434).trans rfl
theorem rl_W_law_437 : (am_pg z_W_law).2 437 = some (.iconst (1), 438, 0, 0, 0, 0, 1, []) := (congrFun pm_W_law 437).trans rfl
theorem rl_W_law_438 : (am_pg z_W_law).2 438 = some (.goto (4), 441, 442, 0, 0, 0, 0, []) := (congrFun pm_W_law 438).trans rfl
theorem rl_W_law_441 : (am_pg z_W_law).2 441 = some (.iconst (0), 442, 0, 0, 0, 0, 0, []) := (congrFun pm_W_law 441).trans rfl
theorem rl_W_law_442 : (am_pg z_W_law).2 442 = some (.invokevirtual 28, 445, 4, 4, 8, 36, 0, []) := (congrFun pm_W_law 442).trans rfl
theorem rl_W_law_445 : (am_pg z_W_law).2 445 = some (.aload_n 2, 446, 2, 0, 0, 0, 0, []) := (congrFun pm_W_law 445).trans rfl
theorem rl_W_law_446 : (am_pg z_W_law).2 446 = some (.aload_n 0, 447, 0, 0, 0, 0, 0, []) := (congrFun pm_W_law 446).trans rfl
theorem rl_W_law_447 : (am_pg z_W_law).2 447 = some (.iload_n 3, 448, 3, 0, 0, 0, 0, []) := (congrFun pm_W_law 447).trans rfl
theorem rl_W_law_448 : (am_pg z_W_law).2 448 = some (.iconst (1), 449, 0, 0, 0, 0, 1, []) := (congrFun pm_W_law 448).trans rfl
theorem rl_W_law_449 : (am_pg z_W_law).2 449 = some (.iadd, 450, 0, 0, 0, 0, 0, []) := (congrFun pm_W_law 449).trans rfl
theorem rl_W_law_450 : (am_pg z_W_law).2 450 = some (.iaload, 451, 0, 0, 0, 0, 0, []) := (congrFun pm_W_law 450).trans rfl
theorem rl_W_law_451 : (am_pg z_W_law).2 451 = some (.aload_n 0, 452, 0, 0, 0, 0, 0, []) := (congrFun pm_W_law 451).trans rfl
theorem rl_W_law_452 : (am_pg z_W_law).2 452 = some (.iload_n 3, 453, 3, 0, 0, 0, 0, []) := (congrFun pm_W_law 452).trans rfl
theorem rl_W_law_453 : (am_pg z_W_law).2 453 = some (.iconst (2), 454, 0, 0, 0, 0, 2, []) := (congrFun pm_W_law 453).trans rfl
theorem rl_W_law_454 : (am_pg z_W_law).2 454 = some (.iadd, 455, 0, 0, 0, 0, 0, []) := (congrFun pm_W_law 454).trans rfl
theorem rl_W_law_455 : (am_pg z_W_law).2 455 = some (.iaload, 456, 0, 0, 0, 0, 0, []) := (congrFun pm_W_law 455).trans rfl
theorem rl_W_law_456 : (am_pg z_W_law).2 456 = some (.aload_n 0, 457, 0, 0, 0, 0, 0, []) := (congrFun pm_W_law 456).trans rfl
theorem rl_W_law_457 : (am_pg z_W_law).2 457 = some (.iload_n 3, 458, 3, 0, 0, 0, 0, []) := (congrFun pm_W_law 457).trans rfl
theorem rl_W_law_458 : (am_pg z_W_law).2 458 = some (.iconst (3), 459, 0, 0, 0, 0, 3, []) := (congrFun pm_W_law 458).trans rfl
theorem rl_W_law_459 : (am_pg z_W_law).2 459 = some (.iadd, 460, 0, 0, 0, 0, 0, []) := (congrFun pm_W_law 459).trans rfl
theorem rl_W_law_460 : (am_pg z_W_law).2 460 = some (.iaload, 461, 0, 0, 0, 0, 0, []) := (congrFun pm_W_law 460).trans rfl
theorem rl_W_law_461 : (am_pg z_W_law).2 461 = some (.aload_n 0, 462, 0, 0, 0, 0, 0, []) := (congrFun pm_W_law 461).trans rfl
theorem rl_W_law_462 : (am_pg z_W_law).2 462 = some (.iload_n 3, 463, 3, 0, 0, 0, 0, []) := (congrFun pm_W_law 462).trans rfl
theorem rl_W_law_463 : (am_pg z_W_law).2 463 = some (.iconst (4), 464, 0, 0, 0, 0, 4, []) := (congrFun pm_W_law 463).trans rfl
theorem rl_W_law_464 : (am_pg z_W_law).2 464 = some (.iadd, 465, 0, 0, 0, 0, 0, []) := (congrFun pm_W_law 464).trans rfl
theorem rl_W_law_465 : (am_pg z_W_law).2 465 = some (.iaload, 466, 0, 0, 0, 0, 0, []) := (congrFun pm_W_law 465).trans rfl
theorem rl_W_law_466 : (am_pg z_W_law).2 466 = some (.ifCond .eq (7), 469, 473, 0, 0, 0, 0, []) := (congrFun pm_W_law 466).trans rfl
theorem rl_W_law_469 : (am_pg z_W_law).2 469 = some (.iconst (1), 470, 0, 0, 0, 0, 1, []) := (congrFun pm_W_law 469).trans rfl
theorem rl_W_law_470 : (am_pg z_W_law).2 470 = some (.goto (4), 473, 474, 0, 0, 0, 0, []) := (congrFun pm_W_law 470).trans rfl
theorem rl_W_law_473 : (am_pg z_W_law).2 473 = some (.iconst (0), 474, 0, 0, 0, 0, 0, []) := (congrFun pm_W_law 473).trans rfl
theorem rl_W_law_474 : (am_pg z_W_law).2 474 = some (.invokevirtual 32, 477, 106, 4, 9, 222, 0, []) := (congrFun pm_W_law 474).trans rfl
theorem rl_W_law_477 : (am_pg z_W_law).2 477 = some (.if_icmp .eq (1996), 480, 2473, 0, 0, 0, 0, []) := (congrFun pm_W_law 477).trans rfl
theorem rl_W_law_480 : (am_pg z_W_law).2 480 = some (.iconst (0), 481, 0, 0, 0, 0, 0, []) := (congrFun pm_W_law 480).trans rfl
theorem rl_W_law_481 : (am_pg z_W_law).2 481 = some (.ireturn, 482, 0, 0, 1, 0, 0, []) := (congrFun pm_W_law 481).trans rfl
theorem rl_W_law_482 : (am_pg z_W_law).2 482 = some (.aload_n 1, 483, 1, 0, 0, 0, 0, []) := (congrFun pm_W_law 482).trans rfl
theorem rl_W_law_483 : (am_pg z_W_law).2 483 = some (.aload_n 0, 484, 0, 0, 0, 0, 0, []) := (congrFun pm_W_law 483).trans rfl
theorem rl_W_law_484 : (am_pg z_W_law).2 484 = some (.iload_n 3, 485, 3, 0, 0, 0, 0, []) := (congrFun pm_W_law 484).trans rfl
theorem rl_W_law_485 : (am_pg z_W_law).2 485 = some (.iconst (1), 486, 0, 0, 0, 0, 1, []) := (congrFun pm_W_law 485).trans rfl
theorem rl_W_law_486 : (am_pg z_W_law).2 486 = some (.iadd, 487, 0, 0, 0, 0, 0, []) := (congrFun pm_W_law 486).trans rfl
theorem rl_W_law_487 : (am_pg z_W_law).2 487 = some (.iaload, 488, 0, 0, 0, 0, 0, []) := (congrFun pm_W_law 487).trans rfl
theorem rl_W_law_488 : (am_pg z_W_law).2 488 = some (.aload_n 0, 489, 0, 0, 0, 0, 0, []) := (congrFun pm_W_law 488).trans rfl
theorem rl_W_law_489 : (am_pg z_W_law).2 489 = some (.iload_n 3, 490, 3, 0, 0, 0, 0, []) := (congrFun pm_W_law 489).trans rfl
theorem rl_W_law_490 : (am_pg z_W_law).2 490 = some (.iconst (2), 491, 0, 0, 0, 0, 2, []) := (congrFun pm_W_law 490).trans rfl
theorem rl_W_law_491 : (am_pg z_W_law).2 491 = some (.iadd, 492, 0, 0, 0, 0, 0, []) := (congrFun pm_W_law 491).trans rfl
theorem rl_W_law_492 : (am_pg z_W_law).2 492 = some (.iaload, 493, 0, 0, 0, 0, 0, []) := (congrFun pm_W_law 492).trans rfl
theorem rl_W_law_493 : (am_pg z_W_law).2 493 = some (.aload_n 0, 494, 0, 0, 0, 0, 0, []) := (congrFun pm_W_law 493).trans rfl
theorem rl_W_law_494 : (am_pg z_W_law).2 494 = some (.iload_n 3, 495, 3, 0, 0, 0, 0, []) := (congrFun pm_W_law 494).trans rfl
theorem rl_W_law_495 : (am_pg z_W_law).2 495 = some (.iconst (3), 496, 0, 0, 0, 0, 3, []) := (congrFun pm_W_law 495).trans rfl
theorem rl_W_law_496 : (am_pg z_W_law).2 496 = some (.iadd, 497, 0, 0, 0, 0, 0, []) := (congrFun pm_W_law 496).trans rfl
theorem rl_W_law_497 : (am_pg z_W_law).2 497 = some (.iaload, 498, 0, 0, 0, 0, 0, []) := (congrFun pm_W_law 497).trans rfl
theorem rl_W_law_498 : (am_pg z_W_law).2 498 = some (.invokevirtual 33, 501, 5, 3, 8, 40, 0, []) := (congrFun pm_W_law 498).trans rfl
theorem rl_W_law_501 : (am_pg z_W_law).2 501 = some (.aload_n 2, 502, 2, 0, 0, 0, 0, []) := (congrFun pm_W_law 501).trans rfl
theorem rl_W_law_502 : (am_pg z_W_law).2 502 = some (.aload_n 0, 503, 0, 0, 0, 0, 0, []) := (congrFun pm_W_law 502).trans rfl
theorem rl_W_law_503 : (am_pg z_W_law).2 503 = some (.iload_n 3, 504, 3, 0, 0, 0, 0, []) := (congrFun pm_W_law 503).trans rfl
theorem rl_W_law_504 : (am_pg z_W_law).2 504 = some (.iconst (1), 505, 0, 0, 0, 0, 1, []) := (congrFun pm_W_law 504).trans rfl
theorem rl_W_law_505 : (am_pg z_W_law).2 505 = some (.iadd, 506, 0, 0, 0, 0, 0, []) := (congrFun pm_W_law 505).trans rfl
theorem rl_W_law_506 : (am_pg z_W_law).2 506 = some (.iaload, 507, 0, 0, 0, 0, 0, []) := (congrFun pm_W_law 506).trans rfl
theorem rl_W_law_507 : (am_pg z_W_law).2 507 = some (.aload_n 0, 508, 0, 0, 0, 0, 0, []) := (congrFun pm_W_law 507).trans rfl
theorem rl_W_law_508 : (am_pg z_W_law).2 508 = some (.iload_n 3, 509, 3, 0, 0, 0, 0, []) := (congrFun pm_W_law 508).trans rfl
theorem rl_W_law_509 : (am_pg z_W_law).2 509 = some (.iconst (2), 510, 0, 0, 0, 0, 2, []) := (congrFun pm_W_law 509).trans rfl
theorem rl_W_law_510 : (am_pg z_W_law).2 510 = some (.iadd, 511, 0, 0, 0, 0, 0, []) := (congrFun pm_W_law 510).trans rfl
theorem rl_W_law_511 : (am_pg z_W_law).2 511 = some (.iaload, 512, 0, 0, 0, 0, 0, []) := (congrFun pm_W_law 511).trans rfl
theorem rl_W_law_512 : (am_pg z_W_law).2 512 = some (.aload_n 0, 513, 0, 0, 0, 0, 0, []) := (congrFun pm_W_law 512).trans rfl
theorem rl_W_law_513 : (am_pg z_W_law).2 513 = some (.iload_n 3, 514, 3, 0, 0, 0, 0, []) := (congrFun pm_W_law 513).trans rfl
theorem rl_W_law_514 : (am_pg z_W_law).2 514 = some (.iconst (3), 515, 0, 0, 0, 0, 3, []) := (congrFun pm_W_law 514).trans rfl
theorem rl_W_law_515 : (am_pg z_W_law).2 515 = some (.iadd, 516, 0, 0, 0, 0, 0, []) := (congrFun pm_W_law 515).trans rfl
theorem rl_W_law_516 : (am_pg z_W_law).2 516 = some (.iaload, 517, 0, 0, 0, 0, 0, []) := (congrFun pm_W_law 516).trans rfl
theorem rl_W_law_517 : (am_pg z_W_law).2 517 = some (.invokevirtual 36, 520, 107, 3, 9, 224, 0, []) := (congrFun pm_W_law 517).trans rfl
theorem rl_W_law_520 : (am_pg z_W_law).2 520 = some (.if_icmp .eq (1953), 523, 2473, 0, 0, 0, 0, []) := (congrFun pm_W_law 520).trans rfl
theorem rl_W_law_523 : (am_pg z_W_law).2 523 = some (.iconst (0), 524, 0, 0, 0, 0, 0, []) := (congrFun pm_W_law 523).trans rfl
theorem rl_W_law_524 : (am_pg z_W_law).2 524 = some (.ireturn, 525, 0, 0, 1, 0, 0, []) := (congrFun pm_W_law 524).trans rfl
theorem rl_W_law_525 : (am_pg z_W_law).2 525 = some (.aload_n 1, 526, 1, 0, 0, 0, 0, []) := (congrFun pm_W_law 525).trans rfl
theorem rl_W_law_526 : (am_pg z_W_law).2 526 = some (.aload_n 0, 527, 0, 0, 0, 0, 0, []) := (congrFun pm_W_law 526).trans rfl
theorem rl_W_law_527 : (am_pg z_W_law).2 527 = some (.iload_n 3, 528, 3, 0, 0, 0, 0, []) := (congrFun pm_W_law 527).trans rfl
theorem rl_W_law_528 : (am_pg z_W_law).2 528 = some (.iconst (1), 529, 0, 0, 0, 0, 1, []) := (congrFun pm_W_law 528).trans rfl
theorem rl_W_law_529 : (am_pg z_W_law).2 529 = some (.iadd, 530, 0, 0, 0, 0, 0, []) := (congrFun pm_W_law 529).trans rfl
theorem rl_W_law_530 : (am_pg z_W_law).2 530 = some (.iaload, 531, 0, 0, 0, 0, 0, []) := (congrFun pm_W_law 530).trans rfl
theorem rl_W_law_531 : (am_pg z_W_law).2 531 = some (.aload_n 0, 532, 0, 0, 0, 0, 0, []) := (congrFun pm_W_law 531).trans rfl
theorem rl_W_law_532 : (am_pg z_W_law).2 532 = some (.iload_n 3, 533, 3, 0, 0, 0, 0, []) := (congrFun pm_W_law 532).trans rfl
theorem rl_W_law_533 : (am_pg z_W_law).2 533 = some (.iconst (2), 534, 0, 0, 0, 0, 2, []) := (congrFun pm_W_law 533).trans rfl
theorem rl_W_law_534 : (am_pg z_W_law).2 534 = some (.iadd, 535, 0, 0, 0, 0, 0, []) := (congrFun pm_W_law 534).trans rfl
theorem rl_W_law_535 : (am_pg z_W_law).2 535 = some (.iaload, 536, 0, 0, 0, 0, 0, []) := (congrFun pm_W_law 535).trans rfl
theorem rl_W_law_536 : (am_pg z_W_law).2 536 = some (.ifCond .eq (7), 539, 543, 0, 0, 0, 0, []) := (congrFun pm_W_law 536).trans rfl
theorem rl_W_law_539 : (am_pg z_W_law).2 539 = some (.iconst (1), 540, 0, 0, 0, 0, 1, []) := (congrFun pm_W_law 539).trans rfl
theorem rl_W_law_540 : (am_pg z_W_law).2 540 = some (.goto (4), 543, 544, 0, 0, 0, 0, []) := (congrFun pm_W_law 540).trans rfl
theorem rl_W_law_543 : (am_pg z_W_law).2 543 = some (.iconst (0), 544, 0, 0, 0, 0, 0, []) := (congrFun pm_W_law 543).trans rfl
theorem rl_W_law_544 : (am_pg z_W_law).2 544 = some (.invokevirtual 37, 547, 6, 2, 8, 41, 0, []) := (congrFun pm_W_law 544).trans rfl
theorem rl_W_law_547 : (am_pg z_W_law).2 547 = some (.aload_n 2, 548, 2, 0, 0, 0, 0, []) := (congrFun pm_W_law 547).trans rfl
theorem rl_W_law_548 : (am_pg z_W_law).2 548 = some (.aload_n 0, 549, 0, 0, 0, 0, 0, []) := (congrFun pm_W_law 548).trans rfl
theorem rl_W_law_549 : (am_pg z_W_law).2 549 = some (.iload_n 3, 550, 3, 0, 0, 0, 0, []) := (congrFun pm_W_law 549).trans rfl
theorem rl_W_law_550 : (am_pg z_W_law).2 550 = some (.iconst (1), 551, 0, 0, 0, 0, 1, []) := (congrFun pm_W_law 550).trans rfl
theorem rl_W_law_551 : (am_pg z_W_law).2 551 = some (.iadd, 552, 0, 0, 0, 0, 0, []) := (congrFun pm_W_law 551).trans rfl
theorem rl_W_law_552 : (am_pg z_W_law).2 552 = some (.iaload, 553, 0, 0, 0, 0, 0, []) := (congrFun pm_W_law 552).trans rfl
theorem rl_W_law_553 : (am_pg z_W_law).2 553 = some (.aload_n 0, 554, 0, 0, 0, 0, 0, []) := (congrFun pm_W_law 553).trans rfl
theorem rl_W_law_554 : (am_pg z_W_law).2 554 = some (.iload_n 3, 555, 3, 0, 0, 0, 0, []) := (congrFun pm_W_law 554).trans rfl
theorem rl_W_law_555 : (am_pg z_W_law).2 555 = some (.iconst (2), 556, 0, 0, 0, 0, 2, []) := (congrFun pm_W_law 555).trans rfl
theorem rl_W_law_556 : (am_pg z_W_law).2 556 = some (.iadd, 557, 0, 0, 0, 0, 0, []) := (congrFun pm_W_law 556).trans rfl
theorem rl_W_law_557 : (am_pg z_W_law).2 557 = some (.iaload, 558, 0, 0, 0, 0, 0, []) := (congrFun pm_W_law 557).trans rfl
theorem rl_W_law_558 : (am_pg z_W_law).2 558 = some (.ifCond .eq (7), 561, 565, 0, 0, 0, 0, []) := (congrFun pm_W_law 558).trans rfl
theorem rl_W_law_561 : (am_pg z_W_law).2 561 = some (.iconst (1), 562, 0, 0, 0, 0, 1, []) := (congrFun pm_W_law 561).trans rfl
theorem rl_W_law_562 : (am_pg z_W_law).2 562 = some (.goto (4), 565, 566, 0, 0, 0, 0, []) := (congrFun pm_W_law 562).trans rfl
theorem rl_W_law_565 : (am_pg z_W_law).2 565 = some (.iconst (0), 566, 0, 0, 0, 0, 0, []) := (congrFun pm_W_law 565).trans rfl
theorem rl_W_law_566 : (am_pg z_W_law).2 566 = some (.invokevirtual 41, 569, 108, 2, 9, 225, 0, []) := (congrFun pm_W_law 566).trans rfl
theorem rl_W_law_569 : (am_pg z_W_law).2 569 = some (.if_icmp .eq (1904), 572, 2473, 0, 0, 0, 0, []) := (congrFun pm_W_law 569).trans rfl
theorem rl_W_law_572 : (am_pg z_W_law).2 572 = some (.iconst (0), 573, 0, 0, 0, 0, 0, []) := (congrFun pm_W_law 572).trans rfl
theorem rl_W_law_573 : (am_pg z_W_law).2 573 = some (.ireturn, 574, 0, 0, 1, 0, 0, []) := (congrFun pm_W_law 573).trans rfl
theorem rl_W_law_574 : (am_pg z_W_law).2 574 = some (.aload_n 1, 575, 1, 0, 0, 0, 0, []) := (congrFun pm_W_law 574).trans rfl
theorem rl_W_law_575 : (am_pg z_W_law).2 575 = some (.aload_n 0, 576, 0, 0, 0, 0, 0, []) := (congrFun pm_W_law 575).trans rfl
theorem rl_W_law_576 : (am_pg z_W_law).2 576 = some (.iload_n 3, 577, 3, 0, 0, 0, 0, []) := (congrFun pm_W_law 576).trans rfl
theorem rl_W_law_577 : (am_pg z_W_law).2 577 = some (.iconst (1), 578, 0, 0, 0, 0, 1, []) := (congrFun pm_W_law 577).trans rfl
theorem rl_W_law_578 : (am_pg z_W_law).2 578 = some (.iadd, 579, 0, 0, 0, 0, 0, []) := (congrFun pm_W_law 578).trans rfl
theorem rl_W_law_579 : (am_pg z_W_law).2 579 = some (.iaload, 580, 0, 0, 0, 0, 0, []) := (congrFun pm_W_law 579).trans rfl
theorem rl_W_law_580 : (am_pg z_W_law).2 580 = some (.aload_n 0, 581, 0, 0, 0, 0, 0, []) := (congrFun pm_W_law 580).trans rfl
theorem rl_W_law_581 : (am_pg z_W_law).2 581 = some (.iload_n 3, 582, 3, 0, 0, 0, 0, []) := (congrFun pm_W_law 581).trans rfl
theorem rl_W_law_582 : (am_pg z_W_law).2 582 = some (.iconst (2), 583, 0, 0, 0, 0, 2, []) := (congrFun pm_W_law 582).trans rfl
theorem rl_W_law_583 : (am_pg z_W_law).2 583 = some (.iadd, 584, 0, 0, 0, 0, 0, []) := (congrFun pm_W_law 583).trans rfl
theorem rl_W_law_584 : (am_pg z_W_law).2 584 = some (.iaload, 585, 0, 0, 0, 0, 0, []) := (congrFun pm_W_law 584).trans rfl
theorem rl_W_law_585 : (am_pg z_W_law).2 585 = some (.aload_n 0, 586, 0, 0, 0, 0, 0, []) := (congrFun pm_W_law 585).trans rfl
theorem rl_W_law_586 : (am_pg z_W_law).2 586 = some (.iload_n 3, 587, 3, 0, 0, 0, 0, []) := (congrFun pm_W_law 586).trans rfl
theorem rl_W_law_587 : (am_pg z_W_law).2 587 = some (.iconst (3), 588, 0, 0, 0, 0, 3, []) := (congrFun pm_W_law 587).trans rfl
theorem rl_W_law_588 : (am_pg z_W_law).2 588 = some (.iadd, 589, 0, 0, 0, 0, 0, []) := (congrFun pm_W_law 588).trans rfl
theorem rl_W_law_589 : (am_pg z_W_law).2 589 = some (.iaload, 590, 0, 0, 0, 0, 0, []) := (congrFun pm_W_law 589).trans rfl
theorem rl_W_law_590 : (am_pg z_W_law).2 590 = some (.invokevirtual 42, 593, 7, 3, 8, 44, 0, []) := (congrFun pm_W_law 590).trans rfl
theorem rl_W_law_593 : (am_pg z_W_law).2 593 = some (.aload_n 2, 594, 2, 0, 0, 0, 0, []) := (congrFun pm_W_law 593).trans rfl
theorem rl_W_law_594 : (am_pg z_W_law).2 594 = some (.aload_n 0, 595, 0, 0, 0, 0, 0, []) := (congrFun pm_W_law 594).trans rfl
theorem rl_W_law_595 : (am_pg z_W_law).2 595 = some (.iload_n 3, 596, 3, 0, 0, 0, 0, []) := (congrFun pm_W_law 595).trans rfl
theorem rl_W_law_596 : (am_pg z_W_law).2 596 = some (.iconst (1), 597, 0, 0, 0, 0, 1, []) := (congrFun pm_W_law 596).trans rfl
theorem rl_W_law_597 : (am_pg z_W_law).2 597 = some (.iadd, 598, 0, 0, 0, 0, 0, []) := (congrFun pm_W_law 597).trans rfl
theorem rl_W_law_598 : (am_pg z_W_law).2 598 = some (.iaload, 599, 0, 0, 0, 0, 0, []) := (congrFun pm_W_law 598).trans rfl
theorem rl_W_law_599 : (am_pg z_W_law).2 599 = some (.aload_n 0, 600, 0, 0, 0, 0, 0, []) := (congrFun pm_W_law 599).trans rfl
theorem rl_W_law_600 : (am_pg z_W_law).2 600 = some (.iload_n 3, 601, 3, 0, 0, 0, 0, []) := (congrFun pm_W_law 600).trans rfl
theorem rl_W_law_601 : (am_pg z_W_law).2 601 = some (.iconst (2), 602, 0, 0, 0, 0, 2, []) := (congrFun pm_W_law 601).trans rfl
theorem rl_W_law_602 : (am_pg z_W_law).2 602 = some (.iadd, 603, 0, 0, 0, 0, 0, []) := (congrFun pm_W_law 602).trans rfl
theorem rl_W_law_603 : (am_pg z_W_law).2 603 = some (.iaload, 604, 0, 0, 0, 0, 0, []) := (congrFun pm_W_law 603).trans rfl
theorem rl_W_law_604 : (am_pg z_W_law).2 604 = some (.aload_n 0, 605, 0, 0, 0, 0, 0, []) := (congrFun pm_W_law 604).trans rfl
theorem rl_W_law_605 : (am_pg z_W_law).2 605 = some (.iload_n 3, 606, 3, 0, 0, 0, 0, []) := (congrFun pm_W_law 605).trans rfl
theorem rl_W_law_606 : (am_pg z_W_law).2 606 = some (.iconst (3), 607, 0, 0, 0, 0, 3, []) := (congrFun pm_W_law 606).trans rfl
theorem rl_W_law_607 : (am_pg z_W_law).2 607 = some (.iadd, 608, 0, 0, 0, 0, 0, []) := (congrFun pm_W_law 607).trans rfl
theorem rl_W_law_608 : (am_pg z_W_law).2 608 = some (.iaload, 609, 0, 0, 0, 0, 0, []) := (congrFun pm_W_law 608).trans rfl
theorem rl_W_law_609 : (am_pg z_W_law).2 609 = some (.invokevirtual 45, 612, 110, 3, 9, 227, 0, []) := (congrFun pm_W_law 609).trans rfl
theorem rl_W_law_612 : (am_pg z_W_law).2 612 = some (.if_icmp .eq (1861), 615, 2473, 0, 0, 0, 0, []) := (congrFun pm_W_law 612).trans rfl
theorem rl_W_law_615 : (am_pg z_W_law).2 615 = some (.iconst (0), 616, 0, 0, 0, 0, 0, []) := (congrFun pm_W_law 615).trans rfl
theorem rl_W_law_616 : (am_pg z_W_law).2 616 = some (.ireturn, 617, 0, 0, 1, 0, 0, []) := (congrFun pm_W_law 616).trans rfl
theorem rl_W_law_617 : (am_pg z_W_law).2 617 = some (.aload_n 1, 618, 1, 0, 0, 0, 0, []) := (congrFun pm_W_law 617).trans rfl
theorem rl_W_law_618 : (am_pg z_W_law).2 618 = some (.aload_n 0, 619, 0, 0, 0, 0, 0, []) := (congrFun pm_W_law 618).trans rfl
theorem rl_W_law_619 : (am_pg z_W_law).2 619 = some (.iload_n 3, 620, 3, 0, 0, 0, 0, []) := (congrFun pm_W_law 619).trans rfl
theorem rl_W_law_620 : (am_pg z_W_law).2 620 = some (.iconst (1), 621, 0, 0, 0, 0, 1, []) := (congrFun pm_W_law 620).trans rfl
theorem rl_W_law_621 : (am_pg z_W_law).2 621 = some (.iadd, 622, 0, 0, 0, 0, 0, []) := (congrFun pm_W_law 621).trans rfl
theorem rl_W_law_622 : (am_pg z_W_law).2 622 = some (.iaload, 623, 0, 0, 0, 0, 0, []) := (congrFun pm_W_law 622).trans rfl
theorem rl_W_law_623 : (am_pg z_W_law).2 623 = some (.aload_n 0, 624, 0, 0, 0, 0, 0, []) := (congrFun pm_W_law 623).trans rfl
theorem rl_W_law_624 : (am_pg z_W_law).2 624 = some (.iload_n 3, 625, 3, 0, 0, 0, 0, []) := (congrFun pm_W_law 624).trans rfl
theorem rl_W_law_625 : (am_pg z_W_law).2 625 = some (.iconst (2), 626, 0, 0, 0, 0, 2, []) := (congrFun pm_W_law 625).trans rfl
theorem rl_W_law_626 : (am_pg z_W_law).2 626 = some (.iadd, 627, 0, 0, 0, 0, 0, []) := (congrFun pm_W_law 626).trans rfl
theorem rl_W_law_627 : (am_pg z_W_law).2 627 = some (.iaload, 628, 0, 0, 0, 0, 0, []) := (congrFun pm_W_law 627).trans rfl
theorem rl_W_law_628 : (am_pg z_W_law).2 628 = some (.invokevirtual 46, 631, 8, 2, 8, 46, 0, []) := (congrFun pm_W_law 628).trans rfl
theorem rl_W_law_631 : (am_pg z_W_law).2 631 = some (.aload_n 2, 632, 2, 0, 0, 0, 0, []) := (congrFun pm_W_law 631).trans rfl
theorem rl_W_law_632 : (am_pg z_W_law).2 632 = some (.aload_n 0, 633, 0, 0, 0, 0, 0, []) := (congrFun pm_W_law 632).trans rfl
theorem rl_W_law_633 : (am_pg z_W_law).2 633 = some (.iload_n 3, 634, 3, 0, 0, 0, 0, []) := (congrFun pm_W_law 633).trans rfl
theorem rl_W_law_634 : (am_pg z_W_law).2 634 = some (.iconst (1), 635, 0, 0, 0, 0, 1, []) := (congrFun pm_W_law 634).trans rfl
theorem rl_W_law_635 : (am_pg z_W_law).2 635 = some (.iadd, 636, 0, 0, 0, 0, 0, []) := (congrFun pm_W_law 635).trans rfl
theorem rl_W_law_636 : (am_pg z_W_law).2 636 = some (.iaload, 637, 0, 0, 0, 0, 0, []) := (congrFun pm_W_law 636).trans rfl
theorem rl_W_law_637 : (am_pg z_W_law).2 637 = some (.aload_n 0, 638, 0, 0, 0, 0, 0, []) := (congrFun pm_W_law 637).trans rfl
theorem rl_W_law_638 : (am_pg z_W_law).2 638 = some (.iload_n 3, 639, 3, 0, 0, 0, 0, []) := (congrFun pm_W_law 638).trans rfl
theorem rl_W_law_639 : (am_pg z_W_law).2 639 = some (.iconst (2), 640, 0, 0, 0, 0, 2, []) := (congrFun pm_W_law 639).trans rfl
theorem rl_W_law_640 : (am_pg z_W_law).2 640 = some (.iadd, 641, 0, 0, 0, 0, 0, []) := (congrFun pm_W_law 640).trans rfl
theorem rl_W_law_641 : (am_pg z_W_law).2 641 = some (.iaload, 642, 0, 0, 0, 0, 0, []) := (congrFun pm_W_law 641).trans rfl
theorem rl_W_law_642 : (am_pg z_W_law).2 642 = some (.invokevirtual 50, 645, 111, 2, 9, 230, 0, []) := (congrFun pm_W_law 642).trans rfl
theorem rl_W_law_645 : (am_pg z_W_law).2 645 = some (.if_icmp .eq (1828), 648, 2473, 0, 0, 0, 0, []) := (congrFun pm_W_law 645).trans rfl
theorem rl_W_law_648 : (am_pg z_W_law).2 648 = some (.iconst (0), 649, 0, 0, 0, 0, 0, []) := (congrFun pm_W_law 648).trans rfl
theorem rl_W_law_649 : (am_pg z_W_law).2 649 = some (.ireturn, 650, 0, 0, 1, 0, 0, []) := (congrFun pm_W_law 649).trans rfl
theorem rl_W_law_650 : (am_pg z_W_law).2 650 = some (.aload_n 1, 651, 1, 0, 0, 0, 0, []) := (congrFun pm_W_law 650).trans rfl
theorem rl_W_law_651 : (am_pg z_W_law).2 651 = some (.aload_n 0, 652, 0, 0, 0, 0, 0, []) := (congrFun pm_W_law 651).trans rfl
theorem rl_W_law_652 : (am_pg z_W_law).2 652 = some (.iload_n 3, 653, 3, 0, 0, 0, 0, []) := (congrFun pm_W_law 652).trans rfl
theorem rl_W_law_653 : (am_pg z_W_law).2 653 = some (.iconst (1), 654, 0, 0, 0, 0, 1, []) := (congrFun pm_W_law 653).trans rfl
theorem rl_W_law_654 : (am_pg z_W_law).2 654 = some (.iadd, 655, 0, 0, 0, 0, 0, []) := (congrFun pm_W_law 654).trans rfl
theorem rl_W_law_655 : (am_pg z_W_law).2 655 = some (.iaload, 656, 0, 0, 0, 0, 0, []) := (congrFun pm_W_law 655).trans rfl
theorem rl_W_law_656 : (am_pg z_W_law).2 656 = some (.invokevirtual 51, 659, 9, 1, 8, 48, 0, []) := (congrFun pm_W_law 656).trans rfl
theorem rl_W_law_659 : (am_pg z_W_law).2 659 = some (.aload_n 2, 660, 2, 0, 0, 0, 0, []) := (congrFun pm_W_law 659).trans rfl
theorem rl_W_law_660 : (am_pg z_W_law).2 660 = some (.aload_n 0, 661, 0, 0, 0, 0, 0, []) := (congrFun pm_W_law 660).trans rfl
theorem rl_W_law_661 : (am_pg z_W_law).2 661 = some (.iload_n 3, 662, 3, 0, 0, 0, 0, []) := (congrFun pm_W_law 661).trans rfl
theorem rl_W_law_662 : (am_pg z_W_law).2 662 = some (.iconst (1), 663, 0, 0, 0, 0, 1, []) := (congrFun pm_W_law 662).trans rfl
theorem rl_W_law_663 : (am_pg z_W_law).2 663 = some (.iadd, 664, 0, 0, 0, 0, 0, []) := (congrFun pm_W_law 663).trans rfl
theorem rl_W_law_664 : (am_pg z_W_law).2 664 = some (.iaload, 665, 0, 0, 0, 0, 0, []) := (congrFun pm_W_law 664).trans rfl
theorem rl_W_law_665 : (am_pg z_W_law).2 665 = some (.invokevirtual 54, 668, 116, 1, 9, 231, 0, []) := (congrFun pm_W_law 665).trans rfl
theorem rl_W_law_668 : (am_pg z_W_law).2 668 = some (.if_icmp .eq (1805), 671, 2473, 0, 0, 0, 0, []) := (congrFun pm_W_law 668).trans rfl
theorem rl_W_law_671 : (am_pg z_W_law).2 671 = some (.iconst (0), 672, 0, 0, 0, 0, 0, []) := (congrFun pm_W_law 671).trans rfl
theorem rl_W_law_672 : (am_pg z_W_law).2 672 = some (.ireturn, 673, 0, 0, 1, 0, 0, []) := (congrFun pm_W_law 672).trans rfl
theorem rl_W_law_673 : (am_pg z_W_law).2 673 = some (.aload_n 1, 674, 1, 0, 0, 0, 0, []) := (congrFun pm_W_law 673).trans rfl
theorem rl_W_law_674 : (am_pg z_W_law).2 674 = some (.aload_n 0, 675, 0, 0, 0, 0, 0, []) := (congrFun pm_W_law 674).trans rfl
theorem rl_W_law_675 : (am_pg z_W_law).2 675 = some (.iload_n 3, 676, 3, 0, 0, 0, 0, []) := (congrFun pm_W_law 675).trans rfl
theorem rl_W_law_676 : (am_pg z_W_law).2 676 = some (.iconst (1), 677, 0, 0, 0, 0, 1, []) := (congrFun pm_W_law 676).trans rfl
theorem rl_W_law_677 : (am_pg z_W_law).2 677 = some (.iadd, 678, 0, 0, 0, 0, 0, []) := (congrFun pm_W_law 677).trans rfl
theorem rl_W_law_678 : (am_pg z_W_law).2 678 = some (.iaload, 679, 0, 0, 0, 0, 0, []) := (congrFun pm_W_law 678).trans rfl
theorem rl_W_law_679 : (am_pg z_W_law).2 679 = some (.aload_n 0, 680, 0, 0, 0, 0, 0, []) := (congrFun pm_W_law 679).trans rfl
theorem rl_W_law_680 : (am_pg z_W_law).2 680 = some (.iload_n 3, 681, 3, 0, 0, 0, 0, []) := (congrFun pm_W_law 680).trans rfl
theorem rl_W_law_681 : (am_pg z_W_law).2 681 = some (.iconst (2), 682, 0, 0, 0, 0, 2, []) := (congrFun pm_W_law 681).trans rfl
theorem rl_W_law_682 : (am_pg z_W_law).2 682 = some (.iadd, 683, 0, 0, 0, 0, 0, []) := (congrFun pm_W_law 682).trans rfl
theorem rl_W_law_683 : (am_pg z_W_law).2 683 = some (.iaload, 684, 0, 0, 0, 0, 0, []) := (congrFun pm_W_law 683).trans rfl
theorem rl_W_law_684 : (am_pg z_W_law).2 684 = some (.aload_n 0, 685, 0, 0, 0, 0, 0, []) := (congrFun pm_W_law 684).trans rfl
theorem rl_W_law_685 : (am_pg z_W_law).2 685 = some (.iload_n 3, 686, 3, 0, 0, 0, 0, []) := (congrFun pm_W_law 685).trans rfl
theorem rl_W_law_686 : (am_pg z_W_law).2 686 = some (.iconst (3), 687, 0, 0, 0, 0, 3, []) := (congrFun pm_W_law 686).trans rfl
theorem rl_W_law_687 : (am_pg z_W_law).2 687 = some (.iadd, 688, 0, 0, 0, 0, 0, []) := (congrFun pm_W_law 687).trans rfl
theorem rl_W_law_688 : (am_pg z_W_law).2 688 = some (.iaload, 689, 0, 0, 0, 0, 0, []) := (congrFun pm_W_law 688).trans rfl
theorem rl_W_law_689 : (am_pg z_W_law).2 689 = some (.invokevirtual 55, 692, 10, 3, 8, 57, 0, []) := (congrFun pm_W_law 689).trans rfl
theorem rl_W_law_692 : (am_pg z_W_law).2 692 = some (.aload_n 2, 693, 2, 0, 0, 0, 0, []) := (congrFun pm_W_law 692).trans rfl
theorem rl_W_law_693 : (am_pg z_W_law).2 693 = some (.aload_n 0, 694, 0, 0, 0, 0, 0, []) := (congrFun pm_W_law 693).trans rfl
theorem rl_W_law_694 : (am_pg z_W_law).2 694 = some (.iload_n 3, 695, 3, 0, 0, 0, 0, []) := (congrFun pm_W_law 694).trans rfl
theorem rl_W_law_695 : (am_pg z_W_law).2 695 = some (.iconst (1), 696, 0, 0, 0, 0, 1, []) := (congrFun pm_W_law 695).trans rfl
theorem rl_W_law_696 : (am_pg z_W_law).2 696 = some (.iadd, 697, 0, 0, 0, 0, 0, []) := (congrFun pm_W_law 696).trans rfl
theorem rl_W_law_697 : (am_pg z_W_law).2 697 = some (.iaload, 698, 0, 0, 0, 0, 0, []) := (congrFun pm_W_law 697).trans rfl
theorem rl_W_law_698 : (am_pg z_W_law).2 698 = some (.aload_n 0, 699, 0, 0, 0, 0, 0, []) := (congrFun pm_W_law 698).trans rfl
theorem rl_W_law_699 : (am_pg z_W_law).2 699 = some (.iload_n 3, 700, 3, 0, 0, 0, 0, []) := (congrFun pm_W_law 699).trans rfl
theorem rl_W_law_700 : (am_pg z_W_law).2 700 = some (.iconst (2), 701, 0, 0, 0, 0, 2, []) := (congrFun pm_W_law 700).trans rfl
theorem rl_W_law_701 : (am_pg z_W_law).2 701 = some (.iadd, 702, 0, 0, 0, 0, 0, []) := (congrFun pm_W_law 701).trans rfl
theorem rl_W_law_702 : (am_pg z_W_law).2 702 = some (.iaload, 703, 0, 0, 0, 0, 0, []) := (congrFun pm_W_law 702).trans rfl
theorem rl_W_law_703 : (am_pg z_W_law).2 703 = some (.aload_n 0, 704, 0, 0, 0, 0, 0, []) := (congrFun pm_W_law 703).trans rfl
theorem rl_W_law_704 : (am_pg z_W_law).2 704 = some (.iload_n 3, 705, 3, 0, 0, 0, 0, []) := (congrFun pm_W_law 704).trans rfl
theorem rl_W_law_705 : (am_pg z_W_law).2 705 = some (.iconst (3), 706, 0, 0, 0, 0, 3, []) := (congrFun pm_W_law 705).trans rfl
theorem rl_W_law_706 : (am_pg z_W_law).2 706 = some (.iadd, 707, 0, 0, 0, 0, 0, []) := (congrFun pm_W_law 706).trans rfl
theorem rl_W_law_707 : (am_pg z_W_law).2 707 = some (.iaload, 708, 0, 0, 0, 0, 0, []) := (congrFun pm_W_law 707).trans rfl
theorem rl_W_law_708 : (am_pg z_W_law).2 708 = some (.invokevirtual 58, 711, 117, 3, 9, 236, 0, []) := (congrFun pm_W_law 708).trans rfl
theorem rl_W_law_711 : (am_pg z_W_law).2 711 = some (.if_icmp .eq (1762), 714, 2473, 0, 0, 0, 0, []) := (congrFun pm_W_law 711).trans rfl
theorem rl_W_law_714 : (am_pg z_W_law).2 714 = some (.iconst (0), 715, 0, 0, 0, 0, 0, []) := (congrFun pm_W_law 714).trans rfl
theorem rl_W_law_715 : (am_pg z_W_law).2 715 = some (.ireturn, 716, 0, 0, 1, 0, 0, []) := (congrFun pm_W_law 715).trans rfl
theorem rl_W_law_716 : (am_pg z_W_law).2 716 = some (.aload_n 1, 717, 1, 0, 0, 0, 0, []) := (congrFun pm_W_law 716).trans rfl
theorem rl_W_law_717 : (am_pg z_W_law).2 717 = some (.aload_n 0, 718, 0, 0, 0, 0, 0, []) := (congrFun pm_W_law 717).trans rfl
theorem rl_W_law_718 : (am_pg z_W_law).2 718 = some (.iload_n 3, 719, 3, 0, 0, 0, 0, []) := (congrFun pm_W_law 718).trans rfl
theorem rl_W_law_719 : (am_pg z_W_law).2 719 = some (.iconst (1), 720, 0, 0, 0, 0, 1, []) := (congrFun pm_W_law 719).trans rfl
theorem rl_W_law_720 : (am_pg z_W_law).2 720 = some (.iadd, 721, 0, 0, 0, 0, 0, []) := (congrFun pm_W_law 720).trans rfl
theorem rl_W_law_721 : (am_pg z_W_law).2 721 = some (.iaload, 722, 0, 0, 0, 0, 0, []) := (congrFun pm_W_law 721).trans rfl
theorem rl_W_law_722 : (am_pg z_W_law).2 722 = some (.aload_n 0, 723, 0, 0, 0, 0, 0, []) := (congrFun pm_W_law 722).trans rfl
theorem rl_W_law_723 : (am_pg z_W_law).2 723 = some (.iload_n 3, 724, 3, 0, 0, 0, 0, []) := (congrFun pm_W_law 723).trans rfl
theorem rl_W_law_724 : (am_pg z_W_law).2 724 = some (.iconst (2), 725, 0, 0, 0, 0, 2, []) := (congrFun pm_W_law 724).trans rfl
theorem rl_W_law_725 : (am_pg z_W_law).2 725 = some (.iadd, 726, 0, 0, 0, 0, 0, []) := (congrFun pm_W_law 725).trans rfl
theorem rl_W_law_726 : (am_pg z_W_law).2 726 = some (.iaload, 727, 0, 0, 0, 0, 0, []) := (congrFun pm_W_law 726).trans rfl
theorem rl_W_law_727 : (am_pg z_W_law).2 727 = some (.aload_n 0, 728, 0, 0, 0, 0, 0, []) := (congrFun pm_W_law 727).trans rfl
theorem rl_W_law_728 : (am_pg z_W_law).2 728 = some (.iload_n 3, 729, 3, 0, 0, 0, 0, []) := (congrFun pm_W_law 728).trans rfl
theorem rl_W_law_729 : (am_pg z_W_law).2 729 = some (.iconst (3), 730, 0, 0, 0, 0, 3, []) := (congrFun pm_W_law 729).trans rfl
theorem rl_W_law_730 : (am_pg z_W_law).2 730 = some (.iadd, 731, 0, 0, 0, 0, 0, []) := (congrFun pm_W_law 730).trans rfl
theorem rl_W_law_731 : (am_pg z_W_law).2 731 = some (.iaload, 732, 0, 0, 0, 0, 0, []) := (congrFun pm_W_law 731).trans rfl
theorem rl_W_law_732 : (am_pg z_W_law).2 732 = some (.invokevirtual 59, 735, 11, 3, 8, 58, 0, []) := (congrFun pm_W_law 732).trans rfl
theorem rl_W_law_735 : (am_pg z_W_law).2 735 = some (.aload_n 2, 736, 2, 0, 0, 0, 0, []) := (congrFun pm_W_law 735).trans rfl
theorem rl_W_law_736 : (am_pg z_W_law).2 736 = some (.aload_n 0, 737, 0, 0, 0, 0, 0, []) := (congrFun pm_W_law 736).trans rfl
theorem rl_W_law_737 : (am_pg z_W_law).2 737 = some (.iload_n 3, 738, 3, 0, 0, 0, 0, []) := (congrFun pm_W_law 737).trans rfl
theorem rl_W_law_738 : (am_pg z_W_law).2 738 = some (.iconst (1), 739, 0, 0, 0, 0, 1, []) := (congrFun pm_W_law 738).trans rfl
theorem rl_W_law_739 : (am_pg z_W_law).2 739 = some (.iadd, 740, 0, 0, 0, 0, 0, []) := (congrFun pm_W_law 739).trans rfl
theorem rl_W_law_740 : (am_pg z_W_law).2 740 = some (.iaload, 741, 0, 0, 0, 0, 0, []) := (congrFun pm_W_law 740).trans rfl
theorem rl_W_law_741 : (am_pg z_W_law).2 741 = some (.aload_n 0, 742, 0, 0, 0, 0, 0, []) := (congrFun pm_W_law 741).trans rfl
theorem rl_W_law_742 : (am_pg z_W_law).2 742 = some (.iload_n 3, 743, 3, 0, 0, 0, 0, []) := (congrFun pm_W_law 742).trans rfl
theorem rl_W_law_743 : (am_pg z_W_law).2 743 = some (.iconst (2), 744, 0, 0, 0, 0, 2, []) := (congrFun pm_W_law 743).trans rfl
theorem rl_W_law_744 : (am_pg z_W_law).2 744 = some (.iadd, 745, 0, 0, 0, 0, 0, []) := (congrFun pm_W_law 744).trans rfl
theorem rl_W_law_745 : (am_pg z_W_law).2 745 = some (.iaload, 746, 0, 0, 0, 0, 0, []) := (congrFun pm_W_law 745).trans rfl
theorem rl_W_law_746 : (am_pg z_W_law).2 746 = some (.aload_n 0, 747, 0, 0, 0, 0, 0, []) := (congrFun pm_W_law 746).trans rfl
theorem rl_W_law_747 : (am_pg z_W_law).2 747 = some (.iload_n 3, 748, 3, 0, 0, 0, 0, []) := (congrFun pm_W_law 747).trans rfl
theorem rl_W_law_748 : (am_pg z_W_law).2 748 = some (.iconst (3), 749, 0, 0, 0, 0, 3, []) := (congrFun pm_W_law 748).trans rfl
theorem rl_W_law_749 : (am_pg z_W_law).2 749 = some (.iadd, 750, 0, 0, 0, 0, 0, []) := (congrFun pm_W_law 749).trans rfl
theorem rl_W_law_750 : (am_pg z_W_law).2 750 = some (.iaload, 751, 0, 0, 0, 0, 0, []) := (congrFun pm_W_law 750).trans rfl
theorem rl_W_law_751 : (am_pg z_W_law).2 751 = some (.invokevirtual 62, 754, 118, 3, 9, 237, 0, []) := (congrFun pm_W_law 751).trans rfl
theorem rl_W_law_754 : (am_pg z_W_law).2 754 = some (.if_icmp .eq (1719), 757, 2473, 0, 0, 0, 0, []) := (congrFun pm_W_law 754).trans rfl
theorem rl_W_law_757 : (am_pg z_W_law).2 757 = some (.iconst (0), 758, 0, 0, 0, 0, 0, []) := (congrFun pm_W_law 757).trans rfl
theorem rl_W_law_758 : (am_pg z_W_law).2 758 = some (.ireturn, 759, 0, 0, 1, 0, 0, []) := (congrFun pm_W_law 758).trans rfl
theorem rl_W_law_759 : (am_pg z_W_law).2 759 = some (.aload_n 1, 760, 1, 0, 0, 0, 0, []) := (congrFun pm_W_law 759).trans rfl
theorem rl_W_law_760 : (am_pg z_W_law).2 760 = some (.aload_n 0, 761, 0, 0, 0, 0, 0, []) := (congrFun pm_W_law 760).trans rfl
theorem rl_W_law_761 : (am_pg z_W_law).2 761 = some (.iload_n 3, 762, 3, 0, 0, 0, 0, []) := (congrFun pm_W_law 761).trans rfl
theorem rl_W_law_762 : (am_pg z_W_law).2 762 = some (.iconst (1), 763, 0, 0, 0, 0, 1, []) := (congrFun pm_W_law 762).trans rfl
theorem rl_W_law_763 : (am_pg z_W_law).2 763 = some (.iadd, 764, 0, 0, 0, 0, 0, []) := (congrFun pm_W_law 763).trans rfl
theorem rl_W_law_764 : (am_pg z_W_law).2 764 = some (.iaload, 765, 0, 0, 0, 0, 0, []) := (congrFun pm_W_law 764).trans rfl
theorem rl_W_law_765 : (am_pg z_W_law).2 765 = some (.aload_n 0, 766, 0, 0, 0, 0, 0, []) := (congrFun pm_W_law 765).trans rfl
theorem rl_W_law_766 : (am_pg z_W_law).2 766 = some (.iload_n 3, 767, 3, 0, 0, 0, 0, []) := (congrFun pm_W_law 766).trans rfl
theorem rl_W_law_767 : (am_pg z_W_law).2 767 = some (.iconst (2), 768, 0, 0, 0, 0, 2, []) := (congrFun pm_W_law 767).trans rfl
theorem rl_W_law_768 : (am_pg z_W_law).2 768 = some (.iadd, 769, 0, 0, 0, 0, 0, []) := (congrFun pm_W_law 768).trans rfl
theorem rl_W_law_769 : (am_pg z_W_law).2 769 = some (.iaload, 770, 0, 0, 0, 0, 0, []) := (congrFun pm_W_law 769).trans rfl
theorem rl_W_law_770 : (am_pg z_W_law).2 770 = some (.invokevirtual 63, 773, 12, 2, 8, 61, 0, []) := (congrFun pm_W_law 770).trans rfl
theorem rl_W_law_773 : (am_pg z_W_law).2 773 = some (.aload_n 2, 774, 2, 0, 0, 0, 0, []) := (congrFun pm_W_law 773).trans rfl
theorem rl_W_law_774 : (am_pg z_W_law).2 774 = some (.aload_n 0, 775, 0, 0, 0, 0, 0, []) := (congrFun pm_W_law 774).trans rfl
theorem rl_W_law_775 : (am_pg z_W_law).2 775 = some (.iload_n 3, 776, 3, 0, 0, 0, 0, []) := (congrFun pm_W_law 775).trans rfl
theorem rl_W_law_776 : (am_pg z_W_law).2 776 = some (.iconst (1), 777, 0, 0, 0, 0, 1, []) := (congrFun pm_W_law 776).trans rfl
theorem rl_W_law_777 : (am_pg z_W_law).2 777 = some (.iadd, 778, 0, 0, 0, 0, 0, []) := (congrFun pm_W_law 777).trans rfl
theorem rl_W_law_778 : (am_pg z_W_law).2 778 = some (.iaload, 779, 0, 0, 0, 0, 0, []) := (congrFun pm_W_law 778).trans rfl
theorem rl_W_law_779 : (am_pg z_W_law).2 779 = some (.aload_n 0, 780, 0, 0, 0, 0, 0, []) := (congrFun pm_W_law 779).trans rfl
theorem rl_W_law_780 : (am_pg z_W_law).2 780 = some (.iload_n 3, 781, 3, 0, 0, 0, 0, []) := (congrFun pm_W_law 780).trans rfl
theorem rl_W_law_781 : (am_pg z_W_law).2 781 = some (.iconst (2), 782, 0, 0, 0, 0, 2, []) := (congrFun pm_W_law 781).trans rfl
theorem rl_W_law_782 : (am_pg z_W_law).2 782 = some (.iadd, 783, 0, 0, 0, 0, 0, []) := (congrFun pm_W_law 782).trans rfl
theorem rl_W_law_783 : (am_pg z_W_law).2 783 = some (.iaload, 784, 0, 0, 0, 0, 0, []) := (congrFun pm_W_law 783).trans rfl
theorem rl_W_law_784 : (am_pg z_W_law).2 784 = some (.invokevirtual 67, 787, 121, 2, 9, 238, 0, []) := (congrFun pm_W_law 784).trans rfl
theorem rl_W_law_787 : (am_pg z_W_law).2 787 = some (.if_icmp .eq (1686), 790, 2473, 0, 0, 0, 0, []) := (congrFun pm_W_law 787).trans rfl
theorem rl_W_law_790 : (am_pg z_W_law).2 790 = some (.iconst (0), 791, 0, 0, 0, 0, 0, []) := (congrFun pm_W_law 790).trans rfl
theorem rl_W_law_791 : (am_pg z_W_law).2 791 = some (.ireturn, 792, 0, 0, 1, 0, 0, []) := (congrFun pm_W_law 791).trans rfl
theorem rl_W_law_792 : (am_pg z_W_law).2 792 = some (.aload_n 1, 793, 1, 0, 0, 0, 0, []) := (congrFun pm_W_law 792).trans rfl
theorem rl_W_law_793 : (am_pg z_W_law).2 793 = some (.aload_n 0, 794, 0, 0, 0, 0, 0, []) := (congrFun pm_W_law 793).trans rfl
theorem rl_W_law_794 : (am_pg z_W_law).2 794 = some (.iload_n 3, 795, 3, 0, 0, 0, 0, []) := (congrFun pm_W_law 794).trans rfl
theorem rl_W_law_795 : (am_pg z_W_law).2 795 = some (.iconst (1), 796, 0, 0, 0, 0, 1, []) := (congrFun pm_W_law 795).trans rfl
theorem rl_W_law_796 : (am_pg z_W_law).2 796 = some (.iadd, 797, 0, 0, 0, 0, 0, []) := (congrFun pm_W_law 796).trans rfl
theorem rl_W_law_797 : (am_pg z_W_law).2 797 = some (.iaload, 798, 0, 0, 0, 0, 0, []) := (congrFun pm_W_law 797).trans rfl
theorem rl_W_law_798 : (am_pg z_W_law).2 798 = some (.aload_n 0, 799, 0, 0, 0, 0, 0, []) := (congrFun pm_W_law 798).trans rfl
theorem rl_W_law_799 : (am_pg z_W_law).2 799 = some (.iload_n 3, 800, 3, 0, 0, 0, 0, []) := (congrFun pm_W_law 799).trans rfl
theorem rl_W_law_800 : (am_pg z_W_law).2 800 = some (.iconst (2), 801, 0, 0, 0, 0, 2, []) := (congrFun pm_W_law 800).trans rfl
theorem rl_W_law_801 : (am_pg z_W_law).2 801 = some (.iadd, 802, 0, 0, 0, 0, 0, []) := (congrFun pm_W_law 801).trans rfl
theorem rl_W_law_802 : (am_pg z_W_law).2 802 = some (.iaload, 803, 0, 0, 0, 0, 0, []) := (congrFun pm_W_law 802).trans rfl
theorem rl_W_law_803 : (am_pg z_W_law).2 803 = some (.invokevirtual 68, 806, 13, 2, 8, 68, 0, []) := (congrFun pm_W_law 803).trans rfl
theorem rl_W_law_806 : (am_pg z_W_law).2 806 = some (.aload_n 2, 807, 2, 0, 0, 0, 0, []) := (congrFun pm_W_law 806).trans rfl
theorem rl_W_law_807 : (am_pg z_W_law).2 807 = some (.aload_n 0, 808, 0, 0, 0, 0, 0, []) := (congrFun pm_W_law 807).trans rfl
theorem rl_W_law_808 : (am_pg z_W_law).2 808 = some (.iload_n 3, 809, 3, 0, 0, 0, 0, []) := (congrFun pm_W_law 808).trans rfl
theorem rl_W_law_809 : (am_pg z_W_law).2 809 = some (.iconst (1), 810, 0, 0, 0, 0, 1, []) := (congrFun pm_W_law 809).trans rfl
theorem rl_W_law_810 : (am_pg z_W_law).2 810 = some (.iadd, 811, 0, 0, 0, 0, 0, []) := (congrFun pm_W_law 810).trans rfl
theorem rl_W_law_811 : (am_pg z_W_law).2 811 = some (.iaload, 812, 0, 0, 0, 0, 0, []) := (congrFun pm_W_law 811).trans rfl
theorem rl_W_law_812 : (am_pg z_W_law).2 812 = some (.aload_n 0, 813, 0, 0, 0, 0, 0, []) := (congrFun pm_W_law 812).trans rfl
theorem rl_W_law_813 : (am_pg z_W_law).2 813 = some (.iload_n 3, 814, 3, 0, 0, 0, 0, []) := (congrFun pm_W_law 813).trans rfl
theorem rl_W_law_814 : (am_pg z_W_law).2 814 = some (.iconst (2), 815, 0, 0, 0, 0, 2, []) := (congrFun pm_W_law 814).trans rfl
theorem rl_W_law_815 : (am_pg z_W_law).2 815 = some (.iadd, 816, 0, 0, 0, 0, 0, []) := (congrFun pm_W_law 815).trans rfl
theorem rl_W_law_816 : (am_pg z_W_law).2 816 = some (.iaload, 817, 0, 0, 0, 0, 0, []) := (congrFun pm_W_law 816).trans rfl
theorem rl_W_law_817 : (am_pg z_W_law).2 817 = some (.invokevirtual 71, 820, 122, 2, 9, 241, 0, []) := (congrFun pm_W_law 817).trans rfl
theorem rl_W_law_820 : (am_pg z_W_law).2 820 = some (.if_icmp .eq (1653), 823, 2473, 0, 0, 0, 0, []) := (congrFun pm_W_law 820).trans rfl
theorem rl_W_law_823 : (am_pg z_W_law).2 823 = some (.iconst (0), 824, 0, 0, 0, 0, 0, []) := (congrFun pm_W_law 823).trans rfl
theorem rl_W_law_824 : (am_pg z_W_law).2 824 = some (.ireturn, 825, 0, 0, 1, 0, 0, []) := (congrFun pm_W_law 824).trans rfl
theorem rl_W_law_825 : (am_pg z_W_law).2 825 = some (.aload_n 1, 826, 1, 0, 0, 0, 0, []) := (congrFun pm_W_law 825).trans rfl
theorem rl_W_law_826 : (am_pg z_W_law).2 826 = some (.aload_n 0, 827, 0, 0, 0, 0, 0, []) := (congrFun pm_W_law 826).trans rfl
theorem rl_W_law_827 : (am_pg z_W_law).2 827 = some (.iload_n 3, 828, 3, 0, 0, 0, 0, []) := (congrFun pm_W_law 827).trans rfl
theorem rl_W_law_828 : (am_pg z_W_law).2 828 = some (.iconst (1), 829, 0, 0, 0, 0, 1, []) := (congrFun pm_W_law 828).trans rfl
theorem rl_W_law_829 : (am_pg z_W_law).2 829 = some (.iadd, 830, 0, 0, 0, 0, 0, []) := (congrFun pm_W_law 829).trans rfl
theorem rl_W_law_830 : (am_pg z_W_law).2 830 = some (.iaload, 831, 0, 0, 0, 0, 0, []) := (congrFun pm_W_law 830).trans rfl
theorem rl_W_law_831 : (am_pg z_W_law).2 831 = some (.aload_n 0, 832, 0, 0, 0, 0, 0, []) := (congrFun pm_W_law 831).trans rfl
theorem rl_W_law_832 : (am_pg z_W_law).2 832 = some (.iload_n 3, 833, 3, 0, 0, 0, 0, []) := (congrFun pm_W_law 832).trans rfl
theorem rl_W_law_833 : (am_pg z_W_law).2 833 = some (.iconst (2), 834, 0, 0, 0, 0, 2, []) := (congrFun pm_W_law 833).trans rfl
theorem rl_W_law_834 : (am_pg z_W_law).2 834 = some (.iadd, 835, 0, 0, 0, 0, 0, []) := (congrFun pm_W_law 834).trans rfl
theorem rl_W_law_835 : (am_pg z_W_law).2 835 = some (.iaload, 836, 0, 0, 0, 0, 0, []) := (congrFun pm_W_law 835).trans rfl
theorem rl_W_law_836 : (am_pg z_W_law).2 836 = some (.aload_n 0, 837, 0, 0, 0, 0, 0, []) := (congrFun pm_W_law 836).trans rfl
theorem rl_W_law_837 : (am_pg z_W_law).2 837 = some (.iload_n 3, 838, 3, 0, 0, 0, 0, []) := (congrFun pm_W_law 837).trans rfl
theorem rl_W_law_838 : (am_pg z_W_law).2 838 = some (.iconst (3), 839, 0, 0, 0, 0, 3, []) := (congrFun pm_W_law 838).trans rfl
theorem rl_W_law_839 : (am_pg z_W_law).2 839 = some (.iadd, 840, 0, 0, 0, 0, 0, []) := (congrFun pm_W_law 839).trans rfl
theorem rl_W_law_840 : (am_pg z_W_law).2 840 = some (.iaload, 841, 0, 0, 0, 0, 0, []) := (congrFun pm_W_law 840).trans rfl
theorem rl_W_law_841 : (am_pg z_W_law).2 841 = some (.invokevirtual 72, 844, 14, 3, 8, 69, 0, []) := (congrFun pm_W_law 841).trans rfl
theorem rl_W_law_844 : (am_pg z_W_law).2 844 = some (.aload_n 2, 845, 2, 0, 0, 0, 0, []) := (congrFun pm_W_law 844).trans rfl
theorem rl_W_law_845 : (am_pg z_W_law).2 845 = some (.aload_n 0, 846, 0, 0, 0, 0, 0, []) := (congrFun pm_W_law 845).trans rfl
theorem rl_W_law_846 : (am_pg z_W_law).2 846 = some (.iload_n 3, 847, 3, 0, 0, 0, 0, []) := (congrFun pm_W_law 846).trans rfl
theorem rl_W_law_847 : (am_pg z_W_law).2 847 = some (.iconst (1), 848, 0, 0, 0, 0, 1, []) := (congrFun pm_W_law 847).trans rfl
theorem rl_W_law_848 : (am_pg z_W_law).2 848 = some (.iadd, 849, 0, 0, 0, 0, 0, []) := (congrFun pm_W_law 848).trans rfl
theorem rl_W_law_849 : (am_pg z_W_law).2 849 = some (.iaload, 850, 0, 0, 0, 0, 0, []) := (congrFun pm_W_law 849).trans rfl
theorem rl_W_law_850 : (am_pg z_W_law).2 850 = some (.aload_n 0, 851, 0, 0, 0, 0, 0, []) := (congrFun pm_W_law 850).trans rfl
theorem rl_W_law_851 : (am_pg z_W_law).2 851 = some (.iload_n 3, 852, 3, 0, 0, 0, 0, []) := (congrFun pm_W_law 851).trans rfl
theorem rl_W_law_852 : (am_pg z_W_law).2 852 = some (.iconst (2), 853, 0, 0, 0, 0, 2, []) := (congrFun pm_W_law 852).trans rfl
theorem rl_W_law_853 : (am_pg z_W_law).2 853 = some (.iadd, 854, 0, 0, 0, 0, 0, []) := (congrFun pm_W_law 853).trans rfl
theorem rl_W_law_854 : (am_pg z_W_law).2 854 = some (.iaload, 855, 0, 0, 0, 0, 0, []) := (congrFun pm_W_law 854).trans rfl
theorem rl_W_law_855 : (am_pg z_W_law).2 855 = some (.aload_n 0, 856, 0, 0, 0, 0, 0, []) := (congrFun pm_W_law 855).trans rfl
theorem rl_W_law_856 : (am_pg z_W_law).2 856 = some (.iload_n 3, 857, 3, 0, 0, 0, 0, []) := (congrFun pm_W_law 856).trans rfl
theorem rl_W_law_857 : (am_pg z_W_law).2 857 = some (.iconst (3), 858, 0, 0, 0, 0, 3, []) := (congrFun pm_W_law 857).trans rfl
theorem rl_W_law_858 : (am_pg z_W_law).2 858 = some (.iadd, 859, 0, 0, 0, 0, 0, []) := (congrFun pm_W_law 858).trans rfl
theorem rl_W_law_859 : (am_pg z_W_law).2 859 = some (.iaload, 860, 0, 0, 0, 0, 0, []) := (congrFun pm_W_law 859).trans rfl
theorem rl_W_law_860 : (am_pg z_W_law).2 860 = some (.invokevirtual 75, 863, 123, 3, 9, 242, 0, []) := (congrFun pm_W_law 860).trans rfl
theorem rl_W_law_863 : (am_pg z_W_law).2 863 = some (.if_icmp .eq (1610), 866, 2473, 0, 0, 0, 0, []) := (congrFun pm_W_law 863).trans rfl
theorem rl_W_law_866 : (am_pg z_W_law).2 866 = some (.iconst (0), 867, 0, 0, 0, 0, 0, []) := (congrFun pm_W_law 866).trans rfl
theorem rl_W_law_867 : (am_pg z_W_law).2 867 = some (.ireturn, 868, 0, 0, 1, 0, 0, []) := (congrFun pm_W_law 867).trans rfl
theorem rl_W_law_868 : (am_pg z_W_law).2 868 = some (.aload_n 1, 869, 1, 0, 0, 0, 0, []) := (congrFun pm_W_law 868).trans rfl
theorem rl_W_law_869 : (am_pg z_W_law).2 869 = some (.aload_n 0, 870, 0, 0, 0, 0, 0, []) := (congrFun pm_W_law 869).trans rfl
theorem rl_W_law_870 : (am_pg z_W_law).2 870 = some (.iload_n 3, 871, 3, 0, 0, 0, 0, []) := (congrFun pm_W_law 870).trans rfl
theorem rl_W_law_871 : (am_pg z_W_law).2 871 = some (.iconst (1), 872, 0, 0, 0, 0, 1, []) := (congrFun pm_W_law 871).trans rfl
theorem rl_W_law_872 : (am_pg z_W_law).2 872 = some (.iadd, 873, 0, 0, 0, 0, 0, []) := (congrFun pm_W_law 872).trans rfl
theorem rl_W_law_873 : (am_pg z_W_law).2 873 = some (.iaload, 874, 0, 0, 0, 0, 0, []) := (congrFun pm_W_law 873).trans rfl
theorem rl_W_law_874 : (am_pg z_W_law).2 874 = some (.aload_n 0, 875, 0, 0, 0, 0, 0, []) := (congrFun pm_W_law 874).trans rfl
theorem rl_W_law_875 : (am_pg z_W_law).2 875 = some (.iload_n 3, 876, 3, 0, 0, 0, 0, []) := (congrFun pm_W_law 875).trans rfl
theorem rl_W_law_876 : (am_pg z_W_law).2 876 = some (.iconst (2), 877, 0, 0, 0, 0, 2, []) := (congrFun pm_W_law 876).trans rfl
theorem rl_W_law_877 : (am_pg z_W_law).2 877 = some (.iadd, 878, 0, 0, 0, 0, 0, []) := (congrFun pm_W_law 877).trans rfl
theorem rl_W_law_878 : (am_pg z_W_law).2 878 = some (.iaload, 879, 0, 0, 0, 0, 0, []) := (congrFun pm_W_law 878).trans rfl
theorem rl_W_law_879 : (am_pg z_W_law).2 879 = some (.aload_n 0, 880, 0, 0, 0, 0, 0, []) := (congrFun pm_W_law 879).trans rfl
theorem rl_W_law_880 : (am_pg z_W_law).2 880 = some (.iload_n 3, 881, 3, 0, 0, 0, 0, []) := (congrFun pm_W_law 880).trans rfl
theorem rl_W_law_881 : (am_pg z_W_law).2 881 = some (.iconst (3), 882, 0, 0, 0, 0, 3, []) := (congrFun pm_W_law 881).trans rfl
theorem rl_W_law_882 : (am_pg z_W_law).2 882 = some (.iadd, 883, 0, 0, 0, 0, 0, []) := (congrFun pm_W_law 882).trans rfl
theorem rl_W_law_883 : (am_pg z_W_law).2 883 = some (.iaload, 884, 0, 0, 0, 0, 0, []) := (congrFun pm_W_law 883).trans rfl
theorem rl_W_law_884 : (am_pg z_W_law).2 884 = some (.invokevirtual 76, 887, 15, 3, 8, 74, 0, []) := (congrFun pm_W_law 884).trans rfl
theorem rl_W_law_887 : (am_pg z_W_law).2 887 = some (.aload_n 2, 888, 2, 0, 0, 0, 0, []) := (congrFun pm_W_law 887).trans rfl
theorem rl_W_law_888 : (am_pg z_W_law).2 888 = some (.aload_n 0, 889, 0, 0, 0, 0, 0, []) := (congrFun pm_W_law 888).trans rfl
theorem rl_W_law_889 : (am_pg z_W_law).2 889 = some (.iload_n 3, 890, 3, 0, 0, 0, 0, []) := (congrFun pm_W_law 889).trans rfl
theorem rl_W_law_890 : (am_pg z_W_law).2 890 = some (.iconst (1), 891, 0, 0, 0, 0, 1, []) := (congrFun pm_W_law 890).trans rfl
theorem rl_W_law_891 : (am_pg z_W_law).2 891 = some (.iadd, 892, 0, 0, 0, 0, 0, []) := (congrFun pm_W_law 891).trans rfl
theorem rl_W_law_892 : (am_pg z_W_law).2 892 = some (.iaload, 893, 0, 0, 0, 0, 0, []) := (congrFun pm_W_law 892).trans rfl
theorem rl_W_law_893 : (am_pg z_W_law).2 893 = some (.aload_n 0, 894, 0, 0, 0, 0, 0, []) := (congrFun pm_W_law 893).trans rfl
theorem rl_W_law_894 : (am_pg z_W_law).2 894 = some (.iload_n 3, 895, 3, 0, 0, 0, 0, []) := (congrFun pm_W_law 894).trans rfl
theorem rl_W_law_895 : (am_pg z_W_law).2 895 = some (.iconst (2), 896, 0, 0, 0, 0, 2, []) := (congrFun pm_W_law 895).trans rfl
theorem rl_W_law_896 : (am_pg z_W_law).2 896 = some (.iadd, 897, 0, 0, 0, 0, 0, []) := (congrFun pm_W_law 896).trans rfl
theorem rl_W_law_897 : (am_pg z_W_law).2 897 = some (.iaload, 898, 0, 0, 0, 0, 0, []) := (congrFun pm_W_law 897).trans rfl
theorem rl_W_law_898 : (am_pg z_W_law).2 898 = some (.aload_n 0, 899, 0, 0, 0, 0, 0, []) := (congrFun pm_W_law 898).trans rfl
theorem rl_W_law_899 : (am_pg z_W_law).2 899 = some (.iload_n 3, 900, 3, 0, 0, 0, 0, []) := (congrFun pm_W_law 899).trans rfl
theorem rl_W_law_900 : (am_pg z_W_law).2 900 = some (.iconst (3), 901, 0, 0, 0, 0, 3, []) := (congrFun pm_W_law 900).trans rfl
theorem rl_W_law_901 : (am_pg z_W_law).2 901 = some (.iadd, 902, 0, 0, 0, 0, 0, []) := (congrFun pm_W_law 901).trans rfl
theorem rl_W_law_902 : (am_pg z_W_law).2 902 = some (.iaload, 903, 0, 0, 0, 0, 0, []) := (congrFun pm_W_law 902).trans rfl
theorem rl_W_law_903 : (am_pg z_W_law).2 903 = some (.invokevirtual 80, 906, 126, 3, 9, 245, 0, []) := (congrFun pm_W_law 903).trans rfl
theorem rl_W_law_906 : (am_pg z_W_law).2 906 = some (.if_icmp .eq (1567), 909, 2473, 0, 0, 0, 0, []) := (congrFun pm_W_law 906).trans rfl
theorem rl_W_law_909 : (am_pg z_W_law).2 909 = some (.iconst (0), 910, 0, 0, 0, 0, 0, []) := (congrFun pm_W_law 909).trans rfl
theorem rl_W_law_910 : (am_pg z_W_law).2 910 = some (.ireturn, 911, 0, 0, 1, 0, 0, []) := (congrFun pm_W_law 910).trans rfl
theorem rl_W_law_911 : (am_pg z_W_law).2 911 = some (.aload_n 1, 912, 1, 0, 0, 0, 0, []) := (congrFun pm_W_law 911).trans rfl
theorem rl_W_law_912 : (am_pg z_W_law).2 912 = some (.aload_n 0, 913, 0, 0, 0, 0, 0, []) := (congrFun pm_W_law 912).trans rfl
theorem rl_W_law_913 : (am_pg z_W_law).2 913 = some (.iload_n 3, 914, 3, 0, 0, 0, 0, []) := (congrFun pm_W_law 913).trans rfl
theorem rl_W_law_914 : (am_pg z_W_law).2 914 = some (.iconst (1), 915, 0, 0, 0, 0, 1, []) := (congrFun pm_W_law 914).trans rfl
theorem rl_W_law_915 : (am_pg z_W_law).2 915 = some (.iadd, 916, 0, 0, 0, 0, 0, []) := (congrFun pm_W_law 915).trans rfl
theorem rl_W_law_916 : (am_pg z_W_law).2 916 = some (.iaload, 917, 0, 0, 0, 0, 0, []) := (congrFun pm_W_law 916).trans rfl
theorem rl_W_law_917 : (am_pg z_W_law).2 917 = some (.aload_n 0, 918, 0, 0, 0, 0, 0, []) := (congrFun pm_W_law 917).trans rfl
theorem rl_W_law_918 : (am_pg z_W_law).2 918 = some (.iload_n 3, 919, 3, 0, 0, 0, 0, []) := (congrFun pm_W_law 918).trans rfl
theorem rl_W_law_919 : (am_pg z_W_law).2 919 = some (.iconst (2), 920, 0, 0, 0, 0, 2, []) := (congrFun pm_W_law 919).trans rfl
theorem rl_W_law_920 : (am_pg z_W_law).2 920 = some (.iadd, 921, 0, 0, 0, 0, 0, []) := (congrFun pm_W_law 920).trans rfl
theorem rl_W_law_921 : (am_pg z_W_law).2 921 = some (.iaload, 922, 0, 0, 0, 0, 0, []) := (congrFun pm_W_law 921).trans rfl
theorem rl_W_law_922 : (am_pg z_W_law).2 922 = some (.invokevirtual 81, 925, 16, 2, 8, 77, 0, []) := (congrFun pm_W_law 922).trans rfl
theorem rl_W_law_925 : (am_pg z_W_law).2 925 = some (.aload_n 2, 926, 2, 0, 0, 0, 0, []) := (congrFun pm_W_law 925).trans rfl
theorem rl_W_law_926 : (am_pg z_W_law).2 926 = some (.aload_n 0, 927, 0, 0, 0, 0, 0, []) := (congrFun pm_W_law 926).trans rfl
theorem rl_W_law_927 : (am_pg z_W_law).2 927 = some (.iload_n 3, 928, 3, 0, 0, 0, 0, []) := (congrFun pm_W_law 927).trans rfl
theorem rl_W_law_928 : (am_pg z_W_law).2 928 = some (.iconst (1), 929, 0, 0, 0, 0, 1, []) := (congrFun pm_W_law 928).trans rfl
theorem rl_W_law_929 : (am_pg z_W_law).2 929 = some (.iadd, 930, 0, 0, 0, 0, 0, []) := (congrFun pm_W_law 929).trans rfl
theorem rl_W_law_930 : (am_pg z_W_law).2 930 = some (.iaload, 931, 0, 0, 0, 0, 0, []) := (congrFun pm_W_law 930).trans rfl
theorem rl_W_law_931 : (am_pg z_W_law).2 931 = some (.aload_n 0, 932, 0, 0, 0, 0, 0, []) := (congrFun pm_W_law 931).trans rfl
theorem rl_W_law_932 : (am_pg z_W_law).2 932 = some (.iload_n 3, 933, 3, 0, 0, 0, 0, []) := (congrFun pm_W_law 932).trans rfl
theorem rl_W_law_933 : (am_pg z_W_law).2 933 = some (.iconst (2), 934, 0, 0, 0, 0, 2, []) := (congrFun pm_W_law 933).trans rfl
theorem rl_W_law_934 : (am_pg z_W_law).2 934 = some (.iadd, 935, 0, 0, 0, 0, 0, []) := (congrFun pm_W_law 934).trans rfl
theorem rl_W_law_935 : (am_pg z_W_law).2 935 = some (.iaload, 936, 0, 0, 0, 0, 0, []) := (congrFun pm_W_law 935).trans rfl
theorem rl_W_law_936 : (am_pg z_W_law).2 936 = some (.invokevirtual 84, 939, 127, 2, 9, 248, 0, []) := (congrFun pm_W_law 936).trans rfl
theorem rl_W_law_939 : (am_pg z_W_law).2 939 = some (.if_icmp .eq (1534), 942, 2473, 0, 0, 0, 0, []) := (congrFun pm_W_law 939).trans rfl
theorem rl_W_law_942 : (am_pg z_W_law).2 942 = some (.iconst (0), 943, 0, 0, 0, 0, 0, []) := (congrFun pm_W_law 942).trans rfl
theorem rl_W_law_943 : (am_pg z_W_law).2 943 = some (.ireturn, 944, 0, 0, 1, 0, 0, []) := (congrFun pm_W_law 943).trans rfl
theorem rl_W_law_944 : (am_pg z_W_law).2 944 = some (.aload_n 1, 945, 1, 0, 0, 0, 0, []) := (congrFun pm_W_law 944).trans rfl
theorem rl_W_law_945 : (am_pg z_W_law).2 945 = some (.aload_n 0, 946, 0, 0, 0, 0, 0, []) := (congrFun pm_W_law 945).trans rfl
theorem rl_W_law_946 : (am_pg z_W_law).2 946 = some (.iload_n 3, 947, 3, 0, 0, 0, 0, []) := (congrFun pm_W_law 946).trans rfl
theorem rl_W_law_947 : (am_pg z_W_law).2 947 = some (.iconst (1), 948, 0, 0, 0, 0, 1, []) := (congrFun pm_W_law 947).trans rfl
theorem rl_W_law_948 : (am_pg z_W_law).2 948 = some (.iadd, 949, 0, 0, 0, 0, 0, []) := (congrFun pm_W_law 948).trans rfl
theorem rl_W_law_949 : (am_pg z_W_law).2 949 = some (.iaload, 950, 0, 0, 0, 0, 0, []) := (congrFun pm_W_law 949).trans rfl
theorem rl_W_law_950 : (am_pg z_W_law).2 950 = some (.aload_n 0, 951, 0, 0, 0, 0, 0, []) := (congrFun pm_W_law 950).trans rfl
theorem rl_W_law_951 : (am_pg z_W_law).2 951 = some (.iload_n 3, 952, 3, 0, 0, 0, 0, []) := (congrFun pm_W_law 951).trans rfl
theorem rl_W_law_952 : (am_pg z_W_law).2 952 = some (.iconst (2), 953, 0, 0, 0, 0, 2, []) := (congrFun pm_W_law 952).trans rfl
theorem rl_W_law_953 : (am_pg z_W_law).2 953 = some (.iadd, 954, 0, 0, 0, 0, 0, []) := (congrFun pm_W_law 953).trans rfl
theorem rl_W_law_954 : (am_pg z_W_law).2 954 = some (.iaload, 955, 0, 0, 0, 0, 0, []) := (congrFun pm_W_law 954).trans rfl
theorem rl_W_law_955 : (am_pg z_W_law).2 955 = some (.invokevirtual 85, 958, 17, 2, 8, 79, 0, []) := (congrFun pm_W_law 955).trans rfl
theorem rl_W_law_958 : (am_pg z_W_law).2 958 = some (.aload_n 2, 959, 2, 0, 0, 0, 0, []) := (congrFun pm_W_law 958).trans rfl
theorem rl_W_law_959 : (am_pg z_W_law).2 959 = some (.aload_n 0, 960, 0, 0, 0, 0, 0, []) := (congrFun pm_W_law 959).trans rfl
theorem rl_W_law_960 : (am_pg z_W_law).2 960 = some (.iload_n 3, 961, 3, 0, 0, 0, 0, []) := (congrFun pm_W_law 960).trans rfl
theorem rl_W_law_961 : (am_pg z_W_law).2 961 = some (.iconst (1), 962, 0, 0, 0, 0, 1, []) := (congrFun pm_W_law 961).trans rfl
theorem rl_W_law_962 : (am_pg z_W_law).2 962 = some (.iadd, 963, 0, 0, 0, 0, 0, []) := (congrFun pm_W_law 962).trans rfl
theorem rl_W_law_963 : (am_pg z_W_law).2 963 = some (.iaload, 964, 0, 0, 0, 0, 0, []) := (congrFun pm_W_law 963).trans rfl
theorem rl_W_law_964 : (am_pg z_W_law).2 964 = some (.aload_n 0, 965, 0, 0, 0, 0, 0, []) := (congrFun pm_W_law 964).trans rfl
theorem rl_W_law_965 : (am_pg z_W_law).2 965 = some (.iload_n 3, 966, 3, 0, 0, 0, 0, []) := (congrFun pm_W_law 965).trans rfl
theorem rl_W_law_966 : (am_pg z_W_law).2 966 = some (.iconst (2), 967, 0, 0, 0, 0, 2, []) := (congrFun pm_W_law 966).trans rfl
theorem rl_W_law_967 : (am_pg z_W_law).2 967 = some (.iadd, 968, 0, 0, 0, 0, 0, []) := (congrFun pm_W_law 967).trans rfl
theorem rl_W_law_968 : (am_pg z_W_law).2 968 = some (.iaload, 969, 0, 0, 0, 0, 0, []) := (congrFun pm_W_law 968).trans rfl
theorem rl_W_law_969 : (am_pg z_W_law).2 969 = some (.invokevirtual 88, 972, 128, 2, 9, 249, 0, []) := (congrFun pm_W_law 969).trans rfl
theorem rl_W_law_972 : (am_pg z_W_law).2 972 = some (.if_icmp .eq (1501), 975, 2473, 0, 0, 0, 0, []) := (congrFun pm_W_law 972).trans rfl
theorem rl_W_law_975 : (am_pg z_W_law).2 975 = some (.iconst (0), 976, 0, 0, 0, 0, 0, []) := (congrFun pm_W_law 975).trans rfl
theorem rl_W_law_976 : (am_pg z_W_law).2 976 = some (.ireturn, 977, 0, 0, 1, 0, 0, []) := (congrFun pm_W_law 976).trans rfl
theorem rl_W_law_977 : (am_pg z_W_law).2 977 = some (.aload_n 1, 978, 1, 0, 0, 0, 0, []) := (congrFun pm_W_law 977).trans rfl
theorem rl_W_law_978 : (am_pg z_W_law).2 978 = some (.aload_n 0, 979, 0, 0, 0, 0, 0, []) := (congrFun pm_W_law 978).trans rfl
theorem rl_W_law_979 : (am_pg z_W_law).2 979 = some (.iload_n 3, 980, 3, 0, 0, 0, 0, []) := (congrFun pm_W_law 979).trans rfl
theorem rl_W_law_980 : (am_pg z_W_law).2 980 = some (.iconst (1), 981, 0, 0, 0, 0, 1, []) := (congrFun pm_W_law 980).trans rfl
theorem rl_W_law_981 : (am_pg z_W_law).2 981 = some (.iadd, 982, 0, 0, 0, 0, 0, []) := (congrFun pm_W_law 981).trans rfl
theorem rl_W_law_982 : (am_pg z_W_law).2 982 = some (.iaload, 983, 0, 0, 0, 0, 0, []) := (congrFun pm_W_law 982).trans rfl
theorem rl_W_law_983 : (am_pg z_W_law).2 983 = some (.aload_n 0, 984, 0, 0, 0, 0, 0, []) := (congrFun pm_W_law 983).trans rfl
theorem rl_W_law_984 : (am_pg z_W_law).2 984 = some (.iload_n 3, 985, 3, 0, 0, 0, 0, []) := (congrFun pm_W_law 984).trans rfl
theorem rl_W_law_985 : (am_pg z_W_law).2 985 = some (.iconst (2), 986, 0, 0, 0, 0, 2, []) := (congrFun pm_W_law 985).trans rfl
theorem rl_W_law_986 : (am_pg z_W_law).2 986 = some (.iadd, 987, 0, 0, 0, 0, 0, []) := (congrFun pm_W_law 986).trans rfl
theorem rl_W_law_987 : (am_pg z_W_law).2 987 = some (.iaload, 988, 0, 0, 0, 0, 0, []) := (congrFun pm_W_law 987).trans rfl
theorem rl_W_law_988 : (am_pg z_W_law).2 988 = some (.invokevirtual 89, 991, 18, 2, 8, 80, 0, []) := (congrFun pm_W_law 988).trans rfl
theorem rl_W_law_991 : (am_pg z_W_law).2 991 = some (.aload_n 2, 992, 2, 0, 0, 0, 0, []) := (congrFun pm_W_law 991).trans rfl
theorem rl_W_law_992 : (am_pg z_W_law).2 992 = some (.aload_n 0, 993, 0, 0, 0, 0, 0, []) := (congrFun pm_W_law 992).trans rfl
theorem rl_W_law_993 : (am_pg z_W_law).2 993 = some (.iload_n 3, 994, 3, 0, 0, 0, 0, []) := (congrFun pm_W_law 993).trans rfl
theorem rl_W_law_994 : (am_pg z_W_law).2 994 = some (.iconst (1), 995, 0, 0, 0, 0, 1, []) := (congrFun pm_W_law 994).trans rfl
theorem rl_W_law_995 : (am_pg z_W_law).2 995 = some (.iadd, 996, 0, 0, 0, 0, 0, []) := (congrFun pm_W_law 995).trans rfl
theorem rl_W_law_996 : (am_pg z_W_law).2 996 = some (.iaload, 997, 0, 0, 0, 0, 0, []) := (congrFun pm_W_law 996).trans rfl
theorem rl_W_law_997 : (am_pg z_W_law).2 997 = some (.aload_n 0, 998, 0, 0, 0, 0, 0, []) := (congrFun pm_W_law 997).trans rfl
theorem rl_W_law_998 : (am_pg z_W_law).2 998 = some (.iload_n 3, 999, 3, 0, 0, 0, 0, []) := (congrFun pm_W_law 998).trans rfl
theorem rl_W_law_999 : (am_pg z_W_law).2 999 = some (.iconst (2), 1000, 0, 0, 0, 0, 2, []) := (congrFun pm_W_law 999).trans rfl
theorem rl_W_law_1000 : (am_pg z_W_law).2 1000 = some (.iadd, 1001, 0, 0, 0, 0, 0, []) := (congrFun pm_W_law 1000).trans rfl
theorem rl_W_law_1001 : (am_pg z_W_law).2 1001 = some (.iaload, 1002, 0, 0, 0, 0, 0, []) := (congrFun pm_W_law 1001).trans rfl
theorem rl_W_law_1002 : (am_pg z_W_law).2 1002 = some (.invokevirtual 92, 1005, 129, 2, 9, 250, 0, []) := (congrFun pm_W_law 1002).trans rfl
theorem rl_W_law_1005 : (am_pg z_W_law).2 1005 = some (.if_icmp .eq (1468), 1008, 2473, 0, 0, 0, 0, []) := (congrFun pm_W_law 1005).trans rfl
theorem rl_W_law_1008 : (am_pg z_W_law).2 1008 = some (.iconst (0), 1009, 0, 0, 0, 0, 0, []) := (congrFun pm_W_law 1008).trans rfl
theorem rl_W_law_1009 : (am_pg z_W_law).2 1009 = some (.ireturn, 1010, 0, 0, 1, 0, 0, []) := (congrFun pm_W_law 1009).trans rfl
theorem rl_W_law_1010 : (am_pg z_W_law).2 1010 = some (.aload_n 1, 1011, 1, 0, 0, 0, 0, []) := (congrFun pm_W_law 1010).trans rfl
theorem rl_W_law_1011 : (am_pg z_W_law).2 1011 = some (.aload_n 0, 1012, 0, 0, 0, 0, 0, []) := (congrFun pm_W_law 1011).trans rfl
theorem rl_W_law_1012 : (am_pg z_W_law).2 1012 = some (.iload_n 3, 1013, 3, 0, 0, 0, 0, []) := (congrFun pm_W_law 1012).trans rfl
theorem rl_W_law_1013 : (am_pg z_W_law).2 1013 = some (.iconst (1), 1014, 0, 0, 0, 0, 1, []) := (congrFun pm_W_law 1013).trans rfl
theorem rl_W_law_1014 : (am_pg z_W_law).2 1014 = some (.iadd, 1015, 0, 0, 0, 0, 0, []) := (congrFun pm_W_law 1014).trans rfl
theorem rl_W_law_1015 : (am_pg z_W_law).2 1015 = some (.iaload, 1016, 0, 0, 0, 0, 0, []) := (congrFun pm_W_law 1015).trans rfl
theorem rl_W_law_1016 : (am_pg z_W_law).2 1016 = some (.aload_n 0, 1017, 0, 0, 0, 0, 0, []) := (congrFun pm_W_law 1016).trans rfl
theorem rl_W_law_1017 : (am_pg z_W_law).2 1017 = some (.iload_n 3, 1018, 3, 0, 0, 0, 0, []) := (congrFun pm_W_law 1017).trans rfl
theorem rl_W_law_1018 : (am_pg z_W_law).2 1018 = some (.iconst (2), 1019, 0, 0, 0, 0, 2, []) := (congrFun pm_W_law 1018).trans rfl
theorem rl_W_law_1019 : (am_pg z_W_law).2 1019 = some (.iadd, 1020, 0, 0, 0, 0, 0, []) := (congrFun pm_W_law 1019).trans rfl
theorem rl_W_law_1020 : (am_pg z_W_law).2 1020 = some (.iaload, 1021, 0, 0, 0, 0, 0, []) := (congrFun pm_W_law 1020).trans rfl
theorem rl_W_law_1021 : (am_pg z_W_law).2 1021 = some (.aload_n 0, 1022, 0, 0, 0, 0, 0, []) := (congrFun pm_W_law 1021).trans rfl
theorem rl_W_law_1022 : (am_pg z_W_law).2 1022 = some (.iload_n 3, 1023, 3, 0, 0, 0, 0, []) := (congrFun pm_W_law 1022).trans rfl
theorem rl_W_law_1023 : (am_pg z_W_law).2 1023 = some (.iconst (3), 1024, 0, 0, 0, 0, 3, []) := (congrFun pm_W_law 1023).trans rfl
theorem rl_W_law_1024 : (am_pg z_W_law).2 1024 = some (.iadd, 1025, 0, 0, 0, 0, 0, []) := (congrFun pm_W_law 1024).trans rfl
theorem rl_W_law_1025 : (am_pg z_W_law).2 1025 = some (.iaload, 1026, 0, 0, 0, 0, 0, []) := (congrFun pm_W_law 1025).trans rfl
theorem rl_W_law_1026 : (am_pg z_W_law).2 1026 = some (.invokevirtual 93, 1029, 19, 3, 8, 82, 0, []) := (congrFun pm_W_law 1026).trans rfl
theorem rl_W_law_1029 : (am_pg z_W_law).2 1029 = some (.aload_n 2, 1030, 2, 0, 0, 0, 0, []) := (congrFun pm_W_law 1029).trans rfl
theorem rl_W_law_1030 : (am_pg z_W_law).2 1030 = some (.aload_n 0, 1031, 0, 0, 0, 0, 0, []) := (congrFun pm_W_law 1030).trans rfl
theorem rl_W_law_1031 : (am_pg z_W_law).2 1031 = some (.iload_n 3, 1032, 3, 0, 0, 0, 0, []) := (congrFun pm_W_law 1031).trans rfl
theorem rl_W_law_1032 : (am_pg z_W_law).2 1032 = some (.iconst (1), 1033, 0, 0, 0, 0, 1, []) := (congrFun pm_W_law 1032).trans rfl
theorem rl_W_law_1033 : (am_pg z_W_law).2 1033 = some (.iadd, 1034, 0, 0, 0, 0, 0, []) := (congrFun pm_W_law 1033).trans rfl
theorem rl_W_law_1034 : (am_pg z_W_law).2 1034 = some (.iaload, 1035, 0, 0, 0, 0, 0, []) := (congrFun pm_W_law 1034).trans rfl
theorem rl_W_law_1035 : (am_pg z_W_law).2 1035 = some (.aload_n 0, 1036, 0, 0, 0, 0, 0, []) := (congrFun pm_W_law 1035).trans rfl
theorem rl_W_law_1036 : (am_pg z_W_law).2 1036 = some (.iload_n 3, 1037, 3, 0, 0, 0, 0, []) := (congrFun pm_W_law 1036).trans rfl
theorem rl_W_law_1037 : (am_pg z_W_law).2 1037 = some (.iconst (2), 1038, 0, 0, 0, 0, 2, []) := (congrFun pm_W_law 1037).trans rfl
theorem rl_W_law_1038 : (am_pg z_W_law).2 1038 = some (.iadd, 1039, 0, 0, 0, 0, 0, []) := (congrFun pm_W_law 1038).trans rfl
theorem rl_W_law_1039 : (am_pg z_W_law).2 1039 = some (.iaload, 1040, 0, 0, 0, 0, 0, []) := (congrFun pm_W_law 1039).trans rfl
theorem rl_W_law_1040 : (am_pg z_W_law).2 1040 = some (.aload_n 0, 1041, 0, 0, 0, 0, 0, []) := (congrFun pm_W_law 1040).trans rfl
theorem rl_W_law_1041 : (am_pg z_W_law).2 1041 = some (.iload_n 3, 1042, 3, 0, 0, 0, 0, []) := (congrFun pm_W_law 1041).trans rfl
theorem rl_W_law_1042 : (am_pg z_W_law).2 1042 = some (.iconst (3), 1043, 0, 0, 0, 0, 3, []) := (congrFun pm_W_law 1042).trans rfl
theorem rl_W_law_1043 : (am_pg z_W_law).2 1043 = some (.iadd, 1044, 0, 0, 0, 0, 0, []) := (congrFun pm_W_law 1043).trans rfl
theorem rl_W_law_1044 : (am_pg z_W_law).2 1044 = some (.iaload, 1045, 0, 0, 0, 0, 0, []) := (congrFun pm_W_law 1044).trans rfl
theorem rl_W_law_1045 : (am_pg z_W_law).2 1045 = some (.invokevirtual 96, 1048, 133, 3, 9, 251, 0, []) := (congrFun pm_W_law 1045).trans rfl
theorem rl_W_law_1048 : (am_pg z_W_law).2 1048 = some (.if_icmp .eq (1425), 1051, 2473, 0, 0, 0, 0, []) := (congrFun pm_W_law 1048).trans rfl
theorem rl_W_law_1051 : (am_pg z_W_law).2 1051 = some (.iconst (0), 1052, 0, 0, 0, 0, 0, []) := (congrFun pm_W_law 1051).trans rfl
theorem rl_W_law_1052 : (am_pg z_W_law).2 1052 = some (.ireturn, 1053, 0, 0, 1, 0, 0, []) := (congrFun pm_W_law 1052).trans rfl
theorem rl_W_law_1053 : (am_pg z_W_law).2 1053 = some (.aload_n 1, 1054, 1, 0, 0, 0, 0, []) := (congrFun pm_W_law 1053).trans rfl
theorem rl_W_law_1054 : (am_pg z_W_law).2 1054 = some (.aload_n 0, 1055, 0, 0, 0, 0, 0, []) := (congrFun pm_W_law 1054).trans rfl
theorem rl_W_law_1055 : (am_pg z_W_law).2 1055 = some (.iload_n 3, 1056, 3, 0, 0, 0, 0, []) := (congrFun pm_W_law 1055).trans rfl
theorem rl_W_law_1056 : (am_pg z_W_law).2 1056 = some (.iconst (1), 1057, 0, 0, 0, 0, 1, []) := (congrFun pm_W_law 1056).trans rfl
theorem rl_W_law_1057 : (am_pg z_W_law).2 1057 = some (.iadd, 1058, 0, 0, 0, 0, 0, []) := (congrFun pm_W_law 1057).trans rfl
theorem rl_W_law_1058 : (am_pg z_W_law).2 1058 = some (.iaload, 1059, 0, 0, 0, 0, 0, []) := (congrFun pm_W_law 1058).trans rfl
theorem rl_W_law_1059 : (am_pg z_W_law).2 1059 = some (.aload_n 0, 1060, 0, 0, 0, 0, 0, []) := (congrFun pm_W_law 1059).trans rfl
theorem rl_W_law_1060 : (am_pg z_W_law).2 1060 = some (.iload_n 3, 1061, 3, 0, 0, 0, 0, []) := (congrFun pm_W_law 1060).trans rfl
theorem rl_W_law_1061 : (am_pg z_W_law).2 1061 = some (.iconst (2), 1062, 0, 0, 0, 0, 2, []) := (congrFun pm_W_law 1061).trans rfl
theorem rl_W_law_1062 : (am_pg z_W_law).2 1062 = some (.iadd, 1063, 0, 0, 0, 0, 0, []) := (congrFun pm_W_law 1062).trans rfl
theorem rl_W_law_1063 : (am_pg z_W_law).2 1063 = some (.iaload, 1064, 0, 0, 0, 0, 0, []) := (congrFun pm_W_law 1063).trans rfl
theorem rl_W_law_1064 : (am_pg z_W_law).2 1064 = some (.invokevirtual 97, 1067, 20, 2, 8, 88, 0, []) := (congrFun pm_W_law 1064).trans rfl
theorem rl_W_law_1067 : (am_pg z_W_law).2 1067 = some (.aload_n 2, 1068, 2, 0, 0, 0, 0, []) := (congrFun pm_W_law 1067).trans rfl
theorem rl_W_law_1068 : (am_pg z_W_law).2 1068 = some (.aload_n 0, 1069, 0, 0, 0, 0, 0, []) := (congrFun pm_W_law 1068).trans rfl
theorem rl_W_law_1069 : (am_pg z_W_law).2 1069 = some (.iload_n 3, 1070, 3, 0, 0, 0, 0, []) := (congrFun pm_W_law 1069).trans rfl
theorem rl_W_law_1070 : (am_pg z_W_law).2 1070 = some (.iconst (1), 1071, 0, 0, 0, 0, 1, []) := (congrFun pm_W_law 1070).trans rfl
theorem rl_W_law_1071 : (am_pg z_W_law).2 1071 = some (.iadd, 1072, 0, 0, 0, 0, 0, []) := (congrFun pm_W_law 1071).trans rfl
theorem rl_W_law_1072 : (am_pg z_W_law).2 1072 = some (.iaload, 1073, 0, 0, 0, 0, 0, []) := (congrFun pm_W_law 1072).trans rfl
theorem rl_W_law_1073 : (am_pg z_W_law).2 1073 = some (.aload_n 0, 1074, 0, 0, 0, 0, 0, []) := (congrFun pm_W_law 1073).trans rfl
theorem rl_W_law_1074 : (am_pg z_W_law).2 1074 = some (.iload_n 3, 1075, 3, 0, 0, 0, 0, []) := (congrFun pm_W_law 1074).trans rfl
theorem rl_W_law_1075 : (am_pg z_W_law).2 1075 = some (.iconst (2), 1076, 0, 0, 0, 0, 2, []) := (congrFun pm_W_law 1075).trans rfl
theorem rl_W_law_1076 : (am_pg z_W_law).2 1076 = some (.iadd, 1077, 0, 0, 0, 0, 0, []) := (congrFun pm_W_law 1076).trans rfl
theorem rl_W_law_1077 : (am_pg z_W_law).2 1077 = some (.iaload, 1078, 0, 0, 0, 0, 0, []) := (congrFun pm_W_law 1077).trans rfl
theorem rl_W_law_1078 : (am_pg z_W_law).2 1078 = some (.invokevirtual 100, 1081, 135, 2, 9, 254, 0, []) := (congrFun pm_W_law 1078).trans rfl
theorem rl_W_law_1081 : (am_pg z_W_law).2 1081 = some (.if_icmp .eq (1392), 1084, 2473, 0, 0, 0, 0, []) := (congrFun pm_W_law 1081).trans rfl
theorem rl_W_law_1084 : (am_pg z_W_law).2 1084 = some (.iconst (0), 1085, 0, 0, 0, 0, 0, []) := (congrFun pm_W_law 1084).trans rfl
theorem rl_W_law_1085 : (am_pg z_W_law).2 1085 = some (.ireturn, 1086, 0, 0, 1, 0, 0, []) := (congrFun pm_W_law 1085).trans rfl
theorem rl_W_law_1086 : (am_pg z_W_law).2 1086 = some (.aload_n 1, 1087, 1, 0, 0, 0, 0, []) := (congrFun pm_W_law 1086).trans rfl
theorem rl_W_law_1087 : (am_pg z_W_law).2 1087 = some (.aload_n 0, 1088, 0, 0, 0, 0, 0, []) := (congrFun pm_W_law 1087).trans rfl
theorem rl_W_law_1088 : (am_pg z_W_law).2 1088 = some (.iload_n 3, 1089, 3, 0, 0, 0, 0, []) := (congrFun pm_W_law 1088).trans rfl
theorem rl_W_law_1089 : (am_pg z_W_law).2 1089 = some (.iconst (1), 1090, 0, 0, 0, 0, 1, []) := (congrFun pm_W_law 1089).trans rfl
theorem rl_W_law_1090 : (am_pg z_W_law).2 1090 = some (.iadd, 1091, 0, 0, 0, 0, 0, []) := (congrFun pm_W_law 1090).trans rfl
theorem rl_W_law_1091 : (am_pg z_W_law).2 1091 = some (.iaload, 1092, 0, 0, 0, 0, 0, []) := (congrFun pm_W_law 1091).trans rfl
theorem rl_W_law_1092 : (am_pg z_W_law).2 1092 = some (.aload_n 0, 1093, 0, 0, 0, 0, 0, []) := (congrFun pm_W_law 1092).trans rfl
theorem rl_W_law_1093 : (am_pg z_W_law).2 1093 = some (.iload_n 3, 1094, 3, 0, 0, 0, 0, []) := (congrFun pm_W_law 1093).trans rfl
theorem rl_W_law_1094 : (am_pg z_W_law).2 1094 = some (.iconst (2), 1095, 0, 0, 0, 0, 2, []) := (congrFun pm_W_law 1094).trans rfl
theorem rl_W_law_1095 : (am_pg z_W_law).2 1095 = some (.iadd, 1096, 0, 0, 0, 0, 0, []) := (congrFun pm_W_law 1095).trans rfl
theorem rl_W_law_1096 : (am_pg z_W_law).2 1096 = some (.iaload, 1097, 0, 0, 0, 0, 0, []) := (congrFun pm_W_law 1096).trans rfl
theorem rl_W_law_1097 : (am_pg z_W_law).2 1097 = some (.aload_n 0, 1098, 0, 0, 0, 0, 0, []) := (congrFun pm_W_law 1097).trans rfl
theorem rl_W_law_1098 : (am_pg z_W_law).2 1098 = some (.iload_n 3, 1099, 3, 0, 0, 0, 0, []) := (congrFun pm_W_law 1098).trans rfl
theorem rl_W_law_1099 : (am_pg z_W_law).2 1099 = some (.iconst (3), 1100, 0, 0, 0, 0, 3, []) := (congrFun pm_W_law 1099).trans rfl
theorem rl_W_law_1100 : (am_pg z_W_law).2 1100 = some (.iadd, 1101, 0, 0, 0, 0, 0, []) := (congrFun pm_W_law 1100).trans rfl
theorem rl_W_law_1101 : (am_pg z_W_law).2 1101 = some (.iaload, 1102, 0, 0, 0, 0, 0, []) := (congrFun pm_W_law 1101).trans rfl
theorem rl_W_law_1102 : (am_pg z_W_law).2 1102 = some (.invokevirtual 101, 1105, 21, 3, 8, 89, 0, []) := (congrFun pm_W_law 1102).trans rfl
theorem rl_W_law_1105 : (am_pg z_W_law).2 1105 = some (.aload_n 2, 1106, 2, 0, 0, 0, 0, []) := (congrFun pm_W_law 1105).trans rfl
theorem rl_W_law_1106 : (am_pg z_W_law).2 1106 = some (.aload_n 0, 1107, 0, 0, 0, 0, 0, []) := (congrFun pm_W_law 1106).trans rfl
theorem rl_W_law_1107 : (am_pg z_W_law).2 1107 = some (.iload_n 3, 1108, 3, 0, 0, 0, 0, []) := (congrFun pm_W_law 1107).trans rfl
theorem rl_W_law_1108 : (am_pg z_W_law).2 1108 = some (.iconst (1), 1109, 0, 0, 0, 0, 1, []) := (congrFun pm_W_law 1108).trans rfl
theorem rl_W_law_1109 : (am_pg z_W_law).2 1109 = some (.iadd, 1110, 0, 0, 0, 0, 0, []) := (congrFun pm_W_law 1109).trans rfl
theorem rl_W_law_1110 : (am_pg z_W_law).2 1110 = some (.iaload, 1111, 0, 0, 0, 0, 0, []) := (congrFun pm_W_law 1110).trans rfl
theorem rl_W_law_1111 : (am_pg z_W_law).2 1111 = some (.aload_n 0, 1112, 0, 0, 0, 0, 0, []) := (congrFun pm_W_law 1111).trans rfl
theorem rl_W_law_1112 : (am_pg z_W_law).2 1112 = some (.iload_n 3, 1113, 3, 0, 0, 0, 0, []) := (congrFun pm_W_law 1112).trans rfl
theorem rl_W_law_1113 : (am_pg z_W_law).2 1113 = some (.iconst (2), 1114, 0, 0, 0, 0, 2, []) := (congrFun pm_W_law 1113).trans rfl
theorem rl_W_law_1114 : (am_pg z_W_law).2 1114 = some (.iadd, 1115, 0, 0, 0, 0, 0, []) := (congrFun pm_W_law 1114).trans rfl
theorem rl_W_law_1115 : (am_pg z_W_law).2 1115 = some (.iaload, 1116, 0, 0, 0, 0, 0, []) := (congrFun pm_W_law 1115).trans rfl
theorem rl_W_law_1116 : (am_pg z_W_law).2 1116 = some (.aload_n 0, 1117, 0, 0, 0, 0, 0, []) := (congrFun pm_W_law 1116).trans rfl
theorem rl_W_law_1117 : (am_pg z_W_law).2 1117 = some (.iload_n 3, 1118, 3, 0, 0, 0, 0, []) := (congrFun pm_W_law 1117).trans rfl
theorem rl_W_law_1118 : (am_pg z_W_law).2 1118 = some (.iconst (3), 1119, 0, 0, 0, 0, 3, []) := (congrFun pm_W_law 1118).trans rfl
theorem rl_W_law_1119 : (am_pg z_W_law).2 1119 = some (.iadd, 1120, 0, 0, 0, 0, 0, []) := (congrFun pm_W_law 1119).trans rfl
theorem rl_W_law_1120 : (am_pg z_W_law).2 1120 = some (.iaload, 1121, 0, 0, 0, 0, 0, []) := (congrFun pm_W_law 1120).trans rfl
theorem rl_W_law_1121 : (am_pg z_W_law).2 1121 = some (.invokevirtual 104, 1124, 136, 3, 9, 256, 0, []) := (congrFun pm_W_law 1121).trans rfl
theorem rl_W_law_1124 : (am_pg z_W_law).2 1124 = some (.if_icmp .eq (1349), 1127, 2473, 0, 0, 0, 0, []) := (congrFun pm_W_law 1124).trans rfl
theorem rl_W_law_1127 : (am_pg z_W_law).2 1127 = some (.iconst (0), 1128, 0, 0, 0, 0, 0, []) := (congrFun pm_W_law 1127).trans rfl
theorem rl_W_law_1128 : (am_pg z_W_law).2 1128 = some (.ireturn, 1129, 0, 0, 1, 0, 0, []) := (congrFun pm_W_law 1128).trans rfl
theorem rl_W_law_1129 : (am_pg z_W_law).2 1129 = some (.aload_n 1, 1130, 1, 0, 0, 0, 0, []) := (congrFun pm_W_law 1129).trans rfl
theorem rl_W_law_1130 : (am_pg z_W_law).2 1130 = some (.aload_n 0, 1131, 0, 0, 0, 0, 0, []) := (congrFun pm_W_law 1130).trans rfl
theorem rl_W_law_1131 : (am_pg z_W_law).2 1131 = some (.iload_n 3, 1132, 3, 0, 0, 0, 0, []) := (congrFun pm_W_law 1131).trans rfl
theorem rl_W_law_1132 : (am_pg z_W_law).2 1132 = some (.iconst (1), 1133, 0, 0, 0, 0, 1, []) := (congrFun pm_W_law 1132).trans rfl
theorem rl_W_law_1133 : (am_pg z_W_law).2 1133 = some (.iadd, 1134, 0, 0, 0, 0, 0, []) := (congrFun pm_W_law 1133).trans rfl
theorem rl_W_law_1134 : (am_pg z_W_law).2 1134 = some (.iaload, 1135, 0, 0, 0, 0, 0, []) := (congrFun pm_W_law 1134).trans rfl
theorem rl_W_law_1135 : (am_pg z_W_law).2 1135 = some (.aload_n 0, 1136, 0, 0, 0, 0, 0, []) := (congrFun pm_W_law 1135).trans rfl
theorem rl_W_law_1136 : (am_pg z_W_law).2 1136 = some (.iload_n 3, 1137, 3, 0, 0, 0, 0, []) := (congrFun pm_W_law 1136).trans rfl
theorem rl_W_law_1137 : (am_pg z_W_law).2 1137 = some (.iconst (2), 1138, 0, 0, 0, 0, 2, []) := (congrFun pm_W_law 1137).trans rfl
theorem rl_W_law_1138 : (am_pg z_W_law).2 1138 = some (.iadd, 1139, 0, 0, 0, 0, 0, []) := (congrFun pm_W_law 1138).trans rfl
theorem rl_W_law_1139 : (am_pg z_W_law).2 1139 = some (.iaload, 1140, 0, 0, 0, 0, 0, []) := (congrFun pm_W_law 1139).trans rfl
theorem rl_W_law_1140 : (am_pg z_W_law).2 1140 = some (.aload_n 0, 1141, 0, 0, 0, 0, 0, []) := (congrFun pm_W_law 1140).trans rfl
theorem rl_W_law_1141 : (am_pg z_W_law).2 1141 = some (.iload_n 3, 1142, 3, 0, 0, 0, 0, []) := (congrFun pm_W_law 1141).trans rfl
theorem rl_W_law_1142 : (am_pg z_W_law).2 1142 = some (.iconst (3), 1143, 0, 0, 0, 0, 3, []) := (congrFun pm_W_law 1142).trans rfl
theorem rl_W_law_1143 : (am_pg z_W_law).2 1143 = some (.iadd, 1144, 0, 0, 0, 0, 0, []) := (congrFun pm_W_law 1143).trans rfl
theorem rl_W_law_1144 : (am_pg z_W_law).2 1144 = some (.iaload, 1145, 0, 0, 0, 0, 0, []) := (congrFun pm_W_law 1144).trans rfl
theorem rl_W_law_1145 : (am_pg z_W_law).2 1145 = some (.aload_n 0, 1146, 0, 0, 0, 0, 0, []) := (congrFun pm_W_law 1145).trans rfl
theorem rl_W_law_1146 : (am_pg z_W_law).2 1146 = some (.iload_n 3, 1147, 3, 0, 0, 0, 0, []) := (congrFun pm_W_law 1146).trans rfl
theorem rl_W_law_1147 : (am_pg z_W_law).2 1147 = some (.iconst (4), 1148, 0, 0, 0, 0, 4, []) := (congrFun pm_W_law 1147).trans rfl
theorem rl_W_law_1148 : (am_pg z_W_law).2 1148 = some (.iadd, 1149, 0, 0, 0, 0, 0, []) := (congrFun pm_W_law 1148).trans rfl
theorem rl_W_law_1149 : (am_pg z_W_law).2 1149 = some (.iaload, 1150, 0, 0, 0, 0, 0, []) := (congrFun pm_W_law 1149).trans rfl
theorem rl_W_law_1150 : (am_pg z_W_law).2 1150 = some (.invokevirtual 105, 1153, 22, 4, 8, 90, 0, []) := (congrFun pm_W_law 1150).trans rfl
theorem rl_W_law_1153 : (am_pg z_W_law).2 1153 = some (.aload_n 2, 1154, 2, 0, 0, 0, 0, []) := (congrFun pm_W_law 1153).trans rfl
theorem rl_W_law_1154 : (am_pg z_W_law).2 1154 = some (.aload_n 0, 1155, 0, 0, 0, 0, 0, []) := (congrFun pm_W_law 1154).trans rfl
theorem rl_W_law_1155 : (am_pg z_W_law).2 1155 = some (.iload_n 3, 1156, 3, 0, 0, 0, 0, []) := (congrFun pm_W_law 1155).trans rfl
theorem rl_W_law_1156 : (am_pg z_W_law).2 1156 = some (.iconst (1), 1157, 0, 0, 0, 0, 1, []) := (congrFun pm_W_law 1156).trans rfl
theorem rl_W_law_1157 : (am_pg z_W_law).2 1157 = some (.iadd, 1158, 0, 0, 0, 0, 0, []) := (congrFun pm_W_law 1157).trans rfl
theorem rl_W_law_1158 : (am_pg z_W_law).2 1158 = some (.iaload, 1159, 0, 0, 0, 0, 0, []) := (congrFun pm_W_law 1158).trans rfl
theorem rl_W_law_1159 : (am_pg z_W_law).2 1159 = some (.aload_n 0, 1160, 0, 0, 0, 0, 0, []) := (congrFun pm_W_law 1159).trans rfl
theorem rl_W_law_1160 : (am_pg z_W_law).2 1160 = some (.iload_n 3, 1161, 3, 0, 0, 0, 0, []) := (congrFun pm_W_law 1160).trans rfl
theorem rl_W_law_1161 : (am_pg z_W_law).2 1161 = some (.iconst (2), 1162, 0, 0, 0, 0, 2, []) := (congrFun pm_W_law 1161).trans rfl
theorem rl_W_law_1162 : (am_pg z_W_law).2 1162 = some (.iadd, 1163, 0, 0, 0, 0, 0, []) := (congrFun pm_W_law 1162).trans rfl
theorem rl_W_law_1163 : (am_pg z_W_law).2 1163 = some (.iaload, 1164, 0, 0, 0, 0, 0, []) := (congrFun pm_W_law 1163).trans rfl
theorem rl_W_law_1164 : (am_pg z_W_law).2 1164 = some (.aload_n 0, 1165, 0, 0, 0, 0, 0, []) := (congrFun pm_W_law 1164).trans rfl
theorem rl_W_law_1165 : (am_pg z_W_law).2 1165 = some (.iload_n 3, 1166, 3, 0, 0, 0, 0, []) := (congrFun pm_W_law 1165).trans rfl
theorem rl_W_law_1166 : (am_pg z_W_law).2 1166 = some (.iconst (3), 1167, 0, 0, 0, 0, 3, []) := (congrFun pm_W_law 1166).trans rfl
theorem rl_W_law_1167 : (am_pg z_W_law).2 1167 = some (.iadd, 1168, 0, 0, 0, 0, 0, []) := (congrFun pm_W_law 1167).trans rfl
theorem rl_W_law_1168 : (am_pg z_W_law).2 1168 = some (.iaload, 1169, 0, 0, 0, 0, 0, []) := (congrFun pm_W_law 1168).trans rfl
theorem rl_W_law_1169 : (am_pg z_W_law).2 1169 = some (.aload_n 0, 1170, 0, 0, 0, 0, 0, []) := (congrFun pm_W_law 1169).trans rfl
theorem rl_W_law_1170 : (am_pg z_W_law).2 1170 = some (.iload_n 3, 1171, 3, 0, 0, 0, 0, []) := (congrFun pm_W_law 1170).trans rfl
theorem rl_W_law_1171 : (am_pg z_W_law).2 1171 = some (.iconst (4), 1172, 0, 0, 0, 0, 4, []) := (congrFun pm_W_law 1171).trans rfl
theorem rl_W_law_1172 : (am_pg z_W_law).2 1172 = some (.iadd, 1173, 0, 0, 0, 0, 0, []) := (congrFun pm_W_law 1172).trans rfl
theorem rl_W_law_1173 : (am_pg z_W_law).2 1173 = some (.iaload, 1174, 0, 0, 0, 0, 0, []) := (congrFun pm_W_law 1173).trans rfl
theorem rl_W_law_1174 : (am_pg z_W_law).2 1174 = some (.invokevirtual 109, 1177, 140, 4, 9, 257, 0, []) := (congrFun pm_W_law 1174).trans rfl
theorem rl_W_law_1177 : (am_pg z_W_law).2 1177 = some (.if_icmp .eq (1296), 1180, 2473, 0, 0, 0, 0, []) := (congrFun pm_W_law 1177).trans rfl
theorem rl_W_law_1180 : (am_pg z_W_law).2 1180 = some (.iconst (0), 1181, 0, 0, 0, 0, 0, []) := (congrFun pm_W_law 1180).trans rfl
theorem rl_W_law_1181 : (am_pg z_W_law).2 1181 = some (.ireturn, 1182, 0, 0, 1, 0, 0, []) := (congrFun pm_W_law 1181).trans rfl
theorem rl_W_law_1182 : (am_pg z_W_law).2 1182 = some (.aload_n 1, 1183, 1, 0, 0, 0, 0, []) := (congrFun pm_W_law 1182).trans rfl
theorem rl_W_law_1183 : (am_pg z_W_law).2 1183 = some (.aload_n 0, 1184, 0, 0, 0, 0, 0, []) := (congrFun pm_W_law 1183).trans rfl
theorem rl_W_law_1184 : (am_pg z_W_law).2 1184 = some (.iload_n 3, 1185, 3, 0, 0, 0, 0, []) := (congrFun pm_W_law 1184).trans rfl
theorem rl_W_law_1185 : (am_pg z_W_law).2 1185 = some (.iconst (1), 1186, 0, 0, 0, 0, 1, []) := (congrFun pm_W_law 1185).trans rfl
theorem rl_W_law_1186 : (am_pg z_W_law).2 1186 = some (.iadd, 1187, 0, 0, 0, 0, 0, []) := (congrFun pm_W_law 1186).trans rfl
theorem rl_W_law_1187 : (am_pg z_W_law).2 1187 = some (.iaload, 1188, 0, 0, 0, 0, 0, []) := (congrFun pm_W_law 1187).trans rfl
theorem rl_W_law_1188 : (am_pg z_W_law).2 1188 = some (.aload_n 0, 1189, 0, 0, 0, 0, 0, []) := (congrFun pm_W_law 1188).trans rfl
theorem rl_W_law_1189 : (am_pg z_W_law).2 1189 = some (.iload_n 3, 1190, 3, 0, 0, 0, 0, []) := (congrFun pm_W_law 1189).trans rfl
theorem rl_W_law_1190 : (am_pg z_W_law).2 1190 = some (.iconst (2), 1191, 0, 0, 0, 0, 2, []) := (congrFun pm_W_law 1190).trans rfl
theorem rl_W_law_1191 : (am_pg z_W_law).2 1191 = some (.iadd, 1192, 0, 0, 0, 0, 0, []) := (congrFun pm_W_law 1191).trans rfl
theorem rl_W_law_1192 : (am_pg z_W_law).2 1192 = some (.iaload, 1193, 0, 0, 0, 0, 0, []) := (congrFun pm_W_law 1192).trans rfl
theorem rl_W_law_1193 : (am_pg z_W_law).2 1193 = some (.aload_n 0, 1194, 0, 0, 0, 0, 0, []) := (congrFun pm_W_law 1193).trans rfl
theorem rl_W_law_1194 : (am_pg z_W_law).2 1194 = some (.iload_n 3, 1195, 3, 0, 0, 0, 0, []) := (congrFun pm_W_law 1194).trans rfl
theorem rl_W_law_1195 : (am_pg z_W_law).2 1195 = some (.iconst (3), 1196, 0, 0, 0, 0, 3, []) := (congrFun pm_W_law 1195).trans rfl
theorem rl_W_law_1196 : (am_pg z_W_law).2 1196 = some (.iadd, 1197, 0, 0, 0, 0, 0, []) := (congrFun pm_W_law 1196).trans rfl
theorem rl_W_law_1197 : (am_pg z_W_law).2 1197 = some (.iaload, 1198, 0, 0, 0, 0, 0, []) := (congrFun pm_W_law 1197).trans rfl
theorem rl_W_law_1198 : (am_pg z_W_law).2 1198 = some (.invokevirtual 110, 1201, 23, 3, 8, 95, 0, []) := (congrFun pm_W_law 1198).trans rfl
theorem rl_W_law_1201 : (am_pg z_W_law).2 1201 = some (.aload_n 2, 1202, 2, 0, 0, 0, 0, []) := (congrFun pm_W_law 1201).trans rfl
theorem rl_W_law_1202 : (am_pg z_W_law).2 1202 = some (.aload_n 0, 1203, 0, 0, 0, 0, 0, []) := (congrFun pm_W_law 1202).trans rfl
theorem rl_W_law_1203 : (am_pg z_W_law).2 1203 = some (.iload_n 3, 1204, 3, 0, 0, 0, 0, []) := (congrFun pm_W_law 1203).trans rfl
theorem rl_W_law_1204 : (am_pg z_W_law).2 1204 = some (.iconst (1), 1205, 0, 0, 0, 0, 1, []) := (congrFun pm_W_law 1204).trans rfl
theorem rl_W_law_1205 : (am_pg z_W_law).2 1205 = some (.iadd, 1206, 0, 0, 0, 0, 0, []) := (congrFun pm_W_law 1205).trans rfl
theorem rl_W_law_1206 : (am_pg z_W_law).2 1206 = some (.iaload, 1207, 0, 0, 0, 0, 0, []) := (congrFun pm_W_law 1206).trans rfl
theorem rl_W_law_1207 : (am_pg z_W_law).2 1207 = some (.aload_n 0, 1208, 0, 0, 0, 0, 0, []) := (congrFun pm_W_law 1207).trans rfl
theorem rl_W_law_1208 : (am_pg z_W_law).2 1208 = some (.iload_n 3, 1209, 3, 0, 0, 0, 0, []) := (congrFun pm_W_law 1208).trans rfl
theorem rl_W_law_1209 : (am_pg z_W_law).2 1209 = some (.iconst (2), 1210, 0, 0, 0, 0, 2, []) := (congrFun pm_W_law 1209).trans rfl
theorem rl_W_law_1210 : (am_pg z_W_law).2 1210 = some (.iadd, 1211, 0, 0, 0, 0, 0, []) := (congrFun pm_W_law 1210).trans rfl
theorem rl_W_law_1211 : (am_pg z_W_law).2 1211 = some (.iaload, 1212, 0, 0, 0, 0, 0, []) := (congrFun pm_W_law 1211).trans rfl
theorem rl_W_law_1212 : (am_pg z_W_law).2 1212 = some (.aload_n 0, 1213, 0, 0, 0, 0, 0, []) := (congrFun pm_W_law 1212).trans rfl
theorem rl_W_law_1213 : (am_pg z_W_law).2 1213 = some (.iload_n 3, 1214, 3, 0, 0, 0, 0, []) := (congrFun pm_W_law 1213).trans rfl
theorem rl_W_law_1214 : (am_pg z_W_law).2 1214 = some (.iconst (3), 1215, 0, 0, 0, 0, 3, []) := (congrFun pm_W_law 1214).trans rfl
theorem rl_W_law_1215 : (am_pg z_W_law).2 1215 = some (.iadd, 1216, 0, 0, 0, 0, 0, []) := (congrFun pm_W_law 1215).trans rfl
theorem rl_W_law_1216 : (am_pg z_W_law).2 1216 = some (.iaload, 1217, 0, 0, 0, 0, 0, []) := (congrFun pm_W_law 1216).trans rfl
theorem rl_W_law_1217 : (am_pg z_W_law).2 1217 = some (.invokevirtual 113, 1220, 142, 3, 9, 261, 0, []) := (congrFun pm_W_law 1217).trans rfl
theorem rl_W_law_1220 : (am_pg z_W_law).2 1220 = some (.if_icmp .eq (1253), 1223, 2473, 0, 0, 0, 0, []) := (congrFun pm_W_law 1220).trans rfl
theorem rl_W_law_1223 : (am_pg z_W_law).2 1223 = some (.iconst (0), 1224, 0, 0, 0, 0, 0, []) := (congrFun pm_W_law 1223).trans rfl
theorem rl_W_law_1224 : (am_pg z_W_law).2 1224 = some (.ireturn, 1225, 0, 0, 1, 0, 0, []) := (congrFun pm_W_law 1224).trans rfl
theorem rl_W_law_1225 : (am_pg z_W_law).2 1225 = some (.aload_n 1, 1226, 1, 0, 0, 0, 0, []) := (congrFun pm_W_law 1225).trans rfl
theorem rl_W_law_1226 : (am_pg z_W_law).2 1226 = some (.aload_n 0, 1227, 0, 0, 0, 0, 0, []) := (congrFun pm_W_law 1226).trans rfl
theorem rl_W_law_1227 : (am_pg z_W_law).2 1227 = some (.iload_n 3, 1228, 3, 0, 0, 0, 0, []) := (congrFun pm_W_law 1227).trans rfl
theorem rl_W_law_1228 : (am_pg z_W_law).2 1228 = some (.iconst (1), 1229, 0, 0, 0, 0, 1, []) := (congrFun pm_W_law 1228).trans rfl
theorem rl_W_law_1229 : (am_pg z_W_law).2 1229 = some (.iadd, 1230, 0, 0, 0, 0, 0, []) := (congrFun pm_W_law 1229).trans rfl
theorem rl_W_law_1230 : (am_pg z_W_law).2 1230 = some (.iaload, 1231, 0, 0, 0, 0, 0, []) := (congrFun pm_W_law 1230).trans rfl
theorem rl_W_law_1231 : (am_pg z_W_law).2 1231 = some (.aload_n 0, 1232, 0, 0, 0, 0, 0, []) := (congrFun pm_W_law 1231).trans rfl
theorem rl_W_law_1232 : (am_pg z_W_law).2 1232 = some (.iload_n 3, 1233, 3, 0, 0, 0, 0, []) := (congrFun pm_W_law 1232).trans rfl
theorem rl_W_law_1233 : (am_pg z_W_law).2 1233 = some (.iconst (2), 1234, 0, 0, 0, 0, 2, []) := (congrFun pm_W_law 1233).trans rfl
theorem rl_W_law_1234 : (am_pg z_W_law).2 1234 = some (.iadd, 1235, 0, 0, 0, 0, 0, []) := (congrFun pm_W_law 1234).trans rfl
theorem rl_W_law_1235 : (am_pg z_W_law).2 1235 = some (.iaload, 1236, 0, 0, 0, 0, 0, []) := (congrFun pm_W_law 1235).trans rfl
theorem rl_W_law_1236 : (am_pg z_W_law).2 1236 = some (.invokevirtual 114, 1239, 24, 2, 8, 97, 0, []) := (congrFun pm_W_law 1236).trans rfl
theorem rl_W_law_1239 : (am_pg z_W_law).2 1239 = some (.aload_n 2, 1240, 2, 0, 0, 0, 0, []) := (congrFun pm_W_law 1239).trans rfl
theorem rl_W_law_1240 : (am_pg z_W_law).2 1240 = some (.aload_n 0, 1241, 0, 0, 0, 0, 0, []) := (congrFun pm_W_law 1240).trans rfl
theorem rl_W_law_1241 : (am_pg z_W_law).2 1241 = some (.iload_n 3, 1242, 3, 0, 0, 0, 0, []) := (congrFun pm_W_law 1241).trans rfl
theorem rl_W_law_1242 : (am_pg z_W_law).2 1242 = some (.iconst (1), 1243, 0, 0, 0, 0, 1, []) := (congrFun pm_W_law 1242).trans rfl
theorem rl_W_law_1243 : (am_pg z_W_law).2 1243 = some (.iadd, 1244, 0, 0, 0, 0, 0, []) := (congrFun pm_W_law 1243).trans rfl
theorem rl_W_law_1244 : (am_pg z_W_law).2 1244 = some (.iaload, 1245, 0, 0, 0, 0, 0, []) := (congrFun pm_W_law 1244).trans rfl
theorem rl_W_law_1245 : (am_pg z_W_law).2 1245 = some (.aload_n 0, 1246, 0, 0, 0, 0, 0, []) := (congrFun pm_W_law 1245).trans rfl
theorem rl_W_law_1246 : (am_pg z_W_law).2 1246 = some (.iload_n 3, 1247, 3, 0, 0, 0, 0, []) := (congrFun pm_W_law 1246).trans rfl
theorem rl_W_law_1247 : (am_pg z_W_law).2 1247 = some (.iconst (2), 1248, 0, 0, 0, 0, 2, []) := (congrFun pm_W_law 1247).trans rfl
theorem rl_W_law_1248 : (am_pg z_W_law).2 1248 = some (.iadd, 1249, 0, 0, 0, 0, 0, []) := (congrFun pm_W_law 1248).trans rfl
theorem rl_W_law_1249 : (am_pg z_W_law).2 1249 = some (.iaload, 1250, 0, 0, 0, 0, 0, []) := (congrFun pm_W_law 1249).trans rfl
theorem rl_W_law_1250 : (am_pg z_W_law).2 1250 = some (.invokevirtual 117, 1253, 143, 2, 9, 262, 0, []) := (congrFun pm_W_law 1250).trans rfl
theorem rl_W_law_1253 : (am_pg z_W_law).2 1253 = some (.if_icmp .eq (1220), 1256, 2473, 0, 0, 0, 0, []) := (congrFun pm_W_law 1253).trans rfl
theorem rl_W_law_1256 : (am_pg z_W_law).2 1256 = some (.iconst (0), 1257, 0, 0, 0, 0, 0, []) := (congrFun pm_W_law 1256).trans rfl
theorem rl_W_law_1257 : (am_pg z_W_law).2 1257 = some (.ireturn, 1258, 0, 0, 1, 0, 0, []) := (congrFun pm_W_law 1257).trans rfl
theorem rl_W_law_1258 : (am_pg z_W_law).2 1258 = some (.aload_n 1, 1259, 1, 0, 0, 0, 0, []) := (congrFun pm_W_law 1258).trans rfl
theorem rl_W_law_1259 : (am_pg z_W_law).2 1259 = some (.aload_n 0, 1260, 0, 0, 0, 0, 0, []) := (congrFun pm_W_law 1259).trans rfl
theorem rl_W_law_1260 : (am_pg z_W_law).2 1260 = some (.iload_n 3, 1261, 3, 0, 0, 0, 0, []) := (congrFun pm_W_law 1260).trans rfl
theorem rl_W_law_1261 : (am_pg z_W_law).2 1261 = some (.iconst (1), 1262, 0, 0, 0, 0, 1, []) := (congrFun pm_W_law 1261).trans rfl
theorem rl_W_law_1262 : (am_pg z_W_law).2 1262 = some (.iadd, 1263, 0, 0, 0, 0, 0, []) := (congrFun pm_W_law 1262).trans rfl
theorem rl_W_law_1263 : (am_pg z_W_law).2 1263 = some (.iaload, 1264, 0, 0, 0, 0, 0, []) := (congrFun pm_W_law 1263).trans rfl
theorem rl_W_law_1264 : (am_pg z_W_law).2 1264 = some (.aload_n 0, 1265, 0, 0, 0, 0, 0, []) := (congrFun pm_W_law 1264).trans rfl
theorem rl_W_law_1265 : (am_pg z_W_law).2 1265 = some (.iload_n 3, 1266, 3, 0, 0, 0, 0, []) := (congrFun pm_W_law 1265).trans rfl
theorem rl_W_law_1266 : (am_pg z_W_law).2 1266 = some (.iconst (2), 1267, 0, 0, 0, 0, 2, []) := (congrFun pm_W_law 1266).trans rfl
theorem rl_W_law_1267 : (am_pg z_W_law).2 1267 = some (.iadd, 1268, 0, 0, 0, 0, 0, []) := (congrFun pm_W_law 1267).trans rfl
theorem rl_W_law_1268 : (am_pg z_W_law).2 1268 = some (.iaload, 1269, 0, 0, 0, 0, 0, []) := (congrFun pm_W_law 1268).trans rfl
theorem rl_W_law_1269 : (am_pg z_W_law).2 1269 = some (.invokevirtual 118, 1272, 25, 2, 8, 98, 0, []) := (congrFun pm_W_law 1269).trans rfl
theorem rl_W_law_1272 : (am_pg z_W_law).2 1272 = some (.aload_n 2, 1273, 2, 0, 0, 0, 0, []) := (congrFun pm_W_law 1272).trans rfl
theorem rl_W_law_1273 : (am_pg z_W_law).2 1273 = some (.aload_n 0, 1274, 0, 0, 0, 0, 0, []) := (congrFun pm_W_law 1273).trans rfl
theorem rl_W_law_1274 : (am_pg z_W_law).2 1274 = some (.iload_n 3, 1275, 3, 0, 0, 0, 0, []) := (congrFun pm_W_law 1274).trans rfl
theorem rl_W_law_1275 : (am_pg z_W_law).2 1275 = some (.iconst (1), 1276, 0, 0, 0, 0, 1, []) := (congrFun pm_W_law 1275).trans rfl
theorem rl_W_law_1276 : (am_pg z_W_law).2 1276 = some (.iadd, 1277, 0, 0, 0, 0, 0, []) := (congrFun pm_W_law 1276).trans rfl
theorem rl_W_law_1277 : (am_pg z_W_law).2 1277 = some (.iaload, 1278, 0, 0, 0, 0, 0, []) := (congrFun pm_W_law 1277).trans rfl
theorem rl_W_law_1278 : (am_pg z_W_law).2 1278 = some (.aload_n 0, 1279, 0, 0, 0, 0, 0, []) := (congrFun pm_W_law 1278).trans rfl
theorem rl_W_law_1279 : (am_pg z_W_law).2 1279 = some (.iload_n 3, 1280, 3, 0, 0, 0, 0, []) := (congrFun pm_W_law 1279).trans rfl
theorem rl_W_law_1280 : (am_pg z_W_law).2 1280 = some (.iconst (2), 1281, 0, 0, 0, 0, 2, []) := (congrFun pm_W_law 1280).trans rfl
theorem rl_W_law_1281 : (am_pg z_W_law).2 1281 = some (.iadd, 1282, 0, 0, 0, 0, 0, []) := (congrFun pm_W_law 1281).trans rfl
theorem rl_W_law_1282 : (am_pg z_W_law).2 1282 = some (.iaload, 1283, 0, 0, 0, 0, 0, []) := (congrFun pm_W_law 1282).trans rfl
theorem rl_W_law_1283 : (am_pg z_W_law).2 1283 = some (.invokevirtual 121, 1286, 144, 2, 9, 263, 0, []) := (congrFun pm_W_law 1283).trans rfl
theorem rl_W_law_1286 : (am_pg z_W_law).2 1286 = some (.if_icmp .eq (1187), 1289, 2473, 0, 0, 0, 0, []) := (congrFun pm_W_law 1286).trans rfl
theorem rl_W_law_1289 : (am_pg z_W_law).2 1289 = some (.iconst (0), 1290, 0, 0, 0, 0, 0, []) := (congrFun pm_W_law 1289).trans rfl
theorem rl_W_law_1290 : (am_pg z_W_law).2 1290 = some (.ireturn, 1291, 0, 0, 1, 0, 0, []) := (congrFun pm_W_law 1290).trans rfl
theorem rl_W_law_1291 : (am_pg z_W_law).2 1291 = some (.aload_n 1, 1292, 1, 0, 0, 0, 0, []) := (congrFun pm_W_law 1291).trans rfl
theorem rl_W_law_1292 : (am_pg z_W_law).2 1292 = some (.aload_n 0, 1293, 0, 0, 0, 0, 0, []) := (congrFun pm_W_law 1292).trans rfl
theorem rl_W_law_1293 : (am_pg z_W_law).2 1293 = some (.iload_n 3, 1294, 3, 0, 0, 0, 0, []) := (congrFun pm_W_law 1293).trans rfl
theorem rl_W_law_1294 : (am_pg z_W_law).2 1294 = some (.iconst (1), 1295, 0, 0, 0, 0, 1, []) := (congrFun pm_W_law 1294).trans rfl
theorem rl_W_law_1295 : (am_pg z_W_law).2 1295 = some (.iadd, 1296, 0, 0, 0, 0, 0, []) := (congrFun pm_W_law 1295).trans rfl
theorem rl_W_law_1296 : (am_pg z_W_law).2 1296 = some (.iaload, 1297, 0, 0, 0, 0, 0, []) := (congrFun pm_W_law 1296).trans rfl
theorem rl_W_law_1297 : (am_pg z_W_law).2 1297 = some (.aload_n 0, 1298, 0, 0, 0, 0, 0, []) := (congrFun pm_W_law 1297).trans rfl
theorem rl_W_law_1298 : (am_pg z_W_law).2 1298 = some (.iload_n 3, 1299, 3, 0, 0, 0, 0, []) := (congrFun pm_W_law 1298).trans rfl
theorem rl_W_law_1299 : (am_pg z_W_law).2 1299 = some (.iconst (2), 1300, 0, 0, 0, 0, 2, []) := (congrFun pm_W_law 1299).trans rfl
theorem rl_W_law_1300 : (am_pg z_W_law).2 1300 = some (.iadd, 1301, 0, 0, 0, 0, 0, []) := (congrFun pm_W_law 1300).trans rfl
theorem rl_W_law_1301 : (am_pg z_W_law).2 1301 = some (.iaload, 1302, 0, 0, 0, 0, 0, []) := (congrFun pm_W_law 1301).trans rfl
theorem rl_W_law_1302 : (am_pg z_W_law).2 1302 = some (.aload_n 0, 1303, 0, 0, 0, 0, 0, []) := (congrFun pm_W_law 1302).trans rfl
theorem rl_W_law_1303 : (am_pg z_W_law).2 1303 = some (.iload_n 3, 1304, 3, 0, 0, 0, 0, []) := (congrFun pm_W_law 1303).trans rfl
theorem rl_W_law_1304 : (am_pg z_W_law).2 1304 = some (.iconst (3), 1305, 0, 0, 0, 0, 3, []) := (congrFun pm_W_law 1304).trans rfl
theorem rl_W_law_1305 : (am_pg z_W_law).2 1305 = some (.iadd, 1306, 0, 0, 0, 0, 0, []) := (congrFun pm_W_law 1305).trans rfl
theorem rl_W_law_1306 : (am_pg z_W_law).2 1306 = some (.iaload, 1307, 0, 0, 0, 0, 0, []) := (congrFun pm_W_law 1306).trans rfl
theorem rl_W_law_1307 : (am_pg z_W_law).2 1307 = some (.invokevirtual 122, 1310, 26, 3, 8, 99, 0, []) := (congrFun pm_W_law 1307).trans rfl
theorem rl_W_law_1310 : (am_pg z_W_law).2 1310 = some (.aload_n 2, 1311, 2, 0, 0, 0, 0, []) := (congrFun pm_W_law 1310).trans rfl
theorem rl_W_law_1311 : (am_pg z_W_law).2 1311 = some (.aload_n 0, 1312, 0, 0, 0, 0, 0, []) := (congrFun pm_W_law 1311).trans rfl
theorem rl_W_law_1312 : (am_pg z_W_law).2 1312 = some (.iload_n 3, 1313, 3, 0, 0, 0, 0, []) := (congrFun pm_W_law 1312).trans rfl
theorem rl_W_law_1313 : (am_pg z_W_law).2 1313 = some (.iconst (1), 1314, 0, 0, 0, 0, 1, []) := (congrFun pm_W_law 1313).trans rfl
theorem rl_W_law_1314 : (am_pg z_W_law).2 1314 = some (.iadd, 1315, 0, 0, 0, 0, 0, []) := (congrFun pm_W_law 1314).trans rfl
theorem rl_W_law_1315 : (am_pg z_W_law).2 1315 = some (.iaload, 1316, 0, 0, 0, 0, 0, []) := (congrFun pm_W_law 1315).trans rfl
theorem rl_W_law_1316 : (am_pg z_W_law).2 1316 = some (.aload_n 0, 1317, 0, 0, 0, 0, 0, []) := (congrFun pm_W_law 1316).trans rfl
theorem rl_W_law_1317 : (am_pg z_W_law).2 1317 = some (.iload_n 3, 1318, 3, 0, 0, 0, 0, []) := (congrFun pm_W_law 1317).trans rfl
theorem rl_W_law_1318 : (am_pg z_W_law).2 1318 = some (.iconst (2), 1319, 0, 0, 0, 0, 2, []) := (congrFun pm_W_law 1318).trans rfl
theorem rl_W_law_1319 : (am_pg z_W_law).2 1319 = some (.iadd, 1320, 0, 0, 0, 0, 0, []) := (congrFun pm_W_law 1319).trans rfl
theorem rl_W_law_1320 : (am_pg z_W_law).2 1320 = some (.iaload, 1321, 0, 0, 0, 0, 0, []) := (congrFun pm_W_law 1320).trans rfl
theorem rl_W_law_1321 : (am_pg z_W_law).2 1321 = some (.aload_n 0, 1322, 0, 0, 0, 0, 0, []) := (congrFun pm_W_law 1321).trans rfl
theorem rl_W_law_1322 : (am_pg z_W_law).2 1322 = some (.iload_n 3, 1323, 3, 0, 0, 0, 0, []) := (congrFun pm_W_law 1322).trans rfl
theorem rl_W_law_1323 : (am_pg z_W_law).2 1323 = some (.iconst (3), 1324, 0, 0, 0, 0, 3, []) := (congrFun pm_W_law 1323).trans rfl
theorem rl_W_law_1324 : (am_pg z_W_law).2 1324 = some (.iadd, 1325, 0, 0, 0, 0, 0, []) := (congrFun pm_W_law 1324).trans rfl
theorem rl_W_law_1325 : (am_pg z_W_law).2 1325 = some (.iaload, 1326, 0, 0, 0, 0, 0, []) := (congrFun pm_W_law 1325).trans rfl
theorem rl_W_law_1326 : (am_pg z_W_law).2 1326 = some (.invokevirtual 125, 1329, 159, 3, 9, 274, 0, []) := (congrFun pm_W_law 1326).trans rfl
theorem rl_W_law_1329 : (am_pg z_W_law).2 1329 = some (.if_icmp .eq (1144), 1332, 2473, 0, 0, 0, 0, []) := (congrFun pm_W_law 1329).trans rfl
theorem rl_W_law_1332 : (am_pg z_W_law).2 1332 = some (.iconst (0), 1333, 0, 0, 0, 0, 0, []) := (congrFun pm_W_law 1332).trans rfl
theorem rl_W_law_1333 : (am_pg z_W_law).2 1333 = some (.ireturn, 1334, 0, 0, 1, 0, 0, []) := (congrFun pm_W_law 1333).trans rfl
theorem rl_W_law_1334 : (am_pg z_W_law).2 1334 = some (.aload_n 1, 1335, 1, 0, 0, 0, 0, []) := (congrFun pm_W_law 1334).trans rfl
theorem rl_W_law_1335 : (am_pg z_W_law).2 1335 = some (.aload_n 0, 1336, 0, 0, 0, 0, 0, []) := (congrFun pm_W_law 1335).trans rfl
theorem rl_W_law_1336 : (am_pg z_W_law).2 1336 = some (.iload_n 3, 1337, 3, 0, 0, 0, 0, []) := (congrFun pm_W_law 1336).trans rfl
theorem rl_W_law_1337 : (am_pg z_W_law).2 1337 = some (.iconst (1), 1338, 0, 0, 0, 0, 1, []) := (congrFun pm_W_law 1337).trans rfl
theorem rl_W_law_1338 : (am_pg z_W_law).2 1338 = some (.iadd, 1339, 0, 0, 0, 0, 0, []) := (congrFun pm_W_law 1338).trans rfl
theorem rl_W_law_1339 : (am_pg z_W_law).2 1339 = some (.iaload, 1340, 0, 0, 0, 0, 0, []) := (congrFun pm_W_law 1339).trans rfl
theorem rl_W_law_1340 : (am_pg z_W_law).2 1340 = some (.aload_n 0, 1341, 0, 0, 0, 0, 0, []) := (congrFun pm_W_law 1340).trans rfl
theorem rl_W_law_1341 : (am_pg z_W_law).2 1341 = some (.iload_n 3, 1342, 3, 0, 0, 0, 0, []) := (congrFun pm_W_law 1341).trans rfl
theorem rl_W_law_1342 : (am_pg z_W_law).2 1342 = some (.iconst (2), 1343, 0, 0, 0, 0, 2, []) := (congrFun pm_W_law 1342).trans rfl
theorem rl_W_law_1343 : (am_pg z_W_law).2 1343 = some (.iadd, 1344, 0, 0, 0, 0, 0, []) := (congrFun pm_W_law 1343).trans rfl
theorem rl_W_law_1344 : (am_pg z_W_law).2 1344 = some (.iaload, 1345, 0, 0, 0, 0, 0, []) := (congrFun pm_W_law 1344).trans rfl
theorem rl_W_law_1345 : (am_pg z_W_law).2 1345 = some (.aload_n 0, 1346, 0, 0, 0, 0, 0, []) := (congrFun pm_W_law 1345).trans rfl
theorem rl_W_law_1346 : (am_pg z_W_law).2 1346 = some (.iload_n 3, 1347, 3, 0, 0, 0, 0, []) := (congrFun pm_W_law 1346).trans rfl
theorem rl_W_law_1347 : (am_pg z_W_law).2 1347 = some (.iconst (3), 1348, 0, 0, 0, 0, 3, []) := (congrFun pm_W_law 1347).trans rfl
theorem rl_W_law_1348 : (am_pg z_W_law).2 1348 = some (.iadd, 1349, 0, 0, 0, 0, 0, []) := (congrFun pm_W_law 1348).trans rfl
theorem rl_W_law_1349 : (am_pg z_W_law).2 1349 = some (.iaload, 1350, 0, 0, 0, 0, 0, []) := (congrFun pm_W_law 1349).trans rfl
theorem rl_W_law_1350 : (am_pg z_W_law).2 1350 = some (.invokevirtual 126, 1353, 27, 3, 8, 106, 0, []) := (congrFun pm_W_law 1350).trans rfl
theorem rl_W_law_1353 : (am_pg z_W_law).2 1353 = some (.aload_n 2, 1354, 2, 0, 0, 0, 0, []) := (congrFun pm_W_law 1353).trans rfl
theorem rl_W_law_1354 : (am_pg z_W_law).2 1354 = some (.aload_n 0, 1355, 0, 0, 0, 0, 0, []) := (congrFun pm_W_law 1354).trans rfl
theorem rl_W_law_1355 : (am_pg z_W_law).2 1355 = some (.iload_n 3, 1356, 3, 0, 0, 0, 0, []) := (congrFun pm_W_law 1355).trans rfl
theorem rl_W_law_1356 : (am_pg z_W_law).2 1356 = some (.iconst (1), 1357, 0, 0, 0, 0, 1, []) := (congrFun pm_W_law 1356).trans rfl
theorem rl_W_law_1357 : (am_pg z_W_law).2 1357 = some (.iadd, 1358, 0, 0, 0, 0, 0, []) := (congrFun pm_W_law 1357).trans rfl
theorem rl_W_law_1358 : (am_pg z_W_law).2 1358 = some (.iaload, 1359, 0, 0, 0, 0, 0, []) := (congrFun pm_W_law 1358).trans rfl
theorem rl_W_law_1359 : (am_pg z_W_law).2 1359 = some (.aload_n 0, 1360, 0, 0, 0, 0, 0, []) := (congrFun pm_W_law 1359).trans rfl
theorem rl_W_law_1360 : (am_pg z_W_law).2 1360 = some (.iload_n 3, 1361, 3, 0, 0, 0, 0, []) := (congrFun pm_W_law 1360).trans rfl
theorem rl_W_law_1361 : (am_pg z_W_law).2 1361 = some (.iconst (2), 1362, 0, 0, 0, 0, 2, []) := (congrFun pm_W_law 1361).trans rfl
theorem rl_W_law_1362 : (am_pg z_W_law).2 1362 = some (.iadd, 1363, 0, 0, 0, 0, 0, []) := (congrFun pm_W_law 1362).trans rfl
theorem rl_W_law_1363 : (am_pg z_W_law).2 1363 = some (.iaload, 1364, 0, 0, 0, 0, 0, []) := (congrFun pm_W_law 1363).trans rfl
theorem rl_W_law_1364 : (am_pg z_W_law).2 1364 = some (.aload_n 0, 1365, 0, 0, 0, 0, 0, []) := (congrFun pm_W_law 1364).trans rfl
theorem rl_W_law_1365 : (am_pg z_W_law).2 1365 = some (.iload_n 3, 1366, 3, 0, 0, 0, 0, []) := (congrFun pm_W_law 1365).trans rfl
theorem rl_W_law_1366 : (am_pg z_W_law).2 1366 = some (.iconst (3), 1367, 0, 0, 0, 0, 3, []) := (congrFun pm_W_law 1366).trans rfl
theorem rl_W_law_1367 : (am_pg z_W_law).2 1367 = some (.iadd, 1368, 0, 0, 0, 0, 0, []) := (congrFun pm_W_law 1367).trans rfl
theorem rl_W_law_1368 : (am_pg z_W_law).2 1368 = some (.iaload, 1369, 0, 0, 0, 0, 0, []) := (congrFun pm_W_law 1368).trans rfl
theorem rl_W_law_1369 : (am_pg z_W_law).2 1369 = some (.invokevirtual 129, 1372, 145, 3, 9, 264, 0, []) := (congrFun pm_W_law 1369).trans rfl
theorem rl_W_law_1372 : (am_pg z_W_law).2 1372 = some (.if_icmp .eq (1101), 1375, 2473, 0, 0, 0, 0, []) := (congrFun pm_W_law 1372).trans rfl
theorem rl_W_law_1375 : (am_pg z_W_law).2 1375 = some (.iconst (0), 1376, 0, 0, 0, 0, 0, []) := (congrFun pm_W_law 1375).trans rfl
theorem rl_W_law_1376 : (am_pg z_W_law).2 1376 = some (.ireturn, 1377, 0, 0, 1, 0, 0, []) := (congrFun pm_W_law 1376).trans rfl
theorem rl_W_law_1377 : (am_pg z_W_law).2 1377 = some (.aload_n 1, 1378, 1, 0, 0, 0, 0, []) := (congrFun pm_W_law 1377).trans rfl
theorem rl_W_law_1378 : (am_pg z_W_law).2 1378 = some (.aload_n 0, 1379, 0, 0, 0, 0, 0, []) := (congrFun pm_W_law 1378).trans rfl
theorem rl_W_law_1379 : (am_pg z_W_law).2 1379 = some (.iload_n 3, 1380, 3, 0, 0, 0, 0, []) := (congrFun pm_W_law 1379).trans rfl
theorem rl_W_law_1380 : (am_pg z_W_law).2 1380 = some (.iconst (1), 1381, 0, 0, 0, 0, 1, []) := (congrFun pm_W_law 1380).trans rfl
theorem rl_W_law_1381 : (am_pg z_W_law).2 1381 = some (.iadd, 1382, 0, 0, 0, 0, 0, []) := (congrFun pm_W_law 1381).trans rfl
theorem rl_W_law_1382 : (am_pg z_W_law).2 1382 = some (.iaload, 1383, 0, 0, 0, 0, 0, []) := (congrFun pm_W_law 1382).trans rfl
theorem rl_W_law_1383 : (am_pg z_W_law).2 1383 = some (.aload_n 0, 1384, 0, 0, 0, 0, 0, []) := (congrFun pm_W_law 1383).trans rfl
theorem rl_W_law_1384 : (am_pg z_W_law).2 1384 = some (.iload_n 3, 1385, 3, 0, 0, 0, 0, []) := (congrFun pm_W_law 1384).trans rfl
theorem rl_W_law_1385 : (am_pg z_W_law).2 1385 = some (.iconst (2), 1386, 0, 0, 0, 0, 2, []) := (congrFun pm_W_law 1385).trans rfl
theorem rl_W_law_1386 : (am_pg z_W_law).2 1386 = some (.iadd, 1387, 0, 0, 0, 0, 0, []) := (congrFun pm_W_law 1386).trans rfl
theorem rl_W_law_1387 : (am_pg z_W_law).2 1387 = some (.iaload, 1388, 0, 0, 0, 0, 0, []) := (congrFun pm_W_law 1387).trans rfl
theorem rl_W_law_1388 : (am_pg z_W_law).2 1388 = some (.invokevirtual 130, 1391, 28, 2, 8, 108, 0, []) := (congrFun pm_W_law 1388).trans rfl
theorem rl_W_law_1391 : (am_pg z_W_law).2 1391 = some (.aload_n 2, 1392, 2, 0, 0, 0, 0, []) := (congrFun pm_W_law 1391).trans rfl
theorem rl_W_law_1392 : (am_pg z_W_law).2 1392 = some (.aload_n 0, 1393, 0, 0, 0, 0, 0, []) := (congrFun pm_W_law 1392).trans rfl
theorem rl_W_law_1393 : (am_pg z_W_law).2 1393 = some (.iload_n 3, 1394, 3, 0, 0, 0, 0, []) := (congrFun pm_W_law 1393).trans rfl
theorem rl_W_law_1394 : (am_pg z_W_law).2 1394 = some (.iconst (1), 1395, 0, 0, 0, 0, 1, []) := (congrFun pm_W_law 1394).trans rfl
theorem rl_W_law_1395 : (am_pg z_W_law).2 1395 = some (.iadd, 1396, 0, 0, 0, 0, 0, []) := (congrFun pm_W_law 1395).trans rfl
theorem rl_W_law_1396 : (am_pg z_W_law).2 1396 = some (.iaload, 1397, 0, 0, 0, 0, 0, []) := (congrFun pm_W_law 1396).trans rfl
theorem rl_W_law_1397 : (am_pg z_W_law).2 1397 = some (.aload_n 0, 1398, 0, 0, 0, 0, 0, []) := (congrFun pm_W_law 1397).trans rfl
theorem rl_W_law_1398 : (am_pg z_W_law).2 1398 = some (.iload_n 3, 1399, 3, 0, 0, 0, 0, []) := (congrFun pm_W_law 1398).trans rfl
theorem rl_W_law_1399 : (am_pg z_W_law).2 1399 = some (.iconst (2), 1400, 0, 0, 0, 0, 2, []) := (congrFun pm_W_law 1399).trans rfl
theorem rl_W_law_1400 : (am_pg z_W_law).2 1400 = some (.iadd, 1401, 0, 0, 0, 0, 0, []) := (congrFun pm_W_law 1400).trans rfl
theorem rl_W_law_1401 : (am_pg z_W_law).2 1401 = some (.iaload, 1402, 0, 0, 0, 0, 0, []) := (congrFun pm_W_law 1401).trans rfl
theorem rl_W_law_1402 : (am_pg z_W_law).2 1402 = some (.invokevirtual 133, 1405, 146, 2, 9, 265, 0, []) := (congrFun pm_W_law 1402).trans rfl
theorem rl_W_law_1405 : (am_pg z_W_law).2 1405 = some (.if_icmp .eq (1068), 1408, 2473, 0, 0, 0, 0, []) := (congrFun pm_W_law 1405).trans rfl
theorem rl_W_law_1408 : (am_pg z_W_law).2 1408 = some (.iconst (0), 1409, 0, 0, 0, 0, 0, []) := (congrFun pm_W_law 1408).trans rfl
theorem rl_W_law_1409 : (am_pg z_W_law).2 1409 = some (.ireturn, 1410, 0, 0, 1, 0, 0, []) := (congrFun pm_W_law 1409).trans rfl
theorem rl_W_law_1410 : (am_pg z_W_law).2 1410 = some (.aload_n 1, 1411, 1, 0, 0, 0, 0, []) := (congrFun pm_W_law 1410).trans rfl
theorem rl_W_law_1411 : (am_pg z_W_law).2 1411 = some (.aload_n 0, 1412, 0, 0, 0, 0, 0, []) := (congrFun pm_W_law 1411).trans rfl
theorem rl_W_law_1412 : (am_pg z_W_law).2 1412 = some (.iload_n 3, 1413, 3, 0, 0, 0, 0, []) := (congrFun pm_W_law 1412).trans rfl
theorem rl_W_law_1413 : (am_pg z_W_law).2 1413 = some (.iconst (1), 1414, 0, 0, 0, 0, 1, []) := (congrFun pm_W_law 1413).trans rfl
theorem rl_W_law_1414 : (am_pg z_W_law).2 1414 = some (.iadd, 1415, 0, 0, 0, 0, 0, []) := (congrFun pm_W_law 1414).trans rfl
theorem rl_W_law_1415 : (am_pg z_W_law).2 1415 = some (.iaload, 1416, 0, 0, 0, 0, 0, []) := (congrFun pm_W_law 1415).trans rfl
theorem rl_W_law_1416 : (am_pg z_W_law).2 1416 = some (.aload_n 0, 1417, 0, 0, 0, 0, 0, []) := (congrFun pm_W_law 1416).trans rfl
theorem rl_W_law_1417 : (am_pg z_W_law).2 1417 = some (.iload_n 3, 1418, 3, 0, 0, 0, 0, []) := (congrFun pm_W_law 1417).trans rfl
theorem rl_W_law_1418 : (am_pg z_W_law).2 1418 = some (.iconst (2), 1419, 0, 0, 0, 0, 2, []) := (congrFun pm_W_law 1418).trans rfl
theorem rl_W_law_1419 : (am_pg z_W_law).2 1419 = some (.iadd, 1420, 0, 0, 0, 0, 0, []) := (congrFun pm_W_law 1419).trans rfl
theorem rl_W_law_1420 : (am_pg z_W_law).2 1420 = some (.iaload, 1421, 0, 0, 0, 0, 0, []) := (congrFun pm_W_law 1420).trans rfl
theorem rl_W_law_1421 : (am_pg z_W_law).2 1421 = some (.aload_n 0, 1422, 0, 0, 0, 0, 0, []) := (congrFun pm_W_law 1421).trans rfl
theorem rl_W_law_1422 : (am_pg z_W_law).2 1422 = some (.iload_n 3, 1423, 3, 0, 0, 0, 0, []) := (congrFun pm_W_law 1422).trans rfl
theorem rl_W_law_1423 : (am_pg z_W_law).2 1423 = some (.iconst (3), 1424, 0, 0, 0, 0, 3, []) := (congrFun pm_W_law 1423).trans rfl
theorem rl_W_law_1424 : (am_pg z_W_law).2 1424 = some (.iadd, 1425, 0, 0, 0, 0, 0, []) := (congrFun pm_W_law 1424).trans rfl
theorem rl_W_law_1425 : (am_pg z_W_law).2 1425 = some (.iaload, 1426, 0, 0, 0, 0, 0, []) := (congrFun pm_W_law 1425).trans rfl
theorem rl_W_law_1426 : (am_pg z_W_law).2 1426 = some (.invokevirtual 134, 1429, 29, 3, 8, 111, 0, []) := (congrFun pm_W_law 1426).trans rfl
theorem rl_W_law_1429 : (am_pg z_W_law).2 1429 = some (.aload_n 2, 1430, 2, 0, 0, 0, 0, []) := (congrFun pm_W_law 1429).trans rfl
theorem rl_W_law_1430 : (am_pg z_W_law).2 1430 = some (.aload_n 0, 1431, 0, 0, 0, 0, 0, []) := (congrFun pm_W_law 1430).trans rfl
theorem rl_W_law_1431 : (am_pg z_W_law).2 1431 = some (.iload_n 3, 1432, 3, 0, 0, 0, 0, []) := (congrFun pm_W_law 1431).trans rfl
theorem rl_W_law_1432 : (am_pg z_W_law).2 1432 = some (.iconst (1), 1433, 0, 0, 0, 0, 1, []) := (congrFun pm_W_law 1432).trans rfl
theorem rl_W_law_1433 : (am_pg z_W_law).2 1433 = some (.iadd, 1434, 0, 0, 0, 0, 0, []) := (congrFun pm_W_law 1433).trans rfl
theorem rl_W_law_1434 : (am_pg z_W_law).2 1434 = some (.iaload, 1435, 0, 0, 0, 0, 0, []) := (congrFun pm_W_law 1434).trans rfl
theorem rl_W_law_1435 : (am_pg z_W_law).2 1435 = some (.aload_n 0, 1436, 0, 0, 0, 0, 0, []) := (congrFun pm_W_law 1435).trans rfl
theorem rl_W_law_1436 : (am_pg z_W_law).2 1436 = some (.iload_n 3, 1437, 3, 0, 0, 0, 0, []) := (congrFun pm_W_law 1436).trans rfl
theorem rl_W_law_1437 : (am_pg z_W_law).2 1437 = some (.iconst (2), 1438, 0, 0, 0, 0, 2, []) := (congrFun pm_W_law 1437).trans rfl
theorem rl_W_law_1438 : (am_pg z_W_law).2 1438 = some (.iadd, 1439, 0, 0, 0, 0, 0, []) := (congrFun pm_W_law 1438).trans rfl
theorem rl_W_law_1439 : (am_pg z_W_law).2 1439 = some (.iaload, 1440, 0, 0, 0, 0, 0, []) := (congrFun pm_W_law 1439).trans rfl
theorem rl_W_law_1440 : (am_pg z_W_law).2 1440 = some (.aload_n 0, 1441, 0, 0, 0, 0, 0, []) := (congrFun pm_W_law 1440).trans rfl
theorem rl_W_law_1441 : (am_pg z_W_law).2 1441 = some (.iload_n 3, 1442, 3, 0, 0, 0, 0, []) := (congrFun pm_W_law 1441).trans rfl
theorem rl_W_law_1442 : (am_pg z_W_law).2 1442 = some (.iconst (3), 1443, 0, 0, 0, 0, 3, []) := (congrFun pm_W_law 1442).trans rfl
theorem rl_W_law_1443 : (am_pg z_W_law).2 1443 = some (.iadd, 1444, 0, 0, 0, 0, 0, []) := (congrFun pm_W_law 1443).trans rfl
theorem rl_W_law_1444 : (am_pg z_W_law).2 1444 = some (.iaload, 1445, 0, 0, 0, 0, 0, []) := (congrFun pm_W_law 1444).trans rfl
theorem rl_W_law_1445 : (am_pg z_W_law).2 1445 = some (.invokevirtual 137, 1448, 149, 3, 9, 269, 0, []) := (congrFun pm_W_law 1445).trans rfl
theorem rl_W_law_1448 : (am_pg z_W_law).2 1448 = some (.if_icmp .eq (1025), 1451, 2473, 0, 0, 0, 0, []) := (congrFun pm_W_law 1448).trans rfl
theorem rl_W_law_1451 : (am_pg z_W_law).2 1451 = some (.iconst (0), 1452, 0, 0, 0, 0, 0, []) := (congrFun pm_W_law 1451).trans rfl
theorem rl_W_law_1452 : (am_pg z_W_law).2 1452 = some (.ireturn, 1453, 0, 0, 1, 0, 0, []) := (congrFun pm_W_law 1452).trans rfl
theorem rl_W_law_1453 : (am_pg z_W_law).2 1453 = some (.aload_n 1, 1454, 1, 0, 0, 0, 0, []) := (congrFun pm_W_law 1453).trans rfl
theorem rl_W_law_1454 : (am_pg z_W_law).2 1454 = some (.aload_n 0, 1455, 0, 0, 0, 0, 0, []) := (congrFun pm_W_law 1454).trans rfl
theorem rl_W_law_1455 : (am_pg z_W_law).2 1455 = some (.iload_n 3, 1456, 3, 0, 0, 0, 0, []) := (congrFun pm_W_law 1455).trans rfl
theorem rl_W_law_1456 : (am_pg z_W_law).2 1456 = some (.iconst (1), 1457, 0, 0, 0, 0, 1, []) := (congrFun pm_W_law 1456).trans rfl
theorem rl_W_law_1457 : (am_pg z_W_law).2 1457 = some (.iadd, 1458, 0, 0, 0, 0, 0, []) := (congrFun pm_W_law 1457).trans rfl
theorem rl_W_law_1458 : (am_pg z_W_law).2 1458 = some (.iaload, 1459, 0, 0, 0, 0, 0, []) := (congrFun pm_W_law 1458).trans rfl
theorem rl_W_law_1459 : (am_pg z_W_law).2 1459 = some (.aload_n 0, 1460, 0, 0, 0, 0, 0, []) := (congrFun pm_W_law 1459).trans rfl
theorem rl_W_law_1460 : (am_pg z_W_law).2 1460 = some (.iload_n 3, 1461, 3, 0, 0, 0, 0, []) := (congrFun pm_W_law 1460).trans rfl
theorem rl_W_law_1461 : (am_pg z_W_law).2 1461 = some (.iconst (2), 1462, 0, 0, 0, 0, 2, []) := (congrFun pm_W_law 1461).trans rfl
theorem rl_W_law_1462 : (am_pg z_W_law).2 1462 = some (.iadd, 1463, 0, 0, 0, 0, 0, []) := (congrFun pm_W_law 1462).trans rfl
theorem rl_W_law_1463 : (am_pg z_W_law).2 1463 = some (.iaload, 1464, 0, 0, 0, 0, 0, []) := (congrFun pm_W_law 1463).trans rfl
theorem rl_W_law_1464 : (am_pg z_W_law).2 1464 = some (.aload_n 0, 1465, 0, 0, 0, 0, 0, []) := (congrFun pm_W_law 1464).trans rfl
theorem rl_W_law_1465 : (am_pg z_W_law).2 1465 = some (.iload_n 3, 1466, 3, 0, 0, 0, 0, []) := (congrFun pm_W_law 1465).trans rfl
theorem rl_W_law_1466 : (am_pg z_W_law).2 1466 = some (.iconst (3), 1467, 0, 0, 0, 0, 3, []) := (congrFun pm_W_law 1466).trans rfl
theorem rl_W_law_1467 : (am_pg z_W_law).2 1467 = some (.iadd, 1468, 0, 0, 0, 0, 0, []) := (congrFun pm_W_law 1467).trans rfl
theorem rl_W_law_1468 : (am_pg z_W_law).2 1468 = some (.iaload, 1469, 0, 0, 0, 0, 0, []) := (congrFun pm_W_law 1468).trans rfl
theorem rl_W_law_1469 : (am_pg z_W_law).2 1469 = some (.aload_n 0, 1470, 0, 0, 0, 0, 0, []) := (congrFun pm_W_law 1469).trans rfl
theorem rl_W_law_1470 : (am_pg z_W_law).2 1470 = some (.iload_n 3, 1471, 3, 0, 0, 0, 0, []) := (congrFun pm_W_law 1470).trans rfl
theorem rl_W_law_1471 : (am_pg z_W_law).2 1471 = some (.iconst (4), 1472, 0, 0, 0, 0, 4, []) := (congrFun pm_W_law 1471).trans rfl
theorem rl_W_law_1472 : (am_pg z_W_law).2 1472 = some (.iadd, 1473, 0, 0, 0, 0, 0, []) := (congrFun pm_W_law 1472).trans rfl
theorem rl_W_law_1473 : (am_pg z_W_law).2 1473 = some (.iaload, 1474, 0, 0, 0, 0, 0, []) := (congrFun pm_W_law 1473).trans rfl
theorem rl_W_law_1474 : (am_pg z_W_law).2 1474 = some (.invokevirtual 138, 1477, 30, 4, 8, 114, 0, []) := (congrFun pm_W_law 1474).trans rfl
theorem rl_W_law_1477 : (am_pg z_W_law).2 1477 = some (.aload_n 2, 1478, 2, 0, 0, 0, 0, []) := (congrFun pm_W_law 1477).trans rfl
theorem rl_W_law_1478 : (am_pg z_W_law).2 1478 = some (.aload_n 0, 1479, 0, 0, 0, 0, 0, []) := (congrFun pm_W_law 1478).trans rfl
theorem rl_W_law_1479 : (am_pg z_W_law).2 1479 = some (.iload_n 3, 1480, 3, 0, 0, 0, 0, []) := (congrFun pm_W_law 1479).trans rfl
theorem rl_W_law_1480 : (am_pg z_W_law).2 1480 = some (.iconst (1), 1481, 0, 0, 0, 0, 1, []) := (congrFun pm_W_law 1480).trans rfl
theorem rl_W_law_1481 : (am_pg z_W_law).2 1481 = some (.iadd, 1482, 0, 0, 0, 0, 0, []) := (congrFun pm_W_law 1481).trans rfl
theorem rl_W_law_1482 : (am_pg z_W_law).2 1482 = some (.iaload, 1483, 0, 0, 0, 0, 0, []) := (congrFun pm_W_law 1482).trans rfl
theorem rl_W_law_1483 : (am_pg z_W_law).2 1483 = some (.aload_n 0, 1484, 0, 0, 0, 0, 0, []) := (congrFun pm_W_law 1483).trans rfl
theorem rl_W_law_1484 : (am_pg z_W_law).2 1484 = some (.iload_n 3, 1485, 3, 0, 0, 0, 0, []) := (congrFun pm_W_law 1484).trans rfl
theorem rl_W_law_1485 : (am_pg z_W_law).2 1485 = some (.iconst (2), 1486, 0, 0, 0, 0, 2, []) := (congrFun pm_W_law 1485).trans rfl
theorem rl_W_law_1486 : (am_pg z_W_law).2 1486 = some (.iadd, 1487, 0, 0, 0, 0, 0, []) := (congrFun pm_W_law 1486).trans rfl
theorem rl_W_law_1487 : (am_pg z_W_law).2 1487 = some (.iaload, 1488, 0, 0, 0, 0, 0, []) := (congrFun pm_W_law 1487).trans rfl
theorem rl_W_law_1488 : (am_pg z_W_law).2 1488 = some (.aload_n 0, 1489, 0, 0, 0, 0, 0, []) := (congrFun pm_W_law 1488).trans rfl
theorem rl_W_law_1489 : (am_pg z_W_law).2 1489 = some (.iload_n 3, 1490, 3, 0, 0, 0, 0, []) := (congrFun pm_W_law 1489).trans rfl
theorem rl_W_law_1490 : (am_pg z_W_law).2 1490 = some (.iconst (3), 1491, 0, 0, 0, 0, 3, []) := (congrFun pm_W_law 1490).trans rfl
theorem rl_W_law_1491 : (am_pg z_W_law).2 1491 = some (.iadd, 1492, 0, 0, 0, 0, 0, []) := (congrFun pm_W_law 1491).trans rfl
theorem rl_W_law_1492 : (am_pg z_W_law).2 1492 = some (.iaload, 1493, 0, 0, 0, 0, 0, []) := (congrFun pm_W_law 1492).trans rfl
theorem rl_W_law_1493 : (am_pg z_W_law).2 1493 = some (.aload_n 0, 1494, 0, 0, 0, 0, 0, []) := (congrFun pm_W_law 1493).trans rfl
theorem rl_W_law_1494 : (am_pg z_W_law).2 1494 = some (.iload_n 3, 1495, 3, 0, 0, 0, 0, []) := (congrFun pm_W_law 1494).trans rfl
theorem rl_W_law_1495 : (am_pg z_W_law).2 1495 = some (.iconst (4), 1496, 0, 0, 0, 0, 4, []) := (congrFun pm_W_law 1495).trans rfl
theorem rl_W_law_1496 : (am_pg z_W_law).2 1496 = some (.iadd, 1497, 0, 0, 0, 0, 0, []) := (congrFun pm_W_law 1496).trans rfl
theorem rl_W_law_1497 : (am_pg z_W_law).2 1497 = some (.iaload, 1498, 0, 0, 0, 0, 0, []) := (congrFun pm_W_law 1497).trans rfl
theorem rl_W_law_1498 : (am_pg z_W_law).2 1498 = some (.invokevirtual 141, 1501, 201, 4, 9, 322, 0, []) := (congrFun pm_W_law 1498).trans rfl
theorem rl_W_law_1501 : (am_pg z_W_law).2 1501 = some (.if_icmp .eq (972), 1504, 2473, 0, 0, 0, 0, []) := (congrFun pm_W_law 1501).trans rfl
theorem rl_W_law_1504 : (am_pg z_W_law).2 1504 = some (.iconst (0), 1505, 0, 0, 0, 0, 0, []) := (congrFun pm_W_law 1504).trans rfl
theorem rl_W_law_1505 : (am_pg z_W_law).2 1505 = some (.ireturn, 1506, 0, 0, 1, 0, 0, []) := (congrFun pm_W_law 1505).trans rfl
theorem rl_W_law_1506 : (am_pg z_W_law).2 1506 = some (.aload_n 1, 1507, 1, 0, 0, 0, 0, []) := (congrFun pm_W_law 1506).trans rfl
theorem rl_W_law_1507 : (am_pg z_W_law).2 1507 = some (.aload_n 0, 1508, 0, 0, 0, 0, 0, []) := (congrFun pm_W_law 1507).trans rfl
theorem rl_W_law_1508 : (am_pg z_W_law).2 1508 = some (.iload_n 3, 1509, 3, 0, 0, 0, 0, []) := (congrFun pm_W_law 1508).trans rfl
theorem rl_W_law_1509 : (am_pg z_W_law).2 1509 = some (.iconst (1), 1510, 0, 0, 0, 0, 1, []) := (congrFun pm_W_law 1509).trans rfl
theorem rl_W_law_1510 : (am_pg z_W_law).2 1510 = some (.iadd, 1511, 0, 0, 0, 0, 0, []) := (congrFun pm_W_law 1510).trans rfl
theorem rl_W_law_1511 : (am_pg z_W_law).2 1511 = some (.iaload, 1512, 0, 0, 0, 0, 0, []) := (congrFun pm_W_law 1511).trans rfl
theorem rl_W_law_1512 : (am_pg z_W_law).2 1512 = some (.aload_n 0, 1513, 0, 0, 0, 0, 0, []) := (congrFun pm_W_law 1512).trans rfl
theorem rl_W_law_1513 : (am_pg z_W_law).2 1513 = some (.iload_n 3, 1514, 3, 0, 0, 0, 0, []) := (congrFun pm_W_law 1513).trans rfl
theorem rl_W_law_1514 : (am_pg z_W_law).2 1514 = some (.iconst (2), 1515, 0, 0, 0, 0, 2, []) := (congrFun pm_W_law 1514).trans rfl
theorem rl_W_law_1515 : (am_pg z_W_law).2 1515 = some (.iadd, 1516, 0, 0, 0, 0, 0, []) := (congrFun pm_W_law 1515).trans rfl
theorem rl_W_law_1516 : (am_pg z_W_law).2 1516 = some (.iaload, 1517, 0, 0, 0, 0, 0, []) := (congrFun pm_W_law 1516).trans rfl
theorem rl_W_law_1517 : (am_pg z_W_law).2 1517 = some (.invokevirtual 142, 1520, 31, 2, 8, 115, 0, []) := (congrFun pm_W_law 1517).trans rfl
theorem rl_W_law_1520 : (am_pg z_W_law).2 1520 = some (.aload_n 2, 1521, 2, 0, 0, 0, 0, []) := (congrFun pm_W_law 1520).trans rfl
theorem rl_W_law_1521 : (am_pg z_W_law).2 1521 = some (.aload_n 0, 1522, 0, 0, 0, 0, 0, []) := (congrFun pm_W_law 1521).trans rfl
theorem rl_W_law_1522 : (am_pg z_W_law).2 1522 = some (.iload_n 3, 1523, 3, 0, 0, 0, 0, []) := (congrFun pm_W_law 1522).trans rfl
theorem rl_W_law_1523 : (am_pg z_W_law).2 1523 = some (.iconst (1), 1524, 0, 0, 0, 0, 1, []) := (congrFun pm_W_law 1523).trans rfl
theorem rl_W_law_1524 : (am_pg z_W_law).2 1524 = some (.iadd, 1525, 0, 0, 0, 0, 0, []) := (congrFun pm_W_law 1524).trans rfl
theorem rl_W_law_1525 : (am_pg z_W_law).2 1525 = some (.iaload, 1526, 0, 0, 0, 0, 0, []) := (congrFun pm_W_law 1525).trans rfl
theorem rl_W_law_1526 : (am_pg z_W_law).2 1526 = some (.aload_n 0, 1527, 0, 0, 0, 0, 0, []) := (congrFun pm_W_law 1526).trans rfl
theorem rl_W_law_1527 : (am_pg z_W_law).2 1527 = some (.iload_n 3, 1528, 3, 0, 0, 0, 0, []) := (congrFun pm_W_law 1527).trans rfl
theorem rl_W_law_1528 : (am_pg z_W_law).2 1528 = some (.iconst (2), 1529, 0, 0, 0, 0, 2, []) := (congrFun pm_W_law 1528).trans rfl
theorem rl_W_law_1529 : (am_pg z_W_law).2 1529 = some (.iadd, 1530, 0, 0, 0, 0, 0, []) := (congrFun pm_W_law 1529).trans rfl
theorem rl_W_law_1530 : (am_pg z_W_law).2 1530 = some (.iaload, 1531, 0, 0, 0, 0, 0, []) := (congrFun pm_W_law 1530).trans rfl
theorem rl_W_law_1531 : (am_pg z_W_law).2 1531 = some (.invokevirtual 145, 1534, 202, 2, 9, 323, 0, []) := (congrFun pm_W_law 1531).trans rfl
theorem rl_W_law_1534 : (am_pg z_W_law).2 1534 = some (.if_icmp .eq (939), 1537, 2473, 0, 0, 0, 0, []) := (congrFun pm_W_law 1534).trans rfl
theorem rl_W_law_1537 : (am_pg z_W_law).2 1537 = some (.iconst (0), 1538, 0, 0, 0, 0, 0, []) := (congrFun pm_W_law 1537).trans rfl
theorem rl_W_law_1538 : (am_pg z_W_law).2 1538 = some (.ireturn, 1539, 0, 0, 1, 0, 0, []) := (congrFun pm_W_law 1538).trans rfl
theorem rl_W_law_1539 : (am_pg z_W_law).2 1539 = some (.aload_n 1, 1540, 1, 0, 0, 0, 0, []) := (congrFun pm_W_law 1539).trans rfl
theorem rl_W_law_1540 : (am_pg z_W_law).2 1540 = some (.aload_n 0, 1541, 0, 0, 0, 0, 0, []) := (congrFun pm_W_law 1540).trans rfl
theorem rl_W_law_1541 : (am_pg z_W_law).2 1541 = some (.iload_n 3, 1542, 3, 0, 0, 0, 0, []) := (congrFun pm_W_law 1541).trans rfl
theorem rl_W_law_1542 : (am_pg z_W_law).2 1542 = some (.iconst (1), 1543, 0, 0, 0, 0, 1, []) := (congrFun pm_W_law 1542).trans rfl
theorem rl_W_law_1543 : (am_pg z_W_law).2 1543 = some (.iadd, 1544, 0, 0, 0, 0, 0, []) := (congrFun pm_W_law 1543).trans rfl
theorem rl_W_law_1544 : (am_pg z_W_law).2 1544 = some (.iaload, 1545, 0, 0, 0, 0, 0, []) := (congrFun pm_W_law 1544).trans rfl
theorem rl_W_law_1545 : (am_pg z_W_law).2 1545 = some (.aload_n 0, 1546, 0, 0, 0, 0, 0, []) := (congrFun pm_W_law 1545).trans rfl
theorem rl_W_law_1546 : (am_pg z_W_law).2 1546 = some (.iload_n 3, 1547, 3, 0, 0, 0, 0, []) := (congrFun pm_W_law 1546).trans rfl
theorem rl_W_law_1547 : (am_pg z_W_law).2 1547 = some (.iconst (2), 1548, 0, 0, 0, 0, 2, []) := (congrFun pm_W_law 1547).trans rfl
theorem rl_W_law_1548 : (am_pg z_W_law).2 1548 = some (.iadd, 1549, 0, 0, 0, 0, 0, []) := (congrFun pm_W_law 1548).trans rfl
theorem rl_W_law_1549 : (am_pg z_W_law).2 1549 = some (.iaload, 1550, 0, 0, 0, 0, 0, []) := (congrFun pm_W_law 1549).trans rfl
theorem rl_W_law_1550 : (am_pg z_W_law).2 1550 = some (.aload_n 0, 1551, 0, 0, 0, 0, 0, []) := (congrFun pm_W_law 1550).trans rfl
theorem rl_W_law_1551 : (am_pg z_W_law).2 1551 = some (.iload_n 3, 1552, 3, 0, 0, 0, 0, []) := (congrFun pm_W_law 1551).trans rfl
theorem rl_W_law_1552 : (am_pg z_W_law).2 1552 = some (.iconst (3), 1553, 0, 0, 0, 0, 3, []) := (congrFun pm_W_law 1552).trans rfl
theorem rl_W_law_1553 : (am_pg z_W_law).2 1553 = some (.iadd, 1554, 0, 0, 0, 0, 0, []) := (congrFun pm_W_law 1553).trans rfl
theorem rl_W_law_1554 : (am_pg z_W_law).2 1554 = some (.iaload, 1555, 0, 0, 0, 0, 0, []) := (congrFun pm_W_law 1554).trans rfl
theorem rl_W_law_1555 : (am_pg z_W_law).2 1555 = some (.invokevirtual 146, 1558, 32, 3, 8, 116, 0, []) := (congrFun pm_W_law 1555).trans rfl
theorem rl_W_law_1558 : (am_pg z_W_law).2 1558 = some (.aload_n 2, 1559, 2, 0, 0, 0, 0, []) := (congrFun pm_W_law 1558).trans rfl
theorem rl_W_law_1559 : (am_pg z_W_law).2 1559 = some (.aload_n 0, 1560, 0, 0, 0, 0, 0, []) := (congrFun pm_W_law 1559).trans rfl
theorem rl_W_law_1560 : (am_pg z_W_law).2 1560 = some (.iload_n 3, 1561, 3, 0, 0, 0, 0, []) := (congrFun pm_W_law 1560).trans rfl
theorem rl_W_law_1561 : (am_pg z_W_law).2 1561 = some (.iconst (1), 1562, 0, 0, 0, 0, 1, []) := (congrFun pm_W_law 1561).trans rfl
theorem rl_W_law_1562 : (am_pg z_W_law).2 1562 = some (.iadd, 1563, 0, 0, 0, 0, 0, []) := (congrFun pm_W_law 1562).trans rfl
theorem rl_W_law_1563 : (am_pg z_W_law).2 1563 = some (.iaload, 1564, 0, 0, 0, 0, 0, []) := (congrFun pm_W_law 1563).trans rfl
theorem rl_W_law_1564 : (am_pg z_W_law).2 1564 = some (.aload_n 0, 1565, 0, 0, 0, 0, 0, []) := (congrFun pm_W_law 1564).trans rfl
theorem rl_W_law_1565 : (am_pg z_W_law).2 1565 = some (.iload_n 3, 1566, 3, 0, 0, 0, 0, []) := (congrFun pm_W_law 1565).trans rfl
theorem rl_W_law_1566 : (am_pg z_W_law).2 1566 = some (.iconst (2), 1567, 0, 0, 0, 0, 2, []) := (congrFun pm_W_law 1566).trans rfl
theorem rl_W_law_1567 : (am_pg z_W_law).2 1567 = some (.iadd, 1568, 0, 0, 0, 0, 0, []) := (congrFun pm_W_law 1567).trans rfl
theorem rl_W_law_1568 : (am_pg z_W_law).2 1568 = some (.iaload, 1569, 0, 0, 0, 0, 0, []) := (congrFun pm_W_law 1568).trans rfl
theorem rl_W_law_1569 : (am_pg z_W_law).2 1569 = some (.aload_n 0, 1570, 0, 0, 0, 0, 0, []) := (congrFun pm_W_law 1569).trans rfl
theorem rl_W_law_1570 : (am_pg z_W_law).2 1570 = some (.iload_n 3, 1571, 3, 0, 0, 0, 0, []) := (congrFun pm_W_law 1570).trans rfl
theorem rl_W_law_1571 : (am_pg z_W_law).2 1571 = some (.iconst (3), 1572, 0, 0, 0, 0, 3, []) := (congrFun pm_W_law 1571).trans rfl
theorem rl_W_law_1572 : (am_pg z_W_law).2 1572 = some (.iadd, 1573, 0, 0, 0, 0, 0, []) := (congrFun pm_W_law 1572).trans rfl
theorem rl_W_law_1573 : (am_pg z_W_law).2 1573 = some (.iaload, 1574, 0, 0, 0, 0, 0, []) := (congrFun pm_W_law 1573).trans rfl
theorem rl_W_law_1574 : (am_pg z_W_law).2 1574 = some (.invokevirtual 149, 1577, 203, 3, 9, 324, 0, []) := (congrFun pm_W_law 1574).trans rfl
theorem rl_W_law_1577 : (am_pg z_W_law).2 1577 = some (.if_icmp .eq (896), 1580, 2473, 0, 0, 0, 0, []) := (congrFun pm_W_law 1577).trans rfl
theorem rl_W_law_1580 : (am_pg z_W_law).2 1580 = some (.iconst (0), 1581, 0, 0, 0, 0, 0, []) := (congrFun pm_W_law 1580).trans rfl
theorem rl_W_law_1581 : (am_pg z_W_law).2 1581 = some (.ireturn, 1582, 0, 0, 1, 0, 0, []) := (congrFun pm_W_law 1581).trans rfl
theorem rl_W_law_1582 : (am_pg z_W_law).2 1582 = some (.aload_n 1, 1583, 1, 0, 0, 0, 0, []) := (congrFun pm_W_law 1582).trans rfl
theorem rl_W_law_1583 : (am_pg z_W_law).2 1583 = some (.aload_n 0, 1584, 0, 0, 0, 0, 0, []) := (congrFun pm_W_law 1583).trans rfl
theorem rl_W_law_1584 : (am_pg z_W_law).2 1584 = some (.iload_n 3, 1585, 3, 0, 0, 0, 0, []) := (congrFun pm_W_law 1584).trans rfl
theorem rl_W_law_1585 : (am_pg z_W_law).2 1585 = some (.iconst (1), 1586, 0, 0, 0, 0, 1, []) := (congrFun pm_W_law 1585).trans rfl
theorem rl_W_law_1586 : (am_pg z_W_law).2 1586 = some (.iadd, 1587, 0, 0, 0, 0, 0, []) := (congrFun pm_W_law 1586).trans rfl
theorem rl_W_law_1587 : (am_pg z_W_law).2 1587 = some (.iaload, 1588, 0, 0, 0, 0, 0, []) := (congrFun pm_W_law 1587).trans rfl
theorem rl_W_law_1588 : (am_pg z_W_law).2 1588 = some (.aload_n 0, 1589, 0, 0, 0, 0, 0, []) := (congrFun pm_W_law 1588).trans rfl
theorem rl_W_law_1589 : (am_pg z_W_law).2 1589 = some (.iload_n 3, 1590, 3, 0, 0, 0, 0, []) := (congrFun pm_W_law 1589).trans rfl
theorem rl_W_law_1590 : (am_pg z_W_law).2 1590 = some (.iconst (2), 1591, 0, 0, 0, 0, 2, []) := (congrFun pm_W_law 1590).trans rfl
theorem rl_W_law_1591 : (am_pg z_W_law).2 1591 = some (.iadd, 1592, 0, 0, 0, 0, 0, []) := (congrFun pm_W_law 1591).trans rfl
theorem rl_W_law_1592 : (am_pg z_W_law).2 1592 = some (.iaload, 1593, 0, 0, 0, 0, 0, []) := (congrFun pm_W_law 1592).trans rfl
theorem rl_W_law_1593 : (am_pg z_W_law).2 1593 = some (.invokevirtual 150, 1596, 33, 2, 8, 117, 0, []) := (congrFun pm_W_law 1593).trans rfl
theorem rl_W_law_1596 : (am_pg z_W_law).2 1596 = some (.aload_n 2, 1597, 2, 0, 0, 0, 0, []) := (congrFun pm_W_law 1596).trans rfl
theorem rl_W_law_1597 : (am_pg z_W_law).2 1597 = some (.aload_n 0, 1598, 0, 0, 0, 0, 0, []) := (congrFun pm_W_law 1597).trans rfl
theorem rl_W_law_1598 : (am_pg z_W_law).2 1598 = some (.iload_n 3, 1599, 3, 0, 0, 0, 0, []) := (congrFun pm_W_law 1598).trans rfl
theorem rl_W_law_1599 : (am_pg z_W_law).2 1599 = some (.iconst (1), 1600, 0, 0, 0, 0, 1, []) := (congrFun pm_W_law 1599).trans rfl
theorem rl_W_law_1600 : (am_pg z_W_law).2 1600 = some (.iadd, 1601, 0, 0, 0, 0, 0, []) := (congrFun pm_W_law 1600).trans rfl
theorem rl_W_law_1601 : (am_pg z_W_law).2 1601 = some (.iaload, 1602, 0, 0, 0, 0, 0, []) := (congrFun pm_W_law 1601).trans rfl
theorem rl_W_law_1602 : (am_pg z_W_law).2 1602 = some (.aload_n 0, 1603, 0, 0, 0, 0, 0, []) := (congrFun pm_W_law 1602).trans rfl
theorem rl_W_law_1603 : (am_pg z_W_law).2 1603 = some (.iload_n 3, 1604, 3, 0, 0, 0, 0, []) := (congrFun pm_W_law 1603).trans rfl
theorem rl_W_law_1604 : (am_pg z_W_law).2 1604 = some (.iconst (2), 1605, 0, 0, 0, 0, 2, []) := (congrFun pm_W_law 1604).trans rfl
theorem rl_W_law_1605 : (am_pg z_W_law).2 1605 = some (.iadd, 1606, 0, 0, 0, 0, 0, []) := (congrFun pm_W_law 1605).trans rfl
theorem rl_W_law_1606 : (am_pg z_W_law).2 1606 = some (.iaload, 1607, 0, 0, 0, 0, 0, []) := (congrFun pm_W_law 1606).trans rfl
theorem rl_W_law_1607 : (am_pg z_W_law).2 1607 = some (.invokevirtual 153, 1610, 204, 2, 9, 325, 0, []) := (congrFun pm_W_law 1607).trans rfl
theorem rl_W_law_1610 : (am_pg z_W_law).2 1610 = some (.if_icmp .eq (863), 1613, 2473, 0, 0, 0, 0, []) := (congrFun pm_W_law 1610).trans rfl
theorem rl_W_law_1613 : (am_pg z_W_law).2 1613 = some (.iconst (0), 1614, 0, 0, 0, 0, 0, []) := (congrFun pm_W_law 1613).trans rfl
theorem rl_W_law_1614 : (am_pg z_W_law).2 1614 = some (.ireturn, 1615, 0, 0, 1, 0, 0, []) := (congrFun pm_W_law 1614).trans rfl
theorem rl_W_law_1615 : (am_pg z_W_law).2 1615 = some (.aload_n 1, 1616, 1, 0, 0, 0, 0, []) := (congrFun pm_W_law 1615).trans rfl
theorem rl_W_law_1616 : (am_pg z_W_law).2 1616 = some (.aload_n 0, 1617, 0, 0, 0, 0, 0, []) := (congrFun pm_W_law 1616).trans rfl
theorem rl_W_law_1617 : (am_pg z_W_law).2 1617 = some (.iload_n 3, 1618, 3, 0, 0, 0, 0, []) := (congrFun pm_W_law 1617).trans rfl
theorem rl_W_law_1618 : (am_pg z_W_law).2 1618 = some (.iconst (1), 1619, 0, 0, 0, 0, 1, []) := (congrFun pm_W_law 1618).trans rfl
theorem rl_W_law_1619 : (am_pg z_W_law).2 1619 = some (.iadd, 1620, 0, 0, 0, 0, 0, []) := (congrFun pm_W_law 1619).trans rfl
theorem rl_W_law_1620 : (am_pg z_W_law).2 1620 = some (.iaload, 1621, 0, 0, 0, 0, 0, []) := (congrFun pm_W_law 1620).trans rfl
theorem rl_W_law_1621 : (am_pg z_W_law).2 1621 = some (.aload_n 0, 1622, 0, 0, 0, 0, 0, []) := (congrFun pm_W_law 1621).trans rfl
theorem rl_W_law_1622 : (am_pg z_W_law).2 1622 = some (.iload_n 3, 1623, 3, 0, 0, 0, 0, []) := (congrFun pm_W_law 1622).trans rfl
theorem rl_W_law_1623 : (am_pg z_W_law).2 1623 = some (.iconst (2), 1624, 0, 0, 0, 0, 2, []) := (congrFun pm_W_law 1623).trans rfl
theorem rl_W_law_1624 : (am_pg z_W_law).2 1624 = some (.iadd, 1625, 0, 0, 0, 0, 0, []) := (congrFun pm_W_law 1624).trans rfl
theorem rl_W_law_1625 : (am_pg z_W_law).2 1625 = some (.iaload, 1626, 0, 0, 0, 0, 0, []) := (congrFun pm_W_law 1625).trans rfl
theorem rl_W_law_1626 : (am_pg z_W_law).2 1626 = some (.invokevirtual 154, 1629, 34, 2, 8, 123, 0, []) := (congrFun pm_W_law 1626).trans rfl
theorem rl_W_law_1629 : (am_pg z_W_law).2 1629 = some (.aload_n 2, 1630, 2, 0, 0, 0, 0, []) := (congrFun pm_W_law 1629).trans rfl
theorem rl_W_law_1630 : (am_pg z_W_law).2 1630 = some (.aload_n 0, 1631, 0, 0, 0, 0, 0, []) := (congrFun pm_W_law 1630).trans rfl
theorem rl_W_law_1631 : (am_pg z_W_law).2 1631 = some (.iload_n 3, 1632, 3, 0, 0, 0, 0, []) := (congrFun pm_W_law 1631).trans rfl
theorem rl_W_law_1632 : (am_pg z_W_law).2 1632 = some (.iconst (1), 1633, 0, 0, 0, 0, 1, []) := (congrFun pm_W_law 1632).trans rfl
theorem rl_W_law_1633 : (am_pg z_W_law).2 1633 = some (.iadd, 1634, 0, 0, 0, 0, 0, []) := (congrFun pm_W_law 1633).trans rfl
theorem rl_W_law_1634 : (am_pg z_W_law).2 1634 = some (.iaload, 1635, 0, 0, 0, 0, 0, []) := (congrFun pm_W_law 1634).trans rfl
theorem rl_W_law_1635 : (am_pg z_W_law).2 1635 = some (.aload_n 0, 1636, 0, 0, 0, 0, 0, []) := (congrFun pm_W_law 1635).trans rfl
theorem rl_W_law_1636 : (am_pg z_W_law).2 1636 = some (.iload_n 3, 1637, 3, 0, 0, 0, 0, []) := (congrFun pm_W_law 1636).trans rfl
theorem rl_W_law_1637 : (am_pg z_W_law).2 1637 = some (.iconst (2), 1638, 0, 0, 0, 0, 2, []) := (congrFun pm_W_law 1637).trans rfl
theorem rl_W_law_1638 : (am_pg z_W_law).2 1638 = some (.iadd, 1639, 0, 0, 0, 0, 0, []) := (congrFun pm_W_law 1638).trans rfl
theorem rl_W_law_1639 : (am_pg z_W_law).2 1639 = some (.iaload, 1640, 0, 0, 0, 0, 0, []) := (congrFun pm_W_law 1639).trans rfl
theorem rl_W_law_1640 : (am_pg z_W_law).2 1640 = some (.invokevirtual 157, 1643, 205, 2, 9, 326, 0, []) := (congrFun pm_W_law 1640).trans rfl
theorem rl_W_law_1643 : (am_pg z_W_law).2 1643 = some (.if_icmp .eq (830), 1646, 2473, 0, 0, 0, 0, []) := (congrFun pm_W_law 1643).trans rfl
theorem rl_W_law_1646 : (am_pg z_W_law).2 1646 = some (.iconst (0), 1647, 0, 0, 0, 0, 0, []) := (congrFun pm_W_law 1646).trans rfl
theorem rl_W_law_1647 : (am_pg z_W_law).2 1647 = some (.ireturn, 1648, 0, 0, 1, 0, 0, []) := (congrFun pm_W_law 1647).trans rfl
theorem rl_W_law_1648 : (am_pg z_W_law).2 1648 = some (.aload_n 1, 1649, 1, 0, 0, 0, 0, []) := (congrFun pm_W_law 1648).trans rfl
theorem rl_W_law_1649 : (am_pg z_W_law).2 1649 = some (.invokevirtual 158, 1652, 35, 0, 8, 133, 0, []) := (congrFun pm_W_law 1649).trans rfl
theorem rl_W_law_1652 : (am_pg z_W_law).2 1652 = some (.aload_n 2, 1653, 2, 0, 0, 0, 0, []) := (congrFun pm_W_law 1652).trans rfl
theorem rl_W_law_1653 : (am_pg z_W_law).2 1653 = some (.invokevirtual 162, 1656, 151, 0, 9, 271, 0, []) := (congrFun pm_W_law 1653).trans rfl
theorem rl_W_law_1656 : (am_pg z_W_law).2 1656 = some (.if_icmp .eq (817), 1659, 2473, 0, 0, 0, 0, []) := (congrFun pm_W_law 1656).trans rfl
theorem rl_W_law_1659 : (am_pg z_W_law).2 1659 = some (.iconst (0), 1660, 0, 0, 0, 0, 0, []) := (congrFun pm_W_law 1659).trans rfl
theorem rl_W_law_1660 : (am_pg z_W_law).2 1660 = some (.ireturn, 1661, 0, 0, 1, 0, 0, []) := (congrFun pm_W_law 1660).trans rfl
theorem rl_W_law_1661 : (am_pg z_W_law).2 1661 = some (.aload_n 1, 1662, 1, 0, 0, 0, 0, []) := (congrFun pm_W_law 1661).trans rfl
theorem rl_W_law_1662 : (am_pg z_W_law).2 1662 = some (.aload_n 0, 1663, 0, 0, 0, 0, 0, []) := (congrFun pm_W_law 1662).trans rfl
theorem rl_W_law_1663 : (am_pg z_W_law).2 1663 = some (.iload_n 3, 1664, 3, 0, 0, 0, 0, []) := (congrFun pm_W_law 1663).trans rfl
theorem rl_W_law_1664 : (am_pg z_W_law).2 1664 = some (.iconst (1), 1665, 0, 0, 0, 0, 1, []) := (congrFun pm_W_law 1664).trans rfl
theorem rl_W_law_1665 : (am_pg z_W_law).2 1665 = some (.iadd, 1666, 0, 0, 0, 0, 0, []) := (congrFun pm_W_law 1665).trans rfl
theorem rl_W_law_1666 : (am_pg z_W_law).2 1666 = some (.iaload, 1667, 0, 0, 0, 0, 0, []) := (congrFun pm_W_law 1666).trans rfl
theorem rl_W_law_1667 : (am_pg z_W_law).2 1667 = some (.aload_n 0, 1668, 0, 0, 0, 0, 0, []) := (congrFun pm_W_law 1667).trans rfl
theorem rl_W_law_1668 : (am_pg z_W_law).2 1668 = some (.iload_n 3, 1669, 3, 0, 0, 0, 0, []) := (congrFun pm_W_law 1668).trans rfl
theorem rl_W_law_1669 : (am_pg z_W_law).2 1669 = some (.iconst (2), 1670, 0, 0, 0, 0, 2, []) := (congrFun pm_W_law 1669).trans rfl
theorem rl_W_law_1670 : (am_pg z_W_law).2 1670 = some (.iadd, 1671, 0, 0, 0, 0, 0, []) := (congrFun pm_W_law 1670).trans rfl
theorem rl_W_law_1671 : (am_pg z_W_law).2 1671 = some (.iaload, 1672, 0, 0, 0, 0, 0, []) := (congrFun pm_W_law 1671).trans rfl
theorem rl_W_law_1672 : (am_pg z_W_law).2 1672 = some (.invokevirtual 163, 1675, 36, 2, 8, 136, 0, []) := (congrFun pm_W_law 1672).trans rfl
theorem rl_W_law_1675 : (am_pg z_W_law).2 1675 = some (.aload_n 2, 1676, 2, 0, 0, 0, 0, []) := (congrFun pm_W_law 1675).trans rfl
theorem rl_W_law_1676 : (am_pg z_W_law).2 1676 = some (.aload_n 0, 1677, 0, 0, 0, 0, 0, []) := (congrFun pm_W_law 1676).trans rfl
theorem rl_W_law_1677 : (am_pg z_W_law).2 1677 = some (.iload_n 3, 1678, 3, 0, 0, 0, 0, []) := (congrFun pm_W_law 1677).trans rfl
theorem rl_W_law_1678 : (am_pg z_W_law).2 1678 = some (.iconst (1), 1679, 0, 0, 0, 0, 1, []) := (congrFun pm_W_law 1678).trans rfl
theorem rl_W_law_1679 : (am_pg z_W_law).2 1679 = some (.iadd, 1680, 0, 0, 0, 0, 0, []) := (congrFun pm_W_law 1679).trans rfl
theorem rl_W_law_1680 : (am_pg z_W_law).2 1680 = some (.iaload, 1681, 0, 0, 0, 0, 0, []) := (congrFun pm_W_law 1680).trans rfl
theorem rl_W_law_1681 : (am_pg z_W_law).2 1681 = some (.aload_n 0, 1682, 0, 0, 0, 0, 0, []) := (congrFun pm_W_law 1681).trans rfl
theorem rl_W_law_1682 : (am_pg z_W_law).2 1682 = some (.iload_n 3, 1683, 3, 0, 0, 0, 0, []) := (congrFun pm_W_law 1682).trans rfl
theorem rl_W_law_1683 : (am_pg z_W_law).2 1683 = some (.iconst (2), 1684, 0, 0, 0, 0, 2, []) := (congrFun pm_W_law 1683).trans rfl
theorem rl_W_law_1684 : (am_pg z_W_law).2 1684 = some (.iadd, 1685, 0, 0, 0, 0, 0, []) := (congrFun pm_W_law 1684).trans rfl
theorem rl_W_law_1685 : (am_pg z_W_law).2 1685 = some (.iaload, 1686, 0, 0, 0, 0, 0, []) := (congrFun pm_W_law 1685).trans rfl
theorem rl_W_law_1686 : (am_pg z_W_law).2 1686 = some (.invokevirtual 166, 1689, 152, 2, 9, 273, 0, []) := (congrFun pm_W_law 1686).trans rfl
theorem rl_W_law_1689 : (am_pg z_W_law).2 1689 = some (.if_icmp .eq (784), 1692, 2473, 0, 0, 0, 0, []) := (congrFun pm_W_law 1689).trans rfl
theorem rl_W_law_1692 : (am_pg z_W_law).2 1692 = some (.iconst (0), 1693, 0, 0, 0, 0, 0, []) := (congrFun pm_W_law 1692).trans rfl
theorem rl_W_law_1693 : (am_pg z_W_law).2 1693 = some (.ireturn, 1694, 0, 0, 1, 0, 0, []) := (congrFun pm_W_law 1693).trans rfl
theorem rl_W_law_1694 : (am_pg z_W_law).2 1694 = some (.aload_n 1, 1695, 1, 0, 0, 0, 0, []) := (congrFun pm_W_law 1694).trans rfl
theorem rl_W_law_1695 : (am_pg z_W_law).2 1695 = some (.aload_n 0, 1696, 0, 0, 0, 0, 0, []) := (congrFun pm_W_law 1695).trans rfl
theorem rl_W_law_1696 : (am_pg z_W_law).2 1696 = some (.iload_n 3, 1697, 3, 0, 0, 0, 0, []) := (congrFun pm_W_law 1696).trans rfl
theorem rl_W_law_1697 : (am_pg z_W_law).2 1697 = some (.iconst (1), 1698, 0, 0, 0, 0, 1, []) := (congrFun pm_W_law 1697).trans rfl
theorem rl_W_law_1698 : (am_pg z_W_law).2 1698 = some (.iadd, 1699, 0, 0, 0, 0, 0, []) := (congrFun pm_W_law 1698).trans rfl
theorem rl_W_law_1699 : (am_pg z_W_law).2 1699 = some (.iaload, 1700, 0, 0, 0, 0, 0, []) := (congrFun pm_W_law 1699).trans rfl
theorem rl_W_law_1700 : (am_pg z_W_law).2 1700 = some (.invokevirtual 167, 1703, 37, 1, 8, 137, 0, []) := (congrFun pm_W_law 1700).trans rfl
theorem rl_W_law_1703 : (am_pg z_W_law).2 1703 = some (.aload_n 2, 1704, 2, 0, 0, 0, 0, []) := (congrFun pm_W_law 1703).trans rfl
theorem rl_W_law_1704 : (am_pg z_W_law).2 1704 = some (.aload_n 0, 1705, 0, 0, 0, 0, 0, []) := (congrFun pm_W_law 1704).trans rfl
theorem rl_W_law_1705 : (am_pg z_W_law).2 1705 = some (.iload_n 3, 1706, 3, 0, 0, 0, 0, []) := (congrFun pm_W_law 1705).trans rfl
theorem rl_W_law_1706 : (am_pg z_W_law).2 1706 = some (.iconst (1), 1707, 0, 0, 0, 0, 1, []) := (congrFun pm_W_law 1706).trans rfl
theorem rl_W_law_1707 : (am_pg z_W_law).2 1707 = some (.iadd, 1708, 0, 0, 0, 0, 0, []) := (congrFun pm_W_law 1707).trans rfl
theorem rl_W_law_1708 : (am_pg z_W_law).2 1708 = some (.iaload, 1709, 0, 0, 0, 0, 0, []) := (congrFun pm_W_law 1708).trans rfl
theorem rl_W_law_1709 : (am_pg z_W_law).2 1709 = some (.invokevirtual 170, 1712, 162, 1, 9, 277, 0, []) := (congrFun pm_W_law 1709).trans rfl
theorem rl_W_law_1712 : (am_pg z_W_law).2 1712 = some (.if_icmp .eq (761), 1715, 2473, 0, 0, 0, 0, []) := (congrFun pm_W_law 1712).trans rfl
theorem rl_W_law_1715 : (am_pg z_W_law).2 1715 = some (.iconst (0), 1716, 0, 0, 0, 0, 0, []) := (congrFun pm_W_law 1715).trans rfl
theorem rl_W_law_1716 : (am_pg z_W_law).2 1716 = some (.ireturn, 1717, 0, 0, 1, 0, 0, []) := (congrFun pm_W_law 1716).trans rfl
theorem rl_W_law_1717 : (am_pg z_W_law).2 1717 = some (.aload_n 1, 1718, 1, 0, 0, 0, 0, []) := (congrFun pm_W_law 1717).trans rfl
theorem rl_W_law_1718 : (am_pg z_W_law).2 1718 = some (.aload_n 0, 1719, 0, 0, 0, 0, 0, []) := (congrFun pm_W_law 1718).trans rfl
theorem rl_W_law_1719 : (am_pg z_W_law).2 1719 = some (.iload_n 3, 1720, 3, 0, 0, 0, 0, []) := (congrFun pm_W_law 1719).trans rfl
theorem rl_W_law_1720 : (am_pg z_W_law).2 1720 = some (.iconst (1), 1721, 0, 0, 0, 0, 1, []) := (congrFun pm_W_law 1720).trans rfl
theorem rl_W_law_1721 : (am_pg z_W_law).2 1721 = some (.iadd, 1722, 0, 0, 0, 0, 0, []) := (congrFun pm_W_law 1721).trans rfl
theorem rl_W_law_1722 : (am_pg z_W_law).2 1722 = some (.iaload, 1723, 0, 0, 0, 0, 0, []) := (congrFun pm_W_law 1722).trans rfl
theorem rl_W_law_1723 : (am_pg z_W_law).2 1723 = some (.aload_n 0, 1724, 0, 0, 0, 0, 0, []) := (congrFun pm_W_law 1723).trans rfl
theorem rl_W_law_1724 : (am_pg z_W_law).2 1724 = some (.iload_n 3, 1725, 3, 0, 0, 0, 0, []) := (congrFun pm_W_law 1724).trans rfl
theorem rl_W_law_1725 : (am_pg z_W_law).2 1725 = some (.iconst (2), 1726, 0, 0, 0, 0, 2, []) := (congrFun pm_W_law 1725).trans rfl
theorem rl_W_law_1726 : (am_pg z_W_law).2 1726 = some (.iadd, 1727, 0, 0, 0, 0, 0, []) := (congrFun pm_W_law 1726).trans rfl
theorem rl_W_law_1727 : (am_pg z_W_law).2 1727 = some (.iaload, 1728, 0, 0, 0, 0, 0, []) := (congrFun pm_W_law 1727).trans rfl
theorem rl_W_law_1728 : (am_pg z_W_law).2 1728 = some (.invokevirtual 171, 1731, 38, 2, 8, 138, 0, []) := (congrFun pm_W_law 1728).trans rfl
theorem rl_W_law_1731 : (am_pg z_W_law).2 1731 = some (.aload_n 2, 1732, 2, 0, 0, 0, 0, []) := (congrFun pm_W_law 1731).trans rfl
theorem rl_W_law_1732 : (am_pg z_W_law).2 1732 = some (.aload_n 0, 1733, 0, 0, 0, 0, 0, []) := (congrFun pm_W_law 1732).trans rfl
theorem rl_W_law_1733 : (am_pg z_W_law).2 1733 = some (.iload_n 3, 1734, 3, 0, 0, 0, 0, []) := (congrFun pm_W_law 1733).trans rfl
theorem rl_W_law_1734 : (am_pg z_W_law).2 1734 = some (.iconst (1), 1735, 0, 0, 0, 0, 1, []) := (congrFun pm_W_law 1734).trans rfl
theorem rl_W_law_1735 : (am_pg z_W_law).2 1735 = some (.iadd, 1736, 0, 0, 0, 0, 0, []) := (congrFun pm_W_law 1735).trans rfl
theorem rl_W_law_1736 : (am_pg z_W_law).2 1736 = some (.iaload, 1737, 0, 0, 0, 0, 0, []) := (congrFun pm_W_law 1736).trans rfl
theorem rl_W_law_1737 : (am_pg z_W_law).2 1737 = some (.aload_n 0, 1738, 0, 0, 0, 0, 0, []) := (congrFun pm_W_law 1737).trans rfl
theorem rl_W_law_1738 : (am_pg z_W_law).2 1738 = some (.iload_n 3, 1739, 3, 0, 0, 0, 0, []) := (congrFun pm_W_law 1738).trans rfl
theorem rl_W_law_1739 : (am_pg z_W_law).2 1739 = some (.iconst (2), 1740, 0, 0, 0, 0, 2, []) := (congrFun pm_W_law 1739).trans rfl
theorem rl_W_law_1740 : (am_pg z_W_law).2 1740 = some (.iadd, 1741, 0, 0, 0, 0, 0, []) := (congrFun pm_W_law 1740).trans rfl
theorem rl_W_law_1741 : (am_pg z_W_law).2 1741 = some (.iaload, 1742, 0, 0, 0, 0, 0, []) := (congrFun pm_W_law 1741).trans rfl
theorem rl_W_law_1742 : (am_pg z_W_law).2 1742 = some (.invokevirtual 174, 1745, 163, 2, 9, 280, 0, []) := (congrFun pm_W_law 1742).trans rfl
theorem rl_W_law_1745 : (am_pg z_W_law).2 1745 = some (.if_icmp .eq (728), 1748, 2473, 0, 0, 0, 0, []) := (congrFun pm_W_law 1745).trans rfl
theorem rl_W_law_1748 : (am_pg z_W_law).2 1748 = some (.iconst (0), 1749, 0, 0, 0, 0, 0, []) := (congrFun pm_W_law 1748).trans rfl
theorem rl_W_law_1749 : (am_pg z_W_law).2 1749 = some (.ireturn, 1750, 0, 0, 1, 0, 0, []) := (congrFun pm_W_law 1749).trans rfl
theorem rl_W_law_1750 : (am_pg z_W_law).2 1750 = some (.aload_n 1, 1751, 1, 0, 0, 0, 0, []) := (congrFun pm_W_law 1750).trans rfl
theorem rl_W_law_1751 : (am_pg z_W_law).2 1751 = some (.aload_n 0, 1752, 0, 0, 0, 0, 0, []) := (congrFun pm_W_law 1751).trans rfl
theorem rl_W_law_1752 : (am_pg z_W_law).2 1752 = some (.iload_n 3, 1753, 3, 0, 0, 0, 0, []) := (congrFun pm_W_law 1752).trans rfl
theorem rl_W_law_1753 : (am_pg z_W_law).2 1753 = some (.iconst (1), 1754, 0, 0, 0, 0, 1, []) := (congrFun pm_W_law 1753).trans rfl
theorem rl_W_law_1754 : (am_pg z_W_law).2 1754 = some (.iadd, 1755, 0, 0, 0, 0, 0, []) := (congrFun pm_W_law 1754).trans rfl
theorem rl_W_law_1755 : (am_pg z_W_law).2 1755 = some (.iaload, 1756, 0, 0, 0, 0, 0, []) := (congrFun pm_W_law 1755).trans rfl
theorem rl_W_law_1756 : (am_pg z_W_law).2 1756 = some (.aload_n 0, 1757, 0, 0, 0, 0, 0, []) := (congrFun pm_W_law 1756).trans rfl
theorem rl_W_law_1757 : (am_pg z_W_law).2 1757 = some (.iload_n 3, 1758, 3, 0, 0, 0, 0, []) := (congrFun pm_W_law 1757).trans rfl
theorem rl_W_law_1758 : (am_pg z_W_law).2 1758 = some (.iconst (2), 1759, 0, 0, 0, 0, 2, []) := (congrFun pm_W_law 1758).trans rfl
theorem rl_W_law_1759 : (am_pg z_W_law).2 1759 = some (.iadd, 1760, 0, 0, 0, 0, 0, []) := (congrFun pm_W_law 1759).trans rfl
theorem rl_W_law_1760 : (am_pg z_W_law).2 1760 = some (.iaload, 1761, 0, 0, 0, 0, 0, []) := (congrFun pm_W_law 1760).trans rfl
theorem rl_W_law_1761 : (am_pg z_W_law).2 1761 = some (.aload_n 0, 1762, 0, 0, 0, 0, 0, []) := (congrFun pm_W_law 1761).trans rfl
theorem rl_W_law_1762 : (am_pg z_W_law).2 1762 = some (.iload_n 3, 1763, 3, 0, 0, 0, 0, []) := (congrFun pm_W_law 1762).trans rfl
theorem rl_W_law_1763 : (am_pg z_W_law).2 1763 = some (.iconst (3), 1764, 0, 0, 0, 0, 3, []) := (congrFun pm_W_law 1763).trans rfl
theorem rl_W_law_1764 : (am_pg z_W_law).2 1764 = some (.iadd, 1765, 0, 0, 0, 0, 0, []) := (congrFun pm_W_law 1764).trans rfl
theorem rl_W_law_1765 : (am_pg z_W_law).2 1765 = some (.iaload, 1766, 0, 0, 0, 0, 0, []) := (congrFun pm_W_law 1765).trans rfl
theorem rl_W_law_1766 : (am_pg z_W_law).2 1766 = some (.invokevirtual 175, 1769, 39, 3, 8, 140, 0, []) := (congrFun pm_W_law 1766).trans rfl
theorem rl_W_law_1769 : (am_pg z_W_law).2 1769 = some (.aload_n 2, 1770, 2, 0, 0, 0, 0, []) := (congrFun pm_W_law 1769).trans rfl
theorem rl_W_law_1770 : (am_pg z_W_law).2 1770 = some (.aload_n 0, 1771, 0, 0, 0, 0, 0, []) := (congrFun pm_W_law 1770).trans rfl
theorem rl_W_law_1771 : (am_pg z_W_law).2 1771 = some (.iload_n 3, 1772, 3, 0, 0, 0, 0, []) := (congrFun pm_W_law 1771).trans rfl
theorem rl_W_law_1772 : (am_pg z_W_law).2 1772 = some (.iconst (1), 1773, 0, 0, 0, 0, 1, []) := (congrFun pm_W_law 1772).trans rfl
theorem rl_W_law_1773 : (am_pg z_W_law).2 1773 = some (.iadd, 1774, 0, 0, 0, 0, 0, []) := (congrFun pm_W_law 1773).trans rfl
theorem rl_W_law_1774 : (am_pg z_W_law).2 1774 = some (.iaload, 1775, 0, 0, 0, 0, 0, []) := (congrFun pm_W_law 1774).trans rfl
theorem rl_W_law_1775 : (am_pg z_W_law).2 1775 = some (.aload_n 0, 1776, 0, 0, 0, 0, 0, []) := (congrFun pm_W_law 1775).trans rfl
theorem rl_W_law_1776 : (am_pg z_W_law).2 1776 = some (.iload_n 3, 1777, 3, 0, 0, 0, 0, []) := (congrFun pm_W_law 1776).trans rfl
theorem rl_W_law_1777 : (am_pg z_W_law).2 1777 = some (.iconst (2), 1778, 0, 0, 0, 0, 2, []) := (congrFun pm_W_law 1777).trans rfl
theorem rl_W_law_1778 : (am_pg z_W_law).2 1778 = some (.iadd, 1779, 0, 0, 0, 0, 0, []) := (congrFun pm_W_law 1778).trans rfl
theorem rl_W_law_1779 : (am_pg z_W_law).2 1779 = some (.iaload, 1780, 0, 0, 0, 0, 0, []) := (congrFun pm_W_law 1779).trans rfl
theorem rl_W_law_1780 : (am_pg z_W_law).2 1780 = some (.aload_n 0, 1781, 0, 0, 0, 0, 0, []) := (congrFun pm_W_law 1780).trans rfl
theorem rl_W_law_1781 : (am_pg z_W_law).2 1781 = some (.iload_n 3, 1782, 3, 0, 0, 0, 0, []) := (congrFun pm_W_law 1781).trans rfl
theorem rl_W_law_1782 : (am_pg z_W_law).2 1782 = some (.iconst (3), 1783, 0, 0, 0, 0, 3, []) := (congrFun pm_W_law 1782).trans rfl
theorem rl_W_law_1783 : (am_pg z_W_law).2 1783 = some (.iadd, 1784, 0, 0, 0, 0, 0, []) := (congrFun pm_W_law 1783).trans rfl
theorem rl_W_law_1784 : (am_pg z_W_law).2 1784 = some (.iaload, 1785, 0, 0, 0, 0, 0, []) := (congrFun pm_W_law 1784).trans rfl
theorem rl_W_law_1785 : (am_pg z_W_law).2 1785 = some (.invokevirtual 178, 1788, 167, 3, 9, 281, 0, []) := (congrFun pm_W_law 1785).trans rfl
theorem rl_W_law_1788 : (am_pg z_W_law).2 1788 = some (.if_icmp .eq (685), 1791, 2473, 0, 0, 0, 0, []) := (congrFun pm_W_law 1788).trans rfl
theorem rl_W_law_1791 : (am_pg z_W_law).2 1791 = some (.iconst (0), 1792, 0, 0, 0, 0, 0, []) := (congrFun pm_W_law 1791).trans rfl
theorem rl_W_law_1792 : (am_pg z_W_law).2 1792 = some (.ireturn, 1793, 0, 0, 1, 0, 0, []) := (congrFun pm_W_law 1792).trans rfl
theorem rl_W_law_1793 : (am_pg z_W_law).2 1793 = some (.aload_n 1, 1794, 1, 0, 0, 0, 0, []) := (congrFun pm_W_law 1793).trans rfl
theorem rl_W_law_1794 : (am_pg z_W_law).2 1794 = some (.aload_n 0, 1795, 0, 0, 0, 0, 0, []) := (congrFun pm_W_law 1794).trans rfl
theorem rl_W_law_1795 : (am_pg z_W_law).2 1795 = some (.iload_n 3, 1796, 3, 0, 0, 0, 0, []) := (congrFun pm_W_law 1795).trans rfl
theorem rl_W_law_1796 : (am_pg z_W_law).2 1796 = some (.iconst (1), 1797, 0, 0, 0, 0, 1, []) := (congrFun pm_W_law 1796).trans rfl
theorem rl_W_law_1797 : (am_pg z_W_law).2 1797 = some (.iadd, 1798, 0, 0, 0, 0, 0, []) := (congrFun pm_W_law 1797).trans rfl
theorem rl_W_law_1798 : (am_pg z_W_law).2 1798 = some (.iaload, 1799, 0, 0, 0, 0, 0, []) := (congrFun pm_W_law 1798).trans rfl
theorem rl_W_law_1799 : (am_pg z_W_law).2 1799 = some (.aload_n 0, 1800, 0, 0, 0, 0, 0, []) := (congrFun pm_W_law 1799).trans rfl
theorem rl_W_law_1800 : (am_pg z_W_law).2 1800 = some (.iload_n 3, 1801, 3, 0, 0, 0, 0, []) := (congrFun pm_W_law 1800).trans rfl
theorem rl_W_law_1801 : (am_pg z_W_law).2 1801 = some (.iconst (2), 1802, 0, 0, 0, 0, 2, []) := (congrFun pm_W_law 1801).trans rfl
theorem rl_W_law_1802 : (am_pg z_W_law).2 1802 = some (.iadd, 1803, 0, 0, 0, 0, 0, []) := (congrFun pm_W_law 1802).trans rfl
theorem rl_W_law_1803 : (am_pg z_W_law).2 1803 = some (.iaload, 1804, 0, 0, 0, 0, 0, []) := (congrFun pm_W_law 1803).trans rfl
theorem rl_W_law_1804 : (am_pg z_W_law).2 1804 = some (.aload_n 0, 1805, 0, 0, 0, 0, 0, []) := (congrFun pm_W_law 1804).trans rfl
theorem rl_W_law_1805 : (am_pg z_W_law).2 1805 = some (.iload_n 3, 1806, 3, 0, 0, 0, 0, []) := (congrFun pm_W_law 1805).trans rfl
theorem rl_W_law_1806 : (am_pg z_W_law).2 1806 = some (.iconst (3), 1807, 0, 0, 0, 0, 3, []) := (congrFun pm_W_law 1806).trans rfl
theorem rl_W_law_1807 : (am_pg z_W_law).2 1807 = some (.iadd, 1808, 0, 0, 0, 0, 0, []) := (congrFun pm_W_law 1807).trans rfl
theorem rl_W_law_1808 : (am_pg z_W_law).2 1808 = some (.iaload, 1809, 0, 0, 0, 0, 0, []) := (congrFun pm_W_law 1808).trans rfl
theorem rl_W_law_1809 : (am_pg z_W_law).2 1809 = some (.invokevirtual 179, 1812, 40, 3, 8, 142, 0, []) := (congrFun pm_W_law 1809).trans rfl
theorem rl_W_law_1812 : (am_pg z_W_law).2 1812 = some (.aload_n 2, 1813, 2, 0, 0, 0, 0, []) := (congrFun pm_W_law 1812).trans rfl
theorem rl_W_law_1813 : (am_pg z_W_law).2 1813 = some (.aload_n 0, 1814, 0, 0, 0, 0, 0, []) := (congrFun pm_W_law 1813).trans rfl
theorem rl_W_law_1814 : (am_pg z_W_law).2 1814 = some (.iload_n 3, 1815, 3, 0, 0, 0, 0, []) := (congrFun pm_W_law 1814).trans rfl
theorem rl_W_law_1815 : (am_pg z_W_law).2 1815 = some (.iconst (1), 1816, 0, 0, 0, 0, 1, []) := (congrFun pm_W_law 1815).trans rfl
theorem rl_W_law_1816 : (am_pg z_W_law).2 1816 = some (.iadd, 1817, 0, 0, 0, 0, 0, []) := (congrFun pm_W_law 1816).trans rfl
theorem rl_W_law_1817 : (am_pg z_W_law).2 1817 = some (.iaload, 1818, 0, 0, 0, 0, 0, []) := (congrFun pm_W_law 1817).trans rfl
theorem rl_W_law_1818 : (am_pg z_W_law).2 1818 = some (.aload_n 0, 1819, 0, 0, 0, 0, 0, []) := (congrFun pm_W_law 1818).trans rfl
theorem rl_W_law_1819 : (am_pg z_W_law).2 1819 = some (.iload_n 3, 1820, 3, 0, 0, 0, 0, []) := (congrFun pm_W_law 1819).trans rfl
theorem rl_W_law_1820 : (am_pg z_W_law).2 1820 = some (.iconst (2), 1821, 0, 0, 0, 0, 2, []) := (congrFun pm_W_law 1820).trans rfl
theorem rl_W_law_1821 : (am_pg z_W_law).2 1821 = some (.iadd, 1822, 0, 0, 0, 0, 0, []) := (congrFun pm_W_law 1821).trans rfl
theorem rl_W_law_1822 : (am_pg z_W_law).2 1822 = some (.iaload, 1823, 0, 0, 0, 0, 0, []) := (congrFun pm_W_law 1822).trans rfl
theorem rl_W_law_1823 : (am_pg z_W_law).2 1823 = some (.aload_n 0, 1824, 0, 0, 0, 0, 0, []) := (congrFun pm_W_law 1823).trans rfl
theorem rl_W_law_1824 : (am_pg z_W_law).2 1824 = some (.iload_n 3, 1825, 3, 0, 0, 0, 0, []) := (congrFun pm_W_law 1824).trans rfl
theorem rl_W_law_1825 : (am_pg z_W_law).2 1825 = some (.iconst (3), 1826, 0, 0, 0, 0, 3, []) := (congrFun pm_W_law 1825).trans rfl
theorem rl_W_law_1826 : (am_pg z_W_law).2 1826 = some (.iadd, 1827, 0, 0, 0, 0, 0, []) := (congrFun pm_W_law 1826).trans rfl
theorem rl_W_law_1827 : (am_pg z_W_law).2 1827 = some (.iaload, 1828, 0, 0, 0, 0, 0, []) := (congrFun pm_W_law 1827).trans rfl
theorem rl_W_law_1828 : (am_pg z_W_law).2 1828 = some (.invokevirtual 182, 1831, 168, 3, 9, 285, 0, []) := (congrFun pm_W_law 1828).trans rfl
theorem rl_W_law_1831 : (am_pg z_W_law).2 1831 = some (.if_icmp .eq (642), 1834, 2473, 0, 0, 0, 0, []) := (congrFun pm_W_law 1831).trans rfl
theorem rl_W_law_1834 : (am_pg z_W_law).2 1834 = some (.iconst (0), 1835, 0, 0, 0, 0, 0, []) := (congrFun pm_W_law 1834).trans rfl
theorem rl_W_law_1835 : (am_pg z_W_law).2 1835 = some (.ireturn, 1836, 0, 0, 1, 0, 0, []) := (congrFun pm_W_law 1835).trans rfl
theorem rl_W_law_1836 : (am_pg z_W_law).2 1836 = some (.aload_n 1, 1837, 1, 0, 0, 0, 0, []) := (congrFun pm_W_law 1836).trans rfl
theorem rl_W_law_1837 : (am_pg z_W_law).2 1837 = some (.aload_n 0, 1838, 0, 0, 0, 0, 0, []) := (congrFun pm_W_law 1837).trans rfl
theorem rl_W_law_1838 : (am_pg z_W_law).2 1838 = some (.iload_n 3, 1839, 3, 0, 0, 0, 0, []) := (congrFun pm_W_law 1838).trans rfl
theorem rl_W_law_1839 : (am_pg z_W_law).2 1839 = some (.iconst (1), 1840, 0, 0, 0, 0, 1, []) := (congrFun pm_W_law 1839).trans rfl
theorem rl_W_law_1840 : (am_pg z_W_law).2 1840 = some (.iadd, 1841, 0, 0, 0, 0, 0, []) := (congrFun pm_W_law 1840).trans rfl
theorem rl_W_law_1841 : (am_pg z_W_law).2 1841 = some (.iaload, 1842, 0, 0, 0, 0, 0, []) := (congrFun pm_W_law 1841).trans rfl
theorem rl_W_law_1842 : (am_pg z_W_law).2 1842 = some (.invokevirtual 183, 1845, 41, 1, 8, 144, 0, []) := (congrFun pm_W_law 1842).trans rfl
theorem rl_W_law_1845 : (am_pg z_W_law).2 1845 = some (.aload_n 2, 1846, 2, 0, 0, 0, 0, []) := (congrFun pm_W_law 1845).trans rfl
theorem rl_W_law_1846 : (am_pg z_W_law).2 1846 = some (.aload_n 0, 1847, 0, 0, 0, 0, 0, []) := (congrFun pm_W_law 1846).trans rfl
theorem rl_W_law_1847 : (am_pg z_W_law).2 1847 = some (.iload_n 3, 1848, 3, 0, 0, 0, 0, []) := (congrFun pm_W_law 1847).trans rfl
theorem rl_W_law_1848 : (am_pg z_W_law).2 1848 = some (.iconst (1), 1849, 0, 0, 0, 0, 1, []) := (congrFun pm_W_law 1848).trans rfl
theorem rl_W_law_1849 : (am_pg z_W_law).2 1849 = some (.iadd, 1850, 0, 0, 0, 0, 0, []) := (congrFun pm_W_law 1849).trans rfl
theorem rl_W_law_1850 : (am_pg z_W_law).2 1850 = some (.iaload, 1851, 0, 0, 0, 0, 0, []) := (congrFun pm_W_law 1850).trans rfl
theorem rl_W_law_1851 : (am_pg z_W_law).2 1851 = some (.invokevirtual 186, 1854, 170, 1, 9, 286, 0, []) := (congrFun pm_W_law 1851).trans rfl
theorem rl_W_law_1854 : (am_pg z_W_law).2 1854 = some (.if_icmp .eq (619), 1857, 2473, 0, 0, 0, 0, []) := (congrFun pm_W_law 1854).trans rfl
theorem rl_W_law_1857 : (am_pg z_W_law).2 1857 = some (.iconst (0), 1858, 0, 0, 0, 0, 0, []) := (congrFun pm_W_law 1857).trans rfl
theorem rl_W_law_1858 : (am_pg z_W_law).2 1858 = some (.ireturn, 1859, 0, 0, 1, 0, 0, []) := (congrFun pm_W_law 1858).trans rfl
theorem rl_W_law_1859 : (am_pg z_W_law).2 1859 = some (.aload_n 1, 1860, 1, 0, 0, 0, 0, []) := (congrFun pm_W_law 1859).trans rfl
theorem rl_W_law_1860 : (am_pg z_W_law).2 1860 = some (.aload_n 0, 1861, 0, 0, 0, 0, 0, []) := (congrFun pm_W_law 1860).trans rfl
theorem rl_W_law_1861 : (am_pg z_W_law).2 1861 = some (.iload_n 3, 1862, 3, 0, 0, 0, 0, []) := (congrFun pm_W_law 1861).trans rfl
theorem rl_W_law_1862 : (am_pg z_W_law).2 1862 = some (.iconst (1), 1863, 0, 0, 0, 0, 1, []) := (congrFun pm_W_law 1862).trans rfl
theorem rl_W_law_1863 : (am_pg z_W_law).2 1863 = some (.iadd, 1864, 0, 0, 0, 0, 0, []) := (congrFun pm_W_law 1863).trans rfl
theorem rl_W_law_1864 : (am_pg z_W_law).2 1864 = some (.iaload, 1865, 0, 0, 0, 0, 0, []) := (congrFun pm_W_law 1864).trans rfl
theorem rl_W_law_1865 : (am_pg z_W_law).2 1865 = some (.aload_n 0, 1866, 0, 0, 0, 0, 0, []) := (congrFun pm_W_law 1865).trans rfl
theorem rl_W_law_1866 : (am_pg z_W_law).2 1866 = some (.iload_n 3, 1867, 3, 0, 0, 0, 0, []) := (congrFun pm_W_law 1866).trans rfl
theorem rl_W_law_1867 : (am_pg z_W_law).2 1867 = some (.iconst (2), 1868, 0, 0, 0, 0, 2, []) := (congrFun pm_W_law 1867).trans rfl
theorem rl_W_law_1868 : (am_pg z_W_law).2 1868 = some (.iadd, 1869, 0, 0, 0, 0, 0, []) := (congrFun pm_W_law 1868).trans rfl
theorem rl_W_law_1869 : (am_pg z_W_law).2 1869 = some (.iaload, 1870, 0, 0, 0, 0, 0, []) := (congrFun pm_W_law 1869).trans rfl
theorem rl_W_law_1870 : (am_pg z_W_law).2 1870 = some (.invokevirtual 187, 1873, 42, 2, 8, 149, 0, []) := (congrFun pm_W_law 1870).trans rfl
theorem rl_W_law_1873 : (am_pg z_W_law).2 1873 = some (.aload_n 2, 1874, 2, 0, 0, 0, 0, []) := (congrFun pm_W_law 1873).trans rfl
theorem rl_W_law_1874 : (am_pg z_W_law).2 1874 = some (.aload_n 0, 1875, 0, 0, 0, 0, 0, []) := (congrFun pm_W_law 1874).trans rfl
theorem rl_W_law_1875 : (am_pg z_W_law).2 1875 = some (.iload_n 3, 1876, 3, 0, 0, 0, 0, []) := (congrFun pm_W_law 1875).trans rfl
theorem rl_W_law_1876 : (am_pg z_W_law).2 1876 = some (.iconst (1), 1877, 0, 0, 0, 0, 1, []) := (congrFun pm_W_law 1876).trans rfl
theorem rl_W_law_1877 : (am_pg z_W_law).2 1877 = some (.iadd, 1878, 0, 0, 0, 0, 0, []) := (congrFun pm_W_law 1877).trans rfl
theorem rl_W_law_1878 : (am_pg z_W_law).2 1878 = some (.iaload, 1879, 0, 0, 0, 0, 0, []) := (congrFun pm_W_law 1878).trans rfl
theorem rl_W_law_1879 : (am_pg z_W_law).2 1879 = some (.aload_n 0, 1880, 0, 0, 0, 0, 0, []) := (congrFun pm_W_law 1879).trans rfl
theorem rl_W_law_1880 : (am_pg z_W_law).2 1880 = some (.iload_n 3, 1881, 3, 0, 0, 0, 0, []) := (congrFun pm_W_law 1880).trans rfl
theorem rl_W_law_1881 : (am_pg z_W_law).2 1881 = some (.iconst (2), 1882, 0, 0, 0, 0, 2, []) := (congrFun pm_W_law 1881).trans rfl
theorem rl_W_law_1882 : (am_pg z_W_law).2 1882 = some (.iadd, 1883, 0, 0, 0, 0, 0, []) := (congrFun pm_W_law 1882).trans rfl
theorem rl_W_law_1883 : (am_pg z_W_law).2 1883 = some (.iaload, 1884, 0, 0, 0, 0, 0, []) := (congrFun pm_W_law 1883).trans rfl
theorem rl_W_law_1884 : (am_pg z_W_law).2 1884 = some (.invokevirtual 190, 1887, 171, 2, 9, 288, 0, []) := (congrFun pm_W_law 1884).trans rfl
theorem rl_W_law_1887 : (am_pg z_W_law).2 1887 = some (.if_icmp .eq (586), 1890, 2473, 0, 0, 0, 0, []) := (congrFun pm_W_law 1887).trans rfl
theorem rl_W_law_1890 : (am_pg z_W_law).2 1890 = some (.iconst (0), 1891, 0, 0, 0, 0, 0, []) := (congrFun pm_W_law 1890).trans rfl
theorem rl_W_law_1891 : (am_pg z_W_law).2 1891 = some (.ireturn, 1892, 0, 0, 1, 0, 0, []) := (congrFun pm_W_law 1891).trans rfl
theorem rl_W_law_1892 : (am_pg z_W_law).2 1892 = some (.aload_n 1, 1893, 1, 0, 0, 0, 0, []) := (congrFun pm_W_law 1892).trans rfl
theorem rl_W_law_1893 : (am_pg z_W_law).2 1893 = some (.aload_n 0, 1894, 0, 0, 0, 0, 0, []) := (congrFun pm_W_law 1893).trans rfl
theorem rl_W_law_1894 : (am_pg z_W_law).2 1894 = some (.iload_n 3, 1895, 3, 0, 0, 0, 0, []) := (congrFun pm_W_law 1894).trans rfl
theorem rl_W_law_1895 : (am_pg z_W_law).2 1895 = some (.iconst (1), 1896, 0, 0, 0, 0, 1, []) := (congrFun pm_W_law 1895).trans rfl
theorem rl_W_law_1896 : (am_pg z_W_law).2 1896 = some (.iadd, 1897, 0, 0, 0, 0, 0, []) := (congrFun pm_W_law 1896).trans rfl
theorem rl_W_law_1897 : (am_pg z_W_law).2 1897 = some (.iaload, 1898, 0, 0, 0, 0, 0, []) := (congrFun pm_W_law 1897).trans rfl
theorem rl_W_law_1898 : (am_pg z_W_law).2 1898 = some (.aload_n 0, 1899, 0, 0, 0, 0, 0, []) := (congrFun pm_W_law 1898).trans rfl
theorem rl_W_law_1899 : (am_pg z_W_law).2 1899 = some (.iload_n 3, 1900, 3, 0, 0, 0, 0, []) := (congrFun pm_W_law 1899).trans rfl
theorem rl_W_law_1900 : (am_pg z_W_law).2 1900 = some (.iconst (2), 1901, 0, 0, 0, 0, 2, []) := (congrFun pm_W_law 1900).trans rfl
theorem rl_W_law_1901 : (am_pg z_W_law).2 1901 = some (.iadd, 1902, 0, 0, 0, 0, 0, []) := (congrFun pm_W_law 1901).trans rfl
theorem rl_W_law_1902 : (am_pg z_W_law).2 1902 = some (.iaload, 1903, 0, 0, 0, 0, 0, []) := (congrFun pm_W_law 1902).trans rfl
theorem rl_W_law_1903 : (am_pg z_W_law).2 1903 = some (.aload_n 0, 1904, 0, 0, 0, 0, 0, []) := (congrFun pm_W_law 1903).trans rfl
theorem rl_W_law_1904 : (am_pg z_W_law).2 1904 = some (.iload_n 3, 1905, 3, 0, 0, 0, 0, []) := (congrFun pm_W_law 1904).trans rfl
theorem rl_W_law_1905 : (am_pg z_W_law).2 1905 = some (.iconst (3), 1906, 0, 0, 0, 0, 3, []) := (congrFun pm_W_law 1905).trans rfl
theorem rl_W_law_1906 : (am_pg z_W_law).2 1906 = some (.iadd, 1907, 0, 0, 0, 0, 0, []) := (congrFun pm_W_law 1906).trans rfl
theorem rl_W_law_1907 : (am_pg z_W_law).2 1907 = some (.iaload, 1908, 0, 0, 0, 0, 0, []) := (congrFun pm_W_law 1907).trans rfl
theorem rl_W_law_1908 : (am_pg z_W_law).2 1908 = some (.invokevirtual 191, 1911, 43, 3, 8, 151, 0, []) := (congrFun pm_W_law 1908).trans rfl
theorem rl_W_law_1911 : (am_pg z_W_law).2 1911 = some (.aload_n 2, 1912, 2, 0, 0, 0, 0, []) := (congrFun pm_W_law 1911).trans rfl
theorem rl_W_law_1912 : (am_pg z_W_law).2 1912 = some (.aload_n 0, 1913, 0, 0, 0, 0, 0, []) := (congrFun pm_W_law 1912).trans rfl
theorem rl_W_law_1913 : (am_pg z_W_law).2 1913 = some (.iload_n 3, 1914, 3, 0, 0, 0, 0, []) := (congrFun pm_W_law 1913).trans rfl
theorem rl_W_law_1914 : (am_pg z_W_law).2 1914 = some (.iconst (1), 1915, 0, 0, 0, 0, 1, []) := (congrFun pm_W_law 1914).trans rfl
theorem rl_W_law_1915 : (am_pg z_W_law).2 1915 = some (.iadd, 1916, 0, 0, 0, 0, 0, []) := (congrFun pm_W_law 1915).trans rfl
theorem rl_W_law_1916 : (am_pg z_W_law).2 1916 = some (.iaload, 1917, 0, 0, 0, 0, 0, []) := (congrFun pm_W_law 1916).trans rfl
theorem rl_W_law_1917 : (am_pg z_W_law).2 1917 = some (.aload_n 0, 1918, 0, 0, 0, 0, 0, []) := (congrFun pm_W_law 1917).trans rfl
theorem rl_W_law_1918 : (am_pg z_W_law).2 1918 = some (.iload_n 3, 1919, 3, 0, 0, 0, 0, []) := (congrFun pm_W_law 1918).trans rfl
theorem rl_W_law_1919 : (am_pg z_W_law).2 1919 = some (.iconst (2), 1920, 0, 0, 0, 0, 2, []) := (congrFun pm_W_law 1919).trans rfl
theorem rl_W_law_1920 : (am_pg z_W_law).2 1920 = some (.iadd, 1921, 0, 0, 0, 0, 0, []) := (congrFun pm_W_law 1920).trans rfl
theorem rl_W_law_1921 : (am_pg z_W_law).2 1921 = some (.iaload, 1922, 0, 0, 0, 0, 0, []) := (congrFun pm_W_law 1921).trans rfl
theorem rl_W_law_1922 : (am_pg z_W_law).2 1922 = some (.aload_n 0, 1923, 0, 0, 0, 0, 0, []) := (congrFun pm_W_law 1922).trans rfl
theorem rl_W_law_1923 : (am_pg z_W_law).2 1923 = some (.iload_n 3, 1924, 3, 0, 0, 0, 0, []) := (congrFun pm_W_law 1923).trans rfl
theorem rl_W_law_1924 : (am_pg z_W_law).2 1924 = some (.iconst (3), 1925, 0, 0, 0, 0, 3, []) := (congrFun pm_W_law 1924).trans rfl
theorem rl_W_law_1925 : (am_pg z_W_law).2 1925 = some (.iadd, 1926, 0, 0, 0, 0, 0, []) := (congrFun pm_W_law 1925).trans rfl
theorem rl_W_law_1926 : (am_pg z_W_law).2 1926 = some (.iaload, 1927, 0, 0, 0, 0, 0, []) := (congrFun pm_W_law 1926).trans rfl
theorem rl_W_law_1927 : (am_pg z_W_law).2 1927 = some (.invokevirtual 194, 1930, 176, 3, 9, 289, 0, []) := (congrFun pm_W_law 1927).trans rfl
theorem rl_W_law_1930 : (am_pg z_W_law).2 1930 = some (.if_icmp .eq (543), 1933, 2473, 0, 0, 0, 0, []) := (congrFun pm_W_law 1930).trans rfl
theorem rl_W_law_1933 : (am_pg z_W_law).2 1933 = some (.iconst (0), 1934, 0, 0, 0, 0, 0, []) := (congrFun pm_W_law 1933).trans rfl
theorem rl_W_law_1934 : (am_pg z_W_law).2 1934 = some (.ireturn, 1935, 0, 0, 1, 0, 0, []) := (congrFun pm_W_law 1934).trans rfl
theorem rl_W_law_1935 : (am_pg z_W_law).2 1935 = some (.aload_n 1, 1936, 1, 0, 0, 0, 0, []) := (congrFun pm_W_law 1935).trans rfl
theorem rl_W_law_1936 : (am_pg z_W_law).2 1936 = some (.aload_n 0, 1937, 0, 0, 0, 0, 0, []) := (congrFun pm_W_law 1936).trans rfl
theorem rl_W_law_1937 : (am_pg z_W_law).2 1937 = some (.iload_n 3, 1938, 3, 0, 0, 0, 0, []) := (congrFun pm_W_law 1937).trans rfl
theorem rl_W_law_1938 : (am_pg z_W_law).2 1938 = some (.iconst (1), 1939, 0, 0, 0, 0, 1, []) := (congrFun pm_W_law 1938).trans rfl
theorem rl_W_law_1939 : (am_pg z_W_law).2 1939 = some (.iadd, 1940, 0, 0, 0, 0, 0, []) := (congrFun pm_W_law 1939).trans rfl
theorem rl_W_law_1940 : (am_pg z_W_law).2 1940 = some (.iaload, 1941, 0, 0, 0, 0, 0, []) := (congrFun pm_W_law 1940).trans rfl
theorem rl_W_law_1941 : (am_pg z_W_law).2 1941 = some (.invokevirtual 195, 1944, 44, 1, 8, 160, 0, []) := (congrFun pm_W_law 1941).trans rfl
theorem rl_W_law_1944 : (am_pg z_W_law).2 1944 = some (.aload_n 2, 1945, 2, 0, 0, 0, 0, []) := (congrFun pm_W_law 1944).trans rfl
theorem rl_W_law_1945 : (am_pg z_W_law).2 1945 = some (.aload_n 0, 1946, 0, 0, 0, 0, 0, []) := (congrFun pm_W_law 1945).trans rfl
theorem rl_W_law_1946 : (am_pg z_W_law).2 1946 = some (.iload_n 3, 1947, 3, 0, 0, 0, 0, []) := (congrFun pm_W_law 1946).trans rfl
theorem rl_W_law_1947 : (am_pg z_W_law).2 1947 = some (.iconst (1), 1948, 0, 0, 0, 0, 1, []) := (congrFun pm_W_law 1947).trans rfl
theorem rl_W_law_1948 : (am_pg z_W_law).2 1948 = some (.iadd, 1949, 0, 0, 0, 0, 0, []) := (congrFun pm_W_law 1948).trans rfl
theorem rl_W_law_1949 : (am_pg z_W_law).2 1949 = some (.iaload, 1950, 0, 0, 0, 0, 0, []) := (congrFun pm_W_law 1949).trans rfl
theorem rl_W_law_1950 : (am_pg z_W_law).2 1950 = some (.invokevirtual 198, 1953, 178, 1, 9, 294, 0, []) := (congrFun pm_W_law 1950).trans rfl
theorem rl_W_law_1953 : (am_pg z_W_law).2 1953 = some (.if_icmp .eq (520), 1956, 2473, 0, 0, 0, 0, []) := (congrFun pm_W_law 1953).trans rfl
theorem rl_W_law_1956 : (am_pg z_W_law).2 1956 = some (.iconst (0), 1957, 0, 0, 0, 0, 0, []) := (congrFun pm_W_law 1956).trans rfl
theorem rl_W_law_1957 : (am_pg z_W_law).2 1957 = some (.ireturn, 1958, 0, 0, 1, 0, 0, []) := (congrFun pm_W_law 1957).trans rfl
theorem rl_W_law_1958 : (am_pg z_W_law).2 1958 = some (.aload_n 1, 1959, 1, 0, 0, 0, 0, []) := (congrFun pm_W_law 1958).trans rfl
theorem rl_W_law_1959 : (am_pg z_W_law).2 1959 = some (.aload_n 0, 1960, 0, 0, 0, 0, 0, []) := (congrFun pm_W_law 1959).trans rfl
theorem rl_W_law_1960 : (am_pg z_W_law).2 1960 = some (.iload_n 3, 1961, 3, 0, 0, 0, 0, []) := (congrFun pm_W_law 1960).trans rfl
theorem rl_W_law_1961 : (am_pg z_W_law).2 1961 = some (.iconst (1), 1962, 0, 0, 0, 0, 1, []) := (congrFun pm_W_law 1961).trans rfl
theorem rl_W_law_1962 : (am_pg z_W_law).2 1962 = some (.iadd, 1963, 0, 0, 0, 0, 0, []) := (congrFun pm_W_law 1962).trans rfl
theorem rl_W_law_1963 : (am_pg z_W_law).2 1963 = some (.iaload, 1964, 0, 0, 0, 0, 0, []) := (congrFun pm_W_law 1963).trans rfl
theorem rl_W_law_1964 : (am_pg z_W_law).2 1964 = some (.aload_n 0, 1965, 0, 0, 0, 0, 0, []) := (congrFun pm_W_law 1964).trans rfl
theorem rl_W_law_1965 : (am_pg z_W_law).2 1965 = some (.iload_n 3, 1966, 3, 0, 0, 0, 0, []) := (congrFun pm_W_law 1965).trans rfl
theorem rl_W_law_1966 : (am_pg z_W_law).2 1966 = some (.iconst (2), 1967, 0, 0, 0, 0, 2, []) := (congrFun pm_W_law 1966).trans rfl
theorem rl_W_law_1967 : (am_pg z_W_law).2 1967 = some (.iadd, 1968, 0, 0, 0, 0, 0, []) := (congrFun pm_W_law 1967).trans rfl
theorem rl_W_law_1968 : (am_pg z_W_law).2 1968 = some (.iaload, 1969, 0, 0, 0, 0, 0, []) := (congrFun pm_W_law 1968).trans rfl
theorem rl_W_law_1969 : (am_pg z_W_law).2 1969 = some (.aload_n 0, 1970, 0, 0, 0, 0, 0, []) := (congrFun pm_W_law 1969).trans rfl
theorem rl_W_law_1970 : (am_pg z_W_law).2 1970 = some (.iload_n 3, 1971, 3, 0, 0, 0, 0, []) := (congrFun pm_W_law 1970).trans rfl
theorem rl_W_law_1971 : (am_pg z_W_law).2 1971 = some (.iconst (3), 1972, 0, 0, 0, 0, 3, []) := (congrFun pm_W_law 1971).trans rfl
theorem rl_W_law_1972 : (am_pg z_W_law).2 1972 = some (.iadd, 1973, 0, 0, 0, 0, 0, []) := (congrFun pm_W_law 1972).trans rfl
theorem rl_W_law_1973 : (am_pg z_W_law).2 1973 = some (.iaload, 1974, 0, 0, 0, 0, 0, []) := (congrFun pm_W_law 1973).trans rfl
theorem rl_W_law_1974 : (am_pg z_W_law).2 1974 = some (.invokevirtual 199, 1977, 45, 3, 8, 167, 0, []) := (congrFun pm_W_law 1974).trans rfl
theorem rl_W_law_1977 : (am_pg z_W_law).2 1977 = some (.aload_n 2, 1978, 2, 0, 0, 0, 0, []) := (congrFun pm_W_law 1977).trans rfl
theorem rl_W_law_1978 : (am_pg z_W_law).2 1978 = some (.aload_n 0, 1979, 0, 0, 0, 0, 0, []) := (congrFun pm_W_law 1978).trans rfl
theorem rl_W_law_1979 : (am_pg z_W_law).2 1979 = some (.iload_n 3, 1980, 3, 0, 0, 0, 0, []) := (congrFun pm_W_law 1979).trans rfl
theorem rl_W_law_1980 : (am_pg z_W_law).2 1980 = some (.iconst (1), 1981, 0, 0, 0, 0, 1, []) := (congrFun pm_W_law 1980).trans rfl
theorem rl_W_law_1981 : (am_pg z_W_law).2 1981 = some (.iadd, 1982, 0, 0, 0, 0, 0, []) := (congrFun pm_W_law 1981).trans rfl
theorem rl_W_law_1982 : (am_pg z_W_law).2 1982 = some (.iaload, 1983, 0, 0, 0, 0, 0, []) := (congrFun pm_W_law 1982).trans rfl
theorem rl_W_law_1983 : (am_pg z_W_law).2 1983 = some (.aload_n 0, 1984, 0, 0, 0, 0, 0, []) := (congrFun pm_W_law 1983).trans rfl
theorem rl_W_law_1984 : (am_pg z_W_law).2 1984 = some (.iload_n 3, 1985, 3, 0, 0, 0, 0, []) := (congrFun pm_W_law 1984).trans rfl
theorem rl_W_law_1985 : (am_pg z_W_law).2 1985 = some (.iconst (2), 1986, 0, 0, 0, 0, 2, []) := (congrFun pm_W_law 1985).trans rfl
theorem rl_W_law_1986 : (am_pg z_W_law).2 1986 = some (.iadd, 1987, 0, 0, 0, 0, 0, []) := (congrFun pm_W_law 1986).trans rfl
theorem rl_W_law_1987 : (am_pg z_W_law).2 1987 = some (.iaload, 1988, 0, 0, 0, 0, 0, []) := (congrFun pm_W_law 1987).trans rfl
theorem rl_W_law_1988 : (am_pg z_W_law).2 1988 = some (.aload_n 0, 1989, 0, 0, 0, 0, 0, []) := (congrFun pm_W_law 1988).trans rfl
theorem rl_W_law_1989 : (am_pg z_W_law).2 1989 = some (.iload_n 3, 1990, 3, 0, 0, 0, 0, []) := (congrFun pm_W_law 1989).trans rfl
theorem rl_W_law_1990 : (am_pg z_W_law).2 1990 = some (.iconst (3), 1991, 0, 0, 0, 0, 3, []) := (congrFun pm_W_law 1990).trans rfl
theorem rl_W_law_1991 : (am_pg z_W_law).2 1991 = some (.iadd, 1992, 0, 0, 0, 0, 0, []) := (congrFun pm_W_law 1991).trans rfl
theorem rl_W_law_1992 : (am_pg z_W_law).2 1992 = some (.iaload, 1993, 0, 0, 0, 0, 0, []) := (congrFun pm_W_law 1992).trans rfl
theorem rl_W_law_1993 : (am_pg z_W_law).2 1993 = some (.invokevirtual 202, 1996, 183, 3, 9, 296, 0, []) := (congrFun pm_W_law 1993).trans rfl
theorem rl_W_law_1996 : (am_pg z_W_law).2 1996 = some (.if_icmp .eq (477), 1999, 2473, 0, 0, 0, 0, []) := (congrFun pm_W_law 1996).trans rfl
theorem rl_W_law_1999 : (am_pg z_W_law).2 1999 = some (.iconst (0), 2000, 0, 0, 0, 0, 0, []) := (congrFun pm_W_law 1999).trans rfl
theorem rl_W_law_2000 : (am_pg z_W_law).2 2000 = some (.ireturn, 2001, 0, 0, 1, 0, 0, []) := (congrFun pm_W_law 2000).trans rfl
theorem rl_W_law_2001 : (am_pg z_W_law).2 2001 = some (.aload_n 1, 2002, 1, 0, 0, 0, 0, []) := (congrFun pm_W_law 2001).trans rfl
theorem rl_W_law_2002 : (am_pg z_W_law).2 2002 = some (.aload_n 0, 2003, 0, 0, 0, 0, 0, []) := (congrFun pm_W_law 2002).trans rfl
theorem rl_W_law_2003 : (am_pg z_W_law).2 2003 = some (.iload_n 3, 2004, 3, 0, 0, 0, 0, []) := (congrFun pm_W_law 2003).trans rfl
theorem rl_W_law_2004 : (am_pg z_W_law).2 2004 = some (.iconst (1), 2005, 0, 0, 0, 0, 1, []) := (congrFun pm_W_law 2004).trans rfl
theorem rl_W_law_2005 : (am_pg z_W_law).2 2005 = some (.iadd, 2006, 0, 0, 0, 0, 0, []) := (congrFun pm_W_law 2005).trans rfl
theorem rl_W_law_2006 : (am_pg z_W_law).2 2006 = some (.iaload, 2007, 0, 0, 0, 0, 0, []) := (congrFun pm_W_law 2006).trans rfl
theorem rl_W_law_2007 : (am_pg z_W_law).2 2007 = some (.aload_n 0, 2008, 0, 0, 0, 0, 0, []) := (congrFun pm_W_law 2007).trans rfl
theorem rl_W_law_2008 : (am_pg z_W_law).2 2008 = some (.iload_n 3, 2009, 3, 0, 0, 0, 0, []) := (congrFun pm_W_law 2008).trans rfl
theorem rl_W_law_2009 : (am_pg z_W_law).2 2009 = some (.iconst (2), 2010, 0, 0, 0, 0, 2, []) := (congrFun pm_W_law 2009).trans rfl
theorem rl_W_law_2010 : (am_pg z_W_law).2 2010 = some (.iadd, 2011, 0, 0, 0, 0, 0, []) := (congrFun pm_W_law 2010).trans rfl
theorem rl_W_law_2011 : (am_pg z_W_law).2 2011 = some (.iaload, 2012, 0, 0, 0, 0, 0, []) := (congrFun pm_W_law 2011).trans rfl
theorem rl_W_law_2012 : (am_pg z_W_law).2 2012 = some (.invokevirtual 203, 2015, 46, 2, 8, 172, 0, []) := (congrFun pm_W_law 2012).trans rfl
theorem rl_W_law_2015 : (am_pg z_W_law).2 2015 = some (.aload_n 2, 2016, 2, 0, 0, 0, 0, []) := (congrFun pm_W_law 2015).trans rfl
theorem rl_W_law_2016 : (am_pg z_W_law).2 2016 = some (.aload_n 0, 2017, 0, 0, 0, 0, 0, []) := (congrFun pm_W_law 2016).trans rfl
theorem rl_W_law_2017 : (am_pg z_W_law).2 2017 = some (.iload_n 3, 2018, 3, 0, 0, 0, 0, []) := (congrFun pm_W_law 2017).trans rfl
theorem rl_W_law_2018 : (am_pg z_W_law).2 2018 = some (.iconst (1), 2019, 0, 0, 0, 0, 1, []) := (congrFun pm_W_law 2018).trans rfl
theorem rl_W_law_2019 : (am_pg z_W_law).2 2019 = some (.iadd, 2020, 0, 0, 0, 0, 0, []) := (congrFun pm_W_law 2019).trans rfl
theorem rl_W_law_2020 : (am_pg z_W_law).2 2020 = some (.iaload, 2021, 0, 0, 0, 0, 0, []) := (congrFun pm_W_law 2020).trans rfl
theorem rl_W_law_2021 : (am_pg z_W_law).2 2021 = some (.aload_n 0, 2022, 0, 0, 0, 0, 0, []) := (congrFun pm_W_law 2021).trans rfl
theorem rl_W_law_2022 : (am_pg z_W_law).2 2022 = some (.iload_n 3, 2023, 3, 0, 0, 0, 0, []) := (congrFun pm_W_law 2022).trans rfl
theorem rl_W_law_2023 : (am_pg z_W_law).2 2023 = some (.iconst (2), 2024, 0, 0, 0, 0, 2, []) := (congrFun pm_W_law 2023).trans rfl
theorem rl_W_law_2024 : (am_pg z_W_law).2 2024 = some (.iadd, 2025, 0, 0, 0, 0, 0, []) := (congrFun pm_W_law 2024).trans rfl
theorem rl_W_law_2025 : (am_pg z_W_law).2 2025 = some (.iaload, 2026, 0, 0, 0, 0, 0, []) := (congrFun pm_W_law 2025).trans rfl
theorem rl_W_law_2026 : (am_pg z_W_law).2 2026 = some (.invokevirtual 206, 2029, 185, 2, 9, 301, 0, []) := (congrFun pm_W_law 2026).trans rfl
theorem rl_W_law_2029 : (am_pg z_W_law).2 2029 = some (.if_icmp .eq (444), 2032, 2473, 0, 0, 0, 0, []) := (congrFun pm_W_law 2029).trans rfl
theorem rl_W_law_2032 : (am_pg z_W_law).2 2032 = some (.iconst (0), 2033, 0, 0, 0, 0, 0, []) := (congrFun pm_W_law 2032).trans rfl
theorem rl_W_law_2033 : (am_pg z_W_law).2 2033 = some (.ireturn, 2034, 0, 0, 1, 0, 0, []) := (congrFun pm_W_law 2033).trans rfl
theorem rl_W_law_2034 : (am_pg z_W_law).2 2034 = some (.aload_n 1, 2035, 1, 0, 0, 0, 0, []) := (congrFun pm_W_law 2034).trans rfl
theorem rl_W_law_2035 : (am_pg z_W_law).2 2035 = some (.aload_n 0, 2036, 0, 0, 0, 0, 0, []) := (congrFun pm_W_law 2035).trans rfl
theorem rl_W_law_2036 : (am_pg z_W_law).2 2036 = some (.iload_n 3, 2037, 3, 0, 0, 0, 0, []) := (congrFun pm_W_law 2036).trans rfl
theorem rl_W_law_2037 : (am_pg z_W_law).2 2037 = some (.iconst (1), 2038, 0, 0, 0, 0, 1, []) := (congrFun pm_W_law 2037).trans rfl
theorem rl_W_law_2038 : (am_pg z_W_law).2 2038 = some (.iadd, 2039, 0, 0, 0, 0, 0, []) := (congrFun pm_W_law 2038).trans rfl
theorem rl_W_law_2039 : (am_pg z_W_law).2 2039 = some (.iaload, 2040, 0, 0, 0, 0, 0, []) := (congrFun pm_W_law 2039).trans rfl
theorem rl_W_law_2040 : (am_pg z_W_law).2 2040 = some (.aload_n 0, 2041, 0, 0, 0, 0, 0, []) := (congrFun pm_W_law 2040).trans rfl
theorem rl_W_law_2041 : (am_pg z_W_law).2 2041 = some (.iload_n 3, 2042, 3, 0, 0, 0, 0, []) := (congrFun pm_W_law 2041).trans rfl
theorem rl_W_law_2042 : (am_pg z_W_law).2 2042 = some (.iconst (2), 2043, 0, 0, 0, 0, 2, []) := (congrFun pm_W_law 2042).trans rfl
theorem rl_W_law_2043 : (am_pg z_W_law).2 2043 = some (.iadd, 2044, 0, 0, 0, 0, 0, []) := (congrFun pm_W_law 2043).trans rfl
theorem rl_W_law_2044 : (am_pg z_W_law).2 2044 = some (.iaload, 2045, 0, 0, 0, 0, 0, []) := (congrFun pm_W_law 2044).trans rfl
theorem rl_W_law_2045 : (am_pg z_W_law).2 2045 = some (.aload_n 0, 2046, 0, 0, 0, 0, 0, []) := (congrFun pm_W_law 2045).trans rfl
theorem rl_W_law_2046 : (am_pg z_W_law).2 2046 = some (.iload_n 3, 2047, 3, 0, 0, 0, 0, []) := (congrFun pm_W_law 2046).trans rfl
theorem rl_W_law_2047 : (am_pg z_W_law).2 2047 = some (.iconst (3), 2048, 0, 0, 0, 0, 3, []) := (congrFun pm_W_law 2047).trans rfl
theorem rl_W_law_2048 : (am_pg z_W_law).2 2048 = some (.iadd, 2049, 0, 0, 0, 0, 0, []) := (congrFun pm_W_law 2048).trans rfl
theorem rl_W_law_2049 : (am_pg z_W_law).2 2049 = some (.iaload, 2050, 0, 0, 0, 0, 0, []) := (congrFun pm_W_law 2049).trans rfl
theorem rl_W_law_2050 : (am_pg z_W_law).2 2050 = some (.invokevirtual 207, 2053, 47, 3, 8, 174, 0, []) := (congrFun pm_W_law 2050).trans rfl
theorem rl_W_law_2053 : (am_pg z_W_law).2 2053 = some (.aload_n 2, 2054, 2, 0, 0, 0, 0, []) := (congrFun pm_W_law 2053).trans rfl
theorem rl_W_law_2054 : (am_pg z_W_law).2 2054 = some (.aload_n 0, 2055, 0, 0, 0, 0, 0, []) := (congrFun pm_W_law 2054).trans rfl
theorem rl_W_law_2055 : (am_pg z_W_law).2 2055 = some (.iload_n 3, 2056, 3, 0, 0, 0, 0, []) := (congrFun pm_W_law 2055).trans rfl
theorem rl_W_law_2056 : (am_pg z_W_law).2 2056 = some (.iconst (1), 2057, 0, 0, 0, 0, 1, []) := (congrFun pm_W_law 2056).trans rfl
theorem rl_W_law_2057 : (am_pg z_W_law).2 2057 = some (.iadd, 2058, 0, 0, 0, 0, 0, []) := (congrFun pm_W_law 2057).trans rfl
theorem rl_W_law_2058 : (am_pg z_W_law).2 2058 = some (.iaload, 2059, 0, 0, 0, 0, 0, []) := (congrFun pm_W_law 2058).trans rfl
theorem rl_W_law_2059 : (am_pg z_W_law).2 2059 = some (.aload_n 0, 2060, 0, 0, 0, 0, 0, []) := (congrFun pm_W_law 2059).trans rfl
theorem rl_W_law_2060 : (am_pg z_W_law).2 2060 = some (.iload_n 3, 2061, 3, 0, 0, 0, 0, []) := (congrFun pm_W_law 2060).trans rfl
theorem rl_W_law_2061 : (am_pg z_W_law).2 2061 = some (.iconst (2), 2062, 0, 0, 0, 0, 2, []) := (congrFun pm_W_law 2061).trans rfl
theorem rl_W_law_2062 : (am_pg z_W_law).2 2062 = some (.iadd, 2063, 0, 0, 0, 0, 0, []) := (congrFun pm_W_law 2062).trans rfl
theorem rl_W_law_2063 : (am_pg z_W_law).2 2063 = some (.iaload, 2064, 0, 0, 0, 0, 0, []) := (congrFun pm_W_law 2063).trans rfl
theorem rl_W_law_2064 : (am_pg z_W_law).2 2064 = some (.aload_n 0, 2065, 0, 0, 0, 0, 0, []) := (congrFun pm_W_law 2064).trans rfl
theorem rl_W_law_2065 : (am_pg z_W_law).2 2065 = some (.iload_n 3, 2066, 3, 0, 0, 0, 0, []) := (congrFun pm_W_law 2065).trans rfl
theorem rl_W_law_2066 : (am_pg z_W_law).2 2066 = some (.iconst (3), 2067, 0, 0, 0, 0, 3, []) := (congrFun pm_W_law 2066).trans rfl
theorem rl_W_law_2067 : (am_pg z_W_law).2 2067 = some (.iadd, 2068, 0, 0, 0, 0, 0, []) := (congrFun pm_W_law 2067).trans rfl
theorem rl_W_law_2068 : (am_pg z_W_law).2 2068 = some (.iaload, 2069, 0, 0, 0, 0, 0, []) := (congrFun pm_W_law 2068).trans rfl
theorem rl_W_law_2069 : (am_pg z_W_law).2 2069 = some (.invokevirtual 210, 2072, 187, 3, 9, 303, 0, []) := (congrFun pm_W_law 2069).trans rfl
theorem rl_W_law_2072 : (am_pg z_W_law).2 2072 = some (.if_icmp .eq (401), 2075, 2473, 0, 0, 0, 0, []) := (congrFun pm_W_law 2072).trans rfl
theorem rl_W_law_2075 : (am_pg z_W_law).2 2075 = some (.iconst (0), 2076, 0, 0, 0, 0, 0, []) := (congrFun pm_W_law 2075).trans rfl
theorem rl_W_law_2076 : (am_pg z_W_law).2 2076 = some (.ireturn, 2077, 0, 0, 1, 0, 0, []) := (congrFun pm_W_law 2076).trans rfl
theorem rl_W_law_2077 : (am_pg z_W_law).2 2077 = some (.aload_n 1, 2078, 1, 0, 0, 0, 0, []) := (congrFun pm_W_law 2077).trans rfl
theorem rl_W_law_2078 : (am_pg z_W_law).2 2078 = some (.aload_n 0, 2079, 0, 0, 0, 0, 0, []) := (congrFun pm_W_law 2078).trans rfl
theorem rl_W_law_2079 : (am_pg z_W_law).2 2079 = some (.iload_n 3, 2080, 3, 0, 0, 0, 0, []) := (congrFun pm_W_law 2079).trans rfl
theorem rl_W_law_2080 : (am_pg z_W_law).2 2080 = some (.iconst (1), 2081, 0, 0, 0, 0, 1, []) := (congrFun pm_W_law 2080).trans rfl
theorem rl_W_law_2081 : (am_pg z_W_law).2 2081 = some (.iadd, 2082, 0, 0, 0, 0, 0, []) := (congrFun pm_W_law 2081).trans rfl
theorem rl_W_law_2082 : (am_pg z_W_law).2 2082 = some (.iaload, 2083, 0, 0, 0, 0, 0, []) := (congrFun pm_W_law 2082).trans rfl
theorem rl_W_law_2083 : (am_pg z_W_law).2 2083 = some (.aload_n 0, 2084, 0, 0, 0, 0, 0, []) := (congrFun pm_W_law 2083).trans rfl
theorem rl_W_law_2084 : (am_pg z_W_law).2 2084 = some (.iload_n 3, 2085, 3, 0, 0, 0, 0, []) := (congrFun pm_W_law 2084).trans rfl
theorem rl_W_law_2085 : (am_pg z_W_law).2 2085 = some (.iconst (2), 2086, 0, 0, 0, 0, 2, []) := (congrFun pm_W_law 2085).trans rfl
theorem rl_W_law_2086 : (am_pg z_W_law).2 2086 = some (.iadd, 2087, 0, 0, 0, 0, 0, []) := (congrFun pm_W_law 2086).trans rfl
theorem rl_W_law_2087 : (am_pg z_W_law).2 2087 = some (.iaload, 2088, 0, 0, 0, 0, 0, []) := (congrFun pm_W_law 2087).trans rfl
theorem rl_W_law_2088 : (am_pg z_W_law).2 2088 = some (.invokevirtual 211, 2091, 48, 2, 8, 175, 0, []) := (congrFun pm_W_law 2088).trans rfl
theorem rl_W_law_2091 : (am_pg z_W_law).2 2091 = some (.aload_n 2, 2092, 2, 0, 0, 0, 0, []) := (congrFun pm_W_law 2091).trans rfl
theorem rl_W_law_2092 : (am_pg z_W_law).2 2092 = some (.aload_n 0, 2093, 0, 0, 0, 0, 0, []) := (congrFun pm_W_law 2092).trans rfl
theorem rl_W_law_2093 : (am_pg z_W_law).2 2093 = some (.iload_n 3, 2094, 3, 0, 0, 0, 0, []) := (congrFun pm_W_law 2093).trans rfl
theorem rl_W_law_2094 : (am_pg z_W_law).2 2094 = some (.iconst (1), 2095, 0, 0, 0, 0, 1, []) := (congrFun pm_W_law 2094).trans rfl
theorem rl_W_law_2095 : (am_pg z_W_law).2 2095 = some (.iadd, 2096, 0, 0, 0, 0, 0, []) := (congrFun pm_W_law 2095).trans rfl
theorem rl_W_law_2096 : (am_pg z_W_law).2 2096 = some (.iaload, 2097, 0, 0, 0, 0, 0, []) := (congrFun pm_W_law 2096).trans rfl
theorem rl_W_law_2097 : (am_pg z_W_law).2 2097 = some (.aload_n 0, 2098, 0, 0, 0, 0, 0, []) := (congrFun pm_W_law 2097).trans rfl
theorem rl_W_law_2098 : (am_pg z_W_law).2 2098 = some (.iload_n 3, 2099, 3, 0, 0, 0, 0, []) := (congrFun pm_W_law 2098).trans rfl
theorem rl_W_law_2099 : (am_pg z_W_law).2 2099 = some (.iconst (2), 2100, 0, 0, 0, 0, 2, []) := (congrFun pm_W_law 2099).trans rfl
theorem rl_W_law_2100 : (am_pg z_W_law).2 2100 = some (.iadd, 2101, 0, 0, 0, 0, 0, []) := (congrFun pm_W_law 2100).trans rfl
theorem rl_W_law_2101 : (am_pg z_W_law).2 2101 = some (.iaload, 2102, 0, 0, 0, 0, 0, []) := (congrFun pm_W_law 2101).trans rfl
theorem rl_W_law_2102 : (am_pg z_W_law).2 2102 = some (.invokevirtual 214, 2105, 188, 2, 9, 305, 0, []) := (congrFun pm_W_law 2102).trans rfl
theorem rl_W_law_2105 : (am_pg z_W_law).2 2105 = some (.if_icmp .eq (368), 2108, 2473, 0, 0, 0, 0, []) := (congrFun pm_W_law 2105).trans rfl
theorem rl_W_law_2108 : (am_pg z_W_law).2 2108 = some (.iconst (0), 2109, 0, 0, 0, 0, 0, []) := (congrFun pm_W_law 2108).trans rfl
theorem rl_W_law_2109 : (am_pg z_W_law).2 2109 = some (.ireturn, 2110, 0, 0, 1, 0, 0, []) := (congrFun pm_W_law 2109).trans rfl
theorem rl_W_law_2110 : (am_pg z_W_law).2 2110 = some (.aload_n 1, 2111, 1, 0, 0, 0, 0, []) := (congrFun pm_W_law 2110).trans rfl
theorem rl_W_law_2111 : (am_pg z_W_law).2 2111 = some (.aload_n 0, 2112, 0, 0, 0, 0, 0, []) := (congrFun pm_W_law 2111).trans rfl
theorem rl_W_law_2112 : (am_pg z_W_law).2 2112 = some (.iload_n 3, 2113, 3, 0, 0, 0, 0, []) := (congrFun pm_W_law 2112).trans rfl
theorem rl_W_law_2113 : (am_pg z_W_law).2 2113 = some (.iconst (1), 2114, 0, 0, 0, 0, 1, []) := (congrFun pm_W_law 2113).trans rfl
theorem rl_W_law_2114 : (am_pg z_W_law).2 2114 = some (.iadd, 2115, 0, 0, 0, 0, 0, []) := (congrFun pm_W_law 2114).trans rfl
theorem rl_W_law_2115 : (am_pg z_W_law).2 2115 = some (.iaload, 2116, 0, 0, 0, 0, 0, []) := (congrFun pm_W_law 2115).trans rfl
theorem rl_W_law_2116 : (am_pg z_W_law).2 2116 = some (.aload_n 0, 2117, 0, 0, 0, 0, 0, []) := (congrFun pm_W_law 2116).trans rfl
theorem rl_W_law_2117 : (am_pg z_W_law).2 2117 = some (.iload_n 3, 2118, 3, 0, 0, 0, 0, []) := (congrFun pm_W_law 2117).trans rfl
theorem rl_W_law_2118 : (am_pg z_W_law).2 2118 = some (.iconst (2), 2119, 0, 0, 0, 0, 2, []) := (congrFun pm_W_law 2118).trans rfl
theorem rl_W_law_2119 : (am_pg z_W_law).2 2119 = some (.iadd, 2120, 0, 0, 0, 0, 0, []) := (congrFun pm_W_law 2119).trans rfl
theorem rl_W_law_2120 : (am_pg z_W_law).2 2120 = some (.iaload, 2121, 0, 0, 0, 0, 0, []) := (congrFun pm_W_law 2120).trans rfl
theorem rl_W_law_2121 : (am_pg z_W_law).2 2121 = some (.aload_n 0, 2122, 0, 0, 0, 0, 0, []) := (congrFun pm_W_law 2121).trans rfl
theorem rl_W_law_2122 : (am_pg z_W_law).2 2122 = some (.iload_n 3, 2123, 3, 0, 0, 0, 0, []) := (congrFun pm_W_law 2122).trans rfl
theorem rl_W_law_2123 : (am_pg z_W_law).2 2123 = some (.iconst (3), 2124, 0, 0, 0, 0, 3, []) := (congrFun pm_W_law 2123).trans rfl
theorem rl_W_law_2124 : (am_pg z_W_law).2 2124 = some (.iadd, 2125, 0, 0, 0, 0, 0, []) := (congrFun pm_W_law 2124).trans rfl
theorem rl_W_law_2125 : (am_pg z_W_law).2 2125 = some (.iaload, 2126, 0, 0, 0, 0, 0, []) := (congrFun pm_W_law 2125).trans rfl
theorem rl_W_law_2126 : (am_pg z_W_law).2 2126 = some (.invokevirtual 215, 2129, 49, 3, 8, 177, 0, []) := (congrFun pm_W_law 2126).trans rfl
theorem rl_W_law_2129 : (am_pg z_W_law).2 2129 = some (.aload_n 2, 2130, 2, 0, 0, 0, 0, []) := (congrFun pm_W_law 2129).trans rfl
theorem rl_W_law_2130 : (am_pg z_W_law).2 2130 = some (.aload_n 0, 2131, 0, 0, 0, 0, 0, []) := (congrFun pm_W_law 2130).trans rfl
theorem rl_W_law_2131 : (am_pg z_W_law).2 2131 = some (.iload_n 3, 2132, 3, 0, 0, 0, 0, []) := (congrFun pm_W_law 2131).trans rfl
theorem rl_W_law_2132 : (am_pg z_W_law).2 2132 = some (.iconst (1), 2133, 0, 0, 0, 0, 1, []) := (congrFun pm_W_law 2132).trans rfl
theorem rl_W_law_2133 : (am_pg z_W_law).2 2133 = some (.iadd, 2134, 0, 0, 0, 0, 0, []) := (congrFun pm_W_law 2133).trans rfl
theorem rl_W_law_2134 : (am_pg z_W_law).2 2134 = some (.iaload, 2135, 0, 0, 0, 0, 0, []) := (congrFun pm_W_law 2134).trans rfl
theorem rl_W_law_2135 : (am_pg z_W_law).2 2135 = some (.aload_n 0, 2136, 0, 0, 0, 0, 0, []) := (congrFun pm_W_law 2135).trans rfl
theorem rl_W_law_2136 : (am_pg z_W_law).2 2136 = some (.iload_n 3, 2137, 3, 0, 0, 0, 0, []) := (congrFun pm_W_law 2136).trans rfl
theorem rl_W_law_2137 : (am_pg z_W_law).2 2137 = some (.iconst (2), 2138, 0, 0, 0, 0, 2, []) := (congrFun pm_W_law 2137).trans rfl
theorem rl_W_law_2138 : (am_pg z_W_law).2 2138 = some (.iadd, 2139, 0, 0, 0, 0, 0, []) := (congrFun pm_W_law 2138).trans rfl
theorem rl_W_law_2139 : (am_pg z_W_law).2 2139 = some (.iaload, 2140, 0, 0, 0, 0, 0, []) := (congrFun pm_W_law 2139).trans rfl
theorem rl_W_law_2140 : (am_pg z_W_law).2 2140 = some (.aload_n 0, 2141, 0, 0, 0, 0, 0, []) := (congrFun pm_W_law 2140).trans rfl
theorem rl_W_law_2141 : (am_pg z_W_law).2 2141 = some (.iload_n 3, 2142, 3, 0, 0, 0, 0, []) := (congrFun pm_W_law 2141).trans rfl
theorem rl_W_law_2142 : (am_pg z_W_law).2 2142 = some (.iconst (3), 2143, 0, 0, 0, 0, 3, []) := (congrFun pm_W_law 2142).trans rfl
theorem rl_W_law_2143 : (am_pg z_W_law).2 2143 = some (.iadd, 2144, 0, 0, 0, 0, 0, []) := (congrFun pm_W_law 2143).trans rfl
theorem rl_W_law_2144 : (am_pg z_W_law).2 2144 = some (.iaload, 2145, 0, 0, 0, 0, 0, []) := (congrFun pm_W_law 2144).trans rfl
theorem rl_W_law_2145 : (am_pg z_W_law).2 2145 = some (.invokevirtual 218, 2148, 189, 3, 9, 308, 0, []) := (congrFun pm_W_law 2145).trans rfl
theorem rl_W_law_2148 : (am_pg z_W_law).2 2148 = some (.if_icmp .eq (325), 2151, 2473, 0, 0, 0, 0, []) := (congrFun pm_W_law 2148).trans rfl
theorem rl_W_law_2151 : (am_pg z_W_law).2 2151 = some (.iconst (0), 2152, 0, 0, 0, 0, 0, []) := (congrFun pm_W_law 2151).trans rfl
theorem rl_W_law_2152 : (am_pg z_W_law).2 2152 = some (.ireturn, 2153, 0, 0, 1, 0, 0, []) := (congrFun pm_W_law 2152).trans rfl
theorem rl_W_law_2153 : (am_pg z_W_law).2 2153 = some (.aload_n 1, 2154, 1, 0, 0, 0, 0, []) := (congrFun pm_W_law 2153).trans rfl
theorem rl_W_law_2154 : (am_pg z_W_law).2 2154 = some (.aload_n 0, 2155, 0, 0, 0, 0, 0, []) := (congrFun pm_W_law 2154).trans rfl
theorem rl_W_law_2155 : (am_pg z_W_law).2 2155 = some (.iload_n 3, 2156, 3, 0, 0, 0, 0, []) := (congrFun pm_W_law 2155).trans rfl
theorem rl_W_law_2156 : (am_pg z_W_law).2 2156 = some (.iconst (1), 2157, 0, 0, 0, 0, 1, []) := (congrFun pm_W_law 2156).trans rfl
theorem rl_W_law_2157 : (am_pg z_W_law).2 2157 = some (.iadd, 2158, 0, 0, 0, 0, 0, []) := (congrFun pm_W_law 2157).trans rfl
theorem rl_W_law_2158 : (am_pg z_W_law).2 2158 = some (.iaload, 2159, 0, 0, 0, 0, 0, []) := (congrFun pm_W_law 2158).trans rfl
theorem rl_W_law_2159 : (am_pg z_W_law).2 2159 = some (.aload_n 0, 2160, 0, 0, 0, 0, 0, []) := (congrFun pm_W_law 2159).trans rfl
theorem rl_W_law_2160 : (am_pg z_W_law).2 2160 = some (.iload_n 3, 2161, 3, 0, 0, 0, 0, []) := (congrFun pm_W_law 2160).trans rfl
theorem rl_W_law_2161 : (am_pg z_W_law).2 2161 = some (.iconst (2), 2162, 0, 0, 0, 0, 2, []) := (congrFun pm_W_law 2161).trans rfl
theorem rl_W_law_2162 : (am_pg z_W_law).2 2162 = some (.iadd, 2163, 0, 0, 0, 0, 0, []) := (congrFun pm_W_law 2162).trans rfl
theorem rl_W_law_2163 : (am_pg z_W_law).2 2163 = some (.iaload, 2164, 0, 0, 0, 0, 0, []) := (congrFun pm_W_law 2163).trans rfl
theorem rl_W_law_2164 : (am_pg z_W_law).2 2164 = some (.invokevirtual 219, 2167, 50, 2, 8, 178, 0, []) := (congrFun pm_W_law 2164).trans rfl
theorem rl_W_law_2167 : (am_pg z_W_law).2 2167 = some (.aload_n 2, 2168, 2, 0, 0, 0, 0, []) := (congrFun pm_W_law 2167).trans rfl
theorem rl_W_law_2168 : (am_pg z_W_law).2 2168 = some (.aload_n 0, 2169, 0, 0, 0, 0, 0, []) := (congrFun pm_W_law 2168).trans rfl
theorem rl_W_law_2169 : (am_pg z_W_law).2 2169 = some (.iload_n 3, 2170, 3, 0, 0, 0, 0, []) := (congrFun pm_W_law 2169).trans rfl
theorem rl_W_law_2170 : (am_pg z_W_law).2 2170 = some (.iconst (1), 2171, 0, 0, 0, 0, 1, []) := (congrFun pm_W_law 2170).trans rfl
theorem rl_W_law_2171 : (am_pg z_W_law).2 2171 = some (.iadd, 2172, 0, 0, 0, 0, 0, []) := (congrFun pm_W_law 2171).trans rfl
theorem rl_W_law_2172 : (am_pg z_W_law).2 2172 = some (.iaload, 2173, 0, 0, 0, 0, 0, []) := (congrFun pm_W_law 2172).trans rfl
theorem rl_W_law_2173 : (am_pg z_W_law).2 2173 = some (.aload_n 0, 2174, 0, 0, 0, 0, 0, []) := (congrFun pm_W_law 2173).trans rfl
theorem rl_W_law_2174 : (am_pg z_W_law).2 2174 = some (.iload_n 3, 2175, 3, 0, 0, 0, 0, []) := (congrFun pm_W_law 2174).trans rfl
theorem rl_W_law_2175 : (am_pg z_W_law).2 2175 = some (.iconst (2), 2176, 0, 0, 0, 0, 2, []) := (congrFun pm_W_law 2175).trans rfl
theorem rl_W_law_2176 : (am_pg z_W_law).2 2176 = some (.iadd, 2177, 0, 0, 0, 0, 0, []) := (congrFun pm_W_law 2176).trans rfl
theorem rl_W_law_2177 : (am_pg z_W_law).2 2177 = some (.iaload, 2178, 0, 0, 0, 0, 0, []) := (congrFun pm_W_law 2177).trans rfl
theorem rl_W_law_2178 : (am_pg z_W_law).2 2178 = some (.invokevirtual 222, 2181, 191, 2, 9, 309, 0, []) := (congrFun pm_W_law 2178).trans rfl
theorem rl_W_law_2181 : (am_pg z_W_law).2 2181 = some (.if_icmp .eq (292), 2184, 2473, 0, 0, 0, 0, []) := (congrFun pm_W_law 2181).trans rfl
theorem rl_W_law_2184 : (am_pg z_W_law).2 2184 = some (.iconst (0), 2185, 0, 0, 0, 0, 0, []) := (congrFun pm_W_law 2184).trans rfl
theorem rl_W_law_2185 : (am_pg z_W_law).2 2185 = some (.ireturn, 2186, 0, 0, 1, 0, 0, []) := (congrFun pm_W_law 2185).trans rfl
theorem rl_W_law_2186 : (am_pg z_W_law).2 2186 = some (.aload_n 1, 2187, 1, 0, 0, 0, 0, []) := (congrFun pm_W_law 2186).trans rfl
theorem rl_W_law_2187 : (am_pg z_W_law).2 2187 = some (.aload_n 0, 2188, 0, 0, 0, 0, 0, []) := (congrFun pm_W_law 2187).trans rfl
theorem rl_W_law_2188 : (am_pg z_W_law).2 2188 = some (.iload_n 3, 2189, 3, 0, 0, 0, 0, []) := (congrFun pm_W_law 2188).trans rfl
theorem rl_W_law_2189 : (am_pg z_W_law).2 2189 = some (.iconst (1), 2190, 0, 0, 0, 0, 1, []) := (congrFun pm_W_law 2189).trans rfl
theorem rl_W_law_2190 : (am_pg z_W_law).2 2190 = some (.iadd, 2191, 0, 0, 0, 0, 0, []) := (congrFun pm_W_law 2190).trans rfl
theorem rl_W_law_2191 : (am_pg z_W_law).2 2191 = some (.iaload, 2192, 0, 0, 0, 0, 0, []) := (congrFun pm_W_law 2191).trans rfl
theorem rl_W_law_2192 : (am_pg z_W_law).2 2192 = some (.aload_n 0, 2193, 0, 0, 0, 0, 0, []) := (congrFun pm_W_law 2192).trans rfl
theorem rl_W_law_2193 : (am_pg z_W_law).2 2193 = some (.iload_n 3, 2194, 3, 0, 0, 0, 0, []) := (congrFun pm_W_law 2193).trans rfl
theorem rl_W_law_2194 : (am_pg z_W_law).2 2194 = some (.iconst (2), 2195, 0, 0, 0, 0, 2, []) := (congrFun pm_W_law 2194).trans rfl
theorem rl_W_law_2195 : (am_pg z_W_law).2 2195 = some (.iadd, 2196, 0, 0, 0, 0, 0, []) := (congrFun pm_W_law 2195).trans rfl
theorem rl_W_law_2196 : (am_pg z_W_law).2 2196 = some (.iaload, 2197, 0, 0, 0, 0, 0, []) := (congrFun pm_W_law 2196).trans rfl
theorem rl_W_law_2197 : (am_pg z_W_law).2 2197 = some (.invokevirtual 223, 2200, 51, 2, 8, 180, 0, []) := (congrFun pm_W_law 2197).trans rfl
theorem rl_W_law_2200 : (am_pg z_W_law).2 2200 = some (.aload_n 2, 2201, 2, 0, 0, 0, 0, []) := (congrFun pm_W_law 2200).trans rfl
theorem rl_W_law_2201 : (am_pg z_W_law).2 2201 = some (.aload_n 0, 2202, 0, 0, 0, 0, 0, []) := (congrFun pm_W_law 2201).trans rfl
theorem rl_W_law_2202 : (am_pg z_W_law).2 2202 = some (.iload_n 3, 2203, 3, 0, 0, 0, 0, []) := (congrFun pm_W_law 2202).trans rfl
theorem rl_W_law_2203 : (am_pg z_W_law).2 2203 = some (.iconst (1), 2204, 0, 0, 0, 0, 1, []) := (congrFun pm_W_law 2203).trans rfl
theorem rl_W_law_2204 : (am_pg z_W_law).2 2204 = some (.iadd, 2205, 0, 0, 0, 0, 0, []) := (congrFun pm_W_law 2204).trans rfl
theorem rl_W_law_2205 : (am_pg z_W_law).2 2205 = some (.iaload, 2206, 0, 0, 0, 0, 0, []) := (congrFun pm_W_law 2205).trans rfl
theorem rl_W_law_2206 : (am_pg z_W_law).2 2206 = some (.aload_n 0, 2207, 0, 0, 0, 0, 0, []) := (congrFun pm_W_law 2206).trans rfl
theorem rl_W_law_2207 : (am_pg z_W_law).2 2207 = some (.iload_n 3, 2208, 3, 0, 0, 0, 0, []) := (congrFun pm_W_law 2207).trans rfl
theorem rl_W_law_2208 : (am_pg z_W_law).2 2208 = some (.iconst (2), 2209, 0, 0, 0, 0, 2, []) := (congrFun pm_W_law 2208).trans rfl
theorem rl_W_law_2209 : (am_pg z_W_law).2 2209 = some (.iadd, 2210, 0, 0, 0, 0, 0, []) := (congrFun pm_W_law 2209).trans rfl
theorem rl_W_law_2210 : (am_pg z_W_law).2 2210 = some (.iaload, 2211, 0, 0, 0, 0, 0, []) := (congrFun pm_W_law 2210).trans rfl
theorem rl_W_law_2211 : (am_pg z_W_law).2 2211 = some (.invokevirtual 226, 2214, 193, 2, 9, 311, 0, []) := (congrFun pm_W_law 2211).trans rfl
theorem rl_W_law_2214 : (am_pg z_W_law).2 2214 = some (.if_icmp .eq (259), 2217, 2473, 0, 0, 0, 0, []) := (congrFun pm_W_law 2214).trans rfl
theorem rl_W_law_2217 : (am_pg z_W_law).2 2217 = some (.iconst (0), 2218, 0, 0, 0, 0, 0, []) := (congrFun pm_W_law 2217).trans rfl
theorem rl_W_law_2218 : (am_pg z_W_law).2 2218 = some (.ireturn, 2219, 0, 0, 1, 0, 0, []) := (congrFun pm_W_law 2218).trans rfl
theorem rl_W_law_2219 : (am_pg z_W_law).2 2219 = some (.aload_n 1, 2220, 1, 0, 0, 0, 0, []) := (congrFun pm_W_law 2219).trans rfl
theorem rl_W_law_2220 : (am_pg z_W_law).2 2220 = some (.aload_n 0, 2221, 0, 0, 0, 0, 0, []) := (congrFun pm_W_law 2220).trans rfl
theorem rl_W_law_2221 : (am_pg z_W_law).2 2221 = some (.iload_n 3, 2222, 3, 0, 0, 0, 0, []) := (congrFun pm_W_law 2221).trans rfl
theorem rl_W_law_2222 : (am_pg z_W_law).2 2222 = some (.iconst (1), 2223, 0, 0, 0, 0, 1, []) := (congrFun pm_W_law 2222).trans rfl
theorem rl_W_law_2223 : (am_pg z_W_law).2 2223 = some (.iadd, 2224, 0, 0, 0, 0, 0, []) := (congrFun pm_W_law 2223).trans rfl
theorem rl_W_law_2224 : (am_pg z_W_law).2 2224 = some (.iaload, 2225, 0, 0, 0, 0, 0, []) := (congrFun pm_W_law 2224).trans rfl
theorem rl_W_law_2225 : (am_pg z_W_law).2 2225 = some (.aload_n 0, 2226, 0, 0, 0, 0, 0, []) := (congrFun pm_W_law 2225).trans rfl
theorem rl_W_law_2226 : (am_pg z_W_law).2 2226 = some (.iload_n 3, 2227, 3, 0, 0, 0, 0, []) := (congrFun pm_W_law 2226).trans rfl
theorem rl_W_law_2227 : (am_pg z_W_law).2 2227 = some (.iconst (2), 2228, 0, 0, 0, 0, 2, []) := (congrFun pm_W_law 2227).trans rfl
theorem rl_W_law_2228 : (am_pg z_W_law).2 2228 = some (.iadd, 2229, 0, 0, 0, 0, 0, []) := (congrFun pm_W_law 2228).trans rfl
theorem rl_W_law_2229 : (am_pg z_W_law).2 2229 = some (.iaload, 2230, 0, 0, 0, 0, 0, []) := (congrFun pm_W_law 2229).trans rfl
theorem rl_W_law_2230 : (am_pg z_W_law).2 2230 = some (.invokevirtual 227, 2233, 52, 2, 8, 183, 0, []) := (congrFun pm_W_law 2230).trans rfl
theorem rl_W_law_2233 : (am_pg z_W_law).2 2233 = some (.aload_n 2, 2234, 2, 0, 0, 0, 0, []) := (congrFun pm_W_law 2233).trans rfl
theorem rl_W_law_2234 : (am_pg z_W_law).2 2234 = some (.aload_n 0, 2235, 0, 0, 0, 0, 0, []) := (congrFun pm_W_law 2234).trans rfl
theorem rl_W_law_2235 : (am_pg z_W_law).2 2235 = some (.iload_n 3, 2236, 3, 0, 0, 0, 0, []) := (congrFun pm_W_law 2235).trans rfl
theorem rl_W_law_2236 : (am_pg z_W_law).2 2236 = some (.iconst (1), 2237, 0, 0, 0, 0, 1, []) := (congrFun pm_W_law 2236).trans rfl
theorem rl_W_law_2237 : (am_pg z_W_law).2 2237 = some (.iadd, 2238, 0, 0, 0, 0, 0, []) := (congrFun pm_W_law 2237).trans rfl
theorem rl_W_law_2238 : (am_pg z_W_law).2 2238 = some (.iaload, 2239, 0, 0, 0, 0, 0, []) := (congrFun pm_W_law 2238).trans rfl
theorem rl_W_law_2239 : (am_pg z_W_law).2 2239 = some (.aload_n 0, 2240, 0, 0, 0, 0, 0, []) := (congrFun pm_W_law 2239).trans rfl
theorem rl_W_law_2240 : (am_pg z_W_law).2 2240 = some (.iload_n 3, 2241, 3, 0, 0, 0, 0, []) := (congrFun pm_W_law 2240).trans rfl
theorem rl_W_law_2241 : (am_pg z_W_law).2 2241 = some (.iconst (2), 2242, 0, 0, 0, 0, 2, []) := (congrFun pm_W_law 2241).trans rfl
theorem rl_W_law_2242 : (am_pg z_W_law).2 2242 = some (.iadd, 2243, 0, 0, 0, 0, 0, []) := (congrFun pm_W_law 2242).trans rfl
theorem rl_W_law_2243 : (am_pg z_W_law).2 2243 = some (.iaload, 2244, 0, 0, 0, 0, 0, []) := (congrFun pm_W_law 2243).trans rfl
theorem rl_W_law_2244 : (am_pg z_W_law).2 2244 = some (.invokevirtual 230, 2247, 195, 2, 9, 313, 0, []) := (congrFun pm_W_law 2244).trans rfl
theorem rl_W_law_2247 : (am_pg z_W_law).2 2247 = some (.if_icmp .eq (226), 2250, 2473, 0, 0, 0, 0, []) := (congrFun pm_W_law 2247).trans rfl
theorem rl_W_law_2250 : (am_pg z_W_law).2 2250 = some (.iconst (0), 2251, 0, 0, 0, 0, 0, []) := (congrFun pm_W_law 2250).trans rfl
theorem rl_W_law_2251 : (am_pg z_W_law).2 2251 = some (.ireturn, 2252, 0, 0, 1, 0, 0, []) := (congrFun pm_W_law 2251).trans rfl
theorem rl_W_law_2252 : (am_pg z_W_law).2 2252 = some (.aload_n 1, 2253, 1, 0, 0, 0, 0, []) := (congrFun pm_W_law 2252).trans rfl
theorem rl_W_law_2253 : (am_pg z_W_law).2 2253 = some (.aload_n 0, 2254, 0, 0, 0, 0, 0, []) := (congrFun pm_W_law 2253).trans rfl
theorem rl_W_law_2254 : (am_pg z_W_law).2 2254 = some (.iload_n 3, 2255, 3, 0, 0, 0, 0, []) := (congrFun pm_W_law 2254).trans rfl
theorem rl_W_law_2255 : (am_pg z_W_law).2 2255 = some (.iconst (1), 2256, 0, 0, 0, 0, 1, []) := (congrFun pm_W_law 2255).trans rfl
theorem rl_W_law_2256 : (am_pg z_W_law).2 2256 = some (.iadd, 2257, 0, 0, 0, 0, 0, []) := (congrFun pm_W_law 2256).trans rfl
theorem rl_W_law_2257 : (am_pg z_W_law).2 2257 = some (.iaload, 2258, 0, 0, 0, 0, 0, []) := (congrFun pm_W_law 2257).trans rfl
theorem rl_W_law_2258 : (am_pg z_W_law).2 2258 = some (.aload_n 0, 2259, 0, 0, 0, 0, 0, []) := (congrFun pm_W_law 2258).trans rfl
theorem rl_W_law_2259 : (am_pg z_W_law).2 2259 = some (.iload_n 3, 2260, 3, 0, 0, 0, 0, []) := (congrFun pm_W_law 2259).trans rfl
theorem rl_W_law_2260 : (am_pg z_W_law).2 2260 = some (.iconst (2), 2261, 0, 0, 0, 0, 2, []) := (congrFun pm_W_law 2260).trans rfl
theorem rl_W_law_2261 : (am_pg z_W_law).2 2261 = some (.iadd, 2262, 0, 0, 0, 0, 0, []) := (congrFun pm_W_law 2261).trans rfl
theorem rl_W_law_2262 : (am_pg z_W_law).2 2262 = some (.iaload, 2263, 0, 0, 0, 0, 0, []) := (congrFun pm_W_law 2262).trans rfl
theorem rl_W_law_2263 : (am_pg z_W_law).2 2263 = some (.invokevirtual 231, 2266, 53, 2, 8, 186, 0, []) := (congrFun pm_W_law 2263).trans rfl
theorem rl_W_law_2266 : (am_pg z_W_law).2 2266 = some (.aload_n 2, 2267, 2, 0, 0, 0, 0, []) := (congrFun pm_W_law 2266).trans rfl
theorem rl_W_law_2267 : (am_pg z_W_law).2 2267 = some (.aload_n 0, 2268, 0, 0, 0, 0, 0, []) := (congrFun pm_W_law 2267).trans rfl
theorem rl_W_law_2268 : (am_pg z_W_law).2 2268 = some (.iload_n 3, 2269, 3, 0, 0, 0, 0, []) := (congrFun pm_W_law 2268).trans rfl
theorem rl_W_law_2269 : (am_pg z_W_law).2 2269 = some (.iconst (1), 2270, 0, 0, 0, 0, 1, []) := (congrFun pm_W_law 2269).trans rfl
theorem rl_W_law_2270 : (am_pg z_W_law).2 2270 = some (.iadd, 2271, 0, 0, 0, 0, 0, []) := (congrFun pm_W_law 2270).trans rfl
theorem rl_W_law_2271 : (am_pg z_W_law).2 2271 = some (.iaload, 2272, 0, 0, 0, 0, 0, []) := (congrFun pm_W_law 2271).trans rfl
theorem rl_W_law_2272 : (am_pg z_W_law).2 2272 = some (.aload_n 0, 2273, 0, 0, 0, 0, 0, []) := (congrFun pm_W_law 2272).trans rfl
theorem rl_W_law_2273 : (am_pg z_W_law).2 2273 = some (.iload_n 3, 2274, 3, 0, 0, 0, 0, []) := (congrFun pm_W_law 2273).trans rfl
theorem rl_W_law_2274 : (am_pg z_W_law).2 2274 = some (.iconst (2), 2275, 0, 0, 0, 0, 2, []) := (congrFun pm_W_law 2274).trans rfl
theorem rl_W_law_2275 : (am_pg z_W_law).2 2275 = some (.iadd, 2276, 0, 0, 0, 0, 0, []) := (congrFun pm_W_law 2275).trans rfl
theorem rl_W_law_2276 : (am_pg z_W_law).2 2276 = some (.iaload, 2277, 0, 0, 0, 0, 0, []) := (congrFun pm_W_law 2276).trans rfl
theorem rl_W_law_2277 : (am_pg z_W_law).2 2277 = some (.invokevirtual 234, 2280, 196, 2, 9, 315, 0, []) := (congrFun pm_W_law 2277).trans rfl
theorem rl_W_law_2280 : (am_pg z_W_law).2 2280 = some (.if_icmp .eq (193), 2283, 2473, 0, 0, 0, 0, []) := (congrFun pm_W_law 2280).trans rfl
theorem rl_W_law_2283 : (am_pg z_W_law).2 2283 = some (.iconst (0), 2284, 0, 0, 0, 0, 0, []) := (congrFun pm_W_law 2283).trans rfl
theorem rl_W_law_2284 : (am_pg z_W_law).2 2284 = some (.ireturn, 2285, 0, 0, 1, 0, 0, []) := (congrFun pm_W_law 2284).trans rfl
theorem rl_W_law_2285 : (am_pg z_W_law).2 2285 = some (.aload_n 1, 2286, 1, 0, 0, 0, 0, []) := (congrFun pm_W_law 2285).trans rfl
theorem rl_W_law_2286 : (am_pg z_W_law).2 2286 = some (.aload_n 0, 2287, 0, 0, 0, 0, 0, []) := (congrFun pm_W_law 2286).trans rfl
theorem rl_W_law_2287 : (am_pg z_W_law).2 2287 = some (.iload_n 3, 2288, 3, 0, 0, 0, 0, []) := (congrFun pm_W_law 2287).trans rfl
theorem rl_W_law_2288 : (am_pg z_W_law).2 2288 = some (.iconst (1), 2289, 0, 0, 0, 0, 1, []) := (congrFun pm_W_law 2288).trans rfl
theorem rl_W_law_2289 : (am_pg z_W_law).2 2289 = some (.iadd, 2290, 0, 0, 0, 0, 0, []) := (congrFun pm_W_law 2289).trans rfl
theorem rl_W_law_2290 : (am_pg z_W_law).2 2290 = some (.iaload, 2291, 0, 0, 0, 0, 0, []) := (congrFun pm_W_law 2290).trans rfl
theorem rl_W_law_2291 : (am_pg z_W_law).2 2291 = some (.aload_n 0, 2292, 0, 0, 0, 0, 0, []) := (congrFun pm_W_law 2291).trans rfl
theorem rl_W_law_2292 : (am_pg z_W_law).2 2292 = some (.iload_n 3, 2293, 3, 0, 0, 0, 0, []) := (congrFun pm_W_law 2292).trans rfl
theorem rl_W_law_2293 : (am_pg z_W_law).2 2293 = some (.iconst (2), 2294, 0, 0, 0, 0, 2, []) := (congrFun pm_W_law 2293).trans rfl
theorem rl_W_law_2294 : (am_pg z_W_law).2 2294 = some (.iadd, 2295, 0, 0, 0, 0, 0, []) := (congrFun pm_W_law 2294).trans rfl
theorem rl_W_law_2295 : (am_pg z_W_law).2 2295 = some (.iaload, 2296, 0, 0, 0, 0, 0, []) := (congrFun pm_W_law 2295).trans rfl
theorem rl_W_law_2296 : (am_pg z_W_law).2 2296 = some (.aload_n 0, 2297, 0, 0, 0, 0, 0, []) := (congrFun pm_W_law 2296).trans rfl
theorem rl_W_law_2297 : (am_pg z_W_law).2 2297 = some (.iload_n 3, 2298, 3, 0, 0, 0, 0, []) := (congrFun pm_W_law 2297).trans rfl
theorem rl_W_law_2298 : (am_pg z_W_law).2 2298 = some (.iconst (3), 2299, 0, 0, 0, 0, 3, []) := (congrFun pm_W_law 2298).trans rfl
theorem rl_W_law_2299 : (am_pg z_W_law).2 2299 = some (.iadd, 2300, 0, 0, 0, 0, 0, []) := (congrFun pm_W_law 2299).trans rfl
theorem rl_W_law_2300 : (am_pg z_W_law).2 2300 = some (.iaload, 2301, 0, 0, 0, 0, 0, []) := (congrFun pm_W_law 2300).trans rfl
theorem rl_W_law_2301 : (am_pg z_W_law).2 2301 = some (.aload_n 0, 2302, 0, 0, 0, 0, 0, []) := (congrFun pm_W_law 2301).trans rfl
theorem rl_W_law_2302 : (am_pg z_W_law).2 2302 = some (.iload_n 3, 2303, 3, 0, 0, 0, 0, []) := (congrFun pm_W_law 2302).trans rfl
theorem rl_W_law_2303 : (am_pg z_W_law).2 2303 = some (.iconst (4), 2304, 0, 0, 0, 0, 4, []) := (congrFun pm_W_law 2303).trans rfl
theorem rl_W_law_2304 : (am_pg z_W_law).2 2304 = some (.iadd, 2305, 0, 0, 0, 0, 0, []) := (congrFun pm_W_law 2304).trans rfl
theorem rl_W_law_2305 : (am_pg z_W_law).2 2305 = some (.iaload, 2306, 0, 0, 0, 0, 0, []) := (congrFun pm_W_law 2305).trans rfl
theorem rl_W_law_2306 : (am_pg z_W_law).2 2306 = some (.aload_n 0, 2307, 0, 0, 0, 0, 0, []) := (congrFun pm_W_law 2306).trans rfl
theorem rl_W_law_2307 : (am_pg z_W_law).2 2307 = some (.iload_n 3, 2308, 3, 0, 0, 0, 0, []) := (congrFun pm_W_law 2307).trans rfl
theorem rl_W_law_2308 : (am_pg z_W_law).2 2308 = some (.iconst (5), 2309, 0, 0, 0, 0, 5, []) := (congrFun pm_W_law 2308).trans rfl
theorem rl_W_law_2309 : (am_pg z_W_law).2 2309 = some (.iadd, 2310, 0, 0, 0, 0, 0, []) := (congrFun pm_W_law 2309).trans rfl
theorem rl_W_law_2310 : (am_pg z_W_law).2 2310 = some (.iaload, 2311, 0, 0, 0, 0, 0, []) := (congrFun pm_W_law 2310).trans rfl
theorem rl_W_law_2311 : (am_pg z_W_law).2 2311 = some (.invokevirtual 235, 2314, 54, 5, 8, 187, 0, []) := (congrFun pm_W_law 2311).trans rfl
theorem rl_W_law_2314 : (am_pg z_W_law).2 2314 = some (.aload_n 2, 2315, 2, 0, 0, 0, 0, []) := (congrFun pm_W_law 2314).trans rfl
theorem rl_W_law_2315 : (am_pg z_W_law).2 2315 = some (.aload_n 0, 2316, 0, 0, 0, 0, 0, []) := (congrFun pm_W_law 2315).trans rfl
theorem rl_W_law_2316 : (am_pg z_W_law).2 2316 = some (.iload_n 3, 2317, 3, 0, 0, 0, 0, []) := (congrFun pm_W_law 2316).trans rfl
theorem rl_W_law_2317 : (am_pg z_W_law).2 2317 = some (.iconst (1), 2318, 0, 0, 0, 0, 1, []) := (congrFun pm_W_law 2317).trans rfl
theorem rl_W_law_2318 : (am_pg z_W_law).2 2318 = some (.iadd, 2319, 0, 0, 0, 0, 0, []) := (congrFun pm_W_law 2318).trans rfl
theorem rl_W_law_2319 : (am_pg z_W_law).2 2319 = some (.iaload, 2320, 0, 0, 0, 0, 0, []) := (congrFun pm_W_law 2319).trans rfl
theorem rl_W_law_2320 : (am_pg z_W_law).2 2320 = some (.aload_n 0, 2321, 0, 0, 0, 0, 0, []) := (congrFun pm_W_law 2320).trans rfl
theorem rl_W_law_2321 : (am_pg z_W_law).2 2321 = some (.iload_n 3, 2322, 3, 0, 0, 0, 0, []) := (congrFun pm_W_law 2321).trans rfl
theorem rl_W_law_2322 : (am_pg z_W_law).2 2322 = some (.iconst (2), 2323, 0, 0, 0, 0, 2, []) := (congrFun pm_W_law 2322).trans rfl
theorem rl_W_law_2323 : (am_pg z_W_law).2 2323 = some (.iadd, 2324, 0, 0, 0, 0, 0, []) := (congrFun pm_W_law 2323).trans rfl
theorem rl_W_law_2324 : (am_pg z_W_law).2 2324 = some (.iaload, 2325, 0, 0, 0, 0, 0, []) := (congrFun pm_W_law 2324).trans rfl
theorem rl_W_law_2325 : (am_pg z_W_law).2 2325 = some (.aload_n 0, 2326, 0, 0, 0, 0, 0, []) := (congrFun pm_W_law 2325).trans rfl
theorem rl_W_law_2326 : (am_pg z_W_law).2 2326 = some (.iload_n 3, 2327, 3, 0, 0, 0, 0, []) := (congrFun pm_W_law 2326).trans rfl
theorem rl_W_law_2327 : (am_pg z_W_law).2 2327 = some (.iconst (3), 2328, 0, 0, 0, 0, 3, []) := (congrFun pm_W_law 2327).trans rfl
theorem rl_W_law_2328 : (am_pg z_W_law).2 2328 = some (.iadd, 2329, 0, 0, 0, 0, 0, []) := (congrFun pm_W_law 2328).trans rfl
theorem rl_W_law_2329 : (am_pg z_W_law).2 2329 = some (.iaload, 2330, 0, 0, 0, 0, 0, []) := (congrFun pm_W_law 2329).trans rfl
theorem rl_W_law_2330 : (am_pg z_W_law).2 2330 = some (.aload_n 0, 2331, 0, 0, 0, 0, 0, []) := (congrFun pm_W_law 2330).trans rfl
theorem rl_W_law_2331 : (am_pg z_W_law).2 2331 = some (.iload_n 3, 2332, 3, 0, 0, 0, 0, []) := (congrFun pm_W_law 2331).trans rfl
theorem rl_W_law_2332 : (am_pg z_W_law).2 2332 = some (.iconst (4), 2333, 0, 0, 0, 0, 4, []) := (congrFun pm_W_law 2332).trans rfl
theorem rl_W_law_2333 : (am_pg z_W_law).2 2333 = some (.iadd, 2334, 0, 0, 0, 0, 0, []) := (congrFun pm_W_law 2333).trans rfl
theorem rl_W_law_2334 : (am_pg z_W_law).2 2334 = some (.iaload, 2335, 0, 0, 0, 0, 0, []) := (congrFun pm_W_law 2334).trans rfl
theorem rl_W_law_2335 : (am_pg z_W_law).2 2335 = some (.aload_n 0, 2336, 0, 0, 0, 0, 0, []) := (congrFun pm_W_law 2335).trans rfl
theorem rl_W_law_2336 : (am_pg z_W_law).2 2336 = some (.iload_n 3, 2337, 3, 0, 0, 0, 0, []) := (congrFun pm_W_law 2336).trans rfl
theorem rl_W_law_2337 : (am_pg z_W_law).2 2337 = some (.iconst (5), 2338, 0, 0, 0, 0, 5, []) := (congrFun pm_W_law 2337).trans rfl
theorem rl_W_law_2338 : (am_pg z_W_law).2 2338 = some (.iadd, 2339, 0, 0, 0, 0, 0, []) := (congrFun pm_W_law 2338).trans rfl
theorem rl_W_law_2339 : (am_pg z_W_law).2 2339 = some (.iaload, 2340, 0, 0, 0, 0, 0, []) := (congrFun pm_W_law 2339).trans rfl
theorem rl_W_law_2340 : (am_pg z_W_law).2 2340 = some (.invokevirtual 238, 2343, 198, 5, 9, 316, 0, []) := (congrFun pm_W_law 2340).trans rfl
theorem rl_W_law_2343 : (am_pg z_W_law).2 2343 = some (.if_icmp .eq (130), 2346, 2473, 0, 0, 0, 0, []) := (congrFun pm_W_law 2343).trans rfl
theorem rl_W_law_2346 : (am_pg z_W_law).2 2346 = some (.iconst (0), 2347, 0, 0, 0, 0, 0, []) := (congrFun pm_W_law 2346).trans rfl
theorem rl_W_law_2347 : (am_pg z_W_law).2 2347 = some (.ireturn, 2348, 0, 0, 1, 0, 0, []) := (congrFun pm_W_law 2347).trans rfl
theorem rl_W_law_2348 : (am_pg z_W_law).2 2348 = some (.aload_n 1, 2349, 1, 0, 0, 0, 0, []) := (congrFun pm_W_law 2348).trans rfl
theorem rl_W_law_2349 : (am_pg z_W_law).2 2349 = some (.aload_n 0, 2350, 0, 0, 0, 0, 0, []) := (congrFun pm_W_law 2349).trans rfl
theorem rl_W_law_2350 : (am_pg z_W_law).2 2350 = some (.iload_n 3, 2351, 3, 0, 0, 0, 0, []) := (congrFun pm_W_law 2350).trans rfl
theorem rl_W_law_2351 : (am_pg z_W_law).2 2351 = some (.iconst (1), 2352, 0, 0, 0, 0, 1, []) := (congrFun pm_W_law 2351).trans rfl
theorem rl_W_law_2352 : (am_pg z_W_law).2 2352 = some (.iadd, 2353, 0, 0, 0, 0, 0, []) := (congrFun pm_W_law 2352).trans rfl
theorem rl_W_law_2353 : (am_pg z_W_law).2 2353 = some (.iaload, 2354, 0, 0, 0, 0, 0, []) := (congrFun pm_W_law 2353).trans rfl
theorem rl_W_law_2354 : (am_pg z_W_law).2 2354 = some (.aload_n 0, 2355, 0, 0, 0, 0, 0, []) := (congrFun pm_W_law 2354).trans rfl
theorem rl_W_law_2355 : (am_pg z_W_law).2 2355 = some (.iload_n 3, 2356, 3, 0, 0, 0, 0, []) := (congrFun pm_W_law 2355).trans rfl
theorem rl_W_law_2356 : (am_pg z_W_law).2 2356 = some (.iconst (2), 2357, 0, 0, 0, 0, 2, []) := (congrFun pm_W_law 2356).trans rfl
theorem rl_W_law_2357 : (am_pg z_W_law).2 2357 = some (.iadd, 2358, 0, 0, 0, 0, 0, []) := (congrFun pm_W_law 2357).trans rfl
theorem rl_W_law_2358 : (am_pg z_W_law).2 2358 = some (.iaload, 2359, 0, 0, 0, 0, 0, []) := (congrFun pm_W_law 2358).trans rfl
theorem rl_W_law_2359 : (am_pg z_W_law).2 2359 = some (.invokevirtual 239, 2362, 55, 2, 8, 194, 0, []) := (congrFun pm_W_law 2359).trans rfl
theorem rl_W_law_2362 : (am_pg z_W_law).2 2362 = some (.aload_n 2, 2363, 2, 0, 0, 0, 0, []) := (congrFun pm_W_law 2362).trans rfl
theorem rl_W_law_2363 : (am_pg z_W_law).2 2363 = some (.aload_n 0, 2364, 0, 0, 0, 0, 0, []) := (congrFun pm_W_law 2363).trans rfl
theorem rl_W_law_2364 : (am_pg z_W_law).2 2364 = some (.iload_n 3, 2365, 3, 0, 0, 0, 0, []) := (congrFun pm_W_law 2364).trans rfl
theorem rl_W_law_2365 : (am_pg z_W_law).2 2365 = some (.iconst (1), 2366, 0, 0, 0, 0, 1, []) := (congrFun pm_W_law 2365).trans rfl
theorem rl_W_law_2366 : (am_pg z_W_law).2 2366 = some (.iadd, 2367, 0, 0, 0, 0, 0, []) := (congrFun pm_W_law 2366).trans rfl
theorem rl_W_law_2367 : (am_pg z_W_law).2 2367 = some (.iaload, 2368, 0, 0, 0, 0, 0, []) := (congrFun pm_W_law 2367).trans rfl
theorem rl_W_law_2368 : (am_pg z_W_law).2 2368 = some (.aload_n 0, 2369, 0, 0, 0, 0, 0, []) := (congrFun pm_W_law 2368).trans rfl
theorem rl_W_law_2369 : (am_pg z_W_law).2 2369 = some (.iload_n 3, 2370, 3, 0, 0, 0, 0, []) := (congrFun pm_W_law 2369).trans rfl
theorem rl_W_law_2370 : (am_pg z_W_law).2 2370 = some (.iconst (2), 2371, 0, 0, 0, 0, 2, []) := (congrFun pm_W_law 2370).trans rfl
theorem rl_W_law_2371 : (am_pg z_W_law).2 2371 = some (.iadd, 2372, 0, 0, 0, 0, 0, []) := (congrFun pm_W_law 2371).trans rfl
theorem rl_W_law_2372 : (am_pg z_W_law).2 2372 = some (.iaload, 2373, 0, 0, 0, 0, 0, []) := (congrFun pm_W_law 2372).trans rfl
theorem rl_W_law_2373 : (am_pg z_W_law).2 2373 = some (.invokevirtual 242, 2376, 199, 2, 9, 320, 0, []) := (congrFun pm_W_law 2373).trans rfl
theorem rl_W_law_2376 : (am_pg z_W_law).2 2376 = some (.if_icmp .eq (97), 2379, 2473, 0, 0, 0, 0, []) := (congrFun pm_W_law 2376).trans rfl
theorem rl_W_law_2379 : (am_pg z_W_law).2 2379 = some (.iconst (0), 2380, 0, 0, 0, 0, 0, []) := (congrFun pm_W_law 2379).trans rfl
theorem rl_W_law_2380 : (am_pg z_W_law).2 2380 = some (.ireturn, 2381, 0, 0, 1, 0, 0, []) := (congrFun pm_W_law 2380).trans rfl
theorem rl_W_law_2381 : (am_pg z_W_law).2 2381 = some (.aload_n 1, 2382, 1, 0, 0, 0, 0, []) := (congrFun pm_W_law 2381).trans rfl
theorem rl_W_law_2382 : (am_pg z_W_law).2 2382 = some (.aload_n 0, 2383, 0, 0, 0, 0, 0, []) := (congrFun pm_W_law 2382).trans rfl
theorem rl_W_law_2383 : (am_pg z_W_law).2 2383 = some (.iload_n 3, 2384, 3, 0, 0, 0, 0, []) := (congrFun pm_W_law 2383).trans rfl
theorem rl_W_law_2384 : (am_pg z_W_law).2 2384 = some (.iconst (1), 2385, 0, 0, 0, 0, 1, []) := (congrFun pm_W_law 2384).trans rfl
theorem rl_W_law_2385 : (am_pg z_W_law).2 2385 = some (.iadd, 2386, 0, 0, 0, 0, 0, []) := (congrFun pm_W_law 2385).trans rfl
theorem rl_W_law_2386 : (am_pg z_W_law).2 2386 = some (.iaload, 2387, 0, 0, 0, 0, 0, []) := (congrFun pm_W_law 2386).trans rfl
theorem rl_W_law_2387 : (am_pg z_W_law).2 2387 = some (.aload_n 0, 2388, 0, 0, 0, 0, 0, []) := (congrFun pm_W_law 2387).trans rfl
theorem rl_W_law_2388 : (am_pg z_W_law).2 2388 = some (.iload_n 3, 2389, 3, 0, 0, 0, 0, []) := (congrFun pm_W_law 2388).trans rfl
theorem rl_W_law_2389 : (am_pg z_W_law).2 2389 = some (.iconst (2), 2390, 0, 0, 0, 0, 2, []) := (congrFun pm_W_law 2389).trans rfl
theorem rl_W_law_2390 : (am_pg z_W_law).2 2390 = some (.iadd, 2391, 0, 0, 0, 0, 0, []) := (congrFun pm_W_law 2390).trans rfl
theorem rl_W_law_2391 : (am_pg z_W_law).2 2391 = some (.iaload, 2392, 0, 0, 0, 0, 0, []) := (congrFun pm_W_law 2391).trans rfl
theorem rl_W_law_2392 : (am_pg z_W_law).2 2392 = some (.aload_n 0, 2393, 0, 0, 0, 0, 0, []) := (congrFun pm_W_law 2392).trans rfl
theorem rl_W_law_2393 : (am_pg z_W_law).2 2393 = some (.iload_n 3, 2394, 3, 0, 0, 0, 0, []) := (congrFun pm_W_law 2393).trans rfl
theorem rl_W_law_2394 : (am_pg z_W_law).2 2394 = some (.iconst (3), 2395, 0, 0, 0, 0, 3, []) := (congrFun pm_W_law 2394).trans rfl
theorem rl_W_law_2395 : (am_pg z_W_law).2 2395 = some (.iadd, 2396, 0, 0, 0, 0, 0, []) := (congrFun pm_W_law 2395).trans rfl
theorem rl_W_law_2396 : (am_pg z_W_law).2 2396 = some (.iaload, 2397, 0, 0, 0, 0, 0, []) := (congrFun pm_W_law 2396).trans rfl
theorem rl_W_law_2397 : (am_pg z_W_law).2 2397 = some (.invokevirtual 243, 2400, 56, 3, 8, 195, 0, []) := (congrFun pm_W_law 2397).trans rfl
theorem rl_W_law_2400 : (am_pg z_W_law).2 2400 = some (.aload_n 2, 2401, 2, 0, 0, 0, 0, []) := (congrFun pm_W_law 2400).trans rfl
theorem rl_W_law_2401 : (am_pg z_W_law).2 2401 = some (.aload_n 0, 2402, 0, 0, 0, 0, 0, []) := (congrFun pm_W_law 2401).trans rfl
theorem rl_W_law_2402 : (am_pg z_W_law).2 2402 = some (.iload_n 3, 2403, 3, 0, 0, 0, 0, []) := (congrFun pm_W_law 2402).trans rfl
theorem rl_W_law_2403 : (am_pg z_W_law).2 2403 = some (.iconst (1), 2404, 0, 0, 0, 0, 1, []) := (congrFun pm_W_law 2403).trans rfl
theorem rl_W_law_2404 : (am_pg z_W_law).2 2404 = some (.iadd, 2405, 0, 0, 0, 0, 0, []) := (congrFun pm_W_law 2404).trans rfl
theorem rl_W_law_2405 : (am_pg z_W_law).2 2405 = some (.iaload, 2406, 0, 0, 0, 0, 0, []) := (congrFun pm_W_law 2405).trans rfl
theorem rl_W_law_2406 : (am_pg z_W_law).2 2406 = some (.aload_n 0, 2407, 0, 0, 0, 0, 0, []) := (congrFun pm_W_law 2406).trans rfl
theorem rl_W_law_2407 : (am_pg z_W_law).2 2407 = some (.iload_n 3, 2408, 3, 0, 0, 0, 0, []) := (congrFun pm_W_law 2407).trans rfl
theorem rl_W_law_2408 : (am_pg z_W_law).2 2408 = some (.iconst (2), 2409, 0, 0, 0, 0, 2, []) := (congrFun pm_W_law 2408).trans rfl
theorem rl_W_law_2409 : (am_pg z_W_law).2 2409 = some (.iadd, 2410, 0, 0, 0, 0, 0, []) := (congrFun pm_W_law 2409).trans rfl
theorem rl_W_law_2410 : (am_pg z_W_law).2 2410 = some (.iaload, 2411, 0, 0, 0, 0, 0, []) := (congrFun pm_W_law 2410).trans rfl
theorem rl_W_law_2411 : (am_pg z_W_law).2 2411 = some (.aload_n 0, 2412, 0, 0, 0, 0, 0, []) := (congrFun pm_W_law 2411).trans rfl
theorem rl_W_law_2412 : (am_pg z_W_law).2 2412 = some (.iload_n 3, 2413, 3, 0, 0, 0, 0, []) := (congrFun pm_W_law 2412).trans rfl
theorem rl_W_law_2413 : (am_pg z_W_law).2 2413 = some (.iconst (3), 2414, 0, 0, 0, 0, 3, []) := (congrFun pm_W_law 2413).trans rfl
theorem rl_W_law_2414 : (am_pg z_W_law).2 2414 = some (.iadd, 2415, 0, 0, 0, 0, 0, []) := (congrFun pm_W_law 2414).trans rfl
theorem rl_W_law_2415 : (am_pg z_W_law).2 2415 = some (.iaload, 2416, 0, 0, 0, 0, 0, []) := (congrFun pm_W_law 2415).trans rfl
theorem rl_W_law_2416 : (am_pg z_W_law).2 2416 = some (.invokevirtual 246, 2419, 200, 3, 9, 321, 0, []) := (congrFun pm_W_law 2416).trans rfl
theorem rl_W_law_2419 : (am_pg z_W_law).2 2419 = some (.if_icmp .eq (54), 2422, 2473, 0, 0, 0, 0, []) := (congrFun pm_W_law 2419).trans rfl
theorem rl_W_law_2422 : (am_pg z_W_law).2 2422 = some (.iconst (0), 2423, 0, 0, 0, 0, 0, []) := (congrFun pm_W_law 2422).trans rfl
theorem rl_W_law_2423 : (am_pg z_W_law).2 2423 = some (.ireturn, 2424, 0, 0, 1, 0, 0, []) := (congrFun pm_W_law 2423).trans rfl
theorem rl_W_law_2424 : (am_pg z_W_law).2 2424 = some (.aload_n 1, 2425, 1, 0, 0, 0, 0, []) := (congrFun pm_W_law 2424).trans rfl
theorem rl_W_law_2425 : (am_pg z_W_law).2 2425 = some (.aload_n 0, 2426, 0, 0, 0, 0, 0, []) := (congrFun pm_W_law 2425).trans rfl
theorem rl_W_law_2426 : (am_pg z_W_law).2 2426 = some (.iload_n 3, 2427, 3, 0, 0, 0, 0, []) := (congrFun pm_W_law 2426).trans rfl
theorem rl_W_law_2427 : (am_pg z_W_law).2 2427 = some (.iconst (1), 2428, 0, 0, 0, 0, 1, []) := (congrFun pm_W_law 2427).trans rfl
theorem rl_W_law_2428 : (am_pg z_W_law).2 2428 = some (.iadd, 2429, 0, 0, 0, 0, 0, []) := (congrFun pm_W_law 2428).trans rfl
theorem rl_W_law_2429 : (am_pg z_W_law).2 2429 = some (.iaload, 2430, 0, 0, 0, 0, 0, []) := (congrFun pm_W_law 2429).trans rfl
theorem rl_W_law_2430 : (am_pg z_W_law).2 2430 = some (.invokevirtual 247, 2433, 57, 1, 8, 198, 0, []) := (congrFun pm_W_law 2430).trans rfl
theorem rl_W_law_2433 : (am_pg z_W_law).2 2433 = some (.aload_n 2, 2434, 2, 0, 0, 0, 0, []) := (congrFun pm_W_law 2433).trans rfl
theorem rl_W_law_2434 : (am_pg z_W_law).2 2434 = some (.aload_n 0, 2435, 0, 0, 0, 0, 0, []) := (congrFun pm_W_law 2434).trans rfl
theorem rl_W_law_2435 : (am_pg z_W_law).2 2435 = some (.iload_n 3, 2436, 3, 0, 0, 0, 0, []) := (congrFun pm_W_law 2435).trans rfl
theorem rl_W_law_2436 : (am_pg z_W_law).2 2436 = some (.iconst (1), 2437, 0, 0, 0, 0, 1, []) := (congrFun pm_W_law 2436).trans rfl
theorem rl_W_law_2437 : (am_pg z_W_law).2 2437 = some (.iadd, 2438, 0, 0, 0, 0, 0, []) := (congrFun pm_W_law 2437).trans rfl
theorem rl_W_law_2438 : (am_pg z_W_law).2 2438 = some (.iaload, 2439, 0, 0, 0, 0, 0, []) := (congrFun pm_W_law 2438).trans rfl
theorem rl_W_law_2439 : (am_pg z_W_law).2 2439 = some (.invokevirtual 250, 2442, 206, 1, 9, 327, 0, []) := (congrFun pm_W_law 2439).trans rfl
theorem rl_W_law_2442 : (am_pg z_W_law).2 2442 = some (.if_icmp .eq (31), 2445, 2473, 0, 0, 0, 0, []) := (congrFun pm_W_law 2442).trans rfl
theorem rl_W_law_2445 : (am_pg z_W_law).2 2445 = some (.iconst (0), 2446, 0, 0, 0, 0, 0, []) := (congrFun pm_W_law 2445).trans rfl
theorem rl_W_law_2446 : (am_pg z_W_law).2 2446 = some (.ireturn, 2447, 0, 0, 1, 0, 0, []) := (congrFun pm_W_law 2446).trans rfl
theorem rl_W_law_2447 : (am_pg z_W_law).2 2447 = some (.aload_n 1, 2448, 1, 0, 0, 0, 0, []) := (congrFun pm_W_law 2447).trans rfl
theorem rl_W_law_2448 : (am_pg z_W_law).2 2448 = some (.invokevirtual 251, 2451, 58, 0, 8, 199, 0, []) := (congrFun pm_W_law 2448).trans rfl
theorem rl_W_law_2451 : (am_pg z_W_law).2 2451 = some (.aload_n 2, 2452, 2, 0, 0, 0, 0, []) := (congrFun pm_W_law 2451).trans rfl
theorem rl_W_law_2452 : (am_pg z_W_law).2 2452 = some (.invokevirtual 254, 2455, 207, 0, 9, 328, 0, []) := (congrFun pm_W_law 2452).trans rfl
theorem rl_W_law_2455 : (am_pg z_W_law).2 2455 = some (.if_icmp .eq (18), 2458, 2473, 0, 0, 0, 0, []) := (congrFun pm_W_law 2455).trans rfl
theorem rl_W_law_2458 : (am_pg z_W_law).2 2458 = some (.iconst (0), 2459, 0, 0, 0, 0, 0, []) := (congrFun pm_W_law 2458).trans rfl
theorem rl_W_law_2459 : (am_pg z_W_law).2 2459 = some (.ireturn, 2460, 0, 0, 1, 0, 0, []) := (congrFun pm_W_law 2459).trans rfl
theorem rl_W_law_2460 : (am_pg z_W_law).2 2460 = some (.aload_n 1, 2461, 1, 0, 0, 0, 0, []) := (congrFun pm_W_law 2460).trans rfl
theorem rl_W_law_2461 : (am_pg z_W_law).2 2461 = some (.invokevirtual 255, 2464, 59, 0, 8, 203, 0, []) := (congrFun pm_W_law 2461).trans rfl
theorem rl_W_law_2464 : (am_pg z_W_law).2 2464 = some (.aload_n 2, 2465, 2, 0, 0, 0, 0, []) := (congrFun pm_W_law 2464).trans rfl
theorem rl_W_law_2465 : (am_pg z_W_law).2 2465 = some (.invokevirtual 258, 2468, 208, 0, 9, 329, 0, []) := (congrFun pm_W_law 2465).trans rfl
theorem rl_W_law_2468 : (am_pg z_W_law).2 2468 = some (.if_icmp .eq (5), 2471, 2473, 0, 0, 0, 0, []) := (congrFun pm_W_law 2468).trans rfl
theorem rl_W_law_2471 : (am_pg z_W_law).2 2471 = some (.iconst (0), 2472, 0, 0, 0, 0, 0, []) := (congrFun pm_W_law 2471).trans rfl
theorem rl_W_law_2472 : (am_pg z_W_law).2 2472 = some (.ireturn, 2473, 0, 0, 1, 0, 0, []) := (congrFun pm_W_law 2472).trans rfl
theorem rl_W_law_2473 : (am_pg z_W_law).2 2473 = some (.iinc 3 (6), 2476, 3, 0, 0, 0, 6, []) := (congrFun pm_W_law 2473).trans rfl
theorem rl_W_law_2476 : (am_pg z_W_law).2 2476 = some (.goto (-2458), 2479, 18, 0, 0, 0, 0, []) := (congrFun pm_W_law 2476).trans rfl
theorem rl_W_law_2479 : (am_pg z_W_law).2 2479 = some (.iconst (1), 2480, 0, 0, 0, 0, 1, []) := (congrFun pm_W_law 2479).trans rfl
theorem rl_W_law_2480 : (am_pg z_W_law).2 2480 = some (.ireturn, 2481, 0, 0, 1, 0, 0, []) := (congrFun pm_W_law 2480).trans rfl
