set_option maxRecDepth 100000 in
set_option maxHeartbeats 4000000 in
theorem sg_W_law_284 {L : Nat} {xs : Nat → Int32} {A V : Nat → Nat → Int32} {K : Nat → Option Nat} {T : am_H} {v : Option Int32} {h' : am_H} {v3 : Int32} (k0 :
    ¬ ((v3 + 1) < 0 ∨ L ≤ (v3 + 1).toNatClampNeg) ∧ (
    ¬ ((v3 + 2) < 0 ∨ L ≤ (v3 + 2).toNatClampNeg) ∧ (
    ¬ ((v3 + 3) < 0 ∨ L ≤ (v3 + 3).toNatClampNeg) ∧ (
    ¬ ((v3 + 4) < 0 ∨ L ≤ (v3 + 4).toNatClampNeg) ∧ (
    ¬ ((v3 + 5) < 0 ∨ L ≤ (v3 + 5).toNatClampNeg) ∧ (
    am_fin [(z_L_feed, 0, [.ref 1, .int (xs (v3 + 1).toNatClampNeg), .int (xs (v3 + 2).toNatClampNeg), .int (xs (v3 + 3).toNatClampNeg), .int (xs (v3 + 4).toNatClampNeg), .int (xs (v3 + 5).toNatClampNeg)], []), (z_W_law, 313, [.ref 0, .ref 1, .ref 36, .int v3], [])] (hp L xs A V K T) v h')))))) : am_fin [(z_W_law, 284, [.ref 0, .ref 1, .ref 36, .int v3], [])] (hp L xs A V K T) v h' :=
  fn_aload_n rl_W_law_284 rfl (fn_aload_n rl_W_law_285 rfl (fn_iload_n rl_W_law_286 rfl (fn_iconst rl_W_law_287 (fn_iadd rl_W_law_288 (fn_iald rl_W_law_289 hp_0 (fun k5 => fn_aload_n rl_W_law_290 rfl (fn_iload_n rl_W_law_291 rfl (fn_iconst rl_W_law_292 (fn_iadd rl_W_law_293 (fn_iald rl_W_law_294 hp_0 (fun k4 => fn_aload_n rl_W_law_295 rfl (fn_iload_n rl_W_law_296 rfl (fn_iconst rl_W_law_297 (fn_iadd rl_W_law_298 (fn_iald rl_W_law_299 hp_0 (fun k3 => fn_aload_n rl_W_law_300 rfl (fn_iload_n rl_W_law_301 rfl (fn_iconst rl_W_law_302 (fn_iadd rl_W_law_303 (fn_iald rl_W_law_304 hp_0 (fun k2 => fn_aload_n rl_W_law_305 rfl (fn_iload_n rl_W_law_306 rfl (fn_iconst rl_W_law_307 (fn_iadd rl_W_law_308 (fn_iald rl_W_law_309 hp_0 (fun k1 => fn_virt (as := [.ref 1, .int (xs (v3 + 1).toNatClampNeg), .int (xs (v3 + 2).toNatClampNeg), .int (xs (v3 + 3).toNatClampNeg), .int (xs (v3 + 4).toNatClampNeg), .int (xs (v3 + 5).toNatClampNeg)]) (r := []) (ls' := [.ref 1, .int (xs (v3 + 1).toNatClampNeg), .int (xs (v3 + 2).toNatClampNeg), .int (xs (v3 + 3).toNatClampNeg), .int (xs (v3 + 4).toNatClampNeg), .int (xs (v3 + 5).toNatClampNeg)]) rl_W_law_310 rfl hp_1 rfl rfl pl_L_feed rfl rfl (k1)) k2))))) k3))))) k4))))) k5))))) k0)))))
set_option maxRecDepth 100000 in
set_option maxHeartbeats 4000000 in
theorem sg_W_law_313r {L : Nat} {xs : Nat → Int32} {A V : Nat → Nat → Int32} {K : Nat → Option Nat} {T : am_H} {v : Option Int32} {h' : am_H} {v3 r : Int32} (k0 :
    ¬ ((v3 + 1) < 0 ∨ L ≤ (v3 + 1).toNatClampNeg) ∧ (
    ¬ ((v3 + 2) < 0 ∨ L ≤ (v3 + 2).toNatClampNeg) ∧ (
    ¬ ((v3 + 3) < 0 ∨ L ≤ (v3 + 3).toNatClampNeg) ∧ (
    ¬ ((v3 + 4) < 0 ∨ L ≤ (v3 + 4).toNatClampNeg) ∧ (
    ¬ ((v3 + 5) < 0 ∨ L ≤ (v3 + 5).toNatClampNeg) ∧ (
    am_fin [(z_M_feed, 0, [.ref 36, .int (xs (v3 + 1).toNatClampNeg), .int (xs (v3 + 2).toNatClampNeg), .int (xs (v3 + 3).toNatClampNeg), .int (xs (v3 + 4).toNatClampNeg), .int (xs (v3 + 5).toNatClampNeg)], []), (z_W_law, 342, [.ref 0, .ref 1, .ref 36, .int v3], [.int r])] (hp L xs A V K T) v h')))))) : am_fin [(z_W_law, 313, [.ref 0, .ref 1, .ref 36, .int v3], [.int r])] (hp L xs A V K T) v h' :=
  fn_aload_n rl_W_law_313 rfl (fn_aload_n rl_W_law_314 rfl (fn_iload_n rl_W_law_315 rfl (fn_iconst rl_W_law_316 (fn_iadd rl_W_law_317 (fn_iald rl_W_law_318 hp_0 (fun k10 => fn_aload_n rl_W_law_319 rfl (fn_iload_n rl_W_law_320 rfl (fn_iconst rl_W_law_321 (fn_iadd rl_W_law_322 (fn_iald rl_W_law_323 hp_0 (fun k9 => fn_aload_n rl_W_law_324 rfl (fn_iload_n rl_W_law_325 rfl (fn_iconst rl_W_law_326 (fn_iadd rl_W_law_327 (fn_iald rl_W_law_328 hp_0 (fun k8 => fn_aload_n rl_W_law_329 rfl (fn_iload_n rl_W_law_330 rfl (fn_iconst rl_W_law_331 (fn_iadd rl_W_law_332 (fn_iald rl_W_law_333 hp_0 (fun k7 => fn_aload_n rl_W_law_334 rfl (fn_iload_n rl_W_law_335 rfl (fn_iconst rl_W_law_336 (fn_iadd rl_W_law_337 (fn_iald rl_W_law_338 hp_0 (fun k6 => fn_virt (as := [.ref 36, .int (xs (v3 + 1).toNatClampNeg), .int (xs (v3 + 2).toNatClampNeg), .int (xs (v3 + 3).toNatClampNeg), .int (xs (v3 + 4).toNatClampNeg), .int (xs (v3 + 5).toNatClampNeg)]) (r := [.int r]) (ls' := [.ref 36, .int (xs (v3 + 1).toNatClampNeg), .int (xs (v3 + 2).toNatClampNeg), .int (xs (v3 + 3).toNatClampNeg), .int (xs (v3 + 4).toNatClampNeg), .int (xs (v3 + 5).toNatClampNeg)]) rl_W_law_339 rfl hp_36 rfl rfl pl_M_feed rfl rfl (k6)) k7))))) k8))))) k9))))) k10))))) k0)))))
set_option maxRecDepth 100000 in
set_option maxHeartbeats 4000000 in
theorem sg_W_law_342r {L : Nat} {xs : Nat → Int32} {A V : Nat → Nat → Int32} {K : Nat → Option Nat} {T : am_H} {v : Option Int32} {h' : am_H} {v3 r s : Int32} (k0 :
    if r = s then (
      am_fin [(z_W_law, 18, [.ref 0, .ref 1, .ref 36, .int (v3 + 6)], [])] (hp L xs A V K T) v h')
    else (
      v = some 0 ∧ h' = hp L xs A V K T)) : am_fin [(z_W_law, 342, [.ref 0, .ref 1, .ref 36, .int v3], [.int s, .int r])] (hp L xs A V K T) v h' :=
  fn_icmp_eq rl_W_law_342 (fun k11 => fn_iinc (ls' := [.ref 0, .ref 1, .ref 36, .int (v3 + 6)]) rl_W_law_2473 rfl rfl rfl (fn_goto rl_W_law_2476 (k11))) (fun k12 => fn_iconst rl_W_law_345 (fn_reti rl_W_law_346 rfl k12)) k0
set_option maxRecDepth 100000 in
set_option maxHeartbeats 4000000 in
theorem sg_W_law_347 {L : Nat} {xs : Nat → Int32} {A V : Nat → Nat → Int32} {K : Nat → Option Nat} {T : am_H} {v : Option Int32} {h' : am_H} {v3 : Int32} (k0 :
    ¬ ((v3 + 1) < 0 ∨ L ≤ (v3 + 1).toNatClampNeg) ∧ (
    am_fin [(z_L_calendar, 0, [.ref 1, .int (xs (v3 + 1).toNatClampNeg), .null], []), (z_W_law, 356, [.ref 0, .ref 1, .ref 36, .int v3], [])] (hp L xs A V K T) v h')) : am_fin [(z_W_law, 347, [.ref 0, .ref 1, .ref 36, .int v3], [])] (hp L xs A V K T) v h' :=
  fn_aload_n rl_W_law_347 rfl (fn_aload_n rl_W_law_348 rfl (fn_iload_n rl_W_law_349 rfl (fn_iconst rl_W_law_350 (fn_iadd rl_W_law_351 (fn_iald rl_W_law_352 hp_0 (fun k13 => fn_virt (as := [.ref 1, .int (xs (v3 + 1).toNatClampNeg)]) (r := []) (ls' := [.ref 1, .int (xs (v3 + 1).toNatClampNeg), .null]) rl_W_law_353 rfl hp_1 rfl rfl pl_L_calendar rfl rfl (k13)) k0)))))
set_option maxRecDepth 100000 in
set_option maxHeartbeats 4000000 in
theorem sg_W_law_356r {L : Nat} {xs : Nat → Int32} {A V : Nat → Nat → Int32} {K : Nat → Option Nat} {T : am_H} {v : Option Int32} {h' : am_H} {v3 r : Int32} (k0 :
    ¬ ((v3 + 1) < 0 ∨ L ≤ (v3 + 1).toNatClampNeg) ∧ (
    am_fin [(z_M_calendar, 0, [.ref 36, .int (xs (v3 + 1).toNatClampNeg), .null], []), (z_W_law, 365, [.ref 0, .ref 1, .ref 36, .int v3], [.int r])] (hp L xs A V K T) v h')) : am_fin [(z_W_law, 356, [.ref 0, .ref 1, .ref 36, .int v3], [.int r])] (hp L xs A V K T) v h' :=
  fn_aload_n rl_W_law_356 rfl (fn_aload_n rl_W_law_357 rfl (fn_iload_n rl_W_law_358 rfl (fn_iconst rl_W_law_359 (fn_iadd rl_W_law_360 (fn_iald rl_W_law_361 hp_0 (fun k14 => fn_virt (as := [.ref 36, .int (xs (v3 + 1).toNatClampNeg)]) (r := [.int r]) (ls' := [.ref 36, .int (xs (v3 + 1).toNatClampNeg), .null]) rl_W_law_362 rfl hp_36 rfl rfl pl_M_calendar rfl rfl (k14)) k0)))))
set_option maxRecDepth 100000 in
set_option maxHeartbeats 4000000 in
theorem sg_W_law_365r {L : Nat} {xs : Nat → Int32} {A V : Nat → Nat → Int32} {K : Nat → Option Nat} {T : am_H} {v : Option Int32} {h' : am_H} {v3 r s : Int32} (k0 :
    if r = s then (
      am_fin [(z_W_law, 18, [.ref 0, .ref 1, .ref 36, .int (v3 + 6)], [])] (hp L xs A V K T) v h')
    else (
      v = some 0 ∧ h' = hp L xs A V K T)) : am_fin [(z_W_law, 365, [.ref 0, .ref 1, .ref 36, .int v3], [.int s, .int r])] (hp L xs A V K T) v h' :=
  fn_icmp_eq rl_W_law_365 (fun k15 => fn_iinc (ls' := [.ref 0, .ref 1, .ref 36, .int (v3 + 6)]) rl_W_law_2473 rfl rfl rfl (fn_goto rl_W_law_2476 (k15))) (fun k16 => fn_iconst rl_W_law_368 (fn_reti rl_W_law_369 rfl k16)) k0
set_option maxRecDepth 100000 in
set_option maxHeartbeats 4000000 in
theorem sg_W_law_370 {L : Nat} {xs : Nat → Int32} {A V : Nat → Nat → Int32} {K : Nat → Option Nat} {T : am_H} {v : Option Int32} {h' : am_H} {v3 : Int32} (k0 :
    ¬ ((v3 + 1) < 0 ∨ L ≤ (v3 + 1).toNatClampNeg) ∧ (
    ¬ ((v3 + 2) < 0 ∨ L ≤ (v3 + 2).toNatClampNeg) ∧ (
    ¬ ((v3 + 3) < 0 ∨ L ≤ (v3 + 3).toNatClampNeg) ∧ (
    am_fin [(z_L_stay, 0, [.ref 1, .int (xs (v3 + 1).toNatClampNeg), .int (xs (v3 + 2).toNatClampNeg), .int (xs (v3 + 3).toNatClampNeg)], []), (z_W_law, 389, [.ref 0, .ref 1, .ref 36, .int v3], [])] (hp L xs A V K T) v h')))) : am_fin [(z_W_law, 370, [.ref 0, .ref 1, .ref 36, .int v3], [])] (hp L xs A V K T) v h' :=
  fn_aload_n rl_W_law_370 rfl (fn_aload_n rl_W_law_371 rfl (fn_iload_n rl_W_law_372 rfl (fn_iconst rl_W_law_373 (fn_iadd rl_W_law_374 (fn_iald rl_W_law_375 hp_0 (fun k19 => fn_aload_n rl_W_law_376 rfl (fn_iload_n rl_W_law_377 rfl (fn_iconst rl_W_law_378 (fn_iadd rl_W_law_379 (fn_iald rl_W_law_380 hp_0 (fun k18 => fn_aload_n rl_W_law_381 rfl (fn_iload_n rl_W_law_382 rfl (fn_iconst rl_W_law_383 (fn_iadd rl_W_law_384 (fn_iald rl_W_law_385 hp_0 (fun k17 => fn_virt (as := [.ref 1, .int (xs (v3 + 1).toNatClampNeg), .int (xs (v3 + 2).toNatClampNeg), .int (xs (v3 + 3).toNatClampNeg)]) (r := []) (ls' := [.ref 1, .int (xs (v3 + 1).toNatClampNeg), .int (xs (v3 + 2).toNatClampNeg), .int (xs (v3 + 3).toNatClampNeg)]) rl_W_law_386 rfl hp_1 rfl rfl pl_L_stay rfl rfl (k17)) k18))))) k19))))) k0)))))
set_option maxRecDepth 100000 in
set_option maxHeartbeats 4000000 in
theorem sg_W_law_389r {L : Nat} {xs : Nat → Int32} {A V : Nat → Nat → Int32} {K : Nat → Option Nat} {T : am_H} {v : Option Int32} {h' : am_H} {v3 r : Int32} (k0 :
    ¬ ((v3 + 1) < 0 ∨ L ≤ (v3 + 1).toNatClampNeg) ∧ (
    ¬ ((v3 + 2) < 0 ∨ L ≤ (v3 + 2).toNatClampNeg) ∧ (
    ¬ ((v3 + 3) < 0 ∨ L ≤ (v3 + 3).toNatClampNeg) ∧ (
    am_fin [(z_M_stay, 0, [.ref 36, .int (xs (v3 + 1).toNatClampNeg), .int (xs (v3 + 2).toNatClampNeg), .int (xs (v3 + 3).toNatClampNeg), .null, .null], []), (z_W_law, 408, [.ref 0, .ref 1, .ref 36, .int v3], [.int r])] (hp L xs A V K T) v h')))) : am_fin [(z_W_law, 389, [.ref 0, .ref 1, .ref 36, .int v3], [.int r])] (hp L xs A V K T) v h' :=
  fn_aload_n rl_W_law_389 rfl (fn_aload_n rl_W_law_390 rfl (fn_iload_n rl_W_law_391 rfl (fn_iconst rl_W_law_392 (fn_iadd rl_W_law_393 (fn_iald rl_W_law_394 hp_0 (fun k22 => fn_aload_n rl_W_law_395 rfl (fn_iload_n rl_W_law_396 rfl (fn_iconst rl_W_law_397 (fn_iadd rl_W_law_398 (fn_iald rl_W_law_399 hp_0 (fun k21 => fn_aload_n rl_W_law_400 rfl (fn_iload_n rl_W_law_401 rfl (fn_iconst rl_W_law_402 (fn_iadd rl_W_law_403 (fn_iald rl_W_law_404 hp_0 (fun k20 => fn_virt (as := [.ref 36, .int (xs (v3 + 1).toNatClampNeg), .int (xs (v3 + 2).toNatClampNeg), .int (xs (v3 + 3).toNatClampNeg)]) (r := [.int r]) (ls' := [.ref 36, .int (xs (v3 + 1).toNatClampNeg), .int (xs (v3 + 2).toNatClampNeg), .int (xs (v3 + 3).toNatClampNeg), .null, .null]) rl_W_law_405 rfl hp_36 rfl rfl pl_M_stay rfl rfl (k20)) k21))))) k22))))) k0)))))
set_option maxRecDepth 100000 in
set_option maxHeartbeats 4000000 in
theorem sg_W_law_408r {L : Nat} {xs : Nat → Int32} {A V : Nat → Nat → Int32} {K : Nat → Option Nat} {T : am_H} {v : Option Int32} {h' : am_H} {v3 r s : Int32} (k0 :
    if r = s then (
      am_fin [(z_W_law, 18, [.ref 0, .ref 1, .ref 36, .int (v3 + 6)], [])] (hp L xs A V K T) v h')
    else (
      v = some 0 ∧ h' = hp L xs A V K T)) : am_fin [(z_W_law, 408, [.ref 0, .ref 1, .ref 36, .int v3], [.int s, .int r])] (hp L xs A V K T) v h' :=
  fn_icmp_eq rl_W_law_408 (fun k23 => fn_iinc (ls' := [.ref 0, .ref 1, .ref 36, .int (v3 + 6)]) rl_W_law_2473 rfl rfl rfl (fn_goto rl_W_law_2476 (k23))) (fun k24 => fn_iconst rl_W_law_411 (fn_reti rl_W_law_412 rfl k24)) k0
set_option maxRecDepth 100000 in
set_option maxHeartbeats 4000000 in
theorem sg_W_law_413 {L : Nat} {xs : Nat → Int32} {A V : Nat → Nat → Int32} {K : Nat → Option Nat} {T : am_H} {v : Option Int32} {h' : am_H} {v3 : Int32} (k0 :
    ¬ ((v3 + 1) < 0 ∨ L ≤ (v3 + 1).toNatClampNeg) ∧ (
    ¬ ((v3 + 2) < 0 ∨ L ≤ (v3 + 2).toNatClampNeg) ∧ (
    ¬ ((v3 + 3) < 0 ∨ L ≤ (v3 + 3).toNatClampNeg) ∧ (
    ¬ ((v3 + 4) < 0 ∨ L ≤ (v3 + 4).toNatClampNeg) ∧ (
    if (xs (v3 + 4).toNatClampNeg) = 0 then (
      am_fin [(z_L_home, 0, [.ref 1, .int (xs (v3 + 1).toNatClampNeg), .int (xs (v3 + 2).toNatClampNeg), .int (xs (v3 + 3).toNatClampNeg), .int 0, .null, .null], []), (z_W_law, 445, [.ref 0, .ref 1, .ref 36, .int v3], [])] (hp L xs A V K T) v h')
    else (
      am_fin [(z_L_home, 0, [.ref 1, .int (xs (v3 + 1).toNatClampNeg), .int (xs (v3 + 2).toNatClampNeg), .int (xs (v3 + 3).toNatClampNeg), .int 1, .null, .null], []), (z_W_law, 445, [.ref 0, .ref 1, .ref 36, .int v3], [])] (hp L xs A V K T) v h')))))) : am_fin [(z_W_law, 413, [.ref 0, .ref 1, .ref 36, .int v3], [])] (hp L xs A V K T) v h' :=
  fn_aload_n rl_W_law_413 rfl (fn_aload_n rl_W_law_414 rfl (fn_iload_n rl_W_law_415 rfl (fn_iconst rl_W_law_416 (fn_iadd rl_W_law_417 (fn_iald rl_W_law_418 hp_0 (fun k30 => fn_aload_n rl_W_law_419 rfl (fn_iload_n rl_W_law_420 rfl (fn_iconst rl_W_law_421 (fn_iadd rl_W_law_422 (fn_iald rl_W_law_423 hp_0 (fun k29 => fn_aload_n rl_W_law_424 rfl (fn_iload_n rl_W_law_425 rfl (fn_iconst rl_W_law_426 (fn_iadd rl_W_law_427 (fn_iald rl_W_law_428 hp_0 (fun k28 => fn_aload_n rl_W_law_429 rfl (fn_iload_n rl_W_law_430 rfl (fn_iconst rl_W_law_431 (fn_iadd rl_W_law_432 (fn_iald rl_W_law_433 hp_0 (fun k27 => fn_if_eq rl_W_law_434 (fun k25 => fn_iconst rl_W_law_441 (fn_virt (as := [.ref 1, .int (xs (v3 + 1).toNatClampNeg), .int (xs (v3 + 2).toNatClampNeg), .int (xs (v3 + 3).toNatClampNeg), .int 0]) (r := []) (ls' := [.ref 1, .int (xs (v3 + 1).toNatClampNeg), .int (xs (v3 + 2).toNatClampNeg), .int (xs (v3 + 3).toNatClampNeg), .int 0, .null, .null]) rl_W_law_442 rfl hp_1 rfl rfl pl_L_home rfl rfl (k25))) (fun k26 => fn_iconst rl_W_law_437 (fn_goto rl_W_law_438 (fn_virt (as := [.ref 1, .int (xs (v3 + 1).toNatClampNeg), .int (xs (v3 + 2).toNatClampNeg), .int (xs (v3 + 3).toNatClampNeg), .int 1]) (r := []) (ls' := [.ref 1, .int (xs (v3 + 1).toNatClampNeg), .int (xs (v3 + 2).toNatClampNeg), .int (xs (v3 + 3).toNatClampNeg), .int 1, .null, .null]) rl_W_law_442 rfl hp_1 rfl rfl pl_L_home rfl rfl (k26)))) k27) k28))))) k29))))) k30))))) k0)))))
set_option maxRecDepth 100000 in
set_option maxHeartbeats 4000000 in
theorem sg_W_law_445r {L : Nat} {xs : Nat → Int32} {A V : Nat → Nat → Int32} {K : Nat → Option Nat} {T : am_H} {v : Option Int32} {h' : am_H} {v3 r : Int32} (k0 :
    ¬ ((v3 + 1) < 0 ∨ L ≤ (v3 + 1).toNatClampNeg) ∧ (
    ¬ ((v3 + 2) < 0 ∨ L ≤ (v3 + 2).toNatClampNeg) ∧ (
    ¬ ((v3 + 3) < 0 ∨ L ≤ (v3 + 3).toNatClampNeg) ∧ (
    ¬ ((v3 + 4) < 0 ∨ L ≤ (v3 + 4).toNatClampNeg) ∧ (
    if (xs (v3 + 4).toNatClampNeg) = 0 then (
      am_fin [(z_M_home, 0, [.ref 36, .int (xs (v3 + 1).toNatClampNeg), .int (xs (v3 + 2).toNatClampNeg), .int (xs (v3 + 3).toNatClampNeg), .int 0, .null, .null, .null], []), (z_W_law, 477, [.ref 0, .ref 1, .ref 36, .int v3], [.int r])] (hp L xs A V K T) v h')
    else (
      am_fin [(z_M_home, 0, [.ref 36, .int (xs (v3 + 1).toNatClampNeg), .int (xs (v3 + 2).toNatClampNeg), .int (xs (v3 + 3).toNatClampNeg), .int 1, .null, .null, .null], []), (z_W_law, 477, [.ref 0, .ref 1, .ref 36, .int v3], [.int r])] (hp L xs A V K T) v h')))))) : am_fin [(z_W_law, 445, [.ref 0, .ref 1, .ref 36, .int v3], [.int r])] (hp L xs A V K T) v h' :=
  fn_aload_n rl_W_law_445 rfl (fn_aload_n rl_W_law_446 rfl (fn_iload_n rl_W_law_447 rfl (fn_iconst rl_W_law_448 (fn_iadd rl_W_law_449 (fn_iald rl_W_law_450 hp_0 (fun k36 => fn_aload_n rl_W_law_451 rfl (fn_iload_n rl_W_law_452 rfl (fn_iconst rl_W_law_453 (fn_iadd rl_W_law_454 (fn_iald rl_W_law_455 hp_0 (fun k35 => fn_aload_n rl_W_law_456 rfl (fn_iload_n rl_W_law_457 rfl (fn_iconst rl_W_law_458 (fn_iadd rl_W_law_459 (fn_iald rl_W_law_460 hp_0 (fun k34 => fn_aload_n rl_W_law_461 rfl (fn_iload_n rl_W_law_462 rfl (fn_iconst rl_W_law_463 (fn_iadd rl_W_law_464 (fn_iald rl_W_law_465 hp_0 (fun k33 => fn_if_eq rl_W_law_466 (fun k31 => fn_iconst rl_W_law_473 (fn_virt (as := [.ref 36, .int (xs (v3 + 1).toNatClampNeg), .int (xs (v3 + 2).toNatClampNeg), .int (xs (v3 + 3).toNatClampNeg), .int 0]) (r := [.int r]) (ls' := [.ref 36, .int (xs (v3 + 1).toNatClampNeg), .int (xs (v3 + 2).toNatClampNeg), .int (xs (v3 + 3).toNatClampNeg), .int 0, .null, .null, .null]) rl_W_law_474 rfl hp_36 rfl rfl pl_M_home rfl rfl (k31))) (fun k32 => fn_iconst rl_W_law_469 (fn_goto rl_W_law_470 (fn_virt (as := [.ref 36, .int (xs (v3 + 1).toNatClampNeg), .int (xs (v3 + 2).toNatClampNeg), .int (xs (v3 + 3).toNatClampNeg), .int 1]) (r := [.int r]) (ls' := [.ref 36, .int (xs (v3 + 1).toNatClampNeg), .int (xs (v3 + 2).toNatClampNeg), .int (xs (v3 + 3).toNatClampNeg), .int 1, .null, .null, .null]) rl_W_law_474 rfl hp_36 rfl rfl pl_M_home rfl rfl (k32)))) k33) k34))))) k35))))) k36))))) k0)))))
set_option maxRecDepth 100000 in
set_option maxHeartbeats 4000000 in
theorem sg_W_law_477r {L : Nat} {xs : Nat → Int32} {A V : Nat → Nat → Int32} {K : Nat → Option Nat} {T : am_H} {v : Option Int32} {h' : am_H} {v3 r s : Int32} (k0 :
    if r = s then (
      am_fin [(z_W_law, 18, [.ref 0, .ref 1, .ref 36, .int (v3 + 6)], [])] (hp L xs A V K T) v h')
    else (
      v = some 0 ∧ h' = hp L xs A V K T)) : am_fin [(z_W_law, 477, [.ref 0, .ref 1, .ref 36, .int v3], [.int s, .int r])] (hp L xs A V K T) v h' :=
  fn_icmp_eq rl_W_law_477 (fun k37 => fn_iinc (ls' := [.ref 0, .ref 1, .ref 36, .int (v3 + 6)]) rl_W_law_2473 rfl rfl rfl (fn_goto rl_W_law_2476 (k37))) (fun k38 => fn_iconst rl_W_law_480 (fn_reti rl_W_law_481 rfl k38)) k0
set_option maxRecDepth 100000 in
set_option maxHeartbeats 4000000 in
theorem sg_W_law_482 {L : Nat} {xs : Nat → Int32} {A V : Nat → Nat → Int32} {K : Nat → Option Nat} {T : am_H} {v : Option Int32} {h' : am_H} {v3 : Int32} (k0 :
    ¬ ((v3 + 1) < 0 ∨ L ≤ (v3 + 1).toNatClampNeg) ∧ (
    ¬ ((v3 + 2) < 0 ∨ L ≤ (v3 + 2).toNatClampNeg) ∧ (
    ¬ ((v3 + 3) < 0 ∨ L ≤ (v3 + 3).toNatClampNeg) ∧ (
    am_fin [(z_L_centre, 0, [.ref 1, .int (xs (v3 + 1).toNatClampNeg), .int (xs (v3 + 2).toNatClampNeg), .int (xs (v3 + 3).toNatClampNeg)], []), (z_W_law, 501, [.ref 0, .ref 1, .ref 36, .int v3], [])] (hp L xs A V K T) v h')))) : am_fin [(z_W_law, 482, [.ref 0, .ref 1, .ref 36, .int v3], [])] (hp L xs A V K T) v h' :=
  fn_aload_n rl_W_law_482 rfl (fn_aload_n rl_W_law_483 rfl (fn_iload_n rl_W_law_484 rfl (fn_iconst rl_W_law_485 (fn_iadd rl_W_law_486 (fn_iald rl_W_law_487 hp_0 (fun k41 => fn_aload_n rl_W_law_488 rfl (fn_iload_n rl_W_law_489 rfl (fn_iconst rl_W_law_490 (fn_iadd rl_W_law_491 (fn_iald rl_W_law_492 hp_0 (fun k40 => fn_aload_n rl_W_law_493 rfl (fn_iload_n rl_W_law_494 rfl (fn_iconst rl_W_law_495 (fn_iadd rl_W_law_496 (fn_iald rl_W_law_497 hp_0 (fun k39 => fn_virt (as := [.ref 1, .int (xs (v3 + 1).toNatClampNeg), .int (xs (v3 + 2).toNatClampNeg), .int (xs (v3 + 3).toNatClampNeg)]) (r := []) (ls' := [.ref 1, .int (xs (v3 + 1).toNatClampNeg), .int (xs (v3 + 2).toNatClampNeg), .int (xs (v3 + 3).toNatClampNeg)]) rl_W_law_498 rfl hp_1 rfl rfl pl_L_centre rfl rfl (k39)) k40))))) k41))))) k0)))))
set_option maxRecDepth 100000 in
set_option maxHeartbeats 4000000 in
theorem sg_W_law_501r {L : Nat} {xs : Nat → Int32} {A V : Nat → Nat → Int32} {K : Nat → Option Nat} {T : am_H} {v : Option Int32} {h' : am_H} {v3 r : Int32} (k0 :
    ¬ ((v3 + 1) < 0 ∨ L ≤ (v3 + 1).toNatClampNeg) ∧ (
    ¬ ((v3 + 2) < 0 ∨ L ≤ (v3 + 2).toNatClampNeg) ∧ (
    ¬ ((v3 + 3) < 0 ∨ L ≤ (v3 + 3).toNatClampNeg) ∧ (
    am_fin [(z_M_centre, 0, [.ref 36, .int (xs (v3 + 1).toNatClampNeg), .int (xs (v3 + 2).toNatClampNeg), .int (xs (v3 + 3).toNatClampNeg), .null, .null], []), (z_W_law, 520, [.ref 0, .ref 1, .ref 36, .int v3], [.int r])] (hp L xs A V K T) v h')))) : am_fin [(z_W_law, 501, [.ref 0, .ref 1, .ref 36, .int v3], [.int r])] (hp L xs A V K T) v h' :=
  fn_aload_n rl_W_law_501 rfl (fn_aload_n rl_W_law_502 rfl (fn_iload_n rl_W_law_503 rfl (fn_iconst rl_W_law_504 (fn_iadd rl_W_law_505 (fn_iald rl_W_law_506 hp_0 (fun k44 => fn_aload_n rl_W_law_507 rfl (fn_iload_n rl_W_law_508 rfl (fn_iconst rl_W_law_509 (fn_iadd rl_W_law_510 (fn_iald rl_W_law_511 hp_0 (fun k43 => fn_aload_n rl_W_law_512 rfl (fn_iload_n rl_W_law_513 rfl (fn_iconst rl_W_law_514 (fn_iadd rl_W_law_515 (fn_iald rl_W_law_516 hp_0 (fun k42 => fn_virt (as := [.ref 36, .int (xs (v3 + 1).toNatClampNeg), .int (xs (v3 + 2).toNatClampNeg), .int (xs (v3 + 3).toNatClampNeg)]) (r := [.int r]) (ls' := [.ref 36, .int (xs (v3 + 1).toNatClampNeg), .int (xs (v3 + 2).toNatClampNeg), .int (xs (v3 + 3).toNatClampNeg), .null, .null]) rl_W_law_517 rfl hp_36 rfl rfl pl_M_centre rfl rfl (k42)) k43))))) k44))))) k0)))))
set_option maxRecDepth 100000 in
set_option maxHeartbeats 4000000 in
theorem sg_W_law_520r {L : Nat} {xs : Nat → Int32} {A V : Nat → Nat → Int32} {K : Nat → Option Nat} {T : am_H} {v : Option Int32} {h' : am_H} {v3 r s : Int32} (k0 :
    if r = s then (
      am_fin [(z_W_law, 18, [.ref 0, .ref 1, .ref 36, .int (v3 + 6)], [])] (hp L xs A V K T) v h')
    else (
      v = some 0 ∧ h' = hp L xs A V K T)) : am_fin [(z_W_law, 520, [.ref 0, .ref 1, .ref 36, .int v3], [.int s, .int r])] (hp L xs A V K T) v h' :=
  fn_icmp_eq rl_W_law_520 (fun k45 => fn_iinc (ls' := [.ref 0, .ref 1, .ref 36, .int (v3 + 6)]) rl_W_law_2473 rfl rfl rfl (fn_goto rl_W_law_2476 (k45))) (fun k46 => fn_iconst rl_W_law_523 (fn_reti rl_W_law_524 rfl k46)) k0
set_option maxRecDepth 100000 in
set_option maxHeartbeats 4000000 in
theorem sg_W_law_525 {L : Nat} {xs : Nat → Int32} {A V : Nat → Nat → Int32} {K : Nat → Option Nat} {T : am_H} {v : Option Int32} {h' : am_H} {v3 : Int32} (k0 :
    ¬ ((v3 + 1) < 0 ∨ L ≤ (v3 + 1).toNatClampNeg) ∧ (
    ¬ ((v3 + 2) < 0 ∨ L ≤ (v3 + 2).toNatClampNeg) ∧ (
    if (xs (v3 + 2).toNatClampNeg) = 0 then (
      am_fin [(z_L_nation, 0, [.ref 1, .int (xs (v3 + 1).toNatClampNeg), .int 0], []), (z_W_law, 547, [.ref 0, .ref 1, .ref 36, .int v3], [])] (hp L xs A V K T) v h')
    else (
      am_fin [(z_L_nation, 0, [.ref 1, .int (xs (v3 + 1).toNatClampNeg), .int 1], []), (z_W_law, 547, [.ref 0, .ref 1, .ref 36, .int v3], [])] (hp L xs A V K T) v h')))) : am_fin [(z_W_law, 525, [.ref 0, .ref 1, .ref 36, .int v3], [])] (hp L xs A V K T) v h' :=
  fn_aload_n rl_W_law_525 rfl (fn_aload_n rl_W_law_526 rfl (fn_iload_n rl_W_law_527 rfl (fn_iconst rl_W_law_528 (fn_iadd rl_W_law_529 (fn_iald rl_W_law_530 hp_0 (fun k50 => fn_aload_n rl_W_law_531 rfl (fn_iload_n rl_W_law_532 rfl (fn_iconst rl_W_law_533 (fn_iadd rl_W_law_534 (fn_iald rl_W_law_535 hp_0 (fun k49 => fn_if_eq rl_W_law_536 (fun k47 => fn_iconst rl_W_law_543 (fn_virt (as := [.ref 1, .int (xs (v3 + 1).toNatClampNeg), .int 0]) (r := []) (ls' := [.ref 1, .int (xs (v3 + 1).toNatClampNeg), .int 0]) rl_W_law_544 rfl hp_1 rfl rfl pl_L_nation rfl rfl (k47))) (fun k48 => fn_iconst rl_W_law_539 (fn_goto rl_W_law_540 (fn_virt (as := [.ref 1, .int (xs (v3 + 1).toNatClampNeg), .int 1]) (r := []) (ls' := [.ref 1, .int (xs (v3 + 1).toNatClampNeg), .int 1]) rl_W_law_544 rfl hp_1 rfl rfl pl_L_nation rfl rfl (k48)))) k49) k50))))) k0)))))
set_option maxRecDepth 100000 in
set_option maxHeartbeats 4000000 in
theorem sg_W_law_547r {L : Nat} {xs : Nat → Int32} {A V : Nat → Nat → Int32} {K : Nat → Option Nat} {T : am_H} {v : Option Int32} {h' : am_H} {v3 r : Int32} (k0 :
    ¬ ((v3 + 1) < 0 ∨ L ≤ (v3 + 1).toNatClampNeg) ∧ (
    ¬ ((v3 + 2) < 0 ∨ L ≤ (v3 + 2).toNatClampNeg) ∧ (
    if (xs (v3 + 2).toNatClampNeg) = 0 then (
      am_fin [(z_M_nation, 0, [.ref 36, .int (xs (v3 + 1).toNatClampNeg), .int 0], []), (z_W_law, 569, [.ref 0, .ref 1, .ref 36, .int v3], [.int r])] (hp L xs A V K T) v h')
    else (
      am_fin [(z_M_nation, 0, [.ref 36, .int (xs (v3 + 1).toNatClampNeg), .int 1], []), (z_W_law, 569, [.ref 0, .ref 1, .ref 36, .int v3], [.int r])] (hp L xs A V K T) v h')))) : am_fin [(z_W_law, 547, [.ref 0, .ref 1, .ref 36, .int v3], [.int r])] (hp L xs A V K T) v h' :=
  fn_aload_n rl_W_law_547 rfl (fn_aload_n rl_W_law_548 rfl (fn_iload_n rl_W_law_549 rfl (fn_iconst rl_W_law_550 (fn_iadd rl_W_law_551 (fn_iald rl_W_law_552 hp_0 (fun k54 => fn_aload_n rl_W_law_553 rfl (fn_iload_n rl_W_law_554 rfl (fn_iconst rl_W_law_555 (fn_iadd rl_W_law_556 (fn_iald rl_W_law_557 hp_0 (fun k53 => fn_if_eq rl_W_law_558 (fun k51 => fn_iconst rl_W_law_565 (fn_virt (as := [.ref 36, .int (xs (v3 + 1).toNatClampNeg), .int 0]) (r := [.int r]) (ls' := [.ref 36, .int (xs (v3 + 1).toNatClampNeg), .int 0]) rl_W_law_566 rfl hp_36 rfl rfl pl_M_nation rfl rfl (k51))) (fun k52 => fn_iconst rl_W_law_561 (fn_goto rl_W_law_562 (fn_virt (as := [.ref 36, .int (xs (v3 + 1).toNatClampNeg), .int 1]) (r := [.int r]) (ls' := [.ref 36, .int (xs (v3 + 1).toNatClampNeg), .int 1]) rl_W_law_566 rfl hp_36 rfl rfl pl_M_nation rfl rfl (k52)))) k53) k54))))) k0)))))
set_option maxRecDepth 100000 in
set_option maxHeartbeats 4000000 in
theorem sg_W_law_569r {L : Nat} {xs : Nat → Int32} {A V : Nat → Nat → Int32} {K : Nat → Option Nat} {T : am_H} {v : Option Int32} {h' : am_H} {v3 r s : Int32} (k0 :
    if r = s then (
      am_fin [(z_W_law, 18, [.ref 0, .ref 1, .ref 36, .int (v3 + 6)], [])] (hp L xs A V K T) v h')
    else (
      v = some 0 ∧ h' = hp L xs A V K T)) : am_fin [(z_W_law, 569, [.ref 0, .ref 1, .ref 36, .int v3], [.int s, .int r])] (hp L xs A V K T) v h' :=
  fn_icmp_eq rl_W_law_569 (fun k55 => fn_iinc (ls' := [.ref 0, .ref 1, .ref 36, .int (v3 + 6)]) rl_W_law_2473 rfl rfl rfl (fn_goto rl_W_law_2476 (k55))) (fun k56 => fn_iconst rl_W_law_572 (fn_reti rl_W_law_573 rfl k56)) k0
set_option maxRecDepth 100000 in
set_option maxHeartbeats 4000000 in
theorem sg_W_law_574 {L : Nat} {xs : Nat → Int32} {A V : Nat → Nat → Int32} {K : Nat → Option Nat} {T : am_H} {v : Option Int32} {h' : am_H} {v3 : Int32} (k0 :
    ¬ ((v3 + 1) < 0 ∨ L ≤ (v3 + 1).toNatClampNeg) ∧ (
    ¬ ((v3 + 2) < 0 ∨ L ≤ (v3 + 2).toNatClampNeg) ∧ (
    ¬ ((v3 + 3) < 0 ∨ L ≤ (v3 + 3).toNatClampNeg) ∧ (
    am_fin [(z_L_drawn, 0, [.ref 1, .int (xs (v3 + 1).toNatClampNeg), .int (xs (v3 + 2).toNatClampNeg), .int (xs (v3 + 3).toNatClampNeg), .null, .null, .null, .null, .null], []), (z_W_law, 593, [.ref 0, .ref 1, .ref 36, .int v3], [])] (hp L xs A V K T) v h')))) : am_fin [(z_W_law, 574, [.ref 0, .ref 1, .ref 36, .int v3], [])] (hp L xs A V K T) v h' :=
  fn_aload_n rl_W_law_574 rfl (fn_aload_n rl_W_law_575 rfl (fn_iload_n rl_W_law_576 rfl (fn_iconst rl_W_law_577 (fn_iadd rl_W_law_578 (fn_iald rl_W_law_579 hp_0 (fun k59 => fn_aload_n rl_W_law_580 rfl (fn_iload_n rl_W_law_581 rfl (fn_iconst rl_W_law_582 (fn_iadd rl_W_law_583 (fn_iald rl_W_law_584 hp_0 (fun k58 => fn_aload_n rl_W_law_585 rfl (fn_iload_n rl_W_law_586 rfl (fn_iconst rl_W_law_587 (fn_iadd rl_W_law_588 (fn_iald rl_W_law_589 hp_0 (fun k57 => fn_virt (as := [.ref 1, .int (xs (v3 + 1).toNatClampNeg), .int (xs (v3 + 2).toNatClampNeg), .int (xs (v3 + 3).toNatClampNeg)]) (r := []) (ls' := [.ref 1, .int (xs (v3 + 1).toNatClampNeg), .int (xs (v3 + 2).toNatClampNeg), .int (xs (v3 + 3).toNatClampNeg), .null, .null, .null, .null, .null]) rl_W_law_590 rfl hp_1 rfl rfl pl_L_drawn rfl rfl (k57)) k58))))) k59))))) k0)))))
set_option maxRecDepth 100000 in
set_option maxHeartbeats 4000000 in
theorem sg_W_law_593r {L : Nat} {xs : Nat → Int32} {A V : Nat → Nat → Int32} {K : Nat → Option Nat} {T : am_H} {v : Option Int32} {h' : am_H} {v3 r : Int32} (k0 :
    ¬ ((v3 + 1) < 0 ∨ L ≤ (v3 + 1).toNatClampNeg) ∧ (
    ¬ ((v3 + 2) < 0 ∨ L ≤ (v3 + 2).toNatClampNeg) ∧ (
    ¬ ((v3 + 3) < 0 ∨ L ≤ (v3 + 3).toNatClampNeg) ∧ (
    am_fin [(z_M_drawn, 0, [.ref 36, .int (xs (v3 + 1).toNatClampNeg), .int (xs (v3 + 2).toNatClampNeg), .int (xs (v3 + 3).toNatClampNeg), .null, .null, .null, .null], []), (z_W_law, 612, [.ref 0, .ref 1, .ref 36, .int v3], [.int r])] (hp L xs A V K T) v h')))) : am_fin [(z_W_law, 593, [.ref 0, .ref 1, .ref 36, .int v3], [.int r])] (hp L xs A V K T) v h' :=
  fn_aload_n rl_W_law_593 rfl (fn_aload_n rl_W_law_594 rfl (fn_iload_n rl_W_law_595 rfl (fn_iconst rl_W_law_596 (fn_iadd rl_W_law_597 (fn_iald rl_W_law_598 hp_0 (fun k62 => fn_aload_n rl_W_law_599 rfl (fn_iload_n rl_W_law_600 rfl (fn_iconst rl_W_law_601 (fn_iadd rl_W_law_602 (fn_iald rl_W_law_603 hp_0 (fun k61 => fn_aload_n rl_W_law_604 rfl (fn_iload_n rl_W_law_605 rfl (fn_iconst rl_W_law_606 (fn_iadd rl_W_law_607 (fn_iald rl_W_law_608 hp_0 (fun k60 => fn_virt (as := [.ref 36, .int (xs (v3 + 1).toNatClampNeg), .int (xs (v3 + 2).toNatClampNeg), .int (xs (v3 + 3).toNatClampNeg)]) (r := [.int r]) (ls' := [.ref 36, .int (xs (v3 + 1).toNatClampNeg), .int (xs (v3 + 2).toNatClampNeg), .int (xs (v3 + 3).toNatClampNeg), .null, .null, .null, .null]) rl_W_law_609 rfl hp_36 rfl rfl pl_M_drawn rfl rfl (k60)) k61))))) k62))))) k0)))))
set_option maxRecDepth 100000 in
set_option maxHeartbeats 4000000 in
theorem sg_W_law_612r {L : Nat} {xs : Nat → Int32} {A V : Nat → Nat → Int32} {K : Nat → Option Nat} {T : am_H} {v : Option Int32} {h' : am_H} {v3 r s : Int32} (k0 :
    if r = s then (
      am_fin [(z_W_law, 18, [.ref 0, .ref 1, .ref 36, .int (v3 + 6)], [])] (hp L xs A V K T) v h')
    else (
      v = some 0 ∧ h' = hp L xs A V K T)) : am_fin [(z_W_law, 612, [.ref 0, .ref 1, .ref 36, .int v3], [.int s, .int r])] (hp L xs A V K T) v h' :=
  fn_icmp_eq rl_W_law_612 (fun k63 => fn_iinc (ls' := [.ref 0, .ref 1, .ref 36, .int (v3 + 6)]) rl_W_law_2473 rfl rfl rfl (fn_goto rl_W_law_2476 (k63))) (fun k64 => fn_iconst rl_W_law_615 (fn_reti rl_W_law_616 rfl k64)) k0
set_option maxRecDepth 100000 in
set_option maxHeartbeats 4000000 in
theorem sg_W_law_617 {L : Nat} {xs : Nat → Int32} {A V : Nat → Nat → Int32} {K : Nat → Option Nat} {T : am_H} {v : Option Int32} {h' : am_H} {v3 : Int32} (k0 :
    ¬ ((v3 + 1) < 0 ∨ L ≤ (v3 + 1).toNatClampNeg) ∧ (
    ¬ ((v3 + 2) < 0 ∨ L ≤ (v3 + 2).toNatClampNeg) ∧ (
    am_fin [(z_L_at, 0, [.ref 1, .int (xs (v3 + 1).toNatClampNeg), .int (xs (v3 + 2).toNatClampNeg), .null], []), (z_W_law, 631, [.ref 0, .ref 1, .ref 36, .int v3], [])] (hp L xs A V K T) v h'))) : am_fin [(z_W_law, 617, [.ref 0, .ref 1, .ref 36, .int v3], [])] (hp L xs A V K T) v h' :=
  fn_aload_n rl_W_law_617 rfl (fn_aload_n rl_W_law_618 rfl (fn_iload_n rl_W_law_619 rfl (fn_iconst rl_W_law_620 (fn_iadd rl_W_law_621 (fn_iald rl_W_law_622 hp_0 (fun k66 => fn_aload_n rl_W_law_623 rfl (fn_iload_n rl_W_law_624 rfl (fn_iconst rl_W_law_625 (fn_iadd rl_W_law_626 (fn_iald rl_W_law_627 hp_0 (fun k65 => fn_virt (as := [.ref 1, .int (xs (v3 + 1).toNatClampNeg), .int (xs (v3 + 2).toNatClampNeg)]) (r := []) (ls' := [.ref 1, .int (xs (v3 + 1).toNatClampNeg), .int (xs (v3 + 2).toNatClampNeg), .null]) rl_W_law_628 rfl hp_1 rfl rfl pl_L_at rfl rfl (k65)) k66))))) k0)))))
set_option maxRecDepth 100000 in
set_option maxHeartbeats 4000000 in
theorem sg_W_law_631r {L : Nat} {xs : Nat → Int32} {A V : Nat → Nat → Int32} {K : Nat → Option Nat} {T : am_H} {v : Option Int32} {h' : am_H} {v3 r : Int32} (k0 :
    ¬ ((v3 + 1) < 0 ∨ L ≤ (v3 + 1).toNatClampNeg) ∧ (
    ¬ ((v3 + 2) < 0 ∨ L ≤ (v3 + 2).toNatClampNeg) ∧ (
    am_fin [(z_M_at, 0, [.ref 36, .int (xs (v3 + 1).toNatClampNeg), .int (xs (v3 + 2).toNatClampNeg), .null], []), (z_W_law, 645, [.ref 0, .ref 1, .ref 36, .int v3], [.int r])] (hp L xs A V K T) v h'))) : am_fin [(z_W_law, 631, [.ref 0, .ref 1, .ref 36, .int v3], [.int r])] (hp L xs A V K T) v h' :=
  fn_aload_n rl_W_law_631 rfl (fn_aload_n rl_W_law_632 rfl (fn_iload_n rl_W_law_633 rfl (fn_iconst rl_W_law_634 (fn_iadd rl_W_law_635 (fn_iald rl_W_law_636 hp_0 (fun k68 => fn_aload_n rl_W_law_637 rfl (fn_iload_n rl_W_law_638 rfl (fn_iconst rl_W_law_639 (fn_iadd rl_W_law_640 (fn_iald rl_W_law_641 hp_0 (fun k67 => fn_virt (as := [.ref 36, .int (xs (v3 + 1).toNatClampNeg), .int (xs (v3 + 2).toNatClampNeg)]) (r := [.int r]) (ls' := [.ref 36, .int (xs (v3 + 1).toNatClampNeg), .int (xs (v3 + 2).toNatClampNeg), .null]) rl_W_law_642 rfl hp_36 rfl rfl pl_M_at rfl rfl (k67)) k68))))) k0)))))
set_option maxRecDepth 100000 in
set_option maxHeartbeats 4000000 in
theorem sg_W_law_645r {L : Nat} {xs : Nat → Int32} {A V : Nat → Nat → Int32} {K : Nat → Option Nat} {T : am_H} {v : Option Int32} {h' : am_H} {v3 r s : Int32} (k0 :
    if r = s then (
      am_fin [(z_W_law, 18, [.ref 0, .ref 1, .ref 36, .int (v3 + 6)], [])] (hp L xs A V K T) v h')
    else (
      v = some 0 ∧ h' = hp L xs A V K T)) : am_fin [(z_W_law, 645, [.ref 0, .ref 1, .ref 36, .int v3], [.int s, .int r])] (hp L xs A V K T) v h' :=
  fn_icmp_eq rl_W_law_645 (fun k69 => fn_iinc (ls' := [.ref 0, .ref 1, .ref 36, .int (v3 + 6)]) rl_W_law_2473 rfl rfl rfl (fn_goto rl_W_law_2476 (k69))) (fun k70 => fn_iconst rl_W_law_648 (fn_reti rl_W_law_649 rfl k70)) k0
set_option maxRecDepth 100000 in
set_option maxHeartbeats 4000000 in
theorem sg_W_law_650 {L : Nat} {xs : Nat → Int32} {A V : Nat → Nat → Int32} {K : Nat → Option Nat} {T : am_H} {v : Option Int32} {h' : am_H} {v3 : Int32} (k0 :
    ¬ ((v3 + 1) < 0 ∨ L ≤ (v3 + 1).toNatClampNeg) ∧ (
    am_fin [(z_L_letter, 0, [.ref 1, .int (xs (v3 + 1).toNatClampNeg)], []), (z_W_law, 659, [.ref 0, .ref 1, .ref 36, .int v3], [])] (hp L xs A V K T) v h')) : am_fin [(z_W_law, 650, [.ref 0, .ref 1, .ref 36, .int v3], [])] (hp L xs A V K T) v h' :=
  fn_aload_n rl_W_law_650 rfl (fn_aload_n rl_W_law_651 rfl (fn_iload_n rl_W_law_652 rfl (fn_iconst rl_W_law_653 (fn_iadd rl_W_law_654 (fn_iald rl_W_law_655 hp_0 (fun k71 => fn_virt (as := [.ref 1, .int (xs (v3 + 1).toNatClampNeg)]) (r := []) (ls' := [.ref 1, .int (xs (v3 + 1).toNatClampNeg)]) rl_W_law_656 rfl hp_1 rfl rfl pl_L_letter rfl rfl (k71)) k0)))))
set_option maxRecDepth 100000 in
set_option maxHeartbeats 4000000 in
theorem sg_W_law_659r {L : Nat} {xs : Nat → Int32} {A V : Nat → Nat → Int32} {K : Nat → Option Nat} {T : am_H} {v : Option Int32} {h' : am_H} {v3 r : Int32} (k0 :
    ¬ ((v3 + 1) < 0 ∨ L ≤ (v3 + 1).toNatClampNeg) ∧ (
    am_fin [(z_M_letter, 0, [.ref 36, .int (xs (v3 + 1).toNatClampNeg), .null], []), (z_W_law, 668, [.ref 0, .ref 1, .ref 36, .int v3], [.int r])] (hp L xs A V K T) v h')) : am_fin [(z_W_law, 659, [.ref 0, .ref 1, .ref 36, .int v3], [.int r])] (hp L xs A V K T) v h' :=
  fn_aload_n rl_W_law_659 rfl (fn_aload_n rl_W_law_660 rfl (fn_iload_n rl_W_law_661 rfl (fn_iconst rl_W_law_662 (fn_iadd rl_W_law_663 (fn_iald rl_W_law_664 hp_0 (fun k72 => fn_virt (as := [.ref 36, .int (xs (v3 + 1).toNatClampNeg)]) (r := [.int r]) (ls' := [.ref 36, .int (xs (v3 + 1).toNatClampNeg), .null]) rl_W_law_665 rfl hp_36 rfl rfl pl_M_letter rfl rfl (k72)) k0)))))
set_option maxRecDepth 100000 in
set_option maxHeartbeats 4000000 in
theorem sg_W_law_668r {L : Nat} {xs : Nat → Int32} {A V : Nat → Nat → Int32} {K : Nat → Option Nat} {T : am_H} {v : Option Int32} {h' : am_H} {v3 r s : Int32} (k0 :
    if r = s then (
      am_fin [(z_W_law, 18, [.ref 0, .ref 1, .ref 36, .int (v3 + 6)], [])] (hp L xs A V K T) v h')
    else (
      v = some 0 ∧ h' = hp L xs A V K T)) : am_fin [(z_W_law, 668, [.ref 0, .ref 1, .ref 36, .int v3], [.int s, .int r])] (hp L xs A V K T) v h' :=
  fn_icmp_eq rl_W_law_668 (fun k73 => fn_iinc (ls' := [.ref 0, .ref 1, .ref 36, .int (v3 + 6)]) rl_W_law_2473 rfl rfl rfl (fn_goto rl_W_law_2476 (k73))) (fun k74 => fn_iconst rl_W_law_671 (fn_reti rl_W_law_672 rfl k74)) k0
set_option maxRecDepth 100000 in
set_option maxHeartbeats 4000000 in
theorem sg_W_law_673 {L : Nat} {xs : Nat → Int32} {A V : Nat → Nat → Int32} {K : Nat → Option Nat} {T : am_H} {v : Option Int32} {h' : am_H} {v3 : Int32} (k0 :
    ¬ ((v3 + 1) < 0 ∨ L ≤ (v3 + 1).toNatClampNeg) ∧ (
    ¬ ((v3 + 2) < 0 ∨ L ≤ (v3 + 2).toNatClampNeg) ∧ (
    ¬ ((v3 + 3) < 0 ∨ L ≤ (v3 + 3).toNatClampNeg) ∧ (
    am_fin [(z_L_window, 0, [.ref 1, .int (xs (v3 + 1).toNatClampNeg), .int (xs (v3 + 2).toNatClampNeg), .int (xs (v3 + 3).toNatClampNeg), .null], []), (z_W_law, 692, [.ref 0, .ref 1, .ref 36, .int v3], [])] (hp L xs A V K T) v h')))) : am_fin [(z_W_law, 673, [.ref 0, .ref 1, .ref 36, .int v3], [])] (hp L xs A V K T) v h' :=
  fn_aload_n rl_W_law_673 rfl (fn_aload_n rl_W_law_674 rfl (fn_iload_n rl_W_law_675 rfl (fn_iconst rl_W_law_676 (fn_iadd rl_W_law_677 (fn_iald rl_W_law_678 hp_0 (fun k77 => fn_aload_n rl_W_law_679 rfl (fn_iload_n rl_W_law_680 rfl (fn_iconst rl_W_law_681 (fn_iadd rl_W_law_682 (fn_iald rl_W_law_683 hp_0 (fun k76 => fn_aload_n rl_W_law_684 rfl (fn_iload_n rl_W_law_685 rfl (fn_iconst rl_W_law_686 (fn_iadd rl_W_law_687 (fn_iald rl_W_law_688 hp_0 (fun k75 => fn_virt (as := [.ref 1, .int (xs (v3 + 1).toNatClampNeg), .int (xs (v3 + 2).toNatClampNeg), .int (xs (v3 + 3).toNatClampNeg)]) (r := []) (ls' := [.ref 1, .int (xs (v3 + 1).toNatClampNeg), .int (xs (v3 + 2).toNatClampNeg), .int (xs (v3 + 3).toNatClampNeg), .null]) rl_W_law_689 rfl hp_1 rfl rfl pl_L_window rfl rfl (k75)) k76))))) k77))))) k0)))))
set_option maxRecDepth 100000 in
set_option maxHeartbeats 4000000 in
theorem sg_W_law_692r {L : Nat} {xs : Nat → Int32} {A V : Nat → Nat → Int32} {K : Nat → Option Nat} {T : am_H} {v : Option Int32} {h' : am_H} {v3 r : Int32} (k0 :
    ¬ ((v3 + 1) < 0 ∨ L ≤ (v3 + 1).toNatClampNeg) ∧ (
    ¬ ((v3 + 2) < 0 ∨ L ≤ (v3 + 2).toNatClampNeg) ∧ (
    ¬ ((v3 + 3) < 0 ∨ L ≤ (v3 + 3).toNatClampNeg) ∧ (
    am_fin [(z_M_window, 0, [.ref 36, .int (xs (v3 + 1).toNatClampNeg), .int (xs (v3 + 2).toNatClampNeg), .int (xs (v3 + 3).toNatClampNeg), .null], []), (z_W_law, 711, [.ref 0, .ref 1, .ref 36, .int v3], [.int r])] (hp L xs A V K T) v h')))) : am_fin [(z_W_law, 692, [.ref 0, .ref 1, .ref 36, .int v3], [.int r])] (hp L xs A V K T) v h' :=
  fn_aload_n rl_W_law_692 rfl (fn_aload_n rl_W_law_693 rfl (fn_iload_n rl_W_law_694 rfl (fn_iconst rl_W_law_695 (fn_iadd rl_W_law_696 (fn_iald rl_W_law_697 hp_0 (fun k80 => fn_aload_n rl_W_law_698 rfl (fn_iload_n rl_W_law_699 rfl (fn_iconst rl_W_law_700 (fn_iadd rl_W_law_701 (fn_iald rl_W_law_702 hp_0 (fun k79 => fn_aload_n rl_W_law_703 rfl (fn_iload_n rl_W_law_704 rfl (fn_iconst rl_W_law_705 (fn_iadd rl_W_law_706 (fn_iald rl_W_law_707 hp_0 (fun k78 => fn_virt (as := [.ref 36, .int (xs (v3 + 1).toNatClampNeg), .int (xs (v3 + 2).toNatClampNeg), .int (xs (v3 + 3).toNatClampNeg)]) (r := [.int r]) (ls' := [.ref 36, .int (xs (v3 + 1).toNatClampNeg), .int (xs (v3 + 2).toNatClampNeg), .int (xs (v3 + 3).toNatClampNeg), .null]) rl_W_law_708 rfl hp_36 rfl rfl pl_M_window rfl rfl (k78)) k79))))) k80))))) k0)))))
set_option maxRecDepth 100000 in
set_option maxHeartbeats 4000000 in
theorem sg_W_law_711r {L : Nat} {xs : Nat → Int32} {A V : Nat → Nat → Int32} {K : Nat → Option Nat} {T : am_H} {v : Option Int32} {h' : am_H} {v3 r s : Int32} (k0 :
    if r = s then (
      am_fin [(z_W_law, 18, [.ref 0, .ref 1, .ref 36, .int (v3 + 6)], [])] (hp L xs A V K T) v h')
    else (
      v = some 0 ∧ h' = hp L xs A V K T)) : am_fin [(z_W_law, 711, [.ref 0, .ref 1, .ref 36, .int v3], [.int s, .int r])] (hp L xs A V K T) v h' :=
  fn_icmp_eq rl_W_law_711 (fun k81 => fn_iinc (ls' := [.ref 0, .ref 1, .ref 36, .int (v3 + 6)]) rl_W_law_2473 rfl rfl rfl (fn_goto rl_W_law_2476 (k81))) (fun k82 => fn_iconst rl_W_law_714 (fn_reti rl_W_law_715 rfl k82)) k0
set_option maxRecDepth 100000 in
set_option maxHeartbeats 4000000 in
theorem sg_W_law_716 {L : Nat} {xs : Nat → Int32} {A V : Nat → Nat → Int32} {K : Nat → Option Nat} {T : am_H} {v : Option Int32} {h' : am_H} {v3 : Int32} (k0 :
    ¬ ((v3 + 1) < 0 ∨ L ≤ (v3 + 1).toNatClampNeg) ∧ (
    ¬ ((v3 + 2) < 0 ∨ L ≤ (v3 + 2).toNatClampNeg) ∧ (
    ¬ ((v3 + 3) < 0 ∨ L ≤ (v3 + 3).toNatClampNeg) ∧ (
    am_fin [(z_L_rule, 0, [.ref 1, .int (xs (v3 + 1).toNatClampNeg), .int (xs (v3 + 2).toNatClampNeg), .int (xs (v3 + 3).toNatClampNeg), .null], []), (z_W_law, 735, [.ref 0, .ref 1, .ref 36, .int v3], [])] (hp L xs A V K T) v h')))) : am_fin [(z_W_law, 716, [.ref 0, .ref 1, .ref 36, .int v3], [])] (hp L xs A V K T) v h' :=
  fn_aload_n rl_W_law_716 rfl (fn_aload_n rl_W_law_717 rfl (fn_iload_n rl_W_law_718 rfl (fn_iconst rl_W_law_719 (fn_iadd rl_W_law_720 (fn_iald rl_W_law_721 hp_0 (fun k85 => fn_aload_n rl_W_law_722 rfl (fn_iload_n rl_W_law_723 rfl (fn_iconst rl_W_law_724 (fn_iadd rl_W_law_725 (fn_iald rl_W_law_726 hp_0 (fun k84 => fn_aload_n rl_W_law_727 rfl (fn_iload_n rl_W_law_728 rfl (fn_iconst rl_W_law_729 (fn_iadd rl_W_law_730 (fn_iald rl_W_law_731 hp_0 (fun k83 => fn_virt (as := [.ref 1, .int (xs (v3 + 1).toNatClampNeg), .int (xs (v3 + 2).toNatClampNeg), .int (xs (v3 + 3).toNatClampNeg)]) (r := []) (ls' := [.ref 1, .int (xs (v3 + 1).toNatClampNeg), .int (xs (v3 + 2).toNatClampNeg), .int (xs (v3 + 3).toNatClampNeg), .null]) rl_W_law_732 rfl hp_1 rfl rfl pl_L_rule rfl rfl (k83)) k84))))) k85))))) k0)))))
set_option maxRecDepth 100000 in
set_option maxHeartbeats 4000000 in
theorem sg_W_law_735r {L : Nat} {xs : Nat → Int32} {A V : Nat → Nat → Int32} {K : Nat → Option Nat} {T : am_H} {v : Option Int32} {h' : am_H} {v3 r : Int32} (k0 :
    ¬ ((v3 + 1) < 0 ∨ L ≤ (v3 + 1).toNatClampNeg) ∧ (
    ¬ ((v3 + 2) < 0 ∨ L ≤ (v3 + 2).toNatClampNeg) ∧ (
    ¬ ((v3 + 3) < 0 ∨ L ≤ (v3 + 3).toNatClampNeg) ∧ (
    am_fin [(z_M_rule, 0, [.ref 36, .int (xs (v3 + 1).toNatClampNeg), .int (xs (v3 + 2).toNatClampNeg), .int (xs (v3 + 3).toNatClampNeg), .null], []), (z_W_law, 754, [.ref 0, .ref 1, .ref 36, .int v3], [.int r])] (hp L xs A V K T) v h')))) : am_fin [(z_W_law, 735, [.ref 0, .ref 1, .ref 36, .int v3], [.int r])] (hp L xs A V K T) v h' :=
  fn_aload_n rl_W_law_735 rfl (fn_aload_n rl_W_law_736 rfl (fn_iload_n rl_W_law_737 rfl (fn_iconst rl_W_law_738 (fn_iadd rl_W_law_739 (fn_iald rl_W_law_740 hp_0 (fun k88 => fn_aload_n rl_W_law_741 rfl (fn_iload_n rl_W_law_742 rfl (fn_iconst rl_W_law_743 (fn_iadd rl_W_law_744 (fn_iald rl_W_law_745 hp_0 (fun k87 => fn_aload_n rl_W_law_746 rfl (fn_iload_n rl_W_law_747 rfl (fn_iconst rl_W_law_748 (fn_iadd rl_W_law_749 (fn_iald rl_W_law_750 hp_0 (fun k86 => fn_virt (as := [.ref 36, .int (xs (v3 + 1).toNatClampNeg), .int (xs (v3 + 2).toNatClampNeg), .int (xs (v3 + 3).toNatClampNeg)]) (r := [.int r]) (ls' := [.ref 36, .int (xs (v3 + 1).toNatClampNeg), .int (xs (v3 + 2).toNatClampNeg), .int (xs (v3 + 3).toNatClampNeg), .null]) rl_W_law_751 rfl hp_36 rfl rfl pl_M_rule rfl rfl (k86)) k87))))) k88))))) k0)))))
set_option maxRecDepth 100000 in
set_option maxHeartbeats 4000000 in
theorem sg_W_law_754r {L : Nat} {xs : Nat → Int32} {A V : Nat → Nat → Int32} {K : Nat → Option Nat} {T : am_H} {v : Option Int32} {h' : am_H} {v3 r s : Int32} (k0 :
    if r = s then (
      am_fin [(z_W_law, 18, [.ref 0, .ref 1, .ref 36, .int (v3 + 6)], [])] (hp L xs A V K T) v h')
    else (
      v = some 0 ∧ h' = hp L xs A V K T)) : am_fin [(z_W_law, 754, [.ref 0, .ref 1, .ref 36, .int v3], [.int s, .int r])] (hp L xs A V K T) v h' :=
  fn_icmp_eq rl_W_law_754 (fun k89 => fn_iinc (ls' := [.ref 0, .ref 1, .ref 36, .int (v3 + 6)]) rl_W_law_2473 rfl rfl rfl (fn_goto rl_W_law_2476 (k89))) (fun k90 => fn_iconst rl_W_law_757 (fn_reti rl_W_law_758 rfl k90)) k0
set_option maxRecDepth 100000 in
set_option maxHeartbeats 4000000 in
theorem sg_W_law_759 {L : Nat} {xs : Nat → Int32} {A V : Nat → Nat → Int32} {K : Nat → Option Nat} {T : am_H} {v : Option Int32} {h' : am_H} {v3 : Int32} (k0 :
    ¬ ((v3 + 1) < 0 ∨ L ≤ (v3 + 1).toNatClampNeg) ∧ (
    ¬ ((v3 + 2) < 0 ∨ L ≤ (v3 + 2).toNatClampNeg) ∧ (
    am_fin [(z_L_order, 0, [.ref 1, .int (xs (v3 + 1).toNatClampNeg), .int (xs (v3 + 2).toNatClampNeg), .null], []), (z_W_law, 773, [.ref 0, .ref 1, .ref 36, .int v3], [])] (hp L xs A V K T) v h'))) : am_fin [(z_W_law, 759, [.ref 0, .ref 1, .ref 36, .int v3], [])] (hp L xs A V K T) v h' :=
  fn_aload_n rl_W_law_759 rfl (fn_aload_n rl_W_law_760 rfl (fn_iload_n rl_W_law_761 rfl (fn_iconst rl_W_law_762 (fn_iadd rl_W_law_763 (fn_iald rl_W_law_764 hp_0 (fun k92 => fn_aload_n rl_W_law_765 rfl (fn_iload_n rl_W_law_766 rfl (fn_iconst rl_W_law_767 (fn_iadd rl_W_law_768 (fn_iald rl_W_law_769 hp_0 (fun k91 => fn_virt (as := [.ref 1, .int (xs (v3 + 1).toNatClampNeg), .int (xs (v3 + 2).toNatClampNeg)]) (r := []) (ls' := [.ref 1, .int (xs (v3 + 1).toNatClampNeg), .int (xs (v3 + 2).toNatClampNeg), .null]) rl_W_law_770 rfl hp_1 rfl rfl pl_L_order rfl rfl (k91)) k92))))) k0)))))
set_option maxRecDepth 100000 in
set_option maxHeartbeats 4000000 in
theorem sg_W_law_773r {L : Nat} {xs : Nat → Int32} {A V : Nat → Nat → Int32} {K : Nat → Option Nat} {T : am_H} {v : Option Int32} {h' : am_H} {v3 r : Int32} (k0 :
    ¬ ((v3 + 1) < 0 ∨ L ≤ (v3 + 1).toNatClampNeg) ∧ (
    ¬ ((v3 + 2) < 0 ∨ L ≤ (v3 + 2).toNatClampNeg) ∧ (
    am_fin [(z_M_order, 0, [.ref 36, .int (xs (v3 + 1).toNatClampNeg), .int (xs (v3 + 2).toNatClampNeg), .null], []), (z_W_law, 787, [.ref 0, .ref 1, .ref 36, .int v3], [.int r])] (hp L xs A V K T) v h'))) : am_fin [(z_W_law, 773, [.ref 0, .ref 1, .ref 36, .int v3], [.int r])] (hp L xs A V K T) v h' :=
  fn_aload_n rl_W_law_773 rfl (fn_aload_n rl_W_law_774 rfl (fn_iload_n rl_W_law_775 rfl (fn_iconst rl_W_law_776 (fn_iadd rl_W_law_777 (fn_iald rl_W_law_778 hp_0 (fun k94 => fn_aload_n rl_W_law_779 rfl (fn_iload_n rl_W_law_780 rfl (fn_iconst rl_W_law_781 (fn_iadd rl_W_law_782 (fn_iald rl_W_law_783 hp_0 (fun k93 => fn_virt (as := [.ref 36, .int (xs (v3 + 1).toNatClampNeg), .int (xs (v3 + 2).toNatClampNeg)]) (r := [.int r]) (ls' := [.ref 36, .int (xs (v3 + 1).toNatClampNeg), .int (xs (v3 + 2).toNatClampNeg), .null]) rl_W_law_784 rfl hp_36 rfl rfl pl_M_order rfl rfl (k93)) k94))))) k0)))))
set_option maxRecDepth 100000 in
set_option maxHeartbeats 4000000 in
theorem sg_W_law_787r {L : Nat} {xs : Nat → Int32} {A V : Nat → Nat → Int32} {K : Nat → Option Nat} {T : am_H} {v : Option Int32} {h' : am_H} {v3 r s : Int32} (k0 :
    if r = s then (
      am_fin [(z_W_law, 18, [.ref 0, .ref 1, .ref 36, .int (v3 + 6)], [])] (hp L xs A V K T) v h')
    else (
      v = some 0 ∧ h' = hp L xs A V K T)) : am_fin [(z_W_law, 787, [.ref 0, .ref 1, .ref 36, .int v3], [.int s, .int r])] (hp L xs A V K T) v h' :=
  fn_icmp_eq rl_W_law_787 (fun k95 => fn_iinc (ls' := [.ref 0, .ref 1, .ref 36, .int (v3 + 6)]) rl_W_law_2473 rfl rfl rfl (fn_goto rl_W_law_2476 (k95))) (fun k96 => fn_iconst rl_W_law_790 (fn_reti rl_W_law_791 rfl k96)) k0
set_option maxRecDepth 100000 in
set_option maxHeartbeats 4000000 in
theorem sg_W_law_792 {L : Nat} {xs : Nat → Int32} {A V : Nat → Nat → Int32} {K : Nat → Option Nat} {T : am_H} {v : Option Int32} {h' : am_H} {v3 : Int32} (k0 :
    ¬ ((v3 + 1) < 0 ∨ L ≤ (v3 + 1).toNatClampNeg) ∧ (
    ¬ ((v3 + 2) < 0 ∨ L ≤ (v3 + 2).toNatClampNeg) ∧ (
    am_fin [(z_L_entries, 0, [.ref 1, .int (xs (v3 + 1).toNatClampNeg), .int (xs (v3 + 2).toNatClampNeg), .null], []), (z_W_law, 806, [.ref 0, .ref 1, .ref 36, .int v3], [])] (hp L xs A V K T) v h'))) : am_fin [(z_W_law, 792, [.ref 0, .ref 1, .ref 36, .int v3], [])] (hp L xs A V K T) v h' :=
  fn_aload_n rl_W_law_792 rfl (fn_aload_n rl_W_law_793 rfl (fn_iload_n rl_W_law_794 rfl (fn_iconst rl_W_law_795 (fn_iadd rl_W_law_796 (fn_iald rl_W_law_797 hp_0 (fun k98 => fn_aload_n rl_W_law_798 rfl (fn_iload_n rl_W_law_799 rfl (fn_iconst rl_W_law_800 (fn_iadd rl_W_law_801 (fn_iald rl_W_law_802 hp_0 (fun k97 => fn_virt (as := [.ref 1, .int (xs (v3 + 1).toNatClampNeg), .int (xs (v3 + 2).toNatClampNeg)]) (r := []) (ls' := [.ref 1, .int (xs (v3 + 1).toNatClampNeg), .int (xs (v3 + 2).toNatClampNeg), .null]) rl_W_law_803 rfl hp_1 rfl rfl pl_L_entries rfl rfl (k97)) k98))))) k0)))))
set_option maxRecDepth 100000 in
set_option maxHeartbeats 4000000 in
theorem sg_W_law_806r {L : Nat} {xs : Nat → Int32} {A V : Nat → Nat → Int32} {K : Nat → Option Nat} {T : am_H} {v : Option Int32} {h' : am_H} {v3 r : Int32} (k0 :
    ¬ ((v3 + 1) < 0 ∨ L ≤ (v3 + 1).toNatClampNeg) ∧ (
    ¬ ((v3 + 2) < 0 ∨ L ≤ (v3 + 2).toNatClampNeg) ∧ (
    am_fin [(z_M_entries, 0, [.ref 36, .int (xs (v3 + 1).toNatClampNeg), .int (xs (v3 + 2).toNatClampNeg), .null], []), (z_W_law, 820, [.ref 0, .ref 1, .ref 36, .int v3], [.int r])] (hp L xs A V K T) v h'))) : am_fin [(z_W_law, 806, [.ref 0, .ref 1, .ref 36, .int v3], [.int r])] (hp L xs A V K T) v h' :=
  fn_aload_n rl_W_law_806 rfl (fn_aload_n rl_W_law_807 rfl (fn_iload_n rl_W_law_808 rfl (fn_iconst rl_W_law_809 (fn_iadd rl_W_law_810 (fn_iald rl_W_law_811 hp_0 (fun k100 => fn_aload_n rl_W_law_812 rfl (fn_iload_n rl_W_law_813 rfl (fn_iconst rl_W_law_814 (fn_iadd rl_W_law_815 (fn_iald rl_W_law_816 hp_0 (fun k99 => fn_virt (as := [.ref 36, .int (xs (v3 + 1).toNatClampNeg), .int (xs (v3 + 2).toNatClampNeg)]) (r := [.int r]) (ls' := [.ref 36, .int (xs (v3 + 1).toNatClampNeg), .int (xs (v3 + 2).toNatClampNeg), .null]) rl_W_law_817 rfl hp_36 rfl rfl pl_M_entries rfl rfl (k99)) k100))))) k0)))))
set_option maxRecDepth 100000 in
set_option maxHeartbeats 4000000 in
theorem sg_W_law_820r {L : Nat} {xs : Nat → Int32} {A V : Nat → Nat → Int32} {K : Nat → Option Nat} {T : am_H} {v : Option Int32} {h' : am_H} {v3 r s : Int32} (k0 :
    if r = s then (
      am_fin [(z_W_law, 18, [.ref 0, .ref 1, .ref 36, .int (v3 + 6)], [])] (hp L xs A V K T) v h')
    else (
      v = some 0 ∧ h' = hp L xs A V K T)) : am_fin [(z_W_law, 820, [.ref 0, .ref 1, .ref 36, .int v3], [.int s, .int r])] (hp L xs A V K T) v h' :=
  fn_icmp_eq rl_W_law_820 (fun k101 => fn_iinc (ls' := [.ref 0, .ref 1, .ref 36, .int (v3 + 6)]) rl_W_law_2473 rfl rfl rfl (fn_goto rl_W_law_2476 (k101))) (fun k102 => fn_iconst rl_W_law_823 (fn_reti rl_W_law_824 rfl k102)) k0
set_option maxRecDepth 100000 in
set_option maxHeartbeats 4000000 in
theorem sg_W_law_825 {L : Nat} {xs : Nat → Int32} {A V : Nat → Nat → Int32} {K : Nat → Option Nat} {T : am_H} {v : Option Int32} {h' : am_H} {v3 : Int32} (k0 :
    ¬ ((v3 + 1) < 0 ∨ L ≤ (v3 + 1).toNatClampNeg) ∧ (
    ¬ ((v3 + 2) < 0 ∨ L ≤ (v3 + 2).toNatClampNeg) ∧ (
    ¬ ((v3 + 3) < 0 ∨ L ≤ (v3 + 3).toNatClampNeg) ∧ (
    am_fin [(z_L_entered, 0, [.ref 1, .int (xs (v3 + 1).toNatClampNeg), .int (xs (v3 + 2).toNatClampNeg), .int (xs (v3 + 3).toNatClampNeg), .null, .null, .null, .null], []), (z_W_law, 844, [.ref 0, .ref 1, .ref 36, .int v3], [])] (hp L xs A V K T) v h')))) : am_fin [(z_W_law, 825, [.ref 0, .ref 1, .ref 36, .int v3], [])] (hp L xs A V K T) v h' :=
  fn_aload_n rl_W_law_825 rfl (fn_aload_n rl_W_law_826 rfl (fn_iload_n rl_W_law_827 rfl (fn_iconst rl_W_law_828 (fn_iadd rl_W_law_829 (fn_iald rl_W_law_830 hp_0 (fun k105 => fn_aload_n rl_W_law_831 rfl (fn_iload_n rl_W_law_832 rfl (fn_iconst rl_W_law_833 (fn_iadd rl_W_law_834 (fn_iald rl_W_law_835 hp_0 (fun k104 => fn_aload_n rl_W_law_836 rfl (fn_iload_n rl_W_law_837 rfl (fn_iconst rl_W_law_838 (fn_iadd rl_W_law_839 (fn_iald rl_W_law_840 hp_0 (fun k103 => fn_virt (as := [.ref 1, .int (xs (v3 + 1).toNatClampNeg), .int (xs (v3 + 2).toNatClampNeg), .int (xs (v3 + 3).toNatClampNeg)]) (r := []) (ls' := [.ref 1, .int (xs (v3 + 1).toNatClampNeg), .int (xs (v3 + 2).toNatClampNeg), .int (xs (v3 + 3).toNatClampNeg), .null, .null, .null, .null]) rl_W_law_841 rfl hp_1 rfl rfl pl_L_entered rfl rfl (k103)) k104))))) k105))))) k0)))))
set_option maxRecDepth 100000 in
set_option maxHeartbeats 4000000 in
theorem sg_W_law_844r {L : Nat} {xs : Nat → Int32} {A V : Nat → Nat → Int32} {K : Nat → Option Nat} {T : am_H} {v : Option Int32} {h' : am_H} {v3 r : Int32} (k0 :
    ¬ ((v3 + 1) < 0 ∨ L ≤ (v3 + 1).toNatClampNeg) ∧ (
    ¬ ((v3 + 2) < 0 ∨ L ≤ (v3 + 2).toNatClampNeg) ∧ (
    ¬ ((v3 + 3) < 0 ∨ L ≤ (v3 + 3).toNatClampNeg) ∧ (
    am_fin [(z_M_entered, 0, [.ref 36, .int (xs (v3 + 1).toNatClampNeg), .int (xs (v3 + 2).toNatClampNeg), .int (xs (v3 + 3).toNatClampNeg), .null, .null, .null, .null], []), (z_W_law, 863, [.ref 0, .ref 1, .ref 36, .int v3], [.int r])] (hp L xs A V K T) v h')))) : am_fin [(z_W_law, 844, [.ref 0, .ref 1, .ref 36, .int v3], [.int r])] (hp L xs A V K T) v h' :=
  fn_aload_n rl_W_law_844 rfl (fn_aload_n rl_W_law_845 rfl (fn_iload_n rl_W_law_846 rfl (fn_iconst rl_W_law_847 (fn_iadd rl_W_law_848 (fn_iald rl_W_law_849 hp_0 (fun k108 => fn_aload_n rl_W_law_850 rfl (fn_iload_n rl_W_law_851 rfl (fn_iconst rl_W_law_852 (fn_iadd rl_W_law_853 (fn_iald rl_W_law_854 hp_0 (fun k107 => fn_aload_n rl_W_law_855 rfl (fn_iload_n rl_W_law_856 rfl (fn_iconst rl_W_law_857 (fn_iadd rl_W_law_858 (fn_iald rl_W_law_859 hp_0 (fun k106 => fn_virt (as := [.ref 36, .int (xs (v3 + 1).toNatClampNeg), .int (xs (v3 + 2).toNatClampNeg), .int (xs (v3 + 3).toNatClampNeg)]) (r := [.int r]) (ls' := [.ref 36, .int (xs (v3 + 1).toNatClampNeg), .int (xs (v3 + 2).toNatClampNeg), .int (xs (v3 + 3).toNatClampNeg), .null, .null, .null, .null]) rl_W_law_860 rfl hp_36 rfl rfl pl_M_entered rfl rfl (k106)) k107))))) k108))))) k0)))))
set_option maxRecDepth 100000 in
set_option maxHeartbeats 4000000 in
theorem sg_W_law_863r {L : Nat} {xs : Nat → Int32} {A V : Nat → Nat → Int32} {K : Nat → Option Nat} {T : am_H} {v : Option Int32} {h' : am_H} {v3 r s : Int32} (k0 :
    if r = s then (
      am_fin [(z_W_law, 18, [.ref 0, .ref 1, .ref 36, .int (v3 + 6)], [])] (hp L xs A V K T) v h')
    else (
      v = some 0 ∧ h' = hp L xs A V K T)) : am_fin [(z_W_law, 863, [.ref 0, .ref 1, .ref 36, .int v3], [.int s, .int r])] (hp L xs A V K T) v h' :=
  fn_icmp_eq rl_W_law_863 (fun k109 => fn_iinc (ls' := [.ref 0, .ref 1, .ref 36, .int (v3 + 6)]) rl_W_law_2473 rfl rfl rfl (fn_goto rl_W_law_2476 (k109))) (fun k110 => fn_iconst rl_W_law_866 (fn_reti rl_W_law_867 rfl k110)) k0
set_option maxRecDepth 100000 in
set_option maxHeartbeats 4000000 in
theorem sg_W_law_868 {L : Nat} {xs : Nat → Int32} {A V : Nat → Nat → Int32} {K : Nat → Option Nat} {T : am_H} {v : Option Int32} {h' : am_H} {v3 : Int32} (k0 :
    ¬ ((v3 + 1) < 0 ∨ L ≤ (v3 + 1).toNatClampNeg) ∧ (
    ¬ ((v3 + 2) < 0 ∨ L ≤ (v3 + 2).toNatClampNeg) ∧ (
    ¬ ((v3 + 3) < 0 ∨ L ≤ (v3 + 3).toNatClampNeg) ∧ (
    am_fin [(z_L_treaty, 0, [.ref 1, .int (xs (v3 + 1).toNatClampNeg), .int (xs (v3 + 2).toNatClampNeg), .int (xs (v3 + 3).toNatClampNeg), .null], []), (z_W_law, 887, [.ref 0, .ref 1, .ref 36, .int v3], [])] (hp L xs A V K T) v h')))) : am_fin [(z_W_law, 868, [.ref 0, .ref 1, .ref 36, .int v3], [])] (hp L xs A V K T) v h' :=
  fn_aload_n rl_W_law_868 rfl (fn_aload_n rl_W_law_869 rfl (fn_iload_n rl_W_law_870 rfl (fn_iconst rl_W_law_871 (fn_iadd rl_W_law_872 (fn_iald rl_W_law_873 hp_0 (fun k113 => fn_aload_n rl_W_law_874 rfl (fn_iload_n rl_W_law_875 rfl (fn_iconst rl_W_law_876 (fn_iadd rl_W_law_877 (fn_iald rl_W_law_878 hp_0 (fun k112 => fn_aload_n rl_W_law_879 rfl (fn_iload_n rl_W_law_880 rfl (fn_iconst rl_W_law_881 (fn_iadd rl_W_law_882 (fn_iald rl_W_law_883 hp_0 (fun k111 => fn_virt (as := [.ref 1, .int (xs (v3 + 1).toNatClampNeg), .int (xs (v3 + 2).toNatClampNeg), .int (xs (v3 + 3).toNatClampNeg)]) (r := []) (ls' := [.ref 1, .int (xs (v3 + 1).toNatClampNeg), .int (xs (v3 + 2).toNatClampNeg), .int (xs (v3 + 3).toNatClampNeg), .null]) rl_W_law_884 rfl hp_1 rfl rfl pl_L_treaty rfl rfl (k111)) k112))))) k113))))) k0)))))
set_option maxRecDepth 100000 in
set_option maxHeartbeats 4000000 in
theorem sg_W_law_887r {L : Nat} {xs : Nat → Int32} {A V : Nat → Nat → Int32} {K : Nat → Option Nat} {T : am_H} {v : Option Int32} {h' : am_H} {v3 r : Int32} (k0 :
    ¬ ((v3 + 1) < 0 ∨ L ≤ (v3 + 1).toNatClampNeg) ∧ (
    ¬ ((v3 + 2) < 0 ∨ L ≤ (v3 + 2).toNatClampNeg) ∧ (
    ¬ ((v3 + 3) < 0 ∨ L ≤ (v3 + 3).toNatClampNeg) ∧ (
    am_fin [(z_M_treaty, 0, [.ref 36, .int (xs (v3 + 1).toNatClampNeg), .int (xs (v3 + 2).toNatClampNeg), .int (xs (v3 + 3).toNatClampNeg), .null], []), (z_W_law, 906, [.ref 0, .ref 1, .ref 36, .int v3], [.int r])] (hp L xs A V K T) v h')))) : am_fin [(z_W_law, 887, [.ref 0, .ref 1, .ref 36, .int v3], [.int r])] (hp L xs A V K T) v h' :=
  fn_aload_n rl_W_law_887 rfl (fn_aload_n rl_W_law_888 rfl (fn_iload_n rl_W_law_889 rfl (fn_iconst rl_W_law_890 (fn_iadd rl_W_law_891 (fn_iald rl_W_law_892 hp_0 (fun k116 => fn_aload_n rl_W_law_893 rfl (fn_iload_n rl_W_law_894 rfl (fn_iconst rl_W_law_895 (fn_iadd rl_W_law_896 (fn_iald rl_W_law_897 hp_0 (fun k115 => fn_aload_n rl_W_law_898 rfl (fn_iload_n rl_W_law_899 rfl (fn_iconst rl_W_law_900 (fn_iadd rl_W_law_901 (fn_iald rl_W_law_902 hp_0 (fun k114 => fn_virt (as := [.ref 36, .int (xs (v3 + 1).toNatClampNeg), .int (xs (v3 + 2).toNatClampNeg), .int (xs (v3 + 3).toNatClampNeg)]) (r := [.int r]) (ls' := [.ref 36, .int (xs (v3 + 1).toNatClampNeg), .int (xs (v3 + 2).toNatClampNeg), .int (xs (v3 + 3).toNatClampNeg), .null]) rl_W_law_903 rfl hp_36 rfl rfl pl_M_treaty rfl rfl (k114)) k115))))) k116))))) k0)))))
set_option maxRecDepth 100000 in
set_option maxHeartbeats 4000000 in
theorem sg_W_law_906r {L : Nat} {xs : Nat → Int32} {A V : Nat → Nat → Int32} {K : Nat → Option Nat} {T : am_H} {v : Option Int32} {h' : am_H} {v3 r s : Int32} (k0 :
    if r = s then (
      am_fin [(z_W_law, 18, [.ref 0, .ref 1, .ref 36, .int (v3 + 6)], [])] (hp L xs A V K T) v h')
    else (
      v = some 0 ∧ h' = hp L xs A V K T)) : am_fin [(z_W_law, 906, [.ref 0, .ref 1, .ref 36, .int v3], [.int s, .int r])] (hp L xs A V K T) v h' :=
  fn_icmp_eq rl_W_law_906 (fun k117 => fn_iinc (ls' := [.ref 0, .ref 1, .ref 36, .int (v3 + 6)]) rl_W_law_2473 rfl rfl rfl (fn_goto rl_W_law_2476 (k117))) (fun k118 => fn_iconst rl_W_law_909 (fn_reti rl_W_law_910 rfl k118)) k0
set_option maxRecDepth 100000 in
set_option maxHeartbeats 4000000 in
theorem sg_W_law_911 {L : Nat} {xs : Nat → Int32} {A V : Nat → Nat → Int32} {K : Nat → Option Nat} {T : am_H} {v : Option Int32} {h' : am_H} {v3 : Int32} (k0 :
    ¬ ((v3 + 1) < 0 ∨ L ≤ (v3 + 1).toNatClampNeg) ∧ (
    ¬ ((v3 + 2) < 0 ∨ L ≤ (v3 + 2).toNatClampNeg) ∧ (
    am_fin [(z_L_without, 0, [.ref 1, .int (xs (v3 + 1).toNatClampNeg), .int (xs (v3 + 2).toNatClampNeg)], []), (z_W_law, 925, [.ref 0, .ref 1, .ref 36, .int v3], [])] (hp L xs A V K T) v h'))) : am_fin [(z_W_law, 911, [.ref 0, .ref 1, .ref 36, .int v3], [])] (hp L xs A V K T) v h' :=
  fn_aload_n rl_W_law_911 rfl (fn_aload_n rl_W_law_912 rfl (fn_iload_n rl_W_law_913 rfl (fn_iconst rl_W_law_914 (fn_iadd rl_W_law_915 (fn_iald rl_W_law_916 hp_0 (fun k120 => fn_aload_n rl_W_law_917 rfl (fn_iload_n rl_W_law_918 rfl (fn_iconst rl_W_law_919 (fn_iadd rl_W_law_920 (fn_iald rl_W_law_921 hp_0 (fun k119 => fn_virt (as := [.ref 1, .int (xs (v3 + 1).toNatClampNeg), .int (xs (v3 + 2).toNatClampNeg)]) (r := []) (ls' := [.ref 1, .int (xs (v3 + 1).toNatClampNeg), .int (xs (v3 + 2).toNatClampNeg)]) rl_W_law_922 rfl hp_1 rfl rfl pl_L_without rfl rfl (k119)) k120))))) k0)))))
set_option maxRecDepth 100000 in
set_option maxHeartbeats 4000000 in
theorem sg_W_law_925r {L : Nat} {xs : Nat → Int32} {A V : Nat → Nat → Int32} {K : Nat → Option Nat} {T : am_H} {v : Option Int32} {h' : am_H} {v3 r : Int32} (k0 :
    ¬ ((v3 + 1) < 0 ∨ L ≤ (v3 + 1).toNatClampNeg) ∧ (
    ¬ ((v3 + 2) < 0 ∨ L ≤ (v3 + 2).toNatClampNeg) ∧ (
    am_fin [(z_M_without, 0, [.ref 36, .int (xs (v3 + 1).toNatClampNeg), .int (xs (v3 + 2).toNatClampNeg)], []), (z_W_law, 939, [.ref 0, .ref 1, .ref 36, .int v3], [.int r])] (hp L xs A V K T) v h'))) : am_fin [(z_W_law, 925, [.ref 0, .ref 1, .ref 36, .int v3], [.int r])] (hp L xs A V K T) v h' :=
  fn_aload_n rl_W_law_925 rfl (fn_aload_n rl_W_law_926 rfl (fn_iload_n rl_W_law_927 rfl (fn_iconst rl_W_law_928 (fn_iadd rl_W_law_929 (fn_iald rl_W_law_930 hp_0 (fun k122 => fn_aload_n rl_W_law_931 rfl (fn_iload_n rl_W_law_932 rfl (fn_iconst rl_W_law_933 (fn_iadd rl_W_law_934 (fn_iald rl_W_law_935 hp_0 (fun k121 => fn_virt (as := [.ref 36, .int (xs (v3 + 1).toNatClampNeg), .int (xs (v3 + 2).toNatClampNeg)]) (r := [.int r]) (ls' := [.ref 36, .int (xs (v3 + 1).toNatClampNeg), .int (xs (v3 + 2).toNatClampNeg)]) rl_W_law_936 rfl hp_36 rfl rfl pl_M_without rfl rfl (k121)) k122))))) k0)))))
set_option maxRecDepth 100000 in
set_option maxHeartbeats 4000000 in
theorem sg_W_law_939r {L : Nat} {xs : Nat → Int32} {A V : Nat → Nat → Int32} {K : Nat → Option Nat} {T : am_H} {v : Option Int32} {h' : am_H} {v3 r s : Int32} (k0 :
    if r = s then (
      am_fin [(z_W_law, 18, [.ref 0, .ref 1, .ref 36, .int (v3 + 6)], [])] (hp L xs A V K T) v h')
    else (
      v = some 0 ∧ h' = hp L xs A V K T)) : am_fin [(z_W_law, 939, [.ref 0, .ref 1, .ref 36, .int v3], [.int s, .int r])] (hp L xs A V K T) v h' :=
  fn_icmp_eq rl_W_law_939 (fun k123 => fn_iinc (ls' := [.ref 0, .ref 1, .ref 36, .int (v3 + 6)]) rl_W_law_2473 rfl rfl rfl (fn_goto rl_W_law_2476 (k123))) (fun k124 => fn_iconst rl_W_law_942 (fn_reti rl_W_law_943 rfl k124)) k0
set_option maxRecDepth 100000 in
set_option maxHeartbeats 4000000 in
theorem sg_W_law_944 {L : Nat} {xs : Nat → Int32} {A V : Nat → Nat → Int32} {K : Nat → Option Nat} {T : am_H} {v : Option Int32} {h' : am_H} {v3 : Int32} (k0 :
    ¬ ((v3 + 1) < 0 ∨ L ≤ (v3 + 1).toNatClampNeg) ∧ (
    ¬ ((v3 + 2) < 0 ∨ L ≤ (v3 + 2).toNatClampNeg) ∧ (
    am_fin [(z_L_tax, 0, [.ref 1, .int (xs (v3 + 1).toNatClampNeg), .int (xs (v3 + 2).toNatClampNeg), .null], []), (z_W_law, 958, [.ref 0, .ref 1, .ref 36, .int v3], [])] (hp L xs A V K T) v h'))) : am_fin [(z_W_law, 944, [.ref 0, .ref 1, .ref 36, .int v3], [])] (hp L xs A V K T) v h' :=
  fn_aload_n rl_W_law_944 rfl (fn_aload_n rl_W_law_945 rfl (fn_iload_n rl_W_law_946 rfl (fn_iconst rl_W_law_947 (fn_iadd rl_W_law_948 (fn_iald rl_W_law_949 hp_0 (fun k126 => fn_aload_n rl_W_law_950 rfl (fn_iload_n rl_W_law_951 rfl (fn_iconst rl_W_law_952 (fn_iadd rl_W_law_953 (fn_iald rl_W_law_954 hp_0 (fun k125 => fn_virt (as := [.ref 1, .int (xs (v3 + 1).toNatClampNeg), .int (xs (v3 + 2).toNatClampNeg)]) (r := []) (ls' := [.ref 1, .int (xs (v3 + 1).toNatClampNeg), .int (xs (v3 + 2).toNatClampNeg), .null]) rl_W_law_955 rfl hp_1 rfl rfl pl_L_tax rfl rfl (k125)) k126))))) k0)))))
set_option maxRecDepth 100000 in
set_option maxHeartbeats 4000000 in
theorem sg_W_law_958r {L : Nat} {xs : Nat → Int32} {A V : Nat → Nat → Int32} {K : Nat → Option Nat} {T : am_H} {v : Option Int32} {h' : am_H} {v3 r : Int32} (k0 :
    ¬ ((v3 + 1) < 0 ∨ L ≤ (v3 + 1).toNatClampNeg) ∧ (
    ¬ ((v3 + 2) < 0 ∨ L ≤ (v3 + 2).toNatClampNeg) ∧ (
    am_fin [(z_M_tax, 0, [.ref 36, .int (xs (v3 + 1).toNatClampNeg), .int (xs (v3 + 2).toNatClampNeg), .null], []), (z_W_law, 972, [.ref 0, .ref 1, .ref 36, .int v3], [.int r])] (hp L xs A V K T) v h'))) : am_fin [(z_W_law, 958, [.ref 0, .ref 1, .ref 36, .int v3], [.int r])] (hp L xs A V K T) v h' :=
  fn_aload_n rl_W_law_958 rfl (fn_aload_n rl_W_law_959 rfl (fn_iload_n rl_W_law_960 rfl (fn_iconst rl_W_law_961 (fn_iadd rl_W_law_962 (fn_iald rl_W_law_963 hp_0 (fun k128 => fn_aload_n rl_W_law_964 rfl (fn_iload_n rl_W_law_965 rfl (fn_iconst rl_W_law_966 (fn_iadd rl_W_law_967 (fn_iald rl_W_law_968 hp_0 (fun k127 => fn_virt (as := [.ref 36, .int (xs (v3 + 1).toNatClampNeg), .int (xs (v3 + 2).toNatClampNeg)]) (r := [.int r]) (ls' := [.ref 36, .int (xs (v3 + 1).toNatClampNeg), .int (xs (v3 + 2).toNatClampNeg), .null]) rl_W_law_969 rfl hp_36 rfl rfl pl_M_tax rfl rfl (k127)) k128))))) k0)))))
set_option maxRecDepth 100000 in
set_option maxHeartbeats 4000000 in
theorem sg_W_law_972r {L : Nat} {xs : Nat → Int32} {A V : Nat → Nat → Int32} {K : Nat → Option Nat} {T : am_H} {v : Option Int32} {h' : am_H} {v3 r s : Int32} (k0 :
    if r = s then (
      am_fin [(z_W_law, 18, [.ref 0, .ref 1, .ref 36, .int (v3 + 6)], [])] (hp L xs A V K T) v h')
    else (
      v = some 0 ∧ h' = hp L xs A V K T)) : am_fin [(z_W_law, 972, [.ref 0, .ref 1, .ref 36, .int v3], [.int s, .int r])] (hp L xs A V K T) v h' :=
  fn_icmp_eq rl_W_law_972 (fun k129 => fn_iinc (ls' := [.ref 0, .ref 1, .ref 36, .int (v3 + 6)]) rl_W_law_2473 rfl rfl rfl (fn_goto rl_W_law_2476 (k129))) (fun k130 => fn_iconst rl_W_law_975 (fn_reti rl_W_law_976 rfl k130)) k0
set_option maxRecDepth 100000 in
set_option maxHeartbeats 4000000 in
theorem sg_W_law_977 {L : Nat} {xs : Nat → Int32} {A V : Nat → Nat → Int32} {K : Nat → Option Nat} {T : am_H} {v : Option Int32} {h' : am_H} {v3 : Int32} (k0 :
    ¬ ((v3 + 1) < 0 ∨ L ≤ (v3 + 1).toNatClampNeg) ∧ (
    ¬ ((v3 + 2) < 0 ∨ L ≤ (v3 + 2).toNatClampNeg) ∧ (
    am_fin [(z_L_told, 0, [.ref 1, .int (xs (v3 + 1).toNatClampNeg), .int (xs (v3 + 2).toNatClampNeg), .null, .null], []), (z_W_law, 991, [.ref 0, .ref 1, .ref 36, .int v3], [])] (hp L xs A V K T) v h'))) : am_fin [(z_W_law, 977, [.ref 0, .ref 1, .ref 36, .int v3], [])] (hp L xs A V K T) v h' :=
  fn_aload_n rl_W_law_977 rfl (fn_aload_n rl_W_law_978 rfl (fn_iload_n rl_W_law_979 rfl (fn_iconst rl_W_law_980 (fn_iadd rl_W_law_981 (fn_iald rl_W_law_982 hp_0 (fun k132 => fn_aload_n rl_W_law_983 rfl (fn_iload_n rl_W_law_984 rfl (fn_iconst rl_W_law_985 (fn_iadd rl_W_law_986 (fn_iald rl_W_law_987 hp_0 (fun k131 => fn_virt (as := [.ref 1, .int (xs (v3 + 1).toNatClampNeg), .int (xs (v3 + 2).toNatClampNeg)]) (r := []) (ls' := [.ref 1, .int (xs (v3 + 1).toNatClampNeg), .int (xs (v3 + 2).toNatClampNeg), .null, .null]) rl_W_law_988 rfl hp_1 rfl rfl pl_L_told rfl rfl (k131)) k132))))) k0)))))
set_option maxRecDepth 100000 in
set_option maxHeartbeats 4000000 in
theorem sg_W_law_991r {L : Nat} {xs : Nat → Int32} {A V : Nat → Nat → Int32} {K : Nat → Option Nat} {T : am_H} {v : Option Int32} {h' : am_H} {v3 r : Int32} (k0 :
    ¬ ((v3 + 1) < 0 ∨ L ≤ (v3 + 1).toNatClampNeg) ∧ (
    ¬ ((v3 + 2) < 0 ∨ L ≤ (v3 + 2).toNatClampNeg) ∧ (
    am_fin [(z_M_told, 0, [.ref 36, .int (xs (v3 + 1).toNatClampNeg), .int (xs (v3 + 2).toNatClampNeg)], []), (z_W_law, 1005, [.ref 0, .ref 1, .ref 36, .int v3], [.int r])] (hp L xs A V K T) v h'))) : am_fin [(z_W_law, 991, [.ref 0, .ref 1, .ref 36, .int v3], [.int r])] (hp L xs A V K T) v h' :=
  fn_aload_n rl_W_law_991 rfl (fn_aload_n rl_W_law_992 rfl (fn_iload_n rl_W_law_993 rfl (fn_iconst rl_W_law_994 (fn_iadd rl_W_law_995 (fn_iald rl_W_law_996 hp_0 (fun k134 => fn_aload_n rl_W_law_997 rfl (fn_iload_n rl_W_law_998 rfl (fn_iconst rl_W_law_999 (fn_iadd rl_W_law_1000 (fn_iald rl_W_law_1001 hp_0 (fun k133 => fn_virt (as := [.ref 36, .int (xs (v3 + 1).toNatClampNeg), .int (xs (v3 + 2).toNatClampNeg)]) (r := [.int r]) (ls' := [.ref 36, .int (xs (v3 + 1).toNatClampNeg), .int (xs (v3 + 2).toNatClampNeg)]) rl_W_law_1002 rfl hp_36 rfl rfl pl_M_told rfl rfl (k133)) k134))))) k0)))))
set_option maxRecDepth 100000 in
set_option maxHeartbeats 4000000 in
theorem sg_W_law_1005r {L : Nat} {xs : Nat → Int32} {A V : Nat → Nat → Int32} {K : Nat → Option Nat} {T : am_H} {v : Option Int32} {h' : am_H} {v3 r s : Int32} (k0 :
    if r = s then (
      am_fin [(z_W_law, 18, [.ref 0, .ref 1, .ref 36, .int (v3 + 6)], [])] (hp L xs A V K T) v h')
    else (
      v = some 0 ∧ h' = hp L xs A V K T)) : am_fin [(z_W_law, 1005, [.ref 0, .ref 1, .ref 36, .int v3], [.int s, .int r])] (hp L xs A V K T) v h' :=
  fn_icmp_eq rl_W_law_1005 (fun k135 => fn_iinc (ls' := [.ref 0, .ref 1, .ref 36, .int (v3 + 6)]) rl_W_law_2473 rfl rfl rfl (fn_goto rl_W_law_2476 (k135))) (fun k136 => fn_iconst rl_W_law_1008 (fn_reti rl_W_law_1009 rfl k136)) k0
set_option maxRecDepth 100000 in
set_option maxHeartbeats 4000000 in
theorem sg_W_law_1010 {L : Nat} {xs : Nat → Int32} {A V : Nat → Nat → Int32} {K : Nat → Option Nat} {T : am_H} {v : Option Int32} {h' : am_H} {v3 : Int32} (k0 :
    ¬ ((v3 + 1) < 0 ∨ L ≤ (v3 + 1).toNatClampNeg) ∧ (
    ¬ ((v3 + 2) < 0 ∨ L ≤ (v3 + 2).toNatClampNeg) ∧ (
    ¬ ((v3 + 3) < 0 ∨ L ≤ (v3 + 3).toNatClampNeg) ∧ (
    am_fin [(z_L_days, 0, [.ref 1, .int (xs (v3 + 1).toNatClampNeg), .int (xs (v3 + 2).toNatClampNeg), .int (xs (v3 + 3).toNatClampNeg)], []), (z_W_law, 1029, [.ref 0, .ref 1, .ref 36, .int v3], [])] (hp L xs A V K T) v h')))) : am_fin [(z_W_law, 1010, [.ref 0, .ref 1, .ref 36, .int v3], [])] (hp L xs A V K T) v h' :=
  fn_aload_n rl_W_law_1010 rfl (fn_aload_n rl_W_law_1011 rfl (fn_iload_n rl_W_law_1012 rfl (fn_iconst rl_W_law_1013 (fn_iadd rl_W_law_1014 (fn_iald rl_W_law_1015 hp_0 (fun k139 => fn_aload_n rl_W_law_1016 rfl (fn_iload_n rl_W_law_1017 rfl (fn_iconst rl_W_law_1018 (fn_iadd rl_W_law_1019 (fn_iald rl_W_law_1020 hp_0 (fun k138 => fn_aload_n rl_W_law_1021 rfl (fn_iload_n rl_W_law_1022 rfl (fn_iconst rl_W_law_1023 (fn_iadd rl_W_law_1024 (fn_iald rl_W_law_1025 hp_0 (fun k137 => fn_virt (as := [.ref 1, .int (xs (v3 + 1).toNatClampNeg), .int (xs (v3 + 2).toNatClampNeg), .int (xs (v3 + 3).toNatClampNeg)]) (r := []) (ls' := [.ref 1, .int (xs (v3 + 1).toNatClampNeg), .int (xs (v3 + 2).toNatClampNeg), .int (xs (v3 + 3).toNatClampNeg)]) rl_W_law_1026 rfl hp_1 rfl rfl pl_L_days rfl rfl (k137)) k138))))) k139))))) k0)))))
set_option maxRecDepth 100000 in
set_option maxHeartbeats 4000000 in
theorem sg_W_law_1029r {L : Nat} {xs : Nat → Int32} {A V : Nat → Nat → Int32} {K : Nat → Option Nat} {T : am_H} {v : Option Int32} {h' : am_H} {v3 r : Int32} (k0 :
    ¬ ((v3 + 1) < 0 ∨ L ≤ (v3 + 1).toNatClampNeg) ∧ (
    ¬ ((v3 + 2) < 0 ∨ L ≤ (v3 + 2).toNatClampNeg) ∧ (
    ¬ ((v3 + 3) < 0 ∨ L ≤ (v3 + 3).toNatClampNeg) ∧ (
    am_fin [(z_M_days, 0, [.ref 36, .int (xs (v3 + 1).toNatClampNeg), .int (xs (v3 + 2).toNatClampNeg), .int (xs (v3 + 3).toNatClampNeg)], []), (z_W_law, 1048, [.ref 0, .ref 1, .ref 36, .int v3], [.int r])] (hp L xs A V K T) v h')))) : am_fin [(z_W_law, 1029, [.ref 0, .ref 1, .ref 36, .int v3], [.int r])] (hp L xs A V K T) v h' :=
  fn_aload_n rl_W_law_1029 rfl (fn_aload_n rl_W_law_1030 rfl (fn_iload_n rl_W_law_1031 rfl (fn_iconst rl_W_law_1032 (fn_iadd rl_W_law_1033 (fn_iald rl_W_law_1034 hp_0 (fun k142 => fn_aload_n rl_W_law_1035 rfl (fn_iload_n rl_W_law_1036 rfl (fn_iconst rl_W_law_1037 (fn_iadd rl_W_law_1038 (fn_iald rl_W_law_1039 hp_0 (fun k141 => fn_aload_n rl_W_law_1040 rfl (fn_iload_n rl_W_law_1041 rfl (fn_iconst rl_W_law_1042 (fn_iadd rl_W_law_1043 (fn_iald rl_W_law_1044 hp_0 (fun k140 => fn_virt (as := [.ref 36, .int (xs (v3 + 1).toNatClampNeg), .int (xs (v3 + 2).toNatClampNeg), .int (xs (v3 + 3).toNatClampNeg)]) (r := [.int r]) (ls' := [.ref 36, .int (xs (v3 + 1).toNatClampNeg), .int (xs (v3 + 2).toNatClampNeg), .int (xs (v3 + 3).toNatClampNeg)]) rl_W_law_1045 rfl hp_36 rfl rfl pl_M_days rfl rfl (k140)) k141))))) k142))))) k0)))))
set_option maxRecDepth 100000 in
set_option maxHeartbeats 4000000 in
theorem sg_W_law_1048r {L : Nat} {xs : Nat → Int32} {A V : Nat → Nat → Int32} {K : Nat → Option Nat} {T : am_H} {v : Option Int32} {h' : am_H} {v3 r s : Int32} (k0 :
    if r = s then (
      am_fin [(z_W_law, 18, [.ref 0, .ref 1, .ref 36, .int (v3 + 6)], [])] (hp L xs A V K T) v h')
    else (
      v = some 0 ∧ h' = hp L xs A V K T)) : am_fin [(z_W_law, 1048, [.ref 0, .ref 1, .ref 36, .int v3], [.int s, .int r])] (hp L xs A V K T) v h' :=
  fn_icmp_eq rl_W_law_1048 (fun k143 => fn_iinc (ls' := [.ref 0, .ref 1, .ref 36, .int (v3 + 6)]) rl_W_law_2473 rfl rfl rfl (fn_goto rl_W_law_2476 (k143))) (fun k144 => fn_iconst rl_W_law_1051 (fn_reti rl_W_law_1052 rfl k144)) k0
set_option maxRecDepth 100000 in
set_option maxHeartbeats 4000000 in
theorem sg_W_law_1053 {L : Nat} {xs : Nat → Int32} {A V : Nat → Nat → Int32} {K : Nat → Option Nat} {T : am_H} {v : Option Int32} {h' : am_H} {v3 : Int32} (k0 :
    ¬ ((v3 + 1) < 0 ∨ L ≤ (v3 + 1).toNatClampNeg) ∧ (
    ¬ ((v3 + 2) < 0 ∨ L ≤ (v3 + 2).toNatClampNeg) ∧ (
    am_fin [(z_L_month, 0, [.ref 1, .int (xs (v3 + 1).toNatClampNeg), .int (xs (v3 + 2).toNatClampNeg), .null], []), (z_W_law, 1067, [.ref 0, .ref 1, .ref 36, .int v3], [])] (hp L xs A V K T) v h'))) : am_fin [(z_W_law, 1053, [.ref 0, .ref 1, .ref 36, .int v3], [])] (hp L xs A V K T) v h' :=
  fn_aload_n rl_W_law_1053 rfl (fn_aload_n rl_W_law_1054 rfl (fn_iload_n rl_W_law_1055 rfl (fn_iconst rl_W_law_1056 (fn_iadd rl_W_law_1057 (fn_iald rl_W_law_1058 hp_0 (fun k146 => fn_aload_n rl_W_law_1059 rfl (fn_iload_n rl_W_law_1060 rfl (fn_iconst rl_W_law_1061 (fn_iadd rl_W_law_1062 (fn_iald rl_W_law_1063 hp_0 (fun k145 => fn_virt (as := [.ref 1, .int (xs (v3 + 1).toNatClampNeg), .int (xs (v3 + 2).toNatClampNeg)]) (r := []) (ls' := [.ref 1, .int (xs (v3 + 1).toNatClampNeg), .int (xs (v3 + 2).toNatClampNeg), .null]) rl_W_law_1064 rfl hp_1 rfl rfl pl_L_month rfl rfl (k145)) k146))))) k0)))))
set_option maxRecDepth 100000 in
set_option maxHeartbeats 4000000 in
theorem sg_W_law_1067r {L : Nat} {xs : Nat → Int32} {A V : Nat → Nat → Int32} {K : Nat → Option Nat} {T : am_H} {v : Option Int32} {h' : am_H} {v3 r : Int32} (k0 :
    ¬ ((v3 + 1) < 0 ∨ L ≤ (v3 + 1).toNatClampNeg) ∧ (
    ¬ ((v3 + 2) < 0 ∨ L ≤ (v3 + 2).toNatClampNeg) ∧ (
    am_fin [(z_M_month, 0, [.ref 36, .int (xs (v3 + 1).toNatClampNeg), .int (xs (v3 + 2).toNatClampNeg)], []), (z_W_law, 1081, [.ref 0, .ref 1, .ref 36, .int v3], [.int r])] (hp L xs A V K T) v h'))) : am_fin [(z_W_law, 1067, [.ref 0, .ref 1, .ref 36, .int v3], [.int r])] (hp L xs A V K T) v h' :=
  fn_aload_n rl_W_law_1067 rfl (fn_aload_n rl_W_law_1068 rfl (fn_iload_n rl_W_law_1069 rfl (fn_iconst rl_W_law_1070 (fn_iadd rl_W_law_1071 (fn_iald rl_W_law_1072 hp_0 (fun k148 => fn_aload_n rl_W_law_1073 rfl (fn_iload_n rl_W_law_1074 rfl (fn_iconst rl_W_law_1075 (fn_iadd rl_W_law_1076 (fn_iald rl_W_law_1077 hp_0 (fun k147 => fn_virt (as := [.ref 36, .int (xs (v3 + 1).toNatClampNeg), .int (xs (v3 + 2).toNatClampNeg)]) (r := [.int r]) (ls' := [.ref 36, .int (xs (v3 + 1).toNatClampNeg), .int (xs (v3 + 2).toNatClampNeg)]) rl_W_law_1078 rfl hp_36 rfl rfl pl_M_month rfl rfl (k147)) k148))))) k0)))))
set_option maxRecDepth 100000 in
set_option maxHeartbeats 4000000 in
theorem sg_W_law_1081r {L : Nat} {xs : Nat → Int32} {A V : Nat → Nat → Int32} {K : Nat → Option Nat} {T : am_H} {v : Option Int32} {h' : am_H} {v3 r s : Int32} (k0 :
    if r = s then (
      am_fin [(z_W_law, 18, [.ref 0, .ref 1, .ref 36, .int (v3 + 6)], [])] (hp L xs A V K T) v h')
    else (
      v = some 0 ∧ h' = hp L xs A V K T)) : am_fin [(z_W_law, 1081, [.ref 0, .ref 1, .ref 36, .int v3], [.int s, .int r])] (hp L xs A V K T) v h' :=
  fn_icmp_eq rl_W_law_1081 (fun k149 => fn_iinc (ls' := [.ref 0, .ref 1, .ref 36, .int (v3 + 6)]) rl_W_law_2473 rfl rfl rfl (fn_goto rl_W_law_2476 (k149))) (fun k150 => fn_iconst rl_W_law_1084 (fn_reti rl_W_law_1085 rfl k150)) k0
set_option maxRecDepth 100000 in
set_option maxHeartbeats 4000000 in
theorem sg_W_law_1086 {L : Nat} {xs : Nat → Int32} {A V : Nat → Nat → Int32} {K : Nat → Option Nat} {T : am_H} {v : Option Int32} {h' : am_H} {v3 : Int32} (k0 :
    ¬ ((v3 + 1) < 0 ∨ L ≤ (v3 + 1).toNatClampNeg) ∧ (
    ¬ ((v3 + 2) < 0 ∨ L ≤ (v3 + 2).toNatClampNeg) ∧ (
    ¬ ((v3 + 3) < 0 ∨ L ≤ (v3 + 3).toNatClampNeg) ∧ (
    am_fin [(z_L_within, 0, [.ref 1, .int (xs (v3 + 1).toNatClampNeg), .int (xs (v3 + 2).toNatClampNeg), .int (xs (v3 + 3).toNatClampNeg)], []), (z_W_law, 1105, [.ref 0, .ref 1, .ref 36, .int v3], [])] (hp L xs A V K T) v h')))) : am_fin [(z_W_law, 1086, [.ref 0, .ref 1, .ref 36, .int v3], [])] (hp L xs A V K T) v h' :=
  fn_aload_n rl_W_law_1086 rfl (fn_aload_n rl_W_law_1087 rfl (fn_iload_n rl_W_law_1088 rfl (fn_iconst rl_W_law_1089 (fn_iadd rl_W_law_1090 (fn_iald rl_W_law_1091 hp_0 (fun k153 => fn_aload_n rl_W_law_1092 rfl (fn_iload_n rl_W_law_1093 rfl (fn_iconst rl_W_law_1094 (fn_iadd rl_W_law_1095 (fn_iald rl_W_law_1096 hp_0 (fun k152 => fn_aload_n rl_W_law_1097 rfl (fn_iload_n rl_W_law_1098 rfl (fn_iconst rl_W_law_1099 (fn_iadd rl_W_law_1100 (fn_iald rl_W_law_1101 hp_0 (fun k151 => fn_virt (as := [.ref 1, .int (xs (v3 + 1).toNatClampNeg), .int (xs (v3 + 2).toNatClampNeg), .int (xs (v3 + 3).toNatClampNeg)]) (r := []) (ls' := [.ref 1, .int (xs (v3 + 1).toNatClampNeg), .int (xs (v3 + 2).toNatClampNeg), .int (xs (v3 + 3).toNatClampNeg)]) rl_W_law_1102 rfl hp_1 rfl rfl pl_L_within rfl rfl (k151)) k152))))) k153))))) k0)))))
set_option maxRecDepth 100000 in
set_option maxHeartbeats 4000000 in
theorem sg_W_law_1105r {L : Nat} {xs : Nat → Int32} {A V : Nat → Nat → Int32} {K : Nat → Option Nat} {T : am_H} {v : Option Int32} {h' : am_H} {v3 r : Int32} (k0 :
    ¬ ((v3 + 1) < 0 ∨ L ≤ (v3 + 1).toNatClampNeg) ∧ (
    ¬ ((v3 + 2) < 0 ∨ L ≤ (v3 + 2).toNatClampNeg) ∧ (
    ¬ ((v3 + 3) < 0 ∨ L ≤ (v3 + 3).toNatClampNeg) ∧ (
    am_fin [(z_M_within, 0, [.ref 36, .int (xs (v3 + 1).toNatClampNeg), .int (xs (v3 + 2).toNatClampNeg), .int (xs (v3 + 3).toNatClampNeg)], []), (z_W_law, 1124, [.ref 0, .ref 1, .ref 36, .int v3], [.int r])] (hp L xs A V K T) v h')))) : am_fin [(z_W_law, 1105, [.ref 0, .ref 1, .ref 36, .int v3], [.int r])] (hp L xs A V K T) v h' :=
  fn_aload_n rl_W_law_1105 rfl (fn_aload_n rl_W_law_1106 rfl (fn_iload_n rl_W_law_1107 rfl (fn_iconst rl_W_law_1108 (fn_iadd rl_W_law_1109 (fn_iald rl_W_law_1110 hp_0 (fun k156 => fn_aload_n rl_W_law_1111 rfl (fn_iload_n rl_W_law_1112 rfl (fn_iconst rl_W_law_1113 (fn_iadd rl_W_law_1114 (fn_iald rl_W_law_1115 hp_0 (fun k155 => fn_aload_n rl_W_law_1116 rfl (fn_iload_n rl_W_law_1117 rfl (fn_iconst rl_W_law_1118 (fn_iadd rl_W_law_1119 (fn_iald rl_W_law_1120 hp_0 (fun k154 => fn_virt (as := [.ref 36, .int (xs (v3 + 1).toNatClampNeg), .int (xs (v3 + 2).toNatClampNeg), .int (xs (v3 + 3).toNatClampNeg)]) (r := [.int r]) (ls' := [.ref 36, .int (xs (v3 + 1).toNatClampNeg), .int (xs (v3 + 2).toNatClampNeg), .int (xs (v3 + 3).toNatClampNeg)]) rl_W_law_1121 rfl hp_36 rfl rfl pl_M_within rfl rfl (k154)) k155))))) k156))))) k0)))))
set_option maxRecDepth 100000 in
set_option maxHeartbeats 4000000 in
theorem sg_W_law_1124r {L : Nat} {xs : Nat → Int32} {A V : Nat → Nat → Int32} {K : Nat → Option Nat} {T : am_H} {v : Option Int32} {h' : am_H} {v3 r s : Int32} (k0 :
    if r = s then (
      am_fin [(z_W_law, 18, [.ref 0, .ref 1, .ref 36, .int (v3 + 6)], [])] (hp L xs A V K T) v h')
    else (
      v = some 0 ∧ h' = hp L xs A V K T)) : am_fin [(z_W_law, 1124, [.ref 0, .ref 1, .ref 36, .int v3], [.int s, .int r])] (hp L xs A V K T) v h' :=
  fn_icmp_eq rl_W_law_1124 (fun k157 => fn_iinc (ls' := [.ref 0, .ref 1, .ref 36, .int (v3 + 6)]) rl_W_law_2473 rfl rfl rfl (fn_goto rl_W_law_2476 (k157))) (fun k158 => fn_iconst rl_W_law_1127 (fn_reti rl_W_law_1128 rfl k158)) k0
set_option maxRecDepth 100000 in
set_option maxHeartbeats 4000000 in
theorem sg_W_law_1129 {L : Nat} {xs : Nat → Int32} {A V : Nat → Nat → Int32} {K : Nat → Option Nat} {T : am_H} {v : Option Int32} {h' : am_H} {v3 : Int32} (k0 :
    ¬ ((v3 + 1) < 0 ∨ L ≤ (v3 + 1).toNatClampNeg) ∧ (
    ¬ ((v3 + 2) < 0 ∨ L ≤ (v3 + 2).toNatClampNeg) ∧ (
    ¬ ((v3 + 3) < 0 ∨ L ≤ (v3 + 3).toNatClampNeg) ∧ (
    ¬ ((v3 + 4) < 0 ∨ L ≤ (v3 + 4).toNatClampNeg) ∧ (
    am_fin [(z_L_overstays, 0, [.ref 1, .int (xs (v3 + 1).toNatClampNeg), .int (xs (v3 + 2).toNatClampNeg), .int (xs (v3 + 3).toNatClampNeg), .int (xs (v3 + 4).toNatClampNeg), .null, .null, .null, .null, .null], []), (z_W_law, 1153, [.ref 0, .ref 1, .ref 36, .int v3], [])] (hp L xs A V K T) v h'))))) : am_fin [(z_W_law, 1129, [.ref 0, .ref 1, .ref 36, .int v3], [])] (hp L xs A V K T) v h' :=
  fn_aload_n rl_W_law_1129 rfl (fn_aload_n rl_W_law_1130 rfl (fn_iload_n rl_W_law_1131 rfl (fn_iconst rl_W_law_1132 (fn_iadd rl_W_law_1133 (fn_iald rl_W_law_1134 hp_0 (fun k162 => fn_aload_n rl_W_law_1135 rfl (fn_iload_n rl_W_law_1136 rfl (fn_iconst rl_W_law_1137 (fn_iadd rl_W_law_1138 (fn_iald rl_W_law_1139 hp_0 (fun k161 => fn_aload_n rl_W_law_1140 rfl (fn_iload_n rl_W_law_1141 rfl (fn_iconst rl_W_law_1142 (fn_iadd rl_W_law_1143 (fn_iald rl_W_law_1144 hp_0 (fun k160 => fn_aload_n rl_W_law_1145 rfl (fn_iload_n rl_W_law_1146 rfl (fn_iconst rl_W_law_1147 (fn_iadd rl_W_law_1148 (fn_iald rl_W_law_1149 hp_0 (fun k159 => fn_virt (as := [.ref 1, .int (xs (v3 + 1).toNatClampNeg), .int (xs (v3 + 2).toNatClampNeg), .int (xs (v3 + 3).toNatClampNeg), .int (xs (v3 + 4).toNatClampNeg)]) (r := []) (ls' := [.ref 1, .int (xs (v3 + 1).toNatClampNeg), .int (xs (v3 + 2).toNatClampNeg), .int (xs (v3 + 3).toNatClampNeg), .int (xs (v3 + 4).toNatClampNeg), .null, .null, .null, .null, .null]) rl_W_law_1150 rfl hp_1 rfl rfl pl_L_overstays rfl rfl (k159)) k160))))) k161))))) k162))))) k0)))))
set_option maxRecDepth 100000 in
set_option maxHeartbeats 4000000 in
theorem sg_W_law_1153r {L : Nat} {xs : Nat → Int32} {A V : Nat → Nat → Int32} {K : Nat → Option Nat} {T : am_H} {v : Option Int32} {h' : am_H} {v3 r : Int32} (k0 :
    ¬ ((v3 + 1) < 0 ∨ L ≤ (v3 + 1).toNatClampNeg) ∧ (
    ¬ ((v3 + 2) < 0 ∨ L ≤ (v3 + 2).toNatClampNeg) ∧ (
    ¬ ((v3 + 3) < 0 ∨ L ≤ (v3 + 3).toNatClampNeg) ∧ (
    ¬ ((v3 + 4) < 0 ∨ L ≤ (v3 + 4).toNatClampNeg) ∧ (
    am_fin [(z_M_overstays, 0, [.ref 36, .int (xs (v3 + 1).toNatClampNeg), .int (xs (v3 + 2).toNatClampNeg), .int (xs (v3 + 3).toNatClampNeg), .int (xs (v3 + 4).toNatClampNeg)], []), (z_W_law, 1177, [.ref 0, .ref 1, .ref 36, .int v3], [.int r])] (hp L xs A V K T) v h'))))) : am_fin [(z_W_law, 1153, [.ref 0, .ref 1, .ref 36, .int v3], [.int r])] (hp L xs A V K T) v h' :=
  fn_aload_n rl_W_law_1153 rfl (fn_aload_n rl_W_law_1154 rfl (fn_iload_n rl_W_law_1155 rfl (fn_iconst rl_W_law_1156 (fn_iadd rl_W_law_1157 (fn_iald rl_W_law_1158 hp_0 (fun k166 => fn_aload_n rl_W_law_1159 rfl (fn_iload_n rl_W_law_1160 rfl (fn_iconst rl_W_law_1161 (fn_iadd rl_W_law_1162 (fn_iald rl_W_law_1163 hp_0 (fun k165 => fn_aload_n rl_W_law_1164 rfl (fn_iload_n rl_W_law_1165 rfl (fn_iconst rl_W_law_1166 (fn_iadd rl_W_law_1167 (fn_iald rl_W_law_1168 hp_0 (fun k164 => fn_aload_n rl_W_law_1169 rfl (fn_iload_n rl_W_law_1170 rfl (fn_iconst rl_W_law_1171 (fn_iadd rl_W_law_1172 (fn_iald rl_W_law_1173 hp_0 (fun k163 => fn_virt (as := [.ref 36, .int (xs (v3 + 1).toNatClampNeg), .int (xs (v3 + 2).toNatClampNeg), .int (xs (v3 + 3).toNatClampNeg), .int (xs (v3 + 4).toNatClampNeg)]) (r := [.int r]) (ls' := [.ref 36, .int (xs (v3 + 1).toNatClampNeg), .int (xs (v3 + 2).toNatClampNeg), .int (xs (v3 + 3).toNatClampNeg), .int (xs (v3 + 4).toNatClampNeg)]) rl_W_law_1174 rfl hp_36 rfl rfl pl_M_overstays rfl rfl (k163)) k164))))) k165))))) k166))))) k0)))))
set_option maxRecDepth 100000 in
set_option maxHeartbeats 4000000 in
theorem sg_W_law_1177r {L : Nat} {xs : Nat → Int32} {A V : Nat → Nat → Int32} {K : Nat → Option Nat} {T : am_H} {v : Option Int32} {h' : am_H} {v3 r s : Int32} (k0 :
    if r = s then (
      am_fin [(z_W_law, 18, [.ref 0, .ref 1, .ref 36, .int (v3 + 6)], [])] (hp L xs A V K T) v h')
    else (
      v = some 0 ∧ h' = hp L xs A V K T)) : am_fin [(z_W_law, 1177, [.ref 0, .ref 1, .ref 36, .int v3], [.int s, .int r])] (hp L xs A V K T) v h' :=
  fn_icmp_eq rl_W_law_1177 (fun k167 => fn_iinc (ls' := [.ref 0, .ref 1, .ref 36, .int (v3 + 6)]) rl_W_law_2473 rfl rfl rfl (fn_goto rl_W_law_2476 (k167))) (fun k168 => fn_iconst rl_W_law_1180 (fn_reti rl_W_law_1181 rfl k168)) k0
set_option maxRecDepth 100000 in
set_option maxHeartbeats 4000000 in
theorem sg_W_law_1182 {L : Nat} {xs : Nat → Int32} {A V : Nat → Nat → Int32} {K : Nat → Option Nat} {T : am_H} {v : Option Int32} {h' : am_H} {v3 : Int32} (k0 :
    ¬ ((v3 + 1) < 0 ∨ L ≤ (v3 + 1).toNatClampNeg) ∧ (
    ¬ ((v3 + 2) < 0 ∨ L ≤ (v3 + 2).toNatClampNeg) ∧ (
    ¬ ((v3 + 3) < 0 ∨ L ≤ (v3 + 3).toNatClampNeg) ∧ (
    am_fin [(z_L_nth, 0, [.ref 1, .int (xs (v3 + 1).toNatClampNeg), .int (xs (v3 + 2).toNatClampNeg), .int (xs (v3 + 3).toNatClampNeg), .null, .null, .null], []), (z_W_law, 1201, [.ref 0, .ref 1, .ref 36, .int v3], [])] (hp L xs A V K T) v h')))) : am_fin [(z_W_law, 1182, [.ref 0, .ref 1, .ref 36, .int v3], [])] (hp L xs A V K T) v h' :=
  fn_aload_n rl_W_law_1182 rfl (fn_aload_n rl_W_law_1183 rfl (fn_iload_n rl_W_law_1184 rfl (fn_iconst rl_W_law_1185 (fn_iadd rl_W_law_1186 (fn_iald rl_W_law_1187 hp_0 (fun k171 => fn_aload_n rl_W_law_1188 rfl (fn_iload_n rl_W_law_1189 rfl (fn_iconst rl_W_law_1190 (fn_iadd rl_W_law_1191 (fn_iald rl_W_law_1192 hp_0 (fun k170 => fn_aload_n rl_W_law_1193 rfl (fn_iload_n rl_W_law_1194 rfl (fn_iconst rl_W_law_1195 (fn_iadd rl_W_law_1196 (fn_iald rl_W_law_1197 hp_0 (fun k169 => fn_virt (as := [.ref 1, .int (xs (v3 + 1).toNatClampNeg), .int (xs (v3 + 2).toNatClampNeg), .int (xs (v3 + 3).toNatClampNeg)]) (r := []) (ls' := [.ref 1, .int (xs (v3 + 1).toNatClampNeg), .int (xs (v3 + 2).toNatClampNeg), .int (xs (v3 + 3).toNatClampNeg), .null, .null, .null]) rl_W_law_1198 rfl hp_1 rfl rfl pl_L_nth rfl rfl (k169)) k170))))) k171))))) k0)))))
set_option maxRecDepth 100000 in
set_option maxHeartbeats 4000000 in
theorem sg_W_law_1201r {L : Nat} {xs : Nat → Int32} {A V : Nat → Nat → Int32} {K : Nat → Option Nat} {T : am_H} {v : Option Int32} {h' : am_H} {v3 r : Int32} (k0 :
    ¬ ((v3 + 1) < 0 ∨ L ≤ (v3 + 1).toNatClampNeg) ∧ (
    ¬ ((v3 + 2) < 0 ∨ L ≤ (v3 + 2).toNatClampNeg) ∧ (
    ¬ ((v3 + 3) < 0 ∨ L ≤ (v3 + 3).toNatClampNeg) ∧ (
    am_fin [(z_M_nth, 0, [.ref 36, .int (xs (v3 + 1).toNatClampNeg), .int (xs (v3 + 2).toNatClampNeg), .int (xs (v3 + 3).toNatClampNeg), .null, .null], []), (z_W_law, 1220, [.ref 0, .ref 1, .ref 36, .int v3], [.int r])] (hp L xs A V K T) v h')))) : am_fin [(z_W_law, 1201, [.ref 0, .ref 1, .ref 36, .int v3], [.int r])] (hp L xs A V K T) v h' :=
  fn_aload_n rl_W_law_1201 rfl (fn_aload_n rl_W_law_1202 rfl (fn_iload_n rl_W_law_1203 rfl (fn_iconst rl_W_law_1204 (fn_iadd rl_W_law_1205 (fn_iald rl_W_law_1206 hp_0 (fun k174 => fn_aload_n rl_W_law_1207 rfl (fn_iload_n rl_W_law_1208 rfl (fn_iconst rl_W_law_1209 (fn_iadd rl_W_law_1210 (fn_iald rl_W_law_1211 hp_0 (fun k173 => fn_aload_n rl_W_law_1212 rfl (fn_iload_n rl_W_law_1213 rfl (fn_iconst rl_W_law_1214 (fn_iadd rl_W_law_1215 (fn_iald rl_W_law_1216 hp_0 (fun k172 => fn_virt (as := [.ref 36, .int (xs (v3 + 1).toNatClampNeg), .int (xs (v3 + 2).toNatClampNeg), .int (xs (v3 + 3).toNatClampNeg)]) (r := [.int r]) (ls' := [.ref 36, .int (xs (v3 + 1).toNatClampNeg), .int (xs (v3 + 2).toNatClampNeg), .int (xs (v3 + 3).toNatClampNeg), .null, .null]) rl_W_law_1217 rfl hp_36 rfl rfl pl_M_nth rfl rfl (k172)) k173))))) k174))))) k0)))))
set_option maxRecDepth 100000 in
set_option maxHeartbeats 4000000 in
theorem sg_W_law_1220r {L : Nat} {xs : Nat → Int32} {A V : Nat → Nat → Int32} {K : Nat → Option Nat} {T : am_H} {v : Option Int32} {h' : am_H} {v3 r s : Int32} (k0 :
    if r = s then (
      am_fin [(z_W_law, 18, [.ref 0, .ref 1, .ref 36, .int (v3 + 6)], [])] (hp L xs A V K T) v h')
    else (
      v = some 0 ∧ h' = hp L xs A V K T)) : am_fin [(z_W_law, 1220, [.ref 0, .ref 1, .ref 36, .int v3], [.int s, .int r])] (hp L xs A V K T) v h' :=
  fn_icmp_eq rl_W_law_1220 (fun k175 => fn_iinc (ls' := [.ref 0, .ref 1, .ref 36, .int (v3 + 6)]) rl_W_law_2473 rfl rfl rfl (fn_goto rl_W_law_2476 (k175))) (fun k176 => fn_iconst rl_W_law_1223 (fn_reti rl_W_law_1224 rfl k176)) k0
set_option maxRecDepth 100000 in
set_option maxHeartbeats 4000000 in
theorem sg_W_law_1225 {L : Nat} {xs : Nat → Int32} {A V : Nat → Nat → Int32} {K : Nat → Option Nat} {T : am_H} {v : Option Int32} {h' : am_H} {v3 : Int32} (k0 :
    ¬ ((v3 + 1) < 0 ∨ L ≤ (v3 + 1).toNatClampNeg) ∧ (
    ¬ ((v3 + 2) < 0 ∨ L ≤ (v3 + 2).toNatClampNeg) ∧ (
    am_fin [(z_L_away, 0, [.ref 1, .int (xs (v3 + 1).toNatClampNeg), .int (xs (v3 + 2).toNatClampNeg), .null, .null, .null, .null], []), (z_W_law, 1239, [.ref 0, .ref 1, .ref 36, .int v3], [])] (hp L xs A V K T) v h'))) : am_fin [(z_W_law, 1225, [.ref 0, .ref 1, .ref 36, .int v3], [])] (hp L xs A V K T) v h' :=
  fn_aload_n rl_W_law_1225 rfl (fn_aload_n rl_W_law_1226 rfl (fn_iload_n rl_W_law_1227 rfl (fn_iconst rl_W_law_1228 (fn_iadd rl_W_law_1229 (fn_iald rl_W_law_1230 hp_0 (fun k178 => fn_aload_n rl_W_law_1231 rfl (fn_iload_n rl_W_law_1232 rfl (fn_iconst rl_W_law_1233 (fn_iadd rl_W_law_1234 (fn_iald rl_W_law_1235 hp_0 (fun k177 => fn_virt (as := [.ref 1, .int (xs (v3 + 1).toNatClampNeg), .int (xs (v3 + 2).toNatClampNeg)]) (r := []) (ls' := [.ref 1, .int (xs (v3 + 1).toNatClampNeg), .int (xs (v3 + 2).toNatClampNeg), .null, .null, .null, .null]) rl_W_law_1236 rfl hp_1 rfl rfl pl_L_away rfl rfl (k177)) k178))))) k0)))))
set_option maxRecDepth 100000 in
set_option maxHeartbeats 4000000 in
theorem sg_W_law_1239r {L : Nat} {xs : Nat → Int32} {A V : Nat → Nat → Int32} {K : Nat → Option Nat} {T : am_H} {v : Option Int32} {h' : am_H} {v3 r : Int32} (k0 :
    ¬ ((v3 + 1) < 0 ∨ L ≤ (v3 + 1).toNatClampNeg) ∧ (
    ¬ ((v3 + 2) < 0 ∨ L ≤ (v3 + 2).toNatClampNeg) ∧ (
    am_fin [(z_M_away, 0, [.ref 36, .int (xs (v3 + 1).toNatClampNeg), .int (xs (v3 + 2).toNatClampNeg), .null, .null, .null, .null], []), (z_W_law, 1253, [.ref 0, .ref 1, .ref 36, .int v3], [.int r])] (hp L xs A V K T) v h'))) : am_fin [(z_W_law, 1239, [.ref 0, .ref 1, .ref 36, .int v3], [.int r])] (hp L xs A V K T) v h' :=
  fn_aload_n rl_W_law_1239 rfl (fn_aload_n rl_W_law_1240 rfl (fn_iload_n rl_W_law_1241 rfl (fn_iconst rl_W_law_1242 (fn_iadd rl_W_law_1243 (fn_iald rl_W_law_1244 hp_0 (fun k180 => fn_aload_n rl_W_law_1245 rfl (fn_iload_n rl_W_law_1246 rfl (fn_iconst rl_W_law_1247 (fn_iadd rl_W_law_1248 (fn_iald rl_W_law_1249 hp_0 (fun k179 => fn_virt (as := [.ref 36, .int (xs (v3 + 1).toNatClampNeg), .int (xs (v3 + 2).toNatClampNeg)]) (r := [.int r]) (ls' := [.ref 36, .int (xs (v3 + 1).toNatClampNeg), .int (xs (v3 + 2).toNatClampNeg), .null, .null, .null, .null]) rl_W_law_1250 rfl hp_36 rfl rfl pl_M_away rfl rfl (k179)) k180))))) k0)))))
set_option maxRecDepth 100000 in
set_option maxHeartbeats 4000000 in
theorem sg_W_law_1253r {L : Nat} {xs : Nat → Int32} {A V : Nat → Nat → Int32} {K : Nat → Option Nat} {T : am_H} {v : Option Int32} {h' : am_H} {v3 r s : Int32} (k0 :
    if r = s then (
      am_fin [(z_W_law, 18, [.ref 0, .ref 1, .ref 36, .int (v3 + 6)], [])] (hp L xs A V K T) v h')
    else (
      v = some 0 ∧ h' = hp L xs A V K T)) : am_fin [(z_W_law, 1253, [.ref 0, .ref 1, .ref 36, .int v3], [.int s, .int r])] (hp L xs A V K T) v h' :=
  fn_icmp_eq rl_W_law_1253 (fun k181 => fn_iinc (ls' := [.ref 0, .ref 1, .ref 36, .int (v3 + 6)]) rl_W_law_2473 rfl rfl rfl (fn_goto rl_W_law_2476 (k181))) (fun k182 => fn_iconst rl_W_law_1256 (fn_reti rl_W_law_1257 rfl k182)) k0
set_option maxRecDepth 100000 in
set_option maxHeartbeats 4000000 in
theorem sg_W_law_1258 {L : Nat} {xs : Nat → Int32} {A V : Nat → Nat → Int32} {K : Nat → Option Nat} {T : am_H} {v : Option Int32} {h' : am_H} {v3 : Int32} (k0 :
    ¬ ((v3 + 1) < 0 ∨ L ≤ (v3 + 1).toNatClampNeg) ∧ (
    ¬ ((v3 + 2) < 0 ∨ L ≤ (v3 + 2).toNatClampNeg) ∧ (
    am_fin [(z_L_travels, 0, [.ref 1, .int (xs (v3 + 1).toNatClampNeg), .int (xs (v3 + 2).toNatClampNeg), .null, .null, .null, .null], []), (z_W_law, 1272, [.ref 0, .ref 1, .ref 36, .int v3], [])] (hp L xs A V K T) v h'))) : am_fin [(z_W_law, 1258, [.ref 0, .ref 1, .ref 36, .int v3], [])] (hp L xs A V K T) v h' :=
  fn_aload_n rl_W_law_1258 rfl (fn_aload_n rl_W_law_1259 rfl (fn_iload_n rl_W_law_1260 rfl (fn_iconst rl_W_law_1261 (fn_iadd rl_W_law_1262 (fn_iald rl_W_law_1263 hp_0 (fun k184 => fn_aload_n rl_W_law_1264 rfl (fn_iload_n rl_W_law_1265 rfl (fn_iconst rl_W_law_1266 (fn_iadd rl_W_law_1267 (fn_iald rl_W_law_1268 hp_0 (fun k183 => fn_virt (as := [.ref 1, .int (xs (v3 + 1).toNatClampNeg), .int (xs (v3 + 2).toNatClampNeg)]) (r := []) (ls' := [.ref 1, .int (xs (v3 + 1).toNatClampNeg), .int (xs (v3 + 2).toNatClampNeg), .null, .null, .null, .null]) rl_W_law_1269 rfl hp_1 rfl rfl pl_L_travels rfl rfl (k183)) k184))))) k0)))))
set_option maxRecDepth 100000 in
set_option maxHeartbeats 4000000 in
theorem sg_W_law_1272r {L : Nat} {xs : Nat → Int32} {A V : Nat → Nat → Int32} {K : Nat → Option Nat} {T : am_H} {v : Option Int32} {h' : am_H} {v3 r : Int32} (k0 :
    ¬ ((v3 + 1) < 0 ∨ L ≤ (v3 + 1).toNatClampNeg) ∧ (
    ¬ ((v3 + 2) < 0 ∨ L ≤ (v3 + 2).toNatClampNeg) ∧ (
    am_fin [(z_M_travels, 0, [.ref 36, .int (xs (v3 + 1).toNatClampNeg), .int (xs (v3 + 2).toNatClampNeg), .null, .null, .null, .null], []), (z_W_law, 1286, [.ref 0, .ref 1, .ref 36, .int v3], [.int r])] (hp L xs A V K T) v h'))) : am_fin [(z_W_law, 1272, [.ref 0, .ref 1, .ref 36, .int v3], [.int r])] (hp L xs A V K T) v h' :=
  fn_aload_n rl_W_law_1272 rfl (fn_aload_n rl_W_law_1273 rfl (fn_iload_n rl_W_law_1274 rfl (fn_iconst rl_W_law_1275 (fn_iadd rl_W_law_1276 (fn_iald rl_W_law_1277 hp_0 (fun k186 => fn_aload_n rl_W_law_1278 rfl (fn_iload_n rl_W_law_1279 rfl (fn_iconst rl_W_law_1280 (fn_iadd rl_W_law_1281 (fn_iald rl_W_law_1282 hp_0 (fun k185 => fn_virt (as := [.ref 36, .int (xs (v3 + 1).toNatClampNeg), .int (xs (v3 + 2).toNatClampNeg)]) (r := [.int r]) (ls' := [.ref 36, .int (xs (v3 + 1).toNatClampNeg), .int (xs (v3 + 2).toNatClampNeg), .null, .null, .null, .null]) rl_W_law_1283 rfl hp_36 rfl rfl pl_M_travels rfl rfl (k185)) k186))))) k0)))))
set_option maxRecDepth 100000 in
set_option maxHeartbeats 4000000 in
theorem sg_W_law_1286r {L : Nat} {xs : Nat → Int32} {A V : Nat → Nat → Int32} {K : Nat → Option Nat} {T : am_H} {v : Option Int32} {h' : am_H} {v3 r s : Int32} (k0 :
    if r = s then (
      am_fin [(z_W_law, 18, [.ref 0, .ref 1, .ref 36, .int (v3 + 6)], [])] (hp L xs A V K T) v h')
    else (
      v = some 0 ∧ h' = hp L xs A V K T)) : am_fin [(z_W_law, 1286, [.ref 0, .ref 1, .ref 36, .int v3], [.int s, .int r])] (hp L xs A V K T) v h' :=
  fn_icmp_eq rl_W_law_1286 (fun k187 => fn_iinc (ls' := [.ref 0, .ref 1, .ref 36, .int (v3 + 6)]) rl_W_law_2473 rfl rfl rfl (fn_goto rl_W_law_2476 (k187))) (fun k188 => fn_iconst rl_W_law_1289 (fn_reti rl_W_law_1290 rfl k188)) k0
set_option maxRecDepth 100000 in
set_option maxHeartbeats 4000000 in
theorem sg_W_law_1291 {L : Nat} {xs : Nat → Int32} {A V : Nat → Nat → Int32} {K : Nat → Option Nat} {T : am_H} {v : Option Int32} {h' : am_H} {v3 : Int32} (k0 :
    ¬ ((v3 + 1) < 0 ∨ L ≤ (v3 + 1).toNatClampNeg) ∧ (
    ¬ ((v3 + 2) < 0 ∨ L ≤ (v3 + 2).toNatClampNeg) ∧ (
    ¬ ((v3 + 3) < 0 ∨ L ≤ (v3 + 3).toNatClampNeg) ∧ (
    am_fin [(z_L_most, 0, [.ref 1, .int (xs (v3 + 1).toNatClampNeg), .int (xs (v3 + 2).toNatClampNeg), .int (xs (v3 + 3).toNatClampNeg)], []), (z_W_law, 1310, [.ref 0, .ref 1, .ref 36, .int v3], [])] (hp L xs A V K T) v h')))) : am_fin [(z_W_law, 1291, [.ref 0, .ref 1, .ref 36, .int v3], [])] (hp L xs A V K T) v h' :=
  fn_aload_n rl_W_law_1291 rfl (fn_aload_n rl_W_law_1292 rfl (fn_iload_n rl_W_law_1293 rfl (fn_iconst rl_W_law_1294 (fn_iadd rl_W_law_1295 (fn_iald rl_W_law_1296 hp_0 (fun k191 => fn_aload_n rl_W_law_1297 rfl (fn_iload_n rl_W_law_1298 rfl (fn_iconst rl_W_law_1299 (fn_iadd rl_W_law_1300 (fn_iald rl_W_law_1301 hp_0 (fun k190 => fn_aload_n rl_W_law_1302 rfl (fn_iload_n rl_W_law_1303 rfl (fn_iconst rl_W_law_1304 (fn_iadd rl_W_law_1305 (fn_iald rl_W_law_1306 hp_0 (fun k189 => fn_virt (as := [.ref 1, .int (xs (v3 + 1).toNatClampNeg), .int (xs (v3 + 2).toNatClampNeg), .int (xs (v3 + 3).toNatClampNeg)]) (r := []) (ls' := [.ref 1, .int (xs (v3 + 1).toNatClampNeg), .int (xs (v3 + 2).toNatClampNeg), .int (xs (v3 + 3).toNatClampNeg)]) rl_W_law_1307 rfl hp_1 rfl rfl pl_L_most rfl rfl (k189)) k190))))) k191))))) k0)))))
set_option maxRecDepth 100000 in
set_option maxHeartbeats 4000000 in
theorem sg_W_law_1310r {L : Nat} {xs : Nat → Int32} {A V : Nat → Nat → Int32} {K : Nat → Option Nat} {T : am_H} {v : Option Int32} {h' : am_H} {v3 r : Int32} (k0 :
    ¬ ((v3 + 1) < 0 ∨ L ≤ (v3 + 1).toNatClampNeg) ∧ (
    ¬ ((v3 + 2) < 0 ∨ L ≤ (v3 + 2).toNatClampNeg) ∧ (
    ¬ ((v3 + 3) < 0 ∨ L ≤ (v3 + 3).toNatClampNeg) ∧ (
    am_fin [(z_M_most, 0, [.ref 36, .int (xs (v3 + 1).toNatClampNeg), .int (xs (v3 + 2).toNatClampNeg), .int (xs (v3 + 3).toNatClampNeg)], []), (z_W_law, 1329, [.ref 0, .ref 1, .ref 36, .int v3], [.int r])] (hp L xs A V K T) v h')))) : am_fin [(z_W_law, 1310, [.ref 0, .ref 1, .ref 36, .int v3], [.int r])] (hp L xs A V K T) v h' :=
  fn_aload_n rl_W_law_1310 rfl (fn_aload_n rl_W_law_1311 rfl (fn_iload_n rl_W_law_1312 rfl (fn_iconst rl_W_law_1313 (fn_iadd rl_W_law_1314 (fn_iald rl_W_law_1315 hp_0 (fun k194 => fn_aload_n rl_W_law_1316 rfl (fn_iload_n rl_W_law_1317 rfl (fn_iconst rl_W_law_1318 (fn_iadd rl_W_law_1319 (fn_iald rl_W_law_1320 hp_0 (fun k193 => fn_aload_n rl_W_law_1321 rfl (fn_iload_n rl_W_law_1322 rfl (fn_iconst rl_W_law_1323 (fn_iadd rl_W_law_1324 (fn_iald rl_W_law_1325 hp_0 (fun k192 => fn_virt (as := [.ref 36, .int (xs (v3 + 1).toNatClampNeg), .int (xs (v3 + 2).toNatClampNeg), .int (xs (v3 + 3).toNatClampNeg)]) (r := [.int r]) (ls' := [.ref 36, .int (xs (v3 + 1).toNatClampNeg), .int (xs (v3 + 2).toNatClampNeg), .int (xs (v3 + 3).toNatClampNeg)]) rl_W_law_1326 rfl hp_36 rfl rfl pl_M_most rfl rfl (k192)) k193))))) k194))))) k0)))))
set_option maxRecDepth 100000 in
set_option maxHeartbeats 4000000 in
theorem sg_W_law_1329r {L : Nat} {xs : Nat → Int32} {A V : Nat → Nat → Int32} {K : Nat → Option Nat} {T : am_H} {v : Option Int32} {h' : am_H} {v3 r s : Int32} (k0 :
    if r = s then (
      am_fin [(z_W_law, 18, [.ref 0, .ref 1, .ref 36, .int (v3 + 6)], [])] (hp L xs A V K T) v h')
    else (
      v = some 0 ∧ h' = hp L xs A V K T)) : am_fin [(z_W_law, 1329, [.ref 0, .ref 1, .ref 36, .int v3], [.int s, .int r])] (hp L xs A V K T) v h' :=
  fn_icmp_eq rl_W_law_1329 (fun k195 => fn_iinc (ls' := [.ref 0, .ref 1, .ref 36, .int (v3 + 6)]) rl_W_law_2473 rfl rfl rfl (fn_goto rl_W_law_2476 (k195))) (fun k196 => fn_iconst rl_W_law_1332 (fn_reti rl_W_law_1333 rfl k196)) k0
set_option maxRecDepth 100000 in
set_option maxHeartbeats 4000000 in
theorem sg_W_law_1334 {L : Nat} {xs : Nat → Int32} {A V : Nat → Nat → Int32} {K : Nat → Option Nat} {T : am_H} {v : Option Int32} {h' : am_H} {v3 : Int32} (k0 :
    ¬ ((v3 + 1) < 0 ∨ L ≤ (v3 + 1).toNatClampNeg) ∧ (
    ¬ ((v3 + 2) < 0 ∨ L ≤ (v3 + 2).toNatClampNeg) ∧ (
    ¬ ((v3 + 3) < 0 ∨ L ≤ (v3 + 3).toNatClampNeg) ∧ (
    am_fin [(z_L_tight, 0, [.ref 1, .int (xs (v3 + 1).toNatClampNeg), .int (xs (v3 + 2).toNatClampNeg), .int (xs (v3 + 3).toNatClampNeg), .null, .null, .null, .null], []), (z_W_law, 1353, [.ref 0, .ref 1, .ref 36, .int v3], [])] (hp L xs A V K T) v h')))) : am_fin [(z_W_law, 1334, [.ref 0, .ref 1, .ref 36, .int v3], [])] (hp L xs A V K T) v h' :=
  fn_aload_n rl_W_law_1334 rfl (fn_aload_n rl_W_law_1335 rfl (fn_iload_n rl_W_law_1336 rfl (fn_iconst rl_W_law_1337 (fn_iadd rl_W_law_1338 (fn_iald rl_W_law_1339 hp_0 (fun k199 => fn_aload_n rl_W_law_1340 rfl (fn_iload_n rl_W_law_1341 rfl (fn_iconst rl_W_law_1342 (fn_iadd rl_W_law_1343 (fn_iald rl_W_law_1344 hp_0 (fun k198 => fn_aload_n rl_W_law_1345 rfl (fn_iload_n rl_W_law_1346 rfl (fn_iconst rl_W_law_1347 (fn_iadd rl_W_law_1348 (fn_iald rl_W_law_1349 hp_0 (fun k197 => fn_virt (as := [.ref 1, .int (xs (v3 + 1).toNatClampNeg), .int (xs (v3 + 2).toNatClampNeg), .int (xs (v3 + 3).toNatClampNeg)]) (r := []) (ls' := [.ref 1, .int (xs (v3 + 1).toNatClampNeg), .int (xs (v3 + 2).toNatClampNeg), .int (xs (v3 + 3).toNatClampNeg), .null, .null, .null, .null]) rl_W_law_1350 rfl hp_1 rfl rfl pl_L_tight rfl rfl (k197)) k198))))) k199))))) k0)))))
set_option maxRecDepth 100000 in
set_option maxHeartbeats 4000000 in
theorem sg_W_law_1353r {L : Nat} {xs : Nat → Int32} {A V : Nat → Nat → Int32} {K : Nat → Option Nat} {T : am_H} {v : Option Int32} {h' : am_H} {v3 r : Int32} (k0 :
    ¬ ((v3 + 1) < 0 ∨ L ≤ (v3 + 1).toNatClampNeg) ∧ (
    ¬ ((v3 + 2) < 0 ∨ L ≤ (v3 + 2).toNatClampNeg) ∧ (
    ¬ ((v3 + 3) < 0 ∨ L ≤ (v3 + 3).toNatClampNeg) ∧ (
    am_fin [(z_M_tight, 0, [.ref 36, .int (xs (v3 + 1).toNatClampNeg), .int (xs (v3 + 2).toNatClampNeg), .int (xs (v3 + 3).toNatClampNeg), .null, .null, .null], []), (z_W_law, 1372, [.ref 0, .ref 1, .ref 36, .int v3], [.int r])] (hp L xs A V K T) v h')))) : am_fin [(z_W_law, 1353, [.ref 0, .ref 1, .ref 36, .int v3], [.int r])] (hp L xs A V K T) v h' :=
  fn_aload_n rl_W_law_1353 rfl (fn_aload_n rl_W_law_1354 rfl (fn_iload_n rl_W_law_1355 rfl (fn_iconst rl_W_law_1356 (fn_iadd rl_W_law_1357 (fn_iald rl_W_law_1358 hp_0 (fun k202 => fn_aload_n rl_W_law_1359 rfl (fn_iload_n rl_W_law_1360 rfl (fn_iconst rl_W_law_1361 (fn_iadd rl_W_law_1362 (fn_iald rl_W_law_1363 hp_0 (fun k201 => fn_aload_n rl_W_law_1364 rfl (fn_iload_n rl_W_law_1365 rfl (fn_iconst rl_W_law_1366 (fn_iadd rl_W_law_1367 (fn_iald rl_W_law_1368 hp_0 (fun k200 => fn_virt (as := [.ref 36, .int (xs (v3 + 1).toNatClampNeg), .int (xs (v3 + 2).toNatClampNeg), .int (xs (v3 + 3).toNatClampNeg)]) (r := [.int r]) (ls' := [.ref 36, .int (xs (v3 + 1).toNatClampNeg), .int (xs (v3 + 2).toNatClampNeg), .int (xs (v3 + 3).toNatClampNeg), .null, .null, .null]) rl_W_law_1369 rfl hp_36 rfl rfl pl_M_tight rfl rfl (k200)) k201))))) k202))))) k0)))))
set_option maxRecDepth 100000 in
set_option maxHeartbeats 4000000 in
theorem sg_W_law_1372r {L : Nat} {xs : Nat → Int32} {A V : Nat → Nat → Int32} {K : Nat → Option Nat} {T : am_H} {v : Option Int32} {h' : am_H} {v3 r s : Int32} (k0 :
    if r = s then (
      am_fin [(z_W_law, 18, [.ref 0, .ref 1, .ref 36, .int (v3 + 6)], [])] (hp L xs A V K T) v h')
    else (
      v = some 0 ∧ h' = hp L xs A V K T)) : am_fin [(z_W_law, 1372, [.ref 0, .ref 1, .ref 36, .int v3], [.int s, .int r])] (hp L xs A V K T) v h' :=
  fn_icmp_eq rl_W_law_1372 (fun k203 => fn_iinc (ls' := [.ref 0, .ref 1, .ref 36, .int (v3 + 6)]) rl_W_law_2473 rfl rfl rfl (fn_goto rl_W_law_2476 (k203))) (fun k204 => fn_iconst rl_W_law_1375 (fn_reti rl_W_law_1376 rfl k204)) k0
set_option maxRecDepth 100000 in
set_option maxHeartbeats 4000000 in
theorem sg_W_law_1377 {L : Nat} {xs : Nat → Int32} {A V : Nat → Nat → Int32} {K : Nat → Option Nat} {T : am_H} {v : Option Int32} {h' : am_H} {v3 : Int32} (k0 :
    ¬ ((v3 + 1) < 0 ∨ L ≤ (v3 + 1).toNatClampNeg) ∧ (
    ¬ ((v3 + 2) < 0 ∨ L ≤ (v3 + 2).toNatClampNeg) ∧ (
    am_fin [(z_L_rank, 0, [.ref 1, .int (xs (v3 + 1).toNatClampNeg), .int (xs (v3 + 2).toNatClampNeg), .null], []), (z_W_law, 1391, [.ref 0, .ref 1, .ref 36, .int v3], [])] (hp L xs A V K T) v h'))) : am_fin [(z_W_law, 1377, [.ref 0, .ref 1, .ref 36, .int v3], [])] (hp L xs A V K T) v h' :=
  fn_aload_n rl_W_law_1377 rfl (fn_aload_n rl_W_law_1378 rfl (fn_iload_n rl_W_law_1379 rfl (fn_iconst rl_W_law_1380 (fn_iadd rl_W_law_1381 (fn_iald rl_W_law_1382 hp_0 (fun k206 => fn_aload_n rl_W_law_1383 rfl (fn_iload_n rl_W_law_1384 rfl (fn_iconst rl_W_law_1385 (fn_iadd rl_W_law_1386 (fn_iald rl_W_law_1387 hp_0 (fun k205 => fn_virt (as := [.ref 1, .int (xs (v3 + 1).toNatClampNeg), .int (xs (v3 + 2).toNatClampNeg)]) (r := []) (ls' := [.ref 1, .int (xs (v3 + 1).toNatClampNeg), .int (xs (v3 + 2).toNatClampNeg), .null]) rl_W_law_1388 rfl hp_1 rfl rfl pl_L_rank rfl rfl (k205)) k206))))) k0)))))
set_option maxRecDepth 100000 in
set_option maxHeartbeats 4000000 in
theorem sg_W_law_1391r {L : Nat} {xs : Nat → Int32} {A V : Nat → Nat → Int32} {K : Nat → Option Nat} {T : am_H} {v : Option Int32} {h' : am_H} {v3 r : Int32} (k0 :
    ¬ ((v3 + 1) < 0 ∨ L ≤ (v3 + 1).toNatClampNeg) ∧ (
    ¬ ((v3 + 2) < 0 ∨ L ≤ (v3 + 2).toNatClampNeg) ∧ (
    am_fin [(z_M_rank, 0, [.ref 36, .int (xs (v3 + 1).toNatClampNeg), .int (xs (v3 + 2).toNatClampNeg), .null, .null, .null, .null], []), (z_W_law, 1405, [.ref 0, .ref 1, .ref 36, .int v3], [.int r])] (hp L xs A V K T) v h'))) : am_fin [(z_W_law, 1391, [.ref 0, .ref 1, .ref 36, .int v3], [.int r])] (hp L xs A V K T) v h' :=
  fn_aload_n rl_W_law_1391 rfl (fn_aload_n rl_W_law_1392 rfl (fn_iload_n rl_W_law_1393 rfl (fn_iconst rl_W_law_1394 (fn_iadd rl_W_law_1395 (fn_iald rl_W_law_1396 hp_0 (fun k208 => fn_aload_n rl_W_law_1397 rfl (fn_iload_n rl_W_law_1398 rfl (fn_iconst rl_W_law_1399 (fn_iadd rl_W_law_1400 (fn_iald rl_W_law_1401 hp_0 (fun k207 => fn_virt (as := [.ref 36, .int (xs (v3 + 1).toNatClampNeg), .int (xs (v3 + 2).toNatClampNeg)]) (r := [.int r]) (ls' := [.ref 36, .int (xs (v3 + 1).toNatClampNeg), .int (xs (v3 + 2).toNatClampNeg), .null, .null, .null, .null]) rl_W_law_1402 rfl hp_36 rfl rfl pl_M_rank rfl rfl (k207)) k208))))) k0)))))
set_option maxRecDepth 100000 in
set_option maxHeartbeats 4000000 in
theorem sg_W_law_1405r {L : Nat} {xs : Nat → Int32} {A V : Nat → Nat → Int32} {K : Nat → Option Nat} {T : am_H} {v : Option Int32} {h' : am_H} {v3 r s : Int32} (k0 :
    if r = s then (
      am_fin [(z_W_law, 18, [.ref 0, .ref 1, .ref 36, .int (v3 + 6)], [])] (hp L xs A V K T) v h')
    else (
      v = some 0 ∧ h' = hp L xs A V K T)) : am_fin [(z_W_law, 1405, [.ref 0, .ref 1, .ref 36, .int v3], [.int s, .int r])] (hp L xs A V K T) v h' :=
  fn_icmp_eq rl_W_law_1405 (fun k209 => fn_iinc (ls' := [.ref 0, .ref 1, .ref 36, .int (v3 + 6)]) rl_W_law_2473 rfl rfl rfl (fn_goto rl_W_law_2476 (k209))) (fun k210 => fn_iconst rl_W_law_1408 (fn_reti rl_W_law_1409 rfl k210)) k0
set_option maxRecDepth 100000 in
set_option maxHeartbeats 4000000 in
theorem sg_W_law_1410 {L : Nat} {xs : Nat → Int32} {A V : Nat → Nat → Int32} {K : Nat → Option Nat} {T : am_H} {v : Option Int32} {h' : am_H} {v3 : Int32} (k0 :
    ¬ ((v3 + 1) < 0 ∨ L ≤ (v3 + 1).toNatClampNeg) ∧ (
    ¬ ((v3 + 2) < 0 ∨ L ≤ (v3 + 2).toNatClampNeg) ∧ (
    ¬ ((v3 + 3) < 0 ∨ L ≤ (v3 + 3).toNatClampNeg) ∧ (
    am_fin [(z_L_slide, 0, [.ref 1, .int (xs (v3 + 1).toNatClampNeg), .int (xs (v3 + 2).toNatClampNeg), .int (xs (v3 + 3).toNatClampNeg)], []), (z_W_law, 1429, [.ref 0, .ref 1, .ref 36, .int v3], [])] (hp L xs A V K T) v h')))) : am_fin [(z_W_law, 1410, [.ref 0, .ref 1, .ref 36, .int v3], [])] (hp L xs A V K T) v h' :=
  fn_aload_n rl_W_law_1410 rfl (fn_aload_n rl_W_law_1411 rfl (fn_iload_n rl_W_law_1412 rfl (fn_iconst rl_W_law_1413 (fn_iadd rl_W_law_1414 (fn_iald rl_W_law_1415 hp_0 (fun k213 => fn_aload_n rl_W_law_1416 rfl (fn_iload_n rl_W_law_1417 rfl (fn_iconst rl_W_law_1418 (fn_iadd rl_W_law_1419 (fn_iald rl_W_law_1420 hp_0 (fun k212 => fn_aload_n rl_W_law_1421 rfl (fn_iload_n rl_W_law_1422 rfl (fn_iconst rl_W_law_1423 (fn_iadd rl_W_law_1424 (fn_iald rl_W_law_1425 hp_0 (fun k211 => fn_virt (as := [.ref 1, .int (xs (v3 + 1).toNatClampNeg), .int (xs (v3 + 2).toNatClampNeg), .int (xs (v3 + 3).toNatClampNeg)]) (r := []) (ls' := [.ref 1, .int (xs (v3 + 1).toNatClampNeg), .int (xs (v3 + 2).toNatClampNeg), .int (xs (v3 + 3).toNatClampNeg)]) rl_W_law_1426 rfl hp_1 rfl rfl pl_L_slide rfl rfl (k211)) k212))))) k213))))) k0)))))
set_option maxRecDepth 100000 in
set_option maxHeartbeats 4000000 in
theorem sg_W_law_1429r {L : Nat} {xs : Nat → Int32} {A V : Nat → Nat → Int32} {K : Nat → Option Nat} {T : am_H} {v : Option Int32} {h' : am_H} {v3 r : Int32} (k0 :
    ¬ ((v3 + 1) < 0 ∨ L ≤ (v3 + 1).toNatClampNeg) ∧ (
    ¬ ((v3 + 2) < 0 ∨ L ≤ (v3 + 2).toNatClampNeg) ∧ (
    ¬ ((v3 + 3) < 0 ∨ L ≤ (v3 + 3).toNatClampNeg) ∧ (
    am_fin [(z_M_slide, 0, [.ref 36, .int (xs (v3 + 1).toNatClampNeg), .int (xs (v3 + 2).toNatClampNeg), .int (xs (v3 + 3).toNatClampNeg), .null, .null], []), (z_W_law, 1448, [.ref 0, .ref 1, .ref 36, .int v3], [.int r])] (hp L xs A V K T) v h')))) : am_fin [(z_W_law, 1429, [.ref 0, .ref 1, .ref 36, .int v3], [.int r])] (hp L xs A V K T) v h' :=
  fn_aload_n rl_W_law_1429 rfl (fn_aload_n rl_W_law_1430 rfl (fn_iload_n rl_W_law_1431 rfl (fn_iconst rl_W_law_1432 (fn_iadd rl_W_law_1433 (fn_iald rl_W_law_1434 hp_0 (fun k216 => fn_aload_n rl_W_law_1435 rfl (fn_iload_n rl_W_law_1436 rfl (fn_iconst rl_W_law_1437 (fn_iadd rl_W_law_1438 (fn_iald rl_W_law_1439 hp_0 (fun k215 => fn_aload_n rl_W_law_1440 rfl (fn_iload_n rl_W_law_1441 rfl (fn_iconst rl_W_law_1442 (fn_iadd rl_W_law_1443 (fn_iald rl_W_law_1444 hp_0 (fun k214 => fn_virt (as := [.ref 36, .int (xs (v3 + 1).toNatClampNeg), .int (xs (v3 + 2).toNatClampNeg), .int (xs (v3 + 3).toNatClampNeg)]) (r := [.int r]) (ls' := [.ref 36, .int (xs (v3 + 1).toNatClampNeg), .int (xs (v3 + 2).toNatClampNeg), .int (xs (v3 + 3).toNatClampNeg), .null, .null]) rl_W_law_1445 rfl hp_36 rfl rfl pl_M_slide rfl rfl (k214)) k215))))) k216))))) k0)))))
set_option maxRecDepth 100000 in
set_option maxHeartbeats 4000000 in
theorem sg_W_law_1448r {L : Nat} {xs : Nat → Int32} {A V : Nat → Nat → Int32} {K : Nat → Option Nat} {T : am_H} {v : Option Int32} {h' : am_H} {v3 r s : Int32} (k0 :
    if r = s then (
      am_fin [(z_W_law, 18, [.ref 0, .ref 1, .ref 36, .int (v3 + 6)], [])] (hp L xs A V K T) v h')
    else (
      v = some 0 ∧ h' = hp L xs A V K T)) : am_fin [(z_W_law, 1448, [.ref 0, .ref 1, .ref 36, .int v3], [.int s, .int r])] (hp L xs A V K T) v h' :=
  fn_icmp_eq rl_W_law_1448 (fun k217 => fn_iinc (ls' := [.ref 0, .ref 1, .ref 36, .int (v3 + 6)]) rl_W_law_2473 rfl rfl rfl (fn_goto rl_W_law_2476 (k217))) (fun k218 => fn_iconst rl_W_law_1451 (fn_reti rl_W_law_1452 rfl k218)) k0
set_option maxRecDepth 100000 in
set_option maxHeartbeats 4000000 in
theorem sg_W_law_1453 {L : Nat} {xs : Nat → Int32} {A V : Nat → Nat → Int32} {K : Nat → Option Nat} {T : am_H} {v : Option Int32} {h' : am_H} {v3 : Int32} (k0 :
    ¬ ((v3 + 1) < 0 ∨ L ≤ (v3 + 1).toNatClampNeg) ∧ (
    ¬ ((v3 + 2) < 0 ∨ L ≤ (v3 + 2).toNatClampNeg) ∧ (
    ¬ ((v3 + 3) < 0 ∨ L ≤ (v3 + 3).toNatClampNeg) ∧ (
    ¬ ((v3 + 4) < 0 ∨ L ≤ (v3 + 4).toNatClampNeg) ∧ (
    am_fin [(z_L_trade, 0, [.ref 1, .int (xs (v3 + 1).toNatClampNeg), .int (xs (v3 + 2).toNatClampNeg), .int (xs (v3 + 3).toNatClampNeg), .int (xs (v3 + 4).toNatClampNeg), .null, .null, .null], []), (z_W_law, 1477, [.ref 0, .ref 1, .ref 36, .int v3], [])] (hp L xs A V K T) v h'))))) : am_fin [(z_W_law, 1453, [.ref 0, .ref 1, .ref 36, .int v3], [])] (hp L xs A V K T) v h' :=
  fn_aload_n rl_W_law_1453 rfl (fn_aload_n rl_W_law_1454 rfl (fn_iload_n rl_W_law_1455 rfl (fn_iconst rl_W_law_1456 (fn_iadd rl_W_law_1457 (fn_iald rl_W_law_1458 hp_0 (fun k222 => fn_aload_n rl_W_law_1459 rfl (fn_iload_n rl_W_law_1460 rfl (fn_iconst rl_W_law_1461 (fn_iadd rl_W_law_1462 (fn_iald rl_W_law_1463 hp_0 (fun k221 => fn_aload_n rl_W_law_1464 rfl (fn_iload_n rl_W_law_1465 rfl (fn_iconst rl_W_law_1466 (fn_iadd rl_W_law_1467 (fn_iald rl_W_law_1468 hp_0 (fun k220 => fn_aload_n rl_W_law_1469 rfl (fn_iload_n rl_W_law_1470 rfl (fn_iconst rl_W_law_1471 (fn_iadd rl_W_law_1472 (fn_iald rl_W_law_1473 hp_0 (fun k219 => fn_virt (as := [.ref 1, .int (xs (v3 + 1).toNatClampNeg), .int (xs (v3 + 2).toNatClampNeg), .int (xs (v3 + 3).toNatClampNeg), .int (xs (v3 + 4).toNatClampNeg)]) (r := []) (ls' := [.ref 1, .int (xs (v3 + 1).toNatClampNeg), .int (xs (v3 + 2).toNatClampNeg), .int (xs (v3 + 3).toNatClampNeg), .int (xs (v3 + 4).toNatClampNeg), .null, .null, .null]) rl_W_law_1474 rfl hp_1 rfl rfl pl_L_trade rfl rfl (k219)) k220))))) k221))))) k222))))) k0)))))
set_option maxRecDepth 100000 in
set_option maxHeartbeats 4000000 in
theorem sg_W_law_1477r {L : Nat} {xs : Nat → Int32} {A V : Nat → Nat → Int32} {K : Nat → Option Nat} {T : am_H} {v : Option Int32} {h' : am_H} {v3 r : Int32} (k0 :
    ¬ ((v3 + 1) < 0 ∨ L ≤ (v3 + 1).toNatClampNeg) ∧ (
    ¬ ((v3 + 2) < 0 ∨ L ≤ (v3 + 2).toNatClampNeg) ∧ (
    ¬ ((v3 + 3) < 0 ∨ L ≤ (v3 + 3).toNatClampNeg) ∧ (
    ¬ ((v3 + 4) < 0 ∨ L ≤ (v3 + 4).toNatClampNeg) ∧ (
    am_fin [(z_M_trade, 0, [.ref 36, .int (xs (v3 + 1).toNatClampNeg), .int (xs (v3 + 2).toNatClampNeg), .int (xs (v3 + 3).toNatClampNeg), .int (xs (v3 + 4).toNatClampNeg), .null, .null, .null], []), (z_W_law, 1501, [.ref 0, .ref 1, .ref 36, .int v3], [.int r])] (hp L xs A V K T) v h'))))) : am_fin [(z_W_law, 1477, [.ref 0, .ref 1, .ref 36, .int v3], [.int r])] (hp L xs A V K T) v h' :=
  fn_aload_n rl_W_law_1477 rfl (fn_aload_n rl_W_law_1478 rfl (fn_iload_n rl_W_law_1479 rfl (fn_iconst rl_W_law_1480 (fn_iadd rl_W_law_1481 (fn_iald rl_W_law_1482 hp_0 (fun k226 => fn_aload_n rl_W_law_1483 rfl (fn_iload_n rl_W_law_1484 rfl (fn_iconst rl_W_law_1485 (fn_iadd rl_W_law_1486 (fn_iald rl_W_law_1487 hp_0 (fun k225 => fn_aload_n rl_W_law_1488 rfl (fn_iload_n rl_W_law_1489 rfl (fn_iconst rl_W_law_1490 (fn_iadd rl_W_law_1491 (fn_iald rl_W_law_1492 hp_0 (fun k224 => fn_aload_n rl_W_law_1493 rfl (fn_iload_n rl_W_law_1494 rfl (fn_iconst rl_W_law_1495 (fn_iadd rl_W_law_1496 (fn_iald rl_W_law_1497 hp_0 (fun k223 => fn_virt (as := [.ref 36, .int (xs (v3 + 1).toNatClampNeg), .int (xs (v3 + 2).toNatClampNeg), .int (xs (v3 + 3).toNatClampNeg), .int (xs (v3 + 4).toNatClampNeg)]) (r := [.int r]) (ls' := [.ref 36, .int (xs (v3 + 1).toNatClampNeg), .int (xs (v3 + 2).toNatClampNeg), .int (xs (v3 + 3).toNatClampNeg), .int (xs (v3 + 4).toNatClampNeg), .null, .null, .null]) rl_W_law_1498 rfl hp_36 rfl rfl pl_M_trade rfl rfl (k223)) k224))))) k225))))) k226))))) k0)))))
set_option maxRecDepth 100000 in
set_option maxHeartbeats 4000000 in
theorem sg_W_law_1501r {L : Nat} {xs : Nat → Int32} {A V : Nat → Nat → Int32} {K : Nat → Option Nat} {T : am_H} {v : Option Int32} {h' : am_H} {v3 r s : Int32} (k0 :
    if r = s then (
      am_fin [(z_W_law, 18, [.ref 0, .ref 1, .ref 36, .int (v3 + 6)], [])] (hp L xs A V K T) v h')
    else (
      v = some 0 ∧ h' = hp L xs A V K T)) : am_fin [(z_W_law, 1501, [.ref 0, .ref 1, .ref 36, .int v3], [.int s, .int r])] (hp L xs A V K T) v h' :=
  fn_icmp_eq rl_W_law_1501 (fun k227 => fn_iinc (ls' := [.ref 0, .ref 1, .ref 36, .int (v3 + 6)]) rl_W_law_2473 rfl rfl rfl (fn_goto rl_W_law_2476 (k227))) (fun k228 => fn_iconst rl_W_law_1504 (fn_reti rl_W_law_1505 rfl k228)) k0
set_option maxRecDepth 100000 in
set_option maxHeartbeats 4000000 in
theorem sg_W_law_1506 {L : Nat} {xs : Nat → Int32} {A V : Nat → Nat → Int32} {K : Nat → Option Nat} {T : am_H} {v : Option Int32} {h' : am_H} {v3 : Int32} (k0 :
    ¬ ((v3 + 1) < 0 ∨ L ≤ (v3 + 1).toNatClampNeg) ∧ (
    ¬ ((v3 + 2) < 0 ∨ L ≤ (v3 + 2).toNatClampNeg) ∧ (
    am_fin [(z_L_erase, 0, [.ref 1, .int (xs (v3 + 1).toNatClampNeg), .int (xs (v3 + 2).toNatClampNeg), .null, .null, .null], []), (z_W_law, 1520, [.ref 0, .ref 1, .ref 36, .int v3], [])] (hp L xs A V K T) v h'))) : am_fin [(z_W_law, 1506, [.ref 0, .ref 1, .ref 36, .int v3], [])] (hp L xs A V K T) v h' :=
  fn_aload_n rl_W_law_1506 rfl (fn_aload_n rl_W_law_1507 rfl (fn_iload_n rl_W_law_1508 rfl (fn_iconst rl_W_law_1509 (fn_iadd rl_W_law_1510 (fn_iald rl_W_law_1511 hp_0 (fun k230 => fn_aload_n rl_W_law_1512 rfl (fn_iload_n rl_W_law_1513 rfl (fn_iconst rl_W_law_1514 (fn_iadd rl_W_law_1515 (fn_iald rl_W_law_1516 hp_0 (fun k229 => fn_virt (as := [.ref 1, .int (xs (v3 + 1).toNatClampNeg), .int (xs (v3 + 2).toNatClampNeg)]) (r := []) (ls' := [.ref 1, .int (xs (v3 + 1).toNatClampNeg), .int (xs (v3 + 2).toNatClampNeg), .null, .null, .null]) rl_W_law_1517 rfl hp_1 rfl rfl pl_L_erase rfl rfl (k229)) k230))))) k0)))))
set_option maxRecDepth 100000 in
set_option maxHeartbeats 4000000 in
theorem sg_W_law_1520r {L : Nat} {xs : Nat → Int32} {A V : Nat → Nat → Int32} {K : Nat → Option Nat} {T : am_H} {v : Option Int32} {h' : am_H} {v3 r : Int32} (k0 :
    ¬ ((v3 + 1) < 0 ∨ L ≤ (v3 + 1).toNatClampNeg) ∧ (
    ¬ ((v3 + 2) < 0 ∨ L ≤ (v3 + 2).toNatClampNeg) ∧ (
    am_fin [(z_M_erase, 0, [.ref 36, .int (xs (v3 + 1).toNatClampNeg), .int (xs (v3 + 2).toNatClampNeg), .null, .null, .null], []), (z_W_law, 1534, [.ref 0, .ref 1, .ref 36, .int v3], [.int r])] (hp L xs A V K T) v h'))) : am_fin [(z_W_law, 1520, [.ref 0, .ref 1, .ref 36, .int v3], [.int r])] (hp L xs A V K T) v h' :=
  fn_aload_n rl_W_law_1520 rfl (fn_aload_n rl_W_law_1521 rfl (fn_iload_n rl_W_law_1522 rfl (fn_iconst rl_W_law_1523 (fn_iadd rl_W_law_1524 (fn_iald rl_W_law_1525 hp_0 (fun k232 => fn_aload_n rl_W_law_1526 rfl (fn_iload_n rl_W_law_1527 rfl (fn_iconst rl_W_law_1528 (fn_iadd rl_W_law_1529 (fn_iald rl_W_law_1530 hp_0 (fun k231 => fn_virt (as := [.ref 36, .int (xs (v3 + 1).toNatClampNeg), .int (xs (v3 + 2).toNatClampNeg)]) (r := [.int r]) (ls' := [.ref 36, .int (xs (v3 + 1).toNatClampNeg), .int (xs (v3 + 2).toNatClampNeg), .null, .null, .null]) rl_W_law_1531 rfl hp_36 rfl rfl pl_M_erase rfl rfl (k231)) k232))))) k0)))))
set_option maxRecDepth 100000 in
set_option maxHeartbeats 4000000 in
theorem sg_W_law_1534r {L : Nat} {xs : Nat → Int32} {A V : Nat → Nat → Int32} {K : Nat → Option Nat} {T : am_H} {v : Option Int32} {h' : am_H} {v3 r s : Int32} (k0 :
    if r = s then (
      am_fin [(z_W_law, 18, [.ref 0, .ref 1, .ref 36, .int (v3 + 6)], [])] (hp L xs A V K T) v h')
    else (
      v = some 0 ∧ h' = hp L xs A V K T)) : am_fin [(z_W_law, 1534, [.ref 0, .ref 1, .ref 36, .int v3], [.int s, .int r])] (hp L xs A V K T) v h' :=
  fn_icmp_eq rl_W_law_1534 (fun k233 => fn_iinc (ls' := [.ref 0, .ref 1, .ref 36, .int (v3 + 6)]) rl_W_law_2473 rfl rfl rfl (fn_goto rl_W_law_2476 (k233))) (fun k234 => fn_iconst rl_W_law_1537 (fn_reti rl_W_law_1538 rfl k234)) k0
set_option maxRecDepth 100000 in
set_option maxHeartbeats 4000000 in
theorem sg_W_law_1539 {L : Nat} {xs : Nat → Int32} {A V : Nat → Nat → Int32} {K : Nat → Option Nat} {T : am_H} {v : Option Int32} {h' : am_H} {v3 : Int32} (k0 :
    ¬ ((v3 + 1) < 0 ∨ L ≤ (v3 + 1).toNatClampNeg) ∧ (
    ¬ ((v3 + 2) < 0 ∨ L ≤ (v3 + 2).toNatClampNeg) ∧ (
    ¬ ((v3 + 3) < 0 ∨ L ≤ (v3 + 3).toNatClampNeg) ∧ (
    am_fin [(z_L_routes, 0, [.ref 1, .int (xs (v3 + 1).toNatClampNeg), .int (xs (v3 + 2).toNatClampNeg), .int (xs (v3 + 3).toNatClampNeg), .null, .null], []), (z_W_law, 1558, [.ref 0, .ref 1, .ref 36, .int v3], [])] (hp L xs A V K T) v h')))) : am_fin [(z_W_law, 1539, [.ref 0, .ref 1, .ref 36, .int v3], [])] (hp L xs A V K T) v h' :=
  fn_aload_n rl_W_law_1539 rfl (fn_aload_n rl_W_law_1540 rfl (fn_iload_n rl_W_law_1541 rfl (fn_iconst rl_W_law_1542 (fn_iadd rl_W_law_1543 (fn_iald rl_W_law_1544 hp_0 (fun k237 => fn_aload_n rl_W_law_1545 rfl (fn_iload_n rl_W_law_1546 rfl (fn_iconst rl_W_law_1547 (fn_iadd rl_W_law_1548 (fn_iald rl_W_law_1549 hp_0 (fun k236 => fn_aload_n rl_W_law_1550 rfl (fn_iload_n rl_W_law_1551 rfl (fn_iconst rl_W_law_1552 (fn_iadd rl_W_law_1553 (fn_iald rl_W_law_1554 hp_0 (fun k235 => fn_virt (as := [.ref 1, .int (xs (v3 + 1).toNatClampNeg), .int (xs (v3 + 2).toNatClampNeg), .int (xs (v3 + 3).toNatClampNeg)]) (r := []) (ls' := [.ref 1, .int (xs (v3 + 1).toNatClampNeg), .int (xs (v3 + 2).toNatClampNeg), .int (xs (v3 + 3).toNatClampNeg), .null, .null]) rl_W_law_1555 rfl hp_1 rfl rfl pl_L_routes rfl rfl (k235)) k236))))) k237))))) k0)))))
set_option maxRecDepth 100000 in
set_option maxHeartbeats 4000000 in
theorem sg_W_law_1558r {L : Nat} {xs : Nat → Int32} {A V : Nat → Nat → Int32} {K : Nat → Option Nat} {T : am_H} {v : Option Int32} {h' : am_H} {v3 r : Int32} (k0 :
    ¬ ((v3 + 1) < 0 ∨ L ≤ (v3 + 1).toNatClampNeg) ∧ (
    ¬ ((v3 + 2) < 0 ∨ L ≤ (v3 + 2).toNatClampNeg) ∧ (
    ¬ ((v3 + 3) < 0 ∨ L ≤ (v3 + 3).toNatClampNeg) ∧ (
    am_fin [(z_M_routes, 0, [.ref 36, .int (xs (v3 + 1).toNatClampNeg), .int (xs (v3 + 2).toNatClampNeg), .int (xs (v3 + 3).toNatClampNeg), .null, .null], []), (z_W_law, 1577, [.ref 0, .ref 1, .ref 36, .int v3], [.int r])] (hp L xs A V K T) v h')))) : am_fin [(z_W_law, 1558, [.ref 0, .ref 1, .ref 36, .int v3], [.int r])] (hp L xs A V K T) v h' :=
  fn_aload_n rl_W_law_1558 rfl (fn_aload_n rl_W_law_1559 rfl (fn_iload_n rl_W_law_1560 rfl (fn_iconst rl_W_law_1561 (fn_iadd rl_W_law_1562 (fn_iald rl_W_law_1563 hp_0 (fun k240 => fn_aload_n rl_W_law_1564 rfl (fn_iload_n rl_W_law_1565 rfl (fn_iconst rl_W_law_1566 (fn_iadd rl_W_law_1567 (fn_iald rl_W_law_1568 hp_0 (fun k239 => fn_aload_n rl_W_law_1569 rfl (fn_iload_n rl_W_law_1570 rfl (fn_iconst rl_W_law_1571 (fn_iadd rl_W_law_1572 (fn_iald rl_W_law_1573 hp_0 (fun k238 => fn_virt (as := [.ref 36, .int (xs (v3 + 1).toNatClampNeg), .int (xs (v3 + 2).toNatClampNeg), .int (xs (v3 + 3).toNatClampNeg)]) (r := [.int r]) (ls' := [.ref 36, .int (xs (v3 + 1).toNatClampNeg), .int (xs (v3 + 2).toNatClampNeg), .int (xs (v3 + 3).toNatClampNeg), .null, .null]) rl_W_law_1574 rfl hp_36 rfl rfl pl_M_routes rfl rfl (k238)) k239))))) k240))))) k0)))))
set_option maxRecDepth 100000 in
set_option maxHeartbeats 4000000 in
theorem sg_W_law_1577r {L : Nat} {xs : Nat → Int32} {A V : Nat → Nat → Int32} {K : Nat → Option Nat} {T : am_H} {v : Option Int32} {h' : am_H} {v3 r s : Int32} (k0 :
    if r = s then (
      am_fin [(z_W_law, 18, [.ref 0, .ref 1, .ref 36, .int (v3 + 6)], [])] (hp L xs A V K T) v h')
    else (
      v = some 0 ∧ h' = hp L xs A V K T)) : am_fin [(z_W_law, 1577, [.ref 0, .ref 1, .ref 36, .int v3], [.int s, .int r])] (hp L xs A V K T) v h' :=
  fn_icmp_eq rl_W_law_1577 (fun k241 => fn_iinc (ls' := [.ref 0, .ref 1, .ref 36, .int (v3 + 6)]) rl_W_law_2473 rfl rfl rfl (fn_goto rl_W_law_2476 (k241))) (fun k242 => fn_iconst rl_W_law_1580 (fn_reti rl_W_law_1581 rfl k242)) k0
set_option maxRecDepth 100000 in
set_option maxHeartbeats 4000000 in
theorem sg_W_law_1582 {L : Nat} {xs : Nat → Int32} {A V : Nat → Nat → Int32} {K : Nat → Option Nat} {T : am_H} {v : Option Int32} {h' : am_H} {v3 : Int32} (k0 :
    ¬ ((v3 + 1) < 0 ∨ L ≤ (v3 + 1).toNatClampNeg) ∧ (
    ¬ ((v3 + 2) < 0 ∨ L ≤ (v3 + 2).toNatClampNeg) ∧ (
    am_fin [(z_L_latest, 0, [.ref 1, .int (xs (v3 + 1).toNatClampNeg), .int (xs (v3 + 2).toNatClampNeg), .null, .null], []), (z_W_law, 1596, [.ref 0, .ref 1, .ref 36, .int v3], [])] (hp L xs A V K T) v h'))) : am_fin [(z_W_law, 1582, [.ref 0, .ref 1, .ref 36, .int v3], [])] (hp L xs A V K T) v h' :=
  fn_aload_n rl_W_law_1582 rfl (fn_aload_n rl_W_law_1583 rfl (fn_iload_n rl_W_law_1584 rfl (fn_iconst rl_W_law_1585 (fn_iadd rl_W_law_1586 (fn_iald rl_W_law_1587 hp_0 (fun k244 => fn_aload_n rl_W_law_1588 rfl (fn_iload_n rl_W_law_1589 rfl (fn_iconst rl_W_law_1590 (fn_iadd rl_W_law_1591 (fn_iald rl_W_law_1592 hp_0 (fun k243 => fn_virt (as := [.ref 1, .int (xs (v3 + 1).toNatClampNeg), .int (xs (v3 + 2).toNatClampNeg)]) (r := []) (ls' := [.ref 1, .int (xs (v3 + 1).toNatClampNeg), .int (xs (v3 + 2).toNatClampNeg), .null, .null]) rl_W_law_1593 rfl hp_1 rfl rfl pl_L_latest rfl rfl (k243)) k244))))) k0)))))
set_option maxRecDepth 100000 in
set_option maxHeartbeats 4000000 in
theorem sg_W_law_1596r {L : Nat} {xs : Nat → Int32} {A V : Nat → Nat → Int32} {K : Nat → Option Nat} {T : am_H} {v : Option Int32} {h' : am_H} {v3 r : Int32} (k0 :
    ¬ ((v3 + 1) < 0 ∨ L ≤ (v3 + 1).toNatClampNeg) ∧ (
    ¬ ((v3 + 2) < 0 ∨ L ≤ (v3 + 2).toNatClampNeg) ∧ (
    am_fin [(z_M_latest, 0, [.ref 36, .int (xs (v3 + 1).toNatClampNeg), .int (xs (v3 + 2).toNatClampNeg), .null], []), (z_W_law, 1610, [.ref 0, .ref 1, .ref 36, .int v3], [.int r])] (hp L xs A V K T) v h'))) : am_fin [(z_W_law, 1596, [.ref 0, .ref 1, .ref 36, .int v3], [.int r])] (hp L xs A V K T) v h' :=
  fn_aload_n rl_W_law_1596 rfl (fn_aload_n rl_W_law_1597 rfl (fn_iload_n rl_W_law_1598 rfl (fn_iconst rl_W_law_1599 (fn_iadd rl_W_law_1600 (fn_iald rl_W_law_1601 hp_0 (fun k246 => fn_aload_n rl_W_law_1602 rfl (fn_iload_n rl_W_law_1603 rfl (fn_iconst rl_W_law_1604 (fn_iadd rl_W_law_1605 (fn_iald rl_W_law_1606 hp_0 (fun k245 => fn_virt (as := [.ref 36, .int (xs (v3 + 1).toNatClampNeg), .int (xs (v3 + 2).toNatClampNeg)]) (r := [.int r]) (ls' := [.ref 36, .int (xs (v3 + 1).toNatClampNeg), .int (xs (v3 + 2).toNatClampNeg), .null]) rl_W_law_1607 rfl hp_36 rfl rfl pl_M_latest rfl rfl (k245)) k246))))) k0)))))
set_option maxRecDepth 100000 in
set_option maxHeartbeats 4000000 in
theorem sg_W_law_1610r {L : Nat} {xs : Nat → Int32} {A V : Nat → Nat → Int32} {K : Nat → Option Nat} {T : am_H} {v : Option Int32} {h' : am_H} {v3 r s : Int32} (k0 :
    if r = s then (
      am_fin [(z_W_law, 18, [.ref 0, .ref 1, .ref 36, .int (v3 + 6)], [])] (hp L xs A V K T) v h')
    else (
      v = some 0 ∧ h' = hp L xs A V K T)) : am_fin [(z_W_law, 1610, [.ref 0, .ref 1, .ref 36, .int v3], [.int s, .int r])] (hp L xs A V K T) v h' :=
  fn_icmp_eq rl_W_law_1610 (fun k247 => fn_iinc (ls' := [.ref 0, .ref 1, .ref 36, .int (v3 + 6)]) rl_W_law_2473 rfl rfl rfl (fn_goto rl_W_law_2476 (k247))) (fun k248 => fn_iconst rl_W_law_1613 (fn_reti rl_W_law_1614 rfl k248)) k0
set_option maxRecDepth 100000 in
set_option maxHeartbeats 4000000 in
theorem sg_W_law_1615 {L : Nat} {xs : Nat → Int32} {A V : Nat → Nat → Int32} {K : Nat → Option Nat} {T : am_H} {v : Option Int32} {h' : am_H} {v3 : Int32} (k0 :
    ¬ ((v3 + 1) < 0 ∨ L ≤ (v3 + 1).toNatClampNeg) ∧ (
    ¬ ((v3 + 2) < 0 ∨ L ≤ (v3 + 2).toNatClampNeg) ∧ (
    am_fin [(z_L_wins, 0, [.ref 1, .int (xs (v3 + 1).toNatClampNeg), .int (xs (v3 + 2).toNatClampNeg), .null], []), (z_W_law, 1629, [.ref 0, .ref 1, .ref 36, .int v3], [])] (hp L xs A V K T) v h'))) : am_fin [(z_W_law, 1615, [.ref 0, .ref 1, .ref 36, .int v3], [])] (hp L xs A V K T) v h' :=
  fn_aload_n rl_W_law_1615 rfl (fn_aload_n rl_W_law_1616 rfl (fn_iload_n rl_W_law_1617 rfl (fn_iconst rl_W_law_1618 (fn_iadd rl_W_law_1619 (fn_iald rl_W_law_1620 hp_0 (fun k250 => fn_aload_n rl_W_law_1621 rfl (fn_iload_n rl_W_law_1622 rfl (fn_iconst rl_W_law_1623 (fn_iadd rl_W_law_1624 (fn_iald rl_W_law_1625 hp_0 (fun k249 => fn_virt (as := [.ref 1, .int (xs (v3 + 1).toNatClampNeg), .int (xs (v3 + 2).toNatClampNeg)]) (r := []) (ls' := [.ref 1, .int (xs (v3 + 1).toNatClampNeg), .int (xs (v3 + 2).toNatClampNeg), .null]) rl_W_law_1626 rfl hp_1 rfl rfl pl_L_wins rfl rfl (k249)) k250))))) k0)))))
set_option maxRecDepth 100000 in
set_option maxHeartbeats 4000000 in
theorem sg_W_law_1629r {L : Nat} {xs : Nat → Int32} {A V : Nat → Nat → Int32} {K : Nat → Option Nat} {T : am_H} {v : Option Int32} {h' : am_H} {v3 r : Int32} (k0 :
    ¬ ((v3 + 1) < 0 ∨ L ≤ (v3 + 1).toNatClampNeg) ∧ (
    ¬ ((v3 + 2) < 0 ∨ L ≤ (v3 + 2).toNatClampNeg) ∧ (
    am_fin [(z_M_wins, 0, [.ref 36, .int (xs (v3 + 1).toNatClampNeg), .int (xs (v3 + 2).toNatClampNeg), .null, .null, .null, .null], []), (z_W_law, 1643, [.ref 0, .ref 1, .ref 36, .int v3], [.int r])] (hp L xs A V K T) v h'))) : am_fin [(z_W_law, 1629, [.ref 0, .ref 1, .ref 36, .int v3], [.int r])] (hp L xs A V K T) v h' :=
  fn_aload_n rl_W_law_1629 rfl (fn_aload_n rl_W_law_1630 rfl (fn_iload_n rl_W_law_1631 rfl (fn_iconst rl_W_law_1632 (fn_iadd rl_W_law_1633 (fn_iald rl_W_law_1634 hp_0 (fun k252 => fn_aload_n rl_W_law_1635 rfl (fn_iload_n rl_W_law_1636 rfl (fn_iconst rl_W_law_1637 (fn_iadd rl_W_law_1638 (fn_iald rl_W_law_1639 hp_0 (fun k251 => fn_virt (as := [.ref 36, .int (xs (v3 + 1).toNatClampNeg), .int (xs (v3 + 2).toNatClampNeg)]) (r := [.int r]) (ls' := [.ref 36, .int (xs (v3 + 1).toNatClampNeg), .int (xs (v3 + 2).toNatClampNeg), .null, .null, .null, .null]) rl_W_law_1640 rfl hp_36 rfl rfl pl_M_wins rfl rfl (k251)) k252))))) k0)))))
set_option maxRecDepth 100000 in
set_option maxHeartbeats 4000000 in
theorem sg_W_law_1643r {L : Nat} {xs : Nat → Int32} {A V : Nat → Nat → Int32} {K : Nat → Option Nat} {T : am_H} {v : Option Int32} {h' : am_H} {v3 r s : Int32} (k0 :
    if r = s then (
      am_fin [(z_W_law, 18, [.ref 0, .ref 1, .ref 36, .int (v3 + 6)], [])] (hp L xs A V K T) v h')
    else (
      v = some 0 ∧ h' = hp L xs A V K T)) : am_fin [(z_W_law, 1643, [.ref 0, .ref 1, .ref 36, .int v3], [.int s, .int r])] (hp L xs A V K T) v h' :=
  fn_icmp_eq rl_W_law_1643 (fun k253 => fn_iinc (ls' := [.ref 0, .ref 1, .ref 36, .int (v3 + 6)]) rl_W_law_2473 rfl rfl rfl (fn_goto rl_W_law_2476 (k253))) (fun k254 => fn_iconst rl_W_law_1646 (fn_reti rl_W_law_1647 rfl k254)) k0
set_option maxRecDepth 100000 in
set_option maxHeartbeats 4000000 in
theorem sg_W_law_1648 {L : Nat} {xs : Nat → Int32} {A V : Nat → Nat → Int32} {K : Nat → Option Nat} {T : am_H} {v : Option Int32} {h' : am_H} {v3 : Int32} (k0 :
    am_fin [(z_L_partner, 0, [.ref 1], []), (z_W_law, 1652, [.ref 0, .ref 1, .ref 36, .int v3], [])] (hp L xs A V K T) v h') : am_fin [(z_W_law, 1648, [.ref 0, .ref 1, .ref 36, .int v3], [])] (hp L xs A V K T) v h' :=
  fn_aload_n rl_W_law_1648 rfl (fn_virt (as := [.ref 1]) (r := []) (ls' := [.ref 1]) rl_W_law_1649 rfl hp_1 rfl rfl pl_L_partner rfl rfl (k0))
set_option maxRecDepth 100000 in
set_option maxHeartbeats 4000000 in
theorem sg_W_law_1652r {L : Nat} {xs : Nat → Int32} {A V : Nat → Nat → Int32} {K : Nat → Option Nat} {T : am_H} {v : Option Int32} {h' : am_H} {v3 r : Int32} (k0 :
    am_fin [(z_M_partner, 0, [.ref 36, .null], []), (z_W_law, 1656, [.ref 0, .ref 1, .ref 36, .int v3], [.int r])] (hp L xs A V K T) v h') : am_fin [(z_W_law, 1652, [.ref 0, .ref 1, .ref 36, .int v3], [.int r])] (hp L xs A V K T) v h' :=
  fn_aload_n rl_W_law_1652 rfl (fn_virt (as := [.ref 36]) (r := [.int r]) (ls' := [.ref 36, .null]) rl_W_law_1653 rfl hp_36 rfl rfl pl_M_partner rfl rfl (k0))
set_option maxRecDepth 100000 in
set_option maxHeartbeats 4000000 in
theorem sg_W_law_1656r {L : Nat} {xs : Nat → Int32} {A V : Nat → Nat → Int32} {K : Nat → Option Nat} {T : am_H} {v : Option Int32} {h' : am_H} {v3 r s : Int32} (k0 :
    if r = s then (
      am_fin [(z_W_law, 18, [.ref 0, .ref 1, .ref 36, .int (v3 + 6)], [])] (hp L xs A V K T) v h')
    else (
      v = some 0 ∧ h' = hp L xs A V K T)) : am_fin [(z_W_law, 1656, [.ref 0, .ref 1, .ref 36, .int v3], [.int s, .int r])] (hp L xs A V K T) v h' :=
  fn_icmp_eq rl_W_law_1656 (fun k255 => fn_iinc (ls' := [.ref 0, .ref 1, .ref 36, .int (v3 + 6)]) rl_W_law_2473 rfl rfl rfl (fn_goto rl_W_law_2476 (k255))) (fun k256 => fn_iconst rl_W_law_1659 (fn_reti rl_W_law_1660 rfl k256)) k0
set_option maxRecDepth 100000 in
set_option maxHeartbeats 4000000 in
theorem sg_W_law_1661 {L : Nat} {xs : Nat → Int32} {A V : Nat → Nat → Int32} {K : Nat → Option Nat} {T : am_H} {v : Option Int32} {h' : am_H} {v3 : Int32} (k0 :
    ¬ ((v3 + 1) < 0 ∨ L ≤ (v3 + 1).toNatClampNeg) ∧ (
    ¬ ((v3 + 2) < 0 ∨ L ≤ (v3 + 2).toNatClampNeg) ∧ (
    am_fin [(z_L_together, 0, [.ref 1, .int (xs (v3 + 1).toNatClampNeg), .int (xs (v3 + 2).toNatClampNeg), .null, .null, .null, .null, .null, .null, .null], []), (z_W_law, 1675, [.ref 0, .ref 1, .ref 36, .int v3], [])] (hp L xs A V K T) v h'))) : am_fin [(z_W_law, 1661, [.ref 0, .ref 1, .ref 36, .int v3], [])] (hp L xs A V K T) v h' :=
  fn_aload_n rl_W_law_1661 rfl (fn_aload_n rl_W_law_1662 rfl (fn_iload_n rl_W_law_1663 rfl (fn_iconst rl_W_law_1664 (fn_iadd rl_W_law_1665 (fn_iald rl_W_law_1666 hp_0 (fun k258 => fn_aload_n rl_W_law_1667 rfl (fn_iload_n rl_W_law_1668 rfl (fn_iconst rl_W_law_1669 (fn_iadd rl_W_law_1670 (fn_iald rl_W_law_1671 hp_0 (fun k257 => fn_virt (as := [.ref 1, .int (xs (v3 + 1).toNatClampNeg), .int (xs (v3 + 2).toNatClampNeg)]) (r := []) (ls' := [.ref 1, .int (xs (v3 + 1).toNatClampNeg), .int (xs (v3 + 2).toNatClampNeg), .null, .null, .null, .null, .null, .null, .null]) rl_W_law_1672 rfl hp_1 rfl rfl pl_L_together rfl rfl (k257)) k258))))) k0)))))
set_option maxRecDepth 100000 in
set_option maxHeartbeats 4000000 in
theorem sg_W_law_1675r {L : Nat} {xs : Nat → Int32} {A V : Nat → Nat → Int32} {K : Nat → Option Nat} {T : am_H} {v : Option Int32} {h' : am_H} {v3 r : Int32} (k0 :
    ¬ ((v3 + 1) < 0 ∨ L ≤ (v3 + 1).toNatClampNeg) ∧ (
    ¬ ((v3 + 2) < 0 ∨ L ≤ (v3 + 2).toNatClampNeg) ∧ (
    am_fin [(z_M_together, 0, [.ref 36, .int (xs (v3 + 1).toNatClampNeg), .int (xs (v3 + 2).toNatClampNeg), .null, .null, .null, .null, .null, .null], []), (z_W_law, 1689, [.ref 0, .ref 1, .ref 36, .int v3], [.int r])] (hp L xs A V K T) v h'))) : am_fin [(z_W_law, 1675, [.ref 0, .ref 1, .ref 36, .int v3], [.int r])] (hp L xs A V K T) v h' :=
  fn_aload_n rl_W_law_1675 rfl (fn_aload_n rl_W_law_1676 rfl (fn_iload_n rl_W_law_1677 rfl (fn_iconst rl_W_law_1678 (fn_iadd rl_W_law_1679 (fn_iald rl_W_law_1680 hp_0 (fun k260 => fn_aload_n rl_W_law_1681 rfl (fn_iload_n rl_W_law_1682 rfl (fn_iconst rl_W_law_1683 (fn_iadd rl_W_law_1684 (fn_iald rl_W_law_1685 hp_0 (fun k259 => fn_virt (as := [.ref 36, .int (xs (v3 + 1).toNatClampNeg), .int (xs (v3 + 2).toNatClampNeg)]) (r := [.int r]) (ls' := [.ref 36, .int (xs (v3 + 1).toNatClampNeg), .int (xs (v3 + 2).toNatClampNeg), .null, .null, .null, .null, .null, .null]) rl_W_law_1686 rfl hp_36 rfl rfl pl_M_together rfl rfl (k259)) k260))))) k0)))))
set_option maxRecDepth 100000 in
set_option maxHeartbeats 4000000 in
theorem sg_W_law_1689r {L : Nat} {xs : Nat → Int32} {A V : Nat → Nat → Int32} {K : Nat → Option Nat} {T : am_H} {v : Option Int32} {h' : am_H} {v3 r s : Int32} (k0 :
    if r = s then (
      am_fin [(z_W_law, 18, [.ref 0, .ref 1, .ref 36, .int (v3 + 6)], [])] (hp L xs A V K T) v h')
    else (
      v = some 0 ∧ h' = hp L xs A V K T)) : am_fin [(z_W_law, 1689, [.ref 0, .ref 1, .ref 36, .int v3], [.int s, .int r])] (hp L xs A V K T) v h' :=
  fn_icmp_eq rl_W_law_1689 (fun k261 => fn_iinc (ls' := [.ref 0, .ref 1, .ref 36, .int (v3 + 6)]) rl_W_law_2473 rfl rfl rfl (fn_goto rl_W_law_2476 (k261))) (fun k262 => fn_iconst rl_W_law_1692 (fn_reti rl_W_law_1693 rfl k262)) k0
set_option maxRecDepth 100000 in
set_option maxHeartbeats 4000000 in
theorem sg_W_law_1694 {L : Nat} {xs : Nat → Int32} {A V : Nat → Nat → Int32} {K : Nat → Option Nat} {T : am_H} {v : Option Int32} {h' : am_H} {v3 : Int32} (k0 :
    ¬ ((v3 + 1) < 0 ∨ L ≤ (v3 + 1).toNatClampNeg) ∧ (
    am_fin [(z_L_claims, 0, [.ref 1, .int (xs (v3 + 1).toNatClampNeg)], []), (z_W_law, 1703, [.ref 0, .ref 1, .ref 36, .int v3], [])] (hp L xs A V K T) v h')) : am_fin [(z_W_law, 1694, [.ref 0, .ref 1, .ref 36, .int v3], [])] (hp L xs A V K T) v h' :=
  fn_aload_n rl_W_law_1694 rfl (fn_aload_n rl_W_law_1695 rfl (fn_iload_n rl_W_law_1696 rfl (fn_iconst rl_W_law_1697 (fn_iadd rl_W_law_1698 (fn_iald rl_W_law_1699 hp_0 (fun k263 => fn_virt (as := [.ref 1, .int (xs (v3 + 1).toNatClampNeg)]) (r := []) (ls' := [.ref 1, .int (xs (v3 + 1).toNatClampNeg)]) rl_W_law_1700 rfl hp_1 rfl rfl pl_L_claims rfl rfl (k263)) k0)))))
set_option maxRecDepth 100000 in
set_option maxHeartbeats 4000000 in
theorem sg_W_law_1703r {L : Nat} {xs : Nat → Int32} {A V : Nat → Nat → Int32} {K : Nat → Option Nat} {T : am_H} {v : Option Int32} {h' : am_H} {v3 r : Int32} (k0 :
    ¬ ((v3 + 1) < 0 ∨ L ≤ (v3 + 1).toNatClampNeg) ∧ (
    am_fin [(z_M_claims, 0, [.ref 36, .int (xs (v3 + 1).toNatClampNeg)], []), (z_W_law, 1712, [.ref 0, .ref 1, .ref 36, .int v3], [.int r])] (hp L xs A V K T) v h')) : am_fin [(z_W_law, 1703, [.ref 0, .ref 1, .ref 36, .int v3], [.int r])] (hp L xs A V K T) v h' :=
  fn_aload_n rl_W_law_1703 rfl (fn_aload_n rl_W_law_1704 rfl (fn_iload_n rl_W_law_1705 rfl (fn_iconst rl_W_law_1706 (fn_iadd rl_W_law_1707 (fn_iald rl_W_law_1708 hp_0 (fun k264 => fn_virt (as := [.ref 36, .int (xs (v3 + 1).toNatClampNeg)]) (r := [.int r]) (ls' := [.ref 36, .int (xs (v3 + 1).toNatClampNeg)]) rl_W_law_1709 rfl hp_36 rfl rfl pl_M_claims rfl rfl (k264)) k0)))))
set_option maxRecDepth 100000 in
set_option maxHeartbeats 4000000 in
theorem sg_W_law_1712r {L : Nat} {xs : Nat → Int32} {A V : Nat → Nat → Int32} {K : Nat → Option Nat} {T : am_H} {v : Option Int32} {h' : am_H} {v3 r s : Int32} (k0 :
    if r = s then (
      am_fin [(z_W_law, 18, [.ref 0, .ref 1, .ref 36, .int (v3 + 6)], [])] (hp L xs A V K T) v h')
    else (
      v = some 0 ∧ h' = hp L xs A V K T)) : am_fin [(z_W_law, 1712, [.ref 0, .ref 1, .ref 36, .int v3], [.int s, .int r])] (hp L xs A V K T) v h' :=
  fn_icmp_eq rl_W_law_1712 (fun k265 => fn_iinc (ls' := [.ref 0, .ref 1, .ref 36, .int (v3 + 6)]) rl_W_law_2473 rfl rfl rfl (fn_goto rl_W_law_2476 (k265))) (fun k266 => fn_iconst rl_W_law_1715 (fn_reti rl_W_law_1716 rfl k266)) k0
set_option maxRecDepth 100000 in
set_option maxHeartbeats 4000000 in
theorem sg_W_law_1717 {L : Nat} {xs : Nat → Int32} {A V : Nat → Nat → Int32} {K : Nat → Option Nat} {T : am_H} {v : Option Int32} {h' : am_H} {v3 : Int32} (k0 :
    ¬ ((v3 + 1) < 0 ∨ L ≤ (v3 + 1).toNatClampNeg) ∧ (
    ¬ ((v3 + 2) < 0 ∨ L ≤ (v3 + 2).toNatClampNeg) ∧ (
    am_fin [(z_L_holds, 0, [.ref 1, .int (xs (v3 + 1).toNatClampNeg), .int (xs (v3 + 2).toNatClampNeg)], []), (z_W_law, 1731, [.ref 0, .ref 1, .ref 36, .int v3], [])] (hp L xs A V K T) v h'))) : am_fin [(z_W_law, 1717, [.ref 0, .ref 1, .ref 36, .int v3], [])] (hp L xs A V K T) v h' :=
  fn_aload_n rl_W_law_1717 rfl (fn_aload_n rl_W_law_1718 rfl (fn_iload_n rl_W_law_1719 rfl (fn_iconst rl_W_law_1720 (fn_iadd rl_W_law_1721 (fn_iald rl_W_law_1722 hp_0 (fun k268 => fn_aload_n rl_W_law_1723 rfl (fn_iload_n rl_W_law_1724 rfl (fn_iconst rl_W_law_1725 (fn_iadd rl_W_law_1726 (fn_iald rl_W_law_1727 hp_0 (fun k267 => fn_virt (as := [.ref 1, .int (xs (v3 + 1).toNatClampNeg), .int (xs (v3 + 2).toNatClampNeg)]) (r := []) (ls' := [.ref 1, .int (xs (v3 + 1).toNatClampNeg), .int (xs (v3 + 2).toNatClampNeg)]) rl_W_law_1728 rfl hp_1 rfl rfl pl_L_holds rfl rfl (k267)) k268))))) k0)))))
set_option maxRecDepth 100000 in
set_option maxHeartbeats 4000000 in
theorem sg_W_law_1731r {L : Nat} {xs : Nat → Int32} {A V : Nat → Nat → Int32} {K : Nat → Option Nat} {T : am_H} {v : Option Int32} {h' : am_H} {v3 r : Int32} (k0 :
    ¬ ((v3 + 1) < 0 ∨ L ≤ (v3 + 1).toNatClampNeg) ∧ (
    ¬ ((v3 + 2) < 0 ∨ L ≤ (v3 + 2).toNatClampNeg) ∧ (
    am_fin [(z_M_holds, 0, [.ref 36, .int (xs (v3 + 1).toNatClampNeg), .int (xs (v3 + 2).toNatClampNeg)], []), (z_W_law, 1745, [.ref 0, .ref 1, .ref 36, .int v3], [.int r])] (hp L xs A V K T) v h'))) : am_fin [(z_W_law, 1731, [.ref 0, .ref 1, .ref 36, .int v3], [.int r])] (hp L xs A V K T) v h' :=
  fn_aload_n rl_W_law_1731 rfl (fn_aload_n rl_W_law_1732 rfl (fn_iload_n rl_W_law_1733 rfl (fn_iconst rl_W_law_1734 (fn_iadd rl_W_law_1735 (fn_iald rl_W_law_1736 hp_0 (fun k270 => fn_aload_n rl_W_law_1737 rfl (fn_iload_n rl_W_law_1738 rfl (fn_iconst rl_W_law_1739 (fn_iadd rl_W_law_1740 (fn_iald rl_W_law_1741 hp_0 (fun k269 => fn_virt (as := [.ref 36, .int (xs (v3 + 1).toNatClampNeg), .int (xs (v3 + 2).toNatClampNeg)]) (r := [.int r]) (ls' := [.ref 36, .int (xs (v3 + 1).toNatClampNeg), .int (xs (v3 + 2).toNatClampNeg)]) rl_W_law_1742 rfl hp_36 rfl rfl pl_M_holds rfl rfl (k269)) k270))))) k0)))))
set_option maxRecDepth 100000 in
set_option maxHeartbeats 4000000 in
theorem sg_W_law_1745r {L : Nat} {xs : Nat → Int32} {A V : Nat → Nat → Int32} {K : Nat → Option Nat} {T : am_H} {v : Option Int32} {h' : am_H} {v3 r s : Int32} (k0 :
    if r = s then (
      am_fin [(z_W_law, 18, [.ref 0, .ref 1, .ref 36, .int (v3 + 6)], [])] (hp L xs A V K T) v h')
    else (
      v = some 0 ∧ h' = hp L xs A V K T)) : am_fin [(z_W_law, 1745, [.ref 0, .ref 1, .ref 36, .int v3], [.int s, .int r])] (hp L xs A V K T) v h' :=
  fn_icmp_eq rl_W_law_1745 (fun k271 => fn_iinc (ls' := [.ref 0, .ref 1, .ref 36, .int (v3 + 6)]) rl_W_law_2473 rfl rfl rfl (fn_goto rl_W_law_2476 (k271))) (fun k272 => fn_iconst rl_W_law_1748 (fn_reti rl_W_law_1749 rfl k272)) k0
set_option maxRecDepth 100000 in
set_option maxHeartbeats 4000000 in
theorem sg_W_law_1750 {L : Nat} {xs : Nat → Int32} {A V : Nat → Nat → Int32} {K : Nat → Option Nat} {T : am_H} {v : Option Int32} {h' : am_H} {v3 : Int32} (k0 :
    ¬ ((v3 + 1) < 0 ∨ L ≤ (v3 + 1).toNatClampNeg) ∧ (
    ¬ ((v3 + 2) < 0 ∨ L ≤ (v3 + 2).toNatClampNeg) ∧ (
    ¬ ((v3 + 3) < 0 ∨ L ≤ (v3 + 3).toNatClampNeg) ∧ (
    am_fin [(z_L_answers, 0, [.ref 1, .int (xs (v3 + 1).toNatClampNeg), .int (xs (v3 + 2).toNatClampNeg), .int (xs (v3 + 3).toNatClampNeg)], []), (z_W_law, 1769, [.ref 0, .ref 1, .ref 36, .int v3], [])] (hp L xs A V K T) v h')))) : am_fin [(z_W_law, 1750, [.ref 0, .ref 1, .ref 36, .int v3], [])] (hp L xs A V K T) v h' :=
  fn_aload_n rl_W_law_1750 rfl (fn_aload_n rl_W_law_1751 rfl (fn_iload_n rl_W_law_1752 rfl (fn_iconst rl_W_law_1753 (fn_iadd rl_W_law_1754 (fn_iald rl_W_law_1755 hp_0 (fun k275 => fn_aload_n rl_W_law_1756 rfl (fn_iload_n rl_W_law_1757 rfl (fn_iconst rl_W_law_1758 (fn_iadd rl_W_law_1759 (fn_iald rl_W_law_1760 hp_0 (fun k274 => fn_aload_n rl_W_law_1761 rfl (fn_iload_n rl_W_law_1762 rfl (fn_iconst rl_W_law_1763 (fn_iadd rl_W_law_1764 (fn_iald rl_W_law_1765 hp_0 (fun k273 => fn_virt (as := [.ref 1, .int (xs (v3 + 1).toNatClampNeg), .int (xs (v3 + 2).toNatClampNeg), .int (xs (v3 + 3).toNatClampNeg)]) (r := []) (ls' := [.ref 1, .int (xs (v3 + 1).toNatClampNeg), .int (xs (v3 + 2).toNatClampNeg), .int (xs (v3 + 3).toNatClampNeg)]) rl_W_law_1766 rfl hp_1 rfl rfl pl_L_answers rfl rfl (k273)) k274))))) k275))))) k0)))))
set_option maxRecDepth 100000 in
set_option maxHeartbeats 4000000 in
theorem sg_W_law_1769r {L : Nat} {xs : Nat → Int32} {A V : Nat → Nat → Int32} {K : Nat → Option Nat} {T : am_H} {v : Option Int32} {h' : am_H} {v3 r : Int32} (k0 :
    ¬ ((v3 + 1) < 0 ∨ L ≤ (v3 + 1).toNatClampNeg) ∧ (
    ¬ ((v3 + 2) < 0 ∨ L ≤ (v3 + 2).toNatClampNeg) ∧ (
    ¬ ((v3 + 3) < 0 ∨ L ≤ (v3 + 3).toNatClampNeg) ∧ (
    am_fin [(z_M_answers, 0, [.ref 36, .int (xs (v3 + 1).toNatClampNeg), .int (xs (v3 + 2).toNatClampNeg), .int (xs (v3 + 3).toNatClampNeg)], []), (z_W_law, 1788, [.ref 0, .ref 1, .ref 36, .int v3], [.int r])] (hp L xs A V K T) v h')))) : am_fin [(z_W_law, 1769, [.ref 0, .ref 1, .ref 36, .int v3], [.int r])] (hp L xs A V K T) v h' :=
  fn_aload_n rl_W_law_1769 rfl (fn_aload_n rl_W_law_1770 rfl (fn_iload_n rl_W_law_1771 rfl (fn_iconst rl_W_law_1772 (fn_iadd rl_W_law_1773 (fn_iald rl_W_law_1774 hp_0 (fun k278 => fn_aload_n rl_W_law_1775 rfl (fn_iload_n rl_W_law_1776 rfl (fn_iconst rl_W_law_1777 (fn_iadd rl_W_law_1778 (fn_iald rl_W_law_1779 hp_0 (fun k277 => fn_aload_n rl_W_law_1780 rfl (fn_iload_n rl_W_law_1781 rfl (fn_iconst rl_W_law_1782 (fn_iadd rl_W_law_1783 (fn_iald rl_W_law_1784 hp_0 (fun k276 => fn_virt (as := [.ref 36, .int (xs (v3 + 1).toNatClampNeg), .int (xs (v3 + 2).toNatClampNeg), .int (xs (v3 + 3).toNatClampNeg)]) (r := [.int r]) (ls' := [.ref 36, .int (xs (v3 + 1).toNatClampNeg), .int (xs (v3 + 2).toNatClampNeg), .int (xs (v3 + 3).toNatClampNeg)]) rl_W_law_1785 rfl hp_36 rfl rfl pl_M_answers rfl rfl (k276)) k277))))) k278))))) k0)))))
set_option maxRecDepth 100000 in
set_option maxHeartbeats 4000000 in
theorem sg_W_law_1788r {L : Nat} {xs : Nat → Int32} {A V : Nat → Nat → Int32} {K : Nat → Option Nat} {T : am_H} {v : Option Int32} {h' : am_H} {v3 r s : Int32} (k0 :
    if r = s then (
      am_fin [(z_W_law, 18, [.ref 0, .ref 1, .ref 36, .int (v3 + 6)], [])] (hp L xs A V K T) v h')
    else (
      v = some 0 ∧ h' = hp L xs A V K T)) : am_fin [(z_W_law, 1788, [.ref 0, .ref 1, .ref 36, .int v3], [.int s, .int r])] (hp L xs A V K T) v h' :=
  fn_icmp_eq rl_W_law_1788 (fun k279 => fn_iinc (ls' := [.ref 0, .ref 1, .ref 36, .int (v3 + 6)]) rl_W_law_2473 rfl rfl rfl (fn_goto rl_W_law_2476 (k279))) (fun k280 => fn_iconst rl_W_law_1791 (fn_reti rl_W_law_1792 rfl k280)) k0
set_option maxRecDepth 100000 in
set_option maxHeartbeats 4000000 in
theorem sg_W_law_1793 {L : Nat} {xs : Nat → Int32} {A V : Nat → Nat → Int32} {K : Nat → Option Nat} {T : am_H} {v : Option Int32} {h' : am_H} {v3 : Int32} (k0 :
    ¬ ((v3 + 1) < 0 ∨ L ≤ (v3 + 1).toNatClampNeg) ∧ (
    ¬ ((v3 + 2) < 0 ∨ L ≤ (v3 + 2).toNatClampNeg) ∧ (
    ¬ ((v3 + 3) < 0 ∨ L ≤ (v3 + 3).toNatClampNeg) ∧ (
    am_fin [(z_L_by, 0, [.ref 1, .int (xs (v3 + 1).toNatClampNeg), .int (xs (v3 + 2).toNatClampNeg), .int (xs (v3 + 3).toNatClampNeg)], []), (z_W_law, 1812, [.ref 0, .ref 1, .ref 36, .int v3], [])] (hp L xs A V K T) v h')))) : am_fin [(z_W_law, 1793, [.ref 0, .ref 1, .ref 36, .int v3], [])] (hp L xs A V K T) v h' :=
  fn_aload_n rl_W_law_1793 rfl (fn_aload_n rl_W_law_1794 rfl (fn_iload_n rl_W_law_1795 rfl (fn_iconst rl_W_law_1796 (fn_iadd rl_W_law_1797 (fn_iald rl_W_law_1798 hp_0 (fun k283 => fn_aload_n rl_W_law_1799 rfl (fn_iload_n rl_W_law_1800 rfl (fn_iconst rl_W_law_1801 (fn_iadd rl_W_law_1802 (fn_iald rl_W_law_1803 hp_0 (fun k282 => fn_aload_n rl_W_law_1804 rfl (fn_iload_n rl_W_law_1805 rfl (fn_iconst rl_W_law_1806 (fn_iadd rl_W_law_1807 (fn_iald rl_W_law_1808 hp_0 (fun k281 => fn_virt (as := [.ref 1, .int (xs (v3 + 1).toNatClampNeg), .int (xs (v3 + 2).toNatClampNeg), .int (xs (v3 + 3).toNatClampNeg)]) (r := []) (ls' := [.ref 1, .int (xs (v3 + 1).toNatClampNeg), .int (xs (v3 + 2).toNatClampNeg), .int (xs (v3 + 3).toNatClampNeg)]) rl_W_law_1809 rfl hp_1 rfl rfl pl_L_by rfl rfl (k281)) k282))))) k283))))) k0)))))
set_option maxRecDepth 100000 in
set_option maxHeartbeats 4000000 in
theorem sg_W_law_1812r {L : Nat} {xs : Nat → Int32} {A V : Nat → Nat → Int32} {K : Nat → Option Nat} {T : am_H} {v : Option Int32} {h' : am_H} {v3 r : Int32} (k0 :
    ¬ ((v3 + 1) < 0 ∨ L ≤ (v3 + 1).toNatClampNeg) ∧ (
    ¬ ((v3 + 2) < 0 ∨ L ≤ (v3 + 2).toNatClampNeg) ∧ (
    ¬ ((v3 + 3) < 0 ∨ L ≤ (v3 + 3).toNatClampNeg) ∧ (
    am_fin [(z_M_by, 0, [.ref 36, .int (xs (v3 + 1).toNatClampNeg), .int (xs (v3 + 2).toNatClampNeg), .int (xs (v3 + 3).toNatClampNeg), .null], []), (z_W_law, 1831, [.ref 0, .ref 1, .ref 36, .int v3], [.int r])] (hp L xs A V K T) v h')))) : am_fin [(z_W_law, 1812, [.ref 0, .ref 1, .ref 36, .int v3], [.int r])] (hp L xs A V K T) v h' :=
  fn_aload_n rl_W_law_1812 rfl (fn_aload_n rl_W_law_1813 rfl (fn_iload_n rl_W_law_1814 rfl (fn_iconst rl_W_law_1815 (fn_iadd rl_W_law_1816 (fn_iald rl_W_law_1817 hp_0 (fun k286 => fn_aload_n rl_W_law_1818 rfl (fn_iload_n rl_W_law_1819 rfl (fn_iconst rl_W_law_1820 (fn_iadd rl_W_law_1821 (fn_iald rl_W_law_1822 hp_0 (fun k285 => fn_aload_n rl_W_law_1823 rfl (fn_iload_n rl_W_law_1824 rfl (fn_iconst rl_W_law_1825 (fn_iadd rl_W_law_1826 (fn_iald rl_W_law_1827 hp_0 (fun k284 => fn_virt (as := [.ref 36, .int (xs (v3 + 1).toNatClampNeg), .int (xs (v3 + 2).toNatClampNeg), .int (xs (v3 + 3).toNatClampNeg)]) (r := [.int r]) (ls' := [.ref 36, .int (xs (v3 + 1).toNatClampNeg), .int (xs (v3 + 2).toNatClampNeg), .int (xs (v3 + 3).toNatClampNeg), .null]) rl_W_law_1828 rfl hp_36 rfl rfl pl_M_by rfl rfl (k284)) k285))))) k286))))) k0)))))
set_option maxRecDepth 100000 in
set_option maxHeartbeats 4000000 in
theorem sg_W_law_1831r {L : Nat} {xs : Nat → Int32} {A V : Nat → Nat → Int32} {K : Nat → Option Nat} {T : am_H} {v : Option Int32} {h' : am_H} {v3 r s : Int32} (k0 :
    if r = s then (
      am_fin [(z_W_law, 18, [.ref 0, .ref 1, .ref 36, .int (v3 + 6)], [])] (hp L xs A V K T) v h')
    else (
      v = some 0 ∧ h' = hp L xs A V K T)) : am_fin [(z_W_law, 1831, [.ref 0, .ref 1, .ref 36, .int v3], [.int s, .int r])] (hp L xs A V K T) v h' :=
  fn_icmp_eq rl_W_law_1831 (fun k287 => fn_iinc (ls' := [.ref 0, .ref 1, .ref 36, .int (v3 + 6)]) rl_W_law_2473 rfl rfl rfl (fn_goto rl_W_law_2476 (k287))) (fun k288 => fn_iconst rl_W_law_1834 (fn_reti rl_W_law_1835 rfl k288)) k0
set_option maxRecDepth 100000 in
set_option maxHeartbeats 4000000 in
theorem sg_W_law_1836 {L : Nat} {xs : Nat → Int32} {A V : Nat → Nat → Int32} {K : Nat → Option Nat} {T : am_H} {v : Option Int32} {h' : am_H} {v3 : Int32} (k0 :
    ¬ ((v3 + 1) < 0 ∨ L ≤ (v3 + 1).toNatClampNeg) ∧ (
    am_fin [(z_L_lives, 0, [.ref 1, .int (xs (v3 + 1).toNatClampNeg)], []), (z_W_law, 1845, [.ref 0, .ref 1, .ref 36, .int v3], [])] (hp L xs A V K T) v h')) : am_fin [(z_W_law, 1836, [.ref 0, .ref 1, .ref 36, .int v3], [])] (hp L xs A V K T) v h' :=
  fn_aload_n rl_W_law_1836 rfl (fn_aload_n rl_W_law_1837 rfl (fn_iload_n rl_W_law_1838 rfl (fn_iconst rl_W_law_1839 (fn_iadd rl_W_law_1840 (fn_iald rl_W_law_1841 hp_0 (fun k289 => fn_virt (as := [.ref 1, .int (xs (v3 + 1).toNatClampNeg)]) (r := []) (ls' := [.ref 1, .int (xs (v3 + 1).toNatClampNeg)]) rl_W_law_1842 rfl hp_1 rfl rfl pl_L_lives rfl rfl (k289)) k0)))))
set_option maxRecDepth 100000 in
set_option maxHeartbeats 4000000 in
theorem sg_W_law_1845r {L : Nat} {xs : Nat → Int32} {A V : Nat → Nat → Int32} {K : Nat → Option Nat} {T : am_H} {v : Option Int32} {h' : am_H} {v3 r : Int32} (k0 :
    ¬ ((v3 + 1) < 0 ∨ L ≤ (v3 + 1).toNatClampNeg) ∧ (
    am_fin [(z_M_lives, 0, [.ref 36, .int (xs (v3 + 1).toNatClampNeg)], []), (z_W_law, 1854, [.ref 0, .ref 1, .ref 36, .int v3], [.int r])] (hp L xs A V K T) v h')) : am_fin [(z_W_law, 1845, [.ref 0, .ref 1, .ref 36, .int v3], [.int r])] (hp L xs A V K T) v h' :=
  fn_aload_n rl_W_law_1845 rfl (fn_aload_n rl_W_law_1846 rfl (fn_iload_n rl_W_law_1847 rfl (fn_iconst rl_W_law_1848 (fn_iadd rl_W_law_1849 (fn_iald rl_W_law_1850 hp_0 (fun k290 => fn_virt (as := [.ref 36, .int (xs (v3 + 1).toNatClampNeg)]) (r := [.int r]) (ls' := [.ref 36, .int (xs (v3 + 1).toNatClampNeg)]) rl_W_law_1851 rfl hp_36 rfl rfl pl_M_lives rfl rfl (k290)) k0)))))
set_option maxRecDepth 100000 in
set_option maxHeartbeats 4000000 in
theorem sg_W_law_1854r {L : Nat} {xs : Nat → Int32} {A V : Nat → Nat → Int32} {K : Nat → Option Nat} {T : am_H} {v : Option Int32} {h' : am_H} {v3 r s : Int32} (k0 :
    if r = s then (
      am_fin [(z_W_law, 18, [.ref 0, .ref 1, .ref 36, .int (v3 + 6)], [])] (hp L xs A V K T) v h')
    else (
      v = some 0 ∧ h' = hp L xs A V K T)) : am_fin [(z_W_law, 1854, [.ref 0, .ref 1, .ref 36, .int v3], [.int s, .int r])] (hp L xs A V K T) v h' :=
  fn_icmp_eq rl_W_law_1854 (fun k291 => fn_iinc (ls' := [.ref 0, .ref 1, .ref 36, .int (v3 + 6)]) rl_W_law_2473 rfl rfl rfl (fn_goto rl_W_law_2476 (k291))) (fun k292 => fn_iconst rl_W_law_1857 (fn_reti rl_W_law_1858 rfl k292)) k0
set_option maxRecDepth 100000 in
set_option maxHeartbeats 4000000 in
theorem sg_W_law_1859 {L : Nat} {xs : Nat → Int32} {A V : Nat → Nat → Int32} {K : Nat → Option Nat} {T : am_H} {v : Option Int32} {h' : am_H} {v3 : Int32} (k0 :
    ¬ ((v3 + 1) < 0 ∨ L ≤ (v3 + 1).toNatClampNeg) ∧ (
    ¬ ((v3 + 2) < 0 ∨ L ≤ (v3 + 2).toNatClampNeg) ∧ (
    am_fin [(z_L_pairs, 0, [.ref 1, .int (xs (v3 + 1).toNatClampNeg), .int (xs (v3 + 2).toNatClampNeg), .null, .null, .null, .null], []), (z_W_law, 1873, [.ref 0, .ref 1, .ref 36, .int v3], [])] (hp L xs A V K T) v h'))) : am_fin [(z_W_law, 1859, [.ref 0, .ref 1, .ref 36, .int v3], [])] (hp L xs A V K T) v h' :=
  fn_aload_n rl_W_law_1859 rfl (fn_aload_n rl_W_law_1860 rfl (fn_iload_n rl_W_law_1861 rfl (fn_iconst rl_W_law_1862 (fn_iadd rl_W_law_1863 (fn_iald rl_W_law_1864 hp_0 (fun k294 => fn_aload_n rl_W_law_1865 rfl (fn_iload_n rl_W_law_1866 rfl (fn_iconst rl_W_law_1867 (fn_iadd rl_W_law_1868 (fn_iald rl_W_law_1869 hp_0 (fun k293 => fn_virt (as := [.ref 1, .int (xs (v3 + 1).toNatClampNeg), .int (xs (v3 + 2).toNatClampNeg)]) (r := []) (ls' := [.ref 1, .int (xs (v3 + 1).toNatClampNeg), .int (xs (v3 + 2).toNatClampNeg), .null, .null, .null, .null]) rl_W_law_1870 rfl hp_1 rfl rfl pl_L_pairs rfl rfl (k293)) k294))))) k0)))))
set_option maxRecDepth 100000 in
set_option maxHeartbeats 4000000 in
theorem sg_W_law_1873r {L : Nat} {xs : Nat → Int32} {A V : Nat → Nat → Int32} {K : Nat → Option Nat} {T : am_H} {v : Option Int32} {h' : am_H} {v3 r : Int32} (k0 :
    ¬ ((v3 + 1) < 0 ∨ L ≤ (v3 + 1).toNatClampNeg) ∧ (
    ¬ ((v3 + 2) < 0 ∨ L ≤ (v3 + 2).toNatClampNeg) ∧ (
    am_fin [(z_M_pairs, 0, [.ref 36, .int (xs (v3 + 1).toNatClampNeg), .int (xs (v3 + 2).toNatClampNeg), .null, .null, .null, .null, .null, .null], []), (z_W_law, 1887, [.ref 0, .ref 1, .ref 36, .int v3], [.int r])] (hp L xs A V K T) v h'))) : am_fin [(z_W_law, 1873, [.ref 0, .ref 1, .ref 36, .int v3], [.int r])] (hp L xs A V K T) v h' :=
  fn_aload_n rl_W_law_1873 rfl (fn_aload_n rl_W_law_1874 rfl (fn_iload_n rl_W_law_1875 rfl (fn_iconst rl_W_law_1876 (fn_iadd rl_W_law_1877 (fn_iald rl_W_law_1878 hp_0 (fun k296 => fn_aload_n rl_W_law_1879 rfl (fn_iload_n rl_W_law_1880 rfl (fn_iconst rl_W_law_1881 (fn_iadd rl_W_law_1882 (fn_iald rl_W_law_1883 hp_0 (fun k295 => fn_virt (as := [.ref 36, .int (xs (v3 + 1).toNatClampNeg), .int (xs (v3 + 2).toNatClampNeg)]) (r := [.int r]) (ls' := [.ref 36, .int (xs (v3 + 1).toNatClampNeg), .int (xs (v3 + 2).toNatClampNeg), .null, .null, .null, .null, .null, .null]) rl_W_law_1884 rfl hp_36 rfl rfl pl_M_pairs rfl rfl (k295)) k296))))) k0)))))
set_option maxRecDepth 100000 in
set_option maxHeartbeats 4000000 in
theorem sg_W_law_1887r {L : Nat} {xs : Nat → Int32} {A V : Nat → Nat → Int32} {K : Nat → Option Nat} {T : am_H} {v : Option Int32} {h' : am_H} {v3 r s : Int32} (k0 :
    if r = s then (
      am_fin [(z_W_law, 18, [.ref 0, .ref 1, .ref 36, .int (v3 + 6)], [])] (hp L xs A V K T) v h')
    else (
      v = some 0 ∧ h' = hp L xs A V K T)) : am_fin [(z_W_law, 1887, [.ref 0, .ref 1, .ref 36, .int v3], [.int s, .int r])] (hp L xs A V K T) v h' :=
  fn_icmp_eq rl_W_law_1887 (fun k297 => fn_iinc (ls' := [.ref 0, .ref 1, .ref 36, .int (v3 + 6)]) rl_W_law_2473 rfl rfl rfl (fn_goto rl_W_law_2476 (k297))) (fun k298 => fn_iconst rl_W_law_1890 (fn_reti rl_W_law_1891 rfl k298)) k0
set_option maxRecDepth 100000 in
set_option maxHeartbeats 4000000 in
theorem sg_W_law_1892 {L : Nat} {xs : Nat → Int32} {A V : Nat → Nat → Int32} {K : Nat → Option Nat} {T : am_H} {v : Option Int32} {h' : am_H} {v3 : Int32} (k0 :
    ¬ ((v3 + 1) < 0 ∨ L ≤ (v3 + 1).toNatClampNeg) ∧ (
    ¬ ((v3 + 2) < 0 ∨ L ≤ (v3 + 2).toNatClampNeg) ∧ (
    ¬ ((v3 + 3) < 0 ∨ L ≤ (v3 + 3).toNatClampNeg) ∧ (
    am_fin [(z_L_split, 0, [.ref 1, .int (xs (v3 + 1).toNatClampNeg), .int (xs (v3 + 2).toNatClampNeg), .int (xs (v3 + 3).toNatClampNeg), .null, .null], []), (z_W_law, 1911, [.ref 0, .ref 1, .ref 36, .int v3], [])] (hp L xs A V K T) v h')))) : am_fin [(z_W_law, 1892, [.ref 0, .ref 1, .ref 36, .int v3], [])] (hp L xs A V K T) v h' :=
  fn_aload_n rl_W_law_1892 rfl (fn_aload_n rl_W_law_1893 rfl (fn_iload_n rl_W_law_1894 rfl (fn_iconst rl_W_law_1895 (fn_iadd rl_W_law_1896 (fn_iald rl_W_law_1897 hp_0 (fun k301 => fn_aload_n rl_W_law_1898 rfl (fn_iload_n rl_W_law_1899 rfl (fn_iconst rl_W_law_1900 (fn_iadd rl_W_law_1901 (fn_iald rl_W_law_1902 hp_0 (fun k300 => fn_aload_n rl_W_law_1903 rfl (fn_iload_n rl_W_law_1904 rfl (fn_iconst rl_W_law_1905 (fn_iadd rl_W_law_1906 (fn_iald rl_W_law_1907 hp_0 (fun k299 => fn_virt (as := [.ref 1, .int (xs (v3 + 1).toNatClampNeg), .int (xs (v3 + 2).toNatClampNeg), .int (xs (v3 + 3).toNatClampNeg)]) (r := []) (ls' := [.ref 1, .int (xs (v3 + 1).toNatClampNeg), .int (xs (v3 + 2).toNatClampNeg), .int (xs (v3 + 3).toNatClampNeg), .null, .null]) rl_W_law_1908 rfl hp_1 rfl rfl pl_L_split rfl rfl (k299)) k300))))) k301))))) k0)))))
set_option maxRecDepth 100000 in
set_option maxHeartbeats 4000000 in
theorem sg_W_law_1911r {L : Nat} {xs : Nat → Int32} {A V : Nat → Nat → Int32} {K : Nat → Option Nat} {T : am_H} {v : Option Int32} {h' : am_H} {v3 r : Int32} (k0 :
    ¬ ((v3 + 1) < 0 ∨ L ≤ (v3 + 1).toNatClampNeg) ∧ (
    ¬ ((v3 + 2) < 0 ∨ L ≤ (v3 + 2).toNatClampNeg) ∧ (
    ¬ ((v3 + 3) < 0 ∨ L ≤ (v3 + 3).toNatClampNeg) ∧ (
    am_fin [(z_M_split, 0, [.ref 36, .int (xs (v3 + 1).toNatClampNeg), .int (xs (v3 + 2).toNatClampNeg), .int (xs (v3 + 3).toNatClampNeg)], []), (z_W_law, 1930, [.ref 0, .ref 1, .ref 36, .int v3], [.int r])] (hp L xs A V K T) v h')))) : am_fin [(z_W_law, 1911, [.ref 0, .ref 1, .ref 36, .int v3], [.int r])] (hp L xs A V K T) v h' :=
  fn_aload_n rl_W_law_1911 rfl (fn_aload_n rl_W_law_1912 rfl (fn_iload_n rl_W_law_1913 rfl (fn_iconst rl_W_law_1914 (fn_iadd rl_W_law_1915 (fn_iald rl_W_law_1916 hp_0 (fun k304 => fn_aload_n rl_W_law_1917 rfl (fn_iload_n rl_W_law_1918 rfl (fn_iconst rl_W_law_1919 (fn_iadd rl_W_law_1920 (fn_iald rl_W_law_1921 hp_0 (fun k303 => fn_aload_n rl_W_law_1922 rfl (fn_iload_n rl_W_law_1923 rfl (fn_iconst rl_W_law_1924 (fn_iadd rl_W_law_1925 (fn_iald rl_W_law_1926 hp_0 (fun k302 => fn_virt (as := [.ref 36, .int (xs (v3 + 1).toNatClampNeg), .int (xs (v3 + 2).toNatClampNeg), .int (xs (v3 + 3).toNatClampNeg)]) (r := [.int r]) (ls' := [.ref 36, .int (xs (v3 + 1).toNatClampNeg), .int (xs (v3 + 2).toNatClampNeg), .int (xs (v3 + 3).toNatClampNeg)]) rl_W_law_1927 rfl hp_36 rfl rfl pl_M_split rfl rfl (k302)) k303))))) k304))))) k0)))))
set_option maxRecDepth 100000 in
set_option maxHeartbeats 4000000 in
theorem sg_W_law_1930r {L : Nat} {xs : Nat → Int32} {A V : Nat → Nat → Int32} {K : Nat → Option Nat} {T : am_H} {v : Option Int32} {h' : am_H} {v3 r s : Int32} (k0 :
    if r = s then (
      am_fin [(z_W_law, 18, [.ref 0, .ref 1, .ref 36, .int (v3 + 6)], [])] (hp L xs A V K T) v h')
    else (
      v = some 0 ∧ h' = hp L xs A V K T)) : am_fin [(z_W_law, 1930, [.ref 0, .ref 1, .ref 36, .int v3], [.int s, .int r])] (hp L xs A V K T) v h' :=
  fn_icmp_eq rl_W_law_1930 (fun k305 => fn_iinc (ls' := [.ref 0, .ref 1, .ref 36, .int (v3 + 6)]) rl_W_law_2473 rfl rfl rfl (fn_goto rl_W_law_2476 (k305))) (fun k306 => fn_iconst rl_W_law_1933 (fn_reti rl_W_law_1934 rfl k306)) k0
set_option maxRecDepth 100000 in
set_option maxHeartbeats 4000000 in
theorem sg_W_law_1935 {L : Nat} {xs : Nat → Int32} {A V : Nat → Nat → Int32} {K : Nat → Option Nat} {T : am_H} {v : Option Int32} {h' : am_H} {v3 : Int32} (k0 :
    ¬ ((v3 + 1) < 0 ∨ L ≤ (v3 + 1).toNatClampNeg) ∧ (
    am_fin [(z_L_owed, 0, [.ref 1, .int (xs (v3 + 1).toNatClampNeg)], []), (z_W_law, 1944, [.ref 0, .ref 1, .ref 36, .int v3], [])] (hp L xs A V K T) v h')) : am_fin [(z_W_law, 1935, [.ref 0, .ref 1, .ref 36, .int v3], [])] (hp L xs A V K T) v h' :=
  fn_aload_n rl_W_law_1935 rfl (fn_aload_n rl_W_law_1936 rfl (fn_iload_n rl_W_law_1937 rfl (fn_iconst rl_W_law_1938 (fn_iadd rl_W_law_1939 (fn_iald rl_W_law_1940 hp_0 (fun k307 => fn_virt (as := [.ref 1, .int (xs (v3 + 1).toNatClampNeg)]) (r := []) (ls' := [.ref 1, .int (xs (v3 + 1).toNatClampNeg)]) rl_W_law_1941 rfl hp_1 rfl rfl pl_L_owed rfl rfl (k307)) k0)))))
set_option maxRecDepth 100000 in
set_option maxHeartbeats 4000000 in
theorem sg_W_law_1944r {L : Nat} {xs : Nat → Int32} {A V : Nat → Nat → Int32} {K : Nat → Option Nat} {T : am_H} {v : Option Int32} {h' : am_H} {v3 r : Int32} (k0 :
    ¬ ((v3 + 1) < 0 ∨ L ≤ (v3 + 1).toNatClampNeg) ∧ (
    am_fin [(z_M_owed, 0, [.ref 36, .int (xs (v3 + 1).toNatClampNeg)], []), (z_W_law, 1953, [.ref 0, .ref 1, .ref 36, .int v3], [.int r])] (hp L xs A V K T) v h')) : am_fin [(z_W_law, 1944, [.ref 0, .ref 1, .ref 36, .int v3], [.int r])] (hp L xs A V K T) v h' :=
  fn_aload_n rl_W_law_1944 rfl (fn_aload_n rl_W_law_1945 rfl (fn_iload_n rl_W_law_1946 rfl (fn_iconst rl_W_law_1947 (fn_iadd rl_W_law_1948 (fn_iald rl_W_law_1949 hp_0 (fun k308 => fn_virt (as := [.ref 36, .int (xs (v3 + 1).toNatClampNeg)]) (r := [.int r]) (ls' := [.ref 36, .int (xs (v3 + 1).toNatClampNeg)]) rl_W_law_1950 rfl hp_36 rfl rfl pl_M_owed rfl rfl (k308)) k0)))))
set_option maxRecDepth 100000 in
set_option maxHeartbeats 4000000 in
theorem sg_W_law_1953r {L : Nat} {xs : Nat → Int32} {A V : Nat → Nat → Int32} {K : Nat → Option Nat} {T : am_H} {v : Option Int32} {h' : am_H} {v3 r s : Int32} (k0 :
    if r = s then (
      am_fin [(z_W_law, 18, [.ref 0, .ref 1, .ref 36, .int (v3 + 6)], [])] (hp L xs A V K T) v h')
    else (
      v = some 0 ∧ h' = hp L xs A V K T)) : am_fin [(z_W_law, 1953, [.ref 0, .ref 1, .ref 36, .int v3], [.int s, .int r])] (hp L xs A V K T) v h' :=
  fn_icmp_eq rl_W_law_1953 (fun k309 => fn_iinc (ls' := [.ref 0, .ref 1, .ref 36, .int (v3 + 6)]) rl_W_law_2473 rfl rfl rfl (fn_goto rl_W_law_2476 (k309))) (fun k310 => fn_iconst rl_W_law_1956 (fn_reti rl_W_law_1957 rfl k310)) k0
set_option maxRecDepth 100000 in
set_option maxHeartbeats 4000000 in
theorem sg_W_law_1958 {L : Nat} {xs : Nat → Int32} {A V : Nat → Nat → Int32} {K : Nat → Option Nat} {T : am_H} {v : Option Int32} {h' : am_H} {v3 : Int32} (k0 :
    ¬ ((v3 + 1) < 0 ∨ L ≤ (v3 + 1).toNatClampNeg) ∧ (
    ¬ ((v3 + 2) < 0 ∨ L ≤ (v3 + 2).toNatClampNeg) ∧ (
    ¬ ((v3 + 3) < 0 ∨ L ≤ (v3 + 3).toNatClampNeg) ∧ (
    am_fin [(z_L_free, 0, [.ref 1, .int (xs (v3 + 1).toNatClampNeg), .int (xs (v3 + 2).toNatClampNeg), .int (xs (v3 + 3).toNatClampNeg)], []), (z_W_law, 1977, [.ref 0, .ref 1, .ref 36, .int v3], [])] (hp L xs A V K T) v h')))) : am_fin [(z_W_law, 1958, [.ref 0, .ref 1, .ref 36, .int v3], [])] (hp L xs A V K T) v h' :=
  fn_aload_n rl_W_law_1958 rfl (fn_aload_n rl_W_law_1959 rfl (fn_iload_n rl_W_law_1960 rfl (fn_iconst rl_W_law_1961 (fn_iadd rl_W_law_1962 (fn_iald rl_W_law_1963 hp_0 (fun k313 => fn_aload_n rl_W_law_1964 rfl (fn_iload_n rl_W_law_1965 rfl (fn_iconst rl_W_law_1966 (fn_iadd rl_W_law_1967 (fn_iald rl_W_law_1968 hp_0 (fun k312 => fn_aload_n rl_W_law_1969 rfl (fn_iload_n rl_W_law_1970 rfl (fn_iconst rl_W_law_1971 (fn_iadd rl_W_law_1972 (fn_iald rl_W_law_1973 hp_0 (fun k311 => fn_virt (as := [.ref 1, .int (xs (v3 + 1).toNatClampNeg), .int (xs (v3 + 2).toNatClampNeg), .int (xs (v3 + 3).toNatClampNeg)]) (r := []) (ls' := [.ref 1, .int (xs (v3 + 1).toNatClampNeg), .int (xs (v3 + 2).toNatClampNeg), .int (xs (v3 + 3).toNatClampNeg)]) rl_W_law_1974 rfl hp_1 rfl rfl pl_L_free rfl rfl (k311)) k312))))) k313))))) k0)))))
set_option maxRecDepth 100000 in
set_option maxHeartbeats 4000000 in
theorem sg_W_law_1977r {L : Nat} {xs : Nat → Int32} {A V : Nat → Nat → Int32} {K : Nat → Option Nat} {T : am_H} {v : Option Int32} {h' : am_H} {v3 r : Int32} (k0 :
    ¬ ((v3 + 1) < 0 ∨ L ≤ (v3 + 1).toNatClampNeg) ∧ (
    ¬ ((v3 + 2) < 0 ∨ L ≤ (v3 + 2).toNatClampNeg) ∧ (
    ¬ ((v3 + 3) < 0 ∨ L ≤ (v3 + 3).toNatClampNeg) ∧ (
    am_fin [(z_M_free, 0, [.ref 36, .int (xs (v3 + 1).toNatClampNeg), .int (xs (v3 + 2).toNatClampNeg), .int (xs (v3 + 3).toNatClampNeg)], []), (z_W_law, 1996, [.ref 0, .ref 1, .ref 36, .int v3], [.int r])] (hp L xs A V K T) v h')))) : am_fin [(z_W_law, 1977, [.ref 0, .ref 1, .ref 36, .int v3], [.int r])] (hp L xs A V K T) v h' :=
  fn_aload_n rl_W_law_1977 rfl (fn_aload_n rl_W_law_1978 rfl (fn_iload_n rl_W_law_1979 rfl (fn_iconst rl_W_law_1980 (fn_iadd rl_W_law_1981 (fn_iald rl_W_law_1982 hp_0 (fun k316 => fn_aload_n rl_W_law_1983 rfl (fn_iload_n rl_W_law_1984 rfl (fn_iconst rl_W_law_1985 (fn_iadd rl_W_law_1986 (fn_iald rl_W_law_1987 hp_0 (fun k315 => fn_aload_n rl_W_law_1988 rfl (fn_iload_n rl_W_law_1989 rfl (fn_iconst rl_W_law_1990 (fn_iadd rl_W_law_1991 (fn_iald rl_W_law_1992 hp_0 (fun k314 => fn_virt (as := [.ref 36, .int (xs (v3 + 1).toNatClampNeg), .int (xs (v3 + 2).toNatClampNeg), .int (xs (v3 + 3).toNatClampNeg)]) (r := [.int r]) (ls' := [.ref 36, .int (xs (v3 + 1).toNatClampNeg), .int (xs (v3 + 2).toNatClampNeg), .int (xs (v3 + 3).toNatClampNeg)]) rl_W_law_1993 rfl hp_36 rfl rfl pl_M_free rfl rfl (k314)) k315))))) k316))))) k0)))))
set_option maxRecDepth 100000 in
set_option maxHeartbeats 4000000 in
theorem sg_W_law_1996r {L : Nat} {xs : Nat → Int32} {A V : Nat → Nat → Int32} {K : Nat → Option Nat} {T : am_H} {v : Option Int32} {h' : am_H} {v3 r s : Int32} (k0 :
    if r = s then (
      am_fin [(z_W_law, 18, [.ref 0, .ref 1, .ref 36, .int (v3 + 6)], [])] (hp L xs A V K T) v h')
    else (
      v = some 0 ∧ h' = hp L xs A V K T)) : am_fin [(z_W_law, 1996, [.ref 0, .ref 1, .ref 36, .int v3], [.int s, .int r])] (hp L xs A V K T) v h' :=
  fn_icmp_eq rl_W_law_1996 (fun k317 => fn_iinc (ls' := [.ref 0, .ref 1, .ref 36, .int (v3 + 6)]) rl_W_law_2473 rfl rfl rfl (fn_goto rl_W_law_2476 (k317))) (fun k318 => fn_iconst rl_W_law_1999 (fn_reti rl_W_law_2000 rfl k318)) k0
set_option maxRecDepth 100000 in
set_option maxHeartbeats 4000000 in
theorem sg_W_law_2001 {L : Nat} {xs : Nat → Int32} {A V : Nat → Nat → Int32} {K : Nat → Option Nat} {T : am_H} {v : Option Int32} {h' : am_H} {v3 : Int32} (k0 :
    ¬ ((v3 + 1) < 0 ∨ L ≤ (v3 + 1).toNatClampNeg) ∧ (
    ¬ ((v3 + 2) < 0 ∨ L ≤ (v3 + 2).toNatClampNeg) ∧ (
    am_fin [(z_L_mustLeave, 0, [.ref 1, .int (xs (v3 + 1).toNatClampNeg), .int (xs (v3 + 2).toNatClampNeg), .null], []), (z_W_law, 2015, [.ref 0, .ref 1, .ref 36, .int v3], [])] (hp L xs A V K T) v h'))) : am_fin [(z_W_law, 2001, [.ref 0, .ref 1, .ref 36, .int v3], [])] (hp L xs A V K T) v h' :=
  fn_aload_n rl_W_law_2001 rfl (fn_aload_n rl_W_law_2002 rfl (fn_iload_n rl_W_law_2003 rfl (fn_iconst rl_W_law_2004 (fn_iadd rl_W_law_2005 (fn_iald rl_W_law_2006 hp_0 (fun k320 => fn_aload_n rl_W_law_2007 rfl (fn_iload_n rl_W_law_2008 rfl (fn_iconst rl_W_law_2009 (fn_iadd rl_W_law_2010 (fn_iald rl_W_law_2011 hp_0 (fun k319 => fn_virt (as := [.ref 1, .int (xs (v3 + 1).toNatClampNeg), .int (xs (v3 + 2).toNatClampNeg)]) (r := []) (ls' := [.ref 1, .int (xs (v3 + 1).toNatClampNeg), .int (xs (v3 + 2).toNatClampNeg), .null]) rl_W_law_2012 rfl hp_1 rfl rfl pl_L_mustLeave rfl rfl (k319)) k320))))) k0)))))
set_option maxRecDepth 100000 in
set_option maxHeartbeats 4000000 in
theorem sg_W_law_2015r {L : Nat} {xs : Nat → Int32} {A V : Nat → Nat → Int32} {K : Nat → Option Nat} {T : am_H} {v : Option Int32} {h' : am_H} {v3 r : Int32} (k0 :
    ¬ ((v3 + 1) < 0 ∨ L ≤ (v3 + 1).toNatClampNeg) ∧ (
    ¬ ((v3 + 2) < 0 ∨ L ≤ (v3 + 2).toNatClampNeg) ∧ (
    am_fin [(z_M_mustLeave, 0, [.ref 36, .int (xs (v3 + 1).toNatClampNeg), .int (xs (v3 + 2).toNatClampNeg), .null], []), (z_W_law, 2029, [.ref 0, .ref 1, .ref 36, .int v3], [.int r])] (hp L xs A V K T) v h'))) : am_fin [(z_W_law, 2015, [.ref 0, .ref 1, .ref 36, .int v3], [.int r])] (hp L xs A V K T) v h' :=
  fn_aload_n rl_W_law_2015 rfl (fn_aload_n rl_W_law_2016 rfl (fn_iload_n rl_W_law_2017 rfl (fn_iconst rl_W_law_2018 (fn_iadd rl_W_law_2019 (fn_iald rl_W_law_2020 hp_0 (fun k322 => fn_aload_n rl_W_law_2021 rfl (fn_iload_n rl_W_law_2022 rfl (fn_iconst rl_W_law_2023 (fn_iadd rl_W_law_2024 (fn_iald rl_W_law_2025 hp_0 (fun k321 => fn_virt (as := [.ref 36, .int (xs (v3 + 1).toNatClampNeg), .int (xs (v3 + 2).toNatClampNeg)]) (r := [.int r]) (ls' := [.ref 36, .int (xs (v3 + 1).toNatClampNeg), .int (xs (v3 + 2).toNatClampNeg), .null]) rl_W_law_2026 rfl hp_36 rfl rfl pl_M_mustLeave rfl rfl (k321)) k322))))) k0)))))
set_option maxRecDepth 100000 in
set_option maxHeartbeats 4000000 in
theorem sg_W_law_2029r {L : Nat} {xs : Nat → Int32} {A V : Nat → Nat → Int32} {K : Nat → Option Nat} {T : am_H} {v : Option Int32} {h' : am_H} {v3 r s : Int32} (k0 :
    if r = s then (
      am_fin [(z_W_law, 18, [.ref 0, .ref 1, .ref 36, .int (v3 + 6)], [])] (hp L xs A V K T) v h')
    else (
      v = some 0 ∧ h' = hp L xs A V K T)) : am_fin [(z_W_law, 2029, [.ref 0, .ref 1, .ref 36, .int v3], [.int s, .int r])] (hp L xs A V K T) v h' :=
  fn_icmp_eq rl_W_law_2029 (fun k323 => fn_iinc (ls' := [.ref 0, .ref 1, .ref 36, .int (v3 + 6)]) rl_W_law_2473 rfl rfl rfl (fn_goto rl_W_law_2476 (k323))) (fun k324 => fn_iconst rl_W_law_2032 (fn_reti rl_W_law_2033 rfl k324)) k0
set_option maxRecDepth 100000 in
set_option maxHeartbeats 4000000 in
theorem sg_W_law_2034 {L : Nat} {xs : Nat → Int32} {A V : Nat → Nat → Int32} {K : Nat → Option Nat} {T : am_H} {v : Option Int32} {h' : am_H} {v3 : Int32} (k0 :
    ¬ ((v3 + 1) < 0 ∨ L ≤ (v3 + 1).toNatClampNeg) ∧ (
    ¬ ((v3 + 2) < 0 ∨ L ≤ (v3 + 2).toNatClampNeg) ∧ (
    ¬ ((v3 + 3) < 0 ∨ L ≤ (v3 + 3).toNatClampNeg) ∧ (
    am_fin [(z_L_mayCome, 0, [.ref 1, .int (xs (v3 + 1).toNatClampNeg), .int (xs (v3 + 2).toNatClampNeg), .int (xs (v3 + 3).toNatClampNeg), .null], []), (z_W_law, 2053, [.ref 0, .ref 1, .ref 36, .int v3], [])] (hp L xs A V K T) v h')))) : am_fin [(z_W_law, 2034, [.ref 0, .ref 1, .ref 36, .int v3], [])] (hp L xs A V K T) v h' :=
  fn_aload_n rl_W_law_2034 rfl (fn_aload_n rl_W_law_2035 rfl (fn_iload_n rl_W_law_2036 rfl (fn_iconst rl_W_law_2037 (fn_iadd rl_W_law_2038 (fn_iald rl_W_law_2039 hp_0 (fun k327 => fn_aload_n rl_W_law_2040 rfl (fn_iload_n rl_W_law_2041 rfl (fn_iconst rl_W_law_2042 (fn_iadd rl_W_law_2043 (fn_iald rl_W_law_2044 hp_0 (fun k326 => fn_aload_n rl_W_law_2045 rfl (fn_iload_n rl_W_law_2046 rfl (fn_iconst rl_W_law_2047 (fn_iadd rl_W_law_2048 (fn_iald rl_W_law_2049 hp_0 (fun k325 => fn_virt (as := [.ref 1, .int (xs (v3 + 1).toNatClampNeg), .int (xs (v3 + 2).toNatClampNeg), .int (xs (v3 + 3).toNatClampNeg)]) (r := []) (ls' := [.ref 1, .int (xs (v3 + 1).toNatClampNeg), .int (xs (v3 + 2).toNatClampNeg), .int (xs (v3 + 3).toNatClampNeg), .null]) rl_W_law_2050 rfl hp_1 rfl rfl pl_L_mayCome rfl rfl (k325)) k326))))) k327))))) k0)))))
set_option maxRecDepth 100000 in
set_option maxHeartbeats 4000000 in
theorem sg_W_law_2053r {L : Nat} {xs : Nat → Int32} {A V : Nat → Nat → Int32} {K : Nat → Option Nat} {T : am_H} {v : Option Int32} {h' : am_H} {v3 r : Int32} (k0 :
    ¬ ((v3 + 1) < 0 ∨ L ≤ (v3 + 1).toNatClampNeg) ∧ (
    ¬ ((v3 + 2) < 0 ∨ L ≤ (v3 + 2).toNatClampNeg) ∧ (
    ¬ ((v3 + 3) < 0 ∨ L ≤ (v3 + 3).toNatClampNeg) ∧ (
    am_fin [(z_M_mayCome, 0, [.ref 36, .int (xs (v3 + 1).toNatClampNeg), .int (xs (v3 + 2).toNatClampNeg), .int (xs (v3 + 3).toNatClampNeg), .null, .null, .null, .null], []), (z_W_law, 2072, [.ref 0, .ref 1, .ref 36, .int v3], [.int r])] (hp L xs A V K T) v h')))) : am_fin [(z_W_law, 2053, [.ref 0, .ref 1, .ref 36, .int v3], [.int r])] (hp L xs A V K T) v h' :=
  fn_aload_n rl_W_law_2053 rfl (fn_aload_n rl_W_law_2054 rfl (fn_iload_n rl_W_law_2055 rfl (fn_iconst rl_W_law_2056 (fn_iadd rl_W_law_2057 (fn_iald rl_W_law_2058 hp_0 (fun k330 => fn_aload_n rl_W_law_2059 rfl (fn_iload_n rl_W_law_2060 rfl (fn_iconst rl_W_law_2061 (fn_iadd rl_W_law_2062 (fn_iald rl_W_law_2063 hp_0 (fun k329 => fn_aload_n rl_W_law_2064 rfl (fn_iload_n rl_W_law_2065 rfl (fn_iconst rl_W_law_2066 (fn_iadd rl_W_law_2067 (fn_iald rl_W_law_2068 hp_0 (fun k328 => fn_virt (as := [.ref 36, .int (xs (v3 + 1).toNatClampNeg), .int (xs (v3 + 2).toNatClampNeg), .int (xs (v3 + 3).toNatClampNeg)]) (r := [.int r]) (ls' := [.ref 36, .int (xs (v3 + 1).toNatClampNeg), .int (xs (v3 + 2).toNatClampNeg), .int (xs (v3 + 3).toNatClampNeg), .null, .null, .null, .null]) rl_W_law_2069 rfl hp_36 rfl rfl pl_M_mayCome rfl rfl (k328)) k329))))) k330))))) k0)))))
set_option maxRecDepth 100000 in
set_option maxHeartbeats 4000000 in
theorem sg_W_law_2072r {L : Nat} {xs : Nat → Int32} {A V : Nat → Nat → Int32} {K : Nat → Option Nat} {T : am_H} {v : Option Int32} {h' : am_H} {v3 r s : Int32} (k0 :
    if r = s then (
      am_fin [(z_W_law, 18, [.ref 0, .ref 1, .ref 36, .int (v3 + 6)], [])] (hp L xs A V K T) v h')
    else (
      v = some 0 ∧ h' = hp L xs A V K T)) : am_fin [(z_W_law, 2072, [.ref 0, .ref 1, .ref 36, .int v3], [.int s, .int r])] (hp L xs A V K T) v h' :=
  fn_icmp_eq rl_W_law_2072 (fun k331 => fn_iinc (ls' := [.ref 0, .ref 1, .ref 36, .int (v3 + 6)]) rl_W_law_2473 rfl rfl rfl (fn_goto rl_W_law_2476 (k331))) (fun k332 => fn_iconst rl_W_law_2075 (fn_reti rl_W_law_2076 rfl k332)) k0
set_option maxRecDepth 100000 in
set_option maxHeartbeats 4000000 in
theorem sg_W_law_2077 {L : Nat} {xs : Nat → Int32} {A V : Nat → Nat → Int32} {K : Nat → Option Nat} {T : am_H} {v : Option Int32} {h' : am_H} {v3 : Int32} (k0 :
    ¬ ((v3 + 1) < 0 ∨ L ≤ (v3 + 1).toNatClampNeg) ∧ (
    ¬ ((v3 + 2) < 0 ∨ L ≤ (v3 + 2).toNatClampNeg) ∧ (
    am_fin [(z_L_claimBy, 0, [.ref 1, .int (xs (v3 + 1).toNatClampNeg), .int (xs (v3 + 2).toNatClampNeg), .null, .null], []), (z_W_law, 2091, [.ref 0, .ref 1, .ref 36, .int v3], [])] (hp L xs A V K T) v h'))) : am_fin [(z_W_law, 2077, [.ref 0, .ref 1, .ref 36, .int v3], [])] (hp L xs A V K T) v h' :=
  fn_aload_n rl_W_law_2077 rfl (fn_aload_n rl_W_law_2078 rfl (fn_iload_n rl_W_law_2079 rfl (fn_iconst rl_W_law_2080 (fn_iadd rl_W_law_2081 (fn_iald rl_W_law_2082 hp_0 (fun k334 => fn_aload_n rl_W_law_2083 rfl (fn_iload_n rl_W_law_2084 rfl (fn_iconst rl_W_law_2085 (fn_iadd rl_W_law_2086 (fn_iald rl_W_law_2087 hp_0 (fun k333 => fn_virt (as := [.ref 1, .int (xs (v3 + 1).toNatClampNeg), .int (xs (v3 + 2).toNatClampNeg)]) (r := []) (ls' := [.ref 1, .int (xs (v3 + 1).toNatClampNeg), .int (xs (v3 + 2).toNatClampNeg), .null, .null]) rl_W_law_2088 rfl hp_1 rfl rfl pl_L_claimBy rfl rfl (k333)) k334))))) k0)))))
set_option maxRecDepth 100000 in
set_option maxHeartbeats 4000000 in
theorem sg_W_law_2091r {L : Nat} {xs : Nat → Int32} {A V : Nat → Nat → Int32} {K : Nat → Option Nat} {T : am_H} {v : Option Int32} {h' : am_H} {v3 r : Int32} (k0 :
    ¬ ((v3 + 1) < 0 ∨ L ≤ (v3 + 1).toNatClampNeg) ∧ (
    ¬ ((v3 + 2) < 0 ∨ L ≤ (v3 + 2).toNatClampNeg) ∧ (
    am_fin [(z_M_claimBy, 0, [.ref 36, .int (xs (v3 + 1).toNatClampNeg), .int (xs (v3 + 2).toNatClampNeg), .null], []), (z_W_law, 2105, [.ref 0, .ref 1, .ref 36, .int v3], [.int r])] (hp L xs A V K T) v h'))) : am_fin [(z_W_law, 2091, [.ref 0, .ref 1, .ref 36, .int v3], [.int r])] (hp L xs A V K T) v h' :=
  fn_aload_n rl_W_law_2091 rfl (fn_aload_n rl_W_law_2092 rfl (fn_iload_n rl_W_law_2093 rfl (fn_iconst rl_W_law_2094 (fn_iadd rl_W_law_2095 (fn_iald rl_W_law_2096 hp_0 (fun k336 => fn_aload_n rl_W_law_2097 rfl (fn_iload_n rl_W_law_2098 rfl (fn_iconst rl_W_law_2099 (fn_iadd rl_W_law_2100 (fn_iald rl_W_law_2101 hp_0 (fun k335 => fn_virt (as := [.ref 36, .int (xs (v3 + 1).toNatClampNeg), .int (xs (v3 + 2).toNatClampNeg)]) (r := [.int r]) (ls' := [.ref 36, .int (xs (v3 + 1).toNatClampNeg), .int (xs (v3 + 2).toNatClampNeg), .null]) rl_W_law_2102 rfl hp_36 rfl rfl pl_M_claimBy rfl rfl (k335)) k336))))) k0)))))
set_option maxRecDepth 100000 in
set_option maxHeartbeats 4000000 in
theorem sg_W_law_2105r {L : Nat} {xs : Nat → Int32} {A V : Nat → Nat → Int32} {K : Nat → Option Nat} {T : am_H} {v : Option Int32} {h' : am_H} {v3 r s : Int32} (k0 :
    if r = s then (
      am_fin [(z_W_law, 18, [.ref 0, .ref 1, .ref 36, .int (v3 + 6)], [])] (hp L xs A V K T) v h')
    else (
      v = some 0 ∧ h' = hp L xs A V K T)) : am_fin [(z_W_law, 2105, [.ref 0, .ref 1, .ref 36, .int v3], [.int s, .int r])] (hp L xs A V K T) v h' :=
  fn_icmp_eq rl_W_law_2105 (fun k337 => fn_iinc (ls' := [.ref 0, .ref 1, .ref 36, .int (v3 + 6)]) rl_W_law_2473 rfl rfl rfl (fn_goto rl_W_law_2476 (k337))) (fun k338 => fn_iconst rl_W_law_2108 (fn_reti rl_W_law_2109 rfl k338)) k0
set_option maxRecDepth 100000 in
set_option maxHeartbeats 4000000 in
theorem sg_W_law_2110 {L : Nat} {xs : Nat → Int32} {A V : Nat → Nat → Int32} {K : Nat → Option Nat} {T : am_H} {v : Option Int32} {h' : am_H} {v3 : Int32} (k0 :
    ¬ ((v3 + 1) < 0 ∨ L ≤ (v3 + 1).toNatClampNeg) ∧ (
    ¬ ((v3 + 2) < 0 ∨ L ≤ (v3 + 2).toNatClampNeg) ∧ (
    ¬ ((v3 + 3) < 0 ∨ L ≤ (v3 + 3).toNatClampNeg) ∧ (
    am_fin [(z_L_freest, 0, [.ref 1, .int (xs (v3 + 1).toNatClampNeg), .int (xs (v3 + 2).toNatClampNeg), .int (xs (v3 + 3).toNatClampNeg), .null, .null, .null, .null], []), (z_W_law, 2129, [.ref 0, .ref 1, .ref 36, .int v3], [])] (hp L xs A V K T) v h')))) : am_fin [(z_W_law, 2110, [.ref 0, .ref 1, .ref 36, .int v3], [])] (hp L xs A V K T) v h' :=
  fn_aload_n rl_W_law_2110 rfl (fn_aload_n rl_W_law_2111 rfl (fn_iload_n rl_W_law_2112 rfl (fn_iconst rl_W_law_2113 (fn_iadd rl_W_law_2114 (fn_iald rl_W_law_2115 hp_0 (fun k341 => fn_aload_n rl_W_law_2116 rfl (fn_iload_n rl_W_law_2117 rfl (fn_iconst rl_W_law_2118 (fn_iadd rl_W_law_2119 (fn_iald rl_W_law_2120 hp_0 (fun k340 => fn_aload_n rl_W_law_2121 rfl (fn_iload_n rl_W_law_2122 rfl (fn_iconst rl_W_law_2123 (fn_iadd rl_W_law_2124 (fn_iald rl_W_law_2125 hp_0 (fun k339 => fn_virt (as := [.ref 1, .int (xs (v3 + 1).toNatClampNeg), .int (xs (v3 + 2).toNatClampNeg), .int (xs (v3 + 3).toNatClampNeg)]) (r := []) (ls' := [.ref 1, .int (xs (v3 + 1).toNatClampNeg), .int (xs (v3 + 2).toNatClampNeg), .int (xs (v3 + 3).toNatClampNeg), .null, .null, .null, .null]) rl_W_law_2126 rfl hp_1 rfl rfl pl_L_freest rfl rfl (k339)) k340))))) k341))))) k0)))))
set_option maxRecDepth 100000 in
set_option maxHeartbeats 4000000 in
theorem sg_W_law_2129r {L : Nat} {xs : Nat → Int32} {A V : Nat → Nat → Int32} {K : Nat → Option Nat} {T : am_H} {v : Option Int32} {h' : am_H} {v3 r : Int32} (k0 :
    ¬ ((v3 + 1) < 0 ∨ L ≤ (v3 + 1).toNatClampNeg) ∧ (
    ¬ ((v3 + 2) < 0 ∨ L ≤ (v3 + 2).toNatClampNeg) ∧ (
    ¬ ((v3 + 3) < 0 ∨ L ≤ (v3 + 3).toNatClampNeg) ∧ (
    am_fin [(z_M_freest, 0, [.ref 36, .int (xs (v3 + 1).toNatClampNeg), .int (xs (v3 + 2).toNatClampNeg), .int (xs (v3 + 3).toNatClampNeg), .null, .null, .null, .null], []), (z_W_law, 2148, [.ref 0, .ref 1, .ref 36, .int v3], [.int r])] (hp L xs A V K T) v h')))) : am_fin [(z_W_law, 2129, [.ref 0, .ref 1, .ref 36, .int v3], [.int r])] (hp L xs A V K T) v h' :=
  fn_aload_n rl_W_law_2129 rfl (fn_aload_n rl_W_law_2130 rfl (fn_iload_n rl_W_law_2131 rfl (fn_iconst rl_W_law_2132 (fn_iadd rl_W_law_2133 (fn_iald rl_W_law_2134 hp_0 (fun k344 => fn_aload_n rl_W_law_2135 rfl (fn_iload_n rl_W_law_2136 rfl (fn_iconst rl_W_law_2137 (fn_iadd rl_W_law_2138 (fn_iald rl_W_law_2139 hp_0 (fun k343 => fn_aload_n rl_W_law_2140 rfl (fn_iload_n rl_W_law_2141 rfl (fn_iconst rl_W_law_2142 (fn_iadd rl_W_law_2143 (fn_iald rl_W_law_2144 hp_0 (fun k342 => fn_virt (as := [.ref 36, .int (xs (v3 + 1).toNatClampNeg), .int (xs (v3 + 2).toNatClampNeg), .int (xs (v3 + 3).toNatClampNeg)]) (r := [.int r]) (ls' := [.ref 36, .int (xs (v3 + 1).toNatClampNeg), .int (xs (v3 + 2).toNatClampNeg), .int (xs (v3 + 3).toNatClampNeg), .null, .null, .null, .null]) rl_W_law_2145 rfl hp_36 rfl rfl pl_M_freest rfl rfl (k342)) k343))))) k344))))) k0)))))
set_option maxRecDepth 100000 in
set_option maxHeartbeats 4000000 in
theorem sg_W_law_2148r {L : Nat} {xs : Nat → Int32} {A V : Nat → Nat → Int32} {K : Nat → Option Nat} {T : am_H} {v : Option Int32} {h' : am_H} {v3 r s : Int32} (k0 :
    if r = s then (
      am_fin [(z_W_law, 18, [.ref 0, .ref 1, .ref 36, .int (v3 + 6)], [])] (hp L xs A V K T) v h')
    else (
      v = some 0 ∧ h' = hp L xs A V K T)) : am_fin [(z_W_law, 2148, [.ref 0, .ref 1, .ref 36, .int v3], [.int s, .int r])] (hp L xs A V K T) v h' :=
  fn_icmp_eq rl_W_law_2148 (fun k345 => fn_iinc (ls' := [.ref 0, .ref 1, .ref 36, .int (v3 + 6)]) rl_W_law_2473 rfl rfl rfl (fn_goto rl_W_law_2476 (k345))) (fun k346 => fn_iconst rl_W_law_2151 (fn_reti rl_W_law_2152 rfl k346)) k0
set_option maxRecDepth 100000 in
set_option maxHeartbeats 4000000 in
theorem sg_W_law_2153 {L : Nat} {xs : Nat → Int32} {A V : Nat → Nat → Int32} {K : Nat → Option Nat} {T : am_H} {v : Option Int32} {h' : am_H} {v3 : Int32} (k0 :
    ¬ ((v3 + 1) < 0 ∨ L ≤ (v3 + 1).toNatClampNeg) ∧ (
    ¬ ((v3 + 2) < 0 ∨ L ≤ (v3 + 2).toNatClampNeg) ∧ (
    am_fin [(z_L_need, 0, [.ref 1, .int (xs (v3 + 1).toNatClampNeg), .int (xs (v3 + 2).toNatClampNeg)], []), (z_W_law, 2167, [.ref 0, .ref 1, .ref 36, .int v3], [])] (hp L xs A V K T) v h'))) : am_fin [(z_W_law, 2153, [.ref 0, .ref 1, .ref 36, .int v3], [])] (hp L xs A V K T) v h' :=
  fn_aload_n rl_W_law_2153 rfl (fn_aload_n rl_W_law_2154 rfl (fn_iload_n rl_W_law_2155 rfl (fn_iconst rl_W_law_2156 (fn_iadd rl_W_law_2157 (fn_iald rl_W_law_2158 hp_0 (fun k348 => fn_aload_n rl_W_law_2159 rfl (fn_iload_n rl_W_law_2160 rfl (fn_iconst rl_W_law_2161 (fn_iadd rl_W_law_2162 (fn_iald rl_W_law_2163 hp_0 (fun k347 => fn_virt (as := [.ref 1, .int (xs (v3 + 1).toNatClampNeg), .int (xs (v3 + 2).toNatClampNeg)]) (r := []) (ls' := [.ref 1, .int (xs (v3 + 1).toNatClampNeg), .int (xs (v3 + 2).toNatClampNeg)]) rl_W_law_2164 rfl hp_1 rfl rfl pl_L_need rfl rfl (k347)) k348))))) k0)))))
set_option maxRecDepth 100000 in
set_option maxHeartbeats 4000000 in
theorem sg_W_law_2167r {L : Nat} {xs : Nat → Int32} {A V : Nat → Nat → Int32} {K : Nat → Option Nat} {T : am_H} {v : Option Int32} {h' : am_H} {v3 r : Int32} (k0 :
    ¬ ((v3 + 1) < 0 ∨ L ≤ (v3 + 1).toNatClampNeg) ∧ (
    ¬ ((v3 + 2) < 0 ∨ L ≤ (v3 + 2).toNatClampNeg) ∧ (
    am_fin [(z_M_need, 0, [.ref 36, .int (xs (v3 + 1).toNatClampNeg), .int (xs (v3 + 2).toNatClampNeg)], []), (z_W_law, 2181, [.ref 0, .ref 1, .ref 36, .int v3], [.int r])] (hp L xs A V K T) v h'))) : am_fin [(z_W_law, 2167, [.ref 0, .ref 1, .ref 36, .int v3], [.int r])] (hp L xs A V K T) v h' :=
  fn_aload_n rl_W_law_2167 rfl (fn_aload_n rl_W_law_2168 rfl (fn_iload_n rl_W_law_2169 rfl (fn_iconst rl_W_law_2170 (fn_iadd rl_W_law_2171 (fn_iald rl_W_law_2172 hp_0 (fun k350 => fn_aload_n rl_W_law_2173 rfl (fn_iload_n rl_W_law_2174 rfl (fn_iconst rl_W_law_2175 (fn_iadd rl_W_law_2176 (fn_iald rl_W_law_2177 hp_0 (fun k349 => fn_virt (as := [.ref 36, .int (xs (v3 + 1).toNatClampNeg), .int (xs (v3 + 2).toNatClampNeg)]) (r := [.int r]) (ls' := [.ref 36, .int (xs (v3 + 1).toNatClampNeg), .int (xs (v3 + 2).toNatClampNeg)]) rl_W_law_2178 rfl hp_36 rfl rfl pl_M_need rfl rfl (k349)) k350))))) k0)))))
set_option maxRecDepth 100000 in
set_option maxHeartbeats 4000000 in
theorem sg_W_law_2181r {L : Nat} {xs : Nat → Int32} {A V : Nat → Nat → Int32} {K : Nat → Option Nat} {T : am_H} {v : Option Int32} {h' : am_H} {v3 r s : Int32} (k0 :
    if r = s then (
      am_fin [(z_W_law, 18, [.ref 0, .ref 1, .ref 36, .int (v3 + 6)], [])] (hp L xs A V K T) v h')
    else (
      v = some 0 ∧ h' = hp L xs A V K T)) : am_fin [(z_W_law, 2181, [.ref 0, .ref 1, .ref 36, .int v3], [.int s, .int r])] (hp L xs A V K T) v h' :=
  fn_icmp_eq rl_W_law_2181 (fun k351 => fn_iinc (ls' := [.ref 0, .ref 1, .ref 36, .int (v3 + 6)]) rl_W_law_2473 rfl rfl rfl (fn_goto rl_W_law_2476 (k351))) (fun k352 => fn_iconst rl_W_law_2184 (fn_reti rl_W_law_2185 rfl k352)) k0
set_option maxRecDepth 100000 in
set_option maxHeartbeats 4000000 in
theorem sg_W_law_2186 {L : Nat} {xs : Nat → Int32} {A V : Nat → Nat → Int32} {K : Nat → Option Nat} {T : am_H} {v : Option Int32} {h' : am_H} {v3 : Int32} (k0 :
    ¬ ((v3 + 1) < 0 ∨ L ≤ (v3 + 1).toNatClampNeg) ∧ (
    ¬ ((v3 + 2) < 0 ∨ L ≤ (v3 + 2).toNatClampNeg) ∧ (
    am_fin [(z_L_moved, 0, [.ref 1, .int (xs (v3 + 1).toNatClampNeg), .int (xs (v3 + 2).toNatClampNeg)], []), (z_W_law, 2200, [.ref 0, .ref 1, .ref 36, .int v3], [])] (hp L xs A V K T) v h'))) : am_fin [(z_W_law, 2186, [.ref 0, .ref 1, .ref 36, .int v3], [])] (hp L xs A V K T) v h' :=
  fn_aload_n rl_W_law_2186 rfl (fn_aload_n rl_W_law_2187 rfl (fn_iload_n rl_W_law_2188 rfl (fn_iconst rl_W_law_2189 (fn_iadd rl_W_law_2190 (fn_iald rl_W_law_2191 hp_0 (fun k354 => fn_aload_n rl_W_law_2192 rfl (fn_iload_n rl_W_law_2193 rfl (fn_iconst rl_W_law_2194 (fn_iadd rl_W_law_2195 (fn_iald rl_W_law_2196 hp_0 (fun k353 => fn_virt (as := [.ref 1, .int (xs (v3 + 1).toNatClampNeg), .int (xs (v3 + 2).toNatClampNeg)]) (r := []) (ls' := [.ref 1, .int (xs (v3 + 1).toNatClampNeg), .int (xs (v3 + 2).toNatClampNeg)]) rl_W_law_2197 rfl hp_1 rfl rfl pl_L_moved rfl rfl (k353)) k354))))) k0)))))
set_option maxRecDepth 100000 in
set_option maxHeartbeats 4000000 in
theorem sg_W_law_2200r {L : Nat} {xs : Nat → Int32} {A V : Nat → Nat → Int32} {K : Nat → Option Nat} {T : am_H} {v : Option Int32} {h' : am_H} {v3 r : Int32} (k0 :
    ¬ ((v3 + 1) < 0 ∨ L ≤ (v3 + 1).toNatClampNeg) ∧ (
    ¬ ((v3 + 2) < 0 ∨ L ≤ (v3 + 2).toNatClampNeg) ∧ (
    am_fin [(z_M_moved, 0, [.ref 36, .int (xs (v3 + 1).toNatClampNeg), .int (xs (v3 + 2).toNatClampNeg)], []), (z_W_law, 2214, [.ref 0, .ref 1, .ref 36, .int v3], [.int r])] (hp L xs A V K T) v h'))) : am_fin [(z_W_law, 2200, [.ref 0, .ref 1, .ref 36, .int v3], [.int r])] (hp L xs A V K T) v h' :=
  fn_aload_n rl_W_law_2200 rfl (fn_aload_n rl_W_law_2201 rfl (fn_iload_n rl_W_law_2202 rfl (fn_iconst rl_W_law_2203 (fn_iadd rl_W_law_2204 (fn_iald rl_W_law_2205 hp_0 (fun k356 => fn_aload_n rl_W_law_2206 rfl (fn_iload_n rl_W_law_2207 rfl (fn_iconst rl_W_law_2208 (fn_iadd rl_W_law_2209 (fn_iald rl_W_law_2210 hp_0 (fun k355 => fn_virt (as := [.ref 36, .int (xs (v3 + 1).toNatClampNeg), .int (xs (v3 + 2).toNatClampNeg)]) (r := [.int r]) (ls' := [.ref 36, .int (xs (v3 + 1).toNatClampNeg), .int (xs (v3 + 2).toNatClampNeg)]) rl_W_law_2211 rfl hp_36 rfl rfl pl_M_moved rfl rfl (k355)) k356))))) k0)))))
set_option maxRecDepth 100000 in
set_option maxHeartbeats 4000000 in
theorem sg_W_law_2214r {L : Nat} {xs : Nat → Int32} {A V : Nat → Nat → Int32} {K : Nat → Option Nat} {T : am_H} {v : Option Int32} {h' : am_H} {v3 r s : Int32} (k0 :
    if r = s then (
      am_fin [(z_W_law, 18, [.ref 0, .ref 1, .ref 36, .int (v3 + 6)], [])] (hp L xs A V K T) v h')
    else (
      v = some 0 ∧ h' = hp L xs A V K T)) : am_fin [(z_W_law, 2214, [.ref 0, .ref 1, .ref 36, .int v3], [.int s, .int r])] (hp L xs A V K T) v h' :=
  fn_icmp_eq rl_W_law_2214 (fun k357 => fn_iinc (ls' := [.ref 0, .ref 1, .ref 36, .int (v3 + 6)]) rl_W_law_2473 rfl rfl rfl (fn_goto rl_W_law_2476 (k357))) (fun k358 => fn_iconst rl_W_law_2217 (fn_reti rl_W_law_2218 rfl k358)) k0
set_option maxRecDepth 100000 in
set_option maxHeartbeats 4000000 in
theorem sg_W_law_2219 {L : Nat} {xs : Nat → Int32} {A V : Nat → Nat → Int32} {K : Nat → Option Nat} {T : am_H} {v : Option Int32} {h' : am_H} {v3 : Int32} (k0 :
    ¬ ((v3 + 1) < 0 ∨ L ≤ (v3 + 1).toNatClampNeg) ∧ (
    ¬ ((v3 + 2) < 0 ∨ L ≤ (v3 + 2).toNatClampNeg) ∧ (
    am_fin [(z_L_loose, 0, [.ref 1, .int (xs (v3 + 1).toNatClampNeg), .int (xs (v3 + 2).toNatClampNeg), .null, .null, .null, .null], []), (z_W_law, 2233, [.ref 0, .ref 1, .ref 36, .int v3], [])] (hp L xs A V K T) v h'))) : am_fin [(z_W_law, 2219, [.ref 0, .ref 1, .ref 36, .int v3], [])] (hp L xs A V K T) v h' :=
  fn_aload_n rl_W_law_2219 rfl (fn_aload_n rl_W_law_2220 rfl (fn_iload_n rl_W_law_2221 rfl (fn_iconst rl_W_law_2222 (fn_iadd rl_W_law_2223 (fn_iald rl_W_law_2224 hp_0 (fun k360 => fn_aload_n rl_W_law_2225 rfl (fn_iload_n rl_W_law_2226 rfl (fn_iconst rl_W_law_2227 (fn_iadd rl_W_law_2228 (fn_iald rl_W_law_2229 hp_0 (fun k359 => fn_virt (as := [.ref 1, .int (xs (v3 + 1).toNatClampNeg), .int (xs (v3 + 2).toNatClampNeg)]) (r := []) (ls' := [.ref 1, .int (xs (v3 + 1).toNatClampNeg), .int (xs (v3 + 2).toNatClampNeg), .null, .null, .null, .null]) rl_W_law_2230 rfl hp_1 rfl rfl pl_L_loose rfl rfl (k359)) k360))))) k0)))))
set_option maxRecDepth 100000 in
set_option maxHeartbeats 4000000 in
theorem sg_W_law_2233r {L : Nat} {xs : Nat → Int32} {A V : Nat → Nat → Int32} {K : Nat → Option Nat} {T : am_H} {v : Option Int32} {h' : am_H} {v3 r : Int32} (k0 :
    ¬ ((v3 + 1) < 0 ∨ L ≤ (v3 + 1).toNatClampNeg) ∧ (
    ¬ ((v3 + 2) < 0 ∨ L ≤ (v3 + 2).toNatClampNeg) ∧ (
    am_fin [(z_M_loose, 0, [.ref 36, .int (xs (v3 + 1).toNatClampNeg), .int (xs (v3 + 2).toNatClampNeg), .null, .null, .null, .null, .null], []), (z_W_law, 2247, [.ref 0, .ref 1, .ref 36, .int v3], [.int r])] (hp L xs A V K T) v h'))) : am_fin [(z_W_law, 2233, [.ref 0, .ref 1, .ref 36, .int v3], [.int r])] (hp L xs A V K T) v h' :=
  fn_aload_n rl_W_law_2233 rfl (fn_aload_n rl_W_law_2234 rfl (fn_iload_n rl_W_law_2235 rfl (fn_iconst rl_W_law_2236 (fn_iadd rl_W_law_2237 (fn_iald rl_W_law_2238 hp_0 (fun k362 => fn_aload_n rl_W_law_2239 rfl (fn_iload_n rl_W_law_2240 rfl (fn_iconst rl_W_law_2241 (fn_iadd rl_W_law_2242 (fn_iald rl_W_law_2243 hp_0 (fun k361 => fn_virt (as := [.ref 36, .int (xs (v3 + 1).toNatClampNeg), .int (xs (v3 + 2).toNatClampNeg)]) (r := [.int r]) (ls' := [.ref 36, .int (xs (v3 + 1).toNatClampNeg), .int (xs (v3 + 2).toNatClampNeg), .null, .null, .null, .null, .null]) rl_W_law_2244 rfl hp_36 rfl rfl pl_M_loose rfl rfl (k361)) k362))))) k0)))))
set_option maxRecDepth 100000 in
set_option maxHeartbeats 4000000 in
theorem sg_W_law_2247r {L : Nat} {xs : Nat → Int32} {A V : Nat → Nat → Int32} {K : Nat → Option Nat} {T : am_H} {v : Option Int32} {h' : am_H} {v3 r s : Int32} (k0 :
    if r = s then (
      am_fin [(z_W_law, 18, [.ref 0, .ref 1, .ref 36, .int (v3 + 6)], [])] (hp L xs A V K T) v h')
    else (
      v = some 0 ∧ h' = hp L xs A V K T)) : am_fin [(z_W_law, 2247, [.ref 0, .ref 1, .ref 36, .int v3], [.int s, .int r])] (hp L xs A V K T) v h' :=
  fn_icmp_eq rl_W_law_2247 (fun k363 => fn_iinc (ls' := [.ref 0, .ref 1, .ref 36, .int (v3 + 6)]) rl_W_law_2473 rfl rfl rfl (fn_goto rl_W_law_2476 (k363))) (fun k364 => fn_iconst rl_W_law_2250 (fn_reti rl_W_law_2251 rfl k364)) k0
set_option maxRecDepth 100000 in
set_option maxHeartbeats 4000000 in
theorem sg_W_law_2252 {L : Nat} {xs : Nat → Int32} {A V : Nat → Nat → Int32} {K : Nat → Option Nat} {T : am_H} {v : Option Int32} {h' : am_H} {v3 : Int32} (k0 :
    ¬ ((v3 + 1) < 0 ∨ L ≤ (v3 + 1).toNatClampNeg) ∧ (
    ¬ ((v3 + 2) < 0 ∨ L ≤ (v3 + 2).toNatClampNeg) ∧ (
    am_fin [(z_L_nearest, 0, [.ref 1, .int (xs (v3 + 1).toNatClampNeg), .int (xs (v3 + 2).toNatClampNeg), .null, .null, .null, .null], []), (z_W_law, 2266, [.ref 0, .ref 1, .ref 36, .int v3], [])] (hp L xs A V K T) v h'))) : am_fin [(z_W_law, 2252, [.ref 0, .ref 1, .ref 36, .int v3], [])] (hp L xs A V K T) v h' :=
  fn_aload_n rl_W_law_2252 rfl (fn_aload_n rl_W_law_2253 rfl (fn_iload_n rl_W_law_2254 rfl (fn_iconst rl_W_law_2255 (fn_iadd rl_W_law_2256 (fn_iald rl_W_law_2257 hp_0 (fun k366 => fn_aload_n rl_W_law_2258 rfl (fn_iload_n rl_W_law_2259 rfl (fn_iconst rl_W_law_2260 (fn_iadd rl_W_law_2261 (fn_iald rl_W_law_2262 hp_0 (fun k365 => fn_virt (as := [.ref 1, .int (xs (v3 + 1).toNatClampNeg), .int (xs (v3 + 2).toNatClampNeg)]) (r := []) (ls' := [.ref 1, .int (xs (v3 + 1).toNatClampNeg), .int (xs (v3 + 2).toNatClampNeg), .null, .null, .null, .null]) rl_W_law_2263 rfl hp_1 rfl rfl pl_L_nearest rfl rfl (k365)) k366))))) k0)))))
set_option maxRecDepth 100000 in
set_option maxHeartbeats 4000000 in
theorem sg_W_law_2266r {L : Nat} {xs : Nat → Int32} {A V : Nat → Nat → Int32} {K : Nat → Option Nat} {T : am_H} {v : Option Int32} {h' : am_H} {v3 r : Int32} (k0 :
    ¬ ((v3 + 1) < 0 ∨ L ≤ (v3 + 1).toNatClampNeg) ∧ (
    ¬ ((v3 + 2) < 0 ∨ L ≤ (v3 + 2).toNatClampNeg) ∧ (
    am_fin [(z_M_nearest, 0, [.ref 36, .int (xs (v3 + 1).toNatClampNeg), .int (xs (v3 + 2).toNatClampNeg), .null, .null, .null, .null], []), (z_W_law, 2280, [.ref 0, .ref 1, .ref 36, .int v3], [.int r])] (hp L xs A V K T) v h'))) : am_fin [(z_W_law, 2266, [.ref 0, .ref 1, .ref 36, .int v3], [.int r])] (hp L xs A V K T) v h' :=
  fn_aload_n rl_W_law_2266 rfl (fn_aload_n rl_W_law_2267 rfl (fn_iload_n rl_W_law_2268 rfl (fn_iconst rl_W_law_2269 (fn_iadd rl_W_law_2270 (fn_iald rl_W_law_2271 hp_0 (fun k368 => fn_aload_n rl_W_law_2272 rfl (fn_iload_n rl_W_law_2273 rfl (fn_iconst rl_W_law_2274 (fn_iadd rl_W_law_2275 (fn_iald rl_W_law_2276 hp_0 (fun k367 => fn_virt (as := [.ref 36, .int (xs (v3 + 1).toNatClampNeg), .int (xs (v3 + 2).toNatClampNeg)]) (r := [.int r]) (ls' := [.ref 36, .int (xs (v3 + 1).toNatClampNeg), .int (xs (v3 + 2).toNatClampNeg), .null, .null, .null, .null]) rl_W_law_2277 rfl hp_36 rfl rfl pl_M_nearest rfl rfl (k367)) k368))))) k0)))))
set_option maxRecDepth 100000 in
set_option maxHeartbeats 4000000 in
theorem sg_W_law_2280r {L : Nat} {xs : Nat → Int32} {A V : Nat → Nat → Int32} {K : Nat → Option Nat} {T : am_H} {v : Option Int32} {h' : am_H} {v3 r s : Int32} (k0 :
    if r = s then (
      am_fin [(z_W_law, 18, [.ref 0, .ref 1, .ref 36, .int (v3 + 6)], [])] (hp L xs A V K T) v h')
    else (
      v = some 0 ∧ h' = hp L xs A V K T)) : am_fin [(z_W_law, 2280, [.ref 0, .ref 1, .ref 36, .int v3], [.int s, .int r])] (hp L xs A V K T) v h' :=
  fn_icmp_eq rl_W_law_2280 (fun k369 => fn_iinc (ls' := [.ref 0, .ref 1, .ref 36, .int (v3 + 6)]) rl_W_law_2473 rfl rfl rfl (fn_goto rl_W_law_2476 (k369))) (fun k370 => fn_iconst rl_W_law_2283 (fn_reti rl_W_law_2284 rfl k370)) k0
set_option maxRecDepth 100000 in
set_option maxHeartbeats 4000000 in
theorem sg_W_law_2285 {L : Nat} {xs : Nat → Int32} {A V : Nat → Nat → Int32} {K : Nat → Option Nat} {T : am_H} {v : Option Int32} {h' : am_H} {v3 : Int32} (k0 :
    ¬ ((v3 + 1) < 0 ∨ L ≤ (v3 + 1).toNatClampNeg) ∧ (
    ¬ ((v3 + 2) < 0 ∨ L ≤ (v3 + 2).toNatClampNeg) ∧ (
    ¬ ((v3 + 3) < 0 ∨ L ≤ (v3 + 3).toNatClampNeg) ∧ (
    ¬ ((v3 + 4) < 0 ∨ L ≤ (v3 + 4).toNatClampNeg) ∧ (
    ¬ ((v3 + 5) < 0 ∨ L ≤ (v3 + 5).toNatClampNeg) ∧ (
    am_fin [(z_L_instead, 0, [.ref 1, .int (xs (v3 + 1).toNatClampNeg), .int (xs (v3 + 2).toNatClampNeg), .int (xs (v3 + 3).toNatClampNeg), .int (xs (v3 + 4).toNatClampNeg), .int (xs (v3 + 5).toNatClampNeg), .null], []), (z_W_law, 2314, [.ref 0, .ref 1, .ref 36, .int v3], [])] (hp L xs A V K T) v h')))))) : am_fin [(z_W_law, 2285, [.ref 0, .ref 1, .ref 36, .int v3], [])] (hp L xs A V K T) v h' :=
  fn_aload_n rl_W_law_2285 rfl (fn_aload_n rl_W_law_2286 rfl (fn_iload_n rl_W_law_2287 rfl (fn_iconst rl_W_law_2288 (fn_iadd rl_W_law_2289 (fn_iald rl_W_law_2290 hp_0 (fun k375 => fn_aload_n rl_W_law_2291 rfl (fn_iload_n rl_W_law_2292 rfl (fn_iconst rl_W_law_2293 (fn_iadd rl_W_law_2294 (fn_iald rl_W_law_2295 hp_0 (fun k374 => fn_aload_n rl_W_law_2296 rfl (fn_iload_n rl_W_law_2297 rfl (fn_iconst rl_W_law_2298 (fn_iadd rl_W_law_2299 (fn_iald rl_W_law_2300 hp_0 (fun k373 => fn_aload_n rl_W_law_2301 rfl (fn_iload_n rl_W_law_2302 rfl (fn_iconst rl_W_law_2303 (fn_iadd rl_W_law_2304 (fn_iald rl_W_law_2305 hp_0 (fun k372 => fn_aload_n rl_W_law_2306 rfl (fn_iload_n rl_W_law_2307 rfl (fn_iconst rl_W_law_2308 (fn_iadd rl_W_law_2309 (fn_iald rl_W_law_2310 hp_0 (fun k371 => fn_virt (as := [.ref 1, .int (xs (v3 + 1).toNatClampNeg), .int (xs (v3 + 2).toNatClampNeg), .int (xs (v3 + 3).toNatClampNeg), .int (xs (v3 + 4).toNatClampNeg), .int (xs (v3 + 5).toNatClampNeg)]) (r := []) (ls' := [.ref 1, .int (xs (v3 + 1).toNatClampNeg), .int (xs (v3 + 2).toNatClampNeg), .int (xs (v3 + 3).toNatClampNeg), .int (xs (v3 + 4).toNatClampNeg), .int (xs (v3 + 5).toNatClampNeg), .null]) rl_W_law_2311 rfl hp_1 rfl rfl pl_L_instead rfl rfl (k371)) k372))))) k373))))) k374))))) k375))))) k0)))))
set_option maxRecDepth 100000 in
set_option maxHeartbeats 4000000 in
theorem sg_W_law_2314r {L : Nat} {xs : Nat → Int32} {A V : Nat → Nat → Int32} {K : Nat → Option Nat} {T : am_H} {v : Option Int32} {h' : am_H} {v3 r : Int32} (k0 :
    ¬ ((v3 + 1) < 0 ∨ L ≤ (v3 + 1).toNatClampNeg) ∧ (
    ¬ ((v3 + 2) < 0 ∨ L ≤ (v3 + 2).toNatClampNeg) ∧ (
    ¬ ((v3 + 3) < 0 ∨ L ≤ (v3 + 3).toNatClampNeg) ∧ (
    ¬ ((v3 + 4) < 0 ∨ L ≤ (v3 + 4).toNatClampNeg) ∧ (
    ¬ ((v3 + 5) < 0 ∨ L ≤ (v3 + 5).toNatClampNeg) ∧ (
    am_fin [(z_M_instead, 0, [.ref 36, .int (xs (v3 + 1).toNatClampNeg), .int (xs (v3 + 2).toNatClampNeg), .int (xs (v3 + 3).toNatClampNeg), .int (xs (v3 + 4).toNatClampNeg), .int (xs (v3 + 5).toNatClampNeg), .null], []), (z_W_law, 2343, [.ref 0, .ref 1, .ref 36, .int v3], [.int r])] (hp L xs A V K T) v h')))))) : am_fin [(z_W_law, 2314, [.ref 0, .ref 1, .ref 36, .int v3], [.int r])] (hp L xs A V K T) v h' :=
  fn_aload_n rl_W_law_2314 rfl (fn_aload_n rl_W_law_2315 rfl (fn_iload_n rl_W_law_2316 rfl (fn_iconst rl_W_law_2317 (fn_iadd rl_W_law_2318 (fn_iald rl_W_law_2319 hp_0 (fun k380 => fn_aload_n rl_W_law_2320 rfl (fn_iload_n rl_W_law_2321 rfl (fn_iconst rl_W_law_2322 (fn_iadd rl_W_law_2323 (fn_iald rl_W_law_2324 hp_0 (fun k379 => fn_aload_n rl_W_law_2325 rfl (fn_iload_n rl_W_law_2326 rfl (fn_iconst rl_W_law_2327 (fn_iadd rl_W_law_2328 (fn_iald rl_W_law_2329 hp_0 (fun k378 => fn_aload_n rl_W_law_2330 rfl (fn_iload_n rl_W_law_2331 rfl (fn_iconst rl_W_law_2332 (fn_iadd rl_W_law_2333 (fn_iald rl_W_law_2334 hp_0 (fun k377 => fn_aload_n rl_W_law_2335 rfl (fn_iload_n rl_W_law_2336 rfl (fn_iconst rl_W_law_2337 (fn_iadd rl_W_law_2338 (fn_iald rl_W_law_2339 hp_0 (fun k376 => fn_virt (as := [.ref 36, .int (xs (v3 + 1).toNatClampNeg), .int (xs (v3 + 2).toNatClampNeg), .int (xs (v3 + 3).toNatClampNeg), .int (xs (v3 + 4).toNatClampNeg), .int (xs (v3 + 5).toNatClampNeg)]) (r := [.int r]) (ls' := [.ref 36, .int (xs (v3 + 1).toNatClampNeg), .int (xs (v3 + 2).toNatClampNeg), .int (xs (v3 + 3).toNatClampNeg), .int (xs (v3 + 4).toNatClampNeg), .int (xs (v3 + 5).toNatClampNeg), .null]) rl_W_law_2340 rfl hp_36 rfl rfl pl_M_instead rfl rfl (k376)) k377))))) k378))))) k379))))) k380))))) k0)))))
set_option maxRecDepth 100000 in
set_option maxHeartbeats 4000000 in
theorem sg_W_law_2343r {L : Nat} {xs : Nat → Int32} {A V : Nat → Nat → Int32} {K : Nat → Option Nat} {T : am_H} {v : Option Int32} {h' : am_H} {v3 r s : Int32} (k0 :
    if r = s then (
      am_fin [(z_W_law, 18, [.ref 0, .ref 1, .ref 36, .int (v3 + 6)], [])] (hp L xs A V K T) v h')
    else (
      v = some 0 ∧ h' = hp L xs A V K T)) : am_fin [(z_W_law, 2343, [.ref 0, .ref 1, .ref 36, .int v3], [.int s, .int r])] (hp L xs A V K T) v h' :=
  fn_icmp_eq rl_W_law_2343 (fun k381 => fn_iinc (ls' := [.ref 0, .ref 1, .ref 36, .int (v3 + 6)]) rl_W_law_2473 rfl rfl rfl (fn_goto rl_W_law_2476 (k381))) (fun k382 => fn_iconst rl_W_law_2346 (fn_reti rl_W_law_2347 rfl k382)) k0
set_option maxRecDepth 100000 in
set_option maxHeartbeats 4000000 in
theorem sg_W_law_2348 {L : Nat} {xs : Nat → Int32} {A V : Nat → Nat → Int32} {K : Nat → Option Nat} {T : am_H} {v : Option Int32} {h' : am_H} {v3 : Int32} (k0 :
    ¬ ((v3 + 1) < 0 ∨ L ≤ (v3 + 1).toNatClampNeg) ∧ (
    ¬ ((v3 + 2) < 0 ∨ L ≤ (v3 + 2).toNatClampNeg) ∧ (
    am_fin [(z_L_trip, 0, [.ref 1, .int (xs (v3 + 1).toNatClampNeg), .int (xs (v3 + 2).toNatClampNeg), .null], []), (z_W_law, 2362, [.ref 0, .ref 1, .ref 36, .int v3], [])] (hp L xs A V K T) v h'))) : am_fin [(z_W_law, 2348, [.ref 0, .ref 1, .ref 36, .int v3], [])] (hp L xs A V K T) v h' :=
  fn_aload_n rl_W_law_2348 rfl (fn_aload_n rl_W_law_2349 rfl (fn_iload_n rl_W_law_2350 rfl (fn_iconst rl_W_law_2351 (fn_iadd rl_W_law_2352 (fn_iald rl_W_law_2353 hp_0 (fun k384 => fn_aload_n rl_W_law_2354 rfl (fn_iload_n rl_W_law_2355 rfl (fn_iconst rl_W_law_2356 (fn_iadd rl_W_law_2357 (fn_iald rl_W_law_2358 hp_0 (fun k383 => fn_virt (as := [.ref 1, .int (xs (v3 + 1).toNatClampNeg), .int (xs (v3 + 2).toNatClampNeg)]) (r := []) (ls' := [.ref 1, .int (xs (v3 + 1).toNatClampNeg), .int (xs (v3 + 2).toNatClampNeg), .null]) rl_W_law_2359 rfl hp_1 rfl rfl pl_L_trip rfl rfl (k383)) k384))))) k0)))))
set_option maxRecDepth 100000 in
set_option maxHeartbeats 4000000 in
theorem sg_W_law_2362r {L : Nat} {xs : Nat → Int32} {A V : Nat → Nat → Int32} {K : Nat → Option Nat} {T : am_H} {v : Option Int32} {h' : am_H} {v3 r : Int32} (k0 :
    ¬ ((v3 + 1) < 0 ∨ L ≤ (v3 + 1).toNatClampNeg) ∧ (
    ¬ ((v3 + 2) < 0 ∨ L ≤ (v3 + 2).toNatClampNeg) ∧ (
    am_fin [(z_M_trip, 0, [.ref 36, .int (xs (v3 + 1).toNatClampNeg), .int (xs (v3 + 2).toNatClampNeg), .null, .null], []), (z_W_law, 2376, [.ref 0, .ref 1, .ref 36, .int v3], [.int r])] (hp L xs A V K T) v h'))) : am_fin [(z_W_law, 2362, [.ref 0, .ref 1, .ref 36, .int v3], [.int r])] (hp L xs A V K T) v h' :=
  fn_aload_n rl_W_law_2362 rfl (fn_aload_n rl_W_law_2363 rfl (fn_iload_n rl_W_law_2364 rfl (fn_iconst rl_W_law_2365 (fn_iadd rl_W_law_2366 (fn_iald rl_W_law_2367 hp_0 (fun k386 => fn_aload_n rl_W_law_2368 rfl (fn_iload_n rl_W_law_2369 rfl (fn_iconst rl_W_law_2370 (fn_iadd rl_W_law_2371 (fn_iald rl_W_law_2372 hp_0 (fun k385 => fn_virt (as := [.ref 36, .int (xs (v3 + 1).toNatClampNeg), .int (xs (v3 + 2).toNatClampNeg)]) (r := [.int r]) (ls' := [.ref 36, .int (xs (v3 + 1).toNatClampNeg), .int (xs (v3 + 2).toNatClampNeg), .null, .null]) rl_W_law_2373 rfl hp_36 rfl rfl pl_M_trip rfl rfl (k385)) k386))))) k0)))))
set_option maxRecDepth 100000 in
set_option maxHeartbeats 4000000 in
theorem sg_W_law_2376r {L : Nat} {xs : Nat → Int32} {A V : Nat → Nat → Int32} {K : Nat → Option Nat} {T : am_H} {v : Option Int32} {h' : am_H} {v3 r s : Int32} (k0 :
    if r = s then (
      am_fin [(z_W_law, 18, [.ref 0, .ref 1, .ref 36, .int (v3 + 6)], [])] (hp L xs A V K T) v h')
    else (
      v = some 0 ∧ h' = hp L xs A V K T)) : am_fin [(z_W_law, 2376, [.ref 0, .ref 1, .ref 36, .int v3], [.int s, .int r])] (hp L xs A V K T) v h' :=
  fn_icmp_eq rl_W_law_2376 (fun k387 => fn_iinc (ls' := [.ref 0, .ref 1, .ref 36, .int (v3 + 6)]) rl_W_law_2473 rfl rfl rfl (fn_goto rl_W_law_2476 (k387))) (fun k388 => fn_iconst rl_W_law_2379 (fn_reti rl_W_law_2380 rfl k388)) k0
set_option maxRecDepth 100000 in
set_option maxHeartbeats 4000000 in
theorem sg_W_law_2381 {L : Nat} {xs : Nat → Int32} {A V : Nat → Nat → Int32} {K : Nat → Option Nat} {T : am_H} {v : Option Int32} {h' : am_H} {v3 : Int32} (k0 :
    ¬ ((v3 + 1) < 0 ∨ L ≤ (v3 + 1).toNatClampNeg) ∧ (
    ¬ ((v3 + 2) < 0 ∨ L ≤ (v3 + 2).toNatClampNeg) ∧ (
    ¬ ((v3 + 3) < 0 ∨ L ≤ (v3 + 3).toNatClampNeg) ∧ (
    am_fin [(z_L_cheapest, 0, [.ref 1, .int (xs (v3 + 1).toNatClampNeg), .int (xs (v3 + 2).toNatClampNeg), .int (xs (v3 + 3).toNatClampNeg), .null, .null, .null, .null], []), (z_W_law, 2400, [.ref 0, .ref 1, .ref 36, .int v3], [])] (hp L xs A V K T) v h')))) : am_fin [(z_W_law, 2381, [.ref 0, .ref 1, .ref 36, .int v3], [])] (hp L xs A V K T) v h' :=
  fn_aload_n rl_W_law_2381 rfl (fn_aload_n rl_W_law_2382 rfl (fn_iload_n rl_W_law_2383 rfl (fn_iconst rl_W_law_2384 (fn_iadd rl_W_law_2385 (fn_iald rl_W_law_2386 hp_0 (fun k391 => fn_aload_n rl_W_law_2387 rfl (fn_iload_n rl_W_law_2388 rfl (fn_iconst rl_W_law_2389 (fn_iadd rl_W_law_2390 (fn_iald rl_W_law_2391 hp_0 (fun k390 => fn_aload_n rl_W_law_2392 rfl (fn_iload_n rl_W_law_2393 rfl (fn_iconst rl_W_law_2394 (fn_iadd rl_W_law_2395 (fn_iald rl_W_law_2396 hp_0 (fun k389 => fn_virt (as := [.ref 1, .int (xs (v3 + 1).toNatClampNeg), .int (xs (v3 + 2).toNatClampNeg), .int (xs (v3 + 3).toNatClampNeg)]) (r := []) (ls' := [.ref 1, .int (xs (v3 + 1).toNatClampNeg), .int (xs (v3 + 2).toNatClampNeg), .int (xs (v3 + 3).toNatClampNeg), .null, .null, .null, .null]) rl_W_law_2397 rfl hp_1 rfl rfl pl_L_cheapest rfl rfl (k389)) k390))))) k391))))) k0)))))
set_option maxRecDepth 100000 in
set_option maxHeartbeats 4000000 in
theorem sg_W_law_2400r {L : Nat} {xs : Nat → Int32} {A V : Nat → Nat → Int32} {K : Nat → Option Nat} {T : am_H} {v : Option Int32} {h' : am_H} {v3 r : Int32} (k0 :
    ¬ ((v3 + 1) < 0 ∨ L ≤ (v3 + 1).toNatClampNeg) ∧ (
    ¬ ((v3 + 2) < 0 ∨ L ≤ (v3 + 2).toNatClampNeg) ∧ (
    ¬ ((v3 + 3) < 0 ∨ L ≤ (v3 + 3).toNatClampNeg) ∧ (
    am_fin [(z_M_cheapest, 0, [.ref 36, .int (xs (v3 + 1).toNatClampNeg), .int (xs (v3 + 2).toNatClampNeg), .int (xs (v3 + 3).toNatClampNeg), .null, .null, .null, .null], []), (z_W_law, 2419, [.ref 0, .ref 1, .ref 36, .int v3], [.int r])] (hp L xs A V K T) v h')))) : am_fin [(z_W_law, 2400, [.ref 0, .ref 1, .ref 36, .int v3], [.int r])] (hp L xs A V K T) v h' :=
  fn_aload_n rl_W_law_2400 rfl (fn_aload_n rl_W_law_2401 rfl (fn_iload_n rl_W_law_2402 rfl (fn_iconst rl_W_law_2403 (fn_iadd rl_W_law_2404 (fn_iald rl_W_law_2405 hp_0 (fun k394 => fn_aload_n rl_W_law_2406 rfl (fn_iload_n rl_W_law_2407 rfl (fn_iconst rl_W_law_2408 (fn_iadd rl_W_law_2409 (fn_iald rl_W_law_2410 hp_0 (fun k393 => fn_aload_n rl_W_law_2411 rfl (fn_iload_n rl_W_law_2412 rfl (fn_iconst rl_W_law_2413 (fn_iadd rl_W_law_2414 (fn_iald rl_W_law_2415 hp_0 (fun k392 => fn_virt (as := [.ref 36, .int (xs (v3 + 1).toNatClampNeg), .int (xs (v3 + 2).toNatClampNeg), .int (xs (v3 + 3).toNatClampNeg)]) (r := [.int r]) (ls' := [.ref 36, .int (xs (v3 + 1).toNatClampNeg), .int (xs (v3 + 2).toNatClampNeg), .int (xs (v3 + 3).toNatClampNeg), .null, .null, .null, .null]) rl_W_law_2416 rfl hp_36 rfl rfl pl_M_cheapest rfl rfl (k392)) k393))))) k394))))) k0)))))
set_option maxRecDepth 100000 in
set_option maxHeartbeats 4000000 in
theorem sg_W_law_2419r {L : Nat} {xs : Nat → Int32} {A V : Nat → Nat → Int32} {K : Nat → Option Nat} {T : am_H} {v : Option Int32} {h' : am_H} {v3 r s : Int32} (k0 :
    if r = s then (
      am_fin [(z_W_law, 18, [.ref 0, .ref 1, .ref 36, .int (v3 + 6)], [])] (hp L xs A V K T) v h')
    else (
      v = some 0 ∧ h' = hp L xs A V K T)) : am_fin [(z_W_law, 2419, [.ref 0, .ref 1, .ref 36, .int v3], [.int s, .int r])] (hp L xs A V K T) v h' :=
  fn_icmp_eq rl_W_law_2419 (fun k395 => fn_iinc (ls' := [.ref 0, .ref 1, .ref 36, .int (v3 + 6)]) rl_W_law_2473 rfl rfl rfl (fn_goto rl_W_law_2476 (k395))) (fun k396 => fn_iconst rl_W_law_2422 (fn_reti rl_W_law_2423 rfl k396)) k0
set_option maxRecDepth 100000 in
set_option maxHeartbeats 4000000 in
theorem sg_W_law_2424 {L : Nat} {xs : Nat → Int32} {A V : Nat → Nat → Int32} {K : Nat → Option Nat} {T : am_H} {v : Option Int32} {h' : am_H} {v3 : Int32} (k0 :
    ¬ ((v3 + 1) < 0 ∨ L ≤ (v3 + 1).toNatClampNeg) ∧ (
    am_fin [(z_L_count, 0, [.ref 1, .int (xs (v3 + 1).toNatClampNeg)], []), (z_W_law, 2433, [.ref 0, .ref 1, .ref 36, .int v3], [])] (hp L xs A V K T) v h')) : am_fin [(z_W_law, 2424, [.ref 0, .ref 1, .ref 36, .int v3], [])] (hp L xs A V K T) v h' :=
  fn_aload_n rl_W_law_2424 rfl (fn_aload_n rl_W_law_2425 rfl (fn_iload_n rl_W_law_2426 rfl (fn_iconst rl_W_law_2427 (fn_iadd rl_W_law_2428 (fn_iald rl_W_law_2429 hp_0 (fun k397 => fn_virt (as := [.ref 1, .int (xs (v3 + 1).toNatClampNeg)]) (r := []) (ls' := [.ref 1, .int (xs (v3 + 1).toNatClampNeg)]) rl_W_law_2430 rfl hp_1 rfl rfl pl_L_count rfl rfl (k397)) k0)))))
set_option maxRecDepth 100000 in
set_option maxHeartbeats 4000000 in
theorem sg_W_law_2433r {L : Nat} {xs : Nat → Int32} {A V : Nat → Nat → Int32} {K : Nat → Option Nat} {T : am_H} {v : Option Int32} {h' : am_H} {v3 r : Int32} (k0 :
    ¬ ((v3 + 1) < 0 ∨ L ≤ (v3 + 1).toNatClampNeg) ∧ (
    am_fin [(z_M_count, 0, [.ref 36, .int (xs (v3 + 1).toNatClampNeg), .null, .null], []), (z_W_law, 2442, [.ref 0, .ref 1, .ref 36, .int v3], [.int r])] (hp L xs A V K T) v h')) : am_fin [(z_W_law, 2433, [.ref 0, .ref 1, .ref 36, .int v3], [.int r])] (hp L xs A V K T) v h' :=
  fn_aload_n rl_W_law_2433 rfl (fn_aload_n rl_W_law_2434 rfl (fn_iload_n rl_W_law_2435 rfl (fn_iconst rl_W_law_2436 (fn_iadd rl_W_law_2437 (fn_iald rl_W_law_2438 hp_0 (fun k398 => fn_virt (as := [.ref 36, .int (xs (v3 + 1).toNatClampNeg)]) (r := [.int r]) (ls' := [.ref 36, .int (xs (v3 + 1).toNatClampNeg), .null, .null]) rl_W_law_2439 rfl hp_36 rfl rfl pl_M_count rfl rfl (k398)) k0)))))
set_option maxRecDepth 100000 in
set_option maxHeartbeats 4000000 in
theorem sg_W_law_2442r {L : Nat} {xs : Nat → Int32} {A V : Nat → Nat → Int32} {K : Nat → Option Nat} {T : am_H} {v : Option Int32} {h' : am_H} {v3 r s : Int32} (k0 :
    if r = s then (
      am_fin [(z_W_law, 18, [.ref 0, .ref 1, .ref 36, .int (v3 + 6)], [])] (hp L xs A V K T) v h')
    else (
      v = some 0 ∧ h' = hp L xs A V K T)) : am_fin [(z_W_law, 2442, [.ref 0, .ref 1, .ref 36, .int v3], [.int s, .int r])] (hp L xs A V K T) v h' :=
  fn_icmp_eq rl_W_law_2442 (fun k399 => fn_iinc (ls' := [.ref 0, .ref 1, .ref 36, .int (v3 + 6)]) rl_W_law_2473 rfl rfl rfl (fn_goto rl_W_law_2476 (k399))) (fun k400 => fn_iconst rl_W_law_2445 (fn_reti rl_W_law_2446 rfl k400)) k0
set_option maxRecDepth 100000 in
set_option maxHeartbeats 4000000 in
theorem sg_W_law_2447 {L : Nat} {xs : Nat → Int32} {A V : Nat → Nat → Int32} {K : Nat → Option Nat} {T : am_H} {v : Option Int32} {h' : am_H} {v3 : Int32} (k0 :
    am_fin [(z_L_keep, 0, [.ref 1], []), (z_W_law, 2451, [.ref 0, .ref 1, .ref 36, .int v3], [])] (hp L xs A V K T) v h') : am_fin [(z_W_law, 2447, [.ref 0, .ref 1, .ref 36, .int v3], [])] (hp L xs A V K T) v h' :=
  fn_aload_n rl_W_law_2447 rfl (fn_virt (as := [.ref 1]) (r := []) (ls' := [.ref 1]) rl_W_law_2448 rfl hp_1 rfl rfl pl_L_keep rfl rfl (k0))
set_option maxRecDepth 100000 in
set_option maxHeartbeats 4000000 in
theorem sg_W_law_2451r {L : Nat} {xs : Nat → Int32} {A V : Nat → Nat → Int32} {K : Nat → Option Nat} {T : am_H} {v : Option Int32} {h' : am_H} {v3 r : Int32} (k0 :
    am_fin [(z_M_keep, 0, [.ref 36, .null], []), (z_W_law, 2455, [.ref 0, .ref 1, .ref 36, .int v3], [.int r])] (hp L xs A V K T) v h') : am_fin [(z_W_law, 2451, [.ref 0, .ref 1, .ref 36, .int v3], [.int r])] (hp L xs A V K T) v h' :=
  fn_aload_n rl_W_law_2451 rfl (fn_virt (as := [.ref 36]) (r := [.int r]) (ls' := [.ref 36, .null]) rl_W_law_2452 rfl hp_36 rfl rfl pl_M_keep rfl rfl (k0))
set_option maxRecDepth 100000 in
set_option maxHeartbeats 4000000 in
theorem sg_W_law_2455r {L : Nat} {xs : Nat → Int32} {A V : Nat → Nat → Int32} {K : Nat → Option Nat} {T : am_H} {v : Option Int32} {h' : am_H} {v3 r s : Int32} (k0 :
    if r = s then (
      am_fin [(z_W_law, 18, [.ref 0, .ref 1, .ref 36, .int (v3 + 6)], [])] (hp L xs A V K T) v h')
    else (
      v = some 0 ∧ h' = hp L xs A V K T)) : am_fin [(z_W_law, 2455, [.ref 0, .ref 1, .ref 36, .int v3], [.int s, .int r])] (hp L xs A V K T) v h' :=
  fn_icmp_eq rl_W_law_2455 (fun k401 => fn_iinc (ls' := [.ref 0, .ref 1, .ref 36, .int (v3 + 6)]) rl_W_law_2473 rfl rfl rfl (fn_goto rl_W_law_2476 (k401))) (fun k402 => fn_iconst rl_W_law_2458 (fn_reti rl_W_law_2459 rfl k402)) k0
set_option maxRecDepth 100000 in
set_option maxHeartbeats 4000000 in
theorem sg_W_law_2460 {L : Nat} {xs : Nat → Int32} {A V : Nat → Nat → Int32} {K : Nat → Option Nat} {T : am_H} {v : Option Int32} {h' : am_H} {v3 : Int32} (k0 :
    am_fin [(z_L_undo, 0, [.ref 1], []), (z_W_law, 2464, [.ref 0, .ref 1, .ref 36, .int v3], [])] (hp L xs A V K T) v h') : am_fin [(z_W_law, 2460, [.ref 0, .ref 1, .ref 36, .int v3], [])] (hp L xs A V K T) v h' :=
  fn_aload_n rl_W_law_2460 rfl (fn_virt (as := [.ref 1]) (r := []) (ls' := [.ref 1]) rl_W_law_2461 rfl hp_1 rfl rfl pl_L_undo rfl rfl (k0))
set_option maxRecDepth 100000 in
set_option maxHeartbeats 4000000 in
theorem sg_W_law_2464r {L : Nat} {xs : Nat → Int32} {A V : Nat → Nat → Int32} {K : Nat → Option Nat} {T : am_H} {v : Option Int32} {h' : am_H} {v3 r : Int32} (k0 :
    am_fin [(z_M_undo, 0, [.ref 36, .null, .null], []), (z_W_law, 2468, [.ref 0, .ref 1, .ref 36, .int v3], [.int r])] (hp L xs A V K T) v h') : am_fin [(z_W_law, 2464, [.ref 0, .ref 1, .ref 36, .int v3], [.int r])] (hp L xs A V K T) v h' :=
  fn_aload_n rl_W_law_2464 rfl (fn_virt (as := [.ref 36]) (r := [.int r]) (ls' := [.ref 36, .null, .null]) rl_W_law_2465 rfl hp_36 rfl rfl pl_M_undo rfl rfl (k0))
set_option maxRecDepth 100000 in
set_option maxHeartbeats 4000000 in
theorem sg_W_law_2468r {L : Nat} {xs : Nat → Int32} {A V : Nat → Nat → Int32} {K : Nat → Option Nat} {T : am_H} {v : Option Int32} {h' : am_H} {v3 r s : Int32} (k0 :
    if r = s then (
      am_fin [(z_W_law, 18, [.ref 0, .ref 1, .ref 36, .int (v3 + 6)], [])] (hp L xs A V K T) v h')
    else (
      v = some 0 ∧ h' = hp L xs A V K T)) : am_fin [(z_W_law, 2468, [.ref 0, .ref 1, .ref 36, .int v3], [.int s, .int r])] (hp L xs A V K T) v h' :=
  fn_icmp_eq rl_W_law_2468 (fun k403 => fn_iinc (ls' := [.ref 0, .ref 1, .ref 36, .int (v3 + 6)]) rl_W_law_2473 rfl rfl rfl (fn_goto rl_W_law_2476 (k403))) (fun k404 => fn_iconst rl_W_law_2471 (fn_reti rl_W_law_2472 rfl k404)) k0
set_option maxRecDepth 100000 in
set_option maxHeartbeats 4000000 in
theorem sg_W_law_2473 {L : Nat} {xs : Nat → Int32} {A V : Nat → Nat → Int32} {K : Nat → Option Nat} {T : am_H} {v : Option Int32} {h' : am_H} {v3 : Int32} (k0 :
    am_fin [(z_W_law, 18, [.ref 0, .ref 1, .ref 36, .int (v3 + 6)], [])] (hp L xs A V K T) v h') : am_fin [(z_W_law, 2473, [.ref 0, .ref 1, .ref 36, .int v3], [])] (hp L xs A V K T) v h' :=
  fn_iinc (ls' := [.ref 0, .ref 1, .ref 36, .int (v3 + 6)]) rl_W_law_2473 rfl rfl rfl (fn_goto rl_W_law_2476 (k0))
