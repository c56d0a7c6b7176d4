/-! the law, step by step (printed by wip/whole/gen_law.py) -/
section
variable {rom : List (List Int32)} {K : Nat → List Value → ab_H → Option ab_O} {ls st : List Value} {hp : ab_H} {x y z : Int32} {a a2 : Nat} {sp dp : Int32} {u w : Int64} {v0 v1 v2 v3 v4 v5 v6 v7 v8 v9 v10 v11 v12 v13 v14 v15 w1 w2 w3 w4 w5 w6 : Value}
theorem dL_law_396 : decode cL_law 396 = .ok (.iconst 2, 1) := by decide +kernel
theorem sL_law_396 : ab_X rom K cL_law 12 2 396 ls st hp = ab_X rom K cL_law 12 2 397 ls (.int 2 :: st) hp := ax_iconst dL_law_396 (by decide) rfl
theorem dL_law_397 : decode cL_law 397 = .ok (.iadd, 1) := by decide +kernel
theorem sL_law_397 : ab_X rom K cL_law 12 2 397 ls (.int y :: .int x :: st) hp = ab_X rom K cL_law 12 2 398 ls (.int (x + y) :: st) hp := ax_iadd dL_law_397 rfl
theorem dL_law_398 : decode cL_law 398 = .ok (.iaload, 1) := by decide +kernel
theorem sL_law_398 : ab_X rom K cL_law 12 2 398 ls (.int x :: .ref a :: st) hp = (ab_ard rom 0 hp a x).bind (fun v => ab_X rom K cL_law 12 2 399 ls (.int v :: st) hp) := ax_iaload dL_law_398 rfl
theorem dL_law_399 : decode cL_law 399 = .ok (.aload_n 0, 1) := by decide +kernel
theorem sL_law_399 : ab_X rom K cL_law 12 2 399 (.ref a :: ls) st hp = ab_X rom K cL_law 12 2 400 (.ref a :: ls) (.ref a :: st) hp := ax_aload_n dL_law_399 rfl rfl
theorem dL_law_400 : decode cL_law 400 = .ok (.iload_n 3, 1) := by decide +kernel
theorem sL_law_400 : ab_X rom K cL_law 12 2 400 (v0 :: v1 :: v2 :: .int x :: ls) st hp = ab_X rom K cL_law 12 2 401 (v0 :: v1 :: v2 :: .int x :: ls) (.int x :: st) hp := ax_iload_n dL_law_400 rfl rfl
theorem dL_law_401 : decode cL_law 401 = .ok (.iconst 3, 1) := by decide +kernel
theorem sL_law_401 : ab_X rom K cL_law 12 2 401 ls st hp = ab_X rom K cL_law 12 2 402 ls (.int 3 :: st) hp := ax_iconst dL_law_401 (by decide) rfl
theorem dL_law_402 : decode cL_law 402 = .ok (.iadd, 1) := by decide +kernel
theorem sL_law_402 : ab_X rom K cL_law 12 2 402 ls (.int y :: .int x :: st) hp = ab_X rom K cL_law 12 2 403 ls (.int (x + y) :: st) hp := ax_iadd dL_law_402 rfl
theorem dL_law_403 : decode cL_law 403 = .ok (.iaload, 1) := by decide +kernel
theorem sL_law_403 : ab_X rom K cL_law 12 2 403 ls (.int x :: .ref a :: st) hp = (ab_ard rom 0 hp a x).bind (fun v => ab_X rom K cL_law 12 2 404 ls (.int v :: st) hp) := ax_iaload dL_law_403 rfl
theorem dL_law_404 : decode cL_law 404 = .ok (.invokevirtual 40, 3) := by decide +kernel
theorem sL_law_404_0 : ab_X rom K cL_law 12 2 404 ls [w3, w2, w1, .ref a] hp = if ab_iso hp a 6 = true then (K 105 (.ref a :: [w1, w2, w3]) hp).bind (fun o => ab_X rom K cL_law 12 2 407 ls (o.1.toList ++ []) o.2) else none := ay_virtual (as := [w1, w2, w3]) (st := []) dL_law_404 kc_12_40 rfl rfl (Nat.le_of_ble_eq_true rfl)
theorem sL_law_404_1 : ab_X rom K cL_law 12 2 404 ls [w3, w2, w1, .ref a, v0] hp = if ab_iso hp a 6 = true then (K 105 (.ref a :: [w1, w2, w3]) hp).bind (fun o => ab_X rom K cL_law 12 2 407 ls (o.1.toList ++ [v0]) o.2) else none := ay_virtual (as := [w1, w2, w3]) (st := [v0]) dL_law_404 kc_12_40 rfl rfl (Nat.le_of_ble_eq_true rfl)
theorem sL_law_404_2 : ab_X rom K cL_law 12 2 404 ls [w3, w2, w1, .ref a, v0, v1] hp = if ab_iso hp a 6 = true then (K 105 (.ref a :: [w1, w2, w3]) hp).bind (fun o => ab_X rom K cL_law 12 2 407 ls (o.1.toList ++ [v0, v1]) o.2) else none := ay_virtual (as := [w1, w2, w3]) (st := [v0, v1]) dL_law_404 kc_12_40 rfl rfl (Nat.le_of_ble_eq_true rfl)
theorem sL_law_404_3 : ab_X rom K cL_law 12 2 404 ls [w3, w2, w1, .ref a, v0, v1, v2] hp = if ab_iso hp a 6 = true then (K 105 (.ref a :: [w1, w2, w3]) hp).bind (fun o => ab_X rom K cL_law 12 2 407 ls (o.1.toList ++ [v0, v1, v2]) o.2) else none := ay_virtual (as := [w1, w2, w3]) (st := [v0, v1, v2]) dL_law_404 kc_12_40 rfl rfl (Nat.le_of_ble_eq_true rfl)
theorem dL_law_407 : decode cL_law 407 = .ok (.aload_n 2, 1) := by decide +kernel
theorem sL_law_407 : ab_X rom K cL_law 12 2 407 (v0 :: v1 :: .ref a :: ls) st hp = ab_X rom K cL_law 12 2 408 (v0 :: v1 :: .ref a :: ls) (.ref a :: st) hp := ax_aload_n dL_law_407 rfl rfl
theorem dL_law_408 : decode cL_law 408 = .ok (.aload_n 0, 1) := by decide +kernel
theorem sL_law_408 : ab_X rom K cL_law 12 2 408 (.ref a :: ls) st hp = ab_X rom K cL_law 12 2 409 (.ref a :: ls) (.ref a :: st) hp := ax_aload_n dL_law_408 rfl rfl
theorem dL_law_409 : decode cL_law 409 = .ok (.iload_n 3, 1) := by decide +kernel
theorem sL_law_409 : ab_X rom K cL_law 12 2 409 (v0 :: v1 :: v2 :: .int x :: ls) st hp = ab_X rom K cL_law 12 2 410 (v0 :: v1 :: v2 :: .int x :: ls) (.int x :: st) hp := ax_iload_n dL_law_409 rfl rfl
theorem dL_law_410 : decode cL_law 410 = .ok (.iconst 1, 1) := by decide +kernel
theorem sL_law_410 : ab_X rom K cL_law 12 2 410 ls st hp = ab_X rom K cL_law 12 2 411 ls (.int 1 :: st) hp := ax_iconst dL_law_410 (by decide) rfl
theorem dL_law_411 : decode cL_law 411 = .ok (.iadd, 1) := by decide +kernel
theorem sL_law_411 : ab_X rom K cL_law 12 2 411 ls (.int y :: .int x :: st) hp = ab_X rom K cL_law 12 2 412 ls (.int (x + y) :: st) hp := ax_iadd dL_law_411 rfl
theorem dL_law_412 : decode cL_law 412 = .ok (.iaload, 1) := by decide +kernel
theorem sL_law_412 : ab_X rom K cL_law 12 2 412 ls (.int x :: .ref a :: st) hp = (ab_ard rom 0 hp a x).bind (fun v => ab_X rom K cL_law 12 2 413 ls (.int v :: st) hp) := ax_iaload dL_law_412 rfl
theorem dL_law_413 : decode cL_law 413 = .ok (.aload_n 0, 1) := by decide +kernel
theorem sL_law_413 : ab_X rom K cL_law 12 2 413 (.ref a :: ls) st hp = ab_X rom K cL_law 12 2 414 (.ref a :: ls) (.ref a :: st) hp := ax_aload_n dL_law_413 rfl rfl
theorem dL_law_414 : decode cL_law 414 = .ok (.iload_n 3, 1) := by decide +kernel
theorem sL_law_414 : ab_X rom K cL_law 12 2 414 (v0 :: v1 :: v2 :: .int x :: ls) st hp = ab_X rom K cL_law 12 2 415 (v0 :: v1 :: v2 :: .int x :: ls) (.int x :: st) hp := ax_iload_n dL_law_414 rfl rfl
theorem dL_law_415 : decode cL_law 415 = .ok (.iconst 2, 1) := by decide +kernel
theorem sL_law_415 : ab_X rom K cL_law 12 2 415 ls st hp = ab_X rom K cL_law 12 2 416 ls (.int 2 :: st) hp := ax_iconst dL_law_415 (by decide) rfl
theorem dL_law_416 : decode cL_law 416 = .ok (.iadd, 1) := by decide +kernel
theorem sL_law_416 : ab_X rom K cL_law 12 2 416 ls (.int y :: .int x :: st) hp = ab_X rom K cL_law 12 2 417 ls (.int (x + y) :: st) hp := ax_iadd dL_law_416 rfl
theorem dL_law_417 : decode cL_law 417 = .ok (.iaload, 1) := by decide +kernel
theorem sL_law_417 : ab_X rom K cL_law 12 2 417 ls (.int x :: .ref a :: st) hp = (ab_ard rom 0 hp a x).bind (fun v => ab_X rom K cL_law 12 2 418 ls (.int v :: st) hp) := ax_iaload dL_law_417 rfl
theorem dL_law_418 : decode cL_law 418 = .ok (.aload_n 0, 1) := by decide +kernel
theorem sL_law_418 : ab_X rom K cL_law 12 2 418 (.ref a :: ls) st hp = ab_X rom K cL_law 12 2 419 (.ref a :: ls) (.ref a :: st) hp := ax_aload_n dL_law_418 rfl rfl
theorem dL_law_419 : decode cL_law 419 = .ok (.iload_n 3, 1) := by decide +kernel
theorem sL_law_419 : ab_X rom K cL_law 12 2 419 (v0 :: v1 :: v2 :: .int x :: ls) st hp = ab_X rom K cL_law 12 2 420 (v0 :: v1 :: v2 :: .int x :: ls) (.int x :: st) hp := ax_iload_n dL_law_419 rfl rfl
theorem dL_law_420 : decode cL_law 420 = .ok (.iconst 3, 1) := by decide +kernel
theorem sL_law_420 : ab_X rom K cL_law 12 2 420 ls st hp = ab_X rom K cL_law 12 2 421 ls (.int 3 :: st) hp := ax_iconst dL_law_420 (by decide) rfl
theorem dL_law_421 : decode cL_law 421 = .ok (.iadd, 1) := by decide +kernel
theorem sL_law_421 : ab_X rom K cL_law 12 2 421 ls (.int y :: .int x :: st) hp = ab_X rom K cL_law 12 2 422 ls (.int (x + y) :: st) hp := ax_iadd dL_law_421 rfl
theorem dL_law_422 : decode cL_law 422 = .ok (.iaload, 1) := by decide +kernel
theorem sL_law_422 : ab_X rom K cL_law 12 2 422 ls (.int x :: .ref a :: st) hp = (ab_ard rom 0 hp a x).bind (fun v => ab_X rom K cL_law 12 2 423 ls (.int v :: st) hp) := ax_iaload dL_law_422 rfl
theorem dL_law_423 : decode cL_law 423 = .ok (.invokevirtual 44, 3) := by decide +kernel
theorem sL_law_423_0 : ab_X rom K cL_law 12 2 423 ls [w3, w2, w1, .ref a] hp = if ab_iso hp a 7 = true then (K 187 (.ref a :: [w1, w2, w3]) hp).bind (fun o => ab_X rom K cL_law 12 2 426 ls (o.1.toList ++ []) o.2) else none := ay_virtual (as := [w1, w2, w3]) (st := []) dL_law_423 kc_12_44 rfl rfl (Nat.le_of_ble_eq_true rfl)
theorem sL_law_423_1 : ab_X rom K cL_law 12 2 423 ls [w3, w2, w1, .ref a, v0] hp = if ab_iso hp a 7 = true then (K 187 (.ref a :: [w1, w2, w3]) hp).bind (fun o => ab_X rom K cL_law 12 2 426 ls (o.1.toList ++ [v0]) o.2) else none := ay_virtual (as := [w1, w2, w3]) (st := [v0]) dL_law_423 kc_12_44 rfl rfl (Nat.le_of_ble_eq_true rfl)
theorem sL_law_423_2 : ab_X rom K cL_law 12 2 423 ls [w3, w2, w1, .ref a, v0, v1] hp = if ab_iso hp a 7 = true then (K 187 (.ref a :: [w1, w2, w3]) hp).bind (fun o => ab_X rom K cL_law 12 2 426 ls (o.1.toList ++ [v0, v1]) o.2) else none := ay_virtual (as := [w1, w2, w3]) (st := [v0, v1]) dL_law_423 kc_12_44 rfl rfl (Nat.le_of_ble_eq_true rfl)
theorem sL_law_423_3 : ab_X rom K cL_law 12 2 423 ls [w3, w2, w1, .ref a, v0, v1, v2] hp = if ab_iso hp a 7 = true then (K 187 (.ref a :: [w1, w2, w3]) hp).bind (fun o => ab_X rom K cL_law 12 2 426 ls (o.1.toList ++ [v0, v1, v2]) o.2) else none := ay_virtual (as := [w1, w2, w3]) (st := [v0, v1, v2]) dL_law_423 kc_12_44 rfl rfl (Nat.le_of_ble_eq_true rfl)
theorem dL_law_426 : decode cL_law 426 = .ok (.if_icmp .eq 1058, 3) := by decide +kernel
theorem sL_law_426 : ab_X rom K cL_law 12 2 426 ls (.int y :: .int x :: st) hp = if x = y then ab_X rom K cL_law 12 2 1484 ls st hp else ab_X rom K cL_law 12 2 429 ls st hp := ax_icmp_eq dL_law_426 (by decide) rfl
theorem dL_law_431 : decode cL_law 431 = .ok (.aload_n 1, 1) := by decide +kernel
theorem sL_law_431 : ab_X rom K cL_law 12 2 431 (v0 :: .ref a :: ls) st hp = ab_X rom K cL_law 12 2 432 (v0 :: .ref a :: ls) (.ref a :: st) hp := ax_aload_n dL_law_431 rfl rfl
theorem dL_law_432 : decode cL_law 432 = .ok (.aload_n 0, 1) := by decide +kernel
theorem sL_law_432 : ab_X rom K cL_law 12 2 432 (.ref a :: ls) st hp = ab_X rom K cL_law 12 2 433 (.ref a :: ls) (.ref a :: st) hp := ax_aload_n dL_law_432 rfl rfl
theorem dL_law_433 : decode cL_law 433 = .ok (.iload_n 3, 1) := by decide +kernel
theorem sL_law_433 : ab_X rom K cL_law 12 2 433 (v0 :: v1 :: v2 :: .int x :: ls) st hp = ab_X rom K cL_law 12 2 434 (v0 :: v1 :: v2 :: .int x :: ls) (.int x :: st) hp := ax_iload_n dL_law_433 rfl rfl
theorem dL_law_434 : decode cL_law 434 = .ok (.iconst 1, 1) := by decide +kernel
theorem sL_law_434 : ab_X rom K cL_law 12 2 434 ls st hp = ab_X rom K cL_law 12 2 435 ls (.int 1 :: st) hp := ax_iconst dL_law_434 (by decide) rfl
theorem dL_law_435 : decode cL_law 435 = .ok (.iadd, 1) := by decide +kernel
theorem sL_law_435 : ab_X rom K cL_law 12 2 435 ls (.int y :: .int x :: st) hp = ab_X rom K cL_law 12 2 436 ls (.int (x + y) :: st) hp := ax_iadd dL_law_435 rfl
theorem dL_law_436 : decode cL_law 436 = .ok (.iaload, 1) := by decide +kernel
theorem sL_law_436 : ab_X rom K cL_law 12 2 436 ls (.int x :: .ref a :: st) hp = (ab_ard rom 0 hp a x).bind (fun v => ab_X rom K cL_law 12 2 437 ls (.int v :: st) hp) := ax_iaload dL_law_436 rfl
theorem dL_law_437 : decode cL_law 437 = .ok (.aload_n 0, 1) := by decide +kernel
theorem sL_law_437 : ab_X rom K cL_law 12 2 437 (.ref a :: ls) st hp = ab_X rom K cL_law 12 2 438 (.ref a :: ls) (.ref a :: st) hp := ax_aload_n dL_law_437 rfl rfl
theorem dL_law_438 : decode cL_law 438 = .ok (.iload_n 3, 1) := by decide +kernel
theorem sL_law_438 : ab_X rom K cL_law 12 2 438 (v0 :: v1 :: v2 :: .int x :: ls) st hp = ab_X rom K cL_law 12 2 439 (v0 :: v1 :: v2 :: .int x :: ls) (.int x :: st) hp := ax_iload_n dL_law_438 rfl rfl
theorem dL_law_439 : decode cL_law 439 = .ok (.iconst 2, 1) := by decide +kernel
theorem sL_law_439 : ab_X rom K cL_law 12 2 439 ls st hp = ab_X rom K cL_law 12 2 440 ls (.int 2 :: st) hp := ax_iconst dL_law_439 (by decide) rfl
theorem dL_law_440 : decode cL_law 440 = .ok (.iadd, 1) := by decide +kernel
theorem sL_law_440 : ab_X rom K cL_law 12 2 440 ls (.int y :: .int x :: st) hp = ab_X rom K cL_law 12 2 441 ls (.int (x + y) :: st) hp := ax_iadd dL_law_440 rfl
theorem dL_law_441 : decode cL_law 441 = .ok (.iaload, 1) := by decide +kernel
theorem sL_law_441 : ab_X rom K cL_law 12 2 441 ls (.int x :: .ref a :: st) hp = (ab_ard rom 0 hp a x).bind (fun v => ab_X rom K cL_law 12 2 442 ls (.int v :: st) hp) := ax_iaload dL_law_441 rfl
theorem dL_law_442 : decode cL_law 442 = .ok (.aload_n 0, 1) := by decide +kernel
theorem sL_law_442 : ab_X rom K cL_law 12 2 442 (.ref a :: ls) st hp = ab_X rom K cL_law 12 2 443 (.ref a :: ls) (.ref a :: st) hp := ax_aload_n dL_law_442 rfl rfl
theorem dL_law_443 : decode cL_law 443 = .ok (.iload_n 3, 1) := by decide +kernel
theorem sL_law_443 : ab_X rom K cL_law 12 2 443 (v0 :: v1 :: v2 :: .int x :: ls) st hp = ab_X rom K cL_law 12 2 444 (v0 :: v1 :: v2 :: .int x :: ls) (.int x :: st) hp := ax_iload_n dL_law_443 rfl rfl
theorem dL_law_444 : decode cL_law 444 = .ok (.iconst 3, 1) := by decide +kernel
theorem sL_law_444 : ab_X rom K cL_law 12 2 444 ls st hp = ab_X rom K cL_law 12 2 445 ls (.int 3 :: st) hp := ax_iconst dL_law_444 (by decide) rfl
theorem dL_law_445 : decode cL_law 445 = .ok (.iadd, 1) := by decide +kernel
theorem sL_law_445 : ab_X rom K cL_law 12 2 445 ls (.int y :: .int x :: st) hp = ab_X rom K cL_law 12 2 446 ls (.int (x + y) :: st) hp := ax_iadd dL_law_445 rfl
theorem dL_law_446 : decode cL_law 446 = .ok (.iaload, 1) := by decide +kernel
theorem sL_law_446 : ab_X rom K cL_law 12 2 446 ls (.int x :: .ref a :: st) hp = (ab_ard rom 0 hp a x).bind (fun v => ab_X rom K cL_law 12 2 447 ls (.int v :: st) hp) := ax_iaload dL_law_446 rfl
theorem dL_law_447 : decode cL_law 447 = .ok (.invokevirtual 45, 3) := by decide +kernel
theorem sL_law_447_0 : ab_X rom K cL_law 12 2 447 ls [w3, w2, w1, .ref a] hp = if ab_iso hp a 6 = true then (K 80 (.ref a :: [w1, w2, w3]) hp).bind (fun o => ab_X rom K cL_law 12 2 450 ls (o.1.toList ++ []) o.2) else none := ay_virtual (as := [w1, w2, w3]) (st := []) dL_law_447 kc_12_45 rfl rfl (Nat.le_of_ble_eq_true rfl)
theorem sL_law_447_1 : ab_X rom K cL_law 12 2 447 ls [w3, w2, w1, .ref a, v0] hp = if ab_iso hp a 6 = true then (K 80 (.ref a :: [w1, w2, w3]) hp).bind (fun o => ab_X rom K cL_law 12 2 450 ls (o.1.toList ++ [v0]) o.2) else none := ay_virtual (as := [w1, w2, w3]) (st := [v0]) dL_law_447 kc_12_45 rfl rfl (Nat.le_of_ble_eq_true rfl)
theorem sL_law_447_2 : ab_X rom K cL_law 12 2 447 ls [w3, w2, w1, .ref a, v0, v1] hp = if ab_iso hp a 6 = true then (K 80 (.ref a :: [w1, w2, w3]) hp).bind (fun o => ab_X rom K cL_law 12 2 450 ls (o.1.toList ++ [v0, v1]) o.2) else none := ay_virtual (as := [w1, w2, w3]) (st := [v0, v1]) dL_law_447 kc_12_45 rfl rfl (Nat.le_of_ble_eq_true rfl)
theorem sL_law_447_3 : ab_X rom K cL_law 12 2 447 ls [w3, w2, w1, .ref a, v0, v1, v2] hp = if ab_iso hp a 6 = true then (K 80 (.ref a :: [w1, w2, w3]) hp).bind (fun o => ab_X rom K cL_law 12 2 450 ls (o.1.toList ++ [v0, v1, v2]) o.2) else none := ay_virtual (as := [w1, w2, w3]) (st := [v0, v1, v2]) dL_law_447 kc_12_45 rfl rfl (Nat.le_of_ble_eq_true rfl)
theorem dL_law_450 : decode cL_law 450 = .ok (.aload_n 2, 1) := by decide +kernel
theorem sL_law_450 : ab_X rom K cL_law 12 2 450 (v0 :: v1 :: .ref a :: ls) st hp = ab_X rom K cL_law 12 2 451 (v0 :: v1 :: .ref a :: ls) (.ref a :: st) hp := ax_aload_n dL_law_450 rfl rfl
theorem dL_law_451 : decode cL_law 451 = .ok (.aload_n 0, 1) := by decide +kernel
theorem sL_law_451 : ab_X rom K cL_law 12 2 451 (.ref a :: ls) st hp = ab_X rom K cL_law 12 2 452 (.ref a :: ls) (.ref a :: st) hp := ax_aload_n dL_law_451 rfl rfl
theorem dL_law_452 : decode cL_law 452 = .ok (.iload_n 3, 1) := by decide +kernel
theorem sL_law_452 : ab_X rom K cL_law 12 2 452 (v0 :: v1 :: v2 :: .int x :: ls) st hp = ab_X rom K cL_law 12 2 453 (v0 :: v1 :: v2 :: .int x :: ls) (.int x :: st) hp := ax_iload_n dL_law_452 rfl rfl
theorem dL_law_453 : decode cL_law 453 = .ok (.iconst 1, 1) := by decide +kernel
theorem sL_law_453 : ab_X rom K cL_law 12 2 453 ls st hp = ab_X rom K cL_law 12 2 454 ls (.int 1 :: st) hp := ax_iconst dL_law_453 (by decide) rfl
theorem dL_law_454 : decode cL_law 454 = .ok (.iadd, 1) := by decide +kernel
theorem sL_law_454 : ab_X rom K cL_law 12 2 454 ls (.int y :: .int x :: st) hp = ab_X rom K cL_law 12 2 455 ls (.int (x + y) :: st) hp := ax_iadd dL_law_454 rfl
theorem dL_law_455 : decode cL_law 455 = .ok (.iaload, 1) := by decide +kernel
theorem sL_law_455 : ab_X rom K cL_law 12 2 455 ls (.int x :: .ref a :: st) hp = (ab_ard rom 0 hp a x).bind (fun v => ab_X rom K cL_law 12 2 456 ls (.int v :: st) hp) := ax_iaload dL_law_455 rfl
theorem dL_law_456 : decode cL_law 456 = .ok (.aload_n 0, 1) := by decide +kernel
theorem sL_law_456 : ab_X rom K cL_law 12 2 456 (.ref a :: ls) st hp = ab_X rom K cL_law 12 2 457 (.ref a :: ls) (.ref a :: st) hp := ax_aload_n dL_law_456 rfl rfl
theorem dL_law_457 : decode cL_law 457 = .ok (.iload_n 3, 1) := by decide +kernel
theorem sL_law_457 : ab_X rom K cL_law 12 2 457 (v0 :: v1 :: v2 :: .int x :: ls) st hp = ab_X rom K cL_law 12 2 458 (v0 :: v1 :: v2 :: .int x :: ls) (.int x :: st) hp := ax_iload_n dL_law_457 rfl rfl
theorem dL_law_458 : decode cL_law 458 = .ok (.iconst 2, 1) := by decide +kernel
theorem sL_law_458 : ab_X rom K cL_law 12 2 458 ls st hp = ab_X rom K cL_law 12 2 459 ls (.int 2 :: st) hp := ax_iconst dL_law_458 (by decide) rfl
theorem dL_law_459 : decode cL_law 459 = .ok (.iadd, 1) := by decide +kernel
theorem sL_law_459 : ab_X rom K cL_law 12 2 459 ls (.int y :: .int x :: st) hp = ab_X rom K cL_law 12 2 460 ls (.int (x + y) :: st) hp := ax_iadd dL_law_459 rfl
theorem dL_law_460 : decode cL_law 460 = .ok (.iaload, 1) := by decide +kernel
theorem sL_law_460 : ab_X rom K cL_law 12 2 460 ls (.int x :: .ref a :: st) hp = (ab_ard rom 0 hp a x).bind (fun v => ab_X rom K cL_law 12 2 461 ls (.int v :: st) hp) := ax_iaload dL_law_460 rfl
theorem dL_law_461 : decode cL_law 461 = .ok (.aload_n 0, 1) := by decide +kernel
theorem sL_law_461 : ab_X rom K cL_law 12 2 461 (.ref a :: ls) st hp = ab_X rom K cL_law 12 2 462 (.ref a :: ls) (.ref a :: st) hp := ax_aload_n dL_law_461 rfl rfl
theorem dL_law_462 : decode cL_law 462 = .ok (.iload_n 3, 1) := by decide +kernel
theorem sL_law_462 : ab_X rom K cL_law 12 2 462 (v0 :: v1 :: v2 :: .int x :: ls) st hp = ab_X rom K cL_law 12 2 463 (v0 :: v1 :: v2 :: .int x :: ls) (.int x :: st) hp := ax_iload_n dL_law_462 rfl rfl
theorem dL_law_463 : decode cL_law 463 = .ok (.iconst 3, 1) := by decide +kernel
theorem sL_law_463 : ab_X rom K cL_law 12 2 463 ls st hp = ab_X rom K cL_law 12 2 464 ls (.int 3 :: st) hp := ax_iconst dL_law_463 (by decide) rfl
theorem dL_law_464 : decode cL_law 464 = .ok (.iadd, 1) := by decide +kernel
theorem sL_law_464 : ab_X rom K cL_law 12 2 464 ls (.int y :: .int x :: st) hp = ab_X rom K cL_law 12 2 465 ls (.int (x + y) :: st) hp := ax_iadd dL_law_464 rfl
theorem dL_law_465 : decode cL_law 465 = .ok (.iaload, 1) := by decide +kernel
theorem sL_law_465 : ab_X rom K cL_law 12 2 465 ls (.int x :: .ref a :: st) hp = (ab_ard rom 0 hp a x).bind (fun v => ab_X rom K cL_law 12 2 466 ls (.int v :: st) hp) := ax_iaload dL_law_465 rfl
theorem dL_law_466 : decode cL_law 466 = .ok (.invokevirtual 48, 3) := by decide +kernel
theorem sL_law_466_0 : ab_X rom K cL_law 12 2 466 ls [w3, w2, w1, .ref a] hp = if ab_iso hp a 7 = true then (K 131 (.ref a :: [w1, w2, w3]) hp).bind (fun o => ab_X rom K cL_law 12 2 469 ls (o.1.toList ++ []) o.2) else none := ay_virtual (as := [w1, w2, w3]) (st := []) dL_law_466 kc_12_48 rfl rfl (Nat.le_of_ble_eq_true rfl)
theorem sL_law_466_1 : ab_X rom K cL_law 12 2 466 ls [w3, w2, w1, .ref a, v0] hp = if ab_iso hp a 7 = true then (K 131 (.ref a :: [w1, w2, w3]) hp).bind (fun o => ab_X rom K cL_law 12 2 469 ls (o.1.toList ++ [v0]) o.2) else none := ay_virtual (as := [w1, w2, w3]) (st := [v0]) dL_law_466 kc_12_48 rfl rfl (Nat.le_of_ble_eq_true rfl)
theorem sL_law_466_2 : ab_X rom K cL_law 12 2 466 ls [w3, w2, w1, .ref a, v0, v1] hp = if ab_iso hp a 7 = true then (K 131 (.ref a :: [w1, w2, w3]) hp).bind (fun o => ab_X rom K cL_law 12 2 469 ls (o.1.toList ++ [v0, v1]) o.2) else none := ay_virtual (as := [w1, w2, w3]) (st := [v0, v1]) dL_law_466 kc_12_48 rfl rfl (Nat.le_of_ble_eq_true rfl)
theorem sL_law_466_3 : ab_X rom K cL_law 12 2 466 ls [w3, w2, w1, .ref a, v0, v1, v2] hp = if ab_iso hp a 7 = true then (K 131 (.ref a :: [w1, w2, w3]) hp).bind (fun o => ab_X rom K cL_law 12 2 469 ls (o.1.toList ++ [v0, v1, v2]) o.2) else none := ay_virtual (as := [w1, w2, w3]) (st := [v0, v1, v2]) dL_law_466 kc_12_48 rfl rfl (Nat.le_of_ble_eq_true rfl)
theorem dL_law_469 : decode cL_law 469 = .ok (.if_icmp .eq 1015, 3) := by decide +kernel
theorem sL_law_469 : ab_X rom K cL_law 12 2 469 ls (.int y :: .int x :: st) hp = if x = y then ab_X rom K cL_law 12 2 1484 ls st hp else ab_X rom K cL_law 12 2 472 ls st hp := ax_icmp_eq dL_law_469 (by decide) rfl
theorem dL_law_474 : decode cL_law 474 = .ok (.aload_n 1, 1) := by decide +kernel
theorem sL_law_474 : ab_X rom K cL_law 12 2 474 (v0 :: .ref a :: ls) st hp = ab_X rom K cL_law 12 2 475 (v0 :: .ref a :: ls) (.ref a :: st) hp := ax_aload_n dL_law_474 rfl rfl
theorem dL_law_475 : decode cL_law 475 = .ok (.aload_n 0, 1) := by decide +kernel
theorem sL_law_475 : ab_X rom K cL_law 12 2 475 (.ref a :: ls) st hp = ab_X rom K cL_law 12 2 476 (.ref a :: ls) (.ref a :: st) hp := ax_aload_n dL_law_475 rfl rfl
theorem dL_law_476 : decode cL_law 476 = .ok (.iload_n 3, 1) := by decide +kernel
theorem sL_law_476 : ab_X rom K cL_law 12 2 476 (v0 :: v1 :: v2 :: .int x :: ls) st hp = ab_X rom K cL_law 12 2 477 (v0 :: v1 :: v2 :: .int x :: ls) (.int x :: st) hp := ax_iload_n dL_law_476 rfl rfl
theorem dL_law_477 : decode cL_law 477 = .ok (.iconst 1, 1) := by decide +kernel
theorem sL_law_477 : ab_X rom K cL_law 12 2 477 ls st hp = ab_X rom K cL_law 12 2 478 ls (.int 1 :: st) hp := ax_iconst dL_law_477 (by decide) rfl
theorem dL_law_478 : decode cL_law 478 = .ok (.iadd, 1) := by decide +kernel
theorem sL_law_478 : ab_X rom K cL_law 12 2 478 ls (.int y :: .int x :: st) hp = ab_X rom K cL_law 12 2 479 ls (.int (x + y) :: st) hp := ax_iadd dL_law_478 rfl
theorem dL_law_479 : decode cL_law 479 = .ok (.iaload, 1) := by decide +kernel
theorem sL_law_479 : ab_X rom K cL_law 12 2 479 ls (.int x :: .ref a :: st) hp = (ab_ard rom 0 hp a x).bind (fun v => ab_X rom K cL_law 12 2 480 ls (.int v :: st) hp) := ax_iaload dL_law_479 rfl
theorem dL_law_480 : decode cL_law 480 = .ok (.aload_n 0, 1) := by decide +kernel
theorem sL_law_480 : ab_X rom K cL_law 12 2 480 (.ref a :: ls) st hp = ab_X rom K cL_law 12 2 481 (.ref a :: ls) (.ref a :: st) hp := ax_aload_n dL_law_480 rfl rfl
theorem dL_law_481 : decode cL_law 481 = .ok (.iload_n 3, 1) := by decide +kernel
theorem sL_law_481 : ab_X rom K cL_law 12 2 481 (v0 :: v1 :: v2 :: .int x :: ls) st hp = ab_X rom K cL_law 12 2 482 (v0 :: v1 :: v2 :: .int x :: ls) (.int x :: st) hp := ax_iload_n dL_law_481 rfl rfl
theorem dL_law_482 : decode cL_law 482 = .ok (.iconst 2, 1) := by decide +kernel
theorem sL_law_482 : ab_X rom K cL_law 12 2 482 ls st hp = ab_X rom K cL_law 12 2 483 ls (.int 2 :: st) hp := ax_iconst dL_law_482 (by decide) rfl
theorem dL_law_483 : decode cL_law 483 = .ok (.iadd, 1) := by decide +kernel
theorem sL_law_483 : ab_X rom K cL_law 12 2 483 ls (.int y :: .int x :: st) hp = ab_X rom K cL_law 12 2 484 ls (.int (x + y) :: st) hp := ax_iadd dL_law_483 rfl
theorem dL_law_484 : decode cL_law 484 = .ok (.iaload, 1) := by decide +kernel
theorem sL_law_484 : ab_X rom K cL_law 12 2 484 ls (.int x :: .ref a :: st) hp = (ab_ard rom 0 hp a x).bind (fun v => ab_X rom K cL_law 12 2 485 ls (.int v :: st) hp) := ax_iaload dL_law_484 rfl
theorem dL_law_485 : decode cL_law 485 = .ok (.aload_n 0, 1) := by decide +kernel
theorem sL_law_485 : ab_X rom K cL_law 12 2 485 (.ref a :: ls) st hp = ab_X rom K cL_law 12 2 486 (.ref a :: ls) (.ref a :: st) hp := ax_aload_n dL_law_485 rfl rfl
theorem dL_law_486 : decode cL_law 486 = .ok (.iload_n 3, 1) := by decide +kernel
theorem sL_law_486 : ab_X rom K cL_law 12 2 486 (v0 :: v1 :: v2 :: .int x :: ls) st hp = ab_X rom K cL_law 12 2 487 (v0 :: v1 :: v2 :: .int x :: ls) (.int x :: st) hp := ax_iload_n dL_law_486 rfl rfl
theorem dL_law_487 : decode cL_law 487 = .ok (.iconst 3, 1) := by decide +kernel
theorem sL_law_487 : ab_X rom K cL_law 12 2 487 ls st hp = ab_X rom K cL_law 12 2 488 ls (.int 3 :: st) hp := ax_iconst dL_law_487 (by decide) rfl
theorem dL_law_488 : decode cL_law 488 = .ok (.iadd, 1) := by decide +kernel
theorem sL_law_488 : ab_X rom K cL_law 12 2 488 ls (.int y :: .int x :: st) hp = ab_X rom K cL_law 12 2 489 ls (.int (x + y) :: st) hp := ax_iadd dL_law_488 rfl
theorem dL_law_489 : decode cL_law 489 = .ok (.iaload, 1) := by decide +kernel
theorem sL_law_489 : ab_X rom K cL_law 12 2 489 ls (.int x :: .ref a :: st) hp = (ab_ard rom 0 hp a x).bind (fun v => ab_X rom K cL_law 12 2 490 ls (.int v :: st) hp) := ax_iaload dL_law_489 rfl
theorem dL_law_490 : decode cL_law 490 = .ok (.invokevirtual 49, 3) := by decide +kernel
theorem sL_law_490_0 : ab_X rom K cL_law 12 2 490 ls [w3, w2, w1, .ref a] hp = if ab_iso hp a 6 = true then (K 85 (.ref a :: [w1, w2, w3]) hp).bind (fun o => ab_X rom K cL_law 12 2 493 ls (o.1.toList ++ []) o.2) else none := ay_virtual (as := [w1, w2, w3]) (st := []) dL_law_490 kc_12_49 rfl rfl (Nat.le_of_ble_eq_true rfl)
theorem sL_law_490_1 : ab_X rom K cL_law 12 2 490 ls [w3, w2, w1, .ref a, v0] hp = if ab_iso hp a 6 = true then (K 85 (.ref a :: [w1, w2, w3]) hp).bind (fun o => ab_X rom K cL_law 12 2 493 ls (o.1.toList ++ [v0]) o.2) else none := ay_virtual (as := [w1, w2, w3]) (st := [v0]) dL_law_490 kc_12_49 rfl rfl (Nat.le_of_ble_eq_true rfl)
theorem sL_law_490_2 : ab_X rom K cL_law 12 2 490 ls [w3, w2, w1, .ref a, v0, v1] hp = if ab_iso hp a 6 = true then (K 85 (.ref a :: [w1, w2, w3]) hp).bind (fun o => ab_X rom K cL_law 12 2 493 ls (o.1.toList ++ [v0, v1]) o.2) else none := ay_virtual (as := [w1, w2, w3]) (st := [v0, v1]) dL_law_490 kc_12_49 rfl rfl (Nat.le_of_ble_eq_true rfl)
theorem sL_law_490_3 : ab_X rom K cL_law 12 2 490 ls [w3, w2, w1, .ref a, v0, v1, v2] hp = if ab_iso hp a 6 = true then (K 85 (.ref a :: [w1, w2, w3]) hp).bind (fun o => ab_X rom K cL_law 12 2 493 ls (o.1.toList ++ [v0, v1, v2]) o.2) else none := ay_virtual (as := [w1, w2, w3]) (st := [v0, v1, v2]) dL_law_490 kc_12_49 rfl rfl (Nat.le_of_ble_eq_true rfl)
theorem dL_law_493 : decode cL_law 493 = .ok (.aload_n 2, 1) := by decide +kernel
theorem sL_law_493 : ab_X rom K cL_law 12 2 493 (v0 :: v1 :: .ref a :: ls) st hp = ab_X rom K cL_law 12 2 494 (v0 :: v1 :: .ref a :: ls) (.ref a :: st) hp := ax_aload_n dL_law_493 rfl rfl
theorem dL_law_494 : decode cL_law 494 = .ok (.aload_n 0, 1) := by decide +kernel
theorem sL_law_494 : ab_X rom K cL_law 12 2 494 (.ref a :: ls) st hp = ab_X rom K cL_law 12 2 495 (.ref a :: ls) (.ref a :: st) hp := ax_aload_n dL_law_494 rfl rfl
theorem dL_law_495 : decode cL_law 495 = .ok (.iload_n 3, 1) := by decide +kernel
theorem sL_law_495 : ab_X rom K cL_law 12 2 495 (v0 :: v1 :: v2 :: .int x :: ls) st hp = ab_X rom K cL_law 12 2 496 (v0 :: v1 :: v2 :: .int x :: ls) (.int x :: st) hp := ax_iload_n dL_law_495 rfl rfl
theorem dL_law_496 : decode cL_law 496 = .ok (.iconst 1, 1) := by decide +kernel
theorem sL_law_496 : ab_X rom K cL_law 12 2 496 ls st hp = ab_X rom K cL_law 12 2 497 ls (.int 1 :: st) hp := ax_iconst dL_law_496 (by decide) rfl
theorem dL_law_497 : decode cL_law 497 = .ok (.iadd, 1) := by decide +kernel
theorem sL_law_497 : ab_X rom K cL_law 12 2 497 ls (.int y :: .int x :: st) hp = ab_X rom K cL_law 12 2 498 ls (.int (x + y) :: st) hp := ax_iadd dL_law_497 rfl
theorem dL_law_498 : decode cL_law 498 = .ok (.iaload, 1) := by decide +kernel
theorem sL_law_498 : ab_X rom K cL_law 12 2 498 ls (.int x :: .ref a :: st) hp = (ab_ard rom 0 hp a x).bind (fun v => ab_X rom K cL_law 12 2 499 ls (.int v :: st) hp) := ax_iaload dL_law_498 rfl
theorem dL_law_499 : decode cL_law 499 = .ok (.aload_n 0, 1) := by decide +kernel
theorem sL_law_499 : ab_X rom K cL_law 12 2 499 (.ref a :: ls) st hp = ab_X rom K cL_law 12 2 500 (.ref a :: ls) (.ref a :: st) hp := ax_aload_n dL_law_499 rfl rfl
theorem dL_law_500 : decode cL_law 500 = .ok (.iload_n 3, 1) := by decide +kernel
theorem sL_law_500 : ab_X rom K cL_law 12 2 500 (v0 :: v1 :: v2 :: .int x :: ls) st hp = ab_X rom K cL_law 12 2 501 (v0 :: v1 :: v2 :: .int x :: ls) (.int x :: st) hp := ax_iload_n dL_law_500 rfl rfl
theorem dL_law_501 : decode cL_law 501 = .ok (.iconst 2, 1) := by decide +kernel
theorem sL_law_501 : ab_X rom K cL_law 12 2 501 ls st hp = ab_X rom K cL_law 12 2 502 ls (.int 2 :: st) hp := ax_iconst dL_law_501 (by decide) rfl
theorem dL_law_502 : decode cL_law 502 = .ok (.iadd, 1) := by decide +kernel
theorem sL_law_502 : ab_X rom K cL_law 12 2 502 ls (.int y :: .int x :: st) hp = ab_X rom K cL_law 12 2 503 ls (.int (x + y) :: st) hp := ax_iadd dL_law_502 rfl
theorem dL_law_503 : decode cL_law 503 = .ok (.iaload, 1) := by decide +kernel
theorem sL_law_503 : ab_X rom K cL_law 12 2 503 ls (.int x :: .ref a :: st) hp = (ab_ard rom 0 hp a x).bind (fun v => ab_X rom K cL_law 12 2 504 ls (.int v :: st) hp) := ax_iaload dL_law_503 rfl
theorem dL_law_504 : decode cL_law 504 = .ok (.aload_n 0, 1) := by decide +kernel
theorem sL_law_504 : ab_X rom K cL_law 12 2 504 (.ref a :: ls) st hp = ab_X rom K cL_law 12 2 505 (.ref a :: ls) (.ref a :: st) hp := ax_aload_n dL_law_504 rfl rfl
theorem dL_law_505 : decode cL_law 505 = .ok (.iload_n 3, 1) := by decide +kernel
theorem sL_law_505 : ab_X rom K cL_law 12 2 505 (v0 :: v1 :: v2 :: .int x :: ls) st hp = ab_X rom K cL_law 12 2 506 (v0 :: v1 :: v2 :: .int x :: ls) (.int x :: st) hp := ax_iload_n dL_law_505 rfl rfl
theorem dL_law_506 : decode cL_law 506 = .ok (.iconst 3, 1) := by decide +kernel
theorem sL_law_506 : ab_X rom K cL_law 12 2 506 ls st hp = ab_X rom K cL_law 12 2 507 ls (.int 3 :: st) hp := ax_iconst dL_law_506 (by decide) rfl
theorem dL_law_507 : decode cL_law 507 = .ok (.iadd, 1) := by decide +kernel
theorem sL_law_507 : ab_X rom K cL_law 12 2 507 ls (.int y :: .int x :: st) hp = ab_X rom K cL_law 12 2 508 ls (.int (x + y) :: st) hp := ax_iadd dL_law_507 rfl
theorem dL_law_508 : decode cL_law 508 = .ok (.iaload, 1) := by decide +kernel
theorem sL_law_508 : ab_X rom K cL_law 12 2 508 ls (.int x :: .ref a :: st) hp = (ab_ard rom 0 hp a x).bind (fun v => ab_X rom K cL_law 12 2 509 ls (.int v :: st) hp) := ax_iaload dL_law_508 rfl
theorem dL_law_509 : decode cL_law 509 = .ok (.invokevirtual 52, 3) := by decide +kernel
theorem sL_law_509_0 : ab_X rom K cL_law 12 2 509 ls [w3, w2, w1, .ref a] hp = if ab_iso hp a 7 = true then (K 142 (.ref a :: [w1, w2, w3]) hp).bind (fun o => ab_X rom K cL_law 12 2 512 ls (o.1.toList ++ []) o.2) else none := ay_virtual (as := [w1, w2, w3]) (st := []) dL_law_509 kc_12_52 rfl rfl (Nat.le_of_ble_eq_true rfl)
theorem sL_law_509_1 : ab_X rom K cL_law 12 2 509 ls [w3, w2, w1, .ref a, v0] hp = if ab_iso hp a 7 = true then (K 142 (.ref a :: [w1, w2, w3]) hp).bind (fun o => ab_X rom K cL_law 12 2 512 ls (o.1.toList ++ [v0]) o.2) else none := ay_virtual (as := [w1, w2, w3]) (st := [v0]) dL_law_509 kc_12_52 rfl rfl (Nat.le_of_ble_eq_true rfl)
theorem sL_law_509_2 : ab_X rom K cL_law 12 2 509 ls [w3, w2, w1, .ref a, v0, v1] hp = if ab_iso hp a 7 = true then (K 142 (.ref a :: [w1, w2, w3]) hp).bind (fun o => ab_X rom K cL_law 12 2 512 ls (o.1.toList ++ [v0, v1]) o.2) else none := ay_virtual (as := [w1, w2, w3]) (st := [v0, v1]) dL_law_509 kc_12_52 rfl rfl (Nat.le_of_ble_eq_true rfl)
theorem sL_law_509_3 : ab_X rom K cL_law 12 2 509 ls [w3, w2, w1, .ref a, v0, v1, v2] hp = if ab_iso hp a 7 = true then (K 142 (.ref a :: [w1, w2, w3]) hp).bind (fun o => ab_X rom K cL_law 12 2 512 ls (o.1.toList ++ [v0, v1, v2]) o.2) else none := ay_virtual (as := [w1, w2, w3]) (st := [v0, v1, v2]) dL_law_509 kc_12_52 rfl rfl (Nat.le_of_ble_eq_true rfl)
theorem dL_law_512 : decode cL_law 512 = .ok (.if_icmp .eq 972, 3) := by decide +kernel
theorem sL_law_512 : ab_X rom K cL_law 12 2 512 ls (.int y :: .int x :: st) hp = if x = y then ab_X rom K cL_law 12 2 1484 ls st hp else ab_X rom K cL_law 12 2 515 ls st hp := ax_icmp_eq dL_law_512 (by decide) rfl
theorem dL_law_517 : decode cL_law 517 = .ok (.aload_n 1, 1) := by decide +kernel
theorem sL_law_517 : ab_X rom K cL_law 12 2 517 (v0 :: .ref a :: ls) st hp = ab_X rom K cL_law 12 2 518 (v0 :: .ref a :: ls) (.ref a :: st) hp := ax_aload_n dL_law_517 rfl rfl
theorem dL_law_518 : decode cL_law 518 = .ok (.aload_n 0, 1) := by decide +kernel
theorem sL_law_518 : ab_X rom K cL_law 12 2 518 (.ref a :: ls) st hp = ab_X rom K cL_law 12 2 519 (.ref a :: ls) (.ref a :: st) hp := ax_aload_n dL_law_518 rfl rfl
theorem dL_law_519 : decode cL_law 519 = .ok (.iload_n 3, 1) := by decide +kernel
theorem sL_law_519 : ab_X rom K cL_law 12 2 519 (v0 :: v1 :: v2 :: .int x :: ls) st hp = ab_X rom K cL_law 12 2 520 (v0 :: v1 :: v2 :: .int x :: ls) (.int x :: st) hp := ax_iload_n dL_law_519 rfl rfl
theorem dL_law_520 : decode cL_law 520 = .ok (.iconst 1, 1) := by decide +kernel
theorem sL_law_520 : ab_X rom K cL_law 12 2 520 ls st hp = ab_X rom K cL_law 12 2 521 ls (.int 1 :: st) hp := ax_iconst dL_law_520 (by decide) rfl
theorem dL_law_521 : decode cL_law 521 = .ok (.iadd, 1) := by decide +kernel
theorem sL_law_521 : ab_X rom K cL_law 12 2 521 ls (.int y :: .int x :: st) hp = ab_X rom K cL_law 12 2 522 ls (.int (x + y) :: st) hp := ax_iadd dL_law_521 rfl
theorem dL_law_522 : decode cL_law 522 = .ok (.iaload, 1) := by decide +kernel
theorem sL_law_522 : ab_X rom K cL_law 12 2 522 ls (.int x :: .ref a :: st) hp = (ab_ard rom 0 hp a x).bind (fun v => ab_X rom K cL_law 12 2 523 ls (.int v :: st) hp) := ax_iaload dL_law_522 rfl
theorem dL_law_523 : decode cL_law 523 = .ok (.aload_n 0, 1) := by decide +kernel
theorem sL_law_523 : ab_X rom K cL_law 12 2 523 (.ref a :: ls) st hp = ab_X rom K cL_law 12 2 524 (.ref a :: ls) (.ref a :: st) hp := ax_aload_n dL_law_523 rfl rfl
theorem dL_law_524 : decode cL_law 524 = .ok (.iload_n 3, 1) := by decide +kernel
theorem sL_law_524 : ab_X rom K cL_law 12 2 524 (v0 :: v1 :: v2 :: .int x :: ls) st hp = ab_X rom K cL_law 12 2 525 (v0 :: v1 :: v2 :: .int x :: ls) (.int x :: st) hp := ax_iload_n dL_law_524 rfl rfl
theorem dL_law_525 : decode cL_law 525 = .ok (.iconst 2, 1) := by decide +kernel
theorem sL_law_525 : ab_X rom K cL_law 12 2 525 ls st hp = ab_X rom K cL_law 12 2 526 ls (.int 2 :: st) hp := ax_iconst dL_law_525 (by decide) rfl
theorem dL_law_526 : decode cL_law 526 = .ok (.iadd, 1) := by decide +kernel
theorem sL_law_526 : ab_X rom K cL_law 12 2 526 ls (.int y :: .int x :: st) hp = ab_X rom K cL_law 12 2 527 ls (.int (x + y) :: st) hp := ax_iadd dL_law_526 rfl
theorem dL_law_527 : decode cL_law 527 = .ok (.iaload, 1) := by decide +kernel
theorem sL_law_527 : ab_X rom K cL_law 12 2 527 ls (.int x :: .ref a :: st) hp = (ab_ard rom 0 hp a x).bind (fun v => ab_X rom K cL_law 12 2 528 ls (.int v :: st) hp) := ax_iaload dL_law_527 rfl
theorem dL_law_528 : decode cL_law 528 = .ok (.invokevirtual 53, 3) := by decide +kernel
theorem sL_law_528_0 : ab_X rom K cL_law 12 2 528 ls [w2, w1, .ref a] hp = if ab_iso hp a 6 = true then (K 104 (.ref a :: [w1, w2]) hp).bind (fun o => ab_X rom K cL_law 12 2 531 ls (o.1.toList ++ []) o.2) else none := ay_virtual (as := [w1, w2]) (st := []) dL_law_528 kc_12_53 rfl rfl (Nat.le_of_ble_eq_true rfl)
theorem sL_law_528_1 : ab_X rom K cL_law 12 2 528 ls [w2, w1, .ref a, v0] hp = if ab_iso hp a 6 = true then (K 104 (.ref a :: [w1, w2]) hp).bind (fun o => ab_X rom K cL_law 12 2 531 ls (o.1.toList ++ [v0]) o.2) else none := ay_virtual (as := [w1, w2]) (st := [v0]) dL_law_528 kc_12_53 rfl rfl (Nat.le_of_ble_eq_true rfl)
theorem sL_law_528_2 : ab_X rom K cL_law 12 2 528 ls [w2, w1, .ref a, v0, v1] hp = if ab_iso hp a 6 = true then (K 104 (.ref a :: [w1, w2]) hp).bind (fun o => ab_X rom K cL_law 12 2 531 ls (o.1.toList ++ [v0, v1]) o.2) else none := ay_virtual (as := [w1, w2]) (st := [v0, v1]) dL_law_528 kc_12_53 rfl rfl (Nat.le_of_ble_eq_true rfl)
theorem sL_law_528_3 : ab_X rom K cL_law 12 2 528 ls [w2, w1, .ref a, v0, v1, v2] hp = if ab_iso hp a 6 = true then (K 104 (.ref a :: [w1, w2]) hp).bind (fun o => ab_X rom K cL_law 12 2 531 ls (o.1.toList ++ [v0, v1, v2]) o.2) else none := ay_virtual (as := [w1, w2]) (st := [v0, v1, v2]) dL_law_528 kc_12_53 rfl rfl (Nat.le_of_ble_eq_true rfl)
theorem dL_law_531 : decode cL_law 531 = .ok (.aload_n 2, 1) := by decide +kernel
theorem sL_law_531 : ab_X rom K cL_law 12 2 531 (v0 :: v1 :: .ref a :: ls) st hp = ab_X rom K cL_law 12 2 532 (v0 :: v1 :: .ref a :: ls) (.ref a :: st) hp := ax_aload_n dL_law_531 rfl rfl
theorem dL_law_532 : decode cL_law 532 = .ok (.aload_n 0, 1) := by decide +kernel
theorem sL_law_532 : ab_X rom K cL_law 12 2 532 (.ref a :: ls) st hp = ab_X rom K cL_law 12 2 533 (.ref a :: ls) (.ref a :: st) hp := ax_aload_n dL_law_532 rfl rfl
theorem dL_law_533 : decode cL_law 533 = .ok (.iload_n 3, 1) := by decide +kernel
theorem sL_law_533 : ab_X rom K cL_law 12 2 533 (v0 :: v1 :: v2 :: .int x :: ls) st hp = ab_X rom K cL_law 12 2 534 (v0 :: v1 :: v2 :: .int x :: ls) (.int x :: st) hp := ax_iload_n dL_law_533 rfl rfl
theorem dL_law_534 : decode cL_law 534 = .ok (.iconst 1, 1) := by decide +kernel
theorem sL_law_534 : ab_X rom K cL_law 12 2 534 ls st hp = ab_X rom K cL_law 12 2 535 ls (.int 1 :: st) hp := ax_iconst dL_law_534 (by decide) rfl
theorem dL_law_535 : decode cL_law 535 = .ok (.iadd, 1) := by decide +kernel
theorem sL_law_535 : ab_X rom K cL_law 12 2 535 ls (.int y :: .int x :: st) hp = ab_X rom K cL_law 12 2 536 ls (.int (x + y) :: st) hp := ax_iadd dL_law_535 rfl
theorem dL_law_536 : decode cL_law 536 = .ok (.iaload, 1) := by decide +kernel
theorem sL_law_536 : ab_X rom K cL_law 12 2 536 ls (.int x :: .ref a :: st) hp = (ab_ard rom 0 hp a x).bind (fun v => ab_X rom K cL_law 12 2 537 ls (.int v :: st) hp) := ax_iaload dL_law_536 rfl
theorem dL_law_537 : decode cL_law 537 = .ok (.aload_n 0, 1) := by decide +kernel
theorem sL_law_537 : ab_X rom K cL_law 12 2 537 (.ref a :: ls) st hp = ab_X rom K cL_law 12 2 538 (.ref a :: ls) (.ref a :: st) hp := ax_aload_n dL_law_537 rfl rfl
theorem dL_law_538 : decode cL_law 538 = .ok (.iload_n 3, 1) := by decide +kernel
theorem sL_law_538 : ab_X rom K cL_law 12 2 538 (v0 :: v1 :: v2 :: .int x :: ls) st hp = ab_X rom K cL_law 12 2 539 (v0 :: v1 :: v2 :: .int x :: ls) (.int x :: st) hp := ax_iload_n dL_law_538 rfl rfl
theorem dL_law_539 : decode cL_law 539 = .ok (.iconst 2, 1) := by decide +kernel
theorem sL_law_539 : ab_X rom K cL_law 12 2 539 ls st hp = ab_X rom K cL_law 12 2 540 ls (.int 2 :: st) hp := ax_iconst dL_law_539 (by decide) rfl
theorem dL_law_540 : decode cL_law 540 = .ok (.iadd, 1) := by decide +kernel
theorem sL_law_540 : ab_X rom K cL_law 12 2 540 ls (.int y :: .int x :: st) hp = ab_X rom K cL_law 12 2 541 ls (.int (x + y) :: st) hp := ax_iadd dL_law_540 rfl
theorem dL_law_541 : decode cL_law 541 = .ok (.iaload, 1) := by decide +kernel
theorem sL_law_541 : ab_X rom K cL_law 12 2 541 ls (.int x :: .ref a :: st) hp = (ab_ard rom 0 hp a x).bind (fun v => ab_X rom K cL_law 12 2 542 ls (.int v :: st) hp) := ax_iaload dL_law_541 rfl
theorem dL_law_542 : decode cL_law 542 = .ok (.invokevirtual 56, 3) := by decide +kernel
theorem sL_law_542_0 : ab_X rom K cL_law 12 2 542 ls [w2, w1, .ref a] hp = if ab_iso hp a 7 = true then (K 182 (.ref a :: [w1, w2]) hp).bind (fun o => ab_X rom K cL_law 12 2 545 ls (o.1.toList ++ []) o.2) else none := ay_virtual (as := [w1, w2]) (st := []) dL_law_542 kc_12_56 rfl rfl (Nat.le_of_ble_eq_true rfl)
theorem sL_law_542_1 : ab_X rom K cL_law 12 2 542 ls [w2, w1, .ref a, v0] hp = if ab_iso hp a 7 = true then (K 182 (.ref a :: [w1, w2]) hp).bind (fun o => ab_X rom K cL_law 12 2 545 ls (o.1.toList ++ [v0]) o.2) else none := ay_virtual (as := [w1, w2]) (st := [v0]) dL_law_542 kc_12_56 rfl rfl (Nat.le_of_ble_eq_true rfl)
theorem sL_law_542_2 : ab_X rom K cL_law 12 2 542 ls [w2, w1, .ref a, v0, v1] hp = if ab_iso hp a 7 = true then (K 182 (.ref a :: [w1, w2]) hp).bind (fun o => ab_X rom K cL_law 12 2 545 ls (o.1.toList ++ [v0, v1]) o.2) else none := ay_virtual (as := [w1, w2]) (st := [v0, v1]) dL_law_542 kc_12_56 rfl rfl (Nat.le_of_ble_eq_true rfl)
theorem sL_law_542_3 : ab_X rom K cL_law 12 2 542 ls [w2, w1, .ref a, v0, v1, v2] hp = if ab_iso hp a 7 = true then (K 182 (.ref a :: [w1, w2]) hp).bind (fun o => ab_X rom K cL_law 12 2 545 ls (o.1.toList ++ [v0, v1, v2]) o.2) else none := ay_virtual (as := [w1, w2]) (st := [v0, v1, v2]) dL_law_542 kc_12_56 rfl rfl (Nat.le_of_ble_eq_true rfl)
theorem dL_law_545 : decode cL_law 545 = .ok (.if_icmp .eq 939, 3) := by decide +kernel
theorem sL_law_545 : ab_X rom K cL_law 12 2 545 ls (.int y :: .int x :: st) hp = if x = y then ab_X rom K cL_law 12 2 1484 ls st hp else ab_X rom K cL_law 12 2 548 ls st hp := ax_icmp_eq dL_law_545 (by decide) rfl
theorem dL_law_550 : decode cL_law 550 = .ok (.aload_n 1, 1) := by decide +kernel
theorem sL_law_550 : ab_X rom K cL_law 12 2 550 (v0 :: .ref a :: ls) st hp = ab_X rom K cL_law 12 2 551 (v0 :: .ref a :: ls) (.ref a :: st) hp := ax_aload_n dL_law_550 rfl rfl
theorem dL_law_551 : decode cL_law 551 = .ok (.aload_n 0, 1) := by decide +kernel
theorem sL_law_551 : ab_X rom K cL_law 12 2 551 (.ref a :: ls) st hp = ab_X rom K cL_law 12 2 552 (.ref a :: ls) (.ref a :: st) hp := ax_aload_n dL_law_551 rfl rfl
theorem dL_law_552 : decode cL_law 552 = .ok (.iload_n 3, 1) := by decide +kernel
theorem sL_law_552 : ab_X rom K cL_law 12 2 552 (v0 :: v1 :: v2 :: .int x :: ls) st hp = ab_X rom K cL_law 12 2 553 (v0 :: v1 :: v2 :: .int x :: ls) (.int x :: st) hp := ax_iload_n dL_law_552 rfl rfl
theorem dL_law_553 : decode cL_law 553 = .ok (.iconst 1, 1) := by decide +kernel
theorem sL_law_553 : ab_X rom K cL_law 12 2 553 ls st hp = ab_X rom K cL_law 12 2 554 ls (.int 1 :: st) hp := ax_iconst dL_law_553 (by decide) rfl
theorem dL_law_554 : decode cL_law 554 = .ok (.iadd, 1) := by decide +kernel
theorem sL_law_554 : ab_X rom K cL_law 12 2 554 ls (.int y :: .int x :: st) hp = ab_X rom K cL_law 12 2 555 ls (.int (x + y) :: st) hp := ax_iadd dL_law_554 rfl
theorem dL_law_555 : decode cL_law 555 = .ok (.iaload, 1) := by decide +kernel
theorem sL_law_555 : ab_X rom K cL_law 12 2 555 ls (.int x :: .ref a :: st) hp = (ab_ard rom 0 hp a x).bind (fun v => ab_X rom K cL_law 12 2 556 ls (.int v :: st) hp) := ax_iaload dL_law_555 rfl
theorem dL_law_556 : decode cL_law 556 = .ok (.aload_n 0, 1) := by decide +kernel
theorem sL_law_556 : ab_X rom K cL_law 12 2 556 (.ref a :: ls) st hp = ab_X rom K cL_law 12 2 557 (.ref a :: ls) (.ref a :: st) hp := ax_aload_n dL_law_556 rfl rfl
theorem dL_law_557 : decode cL_law 557 = .ok (.iload_n 3, 1) := by decide +kernel
theorem sL_law_557 : ab_X rom K cL_law 12 2 557 (v0 :: v1 :: v2 :: .int x :: ls) st hp = ab_X rom K cL_law 12 2 558 (v0 :: v1 :: v2 :: .int x :: ls) (.int x :: st) hp := ax_iload_n dL_law_557 rfl rfl
theorem dL_law_558 : decode cL_law 558 = .ok (.iconst 2, 1) := by decide +kernel
theorem sL_law_558 : ab_X rom K cL_law 12 2 558 ls st hp = ab_X rom K cL_law 12 2 559 ls (.int 2 :: st) hp := ax_iconst dL_law_558 (by decide) rfl
theorem dL_law_559 : decode cL_law 559 = .ok (.iadd, 1) := by decide +kernel
theorem sL_law_559 : ab_X rom K cL_law 12 2 559 ls (.int y :: .int x :: st) hp = ab_X rom K cL_law 12 2 560 ls (.int (x + y) :: st) hp := ax_iadd dL_law_559 rfl
theorem dL_law_560 : decode cL_law 560 = .ok (.iaload, 1) := by decide +kernel
theorem sL_law_560 : ab_X rom K cL_law 12 2 560 ls (.int x :: .ref a :: st) hp = (ab_ard rom 0 hp a x).bind (fun v => ab_X rom K cL_law 12 2 561 ls (.int v :: st) hp) := ax_iaload dL_law_560 rfl
theorem dL_law_561 : decode cL_law 561 = .ok (.aload_n 0, 1) := by decide +kernel
theorem sL_law_561 : ab_X rom K cL_law 12 2 561 (.ref a :: ls) st hp = ab_X rom K cL_law 12 2 562 (.ref a :: ls) (.ref a :: st) hp := ax_aload_n dL_law_561 rfl rfl
theorem dL_law_562 : decode cL_law 562 = .ok (.iload_n 3, 1) := by decide +kernel
theorem sL_law_562 : ab_X rom K cL_law 12 2 562 (v0 :: v1 :: v2 :: .int x :: ls) st hp = ab_X rom K cL_law 12 2 563 (v0 :: v1 :: v2 :: .int x :: ls) (.int x :: st) hp := ax_iload_n dL_law_562 rfl rfl
theorem dL_law_563 : decode cL_law 563 = .ok (.iconst 3, 1) := by decide +kernel
theorem sL_law_563 : ab_X rom K cL_law 12 2 563 ls st hp = ab_X rom K cL_law 12 2 564 ls (.int 3 :: st) hp := ax_iconst dL_law_563 (by decide) rfl
theorem dL_law_564 : decode cL_law 564 = .ok (.iadd, 1) := by decide +kernel
theorem sL_law_564 : ab_X rom K cL_law 12 2 564 ls (.int y :: .int x :: st) hp = ab_X rom K cL_law 12 2 565 ls (.int (x + y) :: st) hp := ax_iadd dL_law_564 rfl
theorem dL_law_565 : decode cL_law 565 = .ok (.iaload, 1) := by decide +kernel
theorem sL_law_565 : ab_X rom K cL_law 12 2 565 ls (.int x :: .ref a :: st) hp = (ab_ard rom 0 hp a x).bind (fun v => ab_X rom K cL_law 12 2 566 ls (.int v :: st) hp) := ax_iaload dL_law_565 rfl
theorem dL_law_566 : decode cL_law 566 = .ok (.invokevirtual 57, 3) := by decide +kernel
theorem sL_law_566_0 : ab_X rom K cL_law 12 2 566 ls [w3, w2, w1, .ref a] hp = if ab_iso hp a 6 = true then (K 114 (.ref a :: [w1, w2, w3]) hp).bind (fun o => ab_X rom K cL_law 12 2 569 ls (o.1.toList ++ []) o.2) else none := ay_virtual (as := [w1, w2, w3]) (st := []) dL_law_566 kc_12_57 rfl rfl (Nat.le_of_ble_eq_true rfl)
theorem sL_law_566_1 : ab_X rom K cL_law 12 2 566 ls [w3, w2, w1, .ref a, v0] hp = if ab_iso hp a 6 = true then (K 114 (.ref a :: [w1, w2, w3]) hp).bind (fun o => ab_X rom K cL_law 12 2 569 ls (o.1.toList ++ [v0]) o.2) else none := ay_virtual (as := [w1, w2, w3]) (st := [v0]) dL_law_566 kc_12_57 rfl rfl (Nat.le_of_ble_eq_true rfl)
theorem sL_law_566_2 : ab_X rom K cL_law 12 2 566 ls [w3, w2, w1, .ref a, v0, v1] hp = if ab_iso hp a 6 = true then (K 114 (.ref a :: [w1, w2, w3]) hp).bind (fun o => ab_X rom K cL_law 12 2 569 ls (o.1.toList ++ [v0, v1]) o.2) else none := ay_virtual (as := [w1, w2, w3]) (st := [v0, v1]) dL_law_566 kc_12_57 rfl rfl (Nat.le_of_ble_eq_true rfl)
theorem sL_law_566_3 : ab_X rom K cL_law 12 2 566 ls [w3, w2, w1, .ref a, v0, v1, v2] hp = if ab_iso hp a 6 = true then (K 114 (.ref a :: [w1, w2, w3]) hp).bind (fun o => ab_X rom K cL_law 12 2 569 ls (o.1.toList ++ [v0, v1, v2]) o.2) else none := ay_virtual (as := [w1, w2, w3]) (st := [v0, v1, v2]) dL_law_566 kc_12_57 rfl rfl (Nat.le_of_ble_eq_true rfl)
theorem dL_law_569 : decode cL_law 569 = .ok (.aload_n 2, 1) := by decide +kernel
theorem sL_law_569 : ab_X rom K cL_law 12 2 569 (v0 :: v1 :: .ref a :: ls) st hp = ab_X rom K cL_law 12 2 570 (v0 :: v1 :: .ref a :: ls) (.ref a :: st) hp := ax_aload_n dL_law_569 rfl rfl
theorem dL_law_570 : decode cL_law 570 = .ok (.aload_n 0, 1) := by decide +kernel
theorem sL_law_570 : ab_X rom K cL_law 12 2 570 (.ref a :: ls) st hp = ab_X rom K cL_law 12 2 571 (.ref a :: ls) (.ref a :: st) hp := ax_aload_n dL_law_570 rfl rfl
theorem dL_law_571 : decode cL_law 571 = .ok (.iload_n 3, 1) := by decide +kernel
theorem sL_law_571 : ab_X rom K cL_law 12 2 571 (v0 :: v1 :: v2 :: .int x :: ls) st hp = ab_X rom K cL_law 12 2 572 (v0 :: v1 :: v2 :: .int x :: ls) (.int x :: st) hp := ax_iload_n dL_law_571 rfl rfl
theorem dL_law_572 : decode cL_law 572 = .ok (.iconst 1, 1) := by decide +kernel
theorem sL_law_572 : ab_X rom K cL_law 12 2 572 ls st hp = ab_X rom K cL_law 12 2 573 ls (.int 1 :: st) hp := ax_iconst dL_law_572 (by decide) rfl
theorem dL_law_573 : decode cL_law 573 = .ok (.iadd, 1) := by decide +kernel
theorem sL_law_573 : ab_X rom K cL_law 12 2 573 ls (.int y :: .int x :: st) hp = ab_X rom K cL_law 12 2 574 ls (.int (x + y) :: st) hp := ax_iadd dL_law_573 rfl
theorem dL_law_574 : decode cL_law 574 = .ok (.iaload, 1) := by decide +kernel
theorem sL_law_574 : ab_X rom K cL_law 12 2 574 ls (.int x :: .ref a :: st) hp = (ab_ard rom 0 hp a x).bind (fun v => ab_X rom K cL_law 12 2 575 ls (.int v :: st) hp) := ax_iaload dL_law_574 rfl
theorem dL_law_575 : decode cL_law 575 = .ok (.aload_n 0, 1) := by decide +kernel
theorem sL_law_575 : ab_X rom K cL_law 12 2 575 (.ref a :: ls) st hp = ab_X rom K cL_law 12 2 576 (.ref a :: ls) (.ref a :: st) hp := ax_aload_n dL_law_575 rfl rfl
theorem dL_law_576 : decode cL_law 576 = .ok (.iload_n 3, 1) := by decide +kernel
theorem sL_law_576 : ab_X rom K cL_law 12 2 576 (v0 :: v1 :: v2 :: .int x :: ls) st hp = ab_X rom K cL_law 12 2 577 (v0 :: v1 :: v2 :: .int x :: ls) (.int x :: st) hp := ax_iload_n dL_law_576 rfl rfl
theorem dL_law_577 : decode cL_law 577 = .ok (.iconst 2, 1) := by decide +kernel
theorem sL_law_577 : ab_X rom K cL_law 12 2 577 ls st hp = ab_X rom K cL_law 12 2 578 ls (.int 2 :: st) hp := ax_iconst dL_law_577 (by decide) rfl
theorem dL_law_578 : decode cL_law 578 = .ok (.iadd, 1) := by decide +kernel
theorem sL_law_578 : ab_X rom K cL_law 12 2 578 ls (.int y :: .int x :: st) hp = ab_X rom K cL_law 12 2 579 ls (.int (x + y) :: st) hp := ax_iadd dL_law_578 rfl
theorem dL_law_579 : decode cL_law 579 = .ok (.iaload, 1) := by decide +kernel
theorem sL_law_579 : ab_X rom K cL_law 12 2 579 ls (.int x :: .ref a :: st) hp = (ab_ard rom 0 hp a x).bind (fun v => ab_X rom K cL_law 12 2 580 ls (.int v :: st) hp) := ax_iaload dL_law_579 rfl
theorem dL_law_580 : decode cL_law 580 = .ok (.aload_n 0, 1) := by decide +kernel
theorem sL_law_580 : ab_X rom K cL_law 12 2 580 (.ref a :: ls) st hp = ab_X rom K cL_law 12 2 581 (.ref a :: ls) (.ref a :: st) hp := ax_aload_n dL_law_580 rfl rfl
theorem dL_law_581 : decode cL_law 581 = .ok (.iload_n 3, 1) := by decide +kernel
theorem sL_law_581 : ab_X rom K cL_law 12 2 581 (v0 :: v1 :: v2 :: .int x :: ls) st hp = ab_X rom K cL_law 12 2 582 (v0 :: v1 :: v2 :: .int x :: ls) (.int x :: st) hp := ax_iload_n dL_law_581 rfl rfl
theorem dL_law_582 : decode cL_law 582 = .ok (.iconst 3, 1) := by decide +kernel
theorem sL_law_582 : ab_X rom K cL_law 12 2 582 ls st hp = ab_X rom K cL_law 12 2 583 ls (.int 3 :: st) hp := ax_iconst dL_law_582 (by decide) rfl
theorem dL_law_583 : decode cL_law 583 = .ok (.iadd, 1) := by decide +kernel
theorem sL_law_583 : ab_X rom K cL_law 12 2 583 ls (.int y :: .int x :: st) hp = ab_X rom K cL_law 12 2 584 ls (.int (x + y) :: st) hp := ax_iadd dL_law_583 rfl
theorem dL_law_584 : decode cL_law 584 = .ok (.iaload, 1) := by decide +kernel
theorem sL_law_584 : ab_X rom K cL_law 12 2 584 ls (.int x :: .ref a :: st) hp = (ab_ard rom 0 hp a x).bind (fun v => ab_X rom K cL_law 12 2 585 ls (.int v :: st) hp) := ax_iaload dL_law_584 rfl
theorem dL_law_585 : decode cL_law 585 = .ok (.invokevirtual 60, 3) := by decide +kernel
theorem sL_law_585_0 : ab_X rom K cL_law 12 2 585 ls [w3, w2, w1, .ref a] hp = if ab_iso hp a 7 = true then (K 223 (.ref a :: [w1, w2, w3]) hp).bind (fun o => ab_X rom K cL_law 12 2 588 ls (o.1.toList ++ []) o.2) else none := ay_virtual (as := [w1, w2, w3]) (st := []) dL_law_585 kc_12_60 rfl rfl (Nat.le_of_ble_eq_true rfl)
theorem sL_law_585_1 : ab_X rom K cL_law 12 2 585 ls [w3, w2, w1, .ref a, v0] hp = if ab_iso hp a 7 = true then (K 223 (.ref a :: [w1, w2, w3]) hp).bind (fun o => ab_X rom K cL_law 12 2 588 ls (o.1.toList ++ [v0]) o.2) else none := ay_virtual (as := [w1, w2, w3]) (st := [v0]) dL_law_585 kc_12_60 rfl rfl (Nat.le_of_ble_eq_true rfl)
theorem sL_law_585_2 : ab_X rom K cL_law 12 2 585 ls [w3, w2, w1, .ref a, v0, v1] hp = if ab_iso hp a 7 = true then (K 223 (.ref a :: [w1, w2, w3]) hp).bind (fun o => ab_X rom K cL_law 12 2 588 ls (o.1.toList ++ [v0, v1]) o.2) else none := ay_virtual (as := [w1, w2, w3]) (st := [v0, v1]) dL_law_585 kc_12_60 rfl rfl (Nat.le_of_ble_eq_true rfl)
theorem sL_law_585_3 : ab_X rom K cL_law 12 2 585 ls [w3, w2, w1, .ref a, v0, v1, v2] hp = if ab_iso hp a 7 = true then (K 223 (.ref a :: [w1, w2, w3]) hp).bind (fun o => ab_X rom K cL_law 12 2 588 ls (o.1.toList ++ [v0, v1, v2]) o.2) else none := ay_virtual (as := [w1, w2, w3]) (st := [v0, v1, v2]) dL_law_585 kc_12_60 rfl rfl (Nat.le_of_ble_eq_true rfl)
theorem dL_law_588 : decode cL_law 588 = .ok (.if_icmp .eq 896, 3) := by decide +kernel
theorem sL_law_588 : ab_X rom K cL_law 12 2 588 ls (.int y :: .int x :: st) hp = if x = y then ab_X rom K cL_law 12 2 1484 ls st hp else ab_X rom K cL_law 12 2 591 ls st hp := ax_icmp_eq dL_law_588 (by decide) rfl
theorem dL_law_593 : decode cL_law 593 = .ok (.aload_n 1, 1) := by decide +kernel
theorem sL_law_593 : ab_X rom K cL_law 12 2 593 (v0 :: .ref a :: ls) st hp = ab_X rom K cL_law 12 2 594 (v0 :: .ref a :: ls) (.ref a :: st) hp := ax_aload_n dL_law_593 rfl rfl
theorem dL_law_594 : decode cL_law 594 = .ok (.aload_n 0, 1) := by decide +kernel
theorem sL_law_594 : ab_X rom K cL_law 12 2 594 (.ref a :: ls) st hp = ab_X rom K cL_law 12 2 595 (.ref a :: ls) (.ref a :: st) hp := ax_aload_n dL_law_594 rfl rfl
theorem dL_law_595 : decode cL_law 595 = .ok (.iload_n 3, 1) := by decide +kernel
theorem sL_law_595 : ab_X rom K cL_law 12 2 595 (v0 :: v1 :: v2 :: .int x :: ls) st hp = ab_X rom K cL_law 12 2 596 (v0 :: v1 :: v2 :: .int x :: ls) (.int x :: st) hp := ax_iload_n dL_law_595 rfl rfl
theorem dL_law_596 : decode cL_law 596 = .ok (.iconst 1, 1) := by decide +kernel
theorem sL_law_596 : ab_X rom K cL_law 12 2 596 ls st hp = ab_X rom K cL_law 12 2 597 ls (.int 1 :: st) hp := ax_iconst dL_law_596 (by decide) rfl
theorem dL_law_597 : decode cL_law 597 = .ok (.iadd, 1) := by decide +kernel
theorem sL_law_597 : ab_X rom K cL_law 12 2 597 ls (.int y :: .int x :: st) hp = ab_X rom K cL_law 12 2 598 ls (.int (x + y) :: st) hp := ax_iadd dL_law_597 rfl
theorem dL_law_598 : decode cL_law 598 = .ok (.iaload, 1) := by decide +kernel
theorem sL_law_598 : ab_X rom K cL_law 12 2 598 ls (.int x :: .ref a :: st) hp = (ab_ard rom 0 hp a x).bind (fun v => ab_X rom K cL_law 12 2 599 ls (.int v :: st) hp) := ax_iaload dL_law_598 rfl
theorem dL_law_599 : decode cL_law 599 = .ok (.aload_n 0, 1) := by decide +kernel
theorem sL_law_599 : ab_X rom K cL_law 12 2 599 (.ref a :: ls) st hp = ab_X rom K cL_law 12 2 600 (.ref a :: ls) (.ref a :: st) hp := ax_aload_n dL_law_599 rfl rfl
theorem dL_law_600 : decode cL_law 600 = .ok (.iload_n 3, 1) := by decide +kernel
theorem sL_law_600 : ab_X rom K cL_law 12 2 600 (v0 :: v1 :: v2 :: .int x :: ls) st hp = ab_X rom K cL_law 12 2 601 (v0 :: v1 :: v2 :: .int x :: ls) (.int x :: st) hp := ax_iload_n dL_law_600 rfl rfl
theorem dL_law_601 : decode cL_law 601 = .ok (.iconst 2, 1) := by decide +kernel
theorem sL_law_601 : ab_X rom K cL_law 12 2 601 ls st hp = ab_X rom K cL_law 12 2 602 ls (.int 2 :: st) hp := ax_iconst dL_law_601 (by decide) rfl
theorem dL_law_602 : decode cL_law 602 = .ok (.iadd, 1) := by decide +kernel
theorem sL_law_602 : ab_X rom K cL_law 12 2 602 ls (.int y :: .int x :: st) hp = ab_X rom K cL_law 12 2 603 ls (.int (x + y) :: st) hp := ax_iadd dL_law_602 rfl
theorem dL_law_603 : decode cL_law 603 = .ok (.iaload, 1) := by decide +kernel
theorem sL_law_603 : ab_X rom K cL_law 12 2 603 ls (.int x :: .ref a :: st) hp = (ab_ard rom 0 hp a x).bind (fun v => ab_X rom K cL_law 12 2 604 ls (.int v :: st) hp) := ax_iaload dL_law_603 rfl
theorem dL_law_604 : decode cL_law 604 = .ok (.aload_n 0, 1) := by decide +kernel
theorem sL_law_604 : ab_X rom K cL_law 12 2 604 (.ref a :: ls) st hp = ab_X rom K cL_law 12 2 605 (.ref a :: ls) (.ref a :: st) hp := ax_aload_n dL_law_604 rfl rfl
theorem dL_law_605 : decode cL_law 605 = .ok (.iload_n 3, 1) := by decide +kernel
theorem sL_law_605 : ab_X rom K cL_law 12 2 605 (v0 :: v1 :: v2 :: .int x :: ls) st hp = ab_X rom K cL_law 12 2 606 (v0 :: v1 :: v2 :: .int x :: ls) (.int x :: st) hp := ax_iload_n dL_law_605 rfl rfl
end
