/-! the law, step by step (printed by wip/whole/gen_law.py) -/
section
variable {rom : List (List Int32)} {K : Nat → List Value → ab_H → Option ab_O} {ls st : List Value} {hp : ab_H} {x y z : Int32} {a a2 : Nat} {sp dp : Int32} {u w : Int64} {v0 v1 v2 v3 v4 v5 v6 v7 v8 v9 v10 v11 v12 v13 v14 v15 w1 w2 w3 w4 w5 w6 : Value}
theorem dL_law_1278 : decode cL_law 1278 = .ok (.aload_n 0, 1) := by decide +kernel
theorem sL_law_1278 : ab_X rom K cL_law 12 2 1278 (.ref a :: ls) st hp = ab_X rom K cL_law 12 2 1279 (.ref a :: ls) (.ref a :: st) hp := ax_aload_n dL_law_1278 rfl rfl
theorem dL_law_1279 : decode cL_law 1279 = .ok (.iload_n 3, 1) := by decide +kernel
theorem sL_law_1279 : ab_X rom K cL_law 12 2 1279 (v0 :: v1 :: v2 :: .int x :: ls) st hp = ab_X rom K cL_law 12 2 1280 (v0 :: v1 :: v2 :: .int x :: ls) (.int x :: st) hp := ax_iload_n dL_law_1279 rfl rfl
theorem dL_law_1280 : decode cL_law 1280 = .ok (.iconst 2, 1) := by decide +kernel
theorem sL_law_1280 : ab_X rom K cL_law 12 2 1280 ls st hp = ab_X rom K cL_law 12 2 1281 ls (.int 2 :: st) hp := ax_iconst dL_law_1280 (by decide) rfl
theorem dL_law_1281 : decode cL_law 1281 = .ok (.iadd, 1) := by decide +kernel
theorem sL_law_1281 : ab_X rom K cL_law 12 2 1281 ls (.int y :: .int x :: st) hp = ab_X rom K cL_law 12 2 1282 ls (.int (x + y) :: st) hp := ax_iadd dL_law_1281 rfl
theorem dL_law_1282 : decode cL_law 1282 = .ok (.iaload, 1) := by decide +kernel
theorem sL_law_1282 : ab_X rom K cL_law 12 2 1282 ls (.int x :: .ref a :: st) hp = (ab_ard rom 0 hp a x).bind (fun v => ab_X rom K cL_law 12 2 1283 ls (.int v :: st) hp) := ax_iaload dL_law_1282 rfl
theorem dL_law_1283 : decode cL_law 1283 = .ok (.aload_n 0, 1) := by decide +kernel
theorem sL_law_1283 : ab_X rom K cL_law 12 2 1283 (.ref a :: ls) st hp = ab_X rom K cL_law 12 2 1284 (.ref a :: ls) (.ref a :: st) hp := ax_aload_n dL_law_1283 rfl rfl
theorem dL_law_1284 : decode cL_law 1284 = .ok (.iload_n 3, 1) := by decide +kernel
theorem sL_law_1284 : ab_X rom K cL_law 12 2 1284 (v0 :: v1 :: v2 :: .int x :: ls) st hp = ab_X rom K cL_law 12 2 1285 (v0 :: v1 :: v2 :: .int x :: ls) (.int x :: st) hp := ax_iload_n dL_law_1284 rfl rfl
theorem dL_law_1285 : decode cL_law 1285 = .ok (.iconst 3, 1) := by decide +kernel
theorem sL_law_1285 : ab_X rom K cL_law 12 2 1285 ls st hp = ab_X rom K cL_law 12 2 1286 ls (.int 3 :: st) hp := ax_iconst dL_law_1285 (by decide) rfl
theorem dL_law_1286 : decode cL_law 1286 = .ok (.iadd, 1) := by decide +kernel
theorem sL_law_1286 : ab_X rom K cL_law 12 2 1286 ls (.int y :: .int x :: st) hp = ab_X rom K cL_law 12 2 1287 ls (.int (x + y) :: st) hp := ax_iadd dL_law_1286 rfl
theorem dL_law_1287 : decode cL_law 1287 = .ok (.iaload, 1) := by decide +kernel
theorem sL_law_1287 : ab_X rom K cL_law 12 2 1287 ls (.int x :: .ref a :: st) hp = (ab_ard rom 0 hp a x).bind (fun v => ab_X rom K cL_law 12 2 1288 ls (.int v :: st) hp) := ax_iaload dL_law_1287 rfl
theorem dL_law_1288 : decode cL_law 1288 = .ok (.invokevirtual 145, 3) := by decide +kernel
theorem sL_law_1288_0 : ab_X rom K cL_law 12 2 1288 ls [w3, w2, w1, .ref a] hp = if ab_iso hp a 7 = true then (K 155 (.ref a :: [w1, w2, w3]) hp).bind (fun o => ab_X rom K cL_law 12 2 1291 ls (o.1.toList ++ []) o.2) else none := ay_virtual (as := [w1, w2, w3]) (st := []) dL_law_1288 kc_12_145 rfl rfl (Nat.le_of_ble_eq_true rfl)
theorem sL_law_1288_1 : ab_X rom K cL_law 12 2 1288 ls [w3, w2, w1, .ref a, v0] hp = if ab_iso hp a 7 = true then (K 155 (.ref a :: [w1, w2, w3]) hp).bind (fun o => ab_X rom K cL_law 12 2 1291 ls (o.1.toList ++ [v0]) o.2) else none := ay_virtual (as := [w1, w2, w3]) (st := [v0]) dL_law_1288 kc_12_145 rfl rfl (Nat.le_of_ble_eq_true rfl)
theorem sL_law_1288_2 : ab_X rom K cL_law 12 2 1288 ls [w3, w2, w1, .ref a, v0, v1] hp = if ab_iso hp a 7 = true then (K 155 (.ref a :: [w1, w2, w3]) hp).bind (fun o => ab_X rom K cL_law 12 2 1291 ls (o.1.toList ++ [v0, v1]) o.2) else none := ay_virtual (as := [w1, w2, w3]) (st := [v0, v1]) dL_law_1288 kc_12_145 rfl rfl (Nat.le_of_ble_eq_true rfl)
theorem sL_law_1288_3 : ab_X rom K cL_law 12 2 1288 ls [w3, w2, w1, .ref a, v0, v1, v2] hp = if ab_iso hp a 7 = true then (K 155 (.ref a :: [w1, w2, w3]) hp).bind (fun o => ab_X rom K cL_law 12 2 1291 ls (o.1.toList ++ [v0, v1, v2]) o.2) else none := ay_virtual (as := [w1, w2, w3]) (st := [v0, v1, v2]) dL_law_1288 kc_12_145 rfl rfl (Nat.le_of_ble_eq_true rfl)
theorem dL_law_1291 : decode cL_law 1291 = .ok (.if_icmp .eq 193, 3) := by decide +kernel
theorem sL_law_1291 : ab_X rom K cL_law 12 2 1291 ls (.int y :: .int x :: st) hp = if x = y then ab_X rom K cL_law 12 2 1484 ls st hp else ab_X rom K cL_law 12 2 1294 ls st hp := ax_icmp_eq dL_law_1291 (by decide) rfl
theorem dL_law_1296 : decode cL_law 1296 = .ok (.aload_n 1, 1) := by decide +kernel
theorem sL_law_1296 : ab_X rom K cL_law 12 2 1296 (v0 :: .ref a :: ls) st hp = ab_X rom K cL_law 12 2 1297 (v0 :: .ref a :: ls) (.ref a :: st) hp := ax_aload_n dL_law_1296 rfl rfl
theorem dL_law_1297 : decode cL_law 1297 = .ok (.aload_n 0, 1) := by decide +kernel
theorem sL_law_1297 : ab_X rom K cL_law 12 2 1297 (.ref a :: ls) st hp = ab_X rom K cL_law 12 2 1298 (.ref a :: ls) (.ref a :: st) hp := ax_aload_n dL_law_1297 rfl rfl
theorem dL_law_1298 : decode cL_law 1298 = .ok (.iload_n 3, 1) := by decide +kernel
theorem sL_law_1298 : ab_X rom K cL_law 12 2 1298 (v0 :: v1 :: v2 :: .int x :: ls) st hp = ab_X rom K cL_law 12 2 1299 (v0 :: v1 :: v2 :: .int x :: ls) (.int x :: st) hp := ax_iload_n dL_law_1298 rfl rfl
theorem dL_law_1299 : decode cL_law 1299 = .ok (.iconst 1, 1) := by decide +kernel
theorem sL_law_1299 : ab_X rom K cL_law 12 2 1299 ls st hp = ab_X rom K cL_law 12 2 1300 ls (.int 1 :: st) hp := ax_iconst dL_law_1299 (by decide) rfl
theorem dL_law_1300 : decode cL_law 1300 = .ok (.iadd, 1) := by decide +kernel
theorem sL_law_1300 : ab_X rom K cL_law 12 2 1300 ls (.int y :: .int x :: st) hp = ab_X rom K cL_law 12 2 1301 ls (.int (x + y) :: st) hp := ax_iadd dL_law_1300 rfl
theorem dL_law_1301 : decode cL_law 1301 = .ok (.iaload, 1) := by decide +kernel
theorem sL_law_1301 : ab_X rom K cL_law 12 2 1301 ls (.int x :: .ref a :: st) hp = (ab_ard rom 0 hp a x).bind (fun v => ab_X rom K cL_law 12 2 1302 ls (.int v :: st) hp) := ax_iaload dL_law_1301 rfl
theorem dL_law_1302 : decode cL_law 1302 = .ok (.aload_n 0, 1) := by decide +kernel
theorem sL_law_1302 : ab_X rom K cL_law 12 2 1302 (.ref a :: ls) st hp = ab_X rom K cL_law 12 2 1303 (.ref a :: ls) (.ref a :: st) hp := ax_aload_n dL_law_1302 rfl rfl
theorem dL_law_1303 : decode cL_law 1303 = .ok (.iload_n 3, 1) := by decide +kernel
theorem sL_law_1303 : ab_X rom K cL_law 12 2 1303 (v0 :: v1 :: v2 :: .int x :: ls) st hp = ab_X rom K cL_law 12 2 1304 (v0 :: v1 :: v2 :: .int x :: ls) (.int x :: st) hp := ax_iload_n dL_law_1303 rfl rfl
theorem dL_law_1304 : decode cL_law 1304 = .ok (.iconst 2, 1) := by decide +kernel
theorem sL_law_1304 : ab_X rom K cL_law 12 2 1304 ls st hp = ab_X rom K cL_law 12 2 1305 ls (.int 2 :: st) hp := ax_iconst dL_law_1304 (by decide) rfl
theorem dL_law_1305 : decode cL_law 1305 = .ok (.iadd, 1) := by decide +kernel
theorem sL_law_1305 : ab_X rom K cL_law 12 2 1305 ls (.int y :: .int x :: st) hp = ab_X rom K cL_law 12 2 1306 ls (.int (x + y) :: st) hp := ax_iadd dL_law_1305 rfl
theorem dL_law_1306 : decode cL_law 1306 = .ok (.iaload, 1) := by decide +kernel
theorem sL_law_1306 : ab_X rom K cL_law 12 2 1306 ls (.int x :: .ref a :: st) hp = (ab_ard rom 0 hp a x).bind (fun v => ab_X rom K cL_law 12 2 1307 ls (.int v :: st) hp) := ax_iaload dL_law_1306 rfl
theorem dL_law_1307 : decode cL_law 1307 = .ok (.aload_n 0, 1) := by decide +kernel
theorem sL_law_1307 : ab_X rom K cL_law 12 2 1307 (.ref a :: ls) st hp = ab_X rom K cL_law 12 2 1308 (.ref a :: ls) (.ref a :: st) hp := ax_aload_n dL_law_1307 rfl rfl
theorem dL_law_1308 : decode cL_law 1308 = .ok (.iload_n 3, 1) := by decide +kernel
theorem sL_law_1308 : ab_X rom K cL_law 12 2 1308 (v0 :: v1 :: v2 :: .int x :: ls) st hp = ab_X rom K cL_law 12 2 1309 (v0 :: v1 :: v2 :: .int x :: ls) (.int x :: st) hp := ax_iload_n dL_law_1308 rfl rfl
theorem dL_law_1309 : decode cL_law 1309 = .ok (.iconst 3, 1) := by decide +kernel
theorem sL_law_1309 : ab_X rom K cL_law 12 2 1309 ls st hp = ab_X rom K cL_law 12 2 1310 ls (.int 3 :: st) hp := ax_iconst dL_law_1309 (by decide) rfl
theorem dL_law_1310 : decode cL_law 1310 = .ok (.iadd, 1) := by decide +kernel
theorem sL_law_1310 : ab_X rom K cL_law 12 2 1310 ls (.int y :: .int x :: st) hp = ab_X rom K cL_law 12 2 1311 ls (.int (x + y) :: st) hp := ax_iadd dL_law_1310 rfl
theorem dL_law_1311 : decode cL_law 1311 = .ok (.iaload, 1) := by decide +kernel
theorem sL_law_1311 : ab_X rom K cL_law 12 2 1311 ls (.int x :: .ref a :: st) hp = (ab_ard rom 0 hp a x).bind (fun v => ab_X rom K cL_law 12 2 1312 ls (.int v :: st) hp) := ax_iaload dL_law_1311 rfl
theorem dL_law_1312 : decode cL_law 1312 = .ok (.aload_n 0, 1) := by decide +kernel
theorem sL_law_1312 : ab_X rom K cL_law 12 2 1312 (.ref a :: ls) st hp = ab_X rom K cL_law 12 2 1313 (.ref a :: ls) (.ref a :: st) hp := ax_aload_n dL_law_1312 rfl rfl
theorem dL_law_1313 : decode cL_law 1313 = .ok (.iload_n 3, 1) := by decide +kernel
theorem sL_law_1313 : ab_X rom K cL_law 12 2 1313 (v0 :: v1 :: v2 :: .int x :: ls) st hp = ab_X rom K cL_law 12 2 1314 (v0 :: v1 :: v2 :: .int x :: ls) (.int x :: st) hp := ax_iload_n dL_law_1313 rfl rfl
theorem dL_law_1314 : decode cL_law 1314 = .ok (.iconst 4, 1) := by decide +kernel
theorem sL_law_1314 : ab_X rom K cL_law 12 2 1314 ls st hp = ab_X rom K cL_law 12 2 1315 ls (.int 4 :: st) hp := ax_iconst dL_law_1314 (by decide) rfl
theorem dL_law_1315 : decode cL_law 1315 = .ok (.iadd, 1) := by decide +kernel
theorem sL_law_1315 : ab_X rom K cL_law 12 2 1315 ls (.int y :: .int x :: st) hp = ab_X rom K cL_law 12 2 1316 ls (.int (x + y) :: st) hp := ax_iadd dL_law_1315 rfl
theorem dL_law_1316 : decode cL_law 1316 = .ok (.iaload, 1) := by decide +kernel
theorem sL_law_1316 : ab_X rom K cL_law 12 2 1316 ls (.int x :: .ref a :: st) hp = (ab_ard rom 0 hp a x).bind (fun v => ab_X rom K cL_law 12 2 1317 ls (.int v :: st) hp) := ax_iaload dL_law_1316 rfl
theorem dL_law_1317 : decode cL_law 1317 = .ok (.invokevirtual 146, 3) := by decide +kernel
theorem sL_law_1317_0 : ab_X rom K cL_law 12 2 1317 ls [w4, w3, w2, w1, .ref a] hp = if ab_iso hp a 6 = true then (K 90 (.ref a :: [w1, w2, w3, w4]) hp).bind (fun o => ab_X rom K cL_law 12 2 1320 ls (o.1.toList ++ []) o.2) else none := ay_virtual (as := [w1, w2, w3, w4]) (st := []) dL_law_1317 kc_12_146 rfl rfl (Nat.le_of_ble_eq_true rfl)
theorem sL_law_1317_1 : ab_X rom K cL_law 12 2 1317 ls [w4, w3, w2, w1, .ref a, v0] hp = if ab_iso hp a 6 = true then (K 90 (.ref a :: [w1, w2, w3, w4]) hp).bind (fun o => ab_X rom K cL_law 12 2 1320 ls (o.1.toList ++ [v0]) o.2) else none := ay_virtual (as := [w1, w2, w3, w4]) (st := [v0]) dL_law_1317 kc_12_146 rfl rfl (Nat.le_of_ble_eq_true rfl)
theorem sL_law_1317_2 : ab_X rom K cL_law 12 2 1317 ls [w4, w3, w2, w1, .ref a, v0, v1] hp = if ab_iso hp a 6 = true then (K 90 (.ref a :: [w1, w2, w3, w4]) hp).bind (fun o => ab_X rom K cL_law 12 2 1320 ls (o.1.toList ++ [v0, v1]) o.2) else none := ay_virtual (as := [w1, w2, w3, w4]) (st := [v0, v1]) dL_law_1317 kc_12_146 rfl rfl (Nat.le_of_ble_eq_true rfl)
theorem sL_law_1317_3 : ab_X rom K cL_law 12 2 1317 ls [w4, w3, w2, w1, .ref a, v0, v1, v2] hp = if ab_iso hp a 6 = true then (K 90 (.ref a :: [w1, w2, w3, w4]) hp).bind (fun o => ab_X rom K cL_law 12 2 1320 ls (o.1.toList ++ [v0, v1, v2]) o.2) else none := ay_virtual (as := [w1, w2, w3, w4]) (st := [v0, v1, v2]) dL_law_1317 kc_12_146 rfl rfl (Nat.le_of_ble_eq_true rfl)
theorem dL_law_1320 : decode cL_law 1320 = .ok (.aload_n 2, 1) := by decide +kernel
theorem sL_law_1320 : ab_X rom K cL_law 12 2 1320 (v0 :: v1 :: .ref a :: ls) st hp = ab_X rom K cL_law 12 2 1321 (v0 :: v1 :: .ref a :: ls) (.ref a :: st) hp := ax_aload_n dL_law_1320 rfl rfl
theorem dL_law_1321 : decode cL_law 1321 = .ok (.aload_n 0, 1) := by decide +kernel
theorem sL_law_1321 : ab_X rom K cL_law 12 2 1321 (.ref a :: ls) st hp = ab_X rom K cL_law 12 2 1322 (.ref a :: ls) (.ref a :: st) hp := ax_aload_n dL_law_1321 rfl rfl
theorem dL_law_1322 : decode cL_law 1322 = .ok (.iload_n 3, 1) := by decide +kernel
theorem sL_law_1322 : ab_X rom K cL_law 12 2 1322 (v0 :: v1 :: v2 :: .int x :: ls) st hp = ab_X rom K cL_law 12 2 1323 (v0 :: v1 :: v2 :: .int x :: ls) (.int x :: st) hp := ax_iload_n dL_law_1322 rfl rfl
theorem dL_law_1323 : decode cL_law 1323 = .ok (.iconst 1, 1) := by decide +kernel
theorem sL_law_1323 : ab_X rom K cL_law 12 2 1323 ls st hp = ab_X rom K cL_law 12 2 1324 ls (.int 1 :: st) hp := ax_iconst dL_law_1323 (by decide) rfl
theorem dL_law_1324 : decode cL_law 1324 = .ok (.iadd, 1) := by decide +kernel
theorem sL_law_1324 : ab_X rom K cL_law 12 2 1324 ls (.int y :: .int x :: st) hp = ab_X rom K cL_law 12 2 1325 ls (.int (x + y) :: st) hp := ax_iadd dL_law_1324 rfl
theorem dL_law_1325 : decode cL_law 1325 = .ok (.iaload, 1) := by decide +kernel
theorem sL_law_1325 : ab_X rom K cL_law 12 2 1325 ls (.int x :: .ref a :: st) hp = (ab_ard rom 0 hp a x).bind (fun v => ab_X rom K cL_law 12 2 1326 ls (.int v :: st) hp) := ax_iaload dL_law_1325 rfl
theorem dL_law_1326 : decode cL_law 1326 = .ok (.aload_n 0, 1) := by decide +kernel
theorem sL_law_1326 : ab_X rom K cL_law 12 2 1326 (.ref a :: ls) st hp = ab_X rom K cL_law 12 2 1327 (.ref a :: ls) (.ref a :: st) hp := ax_aload_n dL_law_1326 rfl rfl
theorem dL_law_1327 : decode cL_law 1327 = .ok (.iload_n 3, 1) := by decide +kernel
theorem sL_law_1327 : ab_X rom K cL_law 12 2 1327 (v0 :: v1 :: v2 :: .int x :: ls) st hp = ab_X rom K cL_law 12 2 1328 (v0 :: v1 :: v2 :: .int x :: ls) (.int x :: st) hp := ax_iload_n dL_law_1327 rfl rfl
theorem dL_law_1328 : decode cL_law 1328 = .ok (.iconst 2, 1) := by decide +kernel
theorem sL_law_1328 : ab_X rom K cL_law 12 2 1328 ls st hp = ab_X rom K cL_law 12 2 1329 ls (.int 2 :: st) hp := ax_iconst dL_law_1328 (by decide) rfl
theorem dL_law_1329 : decode cL_law 1329 = .ok (.iadd, 1) := by decide +kernel
theorem sL_law_1329 : ab_X rom K cL_law 12 2 1329 ls (.int y :: .int x :: st) hp = ab_X rom K cL_law 12 2 1330 ls (.int (x + y) :: st) hp := ax_iadd dL_law_1329 rfl
theorem dL_law_1330 : decode cL_law 1330 = .ok (.iaload, 1) := by decide +kernel
theorem sL_law_1330 : ab_X rom K cL_law 12 2 1330 ls (.int x :: .ref a :: st) hp = (ab_ard rom 0 hp a x).bind (fun v => ab_X rom K cL_law 12 2 1331 ls (.int v :: st) hp) := ax_iaload dL_law_1330 rfl
theorem dL_law_1331 : decode cL_law 1331 = .ok (.aload_n 0, 1) := by decide +kernel
theorem sL_law_1331 : ab_X rom K cL_law 12 2 1331 (.ref a :: ls) st hp = ab_X rom K cL_law 12 2 1332 (.ref a :: ls) (.ref a :: st) hp := ax_aload_n dL_law_1331 rfl rfl
theorem dL_law_1332 : decode cL_law 1332 = .ok (.iload_n 3, 1) := by decide +kernel
theorem sL_law_1332 : ab_X rom K cL_law 12 2 1332 (v0 :: v1 :: v2 :: .int x :: ls) st hp = ab_X rom K cL_law 12 2 1333 (v0 :: v1 :: v2 :: .int x :: ls) (.int x :: st) hp := ax_iload_n dL_law_1332 rfl rfl
theorem dL_law_1333 : decode cL_law 1333 = .ok (.iconst 3, 1) := by decide +kernel
theorem sL_law_1333 : ab_X rom K cL_law 12 2 1333 ls st hp = ab_X rom K cL_law 12 2 1334 ls (.int 3 :: st) hp := ax_iconst dL_law_1333 (by decide) rfl
theorem dL_law_1334 : decode cL_law 1334 = .ok (.iadd, 1) := by decide +kernel
theorem sL_law_1334 : ab_X rom K cL_law 12 2 1334 ls (.int y :: .int x :: st) hp = ab_X rom K cL_law 12 2 1335 ls (.int (x + y) :: st) hp := ax_iadd dL_law_1334 rfl
theorem dL_law_1335 : decode cL_law 1335 = .ok (.iaload, 1) := by decide +kernel
theorem sL_law_1335 : ab_X rom K cL_law 12 2 1335 ls (.int x :: .ref a :: st) hp = (ab_ard rom 0 hp a x).bind (fun v => ab_X rom K cL_law 12 2 1336 ls (.int v :: st) hp) := ax_iaload dL_law_1335 rfl
theorem dL_law_1336 : decode cL_law 1336 = .ok (.aload_n 0, 1) := by decide +kernel
theorem sL_law_1336 : ab_X rom K cL_law 12 2 1336 (.ref a :: ls) st hp = ab_X rom K cL_law 12 2 1337 (.ref a :: ls) (.ref a :: st) hp := ax_aload_n dL_law_1336 rfl rfl
theorem dL_law_1337 : decode cL_law 1337 = .ok (.iload_n 3, 1) := by decide +kernel
theorem sL_law_1337 : ab_X rom K cL_law 12 2 1337 (v0 :: v1 :: v2 :: .int x :: ls) st hp = ab_X rom K cL_law 12 2 1338 (v0 :: v1 :: v2 :: .int x :: ls) (.int x :: st) hp := ax_iload_n dL_law_1337 rfl rfl
theorem dL_law_1338 : decode cL_law 1338 = .ok (.iconst 4, 1) := by decide +kernel
theorem sL_law_1338 : ab_X rom K cL_law 12 2 1338 ls st hp = ab_X rom K cL_law 12 2 1339 ls (.int 4 :: st) hp := ax_iconst dL_law_1338 (by decide) rfl
theorem dL_law_1339 : decode cL_law 1339 = .ok (.iadd, 1) := by decide +kernel
theorem sL_law_1339 : ab_X rom K cL_law 12 2 1339 ls (.int y :: .int x :: st) hp = ab_X rom K cL_law 12 2 1340 ls (.int (x + y) :: st) hp := ax_iadd dL_law_1339 rfl
theorem dL_law_1340 : decode cL_law 1340 = .ok (.iaload, 1) := by decide +kernel
theorem sL_law_1340 : ab_X rom K cL_law 12 2 1340 ls (.int x :: .ref a :: st) hp = (ab_ard rom 0 hp a x).bind (fun v => ab_X rom K cL_law 12 2 1341 ls (.int v :: st) hp) := ax_iaload dL_law_1340 rfl
theorem dL_law_1341 : decode cL_law 1341 = .ok (.invokevirtual 149, 3) := by decide +kernel
theorem sL_law_1341_0 : ab_X rom K cL_law 12 2 1341 ls [w4, w3, w2, w1, .ref a] hp = if ab_iso hp a 7 = true then (K 150 (.ref a :: [w1, w2, w3, w4]) hp).bind (fun o => ab_X rom K cL_law 12 2 1344 ls (o.1.toList ++ []) o.2) else none := ay_virtual (as := [w1, w2, w3, w4]) (st := []) dL_law_1341 kc_12_149 rfl rfl (Nat.le_of_ble_eq_true rfl)
theorem sL_law_1341_1 : ab_X rom K cL_law 12 2 1341 ls [w4, w3, w2, w1, .ref a, v0] hp = if ab_iso hp a 7 = true then (K 150 (.ref a :: [w1, w2, w3, w4]) hp).bind (fun o => ab_X rom K cL_law 12 2 1344 ls (o.1.toList ++ [v0]) o.2) else none := ay_virtual (as := [w1, w2, w3, w4]) (st := [v0]) dL_law_1341 kc_12_149 rfl rfl (Nat.le_of_ble_eq_true rfl)
theorem sL_law_1341_2 : ab_X rom K cL_law 12 2 1341 ls [w4, w3, w2, w1, .ref a, v0, v1] hp = if ab_iso hp a 7 = true then (K 150 (.ref a :: [w1, w2, w3, w4]) hp).bind (fun o => ab_X rom K cL_law 12 2 1344 ls (o.1.toList ++ [v0, v1]) o.2) else none := ay_virtual (as := [w1, w2, w3, w4]) (st := [v0, v1]) dL_law_1341 kc_12_149 rfl rfl (Nat.le_of_ble_eq_true rfl)
theorem sL_law_1341_3 : ab_X rom K cL_law 12 2 1341 ls [w4, w3, w2, w1, .ref a, v0, v1, v2] hp = if ab_iso hp a 7 = true then (K 150 (.ref a :: [w1, w2, w3, w4]) hp).bind (fun o => ab_X rom K cL_law 12 2 1344 ls (o.1.toList ++ [v0, v1, v2]) o.2) else none := ay_virtual (as := [w1, w2, w3, w4]) (st := [v0, v1, v2]) dL_law_1341 kc_12_149 rfl rfl (Nat.le_of_ble_eq_true rfl)
theorem dL_law_1344 : decode cL_law 1344 = .ok (.if_icmp .eq 140, 3) := by decide +kernel
theorem sL_law_1344 : ab_X rom K cL_law 12 2 1344 ls (.int y :: .int x :: st) hp = if x = y then ab_X rom K cL_law 12 2 1484 ls st hp else ab_X rom K cL_law 12 2 1347 ls st hp := ax_icmp_eq dL_law_1344 (by decide) rfl
theorem dL_law_1349 : decode cL_law 1349 = .ok (.aload_n 1, 1) := by decide +kernel
theorem sL_law_1349 : ab_X rom K cL_law 12 2 1349 (v0 :: .ref a :: ls) st hp = ab_X rom K cL_law 12 2 1350 (v0 :: .ref a :: ls) (.ref a :: st) hp := ax_aload_n dL_law_1349 rfl rfl
theorem dL_law_1350 : decode cL_law 1350 = .ok (.aload_n 0, 1) := by decide +kernel
theorem sL_law_1350 : ab_X rom K cL_law 12 2 1350 (.ref a :: ls) st hp = ab_X rom K cL_law 12 2 1351 (.ref a :: ls) (.ref a :: st) hp := ax_aload_n dL_law_1350 rfl rfl
theorem dL_law_1351 : decode cL_law 1351 = .ok (.iload_n 3, 1) := by decide +kernel
theorem sL_law_1351 : ab_X rom K cL_law 12 2 1351 (v0 :: v1 :: v2 :: .int x :: ls) st hp = ab_X rom K cL_law 12 2 1352 (v0 :: v1 :: v2 :: .int x :: ls) (.int x :: st) hp := ax_iload_n dL_law_1351 rfl rfl
theorem dL_law_1352 : decode cL_law 1352 = .ok (.iconst 1, 1) := by decide +kernel
theorem sL_law_1352 : ab_X rom K cL_law 12 2 1352 ls st hp = ab_X rom K cL_law 12 2 1353 ls (.int 1 :: st) hp := ax_iconst dL_law_1352 (by decide) rfl
theorem dL_law_1353 : decode cL_law 1353 = .ok (.iadd, 1) := by decide +kernel
theorem sL_law_1353 : ab_X rom K cL_law 12 2 1353 ls (.int y :: .int x :: st) hp = ab_X rom K cL_law 12 2 1354 ls (.int (x + y) :: st) hp := ax_iadd dL_law_1353 rfl
theorem dL_law_1354 : decode cL_law 1354 = .ok (.iaload, 1) := by decide +kernel
theorem sL_law_1354 : ab_X rom K cL_law 12 2 1354 ls (.int x :: .ref a :: st) hp = (ab_ard rom 0 hp a x).bind (fun v => ab_X rom K cL_law 12 2 1355 ls (.int v :: st) hp) := ax_iaload dL_law_1354 rfl
theorem dL_law_1355 : decode cL_law 1355 = .ok (.aload_n 0, 1) := by decide +kernel
theorem sL_law_1355 : ab_X rom K cL_law 12 2 1355 (.ref a :: ls) st hp = ab_X rom K cL_law 12 2 1356 (.ref a :: ls) (.ref a :: st) hp := ax_aload_n dL_law_1355 rfl rfl
theorem dL_law_1356 : decode cL_law 1356 = .ok (.iload_n 3, 1) := by decide +kernel
theorem sL_law_1356 : ab_X rom K cL_law 12 2 1356 (v0 :: v1 :: v2 :: .int x :: ls) st hp = ab_X rom K cL_law 12 2 1357 (v0 :: v1 :: v2 :: .int x :: ls) (.int x :: st) hp := ax_iload_n dL_law_1356 rfl rfl
theorem dL_law_1357 : decode cL_law 1357 = .ok (.iconst 2, 1) := by decide +kernel
theorem sL_law_1357 : ab_X rom K cL_law 12 2 1357 ls st hp = ab_X rom K cL_law 12 2 1358 ls (.int 2 :: st) hp := ax_iconst dL_law_1357 (by decide) rfl
theorem dL_law_1358 : decode cL_law 1358 = .ok (.iadd, 1) := by decide +kernel
theorem sL_law_1358 : ab_X rom K cL_law 12 2 1358 ls (.int y :: .int x :: st) hp = ab_X rom K cL_law 12 2 1359 ls (.int (x + y) :: st) hp := ax_iadd dL_law_1358 rfl
theorem dL_law_1359 : decode cL_law 1359 = .ok (.iaload, 1) := by decide +kernel
theorem sL_law_1359 : ab_X rom K cL_law 12 2 1359 ls (.int x :: .ref a :: st) hp = (ab_ard rom 0 hp a x).bind (fun v => ab_X rom K cL_law 12 2 1360 ls (.int v :: st) hp) := ax_iaload dL_law_1359 rfl
theorem dL_law_1360 : decode cL_law 1360 = .ok (.aload_n 0, 1) := by decide +kernel
theorem sL_law_1360 : ab_X rom K cL_law 12 2 1360 (.ref a :: ls) st hp = ab_X rom K cL_law 12 2 1361 (.ref a :: ls) (.ref a :: st) hp := ax_aload_n dL_law_1360 rfl rfl
theorem dL_law_1361 : decode cL_law 1361 = .ok (.iload_n 3, 1) := by decide +kernel
theorem sL_law_1361 : ab_X rom K cL_law 12 2 1361 (v0 :: v1 :: v2 :: .int x :: ls) st hp = ab_X rom K cL_law 12 2 1362 (v0 :: v1 :: v2 :: .int x :: ls) (.int x :: st) hp := ax_iload_n dL_law_1361 rfl rfl
theorem dL_law_1362 : decode cL_law 1362 = .ok (.iconst 3, 1) := by decide +kernel
theorem sL_law_1362 : ab_X rom K cL_law 12 2 1362 ls st hp = ab_X rom K cL_law 12 2 1363 ls (.int 3 :: st) hp := ax_iconst dL_law_1362 (by decide) rfl
theorem dL_law_1363 : decode cL_law 1363 = .ok (.iadd, 1) := by decide +kernel
theorem sL_law_1363 : ab_X rom K cL_law 12 2 1363 ls (.int y :: .int x :: st) hp = ab_X rom K cL_law 12 2 1364 ls (.int (x + y) :: st) hp := ax_iadd dL_law_1363 rfl
theorem dL_law_1364 : decode cL_law 1364 = .ok (.iaload, 1) := by decide +kernel
theorem sL_law_1364 : ab_X rom K cL_law 12 2 1364 ls (.int x :: .ref a :: st) hp = (ab_ard rom 0 hp a x).bind (fun v => ab_X rom K cL_law 12 2 1365 ls (.int v :: st) hp) := ax_iaload dL_law_1364 rfl
theorem dL_law_1365 : decode cL_law 1365 = .ok (.invokevirtual 150, 3) := by decide +kernel
theorem sL_law_1365_0 : ab_X rom K cL_law 12 2 1365 ls [w3, w2, w1, .ref a] hp = if ab_iso hp a 6 = true then (K 112 (.ref a :: [w1, w2, w3]) hp).bind (fun o => ab_X rom K cL_law 12 2 1368 ls (o.1.toList ++ []) o.2) else none := ay_virtual (as := [w1, w2, w3]) (st := []) dL_law_1365 kc_12_150 rfl rfl (Nat.le_of_ble_eq_true rfl)
theorem sL_law_1365_1 : ab_X rom K cL_law 12 2 1365 ls [w3, w2, w1, .ref a, v0] hp = if ab_iso hp a 6 = true then (K 112 (.ref a :: [w1, w2, w3]) hp).bind (fun o => ab_X rom K cL_law 12 2 1368 ls (o.1.toList ++ [v0]) o.2) else none := ay_virtual (as := [w1, w2, w3]) (st := [v0]) dL_law_1365 kc_12_150 rfl rfl (Nat.le_of_ble_eq_true rfl)
theorem sL_law_1365_2 : ab_X rom K cL_law 12 2 1365 ls [w3, w2, w1, .ref a, v0, v1] hp = if ab_iso hp a 6 = true then (K 112 (.ref a :: [w1, w2, w3]) hp).bind (fun o => ab_X rom K cL_law 12 2 1368 ls (o.1.toList ++ [v0, v1]) o.2) else none := ay_virtual (as := [w1, w2, w3]) (st := [v0, v1]) dL_law_1365 kc_12_150 rfl rfl (Nat.le_of_ble_eq_true rfl)
theorem sL_law_1365_3 : ab_X rom K cL_law 12 2 1365 ls [w3, w2, w1, .ref a, v0, v1, v2] hp = if ab_iso hp a 6 = true then (K 112 (.ref a :: [w1, w2, w3]) hp).bind (fun o => ab_X rom K cL_law 12 2 1368 ls (o.1.toList ++ [v0, v1, v2]) o.2) else none := ay_virtual (as := [w1, w2, w3]) (st := [v0, v1, v2]) dL_law_1365 kc_12_150 rfl rfl (Nat.le_of_ble_eq_true rfl)
theorem dL_law_1368 : decode cL_law 1368 = .ok (.aload_n 2, 1) := by decide +kernel
theorem sL_law_1368 : ab_X rom K cL_law 12 2 1368 (v0 :: v1 :: .ref a :: ls) st hp = ab_X rom K cL_law 12 2 1369 (v0 :: v1 :: .ref a :: ls) (.ref a :: st) hp := ax_aload_n dL_law_1368 rfl rfl
theorem dL_law_1369 : decode cL_law 1369 = .ok (.aload_n 0, 1) := by decide +kernel
theorem sL_law_1369 : ab_X rom K cL_law 12 2 1369 (.ref a :: ls) st hp = ab_X rom K cL_law 12 2 1370 (.ref a :: ls) (.ref a :: st) hp := ax_aload_n dL_law_1369 rfl rfl
theorem dL_law_1370 : decode cL_law 1370 = .ok (.iload_n 3, 1) := by decide +kernel
theorem sL_law_1370 : ab_X rom K cL_law 12 2 1370 (v0 :: v1 :: v2 :: .int x :: ls) st hp = ab_X rom K cL_law 12 2 1371 (v0 :: v1 :: v2 :: .int x :: ls) (.int x :: st) hp := ax_iload_n dL_law_1370 rfl rfl
theorem dL_law_1371 : decode cL_law 1371 = .ok (.iconst 1, 1) := by decide +kernel
theorem sL_law_1371 : ab_X rom K cL_law 12 2 1371 ls st hp = ab_X rom K cL_law 12 2 1372 ls (.int 1 :: st) hp := ax_iconst dL_law_1371 (by decide) rfl
theorem dL_law_1372 : decode cL_law 1372 = .ok (.iadd, 1) := by decide +kernel
theorem sL_law_1372 : ab_X rom K cL_law 12 2 1372 ls (.int y :: .int x :: st) hp = ab_X rom K cL_law 12 2 1373 ls (.int (x + y) :: st) hp := ax_iadd dL_law_1372 rfl
theorem dL_law_1373 : decode cL_law 1373 = .ok (.iaload, 1) := by decide +kernel
theorem sL_law_1373 : ab_X rom K cL_law 12 2 1373 ls (.int x :: .ref a :: st) hp = (ab_ard rom 0 hp a x).bind (fun v => ab_X rom K cL_law 12 2 1374 ls (.int v :: st) hp) := ax_iaload dL_law_1373 rfl
theorem dL_law_1374 : decode cL_law 1374 = .ok (.aload_n 0, 1) := by decide +kernel
theorem sL_law_1374 : ab_X rom K cL_law 12 2 1374 (.ref a :: ls) st hp = ab_X rom K cL_law 12 2 1375 (.ref a :: ls) (.ref a :: st) hp := ax_aload_n dL_law_1374 rfl rfl
theorem dL_law_1375 : decode cL_law 1375 = .ok (.iload_n 3, 1) := by decide +kernel
theorem sL_law_1375 : ab_X rom K cL_law 12 2 1375 (v0 :: v1 :: v2 :: .int x :: ls) st hp = ab_X rom K cL_law 12 2 1376 (v0 :: v1 :: v2 :: .int x :: ls) (.int x :: st) hp := ax_iload_n dL_law_1375 rfl rfl
theorem dL_law_1376 : decode cL_law 1376 = .ok (.iconst 2, 1) := by decide +kernel
theorem sL_law_1376 : ab_X rom K cL_law 12 2 1376 ls st hp = ab_X rom K cL_law 12 2 1377 ls (.int 2 :: st) hp := ax_iconst dL_law_1376 (by decide) rfl
theorem dL_law_1377 : decode cL_law 1377 = .ok (.iadd, 1) := by decide +kernel
theorem sL_law_1377 : ab_X rom K cL_law 12 2 1377 ls (.int y :: .int x :: st) hp = ab_X rom K cL_law 12 2 1378 ls (.int (x + y) :: st) hp := ax_iadd dL_law_1377 rfl
theorem dL_law_1378 : decode cL_law 1378 = .ok (.iaload, 1) := by decide +kernel
theorem sL_law_1378 : ab_X rom K cL_law 12 2 1378 ls (.int x :: .ref a :: st) hp = (ab_ard rom 0 hp a x).bind (fun v => ab_X rom K cL_law 12 2 1379 ls (.int v :: st) hp) := ax_iaload dL_law_1378 rfl
theorem dL_law_1379 : decode cL_law 1379 = .ok (.aload_n 0, 1) := by decide +kernel
theorem sL_law_1379 : ab_X rom K cL_law 12 2 1379 (.ref a :: ls) st hp = ab_X rom K cL_law 12 2 1380 (.ref a :: ls) (.ref a :: st) hp := ax_aload_n dL_law_1379 rfl rfl
theorem dL_law_1380 : decode cL_law 1380 = .ok (.iload_n 3, 1) := by decide +kernel
theorem sL_law_1380 : ab_X rom K cL_law 12 2 1380 (v0 :: v1 :: v2 :: .int x :: ls) st hp = ab_X rom K cL_law 12 2 1381 (v0 :: v1 :: v2 :: .int x :: ls) (.int x :: st) hp := ax_iload_n dL_law_1380 rfl rfl
theorem dL_law_1381 : decode cL_law 1381 = .ok (.iconst 3, 1) := by decide +kernel
theorem sL_law_1381 : ab_X rom K cL_law 12 2 1381 ls st hp = ab_X rom K cL_law 12 2 1382 ls (.int 3 :: st) hp := ax_iconst dL_law_1381 (by decide) rfl
theorem dL_law_1382 : decode cL_law 1382 = .ok (.iadd, 1) := by decide +kernel
theorem sL_law_1382 : ab_X rom K cL_law 12 2 1382 ls (.int y :: .int x :: st) hp = ab_X rom K cL_law 12 2 1383 ls (.int (x + y) :: st) hp := ax_iadd dL_law_1382 rfl
theorem dL_law_1383 : decode cL_law 1383 = .ok (.iaload, 1) := by decide +kernel
theorem sL_law_1383 : ab_X rom K cL_law 12 2 1383 ls (.int x :: .ref a :: st) hp = (ab_ard rom 0 hp a x).bind (fun v => ab_X rom K cL_law 12 2 1384 ls (.int v :: st) hp) := ax_iaload dL_law_1383 rfl
theorem dL_law_1384 : decode cL_law 1384 = .ok (.invokevirtual 153, 3) := by decide +kernel
theorem sL_law_1384_0 : ab_X rom K cL_law 12 2 1384 ls [w3, w2, w1, .ref a] hp = if ab_iso hp a 7 = true then (K 217 (.ref a :: [w1, w2, w3]) hp).bind (fun o => ab_X rom K cL_law 12 2 1387 ls (o.1.toList ++ []) o.2) else none := ay_virtual (as := [w1, w2, w3]) (st := []) dL_law_1384 kc_12_153 rfl rfl (Nat.le_of_ble_eq_true rfl)
theorem sL_law_1384_1 : ab_X rom K cL_law 12 2 1384 ls [w3, w2, w1, .ref a, v0] hp = if ab_iso hp a 7 = true then (K 217 (.ref a :: [w1, w2, w3]) hp).bind (fun o => ab_X rom K cL_law 12 2 1387 ls (o.1.toList ++ [v0]) o.2) else none := ay_virtual (as := [w1, w2, w3]) (st := [v0]) dL_law_1384 kc_12_153 rfl rfl (Nat.le_of_ble_eq_true rfl)
theorem sL_law_1384_2 : ab_X rom K cL_law 12 2 1384 ls [w3, w2, w1, .ref a, v0, v1] hp = if ab_iso hp a 7 = true then (K 217 (.ref a :: [w1, w2, w3]) hp).bind (fun o => ab_X rom K cL_law 12 2 1387 ls (o.1.toList ++ [v0, v1]) o.2) else none := ay_virtual (as := [w1, w2, w3]) (st := [v0, v1]) dL_law_1384 kc_12_153 rfl rfl (Nat.le_of_ble_eq_true rfl)
theorem sL_law_1384_3 : ab_X rom K cL_law 12 2 1384 ls [w3, w2, w1, .ref a, v0, v1, v2] hp = if ab_iso hp a 7 = true then (K 217 (.ref a :: [w1, w2, w3]) hp).bind (fun o => ab_X rom K cL_law 12 2 1387 ls (o.1.toList ++ [v0, v1, v2]) o.2) else none := ay_virtual (as := [w1, w2, w3]) (st := [v0, v1, v2]) dL_law_1384 kc_12_153 rfl rfl (Nat.le_of_ble_eq_true rfl)
theorem dL_law_1387 : decode cL_law 1387 = .ok (.if_icmp .eq 97, 3) := by decide +kernel
theorem sL_law_1387 : ab_X rom K cL_law 12 2 1387 ls (.int y :: .int x :: st) hp = if x = y then ab_X rom K cL_law 12 2 1484 ls st hp else ab_X rom K cL_law 12 2 1390 ls st hp := ax_icmp_eq dL_law_1387 (by decide) rfl
theorem dL_law_1392 : decode cL_law 1392 = .ok (.aload_n 1, 1) := by decide +kernel
theorem sL_law_1392 : ab_X rom K cL_law 12 2 1392 (v0 :: .ref a :: ls) st hp = ab_X rom K cL_law 12 2 1393 (v0 :: .ref a :: ls) (.ref a :: st) hp := ax_aload_n dL_law_1392 rfl rfl
theorem dL_law_1393 : decode cL_law 1393 = .ok (.aload_n 0, 1) := by decide +kernel
theorem sL_law_1393 : ab_X rom K cL_law 12 2 1393 (.ref a :: ls) st hp = ab_X rom K cL_law 12 2 1394 (.ref a :: ls) (.ref a :: st) hp := ax_aload_n dL_law_1393 rfl rfl
theorem dL_law_1394 : decode cL_law 1394 = .ok (.iload_n 3, 1) := by decide +kernel
theorem sL_law_1394 : ab_X rom K cL_law 12 2 1394 (v0 :: v1 :: v2 :: .int x :: ls) st hp = ab_X rom K cL_law 12 2 1395 (v0 :: v1 :: v2 :: .int x :: ls) (.int x :: st) hp := ax_iload_n dL_law_1394 rfl rfl
theorem dL_law_1395 : decode cL_law 1395 = .ok (.iconst 1, 1) := by decide +kernel
theorem sL_law_1395 : ab_X rom K cL_law 12 2 1395 ls st hp = ab_X rom K cL_law 12 2 1396 ls (.int 1 :: st) hp := ax_iconst dL_law_1395 (by decide) rfl
theorem dL_law_1396 : decode cL_law 1396 = .ok (.iadd, 1) := by decide +kernel
theorem sL_law_1396 : ab_X rom K cL_law 12 2 1396 ls (.int y :: .int x :: st) hp = ab_X rom K cL_law 12 2 1397 ls (.int (x + y) :: st) hp := ax_iadd dL_law_1396 rfl
theorem dL_law_1397 : decode cL_law 1397 = .ok (.iaload, 1) := by decide +kernel
theorem sL_law_1397 : ab_X rom K cL_law 12 2 1397 ls (.int x :: .ref a :: st) hp = (ab_ard rom 0 hp a x).bind (fun v => ab_X rom K cL_law 12 2 1398 ls (.int v :: st) hp) := ax_iaload dL_law_1397 rfl
theorem dL_law_1398 : decode cL_law 1398 = .ok (.invokevirtual 154, 3) := by decide +kernel
theorem sL_law_1398_0 : ab_X rom K cL_law 12 2 1398 ls [w1, .ref a] hp = if ab_iso hp a 6 = true then (K 87 (.ref a :: [w1]) hp).bind (fun o => ab_X rom K cL_law 12 2 1401 ls (o.1.toList ++ []) o.2) else none := ay_virtual (as := [w1]) (st := []) dL_law_1398 kc_12_154 rfl rfl (Nat.le_of_ble_eq_true rfl)
theorem sL_law_1398_1 : ab_X rom K cL_law 12 2 1398 ls [w1, .ref a, v0] hp = if ab_iso hp a 6 = true then (K 87 (.ref a :: [w1]) hp).bind (fun o => ab_X rom K cL_law 12 2 1401 ls (o.1.toList ++ [v0]) o.2) else none := ay_virtual (as := [w1]) (st := [v0]) dL_law_1398 kc_12_154 rfl rfl (Nat.le_of_ble_eq_true rfl)
theorem sL_law_1398_2 : ab_X rom K cL_law 12 2 1398 ls [w1, .ref a, v0, v1] hp = if ab_iso hp a 6 = true then (K 87 (.ref a :: [w1]) hp).bind (fun o => ab_X rom K cL_law 12 2 1401 ls (o.1.toList ++ [v0, v1]) o.2) else none := ay_virtual (as := [w1]) (st := [v0, v1]) dL_law_1398 kc_12_154 rfl rfl (Nat.le_of_ble_eq_true rfl)
theorem sL_law_1398_3 : ab_X rom K cL_law 12 2 1398 ls [w1, .ref a, v0, v1, v2] hp = if ab_iso hp a 6 = true then (K 87 (.ref a :: [w1]) hp).bind (fun o => ab_X rom K cL_law 12 2 1401 ls (o.1.toList ++ [v0, v1, v2]) o.2) else none := ay_virtual (as := [w1]) (st := [v0, v1, v2]) dL_law_1398 kc_12_154 rfl rfl (Nat.le_of_ble_eq_true rfl)
theorem dL_law_1401 : decode cL_law 1401 = .ok (.aload_n 2, 1) := by decide +kernel
theorem sL_law_1401 : ab_X rom K cL_law 12 2 1401 (v0 :: v1 :: .ref a :: ls) st hp = ab_X rom K cL_law 12 2 1402 (v0 :: v1 :: .ref a :: ls) (.ref a :: st) hp := ax_aload_n dL_law_1401 rfl rfl
theorem dL_law_1402 : decode cL_law 1402 = .ok (.aload_n 0, 1) := by decide +kernel
theorem sL_law_1402 : ab_X rom K cL_law 12 2 1402 (.ref a :: ls) st hp = ab_X rom K cL_law 12 2 1403 (.ref a :: ls) (.ref a :: st) hp := ax_aload_n dL_law_1402 rfl rfl
theorem dL_law_1403 : decode cL_law 1403 = .ok (.iload_n 3, 1) := by decide +kernel
theorem sL_law_1403 : ab_X rom K cL_law 12 2 1403 (v0 :: v1 :: v2 :: .int x :: ls) st hp = ab_X rom K cL_law 12 2 1404 (v0 :: v1 :: v2 :: .int x :: ls) (.int x :: st) hp := ax_iload_n dL_law_1403 rfl rfl
theorem dL_law_1404 : decode cL_law 1404 = .ok (.iconst 1, 1) := by decide +kernel
theorem sL_law_1404 : ab_X rom K cL_law 12 2 1404 ls st hp = ab_X rom K cL_law 12 2 1405 ls (.int 1 :: st) hp := ax_iconst dL_law_1404 (by decide) rfl
theorem dL_law_1405 : decode cL_law 1405 = .ok (.iadd, 1) := by decide +kernel
theorem sL_law_1405 : ab_X rom K cL_law 12 2 1405 ls (.int y :: .int x :: st) hp = ab_X rom K cL_law 12 2 1406 ls (.int (x + y) :: st) hp := ax_iadd dL_law_1405 rfl
theorem dL_law_1406 : decode cL_law 1406 = .ok (.iaload, 1) := by decide +kernel
theorem sL_law_1406 : ab_X rom K cL_law 12 2 1406 ls (.int x :: .ref a :: st) hp = (ab_ard rom 0 hp a x).bind (fun v => ab_X rom K cL_law 12 2 1407 ls (.int v :: st) hp) := ax_iaload dL_law_1406 rfl
theorem dL_law_1407 : decode cL_law 1407 = .ok (.invokevirtual 157, 3) := by decide +kernel
theorem sL_law_1407_0 : ab_X rom K cL_law 12 2 1407 ls [w1, .ref a] hp = if ab_iso hp a 7 = true then (K 146 (.ref a :: [w1]) hp).bind (fun o => ab_X rom K cL_law 12 2 1410 ls (o.1.toList ++ []) o.2) else none := ay_virtual (as := [w1]) (st := []) dL_law_1407 kc_12_157 rfl rfl (Nat.le_of_ble_eq_true rfl)
theorem sL_law_1407_1 : ab_X rom K cL_law 12 2 1407 ls [w1, .ref a, v0] hp = if ab_iso hp a 7 = true then (K 146 (.ref a :: [w1]) hp).bind (fun o => ab_X rom K cL_law 12 2 1410 ls (o.1.toList ++ [v0]) o.2) else none := ay_virtual (as := [w1]) (st := [v0]) dL_law_1407 kc_12_157 rfl rfl (Nat.le_of_ble_eq_true rfl)
theorem sL_law_1407_2 : ab_X rom K cL_law 12 2 1407 ls [w1, .ref a, v0, v1] hp = if ab_iso hp a 7 = true then (K 146 (.ref a :: [w1]) hp).bind (fun o => ab_X rom K cL_law 12 2 1410 ls (o.1.toList ++ [v0, v1]) o.2) else none := ay_virtual (as := [w1]) (st := [v0, v1]) dL_law_1407 kc_12_157 rfl rfl (Nat.le_of_ble_eq_true rfl)
theorem sL_law_1407_3 : ab_X rom K cL_law 12 2 1407 ls [w1, .ref a, v0, v1, v2] hp = if ab_iso hp a 7 = true then (K 146 (.ref a :: [w1]) hp).bind (fun o => ab_X rom K cL_law 12 2 1410 ls (o.1.toList ++ [v0, v1, v2]) o.2) else none := ay_virtual (as := [w1]) (st := [v0, v1, v2]) dL_law_1407 kc_12_157 rfl rfl (Nat.le_of_ble_eq_true rfl)
theorem dL_law_1410 : decode cL_law 1410 = .ok (.if_icmp .eq 74, 3) := by decide +kernel
theorem sL_law_1410 : ab_X rom K cL_law 12 2 1410 ls (.int y :: .int x :: st) hp = if x = y then ab_X rom K cL_law 12 2 1484 ls st hp else ab_X rom K cL_law 12 2 1413 ls st hp := ax_icmp_eq dL_law_1410 (by decide) rfl
theorem dL_law_1415 : decode cL_law 1415 = .ok (.aload_n 1, 1) := by decide +kernel
theorem sL_law_1415 : ab_X rom K cL_law 12 2 1415 (v0 :: .ref a :: ls) st hp = ab_X rom K cL_law 12 2 1416 (v0 :: .ref a :: ls) (.ref a :: st) hp := ax_aload_n dL_law_1415 rfl rfl
theorem dL_law_1416 : decode cL_law 1416 = .ok (.invokevirtual 158, 3) := by decide +kernel
theorem sL_law_1416_0 : ab_X rom K cL_law 12 2 1416 ls [.ref a] hp = if ab_iso hp a 6 = true then (K 123 (.ref a :: []) hp).bind (fun o => ab_X rom K cL_law 12 2 1419 ls (o.1.toList ++ []) o.2) else none := ay_virtual (as := []) (st := []) dL_law_1416 kc_12_158 rfl rfl (Nat.le_of_ble_eq_true rfl)
theorem sL_law_1416_1 : ab_X rom K cL_law 12 2 1416 ls [.ref a, v0] hp = if ab_iso hp a 6 = true then (K 123 (.ref a :: []) hp).bind (fun o => ab_X rom K cL_law 12 2 1419 ls (o.1.toList ++ [v0]) o.2) else none := ay_virtual (as := []) (st := [v0]) dL_law_1416 kc_12_158 rfl rfl (Nat.le_of_ble_eq_true rfl)
theorem sL_law_1416_2 : ab_X rom K cL_law 12 2 1416 ls [.ref a, v0, v1] hp = if ab_iso hp a 6 = true then (K 123 (.ref a :: []) hp).bind (fun o => ab_X rom K cL_law 12 2 1419 ls (o.1.toList ++ [v0, v1]) o.2) else none := ay_virtual (as := []) (st := [v0, v1]) dL_law_1416 kc_12_158 rfl rfl (Nat.le_of_ble_eq_true rfl)
theorem sL_law_1416_3 : ab_X rom K cL_law 12 2 1416 ls [.ref a, v0, v1, v2] hp = if ab_iso hp a 6 = true then (K 123 (.ref a :: []) hp).bind (fun o => ab_X rom K cL_law 12 2 1419 ls (o.1.toList ++ [v0, v1, v2]) o.2) else none := ay_virtual (as := []) (st := [v0, v1, v2]) dL_law_1416 kc_12_158 rfl rfl (Nat.le_of_ble_eq_true rfl)
theorem dL_law_1419 : decode cL_law 1419 = .ok (.aload_n 2, 1) := by decide +kernel
theorem sL_law_1419 : ab_X rom K cL_law 12 2 1419 (v0 :: v1 :: .ref a :: ls) st hp = ab_X rom K cL_law 12 2 1420 (v0 :: v1 :: .ref a :: ls) (.ref a :: st) hp := ax_aload_n dL_law_1419 rfl rfl
theorem dL_law_1420 : decode cL_law 1420 = .ok (.invokevirtual 162, 3) := by decide +kernel
theorem sL_law_1420_0 : ab_X rom K cL_law 12 2 1420 ls [.ref a] hp = if ab_iso hp a 7 = true then (K 233 (.ref a :: []) hp).bind (fun o => ab_X rom K cL_law 12 2 1423 ls (o.1.toList ++ []) o.2) else none := ay_virtual (as := []) (st := []) dL_law_1420 kc_12_162 rfl rfl (Nat.le_of_ble_eq_true rfl)
theorem sL_law_1420_1 : ab_X rom K cL_law 12 2 1420 ls [.ref a, v0] hp = if ab_iso hp a 7 = true then (K 233 (.ref a :: []) hp).bind (fun o => ab_X rom K cL_law 12 2 1423 ls (o.1.toList ++ [v0]) o.2) else none := ay_virtual (as := []) (st := [v0]) dL_law_1420 kc_12_162 rfl rfl (Nat.le_of_ble_eq_true rfl)
theorem sL_law_1420_2 : ab_X rom K cL_law 12 2 1420 ls [.ref a, v0, v1] hp = if ab_iso hp a 7 = true then (K 233 (.ref a :: []) hp).bind (fun o => ab_X rom K cL_law 12 2 1423 ls (o.1.toList ++ [v0, v1]) o.2) else none := ay_virtual (as := []) (st := [v0, v1]) dL_law_1420 kc_12_162 rfl rfl (Nat.le_of_ble_eq_true rfl)
theorem sL_law_1420_3 : ab_X rom K cL_law 12 2 1420 ls [.ref a, v0, v1, v2] hp = if ab_iso hp a 7 = true then (K 233 (.ref a :: []) hp).bind (fun o => ab_X rom K cL_law 12 2 1423 ls (o.1.toList ++ [v0, v1, v2]) o.2) else none := ay_virtual (as := []) (st := [v0, v1, v2]) dL_law_1420 kc_12_162 rfl rfl (Nat.le_of_ble_eq_true rfl)
theorem dL_law_1423 : decode cL_law 1423 = .ok (.if_icmp .eq 61, 3) := by decide +kernel
theorem sL_law_1423 : ab_X rom K cL_law 12 2 1423 ls (.int y :: .int x :: st) hp = if x = y then ab_X rom K cL_law 12 2 1484 ls st hp else ab_X rom K cL_law 12 2 1426 ls st hp := ax_icmp_eq dL_law_1423 (by decide) rfl
theorem dL_law_1428 : decode cL_law 1428 = .ok (.aload_n 1, 1) := by decide +kernel
theorem sL_law_1428 : ab_X rom K cL_law 12 2 1428 (v0 :: .ref a :: ls) st hp = ab_X rom K cL_law 12 2 1429 (v0 :: .ref a :: ls) (.ref a :: st) hp := ax_aload_n dL_law_1428 rfl rfl
theorem dL_law_1429 : decode cL_law 1429 = .ok (.aload_n 0, 1) := by decide +kernel
theorem sL_law_1429 : ab_X rom K cL_law 12 2 1429 (.ref a :: ls) st hp = ab_X rom K cL_law 12 2 1430 (.ref a :: ls) (.ref a :: st) hp := ax_aload_n dL_law_1429 rfl rfl
theorem dL_law_1430 : decode cL_law 1430 = .ok (.iload_n 3, 1) := by decide +kernel
theorem sL_law_1430 : ab_X rom K cL_law 12 2 1430 (v0 :: v1 :: v2 :: .int x :: ls) st hp = ab_X rom K cL_law 12 2 1431 (v0 :: v1 :: v2 :: .int x :: ls) (.int x :: st) hp := ax_iload_n dL_law_1430 rfl rfl
theorem dL_law_1431 : decode cL_law 1431 = .ok (.iconst 1, 1) := by decide +kernel
theorem sL_law_1431 : ab_X rom K cL_law 12 2 1431 ls st hp = ab_X rom K cL_law 12 2 1432 ls (.int 1 :: st) hp := ax_iconst dL_law_1431 (by decide) rfl
theorem dL_law_1432 : decode cL_law 1432 = .ok (.iadd, 1) := by decide +kernel
theorem sL_law_1432 : ab_X rom K cL_law 12 2 1432 ls (.int y :: .int x :: st) hp = ab_X rom K cL_law 12 2 1433 ls (.int (x + y) :: st) hp := ax_iadd dL_law_1432 rfl
theorem dL_law_1433 : decode cL_law 1433 = .ok (.iaload, 1) := by decide +kernel
theorem sL_law_1433 : ab_X rom K cL_law 12 2 1433 ls (.int x :: .ref a :: st) hp = (ab_ard rom 0 hp a x).bind (fun v => ab_X rom K cL_law 12 2 1434 ls (.int v :: st) hp) := ax_iaload dL_law_1433 rfl
theorem dL_law_1434 : decode cL_law 1434 = .ok (.aload_n 0, 1) := by decide +kernel
theorem sL_law_1434 : ab_X rom K cL_law 12 2 1434 (.ref a :: ls) st hp = ab_X rom K cL_law 12 2 1435 (.ref a :: ls) (.ref a :: st) hp := ax_aload_n dL_law_1434 rfl rfl
theorem dL_law_1435 : decode cL_law 1435 = .ok (.iload_n 3, 1) := by decide +kernel
theorem sL_law_1435 : ab_X rom K cL_law 12 2 1435 (v0 :: v1 :: v2 :: .int x :: ls) st hp = ab_X rom K cL_law 12 2 1436 (v0 :: v1 :: v2 :: .int x :: ls) (.int x :: st) hp := ax_iload_n dL_law_1435 rfl rfl
theorem dL_law_1436 : decode cL_law 1436 = .ok (.iconst 2, 1) := by decide +kernel
theorem sL_law_1436 : ab_X rom K cL_law 12 2 1436 ls st hp = ab_X rom K cL_law 12 2 1437 ls (.int 2 :: st) hp := ax_iconst dL_law_1436 (by decide) rfl
theorem dL_law_1437 : decode cL_law 1437 = .ok (.iadd, 1) := by decide +kernel
theorem sL_law_1437 : ab_X rom K cL_law 12 2 1437 ls (.int y :: .int x :: st) hp = ab_X rom K cL_law 12 2 1438 ls (.int (x + y) :: st) hp := ax_iadd dL_law_1437 rfl
theorem dL_law_1438 : decode cL_law 1438 = .ok (.iaload, 1) := by decide +kernel
theorem sL_law_1438 : ab_X rom K cL_law 12 2 1438 ls (.int x :: .ref a :: st) hp = (ab_ard rom 0 hp a x).bind (fun v => ab_X rom K cL_law 12 2 1439 ls (.int v :: st) hp) := ax_iaload dL_law_1438 rfl
theorem dL_law_1439 : decode cL_law 1439 = .ok (.invokevirtual 163, 3) := by decide +kernel
theorem sL_law_1439_0 : ab_X rom K cL_law 12 2 1439 ls [w2, w1, .ref a] hp = if ab_iso hp a 6 = true then (K 120 (.ref a :: [w1, w2]) hp).bind (fun o => ab_X rom K cL_law 12 2 1442 ls (o.1.toList ++ []) o.2) else none := ay_virtual (as := [w1, w2]) (st := []) dL_law_1439 kc_12_163 rfl rfl (Nat.le_of_ble_eq_true rfl)
theorem sL_law_1439_1 : ab_X rom K cL_law 12 2 1439 ls [w2, w1, .ref a, v0] hp = if ab_iso hp a 6 = true then (K 120 (.ref a :: [w1, w2]) hp).bind (fun o => ab_X rom K cL_law 12 2 1442 ls (o.1.toList ++ [v0]) o.2) else none := ay_virtual (as := [w1, w2]) (st := [v0]) dL_law_1439 kc_12_163 rfl rfl (Nat.le_of_ble_eq_true rfl)
theorem sL_law_1439_2 : ab_X rom K cL_law 12 2 1439 ls [w2, w1, .ref a, v0, v1] hp = if ab_iso hp a 6 = true then (K 120 (.ref a :: [w1, w2]) hp).bind (fun o => ab_X rom K cL_law 12 2 1442 ls (o.1.toList ++ [v0, v1]) o.2) else none := ay_virtual (as := [w1, w2]) (st := [v0, v1]) dL_law_1439 kc_12_163 rfl rfl (Nat.le_of_ble_eq_true rfl)
theorem sL_law_1439_3 : ab_X rom K cL_law 12 2 1439 ls [w2, w1, .ref a, v0, v1, v2] hp = if ab_iso hp a 6 = true then (K 120 (.ref a :: [w1, w2]) hp).bind (fun o => ab_X rom K cL_law 12 2 1442 ls (o.1.toList ++ [v0, v1, v2]) o.2) else none := ay_virtual (as := [w1, w2]) (st := [v0, v1, v2]) dL_law_1439 kc_12_163 rfl rfl (Nat.le_of_ble_eq_true rfl)
theorem dL_law_1442 : decode cL_law 1442 = .ok (.aload_n 2, 1) := by decide +kernel
theorem sL_law_1442 : ab_X rom K cL_law 12 2 1442 (v0 :: v1 :: .ref a :: ls) st hp = ab_X rom K cL_law 12 2 1443 (v0 :: v1 :: .ref a :: ls) (.ref a :: st) hp := ax_aload_n dL_law_1442 rfl rfl
theorem dL_law_1443 : decode cL_law 1443 = .ok (.aload_n 0, 1) := by decide +kernel
theorem sL_law_1443 : ab_X rom K cL_law 12 2 1443 (.ref a :: ls) st hp = ab_X rom K cL_law 12 2 1444 (.ref a :: ls) (.ref a :: st) hp := ax_aload_n dL_law_1443 rfl rfl
theorem dL_law_1444 : decode cL_law 1444 = .ok (.iload_n 3, 1) := by decide +kernel
theorem sL_law_1444 : ab_X rom K cL_law 12 2 1444 (v0 :: v1 :: v2 :: .int x :: ls) st hp = ab_X rom K cL_law 12 2 1445 (v0 :: v1 :: v2 :: .int x :: ls) (.int x :: st) hp := ax_iload_n dL_law_1444 rfl rfl
theorem dL_law_1445 : decode cL_law 1445 = .ok (.iconst 1, 1) := by decide +kernel
theorem sL_law_1445 : ab_X rom K cL_law 12 2 1445 ls st hp = ab_X rom K cL_law 12 2 1446 ls (.int 1 :: st) hp := ax_iconst dL_law_1445 (by decide) rfl
theorem dL_law_1446 : decode cL_law 1446 = .ok (.iadd, 1) := by decide +kernel
theorem sL_law_1446 : ab_X rom K cL_law 12 2 1446 ls (.int y :: .int x :: st) hp = ab_X rom K cL_law 12 2 1447 ls (.int (x + y) :: st) hp := ax_iadd dL_law_1446 rfl
theorem dL_law_1447 : decode cL_law 1447 = .ok (.iaload, 1) := by decide +kernel
theorem sL_law_1447 : ab_X rom K cL_law 12 2 1447 ls (.int x :: .ref a :: st) hp = (ab_ard rom 0 hp a x).bind (fun v => ab_X rom K cL_law 12 2 1448 ls (.int v :: st) hp) := ax_iaload dL_law_1447 rfl
theorem dL_law_1448 : decode cL_law 1448 = .ok (.aload_n 0, 1) := by decide +kernel
theorem sL_law_1448 : ab_X rom K cL_law 12 2 1448 (.ref a :: ls) st hp = ab_X rom K cL_law 12 2 1449 (.ref a :: ls) (.ref a :: st) hp := ax_aload_n dL_law_1448 rfl rfl
theorem dL_law_1449 : decode cL_law 1449 = .ok (.iload_n 3, 1) := by decide +kernel
theorem sL_law_1449 : ab_X rom K cL_law 12 2 1449 (v0 :: v1 :: v2 :: .int x :: ls) st hp = ab_X rom K cL_law 12 2 1450 (v0 :: v1 :: v2 :: .int x :: ls) (.int x :: st) hp := ax_iload_n dL_law_1449 rfl rfl
theorem dL_law_1450 : decode cL_law 1450 = .ok (.iconst 2, 1) := by decide +kernel
theorem sL_law_1450 : ab_X rom K cL_law 12 2 1450 ls st hp = ab_X rom K cL_law 12 2 1451 ls (.int 2 :: st) hp := ax_iconst dL_law_1450 (by decide) rfl
theorem dL_law_1451 : decode cL_law 1451 = .ok (.iadd, 1) := by decide +kernel
theorem sL_law_1451 : ab_X rom K cL_law 12 2 1451 ls (.int y :: .int x :: st) hp = ab_X rom K cL_law 12 2 1452 ls (.int (x + y) :: st) hp := ax_iadd dL_law_1451 rfl
theorem dL_law_1452 : decode cL_law 1452 = .ok (.iaload, 1) := by decide +kernel
theorem sL_law_1452 : ab_X rom K cL_law 12 2 1452 ls (.int x :: .ref a :: st) hp = (ab_ard rom 0 hp a x).bind (fun v => ab_X rom K cL_law 12 2 1453 ls (.int v :: st) hp) := ax_iaload dL_law_1452 rfl
theorem dL_law_1453 : decode cL_law 1453 = .ok (.invokevirtual 166, 3) := by decide +kernel
theorem sL_law_1453_0 : ab_X rom K cL_law 12 2 1453 ls [w2, w1, .ref a] hp = if ab_iso hp a 7 = true then (K 230 (.ref a :: [w1, w2]) hp).bind (fun o => ab_X rom K cL_law 12 2 1456 ls (o.1.toList ++ []) o.2) else none := ay_virtual (as := [w1, w2]) (st := []) dL_law_1453 kc_12_166 rfl rfl (Nat.le_of_ble_eq_true rfl)
theorem sL_law_1453_1 : ab_X rom K cL_law 12 2 1453 ls [w2, w1, .ref a, v0] hp = if ab_iso hp a 7 = true then (K 230 (.ref a :: [w1, w2]) hp).bind (fun o => ab_X rom K cL_law 12 2 1456 ls (o.1.toList ++ [v0]) o.2) else none := ay_virtual (as := [w1, w2]) (st := [v0]) dL_law_1453 kc_12_166 rfl rfl (Nat.le_of_ble_eq_true rfl)
theorem sL_law_1453_2 : ab_X rom K cL_law 12 2 1453 ls [w2, w1, .ref a, v0, v1] hp = if ab_iso hp a 7 = true then (K 230 (.ref a :: [w1, w2]) hp).bind (fun o => ab_X rom K cL_law 12 2 1456 ls (o.1.toList ++ [v0, v1]) o.2) else none := ay_virtual (as := [w1, w2]) (st := [v0, v1]) dL_law_1453 kc_12_166 rfl rfl (Nat.le_of_ble_eq_true rfl)
theorem sL_law_1453_3 : ab_X rom K cL_law 12 2 1453 ls [w2, w1, .ref a, v0, v1, v2] hp = if ab_iso hp a 7 = true then (K 230 (.ref a :: [w1, w2]) hp).bind (fun o => ab_X rom K cL_law 12 2 1456 ls (o.1.toList ++ [v0, v1, v2]) o.2) else none := ay_virtual (as := [w1, w2]) (st := [v0, v1, v2]) dL_law_1453 kc_12_166 rfl rfl (Nat.le_of_ble_eq_true rfl)
theorem dL_law_1456 : decode cL_law 1456 = .ok (.if_icmp .eq 28, 3) := by decide +kernel
theorem sL_law_1456 : ab_X rom K cL_law 12 2 1456 ls (.int y :: .int x :: st) hp = if x = y then ab_X rom K cL_law 12 2 1484 ls st hp else ab_X rom K cL_law 12 2 1459 ls st hp := ax_icmp_eq dL_law_1456 (by decide) rfl
theorem dL_law_1461 : decode cL_law 1461 = .ok (.aload_n 1, 1) := by decide +kernel
theorem sL_law_1461 : ab_X rom K cL_law 12 2 1461 (v0 :: .ref a :: ls) st hp = ab_X rom K cL_law 12 2 1462 (v0 :: .ref a :: ls) (.ref a :: st) hp := ax_aload_n dL_law_1461 rfl rfl
theorem dL_law_1462 : decode cL_law 1462 = .ok (.aload_n 0, 1) := by decide +kernel
theorem sL_law_1462 : ab_X rom K cL_law 12 2 1462 (.ref a :: ls) st hp = ab_X rom K cL_law 12 2 1463 (.ref a :: ls) (.ref a :: st) hp := ax_aload_n dL_law_1462 rfl rfl
theorem dL_law_1463 : decode cL_law 1463 = .ok (.iload_n 3, 1) := by decide +kernel
theorem sL_law_1463 : ab_X rom K cL_law 12 2 1463 (v0 :: v1 :: v2 :: .int x :: ls) st hp = ab_X rom K cL_law 12 2 1464 (v0 :: v1 :: v2 :: .int x :: ls) (.int x :: st) hp := ax_iload_n dL_law_1463 rfl rfl
theorem dL_law_1464 : decode cL_law 1464 = .ok (.iconst 1, 1) := by decide +kernel
theorem sL_law_1464 : ab_X rom K cL_law 12 2 1464 ls st hp = ab_X rom K cL_law 12 2 1465 ls (.int 1 :: st) hp := ax_iconst dL_law_1464 (by decide) rfl
theorem dL_law_1465 : decode cL_law 1465 = .ok (.iadd, 1) := by decide +kernel
theorem sL_law_1465 : ab_X rom K cL_law 12 2 1465 ls (.int y :: .int x :: st) hp = ab_X rom K cL_law 12 2 1466 ls (.int (x + y) :: st) hp := ax_iadd dL_law_1465 rfl
theorem dL_law_1466 : decode cL_law 1466 = .ok (.iaload, 1) := by decide +kernel
theorem sL_law_1466 : ab_X rom K cL_law 12 2 1466 ls (.int x :: .ref a :: st) hp = (ab_ard rom 0 hp a x).bind (fun v => ab_X rom K cL_law 12 2 1467 ls (.int v :: st) hp) := ax_iaload dL_law_1466 rfl
theorem dL_law_1467 : decode cL_law 1467 = .ok (.invokevirtual 167, 3) := by decide +kernel
theorem sL_law_1467_0 : ab_X rom K cL_law 12 2 1467 ls [w1, .ref a] hp = if ab_iso hp a 6 = true then (K 109 (.ref a :: [w1]) hp).bind (fun o => ab_X rom K cL_law 12 2 1470 ls (o.1.toList ++ []) o.2) else none := ay_virtual (as := [w1]) (st := []) dL_law_1467 kc_12_167 rfl rfl (Nat.le_of_ble_eq_true rfl)
theorem sL_law_1467_1 : ab_X rom K cL_law 12 2 1467 ls [w1, .ref a, v0] hp = if ab_iso hp a 6 = true then (K 109 (.ref a :: [w1]) hp).bind (fun o => ab_X rom K cL_law 12 2 1470 ls (o.1.toList ++ [v0]) o.2) else none := ay_virtual (as := [w1]) (st := [v0]) dL_law_1467 kc_12_167 rfl rfl (Nat.le_of_ble_eq_true rfl)
theorem sL_law_1467_2 : ab_X rom K cL_law 12 2 1467 ls [w1, .ref a, v0, v1] hp = if ab_iso hp a 6 = true then (K 109 (.ref a :: [w1]) hp).bind (fun o => ab_X rom K cL_law 12 2 1470 ls (o.1.toList ++ [v0, v1]) o.2) else none := ay_virtual (as := [w1]) (st := [v0, v1]) dL_law_1467 kc_12_167 rfl rfl (Nat.le_of_ble_eq_true rfl)
theorem sL_law_1467_3 : ab_X rom K cL_law 12 2 1467 ls [w1, .ref a, v0, v1, v2] hp = if ab_iso hp a 6 = true then (K 109 (.ref a :: [w1]) hp).bind (fun o => ab_X rom K cL_law 12 2 1470 ls (o.1.toList ++ [v0, v1, v2]) o.2) else none := ay_virtual (as := [w1]) (st := [v0, v1, v2]) dL_law_1467 kc_12_167 rfl rfl (Nat.le_of_ble_eq_true rfl)
theorem dL_law_1470 : decode cL_law 1470 = .ok (.aload_n 2, 1) := by decide +kernel
theorem sL_law_1470 : ab_X rom K cL_law 12 2 1470 (v0 :: v1 :: .ref a :: ls) st hp = ab_X rom K cL_law 12 2 1471 (v0 :: v1 :: .ref a :: ls) (.ref a :: st) hp := ax_aload_n dL_law_1470 rfl rfl
theorem dL_law_1471 : decode cL_law 1471 = .ok (.aload_n 0, 1) := by decide +kernel
theorem sL_law_1471 : ab_X rom K cL_law 12 2 1471 (.ref a :: ls) st hp = ab_X rom K cL_law 12 2 1472 (.ref a :: ls) (.ref a :: st) hp := ax_aload_n dL_law_1471 rfl rfl
theorem dL_law_1472 : decode cL_law 1472 = .ok (.iload_n 3, 1) := by decide +kernel
theorem sL_law_1472 : ab_X rom K cL_law 12 2 1472 (v0 :: v1 :: v2 :: .int x :: ls) st hp = ab_X rom K cL_law 12 2 1473 (v0 :: v1 :: v2 :: .int x :: ls) (.int x :: st) hp := ax_iload_n dL_law_1472 rfl rfl
theorem dL_law_1473 : decode cL_law 1473 = .ok (.iconst 1, 1) := by decide +kernel
theorem sL_law_1473 : ab_X rom K cL_law 12 2 1473 ls st hp = ab_X rom K cL_law 12 2 1474 ls (.int 1 :: st) hp := ax_iconst dL_law_1473 (by decide) rfl
theorem dL_law_1474 : decode cL_law 1474 = .ok (.iadd, 1) := by decide +kernel
theorem sL_law_1474 : ab_X rom K cL_law 12 2 1474 ls (.int y :: .int x :: st) hp = ab_X rom K cL_law 12 2 1475 ls (.int (x + y) :: st) hp := ax_iadd dL_law_1474 rfl
theorem dL_law_1475 : decode cL_law 1475 = .ok (.iaload, 1) := by decide +kernel
theorem sL_law_1475 : ab_X rom K cL_law 12 2 1475 ls (.int x :: .ref a :: st) hp = (ab_ard rom 0 hp a x).bind (fun v => ab_X rom K cL_law 12 2 1476 ls (.int v :: st) hp) := ax_iaload dL_law_1475 rfl
theorem dL_law_1476 : decode cL_law 1476 = .ok (.invokevirtual 170, 3) := by decide +kernel
theorem sL_law_1476_0 : ab_X rom K cL_law 12 2 1476 ls [w1, .ref a] hp = if ab_iso hp a 7 = true then (K 203 (.ref a :: [w1]) hp).bind (fun o => ab_X rom K cL_law 12 2 1479 ls (o.1.toList ++ []) o.2) else none := ay_virtual (as := [w1]) (st := []) dL_law_1476 kc_12_170 rfl rfl (Nat.le_of_ble_eq_true rfl)
theorem sL_law_1476_1 : ab_X rom K cL_law 12 2 1476 ls [w1, .ref a, v0] hp = if ab_iso hp a 7 = true then (K 203 (.ref a :: [w1]) hp).bind (fun o => ab_X rom K cL_law 12 2 1479 ls (o.1.toList ++ [v0]) o.2) else none := ay_virtual (as := [w1]) (st := [v0]) dL_law_1476 kc_12_170 rfl rfl (Nat.le_of_ble_eq_true rfl)
theorem sL_law_1476_2 : ab_X rom K cL_law 12 2 1476 ls [w1, .ref a, v0, v1] hp = if ab_iso hp a 7 = true then (K 203 (.ref a :: [w1]) hp).bind (fun o => ab_X rom K cL_law 12 2 1479 ls (o.1.toList ++ [v0, v1]) o.2) else none := ay_virtual (as := [w1]) (st := [v0, v1]) dL_law_1476 kc_12_170 rfl rfl (Nat.le_of_ble_eq_true rfl)
theorem sL_law_1476_3 : ab_X rom K cL_law 12 2 1476 ls [w1, .ref a, v0, v1, v2] hp = if ab_iso hp a 7 = true then (K 203 (.ref a :: [w1]) hp).bind (fun o => ab_X rom K cL_law 12 2 1479 ls (o.1.toList ++ [v0, v1, v2]) o.2) else none := ay_virtual (as := [w1]) (st := [v0, v1, v2]) dL_law_1476 kc_12_170 rfl rfl (Nat.le_of_ble_eq_true rfl)
theorem dL_law_1479 : decode cL_law 1479 = .ok (.if_icmp .eq 5, 3) := by decide +kernel
theorem sL_law_1479 : ab_X rom K cL_law 12 2 1479 ls (.int y :: .int x :: st) hp = if x = y then ab_X rom K cL_law 12 2 1484 ls st hp else ab_X rom K cL_law 12 2 1482 ls st hp := ax_icmp_eq dL_law_1479 (by decide) rfl
theorem dL_law_1484 : decode cL_law 1484 = .ok (.iinc 3 6, 3) := by decide +kernel
theorem sL_law_1484i : ab_X rom K cL_law 12 2 1484 (v0 :: v1 :: .int y :: .int x :: ls) st hp = ab_X rom K cL_law 12 2 1487 (v0 :: v1 :: .int y :: .int (x + 6) :: ls) st hp := ax_iinc dL_law_1484 rfl (ab_nl_c1 (j := 2) (v := .int y) rfl (ab_c1_int _)) (by decide) rfl rfl
theorem sL_law_1484r : ab_X rom K cL_law 12 2 1484 (v0 :: v1 :: .ref a2 :: .int x :: ls) st hp = ab_X rom K cL_law 12 2 1487 (v0 :: v1 :: .ref a2 :: .int (x + 6) :: ls) st hp := ax_iinc dL_law_1484 rfl (ab_nl_c1 (j := 2) (v := .ref a2) rfl (ab_c1_ref _)) (by decide) rfl rfl
theorem sL_law_1484n : ab_X rom K cL_law 12 2 1484 (v0 :: v1 :: .null :: .int x :: ls) st hp = ab_X rom K cL_law 12 2 1487 (v0 :: v1 :: .null :: .int (x + 6) :: ls) st hp := ax_iinc dL_law_1484 rfl (ab_nl_c1 (j := 2) (v := .null) rfl ab_c1_null) (by decide) rfl rfl
theorem dL_law_1487 : decode cL_law 1487 = .ok (.goto (-1469), 3) := by decide +kernel
theorem sL_law_1487 : ab_X rom K cL_law 12 2 1487 ls st hp = ab_X rom K cL_law 12 2 18 ls st hp := ax_goto dL_law_1487 (by decide)
theorem dL_law_1490 : decode cL_law 1490 = .ok (.iconst 1, 1) := by decide +kernel
theorem sL_law_1490 : ab_X rom K cL_law 12 2 1490 ls st hp = ab_X rom K cL_law 12 2 1491 ls (.int 1 :: st) hp := ax_iconst dL_law_1490 (by decide) rfl
theorem dL_law_1491 : decode cL_law 1491 = .ok (.ireturn, 1) := by decide +kernel
theorem sL_law_1491 : ab_X rom K cL_law 12 2 1491 ls [.int x] hp = if x = 0 ∨ x = 1 then some (some (.int x), hp) else none := ay_zret dL_law_1491 rfl
end
