/-! FairLabels: its methods step by step (printed by wip/whole/gen_steps.py) -/
section
variable {rom : List (List Int32)} {K : Nat → List Value → ab_H → Option ab_O} {ls st : List Value} {hp : ab_H} {x y z : Int32} {a a2 : Nat} {sp dp : Int32} {u w : Int64} {v0 v1 v2 v3 v4 v5 v6 v7 v8 v9 v10 v11 v12 v13 v14 v15 w1 w2 w3 w4 w5 w6 : Value}
theorem tX8_key : ab_mT[103]? = some (yX8_key, cX8_key, 4, 1, 6) := by decide +kernel
theorem mX8_key {d : Nat} {a0 : Nat} {x0 : Int32} {x1 : Int32} : ab_M rom (d + 1) 103 [.ref a0, .int x0, .int x1] hp = ab_X rom (ab_M rom d) cX8_key 6 1 0 [.ref a0, .int x0, .int x1, .null] [] hp := ab_M_eq tX8_key (Nat.le_of_ble_eq_true rfl)
theorem dX8_key_0 : decode cX8_key 0 = .ok (.aload_n 0, 1) := by decide +kernel
theorem sX8_key_0 : ab_X rom K cX8_key 6 1 0 (.ref a :: ls) st hp = ab_X rom K cX8_key 6 1 1 (.ref a :: ls) (.ref a :: st) hp := ax_aload_n dX8_key_0 rfl rfl
theorem dX8_key_1 : decode cX8_key 1 = .ok (.iload_n 1, 1) := by decide +kernel
theorem sX8_key_1 : ab_X rom K cX8_key 6 1 1 (v0 :: .int x :: ls) st hp = ab_X rom K cX8_key 6 1 2 (v0 :: .int x :: ls) (.int x :: st) hp := ax_iload_n dX8_key_1 rfl rfl
theorem dX8_key_2 : decode cX8_key 2 = .ok (.invokevirtual 99, 3) := by decide +kernel
theorem sX8_key_2_0 : ab_X rom K cX8_key 6 1 2 ls [w1, .ref a] hp = if ab_iso hp a 6 = true then (K 95 (.ref a :: [w1]) hp).bind (fun o => ab_X rom K cX8_key 6 1 5 ls (o.1.toList ++ []) o.2) else none := ay_virtual (as := [w1]) (st := []) dX8_key_2 kc_6_99 rfl rfl (Nat.le_of_ble_eq_true rfl)
theorem sX8_key_2_1 : ab_X rom K cX8_key 6 1 2 ls [w1, .ref a, v0] hp = if ab_iso hp a 6 = true then (K 95 (.ref a :: [w1]) hp).bind (fun o => ab_X rom K cX8_key 6 1 5 ls (o.1.toList ++ [v0]) o.2) else none := ay_virtual (as := [w1]) (st := [v0]) dX8_key_2 kc_6_99 rfl rfl (Nat.le_of_ble_eq_true rfl)
theorem sX8_key_2_2 : ab_X rom K cX8_key 6 1 2 ls [w1, .ref a, v0, v1] hp = if ab_iso hp a 6 = true then (K 95 (.ref a :: [w1]) hp).bind (fun o => ab_X rom K cX8_key 6 1 5 ls (o.1.toList ++ [v0, v1]) o.2) else none := ay_virtual (as := [w1]) (st := [v0, v1]) dX8_key_2 kc_6_99 rfl rfl (Nat.le_of_ble_eq_true rfl)
theorem sX8_key_2_3 : ab_X rom K cX8_key 6 1 2 ls [w1, .ref a, v0, v1, v2] hp = if ab_iso hp a 6 = true then (K 95 (.ref a :: [w1]) hp).bind (fun o => ab_X rom K cX8_key 6 1 5 ls (o.1.toList ++ [v0, v1, v2]) o.2) else none := ay_virtual (as := [w1]) (st := [v0, v1, v2]) dX8_key_2 kc_6_99 rfl rfl (Nat.le_of_ble_eq_true rfl)
theorem dX8_key_5 : decode cX8_key 5 = .ok (.ifCond .eq 10, 3) := by decide +kernel
theorem sX8_key_5 : ab_X rom K cX8_key 6 1 5 ls (.int x :: st) hp = if x = 0 then ab_X rom K cX8_key 6 1 15 ls st hp else ab_X rom K cX8_key 6 1 8 ls st hp := ax_if_eq dX8_key_5 (by decide) rfl
theorem dX8_key_8 : decode cX8_key 8 = .ok (.iload_n 2, 1) := by decide +kernel
theorem sX8_key_8 : ab_X rom K cX8_key 6 1 8 (v0 :: v1 :: .int x :: ls) st hp = ab_X rom K cX8_key 6 1 9 (v0 :: v1 :: .int x :: ls) (.int x :: st) hp := ax_iload_n dX8_key_8 rfl rfl
theorem dX8_key_9 : decode cX8_key 9 = .ok (.invokestatic 174, 3) := by decide +kernel
theorem sX8_key_9_0 : ab_X rom K cX8_key 6 1 9 ls [w1] hp = (K 100 [w1] hp).bind (fun o => ab_X rom K cX8_key 6 1 12 ls (o.1.toList ++ []) o.2) := ax_static (as := [w1]) (st := []) dX8_key_9 kc_6_174 rfl rfl (Nat.le_of_ble_eq_true rfl)
theorem sX8_key_9_1 : ab_X rom K cX8_key 6 1 9 ls [w1, v0] hp = (K 100 [w1] hp).bind (fun o => ab_X rom K cX8_key 6 1 12 ls (o.1.toList ++ [v0]) o.2) := ax_static (as := [w1]) (st := [v0]) dX8_key_9 kc_6_174 rfl rfl (Nat.le_of_ble_eq_true rfl)
theorem sX8_key_9_2 : ab_X rom K cX8_key 6 1 9 ls [w1, v0, v1] hp = (K 100 [w1] hp).bind (fun o => ab_X rom K cX8_key 6 1 12 ls (o.1.toList ++ [v0, v1]) o.2) := ax_static (as := [w1]) (st := [v0, v1]) dX8_key_9 kc_6_174 rfl rfl (Nat.le_of_ble_eq_true rfl)
theorem sX8_key_9_3 : ab_X rom K cX8_key 6 1 9 ls [w1, v0, v1, v2] hp = (K 100 [w1] hp).bind (fun o => ab_X rom K cX8_key 6 1 12 ls (o.1.toList ++ [v0, v1, v2]) o.2) := ax_static (as := [w1]) (st := [v0, v1, v2]) dX8_key_9 kc_6_174 rfl rfl (Nat.le_of_ble_eq_true rfl)
theorem dX8_key_12 : decode cX8_key 12 = .ok (.ifCond .ne 6, 3) := by decide +kernel
theorem sX8_key_12 : ab_X rom K cX8_key 6 1 12 ls (.int x :: st) hp = if x = 0 then ab_X rom K cX8_key 6 1 15 ls st hp else ab_X rom K cX8_key 6 1 18 ls st hp := ax_if_ne dX8_key_12 (by decide) rfl
theorem dX8_key_15 : decode cX8_key 15 = .ok (.bipush (-2), 2) := by decide +kernel
theorem sX8_key_15 : ab_X rom K cX8_key 6 1 15 ls st hp = ab_X rom K cX8_key 6 1 17 ls (.int (-2) :: st) hp := ax_bipush dX8_key_15 (by decide) rfl
theorem dX8_key_17 : decode cX8_key 17 = .ok (.ireturn, 1) := by decide +kernel
theorem sX8_key_17 : ab_X rom K cX8_key 6 1 17 ls [.int x] hp = some (some (.int x), hp) := ax_iret dX8_key_17 rfl
theorem dX8_key_18 : decode cX8_key 18 = .ok (.aload_n 0, 1) := by decide +kernel
theorem sX8_key_18 : ab_X rom K cX8_key 6 1 18 (.ref a :: ls) st hp = ab_X rom K cX8_key 6 1 19 (.ref a :: ls) (.ref a :: st) hp := ax_aload_n dX8_key_18 rfl rfl
theorem dX8_key_19 : decode cX8_key 19 = .ok (.getfield 21, 3) := by decide +kernel
theorem sX8_key_19 : ab_X rom K cX8_key 6 1 19 ls (.ref a :: st) hp = (ab_fld hp a 6 3).bind (fun v => ab_X rom K cX8_key 6 1 22 ls (v :: st) hp) := ax_getfield dX8_key_19 kf_6_21 rfl
theorem dX8_key_22 : decode cX8_key 22 = .ok (.iload_n 1, 1) := by decide +kernel
theorem sX8_key_22 : ab_X rom K cX8_key 6 1 22 (v0 :: .int x :: ls) st hp = ab_X rom K cX8_key 6 1 23 (v0 :: .int x :: ls) (.int x :: st) hp := ax_iload_n dX8_key_22 rfl rfl
theorem dX8_key_23 : decode cX8_key 23 = .ok (.aaload, 1) := by decide +kernel
theorem sX8_key_23 : ab_X rom K cX8_key 6 1 23 ls (.int x :: .ref a :: st) hp = (ab_rrd hp a x).bind (fun v => ab_X rom K cX8_key 6 1 24 ls (.ref v :: st) hp) := ax_aaload dX8_key_23 rfl
theorem dX8_key_24 : decode cX8_key 24 = .ok (.astore_n 3, 1) := by decide +kernel
theorem sX8_key_24i : ab_X rom K cX8_key 6 1 24 (v0 :: v1 :: .int y :: v3 :: ls) (.ref a :: st) hp = ab_X rom K cX8_key 6 1 25 (v0 :: v1 :: .int y :: .ref a :: ls) st hp := ax_astore_n dX8_key_24 (ax_lt (v := v3) rfl) (ab_nl_c1 (j := 2) (v := .int y) rfl (ab_c1_int _)) rfl rfl
theorem sX8_key_24r : ab_X rom K cX8_key 6 1 24 (v0 :: v1 :: .ref a2 :: v3 :: ls) (.ref a :: st) hp = ab_X rom K cX8_key 6 1 25 (v0 :: v1 :: .ref a2 :: .ref a :: ls) st hp := ax_astore_n dX8_key_24 (ax_lt (v := v3) rfl) (ab_nl_c1 (j := 2) (v := .ref a2) rfl (ab_c1_ref _)) rfl rfl
theorem sX8_key_24n : ab_X rom K cX8_key 6 1 24 (v0 :: v1 :: .null :: v3 :: ls) (.ref a :: st) hp = ab_X rom K cX8_key 6 1 25 (v0 :: v1 :: .null :: .ref a :: ls) st hp := ax_astore_n dX8_key_24 (ax_lt (v := v3) rfl) (ab_nl_c1 (j := 2) (v := .null) rfl ab_c1_null) rfl rfl
theorem dX8_key_25 : decode cX8_key 25 = .ok (.aload_n 3, 1) := by decide +kernel
theorem sX8_key_25 : ab_X rom K cX8_key 6 1 25 (v0 :: v1 :: v2 :: .ref a :: ls) st hp = ab_X rom K cX8_key 6 1 26 (v0 :: v1 :: v2 :: .ref a :: ls) (.ref a :: st) hp := ax_aload_n dX8_key_25 rfl rfl
theorem dX8_key_26 : decode cX8_key 26 = .ok (.iload_n 2, 1) := by decide +kernel
theorem sX8_key_26 : ab_X rom K cX8_key 6 1 26 (v0 :: v1 :: .int x :: ls) st hp = ab_X rom K cX8_key 6 1 27 (v0 :: v1 :: .int x :: ls) (.int x :: st) hp := ax_iload_n dX8_key_26 rfl rfl
theorem dX8_key_27 : decode cX8_key 27 = .ok (.invokestatic 177, 3) := by decide +kernel
theorem sX8_key_27_0 : ab_X rom K cX8_key 6 1 27 ls [w2, w1] hp = (K 251 [w1, w2] hp).bind (fun o => ab_X rom K cX8_key 6 1 30 ls (o.1.toList ++ []) o.2) := ax_static (as := [w1, w2]) (st := []) dX8_key_27 kc_6_177 rfl rfl (Nat.le_of_ble_eq_true rfl)
theorem sX8_key_27_1 : ab_X rom K cX8_key 6 1 27 ls [w2, w1, v0] hp = (K 251 [w1, w2] hp).bind (fun o => ab_X rom K cX8_key 6 1 30 ls (o.1.toList ++ [v0]) o.2) := ax_static (as := [w1, w2]) (st := [v0]) dX8_key_27 kc_6_177 rfl rfl (Nat.le_of_ble_eq_true rfl)
theorem sX8_key_27_2 : ab_X rom K cX8_key 6 1 27 ls [w2, w1, v0, v1] hp = (K 251 [w1, w2] hp).bind (fun o => ab_X rom K cX8_key 6 1 30 ls (o.1.toList ++ [v0, v1]) o.2) := ax_static (as := [w1, w2]) (st := [v0, v1]) dX8_key_27 kc_6_177 rfl rfl (Nat.le_of_ble_eq_true rfl)
theorem sX8_key_27_3 : ab_X rom K cX8_key 6 1 27 ls [w2, w1, v0, v1, v2] hp = (K 251 [w1, w2] hp).bind (fun o => ab_X rom K cX8_key 6 1 30 ls (o.1.toList ++ [v0, v1, v2]) o.2) := ax_static (as := [w1, w2]) (st := [v0, v1, v2]) dX8_key_27 kc_6_177 rfl rfl (Nat.le_of_ble_eq_true rfl)
theorem dX8_key_30 : decode cX8_key 30 = .ok (.ifCond .eq 6, 3) := by decide +kernel
theorem sX8_key_30 : ab_X rom K cX8_key 6 1 30 ls (.int x :: st) hp = if x = 0 then ab_X rom K cX8_key 6 1 36 ls st hp else ab_X rom K cX8_key 6 1 33 ls st hp := ax_if_eq dX8_key_30 (by decide) rfl
theorem dX8_key_33 : decode cX8_key 33 = .ok (.bipush (-6), 2) := by decide +kernel
theorem sX8_key_33 : ab_X rom K cX8_key 6 1 33 ls st hp = ab_X rom K cX8_key 6 1 35 ls (.int (-6) :: st) hp := ax_bipush dX8_key_33 (by decide) rfl
theorem dX8_key_35 : decode cX8_key 35 = .ok (.ireturn, 1) := by decide +kernel
theorem sX8_key_35 : ab_X rom K cX8_key 6 1 35 ls [.int x] hp = some (some (.int x), hp) := ax_iret dX8_key_35 rfl
theorem dX8_key_36 : decode cX8_key 36 = .ok (.aload_n 0, 1) := by decide +kernel
theorem sX8_key_36 : ab_X rom K cX8_key 6 1 36 (.ref a :: ls) st hp = ab_X rom K cX8_key 6 1 37 (.ref a :: ls) (.ref a :: st) hp := ax_aload_n dX8_key_36 rfl rfl
theorem dX8_key_37 : decode cX8_key 37 = .ok (.getfield 26, 3) := by decide +kernel
theorem sX8_key_37 : ab_X rom K cX8_key 6 1 37 ls (.ref a :: st) hp = (ab_fld hp a 6 4).bind (fun v => ab_X rom K cX8_key 6 1 40 ls (v :: st) hp) := ax_getfield dX8_key_37 kf_6_26 rfl
theorem dX8_key_40 : decode cX8_key 40 = .ok (.aload_n 3, 1) := by decide +kernel
theorem sX8_key_40 : ab_X rom K cX8_key 6 1 40 (v0 :: v1 :: v2 :: .ref a :: ls) st hp = ab_X rom K cX8_key 6 1 41 (v0 :: v1 :: v2 :: .ref a :: ls) (.ref a :: st) hp := ax_aload_n dX8_key_40 rfl rfl
theorem dX8_key_41 : decode cX8_key 41 = .ok (.invokevirtual 215, 3) := by decide +kernel
theorem sX8_key_41_0 : ab_X rom K cX8_key 6 1 41 ls [w1, .ref a] hp = if ab_iso hp a 1 = true then (K 17 (.ref a :: [w1]) hp).bind (fun o => ab_X rom K cX8_key 6 1 44 ls (o.1.toList ++ []) o.2) else none := ay_virtual (as := [w1]) (st := []) dX8_key_41 kc_6_215 rfl rfl (Nat.le_of_ble_eq_true rfl)
theorem sX8_key_41_1 : ab_X rom K cX8_key 6 1 41 ls [w1, .ref a, v0] hp = if ab_iso hp a 1 = true then (K 17 (.ref a :: [w1]) hp).bind (fun o => ab_X rom K cX8_key 6 1 44 ls (o.1.toList ++ [v0]) o.2) else none := ay_virtual (as := [w1]) (st := [v0]) dX8_key_41 kc_6_215 rfl rfl (Nat.le_of_ble_eq_true rfl)
theorem sX8_key_41_2 : ab_X rom K cX8_key 6 1 41 ls [w1, .ref a, v0, v1] hp = if ab_iso hp a 1 = true then (K 17 (.ref a :: [w1]) hp).bind (fun o => ab_X rom K cX8_key 6 1 44 ls (o.1.toList ++ [v0, v1]) o.2) else none := ay_virtual (as := [w1]) (st := [v0, v1]) dX8_key_41 kc_6_215 rfl rfl (Nat.le_of_ble_eq_true rfl)
theorem sX8_key_41_3 : ab_X rom K cX8_key 6 1 41 ls [w1, .ref a, v0, v1, v2] hp = if ab_iso hp a 1 = true then (K 17 (.ref a :: [w1]) hp).bind (fun o => ab_X rom K cX8_key 6 1 44 ls (o.1.toList ++ [v0, v1, v2]) o.2) else none := ay_virtual (as := [w1]) (st := [v0, v1, v2]) dX8_key_41 kc_6_215 rfl rfl (Nat.le_of_ble_eq_true rfl)
theorem dX8_key_44 : decode cX8_key 44 = .ok (.aload_n 0, 1) := by decide +kernel
theorem sX8_key_44 : ab_X rom K cX8_key 6 1 44 (.ref a :: ls) st hp = ab_X rom K cX8_key 6 1 45 (.ref a :: ls) (.ref a :: st) hp := ax_aload_n dX8_key_44 rfl rfl
theorem dX8_key_45 : decode cX8_key 45 = .ok (.getfield 26, 3) := by decide +kernel
theorem sX8_key_45 : ab_X rom K cX8_key 6 1 45 ls (.ref a :: st) hp = (ab_fld hp a 6 4).bind (fun v => ab_X rom K cX8_key 6 1 48 ls (v :: st) hp) := ax_getfield dX8_key_45 kf_6_26 rfl
theorem dX8_key_48 : decode cX8_key 48 = .ok (.invokevirtual 218, 3) := by decide +kernel
theorem sX8_key_48_0 : ab_X rom K cX8_key 6 1 48 ls [.ref a] hp = if ab_iso hp a 1 = true then (K 16 (.ref a :: []) hp).bind (fun o => ab_X rom K cX8_key 6 1 51 ls (o.1.toList ++ []) o.2) else none := ay_virtual (as := []) (st := []) dX8_key_48 kc_6_218 rfl rfl (Nat.le_of_ble_eq_true rfl)
theorem sX8_key_48_1 : ab_X rom K cX8_key 6 1 48 ls [.ref a, v0] hp = if ab_iso hp a 1 = true then (K 16 (.ref a :: []) hp).bind (fun o => ab_X rom K cX8_key 6 1 51 ls (o.1.toList ++ [v0]) o.2) else none := ay_virtual (as := []) (st := [v0]) dX8_key_48 kc_6_218 rfl rfl (Nat.le_of_ble_eq_true rfl)
theorem sX8_key_48_2 : ab_X rom K cX8_key 6 1 48 ls [.ref a, v0, v1] hp = if ab_iso hp a 1 = true then (K 16 (.ref a :: []) hp).bind (fun o => ab_X rom K cX8_key 6 1 51 ls (o.1.toList ++ [v0, v1]) o.2) else none := ay_virtual (as := []) (st := [v0, v1]) dX8_key_48 kc_6_218 rfl rfl (Nat.le_of_ble_eq_true rfl)
theorem sX8_key_48_3 : ab_X rom K cX8_key 6 1 48 ls [.ref a, v0, v1, v2] hp = if ab_iso hp a 1 = true then (K 16 (.ref a :: []) hp).bind (fun o => ab_X rom K cX8_key 6 1 51 ls (o.1.toList ++ [v0, v1, v2]) o.2) else none := ay_virtual (as := []) (st := [v0, v1, v2]) dX8_key_48 kc_6_218 rfl rfl (Nat.le_of_ble_eq_true rfl)
theorem dX8_key_51 : decode cX8_key 51 = .ok (.aload_n 0, 1) := by decide +kernel
theorem sX8_key_51 : ab_X rom K cX8_key 6 1 51 (.ref a :: ls) st hp = ab_X rom K cX8_key 6 1 52 (.ref a :: ls) (.ref a :: st) hp := ax_aload_n dX8_key_51 rfl rfl
theorem dX8_key_52 : decode cX8_key 52 = .ok (.getfield 51, 3) := by decide +kernel
theorem sX8_key_52 : ab_X rom K cX8_key 6 1 52 ls (.ref a :: st) hp = (ab_fld hp a 6 6).bind (fun v => ab_X rom K cX8_key 6 1 55 ls (v :: st) hp) := ax_getfield dX8_key_52 kf_6_51 rfl
theorem dX8_key_55 : decode cX8_key 55 = .ok (.getfield 187, 3) := by decide +kernel
theorem sX8_key_55 : ab_X rom K cX8_key 6 1 55 ls (.ref a :: st) hp = (ab_fld hp a 4 0).bind (fun v => ab_X rom K cX8_key 6 1 58 ls (v :: st) hp) := ax_getfield dX8_key_55 kf_6_187 rfl
theorem dX8_key_58 : decode cX8_key 58 = .ok (.aload_n 3, 1) := by decide +kernel
theorem sX8_key_58 : ab_X rom K cX8_key 6 1 58 (v0 :: v1 :: v2 :: .ref a :: ls) st hp = ab_X rom K cX8_key 6 1 59 (v0 :: v1 :: v2 :: .ref a :: ls) (.ref a :: st) hp := ax_aload_n dX8_key_58 rfl rfl
theorem dX8_key_59 : decode cX8_key 59 = .ok (.getfield 152, 3) := by decide +kernel
theorem sX8_key_59 : ab_X rom K cX8_key 6 1 59 ls (.ref a :: st) hp = (ab_fld hp a 1 4).bind (fun v => ab_X rom K cX8_key 6 1 62 ls (v :: st) hp) := ax_getfield dX8_key_59 kf_6_152 rfl
theorem dX8_key_62 : decode cX8_key 62 = .ok (.invokevirtual 221, 3) := by decide +kernel
theorem sX8_key_62_0 : ab_X rom K cX8_key 6 1 62 ls [w1, .ref a] hp = if ab_iso hp a 0 = true then (K 4 (.ref a :: [w1]) hp).bind (fun o => ab_X rom K cX8_key 6 1 65 ls (o.1.toList ++ []) o.2) else none := ay_virtual (as := [w1]) (st := []) dX8_key_62 kc_6_221 rfl rfl (Nat.le_of_ble_eq_true rfl)
theorem sX8_key_62_1 : ab_X rom K cX8_key 6 1 62 ls [w1, .ref a, v0] hp = if ab_iso hp a 0 = true then (K 4 (.ref a :: [w1]) hp).bind (fun o => ab_X rom K cX8_key 6 1 65 ls (o.1.toList ++ [v0]) o.2) else none := ay_virtual (as := [w1]) (st := [v0]) dX8_key_62 kc_6_221 rfl rfl (Nat.le_of_ble_eq_true rfl)
theorem sX8_key_62_2 : ab_X rom K cX8_key 6 1 62 ls [w1, .ref a, v0, v1] hp = if ab_iso hp a 0 = true then (K 4 (.ref a :: [w1]) hp).bind (fun o => ab_X rom K cX8_key 6 1 65 ls (o.1.toList ++ [v0, v1]) o.2) else none := ay_virtual (as := [w1]) (st := [v0, v1]) dX8_key_62 kc_6_221 rfl rfl (Nat.le_of_ble_eq_true rfl)
theorem sX8_key_62_3 : ab_X rom K cX8_key 6 1 62 ls [w1, .ref a, v0, v1, v2] hp = if ab_iso hp a 0 = true then (K 4 (.ref a :: [w1]) hp).bind (fun o => ab_X rom K cX8_key 6 1 65 ls (o.1.toList ++ [v0, v1, v2]) o.2) else none := ay_virtual (as := [w1]) (st := [v0, v1, v2]) dX8_key_62 kc_6_221 rfl rfl (Nat.le_of_ble_eq_true rfl)
theorem dX8_key_65 : decode cX8_key 65 = .ok (.aload_n 0, 1) := by decide +kernel
theorem sX8_key_65 : ab_X rom K cX8_key 6 1 65 (.ref a :: ls) st hp = ab_X rom K cX8_key 6 1 66 (.ref a :: ls) (.ref a :: st) hp := ax_aload_n dX8_key_65 rfl rfl
theorem dX8_key_66 : decode cX8_key 66 = .ok (.getfield 51, 3) := by decide +kernel
theorem sX8_key_66 : ab_X rom K cX8_key 6 1 66 ls (.ref a :: st) hp = (ab_fld hp a 6 6).bind (fun v => ab_X rom K cX8_key 6 1 69 ls (v :: st) hp) := ax_getfield dX8_key_66 kf_6_51 rfl
theorem dX8_key_69 : decode cX8_key 69 = .ok (.aload_n 0, 1) := by decide +kernel
theorem sX8_key_69 : ab_X rom K cX8_key 6 1 69 (.ref a :: ls) st hp = ab_X rom K cX8_key 6 1 70 (.ref a :: ls) (.ref a :: st) hp := ax_aload_n dX8_key_69 rfl rfl
theorem dX8_key_70 : decode cX8_key 70 = .ok (.getfield 26, 3) := by decide +kernel
theorem sX8_key_70 : ab_X rom K cX8_key 6 1 70 ls (.ref a :: st) hp = (ab_fld hp a 6 4).bind (fun v => ab_X rom K cX8_key 6 1 73 ls (v :: st) hp) := ax_getfield dX8_key_70 kf_6_26 rfl
theorem dX8_key_73 : decode cX8_key 73 = .ok (.iload_n 2, 1) := by decide +kernel
theorem sX8_key_73 : ab_X rom K cX8_key 6 1 73 (v0 :: v1 :: .int x :: ls) st hp = ab_X rom K cX8_key 6 1 74 (v0 :: v1 :: .int x :: ls) (.int x :: st) hp := ax_iload_n dX8_key_73 rfl rfl
theorem dX8_key_74 : decode cX8_key 74 = .ok (.iconst 0, 1) := by decide +kernel
theorem sX8_key_74 : ab_X rom K cX8_key 6 1 74 ls st hp = ab_X rom K cX8_key 6 1 75 ls (.int 0 :: st) hp := ax_iconst dX8_key_74 (by decide) rfl
theorem dX8_key_75 : decode cX8_key 75 = .ok (.invokevirtual 225, 3) := by decide +kernel
theorem sX8_key_75_0 : ab_X rom K cX8_key 6 1 75 ls [w3, w2, w1, .ref a] hp = if ab_iso hp a 4 = true then (K 71 (.ref a :: [w1, w2, w3]) hp).bind (fun o => ab_X rom K cX8_key 6 1 78 ls (o.1.toList ++ []) o.2) else none := ay_virtual (as := [w1, w2, w3]) (st := []) dX8_key_75 kc_6_225 rfl rfl (Nat.le_of_ble_eq_true rfl)
theorem sX8_key_75_1 : ab_X rom K cX8_key 6 1 75 ls [w3, w2, w1, .ref a, v0] hp = if ab_iso hp a 4 = true then (K 71 (.ref a :: [w1, w2, w3]) hp).bind (fun o => ab_X rom K cX8_key 6 1 78 ls (o.1.toList ++ [v0]) o.2) else none := ay_virtual (as := [w1, w2, w3]) (st := [v0]) dX8_key_75 kc_6_225 rfl rfl (Nat.le_of_ble_eq_true rfl)
theorem sX8_key_75_2 : ab_X rom K cX8_key 6 1 75 ls [w3, w2, w1, .ref a, v0, v1] hp = if ab_iso hp a 4 = true then (K 71 (.ref a :: [w1, w2, w3]) hp).bind (fun o => ab_X rom K cX8_key 6 1 78 ls (o.1.toList ++ [v0, v1]) o.2) else none := ay_virtual (as := [w1, w2, w3]) (st := [v0, v1]) dX8_key_75 kc_6_225 rfl rfl (Nat.le_of_ble_eq_true rfl)
theorem sX8_key_75_3 : ab_X rom K cX8_key 6 1 75 ls [w3, w2, w1, .ref a, v0, v1, v2] hp = if ab_iso hp a 4 = true then (K 71 (.ref a :: [w1, w2, w3]) hp).bind (fun o => ab_X rom K cX8_key 6 1 78 ls (o.1.toList ++ [v0, v1, v2]) o.2) else none := ay_virtual (as := [w1, w2, w3]) (st := [v0, v1, v2]) dX8_key_75 kc_6_225 rfl rfl (Nat.le_of_ble_eq_true rfl)
theorem dX8_key_78 : decode cX8_key 78 = .ok (.aload_n 0, 1) := by decide +kernel
theorem sX8_key_78 : ab_X rom K cX8_key 6 1 78 (.ref a :: ls) st hp = ab_X rom K cX8_key 6 1 79 (.ref a :: ls) (.ref a :: st) hp := ax_aload_n dX8_key_78 rfl rfl
theorem dX8_key_79 : decode cX8_key 79 = .ok (.getfield 51, 3) := by decide +kernel
theorem sX8_key_79 : ab_X rom K cX8_key 6 1 79 ls (.ref a :: st) hp = (ab_fld hp a 6 6).bind (fun v => ab_X rom K cX8_key 6 1 82 ls (v :: st) hp) := ax_getfield dX8_key_79 kf_6_51 rfl
theorem dX8_key_82 : decode cX8_key 82 = .ok (.getfield 187, 3) := by decide +kernel
theorem sX8_key_82 : ab_X rom K cX8_key 6 1 82 ls (.ref a :: st) hp = (ab_fld hp a 4 0).bind (fun v => ab_X rom K cX8_key 6 1 85 ls (v :: st) hp) := ax_getfield dX8_key_82 kf_6_187 rfl
theorem dX8_key_85 : decode cX8_key 85 = .ok (.aload_n 3, 1) := by decide +kernel
theorem sX8_key_85 : ab_X rom K cX8_key 6 1 85 (v0 :: v1 :: v2 :: .ref a :: ls) st hp = ab_X rom K cX8_key 6 1 86 (v0 :: v1 :: v2 :: .ref a :: ls) (.ref a :: st) hp := ax_aload_n dX8_key_85 rfl rfl
theorem dX8_key_86 : decode cX8_key 86 = .ok (.getfield 102, 3) := by decide +kernel
theorem sX8_key_86 : ab_X rom K cX8_key 6 1 86 ls (.ref a :: st) hp = (ab_fld hp a 1 0).bind (fun v => ab_X rom K cX8_key 6 1 89 ls (v :: st) hp) := ax_getfield dX8_key_86 kf_6_102 rfl
theorem dX8_key_89 : decode cX8_key 89 = .ok (.invokevirtual 229, 3) := by decide +kernel
theorem sX8_key_89_0 : ab_X rom K cX8_key 6 1 89 ls [w1, .ref a] hp = if ab_iso hp a 0 = true then (K 8 (.ref a :: [w1]) hp).bind (fun o => ab_X rom K cX8_key 6 1 92 ls (o.1.toList ++ []) o.2) else none := ay_virtual (as := [w1]) (st := []) dX8_key_89 kc_6_229 rfl rfl (Nat.le_of_ble_eq_true rfl)
theorem sX8_key_89_1 : ab_X rom K cX8_key 6 1 89 ls [w1, .ref a, v0] hp = if ab_iso hp a 0 = true then (K 8 (.ref a :: [w1]) hp).bind (fun o => ab_X rom K cX8_key 6 1 92 ls (o.1.toList ++ [v0]) o.2) else none := ay_virtual (as := [w1]) (st := [v0]) dX8_key_89 kc_6_229 rfl rfl (Nat.le_of_ble_eq_true rfl)
theorem sX8_key_89_2 : ab_X rom K cX8_key 6 1 89 ls [w1, .ref a, v0, v1] hp = if ab_iso hp a 0 = true then (K 8 (.ref a :: [w1]) hp).bind (fun o => ab_X rom K cX8_key 6 1 92 ls (o.1.toList ++ [v0, v1]) o.2) else none := ay_virtual (as := [w1]) (st := [v0, v1]) dX8_key_89 kc_6_229 rfl rfl (Nat.le_of_ble_eq_true rfl)
theorem sX8_key_89_3 : ab_X rom K cX8_key 6 1 89 ls [w1, .ref a, v0, v1, v2] hp = if ab_iso hp a 0 = true then (K 8 (.ref a :: [w1]) hp).bind (fun o => ab_X rom K cX8_key 6 1 92 ls (o.1.toList ++ [v0, v1, v2]) o.2) else none := ay_virtual (as := [w1]) (st := [v0, v1, v2]) dX8_key_89 kc_6_229 rfl rfl (Nat.le_of_ble_eq_true rfl)
theorem dX8_key_92 : decode cX8_key 92 = .ok (.ireturn, 1) := by decide +kernel
theorem sX8_key_92 : ab_X rom K cX8_key 6 1 92 ls [.int x] hp = some (some (.int x), hp) := ax_iret dX8_key_92 rfl
theorem tX8_label : ab_mT[104]? = some (yX8_label, cX8_label, 3, 1, 6) := by decide +kernel
theorem mX8_label {d : Nat} {a0 : Nat} {x0 : Int32} {x1 : Int32} : ab_M rom (d + 1) 104 [.ref a0, .int x0, .int x1] hp = ab_X rom (ab_M rom d) cX8_label 6 1 0 [.ref a0, .int x0, .int x1] [] hp := ab_M_eq tX8_label (Nat.le_of_ble_eq_true rfl)
theorem dX8_label_0 : decode cX8_label 0 = .ok (.aload_n 0, 1) := by decide +kernel
theorem sX8_label_0 : ab_X rom K cX8_label 6 1 0 (.ref a :: ls) st hp = ab_X rom K cX8_label 6 1 1 (.ref a :: ls) (.ref a :: st) hp := ax_aload_n dX8_label_0 rfl rfl
theorem dX8_label_1 : decode cX8_label 1 = .ok (.iload_n 1, 1) := by decide +kernel
theorem sX8_label_1 : ab_X rom K cX8_label 6 1 1 (v0 :: .int x :: ls) st hp = ab_X rom K cX8_label 6 1 2 (v0 :: .int x :: ls) (.int x :: st) hp := ax_iload_n dX8_label_1 rfl rfl
theorem dX8_label_2 : decode cX8_label 2 = .ok (.iload_n 2, 1) := by decide +kernel
theorem sX8_label_2 : ab_X rom K cX8_label 6 1 2 (v0 :: v1 :: .int x :: ls) st hp = ab_X rom K cX8_label 6 1 3 (v0 :: v1 :: .int x :: ls) (.int x :: st) hp := ax_iload_n dX8_label_2 rfl rfl
theorem dX8_label_3 : decode cX8_label 3 = .ok (.invokevirtual 148, 3) := by decide +kernel
theorem sX8_label_3_0 : ab_X rom K cX8_label 6 1 3 ls [w2, w1, .ref a] hp = if ab_iso hp a 6 = true then (K 96 (.ref a :: [w1, w2]) hp).bind (fun o => ab_X rom K cX8_label 6 1 6 ls (o.1.toList ++ []) o.2) else none := ay_virtual (as := [w1, w2]) (st := []) dX8_label_3 kc_6_148 rfl rfl (Nat.le_of_ble_eq_true rfl)
theorem sX8_label_3_1 : ab_X rom K cX8_label 6 1 3 ls [w2, w1, .ref a, v0] hp = if ab_iso hp a 6 = true then (K 96 (.ref a :: [w1, w2]) hp).bind (fun o => ab_X rom K cX8_label 6 1 6 ls (o.1.toList ++ [v0]) o.2) else none := ay_virtual (as := [w1, w2]) (st := [v0]) dX8_label_3 kc_6_148 rfl rfl (Nat.le_of_ble_eq_true rfl)
theorem sX8_label_3_2 : ab_X rom K cX8_label 6 1 3 ls [w2, w1, .ref a, v0, v1] hp = if ab_iso hp a 6 = true then (K 96 (.ref a :: [w1, w2]) hp).bind (fun o => ab_X rom K cX8_label 6 1 6 ls (o.1.toList ++ [v0, v1]) o.2) else none := ay_virtual (as := [w1, w2]) (st := [v0, v1]) dX8_label_3 kc_6_148 rfl rfl (Nat.le_of_ble_eq_true rfl)
theorem sX8_label_3_3 : ab_X rom K cX8_label 6 1 3 ls [w2, w1, .ref a, v0, v1, v2] hp = if ab_iso hp a 6 = true then (K 96 (.ref a :: [w1, w2]) hp).bind (fun o => ab_X rom K cX8_label 6 1 6 ls (o.1.toList ++ [v0, v1, v2]) o.2) else none := ay_virtual (as := [w1, w2]) (st := [v0, v1, v2]) dX8_label_3 kc_6_148 rfl rfl (Nat.le_of_ble_eq_true rfl)
theorem dX8_label_6 : decode cX8_label 6 = .ok (.ifCond .eq 17, 3) := by decide +kernel
theorem sX8_label_6 : ab_X rom K cX8_label 6 1 6 ls (.int x :: st) hp = if x = 0 then ab_X rom K cX8_label 6 1 23 ls st hp else ab_X rom K cX8_label 6 1 9 ls st hp := ax_if_eq dX8_label_6 (by decide) rfl
theorem dX8_label_9 : decode cX8_label 9 = .ok (.aload_n 0, 1) := by decide +kernel
theorem sX8_label_9 : ab_X rom K cX8_label 6 1 9 (.ref a :: ls) st hp = ab_X rom K cX8_label 6 1 10 (.ref a :: ls) (.ref a :: st) hp := ax_aload_n dX8_label_9 rfl rfl
theorem dX8_label_10 : decode cX8_label 10 = .ok (.getfield 21, 3) := by decide +kernel
theorem sX8_label_10 : ab_X rom K cX8_label 6 1 10 ls (.ref a :: st) hp = (ab_fld hp a 6 3).bind (fun v => ab_X rom K cX8_label 6 1 13 ls (v :: st) hp) := ax_getfield dX8_label_10 kf_6_21 rfl
theorem dX8_label_13 : decode cX8_label 13 = .ok (.iload_n 1, 1) := by decide +kernel
theorem sX8_label_13 : ab_X rom K cX8_label 6 1 13 (v0 :: .int x :: ls) st hp = ab_X rom K cX8_label 6 1 14 (v0 :: .int x :: ls) (.int x :: st) hp := ax_iload_n dX8_label_13 rfl rfl
theorem dX8_label_14 : decode cX8_label 14 = .ok (.aaload, 1) := by decide +kernel
theorem sX8_label_14 : ab_X rom K cX8_label 6 1 14 ls (.int x :: .ref a :: st) hp = (ab_rrd hp a x).bind (fun v => ab_X rom K cX8_label 6 1 15 ls (.ref v :: st) hp) := ax_aaload dX8_label_14 rfl
theorem dX8_label_15 : decode cX8_label 15 = .ok (.getfield 152, 3) := by decide +kernel
theorem sX8_label_15 : ab_X rom K cX8_label 6 1 15 ls (.ref a :: st) hp = (ab_fld hp a 1 4).bind (fun v => ab_X rom K cX8_label 6 1 18 ls (v :: st) hp) := ax_getfield dX8_label_15 kf_6_152 rfl
theorem dX8_label_18 : decode cX8_label 18 = .ok (.iload_n 2, 1) := by decide +kernel
theorem sX8_label_18 : ab_X rom K cX8_label 6 1 18 (v0 :: v1 :: .int x :: ls) st hp = ab_X rom K cX8_label 6 1 19 (v0 :: v1 :: .int x :: ls) (.int x :: st) hp := ax_iload_n dX8_label_18 rfl rfl
theorem dX8_label_19 : decode cX8_label 19 = .ok (.iaload, 1) := by decide +kernel
theorem sX8_label_19 : ab_X rom K cX8_label 6 1 19 ls (.int x :: .ref a :: st) hp = (ab_ard rom 0 hp a x).bind (fun v => ab_X rom K cX8_label 6 1 20 ls (.int v :: st) hp) := ax_iaload dX8_label_19 rfl
theorem dX8_label_20 : decode cX8_label 20 = .ok (.goto 5, 3) := by decide +kernel
theorem sX8_label_20 : ab_X rom K cX8_label 6 1 20 ls st hp = ab_X rom K cX8_label 6 1 25 ls st hp := ax_goto dX8_label_20 (by decide)
theorem dX8_label_23 : decode cX8_label 23 = .ok (.bipush (-2), 2) := by decide +kernel
theorem sX8_label_23 : ab_X rom K cX8_label 6 1 23 ls st hp = ab_X rom K cX8_label 6 1 25 ls (.int (-2) :: st) hp := ax_bipush dX8_label_23 (by decide) rfl
theorem dX8_label_25 : decode cX8_label 25 = .ok (.ireturn, 1) := by decide +kernel
theorem sX8_label_25 : ab_X rom K cX8_label 6 1 25 ls [.int x] hp = some (some (.int x), hp) := ax_iret dX8_label_25 rfl
theorem tX8_line : ab_mT[105]? = some (yX8_line, cX8_line, 5, 1, 6) := by decide +kernel
theorem mX8_line {d : Nat} {a0 : Nat} {x0 : Int32} {x1 : Int32} {x2 : Int32} : ab_M rom (d + 1) 105 [.ref a0, .int x0, .int x1, .int x2] hp = ab_X rom (ab_M rom d) cX8_line 6 1 0 [.ref a0, .int x0, .int x1, .int x2, .null] [] hp := ab_M_eq tX8_line (Nat.le_of_ble_eq_true rfl)
theorem dX8_line_0 : decode cX8_line 0 = .ok (.aload_n 0, 1) := by decide +kernel
theorem sX8_line_0 : ab_X rom K cX8_line 6 1 0 (.ref a :: ls) st hp = ab_X rom K cX8_line 6 1 1 (.ref a :: ls) (.ref a :: st) hp := ax_aload_n dX8_line_0 rfl rfl
theorem dX8_line_1 : decode cX8_line 1 = .ok (.iload_n 1, 1) := by decide +kernel
theorem sX8_line_1 : ab_X rom K cX8_line 6 1 1 (v0 :: .int x :: ls) st hp = ab_X rom K cX8_line 6 1 2 (v0 :: .int x :: ls) (.int x :: st) hp := ax_iload_n dX8_line_1 rfl rfl
theorem dX8_line_2 : decode cX8_line 2 = .ok (.invokevirtual 99, 3) := by decide +kernel
theorem sX8_line_2_0 : ab_X rom K cX8_line 6 1 2 ls [w1, .ref a] hp = if ab_iso hp a 6 = true then (K 95 (.ref a :: [w1]) hp).bind (fun o => ab_X rom K cX8_line 6 1 5 ls (o.1.toList ++ []) o.2) else none := ay_virtual (as := [w1]) (st := []) dX8_line_2 kc_6_99 rfl rfl (Nat.le_of_ble_eq_true rfl)
theorem sX8_line_2_1 : ab_X rom K cX8_line 6 1 2 ls [w1, .ref a, v0] hp = if ab_iso hp a 6 = true then (K 95 (.ref a :: [w1]) hp).bind (fun o => ab_X rom K cX8_line 6 1 5 ls (o.1.toList ++ [v0]) o.2) else none := ay_virtual (as := [w1]) (st := [v0]) dX8_line_2 kc_6_99 rfl rfl (Nat.le_of_ble_eq_true rfl)
theorem sX8_line_2_2 : ab_X rom K cX8_line 6 1 2 ls [w1, .ref a, v0, v1] hp = if ab_iso hp a 6 = true then (K 95 (.ref a :: [w1]) hp).bind (fun o => ab_X rom K cX8_line 6 1 5 ls (o.1.toList ++ [v0, v1]) o.2) else none := ay_virtual (as := [w1]) (st := [v0, v1]) dX8_line_2 kc_6_99 rfl rfl (Nat.le_of_ble_eq_true rfl)
theorem sX8_line_2_3 : ab_X rom K cX8_line 6 1 2 ls [w1, .ref a, v0, v1, v2] hp = if ab_iso hp a 6 = true then (K 95 (.ref a :: [w1]) hp).bind (fun o => ab_X rom K cX8_line 6 1 5 ls (o.1.toList ++ [v0, v1, v2]) o.2) else none := ay_virtual (as := [w1]) (st := [v0, v1, v2]) dX8_line_2 kc_6_99 rfl rfl (Nat.le_of_ble_eq_true rfl)
theorem dX8_line_5 : decode cX8_line 5 = .ok (.ifCond .eq 16, 3) := by decide +kernel
theorem sX8_line_5 : ab_X rom K cX8_line 6 1 5 ls (.int x :: st) hp = if x = 0 then ab_X rom K cX8_line 6 1 21 ls st hp else ab_X rom K cX8_line 6 1 8 ls st hp := ax_if_eq dX8_line_5 (by decide) rfl
theorem dX8_line_8 : decode cX8_line 8 = .ok (.iload_n 2, 1) := by decide +kernel
theorem sX8_line_8 : ab_X rom K cX8_line 6 1 8 (v0 :: v1 :: .int x :: ls) st hp = ab_X rom K cX8_line 6 1 9 (v0 :: v1 :: .int x :: ls) (.int x :: st) hp := ax_iload_n dX8_line_8 rfl rfl
theorem dX8_line_9 : decode cX8_line 9 = .ok (.ifCond .lt 12, 3) := by decide +kernel
theorem sX8_line_9 : ab_X rom K cX8_line 6 1 9 ls (.int x :: st) hp = if x < 0 then ab_X rom K cX8_line 6 1 21 ls st hp else ab_X rom K cX8_line 6 1 12 ls st hp := ax_if_lt dX8_line_9 (by decide) rfl
theorem dX8_line_12 : decode cX8_line 12 = .ok (.iload_n 3, 1) := by decide +kernel
theorem sX8_line_12 : ab_X rom K cX8_line 6 1 12 (v0 :: v1 :: v2 :: .int x :: ls) st hp = ab_X rom K cX8_line 6 1 13 (v0 :: v1 :: v2 :: .int x :: ls) (.int x :: st) hp := ax_iload_n dX8_line_12 rfl rfl
theorem dX8_line_13 : decode cX8_line 13 = .ok (.ifCond .lt 8, 3) := by decide +kernel
theorem sX8_line_13 : ab_X rom K cX8_line 6 1 13 ls (.int x :: st) hp = if x < 0 then ab_X rom K cX8_line 6 1 21 ls st hp else ab_X rom K cX8_line 6 1 16 ls st hp := ax_if_lt dX8_line_13 (by decide) rfl
theorem dX8_line_16 : decode cX8_line 16 = .ok (.iload_n 3, 1) := by decide +kernel
theorem sX8_line_16 : ab_X rom K cX8_line 6 1 16 (v0 :: v1 :: v2 :: .int x :: ls) st hp = ab_X rom K cX8_line 6 1 17 (v0 :: v1 :: v2 :: .int x :: ls) (.int x :: st) hp := ax_iload_n dX8_line_16 rfl rfl
theorem dX8_line_17 : decode cX8_line 17 = .ok (.iconst 1, 1) := by decide +kernel
theorem sX8_line_17 : ab_X rom K cX8_line 6 1 17 ls st hp = ab_X rom K cX8_line 6 1 18 ls (.int 1 :: st) hp := ax_iconst dX8_line_17 (by decide) rfl
theorem dX8_line_18 : decode cX8_line 18 = .ok (.if_icmp .le 6, 3) := by decide +kernel
theorem sX8_line_18 : ab_X rom K cX8_line 6 1 18 ls (.int y :: .int x :: st) hp = if y < x then ab_X rom K cX8_line 6 1 21 ls st hp else ab_X rom K cX8_line 6 1 24 ls st hp := ax_icmp_le dX8_line_18 (by decide) rfl
theorem dX8_line_21 : decode cX8_line 21 = .ok (.bipush (-2), 2) := by decide +kernel
theorem sX8_line_21 : ab_X rom K cX8_line 6 1 21 ls st hp = ab_X rom K cX8_line 6 1 23 ls (.int (-2) :: st) hp := ax_bipush dX8_line_21 (by decide) rfl
theorem dX8_line_23 : decode cX8_line 23 = .ok (.ireturn, 1) := by decide +kernel
theorem sX8_line_23 : ab_X rom K cX8_line 6 1 23 ls [.int x] hp = some (some (.int x), hp) := ax_iret dX8_line_23 rfl
theorem dX8_line_24 : decode cX8_line 24 = .ok (.aload_n 0, 1) := by decide +kernel
theorem sX8_line_24 : ab_X rom K cX8_line 6 1 24 (.ref a :: ls) st hp = ab_X rom K cX8_line 6 1 25 (.ref a :: ls) (.ref a :: st) hp := ax_aload_n dX8_line_24 rfl rfl
theorem dX8_line_25 : decode cX8_line 25 = .ok (.getfield 21, 3) := by decide +kernel
theorem sX8_line_25 : ab_X rom K cX8_line 6 1 25 ls (.ref a :: st) hp = (ab_fld hp a 6 3).bind (fun v => ab_X rom K cX8_line 6 1 28 ls (v :: st) hp) := ax_getfield dX8_line_25 kf_6_21 rfl
theorem dX8_line_28 : decode cX8_line 28 = .ok (.iload_n 1, 1) := by decide +kernel
theorem sX8_line_28 : ab_X rom K cX8_line 6 1 28 (v0 :: .int x :: ls) st hp = ab_X rom K cX8_line 6 1 29 (v0 :: .int x :: ls) (.int x :: st) hp := ax_iload_n dX8_line_28 rfl rfl
theorem dX8_line_29 : decode cX8_line 29 = .ok (.aaload, 1) := by decide +kernel
theorem sX8_line_29 : ab_X rom K cX8_line 6 1 29 ls (.int x :: .ref a :: st) hp = (ab_rrd hp a x).bind (fun v => ab_X rom K cX8_line 6 1 30 ls (.ref v :: st) hp) := ax_aaload dX8_line_29 rfl
theorem dX8_line_30 : decode cX8_line 30 = .ok (.astore 4, 2) := by decide +kernel
theorem sX8_line_30i : ab_X rom K cX8_line 6 1 30 (v0 :: v1 :: v2 :: .int y :: v4 :: ls) (.ref a :: st) hp = ab_X rom K cX8_line 6 1 32 (v0 :: v1 :: v2 :: .int y :: .ref a :: ls) st hp := ax_astore dX8_line_30 (ax_lt (v := v4) rfl) (ab_nl_c1 (j := 3) (v := .int y) rfl (ab_c1_int _)) rfl rfl
theorem sX8_line_30r : ab_X rom K cX8_line 6 1 30 (v0 :: v1 :: v2 :: .ref a2 :: v4 :: ls) (.ref a :: st) hp = ab_X rom K cX8_line 6 1 32 (v0 :: v1 :: v2 :: .ref a2 :: .ref a :: ls) st hp := ax_astore dX8_line_30 (ax_lt (v := v4) rfl) (ab_nl_c1 (j := 3) (v := .ref a2) rfl (ab_c1_ref _)) rfl rfl
theorem sX8_line_30n : ab_X rom K cX8_line 6 1 30 (v0 :: v1 :: v2 :: .null :: v4 :: ls) (.ref a :: st) hp = ab_X rom K cX8_line 6 1 32 (v0 :: v1 :: v2 :: .null :: .ref a :: ls) st hp := ax_astore dX8_line_30 (ax_lt (v := v4) rfl) (ab_nl_c1 (j := 3) (v := .null) rfl ab_c1_null) rfl rfl
theorem dX8_line_32 : decode cX8_line 32 = .ok (.iload_n 2, 1) := by decide +kernel
theorem sX8_line_32 : ab_X rom K cX8_line 6 1 32 (v0 :: v1 :: .int x :: ls) st hp = ab_X rom K cX8_line 6 1 33 (v0 :: v1 :: .int x :: ls) (.int x :: st) hp := ax_iload_n dX8_line_32 rfl rfl
theorem dX8_line_33 : decode cX8_line 33 = .ok (.aload 4, 2) := by decide +kernel
theorem sX8_line_33 : ab_X rom K cX8_line 6 1 33 (v0 :: v1 :: v2 :: v3 :: .ref a :: ls) st hp = ab_X rom K cX8_line 6 1 35 (v0 :: v1 :: v2 :: v3 :: .ref a :: ls) (.ref a :: st) hp := ax_aload dX8_line_33 rfl rfl
theorem dX8_line_35 : decode cX8_line 35 = .ok (.getfield 89, 3) := by decide +kernel
theorem sX8_line_35 : ab_X rom K cX8_line 6 1 35 ls (.ref a :: st) hp = (ab_fld hp a 1 1).bind (fun v => ab_X rom K cX8_line 6 1 38 ls (v :: st) hp) := ax_getfield dX8_line_35 kf_6_89 rfl
theorem dX8_line_38 : decode cX8_line 38 = .ok (.if_icmp .lt 5, 3) := by decide +kernel
theorem sX8_line_38 : ab_X rom K cX8_line 6 1 38 ls (.int y :: .int x :: st) hp = if x < y then ab_X rom K cX8_line 6 1 43 ls st hp else ab_X rom K cX8_line 6 1 41 ls st hp := ax_icmp_lt dX8_line_38 (by decide) rfl
theorem dX8_line_41 : decode cX8_line 41 = .ok (.iconst (-1), 1) := by decide +kernel
theorem sX8_line_41 : ab_X rom K cX8_line 6 1 41 ls st hp = ab_X rom K cX8_line 6 1 42 ls (.int (-1) :: st) hp := ax_iconst dX8_line_41 (by decide) rfl
theorem dX8_line_42 : decode cX8_line 42 = .ok (.ireturn, 1) := by decide +kernel
theorem sX8_line_42 : ab_X rom K cX8_line 6 1 42 ls [.int x] hp = some (some (.int x), hp) := ax_iret dX8_line_42 rfl
theorem dX8_line_43 : decode cX8_line 43 = .ok (.iload_n 3, 1) := by decide +kernel
theorem sX8_line_43 : ab_X rom K cX8_line 6 1 43 (v0 :: v1 :: v2 :: .int x :: ls) st hp = ab_X rom K cX8_line 6 1 44 (v0 :: v1 :: v2 :: .int x :: ls) (.int x :: st) hp := ax_iload_n dX8_line_43 rfl rfl
theorem dX8_line_44 : decode cX8_line 44 = .ok (.ifCond .ne 13, 3) := by decide +kernel
theorem sX8_line_44 : ab_X rom K cX8_line 6 1 44 ls (.int x :: st) hp = if x = 0 then ab_X rom K cX8_line 6 1 47 ls st hp else ab_X rom K cX8_line 6 1 57 ls st hp := ax_if_ne dX8_line_44 (by decide) rfl
theorem dX8_line_47 : decode cX8_line 47 = .ok (.aload 4, 2) := by decide +kernel
theorem sX8_line_47 : ab_X rom K cX8_line 6 1 47 (v0 :: v1 :: v2 :: v3 :: .ref a :: ls) st hp = ab_X rom K cX8_line 6 1 49 (v0 :: v1 :: v2 :: v3 :: .ref a :: ls) (.ref a :: st) hp := ax_aload dX8_line_47 rfl rfl
theorem dX8_line_49 : decode cX8_line 49 = .ok (.getfield 123, 3) := by decide +kernel
theorem sX8_line_49 : ab_X rom K cX8_line 6 1 49 ls (.ref a :: st) hp = (ab_fld hp a 1 2).bind (fun v => ab_X rom K cX8_line 6 1 52 ls (v :: st) hp) := ax_getfield dX8_line_49 kf_6_123 rfl
theorem dX8_line_52 : decode cX8_line 52 = .ok (.iload_n 2, 1) := by decide +kernel
theorem sX8_line_52 : ab_X rom K cX8_line 6 1 52 (v0 :: v1 :: .int x :: ls) st hp = ab_X rom K cX8_line 6 1 53 (v0 :: v1 :: .int x :: ls) (.int x :: st) hp := ax_iload_n dX8_line_52 rfl rfl
theorem dX8_line_53 : decode cX8_line 53 = .ok (.iaload, 1) := by decide +kernel
theorem sX8_line_53 : ab_X rom K cX8_line 6 1 53 ls (.int x :: .ref a :: st) hp = (ab_ard rom 0 hp a x).bind (fun v => ab_X rom K cX8_line 6 1 54 ls (.int v :: st) hp) := ax_iaload dX8_line_53 rfl
theorem dX8_line_54 : decode cX8_line 54 = .ok (.goto 10, 3) := by decide +kernel
theorem sX8_line_54 : ab_X rom K cX8_line 6 1 54 ls st hp = ab_X rom K cX8_line 6 1 64 ls st hp := ax_goto dX8_line_54 (by decide)
theorem dX8_line_57 : decode cX8_line 57 = .ok (.aload 4, 2) := by decide +kernel
theorem sX8_line_57 : ab_X rom K cX8_line 6 1 57 (v0 :: v1 :: v2 :: v3 :: .ref a :: ls) st hp = ab_X rom K cX8_line 6 1 59 (v0 :: v1 :: v2 :: v3 :: .ref a :: ls) (.ref a :: st) hp := ax_aload dX8_line_57 rfl rfl
theorem dX8_line_59 : decode cX8_line 59 = .ok (.getfield 126, 3) := by decide +kernel
theorem sX8_line_59 : ab_X rom K cX8_line 6 1 59 ls (.ref a :: st) hp = (ab_fld hp a 1 3).bind (fun v => ab_X rom K cX8_line 6 1 62 ls (v :: st) hp) := ax_getfield dX8_line_59 kf_6_126 rfl
theorem dX8_line_62 : decode cX8_line 62 = .ok (.iload_n 2, 1) := by decide +kernel
theorem sX8_line_62 : ab_X rom K cX8_line 6 1 62 (v0 :: v1 :: .int x :: ls) st hp = ab_X rom K cX8_line 6 1 63 (v0 :: v1 :: .int x :: ls) (.int x :: st) hp := ax_iload_n dX8_line_62 rfl rfl
theorem dX8_line_63 : decode cX8_line 63 = .ok (.iaload, 1) := by decide +kernel
theorem sX8_line_63 : ab_X rom K cX8_line 6 1 63 ls (.int x :: .ref a :: st) hp = (ab_ard rom 0 hp a x).bind (fun v => ab_X rom K cX8_line 6 1 64 ls (.int v :: st) hp) := ax_iaload dX8_line_63 rfl
theorem dX8_line_64 : decode cX8_line 64 = .ok (.ireturn, 1) := by decide +kernel
theorem sX8_line_64 : ab_X rom K cX8_line 6 1 64 ls [.int x] hp = some (some (.int x), hp) := ax_iret dX8_line_64 rfl
theorem tX8_look : ab_mT[106]? = some (yX8_look, cX8_look, 4, 1, 6) := by decide +kernel
theorem mX8_look {d : Nat} {a0 : Nat} {x0 : Int32} {x1 : Int32} : ab_M rom (d + 1) 106 [.ref a0, .int x0, .int x1] hp = ab_X rom (ab_M rom d) cX8_look 6 1 0 [.ref a0, .int x0, .int x1, .null] [] hp := ab_M_eq tX8_look (Nat.le_of_ble_eq_true rfl)
theorem dX8_look_0 : decode cX8_look 0 = .ok (.aload_n 0, 1) := by decide +kernel
theorem sX8_look_0 : ab_X rom K cX8_look 6 1 0 (.ref a :: ls) st hp = ab_X rom K cX8_look 6 1 1 (.ref a :: ls) (.ref a :: st) hp := ax_aload_n dX8_look_0 rfl rfl
theorem dX8_look_1 : decode cX8_look 1 = .ok (.iload_n 1, 1) := by decide +kernel
theorem sX8_look_1 : ab_X rom K cX8_look 6 1 1 (v0 :: .int x :: ls) st hp = ab_X rom K cX8_look 6 1 2 (v0 :: .int x :: ls) (.int x :: st) hp := ax_iload_n dX8_look_1 rfl rfl
theorem dX8_look_2 : decode cX8_look 2 = .ok (.invokevirtual 99, 3) := by decide +kernel
theorem sX8_look_2_0 : ab_X rom K cX8_look 6 1 2 ls [w1, .ref a] hp = if ab_iso hp a 6 = true then (K 95 (.ref a :: [w1]) hp).bind (fun o => ab_X rom K cX8_look 6 1 5 ls (o.1.toList ++ []) o.2) else none := ay_virtual (as := [w1]) (st := []) dX8_look_2 kc_6_99 rfl rfl (Nat.le_of_ble_eq_true rfl)
theorem sX8_look_2_1 : ab_X rom K cX8_look 6 1 2 ls [w1, .ref a, v0] hp = if ab_iso hp a 6 = true then (K 95 (.ref a :: [w1]) hp).bind (fun o => ab_X rom K cX8_look 6 1 5 ls (o.1.toList ++ [v0]) o.2) else none := ay_virtual (as := [w1]) (st := [v0]) dX8_look_2 kc_6_99 rfl rfl (Nat.le_of_ble_eq_true rfl)
theorem sX8_look_2_2 : ab_X rom K cX8_look 6 1 2 ls [w1, .ref a, v0, v1] hp = if ab_iso hp a 6 = true then (K 95 (.ref a :: [w1]) hp).bind (fun o => ab_X rom K cX8_look 6 1 5 ls (o.1.toList ++ [v0, v1]) o.2) else none := ay_virtual (as := [w1]) (st := [v0, v1]) dX8_look_2 kc_6_99 rfl rfl (Nat.le_of_ble_eq_true rfl)
theorem sX8_look_2_3 : ab_X rom K cX8_look 6 1 2 ls [w1, .ref a, v0, v1, v2] hp = if ab_iso hp a 6 = true then (K 95 (.ref a :: [w1]) hp).bind (fun o => ab_X rom K cX8_look 6 1 5 ls (o.1.toList ++ [v0, v1, v2]) o.2) else none := ay_virtual (as := [w1]) (st := [v0, v1, v2]) dX8_look_2 kc_6_99 rfl rfl (Nat.le_of_ble_eq_true rfl)
theorem dX8_look_5 : decode cX8_look 5 = .ok (.ifCond .ne 6, 3) := by decide +kernel
theorem sX8_look_5 : ab_X rom K cX8_look 6 1 5 ls (.int x :: st) hp = if x = 0 then ab_X rom K cX8_look 6 1 8 ls st hp else ab_X rom K cX8_look 6 1 11 ls st hp := ax_if_ne dX8_look_5 (by decide) rfl
theorem dX8_look_8 : decode cX8_look 8 = .ok (.bipush (-2), 2) := by decide +kernel
theorem sX8_look_8 : ab_X rom K cX8_look 6 1 8 ls st hp = ab_X rom K cX8_look 6 1 10 ls (.int (-2) :: st) hp := ax_bipush dX8_look_8 (by decide) rfl
theorem dX8_look_10 : decode cX8_look 10 = .ok (.ireturn, 1) := by decide +kernel
theorem sX8_look_10 : ab_X rom K cX8_look 6 1 10 ls [.int x] hp = some (some (.int x), hp) := ax_iret dX8_look_10 rfl
theorem dX8_look_11 : decode cX8_look 11 = .ok (.aload_n 0, 1) := by decide +kernel
theorem sX8_look_11 : ab_X rom K cX8_look 6 1 11 (.ref a :: ls) st hp = ab_X rom K cX8_look 6 1 12 (.ref a :: ls) (.ref a :: st) hp := ax_aload_n dX8_look_11 rfl rfl
theorem dX8_look_12 : decode cX8_look 12 = .ok (.getfield 21, 3) := by decide +kernel
theorem sX8_look_12 : ab_X rom K cX8_look 6 1 12 ls (.ref a :: st) hp = (ab_fld hp a 6 3).bind (fun v => ab_X rom K cX8_look 6 1 15 ls (v :: st) hp) := ax_getfield dX8_look_12 kf_6_21 rfl
theorem dX8_look_15 : decode cX8_look 15 = .ok (.iload_n 1, 1) := by decide +kernel
theorem sX8_look_15 : ab_X rom K cX8_look 6 1 15 (v0 :: .int x :: ls) st hp = ab_X rom K cX8_look 6 1 16 (v0 :: .int x :: ls) (.int x :: st) hp := ax_iload_n dX8_look_15 rfl rfl
theorem dX8_look_16 : decode cX8_look 16 = .ok (.aaload, 1) := by decide +kernel
theorem sX8_look_16 : ab_X rom K cX8_look 6 1 16 ls (.int x :: .ref a :: st) hp = (ab_rrd hp a x).bind (fun v => ab_X rom K cX8_look 6 1 17 ls (.ref v :: st) hp) := ax_aaload dX8_look_16 rfl
theorem dX8_look_17 : decode cX8_look 17 = .ok (.astore_n 3, 1) := by decide +kernel
theorem sX8_look_17i : ab_X rom K cX8_look 6 1 17 (v0 :: v1 :: .int y :: v3 :: ls) (.ref a :: st) hp = ab_X rom K cX8_look 6 1 18 (v0 :: v1 :: .int y :: .ref a :: ls) st hp := ax_astore_n dX8_look_17 (ax_lt (v := v3) rfl) (ab_nl_c1 (j := 2) (v := .int y) rfl (ab_c1_int _)) rfl rfl
theorem sX8_look_17r : ab_X rom K cX8_look 6 1 17 (v0 :: v1 :: .ref a2 :: v3 :: ls) (.ref a :: st) hp = ab_X rom K cX8_look 6 1 18 (v0 :: v1 :: .ref a2 :: .ref a :: ls) st hp := ax_astore_n dX8_look_17 (ax_lt (v := v3) rfl) (ab_nl_c1 (j := 2) (v := .ref a2) rfl (ab_c1_ref _)) rfl rfl
theorem sX8_look_17n : ab_X rom K cX8_look 6 1 17 (v0 :: v1 :: .null :: v3 :: ls) (.ref a :: st) hp = ab_X rom K cX8_look 6 1 18 (v0 :: v1 :: .null :: .ref a :: ls) st hp := ax_astore_n dX8_look_17 (ax_lt (v := v3) rfl) (ab_nl_c1 (j := 2) (v := .null) rfl ab_c1_null) rfl rfl
theorem dX8_look_18 : decode cX8_look 18 = .ok (.iload_n 2, 1) := by decide +kernel
theorem sX8_look_18 : ab_X rom K cX8_look 6 1 18 (v0 :: v1 :: .int x :: ls) st hp = ab_X rom K cX8_look 6 1 19 (v0 :: v1 :: .int x :: ls) (.int x :: st) hp := ax_iload_n dX8_look_18 rfl rfl
theorem dX8_look_19 : decode cX8_look 19 = .ok (.tableswitch 101 0 7 #[45, 50, 55, 60, 73, 86, 91, 96], 45) := by decide +kernel
theorem sX8_look_19_d (h : x.toInt < 0 ∨ 7 < x.toInt) : ab_X rom K cX8_look 6 1 19 ls (.int x :: st) hp = ab_X rom K cX8_look 6 1 120 ls st hp := ax_tsw_out dX8_look_19 (by decide) h
theorem sX8_look_19_0 : ab_X rom K cX8_look 6 1 19 ls (.int 0 :: st) hp = ab_X rom K cX8_look 6 1 64 ls st hp := ax_tsw_in (off := 45) dX8_look_19 (by decide) (by decide) (by decide)
theorem sX8_look_19_1 : ab_X rom K cX8_look 6 1 19 ls (.int 1 :: st) hp = ab_X rom K cX8_look 6 1 69 ls st hp := ax_tsw_in (off := 50) dX8_look_19 (by decide) (by decide) (by decide)
theorem sX8_look_19_2 : ab_X rom K cX8_look 6 1 19 ls (.int 2 :: st) hp = ab_X rom K cX8_look 6 1 74 ls st hp := ax_tsw_in (off := 55) dX8_look_19 (by decide) (by decide) (by decide)
theorem sX8_look_19_3 : ab_X rom K cX8_look 6 1 19 ls (.int 3 :: st) hp = ab_X rom K cX8_look 6 1 79 ls st hp := ax_tsw_in (off := 60) dX8_look_19 (by decide) (by decide) (by decide)
theorem sX8_look_19_4 : ab_X rom K cX8_look 6 1 19 ls (.int 4 :: st) hp = ab_X rom K cX8_look 6 1 92 ls st hp := ax_tsw_in (off := 73) dX8_look_19 (by decide) (by decide) (by decide)
theorem sX8_look_19_5 : ab_X rom K cX8_look 6 1 19 ls (.int 5 :: st) hp = ab_X rom K cX8_look 6 1 105 ls st hp := ax_tsw_in (off := 86) dX8_look_19 (by decide) (by decide) (by decide)
theorem sX8_look_19_6 : ab_X rom K cX8_look 6 1 19 ls (.int 6 :: st) hp = ab_X rom K cX8_look 6 1 110 ls st hp := ax_tsw_in (off := 91) dX8_look_19 (by decide) (by decide) (by decide)
theorem sX8_look_19_7 : ab_X rom K cX8_look 6 1 19 ls (.int 7 :: st) hp = ab_X rom K cX8_look 6 1 115 ls st hp := ax_tsw_in (off := 96) dX8_look_19 (by decide) (by decide) (by decide)
theorem dX8_look_64 : decode cX8_look 64 = .ok (.aload_n 3, 1) := by decide +kernel
theorem sX8_look_64 : ab_X rom K cX8_look 6 1 64 (v0 :: v1 :: v2 :: .ref a :: ls) st hp = ab_X rom K cX8_look 6 1 65 (v0 :: v1 :: v2 :: .ref a :: ls) (.ref a :: st) hp := ax_aload_n dX8_look_64 rfl rfl
theorem dX8_look_65 : decode cX8_look 65 = .ok (.getfield 102, 3) := by decide +kernel
theorem sX8_look_65 : ab_X rom K cX8_look 6 1 65 ls (.ref a :: st) hp = (ab_fld hp a 1 0).bind (fun v => ab_X rom K cX8_look 6 1 68 ls (v :: st) hp) := ax_getfield dX8_look_65 kf_6_102 rfl
theorem dX8_look_68 : decode cX8_look 68 = .ok (.ireturn, 1) := by decide +kernel
theorem sX8_look_68 : ab_X rom K cX8_look 6 1 68 ls [.int x] hp = some (some (.int x), hp) := ax_iret dX8_look_68 rfl
theorem dX8_look_69 : decode cX8_look 69 = .ok (.aload_n 3, 1) := by decide +kernel
theorem sX8_look_69 : ab_X rom K cX8_look 6 1 69 (v0 :: v1 :: v2 :: .ref a :: ls) st hp = ab_X rom K cX8_look 6 1 70 (v0 :: v1 :: v2 :: .ref a :: ls) (.ref a :: st) hp := ax_aload_n dX8_look_69 rfl rfl
theorem dX8_look_70 : decode cX8_look 70 = .ok (.getfield 89, 3) := by decide +kernel
theorem sX8_look_70 : ab_X rom K cX8_look 6 1 70 ls (.ref a :: st) hp = (ab_fld hp a 1 1).bind (fun v => ab_X rom K cX8_look 6 1 73 ls (v :: st) hp) := ax_getfield dX8_look_70 kf_6_89 rfl
theorem dX8_look_73 : decode cX8_look 73 = .ok (.ireturn, 1) := by decide +kernel
theorem sX8_look_73 : ab_X rom K cX8_look 6 1 73 ls [.int x] hp = some (some (.int x), hp) := ax_iret dX8_look_73 rfl
theorem dX8_look_74 : decode cX8_look 74 = .ok (.aload_n 3, 1) := by decide +kernel
theorem sX8_look_74 : ab_X rom K cX8_look 6 1 74 (v0 :: v1 :: v2 :: .ref a :: ls) st hp = ab_X rom K cX8_look 6 1 75 (v0 :: v1 :: v2 :: .ref a :: ls) (.ref a :: st) hp := ax_aload_n dX8_look_74 rfl rfl
theorem dX8_look_75 : decode cX8_look 75 = .ok (.invokevirtual 105, 3) := by decide +kernel
theorem sX8_look_75_0 : ab_X rom K cX8_look 6 1 75 ls [.ref a] hp = if ab_iso hp a 1 = true then (K 25 (.ref a :: []) hp).bind (fun o => ab_X rom K cX8_look 6 1 78 ls (o.1.toList ++ []) o.2) else none := ay_virtual (as := []) (st := []) dX8_look_75 kc_6_105 rfl rfl (Nat.le_of_ble_eq_true rfl)
theorem sX8_look_75_1 : ab_X rom K cX8_look 6 1 75 ls [.ref a, v0] hp = if ab_iso hp a 1 = true then (K 25 (.ref a :: []) hp).bind (fun o => ab_X rom K cX8_look 6 1 78 ls (o.1.toList ++ [v0]) o.2) else none := ay_virtual (as := []) (st := [v0]) dX8_look_75 kc_6_105 rfl rfl (Nat.le_of_ble_eq_true rfl)
theorem sX8_look_75_2 : ab_X rom K cX8_look 6 1 75 ls [.ref a, v0, v1] hp = if ab_iso hp a 1 = true then (K 25 (.ref a :: []) hp).bind (fun o => ab_X rom K cX8_look 6 1 78 ls (o.1.toList ++ [v0, v1]) o.2) else none := ay_virtual (as := []) (st := [v0, v1]) dX8_look_75 kc_6_105 rfl rfl (Nat.le_of_ble_eq_true rfl)
theorem sX8_look_75_3 : ab_X rom K cX8_look 6 1 75 ls [.ref a, v0, v1, v2] hp = if ab_iso hp a 1 = true then (K 25 (.ref a :: []) hp).bind (fun o => ab_X rom K cX8_look 6 1 78 ls (o.1.toList ++ [v0, v1, v2]) o.2) else none := ay_virtual (as := []) (st := [v0, v1, v2]) dX8_look_75 kc_6_105 rfl rfl (Nat.le_of_ble_eq_true rfl)
theorem dX8_look_78 : decode cX8_look 78 = .ok (.ireturn, 1) := by decide +kernel
theorem sX8_look_78 : ab_X rom K cX8_look 6 1 78 ls [.int x] hp = some (some (.int x), hp) := ax_iret dX8_look_78 rfl
theorem dX8_look_79 : decode cX8_look 79 = .ok (.aload_n 3, 1) := by decide +kernel
theorem sX8_look_79 : ab_X rom K cX8_look 6 1 79 (v0 :: v1 :: v2 :: .ref a :: ls) st hp = ab_X rom K cX8_look 6 1 80 (v0 :: v1 :: v2 :: .ref a :: ls) (.ref a :: st) hp := ax_aload_n dX8_look_79 rfl rfl
theorem dX8_look_80 : decode cX8_look 80 = .ok (.invokevirtual 108, 3) := by decide +kernel
theorem sX8_look_80_0 : ab_X rom K cX8_look 6 1 80 ls [.ref a] hp = if ab_iso hp a 1 = true then (K 23 (.ref a :: []) hp).bind (fun o => ab_X rom K cX8_look 6 1 83 ls (o.1.toList ++ []) o.2) else none := ay_virtual (as := []) (st := []) dX8_look_80 kc_6_108 rfl rfl (Nat.le_of_ble_eq_true rfl)
theorem sX8_look_80_1 : ab_X rom K cX8_look 6 1 80 ls [.ref a, v0] hp = if ab_iso hp a 1 = true then (K 23 (.ref a :: []) hp).bind (fun o => ab_X rom K cX8_look 6 1 83 ls (o.1.toList ++ [v0]) o.2) else none := ay_virtual (as := []) (st := [v0]) dX8_look_80 kc_6_108 rfl rfl (Nat.le_of_ble_eq_true rfl)
theorem sX8_look_80_2 : ab_X rom K cX8_look 6 1 80 ls [.ref a, v0, v1] hp = if ab_iso hp a 1 = true then (K 23 (.ref a :: []) hp).bind (fun o => ab_X rom K cX8_look 6 1 83 ls (o.1.toList ++ [v0, v1]) o.2) else none := ay_virtual (as := []) (st := [v0, v1]) dX8_look_80 kc_6_108 rfl rfl (Nat.le_of_ble_eq_true rfl)
theorem sX8_look_80_3 : ab_X rom K cX8_look 6 1 80 ls [.ref a, v0, v1, v2] hp = if ab_iso hp a 1 = true then (K 23 (.ref a :: []) hp).bind (fun o => ab_X rom K cX8_look 6 1 83 ls (o.1.toList ++ [v0, v1, v2]) o.2) else none := ay_virtual (as := []) (st := [v0, v1, v2]) dX8_look_80 kc_6_108 rfl rfl (Nat.le_of_ble_eq_true rfl)
theorem dX8_look_83 : decode cX8_look 83 = .ok (.ifCond .eq 7, 3) := by decide +kernel
theorem sX8_look_83 : ab_X rom K cX8_look 6 1 83 ls (.int x :: st) hp = if x = 0 then ab_X rom K cX8_look 6 1 90 ls st hp else ab_X rom K cX8_look 6 1 86 ls st hp := ax_if_eq dX8_look_83 (by decide) rfl
theorem dX8_look_86 : decode cX8_look 86 = .ok (.iconst 1, 1) := by decide +kernel
theorem sX8_look_86 : ab_X rom K cX8_look 6 1 86 ls st hp = ab_X rom K cX8_look 6 1 87 ls (.int 1 :: st) hp := ax_iconst dX8_look_86 (by decide) rfl
theorem dX8_look_87 : decode cX8_look 87 = .ok (.goto 4, 3) := by decide +kernel
theorem sX8_look_87 : ab_X rom K cX8_look 6 1 87 ls st hp = ab_X rom K cX8_look 6 1 91 ls st hp := ax_goto dX8_look_87 (by decide)
theorem dX8_look_90 : decode cX8_look 90 = .ok (.iconst 0, 1) := by decide +kernel
theorem sX8_look_90 : ab_X rom K cX8_look 6 1 90 ls st hp = ab_X rom K cX8_look 6 1 91 ls (.int 0 :: st) hp := ax_iconst dX8_look_90 (by decide) rfl
theorem dX8_look_91 : decode cX8_look 91 = .ok (.ireturn, 1) := by decide +kernel
theorem sX8_look_91 : ab_X rom K cX8_look 6 1 91 ls [.int x] hp = some (some (.int x), hp) := ax_iret dX8_look_91 rfl
theorem dX8_look_92 : decode cX8_look 92 = .ok (.aload_n 3, 1) := by decide +kernel
theorem sX8_look_92 : ab_X rom K cX8_look 6 1 92 (v0 :: v1 :: v2 :: .ref a :: ls) st hp = ab_X rom K cX8_look 6 1 93 (v0 :: v1 :: v2 :: .ref a :: ls) (.ref a :: st) hp := ax_aload_n dX8_look_92 rfl rfl
theorem dX8_look_93 : decode cX8_look 93 = .ok (.invokevirtual 111, 3) := by decide +kernel
theorem sX8_look_93_0 : ab_X rom K cX8_look 6 1 93 ls [.ref a] hp = if ab_iso hp a 1 = true then (K 24 (.ref a :: []) hp).bind (fun o => ab_X rom K cX8_look 6 1 96 ls (o.1.toList ++ []) o.2) else none := ay_virtual (as := []) (st := []) dX8_look_93 kc_6_111 rfl rfl (Nat.le_of_ble_eq_true rfl)
theorem sX8_look_93_1 : ab_X rom K cX8_look 6 1 93 ls [.ref a, v0] hp = if ab_iso hp a 1 = true then (K 24 (.ref a :: []) hp).bind (fun o => ab_X rom K cX8_look 6 1 96 ls (o.1.toList ++ [v0]) o.2) else none := ay_virtual (as := []) (st := [v0]) dX8_look_93 kc_6_111 rfl rfl (Nat.le_of_ble_eq_true rfl)
theorem sX8_look_93_2 : ab_X rom K cX8_look 6 1 93 ls [.ref a, v0, v1] hp = if ab_iso hp a 1 = true then (K 24 (.ref a :: []) hp).bind (fun o => ab_X rom K cX8_look 6 1 96 ls (o.1.toList ++ [v0, v1]) o.2) else none := ay_virtual (as := []) (st := [v0, v1]) dX8_look_93 kc_6_111 rfl rfl (Nat.le_of_ble_eq_true rfl)
theorem sX8_look_93_3 : ab_X rom K cX8_look 6 1 93 ls [.ref a, v0, v1, v2] hp = if ab_iso hp a 1 = true then (K 24 (.ref a :: []) hp).bind (fun o => ab_X rom K cX8_look 6 1 96 ls (o.1.toList ++ [v0, v1, v2]) o.2) else none := ay_virtual (as := []) (st := [v0, v1, v2]) dX8_look_93 kc_6_111 rfl rfl (Nat.le_of_ble_eq_true rfl)
theorem dX8_look_96 : decode cX8_look 96 = .ok (.ifCond .eq 7, 3) := by decide +kernel
theorem sX8_look_96 : ab_X rom K cX8_look 6 1 96 ls (.int x :: st) hp = if x = 0 then ab_X rom K cX8_look 6 1 103 ls st hp else ab_X rom K cX8_look 6 1 99 ls st hp := ax_if_eq dX8_look_96 (by decide) rfl
theorem dX8_look_99 : decode cX8_look 99 = .ok (.iconst 1, 1) := by decide +kernel
theorem sX8_look_99 : ab_X rom K cX8_look 6 1 99 ls st hp = ab_X rom K cX8_look 6 1 100 ls (.int 1 :: st) hp := ax_iconst dX8_look_99 (by decide) rfl
theorem dX8_look_100 : decode cX8_look 100 = .ok (.goto 4, 3) := by decide +kernel
theorem sX8_look_100 : ab_X rom K cX8_look 6 1 100 ls st hp = ab_X rom K cX8_look 6 1 104 ls st hp := ax_goto dX8_look_100 (by decide)
theorem dX8_look_103 : decode cX8_look 103 = .ok (.iconst 0, 1) := by decide +kernel
theorem sX8_look_103 : ab_X rom K cX8_look 6 1 103 ls st hp = ab_X rom K cX8_look 6 1 104 ls (.int 0 :: st) hp := ax_iconst dX8_look_103 (by decide) rfl
theorem dX8_look_104 : decode cX8_look 104 = .ok (.ireturn, 1) := by decide +kernel
theorem sX8_look_104 : ab_X rom K cX8_look 6 1 104 ls [.int x] hp = some (some (.int x), hp) := ax_iret dX8_look_104 rfl
theorem dX8_look_105 : decode cX8_look 105 = .ok (.aload_n 3, 1) := by decide +kernel
theorem sX8_look_105 : ab_X rom K cX8_look 6 1 105 (v0 :: v1 :: v2 :: .ref a :: ls) st hp = ab_X rom K cX8_look 6 1 106 (v0 :: v1 :: v2 :: .ref a :: ls) (.ref a :: st) hp := ax_aload_n dX8_look_105 rfl rfl
theorem dX8_look_106 : decode cX8_look 106 = .ok (.invokevirtual 114, 3) := by decide +kernel
theorem sX8_look_106_0 : ab_X rom K cX8_look 6 1 106 ls [.ref a] hp = if ab_iso hp a 1 = true then (K 29 (.ref a :: []) hp).bind (fun o => ab_X rom K cX8_look 6 1 109 ls (o.1.toList ++ []) o.2) else none := ay_virtual (as := []) (st := []) dX8_look_106 kc_6_114 rfl rfl (Nat.le_of_ble_eq_true rfl)
theorem sX8_look_106_1 : ab_X rom K cX8_look 6 1 106 ls [.ref a, v0] hp = if ab_iso hp a 1 = true then (K 29 (.ref a :: []) hp).bind (fun o => ab_X rom K cX8_look 6 1 109 ls (o.1.toList ++ [v0]) o.2) else none := ay_virtual (as := []) (st := [v0]) dX8_look_106 kc_6_114 rfl rfl (Nat.le_of_ble_eq_true rfl)
theorem sX8_look_106_2 : ab_X rom K cX8_look 6 1 106 ls [.ref a, v0, v1] hp = if ab_iso hp a 1 = true then (K 29 (.ref a :: []) hp).bind (fun o => ab_X rom K cX8_look 6 1 109 ls (o.1.toList ++ [v0, v1]) o.2) else none := ay_virtual (as := []) (st := [v0, v1]) dX8_look_106 kc_6_114 rfl rfl (Nat.le_of_ble_eq_true rfl)
theorem sX8_look_106_3 : ab_X rom K cX8_look 6 1 106 ls [.ref a, v0, v1, v2] hp = if ab_iso hp a 1 = true then (K 29 (.ref a :: []) hp).bind (fun o => ab_X rom K cX8_look 6 1 109 ls (o.1.toList ++ [v0, v1, v2]) o.2) else none := ay_virtual (as := []) (st := [v0, v1, v2]) dX8_look_106 kc_6_114 rfl rfl (Nat.le_of_ble_eq_true rfl)
theorem dX8_look_109 : decode cX8_look 109 = .ok (.ireturn, 1) := by decide +kernel
theorem sX8_look_109 : ab_X rom K cX8_look 6 1 109 ls [.int x] hp = some (some (.int x), hp) := ax_iret dX8_look_109 rfl
theorem dX8_look_110 : decode cX8_look 110 = .ok (.aload_n 3, 1) := by decide +kernel
theorem sX8_look_110 : ab_X rom K cX8_look 6 1 110 (v0 :: v1 :: v2 :: .ref a :: ls) st hp = ab_X rom K cX8_look 6 1 111 (v0 :: v1 :: v2 :: .ref a :: ls) (.ref a :: st) hp := ax_aload_n dX8_look_110 rfl rfl
theorem dX8_look_111 : decode cX8_look 111 = .ok (.invokevirtual 117, 3) := by decide +kernel
theorem sX8_look_111_0 : ab_X rom K cX8_look 6 1 111 ls [.ref a] hp = if ab_iso hp a 1 = true then (K 28 (.ref a :: []) hp).bind (fun o => ab_X rom K cX8_look 6 1 114 ls (o.1.toList ++ []) o.2) else none := ay_virtual (as := []) (st := []) dX8_look_111 kc_6_117 rfl rfl (Nat.le_of_ble_eq_true rfl)
theorem sX8_look_111_1 : ab_X rom K cX8_look 6 1 111 ls [.ref a, v0] hp = if ab_iso hp a 1 = true then (K 28 (.ref a :: []) hp).bind (fun o => ab_X rom K cX8_look 6 1 114 ls (o.1.toList ++ [v0]) o.2) else none := ay_virtual (as := []) (st := [v0]) dX8_look_111 kc_6_117 rfl rfl (Nat.le_of_ble_eq_true rfl)
theorem sX8_look_111_2 : ab_X rom K cX8_look 6 1 111 ls [.ref a, v0, v1] hp = if ab_iso hp a 1 = true then (K 28 (.ref a :: []) hp).bind (fun o => ab_X rom K cX8_look 6 1 114 ls (o.1.toList ++ [v0, v1]) o.2) else none := ay_virtual (as := []) (st := [v0, v1]) dX8_look_111 kc_6_117 rfl rfl (Nat.le_of_ble_eq_true rfl)
theorem sX8_look_111_3 : ab_X rom K cX8_look 6 1 111 ls [.ref a, v0, v1, v2] hp = if ab_iso hp a 1 = true then (K 28 (.ref a :: []) hp).bind (fun o => ab_X rom K cX8_look 6 1 114 ls (o.1.toList ++ [v0, v1, v2]) o.2) else none := ay_virtual (as := []) (st := [v0, v1, v2]) dX8_look_111 kc_6_117 rfl rfl (Nat.le_of_ble_eq_true rfl)
theorem dX8_look_114 : decode cX8_look 114 = .ok (.ireturn, 1) := by decide +kernel
theorem sX8_look_114 : ab_X rom K cX8_look 6 1 114 ls [.int x] hp = some (some (.int x), hp) := ax_iret dX8_look_114 rfl
theorem dX8_look_115 : decode cX8_look 115 = .ok (.aload_n 3, 1) := by decide +kernel
theorem sX8_look_115 : ab_X rom K cX8_look 6 1 115 (v0 :: v1 :: v2 :: .ref a :: ls) st hp = ab_X rom K cX8_look 6 1 116 (v0 :: v1 :: v2 :: .ref a :: ls) (.ref a :: st) hp := ax_aload_n dX8_look_115 rfl rfl
theorem dX8_look_116 : decode cX8_look 116 = .ok (.invokevirtual 120, 3) := by decide +kernel
theorem sX8_look_116_0 : ab_X rom K cX8_look 6 1 116 ls [.ref a] hp = if ab_iso hp a 1 = true then (K 19 (.ref a :: []) hp).bind (fun o => ab_X rom K cX8_look 6 1 119 ls (o.1.toList ++ []) o.2) else none := ay_virtual (as := []) (st := []) dX8_look_116 kc_6_120 rfl rfl (Nat.le_of_ble_eq_true rfl)
theorem sX8_look_116_1 : ab_X rom K cX8_look 6 1 116 ls [.ref a, v0] hp = if ab_iso hp a 1 = true then (K 19 (.ref a :: []) hp).bind (fun o => ab_X rom K cX8_look 6 1 119 ls (o.1.toList ++ [v0]) o.2) else none := ay_virtual (as := []) (st := [v0]) dX8_look_116 kc_6_120 rfl rfl (Nat.le_of_ble_eq_true rfl)
theorem sX8_look_116_2 : ab_X rom K cX8_look 6 1 116 ls [.ref a, v0, v1] hp = if ab_iso hp a 1 = true then (K 19 (.ref a :: []) hp).bind (fun o => ab_X rom K cX8_look 6 1 119 ls (o.1.toList ++ [v0, v1]) o.2) else none := ay_virtual (as := []) (st := [v0, v1]) dX8_look_116 kc_6_120 rfl rfl (Nat.le_of_ble_eq_true rfl)
theorem sX8_look_116_3 : ab_X rom K cX8_look 6 1 116 ls [.ref a, v0, v1, v2] hp = if ab_iso hp a 1 = true then (K 19 (.ref a :: []) hp).bind (fun o => ab_X rom K cX8_look 6 1 119 ls (o.1.toList ++ [v0, v1, v2]) o.2) else none := ay_virtual (as := []) (st := [v0, v1, v2]) dX8_look_116 kc_6_120 rfl rfl (Nat.le_of_ble_eq_true rfl)
theorem dX8_look_119 : decode cX8_look 119 = .ok (.ireturn, 1) := by decide +kernel
theorem sX8_look_119 : ab_X rom K cX8_look 6 1 119 ls [.int x] hp = some (some (.int x), hp) := ax_iret dX8_look_119 rfl
theorem dX8_look_120 : decode cX8_look 120 = .ok (.bipush (-2), 2) := by decide +kernel
theorem sX8_look_120 : ab_X rom K cX8_look 6 1 120 ls st hp = ab_X rom K cX8_look 6 1 122 ls (.int (-2) :: st) hp := ax_bipush dX8_look_120 (by decide) rfl
theorem dX8_look_122 : decode cX8_look 122 = .ok (.ireturn, 1) := by decide +kernel
theorem sX8_look_122 : ab_X rom K cX8_look 6 1 122 ls [.int x] hp = some (some (.int x), hp) := ax_iret dX8_look_122 rfl
theorem tX8_many : ab_mT[107]? = some (yX8_many, cX8_many, 3, 1, 6) := by decide +kernel
theorem mX8_many {d : Nat} {a0 : Nat} {x0 : Int32} {x1 : Int32} : ab_M rom (d + 1) 107 [.ref a0, .int x0, .int x1] hp = ab_X rom (ab_M rom d) cX8_many 6 1 0 [.ref a0, .int x0, .int x1] [] hp := ab_M_eq tX8_many (Nat.le_of_ble_eq_true rfl)
theorem dX8_many_0 : decode cX8_many 0 = .ok (.aload_n 0, 1) := by decide +kernel
theorem sX8_many_0 : ab_X rom K cX8_many 6 1 0 (.ref a :: ls) st hp = ab_X rom K cX8_many 6 1 1 (.ref a :: ls) (.ref a :: st) hp := ax_aload_n dX8_many_0 rfl rfl
theorem dX8_many_1 : decode cX8_many 1 = .ok (.iload_n 1, 1) := by decide +kernel
theorem sX8_many_1 : ab_X rom K cX8_many 6 1 1 (v0 :: .int x :: ls) st hp = ab_X rom K cX8_many 6 1 2 (v0 :: .int x :: ls) (.int x :: st) hp := ax_iload_n dX8_many_1 rfl rfl
theorem dX8_many_2 : decode cX8_many 2 = .ok (.invokevirtual 99, 3) := by decide +kernel
theorem sX8_many_2_0 : ab_X rom K cX8_many 6 1 2 ls [w1, .ref a] hp = if ab_iso hp a 6 = true then (K 95 (.ref a :: [w1]) hp).bind (fun o => ab_X rom K cX8_many 6 1 5 ls (o.1.toList ++ []) o.2) else none := ay_virtual (as := [w1]) (st := []) dX8_many_2 kc_6_99 rfl rfl (Nat.le_of_ble_eq_true rfl)
theorem sX8_many_2_1 : ab_X rom K cX8_many 6 1 2 ls [w1, .ref a, v0] hp = if ab_iso hp a 6 = true then (K 95 (.ref a :: [w1]) hp).bind (fun o => ab_X rom K cX8_many 6 1 5 ls (o.1.toList ++ [v0]) o.2) else none := ay_virtual (as := [w1]) (st := [v0]) dX8_many_2 kc_6_99 rfl rfl (Nat.le_of_ble_eq_true rfl)
theorem sX8_many_2_2 : ab_X rom K cX8_many 6 1 2 ls [w1, .ref a, v0, v1] hp = if ab_iso hp a 6 = true then (K 95 (.ref a :: [w1]) hp).bind (fun o => ab_X rom K cX8_many 6 1 5 ls (o.1.toList ++ [v0, v1]) o.2) else none := ay_virtual (as := [w1]) (st := [v0, v1]) dX8_many_2 kc_6_99 rfl rfl (Nat.le_of_ble_eq_true rfl)
theorem sX8_many_2_3 : ab_X rom K cX8_many 6 1 2 ls [w1, .ref a, v0, v1, v2] hp = if ab_iso hp a 6 = true then (K 95 (.ref a :: [w1]) hp).bind (fun o => ab_X rom K cX8_many 6 1 5 ls (o.1.toList ++ [v0, v1, v2]) o.2) else none := ay_virtual (as := [w1]) (st := [v0, v1, v2]) dX8_many_2 kc_6_99 rfl rfl (Nat.le_of_ble_eq_true rfl)
theorem dX8_many_5 : decode cX8_many 5 = .ok (.ifCond .eq 10, 3) := by decide +kernel
theorem sX8_many_5 : ab_X rom K cX8_many 6 1 5 ls (.int x :: st) hp = if x = 0 then ab_X rom K cX8_many 6 1 15 ls st hp else ab_X rom K cX8_many 6 1 8 ls st hp := ax_if_eq dX8_many_5 (by decide) rfl
theorem dX8_many_8 : decode cX8_many 8 = .ok (.iload_n 2, 1) := by decide +kernel
theorem sX8_many_8 : ab_X rom K cX8_many 6 1 8 (v0 :: v1 :: .int x :: ls) st hp = ab_X rom K cX8_many 6 1 9 (v0 :: v1 :: .int x :: ls) (.int x :: st) hp := ax_iload_n dX8_many_8 rfl rfl
theorem dX8_many_9 : decode cX8_many 9 = .ok (.invokestatic 174, 3) := by decide +kernel
theorem sX8_many_9_0 : ab_X rom K cX8_many 6 1 9 ls [w1] hp = (K 100 [w1] hp).bind (fun o => ab_X rom K cX8_many 6 1 12 ls (o.1.toList ++ []) o.2) := ax_static (as := [w1]) (st := []) dX8_many_9 kc_6_174 rfl rfl (Nat.le_of_ble_eq_true rfl)
theorem sX8_many_9_1 : ab_X rom K cX8_many 6 1 9 ls [w1, v0] hp = (K 100 [w1] hp).bind (fun o => ab_X rom K cX8_many 6 1 12 ls (o.1.toList ++ [v0]) o.2) := ax_static (as := [w1]) (st := [v0]) dX8_many_9 kc_6_174 rfl rfl (Nat.le_of_ble_eq_true rfl)
theorem sX8_many_9_2 : ab_X rom K cX8_many 6 1 9 ls [w1, v0, v1] hp = (K 100 [w1] hp).bind (fun o => ab_X rom K cX8_many 6 1 12 ls (o.1.toList ++ [v0, v1]) o.2) := ax_static (as := [w1]) (st := [v0, v1]) dX8_many_9 kc_6_174 rfl rfl (Nat.le_of_ble_eq_true rfl)
theorem sX8_many_9_3 : ab_X rom K cX8_many 6 1 9 ls [w1, v0, v1, v2] hp = (K 100 [w1] hp).bind (fun o => ab_X rom K cX8_many 6 1 12 ls (o.1.toList ++ [v0, v1, v2]) o.2) := ax_static (as := [w1]) (st := [v0, v1, v2]) dX8_many_9 kc_6_174 rfl rfl (Nat.le_of_ble_eq_true rfl)
theorem dX8_many_12 : decode cX8_many 12 = .ok (.ifCond .ne 6, 3) := by decide +kernel
theorem sX8_many_12 : ab_X rom K cX8_many 6 1 12 ls (.int x :: st) hp = if x = 0 then ab_X rom K cX8_many 6 1 15 ls st hp else ab_X rom K cX8_many 6 1 18 ls st hp := ax_if_ne dX8_many_12 (by decide) rfl
theorem dX8_many_15 : decode cX8_many 15 = .ok (.bipush (-2), 2) := by decide +kernel
theorem sX8_many_15 : ab_X rom K cX8_many 6 1 15 ls st hp = ab_X rom K cX8_many 6 1 17 ls (.int (-2) :: st) hp := ax_bipush dX8_many_15 (by decide) rfl
theorem dX8_many_17 : decode cX8_many 17 = .ok (.ireturn, 1) := by decide +kernel
theorem sX8_many_17 : ab_X rom K cX8_many 6 1 17 ls [.int x] hp = some (some (.int x), hp) := ax_iret dX8_many_17 rfl
theorem dX8_many_18 : decode cX8_many 18 = .ok (.aload_n 0, 1) := by decide +kernel
theorem sX8_many_18 : ab_X rom K cX8_many 6 1 18 (.ref a :: ls) st hp = ab_X rom K cX8_many 6 1 19 (.ref a :: ls) (.ref a :: st) hp := ax_aload_n dX8_many_18 rfl rfl
theorem dX8_many_19 : decode cX8_many 19 = .ok (.aload_n 0, 1) := by decide +kernel
theorem sX8_many_19 : ab_X rom K cX8_many 6 1 19 (.ref a :: ls) st hp = ab_X rom K cX8_many 6 1 20 (.ref a :: ls) (.ref a :: st) hp := ax_aload_n dX8_many_19 rfl rfl
theorem dX8_many_20 : decode cX8_many 20 = .ok (.getfield 21, 3) := by decide +kernel
theorem sX8_many_20 : ab_X rom K cX8_many 6 1 20 ls (.ref a :: st) hp = (ab_fld hp a 6 3).bind (fun v => ab_X rom K cX8_many 6 1 23 ls (v :: st) hp) := ax_getfield dX8_many_20 kf_6_21 rfl
theorem dX8_many_23 : decode cX8_many 23 = .ok (.iload_n 1, 1) := by decide +kernel
theorem sX8_many_23 : ab_X rom K cX8_many 6 1 23 (v0 :: .int x :: ls) st hp = ab_X rom K cX8_many 6 1 24 (v0 :: .int x :: ls) (.int x :: st) hp := ax_iload_n dX8_many_23 rfl rfl
theorem dX8_many_24 : decode cX8_many 24 = .ok (.aaload, 1) := by decide +kernel
theorem sX8_many_24 : ab_X rom K cX8_many 6 1 24 ls (.int x :: .ref a :: st) hp = (ab_rrd hp a x).bind (fun v => ab_X rom K cX8_many 6 1 25 ls (.ref v :: st) hp) := ax_aaload dX8_many_24 rfl
theorem dX8_many_25 : decode cX8_many 25 = .ok (.iload_n 2, 1) := by decide +kernel
theorem sX8_many_25 : ab_X rom K cX8_many 6 1 25 (v0 :: v1 :: .int x :: ls) st hp = ab_X rom K cX8_many 6 1 26 (v0 :: v1 :: .int x :: ls) (.int x :: st) hp := ax_iload_n dX8_many_25 rfl rfl
theorem dX8_many_26 : decode cX8_many 26 = .ok (.invokevirtual 183, 3) := by decide +kernel
theorem sX8_many_26_0 : ab_X rom K cX8_many 6 1 26 ls [w2, w1, .ref a] hp = if ab_iso hp a 6 = true then (K 84 (.ref a :: [w1, w2]) hp).bind (fun o => ab_X rom K cX8_many 6 1 29 ls (o.1.toList ++ []) o.2) else none := ay_virtual (as := [w1, w2]) (st := []) dX8_many_26 kc_6_183 rfl rfl (Nat.le_of_ble_eq_true rfl)
theorem sX8_many_26_1 : ab_X rom K cX8_many 6 1 26 ls [w2, w1, .ref a, v0] hp = if ab_iso hp a 6 = true then (K 84 (.ref a :: [w1, w2]) hp).bind (fun o => ab_X rom K cX8_many 6 1 29 ls (o.1.toList ++ [v0]) o.2) else none := ay_virtual (as := [w1, w2]) (st := [v0]) dX8_many_26 kc_6_183 rfl rfl (Nat.le_of_ble_eq_true rfl)
theorem sX8_many_26_2 : ab_X rom K cX8_many 6 1 26 ls [w2, w1, .ref a, v0, v1] hp = if ab_iso hp a 6 = true then (K 84 (.ref a :: [w1, w2]) hp).bind (fun o => ab_X rom K cX8_many 6 1 29 ls (o.1.toList ++ [v0, v1]) o.2) else none := ay_virtual (as := [w1, w2]) (st := [v0, v1]) dX8_many_26 kc_6_183 rfl rfl (Nat.le_of_ble_eq_true rfl)
theorem sX8_many_26_3 : ab_X rom K cX8_many 6 1 26 ls [w2, w1, .ref a, v0, v1, v2] hp = if ab_iso hp a 6 = true then (K 84 (.ref a :: [w1, w2]) hp).bind (fun o => ab_X rom K cX8_many 6 1 29 ls (o.1.toList ++ [v0, v1, v2]) o.2) else none := ay_virtual (as := [w1, w2]) (st := [v0, v1, v2]) dX8_many_26 kc_6_183 rfl rfl (Nat.le_of_ble_eq_true rfl)
theorem dX8_many_29 : decode cX8_many 29 = .ok (.aload_n 0, 1) := by decide +kernel
theorem sX8_many_29 : ab_X rom K cX8_many 6 1 29 (.ref a :: ls) st hp = ab_X rom K cX8_many 6 1 30 (.ref a :: ls) (.ref a :: st) hp := ax_aload_n dX8_many_29 rfl rfl
theorem dX8_many_30 : decode cX8_many 30 = .ok (.getfield 51, 3) := by decide +kernel
theorem sX8_many_30 : ab_X rom K cX8_many 6 1 30 ls (.ref a :: st) hp = (ab_fld hp a 6 6).bind (fun v => ab_X rom K cX8_many 6 1 33 ls (v :: st) hp) := ax_getfield dX8_many_30 kf_6_51 rfl
theorem dX8_many_33 : decode cX8_many 33 = .ok (.getfield 187, 3) := by decide +kernel
theorem sX8_many_33 : ab_X rom K cX8_many 6 1 33 ls (.ref a :: st) hp = (ab_fld hp a 4 0).bind (fun v => ab_X rom K cX8_many 6 1 36 ls (v :: st) hp) := ax_getfield dX8_many_33 kf_6_187 rfl
theorem dX8_many_36 : decode cX8_many 36 = .ok (.getfield 191, 3) := by decide +kernel
theorem sX8_many_36 : ab_X rom K cX8_many 6 1 36 ls (.ref a :: st) hp = (ab_fld hp a 0 0).bind (fun v => ab_X rom K cX8_many 6 1 39 ls (v :: st) hp) := ax_getfield dX8_many_36 kf_6_191 rfl
theorem dX8_many_39 : decode cX8_many 39 = .ok (.ireturn, 1) := by decide +kernel
theorem sX8_many_39 : ab_X rom K cX8_many 6 1 39 ls [.int x] hp = some (some (.int x), hp) := ax_iret dX8_many_39 rfl
theorem tX8_mirrors : ab_mT[108]? = some (yX8_mirrors, cX8_mirrors, 6, 1, 6) := by decide +kernel
theorem mX8_mirrors {d : Nat} {a0 : Nat} {x0 : Int32} : ab_M rom (d + 1) 108 [.ref a0, .int x0] hp = ab_X rom (ab_M rom d) cX8_mirrors 6 1 0 [.ref a0, .int x0, .null, .null, .null, .null] [] hp := ab_M_eq tX8_mirrors (Nat.le_of_ble_eq_true rfl)
theorem dX8_mirrors_0 : decode cX8_mirrors 0 = .ok (.aload_n 0, 1) := by decide +kernel
theorem sX8_mirrors_0 : ab_X rom K cX8_mirrors 6 1 0 (.ref a :: ls) st hp = ab_X rom K cX8_mirrors 6 1 1 (.ref a :: ls) (.ref a :: st) hp := ax_aload_n dX8_mirrors_0 rfl rfl
theorem dX8_mirrors_1 : decode cX8_mirrors 1 = .ok (.iload_n 1, 1) := by decide +kernel
theorem sX8_mirrors_1 : ab_X rom K cX8_mirrors 6 1 1 (v0 :: .int x :: ls) st hp = ab_X rom K cX8_mirrors 6 1 2 (v0 :: .int x :: ls) (.int x :: st) hp := ax_iload_n dX8_mirrors_1 rfl rfl
theorem dX8_mirrors_2 : decode cX8_mirrors 2 = .ok (.invokevirtual 99, 3) := by decide +kernel
theorem sX8_mirrors_2_0 : ab_X rom K cX8_mirrors 6 1 2 ls [w1, .ref a] hp = if ab_iso hp a 6 = true then (K 95 (.ref a :: [w1]) hp).bind (fun o => ab_X rom K cX8_mirrors 6 1 5 ls (o.1.toList ++ []) o.2) else none := ay_virtual (as := [w1]) (st := []) dX8_mirrors_2 kc_6_99 rfl rfl (Nat.le_of_ble_eq_true rfl)
theorem sX8_mirrors_2_1 : ab_X rom K cX8_mirrors 6 1 2 ls [w1, .ref a, v0] hp = if ab_iso hp a 6 = true then (K 95 (.ref a :: [w1]) hp).bind (fun o => ab_X rom K cX8_mirrors 6 1 5 ls (o.1.toList ++ [v0]) o.2) else none := ay_virtual (as := [w1]) (st := [v0]) dX8_mirrors_2 kc_6_99 rfl rfl (Nat.le_of_ble_eq_true rfl)
theorem sX8_mirrors_2_2 : ab_X rom K cX8_mirrors 6 1 2 ls [w1, .ref a, v0, v1] hp = if ab_iso hp a 6 = true then (K 95 (.ref a :: [w1]) hp).bind (fun o => ab_X rom K cX8_mirrors 6 1 5 ls (o.1.toList ++ [v0, v1]) o.2) else none := ay_virtual (as := [w1]) (st := [v0, v1]) dX8_mirrors_2 kc_6_99 rfl rfl (Nat.le_of_ble_eq_true rfl)
theorem sX8_mirrors_2_3 : ab_X rom K cX8_mirrors 6 1 2 ls [w1, .ref a, v0, v1, v2] hp = if ab_iso hp a 6 = true then (K 95 (.ref a :: [w1]) hp).bind (fun o => ab_X rom K cX8_mirrors 6 1 5 ls (o.1.toList ++ [v0, v1, v2]) o.2) else none := ay_virtual (as := [w1]) (st := [v0, v1, v2]) dX8_mirrors_2 kc_6_99 rfl rfl (Nat.le_of_ble_eq_true rfl)
theorem dX8_mirrors_5 : decode cX8_mirrors 5 = .ok (.ifCond .ne 6, 3) := by decide +kernel
theorem sX8_mirrors_5 : ab_X rom K cX8_mirrors 6 1 5 ls (.int x :: st) hp = if x = 0 then ab_X rom K cX8_mirrors 6 1 8 ls st hp else ab_X rom K cX8_mirrors 6 1 11 ls st hp := ax_if_ne dX8_mirrors_5 (by decide) rfl
theorem dX8_mirrors_8 : decode cX8_mirrors 8 = .ok (.bipush (-2), 2) := by decide +kernel
theorem sX8_mirrors_8 : ab_X rom K cX8_mirrors 6 1 8 ls st hp = ab_X rom K cX8_mirrors 6 1 10 ls (.int (-2) :: st) hp := ax_bipush dX8_mirrors_8 (by decide) rfl
theorem dX8_mirrors_10 : decode cX8_mirrors 10 = .ok (.ireturn, 1) := by decide +kernel
theorem sX8_mirrors_10 : ab_X rom K cX8_mirrors 6 1 10 ls [.int x] hp = some (some (.int x), hp) := ax_iret dX8_mirrors_10 rfl
theorem dX8_mirrors_11 : decode cX8_mirrors 11 = .ok (.aload_n 0, 1) := by decide +kernel
theorem sX8_mirrors_11 : ab_X rom K cX8_mirrors 6 1 11 (.ref a :: ls) st hp = ab_X rom K cX8_mirrors 6 1 12 (.ref a :: ls) (.ref a :: st) hp := ax_aload_n dX8_mirrors_11 rfl rfl
theorem dX8_mirrors_12 : decode cX8_mirrors 12 = .ok (.getfield 21, 3) := by decide +kernel
theorem sX8_mirrors_12 : ab_X rom K cX8_mirrors 6 1 12 ls (.ref a :: st) hp = (ab_fld hp a 6 3).bind (fun v => ab_X rom K cX8_mirrors 6 1 15 ls (v :: st) hp) := ax_getfield dX8_mirrors_12 kf_6_21 rfl
theorem dX8_mirrors_15 : decode cX8_mirrors 15 = .ok (.iload_n 1, 1) := by decide +kernel
theorem sX8_mirrors_15 : ab_X rom K cX8_mirrors 6 1 15 (v0 :: .int x :: ls) st hp = ab_X rom K cX8_mirrors 6 1 16 (v0 :: .int x :: ls) (.int x :: st) hp := ax_iload_n dX8_mirrors_15 rfl rfl
theorem dX8_mirrors_16 : decode cX8_mirrors 16 = .ok (.aaload, 1) := by decide +kernel
theorem sX8_mirrors_16 : ab_X rom K cX8_mirrors 6 1 16 ls (.int x :: .ref a :: st) hp = (ab_rrd hp a x).bind (fun v => ab_X rom K cX8_mirrors 6 1 17 ls (.ref v :: st) hp) := ax_aaload dX8_mirrors_16 rfl
theorem dX8_mirrors_17 : decode cX8_mirrors 17 = .ok (.astore_n 2, 1) := by decide +kernel
theorem sX8_mirrors_17i : ab_X rom K cX8_mirrors 6 1 17 (v0 :: .int y :: v2 :: ls) (.ref a :: st) hp = ab_X rom K cX8_mirrors 6 1 18 (v0 :: .int y :: .ref a :: ls) st hp := ax_astore_n dX8_mirrors_17 (ax_lt (v := v2) rfl) (ab_nl_c1 (j := 1) (v := .int y) rfl (ab_c1_int _)) rfl rfl
theorem sX8_mirrors_17r : ab_X rom K cX8_mirrors 6 1 17 (v0 :: .ref a2 :: v2 :: ls) (.ref a :: st) hp = ab_X rom K cX8_mirrors 6 1 18 (v0 :: .ref a2 :: .ref a :: ls) st hp := ax_astore_n dX8_mirrors_17 (ax_lt (v := v2) rfl) (ab_nl_c1 (j := 1) (v := .ref a2) rfl (ab_c1_ref _)) rfl rfl
theorem sX8_mirrors_17n : ab_X rom K cX8_mirrors 6 1 17 (v0 :: .null :: v2 :: ls) (.ref a :: st) hp = ab_X rom K cX8_mirrors 6 1 18 (v0 :: .null :: .ref a :: ls) st hp := ax_astore_n dX8_mirrors_17 (ax_lt (v := v2) rfl) (ab_nl_c1 (j := 1) (v := .null) rfl ab_c1_null) rfl rfl
theorem dX8_mirrors_18 : decode cX8_mirrors 18 = .ok (.aload_n 2, 1) := by decide +kernel
theorem sX8_mirrors_18 : ab_X rom K cX8_mirrors 6 1 18 (v0 :: v1 :: .ref a :: ls) st hp = ab_X rom K cX8_mirrors 6 1 19 (v0 :: v1 :: .ref a :: ls) (.ref a :: st) hp := ax_aload_n dX8_mirrors_18 rfl rfl
theorem dX8_mirrors_19 : decode cX8_mirrors 19 = .ok (.invokestatic 249, 3) := by decide +kernel
theorem sX8_mirrors_19_0 : ab_X rom K cX8_mirrors 6 1 19 ls [w1] hp = (K 243 [w1] hp).bind (fun o => ab_X rom K cX8_mirrors 6 1 22 ls (o.1.toList ++ []) o.2) := ax_static (as := [w1]) (st := []) dX8_mirrors_19 kc_6_249 rfl rfl (Nat.le_of_ble_eq_true rfl)
theorem sX8_mirrors_19_1 : ab_X rom K cX8_mirrors 6 1 19 ls [w1, v0] hp = (K 243 [w1] hp).bind (fun o => ab_X rom K cX8_mirrors 6 1 22 ls (o.1.toList ++ [v0]) o.2) := ax_static (as := [w1]) (st := [v0]) dX8_mirrors_19 kc_6_249 rfl rfl (Nat.le_of_ble_eq_true rfl)
theorem sX8_mirrors_19_2 : ab_X rom K cX8_mirrors 6 1 19 ls [w1, v0, v1] hp = (K 243 [w1] hp).bind (fun o => ab_X rom K cX8_mirrors 6 1 22 ls (o.1.toList ++ [v0, v1]) o.2) := ax_static (as := [w1]) (st := [v0, v1]) dX8_mirrors_19 kc_6_249 rfl rfl (Nat.le_of_ble_eq_true rfl)
theorem sX8_mirrors_19_3 : ab_X rom K cX8_mirrors 6 1 19 ls [w1, v0, v1, v2] hp = (K 243 [w1] hp).bind (fun o => ab_X rom K cX8_mirrors 6 1 22 ls (o.1.toList ++ [v0, v1, v2]) o.2) := ax_static (as := [w1]) (st := [v0, v1, v2]) dX8_mirrors_19 kc_6_249 rfl rfl (Nat.le_of_ble_eq_true rfl)
theorem dX8_mirrors_22 : decode cX8_mirrors 22 = .ok (.istore_n 3, 1) := by decide +kernel
theorem sX8_mirrors_22i : ab_X rom K cX8_mirrors 6 1 22 (v0 :: v1 :: .int y :: v3 :: ls) (.int x :: st) hp = ab_X rom K cX8_mirrors 6 1 23 (v0 :: v1 :: .int y :: .int x :: ls) st hp := ax_istore_n dX8_mirrors_22 (ax_lt (v := v3) rfl) (ab_nl_c1 (j := 2) (v := .int y) rfl (ab_c1_int _)) rfl rfl
theorem sX8_mirrors_22r : ab_X rom K cX8_mirrors 6 1 22 (v0 :: v1 :: .ref a2 :: v3 :: ls) (.int x :: st) hp = ab_X rom K cX8_mirrors 6 1 23 (v0 :: v1 :: .ref a2 :: .int x :: ls) st hp := ax_istore_n dX8_mirrors_22 (ax_lt (v := v3) rfl) (ab_nl_c1 (j := 2) (v := .ref a2) rfl (ab_c1_ref _)) rfl rfl
theorem sX8_mirrors_22n : ab_X rom K cX8_mirrors 6 1 22 (v0 :: v1 :: .null :: v3 :: ls) (.int x :: st) hp = ab_X rom K cX8_mirrors 6 1 23 (v0 :: v1 :: .null :: .int x :: ls) st hp := ax_istore_n dX8_mirrors_22 (ax_lt (v := v3) rfl) (ab_nl_c1 (j := 2) (v := .null) rfl ab_c1_null) rfl rfl
theorem dX8_mirrors_23 : decode cX8_mirrors 23 = .ok (.iload_n 3, 1) := by decide +kernel
theorem sX8_mirrors_23 : ab_X rom K cX8_mirrors 6 1 23 (v0 :: v1 :: v2 :: .int x :: ls) st hp = ab_X rom K cX8_mirrors 6 1 24 (v0 :: v1 :: v2 :: .int x :: ls) (.int x :: st) hp := ax_iload_n dX8_mirrors_23 rfl rfl
theorem dX8_mirrors_24 : decode cX8_mirrors 24 = .ok (.iconst (-1), 1) := by decide +kernel
theorem sX8_mirrors_24 : ab_X rom K cX8_mirrors 6 1 24 ls st hp = ab_X rom K cX8_mirrors 6 1 25 ls (.int (-1) :: st) hp := ax_iconst dX8_mirrors_24 (by decide) rfl
theorem dX8_mirrors_25 : decode cX8_mirrors 25 = .ok (.if_icmp .ne 6, 3) := by decide +kernel
theorem sX8_mirrors_25 : ab_X rom K cX8_mirrors 6 1 25 ls (.int y :: .int x :: st) hp = if x = y then ab_X rom K cX8_mirrors 6 1 28 ls st hp else ab_X rom K cX8_mirrors 6 1 31 ls st hp := ax_icmp_ne dX8_mirrors_25 (by decide) rfl
theorem dX8_mirrors_28 : decode cX8_mirrors 28 = .ok (.bipush (-6), 2) := by decide +kernel
theorem sX8_mirrors_28 : ab_X rom K cX8_mirrors 6 1 28 ls st hp = ab_X rom K cX8_mirrors 6 1 30 ls (.int (-6) :: st) hp := ax_bipush dX8_mirrors_28 (by decide) rfl
theorem dX8_mirrors_30 : decode cX8_mirrors 30 = .ok (.ireturn, 1) := by decide +kernel
theorem sX8_mirrors_30 : ab_X rom K cX8_mirrors 6 1 30 ls [.int x] hp = some (some (.int x), hp) := ax_iret dX8_mirrors_30 rfl
theorem dX8_mirrors_31 : decode cX8_mirrors 31 = .ok (.aload_n 0, 1) := by decide +kernel
theorem sX8_mirrors_31 : ab_X rom K cX8_mirrors 6 1 31 (.ref a :: ls) st hp = ab_X rom K cX8_mirrors 6 1 32 (.ref a :: ls) (.ref a :: st) hp := ax_aload_n dX8_mirrors_31 rfl rfl
theorem dX8_mirrors_32 : decode cX8_mirrors 32 = .ok (.getfield 42, 3) := by decide +kernel
theorem sX8_mirrors_32 : ab_X rom K cX8_mirrors 6 1 32 ls (.ref a :: st) hp = (ab_fld hp a 6 5).bind (fun v => ab_X rom K cX8_mirrors 6 1 35 ls (v :: st) hp) := ax_getfield dX8_mirrors_32 kf_6_42 rfl
theorem dX8_mirrors_35 : decode cX8_mirrors 35 = .ok (.iload_n 1, 1) := by decide +kernel
theorem sX8_mirrors_35 : ab_X rom K cX8_mirrors 6 1 35 (v0 :: .int x :: ls) st hp = ab_X rom K cX8_mirrors 6 1 36 (v0 :: .int x :: ls) (.int x :: st) hp := ax_iload_n dX8_mirrors_35 rfl rfl
theorem dX8_mirrors_36 : decode cX8_mirrors 36 = .ok (.aload_n 2, 1) := by decide +kernel
theorem sX8_mirrors_36 : ab_X rom K cX8_mirrors 6 1 36 (v0 :: v1 :: .ref a :: ls) st hp = ab_X rom K cX8_mirrors 6 1 37 (v0 :: v1 :: .ref a :: ls) (.ref a :: st) hp := ax_aload_n dX8_mirrors_36 rfl rfl
theorem dX8_mirrors_37 : decode cX8_mirrors 37 = .ok (.invokevirtual 137, 3) := by decide +kernel
theorem sX8_mirrors_37_0 : ab_X rom K cX8_mirrors 6 1 37 ls [w2, w1, .ref a] hp = if ab_iso hp a 2 = true then (K 37 (.ref a :: [w1, w2]) hp).bind (fun o => ab_X rom K cX8_mirrors 6 1 40 ls (o.1.toList ++ []) o.2) else none := ay_virtual (as := [w1, w2]) (st := []) dX8_mirrors_37 kc_6_137 rfl rfl (Nat.le_of_ble_eq_true rfl)
theorem sX8_mirrors_37_1 : ab_X rom K cX8_mirrors 6 1 37 ls [w2, w1, .ref a, v0] hp = if ab_iso hp a 2 = true then (K 37 (.ref a :: [w1, w2]) hp).bind (fun o => ab_X rom K cX8_mirrors 6 1 40 ls (o.1.toList ++ [v0]) o.2) else none := ay_virtual (as := [w1, w2]) (st := [v0]) dX8_mirrors_37 kc_6_137 rfl rfl (Nat.le_of_ble_eq_true rfl)
theorem sX8_mirrors_37_2 : ab_X rom K cX8_mirrors 6 1 37 ls [w2, w1, .ref a, v0, v1] hp = if ab_iso hp a 2 = true then (K 37 (.ref a :: [w1, w2]) hp).bind (fun o => ab_X rom K cX8_mirrors 6 1 40 ls (o.1.toList ++ [v0, v1]) o.2) else none := ay_virtual (as := [w1, w2]) (st := [v0, v1]) dX8_mirrors_37 kc_6_137 rfl rfl (Nat.le_of_ble_eq_true rfl)
theorem sX8_mirrors_37_3 : ab_X rom K cX8_mirrors 6 1 37 ls [w2, w1, .ref a, v0, v1, v2] hp = if ab_iso hp a 2 = true then (K 37 (.ref a :: [w1, w2]) hp).bind (fun o => ab_X rom K cX8_mirrors 6 1 40 ls (o.1.toList ++ [v0, v1, v2]) o.2) else none := ay_virtual (as := [w1, w2]) (st := [v0, v1, v2]) dX8_mirrors_37 kc_6_137 rfl rfl (Nat.le_of_ble_eq_true rfl)
theorem dX8_mirrors_40 : decode cX8_mirrors 40 = .ok (.iconst 0, 1) := by decide +kernel
theorem sX8_mirrors_40 : ab_X rom K cX8_mirrors 6 1 40 ls st hp = ab_X rom K cX8_mirrors 6 1 41 ls (.int 0 :: st) hp := ax_iconst dX8_mirrors_40 (by decide) rfl
theorem dX8_mirrors_41 : decode cX8_mirrors 41 = .ok (.istore 4, 2) := by decide +kernel
theorem sX8_mirrors_41i : ab_X rom K cX8_mirrors 6 1 41 (v0 :: v1 :: v2 :: .int y :: v4 :: ls) (.int x :: st) hp = ab_X rom K cX8_mirrors 6 1 43 (v0 :: v1 :: v2 :: .int y :: .int x :: ls) st hp := ax_istore dX8_mirrors_41 (ax_lt (v := v4) rfl) (ab_nl_c1 (j := 3) (v := .int y) rfl (ab_c1_int _)) rfl rfl
theorem sX8_mirrors_41r : ab_X rom K cX8_mirrors 6 1 41 (v0 :: v1 :: v2 :: .ref a2 :: v4 :: ls) (.int x :: st) hp = ab_X rom K cX8_mirrors 6 1 43 (v0 :: v1 :: v2 :: .ref a2 :: .int x :: ls) st hp := ax_istore dX8_mirrors_41 (ax_lt (v := v4) rfl) (ab_nl_c1 (j := 3) (v := .ref a2) rfl (ab_c1_ref _)) rfl rfl
theorem sX8_mirrors_41n : ab_X rom K cX8_mirrors 6 1 41 (v0 :: v1 :: v2 :: .null :: v4 :: ls) (.int x :: st) hp = ab_X rom K cX8_mirrors 6 1 43 (v0 :: v1 :: v2 :: .null :: .int x :: ls) st hp := ax_istore dX8_mirrors_41 (ax_lt (v := v4) rfl) (ab_nl_c1 (j := 3) (v := .null) rfl ab_c1_null) rfl rfl
theorem dX8_mirrors_43 : decode cX8_mirrors 43 = .ok (.iload 4, 2) := by decide +kernel
theorem sX8_mirrors_43 : ab_X rom K cX8_mirrors 6 1 43 (v0 :: v1 :: v2 :: v3 :: .int x :: ls) st hp = ab_X rom K cX8_mirrors 6 1 45 (v0 :: v1 :: v2 :: v3 :: .int x :: ls) (.int x :: st) hp := ax_iload dX8_mirrors_43 rfl rfl
theorem dX8_mirrors_45 : decode cX8_mirrors 45 = .ok (.aload_n 2, 1) := by decide +kernel
theorem sX8_mirrors_45 : ab_X rom K cX8_mirrors 6 1 45 (v0 :: v1 :: .ref a :: ls) st hp = ab_X rom K cX8_mirrors 6 1 46 (v0 :: v1 :: .ref a :: ls) (.ref a :: st) hp := ax_aload_n dX8_mirrors_45 rfl rfl
theorem dX8_mirrors_46 : decode cX8_mirrors 46 = .ok (.getfield 102, 3) := by decide +kernel
theorem sX8_mirrors_46 : ab_X rom K cX8_mirrors 6 1 46 ls (.ref a :: st) hp = (ab_fld hp a 1 0).bind (fun v => ab_X rom K cX8_mirrors 6 1 49 ls (v :: st) hp) := ax_getfield dX8_mirrors_46 kf_6_102 rfl
theorem dX8_mirrors_49 : decode cX8_mirrors 49 = .ok (.if_icmp .ge 49, 3) := by decide +kernel
theorem sX8_mirrors_49 : ab_X rom K cX8_mirrors 6 1 49 ls (.int y :: .int x :: st) hp = if x < y then ab_X rom K cX8_mirrors 6 1 52 ls st hp else ab_X rom K cX8_mirrors 6 1 98 ls st hp := ax_icmp_ge dX8_mirrors_49 (by decide) rfl
theorem dX8_mirrors_52 : decode cX8_mirrors 52 = .ok (.aload_n 2, 1) := by decide +kernel
theorem sX8_mirrors_52 : ab_X rom K cX8_mirrors 6 1 52 (v0 :: v1 :: .ref a :: ls) st hp = ab_X rom K cX8_mirrors 6 1 53 (v0 :: v1 :: .ref a :: ls) (.ref a :: st) hp := ax_aload_n dX8_mirrors_52 rfl rfl
theorem dX8_mirrors_53 : decode cX8_mirrors 53 = .ok (.getfield 152, 3) := by decide +kernel
theorem sX8_mirrors_53 : ab_X rom K cX8_mirrors 6 1 53 ls (.ref a :: st) hp = (ab_fld hp a 1 4).bind (fun v => ab_X rom K cX8_mirrors 6 1 56 ls (v :: st) hp) := ax_getfield dX8_mirrors_53 kf_6_152 rfl
theorem dX8_mirrors_56 : decode cX8_mirrors 56 = .ok (.iload 4, 2) := by decide +kernel
theorem sX8_mirrors_56 : ab_X rom K cX8_mirrors 6 1 56 (v0 :: v1 :: v2 :: v3 :: .int x :: ls) st hp = ab_X rom K cX8_mirrors 6 1 58 (v0 :: v1 :: v2 :: v3 :: .int x :: ls) (.int x :: st) hp := ax_iload dX8_mirrors_56 rfl rfl
theorem dX8_mirrors_58 : decode cX8_mirrors 58 = .ok (.iaload, 1) := by decide +kernel
theorem sX8_mirrors_58 : ab_X rom K cX8_mirrors 6 1 58 ls (.int x :: .ref a :: st) hp = (ab_ard rom 0 hp a x).bind (fun v => ab_X rom K cX8_mirrors 6 1 59 ls (.int v :: st) hp) := ax_iaload dX8_mirrors_58 rfl
theorem dX8_mirrors_59 : decode cX8_mirrors 59 = .ok (.istore 5, 2) := by decide +kernel
theorem sX8_mirrors_59i : ab_X rom K cX8_mirrors 6 1 59 (v0 :: v1 :: v2 :: v3 :: .int y :: v5 :: ls) (.int x :: st) hp = ab_X rom K cX8_mirrors 6 1 61 (v0 :: v1 :: v2 :: v3 :: .int y :: .int x :: ls) st hp := ax_istore dX8_mirrors_59 (ax_lt (v := v5) rfl) (ab_nl_c1 (j := 4) (v := .int y) rfl (ab_c1_int _)) rfl rfl
theorem sX8_mirrors_59r : ab_X rom K cX8_mirrors 6 1 59 (v0 :: v1 :: v2 :: v3 :: .ref a2 :: v5 :: ls) (.int x :: st) hp = ab_X rom K cX8_mirrors 6 1 61 (v0 :: v1 :: v2 :: v3 :: .ref a2 :: .int x :: ls) st hp := ax_istore dX8_mirrors_59 (ax_lt (v := v5) rfl) (ab_nl_c1 (j := 4) (v := .ref a2) rfl (ab_c1_ref _)) rfl rfl
theorem sX8_mirrors_59n : ab_X rom K cX8_mirrors 6 1 59 (v0 :: v1 :: v2 :: v3 :: .null :: v5 :: ls) (.int x :: st) hp = ab_X rom K cX8_mirrors 6 1 61 (v0 :: v1 :: v2 :: v3 :: .null :: .int x :: ls) st hp := ax_istore dX8_mirrors_59 (ax_lt (v := v5) rfl) (ab_nl_c1 (j := 4) (v := .null) rfl ab_c1_null) rfl rfl
theorem dX8_mirrors_61 : decode cX8_mirrors 61 = .ok (.aload_n 2, 1) := by decide +kernel
theorem sX8_mirrors_61 : ab_X rom K cX8_mirrors 6 1 61 (v0 :: v1 :: .ref a :: ls) st hp = ab_X rom K cX8_mirrors 6 1 62 (v0 :: v1 :: .ref a :: ls) (.ref a :: st) hp := ax_aload_n dX8_mirrors_61 rfl rfl
theorem dX8_mirrors_62 : decode cX8_mirrors 62 = .ok (.getfield 152, 3) := by decide +kernel
theorem sX8_mirrors_62 : ab_X rom K cX8_mirrors 6 1 62 ls (.ref a :: st) hp = (ab_fld hp a 1 4).bind (fun v => ab_X rom K cX8_mirrors 6 1 65 ls (v :: st) hp) := ax_getfield dX8_mirrors_62 kf_6_152 rfl
theorem dX8_mirrors_65 : decode cX8_mirrors 65 = .ok (.iload 4, 2) := by decide +kernel
theorem sX8_mirrors_65 : ab_X rom K cX8_mirrors 6 1 65 (v0 :: v1 :: v2 :: v3 :: .int x :: ls) st hp = ab_X rom K cX8_mirrors 6 1 67 (v0 :: v1 :: v2 :: v3 :: .int x :: ls) (.int x :: st) hp := ax_iload dX8_mirrors_65 rfl rfl
theorem dX8_mirrors_67 : decode cX8_mirrors 67 = .ok (.iload 5, 2) := by decide +kernel
theorem sX8_mirrors_67 : ab_X rom K cX8_mirrors 6 1 67 (v0 :: v1 :: v2 :: v3 :: v4 :: .int x :: ls) st hp = ab_X rom K cX8_mirrors 6 1 69 (v0 :: v1 :: v2 :: v3 :: v4 :: .int x :: ls) (.int x :: st) hp := ax_iload dX8_mirrors_67 rfl rfl
theorem dX8_mirrors_69 : decode cX8_mirrors 69 = .ok (.iload_n 3, 1) := by decide +kernel
theorem sX8_mirrors_69 : ab_X rom K cX8_mirrors 6 1 69 (v0 :: v1 :: v2 :: .int x :: ls) st hp = ab_X rom K cX8_mirrors 6 1 70 (v0 :: v1 :: v2 :: .int x :: ls) (.int x :: st) hp := ax_iload_n dX8_mirrors_69 rfl rfl
theorem dX8_mirrors_70 : decode cX8_mirrors 70 = .ok (.if_icmp .gt 10, 3) := by decide +kernel
theorem sX8_mirrors_70 : ab_X rom K cX8_mirrors 6 1 70 ls (.int y :: .int x :: st) hp = if y < x then ab_X rom K cX8_mirrors 6 1 80 ls st hp else ab_X rom K cX8_mirrors 6 1 73 ls st hp := ax_icmp_gt dX8_mirrors_70 (by decide) rfl
theorem dX8_mirrors_73 : decode cX8_mirrors 73 = .ok (.iload_n 3, 1) := by decide +kernel
theorem sX8_mirrors_73 : ab_X rom K cX8_mirrors 6 1 73 (v0 :: v1 :: v2 :: .int x :: ls) st hp = ab_X rom K cX8_mirrors 6 1 74 (v0 :: v1 :: v2 :: .int x :: ls) (.int x :: st) hp := ax_iload_n dX8_mirrors_73 rfl rfl
theorem dX8_mirrors_74 : decode cX8_mirrors 74 = .ok (.iload 5, 2) := by decide +kernel
theorem sX8_mirrors_74 : ab_X rom K cX8_mirrors 6 1 74 (v0 :: v1 :: v2 :: v3 :: v4 :: .int x :: ls) st hp = ab_X rom K cX8_mirrors 6 1 76 (v0 :: v1 :: v2 :: v3 :: v4 :: .int x :: ls) (.int x :: st) hp := ax_iload dX8_mirrors_74 rfl rfl
theorem dX8_mirrors_76 : decode cX8_mirrors 76 = .ok (.isub, 1) := by decide +kernel
theorem sX8_mirrors_76 : ab_X rom K cX8_mirrors 6 1 76 ls (.int y :: .int x :: st) hp = ab_X rom K cX8_mirrors 6 1 77 ls (.int (x - y) :: st) hp := ax_isub dX8_mirrors_76 rfl
theorem dX8_mirrors_77 : decode cX8_mirrors 77 = .ok (.goto 14, 3) := by decide +kernel
theorem sX8_mirrors_77 : ab_X rom K cX8_mirrors 6 1 77 ls st hp = ab_X rom K cX8_mirrors 6 1 91 ls st hp := ax_goto dX8_mirrors_77 (by decide)
theorem dX8_mirrors_80 : decode cX8_mirrors 80 = .ok (.aload_n 2, 1) := by decide +kernel
theorem sX8_mirrors_80 : ab_X rom K cX8_mirrors 6 1 80 (v0 :: v1 :: .ref a :: ls) st hp = ab_X rom K cX8_mirrors 6 1 81 (v0 :: v1 :: .ref a :: ls) (.ref a :: st) hp := ax_aload_n dX8_mirrors_80 rfl rfl
theorem dX8_mirrors_81 : decode cX8_mirrors 81 = .ok (.getfield 89, 3) := by decide +kernel
theorem sX8_mirrors_81 : ab_X rom K cX8_mirrors 6 1 81 ls (.ref a :: st) hp = (ab_fld hp a 1 1).bind (fun v => ab_X rom K cX8_mirrors 6 1 84 ls (v :: st) hp) := ax_getfield dX8_mirrors_81 kf_6_89 rfl
theorem dX8_mirrors_84 : decode cX8_mirrors 84 = .ok (.iload_n 3, 1) := by decide +kernel
theorem sX8_mirrors_84 : ab_X rom K cX8_mirrors 6 1 84 (v0 :: v1 :: v2 :: .int x :: ls) st hp = ab_X rom K cX8_mirrors 6 1 85 (v0 :: v1 :: v2 :: .int x :: ls) (.int x :: st) hp := ax_iload_n dX8_mirrors_84 rfl rfl
theorem dX8_mirrors_85 : decode cX8_mirrors 85 = .ok (.iadd, 1) := by decide +kernel
theorem sX8_mirrors_85 : ab_X rom K cX8_mirrors 6 1 85 ls (.int y :: .int x :: st) hp = ab_X rom K cX8_mirrors 6 1 86 ls (.int (x + y) :: st) hp := ax_iadd dX8_mirrors_85 rfl
theorem dX8_mirrors_86 : decode cX8_mirrors 86 = .ok (.iconst 1, 1) := by decide +kernel
theorem sX8_mirrors_86 : ab_X rom K cX8_mirrors 6 1 86 ls st hp = ab_X rom K cX8_mirrors 6 1 87 ls (.int 1 :: st) hp := ax_iconst dX8_mirrors_86 (by decide) rfl
theorem dX8_mirrors_87 : decode cX8_mirrors 87 = .ok (.iadd, 1) := by decide +kernel
theorem sX8_mirrors_87 : ab_X rom K cX8_mirrors 6 1 87 ls (.int y :: .int x :: st) hp = ab_X rom K cX8_mirrors 6 1 88 ls (.int (x + y) :: st) hp := ax_iadd dX8_mirrors_87 rfl
theorem dX8_mirrors_88 : decode cX8_mirrors 88 = .ok (.iload 5, 2) := by decide +kernel
theorem sX8_mirrors_88 : ab_X rom K cX8_mirrors 6 1 88 (v0 :: v1 :: v2 :: v3 :: v4 :: .int x :: ls) st hp = ab_X rom K cX8_mirrors 6 1 90 (v0 :: v1 :: v2 :: v3 :: v4 :: .int x :: ls) (.int x :: st) hp := ax_iload dX8_mirrors_88 rfl rfl
theorem dX8_mirrors_90 : decode cX8_mirrors 90 = .ok (.isub, 1) := by decide +kernel
theorem sX8_mirrors_90 : ab_X rom K cX8_mirrors 6 1 90 ls (.int y :: .int x :: st) hp = ab_X rom K cX8_mirrors 6 1 91 ls (.int (x - y) :: st) hp := ax_isub dX8_mirrors_90 rfl
theorem dX8_mirrors_91 : decode cX8_mirrors 91 = .ok (.iastore, 1) := by decide +kernel
theorem sX8_mirrors_91 : ab_X rom K cX8_mirrors 6 1 91 ls (.int y :: .int x :: .ref a :: st) hp = (ab_awr 0 hp a x y).bind (fun hp' => ab_X rom K cX8_mirrors 6 1 92 ls st hp') := ax_iastore dX8_mirrors_91 rfl
theorem dX8_mirrors_92 : decode cX8_mirrors 92 = .ok (.iinc 4 1, 3) := by decide +kernel
theorem sX8_mirrors_92i : ab_X rom K cX8_mirrors 6 1 92 (v0 :: v1 :: v2 :: .int y :: .int x :: ls) st hp = ab_X rom K cX8_mirrors 6 1 95 (v0 :: v1 :: v2 :: .int y :: .int (x + 1) :: ls) st hp := ax_iinc dX8_mirrors_92 rfl (ab_nl_c1 (j := 3) (v := .int y) rfl (ab_c1_int _)) (by decide) rfl rfl
theorem sX8_mirrors_92r : ab_X rom K cX8_mirrors 6 1 92 (v0 :: v1 :: v2 :: .ref a2 :: .int x :: ls) st hp = ab_X rom K cX8_mirrors 6 1 95 (v0 :: v1 :: v2 :: .ref a2 :: .int (x + 1) :: ls) st hp := ax_iinc dX8_mirrors_92 rfl (ab_nl_c1 (j := 3) (v := .ref a2) rfl (ab_c1_ref _)) (by decide) rfl rfl
theorem sX8_mirrors_92n : ab_X rom K cX8_mirrors 6 1 92 (v0 :: v1 :: v2 :: .null :: .int x :: ls) st hp = ab_X rom K cX8_mirrors 6 1 95 (v0 :: v1 :: v2 :: .null :: .int (x + 1) :: ls) st hp := ax_iinc dX8_mirrors_92 rfl (ab_nl_c1 (j := 3) (v := .null) rfl ab_c1_null) (by decide) rfl rfl
theorem dX8_mirrors_95 : decode cX8_mirrors 95 = .ok (.goto (-52), 3) := by decide +kernel
theorem sX8_mirrors_95 : ab_X rom K cX8_mirrors 6 1 95 ls st hp = ab_X rom K cX8_mirrors 6 1 43 ls st hp := ax_goto dX8_mirrors_95 (by decide)
theorem dX8_mirrors_98 : decode cX8_mirrors 98 = .ok (.aload_n 2, 1) := by decide +kernel
theorem sX8_mirrors_98 : ab_X rom K cX8_mirrors 6 1 98 (v0 :: v1 :: .ref a :: ls) st hp = ab_X rom K cX8_mirrors 6 1 99 (v0 :: v1 :: .ref a :: ls) (.ref a :: st) hp := ax_aload_n dX8_mirrors_98 rfl rfl
theorem dX8_mirrors_99 : decode cX8_mirrors 99 = .ok (.invokestatic 249, 3) := by decide +kernel
theorem sX8_mirrors_99_0 : ab_X rom K cX8_mirrors 6 1 99 ls [w1] hp = (K 243 [w1] hp).bind (fun o => ab_X rom K cX8_mirrors 6 1 102 ls (o.1.toList ++ []) o.2) := ax_static (as := [w1]) (st := []) dX8_mirrors_99 kc_6_249 rfl rfl (Nat.le_of_ble_eq_true rfl)
theorem sX8_mirrors_99_1 : ab_X rom K cX8_mirrors 6 1 99 ls [w1, v0] hp = (K 243 [w1] hp).bind (fun o => ab_X rom K cX8_mirrors 6 1 102 ls (o.1.toList ++ [v0]) o.2) := ax_static (as := [w1]) (st := [v0]) dX8_mirrors_99 kc_6_249 rfl rfl (Nat.le_of_ble_eq_true rfl)
theorem sX8_mirrors_99_2 : ab_X rom K cX8_mirrors 6 1 99 ls [w1, v0, v1] hp = (K 243 [w1] hp).bind (fun o => ab_X rom K cX8_mirrors 6 1 102 ls (o.1.toList ++ [v0, v1]) o.2) := ax_static (as := [w1]) (st := [v0, v1]) dX8_mirrors_99 kc_6_249 rfl rfl (Nat.le_of_ble_eq_true rfl)
theorem sX8_mirrors_99_3 : ab_X rom K cX8_mirrors 6 1 99 ls [w1, v0, v1, v2] hp = (K 243 [w1] hp).bind (fun o => ab_X rom K cX8_mirrors 6 1 102 ls (o.1.toList ++ [v0, v1, v2]) o.2) := ax_static (as := [w1]) (st := [v0, v1, v2]) dX8_mirrors_99 kc_6_249 rfl rfl (Nat.le_of_ble_eq_true rfl)
theorem dX8_mirrors_102 : decode cX8_mirrors 102 = .ok (.ireturn, 1) := by decide +kernel
theorem sX8_mirrors_102 : ab_X rom K cX8_mirrors 6 1 102 ls [.int x] hp = some (some (.int x), hp) := ax_iret dX8_mirrors_102 rfl
theorem tX8_octet : ab_mT[109]? = some (yX8_octet, cX8_octet, 2, 1, 6) := by decide +kernel
theorem mX8_octet {d : Nat} {a0 : Nat} {x0 : Int32} : ab_M rom (d + 1) 109 [.ref a0, .int x0] hp = ab_X rom (ab_M rom d) cX8_octet 6 1 0 [.ref a0, .int x0] [] hp := ab_M_eq tX8_octet (Nat.le_of_ble_eq_true rfl)
theorem dX8_octet_0 : decode cX8_octet 0 = .ok (.iload_n 1, 1) := by decide +kernel
theorem sX8_octet_0 : ab_X rom K cX8_octet 6 1 0 (v0 :: .int x :: ls) st hp = ab_X rom K cX8_octet 6 1 1 (v0 :: .int x :: ls) (.int x :: st) hp := ax_iload_n dX8_octet_0 rfl rfl
theorem dX8_octet_1 : decode cX8_octet 1 = .ok (.ifCond .lt 14, 3) := by decide +kernel
theorem sX8_octet_1 : ab_X rom K cX8_octet 6 1 1 ls (.int x :: st) hp = if x < 0 then ab_X rom K cX8_octet 6 1 15 ls st hp else ab_X rom K cX8_octet 6 1 4 ls st hp := ax_if_lt dX8_octet_1 (by decide) rfl
theorem dX8_octet_4 : decode cX8_octet 4 = .ok (.iload_n 1, 1) := by decide +kernel
theorem sX8_octet_4 : ab_X rom K cX8_octet 6 1 4 (v0 :: .int x :: ls) st hp = ab_X rom K cX8_octet 6 1 5 (v0 :: .int x :: ls) (.int x :: st) hp := ax_iload_n dX8_octet_4 rfl rfl
theorem dX8_octet_5 : decode cX8_octet 5 = .ok (.aload_n 0, 1) := by decide +kernel
theorem sX8_octet_5 : ab_X rom K cX8_octet 6 1 5 (.ref a :: ls) st hp = ab_X rom K cX8_octet 6 1 6 (.ref a :: ls) (.ref a :: st) hp := ax_aload_n dX8_octet_5 rfl rfl
theorem dX8_octet_6 : decode cX8_octet 6 = .ok (.getfield 16, 3) := by decide +kernel
theorem sX8_octet_6 : ab_X rom K cX8_octet 6 1 6 ls (.ref a :: st) hp = (ab_fld hp a 6 2).bind (fun v => ab_X rom K cX8_octet 6 1 9 ls (v :: st) hp) := ax_getfield dX8_octet_6 kf_6_16 rfl
theorem dX8_octet_9 : decode cX8_octet 9 = .ok (.getfield 69, 3) := by decide +kernel
theorem sX8_octet_9 : ab_X rom K cX8_octet 6 1 9 ls (.ref a :: st) hp = (ab_fld hp a 5 1).bind (fun v => ab_X rom K cX8_octet 6 1 12 ls (v :: st) hp) := ax_getfield dX8_octet_9 kf_6_69 rfl
theorem dX8_octet_12 : decode cX8_octet 12 = .ok (.if_icmp .lt 7, 3) := by decide +kernel
theorem sX8_octet_12 : ab_X rom K cX8_octet 6 1 12 ls (.int y :: .int x :: st) hp = if x < y then ab_X rom K cX8_octet 6 1 19 ls st hp else ab_X rom K cX8_octet 6 1 15 ls st hp := ax_icmp_lt dX8_octet_12 (by decide) rfl
theorem dX8_octet_15 : decode cX8_octet 15 = .ok (.iconst (-1), 1) := by decide +kernel
theorem sX8_octet_15 : ab_X rom K cX8_octet 6 1 15 ls st hp = ab_X rom K cX8_octet 6 1 16 ls (.int (-1) :: st) hp := ax_iconst dX8_octet_15 (by decide) rfl
theorem dX8_octet_16 : decode cX8_octet 16 = .ok (.goto 12, 3) := by decide +kernel
theorem sX8_octet_16 : ab_X rom K cX8_octet 6 1 16 ls st hp = ab_X rom K cX8_octet 6 1 28 ls st hp := ax_goto dX8_octet_16 (by decide)
theorem dX8_octet_19 : decode cX8_octet 19 = .ok (.aload_n 0, 1) := by decide +kernel
theorem sX8_octet_19 : ab_X rom K cX8_octet 6 1 19 (.ref a :: ls) st hp = ab_X rom K cX8_octet 6 1 20 (.ref a :: ls) (.ref a :: st) hp := ax_aload_n dX8_octet_19 rfl rfl
theorem dX8_octet_20 : decode cX8_octet 20 = .ok (.getfield 16, 3) := by decide +kernel
theorem sX8_octet_20 : ab_X rom K cX8_octet 6 1 20 ls (.ref a :: st) hp = (ab_fld hp a 6 2).bind (fun v => ab_X rom K cX8_octet 6 1 23 ls (v :: st) hp) := ax_getfield dX8_octet_20 kf_6_16 rfl
theorem dX8_octet_23 : decode cX8_octet 23 = .ok (.getfield 285, 3) := by decide +kernel
theorem sX8_octet_23 : ab_X rom K cX8_octet 6 1 23 ls (.ref a :: st) hp = (ab_fld hp a 5 0).bind (fun v => ab_X rom K cX8_octet 6 1 26 ls (v :: st) hp) := ax_getfield dX8_octet_23 kf_6_285 rfl
theorem dX8_octet_26 : decode cX8_octet 26 = .ok (.iload_n 1, 1) := by decide +kernel
theorem sX8_octet_26 : ab_X rom K cX8_octet 6 1 26 (v0 :: .int x :: ls) st hp = ab_X rom K cX8_octet 6 1 27 (v0 :: .int x :: ls) (.int x :: st) hp := ax_iload_n dX8_octet_26 rfl rfl
theorem dX8_octet_27 : decode cX8_octet 27 = .ok (.iaload, 1) := by decide +kernel
theorem sX8_octet_27 : ab_X rom K cX8_octet 6 1 27 ls (.int x :: .ref a :: st) hp = (ab_ard rom 0 hp a x).bind (fun v => ab_X rom K cX8_octet 6 1 28 ls (.int v :: st) hp) := ax_iaload dX8_octet_27 rfl
theorem dX8_octet_28 : decode cX8_octet 28 = .ok (.ireturn, 1) := by decide +kernel
theorem sX8_octet_28 : ab_X rom K cX8_octet 6 1 28 ls [.int x] hp = some (some (.int x), hp) := ax_iret dX8_octet_28 rfl
theorem tX8_reverse : ab_mT[110]? = some (yX8_reverse, cX8_reverse, 4, 1, 6) := by decide +kernel
theorem mX8_reverse {d : Nat} {a0 : Nat} {x0 : Int32} : ab_M rom (d + 1) 110 [.ref a0, .int x0] hp = ab_X rom (ab_M rom d) cX8_reverse 6 1 0 [.ref a0, .int x0, .null, .null] [] hp := ab_M_eq tX8_reverse (Nat.le_of_ble_eq_true rfl)
theorem dX8_reverse_0 : decode cX8_reverse 0 = .ok (.aload_n 0, 1) := by decide +kernel
theorem sX8_reverse_0 : ab_X rom K cX8_reverse 6 1 0 (.ref a :: ls) st hp = ab_X rom K cX8_reverse 6 1 1 (.ref a :: ls) (.ref a :: st) hp := ax_aload_n dX8_reverse_0 rfl rfl
theorem dX8_reverse_1 : decode cX8_reverse 1 = .ok (.iload_n 1, 1) := by decide +kernel
theorem sX8_reverse_1 : ab_X rom K cX8_reverse 6 1 1 (v0 :: .int x :: ls) st hp = ab_X rom K cX8_reverse 6 1 2 (v0 :: .int x :: ls) (.int x :: st) hp := ax_iload_n dX8_reverse_1 rfl rfl
theorem dX8_reverse_2 : decode cX8_reverse 2 = .ok (.invokevirtual 99, 3) := by decide +kernel
theorem sX8_reverse_2_0 : ab_X rom K cX8_reverse 6 1 2 ls [w1, .ref a] hp = if ab_iso hp a 6 = true then (K 95 (.ref a :: [w1]) hp).bind (fun o => ab_X rom K cX8_reverse 6 1 5 ls (o.1.toList ++ []) o.2) else none := ay_virtual (as := [w1]) (st := []) dX8_reverse_2 kc_6_99 rfl rfl (Nat.le_of_ble_eq_true rfl)
theorem sX8_reverse_2_1 : ab_X rom K cX8_reverse 6 1 2 ls [w1, .ref a, v0] hp = if ab_iso hp a 6 = true then (K 95 (.ref a :: [w1]) hp).bind (fun o => ab_X rom K cX8_reverse 6 1 5 ls (o.1.toList ++ [v0]) o.2) else none := ay_virtual (as := [w1]) (st := [v0]) dX8_reverse_2 kc_6_99 rfl rfl (Nat.le_of_ble_eq_true rfl)
theorem sX8_reverse_2_2 : ab_X rom K cX8_reverse 6 1 2 ls [w1, .ref a, v0, v1] hp = if ab_iso hp a 6 = true then (K 95 (.ref a :: [w1]) hp).bind (fun o => ab_X rom K cX8_reverse 6 1 5 ls (o.1.toList ++ [v0, v1]) o.2) else none := ay_virtual (as := [w1]) (st := [v0, v1]) dX8_reverse_2 kc_6_99 rfl rfl (Nat.le_of_ble_eq_true rfl)
theorem sX8_reverse_2_3 : ab_X rom K cX8_reverse 6 1 2 ls [w1, .ref a, v0, v1, v2] hp = if ab_iso hp a 6 = true then (K 95 (.ref a :: [w1]) hp).bind (fun o => ab_X rom K cX8_reverse 6 1 5 ls (o.1.toList ++ [v0, v1, v2]) o.2) else none := ay_virtual (as := [w1]) (st := [v0, v1, v2]) dX8_reverse_2 kc_6_99 rfl rfl (Nat.le_of_ble_eq_true rfl)
theorem dX8_reverse_5 : decode cX8_reverse 5 = .ok (.ifCond .ne 6, 3) := by decide +kernel
theorem sX8_reverse_5 : ab_X rom K cX8_reverse 6 1 5 ls (.int x :: st) hp = if x = 0 then ab_X rom K cX8_reverse 6 1 8 ls st hp else ab_X rom K cX8_reverse 6 1 11 ls st hp := ax_if_ne dX8_reverse_5 (by decide) rfl
theorem dX8_reverse_8 : decode cX8_reverse 8 = .ok (.bipush (-2), 2) := by decide +kernel
theorem sX8_reverse_8 : ab_X rom K cX8_reverse 6 1 8 ls st hp = ab_X rom K cX8_reverse 6 1 10 ls (.int (-2) :: st) hp := ax_bipush dX8_reverse_8 (by decide) rfl
theorem dX8_reverse_10 : decode cX8_reverse 10 = .ok (.ireturn, 1) := by decide +kernel
theorem sX8_reverse_10 : ab_X rom K cX8_reverse 6 1 10 ls [.int x] hp = some (some (.int x), hp) := ax_iret dX8_reverse_10 rfl
theorem dX8_reverse_11 : decode cX8_reverse 11 = .ok (.aload_n 0, 1) := by decide +kernel
theorem sX8_reverse_11 : ab_X rom K cX8_reverse 6 1 11 (.ref a :: ls) st hp = ab_X rom K cX8_reverse 6 1 12 (.ref a :: ls) (.ref a :: st) hp := ax_aload_n dX8_reverse_11 rfl rfl
theorem dX8_reverse_12 : decode cX8_reverse 12 = .ok (.getfield 21, 3) := by decide +kernel
theorem sX8_reverse_12 : ab_X rom K cX8_reverse 6 1 12 ls (.ref a :: st) hp = (ab_fld hp a 6 3).bind (fun v => ab_X rom K cX8_reverse 6 1 15 ls (v :: st) hp) := ax_getfield dX8_reverse_12 kf_6_21 rfl
theorem dX8_reverse_15 : decode cX8_reverse 15 = .ok (.iload_n 1, 1) := by decide +kernel
theorem sX8_reverse_15 : ab_X rom K cX8_reverse 6 1 15 (v0 :: .int x :: ls) st hp = ab_X rom K cX8_reverse 6 1 16 (v0 :: .int x :: ls) (.int x :: st) hp := ax_iload_n dX8_reverse_15 rfl rfl
theorem dX8_reverse_16 : decode cX8_reverse 16 = .ok (.aaload, 1) := by decide +kernel
theorem sX8_reverse_16 : ab_X rom K cX8_reverse 6 1 16 ls (.int x :: .ref a :: st) hp = (ab_rrd hp a x).bind (fun v => ab_X rom K cX8_reverse 6 1 17 ls (.ref v :: st) hp) := ax_aaload dX8_reverse_16 rfl
theorem dX8_reverse_17 : decode cX8_reverse 17 = .ok (.astore_n 2, 1) := by decide +kernel
theorem sX8_reverse_17i : ab_X rom K cX8_reverse 6 1 17 (v0 :: .int y :: v2 :: ls) (.ref a :: st) hp = ab_X rom K cX8_reverse 6 1 18 (v0 :: .int y :: .ref a :: ls) st hp := ax_astore_n dX8_reverse_17 (ax_lt (v := v2) rfl) (ab_nl_c1 (j := 1) (v := .int y) rfl (ab_c1_int _)) rfl rfl
theorem sX8_reverse_17r : ab_X rom K cX8_reverse 6 1 17 (v0 :: .ref a2 :: v2 :: ls) (.ref a :: st) hp = ab_X rom K cX8_reverse 6 1 18 (v0 :: .ref a2 :: .ref a :: ls) st hp := ax_astore_n dX8_reverse_17 (ax_lt (v := v2) rfl) (ab_nl_c1 (j := 1) (v := .ref a2) rfl (ab_c1_ref _)) rfl rfl
theorem sX8_reverse_17n : ab_X rom K cX8_reverse 6 1 17 (v0 :: .null :: v2 :: ls) (.ref a :: st) hp = ab_X rom K cX8_reverse 6 1 18 (v0 :: .null :: .ref a :: ls) st hp := ax_astore_n dX8_reverse_17 (ax_lt (v := v2) rfl) (ab_nl_c1 (j := 1) (v := .null) rfl ab_c1_null) rfl rfl
theorem dX8_reverse_18 : decode cX8_reverse 18 = .ok (.aload_n 2, 1) := by decide +kernel
theorem sX8_reverse_18 : ab_X rom K cX8_reverse 6 1 18 (v0 :: v1 :: .ref a :: ls) st hp = ab_X rom K cX8_reverse 6 1 19 (v0 :: v1 :: .ref a :: ls) (.ref a :: st) hp := ax_aload_n dX8_reverse_18 rfl rfl
theorem dX8_reverse_19 : decode cX8_reverse 19 = .ok (.invokevirtual 165, 3) := by decide +kernel
theorem sX8_reverse_19_0 : ab_X rom K cX8_reverse 6 1 19 ls [.ref a] hp = if ab_iso hp a 1 = true then (K 13 (.ref a :: []) hp).bind (fun o => ab_X rom K cX8_reverse 6 1 22 ls (o.1.toList ++ []) o.2) else none := ay_virtual (as := []) (st := []) dX8_reverse_19 kc_6_165 rfl rfl (Nat.le_of_ble_eq_true rfl)
theorem sX8_reverse_19_1 : ab_X rom K cX8_reverse 6 1 19 ls [.ref a, v0] hp = if ab_iso hp a 1 = true then (K 13 (.ref a :: []) hp).bind (fun o => ab_X rom K cX8_reverse 6 1 22 ls (o.1.toList ++ [v0]) o.2) else none := ay_virtual (as := []) (st := [v0]) dX8_reverse_19 kc_6_165 rfl rfl (Nat.le_of_ble_eq_true rfl)
theorem sX8_reverse_19_2 : ab_X rom K cX8_reverse 6 1 19 ls [.ref a, v0, v1] hp = if ab_iso hp a 1 = true then (K 13 (.ref a :: []) hp).bind (fun o => ab_X rom K cX8_reverse 6 1 22 ls (o.1.toList ++ [v0, v1]) o.2) else none := ay_virtual (as := []) (st := [v0, v1]) dX8_reverse_19 kc_6_165 rfl rfl (Nat.le_of_ble_eq_true rfl)
theorem sX8_reverse_19_3 : ab_X rom K cX8_reverse 6 1 19 ls [.ref a, v0, v1, v2] hp = if ab_iso hp a 1 = true then (K 13 (.ref a :: []) hp).bind (fun o => ab_X rom K cX8_reverse 6 1 22 ls (o.1.toList ++ [v0, v1, v2]) o.2) else none := ay_virtual (as := []) (st := [v0, v1, v2]) dX8_reverse_19 kc_6_165 rfl rfl (Nat.le_of_ble_eq_true rfl)
theorem dX8_reverse_22 : decode cX8_reverse 22 = .ok (.ifCond .eq 14, 3) := by decide +kernel
theorem sX8_reverse_22 : ab_X rom K cX8_reverse 6 1 22 ls (.int x :: st) hp = if x = 0 then ab_X rom K cX8_reverse 6 1 36 ls st hp else ab_X rom K cX8_reverse 6 1 25 ls st hp := ax_if_eq dX8_reverse_22 (by decide) rfl
theorem dX8_reverse_25 : decode cX8_reverse 25 = .ok (.aload_n 2, 1) := by decide +kernel
theorem sX8_reverse_25 : ab_X rom K cX8_reverse 6 1 25 (v0 :: v1 :: .ref a :: ls) st hp = ab_X rom K cX8_reverse 6 1 26 (v0 :: v1 :: .ref a :: ls) (.ref a :: st) hp := ax_aload_n dX8_reverse_25 rfl rfl
theorem dX8_reverse_26 : decode cX8_reverse 26 = .ok (.invokevirtual 246, 3) := by decide +kernel
theorem sX8_reverse_26_0 : ab_X rom K cX8_reverse 6 1 26 ls [.ref a] hp = if ab_iso hp a 1 = true then (K 21 (.ref a :: []) hp).bind (fun o => ab_X rom K cX8_reverse 6 1 29 ls (o.1.toList ++ []) o.2) else none := ay_virtual (as := []) (st := []) dX8_reverse_26 kc_6_246 rfl rfl (Nat.le_of_ble_eq_true rfl)
theorem sX8_reverse_26_1 : ab_X rom K cX8_reverse 6 1 26 ls [.ref a, v0] hp = if ab_iso hp a 1 = true then (K 21 (.ref a :: []) hp).bind (fun o => ab_X rom K cX8_reverse 6 1 29 ls (o.1.toList ++ [v0]) o.2) else none := ay_virtual (as := []) (st := [v0]) dX8_reverse_26 kc_6_246 rfl rfl (Nat.le_of_ble_eq_true rfl)
theorem sX8_reverse_26_2 : ab_X rom K cX8_reverse 6 1 26 ls [.ref a, v0, v1] hp = if ab_iso hp a 1 = true then (K 21 (.ref a :: []) hp).bind (fun o => ab_X rom K cX8_reverse 6 1 29 ls (o.1.toList ++ [v0, v1]) o.2) else none := ay_virtual (as := []) (st := [v0, v1]) dX8_reverse_26 kc_6_246 rfl rfl (Nat.le_of_ble_eq_true rfl)
theorem sX8_reverse_26_3 : ab_X rom K cX8_reverse 6 1 26 ls [.ref a, v0, v1, v2] hp = if ab_iso hp a 1 = true then (K 21 (.ref a :: []) hp).bind (fun o => ab_X rom K cX8_reverse 6 1 29 ls (o.1.toList ++ [v0, v1, v2]) o.2) else none := ay_virtual (as := []) (st := [v0, v1, v2]) dX8_reverse_26 kc_6_246 rfl rfl (Nat.le_of_ble_eq_true rfl)
theorem dX8_reverse_29 : decode cX8_reverse 29 = .ok (.aload_n 2, 1) := by decide +kernel
theorem sX8_reverse_29 : ab_X rom K cX8_reverse 6 1 29 (v0 :: v1 :: .ref a :: ls) st hp = ab_X rom K cX8_reverse 6 1 30 (v0 :: v1 :: .ref a :: ls) (.ref a :: st) hp := ax_aload_n dX8_reverse_29 rfl rfl
theorem dX8_reverse_30 : decode cX8_reverse 30 = .ok (.getfield 89, 3) := by decide +kernel
theorem sX8_reverse_30 : ab_X rom K cX8_reverse 6 1 30 ls (.ref a :: st) hp = (ab_fld hp a 1 1).bind (fun v => ab_X rom K cX8_reverse 6 1 33 ls (v :: st) hp) := ax_getfield dX8_reverse_30 kf_6_89 rfl
theorem dX8_reverse_33 : decode cX8_reverse 33 = .ok (.if_icmp .le 6, 3) := by decide +kernel
theorem sX8_reverse_33 : ab_X rom K cX8_reverse 6 1 33 ls (.int y :: .int x :: st) hp = if y < x then ab_X rom K cX8_reverse 6 1 36 ls st hp else ab_X rom K cX8_reverse 6 1 39 ls st hp := ax_icmp_le dX8_reverse_33 (by decide) rfl
theorem dX8_reverse_36 : decode cX8_reverse 36 = .ok (.bipush (-6), 2) := by decide +kernel
theorem sX8_reverse_36 : ab_X rom K cX8_reverse 6 1 36 ls st hp = ab_X rom K cX8_reverse 6 1 38 ls (.int (-6) :: st) hp := ax_bipush dX8_reverse_36 (by decide) rfl
theorem dX8_reverse_38 : decode cX8_reverse 38 = .ok (.ireturn, 1) := by decide +kernel
theorem sX8_reverse_38 : ab_X rom K cX8_reverse 6 1 38 ls [.int x] hp = some (some (.int x), hp) := ax_iret dX8_reverse_38 rfl
theorem dX8_reverse_39 : decode cX8_reverse 39 = .ok (.aload_n 0, 1) := by decide +kernel
theorem sX8_reverse_39 : ab_X rom K cX8_reverse 6 1 39 (.ref a :: ls) st hp = ab_X rom K cX8_reverse 6 1 40 (.ref a :: ls) (.ref a :: st) hp := ax_aload_n dX8_reverse_39 rfl rfl
theorem dX8_reverse_40 : decode cX8_reverse 40 = .ok (.getfield 42, 3) := by decide +kernel
theorem sX8_reverse_40 : ab_X rom K cX8_reverse 6 1 40 ls (.ref a :: st) hp = (ab_fld hp a 6 5).bind (fun v => ab_X rom K cX8_reverse 6 1 43 ls (v :: st) hp) := ax_getfield dX8_reverse_40 kf_6_42 rfl
theorem dX8_reverse_43 : decode cX8_reverse 43 = .ok (.iload_n 1, 1) := by decide +kernel
theorem sX8_reverse_43 : ab_X rom K cX8_reverse 6 1 43 (v0 :: .int x :: ls) st hp = ab_X rom K cX8_reverse 6 1 44 (v0 :: .int x :: ls) (.int x :: st) hp := ax_iload_n dX8_reverse_43 rfl rfl
theorem dX8_reverse_44 : decode cX8_reverse 44 = .ok (.aload_n 2, 1) := by decide +kernel
theorem sX8_reverse_44 : ab_X rom K cX8_reverse 6 1 44 (v0 :: v1 :: .ref a :: ls) st hp = ab_X rom K cX8_reverse 6 1 45 (v0 :: v1 :: .ref a :: ls) (.ref a :: st) hp := ax_aload_n dX8_reverse_44 rfl rfl
theorem dX8_reverse_45 : decode cX8_reverse 45 = .ok (.invokevirtual 137, 3) := by decide +kernel
theorem sX8_reverse_45_0 : ab_X rom K cX8_reverse 6 1 45 ls [w2, w1, .ref a] hp = if ab_iso hp a 2 = true then (K 37 (.ref a :: [w1, w2]) hp).bind (fun o => ab_X rom K cX8_reverse 6 1 48 ls (o.1.toList ++ []) o.2) else none := ay_virtual (as := [w1, w2]) (st := []) dX8_reverse_45 kc_6_137 rfl rfl (Nat.le_of_ble_eq_true rfl)
theorem sX8_reverse_45_1 : ab_X rom K cX8_reverse 6 1 45 ls [w2, w1, .ref a, v0] hp = if ab_iso hp a 2 = true then (K 37 (.ref a :: [w1, w2]) hp).bind (fun o => ab_X rom K cX8_reverse 6 1 48 ls (o.1.toList ++ [v0]) o.2) else none := ay_virtual (as := [w1, w2]) (st := [v0]) dX8_reverse_45 kc_6_137 rfl rfl (Nat.le_of_ble_eq_true rfl)
theorem sX8_reverse_45_2 : ab_X rom K cX8_reverse 6 1 45 ls [w2, w1, .ref a, v0, v1] hp = if ab_iso hp a 2 = true then (K 37 (.ref a :: [w1, w2]) hp).bind (fun o => ab_X rom K cX8_reverse 6 1 48 ls (o.1.toList ++ [v0, v1]) o.2) else none := ay_virtual (as := [w1, w2]) (st := [v0, v1]) dX8_reverse_45 kc_6_137 rfl rfl (Nat.le_of_ble_eq_true rfl)
theorem sX8_reverse_45_3 : ab_X rom K cX8_reverse 6 1 45 ls [w2, w1, .ref a, v0, v1, v2] hp = if ab_iso hp a 2 = true then (K 37 (.ref a :: [w1, w2]) hp).bind (fun o => ab_X rom K cX8_reverse 6 1 48 ls (o.1.toList ++ [v0, v1, v2]) o.2) else none := ay_virtual (as := [w1, w2]) (st := [v0, v1, v2]) dX8_reverse_45 kc_6_137 rfl rfl (Nat.le_of_ble_eq_true rfl)
theorem dX8_reverse_48 : decode cX8_reverse 48 = .ok (.iconst 0, 1) := by decide +kernel
theorem sX8_reverse_48 : ab_X rom K cX8_reverse 6 1 48 ls st hp = ab_X rom K cX8_reverse 6 1 49 ls (.int 0 :: st) hp := ax_iconst dX8_reverse_48 (by decide) rfl
theorem dX8_reverse_49 : decode cX8_reverse 49 = .ok (.istore_n 3, 1) := by decide +kernel
theorem sX8_reverse_49i : ab_X rom K cX8_reverse 6 1 49 (v0 :: v1 :: .int y :: v3 :: ls) (.int x :: st) hp = ab_X rom K cX8_reverse 6 1 50 (v0 :: v1 :: .int y :: .int x :: ls) st hp := ax_istore_n dX8_reverse_49 (ax_lt (v := v3) rfl) (ab_nl_c1 (j := 2) (v := .int y) rfl (ab_c1_int _)) rfl rfl
theorem sX8_reverse_49r : ab_X rom K cX8_reverse 6 1 49 (v0 :: v1 :: .ref a2 :: v3 :: ls) (.int x :: st) hp = ab_X rom K cX8_reverse 6 1 50 (v0 :: v1 :: .ref a2 :: .int x :: ls) st hp := ax_istore_n dX8_reverse_49 (ax_lt (v := v3) rfl) (ab_nl_c1 (j := 2) (v := .ref a2) rfl (ab_c1_ref _)) rfl rfl
theorem sX8_reverse_49n : ab_X rom K cX8_reverse 6 1 49 (v0 :: v1 :: .null :: v3 :: ls) (.int x :: st) hp = ab_X rom K cX8_reverse 6 1 50 (v0 :: v1 :: .null :: .int x :: ls) st hp := ax_istore_n dX8_reverse_49 (ax_lt (v := v3) rfl) (ab_nl_c1 (j := 2) (v := .null) rfl ab_c1_null) rfl rfl
theorem dX8_reverse_50 : decode cX8_reverse 50 = .ok (.iload_n 3, 1) := by decide +kernel
theorem sX8_reverse_50 : ab_X rom K cX8_reverse 6 1 50 (v0 :: v1 :: v2 :: .int x :: ls) st hp = ab_X rom K cX8_reverse 6 1 51 (v0 :: v1 :: v2 :: .int x :: ls) (.int x :: st) hp := ax_iload_n dX8_reverse_50 rfl rfl
theorem dX8_reverse_51 : decode cX8_reverse 51 = .ok (.aload_n 2, 1) := by decide +kernel
theorem sX8_reverse_51 : ab_X rom K cX8_reverse 6 1 51 (v0 :: v1 :: .ref a :: ls) st hp = ab_X rom K cX8_reverse 6 1 52 (v0 :: v1 :: .ref a :: ls) (.ref a :: st) hp := ax_aload_n dX8_reverse_51 rfl rfl
theorem dX8_reverse_52 : decode cX8_reverse 52 = .ok (.getfield 102, 3) := by decide +kernel
theorem sX8_reverse_52 : ab_X rom K cX8_reverse 6 1 52 ls (.ref a :: st) hp = (ab_fld hp a 1 0).bind (fun v => ab_X rom K cX8_reverse 6 1 55 ls (v :: st) hp) := ax_getfield dX8_reverse_52 kf_6_102 rfl
theorem dX8_reverse_55 : decode cX8_reverse 55 = .ok (.if_icmp .ge 26, 3) := by decide +kernel
theorem sX8_reverse_55 : ab_X rom K cX8_reverse 6 1 55 ls (.int y :: .int x :: st) hp = if x < y then ab_X rom K cX8_reverse 6 1 58 ls st hp else ab_X rom K cX8_reverse 6 1 81 ls st hp := ax_icmp_ge dX8_reverse_55 (by decide) rfl
theorem dX8_reverse_58 : decode cX8_reverse 58 = .ok (.aload_n 2, 1) := by decide +kernel
theorem sX8_reverse_58 : ab_X rom K cX8_reverse 6 1 58 (v0 :: v1 :: .ref a :: ls) st hp = ab_X rom K cX8_reverse 6 1 59 (v0 :: v1 :: .ref a :: ls) (.ref a :: st) hp := ax_aload_n dX8_reverse_58 rfl rfl
theorem dX8_reverse_59 : decode cX8_reverse 59 = .ok (.getfield 152, 3) := by decide +kernel
theorem sX8_reverse_59 : ab_X rom K cX8_reverse 6 1 59 ls (.ref a :: st) hp = (ab_fld hp a 1 4).bind (fun v => ab_X rom K cX8_reverse 6 1 62 ls (v :: st) hp) := ax_getfield dX8_reverse_59 kf_6_152 rfl
theorem dX8_reverse_62 : decode cX8_reverse 62 = .ok (.iload_n 3, 1) := by decide +kernel
theorem sX8_reverse_62 : ab_X rom K cX8_reverse 6 1 62 (v0 :: v1 :: v2 :: .int x :: ls) st hp = ab_X rom K cX8_reverse 6 1 63 (v0 :: v1 :: v2 :: .int x :: ls) (.int x :: st) hp := ax_iload_n dX8_reverse_62 rfl rfl
theorem dX8_reverse_63 : decode cX8_reverse 63 = .ok (.aload_n 2, 1) := by decide +kernel
theorem sX8_reverse_63 : ab_X rom K cX8_reverse 6 1 63 (v0 :: v1 :: .ref a :: ls) st hp = ab_X rom K cX8_reverse 6 1 64 (v0 :: v1 :: .ref a :: ls) (.ref a :: st) hp := ax_aload_n dX8_reverse_63 rfl rfl
theorem dX8_reverse_64 : decode cX8_reverse 64 = .ok (.getfield 89, 3) := by decide +kernel
theorem sX8_reverse_64 : ab_X rom K cX8_reverse 6 1 64 ls (.ref a :: st) hp = (ab_fld hp a 1 1).bind (fun v => ab_X rom K cX8_reverse 6 1 67 ls (v :: st) hp) := ax_getfield dX8_reverse_64 kf_6_89 rfl
theorem dX8_reverse_67 : decode cX8_reverse 67 = .ok (.aload_n 2, 1) := by decide +kernel
theorem sX8_reverse_67 : ab_X rom K cX8_reverse 6 1 67 (v0 :: v1 :: .ref a :: ls) st hp = ab_X rom K cX8_reverse 6 1 68 (v0 :: v1 :: .ref a :: ls) (.ref a :: st) hp := ax_aload_n dX8_reverse_67 rfl rfl
theorem dX8_reverse_68 : decode cX8_reverse 68 = .ok (.getfield 152, 3) := by decide +kernel
theorem sX8_reverse_68 : ab_X rom K cX8_reverse 6 1 68 ls (.ref a :: st) hp = (ab_fld hp a 1 4).bind (fun v => ab_X rom K cX8_reverse 6 1 71 ls (v :: st) hp) := ax_getfield dX8_reverse_68 kf_6_152 rfl
theorem dX8_reverse_71 : decode cX8_reverse 71 = .ok (.iload_n 3, 1) := by decide +kernel
theorem sX8_reverse_71 : ab_X rom K cX8_reverse 6 1 71 (v0 :: v1 :: v2 :: .int x :: ls) st hp = ab_X rom K cX8_reverse 6 1 72 (v0 :: v1 :: v2 :: .int x :: ls) (.int x :: st) hp := ax_iload_n dX8_reverse_71 rfl rfl
theorem dX8_reverse_72 : decode cX8_reverse 72 = .ok (.iaload, 1) := by decide +kernel
theorem sX8_reverse_72 : ab_X rom K cX8_reverse 6 1 72 ls (.int x :: .ref a :: st) hp = (ab_ard rom 0 hp a x).bind (fun v => ab_X rom K cX8_reverse 6 1 73 ls (.int v :: st) hp) := ax_iaload dX8_reverse_72 rfl
theorem dX8_reverse_73 : decode cX8_reverse 73 = .ok (.isub, 1) := by decide +kernel
theorem sX8_reverse_73 : ab_X rom K cX8_reverse 6 1 73 ls (.int y :: .int x :: st) hp = ab_X rom K cX8_reverse 6 1 74 ls (.int (x - y) :: st) hp := ax_isub dX8_reverse_73 rfl
theorem dX8_reverse_74 : decode cX8_reverse 74 = .ok (.iastore, 1) := by decide +kernel
theorem sX8_reverse_74 : ab_X rom K cX8_reverse 6 1 74 ls (.int y :: .int x :: .ref a :: st) hp = (ab_awr 0 hp a x y).bind (fun hp' => ab_X rom K cX8_reverse 6 1 75 ls st hp') := ax_iastore dX8_reverse_74 rfl
theorem dX8_reverse_75 : decode cX8_reverse 75 = .ok (.iinc 3 1, 3) := by decide +kernel
theorem sX8_reverse_75i : ab_X rom K cX8_reverse 6 1 75 (v0 :: v1 :: .int y :: .int x :: ls) st hp = ab_X rom K cX8_reverse 6 1 78 (v0 :: v1 :: .int y :: .int (x + 1) :: ls) st hp := ax_iinc dX8_reverse_75 rfl (ab_nl_c1 (j := 2) (v := .int y) rfl (ab_c1_int _)) (by decide) rfl rfl
theorem sX8_reverse_75r : ab_X rom K cX8_reverse 6 1 75 (v0 :: v1 :: .ref a2 :: .int x :: ls) st hp = ab_X rom K cX8_reverse 6 1 78 (v0 :: v1 :: .ref a2 :: .int (x + 1) :: ls) st hp := ax_iinc dX8_reverse_75 rfl (ab_nl_c1 (j := 2) (v := .ref a2) rfl (ab_c1_ref _)) (by decide) rfl rfl
theorem sX8_reverse_75n : ab_X rom K cX8_reverse 6 1 75 (v0 :: v1 :: .null :: .int x :: ls) st hp = ab_X rom K cX8_reverse 6 1 78 (v0 :: v1 :: .null :: .int (x + 1) :: ls) st hp := ax_iinc dX8_reverse_75 rfl (ab_nl_c1 (j := 2) (v := .null) rfl ab_c1_null) (by decide) rfl rfl
theorem dX8_reverse_78 : decode cX8_reverse 78 = .ok (.goto (-28), 3) := by decide +kernel
theorem sX8_reverse_78 : ab_X rom K cX8_reverse 6 1 78 ls st hp = ab_X rom K cX8_reverse 6 1 50 ls st hp := ax_goto dX8_reverse_78 (by decide)
theorem dX8_reverse_81 : decode cX8_reverse 81 = .ok (.aload_n 2, 1) := by decide +kernel
theorem sX8_reverse_81 : ab_X rom K cX8_reverse 6 1 81 (v0 :: v1 :: .ref a :: ls) st hp = ab_X rom K cX8_reverse 6 1 82 (v0 :: v1 :: .ref a :: ls) (.ref a :: st) hp := ax_aload_n dX8_reverse_81 rfl rfl
theorem dX8_reverse_82 : decode cX8_reverse 82 = .ok (.getfield 102, 3) := by decide +kernel
theorem sX8_reverse_82 : ab_X rom K cX8_reverse 6 1 82 ls (.ref a :: st) hp = (ab_fld hp a 1 0).bind (fun v => ab_X rom K cX8_reverse 6 1 85 ls (v :: st) hp) := ax_getfield dX8_reverse_82 kf_6_102 rfl
theorem dX8_reverse_85 : decode cX8_reverse 85 = .ok (.ireturn, 1) := by decide +kernel
theorem sX8_reverse_85 : ab_X rom K cX8_reverse 6 1 85 ls [.int x] hp = some (some (.int x), hp) := ax_iret dX8_reverse_85 rfl
theorem tX8_row : ab_mT[111]? = some (yX8_row, cX8_row, 5, 1, 6) := by decide +kernel
theorem mX8_row {d : Nat} {a0 : Nat} {x0 : Int32} {x1 : Int32} {x2 : Int32} {x3 : Int32} : ab_M rom (d + 1) 111 [.ref a0, .int x0, .int x1, .int x2, .int x3] hp = ab_X rom (ab_M rom d) cX8_row 6 1 0 [.ref a0, .int x0, .int x1, .int x2, .int x3] [] hp := ab_M_eq tX8_row (Nat.le_of_ble_eq_true rfl)
theorem dX8_row_0 : decode cX8_row 0 = .ok (.aload_n 0, 1) := by decide +kernel
theorem sX8_row_0 : ab_X rom K cX8_row 6 1 0 (.ref a :: ls) st hp = ab_X rom K cX8_row 6 1 1 (.ref a :: ls) (.ref a :: st) hp := ax_aload_n dX8_row_0 rfl rfl
theorem dX8_row_1 : decode cX8_row 1 = .ok (.iload_n 1, 1) := by decide +kernel
theorem sX8_row_1 : ab_X rom K cX8_row 6 1 1 (v0 :: .int x :: ls) st hp = ab_X rom K cX8_row 6 1 2 (v0 :: .int x :: ls) (.int x :: st) hp := ax_iload_n dX8_row_1 rfl rfl
theorem dX8_row_2 : decode cX8_row 2 = .ok (.iload 4, 2) := by decide +kernel
theorem sX8_row_2 : ab_X rom K cX8_row 6 1 2 (v0 :: v1 :: v2 :: v3 :: .int x :: ls) st hp = ab_X rom K cX8_row 6 1 4 (v0 :: v1 :: v2 :: v3 :: .int x :: ls) (.int x :: st) hp := ax_iload dX8_row_2 rfl rfl
theorem dX8_row_4 : decode cX8_row 4 = .ok (.invokevirtual 148, 3) := by decide +kernel
theorem sX8_row_4_0 : ab_X rom K cX8_row 6 1 4 ls [w2, w1, .ref a] hp = if ab_iso hp a 6 = true then (K 96 (.ref a :: [w1, w2]) hp).bind (fun o => ab_X rom K cX8_row 6 1 7 ls (o.1.toList ++ []) o.2) else none := ay_virtual (as := [w1, w2]) (st := []) dX8_row_4 kc_6_148 rfl rfl (Nat.le_of_ble_eq_true rfl)
theorem sX8_row_4_1 : ab_X rom K cX8_row 6 1 4 ls [w2, w1, .ref a, v0] hp = if ab_iso hp a 6 = true then (K 96 (.ref a :: [w1, w2]) hp).bind (fun o => ab_X rom K cX8_row 6 1 7 ls (o.1.toList ++ [v0]) o.2) else none := ay_virtual (as := [w1, w2]) (st := [v0]) dX8_row_4 kc_6_148 rfl rfl (Nat.le_of_ble_eq_true rfl)
theorem sX8_row_4_2 : ab_X rom K cX8_row 6 1 4 ls [w2, w1, .ref a, v0, v1] hp = if ab_iso hp a 6 = true then (K 96 (.ref a :: [w1, w2]) hp).bind (fun o => ab_X rom K cX8_row 6 1 7 ls (o.1.toList ++ [v0, v1]) o.2) else none := ay_virtual (as := [w1, w2]) (st := [v0, v1]) dX8_row_4 kc_6_148 rfl rfl (Nat.le_of_ble_eq_true rfl)
theorem sX8_row_4_3 : ab_X rom K cX8_row 6 1 4 ls [w2, w1, .ref a, v0, v1, v2] hp = if ab_iso hp a 6 = true then (K 96 (.ref a :: [w1, w2]) hp).bind (fun o => ab_X rom K cX8_row 6 1 7 ls (o.1.toList ++ [v0, v1, v2]) o.2) else none := ay_virtual (as := [w1, w2]) (st := [v0, v1, v2]) dX8_row_4 kc_6_148 rfl rfl (Nat.le_of_ble_eq_true rfl)
theorem dX8_row_7 : decode cX8_row 7 = .ok (.ifCond .eq 14, 3) := by decide +kernel
theorem sX8_row_7 : ab_X rom K cX8_row 6 1 7 ls (.int x :: st) hp = if x = 0 then ab_X rom K cX8_row 6 1 21 ls st hp else ab_X rom K cX8_row 6 1 10 ls st hp := ax_if_eq dX8_row_7 (by decide) rfl
theorem dX8_row_10 : decode cX8_row 10 = .ok (.iload_n 2, 1) := by decide +kernel
theorem sX8_row_10 : ab_X rom K cX8_row 6 1 10 (v0 :: v1 :: .int x :: ls) st hp = ab_X rom K cX8_row 6 1 11 (v0 :: v1 :: .int x :: ls) (.int x :: st) hp := ax_iload_n dX8_row_10 rfl rfl
theorem dX8_row_11 : decode cX8_row 11 = .ok (.invokestatic 174, 3) := by decide +kernel
theorem sX8_row_11_0 : ab_X rom K cX8_row 6 1 11 ls [w1] hp = (K 100 [w1] hp).bind (fun o => ab_X rom K cX8_row 6 1 14 ls (o.1.toList ++ []) o.2) := ax_static (as := [w1]) (st := []) dX8_row_11 kc_6_174 rfl rfl (Nat.le_of_ble_eq_true rfl)
theorem sX8_row_11_1 : ab_X rom K cX8_row 6 1 11 ls [w1, v0] hp = (K 100 [w1] hp).bind (fun o => ab_X rom K cX8_row 6 1 14 ls (o.1.toList ++ [v0]) o.2) := ax_static (as := [w1]) (st := [v0]) dX8_row_11 kc_6_174 rfl rfl (Nat.le_of_ble_eq_true rfl)
theorem sX8_row_11_2 : ab_X rom K cX8_row 6 1 11 ls [w1, v0, v1] hp = (K 100 [w1] hp).bind (fun o => ab_X rom K cX8_row 6 1 14 ls (o.1.toList ++ [v0, v1]) o.2) := ax_static (as := [w1]) (st := [v0, v1]) dX8_row_11 kc_6_174 rfl rfl (Nat.le_of_ble_eq_true rfl)
theorem sX8_row_11_3 : ab_X rom K cX8_row 6 1 11 ls [w1, v0, v1, v2] hp = (K 100 [w1] hp).bind (fun o => ab_X rom K cX8_row 6 1 14 ls (o.1.toList ++ [v0, v1, v2]) o.2) := ax_static (as := [w1]) (st := [v0, v1, v2]) dX8_row_11 kc_6_174 rfl rfl (Nat.le_of_ble_eq_true rfl)
theorem dX8_row_14 : decode cX8_row 14 = .ok (.ifCond .eq 7, 3) := by decide +kernel
theorem sX8_row_14 : ab_X rom K cX8_row 6 1 14 ls (.int x :: st) hp = if x = 0 then ab_X rom K cX8_row 6 1 21 ls st hp else ab_X rom K cX8_row 6 1 17 ls st hp := ax_if_eq dX8_row_14 (by decide) rfl
theorem dX8_row_17 : decode cX8_row 17 = .ok (.iload_n 3, 1) := by decide +kernel
theorem sX8_row_17 : ab_X rom K cX8_row 6 1 17 (v0 :: v1 :: v2 :: .int x :: ls) st hp = ab_X rom K cX8_row 6 1 18 (v0 :: v1 :: v2 :: .int x :: ls) (.int x :: st) hp := ax_iload_n dX8_row_17 rfl rfl
theorem dX8_row_18 : decode cX8_row 18 = .ok (.ifCond .ge 6, 3) := by decide +kernel
theorem sX8_row_18 : ab_X rom K cX8_row 6 1 18 ls (.int x :: st) hp = if x < 0 then ab_X rom K cX8_row 6 1 21 ls st hp else ab_X rom K cX8_row 6 1 24 ls st hp := ax_if_ge dX8_row_18 (by decide) rfl
theorem dX8_row_21 : decode cX8_row 21 = .ok (.bipush (-2), 2) := by decide +kernel
theorem sX8_row_21 : ab_X rom K cX8_row 6 1 21 ls st hp = ab_X rom K cX8_row 6 1 23 ls (.int (-2) :: st) hp := ax_bipush dX8_row_21 (by decide) rfl
theorem dX8_row_23 : decode cX8_row 23 = .ok (.ireturn, 1) := by decide +kernel
theorem sX8_row_23 : ab_X rom K cX8_row 6 1 23 ls [.int x] hp = some (some (.int x), hp) := ax_iret dX8_row_23 rfl
theorem dX8_row_24 : decode cX8_row 24 = .ok (.aload_n 0, 1) := by decide +kernel
theorem sX8_row_24 : ab_X rom K cX8_row 6 1 24 (.ref a :: ls) st hp = ab_X rom K cX8_row 6 1 25 (.ref a :: ls) (.ref a :: st) hp := ax_aload_n dX8_row_24 rfl rfl
theorem dX8_row_25 : decode cX8_row 25 = .ok (.iload_n 1, 1) := by decide +kernel
theorem sX8_row_25 : ab_X rom K cX8_row 6 1 25 (v0 :: .int x :: ls) st hp = ab_X rom K cX8_row 6 1 26 (v0 :: .int x :: ls) (.int x :: st) hp := ax_iload_n dX8_row_25 rfl rfl
theorem dX8_row_26 : decode cX8_row 26 = .ok (.iload_n 2, 1) := by decide +kernel
theorem sX8_row_26 : ab_X rom K cX8_row 6 1 26 (v0 :: v1 :: .int x :: ls) st hp = ab_X rom K cX8_row 6 1 27 (v0 :: v1 :: .int x :: ls) (.int x :: st) hp := ax_iload_n dX8_row_26 rfl rfl
theorem dX8_row_27 : decode cX8_row 27 = .ok (.iload_n 3, 1) := by decide +kernel
theorem sX8_row_27 : ab_X rom K cX8_row 6 1 27 (v0 :: v1 :: v2 :: .int x :: ls) st hp = ab_X rom K cX8_row 6 1 28 (v0 :: v1 :: v2 :: .int x :: ls) (.int x :: st) hp := ax_iload_n dX8_row_27 rfl rfl
theorem dX8_row_28 : decode cX8_row 28 = .ok (.invokevirtual 196, 3) := by decide +kernel
theorem sX8_row_28_0 : ab_X rom K cX8_row 6 1 28 ls [w3, w2, w1, .ref a] hp = if ab_iso hp a 6 = true then (K 86 (.ref a :: [w1, w2, w3]) hp).bind (fun o => ab_X rom K cX8_row 6 1 31 ls (o.1.toList ++ []) o.2) else none := ay_virtual (as := [w1, w2, w3]) (st := []) dX8_row_28 kc_6_196 rfl rfl (Nat.le_of_ble_eq_true rfl)
theorem sX8_row_28_1 : ab_X rom K cX8_row 6 1 28 ls [w3, w2, w1, .ref a, v0] hp = if ab_iso hp a 6 = true then (K 86 (.ref a :: [w1, w2, w3]) hp).bind (fun o => ab_X rom K cX8_row 6 1 31 ls (o.1.toList ++ [v0]) o.2) else none := ay_virtual (as := [w1, w2, w3]) (st := [v0]) dX8_row_28 kc_6_196 rfl rfl (Nat.le_of_ble_eq_true rfl)
theorem sX8_row_28_2 : ab_X rom K cX8_row 6 1 28 ls [w3, w2, w1, .ref a, v0, v1] hp = if ab_iso hp a 6 = true then (K 86 (.ref a :: [w1, w2, w3]) hp).bind (fun o => ab_X rom K cX8_row 6 1 31 ls (o.1.toList ++ [v0, v1]) o.2) else none := ay_virtual (as := [w1, w2, w3]) (st := [v0, v1]) dX8_row_28 kc_6_196 rfl rfl (Nat.le_of_ble_eq_true rfl)
theorem sX8_row_28_3 : ab_X rom K cX8_row 6 1 28 ls [w3, w2, w1, .ref a, v0, v1, v2] hp = if ab_iso hp a 6 = true then (K 86 (.ref a :: [w1, w2, w3]) hp).bind (fun o => ab_X rom K cX8_row 6 1 31 ls (o.1.toList ++ [v0, v1, v2]) o.2) else none := ay_virtual (as := [w1, w2, w3]) (st := [v0, v1, v2]) dX8_row_28 kc_6_196 rfl rfl (Nat.le_of_ble_eq_true rfl)
theorem dX8_row_31 : decode cX8_row 31 = .ok (.ifCond .eq 16, 3) := by decide +kernel
theorem sX8_row_31 : ab_X rom K cX8_row 6 1 31 ls (.int x :: st) hp = if x = 0 then ab_X rom K cX8_row 6 1 47 ls st hp else ab_X rom K cX8_row 6 1 34 ls st hp := ax_if_eq dX8_row_31 (by decide) rfl
theorem dX8_row_34 : decode cX8_row 34 = .ok (.aload_n 0, 1) := by decide +kernel
theorem sX8_row_34 : ab_X rom K cX8_row 6 1 34 (.ref a :: ls) st hp = ab_X rom K cX8_row 6 1 35 (.ref a :: ls) (.ref a :: st) hp := ax_aload_n dX8_row_34 rfl rfl
theorem dX8_row_35 : decode cX8_row 35 = .ok (.getfield 26, 3) := by decide +kernel
theorem sX8_row_35 : ab_X rom K cX8_row 6 1 35 ls (.ref a :: st) hp = (ab_fld hp a 6 4).bind (fun v => ab_X rom K cX8_row 6 1 38 ls (v :: st) hp) := ax_getfield dX8_row_35 kf_6_26 rfl
theorem dX8_row_38 : decode cX8_row 38 = .ok (.getfield 152, 3) := by decide +kernel
theorem sX8_row_38 : ab_X rom K cX8_row 6 1 38 ls (.ref a :: st) hp = (ab_fld hp a 1 4).bind (fun v => ab_X rom K cX8_row 6 1 41 ls (v :: st) hp) := ax_getfield dX8_row_38 kf_6_152 rfl
theorem dX8_row_41 : decode cX8_row 41 = .ok (.iload 4, 2) := by decide +kernel
theorem sX8_row_41 : ab_X rom K cX8_row 6 1 41 (v0 :: v1 :: v2 :: v3 :: .int x :: ls) st hp = ab_X rom K cX8_row 6 1 43 (v0 :: v1 :: v2 :: v3 :: .int x :: ls) (.int x :: st) hp := ax_iload dX8_row_41 rfl rfl
theorem dX8_row_43 : decode cX8_row 43 = .ok (.iaload, 1) := by decide +kernel
theorem sX8_row_43 : ab_X rom K cX8_row 6 1 43 ls (.int x :: .ref a :: st) hp = (ab_ard rom 0 hp a x).bind (fun v => ab_X rom K cX8_row 6 1 44 ls (.int v :: st) hp) := ax_iaload dX8_row_43 rfl
theorem dX8_row_44 : decode cX8_row 44 = .ok (.goto 4, 3) := by decide +kernel
theorem sX8_row_44 : ab_X rom K cX8_row 6 1 44 ls st hp = ab_X rom K cX8_row 6 1 48 ls st hp := ax_goto dX8_row_44 (by decide)
theorem dX8_row_47 : decode cX8_row 47 = .ok (.iconst (-1), 1) := by decide +kernel
theorem sX8_row_47 : ab_X rom K cX8_row 6 1 47 ls st hp = ab_X rom K cX8_row 6 1 48 ls (.int (-1) :: st) hp := ax_iconst dX8_row_47 (by decide) rfl
theorem dX8_row_48 : decode cX8_row 48 = .ok (.ireturn, 1) := by decide +kernel
theorem sX8_row_48 : ab_X rom K cX8_row 6 1 48 ls [.int x] hp = some (some (.int x), hp) := ax_iret dX8_row_48 rfl
theorem tX8_rule : ab_mT[112]? = some (yX8_rule, cX8_rule, 10, 1, 6) := by decide +kernel
theorem mX8_rule {d : Nat} {a0 : Nat} {x0 : Int32} {x1 : Int32} {x2 : Int32} : ab_M rom (d + 1) 112 [.ref a0, .int x0, .int x1, .int x2] hp = ab_X rom (ab_M rom d) cX8_rule 6 1 0 [.ref a0, .int x0, .int x1, .int x2, .null, .null, .null, .null, .null, .null] [] hp := ab_M_eq tX8_rule (Nat.le_of_ble_eq_true rfl)
theorem dX8_rule_0 : decode cX8_rule 0 = .ok (.iconst 0, 1) := by decide +kernel
theorem sX8_rule_0 : ab_X rom K cX8_rule 6 1 0 ls st hp = ab_X rom K cX8_rule 6 1 1 ls (.int 0 :: st) hp := ax_iconst dX8_rule_0 (by decide) rfl
theorem dX8_rule_1 : decode cX8_rule 1 = .ok (.istore 4, 2) := by decide +kernel
theorem sX8_rule_1i : ab_X rom K cX8_rule 6 1 1 (v0 :: v1 :: v2 :: .int y :: v4 :: ls) (.int x :: st) hp = ab_X rom K cX8_rule 6 1 3 (v0 :: v1 :: v2 :: .int y :: .int x :: ls) st hp := ax_istore dX8_rule_1 (ax_lt (v := v4) rfl) (ab_nl_c1 (j := 3) (v := .int y) rfl (ab_c1_int _)) rfl rfl
theorem sX8_rule_1r : ab_X rom K cX8_rule 6 1 1 (v0 :: v1 :: v2 :: .ref a2 :: v4 :: ls) (.int x :: st) hp = ab_X rom K cX8_rule 6 1 3 (v0 :: v1 :: v2 :: .ref a2 :: .int x :: ls) st hp := ax_istore dX8_rule_1 (ax_lt (v := v4) rfl) (ab_nl_c1 (j := 3) (v := .ref a2) rfl (ab_c1_ref _)) rfl rfl
theorem sX8_rule_1n : ab_X rom K cX8_rule 6 1 1 (v0 :: v1 :: v2 :: .null :: v4 :: ls) (.int x :: st) hp = ab_X rom K cX8_rule 6 1 3 (v0 :: v1 :: v2 :: .null :: .int x :: ls) st hp := ax_istore dX8_rule_1 (ax_lt (v := v4) rfl) (ab_nl_c1 (j := 3) (v := .null) rfl ab_c1_null) rfl rfl
theorem dX8_rule_3 : decode cX8_rule 3 = .ok (.iconst 0, 1) := by decide +kernel
theorem sX8_rule_3 : ab_X rom K cX8_rule 6 1 3 ls st hp = ab_X rom K cX8_rule 6 1 4 ls (.int 0 :: st) hp := ax_iconst dX8_rule_3 (by decide) rfl
theorem dX8_rule_4 : decode cX8_rule 4 = .ok (.istore 5, 2) := by decide +kernel
theorem sX8_rule_4i : ab_X rom K cX8_rule 6 1 4 (v0 :: v1 :: v2 :: v3 :: .int y :: v5 :: ls) (.int x :: st) hp = ab_X rom K cX8_rule 6 1 6 (v0 :: v1 :: v2 :: v3 :: .int y :: .int x :: ls) st hp := ax_istore dX8_rule_4 (ax_lt (v := v5) rfl) (ab_nl_c1 (j := 4) (v := .int y) rfl (ab_c1_int _)) rfl rfl
theorem sX8_rule_4r : ab_X rom K cX8_rule 6 1 4 (v0 :: v1 :: v2 :: v3 :: .ref a2 :: v5 :: ls) (.int x :: st) hp = ab_X rom K cX8_rule 6 1 6 (v0 :: v1 :: v2 :: v3 :: .ref a2 :: .int x :: ls) st hp := ax_istore dX8_rule_4 (ax_lt (v := v5) rfl) (ab_nl_c1 (j := 4) (v := .ref a2) rfl (ab_c1_ref _)) rfl rfl
theorem sX8_rule_4n : ab_X rom K cX8_rule 6 1 4 (v0 :: v1 :: v2 :: v3 :: .null :: v5 :: ls) (.int x :: st) hp = ab_X rom K cX8_rule 6 1 6 (v0 :: v1 :: v2 :: v3 :: .null :: .int x :: ls) st hp := ax_istore dX8_rule_4 (ax_lt (v := v5) rfl) (ab_nl_c1 (j := 4) (v := .null) rfl ab_c1_null) rfl rfl
theorem dX8_rule_6 : decode cX8_rule 6 = .ok (.iconst 0, 1) := by decide +kernel
theorem sX8_rule_6 : ab_X rom K cX8_rule 6 1 6 ls st hp = ab_X rom K cX8_rule 6 1 7 ls (.int 0 :: st) hp := ax_iconst dX8_rule_6 (by decide) rfl
theorem dX8_rule_7 : decode cX8_rule 7 = .ok (.istore 6, 2) := by decide +kernel
theorem sX8_rule_7i : ab_X rom K cX8_rule 6 1 7 (v0 :: v1 :: v2 :: v3 :: v4 :: .int y :: v6 :: ls) (.int x :: st) hp = ab_X rom K cX8_rule 6 1 9 (v0 :: v1 :: v2 :: v3 :: v4 :: .int y :: .int x :: ls) st hp := ax_istore dX8_rule_7 (ax_lt (v := v6) rfl) (ab_nl_c1 (j := 5) (v := .int y) rfl (ab_c1_int _)) rfl rfl
theorem sX8_rule_7r : ab_X rom K cX8_rule 6 1 7 (v0 :: v1 :: v2 :: v3 :: v4 :: .ref a2 :: v6 :: ls) (.int x :: st) hp = ab_X rom K cX8_rule 6 1 9 (v0 :: v1 :: v2 :: v3 :: v4 :: .ref a2 :: .int x :: ls) st hp := ax_istore dX8_rule_7 (ax_lt (v := v6) rfl) (ab_nl_c1 (j := 5) (v := .ref a2) rfl (ab_c1_ref _)) rfl rfl
theorem sX8_rule_7n : ab_X rom K cX8_rule 6 1 7 (v0 :: v1 :: v2 :: v3 :: v4 :: .null :: v6 :: ls) (.int x :: st) hp = ab_X rom K cX8_rule 6 1 9 (v0 :: v1 :: v2 :: v3 :: v4 :: .null :: .int x :: ls) st hp := ax_istore dX8_rule_7 (ax_lt (v := v6) rfl) (ab_nl_c1 (j := 5) (v := .null) rfl ab_c1_null) rfl rfl
theorem dX8_rule_9 : decode cX8_rule 9 = .ok (.iload 6, 2) := by decide +kernel
theorem sX8_rule_9 : ab_X rom K cX8_rule 6 1 9 (v0 :: v1 :: v2 :: v3 :: v4 :: v5 :: .int x :: ls) st hp = ab_X rom K cX8_rule 6 1 11 (v0 :: v1 :: v2 :: v3 :: v4 :: v5 :: .int x :: ls) (.int x :: st) hp := ax_iload dX8_rule_9 rfl rfl
theorem dX8_rule_11 : decode cX8_rule 11 = .ok (.bipush 12, 2) := by decide +kernel
theorem sX8_rule_11 : ab_X rom K cX8_rule 6 1 11 ls st hp = ab_X rom K cX8_rule 6 1 13 ls (.int 12 :: st) hp := ax_bipush dX8_rule_11 (by decide) rfl
theorem dX8_rule_13 : decode cX8_rule 13 = .ok (.if_icmp .ge 108, 3) := by decide +kernel
theorem sX8_rule_13 : ab_X rom K cX8_rule 6 1 13 ls (.int y :: .int x :: st) hp = if x < y then ab_X rom K cX8_rule 6 1 16 ls st hp else ab_X rom K cX8_rule 6 1 121 ls st hp := ax_icmp_ge dX8_rule_13 (by decide) rfl
theorem dX8_rule_16 : decode cX8_rule 16 = .ok (.iload 6, 2) := by decide +kernel
theorem sX8_rule_16 : ab_X rom K cX8_rule 6 1 16 (v0 :: v1 :: v2 :: v3 :: v4 :: v5 :: .int x :: ls) st hp = ab_X rom K cX8_rule 6 1 18 (v0 :: v1 :: v2 :: v3 :: v4 :: v5 :: .int x :: ls) (.int x :: st) hp := ax_iload dX8_rule_16 rfl rfl
theorem dX8_rule_18 : decode cX8_rule 18 = .ok (.iconst 4, 1) := by decide +kernel
theorem sX8_rule_18 : ab_X rom K cX8_rule 6 1 18 ls st hp = ab_X rom K cX8_rule 6 1 19 ls (.int 4 :: st) hp := ax_iconst dX8_rule_18 (by decide) rfl
theorem dX8_rule_19 : decode cX8_rule 19 = .ok (.if_icmp .ge 7, 3) := by decide +kernel
theorem sX8_rule_19 : ab_X rom K cX8_rule 6 1 19 ls (.int y :: .int x :: st) hp = if x < y then ab_X rom K cX8_rule 6 1 22 ls st hp else ab_X rom K cX8_rule 6 1 26 ls st hp := ax_icmp_ge dX8_rule_19 (by decide) rfl
theorem dX8_rule_22 : decode cX8_rule 22 = .ok (.iload_n 1, 1) := by decide +kernel
theorem sX8_rule_22 : ab_X rom K cX8_rule 6 1 22 (v0 :: .int x :: ls) st hp = ab_X rom K cX8_rule 6 1 23 (v0 :: .int x :: ls) (.int x :: st) hp := ax_iload_n dX8_rule_22 rfl rfl
theorem dX8_rule_23 : decode cX8_rule 23 = .ok (.goto 15, 3) := by decide +kernel
theorem sX8_rule_23 : ab_X rom K cX8_rule 6 1 23 ls st hp = ab_X rom K cX8_rule 6 1 38 ls st hp := ax_goto dX8_rule_23 (by decide)
theorem dX8_rule_26 : decode cX8_rule 26 = .ok (.iload 6, 2) := by decide +kernel
theorem sX8_rule_26 : ab_X rom K cX8_rule 6 1 26 (v0 :: v1 :: v2 :: v3 :: v4 :: v5 :: .int x :: ls) st hp = ab_X rom K cX8_rule 6 1 28 (v0 :: v1 :: v2 :: v3 :: v4 :: v5 :: .int x :: ls) (.int x :: st) hp := ax_iload dX8_rule_26 rfl rfl
theorem dX8_rule_28 : decode cX8_rule 28 = .ok (.bipush 8, 2) := by decide +kernel
theorem sX8_rule_28 : ab_X rom K cX8_rule 6 1 28 ls st hp = ab_X rom K cX8_rule 6 1 30 ls (.int 8 :: st) hp := ax_bipush dX8_rule_28 (by decide) rfl
theorem dX8_rule_30 : decode cX8_rule 30 = .ok (.if_icmp .ge 7, 3) := by decide +kernel
theorem sX8_rule_30 : ab_X rom K cX8_rule 6 1 30 ls (.int y :: .int x :: st) hp = if x < y then ab_X rom K cX8_rule 6 1 33 ls st hp else ab_X rom K cX8_rule 6 1 37 ls st hp := ax_icmp_ge dX8_rule_30 (by decide) rfl
theorem dX8_rule_33 : decode cX8_rule 33 = .ok (.iload_n 2, 1) := by decide +kernel
theorem sX8_rule_33 : ab_X rom K cX8_rule 6 1 33 (v0 :: v1 :: .int x :: ls) st hp = ab_X rom K cX8_rule 6 1 34 (v0 :: v1 :: .int x :: ls) (.int x :: st) hp := ax_iload_n dX8_rule_33 rfl rfl
theorem dX8_rule_34 : decode cX8_rule 34 = .ok (.goto 4, 3) := by decide +kernel
theorem sX8_rule_34 : ab_X rom K cX8_rule 6 1 34 ls st hp = ab_X rom K cX8_rule 6 1 38 ls st hp := ax_goto dX8_rule_34 (by decide)
theorem dX8_rule_37 : decode cX8_rule 37 = .ok (.iload_n 3, 1) := by decide +kernel
theorem sX8_rule_37 : ab_X rom K cX8_rule 6 1 37 (v0 :: v1 :: v2 :: .int x :: ls) st hp = ab_X rom K cX8_rule 6 1 38 (v0 :: v1 :: v2 :: .int x :: ls) (.int x :: st) hp := ax_iload_n dX8_rule_37 rfl rfl
theorem dX8_rule_38 : decode cX8_rule 38 = .ok (.istore 7, 2) := by decide +kernel
theorem sX8_rule_38i : ab_X rom K cX8_rule 6 1 38 (v0 :: v1 :: v2 :: v3 :: v4 :: v5 :: .int y :: v7 :: ls) (.int x :: st) hp = ab_X rom K cX8_rule 6 1 40 (v0 :: v1 :: v2 :: v3 :: v4 :: v5 :: .int y :: .int x :: ls) st hp := ax_istore dX8_rule_38 (ax_lt (v := v7) rfl) (ab_nl_c1 (j := 6) (v := .int y) rfl (ab_c1_int _)) rfl rfl
theorem sX8_rule_38r : ab_X rom K cX8_rule 6 1 38 (v0 :: v1 :: v2 :: v3 :: v4 :: v5 :: .ref a2 :: v7 :: ls) (.int x :: st) hp = ab_X rom K cX8_rule 6 1 40 (v0 :: v1 :: v2 :: v3 :: v4 :: v5 :: .ref a2 :: .int x :: ls) st hp := ax_istore dX8_rule_38 (ax_lt (v := v7) rfl) (ab_nl_c1 (j := 6) (v := .ref a2) rfl (ab_c1_ref _)) rfl rfl
theorem sX8_rule_38n : ab_X rom K cX8_rule 6 1 38 (v0 :: v1 :: v2 :: v3 :: v4 :: v5 :: .null :: v7 :: ls) (.int x :: st) hp = ab_X rom K cX8_rule 6 1 40 (v0 :: v1 :: v2 :: v3 :: v4 :: v5 :: .null :: .int x :: ls) st hp := ax_istore dX8_rule_38 (ax_lt (v := v7) rfl) (ab_nl_c1 (j := 6) (v := .null) rfl ab_c1_null) rfl rfl
theorem dX8_rule_40 : decode cX8_rule 40 = .ok (.iload 7, 2) := by decide +kernel
theorem sX8_rule_40 : ab_X rom K cX8_rule 6 1 40 (v0 :: v1 :: v2 :: v3 :: v4 :: v5 :: v6 :: .int x :: ls) st hp = ab_X rom K cX8_rule 6 1 42 (v0 :: v1 :: v2 :: v3 :: v4 :: v5 :: v6 :: .int x :: ls) (.int x :: st) hp := ax_iload dX8_rule_40 rfl rfl
theorem dX8_rule_42 : decode cX8_rule 42 = .ok (.bipush 8, 2) := by decide +kernel
theorem sX8_rule_42 : ab_X rom K cX8_rule 6 1 42 ls st hp = ab_X rom K cX8_rule 6 1 44 ls (.int 8 :: st) hp := ax_bipush dX8_rule_42 (by decide) rfl
theorem dX8_rule_44 : decode cX8_rule 44 = .ok (.iload 6, 2) := by decide +kernel
theorem sX8_rule_44 : ab_X rom K cX8_rule 6 1 44 (v0 :: v1 :: v2 :: v3 :: v4 :: v5 :: .int x :: ls) st hp = ab_X rom K cX8_rule 6 1 46 (v0 :: v1 :: v2 :: v3 :: v4 :: v5 :: .int x :: ls) (.int x :: st) hp := ax_iload dX8_rule_44 rfl rfl
theorem dX8_rule_46 : decode cX8_rule 46 = .ok (.iconst 4, 1) := by decide +kernel
theorem sX8_rule_46 : ab_X rom K cX8_rule 6 1 46 ls st hp = ab_X rom K cX8_rule 6 1 47 ls (.int 4 :: st) hp := ax_iconst dX8_rule_46 (by decide) rfl
theorem dX8_rule_47 : decode cX8_rule 47 = .ok (.irem, 1) := by decide +kernel
theorem sX8_rule_47 : ab_X rom K cX8_rule 6 1 47 ls (.int y :: .int x :: st) hp = if y = 0 then none else ab_X rom K cX8_rule 6 1 48 ls (.int (ab_rem x y) :: st) hp := ay_irem dX8_rule_47 rfl
theorem dX8_rule_48 : decode cX8_rule 48 = .ok (.imul, 1) := by decide +kernel
theorem sX8_rule_48 : ab_X rom K cX8_rule 6 1 48 ls (.int y :: .int x :: st) hp = ab_X rom K cX8_rule 6 1 49 ls (.int (x * y) :: st) hp := ax_imul dX8_rule_48 rfl
theorem dX8_rule_49 : decode cX8_rule 49 = .ok (.iushr, 1) := by decide +kernel
theorem sX8_rule_49 : ab_X rom K cX8_rule 6 1 49 ls (.int y :: .int x :: st) hp = ab_X rom K cX8_rule 6 1 50 ls (.int (x.toUInt32 >>> (y.toUInt32 &&& Int32.toUInt32 31)).toInt32 :: st) hp := ax_iushr dX8_rule_49 rfl
theorem dX8_rule_50 : decode cX8_rule 50 = .ok (.sipush 255, 3) := by decide +kernel
theorem sX8_rule_50 : ab_X rom K cX8_rule 6 1 50 ls st hp = ab_X rom K cX8_rule 6 1 53 ls (.int 255 :: st) hp := ax_sipush dX8_rule_50 (by decide) rfl
theorem dX8_rule_53 : decode cX8_rule 53 = .ok (.iand, 1) := by decide +kernel
theorem sX8_rule_53 : ab_X rom K cX8_rule 6 1 53 ls (.int y :: .int x :: st) hp = ab_X rom K cX8_rule 6 1 54 ls (.int (x &&& y) :: st) hp := ax_iand dX8_rule_53 rfl
theorem dX8_rule_54 : decode cX8_rule 54 = .ok (.istore 8, 2) := by decide +kernel
theorem sX8_rule_54i : ab_X rom K cX8_rule 6 1 54 (v0 :: v1 :: v2 :: v3 :: v4 :: v5 :: v6 :: .int y :: v8 :: ls) (.int x :: st) hp = ab_X rom K cX8_rule 6 1 56 (v0 :: v1 :: v2 :: v3 :: v4 :: v5 :: v6 :: .int y :: .int x :: ls) st hp := ax_istore dX8_rule_54 (ax_lt (v := v8) rfl) (ab_nl_c1 (j := 7) (v := .int y) rfl (ab_c1_int _)) rfl rfl
theorem sX8_rule_54r : ab_X rom K cX8_rule 6 1 54 (v0 :: v1 :: v2 :: v3 :: v4 :: v5 :: v6 :: .ref a2 :: v8 :: ls) (.int x :: st) hp = ab_X rom K cX8_rule 6 1 56 (v0 :: v1 :: v2 :: v3 :: v4 :: v5 :: v6 :: .ref a2 :: .int x :: ls) st hp := ax_istore dX8_rule_54 (ax_lt (v := v8) rfl) (ab_nl_c1 (j := 7) (v := .ref a2) rfl (ab_c1_ref _)) rfl rfl
theorem sX8_rule_54n : ab_X rom K cX8_rule 6 1 54 (v0 :: v1 :: v2 :: v3 :: v4 :: v5 :: v6 :: .null :: v8 :: ls) (.int x :: st) hp = ab_X rom K cX8_rule 6 1 56 (v0 :: v1 :: v2 :: v3 :: v4 :: v5 :: v6 :: .null :: .int x :: ls) st hp := ax_istore dX8_rule_54 (ax_lt (v := v8) rfl) (ab_nl_c1 (j := 7) (v := .null) rfl ab_c1_null) rfl rfl
theorem dX8_rule_56 : decode cX8_rule 56 = .ok (.iload 8, 2) := by decide +kernel
theorem sX8_rule_56 : ab_X rom K cX8_rule 6 1 56 (v0 :: v1 :: v2 :: v3 :: v4 :: v5 :: v6 :: v7 :: .int x :: ls) st hp = ab_X rom K cX8_rule 6 1 58 (v0 :: v1 :: v2 :: v3 :: v4 :: v5 :: v6 :: v7 :: .int x :: ls) (.int x :: st) hp := ax_iload dX8_rule_56 rfl rfl
theorem dX8_rule_58 : decode cX8_rule 58 = .ok (.sipush 255, 3) := by decide +kernel
theorem sX8_rule_58 : ab_X rom K cX8_rule 6 1 58 ls st hp = ab_X rom K cX8_rule 6 1 61 ls (.int 255 :: st) hp := ax_sipush dX8_rule_58 (by decide) rfl
theorem dX8_rule_61 : decode cX8_rule 61 = .ok (.if_icmp .eq 54, 3) := by decide +kernel
theorem sX8_rule_61 : ab_X rom K cX8_rule 6 1 61 ls (.int y :: .int x :: st) hp = if x = y then ab_X rom K cX8_rule 6 1 115 ls st hp else ab_X rom K cX8_rule 6 1 64 ls st hp := ax_icmp_eq dX8_rule_61 (by decide) rfl
theorem dX8_rule_64 : decode cX8_rule 64 = .ok (.iconst 0, 1) := by decide +kernel
theorem sX8_rule_64 : ab_X rom K cX8_rule 6 1 64 ls st hp = ab_X rom K cX8_rule 6 1 65 ls (.int 0 :: st) hp := ax_iconst dX8_rule_64 (by decide) rfl
theorem dX8_rule_65 : decode cX8_rule 65 = .ok (.istore 9, 2) := by decide +kernel
theorem sX8_rule_65i : ab_X rom K cX8_rule 6 1 65 (v0 :: v1 :: v2 :: v3 :: v4 :: v5 :: v6 :: v7 :: .int y :: v9 :: ls) (.int x :: st) hp = ab_X rom K cX8_rule 6 1 67 (v0 :: v1 :: v2 :: v3 :: v4 :: v5 :: v6 :: v7 :: .int y :: .int x :: ls) st hp := ax_istore dX8_rule_65 (ax_lt (v := v9) rfl) (ab_nl_c1 (j := 8) (v := .int y) rfl (ab_c1_int _)) rfl rfl
theorem sX8_rule_65r : ab_X rom K cX8_rule 6 1 65 (v0 :: v1 :: v2 :: v3 :: v4 :: v5 :: v6 :: v7 :: .ref a2 :: v9 :: ls) (.int x :: st) hp = ab_X rom K cX8_rule 6 1 67 (v0 :: v1 :: v2 :: v3 :: v4 :: v5 :: v6 :: v7 :: .ref a2 :: .int x :: ls) st hp := ax_istore dX8_rule_65 (ax_lt (v := v9) rfl) (ab_nl_c1 (j := 8) (v := .ref a2) rfl (ab_c1_ref _)) rfl rfl
theorem sX8_rule_65n : ab_X rom K cX8_rule 6 1 65 (v0 :: v1 :: v2 :: v3 :: v4 :: v5 :: v6 :: v7 :: .null :: v9 :: ls) (.int x :: st) hp = ab_X rom K cX8_rule 6 1 67 (v0 :: v1 :: v2 :: v3 :: v4 :: v5 :: v6 :: v7 :: .null :: .int x :: ls) st hp := ax_istore dX8_rule_65 (ax_lt (v := v9) rfl) (ab_nl_c1 (j := 8) (v := .null) rfl ab_c1_null) rfl rfl
theorem dX8_rule_67 : decode cX8_rule 67 = .ok (.iload 9, 2) := by decide +kernel
theorem sX8_rule_67 : ab_X rom K cX8_rule 6 1 67 (v0 :: v1 :: v2 :: v3 :: v4 :: v5 :: v6 :: v7 :: v8 :: .int x :: ls) st hp = ab_X rom K cX8_rule 6 1 69 (v0 :: v1 :: v2 :: v3 :: v4 :: v5 :: v6 :: v7 :: v8 :: .int x :: ls) (.int x :: st) hp := ax_iload dX8_rule_67 rfl rfl
theorem dX8_rule_69 : decode cX8_rule 69 = .ok (.iload 4, 2) := by decide +kernel
theorem sX8_rule_69 : ab_X rom K cX8_rule 6 1 69 (v0 :: v1 :: v2 :: v3 :: .int x :: ls) st hp = ab_X rom K cX8_rule 6 1 71 (v0 :: v1 :: v2 :: v3 :: .int x :: ls) (.int x :: st) hp := ax_iload dX8_rule_69 rfl rfl
theorem dX8_rule_71 : decode cX8_rule 71 = .ok (.if_icmp .ge 32, 3) := by decide +kernel
theorem sX8_rule_71 : ab_X rom K cX8_rule 6 1 71 ls (.int y :: .int x :: st) hp = if x < y then ab_X rom K cX8_rule 6 1 74 ls st hp else ab_X rom K cX8_rule 6 1 103 ls st hp := ax_icmp_ge dX8_rule_71 (by decide) rfl
theorem dX8_rule_74 : decode cX8_rule 74 = .ok (.aload_n 0, 1) := by decide +kernel
theorem sX8_rule_74 : ab_X rom K cX8_rule 6 1 74 (.ref a :: ls) st hp = ab_X rom K cX8_rule 6 1 75 (.ref a :: ls) (.ref a :: st) hp := ax_aload_n dX8_rule_74 rfl rfl
theorem dX8_rule_75 : decode cX8_rule 75 = .ok (.getfield 59, 3) := by decide +kernel
theorem sX8_rule_75 : ab_X rom K cX8_rule 6 1 75 ls (.ref a :: st) hp = (ab_fld hp a 6 8).bind (fun v => ab_X rom K cX8_rule 6 1 78 ls (v :: st) hp) := ax_getfield dX8_rule_75 kf_6_59 rfl
theorem dX8_rule_78 : decode cX8_rule 78 = .ok (.iload 5, 2) := by decide +kernel
theorem sX8_rule_78 : ab_X rom K cX8_rule 6 1 78 (v0 :: v1 :: v2 :: v3 :: v4 :: .int x :: ls) st hp = ab_X rom K cX8_rule 6 1 80 (v0 :: v1 :: v2 :: v3 :: v4 :: .int x :: ls) (.int x :: st) hp := ax_iload dX8_rule_78 rfl rfl
theorem dX8_rule_80 : decode cX8_rule 80 = .ok (.iload 8, 2) := by decide +kernel
theorem sX8_rule_80 : ab_X rom K cX8_rule 6 1 80 (v0 :: v1 :: v2 :: v3 :: v4 :: v5 :: v6 :: v7 :: .int x :: ls) st hp = ab_X rom K cX8_rule 6 1 82 (v0 :: v1 :: v2 :: v3 :: v4 :: v5 :: v6 :: v7 :: .int x :: ls) (.int x :: st) hp := ax_iload dX8_rule_80 rfl rfl
theorem dX8_rule_82 : decode cX8_rule 82 = .ok (.aload_n 0, 1) := by decide +kernel
theorem sX8_rule_82 : ab_X rom K cX8_rule 6 1 82 (.ref a :: ls) st hp = ab_X rom K cX8_rule 6 1 83 (.ref a :: ls) (.ref a :: st) hp := ax_aload_n dX8_rule_82 rfl rfl
theorem dX8_rule_83 : decode cX8_rule 83 = .ok (.getfield 55, 3) := by decide +kernel
theorem sX8_rule_83 : ab_X rom K cX8_rule 6 1 83 ls (.ref a :: st) hp = (ab_fld hp a 6 7).bind (fun v => ab_X rom K cX8_rule 6 1 86 ls (v :: st) hp) := ax_getfield dX8_rule_83 kf_6_55 rfl
theorem dX8_rule_86 : decode cX8_rule 86 = .ok (.iload 9, 2) := by decide +kernel
theorem sX8_rule_86 : ab_X rom K cX8_rule 6 1 86 (v0 :: v1 :: v2 :: v3 :: v4 :: v5 :: v6 :: v7 :: v8 :: .int x :: ls) st hp = ab_X rom K cX8_rule 6 1 88 (v0 :: v1 :: v2 :: v3 :: v4 :: v5 :: v6 :: v7 :: v8 :: .int x :: ls) (.int x :: st) hp := ax_iload dX8_rule_86 rfl rfl
theorem dX8_rule_88 : decode cX8_rule 88 = .ok (.iaload, 1) := by decide +kernel
theorem sX8_rule_88 : ab_X rom K cX8_rule 6 1 88 ls (.int x :: .ref a :: st) hp = (ab_ard rom 0 hp a x).bind (fun v => ab_X rom K cX8_rule 6 1 89 ls (.int v :: st) hp) := ax_iaload dX8_rule_88 rfl
theorem dX8_rule_89 : decode cX8_rule 89 = .ok (.isub, 1) := by decide +kernel
theorem sX8_rule_89 : ab_X rom K cX8_rule 6 1 89 ls (.int y :: .int x :: st) hp = ab_X rom K cX8_rule 6 1 90 ls (.int (x - y) :: st) hp := ax_isub dX8_rule_89 rfl
theorem dX8_rule_90 : decode cX8_rule 90 = .ok (.invokestatic 265, 3) := by decide +kernel
theorem sX8_rule_90_0 : ab_X rom K cX8_rule 6 1 90 ls [.int x] hp = ab_X rom K cX8_rule 6 1 93 ls [.int (ab_abs x)] hp := ax_abs dX8_rule_90 kc_6_265 rfl (Nat.le_of_ble_eq_true rfl)
theorem sX8_rule_90_1 : ab_X rom K cX8_rule 6 1 90 ls [.int x, v0] hp = ab_X rom K cX8_rule 6 1 93 ls [.int (ab_abs x), v0] hp := ax_abs dX8_rule_90 kc_6_265 rfl (Nat.le_of_ble_eq_true rfl)
theorem sX8_rule_90_2 : ab_X rom K cX8_rule 6 1 90 ls [.int x, v0, v1] hp = ab_X rom K cX8_rule 6 1 93 ls [.int (ab_abs x), v0, v1] hp := ax_abs dX8_rule_90 kc_6_265 rfl (Nat.le_of_ble_eq_true rfl)
theorem sX8_rule_90_3 : ab_X rom K cX8_rule 6 1 90 ls [.int x, v0, v1, v2] hp = ab_X rom K cX8_rule 6 1 93 ls [.int (ab_abs x), v0, v1, v2] hp := ax_abs dX8_rule_90 kc_6_265 rfl (Nat.le_of_ble_eq_true rfl)
theorem dX8_rule_93 : decode cX8_rule 93 = .ok (.iastore, 1) := by decide +kernel
theorem sX8_rule_93 : ab_X rom K cX8_rule 6 1 93 ls (.int y :: .int x :: .ref a :: st) hp = (ab_awr 0 hp a x y).bind (fun hp' => ab_X rom K cX8_rule 6 1 94 ls st hp') := ax_iastore dX8_rule_93 rfl
theorem dX8_rule_94 : decode cX8_rule 94 = .ok (.iinc 5 1, 3) := by decide +kernel
theorem sX8_rule_94i : ab_X rom K cX8_rule 6 1 94 (v0 :: v1 :: v2 :: v3 :: .int y :: .int x :: ls) st hp = ab_X rom K cX8_rule 6 1 97 (v0 :: v1 :: v2 :: v3 :: .int y :: .int (x + 1) :: ls) st hp := ax_iinc dX8_rule_94 rfl (ab_nl_c1 (j := 4) (v := .int y) rfl (ab_c1_int _)) (by decide) rfl rfl
theorem sX8_rule_94r : ab_X rom K cX8_rule 6 1 94 (v0 :: v1 :: v2 :: v3 :: .ref a2 :: .int x :: ls) st hp = ab_X rom K cX8_rule 6 1 97 (v0 :: v1 :: v2 :: v3 :: .ref a2 :: .int (x + 1) :: ls) st hp := ax_iinc dX8_rule_94 rfl (ab_nl_c1 (j := 4) (v := .ref a2) rfl (ab_c1_ref _)) (by decide) rfl rfl
theorem sX8_rule_94n : ab_X rom K cX8_rule 6 1 94 (v0 :: v1 :: v2 :: v3 :: .null :: .int x :: ls) st hp = ab_X rom K cX8_rule 6 1 97 (v0 :: v1 :: v2 :: v3 :: .null :: .int (x + 1) :: ls) st hp := ax_iinc dX8_rule_94 rfl (ab_nl_c1 (j := 4) (v := .null) rfl ab_c1_null) (by decide) rfl rfl
theorem dX8_rule_97 : decode cX8_rule 97 = .ok (.iinc 9 1, 3) := by decide +kernel
theorem sX8_rule_97i : ab_X rom K cX8_rule 6 1 97 (v0 :: v1 :: v2 :: v3 :: v4 :: v5 :: v6 :: v7 :: .int y :: .int x :: ls) st hp = ab_X rom K cX8_rule 6 1 100 (v0 :: v1 :: v2 :: v3 :: v4 :: v5 :: v6 :: v7 :: .int y :: .int (x + 1) :: ls) st hp := ax_iinc dX8_rule_97 rfl (ab_nl_c1 (j := 8) (v := .int y) rfl (ab_c1_int _)) (by decide) rfl rfl
theorem sX8_rule_97r : ab_X rom K cX8_rule 6 1 97 (v0 :: v1 :: v2 :: v3 :: v4 :: v5 :: v6 :: v7 :: .ref a2 :: .int x :: ls) st hp = ab_X rom K cX8_rule 6 1 100 (v0 :: v1 :: v2 :: v3 :: v4 :: v5 :: v6 :: v7 :: .ref a2 :: .int (x + 1) :: ls) st hp := ax_iinc dX8_rule_97 rfl (ab_nl_c1 (j := 8) (v := .ref a2) rfl (ab_c1_ref _)) (by decide) rfl rfl
theorem sX8_rule_97n : ab_X rom K cX8_rule 6 1 97 (v0 :: v1 :: v2 :: v3 :: v4 :: v5 :: v6 :: v7 :: .null :: .int x :: ls) st hp = ab_X rom K cX8_rule 6 1 100 (v0 :: v1 :: v2 :: v3 :: v4 :: v5 :: v6 :: v7 :: .null :: .int (x + 1) :: ls) st hp := ax_iinc dX8_rule_97 rfl (ab_nl_c1 (j := 8) (v := .null) rfl ab_c1_null) (by decide) rfl rfl
theorem dX8_rule_100 : decode cX8_rule 100 = .ok (.goto (-33), 3) := by decide +kernel
theorem sX8_rule_100 : ab_X rom K cX8_rule 6 1 100 ls st hp = ab_X rom K cX8_rule 6 1 67 ls st hp := ax_goto dX8_rule_100 (by decide)
theorem dX8_rule_103 : decode cX8_rule 103 = .ok (.aload_n 0, 1) := by decide +kernel
theorem sX8_rule_103 : ab_X rom K cX8_rule 6 1 103 (.ref a :: ls) st hp = ab_X rom K cX8_rule 6 1 104 (.ref a :: ls) (.ref a :: st) hp := ax_aload_n dX8_rule_103 rfl rfl
theorem dX8_rule_104 : decode cX8_rule 104 = .ok (.getfield 55, 3) := by decide +kernel
theorem sX8_rule_104 : ab_X rom K cX8_rule 6 1 104 ls (.ref a :: st) hp = (ab_fld hp a 6 7).bind (fun v => ab_X rom K cX8_rule 6 1 107 ls (v :: st) hp) := ax_getfield dX8_rule_104 kf_6_55 rfl
theorem dX8_rule_107 : decode cX8_rule 107 = .ok (.iload 4, 2) := by decide +kernel
theorem sX8_rule_107 : ab_X rom K cX8_rule 6 1 107 (v0 :: v1 :: v2 :: v3 :: .int x :: ls) st hp = ab_X rom K cX8_rule 6 1 109 (v0 :: v1 :: v2 :: v3 :: .int x :: ls) (.int x :: st) hp := ax_iload dX8_rule_107 rfl rfl
theorem dX8_rule_109 : decode cX8_rule 109 = .ok (.iload 8, 2) := by decide +kernel
theorem sX8_rule_109 : ab_X rom K cX8_rule 6 1 109 (v0 :: v1 :: v2 :: v3 :: v4 :: v5 :: v6 :: v7 :: .int x :: ls) st hp = ab_X rom K cX8_rule 6 1 111 (v0 :: v1 :: v2 :: v3 :: v4 :: v5 :: v6 :: v7 :: .int x :: ls) (.int x :: st) hp := ax_iload dX8_rule_109 rfl rfl
theorem dX8_rule_111 : decode cX8_rule 111 = .ok (.iastore, 1) := by decide +kernel
theorem sX8_rule_111 : ab_X rom K cX8_rule 6 1 111 ls (.int y :: .int x :: .ref a :: st) hp = (ab_awr 0 hp a x y).bind (fun hp' => ab_X rom K cX8_rule 6 1 112 ls st hp') := ax_iastore dX8_rule_111 rfl
theorem dX8_rule_112 : decode cX8_rule 112 = .ok (.iinc 4 1, 3) := by decide +kernel
theorem sX8_rule_112i : ab_X rom K cX8_rule 6 1 112 (v0 :: v1 :: v2 :: .int y :: .int x :: ls) st hp = ab_X rom K cX8_rule 6 1 115 (v0 :: v1 :: v2 :: .int y :: .int (x + 1) :: ls) st hp := ax_iinc dX8_rule_112 rfl (ab_nl_c1 (j := 3) (v := .int y) rfl (ab_c1_int _)) (by decide) rfl rfl
theorem sX8_rule_112r : ab_X rom K cX8_rule 6 1 112 (v0 :: v1 :: v2 :: .ref a2 :: .int x :: ls) st hp = ab_X rom K cX8_rule 6 1 115 (v0 :: v1 :: v2 :: .ref a2 :: .int (x + 1) :: ls) st hp := ax_iinc dX8_rule_112 rfl (ab_nl_c1 (j := 3) (v := .ref a2) rfl (ab_c1_ref _)) (by decide) rfl rfl
theorem sX8_rule_112n : ab_X rom K cX8_rule 6 1 112 (v0 :: v1 :: v2 :: .null :: .int x :: ls) st hp = ab_X rom K cX8_rule 6 1 115 (v0 :: v1 :: v2 :: .null :: .int (x + 1) :: ls) st hp := ax_iinc dX8_rule_112 rfl (ab_nl_c1 (j := 3) (v := .null) rfl ab_c1_null) (by decide) rfl rfl
theorem dX8_rule_115 : decode cX8_rule 115 = .ok (.iinc 6 1, 3) := by decide +kernel
theorem sX8_rule_115i : ab_X rom K cX8_rule 6 1 115 (v0 :: v1 :: v2 :: v3 :: v4 :: .int y :: .int x :: ls) st hp = ab_X rom K cX8_rule 6 1 118 (v0 :: v1 :: v2 :: v3 :: v4 :: .int y :: .int (x + 1) :: ls) st hp := ax_iinc dX8_rule_115 rfl (ab_nl_c1 (j := 5) (v := .int y) rfl (ab_c1_int _)) (by decide) rfl rfl
theorem sX8_rule_115r : ab_X rom K cX8_rule 6 1 115 (v0 :: v1 :: v2 :: v3 :: v4 :: .ref a2 :: .int x :: ls) st hp = ab_X rom K cX8_rule 6 1 118 (v0 :: v1 :: v2 :: v3 :: v4 :: .ref a2 :: .int (x + 1) :: ls) st hp := ax_iinc dX8_rule_115 rfl (ab_nl_c1 (j := 5) (v := .ref a2) rfl (ab_c1_ref _)) (by decide) rfl rfl
theorem sX8_rule_115n : ab_X rom K cX8_rule 6 1 115 (v0 :: v1 :: v2 :: v3 :: v4 :: .null :: .int x :: ls) st hp = ab_X rom K cX8_rule 6 1 118 (v0 :: v1 :: v2 :: v3 :: v4 :: .null :: .int (x + 1) :: ls) st hp := ax_iinc dX8_rule_115 rfl (ab_nl_c1 (j := 5) (v := .null) rfl ab_c1_null) (by decide) rfl rfl
theorem dX8_rule_118 : decode cX8_rule 118 = .ok (.goto (-109), 3) := by decide +kernel
theorem sX8_rule_118 : ab_X rom K cX8_rule 6 1 118 ls st hp = ab_X rom K cX8_rule 6 1 9 ls st hp := ax_goto dX8_rule_118 (by decide)
theorem dX8_rule_121 : decode cX8_rule 121 = .ok (.bipush 100, 2) := by decide +kernel
theorem sX8_rule_121 : ab_X rom K cX8_rule 6 1 121 ls st hp = ab_X rom K cX8_rule 6 1 123 ls (.int 100 :: st) hp := ax_bipush dX8_rule_121 (by decide) rfl
theorem dX8_rule_123 : decode cX8_rule 123 = .ok (.aload_n 0, 1) := by decide +kernel
theorem sX8_rule_123 : ab_X rom K cX8_rule 6 1 123 (.ref a :: ls) st hp = ab_X rom K cX8_rule 6 1 124 (.ref a :: ls) (.ref a :: st) hp := ax_aload_n dX8_rule_123 rfl rfl
theorem dX8_rule_124 : decode cX8_rule 124 = .ok (.getfield 55, 3) := by decide +kernel
theorem sX8_rule_124 : ab_X rom K cX8_rule 6 1 124 ls (.ref a :: st) hp = (ab_fld hp a 6 7).bind (fun v => ab_X rom K cX8_rule 6 1 127 ls (v :: st) hp) := ax_getfield dX8_rule_124 kf_6_55 rfl
theorem dX8_rule_127 : decode cX8_rule 127 = .ok (.iload 4, 2) := by decide +kernel
theorem sX8_rule_127 : ab_X rom K cX8_rule 6 1 127 (v0 :: v1 :: v2 :: v3 :: .int x :: ls) st hp = ab_X rom K cX8_rule 6 1 129 (v0 :: v1 :: v2 :: v3 :: .int x :: ls) (.int x :: st) hp := ax_iload dX8_rule_127 rfl rfl
theorem dX8_rule_129 : decode cX8_rule 129 = .ok (.invokestatic 268, 3) := by decide +kernel
theorem sX8_rule_129_0 : ab_X rom K cX8_rule 6 1 129 ls [w2, w1] hp = (K 125 [w1, w2] hp).bind (fun o => ab_X rom K cX8_rule 6 1 132 ls (o.1.toList ++ []) o.2) := ax_static (as := [w1, w2]) (st := []) dX8_rule_129 kc_6_268 rfl rfl (Nat.le_of_ble_eq_true rfl)
theorem sX8_rule_129_1 : ab_X rom K cX8_rule 6 1 129 ls [w2, w1, v0] hp = (K 125 [w1, w2] hp).bind (fun o => ab_X rom K cX8_rule 6 1 132 ls (o.1.toList ++ [v0]) o.2) := ax_static (as := [w1, w2]) (st := [v0]) dX8_rule_129 kc_6_268 rfl rfl (Nat.le_of_ble_eq_true rfl)
theorem sX8_rule_129_2 : ab_X rom K cX8_rule 6 1 129 ls [w2, w1, v0, v1] hp = (K 125 [w1, w2] hp).bind (fun o => ab_X rom K cX8_rule 6 1 132 ls (o.1.toList ++ [v0, v1]) o.2) := ax_static (as := [w1, w2]) (st := [v0, v1]) dX8_rule_129 kc_6_268 rfl rfl (Nat.le_of_ble_eq_true rfl)
theorem sX8_rule_129_3 : ab_X rom K cX8_rule 6 1 129 ls [w2, w1, v0, v1, v2] hp = (K 125 [w1, w2] hp).bind (fun o => ab_X rom K cX8_rule 6 1 132 ls (o.1.toList ++ [v0, v1, v2]) o.2) := ax_static (as := [w1, w2]) (st := [v0, v1, v2]) dX8_rule_129 kc_6_268 rfl rfl (Nat.le_of_ble_eq_true rfl)
theorem dX8_rule_132 : decode cX8_rule 132 = .ok (.imul, 1) := by decide +kernel
theorem sX8_rule_132 : ab_X rom K cX8_rule 6 1 132 ls (.int y :: .int x :: st) hp = ab_X rom K cX8_rule 6 1 133 ls (.int (x * y) :: st) hp := ax_imul dX8_rule_132 rfl
theorem dX8_rule_133 : decode cX8_rule 133 = .ok (.aload_n 0, 1) := by decide +kernel
theorem sX8_rule_133 : ab_X rom K cX8_rule 6 1 133 (.ref a :: ls) st hp = ab_X rom K cX8_rule 6 1 134 (.ref a :: ls) (.ref a :: st) hp := ax_aload_n dX8_rule_133 rfl rfl
theorem dX8_rule_134 : decode cX8_rule 134 = .ok (.getfield 59, 3) := by decide +kernel
theorem sX8_rule_134 : ab_X rom K cX8_rule 6 1 134 ls (.ref a :: st) hp = (ab_fld hp a 6 8).bind (fun v => ab_X rom K cX8_rule 6 1 137 ls (v :: st) hp) := ax_getfield dX8_rule_134 kf_6_59 rfl
theorem dX8_rule_137 : decode cX8_rule 137 = .ok (.iload 5, 2) := by decide +kernel
theorem sX8_rule_137 : ab_X rom K cX8_rule 6 1 137 (v0 :: v1 :: v2 :: v3 :: v4 :: .int x :: ls) st hp = ab_X rom K cX8_rule 6 1 139 (v0 :: v1 :: v2 :: v3 :: v4 :: .int x :: ls) (.int x :: st) hp := ax_iload dX8_rule_137 rfl rfl
theorem dX8_rule_139 : decode cX8_rule 139 = .ok (.invokestatic 268, 3) := by decide +kernel
theorem sX8_rule_139_0 : ab_X rom K cX8_rule 6 1 139 ls [w2, w1] hp = (K 125 [w1, w2] hp).bind (fun o => ab_X rom K cX8_rule 6 1 142 ls (o.1.toList ++ []) o.2) := ax_static (as := [w1, w2]) (st := []) dX8_rule_139 kc_6_268 rfl rfl (Nat.le_of_ble_eq_true rfl)
theorem sX8_rule_139_1 : ab_X rom K cX8_rule 6 1 139 ls [w2, w1, v0] hp = (K 125 [w1, w2] hp).bind (fun o => ab_X rom K cX8_rule 6 1 142 ls (o.1.toList ++ [v0]) o.2) := ax_static (as := [w1, w2]) (st := [v0]) dX8_rule_139 kc_6_268 rfl rfl (Nat.le_of_ble_eq_true rfl)
theorem sX8_rule_139_2 : ab_X rom K cX8_rule 6 1 139 ls [w2, w1, v0, v1] hp = (K 125 [w1, w2] hp).bind (fun o => ab_X rom K cX8_rule 6 1 142 ls (o.1.toList ++ [v0, v1]) o.2) := ax_static (as := [w1, w2]) (st := [v0, v1]) dX8_rule_139 kc_6_268 rfl rfl (Nat.le_of_ble_eq_true rfl)
theorem sX8_rule_139_3 : ab_X rom K cX8_rule 6 1 139 ls [w2, w1, v0, v1, v2] hp = (K 125 [w1, w2] hp).bind (fun o => ab_X rom K cX8_rule 6 1 142 ls (o.1.toList ++ [v0, v1, v2]) o.2) := ax_static (as := [w1, w2]) (st := [v0, v1, v2]) dX8_rule_139 kc_6_268 rfl rfl (Nat.le_of_ble_eq_true rfl)
theorem dX8_rule_142 : decode cX8_rule 142 = .ok (.iadd, 1) := by decide +kernel
theorem sX8_rule_142 : ab_X rom K cX8_rule 6 1 142 ls (.int y :: .int x :: st) hp = ab_X rom K cX8_rule 6 1 143 ls (.int (x + y) :: st) hp := ax_iadd dX8_rule_142 rfl
theorem dX8_rule_143 : decode cX8_rule 143 = .ok (.ireturn, 1) := by decide +kernel
theorem sX8_rule_143 : ab_X rom K cX8_rule 6 1 143 ls [.int x] hp = some (some (.int x), hp) := ax_iret dX8_rule_143 rfl
theorem tX8_seen : ab_mT[113]? = some (yX8_seen, cX8_seen, 8, 1, 6) := by decide +kernel
theorem mX8_seen {d : Nat} {a0 : Nat} {x0 : Int32} {x1 : Int32} : ab_M rom (d + 1) 113 [.ref a0, .int x0, .int x1] hp = ab_X rom (ab_M rom d) cX8_seen 6 1 0 [.ref a0, .int x0, .int x1, .null, .null, .null, .null, .null] [] hp := ab_M_eq tX8_seen (Nat.le_of_ble_eq_true rfl)
theorem dX8_seen_0 : decode cX8_seen 0 = .ok (.aload_n 0, 1) := by decide +kernel
theorem sX8_seen_0 : ab_X rom K cX8_seen 6 1 0 (.ref a :: ls) st hp = ab_X rom K cX8_seen 6 1 1 (.ref a :: ls) (.ref a :: st) hp := ax_aload_n dX8_seen_0 rfl rfl
theorem dX8_seen_1 : decode cX8_seen 1 = .ok (.iload_n 1, 1) := by decide +kernel
theorem sX8_seen_1 : ab_X rom K cX8_seen 6 1 1 (v0 :: .int x :: ls) st hp = ab_X rom K cX8_seen 6 1 2 (v0 :: .int x :: ls) (.int x :: st) hp := ax_iload_n dX8_seen_1 rfl rfl
theorem dX8_seen_2 : decode cX8_seen 2 = .ok (.invokevirtual 99, 3) := by decide +kernel
theorem sX8_seen_2_0 : ab_X rom K cX8_seen 6 1 2 ls [w1, .ref a] hp = if ab_iso hp a 6 = true then (K 95 (.ref a :: [w1]) hp).bind (fun o => ab_X rom K cX8_seen 6 1 5 ls (o.1.toList ++ []) o.2) else none := ay_virtual (as := [w1]) (st := []) dX8_seen_2 kc_6_99 rfl rfl (Nat.le_of_ble_eq_true rfl)
theorem sX8_seen_2_1 : ab_X rom K cX8_seen 6 1 2 ls [w1, .ref a, v0] hp = if ab_iso hp a 6 = true then (K 95 (.ref a :: [w1]) hp).bind (fun o => ab_X rom K cX8_seen 6 1 5 ls (o.1.toList ++ [v0]) o.2) else none := ay_virtual (as := [w1]) (st := [v0]) dX8_seen_2 kc_6_99 rfl rfl (Nat.le_of_ble_eq_true rfl)
theorem sX8_seen_2_2 : ab_X rom K cX8_seen 6 1 2 ls [w1, .ref a, v0, v1] hp = if ab_iso hp a 6 = true then (K 95 (.ref a :: [w1]) hp).bind (fun o => ab_X rom K cX8_seen 6 1 5 ls (o.1.toList ++ [v0, v1]) o.2) else none := ay_virtual (as := [w1]) (st := [v0, v1]) dX8_seen_2 kc_6_99 rfl rfl (Nat.le_of_ble_eq_true rfl)
theorem sX8_seen_2_3 : ab_X rom K cX8_seen 6 1 2 ls [w1, .ref a, v0, v1, v2] hp = if ab_iso hp a 6 = true then (K 95 (.ref a :: [w1]) hp).bind (fun o => ab_X rom K cX8_seen 6 1 5 ls (o.1.toList ++ [v0, v1, v2]) o.2) else none := ay_virtual (as := [w1]) (st := [v0, v1, v2]) dX8_seen_2 kc_6_99 rfl rfl (Nat.le_of_ble_eq_true rfl)
theorem dX8_seen_5 : decode cX8_seen 5 = .ok (.ifCond .eq 12, 3) := by decide +kernel
theorem sX8_seen_5 : ab_X rom K cX8_seen 6 1 5 ls (.int x :: st) hp = if x = 0 then ab_X rom K cX8_seen 6 1 17 ls st hp else ab_X rom K cX8_seen 6 1 8 ls st hp := ax_if_eq dX8_seen_5 (by decide) rfl
theorem dX8_seen_8 : decode cX8_seen 8 = .ok (.iload_n 2, 1) := by decide +kernel
theorem sX8_seen_8 : ab_X rom K cX8_seen 6 1 8 (v0 :: v1 :: .int x :: ls) st hp = ab_X rom K cX8_seen 6 1 9 (v0 :: v1 :: .int x :: ls) (.int x :: st) hp := ax_iload_n dX8_seen_8 rfl rfl
theorem dX8_seen_9 : decode cX8_seen 9 = .ok (.ifCond .lt 8, 3) := by decide +kernel
theorem sX8_seen_9 : ab_X rom K cX8_seen 6 1 9 ls (.int x :: st) hp = if x < 0 then ab_X rom K cX8_seen 6 1 17 ls st hp else ab_X rom K cX8_seen 6 1 12 ls st hp := ax_if_lt dX8_seen_9 (by decide) rfl
theorem dX8_seen_12 : decode cX8_seen 12 = .ok (.iload_n 2, 1) := by decide +kernel
theorem sX8_seen_12 : ab_X rom K cX8_seen 6 1 12 (v0 :: v1 :: .int x :: ls) st hp = ab_X rom K cX8_seen 6 1 13 (v0 :: v1 :: .int x :: ls) (.int x :: st) hp := ax_iload_n dX8_seen_12 rfl rfl
theorem dX8_seen_13 : decode cX8_seen 13 = .ok (.iconst 1, 1) := by decide +kernel
theorem sX8_seen_13 : ab_X rom K cX8_seen 6 1 13 ls st hp = ab_X rom K cX8_seen 6 1 14 ls (.int 1 :: st) hp := ax_iconst dX8_seen_13 (by decide) rfl
theorem dX8_seen_14 : decode cX8_seen 14 = .ok (.if_icmp .le 6, 3) := by decide +kernel
theorem sX8_seen_14 : ab_X rom K cX8_seen 6 1 14 ls (.int y :: .int x :: st) hp = if y < x then ab_X rom K cX8_seen 6 1 17 ls st hp else ab_X rom K cX8_seen 6 1 20 ls st hp := ax_icmp_le dX8_seen_14 (by decide) rfl
theorem dX8_seen_17 : decode cX8_seen 17 = .ok (.bipush (-2), 2) := by decide +kernel
theorem sX8_seen_17 : ab_X rom K cX8_seen 6 1 17 ls st hp = ab_X rom K cX8_seen 6 1 19 ls (.int (-2) :: st) hp := ax_bipush dX8_seen_17 (by decide) rfl
theorem dX8_seen_19 : decode cX8_seen 19 = .ok (.ireturn, 1) := by decide +kernel
theorem sX8_seen_19 : ab_X rom K cX8_seen 6 1 19 ls [.int x] hp = some (some (.int x), hp) := ax_iret dX8_seen_19 rfl
theorem dX8_seen_20 : decode cX8_seen 20 = .ok (.aload_n 0, 1) := by decide +kernel
theorem sX8_seen_20 : ab_X rom K cX8_seen 6 1 20 (.ref a :: ls) st hp = ab_X rom K cX8_seen 6 1 21 (.ref a :: ls) (.ref a :: st) hp := ax_aload_n dX8_seen_20 rfl rfl
theorem dX8_seen_21 : decode cX8_seen 21 = .ok (.getfield 21, 3) := by decide +kernel
theorem sX8_seen_21 : ab_X rom K cX8_seen 6 1 21 ls (.ref a :: st) hp = (ab_fld hp a 6 3).bind (fun v => ab_X rom K cX8_seen 6 1 24 ls (v :: st) hp) := ax_getfield dX8_seen_21 kf_6_21 rfl
theorem dX8_seen_24 : decode cX8_seen 24 = .ok (.iload_n 1, 1) := by decide +kernel
theorem sX8_seen_24 : ab_X rom K cX8_seen 6 1 24 (v0 :: .int x :: ls) st hp = ab_X rom K cX8_seen 6 1 25 (v0 :: .int x :: ls) (.int x :: st) hp := ax_iload_n dX8_seen_24 rfl rfl
theorem dX8_seen_25 : decode cX8_seen 25 = .ok (.aaload, 1) := by decide +kernel
theorem sX8_seen_25 : ab_X rom K cX8_seen 6 1 25 ls (.int x :: .ref a :: st) hp = (ab_rrd hp a x).bind (fun v => ab_X rom K cX8_seen 6 1 26 ls (.ref v :: st) hp) := ax_aaload dX8_seen_25 rfl
theorem dX8_seen_26 : decode cX8_seen 26 = .ok (.astore_n 3, 1) := by decide +kernel
theorem sX8_seen_26i : ab_X rom K cX8_seen 6 1 26 (v0 :: v1 :: .int y :: v3 :: ls) (.ref a :: st) hp = ab_X rom K cX8_seen 6 1 27 (v0 :: v1 :: .int y :: .ref a :: ls) st hp := ax_astore_n dX8_seen_26 (ax_lt (v := v3) rfl) (ab_nl_c1 (j := 2) (v := .int y) rfl (ab_c1_int _)) rfl rfl
theorem sX8_seen_26r : ab_X rom K cX8_seen 6 1 26 (v0 :: v1 :: .ref a2 :: v3 :: ls) (.ref a :: st) hp = ab_X rom K cX8_seen 6 1 27 (v0 :: v1 :: .ref a2 :: .ref a :: ls) st hp := ax_astore_n dX8_seen_26 (ax_lt (v := v3) rfl) (ab_nl_c1 (j := 2) (v := .ref a2) rfl (ab_c1_ref _)) rfl rfl
theorem sX8_seen_26n : ab_X rom K cX8_seen 6 1 26 (v0 :: v1 :: .null :: v3 :: ls) (.ref a :: st) hp = ab_X rom K cX8_seen 6 1 27 (v0 :: v1 :: .null :: .ref a :: ls) st hp := ax_astore_n dX8_seen_26 (ax_lt (v := v3) rfl) (ab_nl_c1 (j := 2) (v := .null) rfl ab_c1_null) rfl rfl
theorem dX8_seen_27 : decode cX8_seen 27 = .ok (.iconst 0, 1) := by decide +kernel
theorem sX8_seen_27 : ab_X rom K cX8_seen 6 1 27 ls st hp = ab_X rom K cX8_seen 6 1 28 ls (.int 0 :: st) hp := ax_iconst dX8_seen_27 (by decide) rfl
theorem dX8_seen_28 : decode cX8_seen 28 = .ok (.istore 4, 2) := by decide +kernel
theorem sX8_seen_28i : ab_X rom K cX8_seen 6 1 28 (v0 :: v1 :: v2 :: .int y :: v4 :: ls) (.int x :: st) hp = ab_X rom K cX8_seen 6 1 30 (v0 :: v1 :: v2 :: .int y :: .int x :: ls) st hp := ax_istore dX8_seen_28 (ax_lt (v := v4) rfl) (ab_nl_c1 (j := 3) (v := .int y) rfl (ab_c1_int _)) rfl rfl
theorem sX8_seen_28r : ab_X rom K cX8_seen 6 1 28 (v0 :: v1 :: v2 :: .ref a2 :: v4 :: ls) (.int x :: st) hp = ab_X rom K cX8_seen 6 1 30 (v0 :: v1 :: v2 :: .ref a2 :: .int x :: ls) st hp := ax_istore dX8_seen_28 (ax_lt (v := v4) rfl) (ab_nl_c1 (j := 3) (v := .ref a2) rfl (ab_c1_ref _)) rfl rfl
theorem sX8_seen_28n : ab_X rom K cX8_seen 6 1 28 (v0 :: v1 :: v2 :: .null :: v4 :: ls) (.int x :: st) hp = ab_X rom K cX8_seen 6 1 30 (v0 :: v1 :: v2 :: .null :: .int x :: ls) st hp := ax_istore dX8_seen_28 (ax_lt (v := v4) rfl) (ab_nl_c1 (j := 3) (v := .null) rfl ab_c1_null) rfl rfl
theorem dX8_seen_30 : decode cX8_seen 30 = .ok (.iconst 0, 1) := by decide +kernel
theorem sX8_seen_30 : ab_X rom K cX8_seen 6 1 30 ls st hp = ab_X rom K cX8_seen 6 1 31 ls (.int 0 :: st) hp := ax_iconst dX8_seen_30 (by decide) rfl
theorem dX8_seen_31 : decode cX8_seen 31 = .ok (.istore 5, 2) := by decide +kernel
theorem sX8_seen_31i : ab_X rom K cX8_seen 6 1 31 (v0 :: v1 :: v2 :: v3 :: .int y :: v5 :: ls) (.int x :: st) hp = ab_X rom K cX8_seen 6 1 33 (v0 :: v1 :: v2 :: v3 :: .int y :: .int x :: ls) st hp := ax_istore dX8_seen_31 (ax_lt (v := v5) rfl) (ab_nl_c1 (j := 4) (v := .int y) rfl (ab_c1_int _)) rfl rfl
theorem sX8_seen_31r : ab_X rom K cX8_seen 6 1 31 (v0 :: v1 :: v2 :: v3 :: .ref a2 :: v5 :: ls) (.int x :: st) hp = ab_X rom K cX8_seen 6 1 33 (v0 :: v1 :: v2 :: v3 :: .ref a2 :: .int x :: ls) st hp := ax_istore dX8_seen_31 (ax_lt (v := v5) rfl) (ab_nl_c1 (j := 4) (v := .ref a2) rfl (ab_c1_ref _)) rfl rfl
theorem sX8_seen_31n : ab_X rom K cX8_seen 6 1 31 (v0 :: v1 :: v2 :: v3 :: .null :: v5 :: ls) (.int x :: st) hp = ab_X rom K cX8_seen 6 1 33 (v0 :: v1 :: v2 :: v3 :: .null :: .int x :: ls) st hp := ax_istore dX8_seen_31 (ax_lt (v := v5) rfl) (ab_nl_c1 (j := 4) (v := .null) rfl ab_c1_null) rfl rfl
theorem dX8_seen_33 : decode cX8_seen 33 = .ok (.iconst 0, 1) := by decide +kernel
theorem sX8_seen_33 : ab_X rom K cX8_seen 6 1 33 ls st hp = ab_X rom K cX8_seen 6 1 34 ls (.int 0 :: st) hp := ax_iconst dX8_seen_33 (by decide) rfl
theorem dX8_seen_34 : decode cX8_seen 34 = .ok (.istore 6, 2) := by decide +kernel
theorem sX8_seen_34i : ab_X rom K cX8_seen 6 1 34 (v0 :: v1 :: v2 :: v3 :: v4 :: .int y :: v6 :: ls) (.int x :: st) hp = ab_X rom K cX8_seen 6 1 36 (v0 :: v1 :: v2 :: v3 :: v4 :: .int y :: .int x :: ls) st hp := ax_istore dX8_seen_34 (ax_lt (v := v6) rfl) (ab_nl_c1 (j := 5) (v := .int y) rfl (ab_c1_int _)) rfl rfl
theorem sX8_seen_34r : ab_X rom K cX8_seen 6 1 34 (v0 :: v1 :: v2 :: v3 :: v4 :: .ref a2 :: v6 :: ls) (.int x :: st) hp = ab_X rom K cX8_seen 6 1 36 (v0 :: v1 :: v2 :: v3 :: v4 :: .ref a2 :: .int x :: ls) st hp := ax_istore dX8_seen_34 (ax_lt (v := v6) rfl) (ab_nl_c1 (j := 5) (v := .ref a2) rfl (ab_c1_ref _)) rfl rfl
theorem sX8_seen_34n : ab_X rom K cX8_seen 6 1 34 (v0 :: v1 :: v2 :: v3 :: v4 :: .null :: v6 :: ls) (.int x :: st) hp = ab_X rom K cX8_seen 6 1 36 (v0 :: v1 :: v2 :: v3 :: v4 :: .null :: .int x :: ls) st hp := ax_istore dX8_seen_34 (ax_lt (v := v6) rfl) (ab_nl_c1 (j := 5) (v := .null) rfl ab_c1_null) rfl rfl
theorem dX8_seen_36 : decode cX8_seen 36 = .ok (.iload 6, 2) := by decide +kernel
theorem sX8_seen_36 : ab_X rom K cX8_seen 6 1 36 (v0 :: v1 :: v2 :: v3 :: v4 :: v5 :: .int x :: ls) st hp = ab_X rom K cX8_seen 6 1 38 (v0 :: v1 :: v2 :: v3 :: v4 :: v5 :: .int x :: ls) (.int x :: st) hp := ax_iload dX8_seen_36 rfl rfl
theorem dX8_seen_38 : decode cX8_seen 38 = .ok (.aload_n 3, 1) := by decide +kernel
theorem sX8_seen_38 : ab_X rom K cX8_seen 6 1 38 (v0 :: v1 :: v2 :: .ref a :: ls) st hp = ab_X rom K cX8_seen 6 1 39 (v0 :: v1 :: v2 :: .ref a :: ls) (.ref a :: st) hp := ax_aload_n dX8_seen_38 rfl rfl
theorem dX8_seen_39 : decode cX8_seen 39 = .ok (.getfield 89, 3) := by decide +kernel
theorem sX8_seen_39 : ab_X rom K cX8_seen 6 1 39 ls (.ref a :: st) hp = (ab_fld hp a 1 1).bind (fun v => ab_X rom K cX8_seen 6 1 42 ls (v :: st) hp) := ax_getfield dX8_seen_39 kf_6_89 rfl
theorem dX8_seen_42 : decode cX8_seen 42 = .ok (.if_icmp .ge 56, 3) := by decide +kernel
theorem sX8_seen_42 : ab_X rom K cX8_seen 6 1 42 ls (.int y :: .int x :: st) hp = if x < y then ab_X rom K cX8_seen 6 1 45 ls st hp else ab_X rom K cX8_seen 6 1 98 ls st hp := ax_icmp_ge dX8_seen_42 (by decide) rfl
theorem dX8_seen_45 : decode cX8_seen 45 = .ok (.aload_n 3, 1) := by decide +kernel
theorem sX8_seen_45 : ab_X rom K cX8_seen 6 1 45 (v0 :: v1 :: v2 :: .ref a :: ls) st hp = ab_X rom K cX8_seen 6 1 46 (v0 :: v1 :: v2 :: .ref a :: ls) (.ref a :: st) hp := ax_aload_n dX8_seen_45 rfl rfl
theorem dX8_seen_46 : decode cX8_seen 46 = .ok (.iload 6, 2) := by decide +kernel
theorem sX8_seen_46 : ab_X rom K cX8_seen 6 1 46 (v0 :: v1 :: v2 :: v3 :: v4 :: v5 :: .int x :: ls) st hp = ab_X rom K cX8_seen 6 1 48 (v0 :: v1 :: v2 :: v3 :: v4 :: v5 :: .int x :: ls) (.int x :: st) hp := ax_iload dX8_seen_46 rfl rfl
theorem dX8_seen_48 : decode cX8_seen 48 = .ok (.invokevirtual 155, 3) := by decide +kernel
theorem sX8_seen_48_0 : ab_X rom K cX8_seen 6 1 48 ls [w1, .ref a] hp = if ab_iso hp a 1 = true then (K 26 (.ref a :: [w1]) hp).bind (fun o => ab_X rom K cX8_seen 6 1 51 ls (o.1.toList ++ []) o.2) else none := ay_virtual (as := [w1]) (st := []) dX8_seen_48 kc_6_155 rfl rfl (Nat.le_of_ble_eq_true rfl)
theorem sX8_seen_48_1 : ab_X rom K cX8_seen 6 1 48 ls [w1, .ref a, v0] hp = if ab_iso hp a 1 = true then (K 26 (.ref a :: [w1]) hp).bind (fun o => ab_X rom K cX8_seen 6 1 51 ls (o.1.toList ++ [v0]) o.2) else none := ay_virtual (as := [w1]) (st := [v0]) dX8_seen_48 kc_6_155 rfl rfl (Nat.le_of_ble_eq_true rfl)
theorem sX8_seen_48_2 : ab_X rom K cX8_seen 6 1 48 ls [w1, .ref a, v0, v1] hp = if ab_iso hp a 1 = true then (K 26 (.ref a :: [w1]) hp).bind (fun o => ab_X rom K cX8_seen 6 1 51 ls (o.1.toList ++ [v0, v1]) o.2) else none := ay_virtual (as := [w1]) (st := [v0, v1]) dX8_seen_48 kc_6_155 rfl rfl (Nat.le_of_ble_eq_true rfl)
theorem sX8_seen_48_3 : ab_X rom K cX8_seen 6 1 48 ls [w1, .ref a, v0, v1, v2] hp = if ab_iso hp a 1 = true then (K 26 (.ref a :: [w1]) hp).bind (fun o => ab_X rom K cX8_seen 6 1 51 ls (o.1.toList ++ [v0, v1, v2]) o.2) else none := ay_virtual (as := [w1]) (st := [v0, v1, v2]) dX8_seen_48 kc_6_155 rfl rfl (Nat.le_of_ble_eq_true rfl)
theorem dX8_seen_51 : decode cX8_seen 51 = .ok (.ifCond .eq 41, 3) := by decide +kernel
theorem sX8_seen_51 : ab_X rom K cX8_seen 6 1 51 ls (.int x :: st) hp = if x = 0 then ab_X rom K cX8_seen 6 1 92 ls st hp else ab_X rom K cX8_seen 6 1 54 ls st hp := ax_if_eq dX8_seen_51 (by decide) rfl
theorem dX8_seen_54 : decode cX8_seen 54 = .ok (.aload_n 3, 1) := by decide +kernel
theorem sX8_seen_54 : ab_X rom K cX8_seen 6 1 54 (v0 :: v1 :: v2 :: .ref a :: ls) st hp = ab_X rom K cX8_seen 6 1 55 (v0 :: v1 :: v2 :: .ref a :: ls) (.ref a :: st) hp := ax_aload_n dX8_seen_54 rfl rfl
theorem dX8_seen_55 : decode cX8_seen 55 = .ok (.iload 6, 2) := by decide +kernel
theorem sX8_seen_55 : ab_X rom K cX8_seen 6 1 55 (v0 :: v1 :: v2 :: v3 :: v4 :: v5 :: .int x :: ls) st hp = ab_X rom K cX8_seen 6 1 57 (v0 :: v1 :: v2 :: v3 :: v4 :: v5 :: .int x :: ls) (.int x :: st) hp := ax_iload dX8_seen_55 rfl rfl
theorem dX8_seen_57 : decode cX8_seen 57 = .ok (.invokevirtual 158, 3) := by decide +kernel
theorem sX8_seen_57_0 : ab_X rom K cX8_seen 6 1 57 ls [w1, .ref a] hp = if ab_iso hp a 1 = true then (K 18 (.ref a :: [w1]) hp).bind (fun o => ab_X rom K cX8_seen 6 1 60 ls (o.1.toList ++ []) o.2) else none := ay_virtual (as := [w1]) (st := []) dX8_seen_57 kc_6_158 rfl rfl (Nat.le_of_ble_eq_true rfl)
theorem sX8_seen_57_1 : ab_X rom K cX8_seen 6 1 57 ls [w1, .ref a, v0] hp = if ab_iso hp a 1 = true then (K 18 (.ref a :: [w1]) hp).bind (fun o => ab_X rom K cX8_seen 6 1 60 ls (o.1.toList ++ [v0]) o.2) else none := ay_virtual (as := [w1]) (st := [v0]) dX8_seen_57 kc_6_158 rfl rfl (Nat.le_of_ble_eq_true rfl)
theorem sX8_seen_57_2 : ab_X rom K cX8_seen 6 1 57 ls [w1, .ref a, v0, v1] hp = if ab_iso hp a 1 = true then (K 18 (.ref a :: [w1]) hp).bind (fun o => ab_X rom K cX8_seen 6 1 60 ls (o.1.toList ++ [v0, v1]) o.2) else none := ay_virtual (as := [w1]) (st := [v0, v1]) dX8_seen_57 kc_6_158 rfl rfl (Nat.le_of_ble_eq_true rfl)
theorem sX8_seen_57_3 : ab_X rom K cX8_seen 6 1 57 ls [w1, .ref a, v0, v1, v2] hp = if ab_iso hp a 1 = true then (K 18 (.ref a :: [w1]) hp).bind (fun o => ab_X rom K cX8_seen 6 1 60 ls (o.1.toList ++ [v0, v1, v2]) o.2) else none := ay_virtual (as := [w1]) (st := [v0, v1, v2]) dX8_seen_57 kc_6_158 rfl rfl (Nat.le_of_ble_eq_true rfl)
theorem dX8_seen_60 : decode cX8_seen 60 = .ok (.bipush 30, 2) := by decide +kernel
theorem sX8_seen_60 : ab_X rom K cX8_seen 6 1 60 ls st hp = ab_X rom K cX8_seen 6 1 62 ls (.int 30 :: st) hp := ax_bipush dX8_seen_60 (by decide) rfl
theorem dX8_seen_62 : decode cX8_seen 62 = .ok (.if_icmp .gt 30, 3) := by decide +kernel
theorem sX8_seen_62 : ab_X rom K cX8_seen 6 1 62 ls (.int y :: .int x :: st) hp = if y < x then ab_X rom K cX8_seen 6 1 92 ls st hp else ab_X rom K cX8_seen 6 1 65 ls st hp := ax_icmp_gt dX8_seen_62 (by decide) rfl
theorem dX8_seen_65 : decode cX8_seen 65 = .ok (.iconst 1, 1) := by decide +kernel
theorem sX8_seen_65 : ab_X rom K cX8_seen 6 1 65 ls st hp = ab_X rom K cX8_seen 6 1 66 ls (.int 1 :: st) hp := ax_iconst dX8_seen_65 (by decide) rfl
theorem dX8_seen_66 : decode cX8_seen 66 = .ok (.aload_n 3, 1) := by decide +kernel
theorem sX8_seen_66 : ab_X rom K cX8_seen 6 1 66 (v0 :: v1 :: v2 :: .ref a :: ls) st hp = ab_X rom K cX8_seen 6 1 67 (v0 :: v1 :: v2 :: .ref a :: ls) (.ref a :: st) hp := ax_aload_n dX8_seen_66 rfl rfl
theorem dX8_seen_67 : decode cX8_seen 67 = .ok (.iload 6, 2) := by decide +kernel
theorem sX8_seen_67 : ab_X rom K cX8_seen 6 1 67 (v0 :: v1 :: v2 :: v3 :: v4 :: v5 :: .int x :: ls) st hp = ab_X rom K cX8_seen 6 1 69 (v0 :: v1 :: v2 :: v3 :: v4 :: v5 :: .int x :: ls) (.int x :: st) hp := ax_iload dX8_seen_67 rfl rfl
theorem dX8_seen_69 : decode cX8_seen 69 = .ok (.invokevirtual 158, 3) := by decide +kernel
theorem sX8_seen_69_0 : ab_X rom K cX8_seen 6 1 69 ls [w1, .ref a] hp = if ab_iso hp a 1 = true then (K 18 (.ref a :: [w1]) hp).bind (fun o => ab_X rom K cX8_seen 6 1 72 ls (o.1.toList ++ []) o.2) else none := ay_virtual (as := [w1]) (st := []) dX8_seen_69 kc_6_158 rfl rfl (Nat.le_of_ble_eq_true rfl)
theorem sX8_seen_69_1 : ab_X rom K cX8_seen 6 1 69 ls [w1, .ref a, v0] hp = if ab_iso hp a 1 = true then (K 18 (.ref a :: [w1]) hp).bind (fun o => ab_X rom K cX8_seen 6 1 72 ls (o.1.toList ++ [v0]) o.2) else none := ay_virtual (as := [w1]) (st := [v0]) dX8_seen_69 kc_6_158 rfl rfl (Nat.le_of_ble_eq_true rfl)
theorem sX8_seen_69_2 : ab_X rom K cX8_seen 6 1 69 ls [w1, .ref a, v0, v1] hp = if ab_iso hp a 1 = true then (K 18 (.ref a :: [w1]) hp).bind (fun o => ab_X rom K cX8_seen 6 1 72 ls (o.1.toList ++ [v0, v1]) o.2) else none := ay_virtual (as := [w1]) (st := [v0, v1]) dX8_seen_69 kc_6_158 rfl rfl (Nat.le_of_ble_eq_true rfl)
theorem sX8_seen_69_3 : ab_X rom K cX8_seen 6 1 69 ls [w1, .ref a, v0, v1, v2] hp = if ab_iso hp a 1 = true then (K 18 (.ref a :: [w1]) hp).bind (fun o => ab_X rom K cX8_seen 6 1 72 ls (o.1.toList ++ [v0, v1, v2]) o.2) else none := ay_virtual (as := [w1]) (st := [v0, v1, v2]) dX8_seen_69 kc_6_158 rfl rfl (Nat.le_of_ble_eq_true rfl)
theorem dX8_seen_72 : decode cX8_seen 72 = .ok (.ishl, 1) := by decide +kernel
theorem sX8_seen_72 : ab_X rom K cX8_seen 6 1 72 ls (.int y :: .int x :: st) hp = ab_X rom K cX8_seen 6 1 73 ls (.int (x <<< (y &&& 31)) :: st) hp := ax_ishl dX8_seen_72 rfl
theorem dX8_seen_73 : decode cX8_seen 73 = .ok (.istore 7, 2) := by decide +kernel
theorem sX8_seen_73i : ab_X rom K cX8_seen 6 1 73 (v0 :: v1 :: v2 :: v3 :: v4 :: v5 :: .int y :: v7 :: ls) (.int x :: st) hp = ab_X rom K cX8_seen 6 1 75 (v0 :: v1 :: v2 :: v3 :: v4 :: v5 :: .int y :: .int x :: ls) st hp := ax_istore dX8_seen_73 (ax_lt (v := v7) rfl) (ab_nl_c1 (j := 6) (v := .int y) rfl (ab_c1_int _)) rfl rfl
theorem sX8_seen_73r : ab_X rom K cX8_seen 6 1 73 (v0 :: v1 :: v2 :: v3 :: v4 :: v5 :: .ref a2 :: v7 :: ls) (.int x :: st) hp = ab_X rom K cX8_seen 6 1 75 (v0 :: v1 :: v2 :: v3 :: v4 :: v5 :: .ref a2 :: .int x :: ls) st hp := ax_istore dX8_seen_73 (ax_lt (v := v7) rfl) (ab_nl_c1 (j := 6) (v := .ref a2) rfl (ab_c1_ref _)) rfl rfl
theorem sX8_seen_73n : ab_X rom K cX8_seen 6 1 73 (v0 :: v1 :: v2 :: v3 :: v4 :: v5 :: .null :: v7 :: ls) (.int x :: st) hp = ab_X rom K cX8_seen 6 1 75 (v0 :: v1 :: v2 :: v3 :: v4 :: v5 :: .null :: .int x :: ls) st hp := ax_istore dX8_seen_73 (ax_lt (v := v7) rfl) (ab_nl_c1 (j := 6) (v := .null) rfl ab_c1_null) rfl rfl
theorem dX8_seen_75 : decode cX8_seen 75 = .ok (.iload 5, 2) := by decide +kernel
theorem sX8_seen_75 : ab_X rom K cX8_seen 6 1 75 (v0 :: v1 :: v2 :: v3 :: v4 :: .int x :: ls) st hp = ab_X rom K cX8_seen 6 1 77 (v0 :: v1 :: v2 :: v3 :: v4 :: .int x :: ls) (.int x :: st) hp := ax_iload dX8_seen_75 rfl rfl
theorem dX8_seen_77 : decode cX8_seen 77 = .ok (.iload 4, 2) := by decide +kernel
theorem sX8_seen_77 : ab_X rom K cX8_seen 6 1 77 (v0 :: v1 :: v2 :: v3 :: .int x :: ls) st hp = ab_X rom K cX8_seen 6 1 79 (v0 :: v1 :: v2 :: v3 :: .int x :: ls) (.int x :: st) hp := ax_iload dX8_seen_77 rfl rfl
theorem dX8_seen_79 : decode cX8_seen 79 = .ok (.iload 7, 2) := by decide +kernel
theorem sX8_seen_79 : ab_X rom K cX8_seen 6 1 79 (v0 :: v1 :: v2 :: v3 :: v4 :: v5 :: v6 :: .int x :: ls) st hp = ab_X rom K cX8_seen 6 1 81 (v0 :: v1 :: v2 :: v3 :: v4 :: v5 :: v6 :: .int x :: ls) (.int x :: st) hp := ax_iload dX8_seen_79 rfl rfl
theorem dX8_seen_81 : decode cX8_seen 81 = .ok (.iand, 1) := by decide +kernel
theorem sX8_seen_81 : ab_X rom K cX8_seen 6 1 81 ls (.int y :: .int x :: st) hp = ab_X rom K cX8_seen 6 1 82 ls (.int (x &&& y) :: st) hp := ax_iand dX8_seen_81 rfl
theorem dX8_seen_82 : decode cX8_seen 82 = .ok (.ior, 1) := by decide +kernel
theorem sX8_seen_82 : ab_X rom K cX8_seen 6 1 82 ls (.int y :: .int x :: st) hp = ab_X rom K cX8_seen 6 1 83 ls (.int (x ||| y) :: st) hp := ax_ior dX8_seen_82 rfl
theorem dX8_seen_83 : decode cX8_seen 83 = .ok (.istore 5, 2) := by decide +kernel
theorem sX8_seen_83i : ab_X rom K cX8_seen 6 1 83 (v0 :: v1 :: v2 :: v3 :: .int y :: v5 :: ls) (.int x :: st) hp = ab_X rom K cX8_seen 6 1 85 (v0 :: v1 :: v2 :: v3 :: .int y :: .int x :: ls) st hp := ax_istore dX8_seen_83 (ax_lt (v := v5) rfl) (ab_nl_c1 (j := 4) (v := .int y) rfl (ab_c1_int _)) rfl rfl
theorem sX8_seen_83r : ab_X rom K cX8_seen 6 1 83 (v0 :: v1 :: v2 :: v3 :: .ref a2 :: v5 :: ls) (.int x :: st) hp = ab_X rom K cX8_seen 6 1 85 (v0 :: v1 :: v2 :: v3 :: .ref a2 :: .int x :: ls) st hp := ax_istore dX8_seen_83 (ax_lt (v := v5) rfl) (ab_nl_c1 (j := 4) (v := .ref a2) rfl (ab_c1_ref _)) rfl rfl
theorem sX8_seen_83n : ab_X rom K cX8_seen 6 1 83 (v0 :: v1 :: v2 :: v3 :: .null :: v5 :: ls) (.int x :: st) hp = ab_X rom K cX8_seen 6 1 85 (v0 :: v1 :: v2 :: v3 :: .null :: .int x :: ls) st hp := ax_istore dX8_seen_83 (ax_lt (v := v5) rfl) (ab_nl_c1 (j := 4) (v := .null) rfl ab_c1_null) rfl rfl
theorem dX8_seen_85 : decode cX8_seen 85 = .ok (.iload 4, 2) := by decide +kernel
theorem sX8_seen_85 : ab_X rom K cX8_seen 6 1 85 (v0 :: v1 :: v2 :: v3 :: .int x :: ls) st hp = ab_X rom K cX8_seen 6 1 87 (v0 :: v1 :: v2 :: v3 :: .int x :: ls) (.int x :: st) hp := ax_iload dX8_seen_85 rfl rfl
theorem dX8_seen_87 : decode cX8_seen 87 = .ok (.iload 7, 2) := by decide +kernel
theorem sX8_seen_87 : ab_X rom K cX8_seen 6 1 87 (v0 :: v1 :: v2 :: v3 :: v4 :: v5 :: v6 :: .int x :: ls) st hp = ab_X rom K cX8_seen 6 1 89 (v0 :: v1 :: v2 :: v3 :: v4 :: v5 :: v6 :: .int x :: ls) (.int x :: st) hp := ax_iload dX8_seen_87 rfl rfl
theorem dX8_seen_89 : decode cX8_seen 89 = .ok (.ior, 1) := by decide +kernel
theorem sX8_seen_89 : ab_X rom K cX8_seen 6 1 89 ls (.int y :: .int x :: st) hp = ab_X rom K cX8_seen 6 1 90 ls (.int (x ||| y) :: st) hp := ax_ior dX8_seen_89 rfl
theorem dX8_seen_90 : decode cX8_seen 90 = .ok (.istore 4, 2) := by decide +kernel
theorem sX8_seen_90i : ab_X rom K cX8_seen 6 1 90 (v0 :: v1 :: v2 :: .int y :: v4 :: ls) (.int x :: st) hp = ab_X rom K cX8_seen 6 1 92 (v0 :: v1 :: v2 :: .int y :: .int x :: ls) st hp := ax_istore dX8_seen_90 (ax_lt (v := v4) rfl) (ab_nl_c1 (j := 3) (v := .int y) rfl (ab_c1_int _)) rfl rfl
theorem sX8_seen_90r : ab_X rom K cX8_seen 6 1 90 (v0 :: v1 :: v2 :: .ref a2 :: v4 :: ls) (.int x :: st) hp = ab_X rom K cX8_seen 6 1 92 (v0 :: v1 :: v2 :: .ref a2 :: .int x :: ls) st hp := ax_istore dX8_seen_90 (ax_lt (v := v4) rfl) (ab_nl_c1 (j := 3) (v := .ref a2) rfl (ab_c1_ref _)) rfl rfl
theorem sX8_seen_90n : ab_X rom K cX8_seen 6 1 90 (v0 :: v1 :: v2 :: .null :: v4 :: ls) (.int x :: st) hp = ab_X rom K cX8_seen 6 1 92 (v0 :: v1 :: v2 :: .null :: .int x :: ls) st hp := ax_istore dX8_seen_90 (ax_lt (v := v4) rfl) (ab_nl_c1 (j := 3) (v := .null) rfl ab_c1_null) rfl rfl
theorem dX8_seen_92 : decode cX8_seen 92 = .ok (.iinc 6 1, 3) := by decide +kernel
theorem sX8_seen_92i : ab_X rom K cX8_seen 6 1 92 (v0 :: v1 :: v2 :: v3 :: v4 :: .int y :: .int x :: ls) st hp = ab_X rom K cX8_seen 6 1 95 (v0 :: v1 :: v2 :: v3 :: v4 :: .int y :: .int (x + 1) :: ls) st hp := ax_iinc dX8_seen_92 rfl (ab_nl_c1 (j := 5) (v := .int y) rfl (ab_c1_int _)) (by decide) rfl rfl
theorem sX8_seen_92r : ab_X rom K cX8_seen 6 1 92 (v0 :: v1 :: v2 :: v3 :: v4 :: .ref a2 :: .int x :: ls) st hp = ab_X rom K cX8_seen 6 1 95 (v0 :: v1 :: v2 :: v3 :: v4 :: .ref a2 :: .int (x + 1) :: ls) st hp := ax_iinc dX8_seen_92 rfl (ab_nl_c1 (j := 5) (v := .ref a2) rfl (ab_c1_ref _)) (by decide) rfl rfl
theorem sX8_seen_92n : ab_X rom K cX8_seen 6 1 92 (v0 :: v1 :: v2 :: v3 :: v4 :: .null :: .int x :: ls) st hp = ab_X rom K cX8_seen 6 1 95 (v0 :: v1 :: v2 :: v3 :: v4 :: .null :: .int (x + 1) :: ls) st hp := ax_iinc dX8_seen_92 rfl (ab_nl_c1 (j := 5) (v := .null) rfl ab_c1_null) (by decide) rfl rfl
theorem dX8_seen_95 : decode cX8_seen 95 = .ok (.goto (-59), 3) := by decide +kernel
theorem sX8_seen_95 : ab_X rom K cX8_seen 6 1 95 ls st hp = ab_X rom K cX8_seen 6 1 36 ls st hp := ax_goto dX8_seen_95 (by decide)
theorem dX8_seen_98 : decode cX8_seen 98 = .ok (.iload_n 2, 1) := by decide +kernel
theorem sX8_seen_98 : ab_X rom K cX8_seen 6 1 98 (v0 :: v1 :: .int x :: ls) st hp = ab_X rom K cX8_seen 6 1 99 (v0 :: v1 :: .int x :: ls) (.int x :: st) hp := ax_iload_n dX8_seen_98 rfl rfl
theorem dX8_seen_99 : decode cX8_seen 99 = .ok (.ifCond .ne 8, 3) := by decide +kernel
theorem sX8_seen_99 : ab_X rom K cX8_seen 6 1 99 ls (.int x :: st) hp = if x = 0 then ab_X rom K cX8_seen 6 1 102 ls st hp else ab_X rom K cX8_seen 6 1 107 ls st hp := ax_if_ne dX8_seen_99 (by decide) rfl
theorem dX8_seen_102 : decode cX8_seen 102 = .ok (.iload 4, 2) := by decide +kernel
theorem sX8_seen_102 : ab_X rom K cX8_seen 6 1 102 (v0 :: v1 :: v2 :: v3 :: .int x :: ls) st hp = ab_X rom K cX8_seen 6 1 104 (v0 :: v1 :: v2 :: v3 :: .int x :: ls) (.int x :: st) hp := ax_iload dX8_seen_102 rfl rfl
theorem dX8_seen_104 : decode cX8_seen 104 = .ok (.goto 5, 3) := by decide +kernel
theorem sX8_seen_104 : ab_X rom K cX8_seen 6 1 104 ls st hp = ab_X rom K cX8_seen 6 1 109 ls st hp := ax_goto dX8_seen_104 (by decide)
theorem dX8_seen_107 : decode cX8_seen 107 = .ok (.iload 5, 2) := by decide +kernel
theorem sX8_seen_107 : ab_X rom K cX8_seen 6 1 107 (v0 :: v1 :: v2 :: v3 :: v4 :: .int x :: ls) st hp = ab_X rom K cX8_seen 6 1 109 (v0 :: v1 :: v2 :: v3 :: v4 :: .int x :: ls) (.int x :: st) hp := ax_iload dX8_seen_107 rfl rfl
theorem dX8_seen_109 : decode cX8_seen 109 = .ok (.ireturn, 1) := by decide +kernel
theorem sX8_seen_109 : ab_X rom K cX8_seen 6 1 109 ls [.int x] hp = some (some (.int x), hp) := ax_iret dX8_seen_109 rfl
theorem tX8_sets : ab_mT[114]? = some (yX8_sets, cX8_sets, 6, 1, 6) := by decide +kernel
theorem mX8_sets {d : Nat} {a0 : Nat} {x0 : Int32} {x1 : Int32} {x2 : Int32} : ab_M rom (d + 1) 114 [.ref a0, .int x0, .int x1, .int x2] hp = ab_X rom (ab_M rom d) cX8_sets 6 1 0 [.ref a0, .int x0, .int x1, .int x2, .null, .null] [] hp := ab_M_eq tX8_sets (Nat.le_of_ble_eq_true rfl)
theorem dX8_sets_0 : decode cX8_sets 0 = .ok (.aload_n 0, 1) := by decide +kernel
theorem sX8_sets_0 : ab_X rom K cX8_sets 6 1 0 (.ref a :: ls) st hp = ab_X rom K cX8_sets 6 1 1 (.ref a :: ls) (.ref a :: st) hp := ax_aload_n dX8_sets_0 rfl rfl
theorem dX8_sets_1 : decode cX8_sets 1 = .ok (.iload_n 1, 1) := by decide +kernel
theorem sX8_sets_1 : ab_X rom K cX8_sets 6 1 1 (v0 :: .int x :: ls) st hp = ab_X rom K cX8_sets 6 1 2 (v0 :: .int x :: ls) (.int x :: st) hp := ax_iload_n dX8_sets_1 rfl rfl
theorem dX8_sets_2 : decode cX8_sets 2 = .ok (.iload_n 2, 1) := by decide +kernel
theorem sX8_sets_2 : ab_X rom K cX8_sets 6 1 2 (v0 :: v1 :: .int x :: ls) st hp = ab_X rom K cX8_sets 6 1 3 (v0 :: v1 :: .int x :: ls) (.int x :: st) hp := ax_iload_n dX8_sets_2 rfl rfl
theorem dX8_sets_3 : decode cX8_sets 3 = .ok (.invokevirtual 148, 3) := by decide +kernel
theorem sX8_sets_3_0 : ab_X rom K cX8_sets 6 1 3 ls [w2, w1, .ref a] hp = if ab_iso hp a 6 = true then (K 96 (.ref a :: [w1, w2]) hp).bind (fun o => ab_X rom K cX8_sets 6 1 6 ls (o.1.toList ++ []) o.2) else none := ay_virtual (as := [w1, w2]) (st := []) dX8_sets_3 kc_6_148 rfl rfl (Nat.le_of_ble_eq_true rfl)
theorem sX8_sets_3_1 : ab_X rom K cX8_sets 6 1 3 ls [w2, w1, .ref a, v0] hp = if ab_iso hp a 6 = true then (K 96 (.ref a :: [w1, w2]) hp).bind (fun o => ab_X rom K cX8_sets 6 1 6 ls (o.1.toList ++ [v0]) o.2) else none := ay_virtual (as := [w1, w2]) (st := [v0]) dX8_sets_3 kc_6_148 rfl rfl (Nat.le_of_ble_eq_true rfl)
theorem sX8_sets_3_2 : ab_X rom K cX8_sets 6 1 3 ls [w2, w1, .ref a, v0, v1] hp = if ab_iso hp a 6 = true then (K 96 (.ref a :: [w1, w2]) hp).bind (fun o => ab_X rom K cX8_sets 6 1 6 ls (o.1.toList ++ [v0, v1]) o.2) else none := ay_virtual (as := [w1, w2]) (st := [v0, v1]) dX8_sets_3 kc_6_148 rfl rfl (Nat.le_of_ble_eq_true rfl)
theorem sX8_sets_3_3 : ab_X rom K cX8_sets 6 1 3 ls [w2, w1, .ref a, v0, v1, v2] hp = if ab_iso hp a 6 = true then (K 96 (.ref a :: [w1, w2]) hp).bind (fun o => ab_X rom K cX8_sets 6 1 6 ls (o.1.toList ++ [v0, v1, v2]) o.2) else none := ay_virtual (as := [w1, w2]) (st := [v0, v1, v2]) dX8_sets_3 kc_6_148 rfl rfl (Nat.le_of_ble_eq_true rfl)
theorem dX8_sets_6 : decode cX8_sets 6 = .ok (.ifCond .eq 14, 3) := by decide +kernel
theorem sX8_sets_6 : ab_X rom K cX8_sets 6 1 6 ls (.int x :: st) hp = if x = 0 then ab_X rom K cX8_sets 6 1 20 ls st hp else ab_X rom K cX8_sets 6 1 9 ls st hp := ax_if_eq dX8_sets_6 (by decide) rfl
theorem dX8_sets_9 : decode cX8_sets 9 = .ok (.iload_n 3, 1) := by decide +kernel
theorem sX8_sets_9 : ab_X rom K cX8_sets 6 1 9 (v0 :: v1 :: v2 :: .int x :: ls) st hp = ab_X rom K cX8_sets 6 1 10 (v0 :: v1 :: v2 :: .int x :: ls) (.int x :: st) hp := ax_iload_n dX8_sets_9 rfl rfl
theorem dX8_sets_10 : decode cX8_sets 10 = .ok (.iconst (-1), 1) := by decide +kernel
theorem sX8_sets_10 : ab_X rom K cX8_sets 6 1 10 ls st hp = ab_X rom K cX8_sets 6 1 11 ls (.int (-1) :: st) hp := ax_iconst dX8_sets_10 (by decide) rfl
theorem dX8_sets_11 : decode cX8_sets 11 = .ok (.if_icmp .lt 9, 3) := by decide +kernel
theorem sX8_sets_11 : ab_X rom K cX8_sets 6 1 11 ls (.int y :: .int x :: st) hp = if x < y then ab_X rom K cX8_sets 6 1 20 ls st hp else ab_X rom K cX8_sets 6 1 14 ls st hp := ax_icmp_lt dX8_sets_11 (by decide) rfl
theorem dX8_sets_14 : decode cX8_sets 14 = .ok (.iload_n 3, 1) := by decide +kernel
theorem sX8_sets_14 : ab_X rom K cX8_sets 6 1 14 (v0 :: v1 :: v2 :: .int x :: ls) st hp = ab_X rom K cX8_sets 6 1 15 (v0 :: v1 :: v2 :: .int x :: ls) (.int x :: st) hp := ax_iload_n dX8_sets_14 rfl rfl
theorem dX8_sets_15 : decode cX8_sets 15 = .ok (.bipush 99, 2) := by decide +kernel
theorem sX8_sets_15 : ab_X rom K cX8_sets 6 1 15 ls st hp = ab_X rom K cX8_sets 6 1 17 ls (.int 99 :: st) hp := ax_bipush dX8_sets_15 (by decide) rfl
theorem dX8_sets_17 : decode cX8_sets 17 = .ok (.if_icmp .le 6, 3) := by decide +kernel
theorem sX8_sets_17 : ab_X rom K cX8_sets 6 1 17 ls (.int y :: .int x :: st) hp = if y < x then ab_X rom K cX8_sets 6 1 20 ls st hp else ab_X rom K cX8_sets 6 1 23 ls st hp := ax_icmp_le dX8_sets_17 (by decide) rfl
theorem dX8_sets_20 : decode cX8_sets 20 = .ok (.bipush (-2), 2) := by decide +kernel
theorem sX8_sets_20 : ab_X rom K cX8_sets 6 1 20 ls st hp = ab_X rom K cX8_sets 6 1 22 ls (.int (-2) :: st) hp := ax_bipush dX8_sets_20 (by decide) rfl
theorem dX8_sets_22 : decode cX8_sets 22 = .ok (.ireturn, 1) := by decide +kernel
theorem sX8_sets_22 : ab_X rom K cX8_sets 6 1 22 ls [.int x] hp = some (some (.int x), hp) := ax_iret dX8_sets_22 rfl
theorem dX8_sets_23 : decode cX8_sets 23 = .ok (.aload_n 0, 1) := by decide +kernel
theorem sX8_sets_23 : ab_X rom K cX8_sets 6 1 23 (.ref a :: ls) st hp = ab_X rom K cX8_sets 6 1 24 (.ref a :: ls) (.ref a :: st) hp := ax_aload_n dX8_sets_23 rfl rfl
theorem dX8_sets_24 : decode cX8_sets 24 = .ok (.getfield 21, 3) := by decide +kernel
theorem sX8_sets_24 : ab_X rom K cX8_sets 6 1 24 ls (.ref a :: st) hp = (ab_fld hp a 6 3).bind (fun v => ab_X rom K cX8_sets 6 1 27 ls (v :: st) hp) := ax_getfield dX8_sets_24 kf_6_21 rfl
theorem dX8_sets_27 : decode cX8_sets 27 = .ok (.iload_n 1, 1) := by decide +kernel
theorem sX8_sets_27 : ab_X rom K cX8_sets 6 1 27 (v0 :: .int x :: ls) st hp = ab_X rom K cX8_sets 6 1 28 (v0 :: .int x :: ls) (.int x :: st) hp := ax_iload_n dX8_sets_27 rfl rfl
theorem dX8_sets_28 : decode cX8_sets 28 = .ok (.aaload, 1) := by decide +kernel
theorem sX8_sets_28 : ab_X rom K cX8_sets 6 1 28 ls (.int x :: .ref a :: st) hp = (ab_rrd hp a x).bind (fun v => ab_X rom K cX8_sets 6 1 29 ls (.ref v :: st) hp) := ax_aaload dX8_sets_28 rfl
theorem dX8_sets_29 : decode cX8_sets 29 = .ok (.astore 4, 2) := by decide +kernel
theorem sX8_sets_29i : ab_X rom K cX8_sets 6 1 29 (v0 :: v1 :: v2 :: .int y :: v4 :: ls) (.ref a :: st) hp = ab_X rom K cX8_sets 6 1 31 (v0 :: v1 :: v2 :: .int y :: .ref a :: ls) st hp := ax_astore dX8_sets_29 (ax_lt (v := v4) rfl) (ab_nl_c1 (j := 3) (v := .int y) rfl (ab_c1_int _)) rfl rfl
theorem sX8_sets_29r : ab_X rom K cX8_sets 6 1 29 (v0 :: v1 :: v2 :: .ref a2 :: v4 :: ls) (.ref a :: st) hp = ab_X rom K cX8_sets 6 1 31 (v0 :: v1 :: v2 :: .ref a2 :: .ref a :: ls) st hp := ax_astore dX8_sets_29 (ax_lt (v := v4) rfl) (ab_nl_c1 (j := 3) (v := .ref a2) rfl (ab_c1_ref _)) rfl rfl
theorem sX8_sets_29n : ab_X rom K cX8_sets 6 1 29 (v0 :: v1 :: v2 :: .null :: v4 :: ls) (.ref a :: st) hp = ab_X rom K cX8_sets 6 1 31 (v0 :: v1 :: v2 :: .null :: .ref a :: ls) st hp := ax_astore dX8_sets_29 (ax_lt (v := v4) rfl) (ab_nl_c1 (j := 3) (v := .null) rfl ab_c1_null) rfl rfl
theorem dX8_sets_31 : decode cX8_sets 31 = .ok (.aload 4, 2) := by decide +kernel
theorem sX8_sets_31 : ab_X rom K cX8_sets 6 1 31 (v0 :: v1 :: v2 :: v3 :: .ref a :: ls) st hp = ab_X rom K cX8_sets 6 1 33 (v0 :: v1 :: v2 :: v3 :: .ref a :: ls) (.ref a :: st) hp := ax_aload dX8_sets_31 rfl rfl
theorem dX8_sets_33 : decode cX8_sets 33 = .ok (.getfield 152, 3) := by decide +kernel
theorem sX8_sets_33 : ab_X rom K cX8_sets 6 1 33 ls (.ref a :: st) hp = (ab_fld hp a 1 4).bind (fun v => ab_X rom K cX8_sets 6 1 36 ls (v :: st) hp) := ax_getfield dX8_sets_33 kf_6_152 rfl
theorem dX8_sets_36 : decode cX8_sets 36 = .ok (.iload_n 2, 1) := by decide +kernel
theorem sX8_sets_36 : ab_X rom K cX8_sets 6 1 36 (v0 :: v1 :: .int x :: ls) st hp = ab_X rom K cX8_sets 6 1 37 (v0 :: v1 :: .int x :: ls) (.int x :: st) hp := ax_iload_n dX8_sets_36 rfl rfl
theorem dX8_sets_37 : decode cX8_sets 37 = .ok (.iaload, 1) := by decide +kernel
theorem sX8_sets_37 : ab_X rom K cX8_sets 6 1 37 ls (.int x :: .ref a :: st) hp = (ab_ard rom 0 hp a x).bind (fun v => ab_X rom K cX8_sets 6 1 38 ls (.int v :: st) hp) := ax_iaload dX8_sets_37 rfl
theorem dX8_sets_38 : decode cX8_sets 38 = .ok (.istore 5, 2) := by decide +kernel
theorem sX8_sets_38i : ab_X rom K cX8_sets 6 1 38 (v0 :: v1 :: v2 :: v3 :: .int y :: v5 :: ls) (.int x :: st) hp = ab_X rom K cX8_sets 6 1 40 (v0 :: v1 :: v2 :: v3 :: .int y :: .int x :: ls) st hp := ax_istore dX8_sets_38 (ax_lt (v := v5) rfl) (ab_nl_c1 (j := 4) (v := .int y) rfl (ab_c1_int _)) rfl rfl
theorem sX8_sets_38r : ab_X rom K cX8_sets 6 1 38 (v0 :: v1 :: v2 :: v3 :: .ref a2 :: v5 :: ls) (.int x :: st) hp = ab_X rom K cX8_sets 6 1 40 (v0 :: v1 :: v2 :: v3 :: .ref a2 :: .int x :: ls) st hp := ax_istore dX8_sets_38 (ax_lt (v := v5) rfl) (ab_nl_c1 (j := 4) (v := .ref a2) rfl (ab_c1_ref _)) rfl rfl
theorem sX8_sets_38n : ab_X rom K cX8_sets 6 1 38 (v0 :: v1 :: v2 :: v3 :: .null :: v5 :: ls) (.int x :: st) hp = ab_X rom K cX8_sets 6 1 40 (v0 :: v1 :: v2 :: v3 :: .null :: .int x :: ls) st hp := ax_istore dX8_sets_38 (ax_lt (v := v5) rfl) (ab_nl_c1 (j := 4) (v := .null) rfl ab_c1_null) rfl rfl
theorem dX8_sets_40 : decode cX8_sets 40 = .ok (.iload 5, 2) := by decide +kernel
theorem sX8_sets_40 : ab_X rom K cX8_sets 6 1 40 (v0 :: v1 :: v2 :: v3 :: v4 :: .int x :: ls) st hp = ab_X rom K cX8_sets 6 1 42 (v0 :: v1 :: v2 :: v3 :: v4 :: .int x :: ls) (.int x :: st) hp := ax_iload dX8_sets_40 rfl rfl
theorem dX8_sets_42 : decode cX8_sets 42 = .ok (.iload_n 3, 1) := by decide +kernel
theorem sX8_sets_42 : ab_X rom K cX8_sets 6 1 42 (v0 :: v1 :: v2 :: .int x :: ls) st hp = ab_X rom K cX8_sets 6 1 43 (v0 :: v1 :: v2 :: .int x :: ls) (.int x :: st) hp := ax_iload_n dX8_sets_42 rfl rfl
theorem dX8_sets_43 : decode cX8_sets 43 = .ok (.if_icmp .eq 21, 3) := by decide +kernel
theorem sX8_sets_43 : ab_X rom K cX8_sets 6 1 43 ls (.int y :: .int x :: st) hp = if x = y then ab_X rom K cX8_sets 6 1 64 ls st hp else ab_X rom K cX8_sets 6 1 46 ls st hp := ax_icmp_eq dX8_sets_43 (by decide) rfl
theorem dX8_sets_46 : decode cX8_sets 46 = .ok (.aload_n 0, 1) := by decide +kernel
theorem sX8_sets_46 : ab_X rom K cX8_sets 6 1 46 (.ref a :: ls) st hp = ab_X rom K cX8_sets 6 1 47 (.ref a :: ls) (.ref a :: st) hp := ax_aload_n dX8_sets_46 rfl rfl
theorem dX8_sets_47 : decode cX8_sets 47 = .ok (.getfield 42, 3) := by decide +kernel
theorem sX8_sets_47 : ab_X rom K cX8_sets 6 1 47 ls (.ref a :: st) hp = (ab_fld hp a 6 5).bind (fun v => ab_X rom K cX8_sets 6 1 50 ls (v :: st) hp) := ax_getfield dX8_sets_47 kf_6_42 rfl
theorem dX8_sets_50 : decode cX8_sets 50 = .ok (.iload_n 1, 1) := by decide +kernel
theorem sX8_sets_50 : ab_X rom K cX8_sets 6 1 50 (v0 :: .int x :: ls) st hp = ab_X rom K cX8_sets 6 1 51 (v0 :: .int x :: ls) (.int x :: st) hp := ax_iload_n dX8_sets_50 rfl rfl
theorem dX8_sets_51 : decode cX8_sets 51 = .ok (.aload 4, 2) := by decide +kernel
theorem sX8_sets_51 : ab_X rom K cX8_sets 6 1 51 (v0 :: v1 :: v2 :: v3 :: .ref a :: ls) st hp = ab_X rom K cX8_sets 6 1 53 (v0 :: v1 :: v2 :: v3 :: .ref a :: ls) (.ref a :: st) hp := ax_aload dX8_sets_51 rfl rfl
theorem dX8_sets_53 : decode cX8_sets 53 = .ok (.invokevirtual 137, 3) := by decide +kernel
theorem sX8_sets_53_0 : ab_X rom K cX8_sets 6 1 53 ls [w2, w1, .ref a] hp = if ab_iso hp a 2 = true then (K 37 (.ref a :: [w1, w2]) hp).bind (fun o => ab_X rom K cX8_sets 6 1 56 ls (o.1.toList ++ []) o.2) else none := ay_virtual (as := [w1, w2]) (st := []) dX8_sets_53 kc_6_137 rfl rfl (Nat.le_of_ble_eq_true rfl)
theorem sX8_sets_53_1 : ab_X rom K cX8_sets 6 1 53 ls [w2, w1, .ref a, v0] hp = if ab_iso hp a 2 = true then (K 37 (.ref a :: [w1, w2]) hp).bind (fun o => ab_X rom K cX8_sets 6 1 56 ls (o.1.toList ++ [v0]) o.2) else none := ay_virtual (as := [w1, w2]) (st := [v0]) dX8_sets_53 kc_6_137 rfl rfl (Nat.le_of_ble_eq_true rfl)
theorem sX8_sets_53_2 : ab_X rom K cX8_sets 6 1 53 ls [w2, w1, .ref a, v0, v1] hp = if ab_iso hp a 2 = true then (K 37 (.ref a :: [w1, w2]) hp).bind (fun o => ab_X rom K cX8_sets 6 1 56 ls (o.1.toList ++ [v0, v1]) o.2) else none := ay_virtual (as := [w1, w2]) (st := [v0, v1]) dX8_sets_53 kc_6_137 rfl rfl (Nat.le_of_ble_eq_true rfl)
theorem sX8_sets_53_3 : ab_X rom K cX8_sets 6 1 53 ls [w2, w1, .ref a, v0, v1, v2] hp = if ab_iso hp a 2 = true then (K 37 (.ref a :: [w1, w2]) hp).bind (fun o => ab_X rom K cX8_sets 6 1 56 ls (o.1.toList ++ [v0, v1, v2]) o.2) else none := ay_virtual (as := [w1, w2]) (st := [v0, v1, v2]) dX8_sets_53 kc_6_137 rfl rfl (Nat.le_of_ble_eq_true rfl)
theorem dX8_sets_56 : decode cX8_sets 56 = .ok (.aload 4, 2) := by decide +kernel
theorem sX8_sets_56 : ab_X rom K cX8_sets 6 1 56 (v0 :: v1 :: v2 :: v3 :: .ref a :: ls) st hp = ab_X rom K cX8_sets 6 1 58 (v0 :: v1 :: v2 :: v3 :: .ref a :: ls) (.ref a :: st) hp := ax_aload dX8_sets_56 rfl rfl
theorem dX8_sets_58 : decode cX8_sets 58 = .ok (.getfield 152, 3) := by decide +kernel
theorem sX8_sets_58 : ab_X rom K cX8_sets 6 1 58 ls (.ref a :: st) hp = (ab_fld hp a 1 4).bind (fun v => ab_X rom K cX8_sets 6 1 61 ls (v :: st) hp) := ax_getfield dX8_sets_58 kf_6_152 rfl
theorem dX8_sets_61 : decode cX8_sets 61 = .ok (.iload_n 2, 1) := by decide +kernel
theorem sX8_sets_61 : ab_X rom K cX8_sets 6 1 61 (v0 :: v1 :: .int x :: ls) st hp = ab_X rom K cX8_sets 6 1 62 (v0 :: v1 :: .int x :: ls) (.int x :: st) hp := ax_iload_n dX8_sets_61 rfl rfl
theorem dX8_sets_62 : decode cX8_sets 62 = .ok (.iload_n 3, 1) := by decide +kernel
theorem sX8_sets_62 : ab_X rom K cX8_sets 6 1 62 (v0 :: v1 :: v2 :: .int x :: ls) st hp = ab_X rom K cX8_sets 6 1 63 (v0 :: v1 :: v2 :: .int x :: ls) (.int x :: st) hp := ax_iload_n dX8_sets_62 rfl rfl
theorem dX8_sets_63 : decode cX8_sets 63 = .ok (.iastore, 1) := by decide +kernel
theorem sX8_sets_63 : ab_X rom K cX8_sets 6 1 63 ls (.int y :: .int x :: .ref a :: st) hp = (ab_awr 0 hp a x y).bind (fun hp' => ab_X rom K cX8_sets 6 1 64 ls st hp') := ax_iastore dX8_sets_63 rfl
theorem dX8_sets_64 : decode cX8_sets 64 = .ok (.iload 5, 2) := by decide +kernel
theorem sX8_sets_64 : ab_X rom K cX8_sets 6 1 64 (v0 :: v1 :: v2 :: v3 :: v4 :: .int x :: ls) st hp = ab_X rom K cX8_sets 6 1 66 (v0 :: v1 :: v2 :: v3 :: v4 :: .int x :: ls) (.int x :: st) hp := ax_iload dX8_sets_64 rfl rfl
theorem dX8_sets_66 : decode cX8_sets 66 = .ok (.ireturn, 1) := by decide +kernel
theorem sX8_sets_66 : ab_X rom K cX8_sets 6 1 66 ls [.int x] hp = some (some (.int x), hp) := ax_iret dX8_sets_66 rfl
theorem tX8_span : ab_mT[115]? = some (yX8_span, cX8_span, 4, 1, 6) := by decide +kernel
theorem mX8_span {d : Nat} {a0 : Nat} {x0 : Int32} : ab_M rom (d + 1) 115 [.ref a0, .int x0] hp = ab_X rom (ab_M rom d) cX8_span 6 1 0 [.ref a0, .int x0, .null, .null] [] hp := ab_M_eq tX8_span (Nat.le_of_ble_eq_true rfl)
theorem dX8_span_0 : decode cX8_span 0 = .ok (.aload_n 0, 1) := by decide +kernel
theorem sX8_span_0 : ab_X rom K cX8_span 6 1 0 (.ref a :: ls) st hp = ab_X rom K cX8_span 6 1 1 (.ref a :: ls) (.ref a :: st) hp := ax_aload_n dX8_span_0 rfl rfl
theorem dX8_span_1 : decode cX8_span 1 = .ok (.iload_n 1, 1) := by decide +kernel
theorem sX8_span_1 : ab_X rom K cX8_span 6 1 1 (v0 :: .int x :: ls) st hp = ab_X rom K cX8_span 6 1 2 (v0 :: .int x :: ls) (.int x :: st) hp := ax_iload_n dX8_span_1 rfl rfl
theorem dX8_span_2 : decode cX8_span 2 = .ok (.invokevirtual 99, 3) := by decide +kernel
theorem sX8_span_2_0 : ab_X rom K cX8_span 6 1 2 ls [w1, .ref a] hp = if ab_iso hp a 6 = true then (K 95 (.ref a :: [w1]) hp).bind (fun o => ab_X rom K cX8_span 6 1 5 ls (o.1.toList ++ []) o.2) else none := ay_virtual (as := [w1]) (st := []) dX8_span_2 kc_6_99 rfl rfl (Nat.le_of_ble_eq_true rfl)
theorem sX8_span_2_1 : ab_X rom K cX8_span 6 1 2 ls [w1, .ref a, v0] hp = if ab_iso hp a 6 = true then (K 95 (.ref a :: [w1]) hp).bind (fun o => ab_X rom K cX8_span 6 1 5 ls (o.1.toList ++ [v0]) o.2) else none := ay_virtual (as := [w1]) (st := [v0]) dX8_span_2 kc_6_99 rfl rfl (Nat.le_of_ble_eq_true rfl)
theorem sX8_span_2_2 : ab_X rom K cX8_span 6 1 2 ls [w1, .ref a, v0, v1] hp = if ab_iso hp a 6 = true then (K 95 (.ref a :: [w1]) hp).bind (fun o => ab_X rom K cX8_span 6 1 5 ls (o.1.toList ++ [v0, v1]) o.2) else none := ay_virtual (as := [w1]) (st := [v0, v1]) dX8_span_2 kc_6_99 rfl rfl (Nat.le_of_ble_eq_true rfl)
theorem sX8_span_2_3 : ab_X rom K cX8_span 6 1 2 ls [w1, .ref a, v0, v1, v2] hp = if ab_iso hp a 6 = true then (K 95 (.ref a :: [w1]) hp).bind (fun o => ab_X rom K cX8_span 6 1 5 ls (o.1.toList ++ [v0, v1, v2]) o.2) else none := ay_virtual (as := [w1]) (st := [v0, v1, v2]) dX8_span_2 kc_6_99 rfl rfl (Nat.le_of_ble_eq_true rfl)
theorem dX8_span_5 : decode cX8_span 5 = .ok (.ifCond .ne 6, 3) := by decide +kernel
theorem sX8_span_5 : ab_X rom K cX8_span 6 1 5 ls (.int x :: st) hp = if x = 0 then ab_X rom K cX8_span 6 1 8 ls st hp else ab_X rom K cX8_span 6 1 11 ls st hp := ax_if_ne dX8_span_5 (by decide) rfl
theorem dX8_span_8 : decode cX8_span 8 = .ok (.bipush (-2), 2) := by decide +kernel
theorem sX8_span_8 : ab_X rom K cX8_span 6 1 8 ls st hp = ab_X rom K cX8_span 6 1 10 ls (.int (-2) :: st) hp := ax_bipush dX8_span_8 (by decide) rfl
theorem dX8_span_10 : decode cX8_span 10 = .ok (.ireturn, 1) := by decide +kernel
theorem sX8_span_10 : ab_X rom K cX8_span 6 1 10 ls [.int x] hp = some (some (.int x), hp) := ax_iret dX8_span_10 rfl
theorem dX8_span_11 : decode cX8_span 11 = .ok (.aload_n 0, 1) := by decide +kernel
theorem sX8_span_11 : ab_X rom K cX8_span 6 1 11 (.ref a :: ls) st hp = ab_X rom K cX8_span 6 1 12 (.ref a :: ls) (.ref a :: st) hp := ax_aload_n dX8_span_11 rfl rfl
theorem dX8_span_12 : decode cX8_span 12 = .ok (.getfield 26, 3) := by decide +kernel
theorem sX8_span_12 : ab_X rom K cX8_span 6 1 12 ls (.ref a :: st) hp = (ab_fld hp a 6 4).bind (fun v => ab_X rom K cX8_span 6 1 15 ls (v :: st) hp) := ax_getfield dX8_span_12 kf_6_26 rfl
theorem dX8_span_15 : decode cX8_span 15 = .ok (.aload_n 0, 1) := by decide +kernel
theorem sX8_span_15 : ab_X rom K cX8_span 6 1 15 (.ref a :: ls) st hp = ab_X rom K cX8_span 6 1 16 (.ref a :: ls) (.ref a :: st) hp := ax_aload_n dX8_span_15 rfl rfl
theorem dX8_span_16 : decode cX8_span 16 = .ok (.getfield 21, 3) := by decide +kernel
theorem sX8_span_16 : ab_X rom K cX8_span 6 1 16 ls (.ref a :: st) hp = (ab_fld hp a 6 3).bind (fun v => ab_X rom K cX8_span 6 1 19 ls (v :: st) hp) := ax_getfield dX8_span_16 kf_6_21 rfl
theorem dX8_span_19 : decode cX8_span 19 = .ok (.iload_n 1, 1) := by decide +kernel
theorem sX8_span_19 : ab_X rom K cX8_span 6 1 19 (v0 :: .int x :: ls) st hp = ab_X rom K cX8_span 6 1 20 (v0 :: .int x :: ls) (.int x :: st) hp := ax_iload_n dX8_span_19 rfl rfl
theorem dX8_span_20 : decode cX8_span 20 = .ok (.aaload, 1) := by decide +kernel
theorem sX8_span_20 : ab_X rom K cX8_span 6 1 20 ls (.int x :: .ref a :: st) hp = (ab_rrd hp a x).bind (fun v => ab_X rom K cX8_span 6 1 21 ls (.ref v :: st) hp) := ax_aaload dX8_span_20 rfl
theorem dX8_span_21 : decode cX8_span 21 = .ok (.invokevirtual 215, 3) := by decide +kernel
theorem sX8_span_21_0 : ab_X rom K cX8_span 6 1 21 ls [w1, .ref a] hp = if ab_iso hp a 1 = true then (K 17 (.ref a :: [w1]) hp).bind (fun o => ab_X rom K cX8_span 6 1 24 ls (o.1.toList ++ []) o.2) else none := ay_virtual (as := [w1]) (st := []) dX8_span_21 kc_6_215 rfl rfl (Nat.le_of_ble_eq_true rfl)
theorem sX8_span_21_1 : ab_X rom K cX8_span 6 1 21 ls [w1, .ref a, v0] hp = if ab_iso hp a 1 = true then (K 17 (.ref a :: [w1]) hp).bind (fun o => ab_X rom K cX8_span 6 1 24 ls (o.1.toList ++ [v0]) o.2) else none := ay_virtual (as := [w1]) (st := [v0]) dX8_span_21 kc_6_215 rfl rfl (Nat.le_of_ble_eq_true rfl)
theorem sX8_span_21_2 : ab_X rom K cX8_span 6 1 21 ls [w1, .ref a, v0, v1] hp = if ab_iso hp a 1 = true then (K 17 (.ref a :: [w1]) hp).bind (fun o => ab_X rom K cX8_span 6 1 24 ls (o.1.toList ++ [v0, v1]) o.2) else none := ay_virtual (as := [w1]) (st := [v0, v1]) dX8_span_21 kc_6_215 rfl rfl (Nat.le_of_ble_eq_true rfl)
theorem sX8_span_21_3 : ab_X rom K cX8_span 6 1 21 ls [w1, .ref a, v0, v1, v2] hp = if ab_iso hp a 1 = true then (K 17 (.ref a :: [w1]) hp).bind (fun o => ab_X rom K cX8_span 6 1 24 ls (o.1.toList ++ [v0, v1, v2]) o.2) else none := ay_virtual (as := [w1]) (st := [v0, v1, v2]) dX8_span_21 kc_6_215 rfl rfl (Nat.le_of_ble_eq_true rfl)
theorem dX8_span_24 : decode cX8_span 24 = .ok (.aload_n 0, 1) := by decide +kernel
theorem sX8_span_24 : ab_X rom K cX8_span 6 1 24 (.ref a :: ls) st hp = ab_X rom K cX8_span 6 1 25 (.ref a :: ls) (.ref a :: st) hp := ax_aload_n dX8_span_24 rfl rfl
theorem dX8_span_25 : decode cX8_span 25 = .ok (.getfield 26, 3) := by decide +kernel
theorem sX8_span_25 : ab_X rom K cX8_span 6 1 25 ls (.ref a :: st) hp = (ab_fld hp a 6 4).bind (fun v => ab_X rom K cX8_span 6 1 28 ls (v :: st) hp) := ax_getfield dX8_span_25 kf_6_26 rfl
theorem dX8_span_28 : decode cX8_span 28 = .ok (.invokevirtual 218, 3) := by decide +kernel
theorem sX8_span_28_0 : ab_X rom K cX8_span 6 1 28 ls [.ref a] hp = if ab_iso hp a 1 = true then (K 16 (.ref a :: []) hp).bind (fun o => ab_X rom K cX8_span 6 1 31 ls (o.1.toList ++ []) o.2) else none := ay_virtual (as := []) (st := []) dX8_span_28 kc_6_218 rfl rfl (Nat.le_of_ble_eq_true rfl)
theorem sX8_span_28_1 : ab_X rom K cX8_span 6 1 28 ls [.ref a, v0] hp = if ab_iso hp a 1 = true then (K 16 (.ref a :: []) hp).bind (fun o => ab_X rom K cX8_span 6 1 31 ls (o.1.toList ++ [v0]) o.2) else none := ay_virtual (as := []) (st := [v0]) dX8_span_28 kc_6_218 rfl rfl (Nat.le_of_ble_eq_true rfl)
theorem sX8_span_28_2 : ab_X rom K cX8_span 6 1 28 ls [.ref a, v0, v1] hp = if ab_iso hp a 1 = true then (K 16 (.ref a :: []) hp).bind (fun o => ab_X rom K cX8_span 6 1 31 ls (o.1.toList ++ [v0, v1]) o.2) else none := ay_virtual (as := []) (st := [v0, v1]) dX8_span_28 kc_6_218 rfl rfl (Nat.le_of_ble_eq_true rfl)
theorem sX8_span_28_3 : ab_X rom K cX8_span 6 1 28 ls [.ref a, v0, v1, v2] hp = if ab_iso hp a 1 = true then (K 16 (.ref a :: []) hp).bind (fun o => ab_X rom K cX8_span 6 1 31 ls (o.1.toList ++ [v0, v1, v2]) o.2) else none := ay_virtual (as := []) (st := [v0, v1, v2]) dX8_span_28 kc_6_218 rfl rfl (Nat.le_of_ble_eq_true rfl)
theorem dX8_span_31 : decode cX8_span 31 = .ok (.aload_n 0, 1) := by decide +kernel
theorem sX8_span_31 : ab_X rom K cX8_span 6 1 31 (.ref a :: ls) st hp = ab_X rom K cX8_span 6 1 32 (.ref a :: ls) (.ref a :: st) hp := ax_aload_n dX8_span_31 rfl rfl
theorem dX8_span_32 : decode cX8_span 32 = .ok (.getfield 26, 3) := by decide +kernel
theorem sX8_span_32 : ab_X rom K cX8_span 6 1 32 ls (.ref a :: st) hp = (ab_fld hp a 6 4).bind (fun v => ab_X rom K cX8_span 6 1 35 ls (v :: st) hp) := ax_getfield dX8_span_32 kf_6_26 rfl
theorem dX8_span_35 : decode cX8_span 35 = .ok (.getfield 89, 3) := by decide +kernel
theorem sX8_span_35 : ab_X rom K cX8_span 6 1 35 ls (.ref a :: st) hp = (ab_fld hp a 1 1).bind (fun v => ab_X rom K cX8_span 6 1 38 ls (v :: st) hp) := ax_getfield dX8_span_35 kf_6_89 rfl
theorem dX8_span_38 : decode cX8_span 38 = .ok (.aload_n 0, 1) := by decide +kernel
theorem sX8_span_38 : ab_X rom K cX8_span 6 1 38 (.ref a :: ls) st hp = ab_X rom K cX8_span 6 1 39 (.ref a :: ls) (.ref a :: st) hp := ax_aload_n dX8_span_38 rfl rfl
theorem dX8_span_39 : decode cX8_span 39 = .ok (.getfield 26, 3) := by decide +kernel
theorem sX8_span_39 : ab_X rom K cX8_span 6 1 39 ls (.ref a :: st) hp = (ab_fld hp a 6 4).bind (fun v => ab_X rom K cX8_span 6 1 42 ls (v :: st) hp) := ax_getfield dX8_span_39 kf_6_26 rfl
theorem dX8_span_42 : decode cX8_span 42 = .ok (.getfield 102, 3) := by decide +kernel
theorem sX8_span_42 : ab_X rom K cX8_span 6 1 42 ls (.ref a :: st) hp = (ab_fld hp a 1 0).bind (fun v => ab_X rom K cX8_span 6 1 45 ls (v :: st) hp) := ax_getfield dX8_span_42 kf_6_102 rfl
theorem dX8_span_45 : decode cX8_span 45 = .ok (.iconst 1, 1) := by decide +kernel
theorem sX8_span_45 : ab_X rom K cX8_span 6 1 45 ls st hp = ab_X rom K cX8_span 6 1 46 ls (.int 1 :: st) hp := ax_iconst dX8_span_45 (by decide) rfl
theorem dX8_span_46 : decode cX8_span 46 = .ok (.isub, 1) := by decide +kernel
theorem sX8_span_46 : ab_X rom K cX8_span 6 1 46 ls (.int y :: .int x :: st) hp = ab_X rom K cX8_span 6 1 47 ls (.int (x - y) :: st) hp := ax_isub dX8_span_46 rfl
theorem dX8_span_47 : decode cX8_span 47 = .ok (.invokestatic 238, 3) := by decide +kernel
theorem sX8_span_47_0 : ab_X rom K cX8_span 6 1 47 ls [.int y, .int x] hp = ab_X rom K cX8_span 6 1 50 ls [.int (ab_max x y)] hp := ax_max dX8_span_47 kc_6_238 rfl (Nat.le_of_ble_eq_true rfl)
theorem sX8_span_47_1 : ab_X rom K cX8_span 6 1 47 ls [.int y, .int x, v0] hp = ab_X rom K cX8_span 6 1 50 ls [.int (ab_max x y), v0] hp := ax_max dX8_span_47 kc_6_238 rfl (Nat.le_of_ble_eq_true rfl)
theorem sX8_span_47_2 : ab_X rom K cX8_span 6 1 47 ls [.int y, .int x, v0, v1] hp = ab_X rom K cX8_span 6 1 50 ls [.int (ab_max x y), v0, v1] hp := ax_max dX8_span_47 kc_6_238 rfl (Nat.le_of_ble_eq_true rfl)
theorem sX8_span_47_3 : ab_X rom K cX8_span 6 1 47 ls [.int y, .int x, v0, v1, v2] hp = ab_X rom K cX8_span 6 1 50 ls [.int (ab_max x y), v0, v1, v2] hp := ax_max dX8_span_47 kc_6_238 rfl (Nat.le_of_ble_eq_true rfl)
theorem dX8_span_50 : decode cX8_span 50 = .ok (.istore_n 2, 1) := by decide +kernel
theorem sX8_span_50i : ab_X rom K cX8_span 6 1 50 (v0 :: .int y :: v2 :: ls) (.int x :: st) hp = ab_X rom K cX8_span 6 1 51 (v0 :: .int y :: .int x :: ls) st hp := ax_istore_n dX8_span_50 (ax_lt (v := v2) rfl) (ab_nl_c1 (j := 1) (v := .int y) rfl (ab_c1_int _)) rfl rfl
theorem sX8_span_50r : ab_X rom K cX8_span 6 1 50 (v0 :: .ref a2 :: v2 :: ls) (.int x :: st) hp = ab_X rom K cX8_span 6 1 51 (v0 :: .ref a2 :: .int x :: ls) st hp := ax_istore_n dX8_span_50 (ax_lt (v := v2) rfl) (ab_nl_c1 (j := 1) (v := .ref a2) rfl (ab_c1_ref _)) rfl rfl
theorem sX8_span_50n : ab_X rom K cX8_span 6 1 50 (v0 :: .null :: v2 :: ls) (.int x :: st) hp = ab_X rom K cX8_span 6 1 51 (v0 :: .null :: .int x :: ls) st hp := ax_istore_n dX8_span_50 (ax_lt (v := v2) rfl) (ab_nl_c1 (j := 1) (v := .null) rfl ab_c1_null) rfl rfl
theorem dX8_span_51 : decode cX8_span 51 = .ok (.iload_n 2, 1) := by decide +kernel
theorem sX8_span_51 : ab_X rom K cX8_span 6 1 51 (v0 :: v1 :: .int x :: ls) st hp = ab_X rom K cX8_span 6 1 52 (v0 :: v1 :: .int x :: ls) (.int x :: st) hp := ax_iload_n dX8_span_51 rfl rfl
theorem dX8_span_52 : decode cX8_span 52 = .ok (.istore_n 3, 1) := by decide +kernel
theorem sX8_span_52i : ab_X rom K cX8_span 6 1 52 (v0 :: v1 :: .int y :: v3 :: ls) (.int x :: st) hp = ab_X rom K cX8_span 6 1 53 (v0 :: v1 :: .int y :: .int x :: ls) st hp := ax_istore_n dX8_span_52 (ax_lt (v := v3) rfl) (ab_nl_c1 (j := 2) (v := .int y) rfl (ab_c1_int _)) rfl rfl
theorem sX8_span_52r : ab_X rom K cX8_span 6 1 52 (v0 :: v1 :: .ref a2 :: v3 :: ls) (.int x :: st) hp = ab_X rom K cX8_span 6 1 53 (v0 :: v1 :: .ref a2 :: .int x :: ls) st hp := ax_istore_n dX8_span_52 (ax_lt (v := v3) rfl) (ab_nl_c1 (j := 2) (v := .ref a2) rfl (ab_c1_ref _)) rfl rfl
theorem sX8_span_52n : ab_X rom K cX8_span 6 1 52 (v0 :: v1 :: .null :: v3 :: ls) (.int x :: st) hp = ab_X rom K cX8_span 6 1 53 (v0 :: v1 :: .null :: .int x :: ls) st hp := ax_istore_n dX8_span_52 (ax_lt (v := v3) rfl) (ab_nl_c1 (j := 2) (v := .null) rfl ab_c1_null) rfl rfl
theorem dX8_span_53 : decode cX8_span 53 = .ok (.iload_n 3, 1) := by decide +kernel
theorem sX8_span_53 : ab_X rom K cX8_span 6 1 53 (v0 :: v1 :: v2 :: .int x :: ls) st hp = ab_X rom K cX8_span 6 1 54 (v0 :: v1 :: v2 :: .int x :: ls) (.int x :: st) hp := ax_iload_n dX8_span_53 rfl rfl
theorem dX8_span_54 : decode cX8_span 54 = .ok (.bipush 20, 2) := by decide +kernel
theorem sX8_span_54 : ab_X rom K cX8_span 6 1 54 ls st hp = ab_X rom K cX8_span 6 1 56 ls (.int 20 :: st) hp := ax_bipush dX8_span_54 (by decide) rfl
theorem dX8_span_56 : decode cX8_span 56 = .ok (.if_icmp .gt 26, 3) := by decide +kernel
theorem sX8_span_56 : ab_X rom K cX8_span 6 1 56 ls (.int y :: .int x :: st) hp = if y < x then ab_X rom K cX8_span 6 1 82 ls st hp else ab_X rom K cX8_span 6 1 59 ls st hp := ax_icmp_gt dX8_span_56 (by decide) rfl
theorem dX8_span_59 : decode cX8_span 59 = .ok (.aload_n 0, 1) := by decide +kernel
theorem sX8_span_59 : ab_X rom K cX8_span 6 1 59 (.ref a :: ls) st hp = ab_X rom K cX8_span 6 1 60 (.ref a :: ls) (.ref a :: st) hp := ax_aload_n dX8_span_59 rfl rfl
theorem dX8_span_60 : decode cX8_span 60 = .ok (.getfield 51, 3) := by decide +kernel
theorem sX8_span_60 : ab_X rom K cX8_span 6 1 60 ls (.ref a :: st) hp = (ab_fld hp a 6 6).bind (fun v => ab_X rom K cX8_span 6 1 63 ls (v :: st) hp) := ax_getfield dX8_span_60 kf_6_51 rfl
theorem dX8_span_63 : decode cX8_span 63 = .ok (.aload_n 0, 1) := by decide +kernel
theorem sX8_span_63 : ab_X rom K cX8_span 6 1 63 (.ref a :: ls) st hp = ab_X rom K cX8_span 6 1 64 (.ref a :: ls) (.ref a :: st) hp := ax_aload_n dX8_span_63 rfl rfl
theorem dX8_span_64 : decode cX8_span 64 = .ok (.getfield 26, 3) := by decide +kernel
theorem sX8_span_64 : ab_X rom K cX8_span 6 1 64 ls (.ref a :: st) hp = (ab_fld hp a 6 4).bind (fun v => ab_X rom K cX8_span 6 1 67 ls (v :: st) hp) := ax_getfield dX8_span_64 kf_6_26 rfl
theorem dX8_span_67 : decode cX8_span 67 = .ok (.iload_n 3, 1) := by decide +kernel
theorem sX8_span_67 : ab_X rom K cX8_span 6 1 67 (v0 :: v1 :: v2 :: .int x :: ls) st hp = ab_X rom K cX8_span 6 1 68 (v0 :: v1 :: v2 :: .int x :: ls) (.int x :: st) hp := ax_iload_n dX8_span_67 rfl rfl
theorem dX8_span_68 : decode cX8_span 68 = .ok (.invokevirtual 243, 3) := by decide +kernel
theorem sX8_span_68_0 : ab_X rom K cX8_span 6 1 68 ls [w2, w1, .ref a] hp = if ab_iso hp a 4 = true then (K 60 (.ref a :: [w1, w2]) hp).bind (fun o => ab_X rom K cX8_span 6 1 71 ls (o.1.toList ++ []) o.2) else none := ay_virtual (as := [w1, w2]) (st := []) dX8_span_68 kc_6_243 rfl rfl (Nat.le_of_ble_eq_true rfl)
theorem sX8_span_68_1 : ab_X rom K cX8_span 6 1 68 ls [w2, w1, .ref a, v0] hp = if ab_iso hp a 4 = true then (K 60 (.ref a :: [w1, w2]) hp).bind (fun o => ab_X rom K cX8_span 6 1 71 ls (o.1.toList ++ [v0]) o.2) else none := ay_virtual (as := [w1, w2]) (st := [v0]) dX8_span_68 kc_6_243 rfl rfl (Nat.le_of_ble_eq_true rfl)
theorem sX8_span_68_2 : ab_X rom K cX8_span 6 1 68 ls [w2, w1, .ref a, v0, v1] hp = if ab_iso hp a 4 = true then (K 60 (.ref a :: [w1, w2]) hp).bind (fun o => ab_X rom K cX8_span 6 1 71 ls (o.1.toList ++ [v0, v1]) o.2) else none := ay_virtual (as := [w1, w2]) (st := [v0, v1]) dX8_span_68 kc_6_243 rfl rfl (Nat.le_of_ble_eq_true rfl)
theorem sX8_span_68_3 : ab_X rom K cX8_span 6 1 68 ls [w2, w1, .ref a, v0, v1, v2] hp = if ab_iso hp a 4 = true then (K 60 (.ref a :: [w1, w2]) hp).bind (fun o => ab_X rom K cX8_span 6 1 71 ls (o.1.toList ++ [v0, v1, v2]) o.2) else none := ay_virtual (as := [w1, w2]) (st := [v0, v1, v2]) dX8_span_68 kc_6_243 rfl rfl (Nat.le_of_ble_eq_true rfl)
theorem dX8_span_71 : decode cX8_span 71 = .ok (.ifCond .eq 5, 3) := by decide +kernel
theorem sX8_span_71 : ab_X rom K cX8_span 6 1 71 ls (.int x :: st) hp = if x = 0 then ab_X rom K cX8_span 6 1 76 ls st hp else ab_X rom K cX8_span 6 1 74 ls st hp := ax_if_eq dX8_span_71 (by decide) rfl
theorem dX8_span_74 : decode cX8_span 74 = .ok (.iload_n 3, 1) := by decide +kernel
theorem sX8_span_74 : ab_X rom K cX8_span 6 1 74 (v0 :: v1 :: v2 :: .int x :: ls) st hp = ab_X rom K cX8_span 6 1 75 (v0 :: v1 :: v2 :: .int x :: ls) (.int x :: st) hp := ax_iload_n dX8_span_74 rfl rfl
theorem dX8_span_75 : decode cX8_span 75 = .ok (.ireturn, 1) := by decide +kernel
theorem sX8_span_75 : ab_X rom K cX8_span 6 1 75 ls [.int x] hp = some (some (.int x), hp) := ax_iret dX8_span_75 rfl
theorem dX8_span_76 : decode cX8_span 76 = .ok (.iinc 3 1, 3) := by decide +kernel
theorem sX8_span_76i : ab_X rom K cX8_span 6 1 76 (v0 :: v1 :: .int y :: .int x :: ls) st hp = ab_X rom K cX8_span 6 1 79 (v0 :: v1 :: .int y :: .int (x + 1) :: ls) st hp := ax_iinc dX8_span_76 rfl (ab_nl_c1 (j := 2) (v := .int y) rfl (ab_c1_int _)) (by decide) rfl rfl
theorem sX8_span_76r : ab_X rom K cX8_span 6 1 76 (v0 :: v1 :: .ref a2 :: .int x :: ls) st hp = ab_X rom K cX8_span 6 1 79 (v0 :: v1 :: .ref a2 :: .int (x + 1) :: ls) st hp := ax_iinc dX8_span_76 rfl (ab_nl_c1 (j := 2) (v := .ref a2) rfl (ab_c1_ref _)) (by decide) rfl rfl
theorem sX8_span_76n : ab_X rom K cX8_span 6 1 76 (v0 :: v1 :: .null :: .int x :: ls) st hp = ab_X rom K cX8_span 6 1 79 (v0 :: v1 :: .null :: .int (x + 1) :: ls) st hp := ax_iinc dX8_span_76 rfl (ab_nl_c1 (j := 2) (v := .null) rfl ab_c1_null) (by decide) rfl rfl
theorem dX8_span_79 : decode cX8_span 79 = .ok (.goto (-26), 3) := by decide +kernel
theorem sX8_span_79 : ab_X rom K cX8_span 6 1 79 ls st hp = ab_X rom K cX8_span 6 1 53 ls st hp := ax_goto dX8_span_79 (by decide)
theorem dX8_span_82 : decode cX8_span 82 = .ok (.iconst (-1), 1) := by decide +kernel
theorem sX8_span_82 : ab_X rom K cX8_span 6 1 82 ls st hp = ab_X rom K cX8_span 6 1 83 ls (.int (-1) :: st) hp := ax_iconst dX8_span_82 (by decide) rfl
theorem dX8_span_83 : decode cX8_span 83 = .ok (.ireturn, 1) := by decide +kernel
theorem sX8_span_83 : ab_X rom K cX8_span 6 1 83 ls [.int x] hp = some (some (.int x), hp) := ax_iret dX8_span_83 rfl
theorem tX8_spares : ab_mT[116]? = some (yX8_spares, cX8_spares, 5, 1, 6) := by decide +kernel
theorem mX8_spares {d : Nat} {a0 : Nat} {x0 : Int32} {x1 : Int32} : ab_M rom (d + 1) 116 [.ref a0, .int x0, .int x1] hp = ab_X rom (ab_M rom d) cX8_spares 6 1 0 [.ref a0, .int x0, .int x1, .null, .null] [] hp := ab_M_eq tX8_spares (Nat.le_of_ble_eq_true rfl)
theorem dX8_spares_0 : decode cX8_spares 0 = .ok (.aload_n 0, 1) := by decide +kernel
theorem sX8_spares_0 : ab_X rom K cX8_spares 6 1 0 (.ref a :: ls) st hp = ab_X rom K cX8_spares 6 1 1 (.ref a :: ls) (.ref a :: st) hp := ax_aload_n dX8_spares_0 rfl rfl
theorem dX8_spares_1 : decode cX8_spares 1 = .ok (.iload_n 1, 1) := by decide +kernel
theorem sX8_spares_1 : ab_X rom K cX8_spares 6 1 1 (v0 :: .int x :: ls) st hp = ab_X rom K cX8_spares 6 1 2 (v0 :: .int x :: ls) (.int x :: st) hp := ax_iload_n dX8_spares_1 rfl rfl
theorem dX8_spares_2 : decode cX8_spares 2 = .ok (.invokevirtual 99, 3) := by decide +kernel
theorem sX8_spares_2_0 : ab_X rom K cX8_spares 6 1 2 ls [w1, .ref a] hp = if ab_iso hp a 6 = true then (K 95 (.ref a :: [w1]) hp).bind (fun o => ab_X rom K cX8_spares 6 1 5 ls (o.1.toList ++ []) o.2) else none := ay_virtual (as := [w1]) (st := []) dX8_spares_2 kc_6_99 rfl rfl (Nat.le_of_ble_eq_true rfl)
theorem sX8_spares_2_1 : ab_X rom K cX8_spares 6 1 2 ls [w1, .ref a, v0] hp = if ab_iso hp a 6 = true then (K 95 (.ref a :: [w1]) hp).bind (fun o => ab_X rom K cX8_spares 6 1 5 ls (o.1.toList ++ [v0]) o.2) else none := ay_virtual (as := [w1]) (st := [v0]) dX8_spares_2 kc_6_99 rfl rfl (Nat.le_of_ble_eq_true rfl)
theorem sX8_spares_2_2 : ab_X rom K cX8_spares 6 1 2 ls [w1, .ref a, v0, v1] hp = if ab_iso hp a 6 = true then (K 95 (.ref a :: [w1]) hp).bind (fun o => ab_X rom K cX8_spares 6 1 5 ls (o.1.toList ++ [v0, v1]) o.2) else none := ay_virtual (as := [w1]) (st := [v0, v1]) dX8_spares_2 kc_6_99 rfl rfl (Nat.le_of_ble_eq_true rfl)
theorem sX8_spares_2_3 : ab_X rom K cX8_spares 6 1 2 ls [w1, .ref a, v0, v1, v2] hp = if ab_iso hp a 6 = true then (K 95 (.ref a :: [w1]) hp).bind (fun o => ab_X rom K cX8_spares 6 1 5 ls (o.1.toList ++ [v0, v1, v2]) o.2) else none := ay_virtual (as := [w1]) (st := [v0, v1, v2]) dX8_spares_2 kc_6_99 rfl rfl (Nat.le_of_ble_eq_true rfl)
theorem dX8_spares_5 : decode cX8_spares 5 = .ok (.ifCond .eq 10, 3) := by decide +kernel
theorem sX8_spares_5 : ab_X rom K cX8_spares 6 1 5 ls (.int x :: st) hp = if x = 0 then ab_X rom K cX8_spares 6 1 15 ls st hp else ab_X rom K cX8_spares 6 1 8 ls st hp := ax_if_eq dX8_spares_5 (by decide) rfl
theorem dX8_spares_8 : decode cX8_spares 8 = .ok (.iload_n 2, 1) := by decide +kernel
theorem sX8_spares_8 : ab_X rom K cX8_spares 6 1 8 (v0 :: v1 :: .int x :: ls) st hp = ab_X rom K cX8_spares 6 1 9 (v0 :: v1 :: .int x :: ls) (.int x :: st) hp := ax_iload_n dX8_spares_8 rfl rfl
theorem dX8_spares_9 : decode cX8_spares 9 = .ok (.invokestatic 174, 3) := by decide +kernel
theorem sX8_spares_9_0 : ab_X rom K cX8_spares 6 1 9 ls [w1] hp = (K 100 [w1] hp).bind (fun o => ab_X rom K cX8_spares 6 1 12 ls (o.1.toList ++ []) o.2) := ax_static (as := [w1]) (st := []) dX8_spares_9 kc_6_174 rfl rfl (Nat.le_of_ble_eq_true rfl)
theorem sX8_spares_9_1 : ab_X rom K cX8_spares 6 1 9 ls [w1, v0] hp = (K 100 [w1] hp).bind (fun o => ab_X rom K cX8_spares 6 1 12 ls (o.1.toList ++ [v0]) o.2) := ax_static (as := [w1]) (st := [v0]) dX8_spares_9 kc_6_174 rfl rfl (Nat.le_of_ble_eq_true rfl)
theorem sX8_spares_9_2 : ab_X rom K cX8_spares 6 1 9 ls [w1, v0, v1] hp = (K 100 [w1] hp).bind (fun o => ab_X rom K cX8_spares 6 1 12 ls (o.1.toList ++ [v0, v1]) o.2) := ax_static (as := [w1]) (st := [v0, v1]) dX8_spares_9 kc_6_174 rfl rfl (Nat.le_of_ble_eq_true rfl)
theorem sX8_spares_9_3 : ab_X rom K cX8_spares 6 1 9 ls [w1, v0, v1, v2] hp = (K 100 [w1] hp).bind (fun o => ab_X rom K cX8_spares 6 1 12 ls (o.1.toList ++ [v0, v1, v2]) o.2) := ax_static (as := [w1]) (st := [v0, v1, v2]) dX8_spares_9 kc_6_174 rfl rfl (Nat.le_of_ble_eq_true rfl)
theorem dX8_spares_12 : decode cX8_spares 12 = .ok (.ifCond .ne 6, 3) := by decide +kernel
theorem sX8_spares_12 : ab_X rom K cX8_spares 6 1 12 ls (.int x :: st) hp = if x = 0 then ab_X rom K cX8_spares 6 1 15 ls st hp else ab_X rom K cX8_spares 6 1 18 ls st hp := ax_if_ne dX8_spares_12 (by decide) rfl
theorem dX8_spares_15 : decode cX8_spares 15 = .ok (.bipush (-2), 2) := by decide +kernel
theorem sX8_spares_15 : ab_X rom K cX8_spares 6 1 15 ls st hp = ab_X rom K cX8_spares 6 1 17 ls (.int (-2) :: st) hp := ax_bipush dX8_spares_15 (by decide) rfl
theorem dX8_spares_17 : decode cX8_spares 17 = .ok (.ireturn, 1) := by decide +kernel
theorem sX8_spares_17 : ab_X rom K cX8_spares 6 1 17 ls [.int x] hp = some (some (.int x), hp) := ax_iret dX8_spares_17 rfl
theorem dX8_spares_18 : decode cX8_spares 18 = .ok (.iconst 0, 1) := by decide +kernel
theorem sX8_spares_18 : ab_X rom K cX8_spares 6 1 18 ls st hp = ab_X rom K cX8_spares 6 1 19 ls (.int 0 :: st) hp := ax_iconst dX8_spares_18 (by decide) rfl
theorem dX8_spares_19 : decode cX8_spares 19 = .ok (.istore_n 3, 1) := by decide +kernel
theorem sX8_spares_19i : ab_X rom K cX8_spares 6 1 19 (v0 :: v1 :: .int y :: v3 :: ls) (.int x :: st) hp = ab_X rom K cX8_spares 6 1 20 (v0 :: v1 :: .int y :: .int x :: ls) st hp := ax_istore_n dX8_spares_19 (ax_lt (v := v3) rfl) (ab_nl_c1 (j := 2) (v := .int y) rfl (ab_c1_int _)) rfl rfl
theorem sX8_spares_19r : ab_X rom K cX8_spares 6 1 19 (v0 :: v1 :: .ref a2 :: v3 :: ls) (.int x :: st) hp = ab_X rom K cX8_spares 6 1 20 (v0 :: v1 :: .ref a2 :: .int x :: ls) st hp := ax_istore_n dX8_spares_19 (ax_lt (v := v3) rfl) (ab_nl_c1 (j := 2) (v := .ref a2) rfl (ab_c1_ref _)) rfl rfl
theorem sX8_spares_19n : ab_X rom K cX8_spares 6 1 19 (v0 :: v1 :: .null :: v3 :: ls) (.int x :: st) hp = ab_X rom K cX8_spares 6 1 20 (v0 :: v1 :: .null :: .int x :: ls) st hp := ax_istore_n dX8_spares_19 (ax_lt (v := v3) rfl) (ab_nl_c1 (j := 2) (v := .null) rfl ab_c1_null) rfl rfl
theorem dX8_spares_20 : decode cX8_spares 20 = .ok (.iconst 0, 1) := by decide +kernel
theorem sX8_spares_20 : ab_X rom K cX8_spares 6 1 20 ls st hp = ab_X rom K cX8_spares 6 1 21 ls (.int 0 :: st) hp := ax_iconst dX8_spares_20 (by decide) rfl
theorem dX8_spares_21 : decode cX8_spares 21 = .ok (.istore 4, 2) := by decide +kernel
theorem sX8_spares_21i : ab_X rom K cX8_spares 6 1 21 (v0 :: v1 :: v2 :: .int y :: v4 :: ls) (.int x :: st) hp = ab_X rom K cX8_spares 6 1 23 (v0 :: v1 :: v2 :: .int y :: .int x :: ls) st hp := ax_istore dX8_spares_21 (ax_lt (v := v4) rfl) (ab_nl_c1 (j := 3) (v := .int y) rfl (ab_c1_int _)) rfl rfl
theorem sX8_spares_21r : ab_X rom K cX8_spares 6 1 21 (v0 :: v1 :: v2 :: .ref a2 :: v4 :: ls) (.int x :: st) hp = ab_X rom K cX8_spares 6 1 23 (v0 :: v1 :: v2 :: .ref a2 :: .int x :: ls) st hp := ax_istore dX8_spares_21 (ax_lt (v := v4) rfl) (ab_nl_c1 (j := 3) (v := .ref a2) rfl (ab_c1_ref _)) rfl rfl
theorem sX8_spares_21n : ab_X rom K cX8_spares 6 1 21 (v0 :: v1 :: v2 :: .null :: v4 :: ls) (.int x :: st) hp = ab_X rom K cX8_spares 6 1 23 (v0 :: v1 :: v2 :: .null :: .int x :: ls) st hp := ax_istore dX8_spares_21 (ax_lt (v := v4) rfl) (ab_nl_c1 (j := 3) (v := .null) rfl ab_c1_null) rfl rfl
theorem dX8_spares_23 : decode cX8_spares 23 = .ok (.iload 4, 2) := by decide +kernel
theorem sX8_spares_23 : ab_X rom K cX8_spares 6 1 23 (v0 :: v1 :: v2 :: v3 :: .int x :: ls) st hp = ab_X rom K cX8_spares 6 1 25 (v0 :: v1 :: v2 :: v3 :: .int x :: ls) (.int x :: st) hp := ax_iload dX8_spares_23 rfl rfl
theorem dX8_spares_25 : decode cX8_spares 25 = .ok (.aload_n 0, 1) := by decide +kernel
theorem sX8_spares_25 : ab_X rom K cX8_spares 6 1 25 (.ref a :: ls) st hp = ab_X rom K cX8_spares 6 1 26 (.ref a :: ls) (.ref a :: st) hp := ax_aload_n dX8_spares_25 rfl rfl
theorem dX8_spares_26 : decode cX8_spares 26 = .ok (.getfield 21, 3) := by decide +kernel
theorem sX8_spares_26 : ab_X rom K cX8_spares 6 1 26 ls (.ref a :: st) hp = (ab_fld hp a 6 3).bind (fun v => ab_X rom K cX8_spares 6 1 29 ls (v :: st) hp) := ax_getfield dX8_spares_26 kf_6_21 rfl
theorem dX8_spares_29 : decode cX8_spares 29 = .ok (.iload_n 1, 1) := by decide +kernel
theorem sX8_spares_29 : ab_X rom K cX8_spares 6 1 29 (v0 :: .int x :: ls) st hp = ab_X rom K cX8_spares 6 1 30 (v0 :: .int x :: ls) (.int x :: st) hp := ax_iload_n dX8_spares_29 rfl rfl
theorem dX8_spares_30 : decode cX8_spares 30 = .ok (.aaload, 1) := by decide +kernel
theorem sX8_spares_30 : ab_X rom K cX8_spares 6 1 30 ls (.int x :: .ref a :: st) hp = (ab_rrd hp a x).bind (fun v => ab_X rom K cX8_spares 6 1 31 ls (.ref v :: st) hp) := ax_aaload dX8_spares_30 rfl
theorem dX8_spares_31 : decode cX8_spares 31 = .ok (.getfield 89, 3) := by decide +kernel
theorem sX8_spares_31 : ab_X rom K cX8_spares 6 1 31 ls (.ref a :: st) hp = (ab_fld hp a 1 1).bind (fun v => ab_X rom K cX8_spares 6 1 34 ls (v :: st) hp) := ax_getfield dX8_spares_31 kf_6_89 rfl
theorem dX8_spares_34 : decode cX8_spares 34 = .ok (.if_icmp .ge 81, 3) := by decide +kernel
theorem sX8_spares_34 : ab_X rom K cX8_spares 6 1 34 ls (.int y :: .int x :: st) hp = if x < y then ab_X rom K cX8_spares 6 1 37 ls st hp else ab_X rom K cX8_spares 6 1 115 ls st hp := ax_icmp_ge dX8_spares_34 (by decide) rfl
theorem dX8_spares_37 : decode cX8_spares 37 = .ok (.aload_n 0, 1) := by decide +kernel
theorem sX8_spares_37 : ab_X rom K cX8_spares 6 1 37 (.ref a :: ls) st hp = ab_X rom K cX8_spares 6 1 38 (.ref a :: ls) (.ref a :: st) hp := ax_aload_n dX8_spares_37 rfl rfl
theorem dX8_spares_38 : decode cX8_spares 38 = .ok (.getfield 26, 3) := by decide +kernel
theorem sX8_spares_38 : ab_X rom K cX8_spares 6 1 38 ls (.ref a :: st) hp = (ab_fld hp a 6 4).bind (fun v => ab_X rom K cX8_spares 6 1 41 ls (v :: st) hp) := ax_getfield dX8_spares_38 kf_6_26 rfl
theorem dX8_spares_41 : decode cX8_spares 41 = .ok (.aload_n 0, 1) := by decide +kernel
theorem sX8_spares_41 : ab_X rom K cX8_spares 6 1 41 (.ref a :: ls) st hp = ab_X rom K cX8_spares 6 1 42 (.ref a :: ls) (.ref a :: st) hp := ax_aload_n dX8_spares_41 rfl rfl
theorem dX8_spares_42 : decode cX8_spares 42 = .ok (.getfield 21, 3) := by decide +kernel
theorem sX8_spares_42 : ab_X rom K cX8_spares 6 1 42 ls (.ref a :: st) hp = (ab_fld hp a 6 3).bind (fun v => ab_X rom K cX8_spares 6 1 45 ls (v :: st) hp) := ax_getfield dX8_spares_42 kf_6_21 rfl
theorem dX8_spares_45 : decode cX8_spares 45 = .ok (.iload_n 1, 1) := by decide +kernel
theorem sX8_spares_45 : ab_X rom K cX8_spares 6 1 45 (v0 :: .int x :: ls) st hp = ab_X rom K cX8_spares 6 1 46 (v0 :: .int x :: ls) (.int x :: st) hp := ax_iload_n dX8_spares_45 rfl rfl
theorem dX8_spares_46 : decode cX8_spares 46 = .ok (.aaload, 1) := by decide +kernel
theorem sX8_spares_46 : ab_X rom K cX8_spares 6 1 46 ls (.int x :: .ref a :: st) hp = (ab_rrd hp a x).bind (fun v => ab_X rom K cX8_spares 6 1 47 ls (.ref v :: st) hp) := ax_aaload dX8_spares_46 rfl
theorem dX8_spares_47 : decode cX8_spares 47 = .ok (.invokevirtual 215, 3) := by decide +kernel
theorem sX8_spares_47_0 : ab_X rom K cX8_spares 6 1 47 ls [w1, .ref a] hp = if ab_iso hp a 1 = true then (K 17 (.ref a :: [w1]) hp).bind (fun o => ab_X rom K cX8_spares 6 1 50 ls (o.1.toList ++ []) o.2) else none := ay_virtual (as := [w1]) (st := []) dX8_spares_47 kc_6_215 rfl rfl (Nat.le_of_ble_eq_true rfl)
theorem sX8_spares_47_1 : ab_X rom K cX8_spares 6 1 47 ls [w1, .ref a, v0] hp = if ab_iso hp a 1 = true then (K 17 (.ref a :: [w1]) hp).bind (fun o => ab_X rom K cX8_spares 6 1 50 ls (o.1.toList ++ [v0]) o.2) else none := ay_virtual (as := [w1]) (st := [v0]) dX8_spares_47 kc_6_215 rfl rfl (Nat.le_of_ble_eq_true rfl)
theorem sX8_spares_47_2 : ab_X rom K cX8_spares 6 1 47 ls [w1, .ref a, v0, v1] hp = if ab_iso hp a 1 = true then (K 17 (.ref a :: [w1]) hp).bind (fun o => ab_X rom K cX8_spares 6 1 50 ls (o.1.toList ++ [v0, v1]) o.2) else none := ay_virtual (as := [w1]) (st := [v0, v1]) dX8_spares_47 kc_6_215 rfl rfl (Nat.le_of_ble_eq_true rfl)
theorem sX8_spares_47_3 : ab_X rom K cX8_spares 6 1 47 ls [w1, .ref a, v0, v1, v2] hp = if ab_iso hp a 1 = true then (K 17 (.ref a :: [w1]) hp).bind (fun o => ab_X rom K cX8_spares 6 1 50 ls (o.1.toList ++ [v0, v1, v2]) o.2) else none := ay_virtual (as := [w1]) (st := [v0, v1, v2]) dX8_spares_47 kc_6_215 rfl rfl (Nat.le_of_ble_eq_true rfl)
theorem dX8_spares_50 : decode cX8_spares 50 = .ok (.aload_n 0, 1) := by decide +kernel
theorem sX8_spares_50 : ab_X rom K cX8_spares 6 1 50 (.ref a :: ls) st hp = ab_X rom K cX8_spares 6 1 51 (.ref a :: ls) (.ref a :: st) hp := ax_aload_n dX8_spares_50 rfl rfl
theorem dX8_spares_51 : decode cX8_spares 51 = .ok (.getfield 26, 3) := by decide +kernel
theorem sX8_spares_51 : ab_X rom K cX8_spares 6 1 51 ls (.ref a :: st) hp = (ab_fld hp a 6 4).bind (fun v => ab_X rom K cX8_spares 6 1 54 ls (v :: st) hp) := ax_getfield dX8_spares_51 kf_6_26 rfl
theorem dX8_spares_54 : decode cX8_spares 54 = .ok (.invokevirtual 218, 3) := by decide +kernel
theorem sX8_spares_54_0 : ab_X rom K cX8_spares 6 1 54 ls [.ref a] hp = if ab_iso hp a 1 = true then (K 16 (.ref a :: []) hp).bind (fun o => ab_X rom K cX8_spares 6 1 57 ls (o.1.toList ++ []) o.2) else none := ay_virtual (as := []) (st := []) dX8_spares_54 kc_6_218 rfl rfl (Nat.le_of_ble_eq_true rfl)
theorem sX8_spares_54_1 : ab_X rom K cX8_spares 6 1 54 ls [.ref a, v0] hp = if ab_iso hp a 1 = true then (K 16 (.ref a :: []) hp).bind (fun o => ab_X rom K cX8_spares 6 1 57 ls (o.1.toList ++ [v0]) o.2) else none := ay_virtual (as := []) (st := [v0]) dX8_spares_54 kc_6_218 rfl rfl (Nat.le_of_ble_eq_true rfl)
theorem sX8_spares_54_2 : ab_X rom K cX8_spares 6 1 54 ls [.ref a, v0, v1] hp = if ab_iso hp a 1 = true then (K 16 (.ref a :: []) hp).bind (fun o => ab_X rom K cX8_spares 6 1 57 ls (o.1.toList ++ [v0, v1]) o.2) else none := ay_virtual (as := []) (st := [v0, v1]) dX8_spares_54 kc_6_218 rfl rfl (Nat.le_of_ble_eq_true rfl)
theorem sX8_spares_54_3 : ab_X rom K cX8_spares 6 1 54 ls [.ref a, v0, v1, v2] hp = if ab_iso hp a 1 = true then (K 16 (.ref a :: []) hp).bind (fun o => ab_X rom K cX8_spares 6 1 57 ls (o.1.toList ++ [v0, v1, v2]) o.2) else none := ay_virtual (as := []) (st := [v0, v1, v2]) dX8_spares_54 kc_6_218 rfl rfl (Nat.le_of_ble_eq_true rfl)
theorem dX8_spares_57 : decode cX8_spares 57 = .ok (.aload_n 0, 1) := by decide +kernel
theorem sX8_spares_57 : ab_X rom K cX8_spares 6 1 57 (.ref a :: ls) st hp = ab_X rom K cX8_spares 6 1 58 (.ref a :: ls) (.ref a :: st) hp := ax_aload_n dX8_spares_57 rfl rfl
theorem dX8_spares_58 : decode cX8_spares 58 = .ok (.getfield 26, 3) := by decide +kernel
theorem sX8_spares_58 : ab_X rom K cX8_spares 6 1 58 ls (.ref a :: st) hp = (ab_fld hp a 6 4).bind (fun v => ab_X rom K cX8_spares 6 1 61 ls (v :: st) hp) := ax_getfield dX8_spares_58 kf_6_26 rfl
theorem dX8_spares_61 : decode cX8_spares 61 = .ok (.iload 4, 2) := by decide +kernel
theorem sX8_spares_61 : ab_X rom K cX8_spares 6 1 61 (v0 :: v1 :: v2 :: v3 :: .int x :: ls) st hp = ab_X rom K cX8_spares 6 1 63 (v0 :: v1 :: v2 :: v3 :: .int x :: ls) (.int x :: st) hp := ax_iload dX8_spares_61 rfl rfl
theorem dX8_spares_63 : decode cX8_spares 63 = .ok (.invokevirtual 145, 3) := by decide +kernel
theorem sX8_spares_63_0 : ab_X rom K cX8_spares 6 1 63 ls [w1, .ref a] hp = if ab_iso hp a 1 = true then (K 31 (.ref a :: [w1]) hp).bind (fun o => ab_X rom K cX8_spares 6 1 66 ls (o.1.toList ++ []) o.2) else none := ay_virtual (as := [w1]) (st := []) dX8_spares_63 kc_6_145 rfl rfl (Nat.le_of_ble_eq_true rfl)
theorem sX8_spares_63_1 : ab_X rom K cX8_spares 6 1 63 ls [w1, .ref a, v0] hp = if ab_iso hp a 1 = true then (K 31 (.ref a :: [w1]) hp).bind (fun o => ab_X rom K cX8_spares 6 1 66 ls (o.1.toList ++ [v0]) o.2) else none := ay_virtual (as := [w1]) (st := [v0]) dX8_spares_63 kc_6_145 rfl rfl (Nat.le_of_ble_eq_true rfl)
theorem sX8_spares_63_2 : ab_X rom K cX8_spares 6 1 63 ls [w1, .ref a, v0, v1] hp = if ab_iso hp a 1 = true then (K 31 (.ref a :: [w1]) hp).bind (fun o => ab_X rom K cX8_spares 6 1 66 ls (o.1.toList ++ [v0, v1]) o.2) else none := ay_virtual (as := [w1]) (st := [v0, v1]) dX8_spares_63 kc_6_145 rfl rfl (Nat.le_of_ble_eq_true rfl)
theorem sX8_spares_63_3 : ab_X rom K cX8_spares 6 1 63 ls [w1, .ref a, v0, v1, v2] hp = if ab_iso hp a 1 = true then (K 31 (.ref a :: [w1]) hp).bind (fun o => ab_X rom K cX8_spares 6 1 66 ls (o.1.toList ++ [v0, v1, v2]) o.2) else none := ay_virtual (as := [w1]) (st := [v0, v1, v2]) dX8_spares_63 kc_6_145 rfl rfl (Nat.le_of_ble_eq_true rfl)
theorem dX8_spares_66 : decode cX8_spares 66 = .ok (.aload_n 0, 1) := by decide +kernel
theorem sX8_spares_66 : ab_X rom K cX8_spares 6 1 66 (.ref a :: ls) st hp = ab_X rom K cX8_spares 6 1 67 (.ref a :: ls) (.ref a :: st) hp := ax_aload_n dX8_spares_66 rfl rfl
theorem dX8_spares_67 : decode cX8_spares 67 = .ok (.getfield 51, 3) := by decide +kernel
theorem sX8_spares_67 : ab_X rom K cX8_spares 6 1 67 ls (.ref a :: st) hp = (ab_fld hp a 6 6).bind (fun v => ab_X rom K cX8_spares 6 1 70 ls (v :: st) hp) := ax_getfield dX8_spares_67 kf_6_51 rfl
theorem dX8_spares_70 : decode cX8_spares 70 = .ok (.getfield 187, 3) := by decide +kernel
theorem sX8_spares_70 : ab_X rom K cX8_spares 6 1 70 ls (.ref a :: st) hp = (ab_fld hp a 4 0).bind (fun v => ab_X rom K cX8_spares 6 1 73 ls (v :: st) hp) := ax_getfield dX8_spares_70 kf_6_187 rfl
theorem dX8_spares_73 : decode cX8_spares 73 = .ok (.invokevirtual 232, 3) := by decide +kernel
theorem sX8_spares_73_0 : ab_X rom K cX8_spares 6 1 73 ls [.ref a] hp = if ab_iso hp a 0 = true then (K 3 (.ref a :: []) hp).bind (fun o => ab_X rom K cX8_spares 6 1 76 ls (o.1.toList ++ []) o.2) else none := ay_virtual (as := []) (st := []) dX8_spares_73 kc_6_232 rfl rfl (Nat.le_of_ble_eq_true rfl)
theorem sX8_spares_73_1 : ab_X rom K cX8_spares 6 1 73 ls [.ref a, v0] hp = if ab_iso hp a 0 = true then (K 3 (.ref a :: []) hp).bind (fun o => ab_X rom K cX8_spares 6 1 76 ls (o.1.toList ++ [v0]) o.2) else none := ay_virtual (as := []) (st := [v0]) dX8_spares_73 kc_6_232 rfl rfl (Nat.le_of_ble_eq_true rfl)
theorem sX8_spares_73_2 : ab_X rom K cX8_spares 6 1 73 ls [.ref a, v0, v1] hp = if ab_iso hp a 0 = true then (K 3 (.ref a :: []) hp).bind (fun o => ab_X rom K cX8_spares 6 1 76 ls (o.1.toList ++ [v0, v1]) o.2) else none := ay_virtual (as := []) (st := [v0, v1]) dX8_spares_73 kc_6_232 rfl rfl (Nat.le_of_ble_eq_true rfl)
theorem sX8_spares_73_3 : ab_X rom K cX8_spares 6 1 73 ls [.ref a, v0, v1, v2] hp = if ab_iso hp a 0 = true then (K 3 (.ref a :: []) hp).bind (fun o => ab_X rom K cX8_spares 6 1 76 ls (o.1.toList ++ [v0, v1, v2]) o.2) else none := ay_virtual (as := []) (st := [v0, v1, v2]) dX8_spares_73 kc_6_232 rfl rfl (Nat.le_of_ble_eq_true rfl)
theorem dX8_spares_76 : decode cX8_spares 76 = .ok (.aload_n 0, 1) := by decide +kernel
theorem sX8_spares_76 : ab_X rom K cX8_spares 6 1 76 (.ref a :: ls) st hp = ab_X rom K cX8_spares 6 1 77 (.ref a :: ls) (.ref a :: st) hp := ax_aload_n dX8_spares_76 rfl rfl
theorem dX8_spares_77 : decode cX8_spares 77 = .ok (.getfield 51, 3) := by decide +kernel
theorem sX8_spares_77 : ab_X rom K cX8_spares 6 1 77 ls (.ref a :: st) hp = (ab_fld hp a 6 6).bind (fun v => ab_X rom K cX8_spares 6 1 80 ls (v :: st) hp) := ax_getfield dX8_spares_77 kf_6_51 rfl
theorem dX8_spares_80 : decode cX8_spares 80 = .ok (.aload_n 0, 1) := by decide +kernel
theorem sX8_spares_80 : ab_X rom K cX8_spares 6 1 80 (.ref a :: ls) st hp = ab_X rom K cX8_spares 6 1 81 (.ref a :: ls) (.ref a :: st) hp := ax_aload_n dX8_spares_80 rfl rfl
theorem dX8_spares_81 : decode cX8_spares 81 = .ok (.getfield 26, 3) := by decide +kernel
theorem sX8_spares_81 : ab_X rom K cX8_spares 6 1 81 ls (.ref a :: st) hp = (ab_fld hp a 6 4).bind (fun v => ab_X rom K cX8_spares 6 1 84 ls (v :: st) hp) := ax_getfield dX8_spares_81 kf_6_26 rfl
theorem dX8_spares_84 : decode cX8_spares 84 = .ok (.iload_n 2, 1) := by decide +kernel
theorem sX8_spares_84 : ab_X rom K cX8_spares 6 1 84 (v0 :: v1 :: .int x :: ls) st hp = ab_X rom K cX8_spares 6 1 85 (v0 :: v1 :: .int x :: ls) (.int x :: st) hp := ax_iload_n dX8_spares_84 rfl rfl
theorem dX8_spares_85 : decode cX8_spares 85 = .ok (.iconst 1, 1) := by decide +kernel
theorem sX8_spares_85 : ab_X rom K cX8_spares 6 1 85 ls st hp = ab_X rom K cX8_spares 6 1 86 ls (.int 1 :: st) hp := ax_iconst dX8_spares_85 (by decide) rfl
theorem dX8_spares_86 : decode cX8_spares 86 = .ok (.invokevirtual 225, 3) := by decide +kernel
theorem sX8_spares_86_0 : ab_X rom K cX8_spares 6 1 86 ls [w3, w2, w1, .ref a] hp = if ab_iso hp a 4 = true then (K 71 (.ref a :: [w1, w2, w3]) hp).bind (fun o => ab_X rom K cX8_spares 6 1 89 ls (o.1.toList ++ []) o.2) else none := ay_virtual (as := [w1, w2, w3]) (st := []) dX8_spares_86 kc_6_225 rfl rfl (Nat.le_of_ble_eq_true rfl)
theorem sX8_spares_86_1 : ab_X rom K cX8_spares 6 1 86 ls [w3, w2, w1, .ref a, v0] hp = if ab_iso hp a 4 = true then (K 71 (.ref a :: [w1, w2, w3]) hp).bind (fun o => ab_X rom K cX8_spares 6 1 89 ls (o.1.toList ++ [v0]) o.2) else none := ay_virtual (as := [w1, w2, w3]) (st := [v0]) dX8_spares_86 kc_6_225 rfl rfl (Nat.le_of_ble_eq_true rfl)
theorem sX8_spares_86_2 : ab_X rom K cX8_spares 6 1 86 ls [w3, w2, w1, .ref a, v0, v1] hp = if ab_iso hp a 4 = true then (K 71 (.ref a :: [w1, w2, w3]) hp).bind (fun o => ab_X rom K cX8_spares 6 1 89 ls (o.1.toList ++ [v0, v1]) o.2) else none := ay_virtual (as := [w1, w2, w3]) (st := [v0, v1]) dX8_spares_86 kc_6_225 rfl rfl (Nat.le_of_ble_eq_true rfl)
theorem sX8_spares_86_3 : ab_X rom K cX8_spares 6 1 86 ls [w3, w2, w1, .ref a, v0, v1, v2] hp = if ab_iso hp a 4 = true then (K 71 (.ref a :: [w1, w2, w3]) hp).bind (fun o => ab_X rom K cX8_spares 6 1 89 ls (o.1.toList ++ [v0, v1, v2]) o.2) else none := ay_virtual (as := [w1, w2, w3]) (st := [v0, v1, v2]) dX8_spares_86 kc_6_225 rfl rfl (Nat.le_of_ble_eq_true rfl)
theorem dX8_spares_89 : decode cX8_spares 89 = .ok (.aload_n 0, 1) := by decide +kernel
theorem sX8_spares_89 : ab_X rom K cX8_spares 6 1 89 (.ref a :: ls) st hp = ab_X rom K cX8_spares 6 1 90 (.ref a :: ls) (.ref a :: st) hp := ax_aload_n dX8_spares_89 rfl rfl
theorem dX8_spares_90 : decode cX8_spares 90 = .ok (.getfield 51, 3) := by decide +kernel
theorem sX8_spares_90 : ab_X rom K cX8_spares 6 1 90 ls (.ref a :: st) hp = (ab_fld hp a 6 6).bind (fun v => ab_X rom K cX8_spares 6 1 93 ls (v :: st) hp) := ax_getfield dX8_spares_90 kf_6_51 rfl
theorem dX8_spares_93 : decode cX8_spares 93 = .ok (.getfield 187, 3) := by decide +kernel
theorem sX8_spares_93 : ab_X rom K cX8_spares 6 1 93 ls (.ref a :: st) hp = (ab_fld hp a 4 0).bind (fun v => ab_X rom K cX8_spares 6 1 96 ls (v :: st) hp) := ax_getfield dX8_spares_93 kf_6_187 rfl
theorem dX8_spares_96 : decode cX8_spares 96 = .ok (.getfield 191, 3) := by decide +kernel
theorem sX8_spares_96 : ab_X rom K cX8_spares 6 1 96 ls (.ref a :: st) hp = (ab_fld hp a 0 0).bind (fun v => ab_X rom K cX8_spares 6 1 99 ls (v :: st) hp) := ax_getfield dX8_spares_96 kf_6_191 rfl
theorem dX8_spares_99 : decode cX8_spares 99 = .ok (.ifCond .le 10, 3) := by decide +kernel
theorem sX8_spares_99 : ab_X rom K cX8_spares 6 1 99 ls (.int x :: st) hp = if 0 < x then ab_X rom K cX8_spares 6 1 102 ls st hp else ab_X rom K cX8_spares 6 1 109 ls st hp := ax_if_le dX8_spares_99 (by decide) rfl
theorem dX8_spares_102 : decode cX8_spares 102 = .ok (.iload_n 3, 1) := by decide +kernel
theorem sX8_spares_102 : ab_X rom K cX8_spares 6 1 102 (v0 :: v1 :: v2 :: .int x :: ls) st hp = ab_X rom K cX8_spares 6 1 103 (v0 :: v1 :: v2 :: .int x :: ls) (.int x :: st) hp := ax_iload_n dX8_spares_102 rfl rfl
theorem dX8_spares_103 : decode cX8_spares 103 = .ok (.iconst 1, 1) := by decide +kernel
theorem sX8_spares_103 : ab_X rom K cX8_spares 6 1 103 ls st hp = ab_X rom K cX8_spares 6 1 104 ls (.int 1 :: st) hp := ax_iconst dX8_spares_103 (by decide) rfl
theorem dX8_spares_104 : decode cX8_spares 104 = .ok (.iload 4, 2) := by decide +kernel
theorem sX8_spares_104 : ab_X rom K cX8_spares 6 1 104 (v0 :: v1 :: v2 :: v3 :: .int x :: ls) st hp = ab_X rom K cX8_spares 6 1 106 (v0 :: v1 :: v2 :: v3 :: .int x :: ls) (.int x :: st) hp := ax_iload dX8_spares_104 rfl rfl
theorem dX8_spares_106 : decode cX8_spares 106 = .ok (.ishl, 1) := by decide +kernel
theorem sX8_spares_106 : ab_X rom K cX8_spares 6 1 106 ls (.int y :: .int x :: st) hp = ab_X rom K cX8_spares 6 1 107 ls (.int (x <<< (y &&& 31)) :: st) hp := ax_ishl dX8_spares_106 rfl
theorem dX8_spares_107 : decode cX8_spares 107 = .ok (.ior, 1) := by decide +kernel
theorem sX8_spares_107 : ab_X rom K cX8_spares 6 1 107 ls (.int y :: .int x :: st) hp = ab_X rom K cX8_spares 6 1 108 ls (.int (x ||| y) :: st) hp := ax_ior dX8_spares_107 rfl
theorem dX8_spares_108 : decode cX8_spares 108 = .ok (.istore_n 3, 1) := by decide +kernel
theorem sX8_spares_108i : ab_X rom K cX8_spares 6 1 108 (v0 :: v1 :: .int y :: v3 :: ls) (.int x :: st) hp = ab_X rom K cX8_spares 6 1 109 (v0 :: v1 :: .int y :: .int x :: ls) st hp := ax_istore_n dX8_spares_108 (ax_lt (v := v3) rfl) (ab_nl_c1 (j := 2) (v := .int y) rfl (ab_c1_int _)) rfl rfl
theorem sX8_spares_108r : ab_X rom K cX8_spares 6 1 108 (v0 :: v1 :: .ref a2 :: v3 :: ls) (.int x :: st) hp = ab_X rom K cX8_spares 6 1 109 (v0 :: v1 :: .ref a2 :: .int x :: ls) st hp := ax_istore_n dX8_spares_108 (ax_lt (v := v3) rfl) (ab_nl_c1 (j := 2) (v := .ref a2) rfl (ab_c1_ref _)) rfl rfl
theorem sX8_spares_108n : ab_X rom K cX8_spares 6 1 108 (v0 :: v1 :: .null :: v3 :: ls) (.int x :: st) hp = ab_X rom K cX8_spares 6 1 109 (v0 :: v1 :: .null :: .int x :: ls) st hp := ax_istore_n dX8_spares_108 (ax_lt (v := v3) rfl) (ab_nl_c1 (j := 2) (v := .null) rfl ab_c1_null) rfl rfl
theorem dX8_spares_109 : decode cX8_spares 109 = .ok (.iinc 4 1, 3) := by decide +kernel
theorem sX8_spares_109i : ab_X rom K cX8_spares 6 1 109 (v0 :: v1 :: v2 :: .int y :: .int x :: ls) st hp = ab_X rom K cX8_spares 6 1 112 (v0 :: v1 :: v2 :: .int y :: .int (x + 1) :: ls) st hp := ax_iinc dX8_spares_109 rfl (ab_nl_c1 (j := 3) (v := .int y) rfl (ab_c1_int _)) (by decide) rfl rfl
theorem sX8_spares_109r : ab_X rom K cX8_spares 6 1 109 (v0 :: v1 :: v2 :: .ref a2 :: .int x :: ls) st hp = ab_X rom K cX8_spares 6 1 112 (v0 :: v1 :: v2 :: .ref a2 :: .int (x + 1) :: ls) st hp := ax_iinc dX8_spares_109 rfl (ab_nl_c1 (j := 3) (v := .ref a2) rfl (ab_c1_ref _)) (by decide) rfl rfl
theorem sX8_spares_109n : ab_X rom K cX8_spares 6 1 109 (v0 :: v1 :: v2 :: .null :: .int x :: ls) st hp = ab_X rom K cX8_spares 6 1 112 (v0 :: v1 :: v2 :: .null :: .int (x + 1) :: ls) st hp := ax_iinc dX8_spares_109 rfl (ab_nl_c1 (j := 3) (v := .null) rfl ab_c1_null) (by decide) rfl rfl
theorem dX8_spares_112 : decode cX8_spares 112 = .ok (.goto (-89), 3) := by decide +kernel
theorem sX8_spares_112 : ab_X rom K cX8_spares 6 1 112 ls st hp = ab_X rom K cX8_spares 6 1 23 ls st hp := ax_goto dX8_spares_112 (by decide)
theorem dX8_spares_115 : decode cX8_spares 115 = .ok (.iload_n 3, 1) := by decide +kernel
theorem sX8_spares_115 : ab_X rom K cX8_spares 6 1 115 (v0 :: v1 :: v2 :: .int x :: ls) st hp = ab_X rom K cX8_spares 6 1 116 (v0 :: v1 :: v2 :: .int x :: ls) (.int x :: st) hp := ax_iload_n dX8_spares_115 rfl rfl
theorem dX8_spares_116 : decode cX8_spares 116 = .ok (.ireturn, 1) := by decide +kernel
theorem sX8_spares_116 : ab_X rom K cX8_spares 6 1 116 ls [.int x] hp = some (some (.int x), hp) := ax_iret dX8_spares_116 rfl
theorem tX8_sprouts : ab_mT[117]? = some (yX8_sprouts, cX8_sprouts, 5, 1, 6) := by decide +kernel
theorem mX8_sprouts {d : Nat} {a0 : Nat} {x0 : Int32} : ab_M rom (d + 1) 117 [.ref a0, .int x0] hp = ab_X rom (ab_M rom d) cX8_sprouts 6 1 0 [.ref a0, .int x0, .null, .null, .null] [] hp := ab_M_eq tX8_sprouts (Nat.le_of_ble_eq_true rfl)
theorem dX8_sprouts_0 : decode cX8_sprouts 0 = .ok (.aload_n 0, 1) := by decide +kernel
theorem sX8_sprouts_0 : ab_X rom K cX8_sprouts 6 1 0 (.ref a :: ls) st hp = ab_X rom K cX8_sprouts 6 1 1 (.ref a :: ls) (.ref a :: st) hp := ax_aload_n dX8_sprouts_0 rfl rfl
theorem dX8_sprouts_1 : decode cX8_sprouts 1 = .ok (.iload_n 1, 1) := by decide +kernel
theorem sX8_sprouts_1 : ab_X rom K cX8_sprouts 6 1 1 (v0 :: .int x :: ls) st hp = ab_X rom K cX8_sprouts 6 1 2 (v0 :: .int x :: ls) (.int x :: st) hp := ax_iload_n dX8_sprouts_1 rfl rfl
theorem dX8_sprouts_2 : decode cX8_sprouts 2 = .ok (.invokevirtual 99, 3) := by decide +kernel
theorem sX8_sprouts_2_0 : ab_X rom K cX8_sprouts 6 1 2 ls [w1, .ref a] hp = if ab_iso hp a 6 = true then (K 95 (.ref a :: [w1]) hp).bind (fun o => ab_X rom K cX8_sprouts 6 1 5 ls (o.1.toList ++ []) o.2) else none := ay_virtual (as := [w1]) (st := []) dX8_sprouts_2 kc_6_99 rfl rfl (Nat.le_of_ble_eq_true rfl)
theorem sX8_sprouts_2_1 : ab_X rom K cX8_sprouts 6 1 2 ls [w1, .ref a, v0] hp = if ab_iso hp a 6 = true then (K 95 (.ref a :: [w1]) hp).bind (fun o => ab_X rom K cX8_sprouts 6 1 5 ls (o.1.toList ++ [v0]) o.2) else none := ay_virtual (as := [w1]) (st := [v0]) dX8_sprouts_2 kc_6_99 rfl rfl (Nat.le_of_ble_eq_true rfl)
theorem sX8_sprouts_2_2 : ab_X rom K cX8_sprouts 6 1 2 ls [w1, .ref a, v0, v1] hp = if ab_iso hp a 6 = true then (K 95 (.ref a :: [w1]) hp).bind (fun o => ab_X rom K cX8_sprouts 6 1 5 ls (o.1.toList ++ [v0, v1]) o.2) else none := ay_virtual (as := [w1]) (st := [v0, v1]) dX8_sprouts_2 kc_6_99 rfl rfl (Nat.le_of_ble_eq_true rfl)
theorem sX8_sprouts_2_3 : ab_X rom K cX8_sprouts 6 1 2 ls [w1, .ref a, v0, v1, v2] hp = if ab_iso hp a 6 = true then (K 95 (.ref a :: [w1]) hp).bind (fun o => ab_X rom K cX8_sprouts 6 1 5 ls (o.1.toList ++ [v0, v1, v2]) o.2) else none := ay_virtual (as := [w1]) (st := [v0, v1, v2]) dX8_sprouts_2 kc_6_99 rfl rfl (Nat.le_of_ble_eq_true rfl)
theorem dX8_sprouts_5 : decode cX8_sprouts 5 = .ok (.ifCond .ne 6, 3) := by decide +kernel
theorem sX8_sprouts_5 : ab_X rom K cX8_sprouts 6 1 5 ls (.int x :: st) hp = if x = 0 then ab_X rom K cX8_sprouts 6 1 8 ls st hp else ab_X rom K cX8_sprouts 6 1 11 ls st hp := ax_if_ne dX8_sprouts_5 (by decide) rfl
theorem dX8_sprouts_8 : decode cX8_sprouts 8 = .ok (.bipush (-2), 2) := by decide +kernel
theorem sX8_sprouts_8 : ab_X rom K cX8_sprouts 6 1 8 ls st hp = ab_X rom K cX8_sprouts 6 1 10 ls (.int (-2) :: st) hp := ax_bipush dX8_sprouts_8 (by decide) rfl
theorem dX8_sprouts_10 : decode cX8_sprouts 10 = .ok (.ireturn, 1) := by decide +kernel
theorem sX8_sprouts_10 : ab_X rom K cX8_sprouts 6 1 10 ls [.int x] hp = some (some (.int x), hp) := ax_iret dX8_sprouts_10 rfl
theorem dX8_sprouts_11 : decode cX8_sprouts 11 = .ok (.aload_n 0, 1) := by decide +kernel
theorem sX8_sprouts_11 : ab_X rom K cX8_sprouts 6 1 11 (.ref a :: ls) st hp = ab_X rom K cX8_sprouts 6 1 12 (.ref a :: ls) (.ref a :: st) hp := ax_aload_n dX8_sprouts_11 rfl rfl
theorem dX8_sprouts_12 : decode cX8_sprouts 12 = .ok (.getfield 21, 3) := by decide +kernel
theorem sX8_sprouts_12 : ab_X rom K cX8_sprouts 6 1 12 ls (.ref a :: st) hp = (ab_fld hp a 6 3).bind (fun v => ab_X rom K cX8_sprouts 6 1 15 ls (v :: st) hp) := ax_getfield dX8_sprouts_12 kf_6_21 rfl
theorem dX8_sprouts_15 : decode cX8_sprouts 15 = .ok (.iload_n 1, 1) := by decide +kernel
theorem sX8_sprouts_15 : ab_X rom K cX8_sprouts 6 1 15 (v0 :: .int x :: ls) st hp = ab_X rom K cX8_sprouts 6 1 16 (v0 :: .int x :: ls) (.int x :: st) hp := ax_iload_n dX8_sprouts_15 rfl rfl
theorem dX8_sprouts_16 : decode cX8_sprouts 16 = .ok (.aaload, 1) := by decide +kernel
theorem sX8_sprouts_16 : ab_X rom K cX8_sprouts 6 1 16 ls (.int x :: .ref a :: st) hp = (ab_rrd hp a x).bind (fun v => ab_X rom K cX8_sprouts 6 1 17 ls (.ref v :: st) hp) := ax_aaload dX8_sprouts_16 rfl
theorem dX8_sprouts_17 : decode cX8_sprouts 17 = .ok (.astore_n 2, 1) := by decide +kernel
theorem sX8_sprouts_17i : ab_X rom K cX8_sprouts 6 1 17 (v0 :: .int y :: v2 :: ls) (.ref a :: st) hp = ab_X rom K cX8_sprouts 6 1 18 (v0 :: .int y :: .ref a :: ls) st hp := ax_astore_n dX8_sprouts_17 (ax_lt (v := v2) rfl) (ab_nl_c1 (j := 1) (v := .int y) rfl (ab_c1_int _)) rfl rfl
theorem sX8_sprouts_17r : ab_X rom K cX8_sprouts 6 1 17 (v0 :: .ref a2 :: v2 :: ls) (.ref a :: st) hp = ab_X rom K cX8_sprouts 6 1 18 (v0 :: .ref a2 :: .ref a :: ls) st hp := ax_astore_n dX8_sprouts_17 (ax_lt (v := v2) rfl) (ab_nl_c1 (j := 1) (v := .ref a2) rfl (ab_c1_ref _)) rfl rfl
theorem sX8_sprouts_17n : ab_X rom K cX8_sprouts 6 1 17 (v0 :: .null :: v2 :: ls) (.ref a :: st) hp = ab_X rom K cX8_sprouts 6 1 18 (v0 :: .null :: .ref a :: ls) st hp := ax_astore_n dX8_sprouts_17 (ax_lt (v := v2) rfl) (ab_nl_c1 (j := 1) (v := .null) rfl ab_c1_null) rfl rfl
theorem dX8_sprouts_18 : decode cX8_sprouts 18 = .ok (.aload_n 2, 1) := by decide +kernel
theorem sX8_sprouts_18 : ab_X rom K cX8_sprouts 6 1 18 (v0 :: v1 :: .ref a :: ls) st hp = ab_X rom K cX8_sprouts 6 1 19 (v0 :: v1 :: .ref a :: ls) (.ref a :: st) hp := ax_aload_n dX8_sprouts_18 rfl rfl
theorem dX8_sprouts_19 : decode cX8_sprouts 19 = .ok (.getfield 102, 3) := by decide +kernel
theorem sX8_sprouts_19 : ab_X rom K cX8_sprouts 6 1 19 ls (.ref a :: st) hp = (ab_fld hp a 1 0).bind (fun v => ab_X rom K cX8_sprouts 6 1 22 ls (v :: st) hp) := ax_getfield dX8_sprouts_19 kf_6_102 rfl
theorem dX8_sprouts_22 : decode cX8_sprouts 22 = .ok (.bipush 7, 2) := by decide +kernel
theorem sX8_sprouts_22 : ab_X rom K cX8_sprouts 6 1 22 ls st hp = ab_X rom K cX8_sprouts 6 1 24 ls (.int 7 :: st) hp := ax_bipush dX8_sprouts_22 (by decide) rfl
theorem dX8_sprouts_24 : decode cX8_sprouts 24 = .ok (.if_icmp .ge 12, 3) := by decide +kernel
theorem sX8_sprouts_24 : ab_X rom K cX8_sprouts 6 1 24 ls (.int y :: .int x :: st) hp = if x < y then ab_X rom K cX8_sprouts 6 1 27 ls st hp else ab_X rom K cX8_sprouts 6 1 36 ls st hp := ax_icmp_ge dX8_sprouts_24 (by decide) rfl
theorem dX8_sprouts_27 : decode cX8_sprouts 27 = .ok (.aload_n 2, 1) := by decide +kernel
theorem sX8_sprouts_27 : ab_X rom K cX8_sprouts 6 1 27 (v0 :: v1 :: .ref a :: ls) st hp = ab_X rom K cX8_sprouts 6 1 28 (v0 :: v1 :: .ref a :: ls) (.ref a :: st) hp := ax_aload_n dX8_sprouts_27 rfl rfl
theorem dX8_sprouts_28 : decode cX8_sprouts 28 = .ok (.getfield 89, 3) := by decide +kernel
theorem sX8_sprouts_28 : ab_X rom K cX8_sprouts 6 1 28 ls (.ref a :: st) hp = (ab_fld hp a 1 1).bind (fun v => ab_X rom K cX8_sprouts 6 1 31 ls (v :: st) hp) := ax_getfield dX8_sprouts_28 kf_6_89 rfl
theorem dX8_sprouts_31 : decode cX8_sprouts 31 = .ok (.bipush 10, 2) := by decide +kernel
theorem sX8_sprouts_31 : ab_X rom K cX8_sprouts 6 1 31 ls st hp = ab_X rom K cX8_sprouts 6 1 33 ls (.int 10 :: st) hp := ax_bipush dX8_sprouts_31 (by decide) rfl
theorem dX8_sprouts_33 : decode cX8_sprouts 33 = .ok (.if_icmp .lt 6, 3) := by decide +kernel
theorem sX8_sprouts_33 : ab_X rom K cX8_sprouts 6 1 33 ls (.int y :: .int x :: st) hp = if x < y then ab_X rom K cX8_sprouts 6 1 39 ls st hp else ab_X rom K cX8_sprouts 6 1 36 ls st hp := ax_icmp_lt dX8_sprouts_33 (by decide) rfl
theorem dX8_sprouts_36 : decode cX8_sprouts 36 = .ok (.bipush (-5), 2) := by decide +kernel
theorem sX8_sprouts_36 : ab_X rom K cX8_sprouts 6 1 36 ls st hp = ab_X rom K cX8_sprouts 6 1 38 ls (.int (-5) :: st) hp := ax_bipush dX8_sprouts_36 (by decide) rfl
theorem dX8_sprouts_38 : decode cX8_sprouts 38 = .ok (.ireturn, 1) := by decide +kernel
theorem sX8_sprouts_38 : ab_X rom K cX8_sprouts 6 1 38 ls [.int x] hp = some (some (.int x), hp) := ax_iret dX8_sprouts_38 rfl
theorem dX8_sprouts_39 : decode cX8_sprouts 39 = .ok (.aload_n 2, 1) := by decide +kernel
theorem sX8_sprouts_39 : ab_X rom K cX8_sprouts 6 1 39 (v0 :: v1 :: .ref a :: ls) st hp = ab_X rom K cX8_sprouts 6 1 40 (v0 :: v1 :: .ref a :: ls) (.ref a :: st) hp := ax_aload_n dX8_sprouts_39 rfl rfl
theorem dX8_sprouts_40 : decode cX8_sprouts 40 = .ok (.iconst 0, 1) := by decide +kernel
theorem sX8_sprouts_40 : ab_X rom K cX8_sprouts 6 1 40 ls st hp = ab_X rom K cX8_sprouts 6 1 41 ls (.int 0 :: st) hp := ax_iconst dX8_sprouts_40 (by decide) rfl
theorem dX8_sprouts_41 : decode cX8_sprouts 41 = .ok (.invokevirtual 252, 3) := by decide +kernel
theorem sX8_sprouts_41_0 : ab_X rom K cX8_sprouts 6 1 41 ls [w1, .ref a] hp = if ab_iso hp a 1 = true then (K 30 (.ref a :: [w1]) hp).bind (fun o => ab_X rom K cX8_sprouts 6 1 44 ls (o.1.toList ++ []) o.2) else none := ay_virtual (as := [w1]) (st := []) dX8_sprouts_41 kc_6_252 rfl rfl (Nat.le_of_ble_eq_true rfl)
theorem sX8_sprouts_41_1 : ab_X rom K cX8_sprouts 6 1 41 ls [w1, .ref a, v0] hp = if ab_iso hp a 1 = true then (K 30 (.ref a :: [w1]) hp).bind (fun o => ab_X rom K cX8_sprouts 6 1 44 ls (o.1.toList ++ [v0]) o.2) else none := ay_virtual (as := [w1]) (st := [v0]) dX8_sprouts_41 kc_6_252 rfl rfl (Nat.le_of_ble_eq_true rfl)
theorem sX8_sprouts_41_2 : ab_X rom K cX8_sprouts 6 1 41 ls [w1, .ref a, v0, v1] hp = if ab_iso hp a 1 = true then (K 30 (.ref a :: [w1]) hp).bind (fun o => ab_X rom K cX8_sprouts 6 1 44 ls (o.1.toList ++ [v0, v1]) o.2) else none := ay_virtual (as := [w1]) (st := [v0, v1]) dX8_sprouts_41 kc_6_252 rfl rfl (Nat.le_of_ble_eq_true rfl)
theorem sX8_sprouts_41_3 : ab_X rom K cX8_sprouts 6 1 41 ls [w1, .ref a, v0, v1, v2] hp = if ab_iso hp a 1 = true then (K 30 (.ref a :: [w1]) hp).bind (fun o => ab_X rom K cX8_sprouts 6 1 44 ls (o.1.toList ++ [v0, v1, v2]) o.2) else none := ay_virtual (as := [w1]) (st := [v0, v1, v2]) dX8_sprouts_41 kc_6_252 rfl rfl (Nat.le_of_ble_eq_true rfl)
theorem dX8_sprouts_44 : decode cX8_sprouts 44 = .ok (.istore_n 3, 1) := by decide +kernel
theorem sX8_sprouts_44i : ab_X rom K cX8_sprouts 6 1 44 (v0 :: v1 :: .int y :: v3 :: ls) (.int x :: st) hp = ab_X rom K cX8_sprouts 6 1 45 (v0 :: v1 :: .int y :: .int x :: ls) st hp := ax_istore_n dX8_sprouts_44 (ax_lt (v := v3) rfl) (ab_nl_c1 (j := 2) (v := .int y) rfl (ab_c1_int _)) rfl rfl
theorem sX8_sprouts_44r : ab_X rom K cX8_sprouts 6 1 44 (v0 :: v1 :: .ref a2 :: v3 :: ls) (.int x :: st) hp = ab_X rom K cX8_sprouts 6 1 45 (v0 :: v1 :: .ref a2 :: .int x :: ls) st hp := ax_istore_n dX8_sprouts_44 (ax_lt (v := v3) rfl) (ab_nl_c1 (j := 2) (v := .ref a2) rfl (ab_c1_ref _)) rfl rfl
theorem sX8_sprouts_44n : ab_X rom K cX8_sprouts 6 1 44 (v0 :: v1 :: .null :: v3 :: ls) (.int x :: st) hp = ab_X rom K cX8_sprouts 6 1 45 (v0 :: v1 :: .null :: .int x :: ls) st hp := ax_istore_n dX8_sprouts_44 (ax_lt (v := v3) rfl) (ab_nl_c1 (j := 2) (v := .null) rfl ab_c1_null) rfl rfl
theorem dX8_sprouts_45 : decode cX8_sprouts 45 = .ok (.iload_n 3, 1) := by decide +kernel
theorem sX8_sprouts_45 : ab_X rom K cX8_sprouts 6 1 45 (v0 :: v1 :: v2 :: .int x :: ls) st hp = ab_X rom K cX8_sprouts 6 1 46 (v0 :: v1 :: v2 :: .int x :: ls) (.int x :: st) hp := ax_iload_n dX8_sprouts_45 rfl rfl
theorem dX8_sprouts_46 : decode cX8_sprouts 46 = .ok (.iconst (-1), 1) := by decide +kernel
theorem sX8_sprouts_46 : ab_X rom K cX8_sprouts 6 1 46 ls st hp = ab_X rom K cX8_sprouts 6 1 47 ls (.int (-1) :: st) hp := ax_iconst dX8_sprouts_46 (by decide) rfl
theorem dX8_sprouts_47 : decode cX8_sprouts 47 = .ok (.if_icmp .eq 11, 3) := by decide +kernel
theorem sX8_sprouts_47 : ab_X rom K cX8_sprouts 6 1 47 ls (.int y :: .int x :: st) hp = if x = y then ab_X rom K cX8_sprouts 6 1 58 ls st hp else ab_X rom K cX8_sprouts 6 1 50 ls st hp := ax_icmp_eq dX8_sprouts_47 (by decide) rfl
theorem dX8_sprouts_50 : decode cX8_sprouts 50 = .ok (.aload_n 2, 1) := by decide +kernel
theorem sX8_sprouts_50 : ab_X rom K cX8_sprouts 6 1 50 (v0 :: v1 :: .ref a :: ls) st hp = ab_X rom K cX8_sprouts 6 1 51 (v0 :: v1 :: .ref a :: ls) (.ref a :: st) hp := ax_aload_n dX8_sprouts_50 rfl rfl
theorem dX8_sprouts_51 : decode cX8_sprouts 51 = .ok (.iconst 0, 1) := by decide +kernel
theorem sX8_sprouts_51 : ab_X rom K cX8_sprouts 6 1 51 ls st hp = ab_X rom K cX8_sprouts 6 1 52 ls (.int 0 :: st) hp := ax_iconst dX8_sprouts_51 (by decide) rfl
theorem dX8_sprouts_52 : decode cX8_sprouts 52 = .ok (.invokestatic 177, 3) := by decide +kernel
theorem sX8_sprouts_52_0 : ab_X rom K cX8_sprouts 6 1 52 ls [w2, w1] hp = (K 251 [w1, w2] hp).bind (fun o => ab_X rom K cX8_sprouts 6 1 55 ls (o.1.toList ++ []) o.2) := ax_static (as := [w1, w2]) (st := []) dX8_sprouts_52 kc_6_177 rfl rfl (Nat.le_of_ble_eq_true rfl)
theorem sX8_sprouts_52_1 : ab_X rom K cX8_sprouts 6 1 52 ls [w2, w1, v0] hp = (K 251 [w1, w2] hp).bind (fun o => ab_X rom K cX8_sprouts 6 1 55 ls (o.1.toList ++ [v0]) o.2) := ax_static (as := [w1, w2]) (st := [v0]) dX8_sprouts_52 kc_6_177 rfl rfl (Nat.le_of_ble_eq_true rfl)
theorem sX8_sprouts_52_2 : ab_X rom K cX8_sprouts 6 1 52 ls [w2, w1, v0, v1] hp = (K 251 [w1, w2] hp).bind (fun o => ab_X rom K cX8_sprouts 6 1 55 ls (o.1.toList ++ [v0, v1]) o.2) := ax_static (as := [w1, w2]) (st := [v0, v1]) dX8_sprouts_52 kc_6_177 rfl rfl (Nat.le_of_ble_eq_true rfl)
theorem sX8_sprouts_52_3 : ab_X rom K cX8_sprouts 6 1 52 ls [w2, w1, v0, v1, v2] hp = (K 251 [w1, w2] hp).bind (fun o => ab_X rom K cX8_sprouts 6 1 55 ls (o.1.toList ++ [v0, v1, v2]) o.2) := ax_static (as := [w1, w2]) (st := [v0, v1, v2]) dX8_sprouts_52 kc_6_177 rfl rfl (Nat.le_of_ble_eq_true rfl)
theorem dX8_sprouts_55 : decode cX8_sprouts 55 = .ok (.ifCond .eq 6, 3) := by decide +kernel
theorem sX8_sprouts_55 : ab_X rom K cX8_sprouts 6 1 55 ls (.int x :: st) hp = if x = 0 then ab_X rom K cX8_sprouts 6 1 61 ls st hp else ab_X rom K cX8_sprouts 6 1 58 ls st hp := ax_if_eq dX8_sprouts_55 (by decide) rfl
theorem dX8_sprouts_58 : decode cX8_sprouts 58 = .ok (.bipush (-6), 2) := by decide +kernel
theorem sX8_sprouts_58 : ab_X rom K cX8_sprouts 6 1 58 ls st hp = ab_X rom K cX8_sprouts 6 1 60 ls (.int (-6) :: st) hp := ax_bipush dX8_sprouts_58 (by decide) rfl
theorem dX8_sprouts_60 : decode cX8_sprouts 60 = .ok (.ireturn, 1) := by decide +kernel
theorem sX8_sprouts_60 : ab_X rom K cX8_sprouts 6 1 60 ls [.int x] hp = some (some (.int x), hp) := ax_iret dX8_sprouts_60 rfl
theorem dX8_sprouts_61 : decode cX8_sprouts 61 = .ok (.aload_n 0, 1) := by decide +kernel
theorem sX8_sprouts_61 : ab_X rom K cX8_sprouts 6 1 61 (.ref a :: ls) st hp = ab_X rom K cX8_sprouts 6 1 62 (.ref a :: ls) (.ref a :: st) hp := ax_aload_n dX8_sprouts_61 rfl rfl
theorem dX8_sprouts_62 : decode cX8_sprouts 62 = .ok (.getfield 42, 3) := by decide +kernel
theorem sX8_sprouts_62 : ab_X rom K cX8_sprouts 6 1 62 ls (.ref a :: st) hp = (ab_fld hp a 6 5).bind (fun v => ab_X rom K cX8_sprouts 6 1 65 ls (v :: st) hp) := ax_getfield dX8_sprouts_62 kf_6_42 rfl
theorem dX8_sprouts_65 : decode cX8_sprouts 65 = .ok (.iload_n 1, 1) := by decide +kernel
theorem sX8_sprouts_65 : ab_X rom K cX8_sprouts 6 1 65 (v0 :: .int x :: ls) st hp = ab_X rom K cX8_sprouts 6 1 66 (v0 :: .int x :: ls) (.int x :: st) hp := ax_iload_n dX8_sprouts_65 rfl rfl
theorem dX8_sprouts_66 : decode cX8_sprouts 66 = .ok (.aload_n 2, 1) := by decide +kernel
theorem sX8_sprouts_66 : ab_X rom K cX8_sprouts 6 1 66 (v0 :: v1 :: .ref a :: ls) st hp = ab_X rom K cX8_sprouts 6 1 67 (v0 :: v1 :: .ref a :: ls) (.ref a :: st) hp := ax_aload_n dX8_sprouts_66 rfl rfl
theorem dX8_sprouts_67 : decode cX8_sprouts 67 = .ok (.invokevirtual 137, 3) := by decide +kernel
theorem sX8_sprouts_67_0 : ab_X rom K cX8_sprouts 6 1 67 ls [w2, w1, .ref a] hp = if ab_iso hp a 2 = true then (K 37 (.ref a :: [w1, w2]) hp).bind (fun o => ab_X rom K cX8_sprouts 6 1 70 ls (o.1.toList ++ []) o.2) else none := ay_virtual (as := [w1, w2]) (st := []) dX8_sprouts_67 kc_6_137 rfl rfl (Nat.le_of_ble_eq_true rfl)
theorem sX8_sprouts_67_1 : ab_X rom K cX8_sprouts 6 1 67 ls [w2, w1, .ref a, v0] hp = if ab_iso hp a 2 = true then (K 37 (.ref a :: [w1, w2]) hp).bind (fun o => ab_X rom K cX8_sprouts 6 1 70 ls (o.1.toList ++ [v0]) o.2) else none := ay_virtual (as := [w1, w2]) (st := [v0]) dX8_sprouts_67 kc_6_137 rfl rfl (Nat.le_of_ble_eq_true rfl)
theorem sX8_sprouts_67_2 : ab_X rom K cX8_sprouts 6 1 67 ls [w2, w1, .ref a, v0, v1] hp = if ab_iso hp a 2 = true then (K 37 (.ref a :: [w1, w2]) hp).bind (fun o => ab_X rom K cX8_sprouts 6 1 70 ls (o.1.toList ++ [v0, v1]) o.2) else none := ay_virtual (as := [w1, w2]) (st := [v0, v1]) dX8_sprouts_67 kc_6_137 rfl rfl (Nat.le_of_ble_eq_true rfl)
theorem sX8_sprouts_67_3 : ab_X rom K cX8_sprouts 6 1 67 ls [w2, w1, .ref a, v0, v1, v2] hp = if ab_iso hp a 2 = true then (K 37 (.ref a :: [w1, w2]) hp).bind (fun o => ab_X rom K cX8_sprouts 6 1 70 ls (o.1.toList ++ [v0, v1, v2]) o.2) else none := ay_virtual (as := [w1, w2]) (st := [v0, v1, v2]) dX8_sprouts_67 kc_6_137 rfl rfl (Nat.le_of_ble_eq_true rfl)
theorem dX8_sprouts_70 : decode cX8_sprouts 70 = .ok (.aload_n 2, 1) := by decide +kernel
theorem sX8_sprouts_70 : ab_X rom K cX8_sprouts 6 1 70 (v0 :: v1 :: .ref a :: ls) st hp = ab_X rom K cX8_sprouts 6 1 71 (v0 :: v1 :: .ref a :: ls) (.ref a :: st) hp := ax_aload_n dX8_sprouts_70 rfl rfl
theorem dX8_sprouts_71 : decode cX8_sprouts 71 = .ok (.getfield 102, 3) := by decide +kernel
theorem sX8_sprouts_71 : ab_X rom K cX8_sprouts 6 1 71 ls (.ref a :: st) hp = (ab_fld hp a 1 0).bind (fun v => ab_X rom K cX8_sprouts 6 1 74 ls (v :: st) hp) := ax_getfield dX8_sprouts_71 kf_6_102 rfl
theorem dX8_sprouts_74 : decode cX8_sprouts 74 = .ok (.istore 4, 2) := by decide +kernel
theorem sX8_sprouts_74i : ab_X rom K cX8_sprouts 6 1 74 (v0 :: v1 :: v2 :: .int y :: v4 :: ls) (.int x :: st) hp = ab_X rom K cX8_sprouts 6 1 76 (v0 :: v1 :: v2 :: .int y :: .int x :: ls) st hp := ax_istore dX8_sprouts_74 (ax_lt (v := v4) rfl) (ab_nl_c1 (j := 3) (v := .int y) rfl (ab_c1_int _)) rfl rfl
theorem sX8_sprouts_74r : ab_X rom K cX8_sprouts 6 1 74 (v0 :: v1 :: v2 :: .ref a2 :: v4 :: ls) (.int x :: st) hp = ab_X rom K cX8_sprouts 6 1 76 (v0 :: v1 :: v2 :: .ref a2 :: .int x :: ls) st hp := ax_istore dX8_sprouts_74 (ax_lt (v := v4) rfl) (ab_nl_c1 (j := 3) (v := .ref a2) rfl (ab_c1_ref _)) rfl rfl
theorem sX8_sprouts_74n : ab_X rom K cX8_sprouts 6 1 74 (v0 :: v1 :: v2 :: .null :: v4 :: ls) (.int x :: st) hp = ab_X rom K cX8_sprouts 6 1 76 (v0 :: v1 :: v2 :: .null :: .int x :: ls) st hp := ax_istore dX8_sprouts_74 (ax_lt (v := v4) rfl) (ab_nl_c1 (j := 3) (v := .null) rfl ab_c1_null) rfl rfl
theorem dX8_sprouts_76 : decode cX8_sprouts 76 = .ok (.aload_n 2, 1) := by decide +kernel
theorem sX8_sprouts_76 : ab_X rom K cX8_sprouts 6 1 76 (v0 :: v1 :: .ref a :: ls) st hp = ab_X rom K cX8_sprouts 6 1 77 (v0 :: v1 :: .ref a :: ls) (.ref a :: st) hp := ax_aload_n dX8_sprouts_76 rfl rfl
theorem dX8_sprouts_77 : decode cX8_sprouts 77 = .ok (.iload 4, 2) := by decide +kernel
theorem sX8_sprouts_77 : ab_X rom K cX8_sprouts 6 1 77 (v0 :: v1 :: v2 :: v3 :: .int x :: ls) st hp = ab_X rom K cX8_sprouts 6 1 79 (v0 :: v1 :: v2 :: v3 :: .int x :: ls) (.int x :: st) hp := ax_iload dX8_sprouts_77 rfl rfl
theorem dX8_sprouts_79 : decode cX8_sprouts 79 = .ok (.iconst 1, 1) := by decide +kernel
theorem sX8_sprouts_79 : ab_X rom K cX8_sprouts 6 1 79 ls st hp = ab_X rom K cX8_sprouts 6 1 80 ls (.int 1 :: st) hp := ax_iconst dX8_sprouts_79 (by decide) rfl
theorem dX8_sprouts_80 : decode cX8_sprouts 80 = .ok (.iadd, 1) := by decide +kernel
theorem sX8_sprouts_80 : ab_X rom K cX8_sprouts 6 1 80 ls (.int y :: .int x :: st) hp = ab_X rom K cX8_sprouts 6 1 81 ls (.int (x + y) :: st) hp := ax_iadd dX8_sprouts_80 rfl
theorem dX8_sprouts_81 : decode cX8_sprouts 81 = .ok (.putfield 102, 3) := by decide +kernel
theorem sX8_sprouts_81 : ab_X rom K cX8_sprouts 6 1 81 ls (.int x :: .ref a :: st) hp = (ab_fpt hp a 1 0 (.int x)).bind (fun hp' => ab_X rom K cX8_sprouts 6 1 84 ls st hp') := ax_putfield dX8_sprouts_81 kf_6_102 rfl (Or.inl rfl) rfl
theorem dX8_sprouts_84 : decode cX8_sprouts 84 = .ok (.aload_n 2, 1) := by decide +kernel
theorem sX8_sprouts_84 : ab_X rom K cX8_sprouts 6 1 84 (v0 :: v1 :: .ref a :: ls) st hp = ab_X rom K cX8_sprouts 6 1 85 (v0 :: v1 :: .ref a :: ls) (.ref a :: st) hp := ax_aload_n dX8_sprouts_84 rfl rfl
theorem dX8_sprouts_85 : decode cX8_sprouts 85 = .ok (.getfield 152, 3) := by decide +kernel
theorem sX8_sprouts_85 : ab_X rom K cX8_sprouts 6 1 85 ls (.ref a :: st) hp = (ab_fld hp a 1 4).bind (fun v => ab_X rom K cX8_sprouts 6 1 88 ls (v :: st) hp) := ax_getfield dX8_sprouts_85 kf_6_152 rfl
theorem dX8_sprouts_88 : decode cX8_sprouts 88 = .ok (.iload 4, 2) := by decide +kernel
theorem sX8_sprouts_88 : ab_X rom K cX8_sprouts 6 1 88 (v0 :: v1 :: v2 :: v3 :: .int x :: ls) st hp = ab_X rom K cX8_sprouts 6 1 90 (v0 :: v1 :: v2 :: v3 :: .int x :: ls) (.int x :: st) hp := ax_iload dX8_sprouts_88 rfl rfl
theorem dX8_sprouts_90 : decode cX8_sprouts 90 = .ok (.aload_n 2, 1) := by decide +kernel
theorem sX8_sprouts_90 : ab_X rom K cX8_sprouts 6 1 90 (v0 :: v1 :: .ref a :: ls) st hp = ab_X rom K cX8_sprouts 6 1 91 (v0 :: v1 :: .ref a :: ls) (.ref a :: st) hp := ax_aload_n dX8_sprouts_90 rfl rfl
theorem dX8_sprouts_91 : decode cX8_sprouts 91 = .ok (.getfield 89, 3) := by decide +kernel
theorem sX8_sprouts_91 : ab_X rom K cX8_sprouts 6 1 91 ls (.ref a :: st) hp = (ab_fld hp a 1 1).bind (fun v => ab_X rom K cX8_sprouts 6 1 94 ls (v :: st) hp) := ax_getfield dX8_sprouts_91 kf_6_89 rfl
theorem dX8_sprouts_94 : decode cX8_sprouts 94 = .ok (.iconst 1, 1) := by decide +kernel
theorem sX8_sprouts_94 : ab_X rom K cX8_sprouts 6 1 94 ls st hp = ab_X rom K cX8_sprouts 6 1 95 ls (.int 1 :: st) hp := ax_iconst dX8_sprouts_94 (by decide) rfl
theorem dX8_sprouts_95 : decode cX8_sprouts 95 = .ok (.iadd, 1) := by decide +kernel
theorem sX8_sprouts_95 : ab_X rom K cX8_sprouts 6 1 95 ls (.int y :: .int x :: st) hp = ab_X rom K cX8_sprouts 6 1 96 ls (.int (x + y) :: st) hp := ax_iadd dX8_sprouts_95 rfl
theorem dX8_sprouts_96 : decode cX8_sprouts 96 = .ok (.iastore, 1) := by decide +kernel
theorem sX8_sprouts_96 : ab_X rom K cX8_sprouts 6 1 96 ls (.int y :: .int x :: .ref a :: st) hp = (ab_awr 0 hp a x y).bind (fun hp' => ab_X rom K cX8_sprouts 6 1 97 ls st hp') := ax_iastore dX8_sprouts_96 rfl
theorem dX8_sprouts_97 : decode cX8_sprouts 97 = .ok (.aload_n 2, 1) := by decide +kernel
theorem sX8_sprouts_97 : ab_X rom K cX8_sprouts 6 1 97 (v0 :: v1 :: .ref a :: ls) st hp = ab_X rom K cX8_sprouts 6 1 98 (v0 :: v1 :: .ref a :: ls) (.ref a :: st) hp := ax_aload_n dX8_sprouts_97 rfl rfl
theorem dX8_sprouts_98 : decode cX8_sprouts 98 = .ok (.iload_n 3, 1) := by decide +kernel
theorem sX8_sprouts_98 : ab_X rom K cX8_sprouts 6 1 98 (v0 :: v1 :: v2 :: .int x :: ls) st hp = ab_X rom K cX8_sprouts 6 1 99 (v0 :: v1 :: v2 :: .int x :: ls) (.int x :: st) hp := ax_iload_n dX8_sprouts_98 rfl rfl
theorem dX8_sprouts_99 : decode cX8_sprouts 99 = .ok (.iload 4, 2) := by decide +kernel
theorem sX8_sprouts_99 : ab_X rom K cX8_sprouts 6 1 99 (v0 :: v1 :: v2 :: v3 :: .int x :: ls) st hp = ab_X rom K cX8_sprouts 6 1 101 (v0 :: v1 :: v2 :: v3 :: .int x :: ls) (.int x :: st) hp := ax_iload dX8_sprouts_99 rfl rfl
theorem dX8_sprouts_101 : decode cX8_sprouts 101 = .ok (.invokevirtual 141, 3) := by decide +kernel
theorem sX8_sprouts_101_0 : ab_X rom K cX8_sprouts 6 1 101 ls [w2, w1, .ref a] hp = if ab_iso hp a 1 = true then (K 22 (.ref a :: [w1, w2]) hp).bind (fun o => ab_X rom K cX8_sprouts 6 1 104 ls (o.1.toList ++ []) o.2) else none := ay_virtual (as := [w1, w2]) (st := []) dX8_sprouts_101 kc_6_141 rfl rfl (Nat.le_of_ble_eq_true rfl)
theorem sX8_sprouts_101_1 : ab_X rom K cX8_sprouts 6 1 101 ls [w2, w1, .ref a, v0] hp = if ab_iso hp a 1 = true then (K 22 (.ref a :: [w1, w2]) hp).bind (fun o => ab_X rom K cX8_sprouts 6 1 104 ls (o.1.toList ++ [v0]) o.2) else none := ay_virtual (as := [w1, w2]) (st := [v0]) dX8_sprouts_101 kc_6_141 rfl rfl (Nat.le_of_ble_eq_true rfl)
theorem sX8_sprouts_101_2 : ab_X rom K cX8_sprouts 6 1 101 ls [w2, w1, .ref a, v0, v1] hp = if ab_iso hp a 1 = true then (K 22 (.ref a :: [w1, w2]) hp).bind (fun o => ab_X rom K cX8_sprouts 6 1 104 ls (o.1.toList ++ [v0, v1]) o.2) else none := ay_virtual (as := [w1, w2]) (st := [v0, v1]) dX8_sprouts_101 kc_6_141 rfl rfl (Nat.le_of_ble_eq_true rfl)
theorem sX8_sprouts_101_3 : ab_X rom K cX8_sprouts 6 1 101 ls [w2, w1, .ref a, v0, v1, v2] hp = if ab_iso hp a 1 = true then (K 22 (.ref a :: [w1, w2]) hp).bind (fun o => ab_X rom K cX8_sprouts 6 1 104 ls (o.1.toList ++ [v0, v1, v2]) o.2) else none := ay_virtual (as := [w1, w2]) (st := [v0, v1, v2]) dX8_sprouts_101 kc_6_141 rfl rfl (Nat.le_of_ble_eq_true rfl)
theorem dX8_sprouts_104 : decode cX8_sprouts 104 = .ok (.aload_n 2, 1) := by decide +kernel
theorem sX8_sprouts_104 : ab_X rom K cX8_sprouts 6 1 104 (v0 :: v1 :: .ref a :: ls) st hp = ab_X rom K cX8_sprouts 6 1 105 (v0 :: v1 :: .ref a :: ls) (.ref a :: st) hp := ax_aload_n dX8_sprouts_104 rfl rfl
theorem dX8_sprouts_105 : decode cX8_sprouts 105 = .ok (.getfield 102, 3) := by decide +kernel
theorem sX8_sprouts_105 : ab_X rom K cX8_sprouts 6 1 105 ls (.ref a :: st) hp = (ab_fld hp a 1 0).bind (fun v => ab_X rom K cX8_sprouts 6 1 108 ls (v :: st) hp) := ax_getfield dX8_sprouts_105 kf_6_102 rfl
theorem dX8_sprouts_108 : decode cX8_sprouts 108 = .ok (.ireturn, 1) := by decide +kernel
theorem sX8_sprouts_108 : ab_X rom K cX8_sprouts 6 1 108 ls [.int x] hp = some (some (.int x), hp) := ax_iret dX8_sprouts_108 rfl
theorem tX8_sure : ab_mT[118]? = some (yX8_sure, cX8_sure, 5, 1, 6) := by decide +kernel
theorem mX8_sure {d : Nat} {a0 : Nat} {x0 : Int32} {x1 : Int32} : ab_M rom (d + 1) 118 [.ref a0, .int x0, .int x1] hp = ab_X rom (ab_M rom d) cX8_sure 6 1 0 [.ref a0, .int x0, .int x1, .null, .null] [] hp := ab_M_eq tX8_sure (Nat.le_of_ble_eq_true rfl)
theorem dX8_sure_0 : decode cX8_sure 0 = .ok (.aload_n 0, 1) := by decide +kernel
theorem sX8_sure_0 : ab_X rom K cX8_sure 6 1 0 (.ref a :: ls) st hp = ab_X rom K cX8_sure 6 1 1 (.ref a :: ls) (.ref a :: st) hp := ax_aload_n dX8_sure_0 rfl rfl
theorem dX8_sure_1 : decode cX8_sure 1 = .ok (.iload_n 1, 1) := by decide +kernel
theorem sX8_sure_1 : ab_X rom K cX8_sure 6 1 1 (v0 :: .int x :: ls) st hp = ab_X rom K cX8_sure 6 1 2 (v0 :: .int x :: ls) (.int x :: st) hp := ax_iload_n dX8_sure_1 rfl rfl
theorem dX8_sure_2 : decode cX8_sure 2 = .ok (.invokevirtual 99, 3) := by decide +kernel
theorem sX8_sure_2_0 : ab_X rom K cX8_sure 6 1 2 ls [w1, .ref a] hp = if ab_iso hp a 6 = true then (K 95 (.ref a :: [w1]) hp).bind (fun o => ab_X rom K cX8_sure 6 1 5 ls (o.1.toList ++ []) o.2) else none := ay_virtual (as := [w1]) (st := []) dX8_sure_2 kc_6_99 rfl rfl (Nat.le_of_ble_eq_true rfl)
theorem sX8_sure_2_1 : ab_X rom K cX8_sure 6 1 2 ls [w1, .ref a, v0] hp = if ab_iso hp a 6 = true then (K 95 (.ref a :: [w1]) hp).bind (fun o => ab_X rom K cX8_sure 6 1 5 ls (o.1.toList ++ [v0]) o.2) else none := ay_virtual (as := [w1]) (st := [v0]) dX8_sure_2 kc_6_99 rfl rfl (Nat.le_of_ble_eq_true rfl)
theorem sX8_sure_2_2 : ab_X rom K cX8_sure 6 1 2 ls [w1, .ref a, v0, v1] hp = if ab_iso hp a 6 = true then (K 95 (.ref a :: [w1]) hp).bind (fun o => ab_X rom K cX8_sure 6 1 5 ls (o.1.toList ++ [v0, v1]) o.2) else none := ay_virtual (as := [w1]) (st := [v0, v1]) dX8_sure_2 kc_6_99 rfl rfl (Nat.le_of_ble_eq_true rfl)
theorem sX8_sure_2_3 : ab_X rom K cX8_sure 6 1 2 ls [w1, .ref a, v0, v1, v2] hp = if ab_iso hp a 6 = true then (K 95 (.ref a :: [w1]) hp).bind (fun o => ab_X rom K cX8_sure 6 1 5 ls (o.1.toList ++ [v0, v1, v2]) o.2) else none := ay_virtual (as := [w1]) (st := [v0, v1, v2]) dX8_sure_2 kc_6_99 rfl rfl (Nat.le_of_ble_eq_true rfl)
theorem dX8_sure_5 : decode cX8_sure 5 = .ok (.ifCond .eq 10, 3) := by decide +kernel
theorem sX8_sure_5 : ab_X rom K cX8_sure 6 1 5 ls (.int x :: st) hp = if x = 0 then ab_X rom K cX8_sure 6 1 15 ls st hp else ab_X rom K cX8_sure 6 1 8 ls st hp := ax_if_eq dX8_sure_5 (by decide) rfl
theorem dX8_sure_8 : decode cX8_sure 8 = .ok (.iload_n 2, 1) := by decide +kernel
theorem sX8_sure_8 : ab_X rom K cX8_sure 6 1 8 (v0 :: v1 :: .int x :: ls) st hp = ab_X rom K cX8_sure 6 1 9 (v0 :: v1 :: .int x :: ls) (.int x :: st) hp := ax_iload_n dX8_sure_8 rfl rfl
theorem dX8_sure_9 : decode cX8_sure 9 = .ok (.invokestatic 174, 3) := by decide +kernel
theorem sX8_sure_9_0 : ab_X rom K cX8_sure 6 1 9 ls [w1] hp = (K 100 [w1] hp).bind (fun o => ab_X rom K cX8_sure 6 1 12 ls (o.1.toList ++ []) o.2) := ax_static (as := [w1]) (st := []) dX8_sure_9 kc_6_174 rfl rfl (Nat.le_of_ble_eq_true rfl)
theorem sX8_sure_9_1 : ab_X rom K cX8_sure 6 1 9 ls [w1, v0] hp = (K 100 [w1] hp).bind (fun o => ab_X rom K cX8_sure 6 1 12 ls (o.1.toList ++ [v0]) o.2) := ax_static (as := [w1]) (st := [v0]) dX8_sure_9 kc_6_174 rfl rfl (Nat.le_of_ble_eq_true rfl)
theorem sX8_sure_9_2 : ab_X rom K cX8_sure 6 1 9 ls [w1, v0, v1] hp = (K 100 [w1] hp).bind (fun o => ab_X rom K cX8_sure 6 1 12 ls (o.1.toList ++ [v0, v1]) o.2) := ax_static (as := [w1]) (st := [v0, v1]) dX8_sure_9 kc_6_174 rfl rfl (Nat.le_of_ble_eq_true rfl)
theorem sX8_sure_9_3 : ab_X rom K cX8_sure 6 1 9 ls [w1, v0, v1, v2] hp = (K 100 [w1] hp).bind (fun o => ab_X rom K cX8_sure 6 1 12 ls (o.1.toList ++ [v0, v1, v2]) o.2) := ax_static (as := [w1]) (st := [v0, v1, v2]) dX8_sure_9 kc_6_174 rfl rfl (Nat.le_of_ble_eq_true rfl)
theorem dX8_sure_12 : decode cX8_sure 12 = .ok (.ifCond .ne 6, 3) := by decide +kernel
theorem sX8_sure_12 : ab_X rom K cX8_sure 6 1 12 ls (.int x :: st) hp = if x = 0 then ab_X rom K cX8_sure 6 1 15 ls st hp else ab_X rom K cX8_sure 6 1 18 ls st hp := ax_if_ne dX8_sure_12 (by decide) rfl
theorem dX8_sure_15 : decode cX8_sure 15 = .ok (.bipush (-2), 2) := by decide +kernel
theorem sX8_sure_15 : ab_X rom K cX8_sure 6 1 15 ls st hp = ab_X rom K cX8_sure 6 1 17 ls (.int (-2) :: st) hp := ax_bipush dX8_sure_15 (by decide) rfl
theorem dX8_sure_17 : decode cX8_sure 17 = .ok (.ireturn, 1) := by decide +kernel
theorem sX8_sure_17 : ab_X rom K cX8_sure 6 1 17 ls [.int x] hp = some (some (.int x), hp) := ax_iret dX8_sure_17 rfl
theorem dX8_sure_18 : decode cX8_sure 18 = .ok (.aload_n 0, 1) := by decide +kernel
theorem sX8_sure_18 : ab_X rom K cX8_sure 6 1 18 (.ref a :: ls) st hp = ab_X rom K cX8_sure 6 1 19 (.ref a :: ls) (.ref a :: st) hp := ax_aload_n dX8_sure_18 rfl rfl
theorem dX8_sure_19 : decode cX8_sure 19 = .ok (.aload_n 0, 1) := by decide +kernel
theorem sX8_sure_19 : ab_X rom K cX8_sure 6 1 19 (.ref a :: ls) st hp = ab_X rom K cX8_sure 6 1 20 (.ref a :: ls) (.ref a :: st) hp := ax_aload_n dX8_sure_19 rfl rfl
theorem dX8_sure_20 : decode cX8_sure 20 = .ok (.getfield 21, 3) := by decide +kernel
theorem sX8_sure_20 : ab_X rom K cX8_sure 6 1 20 ls (.ref a :: st) hp = (ab_fld hp a 6 3).bind (fun v => ab_X rom K cX8_sure 6 1 23 ls (v :: st) hp) := ax_getfield dX8_sure_20 kf_6_21 rfl
theorem dX8_sure_23 : decode cX8_sure 23 = .ok (.iload_n 1, 1) := by decide +kernel
theorem sX8_sure_23 : ab_X rom K cX8_sure 6 1 23 (v0 :: .int x :: ls) st hp = ab_X rom K cX8_sure 6 1 24 (v0 :: .int x :: ls) (.int x :: st) hp := ax_iload_n dX8_sure_23 rfl rfl
theorem dX8_sure_24 : decode cX8_sure 24 = .ok (.aaload, 1) := by decide +kernel
theorem sX8_sure_24 : ab_X rom K cX8_sure 6 1 24 ls (.int x :: .ref a :: st) hp = (ab_rrd hp a x).bind (fun v => ab_X rom K cX8_sure 6 1 25 ls (.ref v :: st) hp) := ax_aaload dX8_sure_24 rfl
theorem dX8_sure_25 : decode cX8_sure 25 = .ok (.iload_n 2, 1) := by decide +kernel
theorem sX8_sure_25 : ab_X rom K cX8_sure 6 1 25 (v0 :: v1 :: .int x :: ls) st hp = ab_X rom K cX8_sure 6 1 26 (v0 :: v1 :: .int x :: ls) (.int x :: st) hp := ax_iload_n dX8_sure_25 rfl rfl
theorem dX8_sure_26 : decode cX8_sure 26 = .ok (.invokevirtual 183, 3) := by decide +kernel
theorem sX8_sure_26_0 : ab_X rom K cX8_sure 6 1 26 ls [w2, w1, .ref a] hp = if ab_iso hp a 6 = true then (K 84 (.ref a :: [w1, w2]) hp).bind (fun o => ab_X rom K cX8_sure 6 1 29 ls (o.1.toList ++ []) o.2) else none := ay_virtual (as := [w1, w2]) (st := []) dX8_sure_26 kc_6_183 rfl rfl (Nat.le_of_ble_eq_true rfl)
theorem sX8_sure_26_1 : ab_X rom K cX8_sure 6 1 26 ls [w2, w1, .ref a, v0] hp = if ab_iso hp a 6 = true then (K 84 (.ref a :: [w1, w2]) hp).bind (fun o => ab_X rom K cX8_sure 6 1 29 ls (o.1.toList ++ [v0]) o.2) else none := ay_virtual (as := [w1, w2]) (st := [v0]) dX8_sure_26 kc_6_183 rfl rfl (Nat.le_of_ble_eq_true rfl)
theorem sX8_sure_26_2 : ab_X rom K cX8_sure 6 1 26 ls [w2, w1, .ref a, v0, v1] hp = if ab_iso hp a 6 = true then (K 84 (.ref a :: [w1, w2]) hp).bind (fun o => ab_X rom K cX8_sure 6 1 29 ls (o.1.toList ++ [v0, v1]) o.2) else none := ay_virtual (as := [w1, w2]) (st := [v0, v1]) dX8_sure_26 kc_6_183 rfl rfl (Nat.le_of_ble_eq_true rfl)
theorem sX8_sure_26_3 : ab_X rom K cX8_sure 6 1 26 ls [w2, w1, .ref a, v0, v1, v2] hp = if ab_iso hp a 6 = true then (K 84 (.ref a :: [w1, w2]) hp).bind (fun o => ab_X rom K cX8_sure 6 1 29 ls (o.1.toList ++ [v0, v1, v2]) o.2) else none := ay_virtual (as := [w1, w2]) (st := [v0, v1, v2]) dX8_sure_26 kc_6_183 rfl rfl (Nat.le_of_ble_eq_true rfl)
theorem dX8_sure_29 : decode cX8_sure 29 = .ok (.iconst 0, 1) := by decide +kernel
theorem sX8_sure_29 : ab_X rom K cX8_sure 6 1 29 ls st hp = ab_X rom K cX8_sure 6 1 30 ls (.int 0 :: st) hp := ax_iconst dX8_sure_29 (by decide) rfl
theorem dX8_sure_30 : decode cX8_sure 30 = .ok (.istore_n 3, 1) := by decide +kernel
theorem sX8_sure_30i : ab_X rom K cX8_sure 6 1 30 (v0 :: v1 :: .int y :: v3 :: ls) (.int x :: st) hp = ab_X rom K cX8_sure 6 1 31 (v0 :: v1 :: .int y :: .int x :: ls) st hp := ax_istore_n dX8_sure_30 (ax_lt (v := v3) rfl) (ab_nl_c1 (j := 2) (v := .int y) rfl (ab_c1_int _)) rfl rfl
theorem sX8_sure_30r : ab_X rom K cX8_sure 6 1 30 (v0 :: v1 :: .ref a2 :: v3 :: ls) (.int x :: st) hp = ab_X rom K cX8_sure 6 1 31 (v0 :: v1 :: .ref a2 :: .int x :: ls) st hp := ax_istore_n dX8_sure_30 (ax_lt (v := v3) rfl) (ab_nl_c1 (j := 2) (v := .ref a2) rfl (ab_c1_ref _)) rfl rfl
theorem sX8_sure_30n : ab_X rom K cX8_sure 6 1 30 (v0 :: v1 :: .null :: v3 :: ls) (.int x :: st) hp = ab_X rom K cX8_sure 6 1 31 (v0 :: v1 :: .null :: .int x :: ls) st hp := ax_istore_n dX8_sure_30 (ax_lt (v := v3) rfl) (ab_nl_c1 (j := 2) (v := .null) rfl ab_c1_null) rfl rfl
theorem dX8_sure_31 : decode cX8_sure 31 = .ok (.iconst 0, 1) := by decide +kernel
theorem sX8_sure_31 : ab_X rom K cX8_sure 6 1 31 ls st hp = ab_X rom K cX8_sure 6 1 32 ls (.int 0 :: st) hp := ax_iconst dX8_sure_31 (by decide) rfl
theorem dX8_sure_32 : decode cX8_sure 32 = .ok (.istore 4, 2) := by decide +kernel
theorem sX8_sure_32i : ab_X rom K cX8_sure 6 1 32 (v0 :: v1 :: v2 :: .int y :: v4 :: ls) (.int x :: st) hp = ab_X rom K cX8_sure 6 1 34 (v0 :: v1 :: v2 :: .int y :: .int x :: ls) st hp := ax_istore dX8_sure_32 (ax_lt (v := v4) rfl) (ab_nl_c1 (j := 3) (v := .int y) rfl (ab_c1_int _)) rfl rfl
theorem sX8_sure_32r : ab_X rom K cX8_sure 6 1 32 (v0 :: v1 :: v2 :: .ref a2 :: v4 :: ls) (.int x :: st) hp = ab_X rom K cX8_sure 6 1 34 (v0 :: v1 :: v2 :: .ref a2 :: .int x :: ls) st hp := ax_istore dX8_sure_32 (ax_lt (v := v4) rfl) (ab_nl_c1 (j := 3) (v := .ref a2) rfl (ab_c1_ref _)) rfl rfl
theorem sX8_sure_32n : ab_X rom K cX8_sure 6 1 32 (v0 :: v1 :: v2 :: .null :: v4 :: ls) (.int x :: st) hp = ab_X rom K cX8_sure 6 1 34 (v0 :: v1 :: v2 :: .null :: .int x :: ls) st hp := ax_istore dX8_sure_32 (ax_lt (v := v4) rfl) (ab_nl_c1 (j := 3) (v := .null) rfl ab_c1_null) rfl rfl
theorem dX8_sure_34 : decode cX8_sure 34 = .ok (.iload 4, 2) := by decide +kernel
theorem sX8_sure_34 : ab_X rom K cX8_sure 6 1 34 (v0 :: v1 :: v2 :: v3 :: .int x :: ls) st hp = ab_X rom K cX8_sure 6 1 36 (v0 :: v1 :: v2 :: v3 :: .int x :: ls) (.int x :: st) hp := ax_iload dX8_sure_34 rfl rfl
theorem dX8_sure_36 : decode cX8_sure 36 = .ok (.aload_n 0, 1) := by decide +kernel
theorem sX8_sure_36 : ab_X rom K cX8_sure 6 1 36 (.ref a :: ls) st hp = ab_X rom K cX8_sure 6 1 37 (.ref a :: ls) (.ref a :: st) hp := ax_aload_n dX8_sure_36 rfl rfl
theorem dX8_sure_37 : decode cX8_sure 37 = .ok (.getfield 21, 3) := by decide +kernel
theorem sX8_sure_37 : ab_X rom K cX8_sure 6 1 37 ls (.ref a :: st) hp = (ab_fld hp a 6 3).bind (fun v => ab_X rom K cX8_sure 6 1 40 ls (v :: st) hp) := ax_getfield dX8_sure_37 kf_6_21 rfl
theorem dX8_sure_40 : decode cX8_sure 40 = .ok (.iload_n 1, 1) := by decide +kernel
theorem sX8_sure_40 : ab_X rom K cX8_sure 6 1 40 (v0 :: .int x :: ls) st hp = ab_X rom K cX8_sure 6 1 41 (v0 :: .int x :: ls) (.int x :: st) hp := ax_iload_n dX8_sure_40 rfl rfl
theorem dX8_sure_41 : decode cX8_sure 41 = .ok (.aaload, 1) := by decide +kernel
theorem sX8_sure_41 : ab_X rom K cX8_sure 6 1 41 ls (.int x :: .ref a :: st) hp = (ab_rrd hp a x).bind (fun v => ab_X rom K cX8_sure 6 1 42 ls (.ref v :: st) hp) := ax_aaload dX8_sure_41 rfl
theorem dX8_sure_42 : decode cX8_sure 42 = .ok (.getfield 102, 3) := by decide +kernel
theorem sX8_sure_42 : ab_X rom K cX8_sure 6 1 42 ls (.ref a :: st) hp = (ab_fld hp a 1 0).bind (fun v => ab_X rom K cX8_sure 6 1 45 ls (v :: st) hp) := ax_getfield dX8_sure_42 kf_6_102 rfl
theorem dX8_sure_45 : decode cX8_sure 45 = .ok (.if_icmp .ge 36, 3) := by decide +kernel
theorem sX8_sure_45 : ab_X rom K cX8_sure 6 1 45 ls (.int y :: .int x :: st) hp = if x < y then ab_X rom K cX8_sure 6 1 48 ls st hp else ab_X rom K cX8_sure 6 1 81 ls st hp := ax_icmp_ge dX8_sure_45 (by decide) rfl
theorem dX8_sure_48 : decode cX8_sure 48 = .ok (.aload_n 0, 1) := by decide +kernel
theorem sX8_sure_48 : ab_X rom K cX8_sure 6 1 48 (.ref a :: ls) st hp = ab_X rom K cX8_sure 6 1 49 (.ref a :: ls) (.ref a :: st) hp := ax_aload_n dX8_sure_48 rfl rfl
theorem dX8_sure_49 : decode cX8_sure 49 = .ok (.getfield 51, 3) := by decide +kernel
theorem sX8_sure_49 : ab_X rom K cX8_sure 6 1 49 ls (.ref a :: st) hp = (ab_fld hp a 6 6).bind (fun v => ab_X rom K cX8_sure 6 1 52 ls (v :: st) hp) := ax_getfield dX8_sure_49 kf_6_51 rfl
theorem dX8_sure_52 : decode cX8_sure 52 = .ok (.getfield 187, 3) := by decide +kernel
theorem sX8_sure_52 : ab_X rom K cX8_sure 6 1 52 ls (.ref a :: st) hp = (ab_fld hp a 4 0).bind (fun v => ab_X rom K cX8_sure 6 1 55 ls (v :: st) hp) := ax_getfield dX8_sure_52 kf_6_187 rfl
theorem dX8_sure_55 : decode cX8_sure 55 = .ok (.getfield 204, 3) := by decide +kernel
theorem sX8_sure_55 : ab_X rom K cX8_sure 6 1 55 ls (.ref a :: st) hp = (ab_fld hp a 0 1).bind (fun v => ab_X rom K cX8_sure 6 1 58 ls (v :: st) hp) := ax_getfield dX8_sure_55 kf_6_204 rfl
theorem dX8_sure_58 : decode cX8_sure 58 = .ok (.iload 4, 2) := by decide +kernel
theorem sX8_sure_58 : ab_X rom K cX8_sure 6 1 58 (v0 :: v1 :: v2 :: v3 :: .int x :: ls) st hp = ab_X rom K cX8_sure 6 1 60 (v0 :: v1 :: v2 :: v3 :: .int x :: ls) (.int x :: st) hp := ax_iload dX8_sure_58 rfl rfl
theorem dX8_sure_60 : decode cX8_sure 60 = .ok (.iaload, 1) := by decide +kernel
theorem sX8_sure_60 : ab_X rom K cX8_sure 6 1 60 ls (.int x :: .ref a :: st) hp = (ab_ard rom 0 hp a x).bind (fun v => ab_X rom K cX8_sure 6 1 61 ls (.int v :: st) hp) := ax_iaload dX8_sure_60 rfl
theorem dX8_sure_61 : decode cX8_sure 61 = .ok (.invokestatic 199, 3) := by decide +kernel
theorem sX8_sure_61_0 : ab_X rom K cX8_sure 6 1 61 ls [w1] hp = (K 264 [w1] hp).bind (fun o => ab_X rom K cX8_sure 6 1 64 ls (o.1.toList ++ []) o.2) := ax_static (as := [w1]) (st := []) dX8_sure_61 kc_6_199 rfl rfl (Nat.le_of_ble_eq_true rfl)
theorem sX8_sure_61_1 : ab_X rom K cX8_sure 6 1 61 ls [w1, v0] hp = (K 264 [w1] hp).bind (fun o => ab_X rom K cX8_sure 6 1 64 ls (o.1.toList ++ [v0]) o.2) := ax_static (as := [w1]) (st := [v0]) dX8_sure_61 kc_6_199 rfl rfl (Nat.le_of_ble_eq_true rfl)
theorem sX8_sure_61_2 : ab_X rom K cX8_sure 6 1 61 ls [w1, v0, v1] hp = (K 264 [w1] hp).bind (fun o => ab_X rom K cX8_sure 6 1 64 ls (o.1.toList ++ [v0, v1]) o.2) := ax_static (as := [w1]) (st := [v0, v1]) dX8_sure_61 kc_6_199 rfl rfl (Nat.le_of_ble_eq_true rfl)
theorem sX8_sure_61_3 : ab_X rom K cX8_sure 6 1 61 ls [w1, v0, v1, v2] hp = (K 264 [w1] hp).bind (fun o => ab_X rom K cX8_sure 6 1 64 ls (o.1.toList ++ [v0, v1, v2]) o.2) := ax_static (as := [w1]) (st := [v0, v1, v2]) dX8_sure_61 kc_6_199 rfl rfl (Nat.le_of_ble_eq_true rfl)
theorem dX8_sure_64 : decode cX8_sure 64 = .ok (.iconst 1, 1) := by decide +kernel
theorem sX8_sure_64 : ab_X rom K cX8_sure 6 1 64 ls st hp = ab_X rom K cX8_sure 6 1 65 ls (.int 1 :: st) hp := ax_iconst dX8_sure_64 (by decide) rfl
theorem dX8_sure_65 : decode cX8_sure 65 = .ok (.if_icmp .ne 10, 3) := by decide +kernel
theorem sX8_sure_65 : ab_X rom K cX8_sure 6 1 65 ls (.int y :: .int x :: st) hp = if x = y then ab_X rom K cX8_sure 6 1 68 ls st hp else ab_X rom K cX8_sure 6 1 75 ls st hp := ax_icmp_ne dX8_sure_65 (by decide) rfl
theorem dX8_sure_68 : decode cX8_sure 68 = .ok (.iload_n 3, 1) := by decide +kernel
theorem sX8_sure_68 : ab_X rom K cX8_sure 6 1 68 (v0 :: v1 :: v2 :: .int x :: ls) st hp = ab_X rom K cX8_sure 6 1 69 (v0 :: v1 :: v2 :: .int x :: ls) (.int x :: st) hp := ax_iload_n dX8_sure_68 rfl rfl
theorem dX8_sure_69 : decode cX8_sure 69 = .ok (.iconst 1, 1) := by decide +kernel
theorem sX8_sure_69 : ab_X rom K cX8_sure 6 1 69 ls st hp = ab_X rom K cX8_sure 6 1 70 ls (.int 1 :: st) hp := ax_iconst dX8_sure_69 (by decide) rfl
theorem dX8_sure_70 : decode cX8_sure 70 = .ok (.iload 4, 2) := by decide +kernel
theorem sX8_sure_70 : ab_X rom K cX8_sure 6 1 70 (v0 :: v1 :: v2 :: v3 :: .int x :: ls) st hp = ab_X rom K cX8_sure 6 1 72 (v0 :: v1 :: v2 :: v3 :: .int x :: ls) (.int x :: st) hp := ax_iload dX8_sure_70 rfl rfl
theorem dX8_sure_72 : decode cX8_sure 72 = .ok (.ishl, 1) := by decide +kernel
theorem sX8_sure_72 : ab_X rom K cX8_sure 6 1 72 ls (.int y :: .int x :: st) hp = ab_X rom K cX8_sure 6 1 73 ls (.int (x <<< (y &&& 31)) :: st) hp := ax_ishl dX8_sure_72 rfl
theorem dX8_sure_73 : decode cX8_sure 73 = .ok (.ior, 1) := by decide +kernel
theorem sX8_sure_73 : ab_X rom K cX8_sure 6 1 73 ls (.int y :: .int x :: st) hp = ab_X rom K cX8_sure 6 1 74 ls (.int (x ||| y) :: st) hp := ax_ior dX8_sure_73 rfl
theorem dX8_sure_74 : decode cX8_sure 74 = .ok (.istore_n 3, 1) := by decide +kernel
theorem sX8_sure_74i : ab_X rom K cX8_sure 6 1 74 (v0 :: v1 :: .int y :: v3 :: ls) (.int x :: st) hp = ab_X rom K cX8_sure 6 1 75 (v0 :: v1 :: .int y :: .int x :: ls) st hp := ax_istore_n dX8_sure_74 (ax_lt (v := v3) rfl) (ab_nl_c1 (j := 2) (v := .int y) rfl (ab_c1_int _)) rfl rfl
theorem sX8_sure_74r : ab_X rom K cX8_sure 6 1 74 (v0 :: v1 :: .ref a2 :: v3 :: ls) (.int x :: st) hp = ab_X rom K cX8_sure 6 1 75 (v0 :: v1 :: .ref a2 :: .int x :: ls) st hp := ax_istore_n dX8_sure_74 (ax_lt (v := v3) rfl) (ab_nl_c1 (j := 2) (v := .ref a2) rfl (ab_c1_ref _)) rfl rfl
theorem sX8_sure_74n : ab_X rom K cX8_sure 6 1 74 (v0 :: v1 :: .null :: v3 :: ls) (.int x :: st) hp = ab_X rom K cX8_sure 6 1 75 (v0 :: v1 :: .null :: .int x :: ls) st hp := ax_istore_n dX8_sure_74 (ax_lt (v := v3) rfl) (ab_nl_c1 (j := 2) (v := .null) rfl ab_c1_null) rfl rfl
theorem dX8_sure_75 : decode cX8_sure 75 = .ok (.iinc 4 1, 3) := by decide +kernel
theorem sX8_sure_75i : ab_X rom K cX8_sure 6 1 75 (v0 :: v1 :: v2 :: .int y :: .int x :: ls) st hp = ab_X rom K cX8_sure 6 1 78 (v0 :: v1 :: v2 :: .int y :: .int (x + 1) :: ls) st hp := ax_iinc dX8_sure_75 rfl (ab_nl_c1 (j := 3) (v := .int y) rfl (ab_c1_int _)) (by decide) rfl rfl
theorem sX8_sure_75r : ab_X rom K cX8_sure 6 1 75 (v0 :: v1 :: v2 :: .ref a2 :: .int x :: ls) st hp = ab_X rom K cX8_sure 6 1 78 (v0 :: v1 :: v2 :: .ref a2 :: .int (x + 1) :: ls) st hp := ax_iinc dX8_sure_75 rfl (ab_nl_c1 (j := 3) (v := .ref a2) rfl (ab_c1_ref _)) (by decide) rfl rfl
theorem sX8_sure_75n : ab_X rom K cX8_sure 6 1 75 (v0 :: v1 :: v2 :: .null :: .int x :: ls) st hp = ab_X rom K cX8_sure 6 1 78 (v0 :: v1 :: v2 :: .null :: .int (x + 1) :: ls) st hp := ax_iinc dX8_sure_75 rfl (ab_nl_c1 (j := 3) (v := .null) rfl ab_c1_null) (by decide) rfl rfl
theorem dX8_sure_78 : decode cX8_sure 78 = .ok (.goto (-44), 3) := by decide +kernel
theorem sX8_sure_78 : ab_X rom K cX8_sure 6 1 78 ls st hp = ab_X rom K cX8_sure 6 1 34 ls st hp := ax_goto dX8_sure_78 (by decide)
theorem dX8_sure_81 : decode cX8_sure 81 = .ok (.iload_n 3, 1) := by decide +kernel
theorem sX8_sure_81 : ab_X rom K cX8_sure 6 1 81 (v0 :: v1 :: v2 :: .int x :: ls) st hp = ab_X rom K cX8_sure 6 1 82 (v0 :: v1 :: v2 :: .int x :: ls) (.int x :: st) hp := ax_iload_n dX8_sure_81 rfl rfl
theorem dX8_sure_82 : decode cX8_sure 82 = .ok (.ireturn, 1) := by decide +kernel
theorem sX8_sure_82 : ab_X rom K cX8_sure 6 1 82 ls [.int x] hp = some (some (.int x), hp) := ax_iret dX8_sure_82 rfl
end
