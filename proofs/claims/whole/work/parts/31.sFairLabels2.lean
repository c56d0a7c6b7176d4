/-! FairLabels: its methods step by step (printed by wip/whole/gen_steps.py) -/
section
variable {rom : List (List Int32)} {K : Nat → List Value → ab_H → Option ab_O} {ls st : List Value} {hp : ab_H} {x y z : Int32} {a a2 : Nat} {sp dp : Int32} {u w : Int64} {v0 v1 v2 v3 v4 v5 v6 v7 v8 v9 v10 v11 v12 v13 v14 v15 w1 w2 w3 w4 w5 w6 : Value}
theorem tX8_takes : ab_mT[119]? = some (yX8_takes, cX8_takes, 5, 1, 6) := by decide +kernel
theorem mX8_takes {d : Nat} {a0 : Nat} {x0 : Int32} {x1 : Int32} {x2 : Int32} : ab_M rom (d + 1) 119 [.ref a0, .int x0, .int x1, .int x2] hp = ab_X rom (ab_M rom d) cX8_takes 6 1 0 [.ref a0, .int x0, .int x1, .int x2, .null] [] hp := ab_M_eq tX8_takes (Nat.le_of_ble_eq_true rfl)
theorem dX8_takes_0 : decode cX8_takes 0 = .ok (.aload_n 0, 1) := by decide +kernel
theorem sX8_takes_0 : ab_X rom K cX8_takes 6 1 0 (.ref a :: ls) st hp = ab_X rom K cX8_takes 6 1 1 (.ref a :: ls) (.ref a :: st) hp := ax_aload_n dX8_takes_0 rfl rfl
theorem dX8_takes_1 : decode cX8_takes 1 = .ok (.iload_n 1, 1) := by decide +kernel
theorem sX8_takes_1 : ab_X rom K cX8_takes 6 1 1 (v0 :: .int x :: ls) st hp = ab_X rom K cX8_takes 6 1 2 (v0 :: .int x :: ls) (.int x :: st) hp := ax_iload_n dX8_takes_1 rfl rfl
theorem dX8_takes_2 : decode cX8_takes 2 = .ok (.invokevirtual 99, 3) := by decide +kernel
theorem sX8_takes_2_0 : ab_X rom K cX8_takes 6 1 2 ls [w1, .ref a] hp = if ab_iso hp a 6 = true then (K 95 (.ref a :: [w1]) hp).bind (fun o => ab_X rom K cX8_takes 6 1 5 ls (o.1.toList ++ []) o.2) else none := ay_virtual (as := [w1]) (st := []) dX8_takes_2 kc_6_99 rfl rfl (Nat.le_of_ble_eq_true rfl)
theorem sX8_takes_2_1 : ab_X rom K cX8_takes 6 1 2 ls [w1, .ref a, v0] hp = if ab_iso hp a 6 = true then (K 95 (.ref a :: [w1]) hp).bind (fun o => ab_X rom K cX8_takes 6 1 5 ls (o.1.toList ++ [v0]) o.2) else none := ay_virtual (as := [w1]) (st := [v0]) dX8_takes_2 kc_6_99 rfl rfl (Nat.le_of_ble_eq_true rfl)
theorem sX8_takes_2_2 : ab_X rom K cX8_takes 6 1 2 ls [w1, .ref a, v0, v1] hp = if ab_iso hp a 6 = true then (K 95 (.ref a :: [w1]) hp).bind (fun o => ab_X rom K cX8_takes 6 1 5 ls (o.1.toList ++ [v0, v1]) o.2) else none := ay_virtual (as := [w1]) (st := [v0, v1]) dX8_takes_2 kc_6_99 rfl rfl (Nat.le_of_ble_eq_true rfl)
theorem sX8_takes_2_3 : ab_X rom K cX8_takes 6 1 2 ls [w1, .ref a, v0, v1, v2] hp = if ab_iso hp a 6 = true then (K 95 (.ref a :: [w1]) hp).bind (fun o => ab_X rom K cX8_takes 6 1 5 ls (o.1.toList ++ [v0, v1, v2]) o.2) else none := ay_virtual (as := [w1]) (st := [v0, v1, v2]) dX8_takes_2 kc_6_99 rfl rfl (Nat.le_of_ble_eq_true rfl)
theorem dX8_takes_5 : decode cX8_takes 5 = .ok (.ifCond .eq 14, 3) := by decide +kernel
theorem sX8_takes_5 : ab_X rom K cX8_takes 6 1 5 ls (.int x :: st) hp = if x = 0 then ab_X rom K cX8_takes 6 1 19 ls st hp else ab_X rom K cX8_takes 6 1 8 ls st hp := ax_if_eq dX8_takes_5 (by decide) rfl
theorem dX8_takes_8 : decode cX8_takes 8 = .ok (.iload_n 2, 1) := by decide +kernel
theorem sX8_takes_8 : ab_X rom K cX8_takes 6 1 8 (v0 :: v1 :: .int x :: ls) st hp = ab_X rom K cX8_takes 6 1 9 (v0 :: v1 :: .int x :: ls) (.int x :: st) hp := ax_iload_n dX8_takes_8 rfl rfl
theorem dX8_takes_9 : decode cX8_takes 9 = .ok (.invokestatic 174, 3) := by decide +kernel
theorem sX8_takes_9_0 : ab_X rom K cX8_takes 6 1 9 ls [w1] hp = (K 100 [w1] hp).bind (fun o => ab_X rom K cX8_takes 6 1 12 ls (o.1.toList ++ []) o.2) := ax_static (as := [w1]) (st := []) dX8_takes_9 kc_6_174 rfl rfl (Nat.le_of_ble_eq_true rfl)
theorem sX8_takes_9_1 : ab_X rom K cX8_takes 6 1 9 ls [w1, v0] hp = (K 100 [w1] hp).bind (fun o => ab_X rom K cX8_takes 6 1 12 ls (o.1.toList ++ [v0]) o.2) := ax_static (as := [w1]) (st := [v0]) dX8_takes_9 kc_6_174 rfl rfl (Nat.le_of_ble_eq_true rfl)
theorem sX8_takes_9_2 : ab_X rom K cX8_takes 6 1 9 ls [w1, v0, v1] hp = (K 100 [w1] hp).bind (fun o => ab_X rom K cX8_takes 6 1 12 ls (o.1.toList ++ [v0, v1]) o.2) := ax_static (as := [w1]) (st := [v0, v1]) dX8_takes_9 kc_6_174 rfl rfl (Nat.le_of_ble_eq_true rfl)
theorem sX8_takes_9_3 : ab_X rom K cX8_takes 6 1 9 ls [w1, v0, v1, v2] hp = (K 100 [w1] hp).bind (fun o => ab_X rom K cX8_takes 6 1 12 ls (o.1.toList ++ [v0, v1, v2]) o.2) := ax_static (as := [w1]) (st := [v0, v1, v2]) dX8_takes_9 kc_6_174 rfl rfl (Nat.le_of_ble_eq_true rfl)
theorem dX8_takes_12 : decode cX8_takes 12 = .ok (.ifCond .eq 7, 3) := by decide +kernel
theorem sX8_takes_12 : ab_X rom K cX8_takes 6 1 12 ls (.int x :: st) hp = if x = 0 then ab_X rom K cX8_takes 6 1 19 ls st hp else ab_X rom K cX8_takes 6 1 15 ls st hp := ax_if_eq dX8_takes_12 (by decide) rfl
theorem dX8_takes_15 : decode cX8_takes 15 = .ok (.iload_n 3, 1) := by decide +kernel
theorem sX8_takes_15 : ab_X rom K cX8_takes 6 1 15 (v0 :: v1 :: v2 :: .int x :: ls) st hp = ab_X rom K cX8_takes 6 1 16 (v0 :: v1 :: v2 :: .int x :: ls) (.int x :: st) hp := ax_iload_n dX8_takes_15 rfl rfl
theorem dX8_takes_16 : decode cX8_takes 16 = .ok (.ifCond .ge 6, 3) := by decide +kernel
theorem sX8_takes_16 : ab_X rom K cX8_takes 6 1 16 ls (.int x :: st) hp = if x < 0 then ab_X rom K cX8_takes 6 1 19 ls st hp else ab_X rom K cX8_takes 6 1 22 ls st hp := ax_if_ge dX8_takes_16 (by decide) rfl
theorem dX8_takes_19 : decode cX8_takes 19 = .ok (.bipush (-2), 2) := by decide +kernel
theorem sX8_takes_19 : ab_X rom K cX8_takes 6 1 19 ls st hp = ab_X rom K cX8_takes 6 1 21 ls (.int (-2) :: st) hp := ax_bipush dX8_takes_19 (by decide) rfl
theorem dX8_takes_21 : decode cX8_takes 21 = .ok (.ireturn, 1) := by decide +kernel
theorem sX8_takes_21 : ab_X rom K cX8_takes 6 1 21 ls [.int x] hp = some (some (.int x), hp) := ax_iret dX8_takes_21 rfl
theorem dX8_takes_22 : decode cX8_takes 22 = .ok (.aload_n 0, 1) := by decide +kernel
theorem sX8_takes_22 : ab_X rom K cX8_takes 6 1 22 (.ref a :: ls) st hp = ab_X rom K cX8_takes 6 1 23 (.ref a :: ls) (.ref a :: st) hp := ax_aload_n dX8_takes_22 rfl rfl
theorem dX8_takes_23 : decode cX8_takes 23 = .ok (.iload_n 1, 1) := by decide +kernel
theorem sX8_takes_23 : ab_X rom K cX8_takes 6 1 23 (v0 :: .int x :: ls) st hp = ab_X rom K cX8_takes 6 1 24 (v0 :: .int x :: ls) (.int x :: st) hp := ax_iload_n dX8_takes_23 rfl rfl
theorem dX8_takes_24 : decode cX8_takes 24 = .ok (.iload_n 2, 1) := by decide +kernel
theorem sX8_takes_24 : ab_X rom K cX8_takes 6 1 24 (v0 :: v1 :: .int x :: ls) st hp = ab_X rom K cX8_takes 6 1 25 (v0 :: v1 :: .int x :: ls) (.int x :: st) hp := ax_iload_n dX8_takes_24 rfl rfl
theorem dX8_takes_25 : decode cX8_takes 25 = .ok (.iload_n 3, 1) := by decide +kernel
theorem sX8_takes_25 : ab_X rom K cX8_takes 6 1 25 (v0 :: v1 :: v2 :: .int x :: ls) st hp = ab_X rom K cX8_takes 6 1 26 (v0 :: v1 :: v2 :: .int x :: ls) (.int x :: st) hp := ax_iload_n dX8_takes_25 rfl rfl
theorem dX8_takes_26 : decode cX8_takes 26 = .ok (.invokevirtual 196, 3) := by decide +kernel
theorem sX8_takes_26_0 : ab_X rom K cX8_takes 6 1 26 ls [w3, w2, w1, .ref a] hp = if ab_iso hp a 6 = true then (K 86 (.ref a :: [w1, w2, w3]) hp).bind (fun o => ab_X rom K cX8_takes 6 1 29 ls (o.1.toList ++ []) o.2) else none := ay_virtual (as := [w1, w2, w3]) (st := []) dX8_takes_26 kc_6_196 rfl rfl (Nat.le_of_ble_eq_true rfl)
theorem sX8_takes_26_1 : ab_X rom K cX8_takes 6 1 26 ls [w3, w2, w1, .ref a, v0] hp = if ab_iso hp a 6 = true then (K 86 (.ref a :: [w1, w2, w3]) hp).bind (fun o => ab_X rom K cX8_takes 6 1 29 ls (o.1.toList ++ [v0]) o.2) else none := ay_virtual (as := [w1, w2, w3]) (st := [v0]) dX8_takes_26 kc_6_196 rfl rfl (Nat.le_of_ble_eq_true rfl)
theorem sX8_takes_26_2 : ab_X rom K cX8_takes 6 1 26 ls [w3, w2, w1, .ref a, v0, v1] hp = if ab_iso hp a 6 = true then (K 86 (.ref a :: [w1, w2, w3]) hp).bind (fun o => ab_X rom K cX8_takes 6 1 29 ls (o.1.toList ++ [v0, v1]) o.2) else none := ay_virtual (as := [w1, w2, w3]) (st := [v0, v1]) dX8_takes_26 kc_6_196 rfl rfl (Nat.le_of_ble_eq_true rfl)
theorem sX8_takes_26_3 : ab_X rom K cX8_takes 6 1 26 ls [w3, w2, w1, .ref a, v0, v1, v2] hp = if ab_iso hp a 6 = true then (K 86 (.ref a :: [w1, w2, w3]) hp).bind (fun o => ab_X rom K cX8_takes 6 1 29 ls (o.1.toList ++ [v0, v1, v2]) o.2) else none := ay_virtual (as := [w1, w2, w3]) (st := [v0, v1, v2]) dX8_takes_26 kc_6_196 rfl rfl (Nat.le_of_ble_eq_true rfl)
theorem dX8_takes_29 : decode cX8_takes 29 = .ok (.ifCond .ne 5, 3) := by decide +kernel
theorem sX8_takes_29 : ab_X rom K cX8_takes 6 1 29 ls (.int x :: st) hp = if x = 0 then ab_X rom K cX8_takes 6 1 32 ls st hp else ab_X rom K cX8_takes 6 1 34 ls st hp := ax_if_ne dX8_takes_29 (by decide) rfl
theorem dX8_takes_32 : decode cX8_takes 32 = .ok (.iconst (-1), 1) := by decide +kernel
theorem sX8_takes_32 : ab_X rom K cX8_takes 6 1 32 ls st hp = ab_X rom K cX8_takes 6 1 33 ls (.int (-1) :: st) hp := ax_iconst dX8_takes_32 (by decide) rfl
theorem dX8_takes_33 : decode cX8_takes 33 = .ok (.ireturn, 1) := by decide +kernel
theorem sX8_takes_33 : ab_X rom K cX8_takes 6 1 33 ls [.int x] hp = some (some (.int x), hp) := ax_iret dX8_takes_33 rfl
theorem dX8_takes_34 : decode cX8_takes 34 = .ok (.aload_n 0, 1) := by decide +kernel
theorem sX8_takes_34 : ab_X rom K cX8_takes 6 1 34 (.ref a :: ls) st hp = ab_X rom K cX8_takes 6 1 35 (.ref a :: ls) (.ref a :: st) hp := ax_aload_n dX8_takes_34 rfl rfl
theorem dX8_takes_35 : decode cX8_takes 35 = .ok (.getfield 21, 3) := by decide +kernel
theorem sX8_takes_35 : ab_X rom K cX8_takes 6 1 35 ls (.ref a :: st) hp = (ab_fld hp a 6 3).bind (fun v => ab_X rom K cX8_takes 6 1 38 ls (v :: st) hp) := ax_getfield dX8_takes_35 kf_6_21 rfl
theorem dX8_takes_38 : decode cX8_takes 38 = .ok (.iload_n 1, 1) := by decide +kernel
theorem sX8_takes_38 : ab_X rom K cX8_takes 6 1 38 (v0 :: .int x :: ls) st hp = ab_X rom K cX8_takes 6 1 39 (v0 :: .int x :: ls) (.int x :: st) hp := ax_iload_n dX8_takes_38 rfl rfl
theorem dX8_takes_39 : decode cX8_takes 39 = .ok (.aaload, 1) := by decide +kernel
theorem sX8_takes_39 : ab_X rom K cX8_takes 6 1 39 ls (.int x :: .ref a :: st) hp = (ab_rrd hp a x).bind (fun v => ab_X rom K cX8_takes 6 1 40 ls (.ref v :: st) hp) := ax_aaload dX8_takes_39 rfl
theorem dX8_takes_40 : decode cX8_takes 40 = .ok (.getfield 102, 3) := by decide +kernel
theorem sX8_takes_40 : ab_X rom K cX8_takes 6 1 40 ls (.ref a :: st) hp = (ab_fld hp a 1 0).bind (fun v => ab_X rom K cX8_takes 6 1 43 ls (v :: st) hp) := ax_getfield dX8_takes_40 kf_6_102 rfl
theorem dX8_takes_43 : decode cX8_takes 43 = .ok (.aload_n 0, 1) := by decide +kernel
theorem sX8_takes_43 : ab_X rom K cX8_takes 6 1 43 (.ref a :: ls) st hp = ab_X rom K cX8_takes 6 1 44 (.ref a :: ls) (.ref a :: st) hp := ax_aload_n dX8_takes_43 rfl rfl
theorem dX8_takes_44 : decode cX8_takes 44 = .ok (.getfield 21, 3) := by decide +kernel
theorem sX8_takes_44 : ab_X rom K cX8_takes 6 1 44 ls (.ref a :: st) hp = (ab_fld hp a 6 3).bind (fun v => ab_X rom K cX8_takes 6 1 47 ls (v :: st) hp) := ax_getfield dX8_takes_44 kf_6_21 rfl
theorem dX8_takes_47 : decode cX8_takes 47 = .ok (.iload_n 1, 1) := by decide +kernel
theorem sX8_takes_47 : ab_X rom K cX8_takes 6 1 47 (v0 :: .int x :: ls) st hp = ab_X rom K cX8_takes 6 1 48 (v0 :: .int x :: ls) (.int x :: st) hp := ax_iload_n dX8_takes_47 rfl rfl
theorem dX8_takes_48 : decode cX8_takes 48 = .ok (.aaload, 1) := by decide +kernel
theorem sX8_takes_48 : ab_X rom K cX8_takes 6 1 48 ls (.int x :: .ref a :: st) hp = (ab_rrd hp a x).bind (fun v => ab_X rom K cX8_takes 6 1 49 ls (.ref v :: st) hp) := ax_aaload dX8_takes_48 rfl
theorem dX8_takes_49 : decode cX8_takes 49 = .ok (.invokevirtual 105, 3) := by decide +kernel
theorem sX8_takes_49_0 : ab_X rom K cX8_takes 6 1 49 ls [.ref a] hp = if ab_iso hp a 1 = true then (K 25 (.ref a :: []) hp).bind (fun o => ab_X rom K cX8_takes 6 1 52 ls (o.1.toList ++ []) o.2) else none := ay_virtual (as := []) (st := []) dX8_takes_49 kc_6_105 rfl rfl (Nat.le_of_ble_eq_true rfl)
theorem sX8_takes_49_1 : ab_X rom K cX8_takes 6 1 49 ls [.ref a, v0] hp = if ab_iso hp a 1 = true then (K 25 (.ref a :: []) hp).bind (fun o => ab_X rom K cX8_takes 6 1 52 ls (o.1.toList ++ [v0]) o.2) else none := ay_virtual (as := []) (st := [v0]) dX8_takes_49 kc_6_105 rfl rfl (Nat.le_of_ble_eq_true rfl)
theorem sX8_takes_49_2 : ab_X rom K cX8_takes 6 1 49 ls [.ref a, v0, v1] hp = if ab_iso hp a 1 = true then (K 25 (.ref a :: []) hp).bind (fun o => ab_X rom K cX8_takes 6 1 52 ls (o.1.toList ++ [v0, v1]) o.2) else none := ay_virtual (as := []) (st := [v0, v1]) dX8_takes_49 kc_6_105 rfl rfl (Nat.le_of_ble_eq_true rfl)
theorem sX8_takes_49_3 : ab_X rom K cX8_takes 6 1 49 ls [.ref a, v0, v1, v2] hp = if ab_iso hp a 1 = true then (K 25 (.ref a :: []) hp).bind (fun o => ab_X rom K cX8_takes 6 1 52 ls (o.1.toList ++ [v0, v1, v2]) o.2) else none := ay_virtual (as := []) (st := [v0, v1, v2]) dX8_takes_49 kc_6_105 rfl rfl (Nat.le_of_ble_eq_true rfl)
theorem dX8_takes_52 : decode cX8_takes 52 = .ok (.invokestatic 199, 3) := by decide +kernel
theorem sX8_takes_52_0 : ab_X rom K cX8_takes 6 1 52 ls [w1] hp = (K 264 [w1] hp).bind (fun o => ab_X rom K cX8_takes 6 1 55 ls (o.1.toList ++ []) o.2) := ax_static (as := [w1]) (st := []) dX8_takes_52 kc_6_199 rfl rfl (Nat.le_of_ble_eq_true rfl)
theorem sX8_takes_52_1 : ab_X rom K cX8_takes 6 1 52 ls [w1, v0] hp = (K 264 [w1] hp).bind (fun o => ab_X rom K cX8_takes 6 1 55 ls (o.1.toList ++ [v0]) o.2) := ax_static (as := [w1]) (st := [v0]) dX8_takes_52 kc_6_199 rfl rfl (Nat.le_of_ble_eq_true rfl)
theorem sX8_takes_52_2 : ab_X rom K cX8_takes 6 1 52 ls [w1, v0, v1] hp = (K 264 [w1] hp).bind (fun o => ab_X rom K cX8_takes 6 1 55 ls (o.1.toList ++ [v0, v1]) o.2) := ax_static (as := [w1]) (st := [v0, v1]) dX8_takes_52 kc_6_199 rfl rfl (Nat.le_of_ble_eq_true rfl)
theorem sX8_takes_52_3 : ab_X rom K cX8_takes 6 1 52 ls [w1, v0, v1, v2] hp = (K 264 [w1] hp).bind (fun o => ab_X rom K cX8_takes 6 1 55 ls (o.1.toList ++ [v0, v1, v2]) o.2) := ax_static (as := [w1]) (st := [v0, v1, v2]) dX8_takes_52 kc_6_199 rfl rfl (Nat.le_of_ble_eq_true rfl)
theorem dX8_takes_55 : decode cX8_takes 55 = .ok (.isub, 1) := by decide +kernel
theorem sX8_takes_55 : ab_X rom K cX8_takes 6 1 55 ls (.int y :: .int x :: st) hp = ab_X rom K cX8_takes 6 1 56 ls (.int (x - y) :: st) hp := ax_isub dX8_takes_55 rfl
theorem dX8_takes_56 : decode cX8_takes 56 = .ok (.istore 4, 2) := by decide +kernel
theorem sX8_takes_56i : ab_X rom K cX8_takes 6 1 56 (v0 :: v1 :: v2 :: .int y :: v4 :: ls) (.int x :: st) hp = ab_X rom K cX8_takes 6 1 58 (v0 :: v1 :: v2 :: .int y :: .int x :: ls) st hp := ax_istore dX8_takes_56 (ax_lt (v := v4) rfl) (ab_nl_c1 (j := 3) (v := .int y) rfl (ab_c1_int _)) rfl rfl
theorem sX8_takes_56r : ab_X rom K cX8_takes 6 1 56 (v0 :: v1 :: v2 :: .ref a2 :: v4 :: ls) (.int x :: st) hp = ab_X rom K cX8_takes 6 1 58 (v0 :: v1 :: v2 :: .ref a2 :: .int x :: ls) st hp := ax_istore dX8_takes_56 (ax_lt (v := v4) rfl) (ab_nl_c1 (j := 3) (v := .ref a2) rfl (ab_c1_ref _)) rfl rfl
theorem sX8_takes_56n : ab_X rom K cX8_takes 6 1 56 (v0 :: v1 :: v2 :: .null :: v4 :: ls) (.int x :: st) hp = ab_X rom K cX8_takes 6 1 58 (v0 :: v1 :: v2 :: .null :: .int x :: ls) st hp := ax_istore dX8_takes_56 (ax_lt (v := v4) rfl) (ab_nl_c1 (j := 3) (v := .null) rfl ab_c1_null) rfl rfl
theorem dX8_takes_58 : decode cX8_takes 58 = .ok (.iload 4, 2) := by decide +kernel
theorem sX8_takes_58 : ab_X rom K cX8_takes 6 1 58 (v0 :: v1 :: v2 :: v3 :: .int x :: ls) st hp = ab_X rom K cX8_takes 6 1 60 (v0 :: v1 :: v2 :: v3 :: .int x :: ls) (.int x :: st) hp := ax_iload dX8_takes_58 rfl rfl
theorem dX8_takes_60 : decode cX8_takes 60 = .ok (.ifCond .le 8, 3) := by decide +kernel
theorem sX8_takes_60 : ab_X rom K cX8_takes 6 1 60 ls (.int x :: st) hp = if 0 < x then ab_X rom K cX8_takes 6 1 63 ls st hp else ab_X rom K cX8_takes 6 1 68 ls st hp := ax_if_le dX8_takes_60 (by decide) rfl
theorem dX8_takes_63 : decode cX8_takes 63 = .ok (.aload_n 0, 1) := by decide +kernel
theorem sX8_takes_63 : ab_X rom K cX8_takes 6 1 63 (.ref a :: ls) st hp = ab_X rom K cX8_takes 6 1 64 (.ref a :: ls) (.ref a :: st) hp := ax_aload_n dX8_takes_63 rfl rfl
theorem dX8_takes_64 : decode cX8_takes 64 = .ok (.iload_n 1, 1) := by decide +kernel
theorem sX8_takes_64 : ab_X rom K cX8_takes 6 1 64 (v0 :: .int x :: ls) st hp = ab_X rom K cX8_takes 6 1 65 (v0 :: .int x :: ls) (.int x :: st) hp := ax_iload_n dX8_takes_64 rfl rfl
theorem dX8_takes_65 : decode cX8_takes 65 = .ok (.invokevirtual 86, 3) := by decide +kernel
theorem sX8_takes_65_0 : ab_X rom K cX8_takes 6 1 65 ls [w1, .ref a] hp = if ab_iso hp a 6 = true then (K 102 (.ref a :: [w1]) hp).bind (fun o => ab_X rom K cX8_takes 6 1 68 ls (o.1.toList ++ []) o.2) else none := ay_virtual (as := [w1]) (st := []) dX8_takes_65 kc_6_86 rfl rfl (Nat.le_of_ble_eq_true rfl)
theorem sX8_takes_65_1 : ab_X rom K cX8_takes 6 1 65 ls [w1, .ref a, v0] hp = if ab_iso hp a 6 = true then (K 102 (.ref a :: [w1]) hp).bind (fun o => ab_X rom K cX8_takes 6 1 68 ls (o.1.toList ++ [v0]) o.2) else none := ay_virtual (as := [w1]) (st := [v0]) dX8_takes_65 kc_6_86 rfl rfl (Nat.le_of_ble_eq_true rfl)
theorem sX8_takes_65_2 : ab_X rom K cX8_takes 6 1 65 ls [w1, .ref a, v0, v1] hp = if ab_iso hp a 6 = true then (K 102 (.ref a :: [w1]) hp).bind (fun o => ab_X rom K cX8_takes 6 1 68 ls (o.1.toList ++ [v0, v1]) o.2) else none := ay_virtual (as := [w1]) (st := [v0, v1]) dX8_takes_65 kc_6_86 rfl rfl (Nat.le_of_ble_eq_true rfl)
theorem sX8_takes_65_3 : ab_X rom K cX8_takes 6 1 65 ls [w1, .ref a, v0, v1, v2] hp = if ab_iso hp a 6 = true then (K 102 (.ref a :: [w1]) hp).bind (fun o => ab_X rom K cX8_takes 6 1 68 ls (o.1.toList ++ [v0, v1, v2]) o.2) else none := ay_virtual (as := [w1]) (st := [v0, v1, v2]) dX8_takes_65 kc_6_86 rfl rfl (Nat.le_of_ble_eq_true rfl)
theorem dX8_takes_68 : decode cX8_takes 68 = .ok (.iload 4, 2) := by decide +kernel
theorem sX8_takes_68 : ab_X rom K cX8_takes 6 1 68 (v0 :: v1 :: v2 :: v3 :: .int x :: ls) st hp = ab_X rom K cX8_takes 6 1 70 (v0 :: v1 :: v2 :: v3 :: .int x :: ls) (.int x :: st) hp := ax_iload dX8_takes_68 rfl rfl
theorem dX8_takes_70 : decode cX8_takes 70 = .ok (.ireturn, 1) := by decide +kernel
theorem sX8_takes_70 : ab_X rom K cX8_takes 6 1 70 ls [.int x] hp = some (some (.int x), hp) := ax_iret dX8_takes_70 rfl
theorem tX8_tell : ab_mT[120]? = some (yX8_tell, cX8_tell, 3, 1, 6) := by decide +kernel
theorem mX8_tell {d : Nat} {a0 : Nat} {x0 : Int32} {x1 : Int32} : ab_M rom (d + 1) 120 [.ref a0, .int x0, .int x1] hp = ab_X rom (ab_M rom d) cX8_tell 6 1 0 [.ref a0, .int x0, .int x1] [] hp := ab_M_eq tX8_tell (Nat.le_of_ble_eq_true rfl)
theorem dX8_tell_0 : decode cX8_tell 0 = .ok (.aload_n 0, 1) := by decide +kernel
theorem sX8_tell_0 : ab_X rom K cX8_tell 6 1 0 (.ref a :: ls) st hp = ab_X rom K cX8_tell 6 1 1 (.ref a :: ls) (.ref a :: st) hp := ax_aload_n dX8_tell_0 rfl rfl
theorem dX8_tell_1 : decode cX8_tell 1 = .ok (.iload_n 1, 1) := by decide +kernel
theorem sX8_tell_1 : ab_X rom K cX8_tell 6 1 1 (v0 :: .int x :: ls) st hp = ab_X rom K cX8_tell 6 1 2 (v0 :: .int x :: ls) (.int x :: st) hp := ax_iload_n dX8_tell_1 rfl rfl
theorem dX8_tell_2 : decode cX8_tell 2 = .ok (.invokevirtual 99, 3) := by decide +kernel
theorem sX8_tell_2_0 : ab_X rom K cX8_tell 6 1 2 ls [w1, .ref a] hp = if ab_iso hp a 6 = true then (K 95 (.ref a :: [w1]) hp).bind (fun o => ab_X rom K cX8_tell 6 1 5 ls (o.1.toList ++ []) o.2) else none := ay_virtual (as := [w1]) (st := []) dX8_tell_2 kc_6_99 rfl rfl (Nat.le_of_ble_eq_true rfl)
theorem sX8_tell_2_1 : ab_X rom K cX8_tell 6 1 2 ls [w1, .ref a, v0] hp = if ab_iso hp a 6 = true then (K 95 (.ref a :: [w1]) hp).bind (fun o => ab_X rom K cX8_tell 6 1 5 ls (o.1.toList ++ [v0]) o.2) else none := ay_virtual (as := [w1]) (st := [v0]) dX8_tell_2 kc_6_99 rfl rfl (Nat.le_of_ble_eq_true rfl)
theorem sX8_tell_2_2 : ab_X rom K cX8_tell 6 1 2 ls [w1, .ref a, v0, v1] hp = if ab_iso hp a 6 = true then (K 95 (.ref a :: [w1]) hp).bind (fun o => ab_X rom K cX8_tell 6 1 5 ls (o.1.toList ++ [v0, v1]) o.2) else none := ay_virtual (as := [w1]) (st := [v0, v1]) dX8_tell_2 kc_6_99 rfl rfl (Nat.le_of_ble_eq_true rfl)
theorem sX8_tell_2_3 : ab_X rom K cX8_tell 6 1 2 ls [w1, .ref a, v0, v1, v2] hp = if ab_iso hp a 6 = true then (K 95 (.ref a :: [w1]) hp).bind (fun o => ab_X rom K cX8_tell 6 1 5 ls (o.1.toList ++ [v0, v1, v2]) o.2) else none := ay_virtual (as := [w1]) (st := [v0, v1, v2]) dX8_tell_2 kc_6_99 rfl rfl (Nat.le_of_ble_eq_true rfl)
theorem dX8_tell_5 : decode cX8_tell 5 = .ok (.ifCond .eq 12, 3) := by decide +kernel
theorem sX8_tell_5 : ab_X rom K cX8_tell 6 1 5 ls (.int x :: st) hp = if x = 0 then ab_X rom K cX8_tell 6 1 17 ls st hp else ab_X rom K cX8_tell 6 1 8 ls st hp := ax_if_eq dX8_tell_5 (by decide) rfl
theorem dX8_tell_8 : decode cX8_tell 8 = .ok (.iload_n 2, 1) := by decide +kernel
theorem sX8_tell_8 : ab_X rom K cX8_tell 6 1 8 (v0 :: v1 :: .int x :: ls) st hp = ab_X rom K cX8_tell 6 1 9 (v0 :: v1 :: .int x :: ls) (.int x :: st) hp := ax_iload_n dX8_tell_8 rfl rfl
theorem dX8_tell_9 : decode cX8_tell 9 = .ok (.ifCond .lt 8, 3) := by decide +kernel
theorem sX8_tell_9 : ab_X rom K cX8_tell 6 1 9 ls (.int x :: st) hp = if x < 0 then ab_X rom K cX8_tell 6 1 17 ls st hp else ab_X rom K cX8_tell 6 1 12 ls st hp := ax_if_lt dX8_tell_9 (by decide) rfl
theorem dX8_tell_12 : decode cX8_tell 12 = .ok (.iload_n 2, 1) := by decide +kernel
theorem sX8_tell_12 : ab_X rom K cX8_tell 6 1 12 (v0 :: v1 :: .int x :: ls) st hp = ab_X rom K cX8_tell 6 1 13 (v0 :: v1 :: .int x :: ls) (.int x :: st) hp := ax_iload_n dX8_tell_12 rfl rfl
theorem dX8_tell_13 : decode cX8_tell 13 = .ok (.iconst 1, 1) := by decide +kernel
theorem sX8_tell_13 : ab_X rom K cX8_tell 6 1 13 ls st hp = ab_X rom K cX8_tell 6 1 14 ls (.int 1 :: st) hp := ax_iconst dX8_tell_13 (by decide) rfl
theorem dX8_tell_14 : decode cX8_tell 14 = .ok (.if_icmp .le 6, 3) := by decide +kernel
theorem sX8_tell_14 : ab_X rom K cX8_tell 6 1 14 ls (.int y :: .int x :: st) hp = if y < x then ab_X rom K cX8_tell 6 1 17 ls st hp else ab_X rom K cX8_tell 6 1 20 ls st hp := ax_icmp_le dX8_tell_14 (by decide) rfl
theorem dX8_tell_17 : decode cX8_tell 17 = .ok (.bipush (-2), 2) := by decide +kernel
theorem sX8_tell_17 : ab_X rom K cX8_tell 6 1 17 ls st hp = ab_X rom K cX8_tell 6 1 19 ls (.int (-2) :: st) hp := ax_bipush dX8_tell_17 (by decide) rfl
theorem dX8_tell_19 : decode cX8_tell 19 = .ok (.ireturn, 1) := by decide +kernel
theorem sX8_tell_19 : ab_X rom K cX8_tell 6 1 19 ls [.int x] hp = some (some (.int x), hp) := ax_iret dX8_tell_19 rfl
theorem dX8_tell_20 : decode cX8_tell 20 = .ok (.aload_n 0, 1) := by decide +kernel
theorem sX8_tell_20 : ab_X rom K cX8_tell 6 1 20 (.ref a :: ls) st hp = ab_X rom K cX8_tell 6 1 21 (.ref a :: ls) (.ref a :: st) hp := ax_aload_n dX8_tell_20 rfl rfl
theorem dX8_tell_21 : decode cX8_tell 21 = .ok (.getfield 16, 3) := by decide +kernel
theorem sX8_tell_21 : ab_X rom K cX8_tell 6 1 21 ls (.ref a :: st) hp = (ab_fld hp a 6 2).bind (fun v => ab_X rom K cX8_tell 6 1 24 ls (v :: st) hp) := ax_getfield dX8_tell_21 kf_6_16 rfl
theorem dX8_tell_24 : decode cX8_tell 24 = .ok (.iconst 0, 1) := by decide +kernel
theorem sX8_tell_24 : ab_X rom K cX8_tell 6 1 24 ls st hp = ab_X rom K cX8_tell 6 1 25 ls (.int 0 :: st) hp := ax_iconst dX8_tell_24 (by decide) rfl
theorem dX8_tell_25 : decode cX8_tell 25 = .ok (.putfield 69, 3) := by decide +kernel
theorem sX8_tell_25 : ab_X rom K cX8_tell 6 1 25 ls (.int x :: .ref a :: st) hp = (ab_fpt hp a 5 1 (.int x)).bind (fun hp' => ab_X rom K cX8_tell 6 1 28 ls st hp') := ax_putfield dX8_tell_25 kf_6_69 rfl (Or.inl rfl) rfl
theorem dX8_tell_28 : decode cX8_tell 28 = .ok (.iload_n 2, 1) := by decide +kernel
theorem sX8_tell_28 : ab_X rom K cX8_tell 6 1 28 (v0 :: v1 :: .int x :: ls) st hp = ab_X rom K cX8_tell 6 1 29 (v0 :: v1 :: .int x :: ls) (.int x :: st) hp := ax_iload_n dX8_tell_28 rfl rfl
theorem dX8_tell_29 : decode cX8_tell 29 = .ok (.ifCond .ne 16, 3) := by decide +kernel
theorem sX8_tell_29 : ab_X rom K cX8_tell 6 1 29 ls (.int x :: st) hp = if x = 0 then ab_X rom K cX8_tell 6 1 32 ls st hp else ab_X rom K cX8_tell 6 1 45 ls st hp := ax_if_ne dX8_tell_29 (by decide) rfl
theorem dX8_tell_32 : decode cX8_tell 32 = .ok (.aload_n 0, 1) := by decide +kernel
theorem sX8_tell_32 : ab_X rom K cX8_tell 6 1 32 (.ref a :: ls) st hp = ab_X rom K cX8_tell 6 1 33 (.ref a :: ls) (.ref a :: st) hp := ax_aload_n dX8_tell_32 rfl rfl
theorem dX8_tell_33 : decode cX8_tell 33 = .ok (.aload_n 0, 1) := by decide +kernel
theorem sX8_tell_33 : ab_X rom K cX8_tell 6 1 33 (.ref a :: ls) st hp = ab_X rom K cX8_tell 6 1 34 (.ref a :: ls) (.ref a :: st) hp := ax_aload_n dX8_tell_33 rfl rfl
theorem dX8_tell_34 : decode cX8_tell 34 = .ok (.getfield 21, 3) := by decide +kernel
theorem sX8_tell_34 : ab_X rom K cX8_tell 6 1 34 ls (.ref a :: st) hp = (ab_fld hp a 6 3).bind (fun v => ab_X rom K cX8_tell 6 1 37 ls (v :: st) hp) := ax_getfield dX8_tell_34 kf_6_21 rfl
theorem dX8_tell_37 : decode cX8_tell 37 = .ok (.iload_n 1, 1) := by decide +kernel
theorem sX8_tell_37 : ab_X rom K cX8_tell 6 1 37 (v0 :: .int x :: ls) st hp = ab_X rom K cX8_tell 6 1 38 (v0 :: .int x :: ls) (.int x :: st) hp := ax_iload_n dX8_tell_37 rfl rfl
theorem dX8_tell_38 : decode cX8_tell 38 = .ok (.aaload, 1) := by decide +kernel
theorem sX8_tell_38 : ab_X rom K cX8_tell 6 1 38 ls (.int x :: .ref a :: st) hp = (ab_rrd hp a x).bind (fun v => ab_X rom K cX8_tell 6 1 39 ls (.ref v :: st) hp) := ax_aaload dX8_tell_38 rfl
theorem dX8_tell_39 : decode cX8_tell 39 = .ok (.invokevirtual 279, 3) := by decide +kernel
theorem sX8_tell_39_0 : ab_X rom K cX8_tell 6 1 39 ls [w1, .ref a] hp = if ab_iso hp a 6 = true then (K 128 (.ref a :: [w1]) hp).bind (fun o => ab_X rom K cX8_tell 6 1 42 ls (o.1.toList ++ []) o.2) else none := ay_virtual (as := [w1]) (st := []) dX8_tell_39 kc_6_279 rfl rfl (Nat.le_of_ble_eq_true rfl)
theorem sX8_tell_39_1 : ab_X rom K cX8_tell 6 1 39 ls [w1, .ref a, v0] hp = if ab_iso hp a 6 = true then (K 128 (.ref a :: [w1]) hp).bind (fun o => ab_X rom K cX8_tell 6 1 42 ls (o.1.toList ++ [v0]) o.2) else none := ay_virtual (as := [w1]) (st := [v0]) dX8_tell_39 kc_6_279 rfl rfl (Nat.le_of_ble_eq_true rfl)
theorem sX8_tell_39_2 : ab_X rom K cX8_tell 6 1 39 ls [w1, .ref a, v0, v1] hp = if ab_iso hp a 6 = true then (K 128 (.ref a :: [w1]) hp).bind (fun o => ab_X rom K cX8_tell 6 1 42 ls (o.1.toList ++ [v0, v1]) o.2) else none := ay_virtual (as := [w1]) (st := [v0, v1]) dX8_tell_39 kc_6_279 rfl rfl (Nat.le_of_ble_eq_true rfl)
theorem sX8_tell_39_3 : ab_X rom K cX8_tell 6 1 39 ls [w1, .ref a, v0, v1, v2] hp = if ab_iso hp a 6 = true then (K 128 (.ref a :: [w1]) hp).bind (fun o => ab_X rom K cX8_tell 6 1 42 ls (o.1.toList ++ [v0, v1, v2]) o.2) else none := ay_virtual (as := [w1]) (st := [v0, v1, v2]) dX8_tell_39 kc_6_279 rfl rfl (Nat.le_of_ble_eq_true rfl)
theorem dX8_tell_42 : decode cX8_tell 42 = .ok (.goto 13, 3) := by decide +kernel
theorem sX8_tell_42 : ab_X rom K cX8_tell 6 1 42 ls st hp = ab_X rom K cX8_tell 6 1 55 ls st hp := ax_goto dX8_tell_42 (by decide)
theorem dX8_tell_45 : decode cX8_tell 45 = .ok (.aload_n 0, 1) := by decide +kernel
theorem sX8_tell_45 : ab_X rom K cX8_tell 6 1 45 (.ref a :: ls) st hp = ab_X rom K cX8_tell 6 1 46 (.ref a :: ls) (.ref a :: st) hp := ax_aload_n dX8_tell_45 rfl rfl
theorem dX8_tell_46 : decode cX8_tell 46 = .ok (.aload_n 0, 1) := by decide +kernel
theorem sX8_tell_46 : ab_X rom K cX8_tell 6 1 46 (.ref a :: ls) st hp = ab_X rom K cX8_tell 6 1 47 (.ref a :: ls) (.ref a :: st) hp := ax_aload_n dX8_tell_46 rfl rfl
theorem dX8_tell_47 : decode cX8_tell 47 = .ok (.getfield 21, 3) := by decide +kernel
theorem sX8_tell_47 : ab_X rom K cX8_tell 6 1 47 ls (.ref a :: st) hp = (ab_fld hp a 6 3).bind (fun v => ab_X rom K cX8_tell 6 1 50 ls (v :: st) hp) := ax_getfield dX8_tell_47 kf_6_21 rfl
theorem dX8_tell_50 : decode cX8_tell 50 = .ok (.iload_n 1, 1) := by decide +kernel
theorem sX8_tell_50 : ab_X rom K cX8_tell 6 1 50 (v0 :: .int x :: ls) st hp = ab_X rom K cX8_tell 6 1 51 (v0 :: .int x :: ls) (.int x :: st) hp := ax_iload_n dX8_tell_50 rfl rfl
theorem dX8_tell_51 : decode cX8_tell 51 = .ok (.aaload, 1) := by decide +kernel
theorem sX8_tell_51 : ab_X rom K cX8_tell 6 1 51 ls (.int x :: .ref a :: st) hp = (ab_rrd hp a x).bind (fun v => ab_X rom K cX8_tell 6 1 52 ls (.ref v :: st) hp) := ax_aaload dX8_tell_51 rfl
theorem dX8_tell_52 : decode cX8_tell 52 = .ok (.invokevirtual 282, 3) := by decide +kernel
theorem sX8_tell_52_0 : ab_X rom K cX8_tell 6 1 52 ls [w1, .ref a] hp = if ab_iso hp a 6 = true then (K 129 (.ref a :: [w1]) hp).bind (fun o => ab_X rom K cX8_tell 6 1 55 ls (o.1.toList ++ []) o.2) else none := ay_virtual (as := [w1]) (st := []) dX8_tell_52 kc_6_282 rfl rfl (Nat.le_of_ble_eq_true rfl)
theorem sX8_tell_52_1 : ab_X rom K cX8_tell 6 1 52 ls [w1, .ref a, v0] hp = if ab_iso hp a 6 = true then (K 129 (.ref a :: [w1]) hp).bind (fun o => ab_X rom K cX8_tell 6 1 55 ls (o.1.toList ++ [v0]) o.2) else none := ay_virtual (as := [w1]) (st := [v0]) dX8_tell_52 kc_6_282 rfl rfl (Nat.le_of_ble_eq_true rfl)
theorem sX8_tell_52_2 : ab_X rom K cX8_tell 6 1 52 ls [w1, .ref a, v0, v1] hp = if ab_iso hp a 6 = true then (K 129 (.ref a :: [w1]) hp).bind (fun o => ab_X rom K cX8_tell 6 1 55 ls (o.1.toList ++ [v0, v1]) o.2) else none := ay_virtual (as := [w1]) (st := [v0, v1]) dX8_tell_52 kc_6_282 rfl rfl (Nat.le_of_ble_eq_true rfl)
theorem sX8_tell_52_3 : ab_X rom K cX8_tell 6 1 52 ls [w1, .ref a, v0, v1, v2] hp = if ab_iso hp a 6 = true then (K 129 (.ref a :: [w1]) hp).bind (fun o => ab_X rom K cX8_tell 6 1 55 ls (o.1.toList ++ [v0, v1, v2]) o.2) else none := ay_virtual (as := [w1]) (st := [v0, v1, v2]) dX8_tell_52 kc_6_282 rfl rfl (Nat.le_of_ble_eq_true rfl)
theorem dX8_tell_55 : decode cX8_tell 55 = .ok (.aload_n 0, 1) := by decide +kernel
theorem sX8_tell_55 : ab_X rom K cX8_tell 6 1 55 (.ref a :: ls) st hp = ab_X rom K cX8_tell 6 1 56 (.ref a :: ls) (.ref a :: st) hp := ax_aload_n dX8_tell_55 rfl rfl
theorem dX8_tell_56 : decode cX8_tell 56 = .ok (.getfield 16, 3) := by decide +kernel
theorem sX8_tell_56 : ab_X rom K cX8_tell 6 1 56 ls (.ref a :: st) hp = (ab_fld hp a 6 2).bind (fun v => ab_X rom K cX8_tell 6 1 59 ls (v :: st) hp) := ax_getfield dX8_tell_56 kf_6_16 rfl
theorem dX8_tell_59 : decode cX8_tell 59 = .ok (.getfield 69, 3) := by decide +kernel
theorem sX8_tell_59 : ab_X rom K cX8_tell 6 1 59 ls (.ref a :: st) hp = (ab_fld hp a 5 1).bind (fun v => ab_X rom K cX8_tell 6 1 62 ls (v :: st) hp) := ax_getfield dX8_tell_59 kf_6_69 rfl
theorem dX8_tell_62 : decode cX8_tell 62 = .ok (.ireturn, 1) := by decide +kernel
theorem sX8_tell_62 : ab_X rom K cX8_tell 6 1 62 ls [.int x] hp = some (some (.int x), hp) := ax_iret dX8_tell_62 rfl
theorem tX8_told : ab_mT[121]? = some (yX8_told, cX8_told, 3, 1, 6) := by decide +kernel
theorem mX8_told {d : Nat} {a0 : Nat} {x0 : Int32} : ab_M rom (d + 1) 121 [.ref a0, .int x0] hp = ab_X rom (ab_M rom d) cX8_told 6 1 0 [.ref a0, .int x0, .null] [] hp := ab_M_eq tX8_told (Nat.le_of_ble_eq_true rfl)
theorem dX8_told_0 : decode cX8_told 0 = .ok (.iload_n 1, 1) := by decide +kernel
theorem sX8_told_0 : ab_X rom K cX8_told 6 1 0 (v0 :: .int x :: ls) st hp = ab_X rom K cX8_told 6 1 1 (v0 :: .int x :: ls) (.int x :: st) hp := ax_iload_n dX8_told_0 rfl rfl
theorem dX8_told_1 : decode cX8_told 1 = .ok (.invokestatic 76, 3) := by decide +kernel
theorem sX8_told_1_0 : ab_X rom K cX8_told 6 1 1 ls [w1] hp = (K 101 [w1] hp).bind (fun o => ab_X rom K cX8_told 6 1 4 ls (o.1.toList ++ []) o.2) := ax_static (as := [w1]) (st := []) dX8_told_1 kc_6_76 rfl rfl (Nat.le_of_ble_eq_true rfl)
theorem sX8_told_1_1 : ab_X rom K cX8_told 6 1 1 ls [w1, v0] hp = (K 101 [w1] hp).bind (fun o => ab_X rom K cX8_told 6 1 4 ls (o.1.toList ++ [v0]) o.2) := ax_static (as := [w1]) (st := [v0]) dX8_told_1 kc_6_76 rfl rfl (Nat.le_of_ble_eq_true rfl)
theorem sX8_told_1_2 : ab_X rom K cX8_told 6 1 1 ls [w1, v0, v1] hp = (K 101 [w1] hp).bind (fun o => ab_X rom K cX8_told 6 1 4 ls (o.1.toList ++ [v0, v1]) o.2) := ax_static (as := [w1]) (st := [v0, v1]) dX8_told_1 kc_6_76 rfl rfl (Nat.le_of_ble_eq_true rfl)
theorem sX8_told_1_3 : ab_X rom K cX8_told 6 1 1 ls [w1, v0, v1, v2] hp = (K 101 [w1] hp).bind (fun o => ab_X rom K cX8_told 6 1 4 ls (o.1.toList ++ [v0, v1, v2]) o.2) := ax_static (as := [w1]) (st := [v0, v1, v2]) dX8_told_1 kc_6_76 rfl rfl (Nat.le_of_ble_eq_true rfl)
theorem dX8_told_4 : decode cX8_told 4 = .ok (.ifCond .ne 6, 3) := by decide +kernel
theorem sX8_told_4 : ab_X rom K cX8_told 6 1 4 ls (.int x :: st) hp = if x = 0 then ab_X rom K cX8_told 6 1 7 ls st hp else ab_X rom K cX8_told 6 1 10 ls st hp := ax_if_ne dX8_told_4 (by decide) rfl
theorem dX8_told_7 : decode cX8_told 7 = .ok (.bipush (-2), 2) := by decide +kernel
theorem sX8_told_7 : ab_X rom K cX8_told 6 1 7 ls st hp = ab_X rom K cX8_told 6 1 9 ls (.int (-2) :: st) hp := ax_bipush dX8_told_7 (by decide) rfl
theorem dX8_told_9 : decode cX8_told 9 = .ok (.ireturn, 1) := by decide +kernel
theorem sX8_told_9 : ab_X rom K cX8_told 6 1 9 ls [.int x] hp = some (some (.int x), hp) := ax_iret dX8_told_9 rfl
theorem dX8_told_10 : decode cX8_told 10 = .ok (.aload_n 0, 1) := by decide +kernel
theorem sX8_told_10 : ab_X rom K cX8_told 6 1 10 (.ref a :: ls) st hp = ab_X rom K cX8_told 6 1 11 (.ref a :: ls) (.ref a :: st) hp := ax_aload_n dX8_told_10 rfl rfl
theorem dX8_told_11 : decode cX8_told 11 = .ok (.getfield 35, 3) := by decide +kernel
theorem sX8_told_11 : ab_X rom K cX8_told 6 1 11 ls (.ref a :: st) hp = (ab_fld hp a 6 1).bind (fun v => ab_X rom K cX8_told 6 1 14 ls (v :: st) hp) := ax_getfield dX8_told_11 kf_6_35 rfl
theorem dX8_told_14 : decode cX8_told 14 = .ok (.invokevirtual 80, 3) := by decide +kernel
theorem sX8_told_14_0 : ab_X rom K cX8_told 6 1 14 ls [.ref a] hp = if ab_iso hp a 3 = true then (K 51 (.ref a :: []) hp).bind (fun o => ab_X rom K cX8_told 6 1 17 ls (o.1.toList ++ []) o.2) else none := ay_virtual (as := []) (st := []) dX8_told_14 kc_6_80 rfl rfl (Nat.le_of_ble_eq_true rfl)
theorem sX8_told_14_1 : ab_X rom K cX8_told 6 1 14 ls [.ref a, v0] hp = if ab_iso hp a 3 = true then (K 51 (.ref a :: []) hp).bind (fun o => ab_X rom K cX8_told 6 1 17 ls (o.1.toList ++ [v0]) o.2) else none := ay_virtual (as := []) (st := [v0]) dX8_told_14 kc_6_80 rfl rfl (Nat.le_of_ble_eq_true rfl)
theorem sX8_told_14_2 : ab_X rom K cX8_told 6 1 14 ls [.ref a, v0, v1] hp = if ab_iso hp a 3 = true then (K 51 (.ref a :: []) hp).bind (fun o => ab_X rom K cX8_told 6 1 17 ls (o.1.toList ++ [v0, v1]) o.2) else none := ay_virtual (as := []) (st := [v0, v1]) dX8_told_14 kc_6_80 rfl rfl (Nat.le_of_ble_eq_true rfl)
theorem sX8_told_14_3 : ab_X rom K cX8_told 6 1 14 ls [.ref a, v0, v1, v2] hp = if ab_iso hp a 3 = true then (K 51 (.ref a :: []) hp).bind (fun o => ab_X rom K cX8_told 6 1 17 ls (o.1.toList ++ [v0, v1, v2]) o.2) else none := ay_virtual (as := []) (st := [v0, v1, v2]) dX8_told_14 kc_6_80 rfl rfl (Nat.le_of_ble_eq_true rfl)
theorem dX8_told_17 : decode cX8_told 17 = .ok (.istore_n 2, 1) := by decide +kernel
theorem sX8_told_17i : ab_X rom K cX8_told 6 1 17 (v0 :: .int y :: v2 :: ls) (.int x :: st) hp = ab_X rom K cX8_told 6 1 18 (v0 :: .int y :: .int x :: ls) st hp := ax_istore_n dX8_told_17 (ax_lt (v := v2) rfl) (ab_nl_c1 (j := 1) (v := .int y) rfl (ab_c1_int _)) rfl rfl
theorem sX8_told_17r : ab_X rom K cX8_told 6 1 17 (v0 :: .ref a2 :: v2 :: ls) (.int x :: st) hp = ab_X rom K cX8_told 6 1 18 (v0 :: .ref a2 :: .int x :: ls) st hp := ax_istore_n dX8_told_17 (ax_lt (v := v2) rfl) (ab_nl_c1 (j := 1) (v := .ref a2) rfl (ab_c1_ref _)) rfl rfl
theorem sX8_told_17n : ab_X rom K cX8_told 6 1 17 (v0 :: .null :: v2 :: ls) (.int x :: st) hp = ab_X rom K cX8_told 6 1 18 (v0 :: .null :: .int x :: ls) st hp := ax_istore_n dX8_told_17 (ax_lt (v := v2) rfl) (ab_nl_c1 (j := 1) (v := .null) rfl ab_c1_null) rfl rfl
theorem dX8_told_18 : decode cX8_told 18 = .ok (.aload_n 0, 1) := by decide +kernel
theorem sX8_told_18 : ab_X rom K cX8_told 6 1 18 (.ref a :: ls) st hp = ab_X rom K cX8_told 6 1 19 (.ref a :: ls) (.ref a :: st) hp := ax_aload_n dX8_told_18 rfl rfl
theorem dX8_told_19 : decode cX8_told 19 = .ok (.getfield 10, 3) := by decide +kernel
theorem sX8_told_19 : ab_X rom K cX8_told 6 1 19 ls (.ref a :: st) hp = (ab_fld hp a 6 0).bind (fun v => ab_X rom K cX8_told 6 1 22 ls (v :: st) hp) := ax_getfield dX8_told_19 kf_6_10 rfl
theorem dX8_told_22 : decode cX8_told 22 = .ok (.iconst 0, 1) := by decide +kernel
theorem sX8_told_22 : ab_X rom K cX8_told 6 1 22 ls st hp = ab_X rom K cX8_told 6 1 23 ls (.int 0 :: st) hp := ax_iconst dX8_told_22 (by decide) rfl
theorem dX8_told_23 : decode cX8_told 23 = .ok (.putfield 69, 3) := by decide +kernel
theorem sX8_told_23 : ab_X rom K cX8_told 6 1 23 ls (.int x :: .ref a :: st) hp = (ab_fpt hp a 5 1 (.int x)).bind (fun hp' => ab_X rom K cX8_told 6 1 26 ls st hp') := ax_putfield dX8_told_23 kf_6_69 rfl (Or.inl rfl) rfl
theorem dX8_told_26 : decode cX8_told 26 = .ok (.aload_n 0, 1) := by decide +kernel
theorem sX8_told_26 : ab_X rom K cX8_told 6 1 26 (.ref a :: ls) st hp = ab_X rom K cX8_told 6 1 27 (.ref a :: ls) (.ref a :: st) hp := ax_aload_n dX8_told_26 rfl rfl
theorem dX8_told_27 : decode cX8_told 27 = .ok (.aload_n 0, 1) := by decide +kernel
theorem sX8_told_27 : ab_X rom K cX8_told 6 1 27 (.ref a :: ls) st hp = ab_X rom K cX8_told 6 1 28 (.ref a :: ls) (.ref a :: st) hp := ax_aload_n dX8_told_27 rfl rfl
theorem dX8_told_28 : decode cX8_told 28 = .ok (.getfield 35, 3) := by decide +kernel
theorem sX8_told_28 : ab_X rom K cX8_told 6 1 28 ls (.ref a :: st) hp = (ab_fld hp a 6 1).bind (fun v => ab_X rom K cX8_told 6 1 31 ls (v :: st) hp) := ax_getfield dX8_told_28 kf_6_35 rfl
theorem dX8_told_31 : decode cX8_told 31 = .ok (.getfield 84, 3) := by decide +kernel
theorem sX8_told_31 : ab_X rom K cX8_told 6 1 31 ls (.ref a :: st) hp = (ab_fld hp a 3 0).bind (fun v => ab_X rom K cX8_told 6 1 34 ls (v :: st) hp) := ax_getfield dX8_told_31 kf_6_84 rfl
theorem dX8_told_34 : decode cX8_told 34 = .ok (.putfield 62, 3) := by decide +kernel
theorem sX8_told_34 : ab_X rom K cX8_told 6 1 34 ls (.int x :: .ref a :: st) hp = (ab_fpt hp a 6 9 (.int x)).bind (fun hp' => ab_X rom K cX8_told 6 1 37 ls st hp') := ax_putfield dX8_told_34 kf_6_62 rfl (Or.inl rfl) rfl
theorem dX8_told_37 : decode cX8_told 37 = .ok (.aload_n 0, 1) := by decide +kernel
theorem sX8_told_37 : ab_X rom K cX8_told 6 1 37 (.ref a :: ls) st hp = ab_X rom K cX8_told 6 1 38 (.ref a :: ls) (.ref a :: st) hp := ax_aload_n dX8_told_37 rfl rfl
theorem dX8_told_38 : decode cX8_told 38 = .ok (.aload_n 0, 1) := by decide +kernel
theorem sX8_told_38 : ab_X rom K cX8_told 6 1 38 (.ref a :: ls) st hp = ab_X rom K cX8_told 6 1 39 (.ref a :: ls) (.ref a :: st) hp := ax_aload_n dX8_told_38 rfl rfl
theorem dX8_told_39 : decode cX8_told 39 = .ok (.getfield 35, 3) := by decide +kernel
theorem sX8_told_39 : ab_X rom K cX8_told 6 1 39 ls (.ref a :: st) hp = (ab_fld hp a 6 1).bind (fun v => ab_X rom K cX8_told 6 1 42 ls (v :: st) hp) := ax_getfield dX8_told_39 kf_6_35 rfl
theorem dX8_told_42 : decode cX8_told 42 = .ok (.getfield 85, 3) := by decide +kernel
theorem sX8_told_42 : ab_X rom K cX8_told 6 1 42 ls (.ref a :: st) hp = (ab_fld hp a 3 1).bind (fun v => ab_X rom K cX8_told 6 1 45 ls (v :: st) hp) := ax_getfield dX8_told_42 kf_6_85 rfl
theorem dX8_told_45 : decode cX8_told 45 = .ok (.putfield 66, 3) := by decide +kernel
theorem sX8_told_45 : ab_X rom K cX8_told 6 1 45 ls (.int x :: .ref a :: st) hp = (ab_fpt hp a 6 10 (.int x)).bind (fun hp' => ab_X rom K cX8_told 6 1 48 ls st hp') := ax_putfield dX8_told_45 kf_6_66 rfl (Or.inl rfl) rfl
theorem dX8_told_48 : decode cX8_told 48 = .ok (.iload_n 2, 1) := by decide +kernel
theorem sX8_told_48 : ab_X rom K cX8_told 6 1 48 (v0 :: v1 :: .int x :: ls) st hp = ab_X rom K cX8_told 6 1 49 (v0 :: v1 :: .int x :: ls) (.int x :: st) hp := ax_iload_n dX8_told_48 rfl rfl
theorem dX8_told_49 : decode cX8_told 49 = .ok (.ifCond .ne 6, 3) := by decide +kernel
theorem sX8_told_49 : ab_X rom K cX8_told 6 1 49 ls (.int x :: st) hp = if x = 0 then ab_X rom K cX8_told 6 1 52 ls st hp else ab_X rom K cX8_told 6 1 55 ls st hp := ax_if_ne dX8_told_49 (by decide) rfl
theorem dX8_told_52 : decode cX8_told 52 = .ok (.bipush (-4), 2) := by decide +kernel
theorem sX8_told_52 : ab_X rom K cX8_told 6 1 52 ls st hp = ab_X rom K cX8_told 6 1 54 ls (.int (-4) :: st) hp := ax_bipush dX8_told_52 (by decide) rfl
theorem dX8_told_54 : decode cX8_told 54 = .ok (.ireturn, 1) := by decide +kernel
theorem sX8_told_54 : ab_X rom K cX8_told 6 1 54 ls [.int x] hp = some (some (.int x), hp) := ax_iret dX8_told_54 rfl
theorem dX8_told_55 : decode cX8_told 55 = .ok (.aload_n 0, 1) := by decide +kernel
theorem sX8_told_55 : ab_X rom K cX8_told 6 1 55 (.ref a :: ls) st hp = ab_X rom K cX8_told 6 1 56 (.ref a :: ls) (.ref a :: st) hp := ax_aload_n dX8_told_55 rfl rfl
theorem dX8_told_56 : decode cX8_told 56 = .ok (.iload_n 1, 1) := by decide +kernel
theorem sX8_told_56 : ab_X rom K cX8_told 6 1 56 (v0 :: .int x :: ls) st hp = ab_X rom K cX8_told 6 1 57 (v0 :: .int x :: ls) (.int x :: st) hp := ax_iload_n dX8_told_56 rfl rfl
theorem dX8_told_57 : decode cX8_told 57 = .ok (.invokevirtual 86, 3) := by decide +kernel
theorem sX8_told_57_0 : ab_X rom K cX8_told 6 1 57 ls [w1, .ref a] hp = if ab_iso hp a 6 = true then (K 102 (.ref a :: [w1]) hp).bind (fun o => ab_X rom K cX8_told 6 1 60 ls (o.1.toList ++ []) o.2) else none := ay_virtual (as := [w1]) (st := []) dX8_told_57 kc_6_86 rfl rfl (Nat.le_of_ble_eq_true rfl)
theorem sX8_told_57_1 : ab_X rom K cX8_told 6 1 57 ls [w1, .ref a, v0] hp = if ab_iso hp a 6 = true then (K 102 (.ref a :: [w1]) hp).bind (fun o => ab_X rom K cX8_told 6 1 60 ls (o.1.toList ++ [v0]) o.2) else none := ay_virtual (as := [w1]) (st := [v0]) dX8_told_57 kc_6_86 rfl rfl (Nat.le_of_ble_eq_true rfl)
theorem sX8_told_57_2 : ab_X rom K cX8_told 6 1 57 ls [w1, .ref a, v0, v1] hp = if ab_iso hp a 6 = true then (K 102 (.ref a :: [w1]) hp).bind (fun o => ab_X rom K cX8_told 6 1 60 ls (o.1.toList ++ [v0, v1]) o.2) else none := ay_virtual (as := [w1]) (st := [v0, v1]) dX8_told_57 kc_6_86 rfl rfl (Nat.le_of_ble_eq_true rfl)
theorem sX8_told_57_3 : ab_X rom K cX8_told 6 1 57 ls [w1, .ref a, v0, v1, v2] hp = if ab_iso hp a 6 = true then (K 102 (.ref a :: [w1]) hp).bind (fun o => ab_X rom K cX8_told 6 1 60 ls (o.1.toList ++ [v0, v1, v2]) o.2) else none := ay_virtual (as := [w1]) (st := [v0, v1, v2]) dX8_told_57 kc_6_86 rfl rfl (Nat.le_of_ble_eq_true rfl)
theorem dX8_told_60 : decode cX8_told 60 = .ok (.aload_n 0, 1) := by decide +kernel
theorem sX8_told_60 : ab_X rom K cX8_told 6 1 60 (.ref a :: ls) st hp = ab_X rom K cX8_told 6 1 61 (.ref a :: ls) (.ref a :: st) hp := ax_aload_n dX8_told_60 rfl rfl
theorem dX8_told_61 : decode cX8_told 61 = .ok (.getfield 21, 3) := by decide +kernel
theorem sX8_told_61 : ab_X rom K cX8_told 6 1 61 ls (.ref a :: st) hp = (ab_fld hp a 6 3).bind (fun v => ab_X rom K cX8_told 6 1 64 ls (v :: st) hp) := ax_getfield dX8_told_61 kf_6_21 rfl
theorem dX8_told_64 : decode cX8_told 64 = .ok (.iload_n 1, 1) := by decide +kernel
theorem sX8_told_64 : ab_X rom K cX8_told 6 1 64 (v0 :: .int x :: ls) st hp = ab_X rom K cX8_told 6 1 65 (v0 :: .int x :: ls) (.int x :: st) hp := ax_iload_n dX8_told_64 rfl rfl
theorem dX8_told_65 : decode cX8_told 65 = .ok (.aaload, 1) := by decide +kernel
theorem sX8_told_65 : ab_X rom K cX8_told 6 1 65 ls (.int x :: .ref a :: st) hp = (ab_rrd hp a x).bind (fun v => ab_X rom K cX8_told 6 1 66 ls (.ref v :: st) hp) := ax_aaload dX8_told_65 rfl
theorem dX8_told_66 : decode cX8_told 66 = .ok (.getfield 89, 3) := by decide +kernel
theorem sX8_told_66 : ab_X rom K cX8_told 6 1 66 ls (.ref a :: st) hp = (ab_fld hp a 1 1).bind (fun v => ab_X rom K cX8_told 6 1 69 ls (v :: st) hp) := ax_getfield dX8_told_66 kf_6_89 rfl
theorem dX8_told_69 : decode cX8_told 69 = .ok (.ireturn, 1) := by decide +kernel
theorem sX8_told_69 : ab_X rom K cX8_told 6 1 69 ls [.int x] hp = some (some (.int x), hp) := ax_iret dX8_told_69 rfl
theorem tX8_total : ab_mT[122]? = some (yX8_total, cX8_total, 4, 1, 6) := by decide +kernel
theorem mX8_total {d : Nat} {a0 : Nat} {x0 : Int32} {x1 : Int32} : ab_M rom (d + 1) 122 [.ref a0, .int x0, .int x1] hp = ab_X rom (ab_M rom d) cX8_total 6 1 0 [.ref a0, .int x0, .int x1, .null] [] hp := ab_M_eq tX8_total (Nat.le_of_ble_eq_true rfl)
theorem dX8_total_0 : decode cX8_total 0 = .ok (.aload_n 0, 1) := by decide +kernel
theorem sX8_total_0 : ab_X rom K cX8_total 6 1 0 (.ref a :: ls) st hp = ab_X rom K cX8_total 6 1 1 (.ref a :: ls) (.ref a :: st) hp := ax_aload_n dX8_total_0 rfl rfl
theorem dX8_total_1 : decode cX8_total 1 = .ok (.iload_n 1, 1) := by decide +kernel
theorem sX8_total_1 : ab_X rom K cX8_total 6 1 1 (v0 :: .int x :: ls) st hp = ab_X rom K cX8_total 6 1 2 (v0 :: .int x :: ls) (.int x :: st) hp := ax_iload_n dX8_total_1 rfl rfl
theorem dX8_total_2 : decode cX8_total 2 = .ok (.invokevirtual 99, 3) := by decide +kernel
theorem sX8_total_2_0 : ab_X rom K cX8_total 6 1 2 ls [w1, .ref a] hp = if ab_iso hp a 6 = true then (K 95 (.ref a :: [w1]) hp).bind (fun o => ab_X rom K cX8_total 6 1 5 ls (o.1.toList ++ []) o.2) else none := ay_virtual (as := [w1]) (st := []) dX8_total_2 kc_6_99 rfl rfl (Nat.le_of_ble_eq_true rfl)
theorem sX8_total_2_1 : ab_X rom K cX8_total 6 1 2 ls [w1, .ref a, v0] hp = if ab_iso hp a 6 = true then (K 95 (.ref a :: [w1]) hp).bind (fun o => ab_X rom K cX8_total 6 1 5 ls (o.1.toList ++ [v0]) o.2) else none := ay_virtual (as := [w1]) (st := [v0]) dX8_total_2 kc_6_99 rfl rfl (Nat.le_of_ble_eq_true rfl)
theorem sX8_total_2_2 : ab_X rom K cX8_total 6 1 2 ls [w1, .ref a, v0, v1] hp = if ab_iso hp a 6 = true then (K 95 (.ref a :: [w1]) hp).bind (fun o => ab_X rom K cX8_total 6 1 5 ls (o.1.toList ++ [v0, v1]) o.2) else none := ay_virtual (as := [w1]) (st := [v0, v1]) dX8_total_2 kc_6_99 rfl rfl (Nat.le_of_ble_eq_true rfl)
theorem sX8_total_2_3 : ab_X rom K cX8_total 6 1 2 ls [w1, .ref a, v0, v1, v2] hp = if ab_iso hp a 6 = true then (K 95 (.ref a :: [w1]) hp).bind (fun o => ab_X rom K cX8_total 6 1 5 ls (o.1.toList ++ [v0, v1, v2]) o.2) else none := ay_virtual (as := [w1]) (st := [v0, v1, v2]) dX8_total_2 kc_6_99 rfl rfl (Nat.le_of_ble_eq_true rfl)
theorem dX8_total_5 : decode cX8_total 5 = .ok (.ifCond .eq 12, 3) := by decide +kernel
theorem sX8_total_5 : ab_X rom K cX8_total 6 1 5 ls (.int x :: st) hp = if x = 0 then ab_X rom K cX8_total 6 1 17 ls st hp else ab_X rom K cX8_total 6 1 8 ls st hp := ax_if_eq dX8_total_5 (by decide) rfl
theorem dX8_total_8 : decode cX8_total 8 = .ok (.iload_n 2, 1) := by decide +kernel
theorem sX8_total_8 : ab_X rom K cX8_total 6 1 8 (v0 :: v1 :: .int x :: ls) st hp = ab_X rom K cX8_total 6 1 9 (v0 :: v1 :: .int x :: ls) (.int x :: st) hp := ax_iload_n dX8_total_8 rfl rfl
theorem dX8_total_9 : decode cX8_total 9 = .ok (.ifCond .lt 8, 3) := by decide +kernel
theorem sX8_total_9 : ab_X rom K cX8_total 6 1 9 ls (.int x :: st) hp = if x < 0 then ab_X rom K cX8_total 6 1 17 ls st hp else ab_X rom K cX8_total 6 1 12 ls st hp := ax_if_lt dX8_total_9 (by decide) rfl
theorem dX8_total_12 : decode cX8_total 12 = .ok (.iload_n 2, 1) := by decide +kernel
theorem sX8_total_12 : ab_X rom K cX8_total 6 1 12 (v0 :: v1 :: .int x :: ls) st hp = ab_X rom K cX8_total 6 1 13 (v0 :: v1 :: .int x :: ls) (.int x :: st) hp := ax_iload_n dX8_total_12 rfl rfl
theorem dX8_total_13 : decode cX8_total 13 = .ok (.iconst 1, 1) := by decide +kernel
theorem sX8_total_13 : ab_X rom K cX8_total 6 1 13 ls st hp = ab_X rom K cX8_total 6 1 14 ls (.int 1 :: st) hp := ax_iconst dX8_total_13 (by decide) rfl
theorem dX8_total_14 : decode cX8_total 14 = .ok (.if_icmp .le 6, 3) := by decide +kernel
theorem sX8_total_14 : ab_X rom K cX8_total 6 1 14 ls (.int y :: .int x :: st) hp = if y < x then ab_X rom K cX8_total 6 1 17 ls st hp else ab_X rom K cX8_total 6 1 20 ls st hp := ax_icmp_le dX8_total_14 (by decide) rfl
theorem dX8_total_17 : decode cX8_total 17 = .ok (.bipush (-2), 2) := by decide +kernel
theorem sX8_total_17 : ab_X rom K cX8_total 6 1 17 ls st hp = ab_X rom K cX8_total 6 1 19 ls (.int (-2) :: st) hp := ax_bipush dX8_total_17 (by decide) rfl
theorem dX8_total_19 : decode cX8_total 19 = .ok (.ireturn, 1) := by decide +kernel
theorem sX8_total_19 : ab_X rom K cX8_total 6 1 19 ls [.int x] hp = some (some (.int x), hp) := ax_iret dX8_total_19 rfl
theorem dX8_total_20 : decode cX8_total 20 = .ok (.aload_n 0, 1) := by decide +kernel
theorem sX8_total_20 : ab_X rom K cX8_total 6 1 20 (.ref a :: ls) st hp = ab_X rom K cX8_total 6 1 21 (.ref a :: ls) (.ref a :: st) hp := ax_aload_n dX8_total_20 rfl rfl
theorem dX8_total_21 : decode cX8_total 21 = .ok (.getfield 21, 3) := by decide +kernel
theorem sX8_total_21 : ab_X rom K cX8_total 6 1 21 ls (.ref a :: st) hp = (ab_fld hp a 6 3).bind (fun v => ab_X rom K cX8_total 6 1 24 ls (v :: st) hp) := ax_getfield dX8_total_21 kf_6_21 rfl
theorem dX8_total_24 : decode cX8_total 24 = .ok (.iload_n 1, 1) := by decide +kernel
theorem sX8_total_24 : ab_X rom K cX8_total 6 1 24 (v0 :: .int x :: ls) st hp = ab_X rom K cX8_total 6 1 25 (v0 :: .int x :: ls) (.int x :: st) hp := ax_iload_n dX8_total_24 rfl rfl
theorem dX8_total_25 : decode cX8_total 25 = .ok (.aaload, 1) := by decide +kernel
theorem sX8_total_25 : ab_X rom K cX8_total 6 1 25 ls (.int x :: .ref a :: st) hp = (ab_rrd hp a x).bind (fun v => ab_X rom K cX8_total 6 1 26 ls (.ref v :: st) hp) := ax_aaload dX8_total_25 rfl
theorem dX8_total_26 : decode cX8_total 26 = .ok (.astore_n 3, 1) := by decide +kernel
theorem sX8_total_26i : ab_X rom K cX8_total 6 1 26 (v0 :: v1 :: .int y :: v3 :: ls) (.ref a :: st) hp = ab_X rom K cX8_total 6 1 27 (v0 :: v1 :: .int y :: .ref a :: ls) st hp := ax_astore_n dX8_total_26 (ax_lt (v := v3) rfl) (ab_nl_c1 (j := 2) (v := .int y) rfl (ab_c1_int _)) rfl rfl
theorem sX8_total_26r : ab_X rom K cX8_total 6 1 26 (v0 :: v1 :: .ref a2 :: v3 :: ls) (.ref a :: st) hp = ab_X rom K cX8_total 6 1 27 (v0 :: v1 :: .ref a2 :: .ref a :: ls) st hp := ax_astore_n dX8_total_26 (ax_lt (v := v3) rfl) (ab_nl_c1 (j := 2) (v := .ref a2) rfl (ab_c1_ref _)) rfl rfl
theorem sX8_total_26n : ab_X rom K cX8_total 6 1 26 (v0 :: v1 :: .null :: v3 :: ls) (.ref a :: st) hp = ab_X rom K cX8_total 6 1 27 (v0 :: v1 :: .null :: .ref a :: ls) st hp := ax_astore_n dX8_total_26 (ax_lt (v := v3) rfl) (ab_nl_c1 (j := 2) (v := .null) rfl ab_c1_null) rfl rfl
theorem dX8_total_27 : decode cX8_total 27 = .ok (.aload_n 3, 1) := by decide +kernel
theorem sX8_total_27 : ab_X rom K cX8_total 6 1 27 (v0 :: v1 :: v2 :: .ref a :: ls) st hp = ab_X rom K cX8_total 6 1 28 (v0 :: v1 :: v2 :: .ref a :: ls) (.ref a :: st) hp := ax_aload_n dX8_total_27 rfl rfl
theorem dX8_total_28 : decode cX8_total 28 = .ok (.invokevirtual 165, 3) := by decide +kernel
theorem sX8_total_28_0 : ab_X rom K cX8_total 6 1 28 ls [.ref a] hp = if ab_iso hp a 1 = true then (K 13 (.ref a :: []) hp).bind (fun o => ab_X rom K cX8_total 6 1 31 ls (o.1.toList ++ []) o.2) else none := ay_virtual (as := []) (st := []) dX8_total_28 kc_6_165 rfl rfl (Nat.le_of_ble_eq_true rfl)
theorem sX8_total_28_1 : ab_X rom K cX8_total 6 1 28 ls [.ref a, v0] hp = if ab_iso hp a 1 = true then (K 13 (.ref a :: []) hp).bind (fun o => ab_X rom K cX8_total 6 1 31 ls (o.1.toList ++ [v0]) o.2) else none := ay_virtual (as := []) (st := [v0]) dX8_total_28 kc_6_165 rfl rfl (Nat.le_of_ble_eq_true rfl)
theorem sX8_total_28_2 : ab_X rom K cX8_total 6 1 28 ls [.ref a, v0, v1] hp = if ab_iso hp a 1 = true then (K 13 (.ref a :: []) hp).bind (fun o => ab_X rom K cX8_total 6 1 31 ls (o.1.toList ++ [v0, v1]) o.2) else none := ay_virtual (as := []) (st := [v0, v1]) dX8_total_28 kc_6_165 rfl rfl (Nat.le_of_ble_eq_true rfl)
theorem sX8_total_28_3 : ab_X rom K cX8_total 6 1 28 ls [.ref a, v0, v1, v2] hp = if ab_iso hp a 1 = true then (K 13 (.ref a :: []) hp).bind (fun o => ab_X rom K cX8_total 6 1 31 ls (o.1.toList ++ [v0, v1, v2]) o.2) else none := ay_virtual (as := []) (st := [v0, v1, v2]) dX8_total_28 kc_6_165 rfl rfl (Nat.le_of_ble_eq_true rfl)
theorem dX8_total_31 : decode cX8_total 31 = .ok (.ifCond .ne 5, 3) := by decide +kernel
theorem sX8_total_31 : ab_X rom K cX8_total 6 1 31 ls (.int x :: st) hp = if x = 0 then ab_X rom K cX8_total 6 1 34 ls st hp else ab_X rom K cX8_total 6 1 36 ls st hp := ax_if_ne dX8_total_31 (by decide) rfl
theorem dX8_total_34 : decode cX8_total 34 = .ok (.iconst (-1), 1) := by decide +kernel
theorem sX8_total_34 : ab_X rom K cX8_total 6 1 34 ls st hp = ab_X rom K cX8_total 6 1 35 ls (.int (-1) :: st) hp := ax_iconst dX8_total_34 (by decide) rfl
theorem dX8_total_35 : decode cX8_total 35 = .ok (.ireturn, 1) := by decide +kernel
theorem sX8_total_35 : ab_X rom K cX8_total 6 1 35 ls [.int x] hp = some (some (.int x), hp) := ax_iret dX8_total_35 rfl
theorem dX8_total_36 : decode cX8_total 36 = .ok (.iload_n 2, 1) := by decide +kernel
theorem sX8_total_36 : ab_X rom K cX8_total 6 1 36 (v0 :: v1 :: .int x :: ls) st hp = ab_X rom K cX8_total 6 1 37 (v0 :: v1 :: .int x :: ls) (.int x :: st) hp := ax_iload_n dX8_total_36 rfl rfl
theorem dX8_total_37 : decode cX8_total 37 = .ok (.ifCond .ne 10, 3) := by decide +kernel
theorem sX8_total_37 : ab_X rom K cX8_total 6 1 37 ls (.int x :: st) hp = if x = 0 then ab_X rom K cX8_total 6 1 40 ls st hp else ab_X rom K cX8_total 6 1 47 ls st hp := ax_if_ne dX8_total_37 (by decide) rfl
theorem dX8_total_40 : decode cX8_total 40 = .ok (.aload_n 3, 1) := by decide +kernel
theorem sX8_total_40 : ab_X rom K cX8_total 6 1 40 (v0 :: v1 :: v2 :: .ref a :: ls) st hp = ab_X rom K cX8_total 6 1 41 (v0 :: v1 :: v2 :: .ref a :: ls) (.ref a :: st) hp := ax_aload_n dX8_total_40 rfl rfl
theorem dX8_total_41 : decode cX8_total 41 = .ok (.invokevirtual 168, 3) := by decide +kernel
theorem sX8_total_41_0 : ab_X rom K cX8_total 6 1 41 ls [.ref a] hp = if ab_iso hp a 1 = true then (K 34 (.ref a :: []) hp).bind (fun o => ab_X rom K cX8_total 6 1 44 ls (o.1.toList ++ []) o.2) else none := ay_virtual (as := []) (st := []) dX8_total_41 kc_6_168 rfl rfl (Nat.le_of_ble_eq_true rfl)
theorem sX8_total_41_1 : ab_X rom K cX8_total 6 1 41 ls [.ref a, v0] hp = if ab_iso hp a 1 = true then (K 34 (.ref a :: []) hp).bind (fun o => ab_X rom K cX8_total 6 1 44 ls (o.1.toList ++ [v0]) o.2) else none := ay_virtual (as := []) (st := [v0]) dX8_total_41 kc_6_168 rfl rfl (Nat.le_of_ble_eq_true rfl)
theorem sX8_total_41_2 : ab_X rom K cX8_total 6 1 41 ls [.ref a, v0, v1] hp = if ab_iso hp a 1 = true then (K 34 (.ref a :: []) hp).bind (fun o => ab_X rom K cX8_total 6 1 44 ls (o.1.toList ++ [v0, v1]) o.2) else none := ay_virtual (as := []) (st := [v0, v1]) dX8_total_41 kc_6_168 rfl rfl (Nat.le_of_ble_eq_true rfl)
theorem sX8_total_41_3 : ab_X rom K cX8_total 6 1 41 ls [.ref a, v0, v1, v2] hp = if ab_iso hp a 1 = true then (K 34 (.ref a :: []) hp).bind (fun o => ab_X rom K cX8_total 6 1 44 ls (o.1.toList ++ [v0, v1, v2]) o.2) else none := ay_virtual (as := []) (st := [v0, v1, v2]) dX8_total_41 kc_6_168 rfl rfl (Nat.le_of_ble_eq_true rfl)
theorem dX8_total_44 : decode cX8_total 44 = .ok (.goto 7, 3) := by decide +kernel
theorem sX8_total_44 : ab_X rom K cX8_total 6 1 44 ls st hp = ab_X rom K cX8_total 6 1 51 ls st hp := ax_goto dX8_total_44 (by decide)
theorem dX8_total_47 : decode cX8_total 47 = .ok (.aload_n 3, 1) := by decide +kernel
theorem sX8_total_47 : ab_X rom K cX8_total 6 1 47 (v0 :: v1 :: v2 :: .ref a :: ls) st hp = ab_X rom K cX8_total 6 1 48 (v0 :: v1 :: v2 :: .ref a :: ls) (.ref a :: st) hp := ax_aload_n dX8_total_47 rfl rfl
theorem dX8_total_48 : decode cX8_total 48 = .ok (.invokevirtual 171, 3) := by decide +kernel
theorem sX8_total_48_0 : ab_X rom K cX8_total 6 1 48 ls [.ref a] hp = if ab_iso hp a 1 = true then (K 33 (.ref a :: []) hp).bind (fun o => ab_X rom K cX8_total 6 1 51 ls (o.1.toList ++ []) o.2) else none := ay_virtual (as := []) (st := []) dX8_total_48 kc_6_171 rfl rfl (Nat.le_of_ble_eq_true rfl)
theorem sX8_total_48_1 : ab_X rom K cX8_total 6 1 48 ls [.ref a, v0] hp = if ab_iso hp a 1 = true then (K 33 (.ref a :: []) hp).bind (fun o => ab_X rom K cX8_total 6 1 51 ls (o.1.toList ++ [v0]) o.2) else none := ay_virtual (as := []) (st := [v0]) dX8_total_48 kc_6_171 rfl rfl (Nat.le_of_ble_eq_true rfl)
theorem sX8_total_48_2 : ab_X rom K cX8_total 6 1 48 ls [.ref a, v0, v1] hp = if ab_iso hp a 1 = true then (K 33 (.ref a :: []) hp).bind (fun o => ab_X rom K cX8_total 6 1 51 ls (o.1.toList ++ [v0, v1]) o.2) else none := ay_virtual (as := []) (st := [v0, v1]) dX8_total_48 kc_6_171 rfl rfl (Nat.le_of_ble_eq_true rfl)
theorem sX8_total_48_3 : ab_X rom K cX8_total 6 1 48 ls [.ref a, v0, v1, v2] hp = if ab_iso hp a 1 = true then (K 33 (.ref a :: []) hp).bind (fun o => ab_X rom K cX8_total 6 1 51 ls (o.1.toList ++ [v0, v1, v2]) o.2) else none := ay_virtual (as := []) (st := [v0, v1, v2]) dX8_total_48 kc_6_171 rfl rfl (Nat.le_of_ble_eq_true rfl)
theorem dX8_total_51 : decode cX8_total 51 = .ok (.ireturn, 1) := by decide +kernel
theorem sX8_total_51 : ab_X rom K cX8_total 6 1 51 ls [.int x] hp = some (some (.int x), hp) := ax_iret dX8_total_51 rfl
theorem tX8_undo : ab_mT[123]? = some (yX8_undo, cX8_undo, 1, 1, 6) := by decide +kernel
theorem mX8_undo {d : Nat} {a0 : Nat} : ab_M rom (d + 1) 123 [.ref a0] hp = ab_X rom (ab_M rom d) cX8_undo 6 1 0 [.ref a0] [] hp := ab_M_eq tX8_undo (Nat.le_of_ble_eq_true rfl)
theorem dX8_undo_0 : decode cX8_undo 0 = .ok (.aload_n 0, 1) := by decide +kernel
theorem sX8_undo_0 : ab_X rom K cX8_undo 6 1 0 (.ref a :: ls) st hp = ab_X rom K cX8_undo 6 1 1 (.ref a :: ls) (.ref a :: st) hp := ax_aload_n dX8_undo_0 rfl rfl
theorem dX8_undo_1 : decode cX8_undo 1 = .ok (.getfield 42, 3) := by decide +kernel
theorem sX8_undo_1 : ab_X rom K cX8_undo 6 1 1 ls (.ref a :: st) hp = (ab_fld hp a 6 5).bind (fun v => ab_X rom K cX8_undo 6 1 4 ls (v :: st) hp) := ax_getfield dX8_undo_1 kf_6_42 rfl
theorem dX8_undo_4 : decode cX8_undo 4 = .ok (.getfield 96, 3) := by decide +kernel
theorem sX8_undo_4 : ab_X rom K cX8_undo 6 1 4 ls (.ref a :: st) hp = (ab_fld hp a 2 0).bind (fun v => ab_X rom K cX8_undo 6 1 7 ls (v :: st) hp) := ax_getfield dX8_undo_4 kf_6_96 rfl
theorem dX8_undo_7 : decode cX8_undo 7 = .ok (.ifCond .ne 5, 3) := by decide +kernel
theorem sX8_undo_7 : ab_X rom K cX8_undo 6 1 7 ls (.int x :: st) hp = if x = 0 then ab_X rom K cX8_undo 6 1 10 ls st hp else ab_X rom K cX8_undo 6 1 12 ls st hp := ax_if_ne dX8_undo_7 (by decide) rfl
theorem dX8_undo_10 : decode cX8_undo 10 = .ok (.iconst (-1), 1) := by decide +kernel
theorem sX8_undo_10 : ab_X rom K cX8_undo 6 1 10 ls st hp = ab_X rom K cX8_undo 6 1 11 ls (.int (-1) :: st) hp := ax_iconst dX8_undo_10 (by decide) rfl
theorem dX8_undo_11 : decode cX8_undo 11 = .ok (.ireturn, 1) := by decide +kernel
theorem sX8_undo_11 : ab_X rom K cX8_undo 6 1 11 ls [.int x] hp = some (some (.int x), hp) := ax_iret dX8_undo_11 rfl
theorem dX8_undo_12 : decode cX8_undo 12 = .ok (.aload_n 0, 1) := by decide +kernel
theorem sX8_undo_12 : ab_X rom K cX8_undo 6 1 12 (.ref a :: ls) st hp = ab_X rom K cX8_undo 6 1 13 (.ref a :: ls) (.ref a :: st) hp := ax_aload_n dX8_undo_12 rfl rfl
theorem dX8_undo_13 : decode cX8_undo 13 = .ok (.getfield 42, 3) := by decide +kernel
theorem sX8_undo_13 : ab_X rom K cX8_undo 6 1 13 ls (.ref a :: st) hp = (ab_fld hp a 6 5).bind (fun v => ab_X rom K cX8_undo 6 1 16 ls (v :: st) hp) := ax_getfield dX8_undo_13 kf_6_42 rfl
theorem dX8_undo_16 : decode cX8_undo 16 = .ok (.aload_n 0, 1) := by decide +kernel
theorem sX8_undo_16 : ab_X rom K cX8_undo 6 1 16 (.ref a :: ls) st hp = ab_X rom K cX8_undo 6 1 17 (.ref a :: ls) (.ref a :: st) hp := ax_aload_n dX8_undo_16 rfl rfl
theorem dX8_undo_17 : decode cX8_undo 17 = .ok (.getfield 21, 3) := by decide +kernel
theorem sX8_undo_17 : ab_X rom K cX8_undo 6 1 17 ls (.ref a :: st) hp = (ab_fld hp a 6 3).bind (fun v => ab_X rom K cX8_undo 6 1 20 ls (v :: st) hp) := ax_getfield dX8_undo_17 kf_6_21 rfl
theorem dX8_undo_20 : decode cX8_undo 20 = .ok (.invokevirtual 275, 3) := by decide +kernel
theorem sX8_undo_20_0 : ab_X rom K cX8_undo 6 1 20 ls [w1, .ref a] hp = if ab_iso hp a 2 = true then (K 36 (.ref a :: [w1]) hp).bind (fun o => ab_X rom K cX8_undo 6 1 23 ls (o.1.toList ++ []) o.2) else none := ay_virtual (as := [w1]) (st := []) dX8_undo_20 kc_6_275 rfl rfl (Nat.le_of_ble_eq_true rfl)
theorem sX8_undo_20_1 : ab_X rom K cX8_undo 6 1 20 ls [w1, .ref a, v0] hp = if ab_iso hp a 2 = true then (K 36 (.ref a :: [w1]) hp).bind (fun o => ab_X rom K cX8_undo 6 1 23 ls (o.1.toList ++ [v0]) o.2) else none := ay_virtual (as := [w1]) (st := [v0]) dX8_undo_20 kc_6_275 rfl rfl (Nat.le_of_ble_eq_true rfl)
theorem sX8_undo_20_2 : ab_X rom K cX8_undo 6 1 20 ls [w1, .ref a, v0, v1] hp = if ab_iso hp a 2 = true then (K 36 (.ref a :: [w1]) hp).bind (fun o => ab_X rom K cX8_undo 6 1 23 ls (o.1.toList ++ [v0, v1]) o.2) else none := ay_virtual (as := [w1]) (st := [v0, v1]) dX8_undo_20 kc_6_275 rfl rfl (Nat.le_of_ble_eq_true rfl)
theorem sX8_undo_20_3 : ab_X rom K cX8_undo 6 1 20 ls [w1, .ref a, v0, v1, v2] hp = if ab_iso hp a 2 = true then (K 36 (.ref a :: [w1]) hp).bind (fun o => ab_X rom K cX8_undo 6 1 23 ls (o.1.toList ++ [v0, v1, v2]) o.2) else none := ay_virtual (as := [w1]) (st := [v0, v1, v2]) dX8_undo_20 kc_6_275 rfl rfl (Nat.le_of_ble_eq_true rfl)
theorem dX8_undo_23 : decode cX8_undo 23 = .ok (.aload_n 0, 1) := by decide +kernel
theorem sX8_undo_23 : ab_X rom K cX8_undo 6 1 23 (.ref a :: ls) st hp = ab_X rom K cX8_undo 6 1 24 (.ref a :: ls) (.ref a :: st) hp := ax_aload_n dX8_undo_23 rfl rfl
theorem dX8_undo_24 : decode cX8_undo 24 = .ok (.getfield 42, 3) := by decide +kernel
theorem sX8_undo_24 : ab_X rom K cX8_undo 6 1 24 ls (.ref a :: st) hp = (ab_fld hp a 6 5).bind (fun v => ab_X rom K cX8_undo 6 1 27 ls (v :: st) hp) := ax_getfield dX8_undo_24 kf_6_42 rfl
theorem dX8_undo_27 : decode cX8_undo 27 = .ok (.getfield 96, 3) := by decide +kernel
theorem sX8_undo_27 : ab_X rom K cX8_undo 6 1 27 ls (.ref a :: st) hp = (ab_fld hp a 2 0).bind (fun v => ab_X rom K cX8_undo 6 1 30 ls (v :: st) hp) := ax_getfield dX8_undo_27 kf_6_96 rfl
theorem dX8_undo_30 : decode cX8_undo 30 = .ok (.ireturn, 1) := by decide +kernel
theorem sX8_undo_30 : ab_X rom K cX8_undo 6 1 30 ls [.int x] hp = some (some (.int x), hp) := ax_iret dX8_undo_30 rfl
theorem tX8_unlike : ab_mT[124]? = some (yX8_unlike, cX8_unlike, 5, 1, 6) := by decide +kernel
theorem mX8_unlike {d : Nat} {a0 : Nat} {x0 : Int32} {x1 : Int32} : ab_M rom (d + 1) 124 [.ref a0, .int x0, .int x1] hp = ab_X rom (ab_M rom d) cX8_unlike 6 1 0 [.ref a0, .int x0, .int x1, .null, .null] [] hp := ab_M_eq tX8_unlike (Nat.le_of_ble_eq_true rfl)
theorem dX8_unlike_0 : decode cX8_unlike 0 = .ok (.aload_n 0, 1) := by decide +kernel
theorem sX8_unlike_0 : ab_X rom K cX8_unlike 6 1 0 (.ref a :: ls) st hp = ab_X rom K cX8_unlike 6 1 1 (.ref a :: ls) (.ref a :: st) hp := ax_aload_n dX8_unlike_0 rfl rfl
theorem dX8_unlike_1 : decode cX8_unlike 1 = .ok (.iload_n 1, 1) := by decide +kernel
theorem sX8_unlike_1 : ab_X rom K cX8_unlike 6 1 1 (v0 :: .int x :: ls) st hp = ab_X rom K cX8_unlike 6 1 2 (v0 :: .int x :: ls) (.int x :: st) hp := ax_iload_n dX8_unlike_1 rfl rfl
theorem dX8_unlike_2 : decode cX8_unlike 2 = .ok (.invokevirtual 99, 3) := by decide +kernel
theorem sX8_unlike_2_0 : ab_X rom K cX8_unlike 6 1 2 ls [w1, .ref a] hp = if ab_iso hp a 6 = true then (K 95 (.ref a :: [w1]) hp).bind (fun o => ab_X rom K cX8_unlike 6 1 5 ls (o.1.toList ++ []) o.2) else none := ay_virtual (as := [w1]) (st := []) dX8_unlike_2 kc_6_99 rfl rfl (Nat.le_of_ble_eq_true rfl)
theorem sX8_unlike_2_1 : ab_X rom K cX8_unlike 6 1 2 ls [w1, .ref a, v0] hp = if ab_iso hp a 6 = true then (K 95 (.ref a :: [w1]) hp).bind (fun o => ab_X rom K cX8_unlike 6 1 5 ls (o.1.toList ++ [v0]) o.2) else none := ay_virtual (as := [w1]) (st := [v0]) dX8_unlike_2 kc_6_99 rfl rfl (Nat.le_of_ble_eq_true rfl)
theorem sX8_unlike_2_2 : ab_X rom K cX8_unlike 6 1 2 ls [w1, .ref a, v0, v1] hp = if ab_iso hp a 6 = true then (K 95 (.ref a :: [w1]) hp).bind (fun o => ab_X rom K cX8_unlike 6 1 5 ls (o.1.toList ++ [v0, v1]) o.2) else none := ay_virtual (as := [w1]) (st := [v0, v1]) dX8_unlike_2 kc_6_99 rfl rfl (Nat.le_of_ble_eq_true rfl)
theorem sX8_unlike_2_3 : ab_X rom K cX8_unlike 6 1 2 ls [w1, .ref a, v0, v1, v2] hp = if ab_iso hp a 6 = true then (K 95 (.ref a :: [w1]) hp).bind (fun o => ab_X rom K cX8_unlike 6 1 5 ls (o.1.toList ++ [v0, v1, v2]) o.2) else none := ay_virtual (as := [w1]) (st := [v0, v1, v2]) dX8_unlike_2 kc_6_99 rfl rfl (Nat.le_of_ble_eq_true rfl)
theorem dX8_unlike_5 : decode cX8_unlike 5 = .ok (.ifCond .eq 10, 3) := by decide +kernel
theorem sX8_unlike_5 : ab_X rom K cX8_unlike 6 1 5 ls (.int x :: st) hp = if x = 0 then ab_X rom K cX8_unlike 6 1 15 ls st hp else ab_X rom K cX8_unlike 6 1 8 ls st hp := ax_if_eq dX8_unlike_5 (by decide) rfl
theorem dX8_unlike_8 : decode cX8_unlike 8 = .ok (.iload_n 2, 1) := by decide +kernel
theorem sX8_unlike_8 : ab_X rom K cX8_unlike 6 1 8 (v0 :: v1 :: .int x :: ls) st hp = ab_X rom K cX8_unlike 6 1 9 (v0 :: v1 :: .int x :: ls) (.int x :: st) hp := ax_iload_n dX8_unlike_8 rfl rfl
theorem dX8_unlike_9 : decode cX8_unlike 9 = .ok (.invokestatic 174, 3) := by decide +kernel
theorem sX8_unlike_9_0 : ab_X rom K cX8_unlike 6 1 9 ls [w1] hp = (K 100 [w1] hp).bind (fun o => ab_X rom K cX8_unlike 6 1 12 ls (o.1.toList ++ []) o.2) := ax_static (as := [w1]) (st := []) dX8_unlike_9 kc_6_174 rfl rfl (Nat.le_of_ble_eq_true rfl)
theorem sX8_unlike_9_1 : ab_X rom K cX8_unlike 6 1 9 ls [w1, v0] hp = (K 100 [w1] hp).bind (fun o => ab_X rom K cX8_unlike 6 1 12 ls (o.1.toList ++ [v0]) o.2) := ax_static (as := [w1]) (st := [v0]) dX8_unlike_9 kc_6_174 rfl rfl (Nat.le_of_ble_eq_true rfl)
theorem sX8_unlike_9_2 : ab_X rom K cX8_unlike 6 1 9 ls [w1, v0, v1] hp = (K 100 [w1] hp).bind (fun o => ab_X rom K cX8_unlike 6 1 12 ls (o.1.toList ++ [v0, v1]) o.2) := ax_static (as := [w1]) (st := [v0, v1]) dX8_unlike_9 kc_6_174 rfl rfl (Nat.le_of_ble_eq_true rfl)
theorem sX8_unlike_9_3 : ab_X rom K cX8_unlike 6 1 9 ls [w1, v0, v1, v2] hp = (K 100 [w1] hp).bind (fun o => ab_X rom K cX8_unlike 6 1 12 ls (o.1.toList ++ [v0, v1, v2]) o.2) := ax_static (as := [w1]) (st := [v0, v1, v2]) dX8_unlike_9 kc_6_174 rfl rfl (Nat.le_of_ble_eq_true rfl)
theorem dX8_unlike_12 : decode cX8_unlike 12 = .ok (.ifCond .ne 6, 3) := by decide +kernel
theorem sX8_unlike_12 : ab_X rom K cX8_unlike 6 1 12 ls (.int x :: st) hp = if x = 0 then ab_X rom K cX8_unlike 6 1 15 ls st hp else ab_X rom K cX8_unlike 6 1 18 ls st hp := ax_if_ne dX8_unlike_12 (by decide) rfl
theorem dX8_unlike_15 : decode cX8_unlike 15 = .ok (.bipush (-2), 2) := by decide +kernel
theorem sX8_unlike_15 : ab_X rom K cX8_unlike 6 1 15 ls st hp = ab_X rom K cX8_unlike 6 1 17 ls (.int (-2) :: st) hp := ax_bipush dX8_unlike_15 (by decide) rfl
theorem dX8_unlike_17 : decode cX8_unlike 17 = .ok (.ireturn, 1) := by decide +kernel
theorem sX8_unlike_17 : ab_X rom K cX8_unlike 6 1 17 ls [.int x] hp = some (some (.int x), hp) := ax_iret dX8_unlike_17 rfl
theorem dX8_unlike_18 : decode cX8_unlike 18 = .ok (.aload_n 0, 1) := by decide +kernel
theorem sX8_unlike_18 : ab_X rom K cX8_unlike 6 1 18 (.ref a :: ls) st hp = ab_X rom K cX8_unlike 6 1 19 (.ref a :: ls) (.ref a :: st) hp := ax_aload_n dX8_unlike_18 rfl rfl
theorem dX8_unlike_19 : decode cX8_unlike 19 = .ok (.getfield 21, 3) := by decide +kernel
theorem sX8_unlike_19 : ab_X rom K cX8_unlike 6 1 19 ls (.ref a :: st) hp = (ab_fld hp a 6 3).bind (fun v => ab_X rom K cX8_unlike 6 1 22 ls (v :: st) hp) := ax_getfield dX8_unlike_19 kf_6_21 rfl
theorem dX8_unlike_22 : decode cX8_unlike 22 = .ok (.iload_n 1, 1) := by decide +kernel
theorem sX8_unlike_22 : ab_X rom K cX8_unlike 6 1 22 (v0 :: .int x :: ls) st hp = ab_X rom K cX8_unlike 6 1 23 (v0 :: .int x :: ls) (.int x :: st) hp := ax_iload_n dX8_unlike_22 rfl rfl
theorem dX8_unlike_23 : decode cX8_unlike 23 = .ok (.aaload, 1) := by decide +kernel
theorem sX8_unlike_23 : ab_X rom K cX8_unlike 6 1 23 ls (.int x :: .ref a :: st) hp = (ab_rrd hp a x).bind (fun v => ab_X rom K cX8_unlike 6 1 24 ls (.ref v :: st) hp) := ax_aaload dX8_unlike_23 rfl
theorem dX8_unlike_24 : decode cX8_unlike 24 = .ok (.astore_n 3, 1) := by decide +kernel
theorem sX8_unlike_24i : ab_X rom K cX8_unlike 6 1 24 (v0 :: v1 :: .int y :: v3 :: ls) (.ref a :: st) hp = ab_X rom K cX8_unlike 6 1 25 (v0 :: v1 :: .int y :: .ref a :: ls) st hp := ax_astore_n dX8_unlike_24 (ax_lt (v := v3) rfl) (ab_nl_c1 (j := 2) (v := .int y) rfl (ab_c1_int _)) rfl rfl
theorem sX8_unlike_24r : ab_X rom K cX8_unlike 6 1 24 (v0 :: v1 :: .ref a2 :: v3 :: ls) (.ref a :: st) hp = ab_X rom K cX8_unlike 6 1 25 (v0 :: v1 :: .ref a2 :: .ref a :: ls) st hp := ax_astore_n dX8_unlike_24 (ax_lt (v := v3) rfl) (ab_nl_c1 (j := 2) (v := .ref a2) rfl (ab_c1_ref _)) rfl rfl
theorem sX8_unlike_24n : ab_X rom K cX8_unlike 6 1 24 (v0 :: v1 :: .null :: v3 :: ls) (.ref a :: st) hp = ab_X rom K cX8_unlike 6 1 25 (v0 :: v1 :: .null :: .ref a :: ls) st hp := ax_astore_n dX8_unlike_24 (ax_lt (v := v3) rfl) (ab_nl_c1 (j := 2) (v := .null) rfl ab_c1_null) rfl rfl
theorem dX8_unlike_25 : decode cX8_unlike 25 = .ok (.aload_n 0, 1) := by decide +kernel
theorem sX8_unlike_25 : ab_X rom K cX8_unlike 6 1 25 (.ref a :: ls) st hp = ab_X rom K cX8_unlike 6 1 26 (.ref a :: ls) (.ref a :: st) hp := ax_aload_n dX8_unlike_25 rfl rfl
theorem dX8_unlike_26 : decode cX8_unlike 26 = .ok (.aload_n 3, 1) := by decide +kernel
theorem sX8_unlike_26 : ab_X rom K cX8_unlike 6 1 26 (v0 :: v1 :: v2 :: .ref a :: ls) st hp = ab_X rom K cX8_unlike 6 1 27 (v0 :: v1 :: v2 :: .ref a :: ls) (.ref a :: st) hp := ax_aload_n dX8_unlike_26 rfl rfl
theorem dX8_unlike_27 : decode cX8_unlike 27 = .ok (.iload_n 2, 1) := by decide +kernel
theorem sX8_unlike_27 : ab_X rom K cX8_unlike 6 1 27 (v0 :: v1 :: .int x :: ls) st hp = ab_X rom K cX8_unlike 6 1 28 (v0 :: v1 :: .int x :: ls) (.int x :: st) hp := ax_iload_n dX8_unlike_27 rfl rfl
theorem dX8_unlike_28 : decode cX8_unlike 28 = .ok (.invokevirtual 183, 3) := by decide +kernel
theorem sX8_unlike_28_0 : ab_X rom K cX8_unlike 6 1 28 ls [w2, w1, .ref a] hp = if ab_iso hp a 6 = true then (K 84 (.ref a :: [w1, w2]) hp).bind (fun o => ab_X rom K cX8_unlike 6 1 31 ls (o.1.toList ++ []) o.2) else none := ay_virtual (as := [w1, w2]) (st := []) dX8_unlike_28 kc_6_183 rfl rfl (Nat.le_of_ble_eq_true rfl)
theorem sX8_unlike_28_1 : ab_X rom K cX8_unlike 6 1 28 ls [w2, w1, .ref a, v0] hp = if ab_iso hp a 6 = true then (K 84 (.ref a :: [w1, w2]) hp).bind (fun o => ab_X rom K cX8_unlike 6 1 31 ls (o.1.toList ++ [v0]) o.2) else none := ay_virtual (as := [w1, w2]) (st := [v0]) dX8_unlike_28 kc_6_183 rfl rfl (Nat.le_of_ble_eq_true rfl)
theorem sX8_unlike_28_2 : ab_X rom K cX8_unlike 6 1 28 ls [w2, w1, .ref a, v0, v1] hp = if ab_iso hp a 6 = true then (K 84 (.ref a :: [w1, w2]) hp).bind (fun o => ab_X rom K cX8_unlike 6 1 31 ls (o.1.toList ++ [v0, v1]) o.2) else none := ay_virtual (as := [w1, w2]) (st := [v0, v1]) dX8_unlike_28 kc_6_183 rfl rfl (Nat.le_of_ble_eq_true rfl)
theorem sX8_unlike_28_3 : ab_X rom K cX8_unlike 6 1 28 ls [w2, w1, .ref a, v0, v1, v2] hp = if ab_iso hp a 6 = true then (K 84 (.ref a :: [w1, w2]) hp).bind (fun o => ab_X rom K cX8_unlike 6 1 31 ls (o.1.toList ++ [v0, v1, v2]) o.2) else none := ay_virtual (as := [w1, w2]) (st := [v0, v1, v2]) dX8_unlike_28 kc_6_183 rfl rfl (Nat.le_of_ble_eq_true rfl)
theorem dX8_unlike_31 : decode cX8_unlike 31 = .ok (.aload_n 0, 1) := by decide +kernel
theorem sX8_unlike_31 : ab_X rom K cX8_unlike 6 1 31 (.ref a :: ls) st hp = ab_X rom K cX8_unlike 6 1 32 (.ref a :: ls) (.ref a :: st) hp := ax_aload_n dX8_unlike_31 rfl rfl
theorem dX8_unlike_32 : decode cX8_unlike 32 = .ok (.getfield 51, 3) := by decide +kernel
theorem sX8_unlike_32 : ab_X rom K cX8_unlike 6 1 32 ls (.ref a :: st) hp = (ab_fld hp a 6 6).bind (fun v => ab_X rom K cX8_unlike 6 1 35 ls (v :: st) hp) := ax_getfield dX8_unlike_32 kf_6_51 rfl
theorem dX8_unlike_35 : decode cX8_unlike 35 = .ok (.getfield 187, 3) := by decide +kernel
theorem sX8_unlike_35 : ab_X rom K cX8_unlike 6 1 35 ls (.ref a :: st) hp = (ab_fld hp a 4 0).bind (fun v => ab_X rom K cX8_unlike 6 1 38 ls (v :: st) hp) := ax_getfield dX8_unlike_35 kf_6_187 rfl
theorem dX8_unlike_38 : decode cX8_unlike 38 = .ok (.getfield 191, 3) := by decide +kernel
theorem sX8_unlike_38 : ab_X rom K cX8_unlike 6 1 38 ls (.ref a :: st) hp = (ab_fld hp a 0 0).bind (fun v => ab_X rom K cX8_unlike 6 1 41 ls (v :: st) hp) := ax_getfield dX8_unlike_38 kf_6_191 rfl
theorem dX8_unlike_41 : decode cX8_unlike 41 = .ok (.istore 4, 2) := by decide +kernel
theorem sX8_unlike_41i : ab_X rom K cX8_unlike 6 1 41 (v0 :: v1 :: v2 :: .int y :: v4 :: ls) (.int x :: st) hp = ab_X rom K cX8_unlike 6 1 43 (v0 :: v1 :: v2 :: .int y :: .int x :: ls) st hp := ax_istore dX8_unlike_41 (ax_lt (v := v4) rfl) (ab_nl_c1 (j := 3) (v := .int y) rfl (ab_c1_int _)) rfl rfl
theorem sX8_unlike_41r : ab_X rom K cX8_unlike 6 1 41 (v0 :: v1 :: v2 :: .ref a2 :: v4 :: ls) (.int x :: st) hp = ab_X rom K cX8_unlike 6 1 43 (v0 :: v1 :: v2 :: .ref a2 :: .int x :: ls) st hp := ax_istore dX8_unlike_41 (ax_lt (v := v4) rfl) (ab_nl_c1 (j := 3) (v := .ref a2) rfl (ab_c1_ref _)) rfl rfl
theorem sX8_unlike_41n : ab_X rom K cX8_unlike 6 1 41 (v0 :: v1 :: v2 :: .null :: v4 :: ls) (.int x :: st) hp = ab_X rom K cX8_unlike 6 1 43 (v0 :: v1 :: v2 :: .null :: .int x :: ls) st hp := ax_istore dX8_unlike_41 (ax_lt (v := v4) rfl) (ab_nl_c1 (j := 3) (v := .null) rfl ab_c1_null) rfl rfl
theorem dX8_unlike_43 : decode cX8_unlike 43 = .ok (.iload_n 2, 1) := by decide +kernel
theorem sX8_unlike_43 : ab_X rom K cX8_unlike 6 1 43 (v0 :: v1 :: .int x :: ls) st hp = ab_X rom K cX8_unlike 6 1 44 (v0 :: v1 :: .int x :: ls) (.int x :: st) hp := ax_iload_n dX8_unlike_43 rfl rfl
theorem dX8_unlike_44 : decode cX8_unlike 44 = .ok (.iconst 2, 1) := by decide +kernel
theorem sX8_unlike_44 : ab_X rom K cX8_unlike 6 1 44 ls st hp = ab_X rom K cX8_unlike 6 1 45 ls (.int 2 :: st) hp := ax_iconst dX8_unlike_44 (by decide) rfl
theorem dX8_unlike_45 : decode cX8_unlike 45 = .ok (.if_icmp .ne 30, 3) := by decide +kernel
theorem sX8_unlike_45 : ab_X rom K cX8_unlike 6 1 45 ls (.int y :: .int x :: st) hp = if x = y then ab_X rom K cX8_unlike 6 1 48 ls st hp else ab_X rom K cX8_unlike 6 1 75 ls st hp := ax_icmp_ne dX8_unlike_45 (by decide) rfl
theorem dX8_unlike_48 : decode cX8_unlike 48 = .ok (.aload_n 3, 1) := by decide +kernel
theorem sX8_unlike_48 : ab_X rom K cX8_unlike 6 1 48 (v0 :: v1 :: v2 :: .ref a :: ls) st hp = ab_X rom K cX8_unlike 6 1 49 (v0 :: v1 :: v2 :: .ref a :: ls) (.ref a :: st) hp := ax_aload_n dX8_unlike_48 rfl rfl
theorem dX8_unlike_49 : decode cX8_unlike 49 = .ok (.invokevirtual 105, 3) := by decide +kernel
theorem sX8_unlike_49_0 : ab_X rom K cX8_unlike 6 1 49 ls [.ref a] hp = if ab_iso hp a 1 = true then (K 25 (.ref a :: []) hp).bind (fun o => ab_X rom K cX8_unlike 6 1 52 ls (o.1.toList ++ []) o.2) else none := ay_virtual (as := []) (st := []) dX8_unlike_49 kc_6_105 rfl rfl (Nat.le_of_ble_eq_true rfl)
theorem sX8_unlike_49_1 : ab_X rom K cX8_unlike 6 1 49 ls [.ref a, v0] hp = if ab_iso hp a 1 = true then (K 25 (.ref a :: []) hp).bind (fun o => ab_X rom K cX8_unlike 6 1 52 ls (o.1.toList ++ [v0]) o.2) else none := ay_virtual (as := []) (st := [v0]) dX8_unlike_49 kc_6_105 rfl rfl (Nat.le_of_ble_eq_true rfl)
theorem sX8_unlike_49_2 : ab_X rom K cX8_unlike 6 1 49 ls [.ref a, v0, v1] hp = if ab_iso hp a 1 = true then (K 25 (.ref a :: []) hp).bind (fun o => ab_X rom K cX8_unlike 6 1 52 ls (o.1.toList ++ [v0, v1]) o.2) else none := ay_virtual (as := []) (st := [v0, v1]) dX8_unlike_49 kc_6_105 rfl rfl (Nat.le_of_ble_eq_true rfl)
theorem sX8_unlike_49_3 : ab_X rom K cX8_unlike 6 1 49 ls [.ref a, v0, v1, v2] hp = if ab_iso hp a 1 = true then (K 25 (.ref a :: []) hp).bind (fun o => ab_X rom K cX8_unlike 6 1 52 ls (o.1.toList ++ [v0, v1, v2]) o.2) else none := ay_virtual (as := []) (st := [v0, v1, v2]) dX8_unlike_49 kc_6_105 rfl rfl (Nat.le_of_ble_eq_true rfl)
theorem dX8_unlike_52 : decode cX8_unlike 52 = .ok (.ifCond .ne 20, 3) := by decide +kernel
theorem sX8_unlike_52 : ab_X rom K cX8_unlike 6 1 52 ls (.int x :: st) hp = if x = 0 then ab_X rom K cX8_unlike 6 1 55 ls st hp else ab_X rom K cX8_unlike 6 1 72 ls st hp := ax_if_ne dX8_unlike_52 (by decide) rfl
theorem dX8_unlike_55 : decode cX8_unlike 55 = .ok (.aload_n 3, 1) := by decide +kernel
theorem sX8_unlike_55 : ab_X rom K cX8_unlike 6 1 55 (v0 :: v1 :: v2 :: .ref a :: ls) st hp = ab_X rom K cX8_unlike 6 1 56 (v0 :: v1 :: v2 :: .ref a :: ls) (.ref a :: st) hp := ax_aload_n dX8_unlike_55 rfl rfl
theorem dX8_unlike_56 : decode cX8_unlike 56 = .ok (.getfield 89, 3) := by decide +kernel
theorem sX8_unlike_56 : ab_X rom K cX8_unlike 6 1 56 ls (.ref a :: st) hp = (ab_fld hp a 1 1).bind (fun v => ab_X rom K cX8_unlike 6 1 59 ls (v :: st) hp) := ax_getfield dX8_unlike_56 kf_6_89 rfl
theorem dX8_unlike_59 : decode cX8_unlike 59 = .ok (.ifCond .le 13, 3) := by decide +kernel
theorem sX8_unlike_59 : ab_X rom K cX8_unlike 6 1 59 ls (.int x :: st) hp = if 0 < x then ab_X rom K cX8_unlike 6 1 62 ls st hp else ab_X rom K cX8_unlike 6 1 72 ls st hp := ax_if_le dX8_unlike_59 (by decide) rfl
theorem dX8_unlike_62 : decode cX8_unlike 62 = .ok (.iload 4, 2) := by decide +kernel
theorem sX8_unlike_62 : ab_X rom K cX8_unlike 6 1 62 (v0 :: v1 :: v2 :: v3 :: .int x :: ls) st hp = ab_X rom K cX8_unlike 6 1 64 (v0 :: v1 :: v2 :: v3 :: .int x :: ls) (.int x :: st) hp := ax_iload dX8_unlike_62 rfl rfl
theorem dX8_unlike_64 : decode cX8_unlike 64 = .ok (.aload_n 3, 1) := by decide +kernel
theorem sX8_unlike_64 : ab_X rom K cX8_unlike 6 1 64 (v0 :: v1 :: v2 :: .ref a :: ls) st hp = ab_X rom K cX8_unlike 6 1 65 (v0 :: v1 :: v2 :: .ref a :: ls) (.ref a :: st) hp := ax_aload_n dX8_unlike_64 rfl rfl
theorem dX8_unlike_65 : decode cX8_unlike 65 = .ok (.getfield 89, 3) := by decide +kernel
theorem sX8_unlike_65 : ab_X rom K cX8_unlike 6 1 65 ls (.ref a :: st) hp = (ab_fld hp a 1 1).bind (fun v => ab_X rom K cX8_unlike 6 1 68 ls (v :: st) hp) := ax_getfield dX8_unlike_65 kf_6_89 rfl
theorem dX8_unlike_68 : decode cX8_unlike 68 = .ok (.idiv, 1) := by decide +kernel
theorem sX8_unlike_68 : ab_X rom K cX8_unlike 6 1 68 ls (.int y :: .int x :: st) hp = if y = 0 then none else ab_X rom K cX8_unlike 6 1 69 ls (.int (x / y) :: st) hp := ay_idiv dX8_unlike_68 rfl
theorem dX8_unlike_69 : decode cX8_unlike 69 = .ok (.goto 5, 3) := by decide +kernel
theorem sX8_unlike_69 : ab_X rom K cX8_unlike 6 1 69 ls st hp = ab_X rom K cX8_unlike 6 1 74 ls st hp := ax_goto dX8_unlike_69 (by decide)
theorem dX8_unlike_72 : decode cX8_unlike 72 = .ok (.iload 4, 2) := by decide +kernel
theorem sX8_unlike_72 : ab_X rom K cX8_unlike 6 1 72 (v0 :: v1 :: v2 :: v3 :: .int x :: ls) st hp = ab_X rom K cX8_unlike 6 1 74 (v0 :: v1 :: v2 :: v3 :: .int x :: ls) (.int x :: st) hp := ax_iload dX8_unlike_72 rfl rfl
theorem dX8_unlike_74 : decode cX8_unlike 74 = .ok (.ireturn, 1) := by decide +kernel
theorem sX8_unlike_74 : ab_X rom K cX8_unlike 6 1 74 ls [.int x] hp = some (some (.int x), hp) := ax_iret dX8_unlike_74 rfl
theorem dX8_unlike_75 : decode cX8_unlike 75 = .ok (.aload_n 3, 1) := by decide +kernel
theorem sX8_unlike_75 : ab_X rom K cX8_unlike 6 1 75 (v0 :: v1 :: v2 :: .ref a :: ls) st hp = ab_X rom K cX8_unlike 6 1 76 (v0 :: v1 :: v2 :: .ref a :: ls) (.ref a :: st) hp := ax_aload_n dX8_unlike_75 rfl rfl
theorem dX8_unlike_76 : decode cX8_unlike 76 = .ok (.iload_n 2, 1) := by decide +kernel
theorem sX8_unlike_76 : ab_X rom K cX8_unlike 6 1 76 (v0 :: v1 :: .int x :: ls) st hp = ab_X rom K cX8_unlike 6 1 77 (v0 :: v1 :: .int x :: ls) (.int x :: st) hp := ax_iload_n dX8_unlike_76 rfl rfl
theorem dX8_unlike_77 : decode cX8_unlike 77 = .ok (.invokestatic 207, 3) := by decide +kernel
theorem sX8_unlike_77_0 : ab_X rom K cX8_unlike 6 1 77 ls [w2, w1] hp = (K 254 [w1, w2] hp).bind (fun o => ab_X rom K cX8_unlike 6 1 80 ls (o.1.toList ++ []) o.2) := ax_static (as := [w1, w2]) (st := []) dX8_unlike_77 kc_6_207 rfl rfl (Nat.le_of_ble_eq_true rfl)
theorem sX8_unlike_77_1 : ab_X rom K cX8_unlike 6 1 77 ls [w2, w1, v0] hp = (K 254 [w1, w2] hp).bind (fun o => ab_X rom K cX8_unlike 6 1 80 ls (o.1.toList ++ [v0]) o.2) := ax_static (as := [w1, w2]) (st := [v0]) dX8_unlike_77 kc_6_207 rfl rfl (Nat.le_of_ble_eq_true rfl)
theorem sX8_unlike_77_2 : ab_X rom K cX8_unlike 6 1 77 ls [w2, w1, v0, v1] hp = (K 254 [w1, w2] hp).bind (fun o => ab_X rom K cX8_unlike 6 1 80 ls (o.1.toList ++ [v0, v1]) o.2) := ax_static (as := [w1, w2]) (st := [v0, v1]) dX8_unlike_77 kc_6_207 rfl rfl (Nat.le_of_ble_eq_true rfl)
theorem sX8_unlike_77_3 : ab_X rom K cX8_unlike 6 1 77 ls [w2, w1, v0, v1, v2] hp = (K 254 [w1, w2] hp).bind (fun o => ab_X rom K cX8_unlike 6 1 80 ls (o.1.toList ++ [v0, v1, v2]) o.2) := ax_static (as := [w1, w2]) (st := [v0, v1, v2]) dX8_unlike_77 kc_6_207 rfl rfl (Nat.le_of_ble_eq_true rfl)
theorem dX8_unlike_80 : decode cX8_unlike 80 = .ok (.ifCond .eq 12, 3) := by decide +kernel
theorem sX8_unlike_80 : ab_X rom K cX8_unlike 6 1 80 ls (.int x :: st) hp = if x = 0 then ab_X rom K cX8_unlike 6 1 92 ls st hp else ab_X rom K cX8_unlike 6 1 83 ls st hp := ax_if_eq dX8_unlike_80 (by decide) rfl
theorem dX8_unlike_83 : decode cX8_unlike 83 = .ok (.iload 4, 2) := by decide +kernel
theorem sX8_unlike_83 : ab_X rom K cX8_unlike 6 1 83 (v0 :: v1 :: v2 :: v3 :: .int x :: ls) st hp = ab_X rom K cX8_unlike 6 1 85 (v0 :: v1 :: v2 :: v3 :: .int x :: ls) (.int x :: st) hp := ax_iload dX8_unlike_83 rfl rfl
theorem dX8_unlike_85 : decode cX8_unlike 85 = .ok (.iconst 1, 1) := by decide +kernel
theorem sX8_unlike_85 : ab_X rom K cX8_unlike 6 1 85 ls st hp = ab_X rom K cX8_unlike 6 1 86 ls (.int 1 :: st) hp := ax_iconst dX8_unlike_85 (by decide) rfl
theorem dX8_unlike_86 : decode cX8_unlike 86 = .ok (.iadd, 1) := by decide +kernel
theorem sX8_unlike_86 : ab_X rom K cX8_unlike 6 1 86 ls (.int y :: .int x :: st) hp = ab_X rom K cX8_unlike 6 1 87 ls (.int (x + y) :: st) hp := ax_iadd dX8_unlike_86 rfl
theorem dX8_unlike_87 : decode cX8_unlike 87 = .ok (.iconst 2, 1) := by decide +kernel
theorem sX8_unlike_87 : ab_X rom K cX8_unlike 6 1 87 ls st hp = ab_X rom K cX8_unlike 6 1 88 ls (.int 2 :: st) hp := ax_iconst dX8_unlike_87 (by decide) rfl
theorem dX8_unlike_88 : decode cX8_unlike 88 = .ok (.idiv, 1) := by decide +kernel
theorem sX8_unlike_88 : ab_X rom K cX8_unlike 6 1 88 ls (.int y :: .int x :: st) hp = if y = 0 then none else ab_X rom K cX8_unlike 6 1 89 ls (.int (x / y) :: st) hp := ay_idiv dX8_unlike_88 rfl
theorem dX8_unlike_89 : decode cX8_unlike 89 = .ok (.goto 5, 3) := by decide +kernel
theorem sX8_unlike_89 : ab_X rom K cX8_unlike 6 1 89 ls st hp = ab_X rom K cX8_unlike 6 1 94 ls st hp := ax_goto dX8_unlike_89 (by decide)
theorem dX8_unlike_92 : decode cX8_unlike 92 = .ok (.iload 4, 2) := by decide +kernel
theorem sX8_unlike_92 : ab_X rom K cX8_unlike 6 1 92 (v0 :: v1 :: v2 :: v3 :: .int x :: ls) st hp = ab_X rom K cX8_unlike 6 1 94 (v0 :: v1 :: v2 :: v3 :: .int x :: ls) (.int x :: st) hp := ax_iload dX8_unlike_92 rfl rfl
theorem dX8_unlike_94 : decode cX8_unlike 94 = .ok (.ireturn, 1) := by decide +kernel
theorem sX8_unlike_94 : ab_X rom K cX8_unlike 6 1 94 ls [.int x] hp = some (some (.int x), hp) := ax_iret dX8_unlike_94 rfl
theorem tX8_unlikeIn : ab_mT[125]? = some (yX8_unlikeIn, cX8_unlikeIn, 5, 1, 6) := by decide +kernel
theorem mX8_unlikeIn {d : Nat} {r0 : Nat} {x1 : Int32} : ab_M rom (d + 1) 125 [.ref r0, .int x1] hp = ab_X rom (ab_M rom d) cX8_unlikeIn 6 1 0 [.ref r0, .int x1, .null, .null, .null] [] hp := ab_M_eq tX8_unlikeIn (Nat.le_of_ble_eq_true rfl)
theorem dX8_unlikeIn_0 : decode cX8_unlikeIn 0 = .ok (.iconst 0, 1) := by decide +kernel
theorem sX8_unlikeIn_0 : ab_X rom K cX8_unlikeIn 6 1 0 ls st hp = ab_X rom K cX8_unlikeIn 6 1 1 ls (.int 0 :: st) hp := ax_iconst dX8_unlikeIn_0 (by decide) rfl
theorem dX8_unlikeIn_1 : decode cX8_unlikeIn 1 = .ok (.istore_n 2, 1) := by decide +kernel
theorem sX8_unlikeIn_1i : ab_X rom K cX8_unlikeIn 6 1 1 (v0 :: .int y :: v2 :: ls) (.int x :: st) hp = ab_X rom K cX8_unlikeIn 6 1 2 (v0 :: .int y :: .int x :: ls) st hp := ax_istore_n dX8_unlikeIn_1 (ax_lt (v := v2) rfl) (ab_nl_c1 (j := 1) (v := .int y) rfl (ab_c1_int _)) rfl rfl
theorem sX8_unlikeIn_1r : ab_X rom K cX8_unlikeIn 6 1 1 (v0 :: .ref a2 :: v2 :: ls) (.int x :: st) hp = ab_X rom K cX8_unlikeIn 6 1 2 (v0 :: .ref a2 :: .int x :: ls) st hp := ax_istore_n dX8_unlikeIn_1 (ax_lt (v := v2) rfl) (ab_nl_c1 (j := 1) (v := .ref a2) rfl (ab_c1_ref _)) rfl rfl
theorem sX8_unlikeIn_1n : ab_X rom K cX8_unlikeIn 6 1 1 (v0 :: .null :: v2 :: ls) (.int x :: st) hp = ab_X rom K cX8_unlikeIn 6 1 2 (v0 :: .null :: .int x :: ls) st hp := ax_istore_n dX8_unlikeIn_1 (ax_lt (v := v2) rfl) (ab_nl_c1 (j := 1) (v := .null) rfl ab_c1_null) rfl rfl
theorem dX8_unlikeIn_2 : decode cX8_unlikeIn 2 = .ok (.iconst 0, 1) := by decide +kernel
theorem sX8_unlikeIn_2 : ab_X rom K cX8_unlikeIn 6 1 2 ls st hp = ab_X rom K cX8_unlikeIn 6 1 3 ls (.int 0 :: st) hp := ax_iconst dX8_unlikeIn_2 (by decide) rfl
theorem dX8_unlikeIn_3 : decode cX8_unlikeIn 3 = .ok (.istore_n 3, 1) := by decide +kernel
theorem sX8_unlikeIn_3i : ab_X rom K cX8_unlikeIn 6 1 3 (v0 :: v1 :: .int y :: v3 :: ls) (.int x :: st) hp = ab_X rom K cX8_unlikeIn 6 1 4 (v0 :: v1 :: .int y :: .int x :: ls) st hp := ax_istore_n dX8_unlikeIn_3 (ax_lt (v := v3) rfl) (ab_nl_c1 (j := 2) (v := .int y) rfl (ab_c1_int _)) rfl rfl
theorem sX8_unlikeIn_3r : ab_X rom K cX8_unlikeIn 6 1 3 (v0 :: v1 :: .ref a2 :: v3 :: ls) (.int x :: st) hp = ab_X rom K cX8_unlikeIn 6 1 4 (v0 :: v1 :: .ref a2 :: .int x :: ls) st hp := ax_istore_n dX8_unlikeIn_3 (ax_lt (v := v3) rfl) (ab_nl_c1 (j := 2) (v := .ref a2) rfl (ab_c1_ref _)) rfl rfl
theorem sX8_unlikeIn_3n : ab_X rom K cX8_unlikeIn 6 1 3 (v0 :: v1 :: .null :: v3 :: ls) (.int x :: st) hp = ab_X rom K cX8_unlikeIn 6 1 4 (v0 :: v1 :: .null :: .int x :: ls) st hp := ax_istore_n dX8_unlikeIn_3 (ax_lt (v := v3) rfl) (ab_nl_c1 (j := 2) (v := .null) rfl ab_c1_null) rfl rfl
theorem dX8_unlikeIn_4 : decode cX8_unlikeIn 4 = .ok (.iload_n 3, 1) := by decide +kernel
theorem sX8_unlikeIn_4 : ab_X rom K cX8_unlikeIn 6 1 4 (v0 :: v1 :: v2 :: .int x :: ls) st hp = ab_X rom K cX8_unlikeIn 6 1 5 (v0 :: v1 :: v2 :: .int x :: ls) (.int x :: st) hp := ax_iload_n dX8_unlikeIn_4 rfl rfl
theorem dX8_unlikeIn_5 : decode cX8_unlikeIn 5 = .ok (.iload_n 1, 1) := by decide +kernel
theorem sX8_unlikeIn_5 : ab_X rom K cX8_unlikeIn 6 1 5 (v0 :: .int x :: ls) st hp = ab_X rom K cX8_unlikeIn 6 1 6 (v0 :: .int x :: ls) (.int x :: st) hp := ax_iload_n dX8_unlikeIn_5 rfl rfl
theorem dX8_unlikeIn_6 : decode cX8_unlikeIn 6 = .ok (.if_icmp .ge 49, 3) := by decide +kernel
theorem sX8_unlikeIn_6 : ab_X rom K cX8_unlikeIn 6 1 6 ls (.int y :: .int x :: st) hp = if x < y then ab_X rom K cX8_unlikeIn 6 1 9 ls st hp else ab_X rom K cX8_unlikeIn 6 1 55 ls st hp := ax_icmp_ge dX8_unlikeIn_6 (by decide) rfl
theorem dX8_unlikeIn_9 : decode cX8_unlikeIn 9 = .ok (.iload_n 3, 1) := by decide +kernel
theorem sX8_unlikeIn_9 : ab_X rom K cX8_unlikeIn 6 1 9 (v0 :: v1 :: v2 :: .int x :: ls) st hp = ab_X rom K cX8_unlikeIn 6 1 10 (v0 :: v1 :: v2 :: .int x :: ls) (.int x :: st) hp := ax_iload_n dX8_unlikeIn_9 rfl rfl
theorem dX8_unlikeIn_10 : decode cX8_unlikeIn 10 = .ok (.aload_n 0, 1) := by decide +kernel
theorem sX8_unlikeIn_10 : ab_X rom K cX8_unlikeIn 6 1 10 (.ref a :: ls) st hp = ab_X rom K cX8_unlikeIn 6 1 11 (.ref a :: ls) (.ref a :: st) hp := ax_aload_n dX8_unlikeIn_10 rfl rfl
theorem dX8_unlikeIn_11 : decode cX8_unlikeIn 11 = .ok (.arraylength, 1) := by decide +kernel
theorem sX8_unlikeIn_11 : ab_X rom K cX8_unlikeIn 6 1 11 ls (.ref a :: st) hp = (ab_aln rom hp a).bind (fun v => ab_X rom K cX8_unlikeIn 6 1 12 ls (.int v :: st) hp) := ax_arraylength dX8_unlikeIn_11 rfl
theorem dX8_unlikeIn_12 : decode cX8_unlikeIn 12 = .ok (.if_icmp .ge 43, 3) := by decide +kernel
theorem sX8_unlikeIn_12 : ab_X rom K cX8_unlikeIn 6 1 12 ls (.int y :: .int x :: st) hp = if x < y then ab_X rom K cX8_unlikeIn 6 1 15 ls st hp else ab_X rom K cX8_unlikeIn 6 1 55 ls st hp := ax_icmp_ge dX8_unlikeIn_12 (by decide) rfl
theorem dX8_unlikeIn_15 : decode cX8_unlikeIn 15 = .ok (.iconst 0, 1) := by decide +kernel
theorem sX8_unlikeIn_15 : ab_X rom K cX8_unlikeIn 6 1 15 ls st hp = ab_X rom K cX8_unlikeIn 6 1 16 ls (.int 0 :: st) hp := ax_iconst dX8_unlikeIn_15 (by decide) rfl
theorem dX8_unlikeIn_16 : decode cX8_unlikeIn 16 = .ok (.istore 4, 2) := by decide +kernel
theorem sX8_unlikeIn_16i : ab_X rom K cX8_unlikeIn 6 1 16 (v0 :: v1 :: v2 :: .int y :: v4 :: ls) (.int x :: st) hp = ab_X rom K cX8_unlikeIn 6 1 18 (v0 :: v1 :: v2 :: .int y :: .int x :: ls) st hp := ax_istore dX8_unlikeIn_16 (ax_lt (v := v4) rfl) (ab_nl_c1 (j := 3) (v := .int y) rfl (ab_c1_int _)) rfl rfl
theorem sX8_unlikeIn_16r : ab_X rom K cX8_unlikeIn 6 1 16 (v0 :: v1 :: v2 :: .ref a2 :: v4 :: ls) (.int x :: st) hp = ab_X rom K cX8_unlikeIn 6 1 18 (v0 :: v1 :: v2 :: .ref a2 :: .int x :: ls) st hp := ax_istore dX8_unlikeIn_16 (ax_lt (v := v4) rfl) (ab_nl_c1 (j := 3) (v := .ref a2) rfl (ab_c1_ref _)) rfl rfl
theorem sX8_unlikeIn_16n : ab_X rom K cX8_unlikeIn 6 1 16 (v0 :: v1 :: v2 :: .null :: v4 :: ls) (.int x :: st) hp = ab_X rom K cX8_unlikeIn 6 1 18 (v0 :: v1 :: v2 :: .null :: .int x :: ls) st hp := ax_istore dX8_unlikeIn_16 (ax_lt (v := v4) rfl) (ab_nl_c1 (j := 3) (v := .null) rfl ab_c1_null) rfl rfl
theorem dX8_unlikeIn_18 : decode cX8_unlikeIn 18 = .ok (.iload 4, 2) := by decide +kernel
theorem sX8_unlikeIn_18 : ab_X rom K cX8_unlikeIn 6 1 18 (v0 :: v1 :: v2 :: v3 :: .int x :: ls) st hp = ab_X rom K cX8_unlikeIn 6 1 20 (v0 :: v1 :: v2 :: v3 :: .int x :: ls) (.int x :: st) hp := ax_iload dX8_unlikeIn_18 rfl rfl
theorem dX8_unlikeIn_20 : decode cX8_unlikeIn 20 = .ok (.iload_n 3, 1) := by decide +kernel
theorem sX8_unlikeIn_20 : ab_X rom K cX8_unlikeIn 6 1 20 (v0 :: v1 :: v2 :: .int x :: ls) st hp = ab_X rom K cX8_unlikeIn 6 1 21 (v0 :: v1 :: v2 :: .int x :: ls) (.int x :: st) hp := ax_iload_n dX8_unlikeIn_20 rfl rfl
theorem dX8_unlikeIn_21 : decode cX8_unlikeIn 21 = .ok (.if_icmp .ge 19, 3) := by decide +kernel
theorem sX8_unlikeIn_21 : ab_X rom K cX8_unlikeIn 6 1 21 ls (.int y :: .int x :: st) hp = if x < y then ab_X rom K cX8_unlikeIn 6 1 24 ls st hp else ab_X rom K cX8_unlikeIn 6 1 40 ls st hp := ax_icmp_ge dX8_unlikeIn_21 (by decide) rfl
theorem dX8_unlikeIn_24 : decode cX8_unlikeIn 24 = .ok (.aload_n 0, 1) := by decide +kernel
theorem sX8_unlikeIn_24 : ab_X rom K cX8_unlikeIn 6 1 24 (.ref a :: ls) st hp = ab_X rom K cX8_unlikeIn 6 1 25 (.ref a :: ls) (.ref a :: st) hp := ax_aload_n dX8_unlikeIn_24 rfl rfl
theorem dX8_unlikeIn_25 : decode cX8_unlikeIn 25 = .ok (.iload 4, 2) := by decide +kernel
theorem sX8_unlikeIn_25 : ab_X rom K cX8_unlikeIn 6 1 25 (v0 :: v1 :: v2 :: v3 :: .int x :: ls) st hp = ab_X rom K cX8_unlikeIn 6 1 27 (v0 :: v1 :: v2 :: v3 :: .int x :: ls) (.int x :: st) hp := ax_iload dX8_unlikeIn_25 rfl rfl
theorem dX8_unlikeIn_27 : decode cX8_unlikeIn 27 = .ok (.iaload, 1) := by decide +kernel
theorem sX8_unlikeIn_27 : ab_X rom K cX8_unlikeIn 6 1 27 ls (.int x :: .ref a :: st) hp = (ab_ard rom 0 hp a x).bind (fun v => ab_X rom K cX8_unlikeIn 6 1 28 ls (.int v :: st) hp) := ax_iaload dX8_unlikeIn_27 rfl
theorem dX8_unlikeIn_28 : decode cX8_unlikeIn 28 = .ok (.aload_n 0, 1) := by decide +kernel
theorem sX8_unlikeIn_28 : ab_X rom K cX8_unlikeIn 6 1 28 (.ref a :: ls) st hp = ab_X rom K cX8_unlikeIn 6 1 29 (.ref a :: ls) (.ref a :: st) hp := ax_aload_n dX8_unlikeIn_28 rfl rfl
theorem dX8_unlikeIn_29 : decode cX8_unlikeIn 29 = .ok (.iload_n 3, 1) := by decide +kernel
theorem sX8_unlikeIn_29 : ab_X rom K cX8_unlikeIn 6 1 29 (v0 :: v1 :: v2 :: .int x :: ls) st hp = ab_X rom K cX8_unlikeIn 6 1 30 (v0 :: v1 :: v2 :: .int x :: ls) (.int x :: st) hp := ax_iload_n dX8_unlikeIn_29 rfl rfl
theorem dX8_unlikeIn_30 : decode cX8_unlikeIn 30 = .ok (.iaload, 1) := by decide +kernel
theorem sX8_unlikeIn_30 : ab_X rom K cX8_unlikeIn 6 1 30 ls (.int x :: .ref a :: st) hp = (ab_ard rom 0 hp a x).bind (fun v => ab_X rom K cX8_unlikeIn 6 1 31 ls (.int v :: st) hp) := ax_iaload dX8_unlikeIn_30 rfl
theorem dX8_unlikeIn_31 : decode cX8_unlikeIn 31 = .ok (.if_icmp .eq 9, 3) := by decide +kernel
theorem sX8_unlikeIn_31 : ab_X rom K cX8_unlikeIn 6 1 31 ls (.int y :: .int x :: st) hp = if x = y then ab_X rom K cX8_unlikeIn 6 1 40 ls st hp else ab_X rom K cX8_unlikeIn 6 1 34 ls st hp := ax_icmp_eq dX8_unlikeIn_31 (by decide) rfl
theorem dX8_unlikeIn_34 : decode cX8_unlikeIn 34 = .ok (.iinc 4 1, 3) := by decide +kernel
theorem sX8_unlikeIn_34i : ab_X rom K cX8_unlikeIn 6 1 34 (v0 :: v1 :: v2 :: .int y :: .int x :: ls) st hp = ab_X rom K cX8_unlikeIn 6 1 37 (v0 :: v1 :: v2 :: .int y :: .int (x + 1) :: ls) st hp := ax_iinc dX8_unlikeIn_34 rfl (ab_nl_c1 (j := 3) (v := .int y) rfl (ab_c1_int _)) (by decide) rfl rfl
theorem sX8_unlikeIn_34r : ab_X rom K cX8_unlikeIn 6 1 34 (v0 :: v1 :: v2 :: .ref a2 :: .int x :: ls) st hp = ab_X rom K cX8_unlikeIn 6 1 37 (v0 :: v1 :: v2 :: .ref a2 :: .int (x + 1) :: ls) st hp := ax_iinc dX8_unlikeIn_34 rfl (ab_nl_c1 (j := 3) (v := .ref a2) rfl (ab_c1_ref _)) (by decide) rfl rfl
theorem sX8_unlikeIn_34n : ab_X rom K cX8_unlikeIn 6 1 34 (v0 :: v1 :: v2 :: .null :: .int x :: ls) st hp = ab_X rom K cX8_unlikeIn 6 1 37 (v0 :: v1 :: v2 :: .null :: .int (x + 1) :: ls) st hp := ax_iinc dX8_unlikeIn_34 rfl (ab_nl_c1 (j := 3) (v := .null) rfl ab_c1_null) (by decide) rfl rfl
theorem dX8_unlikeIn_37 : decode cX8_unlikeIn 37 = .ok (.goto (-19), 3) := by decide +kernel
theorem sX8_unlikeIn_37 : ab_X rom K cX8_unlikeIn 6 1 37 ls st hp = ab_X rom K cX8_unlikeIn 6 1 18 ls st hp := ax_goto dX8_unlikeIn_37 (by decide)
theorem dX8_unlikeIn_40 : decode cX8_unlikeIn 40 = .ok (.iload 4, 2) := by decide +kernel
theorem sX8_unlikeIn_40 : ab_X rom K cX8_unlikeIn 6 1 40 (v0 :: v1 :: v2 :: v3 :: .int x :: ls) st hp = ab_X rom K cX8_unlikeIn 6 1 42 (v0 :: v1 :: v2 :: v3 :: .int x :: ls) (.int x :: st) hp := ax_iload dX8_unlikeIn_40 rfl rfl
theorem dX8_unlikeIn_42 : decode cX8_unlikeIn 42 = .ok (.iload_n 3, 1) := by decide +kernel
theorem sX8_unlikeIn_42 : ab_X rom K cX8_unlikeIn 6 1 42 (v0 :: v1 :: v2 :: .int x :: ls) st hp = ab_X rom K cX8_unlikeIn 6 1 43 (v0 :: v1 :: v2 :: .int x :: ls) (.int x :: st) hp := ax_iload_n dX8_unlikeIn_42 rfl rfl
theorem dX8_unlikeIn_43 : decode cX8_unlikeIn 43 = .ok (.if_icmp .ne 6, 3) := by decide +kernel
theorem sX8_unlikeIn_43 : ab_X rom K cX8_unlikeIn 6 1 43 ls (.int y :: .int x :: st) hp = if x = y then ab_X rom K cX8_unlikeIn 6 1 46 ls st hp else ab_X rom K cX8_unlikeIn 6 1 49 ls st hp := ax_icmp_ne dX8_unlikeIn_43 (by decide) rfl
theorem dX8_unlikeIn_46 : decode cX8_unlikeIn 46 = .ok (.iinc 2 1, 3) := by decide +kernel
theorem sX8_unlikeIn_46i : ab_X rom K cX8_unlikeIn 6 1 46 (v0 :: .int y :: .int x :: ls) st hp = ab_X rom K cX8_unlikeIn 6 1 49 (v0 :: .int y :: .int (x + 1) :: ls) st hp := ax_iinc dX8_unlikeIn_46 rfl (ab_nl_c1 (j := 1) (v := .int y) rfl (ab_c1_int _)) (by decide) rfl rfl
theorem sX8_unlikeIn_46r : ab_X rom K cX8_unlikeIn 6 1 46 (v0 :: .ref a2 :: .int x :: ls) st hp = ab_X rom K cX8_unlikeIn 6 1 49 (v0 :: .ref a2 :: .int (x + 1) :: ls) st hp := ax_iinc dX8_unlikeIn_46 rfl (ab_nl_c1 (j := 1) (v := .ref a2) rfl (ab_c1_ref _)) (by decide) rfl rfl
theorem sX8_unlikeIn_46n : ab_X rom K cX8_unlikeIn 6 1 46 (v0 :: .null :: .int x :: ls) st hp = ab_X rom K cX8_unlikeIn 6 1 49 (v0 :: .null :: .int (x + 1) :: ls) st hp := ax_iinc dX8_unlikeIn_46 rfl (ab_nl_c1 (j := 1) (v := .null) rfl ab_c1_null) (by decide) rfl rfl
theorem dX8_unlikeIn_49 : decode cX8_unlikeIn 49 = .ok (.iinc 3 1, 3) := by decide +kernel
theorem sX8_unlikeIn_49i : ab_X rom K cX8_unlikeIn 6 1 49 (v0 :: v1 :: .int y :: .int x :: ls) st hp = ab_X rom K cX8_unlikeIn 6 1 52 (v0 :: v1 :: .int y :: .int (x + 1) :: ls) st hp := ax_iinc dX8_unlikeIn_49 rfl (ab_nl_c1 (j := 2) (v := .int y) rfl (ab_c1_int _)) (by decide) rfl rfl
theorem sX8_unlikeIn_49r : ab_X rom K cX8_unlikeIn 6 1 49 (v0 :: v1 :: .ref a2 :: .int x :: ls) st hp = ab_X rom K cX8_unlikeIn 6 1 52 (v0 :: v1 :: .ref a2 :: .int (x + 1) :: ls) st hp := ax_iinc dX8_unlikeIn_49 rfl (ab_nl_c1 (j := 2) (v := .ref a2) rfl (ab_c1_ref _)) (by decide) rfl rfl
theorem sX8_unlikeIn_49n : ab_X rom K cX8_unlikeIn 6 1 49 (v0 :: v1 :: .null :: .int x :: ls) st hp = ab_X rom K cX8_unlikeIn 6 1 52 (v0 :: v1 :: .null :: .int (x + 1) :: ls) st hp := ax_iinc dX8_unlikeIn_49 rfl (ab_nl_c1 (j := 2) (v := .null) rfl ab_c1_null) (by decide) rfl rfl
theorem dX8_unlikeIn_52 : decode cX8_unlikeIn 52 = .ok (.goto (-48), 3) := by decide +kernel
theorem sX8_unlikeIn_52 : ab_X rom K cX8_unlikeIn 6 1 52 ls st hp = ab_X rom K cX8_unlikeIn 6 1 4 ls st hp := ax_goto dX8_unlikeIn_52 (by decide)
theorem dX8_unlikeIn_55 : decode cX8_unlikeIn 55 = .ok (.iload_n 2, 1) := by decide +kernel
theorem sX8_unlikeIn_55 : ab_X rom K cX8_unlikeIn 6 1 55 (v0 :: v1 :: .int x :: ls) st hp = ab_X rom K cX8_unlikeIn 6 1 56 (v0 :: v1 :: .int x :: ls) (.int x :: st) hp := ax_iload_n dX8_unlikeIn_55 rfl rfl
theorem dX8_unlikeIn_56 : decode cX8_unlikeIn 56 = .ok (.ireturn, 1) := by decide +kernel
theorem sX8_unlikeIn_56 : ab_X rom K cX8_unlikeIn 6 1 56 ls [.int x] hp = some (some (.int x), hp) := ax_iret dX8_unlikeIn_56 rfl
theorem tX8_why : ab_mT[126]? = some (yX8_why, cX8_why, 3, 1, 6) := by decide +kernel
theorem mX8_why {d : Nat} {a0 : Nat} {x0 : Int32} {x1 : Int32} : ab_M rom (d + 1) 126 [.ref a0, .int x0, .int x1] hp = ab_X rom (ab_M rom d) cX8_why 6 1 0 [.ref a0, .int x0, .int x1] [] hp := ab_M_eq tX8_why (Nat.le_of_ble_eq_true rfl)
theorem dX8_why_0 : decode cX8_why 0 = .ok (.aload_n 0, 1) := by decide +kernel
theorem sX8_why_0 : ab_X rom K cX8_why 6 1 0 (.ref a :: ls) st hp = ab_X rom K cX8_why 6 1 1 (.ref a :: ls) (.ref a :: st) hp := ax_aload_n dX8_why_0 rfl rfl
theorem dX8_why_1 : decode cX8_why 1 = .ok (.iload_n 1, 1) := by decide +kernel
theorem sX8_why_1 : ab_X rom K cX8_why 6 1 1 (v0 :: .int x :: ls) st hp = ab_X rom K cX8_why 6 1 2 (v0 :: .int x :: ls) (.int x :: st) hp := ax_iload_n dX8_why_1 rfl rfl
theorem dX8_why_2 : decode cX8_why 2 = .ok (.invokevirtual 99, 3) := by decide +kernel
theorem sX8_why_2_0 : ab_X rom K cX8_why 6 1 2 ls [w1, .ref a] hp = if ab_iso hp a 6 = true then (K 95 (.ref a :: [w1]) hp).bind (fun o => ab_X rom K cX8_why 6 1 5 ls (o.1.toList ++ []) o.2) else none := ay_virtual (as := [w1]) (st := []) dX8_why_2 kc_6_99 rfl rfl (Nat.le_of_ble_eq_true rfl)
theorem sX8_why_2_1 : ab_X rom K cX8_why 6 1 2 ls [w1, .ref a, v0] hp = if ab_iso hp a 6 = true then (K 95 (.ref a :: [w1]) hp).bind (fun o => ab_X rom K cX8_why 6 1 5 ls (o.1.toList ++ [v0]) o.2) else none := ay_virtual (as := [w1]) (st := [v0]) dX8_why_2 kc_6_99 rfl rfl (Nat.le_of_ble_eq_true rfl)
theorem sX8_why_2_2 : ab_X rom K cX8_why 6 1 2 ls [w1, .ref a, v0, v1] hp = if ab_iso hp a 6 = true then (K 95 (.ref a :: [w1]) hp).bind (fun o => ab_X rom K cX8_why 6 1 5 ls (o.1.toList ++ [v0, v1]) o.2) else none := ay_virtual (as := [w1]) (st := [v0, v1]) dX8_why_2 kc_6_99 rfl rfl (Nat.le_of_ble_eq_true rfl)
theorem sX8_why_2_3 : ab_X rom K cX8_why 6 1 2 ls [w1, .ref a, v0, v1, v2] hp = if ab_iso hp a 6 = true then (K 95 (.ref a :: [w1]) hp).bind (fun o => ab_X rom K cX8_why 6 1 5 ls (o.1.toList ++ [v0, v1, v2]) o.2) else none := ay_virtual (as := [w1]) (st := [v0, v1, v2]) dX8_why_2 kc_6_99 rfl rfl (Nat.le_of_ble_eq_true rfl)
theorem dX8_why_5 : decode cX8_why 5 = .ok (.ifCond .eq 10, 3) := by decide +kernel
theorem sX8_why_5 : ab_X rom K cX8_why 6 1 5 ls (.int x :: st) hp = if x = 0 then ab_X rom K cX8_why 6 1 15 ls st hp else ab_X rom K cX8_why 6 1 8 ls st hp := ax_if_eq dX8_why_5 (by decide) rfl
theorem dX8_why_8 : decode cX8_why 8 = .ok (.iload_n 2, 1) := by decide +kernel
theorem sX8_why_8 : ab_X rom K cX8_why 6 1 8 (v0 :: v1 :: .int x :: ls) st hp = ab_X rom K cX8_why 6 1 9 (v0 :: v1 :: .int x :: ls) (.int x :: st) hp := ax_iload_n dX8_why_8 rfl rfl
theorem dX8_why_9 : decode cX8_why 9 = .ok (.invokestatic 174, 3) := by decide +kernel
theorem sX8_why_9_0 : ab_X rom K cX8_why 6 1 9 ls [w1] hp = (K 100 [w1] hp).bind (fun o => ab_X rom K cX8_why 6 1 12 ls (o.1.toList ++ []) o.2) := ax_static (as := [w1]) (st := []) dX8_why_9 kc_6_174 rfl rfl (Nat.le_of_ble_eq_true rfl)
theorem sX8_why_9_1 : ab_X rom K cX8_why 6 1 9 ls [w1, v0] hp = (K 100 [w1] hp).bind (fun o => ab_X rom K cX8_why 6 1 12 ls (o.1.toList ++ [v0]) o.2) := ax_static (as := [w1]) (st := [v0]) dX8_why_9 kc_6_174 rfl rfl (Nat.le_of_ble_eq_true rfl)
theorem sX8_why_9_2 : ab_X rom K cX8_why 6 1 9 ls [w1, v0, v1] hp = (K 100 [w1] hp).bind (fun o => ab_X rom K cX8_why 6 1 12 ls (o.1.toList ++ [v0, v1]) o.2) := ax_static (as := [w1]) (st := [v0, v1]) dX8_why_9 kc_6_174 rfl rfl (Nat.le_of_ble_eq_true rfl)
theorem sX8_why_9_3 : ab_X rom K cX8_why 6 1 9 ls [w1, v0, v1, v2] hp = (K 100 [w1] hp).bind (fun o => ab_X rom K cX8_why 6 1 12 ls (o.1.toList ++ [v0, v1, v2]) o.2) := ax_static (as := [w1]) (st := [v0, v1, v2]) dX8_why_9 kc_6_174 rfl rfl (Nat.le_of_ble_eq_true rfl)
theorem dX8_why_12 : decode cX8_why 12 = .ok (.ifCond .ne 6, 3) := by decide +kernel
theorem sX8_why_12 : ab_X rom K cX8_why 6 1 12 ls (.int x :: st) hp = if x = 0 then ab_X rom K cX8_why 6 1 15 ls st hp else ab_X rom K cX8_why 6 1 18 ls st hp := ax_if_ne dX8_why_12 (by decide) rfl
theorem dX8_why_15 : decode cX8_why 15 = .ok (.bipush (-2), 2) := by decide +kernel
theorem sX8_why_15 : ab_X rom K cX8_why 6 1 15 ls st hp = ab_X rom K cX8_why 6 1 17 ls (.int (-2) :: st) hp := ax_bipush dX8_why_15 (by decide) rfl
theorem dX8_why_17 : decode cX8_why 17 = .ok (.ireturn, 1) := by decide +kernel
theorem sX8_why_17 : ab_X rom K cX8_why 6 1 17 ls [.int x] hp = some (some (.int x), hp) := ax_iret dX8_why_17 rfl
theorem dX8_why_18 : decode cX8_why 18 = .ok (.aload_n 0, 1) := by decide +kernel
theorem sX8_why_18 : ab_X rom K cX8_why 6 1 18 (.ref a :: ls) st hp = ab_X rom K cX8_why 6 1 19 (.ref a :: ls) (.ref a :: st) hp := ax_aload_n dX8_why_18 rfl rfl
theorem dX8_why_19 : decode cX8_why 19 = .ok (.getfield 21, 3) := by decide +kernel
theorem sX8_why_19 : ab_X rom K cX8_why 6 1 19 ls (.ref a :: st) hp = (ab_fld hp a 6 3).bind (fun v => ab_X rom K cX8_why 6 1 22 ls (v :: st) hp) := ax_getfield dX8_why_19 kf_6_21 rfl
theorem dX8_why_22 : decode cX8_why 22 = .ok (.iload_n 1, 1) := by decide +kernel
theorem sX8_why_22 : ab_X rom K cX8_why 6 1 22 (v0 :: .int x :: ls) st hp = ab_X rom K cX8_why 6 1 23 (v0 :: .int x :: ls) (.int x :: st) hp := ax_iload_n dX8_why_22 rfl rfl
theorem dX8_why_23 : decode cX8_why 23 = .ok (.aaload, 1) := by decide +kernel
theorem sX8_why_23 : ab_X rom K cX8_why 6 1 23 ls (.int x :: .ref a :: st) hp = (ab_rrd hp a x).bind (fun v => ab_X rom K cX8_why 6 1 24 ls (.ref v :: st) hp) := ax_aaload dX8_why_23 rfl
theorem dX8_why_24 : decode cX8_why 24 = .ok (.iload_n 2, 1) := by decide +kernel
theorem sX8_why_24 : ab_X rom K cX8_why 6 1 24 (v0 :: v1 :: .int x :: ls) st hp = ab_X rom K cX8_why 6 1 25 (v0 :: v1 :: .int x :: ls) (.int x :: st) hp := ax_iload_n dX8_why_24 rfl rfl
theorem dX8_why_25 : decode cX8_why 25 = .ok (.invokestatic 177, 3) := by decide +kernel
theorem sX8_why_25_0 : ab_X rom K cX8_why 6 1 25 ls [w2, w1] hp = (K 251 [w1, w2] hp).bind (fun o => ab_X rom K cX8_why 6 1 28 ls (o.1.toList ++ []) o.2) := ax_static (as := [w1, w2]) (st := []) dX8_why_25 kc_6_177 rfl rfl (Nat.le_of_ble_eq_true rfl)
theorem sX8_why_25_1 : ab_X rom K cX8_why 6 1 25 ls [w2, w1, v0] hp = (K 251 [w1, w2] hp).bind (fun o => ab_X rom K cX8_why 6 1 28 ls (o.1.toList ++ [v0]) o.2) := ax_static (as := [w1, w2]) (st := [v0]) dX8_why_25 kc_6_177 rfl rfl (Nat.le_of_ble_eq_true rfl)
theorem sX8_why_25_2 : ab_X rom K cX8_why 6 1 25 ls [w2, w1, v0, v1] hp = (K 251 [w1, w2] hp).bind (fun o => ab_X rom K cX8_why 6 1 28 ls (o.1.toList ++ [v0, v1]) o.2) := ax_static (as := [w1, w2]) (st := [v0, v1]) dX8_why_25 kc_6_177 rfl rfl (Nat.le_of_ble_eq_true rfl)
theorem sX8_why_25_3 : ab_X rom K cX8_why 6 1 25 ls [w2, w1, v0, v1, v2] hp = (K 251 [w1, w2] hp).bind (fun o => ab_X rom K cX8_why 6 1 28 ls (o.1.toList ++ [v0, v1, v2]) o.2) := ax_static (as := [w1, w2]) (st := [v0, v1, v2]) dX8_why_25 kc_6_177 rfl rfl (Nat.le_of_ble_eq_true rfl)
theorem dX8_why_28 : decode cX8_why 28 = .ok (.ireturn, 1) := by decide +kernel
theorem sX8_why_28 : ab_X rom K cX8_why 6 1 28 ls [.int x] hp = some (some (.int x), hp) := ax_iret dX8_why_28 rfl
theorem tX8_worth : ab_mT[127]? = some (yX8_worth, cX8_worth, 5, 1, 6) := by decide +kernel
theorem mX8_worth {d : Nat} {a0 : Nat} {x0 : Int32} {x1 : Int32} {x2 : Int32} : ab_M rom (d + 1) 127 [.ref a0, .int x0, .int x1, .int x2] hp = ab_X rom (ab_M rom d) cX8_worth 6 1 0 [.ref a0, .int x0, .int x1, .int x2, .null] [] hp := ab_M_eq tX8_worth (Nat.le_of_ble_eq_true rfl)
theorem dX8_worth_0 : decode cX8_worth 0 = .ok (.aload_n 0, 1) := by decide +kernel
theorem sX8_worth_0 : ab_X rom K cX8_worth 6 1 0 (.ref a :: ls) st hp = ab_X rom K cX8_worth 6 1 1 (.ref a :: ls) (.ref a :: st) hp := ax_aload_n dX8_worth_0 rfl rfl
theorem dX8_worth_1 : decode cX8_worth 1 = .ok (.iload_n 1, 1) := by decide +kernel
theorem sX8_worth_1 : ab_X rom K cX8_worth 6 1 1 (v0 :: .int x :: ls) st hp = ab_X rom K cX8_worth 6 1 2 (v0 :: .int x :: ls) (.int x :: st) hp := ax_iload_n dX8_worth_1 rfl rfl
theorem dX8_worth_2 : decode cX8_worth 2 = .ok (.invokevirtual 99, 3) := by decide +kernel
theorem sX8_worth_2_0 : ab_X rom K cX8_worth 6 1 2 ls [w1, .ref a] hp = if ab_iso hp a 6 = true then (K 95 (.ref a :: [w1]) hp).bind (fun o => ab_X rom K cX8_worth 6 1 5 ls (o.1.toList ++ []) o.2) else none := ay_virtual (as := [w1]) (st := []) dX8_worth_2 kc_6_99 rfl rfl (Nat.le_of_ble_eq_true rfl)
theorem sX8_worth_2_1 : ab_X rom K cX8_worth 6 1 2 ls [w1, .ref a, v0] hp = if ab_iso hp a 6 = true then (K 95 (.ref a :: [w1]) hp).bind (fun o => ab_X rom K cX8_worth 6 1 5 ls (o.1.toList ++ [v0]) o.2) else none := ay_virtual (as := [w1]) (st := [v0]) dX8_worth_2 kc_6_99 rfl rfl (Nat.le_of_ble_eq_true rfl)
theorem sX8_worth_2_2 : ab_X rom K cX8_worth 6 1 2 ls [w1, .ref a, v0, v1] hp = if ab_iso hp a 6 = true then (K 95 (.ref a :: [w1]) hp).bind (fun o => ab_X rom K cX8_worth 6 1 5 ls (o.1.toList ++ [v0, v1]) o.2) else none := ay_virtual (as := [w1]) (st := [v0, v1]) dX8_worth_2 kc_6_99 rfl rfl (Nat.le_of_ble_eq_true rfl)
theorem sX8_worth_2_3 : ab_X rom K cX8_worth 6 1 2 ls [w1, .ref a, v0, v1, v2] hp = if ab_iso hp a 6 = true then (K 95 (.ref a :: [w1]) hp).bind (fun o => ab_X rom K cX8_worth 6 1 5 ls (o.1.toList ++ [v0, v1, v2]) o.2) else none := ay_virtual (as := [w1]) (st := [v0, v1, v2]) dX8_worth_2 kc_6_99 rfl rfl (Nat.le_of_ble_eq_true rfl)
theorem dX8_worth_5 : decode cX8_worth 5 = .ok (.ifCond .eq 16, 3) := by decide +kernel
theorem sX8_worth_5 : ab_X rom K cX8_worth 6 1 5 ls (.int x :: st) hp = if x = 0 then ab_X rom K cX8_worth 6 1 21 ls st hp else ab_X rom K cX8_worth 6 1 8 ls st hp := ax_if_eq dX8_worth_5 (by decide) rfl
theorem dX8_worth_8 : decode cX8_worth 8 = .ok (.iload_n 2, 1) := by decide +kernel
theorem sX8_worth_8 : ab_X rom K cX8_worth 6 1 8 (v0 :: v1 :: .int x :: ls) st hp = ab_X rom K cX8_worth 6 1 9 (v0 :: v1 :: .int x :: ls) (.int x :: st) hp := ax_iload_n dX8_worth_8 rfl rfl
theorem dX8_worth_9 : decode cX8_worth 9 = .ok (.ifCond .lt 12, 3) := by decide +kernel
theorem sX8_worth_9 : ab_X rom K cX8_worth 6 1 9 ls (.int x :: st) hp = if x < 0 then ab_X rom K cX8_worth 6 1 21 ls st hp else ab_X rom K cX8_worth 6 1 12 ls st hp := ax_if_lt dX8_worth_9 (by decide) rfl
theorem dX8_worth_12 : decode cX8_worth 12 = .ok (.iload_n 3, 1) := by decide +kernel
theorem sX8_worth_12 : ab_X rom K cX8_worth 6 1 12 (v0 :: v1 :: v2 :: .int x :: ls) st hp = ab_X rom K cX8_worth 6 1 13 (v0 :: v1 :: v2 :: .int x :: ls) (.int x :: st) hp := ax_iload_n dX8_worth_12 rfl rfl
theorem dX8_worth_13 : decode cX8_worth 13 = .ok (.ifCond .lt 8, 3) := by decide +kernel
theorem sX8_worth_13 : ab_X rom K cX8_worth 6 1 13 ls (.int x :: st) hp = if x < 0 then ab_X rom K cX8_worth 6 1 21 ls st hp else ab_X rom K cX8_worth 6 1 16 ls st hp := ax_if_lt dX8_worth_13 (by decide) rfl
theorem dX8_worth_16 : decode cX8_worth 16 = .ok (.iload_n 3, 1) := by decide +kernel
theorem sX8_worth_16 : ab_X rom K cX8_worth 6 1 16 (v0 :: v1 :: v2 :: .int x :: ls) st hp = ab_X rom K cX8_worth 6 1 17 (v0 :: v1 :: v2 :: .int x :: ls) (.int x :: st) hp := ax_iload_n dX8_worth_16 rfl rfl
theorem dX8_worth_17 : decode cX8_worth 17 = .ok (.iconst 1, 1) := by decide +kernel
theorem sX8_worth_17 : ab_X rom K cX8_worth 6 1 17 ls st hp = ab_X rom K cX8_worth 6 1 18 ls (.int 1 :: st) hp := ax_iconst dX8_worth_17 (by decide) rfl
theorem dX8_worth_18 : decode cX8_worth 18 = .ok (.if_icmp .le 6, 3) := by decide +kernel
theorem sX8_worth_18 : ab_X rom K cX8_worth 6 1 18 ls (.int y :: .int x :: st) hp = if y < x then ab_X rom K cX8_worth 6 1 21 ls st hp else ab_X rom K cX8_worth 6 1 24 ls st hp := ax_icmp_le dX8_worth_18 (by decide) rfl
theorem dX8_worth_21 : decode cX8_worth 21 = .ok (.bipush (-2), 2) := by decide +kernel
theorem sX8_worth_21 : ab_X rom K cX8_worth 6 1 21 ls st hp = ab_X rom K cX8_worth 6 1 23 ls (.int (-2) :: st) hp := ax_bipush dX8_worth_21 (by decide) rfl
theorem dX8_worth_23 : decode cX8_worth 23 = .ok (.ireturn, 1) := by decide +kernel
theorem sX8_worth_23 : ab_X rom K cX8_worth 6 1 23 ls [.int x] hp = some (some (.int x), hp) := ax_iret dX8_worth_23 rfl
theorem dX8_worth_24 : decode cX8_worth 24 = .ok (.aload_n 0, 1) := by decide +kernel
theorem sX8_worth_24 : ab_X rom K cX8_worth 6 1 24 (.ref a :: ls) st hp = ab_X rom K cX8_worth 6 1 25 (.ref a :: ls) (.ref a :: st) hp := ax_aload_n dX8_worth_24 rfl rfl
theorem dX8_worth_25 : decode cX8_worth 25 = .ok (.getfield 21, 3) := by decide +kernel
theorem sX8_worth_25 : ab_X rom K cX8_worth 6 1 25 ls (.ref a :: st) hp = (ab_fld hp a 6 3).bind (fun v => ab_X rom K cX8_worth 6 1 28 ls (v :: st) hp) := ax_getfield dX8_worth_25 kf_6_21 rfl
theorem dX8_worth_28 : decode cX8_worth 28 = .ok (.iload_n 1, 1) := by decide +kernel
theorem sX8_worth_28 : ab_X rom K cX8_worth 6 1 28 (v0 :: .int x :: ls) st hp = ab_X rom K cX8_worth 6 1 29 (v0 :: .int x :: ls) (.int x :: st) hp := ax_iload_n dX8_worth_28 rfl rfl
theorem dX8_worth_29 : decode cX8_worth 29 = .ok (.aaload, 1) := by decide +kernel
theorem sX8_worth_29 : ab_X rom K cX8_worth 6 1 29 ls (.int x :: .ref a :: st) hp = (ab_rrd hp a x).bind (fun v => ab_X rom K cX8_worth 6 1 30 ls (.ref v :: st) hp) := ax_aaload dX8_worth_29 rfl
theorem dX8_worth_30 : decode cX8_worth 30 = .ok (.astore 4, 2) := by decide +kernel
theorem sX8_worth_30i : ab_X rom K cX8_worth 6 1 30 (v0 :: v1 :: v2 :: .int y :: v4 :: ls) (.ref a :: st) hp = ab_X rom K cX8_worth 6 1 32 (v0 :: v1 :: v2 :: .int y :: .ref a :: ls) st hp := ax_astore dX8_worth_30 (ax_lt (v := v4) rfl) (ab_nl_c1 (j := 3) (v := .int y) rfl (ab_c1_int _)) rfl rfl
theorem sX8_worth_30r : ab_X rom K cX8_worth 6 1 30 (v0 :: v1 :: v2 :: .ref a2 :: v4 :: ls) (.ref a :: st) hp = ab_X rom K cX8_worth 6 1 32 (v0 :: v1 :: v2 :: .ref a2 :: .ref a :: ls) st hp := ax_astore dX8_worth_30 (ax_lt (v := v4) rfl) (ab_nl_c1 (j := 3) (v := .ref a2) rfl (ab_c1_ref _)) rfl rfl
theorem sX8_worth_30n : ab_X rom K cX8_worth 6 1 30 (v0 :: v1 :: v2 :: .null :: v4 :: ls) (.ref a :: st) hp = ab_X rom K cX8_worth 6 1 32 (v0 :: v1 :: v2 :: .null :: .ref a :: ls) st hp := ax_astore dX8_worth_30 (ax_lt (v := v4) rfl) (ab_nl_c1 (j := 3) (v := .null) rfl ab_c1_null) rfl rfl
theorem dX8_worth_32 : decode cX8_worth 32 = .ok (.iload_n 2, 1) := by decide +kernel
theorem sX8_worth_32 : ab_X rom K cX8_worth 6 1 32 (v0 :: v1 :: .int x :: ls) st hp = ab_X rom K cX8_worth 6 1 33 (v0 :: v1 :: .int x :: ls) (.int x :: st) hp := ax_iload_n dX8_worth_32 rfl rfl
theorem dX8_worth_33 : decode cX8_worth 33 = .ok (.aload 4, 2) := by decide +kernel
theorem sX8_worth_33 : ab_X rom K cX8_worth 6 1 33 (v0 :: v1 :: v2 :: v3 :: .ref a :: ls) st hp = ab_X rom K cX8_worth 6 1 35 (v0 :: v1 :: v2 :: v3 :: .ref a :: ls) (.ref a :: st) hp := ax_aload dX8_worth_33 rfl rfl
theorem dX8_worth_35 : decode cX8_worth 35 = .ok (.getfield 89, 3) := by decide +kernel
theorem sX8_worth_35 : ab_X rom K cX8_worth 6 1 35 ls (.ref a :: st) hp = (ab_fld hp a 1 1).bind (fun v => ab_X rom K cX8_worth 6 1 38 ls (v :: st) hp) := ax_getfield dX8_worth_35 kf_6_89 rfl
theorem dX8_worth_38 : decode cX8_worth 38 = .ok (.if_icmp .ge 12, 3) := by decide +kernel
theorem sX8_worth_38 : ab_X rom K cX8_worth 6 1 38 ls (.int y :: .int x :: st) hp = if x < y then ab_X rom K cX8_worth 6 1 41 ls st hp else ab_X rom K cX8_worth 6 1 50 ls st hp := ax_icmp_ge dX8_worth_38 (by decide) rfl
theorem dX8_worth_41 : decode cX8_worth 41 = .ok (.aload 4, 2) := by decide +kernel
theorem sX8_worth_41 : ab_X rom K cX8_worth 6 1 41 (v0 :: v1 :: v2 :: v3 :: .ref a :: ls) st hp = ab_X rom K cX8_worth 6 1 43 (v0 :: v1 :: v2 :: v3 :: .ref a :: ls) (.ref a :: st) hp := ax_aload dX8_worth_41 rfl rfl
theorem dX8_worth_43 : decode cX8_worth 43 = .ok (.iload_n 2, 1) := by decide +kernel
theorem sX8_worth_43 : ab_X rom K cX8_worth 6 1 43 (v0 :: v1 :: .int x :: ls) st hp = ab_X rom K cX8_worth 6 1 44 (v0 :: v1 :: .int x :: ls) (.int x :: st) hp := ax_iload_n dX8_worth_43 rfl rfl
theorem dX8_worth_44 : decode cX8_worth 44 = .ok (.invokevirtual 155, 3) := by decide +kernel
theorem sX8_worth_44_0 : ab_X rom K cX8_worth 6 1 44 ls [w1, .ref a] hp = if ab_iso hp a 1 = true then (K 26 (.ref a :: [w1]) hp).bind (fun o => ab_X rom K cX8_worth 6 1 47 ls (o.1.toList ++ []) o.2) else none := ay_virtual (as := [w1]) (st := []) dX8_worth_44 kc_6_155 rfl rfl (Nat.le_of_ble_eq_true rfl)
theorem sX8_worth_44_1 : ab_X rom K cX8_worth 6 1 44 ls [w1, .ref a, v0] hp = if ab_iso hp a 1 = true then (K 26 (.ref a :: [w1]) hp).bind (fun o => ab_X rom K cX8_worth 6 1 47 ls (o.1.toList ++ [v0]) o.2) else none := ay_virtual (as := [w1]) (st := [v0]) dX8_worth_44 kc_6_155 rfl rfl (Nat.le_of_ble_eq_true rfl)
theorem sX8_worth_44_2 : ab_X rom K cX8_worth 6 1 44 ls [w1, .ref a, v0, v1] hp = if ab_iso hp a 1 = true then (K 26 (.ref a :: [w1]) hp).bind (fun o => ab_X rom K cX8_worth 6 1 47 ls (o.1.toList ++ [v0, v1]) o.2) else none := ay_virtual (as := [w1]) (st := [v0, v1]) dX8_worth_44 kc_6_155 rfl rfl (Nat.le_of_ble_eq_true rfl)
theorem sX8_worth_44_3 : ab_X rom K cX8_worth 6 1 44 ls [w1, .ref a, v0, v1, v2] hp = if ab_iso hp a 1 = true then (K 26 (.ref a :: [w1]) hp).bind (fun o => ab_X rom K cX8_worth 6 1 47 ls (o.1.toList ++ [v0, v1, v2]) o.2) else none := ay_virtual (as := [w1]) (st := [v0, v1, v2]) dX8_worth_44 kc_6_155 rfl rfl (Nat.le_of_ble_eq_true rfl)
theorem dX8_worth_47 : decode cX8_worth 47 = .ok (.ifCond .ne 5, 3) := by decide +kernel
theorem sX8_worth_47 : ab_X rom K cX8_worth 6 1 47 ls (.int x :: st) hp = if x = 0 then ab_X rom K cX8_worth 6 1 50 ls st hp else ab_X rom K cX8_worth 6 1 52 ls st hp := ax_if_ne dX8_worth_47 (by decide) rfl
theorem dX8_worth_50 : decode cX8_worth 50 = .ok (.iconst (-1), 1) := by decide +kernel
theorem sX8_worth_50 : ab_X rom K cX8_worth 6 1 50 ls st hp = ab_X rom K cX8_worth 6 1 51 ls (.int (-1) :: st) hp := ax_iconst dX8_worth_50 (by decide) rfl
theorem dX8_worth_51 : decode cX8_worth 51 = .ok (.ireturn, 1) := by decide +kernel
theorem sX8_worth_51 : ab_X rom K cX8_worth 6 1 51 ls [.int x] hp = some (some (.int x), hp) := ax_iret dX8_worth_51 rfl
theorem dX8_worth_52 : decode cX8_worth 52 = .ok (.iload_n 3, 1) := by decide +kernel
theorem sX8_worth_52 : ab_X rom K cX8_worth 6 1 52 (v0 :: v1 :: v2 :: .int x :: ls) st hp = ab_X rom K cX8_worth 6 1 53 (v0 :: v1 :: v2 :: .int x :: ls) (.int x :: st) hp := ax_iload_n dX8_worth_52 rfl rfl
theorem dX8_worth_53 : decode cX8_worth 53 = .ok (.ifCond .ne 12, 3) := by decide +kernel
theorem sX8_worth_53 : ab_X rom K cX8_worth 6 1 53 ls (.int x :: st) hp = if x = 0 then ab_X rom K cX8_worth 6 1 56 ls st hp else ab_X rom K cX8_worth 6 1 65 ls st hp := ax_if_ne dX8_worth_53 (by decide) rfl
theorem dX8_worth_56 : decode cX8_worth 56 = .ok (.aload 4, 2) := by decide +kernel
theorem sX8_worth_56 : ab_X rom K cX8_worth 6 1 56 (v0 :: v1 :: v2 :: v3 :: .ref a :: ls) st hp = ab_X rom K cX8_worth 6 1 58 (v0 :: v1 :: v2 :: v3 :: .ref a :: ls) (.ref a :: st) hp := ax_aload dX8_worth_56 rfl rfl
theorem dX8_worth_58 : decode cX8_worth 58 = .ok (.iload_n 2, 1) := by decide +kernel
theorem sX8_worth_58 : ab_X rom K cX8_worth 6 1 58 (v0 :: v1 :: .int x :: ls) st hp = ab_X rom K cX8_worth 6 1 59 (v0 :: v1 :: .int x :: ls) (.int x :: st) hp := ax_iload_n dX8_worth_58 rfl rfl
theorem dX8_worth_59 : decode cX8_worth 59 = .ok (.invokevirtual 158, 3) := by decide +kernel
theorem sX8_worth_59_0 : ab_X rom K cX8_worth 6 1 59 ls [w1, .ref a] hp = if ab_iso hp a 1 = true then (K 18 (.ref a :: [w1]) hp).bind (fun o => ab_X rom K cX8_worth 6 1 62 ls (o.1.toList ++ []) o.2) else none := ay_virtual (as := [w1]) (st := []) dX8_worth_59 kc_6_158 rfl rfl (Nat.le_of_ble_eq_true rfl)
theorem sX8_worth_59_1 : ab_X rom K cX8_worth 6 1 59 ls [w1, .ref a, v0] hp = if ab_iso hp a 1 = true then (K 18 (.ref a :: [w1]) hp).bind (fun o => ab_X rom K cX8_worth 6 1 62 ls (o.1.toList ++ [v0]) o.2) else none := ay_virtual (as := [w1]) (st := [v0]) dX8_worth_59 kc_6_158 rfl rfl (Nat.le_of_ble_eq_true rfl)
theorem sX8_worth_59_2 : ab_X rom K cX8_worth 6 1 59 ls [w1, .ref a, v0, v1] hp = if ab_iso hp a 1 = true then (K 18 (.ref a :: [w1]) hp).bind (fun o => ab_X rom K cX8_worth 6 1 62 ls (o.1.toList ++ [v0, v1]) o.2) else none := ay_virtual (as := [w1]) (st := [v0, v1]) dX8_worth_59 kc_6_158 rfl rfl (Nat.le_of_ble_eq_true rfl)
theorem sX8_worth_59_3 : ab_X rom K cX8_worth 6 1 59 ls [w1, .ref a, v0, v1, v2] hp = if ab_iso hp a 1 = true then (K 18 (.ref a :: [w1]) hp).bind (fun o => ab_X rom K cX8_worth 6 1 62 ls (o.1.toList ++ [v0, v1, v2]) o.2) else none := ay_virtual (as := [w1]) (st := [v0, v1, v2]) dX8_worth_59 kc_6_158 rfl rfl (Nat.le_of_ble_eq_true rfl)
theorem dX8_worth_62 : decode cX8_worth 62 = .ok (.goto 9, 3) := by decide +kernel
theorem sX8_worth_62 : ab_X rom K cX8_worth 6 1 62 ls st hp = ab_X rom K cX8_worth 6 1 71 ls st hp := ax_goto dX8_worth_62 (by decide)
theorem dX8_worth_65 : decode cX8_worth 65 = .ok (.aload 4, 2) := by decide +kernel
theorem sX8_worth_65 : ab_X rom K cX8_worth 6 1 65 (v0 :: v1 :: v2 :: v3 :: .ref a :: ls) st hp = ab_X rom K cX8_worth 6 1 67 (v0 :: v1 :: v2 :: v3 :: .ref a :: ls) (.ref a :: st) hp := ax_aload dX8_worth_65 rfl rfl
theorem dX8_worth_67 : decode cX8_worth 67 = .ok (.iload_n 2, 1) := by decide +kernel
theorem sX8_worth_67 : ab_X rom K cX8_worth 6 1 67 (v0 :: v1 :: .int x :: ls) st hp = ab_X rom K cX8_worth 6 1 68 (v0 :: v1 :: .int x :: ls) (.int x :: st) hp := ax_iload_n dX8_worth_67 rfl rfl
theorem dX8_worth_68 : decode cX8_worth 68 = .ok (.invokevirtual 162, 3) := by decide +kernel
theorem sX8_worth_68_0 : ab_X rom K cX8_worth 6 1 68 ls [w1, .ref a] hp = if ab_iso hp a 1 = true then (K 32 (.ref a :: [w1]) hp).bind (fun o => ab_X rom K cX8_worth 6 1 71 ls (o.1.toList ++ []) o.2) else none := ay_virtual (as := [w1]) (st := []) dX8_worth_68 kc_6_162 rfl rfl (Nat.le_of_ble_eq_true rfl)
theorem sX8_worth_68_1 : ab_X rom K cX8_worth 6 1 68 ls [w1, .ref a, v0] hp = if ab_iso hp a 1 = true then (K 32 (.ref a :: [w1]) hp).bind (fun o => ab_X rom K cX8_worth 6 1 71 ls (o.1.toList ++ [v0]) o.2) else none := ay_virtual (as := [w1]) (st := [v0]) dX8_worth_68 kc_6_162 rfl rfl (Nat.le_of_ble_eq_true rfl)
theorem sX8_worth_68_2 : ab_X rom K cX8_worth 6 1 68 ls [w1, .ref a, v0, v1] hp = if ab_iso hp a 1 = true then (K 32 (.ref a :: [w1]) hp).bind (fun o => ab_X rom K cX8_worth 6 1 71 ls (o.1.toList ++ [v0, v1]) o.2) else none := ay_virtual (as := [w1]) (st := [v0, v1]) dX8_worth_68 kc_6_162 rfl rfl (Nat.le_of_ble_eq_true rfl)
theorem sX8_worth_68_3 : ab_X rom K cX8_worth 6 1 68 ls [w1, .ref a, v0, v1, v2] hp = if ab_iso hp a 1 = true then (K 32 (.ref a :: [w1]) hp).bind (fun o => ab_X rom K cX8_worth 6 1 71 ls (o.1.toList ++ [v0, v1, v2]) o.2) else none := ay_virtual (as := [w1]) (st := [v0, v1, v2]) dX8_worth_68 kc_6_162 rfl rfl (Nat.le_of_ble_eq_true rfl)
theorem dX8_worth_71 : decode cX8_worth 71 = .ok (.ireturn, 1) := by decide +kernel
theorem sX8_worth_71 : ab_X rom K cX8_worth 6 1 71 ls [.int x] hp = some (some (.int x), hp) := ax_iret dX8_worth_71 rfl
theorem tX8_writeLabels : ab_mT[128]? = some (yX8_writeLabels, cX8_writeLabels, 3, 0, 6) := by decide +kernel
theorem mX8_writeLabels {d : Nat} {a0 : Nat} {r0 : Nat} : ab_M rom (d + 1) 128 [.ref a0, .ref r0] hp = ab_X rom (ab_M rom d) cX8_writeLabels 6 0 0 [.ref a0, .ref r0, .null] [] hp := ab_M_eq tX8_writeLabels (Nat.le_of_ble_eq_true rfl)
theorem dX8_writeLabels_0 : decode cX8_writeLabels 0 = .ok (.iconst 0, 1) := by decide +kernel
theorem sX8_writeLabels_0 : ab_X rom K cX8_writeLabels 6 0 0 ls st hp = ab_X rom K cX8_writeLabels 6 0 1 ls (.int 0 :: st) hp := ax_iconst dX8_writeLabels_0 (by decide) rfl
theorem dX8_writeLabels_1 : decode cX8_writeLabels 1 = .ok (.istore_n 2, 1) := by decide +kernel
theorem sX8_writeLabels_1i : ab_X rom K cX8_writeLabels 6 0 1 (v0 :: .int y :: v2 :: ls) (.int x :: st) hp = ab_X rom K cX8_writeLabels 6 0 2 (v0 :: .int y :: .int x :: ls) st hp := ax_istore_n dX8_writeLabels_1 (ax_lt (v := v2) rfl) (ab_nl_c1 (j := 1) (v := .int y) rfl (ab_c1_int _)) rfl rfl
theorem sX8_writeLabels_1r : ab_X rom K cX8_writeLabels 6 0 1 (v0 :: .ref a2 :: v2 :: ls) (.int x :: st) hp = ab_X rom K cX8_writeLabels 6 0 2 (v0 :: .ref a2 :: .int x :: ls) st hp := ax_istore_n dX8_writeLabels_1 (ax_lt (v := v2) rfl) (ab_nl_c1 (j := 1) (v := .ref a2) rfl (ab_c1_ref _)) rfl rfl
theorem sX8_writeLabels_1n : ab_X rom K cX8_writeLabels 6 0 1 (v0 :: .null :: v2 :: ls) (.int x :: st) hp = ab_X rom K cX8_writeLabels 6 0 2 (v0 :: .null :: .int x :: ls) st hp := ax_istore_n dX8_writeLabels_1 (ax_lt (v := v2) rfl) (ab_nl_c1 (j := 1) (v := .null) rfl ab_c1_null) rfl rfl
theorem dX8_writeLabels_2 : decode cX8_writeLabels 2 = .ok (.iload_n 2, 1) := by decide +kernel
theorem sX8_writeLabels_2 : ab_X rom K cX8_writeLabels 6 0 2 (v0 :: v1 :: .int x :: ls) st hp = ab_X rom K cX8_writeLabels 6 0 3 (v0 :: v1 :: .int x :: ls) (.int x :: st) hp := ax_iload_n dX8_writeLabels_2 rfl rfl
theorem dX8_writeLabels_3 : decode cX8_writeLabels 3 = .ok (.aload_n 1, 1) := by decide +kernel
theorem sX8_writeLabels_3 : ab_X rom K cX8_writeLabels 6 0 3 (v0 :: .ref a :: ls) st hp = ab_X rom K cX8_writeLabels 6 0 4 (v0 :: .ref a :: ls) (.ref a :: st) hp := ax_aload_n dX8_writeLabels_3 rfl rfl
theorem dX8_writeLabels_4 : decode cX8_writeLabels 4 = .ok (.getfield 102, 3) := by decide +kernel
theorem sX8_writeLabels_4 : ab_X rom K cX8_writeLabels 6 0 4 ls (.ref a :: st) hp = (ab_fld hp a 1 0).bind (fun v => ab_X rom K cX8_writeLabels 6 0 7 ls (v :: st) hp) := ax_getfield dX8_writeLabels_4 kf_6_102 rfl
theorem dX8_writeLabels_7 : decode cX8_writeLabels 7 = .ok (.if_icmp .ge 57, 3) := by decide +kernel
theorem sX8_writeLabels_7 : ab_X rom K cX8_writeLabels 6 0 7 ls (.int y :: .int x :: st) hp = if x < y then ab_X rom K cX8_writeLabels 6 0 10 ls st hp else ab_X rom K cX8_writeLabels 6 0 64 ls st hp := ax_icmp_ge dX8_writeLabels_7 (by decide) rfl
theorem dX8_writeLabels_10 : decode cX8_writeLabels 10 = .ok (.iload_n 2, 1) := by decide +kernel
theorem sX8_writeLabels_10 : ab_X rom K cX8_writeLabels 6 0 10 (v0 :: v1 :: .int x :: ls) st hp = ab_X rom K cX8_writeLabels 6 0 11 (v0 :: v1 :: .int x :: ls) (.int x :: st) hp := ax_iload_n dX8_writeLabels_10 rfl rfl
theorem dX8_writeLabels_11 : decode cX8_writeLabels 11 = .ok (.ifCond .le 12, 3) := by decide +kernel
theorem sX8_writeLabels_11 : ab_X rom K cX8_writeLabels 6 0 11 ls (.int x :: st) hp = if 0 < x then ab_X rom K cX8_writeLabels 6 0 14 ls st hp else ab_X rom K cX8_writeLabels 6 0 23 ls st hp := ax_if_le dX8_writeLabels_11 (by decide) rfl
theorem dX8_writeLabels_14 : decode cX8_writeLabels 14 = .ok (.aload_n 0, 1) := by decide +kernel
theorem sX8_writeLabels_14 : ab_X rom K cX8_writeLabels 6 0 14 (.ref a :: ls) st hp = ab_X rom K cX8_writeLabels 6 0 15 (.ref a :: ls) (.ref a :: st) hp := ax_aload_n dX8_writeLabels_14 rfl rfl
theorem dX8_writeLabels_15 : decode cX8_writeLabels 15 = .ok (.getfield 16, 3) := by decide +kernel
theorem sX8_writeLabels_15 : ab_X rom K cX8_writeLabels 6 0 15 ls (.ref a :: st) hp = (ab_fld hp a 6 2).bind (fun v => ab_X rom K cX8_writeLabels 6 0 18 ls (v :: st) hp) := ax_getfield dX8_writeLabels_15 kf_6_16 rfl
theorem dX8_writeLabels_18 : decode cX8_writeLabels 18 = .ok (.bipush 44, 2) := by decide +kernel
theorem sX8_writeLabels_18 : ab_X rom K cX8_writeLabels 6 0 18 ls st hp = ab_X rom K cX8_writeLabels 6 0 20 ls (.int 44 :: st) hp := ax_bipush dX8_writeLabels_18 (by decide) rfl
theorem dX8_writeLabels_20 : decode cX8_writeLabels 20 = .ok (.invokevirtual 300, 3) := by decide +kernel
theorem sX8_writeLabels_20_0 : ab_X rom K cX8_writeLabels 6 0 20 ls [w1, .ref a] hp = if ab_iso hp a 5 = true then (K 76 (.ref a :: [w1]) hp).bind (fun o => ab_X rom K cX8_writeLabels 6 0 23 ls (o.1.toList ++ []) o.2) else none := ay_virtual (as := [w1]) (st := []) dX8_writeLabels_20 kc_6_300 rfl rfl (Nat.le_of_ble_eq_true rfl)
theorem sX8_writeLabels_20_1 : ab_X rom K cX8_writeLabels 6 0 20 ls [w1, .ref a, v0] hp = if ab_iso hp a 5 = true then (K 76 (.ref a :: [w1]) hp).bind (fun o => ab_X rom K cX8_writeLabels 6 0 23 ls (o.1.toList ++ [v0]) o.2) else none := ay_virtual (as := [w1]) (st := [v0]) dX8_writeLabels_20 kc_6_300 rfl rfl (Nat.le_of_ble_eq_true rfl)
theorem sX8_writeLabels_20_2 : ab_X rom K cX8_writeLabels 6 0 20 ls [w1, .ref a, v0, v1] hp = if ab_iso hp a 5 = true then (K 76 (.ref a :: [w1]) hp).bind (fun o => ab_X rom K cX8_writeLabels 6 0 23 ls (o.1.toList ++ [v0, v1]) o.2) else none := ay_virtual (as := [w1]) (st := [v0, v1]) dX8_writeLabels_20 kc_6_300 rfl rfl (Nat.le_of_ble_eq_true rfl)
theorem sX8_writeLabels_20_3 : ab_X rom K cX8_writeLabels 6 0 20 ls [w1, .ref a, v0, v1, v2] hp = if ab_iso hp a 5 = true then (K 76 (.ref a :: [w1]) hp).bind (fun o => ab_X rom K cX8_writeLabels 6 0 23 ls (o.1.toList ++ [v0, v1, v2]) o.2) else none := ay_virtual (as := [w1]) (st := [v0, v1, v2]) dX8_writeLabels_20 kc_6_300 rfl rfl (Nat.le_of_ble_eq_true rfl)
theorem dX8_writeLabels_23 : decode cX8_writeLabels 23 = .ok (.aload_n 1, 1) := by decide +kernel
theorem sX8_writeLabels_23 : ab_X rom K cX8_writeLabels 6 0 23 (v0 :: .ref a :: ls) st hp = ab_X rom K cX8_writeLabels 6 0 24 (v0 :: .ref a :: ls) (.ref a :: st) hp := ax_aload_n dX8_writeLabels_23 rfl rfl
theorem dX8_writeLabels_24 : decode cX8_writeLabels 24 = .ok (.getfield 152, 3) := by decide +kernel
theorem sX8_writeLabels_24 : ab_X rom K cX8_writeLabels 6 0 24 ls (.ref a :: st) hp = (ab_fld hp a 1 4).bind (fun v => ab_X rom K cX8_writeLabels 6 0 27 ls (v :: st) hp) := ax_getfield dX8_writeLabels_24 kf_6_152 rfl
theorem dX8_writeLabels_27 : decode cX8_writeLabels 27 = .ok (.iload_n 2, 1) := by decide +kernel
theorem sX8_writeLabels_27 : ab_X rom K cX8_writeLabels 6 0 27 (v0 :: v1 :: .int x :: ls) st hp = ab_X rom K cX8_writeLabels 6 0 28 (v0 :: v1 :: .int x :: ls) (.int x :: st) hp := ax_iload_n dX8_writeLabels_27 rfl rfl
theorem dX8_writeLabels_28 : decode cX8_writeLabels 28 = .ok (.iaload, 1) := by decide +kernel
theorem sX8_writeLabels_28 : ab_X rom K cX8_writeLabels 6 0 28 ls (.int x :: .ref a :: st) hp = (ab_ard rom 0 hp a x).bind (fun v => ab_X rom K cX8_writeLabels 6 0 29 ls (.int v :: st) hp) := ax_iaload dX8_writeLabels_28 rfl
theorem dX8_writeLabels_29 : decode cX8_writeLabels 29 = .ok (.iconst (-1), 1) := by decide +kernel
theorem sX8_writeLabels_29 : ab_X rom K cX8_writeLabels 6 0 29 ls st hp = ab_X rom K cX8_writeLabels 6 0 30 ls (.int (-1) :: st) hp := ax_iconst dX8_writeLabels_29 (by decide) rfl
theorem dX8_writeLabels_30 : decode cX8_writeLabels 30 = .ok (.if_icmp .ne 15, 3) := by decide +kernel
theorem sX8_writeLabels_30 : ab_X rom K cX8_writeLabels 6 0 30 ls (.int y :: .int x :: st) hp = if x = y then ab_X rom K cX8_writeLabels 6 0 33 ls st hp else ab_X rom K cX8_writeLabels 6 0 45 ls st hp := ax_icmp_ne dX8_writeLabels_30 (by decide) rfl
theorem dX8_writeLabels_33 : decode cX8_writeLabels 33 = .ok (.aload_n 0, 1) := by decide +kernel
theorem sX8_writeLabels_33 : ab_X rom K cX8_writeLabels 6 0 33 (.ref a :: ls) st hp = ab_X rom K cX8_writeLabels 6 0 34 (.ref a :: ls) (.ref a :: st) hp := ax_aload_n dX8_writeLabels_33 rfl rfl
theorem dX8_writeLabels_34 : decode cX8_writeLabels 34 = .ok (.getfield 16, 3) := by decide +kernel
theorem sX8_writeLabels_34 : ab_X rom K cX8_writeLabels 6 0 34 ls (.ref a :: st) hp = (ab_fld hp a 6 2).bind (fun v => ab_X rom K cX8_writeLabels 6 0 37 ls (v :: st) hp) := ax_getfield dX8_writeLabels_34 kf_6_16 rfl
theorem dX8_writeLabels_37 : decode cX8_writeLabels 37 = .ok (.bipush 45, 2) := by decide +kernel
theorem sX8_writeLabels_37 : ab_X rom K cX8_writeLabels 6 0 37 ls st hp = ab_X rom K cX8_writeLabels 6 0 39 ls (.int 45 :: st) hp := ax_bipush dX8_writeLabels_37 (by decide) rfl
theorem dX8_writeLabels_39 : decode cX8_writeLabels 39 = .ok (.invokevirtual 300, 3) := by decide +kernel
theorem sX8_writeLabels_39_0 : ab_X rom K cX8_writeLabels 6 0 39 ls [w1, .ref a] hp = if ab_iso hp a 5 = true then (K 76 (.ref a :: [w1]) hp).bind (fun o => ab_X rom K cX8_writeLabels 6 0 42 ls (o.1.toList ++ []) o.2) else none := ay_virtual (as := [w1]) (st := []) dX8_writeLabels_39 kc_6_300 rfl rfl (Nat.le_of_ble_eq_true rfl)
theorem sX8_writeLabels_39_1 : ab_X rom K cX8_writeLabels 6 0 39 ls [w1, .ref a, v0] hp = if ab_iso hp a 5 = true then (K 76 (.ref a :: [w1]) hp).bind (fun o => ab_X rom K cX8_writeLabels 6 0 42 ls (o.1.toList ++ [v0]) o.2) else none := ay_virtual (as := [w1]) (st := [v0]) dX8_writeLabels_39 kc_6_300 rfl rfl (Nat.le_of_ble_eq_true rfl)
theorem sX8_writeLabels_39_2 : ab_X rom K cX8_writeLabels 6 0 39 ls [w1, .ref a, v0, v1] hp = if ab_iso hp a 5 = true then (K 76 (.ref a :: [w1]) hp).bind (fun o => ab_X rom K cX8_writeLabels 6 0 42 ls (o.1.toList ++ [v0, v1]) o.2) else none := ay_virtual (as := [w1]) (st := [v0, v1]) dX8_writeLabels_39 kc_6_300 rfl rfl (Nat.le_of_ble_eq_true rfl)
theorem sX8_writeLabels_39_3 : ab_X rom K cX8_writeLabels 6 0 39 ls [w1, .ref a, v0, v1, v2] hp = if ab_iso hp a 5 = true then (K 76 (.ref a :: [w1]) hp).bind (fun o => ab_X rom K cX8_writeLabels 6 0 42 ls (o.1.toList ++ [v0, v1, v2]) o.2) else none := ay_virtual (as := [w1]) (st := [v0, v1, v2]) dX8_writeLabels_39 kc_6_300 rfl rfl (Nat.le_of_ble_eq_true rfl)
theorem dX8_writeLabels_42 : decode cX8_writeLabels 42 = .ok (.goto 16, 3) := by decide +kernel
theorem sX8_writeLabels_42 : ab_X rom K cX8_writeLabels 6 0 42 ls st hp = ab_X rom K cX8_writeLabels 6 0 58 ls st hp := ax_goto dX8_writeLabels_42 (by decide)
theorem dX8_writeLabels_45 : decode cX8_writeLabels 45 = .ok (.aload_n 0, 1) := by decide +kernel
theorem sX8_writeLabels_45 : ab_X rom K cX8_writeLabels 6 0 45 (.ref a :: ls) st hp = ab_X rom K cX8_writeLabels 6 0 46 (.ref a :: ls) (.ref a :: st) hp := ax_aload_n dX8_writeLabels_45 rfl rfl
theorem dX8_writeLabels_46 : decode cX8_writeLabels 46 = .ok (.getfield 16, 3) := by decide +kernel
theorem sX8_writeLabels_46 : ab_X rom K cX8_writeLabels 6 0 46 ls (.ref a :: st) hp = (ab_fld hp a 6 2).bind (fun v => ab_X rom K cX8_writeLabels 6 0 49 ls (v :: st) hp) := ax_getfield dX8_writeLabels_46 kf_6_16 rfl
theorem dX8_writeLabels_49 : decode cX8_writeLabels 49 = .ok (.aload_n 1, 1) := by decide +kernel
theorem sX8_writeLabels_49 : ab_X rom K cX8_writeLabels 6 0 49 (v0 :: .ref a :: ls) st hp = ab_X rom K cX8_writeLabels 6 0 50 (v0 :: .ref a :: ls) (.ref a :: st) hp := ax_aload_n dX8_writeLabels_49 rfl rfl
theorem dX8_writeLabels_50 : decode cX8_writeLabels 50 = .ok (.getfield 152, 3) := by decide +kernel
theorem sX8_writeLabels_50 : ab_X rom K cX8_writeLabels 6 0 50 ls (.ref a :: st) hp = (ab_fld hp a 1 4).bind (fun v => ab_X rom K cX8_writeLabels 6 0 53 ls (v :: st) hp) := ax_getfield dX8_writeLabels_50 kf_6_152 rfl
theorem dX8_writeLabels_53 : decode cX8_writeLabels 53 = .ok (.iload_n 2, 1) := by decide +kernel
theorem sX8_writeLabels_53 : ab_X rom K cX8_writeLabels 6 0 53 (v0 :: v1 :: .int x :: ls) st hp = ab_X rom K cX8_writeLabels 6 0 54 (v0 :: v1 :: .int x :: ls) (.int x :: st) hp := ax_iload_n dX8_writeLabels_53 rfl rfl
theorem dX8_writeLabels_54 : decode cX8_writeLabels 54 = .ok (.iaload, 1) := by decide +kernel
theorem sX8_writeLabels_54 : ab_X rom K cX8_writeLabels 6 0 54 ls (.int x :: .ref a :: st) hp = (ab_ard rom 0 hp a x).bind (fun v => ab_X rom K cX8_writeLabels 6 0 55 ls (.int v :: st) hp) := ax_iaload dX8_writeLabels_54 rfl
theorem dX8_writeLabels_55 : decode cX8_writeLabels 55 = .ok (.invokevirtual 303, 3) := by decide +kernel
theorem sX8_writeLabels_55_0 : ab_X rom K cX8_writeLabels 6 0 55 ls [w1, .ref a] hp = if ab_iso hp a 5 = true then (K 78 (.ref a :: [w1]) hp).bind (fun o => ab_X rom K cX8_writeLabels 6 0 58 ls (o.1.toList ++ []) o.2) else none := ay_virtual (as := [w1]) (st := []) dX8_writeLabels_55 kc_6_303 rfl rfl (Nat.le_of_ble_eq_true rfl)
theorem sX8_writeLabels_55_1 : ab_X rom K cX8_writeLabels 6 0 55 ls [w1, .ref a, v0] hp = if ab_iso hp a 5 = true then (K 78 (.ref a :: [w1]) hp).bind (fun o => ab_X rom K cX8_writeLabels 6 0 58 ls (o.1.toList ++ [v0]) o.2) else none := ay_virtual (as := [w1]) (st := [v0]) dX8_writeLabels_55 kc_6_303 rfl rfl (Nat.le_of_ble_eq_true rfl)
theorem sX8_writeLabels_55_2 : ab_X rom K cX8_writeLabels 6 0 55 ls [w1, .ref a, v0, v1] hp = if ab_iso hp a 5 = true then (K 78 (.ref a :: [w1]) hp).bind (fun o => ab_X rom K cX8_writeLabels 6 0 58 ls (o.1.toList ++ [v0, v1]) o.2) else none := ay_virtual (as := [w1]) (st := [v0, v1]) dX8_writeLabels_55 kc_6_303 rfl rfl (Nat.le_of_ble_eq_true rfl)
theorem sX8_writeLabels_55_3 : ab_X rom K cX8_writeLabels 6 0 55 ls [w1, .ref a, v0, v1, v2] hp = if ab_iso hp a 5 = true then (K 78 (.ref a :: [w1]) hp).bind (fun o => ab_X rom K cX8_writeLabels 6 0 58 ls (o.1.toList ++ [v0, v1, v2]) o.2) else none := ay_virtual (as := [w1]) (st := [v0, v1, v2]) dX8_writeLabels_55 kc_6_303 rfl rfl (Nat.le_of_ble_eq_true rfl)
theorem dX8_writeLabels_58 : decode cX8_writeLabels 58 = .ok (.iinc 2 1, 3) := by decide +kernel
theorem sX8_writeLabels_58i : ab_X rom K cX8_writeLabels 6 0 58 (v0 :: .int y :: .int x :: ls) st hp = ab_X rom K cX8_writeLabels 6 0 61 (v0 :: .int y :: .int (x + 1) :: ls) st hp := ax_iinc dX8_writeLabels_58 rfl (ab_nl_c1 (j := 1) (v := .int y) rfl (ab_c1_int _)) (by decide) rfl rfl
theorem sX8_writeLabels_58r : ab_X rom K cX8_writeLabels 6 0 58 (v0 :: .ref a2 :: .int x :: ls) st hp = ab_X rom K cX8_writeLabels 6 0 61 (v0 :: .ref a2 :: .int (x + 1) :: ls) st hp := ax_iinc dX8_writeLabels_58 rfl (ab_nl_c1 (j := 1) (v := .ref a2) rfl (ab_c1_ref _)) (by decide) rfl rfl
theorem sX8_writeLabels_58n : ab_X rom K cX8_writeLabels 6 0 58 (v0 :: .null :: .int x :: ls) st hp = ab_X rom K cX8_writeLabels 6 0 61 (v0 :: .null :: .int (x + 1) :: ls) st hp := ax_iinc dX8_writeLabels_58 rfl (ab_nl_c1 (j := 1) (v := .null) rfl ab_c1_null) (by decide) rfl rfl
theorem dX8_writeLabels_61 : decode cX8_writeLabels 61 = .ok (.goto (-59), 3) := by decide +kernel
theorem sX8_writeLabels_61 : ab_X rom K cX8_writeLabels 6 0 61 ls st hp = ab_X rom K cX8_writeLabels 6 0 2 ls st hp := ax_goto dX8_writeLabels_61 (by decide)
theorem dX8_writeLabels_64 : decode cX8_writeLabels 64 = .ok (.return_, 1) := by decide +kernel
theorem sX8_writeLabels_64 : ab_X rom K cX8_writeLabels 6 0 64 ls [] hp = some (none, hp) := ax_vret dX8_writeLabels_64 (by decide)
theorem tX8_writeNet : ab_mT[129]? = some (yX8_writeNet, cX8_writeNet, 3, 0, 6) := by decide +kernel
theorem mX8_writeNet {d : Nat} {a0 : Nat} {r0 : Nat} : ab_M rom (d + 1) 129 [.ref a0, .ref r0] hp = ab_X rom (ab_M rom d) cX8_writeNet 6 0 0 [.ref a0, .ref r0, .null] [] hp := ab_M_eq tX8_writeNet (Nat.le_of_ble_eq_true rfl)
theorem dX8_writeNet_0 : decode cX8_writeNet 0 = .ok (.aload_n 0, 1) := by decide +kernel
theorem sX8_writeNet_0 : ab_X rom K cX8_writeNet 6 0 0 (.ref a :: ls) st hp = ab_X rom K cX8_writeNet 6 0 1 (.ref a :: ls) (.ref a :: st) hp := ax_aload_n dX8_writeNet_0 rfl rfl
theorem dX8_writeNet_1 : decode cX8_writeNet 1 = .ok (.getfield 16, 3) := by decide +kernel
theorem sX8_writeNet_1 : ab_X rom K cX8_writeNet 6 0 1 ls (.ref a :: st) hp = (ab_fld hp a 6 2).bind (fun v => ab_X rom K cX8_writeNet 6 0 4 ls (v :: st) hp) := ax_getfield dX8_writeNet_1 kf_6_16 rfl
theorem dX8_writeNet_4 : decode cX8_writeNet 4 = .ok (.bipush 110, 2) := by decide +kernel
theorem sX8_writeNet_4 : ab_X rom K cX8_writeNet 6 0 4 ls st hp = ab_X rom K cX8_writeNet 6 0 6 ls (.int 110 :: st) hp := ax_bipush dX8_writeNet_4 (by decide) rfl
theorem dX8_writeNet_6 : decode cX8_writeNet 6 = .ok (.invokevirtual 300, 3) := by decide +kernel
theorem sX8_writeNet_6_0 : ab_X rom K cX8_writeNet 6 0 6 ls [w1, .ref a] hp = if ab_iso hp a 5 = true then (K 76 (.ref a :: [w1]) hp).bind (fun o => ab_X rom K cX8_writeNet 6 0 9 ls (o.1.toList ++ []) o.2) else none := ay_virtual (as := [w1]) (st := []) dX8_writeNet_6 kc_6_300 rfl rfl (Nat.le_of_ble_eq_true rfl)
theorem sX8_writeNet_6_1 : ab_X rom K cX8_writeNet 6 0 6 ls [w1, .ref a, v0] hp = if ab_iso hp a 5 = true then (K 76 (.ref a :: [w1]) hp).bind (fun o => ab_X rom K cX8_writeNet 6 0 9 ls (o.1.toList ++ [v0]) o.2) else none := ay_virtual (as := [w1]) (st := [v0]) dX8_writeNet_6 kc_6_300 rfl rfl (Nat.le_of_ble_eq_true rfl)
theorem sX8_writeNet_6_2 : ab_X rom K cX8_writeNet 6 0 6 ls [w1, .ref a, v0, v1] hp = if ab_iso hp a 5 = true then (K 76 (.ref a :: [w1]) hp).bind (fun o => ab_X rom K cX8_writeNet 6 0 9 ls (o.1.toList ++ [v0, v1]) o.2) else none := ay_virtual (as := [w1]) (st := [v0, v1]) dX8_writeNet_6 kc_6_300 rfl rfl (Nat.le_of_ble_eq_true rfl)
theorem sX8_writeNet_6_3 : ab_X rom K cX8_writeNet 6 0 6 ls [w1, .ref a, v0, v1, v2] hp = if ab_iso hp a 5 = true then (K 76 (.ref a :: [w1]) hp).bind (fun o => ab_X rom K cX8_writeNet 6 0 9 ls (o.1.toList ++ [v0, v1, v2]) o.2) else none := ay_virtual (as := [w1]) (st := [v0, v1, v2]) dX8_writeNet_6 kc_6_300 rfl rfl (Nat.le_of_ble_eq_true rfl)
theorem dX8_writeNet_9 : decode cX8_writeNet 9 = .ok (.aload_n 0, 1) := by decide +kernel
theorem sX8_writeNet_9 : ab_X rom K cX8_writeNet 6 0 9 (.ref a :: ls) st hp = ab_X rom K cX8_writeNet 6 0 10 (.ref a :: ls) (.ref a :: st) hp := ax_aload_n dX8_writeNet_9 rfl rfl
theorem dX8_writeNet_10 : decode cX8_writeNet 10 = .ok (.getfield 16, 3) := by decide +kernel
theorem sX8_writeNet_10 : ab_X rom K cX8_writeNet 6 0 10 ls (.ref a :: st) hp = (ab_fld hp a 6 2).bind (fun v => ab_X rom K cX8_writeNet 6 0 13 ls (v :: st) hp) := ax_getfield dX8_writeNet_10 kf_6_16 rfl
theorem dX8_writeNet_13 : decode cX8_writeNet 13 = .ok (.bipush 101, 2) := by decide +kernel
theorem sX8_writeNet_13 : ab_X rom K cX8_writeNet 6 0 13 ls st hp = ab_X rom K cX8_writeNet 6 0 15 ls (.int 101 :: st) hp := ax_bipush dX8_writeNet_13 (by decide) rfl
theorem dX8_writeNet_15 : decode cX8_writeNet 15 = .ok (.invokevirtual 300, 3) := by decide +kernel
theorem sX8_writeNet_15_0 : ab_X rom K cX8_writeNet 6 0 15 ls [w1, .ref a] hp = if ab_iso hp a 5 = true then (K 76 (.ref a :: [w1]) hp).bind (fun o => ab_X rom K cX8_writeNet 6 0 18 ls (o.1.toList ++ []) o.2) else none := ay_virtual (as := [w1]) (st := []) dX8_writeNet_15 kc_6_300 rfl rfl (Nat.le_of_ble_eq_true rfl)
theorem sX8_writeNet_15_1 : ab_X rom K cX8_writeNet 6 0 15 ls [w1, .ref a, v0] hp = if ab_iso hp a 5 = true then (K 76 (.ref a :: [w1]) hp).bind (fun o => ab_X rom K cX8_writeNet 6 0 18 ls (o.1.toList ++ [v0]) o.2) else none := ay_virtual (as := [w1]) (st := [v0]) dX8_writeNet_15 kc_6_300 rfl rfl (Nat.le_of_ble_eq_true rfl)
theorem sX8_writeNet_15_2 : ab_X rom K cX8_writeNet 6 0 15 ls [w1, .ref a, v0, v1] hp = if ab_iso hp a 5 = true then (K 76 (.ref a :: [w1]) hp).bind (fun o => ab_X rom K cX8_writeNet 6 0 18 ls (o.1.toList ++ [v0, v1]) o.2) else none := ay_virtual (as := [w1]) (st := [v0, v1]) dX8_writeNet_15 kc_6_300 rfl rfl (Nat.le_of_ble_eq_true rfl)
theorem sX8_writeNet_15_3 : ab_X rom K cX8_writeNet 6 0 15 ls [w1, .ref a, v0, v1, v2] hp = if ab_iso hp a 5 = true then (K 76 (.ref a :: [w1]) hp).bind (fun o => ab_X rom K cX8_writeNet 6 0 18 ls (o.1.toList ++ [v0, v1, v2]) o.2) else none := ay_virtual (as := [w1]) (st := [v0, v1, v2]) dX8_writeNet_15 kc_6_300 rfl rfl (Nat.le_of_ble_eq_true rfl)
theorem dX8_writeNet_18 : decode cX8_writeNet 18 = .ok (.aload_n 0, 1) := by decide +kernel
theorem sX8_writeNet_18 : ab_X rom K cX8_writeNet 6 0 18 (.ref a :: ls) st hp = ab_X rom K cX8_writeNet 6 0 19 (.ref a :: ls) (.ref a :: st) hp := ax_aload_n dX8_writeNet_18 rfl rfl
theorem dX8_writeNet_19 : decode cX8_writeNet 19 = .ok (.getfield 16, 3) := by decide +kernel
theorem sX8_writeNet_19 : ab_X rom K cX8_writeNet 6 0 19 ls (.ref a :: st) hp = (ab_fld hp a 6 2).bind (fun v => ab_X rom K cX8_writeNet 6 0 22 ls (v :: st) hp) := ax_getfield dX8_writeNet_19 kf_6_16 rfl
theorem dX8_writeNet_22 : decode cX8_writeNet 22 = .ok (.bipush 116, 2) := by decide +kernel
theorem sX8_writeNet_22 : ab_X rom K cX8_writeNet 6 0 22 ls st hp = ab_X rom K cX8_writeNet 6 0 24 ls (.int 116 :: st) hp := ax_bipush dX8_writeNet_22 (by decide) rfl
theorem dX8_writeNet_24 : decode cX8_writeNet 24 = .ok (.invokevirtual 300, 3) := by decide +kernel
theorem sX8_writeNet_24_0 : ab_X rom K cX8_writeNet 6 0 24 ls [w1, .ref a] hp = if ab_iso hp a 5 = true then (K 76 (.ref a :: [w1]) hp).bind (fun o => ab_X rom K cX8_writeNet 6 0 27 ls (o.1.toList ++ []) o.2) else none := ay_virtual (as := [w1]) (st := []) dX8_writeNet_24 kc_6_300 rfl rfl (Nat.le_of_ble_eq_true rfl)
theorem sX8_writeNet_24_1 : ab_X rom K cX8_writeNet 6 0 24 ls [w1, .ref a, v0] hp = if ab_iso hp a 5 = true then (K 76 (.ref a :: [w1]) hp).bind (fun o => ab_X rom K cX8_writeNet 6 0 27 ls (o.1.toList ++ [v0]) o.2) else none := ay_virtual (as := [w1]) (st := [v0]) dX8_writeNet_24 kc_6_300 rfl rfl (Nat.le_of_ble_eq_true rfl)
theorem sX8_writeNet_24_2 : ab_X rom K cX8_writeNet 6 0 24 ls [w1, .ref a, v0, v1] hp = if ab_iso hp a 5 = true then (K 76 (.ref a :: [w1]) hp).bind (fun o => ab_X rom K cX8_writeNet 6 0 27 ls (o.1.toList ++ [v0, v1]) o.2) else none := ay_virtual (as := [w1]) (st := [v0, v1]) dX8_writeNet_24 kc_6_300 rfl rfl (Nat.le_of_ble_eq_true rfl)
theorem sX8_writeNet_24_3 : ab_X rom K cX8_writeNet 6 0 24 ls [w1, .ref a, v0, v1, v2] hp = if ab_iso hp a 5 = true then (K 76 (.ref a :: [w1]) hp).bind (fun o => ab_X rom K cX8_writeNet 6 0 27 ls (o.1.toList ++ [v0, v1, v2]) o.2) else none := ay_virtual (as := [w1]) (st := [v0, v1, v2]) dX8_writeNet_24 kc_6_300 rfl rfl (Nat.le_of_ble_eq_true rfl)
theorem dX8_writeNet_27 : decode cX8_writeNet 27 = .ok (.aload_n 0, 1) := by decide +kernel
theorem sX8_writeNet_27 : ab_X rom K cX8_writeNet 6 0 27 (.ref a :: ls) st hp = ab_X rom K cX8_writeNet 6 0 28 (.ref a :: ls) (.ref a :: st) hp := ax_aload_n dX8_writeNet_27 rfl rfl
theorem dX8_writeNet_28 : decode cX8_writeNet 28 = .ok (.getfield 16, 3) := by decide +kernel
theorem sX8_writeNet_28 : ab_X rom K cX8_writeNet 6 0 28 ls (.ref a :: st) hp = (ab_fld hp a 6 2).bind (fun v => ab_X rom K cX8_writeNet 6 0 31 ls (v :: st) hp) := ax_getfield dX8_writeNet_28 kf_6_16 rfl
theorem dX8_writeNet_31 : decode cX8_writeNet 31 = .ok (.aload_n 1, 1) := by decide +kernel
theorem sX8_writeNet_31 : ab_X rom K cX8_writeNet 6 0 31 (v0 :: .ref a :: ls) st hp = ab_X rom K cX8_writeNet 6 0 32 (v0 :: .ref a :: ls) (.ref a :: st) hp := ax_aload_n dX8_writeNet_31 rfl rfl
theorem dX8_writeNet_32 : decode cX8_writeNet 32 = .ok (.getfield 102, 3) := by decide +kernel
theorem sX8_writeNet_32 : ab_X rom K cX8_writeNet 6 0 32 ls (.ref a :: st) hp = (ab_fld hp a 1 0).bind (fun v => ab_X rom K cX8_writeNet 6 0 35 ls (v :: st) hp) := ax_getfield dX8_writeNet_32 kf_6_102 rfl
theorem dX8_writeNet_35 : decode cX8_writeNet 35 = .ok (.invokevirtual 303, 3) := by decide +kernel
theorem sX8_writeNet_35_0 : ab_X rom K cX8_writeNet 6 0 35 ls [w1, .ref a] hp = if ab_iso hp a 5 = true then (K 78 (.ref a :: [w1]) hp).bind (fun o => ab_X rom K cX8_writeNet 6 0 38 ls (o.1.toList ++ []) o.2) else none := ay_virtual (as := [w1]) (st := []) dX8_writeNet_35 kc_6_303 rfl rfl (Nat.le_of_ble_eq_true rfl)
theorem sX8_writeNet_35_1 : ab_X rom K cX8_writeNet 6 0 35 ls [w1, .ref a, v0] hp = if ab_iso hp a 5 = true then (K 78 (.ref a :: [w1]) hp).bind (fun o => ab_X rom K cX8_writeNet 6 0 38 ls (o.1.toList ++ [v0]) o.2) else none := ay_virtual (as := [w1]) (st := [v0]) dX8_writeNet_35 kc_6_303 rfl rfl (Nat.le_of_ble_eq_true rfl)
theorem sX8_writeNet_35_2 : ab_X rom K cX8_writeNet 6 0 35 ls [w1, .ref a, v0, v1] hp = if ab_iso hp a 5 = true then (K 78 (.ref a :: [w1]) hp).bind (fun o => ab_X rom K cX8_writeNet 6 0 38 ls (o.1.toList ++ [v0, v1]) o.2) else none := ay_virtual (as := [w1]) (st := [v0, v1]) dX8_writeNet_35 kc_6_303 rfl rfl (Nat.le_of_ble_eq_true rfl)
theorem sX8_writeNet_35_3 : ab_X rom K cX8_writeNet 6 0 35 ls [w1, .ref a, v0, v1, v2] hp = if ab_iso hp a 5 = true then (K 78 (.ref a :: [w1]) hp).bind (fun o => ab_X rom K cX8_writeNet 6 0 38 ls (o.1.toList ++ [v0, v1, v2]) o.2) else none := ay_virtual (as := [w1]) (st := [v0, v1, v2]) dX8_writeNet_35 kc_6_303 rfl rfl (Nat.le_of_ble_eq_true rfl)
theorem dX8_writeNet_38 : decode cX8_writeNet 38 = .ok (.iconst 0, 1) := by decide +kernel
theorem sX8_writeNet_38 : ab_X rom K cX8_writeNet 6 0 38 ls st hp = ab_X rom K cX8_writeNet 6 0 39 ls (.int 0 :: st) hp := ax_iconst dX8_writeNet_38 (by decide) rfl
theorem dX8_writeNet_39 : decode cX8_writeNet 39 = .ok (.istore_n 2, 1) := by decide +kernel
theorem sX8_writeNet_39i : ab_X rom K cX8_writeNet 6 0 39 (v0 :: .int y :: v2 :: ls) (.int x :: st) hp = ab_X rom K cX8_writeNet 6 0 40 (v0 :: .int y :: .int x :: ls) st hp := ax_istore_n dX8_writeNet_39 (ax_lt (v := v2) rfl) (ab_nl_c1 (j := 1) (v := .int y) rfl (ab_c1_int _)) rfl rfl
theorem sX8_writeNet_39r : ab_X rom K cX8_writeNet 6 0 39 (v0 :: .ref a2 :: v2 :: ls) (.int x :: st) hp = ab_X rom K cX8_writeNet 6 0 40 (v0 :: .ref a2 :: .int x :: ls) st hp := ax_istore_n dX8_writeNet_39 (ax_lt (v := v2) rfl) (ab_nl_c1 (j := 1) (v := .ref a2) rfl (ab_c1_ref _)) rfl rfl
theorem sX8_writeNet_39n : ab_X rom K cX8_writeNet 6 0 39 (v0 :: .null :: v2 :: ls) (.int x :: st) hp = ab_X rom K cX8_writeNet 6 0 40 (v0 :: .null :: .int x :: ls) st hp := ax_istore_n dX8_writeNet_39 (ax_lt (v := v2) rfl) (ab_nl_c1 (j := 1) (v := .null) rfl ab_c1_null) rfl rfl
theorem dX8_writeNet_40 : decode cX8_writeNet 40 = .ok (.iload_n 2, 1) := by decide +kernel
theorem sX8_writeNet_40 : ab_X rom K cX8_writeNet 6 0 40 (v0 :: v1 :: .int x :: ls) st hp = ab_X rom K cX8_writeNet 6 0 41 (v0 :: v1 :: .int x :: ls) (.int x :: st) hp := ax_iload_n dX8_writeNet_40 rfl rfl
theorem dX8_writeNet_41 : decode cX8_writeNet 41 = .ok (.aload_n 1, 1) := by decide +kernel
theorem sX8_writeNet_41 : ab_X rom K cX8_writeNet 6 0 41 (v0 :: .ref a :: ls) st hp = ab_X rom K cX8_writeNet 6 0 42 (v0 :: .ref a :: ls) (.ref a :: st) hp := ax_aload_n dX8_writeNet_41 rfl rfl
theorem dX8_writeNet_42 : decode cX8_writeNet 42 = .ok (.getfield 89, 3) := by decide +kernel
theorem sX8_writeNet_42 : ab_X rom K cX8_writeNet 6 0 42 ls (.ref a :: st) hp = (ab_fld hp a 1 1).bind (fun v => ab_X rom K cX8_writeNet 6 0 45 ls (v :: st) hp) := ax_getfield dX8_writeNet_42 kf_6_89 rfl
theorem dX8_writeNet_45 : decode cX8_writeNet 45 = .ok (.if_icmp .ge 62, 3) := by decide +kernel
theorem sX8_writeNet_45 : ab_X rom K cX8_writeNet 6 0 45 ls (.int y :: .int x :: st) hp = if x < y then ab_X rom K cX8_writeNet 6 0 48 ls st hp else ab_X rom K cX8_writeNet 6 0 107 ls st hp := ax_icmp_ge dX8_writeNet_45 (by decide) rfl
theorem dX8_writeNet_48 : decode cX8_writeNet 48 = .ok (.aload_n 0, 1) := by decide +kernel
theorem sX8_writeNet_48 : ab_X rom K cX8_writeNet 6 0 48 (.ref a :: ls) st hp = ab_X rom K cX8_writeNet 6 0 49 (.ref a :: ls) (.ref a :: st) hp := ax_aload_n dX8_writeNet_48 rfl rfl
theorem dX8_writeNet_49 : decode cX8_writeNet 49 = .ok (.getfield 16, 3) := by decide +kernel
theorem sX8_writeNet_49 : ab_X rom K cX8_writeNet 6 0 49 ls (.ref a :: st) hp = (ab_fld hp a 6 2).bind (fun v => ab_X rom K cX8_writeNet 6 0 52 ls (v :: st) hp) := ax_getfield dX8_writeNet_49 kf_6_16 rfl
theorem dX8_writeNet_52 : decode cX8_writeNet 52 = .ok (.iload_n 2, 1) := by decide +kernel
theorem sX8_writeNet_52 : ab_X rom K cX8_writeNet 6 0 52 (v0 :: v1 :: .int x :: ls) st hp = ab_X rom K cX8_writeNet 6 0 53 (v0 :: v1 :: .int x :: ls) (.int x :: st) hp := ax_iload_n dX8_writeNet_52 rfl rfl
theorem dX8_writeNet_53 : decode cX8_writeNet 53 = .ok (.ifCond .ne 8, 3) := by decide +kernel
theorem sX8_writeNet_53 : ab_X rom K cX8_writeNet 6 0 53 ls (.int x :: st) hp = if x = 0 then ab_X rom K cX8_writeNet 6 0 56 ls st hp else ab_X rom K cX8_writeNet 6 0 61 ls st hp := ax_if_ne dX8_writeNet_53 (by decide) rfl
theorem dX8_writeNet_56 : decode cX8_writeNet 56 = .ok (.bipush 58, 2) := by decide +kernel
theorem sX8_writeNet_56 : ab_X rom K cX8_writeNet 6 0 56 ls st hp = ab_X rom K cX8_writeNet 6 0 58 ls (.int 58 :: st) hp := ax_bipush dX8_writeNet_56 (by decide) rfl
theorem dX8_writeNet_58 : decode cX8_writeNet 58 = .ok (.goto 5, 3) := by decide +kernel
theorem sX8_writeNet_58 : ab_X rom K cX8_writeNet 6 0 58 ls st hp = ab_X rom K cX8_writeNet 6 0 63 ls st hp := ax_goto dX8_writeNet_58 (by decide)
theorem dX8_writeNet_61 : decode cX8_writeNet 61 = .ok (.bipush 44, 2) := by decide +kernel
theorem sX8_writeNet_61 : ab_X rom K cX8_writeNet 6 0 61 ls st hp = ab_X rom K cX8_writeNet 6 0 63 ls (.int 44 :: st) hp := ax_bipush dX8_writeNet_61 (by decide) rfl
theorem dX8_writeNet_63 : decode cX8_writeNet 63 = .ok (.invokevirtual 300, 3) := by decide +kernel
theorem sX8_writeNet_63_0 : ab_X rom K cX8_writeNet 6 0 63 ls [w1, .ref a] hp = if ab_iso hp a 5 = true then (K 76 (.ref a :: [w1]) hp).bind (fun o => ab_X rom K cX8_writeNet 6 0 66 ls (o.1.toList ++ []) o.2) else none := ay_virtual (as := [w1]) (st := []) dX8_writeNet_63 kc_6_300 rfl rfl (Nat.le_of_ble_eq_true rfl)
theorem sX8_writeNet_63_1 : ab_X rom K cX8_writeNet 6 0 63 ls [w1, .ref a, v0] hp = if ab_iso hp a 5 = true then (K 76 (.ref a :: [w1]) hp).bind (fun o => ab_X rom K cX8_writeNet 6 0 66 ls (o.1.toList ++ [v0]) o.2) else none := ay_virtual (as := [w1]) (st := [v0]) dX8_writeNet_63 kc_6_300 rfl rfl (Nat.le_of_ble_eq_true rfl)
theorem sX8_writeNet_63_2 : ab_X rom K cX8_writeNet 6 0 63 ls [w1, .ref a, v0, v1] hp = if ab_iso hp a 5 = true then (K 76 (.ref a :: [w1]) hp).bind (fun o => ab_X rom K cX8_writeNet 6 0 66 ls (o.1.toList ++ [v0, v1]) o.2) else none := ay_virtual (as := [w1]) (st := [v0, v1]) dX8_writeNet_63 kc_6_300 rfl rfl (Nat.le_of_ble_eq_true rfl)
theorem sX8_writeNet_63_3 : ab_X rom K cX8_writeNet 6 0 63 ls [w1, .ref a, v0, v1, v2] hp = if ab_iso hp a 5 = true then (K 76 (.ref a :: [w1]) hp).bind (fun o => ab_X rom K cX8_writeNet 6 0 66 ls (o.1.toList ++ [v0, v1, v2]) o.2) else none := ay_virtual (as := [w1]) (st := [v0, v1, v2]) dX8_writeNet_63 kc_6_300 rfl rfl (Nat.le_of_ble_eq_true rfl)
theorem dX8_writeNet_66 : decode cX8_writeNet 66 = .ok (.aload_n 0, 1) := by decide +kernel
theorem sX8_writeNet_66 : ab_X rom K cX8_writeNet 6 0 66 (.ref a :: ls) st hp = ab_X rom K cX8_writeNet 6 0 67 (.ref a :: ls) (.ref a :: st) hp := ax_aload_n dX8_writeNet_66 rfl rfl
theorem dX8_writeNet_67 : decode cX8_writeNet 67 = .ok (.getfield 16, 3) := by decide +kernel
theorem sX8_writeNet_67 : ab_X rom K cX8_writeNet 6 0 67 ls (.ref a :: st) hp = (ab_fld hp a 6 2).bind (fun v => ab_X rom K cX8_writeNet 6 0 70 ls (v :: st) hp) := ax_getfield dX8_writeNet_67 kf_6_16 rfl
theorem dX8_writeNet_70 : decode cX8_writeNet 70 = .ok (.aload_n 1, 1) := by decide +kernel
theorem sX8_writeNet_70 : ab_X rom K cX8_writeNet 6 0 70 (v0 :: .ref a :: ls) st hp = ab_X rom K cX8_writeNet 6 0 71 (v0 :: .ref a :: ls) (.ref a :: st) hp := ax_aload_n dX8_writeNet_70 rfl rfl
theorem dX8_writeNet_71 : decode cX8_writeNet 71 = .ok (.getfield 123, 3) := by decide +kernel
theorem sX8_writeNet_71 : ab_X rom K cX8_writeNet 6 0 71 ls (.ref a :: st) hp = (ab_fld hp a 1 2).bind (fun v => ab_X rom K cX8_writeNet 6 0 74 ls (v :: st) hp) := ax_getfield dX8_writeNet_71 kf_6_123 rfl
theorem dX8_writeNet_74 : decode cX8_writeNet 74 = .ok (.iload_n 2, 1) := by decide +kernel
theorem sX8_writeNet_74 : ab_X rom K cX8_writeNet 6 0 74 (v0 :: v1 :: .int x :: ls) st hp = ab_X rom K cX8_writeNet 6 0 75 (v0 :: v1 :: .int x :: ls) (.int x :: st) hp := ax_iload_n dX8_writeNet_74 rfl rfl
theorem dX8_writeNet_75 : decode cX8_writeNet 75 = .ok (.iaload, 1) := by decide +kernel
theorem sX8_writeNet_75 : ab_X rom K cX8_writeNet 6 0 75 ls (.int x :: .ref a :: st) hp = (ab_ard rom 0 hp a x).bind (fun v => ab_X rom K cX8_writeNet 6 0 76 ls (.int v :: st) hp) := ax_iaload dX8_writeNet_75 rfl
theorem dX8_writeNet_76 : decode cX8_writeNet 76 = .ok (.invokevirtual 303, 3) := by decide +kernel
theorem sX8_writeNet_76_0 : ab_X rom K cX8_writeNet 6 0 76 ls [w1, .ref a] hp = if ab_iso hp a 5 = true then (K 78 (.ref a :: [w1]) hp).bind (fun o => ab_X rom K cX8_writeNet 6 0 79 ls (o.1.toList ++ []) o.2) else none := ay_virtual (as := [w1]) (st := []) dX8_writeNet_76 kc_6_303 rfl rfl (Nat.le_of_ble_eq_true rfl)
theorem sX8_writeNet_76_1 : ab_X rom K cX8_writeNet 6 0 76 ls [w1, .ref a, v0] hp = if ab_iso hp a 5 = true then (K 78 (.ref a :: [w1]) hp).bind (fun o => ab_X rom K cX8_writeNet 6 0 79 ls (o.1.toList ++ [v0]) o.2) else none := ay_virtual (as := [w1]) (st := [v0]) dX8_writeNet_76 kc_6_303 rfl rfl (Nat.le_of_ble_eq_true rfl)
theorem sX8_writeNet_76_2 : ab_X rom K cX8_writeNet 6 0 76 ls [w1, .ref a, v0, v1] hp = if ab_iso hp a 5 = true then (K 78 (.ref a :: [w1]) hp).bind (fun o => ab_X rom K cX8_writeNet 6 0 79 ls (o.1.toList ++ [v0, v1]) o.2) else none := ay_virtual (as := [w1]) (st := [v0, v1]) dX8_writeNet_76 kc_6_303 rfl rfl (Nat.le_of_ble_eq_true rfl)
theorem sX8_writeNet_76_3 : ab_X rom K cX8_writeNet 6 0 76 ls [w1, .ref a, v0, v1, v2] hp = if ab_iso hp a 5 = true then (K 78 (.ref a :: [w1]) hp).bind (fun o => ab_X rom K cX8_writeNet 6 0 79 ls (o.1.toList ++ [v0, v1, v2]) o.2) else none := ay_virtual (as := [w1]) (st := [v0, v1, v2]) dX8_writeNet_76 kc_6_303 rfl rfl (Nat.le_of_ble_eq_true rfl)
theorem dX8_writeNet_79 : decode cX8_writeNet 79 = .ok (.aload_n 0, 1) := by decide +kernel
theorem sX8_writeNet_79 : ab_X rom K cX8_writeNet 6 0 79 (.ref a :: ls) st hp = ab_X rom K cX8_writeNet 6 0 80 (.ref a :: ls) (.ref a :: st) hp := ax_aload_n dX8_writeNet_79 rfl rfl
theorem dX8_writeNet_80 : decode cX8_writeNet 80 = .ok (.getfield 16, 3) := by decide +kernel
theorem sX8_writeNet_80 : ab_X rom K cX8_writeNet 6 0 80 ls (.ref a :: st) hp = (ab_fld hp a 6 2).bind (fun v => ab_X rom K cX8_writeNet 6 0 83 ls (v :: st) hp) := ax_getfield dX8_writeNet_80 kf_6_16 rfl
theorem dX8_writeNet_83 : decode cX8_writeNet 83 = .ok (.bipush 45, 2) := by decide +kernel
theorem sX8_writeNet_83 : ab_X rom K cX8_writeNet 6 0 83 ls st hp = ab_X rom K cX8_writeNet 6 0 85 ls (.int 45 :: st) hp := ax_bipush dX8_writeNet_83 (by decide) rfl
theorem dX8_writeNet_85 : decode cX8_writeNet 85 = .ok (.invokevirtual 300, 3) := by decide +kernel
theorem sX8_writeNet_85_0 : ab_X rom K cX8_writeNet 6 0 85 ls [w1, .ref a] hp = if ab_iso hp a 5 = true then (K 76 (.ref a :: [w1]) hp).bind (fun o => ab_X rom K cX8_writeNet 6 0 88 ls (o.1.toList ++ []) o.2) else none := ay_virtual (as := [w1]) (st := []) dX8_writeNet_85 kc_6_300 rfl rfl (Nat.le_of_ble_eq_true rfl)
theorem sX8_writeNet_85_1 : ab_X rom K cX8_writeNet 6 0 85 ls [w1, .ref a, v0] hp = if ab_iso hp a 5 = true then (K 76 (.ref a :: [w1]) hp).bind (fun o => ab_X rom K cX8_writeNet 6 0 88 ls (o.1.toList ++ [v0]) o.2) else none := ay_virtual (as := [w1]) (st := [v0]) dX8_writeNet_85 kc_6_300 rfl rfl (Nat.le_of_ble_eq_true rfl)
theorem sX8_writeNet_85_2 : ab_X rom K cX8_writeNet 6 0 85 ls [w1, .ref a, v0, v1] hp = if ab_iso hp a 5 = true then (K 76 (.ref a :: [w1]) hp).bind (fun o => ab_X rom K cX8_writeNet 6 0 88 ls (o.1.toList ++ [v0, v1]) o.2) else none := ay_virtual (as := [w1]) (st := [v0, v1]) dX8_writeNet_85 kc_6_300 rfl rfl (Nat.le_of_ble_eq_true rfl)
theorem sX8_writeNet_85_3 : ab_X rom K cX8_writeNet 6 0 85 ls [w1, .ref a, v0, v1, v2] hp = if ab_iso hp a 5 = true then (K 76 (.ref a :: [w1]) hp).bind (fun o => ab_X rom K cX8_writeNet 6 0 88 ls (o.1.toList ++ [v0, v1, v2]) o.2) else none := ay_virtual (as := [w1]) (st := [v0, v1, v2]) dX8_writeNet_85 kc_6_300 rfl rfl (Nat.le_of_ble_eq_true rfl)
theorem dX8_writeNet_88 : decode cX8_writeNet 88 = .ok (.aload_n 0, 1) := by decide +kernel
theorem sX8_writeNet_88 : ab_X rom K cX8_writeNet 6 0 88 (.ref a :: ls) st hp = ab_X rom K cX8_writeNet 6 0 89 (.ref a :: ls) (.ref a :: st) hp := ax_aload_n dX8_writeNet_88 rfl rfl
theorem dX8_writeNet_89 : decode cX8_writeNet 89 = .ok (.getfield 16, 3) := by decide +kernel
theorem sX8_writeNet_89 : ab_X rom K cX8_writeNet 6 0 89 ls (.ref a :: st) hp = (ab_fld hp a 6 2).bind (fun v => ab_X rom K cX8_writeNet 6 0 92 ls (v :: st) hp) := ax_getfield dX8_writeNet_89 kf_6_16 rfl
theorem dX8_writeNet_92 : decode cX8_writeNet 92 = .ok (.aload_n 1, 1) := by decide +kernel
theorem sX8_writeNet_92 : ab_X rom K cX8_writeNet 6 0 92 (v0 :: .ref a :: ls) st hp = ab_X rom K cX8_writeNet 6 0 93 (v0 :: .ref a :: ls) (.ref a :: st) hp := ax_aload_n dX8_writeNet_92 rfl rfl
theorem dX8_writeNet_93 : decode cX8_writeNet 93 = .ok (.getfield 126, 3) := by decide +kernel
theorem sX8_writeNet_93 : ab_X rom K cX8_writeNet 6 0 93 ls (.ref a :: st) hp = (ab_fld hp a 1 3).bind (fun v => ab_X rom K cX8_writeNet 6 0 96 ls (v :: st) hp) := ax_getfield dX8_writeNet_93 kf_6_126 rfl
theorem dX8_writeNet_96 : decode cX8_writeNet 96 = .ok (.iload_n 2, 1) := by decide +kernel
theorem sX8_writeNet_96 : ab_X rom K cX8_writeNet 6 0 96 (v0 :: v1 :: .int x :: ls) st hp = ab_X rom K cX8_writeNet 6 0 97 (v0 :: v1 :: .int x :: ls) (.int x :: st) hp := ax_iload_n dX8_writeNet_96 rfl rfl
theorem dX8_writeNet_97 : decode cX8_writeNet 97 = .ok (.iaload, 1) := by decide +kernel
theorem sX8_writeNet_97 : ab_X rom K cX8_writeNet 6 0 97 ls (.int x :: .ref a :: st) hp = (ab_ard rom 0 hp a x).bind (fun v => ab_X rom K cX8_writeNet 6 0 98 ls (.int v :: st) hp) := ax_iaload dX8_writeNet_97 rfl
theorem dX8_writeNet_98 : decode cX8_writeNet 98 = .ok (.invokevirtual 303, 3) := by decide +kernel
theorem sX8_writeNet_98_0 : ab_X rom K cX8_writeNet 6 0 98 ls [w1, .ref a] hp = if ab_iso hp a 5 = true then (K 78 (.ref a :: [w1]) hp).bind (fun o => ab_X rom K cX8_writeNet 6 0 101 ls (o.1.toList ++ []) o.2) else none := ay_virtual (as := [w1]) (st := []) dX8_writeNet_98 kc_6_303 rfl rfl (Nat.le_of_ble_eq_true rfl)
theorem sX8_writeNet_98_1 : ab_X rom K cX8_writeNet 6 0 98 ls [w1, .ref a, v0] hp = if ab_iso hp a 5 = true then (K 78 (.ref a :: [w1]) hp).bind (fun o => ab_X rom K cX8_writeNet 6 0 101 ls (o.1.toList ++ [v0]) o.2) else none := ay_virtual (as := [w1]) (st := [v0]) dX8_writeNet_98 kc_6_303 rfl rfl (Nat.le_of_ble_eq_true rfl)
theorem sX8_writeNet_98_2 : ab_X rom K cX8_writeNet 6 0 98 ls [w1, .ref a, v0, v1] hp = if ab_iso hp a 5 = true then (K 78 (.ref a :: [w1]) hp).bind (fun o => ab_X rom K cX8_writeNet 6 0 101 ls (o.1.toList ++ [v0, v1]) o.2) else none := ay_virtual (as := [w1]) (st := [v0, v1]) dX8_writeNet_98 kc_6_303 rfl rfl (Nat.le_of_ble_eq_true rfl)
theorem sX8_writeNet_98_3 : ab_X rom K cX8_writeNet 6 0 98 ls [w1, .ref a, v0, v1, v2] hp = if ab_iso hp a 5 = true then (K 78 (.ref a :: [w1]) hp).bind (fun o => ab_X rom K cX8_writeNet 6 0 101 ls (o.1.toList ++ [v0, v1, v2]) o.2) else none := ay_virtual (as := [w1]) (st := [v0, v1, v2]) dX8_writeNet_98 kc_6_303 rfl rfl (Nat.le_of_ble_eq_true rfl)
theorem dX8_writeNet_101 : decode cX8_writeNet 101 = .ok (.iinc 2 1, 3) := by decide +kernel
theorem sX8_writeNet_101i : ab_X rom K cX8_writeNet 6 0 101 (v0 :: .int y :: .int x :: ls) st hp = ab_X rom K cX8_writeNet 6 0 104 (v0 :: .int y :: .int (x + 1) :: ls) st hp := ax_iinc dX8_writeNet_101 rfl (ab_nl_c1 (j := 1) (v := .int y) rfl (ab_c1_int _)) (by decide) rfl rfl
theorem sX8_writeNet_101r : ab_X rom K cX8_writeNet 6 0 101 (v0 :: .ref a2 :: .int x :: ls) st hp = ab_X rom K cX8_writeNet 6 0 104 (v0 :: .ref a2 :: .int (x + 1) :: ls) st hp := ax_iinc dX8_writeNet_101 rfl (ab_nl_c1 (j := 1) (v := .ref a2) rfl (ab_c1_ref _)) (by decide) rfl rfl
theorem sX8_writeNet_101n : ab_X rom K cX8_writeNet 6 0 101 (v0 :: .null :: .int x :: ls) st hp = ab_X rom K cX8_writeNet 6 0 104 (v0 :: .null :: .int (x + 1) :: ls) st hp := ax_iinc dX8_writeNet_101 rfl (ab_nl_c1 (j := 1) (v := .null) rfl ab_c1_null) (by decide) rfl rfl
theorem dX8_writeNet_104 : decode cX8_writeNet 104 = .ok (.goto (-64), 3) := by decide +kernel
theorem sX8_writeNet_104 : ab_X rom K cX8_writeNet 6 0 104 ls st hp = ab_X rom K cX8_writeNet 6 0 40 ls st hp := ax_goto dX8_writeNet_104 (by decide)
theorem dX8_writeNet_107 : decode cX8_writeNet 107 = .ok (.aload_n 0, 1) := by decide +kernel
theorem sX8_writeNet_107 : ab_X rom K cX8_writeNet 6 0 107 (.ref a :: ls) st hp = ab_X rom K cX8_writeNet 6 0 108 (.ref a :: ls) (.ref a :: st) hp := ax_aload_n dX8_writeNet_107 rfl rfl
theorem dX8_writeNet_108 : decode cX8_writeNet 108 = .ok (.getfield 16, 3) := by decide +kernel
theorem sX8_writeNet_108 : ab_X rom K cX8_writeNet 6 0 108 ls (.ref a :: st) hp = (ab_fld hp a 6 2).bind (fun v => ab_X rom K cX8_writeNet 6 0 111 ls (v :: st) hp) := ax_getfield dX8_writeNet_108 kf_6_16 rfl
theorem dX8_writeNet_111 : decode cX8_writeNet 111 = .ok (.bipush 59, 2) := by decide +kernel
theorem sX8_writeNet_111 : ab_X rom K cX8_writeNet 6 0 111 ls st hp = ab_X rom K cX8_writeNet 6 0 113 ls (.int 59 :: st) hp := ax_bipush dX8_writeNet_111 (by decide) rfl
theorem dX8_writeNet_113 : decode cX8_writeNet 113 = .ok (.invokevirtual 300, 3) := by decide +kernel
theorem sX8_writeNet_113_0 : ab_X rom K cX8_writeNet 6 0 113 ls [w1, .ref a] hp = if ab_iso hp a 5 = true then (K 76 (.ref a :: [w1]) hp).bind (fun o => ab_X rom K cX8_writeNet 6 0 116 ls (o.1.toList ++ []) o.2) else none := ay_virtual (as := [w1]) (st := []) dX8_writeNet_113 kc_6_300 rfl rfl (Nat.le_of_ble_eq_true rfl)
theorem sX8_writeNet_113_1 : ab_X rom K cX8_writeNet 6 0 113 ls [w1, .ref a, v0] hp = if ab_iso hp a 5 = true then (K 76 (.ref a :: [w1]) hp).bind (fun o => ab_X rom K cX8_writeNet 6 0 116 ls (o.1.toList ++ [v0]) o.2) else none := ay_virtual (as := [w1]) (st := [v0]) dX8_writeNet_113 kc_6_300 rfl rfl (Nat.le_of_ble_eq_true rfl)
theorem sX8_writeNet_113_2 : ab_X rom K cX8_writeNet 6 0 113 ls [w1, .ref a, v0, v1] hp = if ab_iso hp a 5 = true then (K 76 (.ref a :: [w1]) hp).bind (fun o => ab_X rom K cX8_writeNet 6 0 116 ls (o.1.toList ++ [v0, v1]) o.2) else none := ay_virtual (as := [w1]) (st := [v0, v1]) dX8_writeNet_113 kc_6_300 rfl rfl (Nat.le_of_ble_eq_true rfl)
theorem sX8_writeNet_113_3 : ab_X rom K cX8_writeNet 6 0 113 ls [w1, .ref a, v0, v1, v2] hp = if ab_iso hp a 5 = true then (K 76 (.ref a :: [w1]) hp).bind (fun o => ab_X rom K cX8_writeNet 6 0 116 ls (o.1.toList ++ [v0, v1, v2]) o.2) else none := ay_virtual (as := [w1]) (st := [v0, v1, v2]) dX8_writeNet_113 kc_6_300 rfl rfl (Nat.le_of_ble_eq_true rfl)
theorem dX8_writeNet_116 : decode cX8_writeNet 116 = .ok (.return_, 1) := by decide +kernel
theorem sX8_writeNet_116 : ab_X rom K cX8_writeNet 6 0 116 ls [] hp = some (none, hp) := ax_vret dX8_writeNet_116 (by decide)
end
