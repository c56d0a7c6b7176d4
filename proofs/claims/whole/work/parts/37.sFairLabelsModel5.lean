/-! FairLabelsModel: its methods step by step (printed by wip/whole/gen_steps.py) -/
section
variable {rom : List (List Int32)} {K : Nat → List Value → ab_H → Option ab_O} {ls st : List Value} {hp : ab_H} {x y z : Int32} {a a2 : Nat} {sp dp : Int32} {u w : Int64} {v0 v1 v2 v3 v4 v5 v6 v7 v8 v9 v10 v11 v12 v13 v14 v15 w1 w2 w3 w4 w5 w6 : Value}
theorem tX9_sets : ab_mT[223]? = some (yX9_sets, cX9_sets, 5, 1, 7) := by decide +kernel
theorem mX9_sets {d : Nat} {a0 : Nat} {x0 : Int32} {x1 : Int32} {x2 : Int32} : ab_M rom (d + 1) 223 [.ref a0, .int x0, .int x1, .int x2] hp = ab_X rom (ab_M rom d) cX9_sets 7 1 0 [.ref a0, .int x0, .int x1, .int x2, .null] [] hp := ab_M_eq tX9_sets (Nat.le_of_ble_eq_true rfl)
theorem dX9_sets_0 : decode cX9_sets 0 = .ok (.aload_n 0, 1) := by decide +kernel
theorem sX9_sets_0 : ab_X rom K cX9_sets 7 1 0 (.ref a :: ls) st hp = ab_X rom K cX9_sets 7 1 1 (.ref a :: ls) (.ref a :: st) hp := ax_aload_n dX9_sets_0 rfl rfl
theorem dX9_sets_1 : decode cX9_sets 1 = .ok (.iload_n 1, 1) := by decide +kernel
theorem sX9_sets_1 : ab_X rom K cX9_sets 7 1 1 (v0 :: .int x :: ls) st hp = ab_X rom K cX9_sets 7 1 2 (v0 :: .int x :: ls) (.int x :: st) hp := ax_iload_n dX9_sets_1 rfl rfl
theorem dX9_sets_2 : decode cX9_sets 2 = .ok (.iload_n 2, 1) := by decide +kernel
theorem sX9_sets_2 : ab_X rom K cX9_sets 7 1 2 (v0 :: v1 :: .int x :: ls) st hp = ab_X rom K cX9_sets 7 1 3 (v0 :: v1 :: .int x :: ls) (.int x :: st) hp := ax_iload_n dX9_sets_2 rfl rfl
theorem dX9_sets_3 : decode cX9_sets 3 = .ok (.invokevirtual 216, 3) := by decide +kernel
theorem sX9_sets_3_0 : ab_X rom K cX9_sets 7 1 3 ls [w2, w1, .ref a] hp = if ab_iso hp a 7 = true then (K 173 (.ref a :: [w1, w2]) hp).bind (fun o => ab_X rom K cX9_sets 7 1 6 ls (o.1.toList ++ []) o.2) else none := ay_virtual (as := [w1, w2]) (st := []) dX9_sets_3 kc_7_216 rfl rfl (Nat.le_of_ble_eq_true rfl)
theorem sX9_sets_3_1 : ab_X rom K cX9_sets 7 1 3 ls [w2, w1, .ref a, v0] hp = if ab_iso hp a 7 = true then (K 173 (.ref a :: [w1, w2]) hp).bind (fun o => ab_X rom K cX9_sets 7 1 6 ls (o.1.toList ++ [v0]) o.2) else none := ay_virtual (as := [w1, w2]) (st := [v0]) dX9_sets_3 kc_7_216 rfl rfl (Nat.le_of_ble_eq_true rfl)
theorem sX9_sets_3_2 : ab_X rom K cX9_sets 7 1 3 ls [w2, w1, .ref a, v0, v1] hp = if ab_iso hp a 7 = true then (K 173 (.ref a :: [w1, w2]) hp).bind (fun o => ab_X rom K cX9_sets 7 1 6 ls (o.1.toList ++ [v0, v1]) o.2) else none := ay_virtual (as := [w1, w2]) (st := [v0, v1]) dX9_sets_3 kc_7_216 rfl rfl (Nat.le_of_ble_eq_true rfl)
theorem sX9_sets_3_3 : ab_X rom K cX9_sets 7 1 3 ls [w2, w1, .ref a, v0, v1, v2] hp = if ab_iso hp a 7 = true then (K 173 (.ref a :: [w1, w2]) hp).bind (fun o => ab_X rom K cX9_sets 7 1 6 ls (o.1.toList ++ [v0, v1, v2]) o.2) else none := ay_virtual (as := [w1, w2]) (st := [v0, v1, v2]) dX9_sets_3 kc_7_216 rfl rfl (Nat.le_of_ble_eq_true rfl)
theorem dX9_sets_6 : decode cX9_sets 6 = .ok (.ifCond .eq 17, 3) := by decide +kernel
theorem sX9_sets_6 : ab_X rom K cX9_sets 7 1 6 ls (.int x :: st) hp = if x = 0 then ab_X rom K cX9_sets 7 1 23 ls st hp else ab_X rom K cX9_sets 7 1 9 ls st hp := ax_if_eq dX9_sets_6 (by decide) rfl
theorem dX9_sets_9 : decode cX9_sets 9 = .ok (.iload_n 3, 1) := by decide +kernel
theorem sX9_sets_9 : ab_X rom K cX9_sets 7 1 9 (v0 :: v1 :: v2 :: .int x :: ls) st hp = ab_X rom K cX9_sets 7 1 10 (v0 :: v1 :: v2 :: .int x :: ls) (.int x :: st) hp := ax_iload_n dX9_sets_9 rfl rfl
theorem dX9_sets_10 : decode cX9_sets 10 = .ok (.i2l, 1) := by decide +kernel
theorem sX9_sets_10 : ab_X rom K cX9_sets 7 1 10 ls (.int x :: st) hp = ab_X rom K cX9_sets 7 1 11 ls (.long x.toInt64 :: st) hp := ax_i2l dX9_sets_10 rfl
theorem dX9_sets_11 : decode cX9_sets 11 = .ok (.ldc2_w 219, 3) := by decide +kernel
theorem sX9_sets_11 : ab_X rom K cX9_sets 7 1 11 ls st hp = ab_X rom K cX9_sets 7 1 14 ls (.long (-1) :: st) hp := ax_ldc2 dX9_sets_11 kl_7_219 rfl
theorem dX9_sets_14 : decode cX9_sets 14 = .ok (.ldc2_w 221, 3) := by decide +kernel
theorem sX9_sets_14 : ab_X rom K cX9_sets 7 1 14 ls st hp = ab_X rom K cX9_sets 7 1 17 ls (.long 99 :: st) hp := ax_ldc2 dX9_sets_14 kl_7_221 rfl
theorem dX9_sets_17 : decode cX9_sets 17 = .ok (.invokestatic 56, 3) := by decide +kernel
theorem sX9_sets_17_0 : ab_X rom K cX9_sets 7 1 17 ls [w3, w2, w1] hp = (K 159 [w1, w2, w3] hp).bind (fun o => ab_X rom K cX9_sets 7 1 20 ls (o.1.toList ++ []) o.2) := ax_static (as := [w1, w2, w3]) (st := []) dX9_sets_17 kc_7_56 rfl rfl (Nat.le_of_ble_eq_true rfl)
theorem sX9_sets_17_1 : ab_X rom K cX9_sets 7 1 17 ls [w3, w2, w1, v0] hp = (K 159 [w1, w2, w3] hp).bind (fun o => ab_X rom K cX9_sets 7 1 20 ls (o.1.toList ++ [v0]) o.2) := ax_static (as := [w1, w2, w3]) (st := [v0]) dX9_sets_17 kc_7_56 rfl rfl (Nat.le_of_ble_eq_true rfl)
theorem sX9_sets_17_2 : ab_X rom K cX9_sets 7 1 17 ls [w3, w2, w1, v0, v1] hp = (K 159 [w1, w2, w3] hp).bind (fun o => ab_X rom K cX9_sets 7 1 20 ls (o.1.toList ++ [v0, v1]) o.2) := ax_static (as := [w1, w2, w3]) (st := [v0, v1]) dX9_sets_17 kc_7_56 rfl rfl (Nat.le_of_ble_eq_true rfl)
theorem sX9_sets_17_3 : ab_X rom K cX9_sets 7 1 17 ls [w3, w2, w1, v0, v1, v2] hp = (K 159 [w1, w2, w3] hp).bind (fun o => ab_X rom K cX9_sets 7 1 20 ls (o.1.toList ++ [v0, v1, v2]) o.2) := ax_static (as := [w1, w2, w3]) (st := [v0, v1, v2]) dX9_sets_17 kc_7_56 rfl rfl (Nat.le_of_ble_eq_true rfl)
theorem dX9_sets_20 : decode cX9_sets 20 = .ok (.ifCond .ne 6, 3) := by decide +kernel
theorem sX9_sets_20 : ab_X rom K cX9_sets 7 1 20 ls (.int x :: st) hp = if x = 0 then ab_X rom K cX9_sets 7 1 23 ls st hp else ab_X rom K cX9_sets 7 1 26 ls st hp := ax_if_ne dX9_sets_20 (by decide) rfl
theorem dX9_sets_23 : decode cX9_sets 23 = .ok (.bipush (-2), 2) := by decide +kernel
theorem sX9_sets_23 : ab_X rom K cX9_sets 7 1 23 ls st hp = ab_X rom K cX9_sets 7 1 25 ls (.int (-2) :: st) hp := ax_bipush dX9_sets_23 (by decide) rfl
theorem dX9_sets_25 : decode cX9_sets 25 = .ok (.ireturn, 1) := by decide +kernel
theorem sX9_sets_25 : ab_X rom K cX9_sets 7 1 25 ls [.int x] hp = some (some (.int x), hp) := ax_iret dX9_sets_25 rfl
theorem dX9_sets_26 : decode cX9_sets 26 = .ok (.aload_n 0, 1) := by decide +kernel
theorem sX9_sets_26 : ab_X rom K cX9_sets 7 1 26 (.ref a :: ls) st hp = ab_X rom K cX9_sets 7 1 27 (.ref a :: ls) (.ref a :: st) hp := ax_aload_n dX9_sets_26 rfl rfl
theorem dX9_sets_27 : decode cX9_sets 27 = .ok (.iload_n 1, 1) := by decide +kernel
theorem sX9_sets_27 : ab_X rom K cX9_sets 7 1 27 (v0 :: .int x :: ls) st hp = ab_X rom K cX9_sets 7 1 28 (v0 :: .int x :: ls) (.int x :: st) hp := ax_iload_n dX9_sets_27 rfl rfl
theorem dX9_sets_28 : decode cX9_sets 28 = .ok (.iload_n 2, 1) := by decide +kernel
theorem sX9_sets_28 : ab_X rom K cX9_sets 7 1 28 (v0 :: v1 :: .int x :: ls) st hp = ab_X rom K cX9_sets 7 1 29 (v0 :: v1 :: .int x :: ls) (.int x :: st) hp := ax_iload_n dX9_sets_28 rfl rfl
theorem dX9_sets_29 : decode cX9_sets 29 = .ok (.invokevirtual 168, 3) := by decide +kernel
theorem sX9_sets_29_0 : ab_X rom K cX9_sets 7 1 29 ls [w2, w1, .ref a] hp = if ab_iso hp a 7 = true then (K 183 (.ref a :: [w1, w2]) hp).bind (fun o => ab_X rom K cX9_sets 7 1 32 ls (o.1.toList ++ []) o.2) else none := ay_virtual (as := [w1, w2]) (st := []) dX9_sets_29 kc_7_168 rfl rfl (Nat.le_of_ble_eq_true rfl)
theorem sX9_sets_29_1 : ab_X rom K cX9_sets 7 1 29 ls [w2, w1, .ref a, v0] hp = if ab_iso hp a 7 = true then (K 183 (.ref a :: [w1, w2]) hp).bind (fun o => ab_X rom K cX9_sets 7 1 32 ls (o.1.toList ++ [v0]) o.2) else none := ay_virtual (as := [w1, w2]) (st := [v0]) dX9_sets_29 kc_7_168 rfl rfl (Nat.le_of_ble_eq_true rfl)
theorem sX9_sets_29_2 : ab_X rom K cX9_sets 7 1 29 ls [w2, w1, .ref a, v0, v1] hp = if ab_iso hp a 7 = true then (K 183 (.ref a :: [w1, w2]) hp).bind (fun o => ab_X rom K cX9_sets 7 1 32 ls (o.1.toList ++ [v0, v1]) o.2) else none := ay_virtual (as := [w1, w2]) (st := [v0, v1]) dX9_sets_29 kc_7_168 rfl rfl (Nat.le_of_ble_eq_true rfl)
theorem sX9_sets_29_3 : ab_X rom K cX9_sets 7 1 29 ls [w2, w1, .ref a, v0, v1, v2] hp = if ab_iso hp a 7 = true then (K 183 (.ref a :: [w1, w2]) hp).bind (fun o => ab_X rom K cX9_sets 7 1 32 ls (o.1.toList ++ [v0, v1, v2]) o.2) else none := ay_virtual (as := [w1, w2]) (st := [v0, v1, v2]) dX9_sets_29 kc_7_168 rfl rfl (Nat.le_of_ble_eq_true rfl)
theorem dX9_sets_32 : decode cX9_sets 32 = .ok (.istore 4, 2) := by decide +kernel
theorem sX9_sets_32i : ab_X rom K cX9_sets 7 1 32 (v0 :: v1 :: v2 :: .int y :: v4 :: ls) (.int x :: st) hp = ab_X rom K cX9_sets 7 1 34 (v0 :: v1 :: v2 :: .int y :: .int x :: ls) st hp := ax_istore dX9_sets_32 (ax_lt (v := v4) rfl) (ab_nl_c1 (j := 3) (v := .int y) rfl (ab_c1_int _)) rfl rfl
theorem sX9_sets_32r : ab_X rom K cX9_sets 7 1 32 (v0 :: v1 :: v2 :: .ref a2 :: v4 :: ls) (.int x :: st) hp = ab_X rom K cX9_sets 7 1 34 (v0 :: v1 :: v2 :: .ref a2 :: .int x :: ls) st hp := ax_istore dX9_sets_32 (ax_lt (v := v4) rfl) (ab_nl_c1 (j := 3) (v := .ref a2) rfl (ab_c1_ref _)) rfl rfl
theorem sX9_sets_32n : ab_X rom K cX9_sets 7 1 32 (v0 :: v1 :: v2 :: .null :: v4 :: ls) (.int x :: st) hp = ab_X rom K cX9_sets 7 1 34 (v0 :: v1 :: v2 :: .null :: .int x :: ls) st hp := ax_istore dX9_sets_32 (ax_lt (v := v4) rfl) (ab_nl_c1 (j := 3) (v := .null) rfl ab_c1_null) rfl rfl
theorem dX9_sets_34 : decode cX9_sets 34 = .ok (.iload 4, 2) := by decide +kernel
theorem sX9_sets_34 : ab_X rom K cX9_sets 7 1 34 (v0 :: v1 :: v2 :: v3 :: .int x :: ls) st hp = ab_X rom K cX9_sets 7 1 36 (v0 :: v1 :: v2 :: v3 :: .int x :: ls) (.int x :: st) hp := ax_iload dX9_sets_34 rfl rfl
theorem dX9_sets_36 : decode cX9_sets 36 = .ok (.iload_n 3, 1) := by decide +kernel
theorem sX9_sets_36 : ab_X rom K cX9_sets 7 1 36 (v0 :: v1 :: v2 :: .int x :: ls) st hp = ab_X rom K cX9_sets 7 1 37 (v0 :: v1 :: v2 :: .int x :: ls) (.int x :: st) hp := ax_iload_n dX9_sets_36 rfl rfl
theorem dX9_sets_37 : decode cX9_sets 37 = .ok (.if_icmp .eq 29, 3) := by decide +kernel
theorem sX9_sets_37 : ab_X rom K cX9_sets 7 1 37 ls (.int y :: .int x :: st) hp = if x = y then ab_X rom K cX9_sets 7 1 66 ls st hp else ab_X rom K cX9_sets 7 1 40 ls st hp := ax_icmp_eq dX9_sets_37 (by decide) rfl
theorem dX9_sets_40 : decode cX9_sets 40 = .ok (.aload_n 0, 1) := by decide +kernel
theorem sX9_sets_40 : ab_X rom K cX9_sets 7 1 40 (.ref a :: ls) st hp = ab_X rom K cX9_sets 7 1 41 (.ref a :: ls) (.ref a :: st) hp := ax_aload_n dX9_sets_40 rfl rfl
theorem dX9_sets_41 : decode cX9_sets 41 = .ok (.invokevirtual 87, 3) := by decide +kernel
theorem sX9_sets_41_0 : ab_X rom K cX9_sets 7 1 41 ls [.ref a] hp = if ab_iso hp a 7 = true then (K 214 (.ref a :: []) hp).bind (fun o => ab_X rom K cX9_sets 7 1 44 ls (o.1.toList ++ []) o.2) else none := ay_virtual (as := []) (st := []) dX9_sets_41 kc_7_87 rfl rfl (Nat.le_of_ble_eq_true rfl)
theorem sX9_sets_41_1 : ab_X rom K cX9_sets 7 1 41 ls [.ref a, v0] hp = if ab_iso hp a 7 = true then (K 214 (.ref a :: []) hp).bind (fun o => ab_X rom K cX9_sets 7 1 44 ls (o.1.toList ++ [v0]) o.2) else none := ay_virtual (as := []) (st := [v0]) dX9_sets_41 kc_7_87 rfl rfl (Nat.le_of_ble_eq_true rfl)
theorem sX9_sets_41_2 : ab_X rom K cX9_sets 7 1 41 ls [.ref a, v0, v1] hp = if ab_iso hp a 7 = true then (K 214 (.ref a :: []) hp).bind (fun o => ab_X rom K cX9_sets 7 1 44 ls (o.1.toList ++ [v0, v1]) o.2) else none := ay_virtual (as := []) (st := [v0, v1]) dX9_sets_41 kc_7_87 rfl rfl (Nat.le_of_ble_eq_true rfl)
theorem sX9_sets_41_3 : ab_X rom K cX9_sets 7 1 41 ls [.ref a, v0, v1, v2] hp = if ab_iso hp a 7 = true then (K 214 (.ref a :: []) hp).bind (fun o => ab_X rom K cX9_sets 7 1 44 ls (o.1.toList ++ [v0, v1, v2]) o.2) else none := ay_virtual (as := []) (st := [v0, v1, v2]) dX9_sets_41 kc_7_87 rfl rfl (Nat.le_of_ble_eq_true rfl)
theorem dX9_sets_44 : decode cX9_sets 44 = .ok (.aload_n 0, 1) := by decide +kernel
theorem sX9_sets_44 : ab_X rom K cX9_sets 7 1 44 (.ref a :: ls) st hp = ab_X rom K cX9_sets 7 1 45 (.ref a :: ls) (.ref a :: st) hp := ax_aload_n dX9_sets_44 rfl rfl
theorem dX9_sets_45 : decode cX9_sets 45 = .ok (.getfield 7, 3) := by decide +kernel
theorem sX9_sets_45 : ab_X rom K cX9_sets 7 1 45 ls (.ref a :: st) hp = (ab_fld hp a 7 0).bind (fun v => ab_X rom K cX9_sets 7 1 48 ls (v :: st) hp) := ax_getfield dX9_sets_45 kf_7_7 rfl
theorem dX9_sets_48 : decode cX9_sets 48 = .ok (.bipush 15, 2) := by decide +kernel
theorem sX9_sets_48 : ab_X rom K cX9_sets 7 1 48 ls st hp = ab_X rom K cX9_sets 7 1 50 ls (.int 15 :: st) hp := ax_bipush dX9_sets_48 (by decide) rfl
theorem dX9_sets_50 : decode cX9_sets 50 = .ok (.iload_n 1, 1) := by decide +kernel
theorem sX9_sets_50 : ab_X rom K cX9_sets 7 1 50 (v0 :: .int x :: ls) st hp = ab_X rom K cX9_sets 7 1 51 (v0 :: .int x :: ls) (.int x :: st) hp := ax_iload_n dX9_sets_50 rfl rfl
theorem dX9_sets_51 : decode cX9_sets 51 = .ok (.imul, 1) := by decide +kernel
theorem sX9_sets_51 : ab_X rom K cX9_sets 7 1 51 ls (.int y :: .int x :: st) hp = ab_X rom K cX9_sets 7 1 52 ls (.int (x * y) :: st) hp := ax_imul dX9_sets_51 rfl
theorem dX9_sets_52 : decode cX9_sets 52 = .ok (.bipush 8, 2) := by decide +kernel
theorem sX9_sets_52 : ab_X rom K cX9_sets 7 1 52 ls st hp = ab_X rom K cX9_sets 7 1 54 ls (.int 8 :: st) hp := ax_bipush dX9_sets_52 (by decide) rfl
theorem dX9_sets_54 : decode cX9_sets 54 = .ok (.iadd, 1) := by decide +kernel
theorem sX9_sets_54 : ab_X rom K cX9_sets 7 1 54 ls (.int y :: .int x :: st) hp = ab_X rom K cX9_sets 7 1 55 ls (.int (x + y) :: st) hp := ax_iadd dX9_sets_54 rfl
theorem dX9_sets_55 : decode cX9_sets 55 = .ok (.iload_n 2, 1) := by decide +kernel
theorem sX9_sets_55 : ab_X rom K cX9_sets 7 1 55 (v0 :: v1 :: .int x :: ls) st hp = ab_X rom K cX9_sets 7 1 56 (v0 :: v1 :: .int x :: ls) (.int x :: st) hp := ax_iload_n dX9_sets_55 rfl rfl
theorem dX9_sets_56 : decode cX9_sets 56 = .ok (.iadd, 1) := by decide +kernel
theorem sX9_sets_56 : ab_X rom K cX9_sets 7 1 56 ls (.int y :: .int x :: st) hp = ab_X rom K cX9_sets 7 1 57 ls (.int (x + y) :: st) hp := ax_iadd dX9_sets_56 rfl
theorem dX9_sets_57 : decode cX9_sets 57 = .ok (.iload_n 3, 1) := by decide +kernel
theorem sX9_sets_57 : ab_X rom K cX9_sets 7 1 57 (v0 :: v1 :: v2 :: .int x :: ls) st hp = ab_X rom K cX9_sets 7 1 58 (v0 :: v1 :: v2 :: .int x :: ls) (.int x :: st) hp := ax_iload_n dX9_sets_57 rfl rfl
theorem dX9_sets_58 : decode cX9_sets 58 = .ok (.iastore, 1) := by decide +kernel
theorem sX9_sets_58 : ab_X rom K cX9_sets 7 1 58 ls (.int y :: .int x :: .ref a :: st) hp = (ab_awr 0 hp a x y).bind (fun hp' => ab_X rom K cX9_sets 7 1 59 ls st hp') := ax_iastore dX9_sets_58 rfl
theorem dX9_sets_59 : decode cX9_sets 59 = .ok (.aload_n 0, 1) := by decide +kernel
theorem sX9_sets_59 : ab_X rom K cX9_sets 7 1 59 (.ref a :: ls) st hp = ab_X rom K cX9_sets 7 1 60 (.ref a :: ls) (.ref a :: st) hp := ax_aload_n dX9_sets_59 rfl rfl
theorem dX9_sets_60 : decode cX9_sets 60 = .ok (.iload 4, 2) := by decide +kernel
theorem sX9_sets_60 : ab_X rom K cX9_sets 7 1 60 (v0 :: v1 :: v2 :: v3 :: .int x :: ls) st hp = ab_X rom K cX9_sets 7 1 62 (v0 :: v1 :: v2 :: v3 :: .int x :: ls) (.int x :: st) hp := ax_iload dX9_sets_60 rfl rfl
theorem dX9_sets_62 : decode cX9_sets 62 = .ok (.invokevirtual 94, 3) := by decide +kernel
theorem sX9_sets_62_0 : ab_X rom K cX9_sets 7 1 62 ls [w1, .ref a] hp = if ab_iso hp a 7 = true then (K 144 (.ref a :: [w1]) hp).bind (fun o => ab_X rom K cX9_sets 7 1 65 ls (o.1.toList ++ []) o.2) else none := ay_virtual (as := [w1]) (st := []) dX9_sets_62 kc_7_94 rfl rfl (Nat.le_of_ble_eq_true rfl)
theorem sX9_sets_62_1 : ab_X rom K cX9_sets 7 1 62 ls [w1, .ref a, v0] hp = if ab_iso hp a 7 = true then (K 144 (.ref a :: [w1]) hp).bind (fun o => ab_X rom K cX9_sets 7 1 65 ls (o.1.toList ++ [v0]) o.2) else none := ay_virtual (as := [w1]) (st := [v0]) dX9_sets_62 kc_7_94 rfl rfl (Nat.le_of_ble_eq_true rfl)
theorem sX9_sets_62_2 : ab_X rom K cX9_sets 7 1 62 ls [w1, .ref a, v0, v1] hp = if ab_iso hp a 7 = true then (K 144 (.ref a :: [w1]) hp).bind (fun o => ab_X rom K cX9_sets 7 1 65 ls (o.1.toList ++ [v0, v1]) o.2) else none := ay_virtual (as := [w1]) (st := [v0, v1]) dX9_sets_62 kc_7_94 rfl rfl (Nat.le_of_ble_eq_true rfl)
theorem sX9_sets_62_3 : ab_X rom K cX9_sets 7 1 62 ls [w1, .ref a, v0, v1, v2] hp = if ab_iso hp a 7 = true then (K 144 (.ref a :: [w1]) hp).bind (fun o => ab_X rom K cX9_sets 7 1 65 ls (o.1.toList ++ [v0, v1, v2]) o.2) else none := ay_virtual (as := [w1]) (st := [v0, v1, v2]) dX9_sets_62 kc_7_94 rfl rfl (Nat.le_of_ble_eq_true rfl)
theorem dX9_sets_65 : decode cX9_sets 65 = .ok (.ireturn, 1) := by decide +kernel
theorem sX9_sets_65 : ab_X rom K cX9_sets 7 1 65 ls [.int x] hp = some (some (.int x), hp) := ax_iret dX9_sets_65 rfl
theorem dX9_sets_66 : decode cX9_sets 66 = .ok (.iload 4, 2) := by decide +kernel
theorem sX9_sets_66 : ab_X rom K cX9_sets 7 1 66 (v0 :: v1 :: v2 :: v3 :: .int x :: ls) st hp = ab_X rom K cX9_sets 7 1 68 (v0 :: v1 :: v2 :: v3 :: .int x :: ls) (.int x :: st) hp := ax_iload dX9_sets_66 rfl rfl
theorem dX9_sets_68 : decode cX9_sets 68 = .ok (.ireturn, 1) := by decide +kernel
theorem sX9_sets_68 : ab_X rom K cX9_sets 7 1 68 ls [.int x] hp = some (some (.int x), hp) := ax_iret dX9_sets_68 rfl
theorem tX9_span : ab_mT[224]? = some (yX9_span, cX9_span, 3, 1, 7) := by decide +kernel
theorem mX9_span {d : Nat} {a0 : Nat} {x0 : Int32} : ab_M rom (d + 1) 224 [.ref a0, .int x0] hp = ab_X rom (ab_M rom d) cX9_span 7 1 0 [.ref a0, .int x0, .null] [] hp := ab_M_eq tX9_span (Nat.le_of_ble_eq_true rfl)
theorem dX9_span_0 : decode cX9_span 0 = .ok (.aload_n 0, 1) := by decide +kernel
theorem sX9_span_0 : ab_X rom K cX9_span 7 1 0 (.ref a :: ls) st hp = ab_X rom K cX9_span 7 1 1 (.ref a :: ls) (.ref a :: st) hp := ax_aload_n dX9_span_0 rfl rfl
theorem dX9_span_1 : decode cX9_span 1 = .ok (.iload_n 1, 1) := by decide +kernel
theorem sX9_span_1 : ab_X rom K cX9_span 7 1 1 (v0 :: .int x :: ls) st hp = ab_X rom K cX9_span 7 1 2 (v0 :: .int x :: ls) (.int x :: st) hp := ax_iload_n dX9_span_1 rfl rfl
theorem dX9_span_2 : decode cX9_span 2 = .ok (.invokevirtual 68, 3) := by decide +kernel
theorem sX9_span_2_0 : ab_X rom K cX9_span 7 1 2 ls [w1, .ref a] hp = if ab_iso hp a 7 = true then (K 171 (.ref a :: [w1]) hp).bind (fun o => ab_X rom K cX9_span 7 1 5 ls (o.1.toList ++ []) o.2) else none := ay_virtual (as := [w1]) (st := []) dX9_span_2 kc_7_68 rfl rfl (Nat.le_of_ble_eq_true rfl)
theorem sX9_span_2_1 : ab_X rom K cX9_span 7 1 2 ls [w1, .ref a, v0] hp = if ab_iso hp a 7 = true then (K 171 (.ref a :: [w1]) hp).bind (fun o => ab_X rom K cX9_span 7 1 5 ls (o.1.toList ++ [v0]) o.2) else none := ay_virtual (as := [w1]) (st := [v0]) dX9_span_2 kc_7_68 rfl rfl (Nat.le_of_ble_eq_true rfl)
theorem sX9_span_2_2 : ab_X rom K cX9_span 7 1 2 ls [w1, .ref a, v0, v1] hp = if ab_iso hp a 7 = true then (K 171 (.ref a :: [w1]) hp).bind (fun o => ab_X rom K cX9_span 7 1 5 ls (o.1.toList ++ [v0, v1]) o.2) else none := ay_virtual (as := [w1]) (st := [v0, v1]) dX9_span_2 kc_7_68 rfl rfl (Nat.le_of_ble_eq_true rfl)
theorem sX9_span_2_3 : ab_X rom K cX9_span 7 1 2 ls [w1, .ref a, v0, v1, v2] hp = if ab_iso hp a 7 = true then (K 171 (.ref a :: [w1]) hp).bind (fun o => ab_X rom K cX9_span 7 1 5 ls (o.1.toList ++ [v0, v1, v2]) o.2) else none := ay_virtual (as := [w1]) (st := [v0, v1, v2]) dX9_span_2 kc_7_68 rfl rfl (Nat.le_of_ble_eq_true rfl)
theorem dX9_span_5 : decode cX9_span 5 = .ok (.ifCond .ne 6, 3) := by decide +kernel
theorem sX9_span_5 : ab_X rom K cX9_span 7 1 5 ls (.int x :: st) hp = if x = 0 then ab_X rom K cX9_span 7 1 8 ls st hp else ab_X rom K cX9_span 7 1 11 ls st hp := ax_if_ne dX9_span_5 (by decide) rfl
theorem dX9_span_8 : decode cX9_span 8 = .ok (.bipush (-2), 2) := by decide +kernel
theorem sX9_span_8 : ab_X rom K cX9_span 7 1 8 ls st hp = ab_X rom K cX9_span 7 1 10 ls (.int (-2) :: st) hp := ax_bipush dX9_span_8 (by decide) rfl
theorem dX9_span_10 : decode cX9_span 10 = .ok (.ireturn, 1) := by decide +kernel
theorem sX9_span_10 : ab_X rom K cX9_span 7 1 10 ls [.int x] hp = some (some (.int x), hp) := ax_iret dX9_span_10 rfl
theorem dX9_span_11 : decode cX9_span 11 = .ok (.aload_n 0, 1) := by decide +kernel
theorem sX9_span_11 : ab_X rom K cX9_span 7 1 11 (.ref a :: ls) st hp = ab_X rom K cX9_span 7 1 12 (.ref a :: ls) (.ref a :: st) hp := ax_aload_n dX9_span_11 rfl rfl
theorem dX9_span_12 : decode cX9_span 12 = .ok (.iload_n 1, 1) := by decide +kernel
theorem sX9_span_12 : ab_X rom K cX9_span 7 1 12 (v0 :: .int x :: ls) st hp = ab_X rom K cX9_span 7 1 13 (v0 :: .int x :: ls) (.int x :: st) hp := ax_iload_n dX9_span_12 rfl rfl
theorem dX9_span_13 : decode cX9_span 13 = .ok (.invokevirtual 269, 3) := by decide +kernel
theorem sX9_span_13_0 : ab_X rom K cX9_span 7 1 13 ls [w1, .ref a] hp = if ab_iso hp a 7 = true then (K 186 (.ref a :: [w1]) hp).bind (fun o => ab_X rom K cX9_span 7 1 16 ls (o.1.toList ++ []) o.2) else none := ay_virtual (as := [w1]) (st := []) dX9_span_13 kc_7_269 rfl rfl (Nat.le_of_ble_eq_true rfl)
theorem sX9_span_13_1 : ab_X rom K cX9_span 7 1 13 ls [w1, .ref a, v0] hp = if ab_iso hp a 7 = true then (K 186 (.ref a :: [w1]) hp).bind (fun o => ab_X rom K cX9_span 7 1 16 ls (o.1.toList ++ [v0]) o.2) else none := ay_virtual (as := [w1]) (st := [v0]) dX9_span_13 kc_7_269 rfl rfl (Nat.le_of_ble_eq_true rfl)
theorem sX9_span_13_2 : ab_X rom K cX9_span 7 1 13 ls [w1, .ref a, v0, v1] hp = if ab_iso hp a 7 = true then (K 186 (.ref a :: [w1]) hp).bind (fun o => ab_X rom K cX9_span 7 1 16 ls (o.1.toList ++ [v0, v1]) o.2) else none := ay_virtual (as := [w1]) (st := [v0, v1]) dX9_span_13 kc_7_269 rfl rfl (Nat.le_of_ble_eq_true rfl)
theorem sX9_span_13_3 : ab_X rom K cX9_span 7 1 13 ls [w1, .ref a, v0, v1, v2] hp = if ab_iso hp a 7 = true then (K 186 (.ref a :: [w1]) hp).bind (fun o => ab_X rom K cX9_span 7 1 16 ls (o.1.toList ++ [v0, v1, v2]) o.2) else none := ay_virtual (as := [w1]) (st := [v0, v1, v2]) dX9_span_13 kc_7_269 rfl rfl (Nat.le_of_ble_eq_true rfl)
theorem dX9_span_16 : decode cX9_span 16 = .ok (.aload_n 0, 1) := by decide +kernel
theorem sX9_span_16 : ab_X rom K cX9_span 7 1 16 (.ref a :: ls) st hp = ab_X rom K cX9_span 7 1 17 (.ref a :: ls) (.ref a :: st) hp := ax_aload_n dX9_span_16 rfl rfl
theorem dX9_span_17 : decode cX9_span 17 = .ok (.getfield 235, 3) := by decide +kernel
theorem sX9_span_17 : ab_X rom K cX9_span 7 1 17 ls (.ref a :: st) hp = (ab_fld hp a 7 17).bind (fun v => ab_X rom K cX9_span 7 1 20 ls (v :: st) hp) := ax_getfield dX9_span_17 kf_7_235 rfl
theorem dX9_span_20 : decode cX9_span 20 = .ok (.iconst 1, 1) := by decide +kernel
theorem sX9_span_20 : ab_X rom K cX9_span 7 1 20 ls st hp = ab_X rom K cX9_span 7 1 21 ls (.int 1 :: st) hp := ax_iconst dX9_span_20 (by decide) rfl
theorem dX9_span_21 : decode cX9_span 21 = .ok (.isub, 1) := by decide +kernel
theorem sX9_span_21 : ab_X rom K cX9_span 7 1 21 ls (.int y :: .int x :: st) hp = ab_X rom K cX9_span 7 1 22 ls (.int (x - y) :: st) hp := ax_isub dX9_span_21 rfl
theorem dX9_span_22 : decode cX9_span 22 = .ok (.aload_n 0, 1) := by decide +kernel
theorem sX9_span_22 : ab_X rom K cX9_span 7 1 22 (.ref a :: ls) st hp = ab_X rom K cX9_span 7 1 23 (.ref a :: ls) (.ref a :: st) hp := ax_aload_n dX9_span_22 rfl rfl
theorem dX9_span_23 : decode cX9_span 23 = .ok (.getfield 210, 3) := by decide +kernel
theorem sX9_span_23 : ab_X rom K cX9_span 7 1 23 ls (.ref a :: st) hp = (ab_fld hp a 7 15).bind (fun v => ab_X rom K cX9_span 7 1 26 ls (v :: st) hp) := ax_getfield dX9_span_23 kf_7_210 rfl
theorem dX9_span_26 : decode cX9_span 26 = .ok (.invokestatic 197, 3) := by decide +kernel
theorem sX9_span_26_0 : ab_X rom K cX9_span 7 1 26 ls [.int y, .int x] hp = ab_X rom K cX9_span 7 1 29 ls [.int (ab_max x y)] hp := ax_max dX9_span_26 kc_7_197 rfl (Nat.le_of_ble_eq_true rfl)
theorem sX9_span_26_1 : ab_X rom K cX9_span 7 1 26 ls [.int y, .int x, v0] hp = ab_X rom K cX9_span 7 1 29 ls [.int (ab_max x y), v0] hp := ax_max dX9_span_26 kc_7_197 rfl (Nat.le_of_ble_eq_true rfl)
theorem sX9_span_26_2 : ab_X rom K cX9_span 7 1 26 ls [.int y, .int x, v0, v1] hp = ab_X rom K cX9_span 7 1 29 ls [.int (ab_max x y), v0, v1] hp := ax_max dX9_span_26 kc_7_197 rfl (Nat.le_of_ble_eq_true rfl)
theorem sX9_span_26_3 : ab_X rom K cX9_span 7 1 26 ls [.int y, .int x, v0, v1, v2] hp = ab_X rom K cX9_span 7 1 29 ls [.int (ab_max x y), v0, v1, v2] hp := ax_max dX9_span_26 kc_7_197 rfl (Nat.le_of_ble_eq_true rfl)
theorem dX9_span_29 : decode cX9_span 29 = .ok (.istore_n 2, 1) := by decide +kernel
theorem sX9_span_29i : ab_X rom K cX9_span 7 1 29 (v0 :: .int y :: v2 :: ls) (.int x :: st) hp = ab_X rom K cX9_span 7 1 30 (v0 :: .int y :: .int x :: ls) st hp := ax_istore_n dX9_span_29 (ax_lt (v := v2) rfl) (ab_nl_c1 (j := 1) (v := .int y) rfl (ab_c1_int _)) rfl rfl
theorem sX9_span_29r : ab_X rom K cX9_span 7 1 29 (v0 :: .ref a2 :: v2 :: ls) (.int x :: st) hp = ab_X rom K cX9_span 7 1 30 (v0 :: .ref a2 :: .int x :: ls) st hp := ax_istore_n dX9_span_29 (ax_lt (v := v2) rfl) (ab_nl_c1 (j := 1) (v := .ref a2) rfl (ab_c1_ref _)) rfl rfl
theorem sX9_span_29n : ab_X rom K cX9_span 7 1 29 (v0 :: .null :: v2 :: ls) (.int x :: st) hp = ab_X rom K cX9_span 7 1 30 (v0 :: .null :: .int x :: ls) st hp := ax_istore_n dX9_span_29 (ax_lt (v := v2) rfl) (ab_nl_c1 (j := 1) (v := .null) rfl ab_c1_null) rfl rfl
theorem dX9_span_30 : decode cX9_span 30 = .ok (.iload_n 2, 1) := by decide +kernel
theorem sX9_span_30 : ab_X rom K cX9_span 7 1 30 (v0 :: v1 :: .int x :: ls) st hp = ab_X rom K cX9_span 7 1 31 (v0 :: v1 :: .int x :: ls) (.int x :: st) hp := ax_iload_n dX9_span_30 rfl rfl
theorem dX9_span_31 : decode cX9_span 31 = .ok (.bipush 20, 2) := by decide +kernel
theorem sX9_span_31 : ab_X rom K cX9_span 7 1 31 ls st hp = ab_X rom K cX9_span 7 1 33 ls (.int 20 :: st) hp := ax_bipush dX9_span_31 (by decide) rfl
theorem dX9_span_33 : decode cX9_span 33 = .ok (.if_icmp .gt 20, 3) := by decide +kernel
theorem sX9_span_33 : ab_X rom K cX9_span 7 1 33 ls (.int y :: .int x :: st) hp = if y < x then ab_X rom K cX9_span 7 1 53 ls st hp else ab_X rom K cX9_span 7 1 36 ls st hp := ax_icmp_gt dX9_span_33 (by decide) rfl
theorem dX9_span_36 : decode cX9_span 36 = .ok (.aload_n 0, 1) := by decide +kernel
theorem sX9_span_36 : ab_X rom K cX9_span 7 1 36 (.ref a :: ls) st hp = ab_X rom K cX9_span 7 1 37 (.ref a :: ls) (.ref a :: st) hp := ax_aload_n dX9_span_36 rfl rfl
theorem dX9_span_37 : decode cX9_span 37 = .ok (.iconst 0, 1) := by decide +kernel
theorem sX9_span_37 : ab_X rom K cX9_span 7 1 37 ls st hp = ab_X rom K cX9_span 7 1 38 ls (.int 0 :: st) hp := ax_iconst dX9_span_37 (by decide) rfl
theorem dX9_span_38 : decode cX9_span 38 = .ok (.iload_n 2, 1) := by decide +kernel
theorem sX9_span_38 : ab_X rom K cX9_span 7 1 38 (v0 :: v1 :: .int x :: ls) st hp = ab_X rom K cX9_span 7 1 39 (v0 :: v1 :: .int x :: ls) (.int x :: st) hp := ax_iload_n dX9_span_38 rfl rfl
theorem dX9_span_39 : decode cX9_span 39 = .ok (.invokevirtual 316, 3) := by decide +kernel
theorem sX9_span_39_0 : ab_X rom K cX9_span 7 1 39 ls [w2, w1, .ref a] hp = if ab_iso hp a 7 = true then (K 225 (.ref a :: [w1, w2]) hp).bind (fun o => ab_X rom K cX9_span 7 1 42 ls (o.1.toList ++ []) o.2) else none := ay_virtual (as := [w1, w2]) (st := []) dX9_span_39 kc_7_316 rfl rfl (Nat.le_of_ble_eq_true rfl)
theorem sX9_span_39_1 : ab_X rom K cX9_span 7 1 39 ls [w2, w1, .ref a, v0] hp = if ab_iso hp a 7 = true then (K 225 (.ref a :: [w1, w2]) hp).bind (fun o => ab_X rom K cX9_span 7 1 42 ls (o.1.toList ++ [v0]) o.2) else none := ay_virtual (as := [w1, w2]) (st := [v0]) dX9_span_39 kc_7_316 rfl rfl (Nat.le_of_ble_eq_true rfl)
theorem sX9_span_39_2 : ab_X rom K cX9_span 7 1 39 ls [w2, w1, .ref a, v0, v1] hp = if ab_iso hp a 7 = true then (K 225 (.ref a :: [w1, w2]) hp).bind (fun o => ab_X rom K cX9_span 7 1 42 ls (o.1.toList ++ [v0, v1]) o.2) else none := ay_virtual (as := [w1, w2]) (st := [v0, v1]) dX9_span_39 kc_7_316 rfl rfl (Nat.le_of_ble_eq_true rfl)
theorem sX9_span_39_3 : ab_X rom K cX9_span 7 1 39 ls [w2, w1, .ref a, v0, v1, v2] hp = if ab_iso hp a 7 = true then (K 225 (.ref a :: [w1, w2]) hp).bind (fun o => ab_X rom K cX9_span 7 1 42 ls (o.1.toList ++ [v0, v1, v2]) o.2) else none := ay_virtual (as := [w1, w2]) (st := [v0, v1, v2]) dX9_span_39 kc_7_316 rfl rfl (Nat.le_of_ble_eq_true rfl)
theorem dX9_span_42 : decode cX9_span 42 = .ok (.ifCond .eq 5, 3) := by decide +kernel
theorem sX9_span_42 : ab_X rom K cX9_span 7 1 42 ls (.int x :: st) hp = if x = 0 then ab_X rom K cX9_span 7 1 47 ls st hp else ab_X rom K cX9_span 7 1 45 ls st hp := ax_if_eq dX9_span_42 (by decide) rfl
theorem dX9_span_45 : decode cX9_span 45 = .ok (.iload_n 2, 1) := by decide +kernel
theorem sX9_span_45 : ab_X rom K cX9_span 7 1 45 (v0 :: v1 :: .int x :: ls) st hp = ab_X rom K cX9_span 7 1 46 (v0 :: v1 :: .int x :: ls) (.int x :: st) hp := ax_iload_n dX9_span_45 rfl rfl
theorem dX9_span_46 : decode cX9_span 46 = .ok (.ireturn, 1) := by decide +kernel
theorem sX9_span_46 : ab_X rom K cX9_span 7 1 46 ls [.int x] hp = some (some (.int x), hp) := ax_iret dX9_span_46 rfl
theorem dX9_span_47 : decode cX9_span 47 = .ok (.iinc 2 1, 3) := by decide +kernel
theorem sX9_span_47i : ab_X rom K cX9_span 7 1 47 (v0 :: .int y :: .int x :: ls) st hp = ab_X rom K cX9_span 7 1 50 (v0 :: .int y :: .int (x + 1) :: ls) st hp := ax_iinc dX9_span_47 rfl (ab_nl_c1 (j := 1) (v := .int y) rfl (ab_c1_int _)) (by decide) rfl rfl
theorem sX9_span_47r : ab_X rom K cX9_span 7 1 47 (v0 :: .ref a2 :: .int x :: ls) st hp = ab_X rom K cX9_span 7 1 50 (v0 :: .ref a2 :: .int (x + 1) :: ls) st hp := ax_iinc dX9_span_47 rfl (ab_nl_c1 (j := 1) (v := .ref a2) rfl (ab_c1_ref _)) (by decide) rfl rfl
theorem sX9_span_47n : ab_X rom K cX9_span 7 1 47 (v0 :: .null :: .int x :: ls) st hp = ab_X rom K cX9_span 7 1 50 (v0 :: .null :: .int (x + 1) :: ls) st hp := ax_iinc dX9_span_47 rfl (ab_nl_c1 (j := 1) (v := .null) rfl ab_c1_null) (by decide) rfl rfl
theorem dX9_span_50 : decode cX9_span 50 = .ok (.goto (-20), 3) := by decide +kernel
theorem sX9_span_50 : ab_X rom K cX9_span 7 1 50 ls st hp = ab_X rom K cX9_span 7 1 30 ls st hp := ax_goto dX9_span_50 (by decide)
theorem dX9_span_53 : decode cX9_span 53 = .ok (.iconst (-1), 1) := by decide +kernel
theorem sX9_span_53 : ab_X rom K cX9_span 7 1 53 ls st hp = ab_X rom K cX9_span 7 1 54 ls (.int (-1) :: st) hp := ax_iconst dX9_span_53 (by decide) rfl
theorem dX9_span_54 : decode cX9_span 54 = .ok (.ireturn, 1) := by decide +kernel
theorem sX9_span_54 : ab_X rom K cX9_span 7 1 54 ls [.int x] hp = some (some (.int x), hp) := ax_iret dX9_span_54 rfl
theorem tX9_spans : ab_mT[225]? = some (yX9_spans, cX9_spans, 4, 2, 7) := by decide +kernel
theorem mX9_spans {d : Nat} {a0 : Nat} {x0 : Int32} {x1 : Int32} : ab_M rom (d + 1) 225 [.ref a0, .int x0, .int x1] hp = ab_X rom (ab_M rom d) cX9_spans 7 2 0 [.ref a0, .int x0, .int x1, .null] [] hp := ab_M_eq tX9_spans (Nat.le_of_ble_eq_true rfl)
theorem dX9_spans_0 : decode cX9_spans 0 = .ok (.iload_n 1, 1) := by decide +kernel
theorem sX9_spans_0 : ab_X rom K cX9_spans 7 2 0 (v0 :: .int x :: ls) st hp = ab_X rom K cX9_spans 7 2 1 (v0 :: .int x :: ls) (.int x :: st) hp := ax_iload_n dX9_spans_0 rfl rfl
theorem dX9_spans_1 : decode cX9_spans 1 = .ok (.aload_n 0, 1) := by decide +kernel
theorem sX9_spans_1 : ab_X rom K cX9_spans 7 2 1 (.ref a :: ls) st hp = ab_X rom K cX9_spans 7 2 2 (.ref a :: ls) (.ref a :: st) hp := ax_aload_n dX9_spans_1 rfl rfl
theorem dX9_spans_2 : decode cX9_spans 2 = .ok (.getfield 235, 3) := by decide +kernel
theorem sX9_spans_2 : ab_X rom K cX9_spans 7 2 2 ls (.ref a :: st) hp = (ab_fld hp a 7 17).bind (fun v => ab_X rom K cX9_spans 7 2 5 ls (v :: st) hp) := ax_getfield dX9_spans_2 kf_7_235 rfl
theorem dX9_spans_5 : decode cX9_spans 5 = .ok (.if_icmp .ne 5, 3) := by decide +kernel
theorem sX9_spans_5 : ab_X rom K cX9_spans 7 2 5 ls (.int y :: .int x :: st) hp = if x = y then ab_X rom K cX9_spans 7 2 8 ls st hp else ab_X rom K cX9_spans 7 2 10 ls st hp := ax_icmp_ne dX9_spans_5 (by decide) rfl
theorem dX9_spans_8 : decode cX9_spans 8 = .ok (.iconst 1, 1) := by decide +kernel
theorem sX9_spans_8 : ab_X rom K cX9_spans 7 2 8 ls st hp = ab_X rom K cX9_spans 7 2 9 ls (.int 1 :: st) hp := ax_iconst dX9_spans_8 (by decide) rfl
theorem dX9_spans_9 : decode cX9_spans 9 = .ok (.ireturn, 1) := by decide +kernel
theorem sX9_spans_9 : ab_X rom K cX9_spans 7 2 9 ls [.int x] hp = if x = 0 ∨ x = 1 then some (some (.int x), hp) else none := ay_zret dX9_spans_9 rfl
theorem dX9_spans_10 : decode cX9_spans 10 = .ok (.iconst 0, 1) := by decide +kernel
theorem sX9_spans_10 : ab_X rom K cX9_spans 7 2 10 ls st hp = ab_X rom K cX9_spans 7 2 11 ls (.int 0 :: st) hp := ax_iconst dX9_spans_10 (by decide) rfl
theorem dX9_spans_11 : decode cX9_spans 11 = .ok (.istore_n 3, 1) := by decide +kernel
theorem sX9_spans_11i : ab_X rom K cX9_spans 7 2 11 (v0 :: v1 :: .int y :: v3 :: ls) (.int x :: st) hp = ab_X rom K cX9_spans 7 2 12 (v0 :: v1 :: .int y :: .int x :: ls) st hp := ax_istore_n dX9_spans_11 (ax_lt (v := v3) rfl) (ab_nl_c1 (j := 2) (v := .int y) rfl (ab_c1_int _)) rfl rfl
theorem sX9_spans_11r : ab_X rom K cX9_spans 7 2 11 (v0 :: v1 :: .ref a2 :: v3 :: ls) (.int x :: st) hp = ab_X rom K cX9_spans 7 2 12 (v0 :: v1 :: .ref a2 :: .int x :: ls) st hp := ax_istore_n dX9_spans_11 (ax_lt (v := v3) rfl) (ab_nl_c1 (j := 2) (v := .ref a2) rfl (ab_c1_ref _)) rfl rfl
theorem sX9_spans_11n : ab_X rom K cX9_spans 7 2 11 (v0 :: v1 :: .null :: v3 :: ls) (.int x :: st) hp = ab_X rom K cX9_spans 7 2 12 (v0 :: v1 :: .null :: .int x :: ls) st hp := ax_istore_n dX9_spans_11 (ax_lt (v := v3) rfl) (ab_nl_c1 (j := 2) (v := .null) rfl ab_c1_null) rfl rfl
theorem dX9_spans_12 : decode cX9_spans 12 = .ok (.iload_n 3, 1) := by decide +kernel
theorem sX9_spans_12 : ab_X rom K cX9_spans 7 2 12 (v0 :: v1 :: v2 :: .int x :: ls) st hp = ab_X rom K cX9_spans 7 2 13 (v0 :: v1 :: v2 :: .int x :: ls) (.int x :: st) hp := ax_iload_n dX9_spans_12 rfl rfl
theorem dX9_spans_13 : decode cX9_spans 13 = .ok (.iload_n 2, 1) := by decide +kernel
theorem sX9_spans_13 : ab_X rom K cX9_spans 7 2 13 (v0 :: v1 :: .int x :: ls) st hp = ab_X rom K cX9_spans 7 2 14 (v0 :: v1 :: .int x :: ls) (.int x :: st) hp := ax_iload_n dX9_spans_13 rfl rfl
theorem dX9_spans_14 : decode cX9_spans 14 = .ok (.if_icmp .gt 51, 3) := by decide +kernel
theorem sX9_spans_14 : ab_X rom K cX9_spans 7 2 14 ls (.int y :: .int x :: st) hp = if y < x then ab_X rom K cX9_spans 7 2 65 ls st hp else ab_X rom K cX9_spans 7 2 17 ls st hp := ax_icmp_gt dX9_spans_14 (by decide) rfl
theorem dX9_spans_17 : decode cX9_spans 17 = .ok (.aload_n 0, 1) := by decide +kernel
theorem sX9_spans_17 : ab_X rom K cX9_spans 7 2 17 (.ref a :: ls) st hp = ab_X rom K cX9_spans 7 2 18 (.ref a :: ls) (.ref a :: st) hp := ax_aload_n dX9_spans_17 rfl rfl
theorem dX9_spans_18 : decode cX9_spans 18 = .ok (.getfield 32, 3) := by decide +kernel
theorem sX9_spans_18 : ab_X rom K cX9_spans 7 2 18 ls (.ref a :: st) hp = (ab_fld hp a 7 16).bind (fun v => ab_X rom K cX9_spans 7 2 21 ls (v :: st) hp) := ax_getfield dX9_spans_18 kf_7_32 rfl
theorem dX9_spans_21 : decode cX9_spans 21 = .ok (.iload_n 1, 1) := by decide +kernel
theorem sX9_spans_21 : ab_X rom K cX9_spans 7 2 21 (v0 :: .int x :: ls) st hp = ab_X rom K cX9_spans 7 2 22 (v0 :: .int x :: ls) (.int x :: st) hp := ax_iload_n dX9_spans_21 rfl rfl
theorem dX9_spans_22 : decode cX9_spans 22 = .ok (.iload_n 3, 1) := by decide +kernel
theorem sX9_spans_22 : ab_X rom K cX9_spans 7 2 22 (v0 :: v1 :: v2 :: .int x :: ls) st hp = ab_X rom K cX9_spans 7 2 23 (v0 :: v1 :: v2 :: .int x :: ls) (.int x :: st) hp := ax_iload_n dX9_spans_22 rfl rfl
theorem dX9_spans_23 : decode cX9_spans 23 = .ok (.iastore, 1) := by decide +kernel
theorem sX9_spans_23 : ab_X rom K cX9_spans 7 2 23 ls (.int y :: .int x :: .ref a :: st) hp = (ab_awr 0 hp a x y).bind (fun hp' => ab_X rom K cX9_spans 7 2 24 ls st hp') := ax_iastore dX9_spans_23 rfl
theorem dX9_spans_24 : decode cX9_spans 24 = .ok (.aload_n 0, 1) := by decide +kernel
theorem sX9_spans_24 : ab_X rom K cX9_spans 7 2 24 (.ref a :: ls) st hp = ab_X rom K cX9_spans 7 2 25 (.ref a :: ls) (.ref a :: st) hp := ax_aload_n dX9_spans_24 rfl rfl
theorem dX9_spans_25 : decode cX9_spans 25 = .ok (.iconst 0, 1) := by decide +kernel
theorem sX9_spans_25 : ab_X rom K cX9_spans 7 2 25 ls st hp = ab_X rom K cX9_spans 7 2 26 ls (.int 0 :: st) hp := ax_iconst dX9_spans_25 (by decide) rfl
theorem dX9_spans_26 : decode cX9_spans 26 = .ok (.iload_n 1, 1) := by decide +kernel
theorem sX9_spans_26 : ab_X rom K cX9_spans 7 2 26 (v0 :: .int x :: ls) st hp = ab_X rom K cX9_spans 7 2 27 (v0 :: .int x :: ls) (.int x :: st) hp := ax_iload_n dX9_spans_26 rfl rfl
theorem dX9_spans_27 : decode cX9_spans 27 = .ok (.iconst 1, 1) := by decide +kernel
theorem sX9_spans_27 : ab_X rom K cX9_spans 7 2 27 ls st hp = ab_X rom K cX9_spans 7 2 28 ls (.int 1 :: st) hp := ax_iconst dX9_spans_27 (by decide) rfl
theorem dX9_spans_28 : decode cX9_spans 28 = .ok (.iadd, 1) := by decide +kernel
theorem sX9_spans_28 : ab_X rom K cX9_spans 7 2 28 ls (.int y :: .int x :: st) hp = ab_X rom K cX9_spans 7 2 29 ls (.int (x + y) :: st) hp := ax_iadd dX9_spans_28 rfl
theorem dX9_spans_29 : decode cX9_spans 29 = .ok (.invokevirtual 260, 3) := by decide +kernel
theorem sX9_spans_29_0 : ab_X rom K cX9_spans 7 2 29 ls [w2, w1, .ref a] hp = if ab_iso hp a 7 = true then (K 133 (.ref a :: [w1, w2]) hp).bind (fun o => ab_X rom K cX9_spans 7 2 32 ls (o.1.toList ++ []) o.2) else none := ay_virtual (as := [w1, w2]) (st := []) dX9_spans_29 kc_7_260 rfl rfl (Nat.le_of_ble_eq_true rfl)
theorem sX9_spans_29_1 : ab_X rom K cX9_spans 7 2 29 ls [w2, w1, .ref a, v0] hp = if ab_iso hp a 7 = true then (K 133 (.ref a :: [w1, w2]) hp).bind (fun o => ab_X rom K cX9_spans 7 2 32 ls (o.1.toList ++ [v0]) o.2) else none := ay_virtual (as := [w1, w2]) (st := [v0]) dX9_spans_29 kc_7_260 rfl rfl (Nat.le_of_ble_eq_true rfl)
theorem sX9_spans_29_2 : ab_X rom K cX9_spans 7 2 29 ls [w2, w1, .ref a, v0, v1] hp = if ab_iso hp a 7 = true then (K 133 (.ref a :: [w1, w2]) hp).bind (fun o => ab_X rom K cX9_spans 7 2 32 ls (o.1.toList ++ [v0, v1]) o.2) else none := ay_virtual (as := [w1, w2]) (st := [v0, v1]) dX9_spans_29 kc_7_260 rfl rfl (Nat.le_of_ble_eq_true rfl)
theorem sX9_spans_29_3 : ab_X rom K cX9_spans 7 2 29 ls [w2, w1, .ref a, v0, v1, v2] hp = if ab_iso hp a 7 = true then (K 133 (.ref a :: [w1, w2]) hp).bind (fun o => ab_X rom K cX9_spans 7 2 32 ls (o.1.toList ++ [v0, v1, v2]) o.2) else none := ay_virtual (as := [w1, w2]) (st := [v0, v1, v2]) dX9_spans_29 kc_7_260 rfl rfl (Nat.le_of_ble_eq_true rfl)
theorem dX9_spans_32 : decode cX9_spans 32 = .ok (.ifCond .ne 27, 3) := by decide +kernel
theorem sX9_spans_32 : ab_X rom K cX9_spans 7 2 32 ls (.int x :: st) hp = if x = 0 then ab_X rom K cX9_spans 7 2 35 ls st hp else ab_X rom K cX9_spans 7 2 59 ls st hp := ax_if_ne dX9_spans_32 (by decide) rfl
theorem dX9_spans_35 : decode cX9_spans 35 = .ok (.aload_n 0, 1) := by decide +kernel
theorem sX9_spans_35 : ab_X rom K cX9_spans 7 2 35 (.ref a :: ls) st hp = ab_X rom K cX9_spans 7 2 36 (.ref a :: ls) (.ref a :: st) hp := ax_aload_n dX9_spans_35 rfl rfl
theorem dX9_spans_36 : decode cX9_spans 36 = .ok (.iconst 0, 1) := by decide +kernel
theorem sX9_spans_36 : ab_X rom K cX9_spans 7 2 36 ls st hp = ab_X rom K cX9_spans 7 2 37 ls (.int 0 :: st) hp := ax_iconst dX9_spans_36 (by decide) rfl
theorem dX9_spans_37 : decode cX9_spans 37 = .ok (.iload_n 1, 1) := by decide +kernel
theorem sX9_spans_37 : ab_X rom K cX9_spans 7 2 37 (v0 :: .int x :: ls) st hp = ab_X rom K cX9_spans 7 2 38 (v0 :: .int x :: ls) (.int x :: st) hp := ax_iload_n dX9_spans_37 rfl rfl
theorem dX9_spans_38 : decode cX9_spans 38 = .ok (.iconst 1, 1) := by decide +kernel
theorem sX9_spans_38 : ab_X rom K cX9_spans 7 2 38 ls st hp = ab_X rom K cX9_spans 7 2 39 ls (.int 1 :: st) hp := ax_iconst dX9_spans_38 (by decide) rfl
theorem dX9_spans_39 : decode cX9_spans 39 = .ok (.iadd, 1) := by decide +kernel
theorem sX9_spans_39 : ab_X rom K cX9_spans 7 2 39 ls (.int y :: .int x :: st) hp = ab_X rom K cX9_spans 7 2 40 ls (.int (x + y) :: st) hp := ax_iadd dX9_spans_39 rfl
theorem dX9_spans_40 : decode cX9_spans 40 = .ok (.invokevirtual 263, 3) := by decide +kernel
theorem sX9_spans_40_0 : ab_X rom K cX9_spans 7 2 40 ls [w2, w1, .ref a] hp = if ab_iso hp a 7 = true then (K 136 (.ref a :: [w1, w2]) hp).bind (fun o => ab_X rom K cX9_spans 7 2 43 ls (o.1.toList ++ []) o.2) else none := ay_virtual (as := [w1, w2]) (st := []) dX9_spans_40 kc_7_263 rfl rfl (Nat.le_of_ble_eq_true rfl)
theorem sX9_spans_40_1 : ab_X rom K cX9_spans 7 2 40 ls [w2, w1, .ref a, v0] hp = if ab_iso hp a 7 = true then (K 136 (.ref a :: [w1, w2]) hp).bind (fun o => ab_X rom K cX9_spans 7 2 43 ls (o.1.toList ++ [v0]) o.2) else none := ay_virtual (as := [w1, w2]) (st := [v0]) dX9_spans_40 kc_7_263 rfl rfl (Nat.le_of_ble_eq_true rfl)
theorem sX9_spans_40_2 : ab_X rom K cX9_spans 7 2 40 ls [w2, w1, .ref a, v0, v1] hp = if ab_iso hp a 7 = true then (K 136 (.ref a :: [w1, w2]) hp).bind (fun o => ab_X rom K cX9_spans 7 2 43 ls (o.1.toList ++ [v0, v1]) o.2) else none := ay_virtual (as := [w1, w2]) (st := [v0, v1]) dX9_spans_40 kc_7_263 rfl rfl (Nat.le_of_ble_eq_true rfl)
theorem sX9_spans_40_3 : ab_X rom K cX9_spans 7 2 40 ls [w2, w1, .ref a, v0, v1, v2] hp = if ab_iso hp a 7 = true then (K 136 (.ref a :: [w1, w2]) hp).bind (fun o => ab_X rom K cX9_spans 7 2 43 ls (o.1.toList ++ [v0, v1, v2]) o.2) else none := ay_virtual (as := [w1, w2]) (st := [v0, v1, v2]) dX9_spans_40 kc_7_263 rfl rfl (Nat.le_of_ble_eq_true rfl)
theorem dX9_spans_43 : decode cX9_spans 43 = .ok (.ifCond .ne 16, 3) := by decide +kernel
theorem sX9_spans_43 : ab_X rom K cX9_spans 7 2 43 ls (.int x :: st) hp = if x = 0 then ab_X rom K cX9_spans 7 2 46 ls st hp else ab_X rom K cX9_spans 7 2 59 ls st hp := ax_if_ne dX9_spans_43 (by decide) rfl
theorem dX9_spans_46 : decode cX9_spans 46 = .ok (.aload_n 0, 1) := by decide +kernel
theorem sX9_spans_46 : ab_X rom K cX9_spans 7 2 46 (.ref a :: ls) st hp = ab_X rom K cX9_spans 7 2 47 (.ref a :: ls) (.ref a :: st) hp := ax_aload_n dX9_spans_46 rfl rfl
theorem dX9_spans_47 : decode cX9_spans 47 = .ok (.iload_n 1, 1) := by decide +kernel
theorem sX9_spans_47 : ab_X rom K cX9_spans 7 2 47 (v0 :: .int x :: ls) st hp = ab_X rom K cX9_spans 7 2 48 (v0 :: .int x :: ls) (.int x :: st) hp := ax_iload_n dX9_spans_47 rfl rfl
theorem dX9_spans_48 : decode cX9_spans 48 = .ok (.iconst 1, 1) := by decide +kernel
theorem sX9_spans_48 : ab_X rom K cX9_spans 7 2 48 ls st hp = ab_X rom K cX9_spans 7 2 49 ls (.int 1 :: st) hp := ax_iconst dX9_spans_48 (by decide) rfl
theorem dX9_spans_49 : decode cX9_spans 49 = .ok (.iadd, 1) := by decide +kernel
theorem sX9_spans_49 : ab_X rom K cX9_spans 7 2 49 ls (.int y :: .int x :: st) hp = ab_X rom K cX9_spans 7 2 50 ls (.int (x + y) :: st) hp := ax_iadd dX9_spans_49 rfl
theorem dX9_spans_50 : decode cX9_spans 50 = .ok (.iload_n 2, 1) := by decide +kernel
theorem sX9_spans_50 : ab_X rom K cX9_spans 7 2 50 (v0 :: v1 :: .int x :: ls) st hp = ab_X rom K cX9_spans 7 2 51 (v0 :: v1 :: .int x :: ls) (.int x :: st) hp := ax_iload_n dX9_spans_50 rfl rfl
theorem dX9_spans_51 : decode cX9_spans 51 = .ok (.invokevirtual 316, 3) := by decide +kernel
theorem sX9_spans_51_0 : ab_X rom K cX9_spans 7 2 51 ls [w2, w1, .ref a] hp = if ab_iso hp a 7 = true then (K 225 (.ref a :: [w1, w2]) hp).bind (fun o => ab_X rom K cX9_spans 7 2 54 ls (o.1.toList ++ []) o.2) else none := ay_virtual (as := [w1, w2]) (st := []) dX9_spans_51 kc_7_316 rfl rfl (Nat.le_of_ble_eq_true rfl)
theorem sX9_spans_51_1 : ab_X rom K cX9_spans 7 2 51 ls [w2, w1, .ref a, v0] hp = if ab_iso hp a 7 = true then (K 225 (.ref a :: [w1, w2]) hp).bind (fun o => ab_X rom K cX9_spans 7 2 54 ls (o.1.toList ++ [v0]) o.2) else none := ay_virtual (as := [w1, w2]) (st := [v0]) dX9_spans_51 kc_7_316 rfl rfl (Nat.le_of_ble_eq_true rfl)
theorem sX9_spans_51_2 : ab_X rom K cX9_spans 7 2 51 ls [w2, w1, .ref a, v0, v1] hp = if ab_iso hp a 7 = true then (K 225 (.ref a :: [w1, w2]) hp).bind (fun o => ab_X rom K cX9_spans 7 2 54 ls (o.1.toList ++ [v0, v1]) o.2) else none := ay_virtual (as := [w1, w2]) (st := [v0, v1]) dX9_spans_51 kc_7_316 rfl rfl (Nat.le_of_ble_eq_true rfl)
theorem sX9_spans_51_3 : ab_X rom K cX9_spans 7 2 51 ls [w2, w1, .ref a, v0, v1, v2] hp = if ab_iso hp a 7 = true then (K 225 (.ref a :: [w1, w2]) hp).bind (fun o => ab_X rom K cX9_spans 7 2 54 ls (o.1.toList ++ [v0, v1, v2]) o.2) else none := ay_virtual (as := [w1, w2]) (st := [v0, v1, v2]) dX9_spans_51 kc_7_316 rfl rfl (Nat.le_of_ble_eq_true rfl)
theorem dX9_spans_54 : decode cX9_spans 54 = .ok (.ifCond .eq 5, 3) := by decide +kernel
theorem sX9_spans_54 : ab_X rom K cX9_spans 7 2 54 ls (.int x :: st) hp = if x = 0 then ab_X rom K cX9_spans 7 2 59 ls st hp else ab_X rom K cX9_spans 7 2 57 ls st hp := ax_if_eq dX9_spans_54 (by decide) rfl
theorem dX9_spans_57 : decode cX9_spans 57 = .ok (.iconst 1, 1) := by decide +kernel
theorem sX9_spans_57 : ab_X rom K cX9_spans 7 2 57 ls st hp = ab_X rom K cX9_spans 7 2 58 ls (.int 1 :: st) hp := ax_iconst dX9_spans_57 (by decide) rfl
theorem dX9_spans_58 : decode cX9_spans 58 = .ok (.ireturn, 1) := by decide +kernel
theorem sX9_spans_58 : ab_X rom K cX9_spans 7 2 58 ls [.int x] hp = if x = 0 ∨ x = 1 then some (some (.int x), hp) else none := ay_zret dX9_spans_58 rfl
theorem dX9_spans_59 : decode cX9_spans 59 = .ok (.iinc 3 1, 3) := by decide +kernel
theorem sX9_spans_59i : ab_X rom K cX9_spans 7 2 59 (v0 :: v1 :: .int y :: .int x :: ls) st hp = ab_X rom K cX9_spans 7 2 62 (v0 :: v1 :: .int y :: .int (x + 1) :: ls) st hp := ax_iinc dX9_spans_59 rfl (ab_nl_c1 (j := 2) (v := .int y) rfl (ab_c1_int _)) (by decide) rfl rfl
theorem sX9_spans_59r : ab_X rom K cX9_spans 7 2 59 (v0 :: v1 :: .ref a2 :: .int x :: ls) st hp = ab_X rom K cX9_spans 7 2 62 (v0 :: v1 :: .ref a2 :: .int (x + 1) :: ls) st hp := ax_iinc dX9_spans_59 rfl (ab_nl_c1 (j := 2) (v := .ref a2) rfl (ab_c1_ref _)) (by decide) rfl rfl
theorem sX9_spans_59n : ab_X rom K cX9_spans 7 2 59 (v0 :: v1 :: .null :: .int x :: ls) st hp = ab_X rom K cX9_spans 7 2 62 (v0 :: v1 :: .null :: .int (x + 1) :: ls) st hp := ax_iinc dX9_spans_59 rfl (ab_nl_c1 (j := 2) (v := .null) rfl ab_c1_null) (by decide) rfl rfl
theorem dX9_spans_62 : decode cX9_spans 62 = .ok (.goto (-50), 3) := by decide +kernel
theorem sX9_spans_62 : ab_X rom K cX9_spans 7 2 62 ls st hp = ab_X rom K cX9_spans 7 2 12 ls st hp := ax_goto dX9_spans_62 (by decide)
theorem dX9_spans_65 : decode cX9_spans 65 = .ok (.iconst 0, 1) := by decide +kernel
theorem sX9_spans_65 : ab_X rom K cX9_spans 7 2 65 ls st hp = ab_X rom K cX9_spans 7 2 66 ls (.int 0 :: st) hp := ax_iconst dX9_spans_65 (by decide) rfl
theorem dX9_spans_66 : decode cX9_spans 66 = .ok (.ireturn, 1) := by decide +kernel
theorem sX9_spans_66 : ab_X rom K cX9_spans 7 2 66 ls [.int x] hp = if x = 0 ∨ x = 1 then some (some (.int x), hp) else none := ay_zret dX9_spans_66 rfl
theorem tX9_spares : ab_mT[226]? = some (yX9_spares, cX9_spares, 8, 1, 7) := by decide +kernel
theorem mX9_spares {d : Nat} {a0 : Nat} {x0 : Int32} {x1 : Int32} : ab_M rom (d + 1) 226 [.ref a0, .int x0, .int x1] hp = ab_X rom (ab_M rom d) cX9_spares 7 1 0 [.ref a0, .int x0, .int x1, .null, .null, .null, .null, .null] [] hp := ab_M_eq tX9_spares (Nat.le_of_ble_eq_true rfl)
theorem dX9_spares_0 : decode cX9_spares 0 = .ok (.aload_n 0, 1) := by decide +kernel
theorem sX9_spares_0 : ab_X rom K cX9_spares 7 1 0 (.ref a :: ls) st hp = ab_X rom K cX9_spares 7 1 1 (.ref a :: ls) (.ref a :: st) hp := ax_aload_n dX9_spares_0 rfl rfl
theorem dX9_spares_1 : decode cX9_spares 1 = .ok (.iload_n 1, 1) := by decide +kernel
theorem sX9_spares_1 : ab_X rom K cX9_spares 7 1 1 (v0 :: .int x :: ls) st hp = ab_X rom K cX9_spares 7 1 2 (v0 :: .int x :: ls) (.int x :: st) hp := ax_iload_n dX9_spares_1 rfl rfl
theorem dX9_spares_2 : decode cX9_spares 2 = .ok (.invokevirtual 68, 3) := by decide +kernel
theorem sX9_spares_2_0 : ab_X rom K cX9_spares 7 1 2 ls [w1, .ref a] hp = if ab_iso hp a 7 = true then (K 171 (.ref a :: [w1]) hp).bind (fun o => ab_X rom K cX9_spares 7 1 5 ls (o.1.toList ++ []) o.2) else none := ay_virtual (as := [w1]) (st := []) dX9_spares_2 kc_7_68 rfl rfl (Nat.le_of_ble_eq_true rfl)
theorem sX9_spares_2_1 : ab_X rom K cX9_spares 7 1 2 ls [w1, .ref a, v0] hp = if ab_iso hp a 7 = true then (K 171 (.ref a :: [w1]) hp).bind (fun o => ab_X rom K cX9_spares 7 1 5 ls (o.1.toList ++ [v0]) o.2) else none := ay_virtual (as := [w1]) (st := [v0]) dX9_spares_2 kc_7_68 rfl rfl (Nat.le_of_ble_eq_true rfl)
theorem sX9_spares_2_2 : ab_X rom K cX9_spares 7 1 2 ls [w1, .ref a, v0, v1] hp = if ab_iso hp a 7 = true then (K 171 (.ref a :: [w1]) hp).bind (fun o => ab_X rom K cX9_spares 7 1 5 ls (o.1.toList ++ [v0, v1]) o.2) else none := ay_virtual (as := [w1]) (st := [v0, v1]) dX9_spares_2 kc_7_68 rfl rfl (Nat.le_of_ble_eq_true rfl)
theorem sX9_spares_2_3 : ab_X rom K cX9_spares 7 1 2 ls [w1, .ref a, v0, v1, v2] hp = if ab_iso hp a 7 = true then (K 171 (.ref a :: [w1]) hp).bind (fun o => ab_X rom K cX9_spares 7 1 5 ls (o.1.toList ++ [v0, v1, v2]) o.2) else none := ay_virtual (as := [w1]) (st := [v0, v1, v2]) dX9_spares_2 kc_7_68 rfl rfl (Nat.le_of_ble_eq_true rfl)
theorem dX9_spares_5 : decode cX9_spares 5 = .ok (.ifCond .eq 10, 3) := by decide +kernel
theorem sX9_spares_5 : ab_X rom K cX9_spares 7 1 5 ls (.int x :: st) hp = if x = 0 then ab_X rom K cX9_spares 7 1 15 ls st hp else ab_X rom K cX9_spares 7 1 8 ls st hp := ax_if_eq dX9_spares_5 (by decide) rfl
theorem dX9_spares_8 : decode cX9_spares 8 = .ok (.iload_n 2, 1) := by decide +kernel
theorem sX9_spares_8 : ab_X rom K cX9_spares 7 1 8 (v0 :: v1 :: .int x :: ls) st hp = ab_X rom K cX9_spares 7 1 9 (v0 :: v1 :: .int x :: ls) (.int x :: st) hp := ax_iload_n dX9_spares_8 rfl rfl
theorem dX9_spares_9 : decode cX9_spares 9 = .ok (.invokestatic 278, 3) := by decide +kernel
theorem sX9_spares_9_0 : ab_X rom K cX9_spares 7 1 9 ls [w1] hp = (K 168 [w1] hp).bind (fun o => ab_X rom K cX9_spares 7 1 12 ls (o.1.toList ++ []) o.2) := ax_static (as := [w1]) (st := []) dX9_spares_9 kc_7_278 rfl rfl (Nat.le_of_ble_eq_true rfl)
theorem sX9_spares_9_1 : ab_X rom K cX9_spares 7 1 9 ls [w1, v0] hp = (K 168 [w1] hp).bind (fun o => ab_X rom K cX9_spares 7 1 12 ls (o.1.toList ++ [v0]) o.2) := ax_static (as := [w1]) (st := [v0]) dX9_spares_9 kc_7_278 rfl rfl (Nat.le_of_ble_eq_true rfl)
theorem sX9_spares_9_2 : ab_X rom K cX9_spares 7 1 9 ls [w1, v0, v1] hp = (K 168 [w1] hp).bind (fun o => ab_X rom K cX9_spares 7 1 12 ls (o.1.toList ++ [v0, v1]) o.2) := ax_static (as := [w1]) (st := [v0, v1]) dX9_spares_9 kc_7_278 rfl rfl (Nat.le_of_ble_eq_true rfl)
theorem sX9_spares_9_3 : ab_X rom K cX9_spares 7 1 9 ls [w1, v0, v1, v2] hp = (K 168 [w1] hp).bind (fun o => ab_X rom K cX9_spares 7 1 12 ls (o.1.toList ++ [v0, v1, v2]) o.2) := ax_static (as := [w1]) (st := [v0, v1, v2]) dX9_spares_9 kc_7_278 rfl rfl (Nat.le_of_ble_eq_true rfl)
theorem dX9_spares_12 : decode cX9_spares 12 = .ok (.ifCond .ne 6, 3) := by decide +kernel
theorem sX9_spares_12 : ab_X rom K cX9_spares 7 1 12 ls (.int x :: st) hp = if x = 0 then ab_X rom K cX9_spares 7 1 15 ls st hp else ab_X rom K cX9_spares 7 1 18 ls st hp := ax_if_ne dX9_spares_12 (by decide) rfl
theorem dX9_spares_15 : decode cX9_spares 15 = .ok (.bipush (-2), 2) := by decide +kernel
theorem sX9_spares_15 : ab_X rom K cX9_spares 7 1 15 ls st hp = ab_X rom K cX9_spares 7 1 17 ls (.int (-2) :: st) hp := ax_bipush dX9_spares_15 (by decide) rfl
theorem dX9_spares_17 : decode cX9_spares 17 = .ok (.ireturn, 1) := by decide +kernel
theorem sX9_spares_17 : ab_X rom K cX9_spares 7 1 17 ls [.int x] hp = some (some (.int x), hp) := ax_iret dX9_spares_17 rfl
theorem dX9_spares_18 : decode cX9_spares 18 = .ok (.iconst 0, 1) := by decide +kernel
theorem sX9_spares_18 : ab_X rom K cX9_spares 7 1 18 ls st hp = ab_X rom K cX9_spares 7 1 19 ls (.int 0 :: st) hp := ax_iconst dX9_spares_18 (by decide) rfl
theorem dX9_spares_19 : decode cX9_spares 19 = .ok (.istore_n 3, 1) := by decide +kernel
theorem sX9_spares_19i : ab_X rom K cX9_spares 7 1 19 (v0 :: v1 :: .int y :: v3 :: ls) (.int x :: st) hp = ab_X rom K cX9_spares 7 1 20 (v0 :: v1 :: .int y :: .int x :: ls) st hp := ax_istore_n dX9_spares_19 (ax_lt (v := v3) rfl) (ab_nl_c1 (j := 2) (v := .int y) rfl (ab_c1_int _)) rfl rfl
theorem sX9_spares_19r : ab_X rom K cX9_spares 7 1 19 (v0 :: v1 :: .ref a2 :: v3 :: ls) (.int x :: st) hp = ab_X rom K cX9_spares 7 1 20 (v0 :: v1 :: .ref a2 :: .int x :: ls) st hp := ax_istore_n dX9_spares_19 (ax_lt (v := v3) rfl) (ab_nl_c1 (j := 2) (v := .ref a2) rfl (ab_c1_ref _)) rfl rfl
theorem sX9_spares_19n : ab_X rom K cX9_spares 7 1 19 (v0 :: v1 :: .null :: v3 :: ls) (.int x :: st) hp = ab_X rom K cX9_spares 7 1 20 (v0 :: v1 :: .null :: .int x :: ls) st hp := ax_istore_n dX9_spares_19 (ax_lt (v := v3) rfl) (ab_nl_c1 (j := 2) (v := .null) rfl ab_c1_null) rfl rfl
theorem dX9_spares_20 : decode cX9_spares 20 = .ok (.aload_n 0, 1) := by decide +kernel
theorem sX9_spares_20 : ab_X rom K cX9_spares 7 1 20 (.ref a :: ls) st hp = ab_X rom K cX9_spares 7 1 21 (.ref a :: ls) (.ref a :: st) hp := ax_aload_n dX9_spares_20 rfl rfl
theorem dX9_spares_21 : decode cX9_spares 21 = .ok (.iload_n 1, 1) := by decide +kernel
theorem sX9_spares_21 : ab_X rom K cX9_spares 7 1 21 (v0 :: .int x :: ls) st hp = ab_X rom K cX9_spares 7 1 22 (v0 :: .int x :: ls) (.int x :: st) hp := ax_iload_n dX9_spares_21 rfl rfl
theorem dX9_spares_22 : decode cX9_spares 22 = .ok (.invokevirtual 150, 3) := by decide +kernel
theorem sX9_spares_22_0 : ab_X rom K cX9_spares 7 1 22 ls [w1, .ref a] hp = if ab_iso hp a 7 = true then (K 188 (.ref a :: [w1]) hp).bind (fun o => ab_X rom K cX9_spares 7 1 25 ls (o.1.toList ++ []) o.2) else none := ay_virtual (as := [w1]) (st := []) dX9_spares_22 kc_7_150 rfl rfl (Nat.le_of_ble_eq_true rfl)
theorem sX9_spares_22_1 : ab_X rom K cX9_spares 7 1 22 ls [w1, .ref a, v0] hp = if ab_iso hp a 7 = true then (K 188 (.ref a :: [w1]) hp).bind (fun o => ab_X rom K cX9_spares 7 1 25 ls (o.1.toList ++ [v0]) o.2) else none := ay_virtual (as := [w1]) (st := [v0]) dX9_spares_22 kc_7_150 rfl rfl (Nat.le_of_ble_eq_true rfl)
theorem sX9_spares_22_2 : ab_X rom K cX9_spares 7 1 22 ls [w1, .ref a, v0, v1] hp = if ab_iso hp a 7 = true then (K 188 (.ref a :: [w1]) hp).bind (fun o => ab_X rom K cX9_spares 7 1 25 ls (o.1.toList ++ [v0, v1]) o.2) else none := ay_virtual (as := [w1]) (st := [v0, v1]) dX9_spares_22 kc_7_150 rfl rfl (Nat.le_of_ble_eq_true rfl)
theorem sX9_spares_22_3 : ab_X rom K cX9_spares 7 1 22 ls [w1, .ref a, v0, v1, v2] hp = if ab_iso hp a 7 = true then (K 188 (.ref a :: [w1]) hp).bind (fun o => ab_X rom K cX9_spares 7 1 25 ls (o.1.toList ++ [v0, v1, v2]) o.2) else none := ay_virtual (as := [w1]) (st := [v0, v1, v2]) dX9_spares_22 kc_7_150 rfl rfl (Nat.le_of_ble_eq_true rfl)
theorem dX9_spares_25 : decode cX9_spares 25 = .ok (.istore 4, 2) := by decide +kernel
theorem sX9_spares_25i : ab_X rom K cX9_spares 7 1 25 (v0 :: v1 :: v2 :: .int y :: v4 :: ls) (.int x :: st) hp = ab_X rom K cX9_spares 7 1 27 (v0 :: v1 :: v2 :: .int y :: .int x :: ls) st hp := ax_istore dX9_spares_25 (ax_lt (v := v4) rfl) (ab_nl_c1 (j := 3) (v := .int y) rfl (ab_c1_int _)) rfl rfl
theorem sX9_spares_25r : ab_X rom K cX9_spares 7 1 25 (v0 :: v1 :: v2 :: .ref a2 :: v4 :: ls) (.int x :: st) hp = ab_X rom K cX9_spares 7 1 27 (v0 :: v1 :: v2 :: .ref a2 :: .int x :: ls) st hp := ax_istore dX9_spares_25 (ax_lt (v := v4) rfl) (ab_nl_c1 (j := 3) (v := .ref a2) rfl (ab_c1_ref _)) rfl rfl
theorem sX9_spares_25n : ab_X rom K cX9_spares 7 1 25 (v0 :: v1 :: v2 :: .null :: v4 :: ls) (.int x :: st) hp = ab_X rom K cX9_spares 7 1 27 (v0 :: v1 :: v2 :: .null :: .int x :: ls) st hp := ax_istore dX9_spares_25 (ax_lt (v := v4) rfl) (ab_nl_c1 (j := 3) (v := .null) rfl ab_c1_null) rfl rfl
theorem dX9_spares_27 : decode cX9_spares 27 = .ok (.iconst 0, 1) := by decide +kernel
theorem sX9_spares_27 : ab_X rom K cX9_spares 7 1 27 ls st hp = ab_X rom K cX9_spares 7 1 28 ls (.int 0 :: st) hp := ax_iconst dX9_spares_27 (by decide) rfl
theorem dX9_spares_28 : decode cX9_spares 28 = .ok (.istore 5, 2) := by decide +kernel
theorem sX9_spares_28i : ab_X rom K cX9_spares 7 1 28 (v0 :: v1 :: v2 :: v3 :: .int y :: v5 :: ls) (.int x :: st) hp = ab_X rom K cX9_spares 7 1 30 (v0 :: v1 :: v2 :: v3 :: .int y :: .int x :: ls) st hp := ax_istore dX9_spares_28 (ax_lt (v := v5) rfl) (ab_nl_c1 (j := 4) (v := .int y) rfl (ab_c1_int _)) rfl rfl
theorem sX9_spares_28r : ab_X rom K cX9_spares 7 1 28 (v0 :: v1 :: v2 :: v3 :: .ref a2 :: v5 :: ls) (.int x :: st) hp = ab_X rom K cX9_spares 7 1 30 (v0 :: v1 :: v2 :: v3 :: .ref a2 :: .int x :: ls) st hp := ax_istore dX9_spares_28 (ax_lt (v := v5) rfl) (ab_nl_c1 (j := 4) (v := .ref a2) rfl (ab_c1_ref _)) rfl rfl
theorem sX9_spares_28n : ab_X rom K cX9_spares 7 1 28 (v0 :: v1 :: v2 :: v3 :: .null :: v5 :: ls) (.int x :: st) hp = ab_X rom K cX9_spares 7 1 30 (v0 :: v1 :: v2 :: v3 :: .null :: .int x :: ls) st hp := ax_istore dX9_spares_28 (ax_lt (v := v5) rfl) (ab_nl_c1 (j := 4) (v := .null) rfl ab_c1_null) rfl rfl
theorem dX9_spares_30 : decode cX9_spares 30 = .ok (.iload 5, 2) := by decide +kernel
theorem sX9_spares_30 : ab_X rom K cX9_spares 7 1 30 (v0 :: v1 :: v2 :: v3 :: v4 :: .int x :: ls) st hp = ab_X rom K cX9_spares 7 1 32 (v0 :: v1 :: v2 :: v3 :: v4 :: .int x :: ls) (.int x :: st) hp := ax_iload dX9_spares_30 rfl rfl
theorem dX9_spares_32 : decode cX9_spares 32 = .ok (.iload 4, 2) := by decide +kernel
theorem sX9_spares_32 : ab_X rom K cX9_spares 7 1 32 (v0 :: v1 :: v2 :: v3 :: .int x :: ls) st hp = ab_X rom K cX9_spares 7 1 34 (v0 :: v1 :: v2 :: v3 :: .int x :: ls) (.int x :: st) hp := ax_iload dX9_spares_32 rfl rfl
theorem dX9_spares_34 : decode cX9_spares 34 = .ok (.if_icmp .ge 72, 3) := by decide +kernel
theorem sX9_spares_34 : ab_X rom K cX9_spares 7 1 34 ls (.int y :: .int x :: st) hp = if x < y then ab_X rom K cX9_spares 7 1 37 ls st hp else ab_X rom K cX9_spares 7 1 106 ls st hp := ax_icmp_ge dX9_spares_34 (by decide) rfl
theorem dX9_spares_37 : decode cX9_spares 37 = .ok (.aload_n 0, 1) := by decide +kernel
theorem sX9_spares_37 : ab_X rom K cX9_spares 7 1 37 (.ref a :: ls) st hp = ab_X rom K cX9_spares 7 1 38 (.ref a :: ls) (.ref a :: st) hp := ax_aload_n dX9_spares_37 rfl rfl
theorem dX9_spares_38 : decode cX9_spares 38 = .ok (.iload_n 1, 1) := by decide +kernel
theorem sX9_spares_38 : ab_X rom K cX9_spares 7 1 38 (v0 :: .int x :: ls) st hp = ab_X rom K cX9_spares 7 1 39 (v0 :: .int x :: ls) (.int x :: st) hp := ax_iload_n dX9_spares_38 rfl rfl
theorem dX9_spares_39 : decode cX9_spares 39 = .ok (.invokevirtual 213, 3) := by decide +kernel
theorem sX9_spares_39_0 : ab_X rom K cX9_spares 7 1 39 ls [w1, .ref a] hp = if ab_iso hp a 7 = true then (K 185 (.ref a :: [w1]) hp).bind (fun o => ab_X rom K cX9_spares 7 1 42 ls (o.1.toList ++ []) o.2) else none := ay_virtual (as := [w1]) (st := []) dX9_spares_39 kc_7_213 rfl rfl (Nat.le_of_ble_eq_true rfl)
theorem sX9_spares_39_1 : ab_X rom K cX9_spares 7 1 39 ls [w1, .ref a, v0] hp = if ab_iso hp a 7 = true then (K 185 (.ref a :: [w1]) hp).bind (fun o => ab_X rom K cX9_spares 7 1 42 ls (o.1.toList ++ [v0]) o.2) else none := ay_virtual (as := [w1]) (st := [v0]) dX9_spares_39 kc_7_213 rfl rfl (Nat.le_of_ble_eq_true rfl)
theorem sX9_spares_39_2 : ab_X rom K cX9_spares 7 1 39 ls [w1, .ref a, v0, v1] hp = if ab_iso hp a 7 = true then (K 185 (.ref a :: [w1]) hp).bind (fun o => ab_X rom K cX9_spares 7 1 42 ls (o.1.toList ++ [v0, v1]) o.2) else none := ay_virtual (as := [w1]) (st := [v0, v1]) dX9_spares_39 kc_7_213 rfl rfl (Nat.le_of_ble_eq_true rfl)
theorem sX9_spares_39_3 : ab_X rom K cX9_spares 7 1 39 ls [w1, .ref a, v0, v1, v2] hp = if ab_iso hp a 7 = true then (K 185 (.ref a :: [w1]) hp).bind (fun o => ab_X rom K cX9_spares 7 1 42 ls (o.1.toList ++ [v0, v1, v2]) o.2) else none := ay_virtual (as := [w1]) (st := [v0, v1, v2]) dX9_spares_39 kc_7_213 rfl rfl (Nat.le_of_ble_eq_true rfl)
theorem dX9_spares_42 : decode cX9_spares 42 = .ok (.aload_n 0, 1) := by decide +kernel
theorem sX9_spares_42 : ab_X rom K cX9_spares 7 1 42 (.ref a :: ls) st hp = ab_X rom K cX9_spares 7 1 43 (.ref a :: ls) (.ref a :: st) hp := ax_aload_n dX9_spares_42 rfl rfl
theorem dX9_spares_43 : decode cX9_spares 43 = .ok (.getfield 26, 3) := by decide +kernel
theorem sX9_spares_43 : ab_X rom K cX9_spares 7 1 43 ls (.ref a :: st) hp = (ab_fld hp a 7 13).bind (fun v => ab_X rom K cX9_spares 7 1 46 ls (v :: st) hp) := ax_getfield dX9_spares_43 kf_7_26 rfl
theorem dX9_spares_46 : decode cX9_spares 46 = .ok (.iload 5, 2) := by decide +kernel
theorem sX9_spares_46 : ab_X rom K cX9_spares 7 1 46 (v0 :: v1 :: v2 :: v3 :: v4 :: .int x :: ls) st hp = ab_X rom K cX9_spares 7 1 48 (v0 :: v1 :: v2 :: v3 :: v4 :: .int x :: ls) (.int x :: st) hp := ax_iload dX9_spares_46 rfl rfl
theorem dX9_spares_48 : decode cX9_spares 48 = .ok (.iaload, 1) := by decide +kernel
theorem sX9_spares_48 : ab_X rom K cX9_spares 7 1 48 ls (.int x :: .ref a :: st) hp = (ab_ard rom 0 hp a x).bind (fun v => ab_X rom K cX9_spares 7 1 49 ls (.int v :: st) hp) := ax_iaload dX9_spares_48 rfl
theorem dX9_spares_49 : decode cX9_spares 49 = .ok (.istore 6, 2) := by decide +kernel
theorem sX9_spares_49i : ab_X rom K cX9_spares 7 1 49 (v0 :: v1 :: v2 :: v3 :: v4 :: .int y :: v6 :: ls) (.int x :: st) hp = ab_X rom K cX9_spares 7 1 51 (v0 :: v1 :: v2 :: v3 :: v4 :: .int y :: .int x :: ls) st hp := ax_istore dX9_spares_49 (ax_lt (v := v6) rfl) (ab_nl_c1 (j := 5) (v := .int y) rfl (ab_c1_int _)) rfl rfl
theorem sX9_spares_49r : ab_X rom K cX9_spares 7 1 49 (v0 :: v1 :: v2 :: v3 :: v4 :: .ref a2 :: v6 :: ls) (.int x :: st) hp = ab_X rom K cX9_spares 7 1 51 (v0 :: v1 :: v2 :: v3 :: v4 :: .ref a2 :: .int x :: ls) st hp := ax_istore dX9_spares_49 (ax_lt (v := v6) rfl) (ab_nl_c1 (j := 5) (v := .ref a2) rfl (ab_c1_ref _)) rfl rfl
theorem sX9_spares_49n : ab_X rom K cX9_spares 7 1 49 (v0 :: v1 :: v2 :: v3 :: v4 :: .null :: v6 :: ls) (.int x :: st) hp = ab_X rom K cX9_spares 7 1 51 (v0 :: v1 :: v2 :: v3 :: v4 :: .null :: .int x :: ls) st hp := ax_istore dX9_spares_49 (ax_lt (v := v6) rfl) (ab_nl_c1 (j := 5) (v := .null) rfl ab_c1_null) rfl rfl
theorem dX9_spares_51 : decode cX9_spares 51 = .ok (.aload_n 0, 1) := by decide +kernel
theorem sX9_spares_51 : ab_X rom K cX9_spares 7 1 51 (.ref a :: ls) st hp = ab_X rom K cX9_spares 7 1 52 (.ref a :: ls) (.ref a :: st) hp := ax_aload_n dX9_spares_51 rfl rfl
theorem dX9_spares_52 : decode cX9_spares 52 = .ok (.getfield 29, 3) := by decide +kernel
theorem sX9_spares_52 : ab_X rom K cX9_spares 7 1 52 ls (.ref a :: st) hp = (ab_fld hp a 7 14).bind (fun v => ab_X rom K cX9_spares 7 1 55 ls (v :: st) hp) := ax_getfield dX9_spares_52 kf_7_29 rfl
theorem dX9_spares_55 : decode cX9_spares 55 = .ok (.iload 5, 2) := by decide +kernel
theorem sX9_spares_55 : ab_X rom K cX9_spares 7 1 55 (v0 :: v1 :: v2 :: v3 :: v4 :: .int x :: ls) st hp = ab_X rom K cX9_spares 7 1 57 (v0 :: v1 :: v2 :: v3 :: v4 :: .int x :: ls) (.int x :: st) hp := ax_iload dX9_spares_55 rfl rfl
theorem dX9_spares_57 : decode cX9_spares 57 = .ok (.iaload, 1) := by decide +kernel
theorem sX9_spares_57 : ab_X rom K cX9_spares 7 1 57 ls (.int x :: .ref a :: st) hp = (ab_ard rom 0 hp a x).bind (fun v => ab_X rom K cX9_spares 7 1 58 ls (.int v :: st) hp) := ax_iaload dX9_spares_57 rfl
theorem dX9_spares_58 : decode cX9_spares 58 = .ok (.istore 7, 2) := by decide +kernel
theorem sX9_spares_58i : ab_X rom K cX9_spares 7 1 58 (v0 :: v1 :: v2 :: v3 :: v4 :: v5 :: .int y :: v7 :: ls) (.int x :: st) hp = ab_X rom K cX9_spares 7 1 60 (v0 :: v1 :: v2 :: v3 :: v4 :: v5 :: .int y :: .int x :: ls) st hp := ax_istore dX9_spares_58 (ax_lt (v := v7) rfl) (ab_nl_c1 (j := 6) (v := .int y) rfl (ab_c1_int _)) rfl rfl
theorem sX9_spares_58r : ab_X rom K cX9_spares 7 1 58 (v0 :: v1 :: v2 :: v3 :: v4 :: v5 :: .ref a2 :: v7 :: ls) (.int x :: st) hp = ab_X rom K cX9_spares 7 1 60 (v0 :: v1 :: v2 :: v3 :: v4 :: v5 :: .ref a2 :: .int x :: ls) st hp := ax_istore dX9_spares_58 (ax_lt (v := v7) rfl) (ab_nl_c1 (j := 6) (v := .ref a2) rfl (ab_c1_ref _)) rfl rfl
theorem sX9_spares_58n : ab_X rom K cX9_spares 7 1 58 (v0 :: v1 :: v2 :: v3 :: v4 :: v5 :: .null :: v7 :: ls) (.int x :: st) hp = ab_X rom K cX9_spares 7 1 60 (v0 :: v1 :: v2 :: v3 :: v4 :: v5 :: .null :: .int x :: ls) st hp := ax_istore dX9_spares_58 (ax_lt (v := v7) rfl) (ab_nl_c1 (j := 6) (v := .null) rfl ab_c1_null) rfl rfl
theorem dX9_spares_60 : decode cX9_spares 60 = .ok (.aload_n 0, 1) := by decide +kernel
theorem sX9_spares_60 : ab_X rom K cX9_spares 7 1 60 (.ref a :: ls) st hp = ab_X rom K cX9_spares 7 1 61 (.ref a :: ls) (.ref a :: st) hp := ax_aload_n dX9_spares_60 rfl rfl
theorem dX9_spares_61 : decode cX9_spares 61 = .ok (.iload_n 1, 1) := by decide +kernel
theorem sX9_spares_61 : ab_X rom K cX9_spares 7 1 61 (v0 :: .int x :: ls) st hp = ab_X rom K cX9_spares 7 1 62 (v0 :: .int x :: ls) (.int x :: st) hp := ax_iload_n dX9_spares_61 rfl rfl
theorem dX9_spares_62 : decode cX9_spares 62 = .ok (.iload 6, 2) := by decide +kernel
theorem sX9_spares_62 : ab_X rom K cX9_spares 7 1 62 (v0 :: v1 :: v2 :: v3 :: v4 :: v5 :: .int x :: ls) st hp = ab_X rom K cX9_spares 7 1 64 (v0 :: v1 :: v2 :: v3 :: v4 :: v5 :: .int x :: ls) (.int x :: st) hp := ax_iload dX9_spares_62 rfl rfl
theorem dX9_spares_64 : decode cX9_spares 64 = .ok (.iload 7, 2) := by decide +kernel
theorem sX9_spares_64 : ab_X rom K cX9_spares 7 1 64 (v0 :: v1 :: v2 :: v3 :: v4 :: v5 :: v6 :: .int x :: ls) st hp = ab_X rom K cX9_spares 7 1 66 (v0 :: v1 :: v2 :: v3 :: v4 :: v5 :: v6 :: .int x :: ls) (.int x :: st) hp := ax_iload dX9_spares_64 rfl rfl
theorem dX9_spares_66 : decode cX9_spares 66 = .ok (.invokevirtual 164, 3) := by decide +kernel
theorem sX9_spares_66_0 : ab_X rom K cX9_spares 7 1 66 ls [w3, w2, w1, .ref a] hp = if ab_iso hp a 7 = true then (K 180 (.ref a :: [w1, w2, w3]) hp).bind (fun o => ab_X rom K cX9_spares 7 1 69 ls (o.1.toList ++ []) o.2) else none := ay_virtual (as := [w1, w2, w3]) (st := []) dX9_spares_66 kc_7_164 rfl rfl (Nat.le_of_ble_eq_true rfl)
theorem sX9_spares_66_1 : ab_X rom K cX9_spares 7 1 66 ls [w3, w2, w1, .ref a, v0] hp = if ab_iso hp a 7 = true then (K 180 (.ref a :: [w1, w2, w3]) hp).bind (fun o => ab_X rom K cX9_spares 7 1 69 ls (o.1.toList ++ [v0]) o.2) else none := ay_virtual (as := [w1, w2, w3]) (st := [v0]) dX9_spares_66 kc_7_164 rfl rfl (Nat.le_of_ble_eq_true rfl)
theorem sX9_spares_66_2 : ab_X rom K cX9_spares 7 1 66 ls [w3, w2, w1, .ref a, v0, v1] hp = if ab_iso hp a 7 = true then (K 180 (.ref a :: [w1, w2, w3]) hp).bind (fun o => ab_X rom K cX9_spares 7 1 69 ls (o.1.toList ++ [v0, v1]) o.2) else none := ay_virtual (as := [w1, w2, w3]) (st := [v0, v1]) dX9_spares_66 kc_7_164 rfl rfl (Nat.le_of_ble_eq_true rfl)
theorem sX9_spares_66_3 : ab_X rom K cX9_spares 7 1 66 ls [w3, w2, w1, .ref a, v0, v1, v2] hp = if ab_iso hp a 7 = true then (K 180 (.ref a :: [w1, w2, w3]) hp).bind (fun o => ab_X rom K cX9_spares 7 1 69 ls (o.1.toList ++ [v0, v1, v2]) o.2) else none := ay_virtual (as := [w1, w2, w3]) (st := [v0, v1, v2]) dX9_spares_66 kc_7_164 rfl rfl (Nat.le_of_ble_eq_true rfl)
theorem dX9_spares_69 : decode cX9_spares 69 = .ok (.iload_n 3, 1) := by decide +kernel
theorem sX9_spares_69 : ab_X rom K cX9_spares 7 1 69 (v0 :: v1 :: v2 :: .int x :: ls) st hp = ab_X rom K cX9_spares 7 1 70 (v0 :: v1 :: v2 :: .int x :: ls) (.int x :: st) hp := ax_iload_n dX9_spares_69 rfl rfl
theorem dX9_spares_70 : decode cX9_spares 70 = .ok (.aload_n 0, 1) := by decide +kernel
theorem sX9_spares_70 : ab_X rom K cX9_spares 7 1 70 (.ref a :: ls) st hp = ab_X rom K cX9_spares 7 1 71 (.ref a :: ls) (.ref a :: st) hp := ax_aload_n dX9_spares_70 rfl rfl
theorem dX9_spares_71 : decode cX9_spares 71 = .ok (.iload_n 1, 1) := by decide +kernel
theorem sX9_spares_71 : ab_X rom K cX9_spares 7 1 71 (v0 :: .int x :: ls) st hp = ab_X rom K cX9_spares 7 1 72 (v0 :: .int x :: ls) (.int x :: st) hp := ax_iload_n dX9_spares_71 rfl rfl
theorem dX9_spares_72 : decode cX9_spares 72 = .ok (.iload_n 2, 1) := by decide +kernel
theorem sX9_spares_72 : ab_X rom K cX9_spares 7 1 72 (v0 :: v1 :: .int x :: ls) st hp = ab_X rom K cX9_spares 7 1 73 (v0 :: v1 :: .int x :: ls) (.int x :: st) hp := ax_iload_n dX9_spares_72 rfl rfl
theorem dX9_spares_73 : decode cX9_spares 73 = .ok (.iconst 0, 1) := by decide +kernel
theorem sX9_spares_73 : ab_X rom K cX9_spares 7 1 73 ls st hp = ab_X rom K cX9_spares 7 1 74 ls (.int 0 :: st) hp := ax_iconst dX9_spares_73 (by decide) rfl
theorem dX9_spares_74 : decode cX9_spares 74 = .ok (.iconst 1, 1) := by decide +kernel
theorem sX9_spares_74 : ab_X rom K cX9_spares 7 1 74 ls st hp = ab_X rom K cX9_spares 7 1 75 ls (.int 1 :: st) hp := ax_iconst dX9_spares_74 (by decide) rfl
theorem dX9_spares_75 : decode cX9_spares 75 = .ok (.invokevirtual 302, 3) := by decide +kernel
theorem sX9_spares_75_0 : ab_X rom K cX9_spares 7 1 75 ls [w4, w3, w2, w1, .ref a] hp = if ab_iso hp a 7 = true then (K 221 (.ref a :: [w1, w2, w3, w4]) hp).bind (fun o => ab_X rom K cX9_spares 7 1 78 ls (o.1.toList ++ []) o.2) else none := ay_virtual (as := [w1, w2, w3, w4]) (st := []) dX9_spares_75 kc_7_302 rfl rfl (Nat.le_of_ble_eq_true rfl)
theorem sX9_spares_75_1 : ab_X rom K cX9_spares 7 1 75 ls [w4, w3, w2, w1, .ref a, v0] hp = if ab_iso hp a 7 = true then (K 221 (.ref a :: [w1, w2, w3, w4]) hp).bind (fun o => ab_X rom K cX9_spares 7 1 78 ls (o.1.toList ++ [v0]) o.2) else none := ay_virtual (as := [w1, w2, w3, w4]) (st := [v0]) dX9_spares_75 kc_7_302 rfl rfl (Nat.le_of_ble_eq_true rfl)
theorem sX9_spares_75_2 : ab_X rom K cX9_spares 7 1 75 ls [w4, w3, w2, w1, .ref a, v0, v1] hp = if ab_iso hp a 7 = true then (K 221 (.ref a :: [w1, w2, w3, w4]) hp).bind (fun o => ab_X rom K cX9_spares 7 1 78 ls (o.1.toList ++ [v0, v1]) o.2) else none := ay_virtual (as := [w1, w2, w3, w4]) (st := [v0, v1]) dX9_spares_75 kc_7_302 rfl rfl (Nat.le_of_ble_eq_true rfl)
theorem sX9_spares_75_3 : ab_X rom K cX9_spares 7 1 75 ls [w4, w3, w2, w1, .ref a, v0, v1, v2] hp = if ab_iso hp a 7 = true then (K 221 (.ref a :: [w1, w2, w3, w4]) hp).bind (fun o => ab_X rom K cX9_spares 7 1 78 ls (o.1.toList ++ [v0, v1, v2]) o.2) else none := ay_virtual (as := [w1, w2, w3, w4]) (st := [v0, v1, v2]) dX9_spares_75 kc_7_302 rfl rfl (Nat.le_of_ble_eq_true rfl)
theorem dX9_spares_78 : decode cX9_spares 78 = .ok (.ifCond .eq 10, 3) := by decide +kernel
theorem sX9_spares_78 : ab_X rom K cX9_spares 7 1 78 ls (.int x :: st) hp = if x = 0 then ab_X rom K cX9_spares 7 1 88 ls st hp else ab_X rom K cX9_spares 7 1 81 ls st hp := ax_if_eq dX9_spares_78 (by decide) rfl
theorem dX9_spares_81 : decode cX9_spares 81 = .ok (.iconst 1, 1) := by decide +kernel
theorem sX9_spares_81 : ab_X rom K cX9_spares 7 1 81 ls st hp = ab_X rom K cX9_spares 7 1 82 ls (.int 1 :: st) hp := ax_iconst dX9_spares_81 (by decide) rfl
theorem dX9_spares_82 : decode cX9_spares 82 = .ok (.iload 5, 2) := by decide +kernel
theorem sX9_spares_82 : ab_X rom K cX9_spares 7 1 82 (v0 :: v1 :: v2 :: v3 :: v4 :: .int x :: ls) st hp = ab_X rom K cX9_spares 7 1 84 (v0 :: v1 :: v2 :: v3 :: v4 :: .int x :: ls) (.int x :: st) hp := ax_iload dX9_spares_82 rfl rfl
theorem dX9_spares_84 : decode cX9_spares 84 = .ok (.ishl, 1) := by decide +kernel
theorem sX9_spares_84 : ab_X rom K cX9_spares 7 1 84 ls (.int y :: .int x :: st) hp = ab_X rom K cX9_spares 7 1 85 ls (.int (x <<< (y &&& 31)) :: st) hp := ax_ishl dX9_spares_84 rfl
theorem dX9_spares_85 : decode cX9_spares 85 = .ok (.goto 4, 3) := by decide +kernel
theorem sX9_spares_85 : ab_X rom K cX9_spares 7 1 85 ls st hp = ab_X rom K cX9_spares 7 1 89 ls st hp := ax_goto dX9_spares_85 (by decide)
theorem dX9_spares_88 : decode cX9_spares 88 = .ok (.iconst 0, 1) := by decide +kernel
theorem sX9_spares_88 : ab_X rom K cX9_spares 7 1 88 ls st hp = ab_X rom K cX9_spares 7 1 89 ls (.int 0 :: st) hp := ax_iconst dX9_spares_88 (by decide) rfl
theorem dX9_spares_89 : decode cX9_spares 89 = .ok (.ior, 1) := by decide +kernel
theorem sX9_spares_89 : ab_X rom K cX9_spares 7 1 89 ls (.int y :: .int x :: st) hp = ab_X rom K cX9_spares 7 1 90 ls (.int (x ||| y) :: st) hp := ax_ior dX9_spares_89 rfl
theorem dX9_spares_90 : decode cX9_spares 90 = .ok (.istore_n 3, 1) := by decide +kernel
theorem sX9_spares_90i : ab_X rom K cX9_spares 7 1 90 (v0 :: v1 :: .int y :: v3 :: ls) (.int x :: st) hp = ab_X rom K cX9_spares 7 1 91 (v0 :: v1 :: .int y :: .int x :: ls) st hp := ax_istore_n dX9_spares_90 (ax_lt (v := v3) rfl) (ab_nl_c1 (j := 2) (v := .int y) rfl (ab_c1_int _)) rfl rfl
theorem sX9_spares_90r : ab_X rom K cX9_spares 7 1 90 (v0 :: v1 :: .ref a2 :: v3 :: ls) (.int x :: st) hp = ab_X rom K cX9_spares 7 1 91 (v0 :: v1 :: .ref a2 :: .int x :: ls) st hp := ax_istore_n dX9_spares_90 (ax_lt (v := v3) rfl) (ab_nl_c1 (j := 2) (v := .ref a2) rfl (ab_c1_ref _)) rfl rfl
theorem sX9_spares_90n : ab_X rom K cX9_spares 7 1 90 (v0 :: v1 :: .null :: v3 :: ls) (.int x :: st) hp = ab_X rom K cX9_spares 7 1 91 (v0 :: v1 :: .null :: .int x :: ls) st hp := ax_istore_n dX9_spares_90 (ax_lt (v := v3) rfl) (ab_nl_c1 (j := 2) (v := .null) rfl ab_c1_null) rfl rfl
theorem dX9_spares_91 : decode cX9_spares 91 = .ok (.aload_n 0, 1) := by decide +kernel
theorem sX9_spares_91 : ab_X rom K cX9_spares 7 1 91 (.ref a :: ls) st hp = ab_X rom K cX9_spares 7 1 92 (.ref a :: ls) (.ref a :: st) hp := ax_aload_n dX9_spares_91 rfl rfl
theorem dX9_spares_92 : decode cX9_spares 92 = .ok (.iload_n 1, 1) := by decide +kernel
theorem sX9_spares_92 : ab_X rom K cX9_spares 7 1 92 (v0 :: .int x :: ls) st hp = ab_X rom K cX9_spares 7 1 93 (v0 :: .int x :: ls) (.int x :: st) hp := ax_iload_n dX9_spares_92 rfl rfl
theorem dX9_spares_93 : decode cX9_spares 93 = .ok (.iload 6, 2) := by decide +kernel
theorem sX9_spares_93 : ab_X rom K cX9_spares 7 1 93 (v0 :: v1 :: v2 :: v3 :: v4 :: v5 :: .int x :: ls) st hp = ab_X rom K cX9_spares 7 1 95 (v0 :: v1 :: v2 :: v3 :: v4 :: v5 :: .int x :: ls) (.int x :: st) hp := ax_iload dX9_spares_93 rfl rfl
theorem dX9_spares_95 : decode cX9_spares 95 = .ok (.iload 7, 2) := by decide +kernel
theorem sX9_spares_95 : ab_X rom K cX9_spares 7 1 95 (v0 :: v1 :: v2 :: v3 :: v4 :: v5 :: v6 :: .int x :: ls) st hp = ab_X rom K cX9_spares 7 1 97 (v0 :: v1 :: v2 :: v3 :: v4 :: v5 :: v6 :: .int x :: ls) (.int x :: st) hp := ax_iload dX9_spares_95 rfl rfl
theorem dX9_spares_97 : decode cX9_spares 97 = .ok (.invokevirtual 164, 3) := by decide +kernel
theorem sX9_spares_97_0 : ab_X rom K cX9_spares 7 1 97 ls [w3, w2, w1, .ref a] hp = if ab_iso hp a 7 = true then (K 180 (.ref a :: [w1, w2, w3]) hp).bind (fun o => ab_X rom K cX9_spares 7 1 100 ls (o.1.toList ++ []) o.2) else none := ay_virtual (as := [w1, w2, w3]) (st := []) dX9_spares_97 kc_7_164 rfl rfl (Nat.le_of_ble_eq_true rfl)
theorem sX9_spares_97_1 : ab_X rom K cX9_spares 7 1 97 ls [w3, w2, w1, .ref a, v0] hp = if ab_iso hp a 7 = true then (K 180 (.ref a :: [w1, w2, w3]) hp).bind (fun o => ab_X rom K cX9_spares 7 1 100 ls (o.1.toList ++ [v0]) o.2) else none := ay_virtual (as := [w1, w2, w3]) (st := [v0]) dX9_spares_97 kc_7_164 rfl rfl (Nat.le_of_ble_eq_true rfl)
theorem sX9_spares_97_2 : ab_X rom K cX9_spares 7 1 97 ls [w3, w2, w1, .ref a, v0, v1] hp = if ab_iso hp a 7 = true then (K 180 (.ref a :: [w1, w2, w3]) hp).bind (fun o => ab_X rom K cX9_spares 7 1 100 ls (o.1.toList ++ [v0, v1]) o.2) else none := ay_virtual (as := [w1, w2, w3]) (st := [v0, v1]) dX9_spares_97 kc_7_164 rfl rfl (Nat.le_of_ble_eq_true rfl)
theorem sX9_spares_97_3 : ab_X rom K cX9_spares 7 1 97 ls [w3, w2, w1, .ref a, v0, v1, v2] hp = if ab_iso hp a 7 = true then (K 180 (.ref a :: [w1, w2, w3]) hp).bind (fun o => ab_X rom K cX9_spares 7 1 100 ls (o.1.toList ++ [v0, v1, v2]) o.2) else none := ay_virtual (as := [w1, w2, w3]) (st := [v0, v1, v2]) dX9_spares_97 kc_7_164 rfl rfl (Nat.le_of_ble_eq_true rfl)
theorem dX9_spares_100 : decode cX9_spares 100 = .ok (.iinc 5 1, 3) := by decide +kernel
theorem sX9_spares_100i : ab_X rom K cX9_spares 7 1 100 (v0 :: v1 :: v2 :: v3 :: .int y :: .int x :: ls) st hp = ab_X rom K cX9_spares 7 1 103 (v0 :: v1 :: v2 :: v3 :: .int y :: .int (x + 1) :: ls) st hp := ax_iinc dX9_spares_100 rfl (ab_nl_c1 (j := 4) (v := .int y) rfl (ab_c1_int _)) (by decide) rfl rfl
theorem sX9_spares_100r : ab_X rom K cX9_spares 7 1 100 (v0 :: v1 :: v2 :: v3 :: .ref a2 :: .int x :: ls) st hp = ab_X rom K cX9_spares 7 1 103 (v0 :: v1 :: v2 :: v3 :: .ref a2 :: .int (x + 1) :: ls) st hp := ax_iinc dX9_spares_100 rfl (ab_nl_c1 (j := 4) (v := .ref a2) rfl (ab_c1_ref _)) (by decide) rfl rfl
theorem sX9_spares_100n : ab_X rom K cX9_spares 7 1 100 (v0 :: v1 :: v2 :: v3 :: .null :: .int x :: ls) st hp = ab_X rom K cX9_spares 7 1 103 (v0 :: v1 :: v2 :: v3 :: .null :: .int (x + 1) :: ls) st hp := ax_iinc dX9_spares_100 rfl (ab_nl_c1 (j := 4) (v := .null) rfl ab_c1_null) (by decide) rfl rfl
theorem dX9_spares_103 : decode cX9_spares 103 = .ok (.goto (-73), 3) := by decide +kernel
theorem sX9_spares_103 : ab_X rom K cX9_spares 7 1 103 ls st hp = ab_X rom K cX9_spares 7 1 30 ls st hp := ax_goto dX9_spares_103 (by decide)
theorem dX9_spares_106 : decode cX9_spares 106 = .ok (.iload_n 3, 1) := by decide +kernel
theorem sX9_spares_106 : ab_X rom K cX9_spares 7 1 106 (v0 :: v1 :: v2 :: .int x :: ls) st hp = ab_X rom K cX9_spares 7 1 107 (v0 :: v1 :: v2 :: .int x :: ls) (.int x :: st) hp := ax_iload_n dX9_spares_106 rfl rfl
theorem dX9_spares_107 : decode cX9_spares 107 = .ok (.ireturn, 1) := by decide +kernel
theorem sX9_spares_107 : ab_X rom K cX9_spares 7 1 107 ls [.int x] hp = some (some (.int x), hp) := ax_iret dX9_spares_107 rfl
theorem tX9_sprouts : ab_mT[227]? = some (yX9_sprouts, cX9_sprouts, 5, 1, 7) := by decide +kernel
theorem mX9_sprouts {d : Nat} {a0 : Nat} {x0 : Int32} : ab_M rom (d + 1) 227 [.ref a0, .int x0] hp = ab_X rom (ab_M rom d) cX9_sprouts 7 1 0 [.ref a0, .int x0, .null, .null, .null] [] hp := ab_M_eq tX9_sprouts (Nat.le_of_ble_eq_true rfl)
theorem dX9_sprouts_0 : decode cX9_sprouts 0 = .ok (.aload_n 0, 1) := by decide +kernel
theorem sX9_sprouts_0 : ab_X rom K cX9_sprouts 7 1 0 (.ref a :: ls) st hp = ab_X rom K cX9_sprouts 7 1 1 (.ref a :: ls) (.ref a :: st) hp := ax_aload_n dX9_sprouts_0 rfl rfl
theorem dX9_sprouts_1 : decode cX9_sprouts 1 = .ok (.iload_n 1, 1) := by decide +kernel
theorem sX9_sprouts_1 : ab_X rom K cX9_sprouts 7 1 1 (v0 :: .int x :: ls) st hp = ab_X rom K cX9_sprouts 7 1 2 (v0 :: .int x :: ls) (.int x :: st) hp := ax_iload_n dX9_sprouts_1 rfl rfl
theorem dX9_sprouts_2 : decode cX9_sprouts 2 = .ok (.invokevirtual 68, 3) := by decide +kernel
theorem sX9_sprouts_2_0 : ab_X rom K cX9_sprouts 7 1 2 ls [w1, .ref a] hp = if ab_iso hp a 7 = true then (K 171 (.ref a :: [w1]) hp).bind (fun o => ab_X rom K cX9_sprouts 7 1 5 ls (o.1.toList ++ []) o.2) else none := ay_virtual (as := [w1]) (st := []) dX9_sprouts_2 kc_7_68 rfl rfl (Nat.le_of_ble_eq_true rfl)
theorem sX9_sprouts_2_1 : ab_X rom K cX9_sprouts 7 1 2 ls [w1, .ref a, v0] hp = if ab_iso hp a 7 = true then (K 171 (.ref a :: [w1]) hp).bind (fun o => ab_X rom K cX9_sprouts 7 1 5 ls (o.1.toList ++ [v0]) o.2) else none := ay_virtual (as := [w1]) (st := [v0]) dX9_sprouts_2 kc_7_68 rfl rfl (Nat.le_of_ble_eq_true rfl)
theorem sX9_sprouts_2_2 : ab_X rom K cX9_sprouts 7 1 2 ls [w1, .ref a, v0, v1] hp = if ab_iso hp a 7 = true then (K 171 (.ref a :: [w1]) hp).bind (fun o => ab_X rom K cX9_sprouts 7 1 5 ls (o.1.toList ++ [v0, v1]) o.2) else none := ay_virtual (as := [w1]) (st := [v0, v1]) dX9_sprouts_2 kc_7_68 rfl rfl (Nat.le_of_ble_eq_true rfl)
theorem sX9_sprouts_2_3 : ab_X rom K cX9_sprouts 7 1 2 ls [w1, .ref a, v0, v1, v2] hp = if ab_iso hp a 7 = true then (K 171 (.ref a :: [w1]) hp).bind (fun o => ab_X rom K cX9_sprouts 7 1 5 ls (o.1.toList ++ [v0, v1, v2]) o.2) else none := ay_virtual (as := [w1]) (st := [v0, v1, v2]) dX9_sprouts_2 kc_7_68 rfl rfl (Nat.le_of_ble_eq_true rfl)
theorem dX9_sprouts_5 : decode cX9_sprouts 5 = .ok (.ifCond .ne 6, 3) := by decide +kernel
theorem sX9_sprouts_5 : ab_X rom K cX9_sprouts 7 1 5 ls (.int x :: st) hp = if x = 0 then ab_X rom K cX9_sprouts 7 1 8 ls st hp else ab_X rom K cX9_sprouts 7 1 11 ls st hp := ax_if_ne dX9_sprouts_5 (by decide) rfl
theorem dX9_sprouts_8 : decode cX9_sprouts 8 = .ok (.bipush (-2), 2) := by decide +kernel
theorem sX9_sprouts_8 : ab_X rom K cX9_sprouts 7 1 8 ls st hp = ab_X rom K cX9_sprouts 7 1 10 ls (.int (-2) :: st) hp := ax_bipush dX9_sprouts_8 (by decide) rfl
theorem dX9_sprouts_10 : decode cX9_sprouts 10 = .ok (.ireturn, 1) := by decide +kernel
theorem sX9_sprouts_10 : ab_X rom K cX9_sprouts 7 1 10 ls [.int x] hp = some (some (.int x), hp) := ax_iret dX9_sprouts_10 rfl
theorem dX9_sprouts_11 : decode cX9_sprouts 11 = .ok (.aload_n 0, 1) := by decide +kernel
theorem sX9_sprouts_11 : ab_X rom K cX9_sprouts 7 1 11 (.ref a :: ls) st hp = ab_X rom K cX9_sprouts 7 1 12 (.ref a :: ls) (.ref a :: st) hp := ax_aload_n dX9_sprouts_11 rfl rfl
theorem dX9_sprouts_12 : decode cX9_sprouts 12 = .ok (.iload_n 1, 1) := by decide +kernel
theorem sX9_sprouts_12 : ab_X rom K cX9_sprouts 7 1 12 (v0 :: .int x :: ls) st hp = ab_X rom K cX9_sprouts 7 1 13 (v0 :: .int x :: ls) (.int x :: st) hp := ax_iload_n dX9_sprouts_12 rfl rfl
theorem dX9_sprouts_13 : decode cX9_sprouts 13 = .ok (.invokevirtual 64, 3) := by decide +kernel
theorem sX9_sprouts_13_0 : ab_X rom K cX9_sprouts 7 1 13 ls [w1, .ref a] hp = if ab_iso hp a 7 = true then (K 209 (.ref a :: [w1]) hp).bind (fun o => ab_X rom K cX9_sprouts 7 1 16 ls (o.1.toList ++ []) o.2) else none := ay_virtual (as := [w1]) (st := []) dX9_sprouts_13 kc_7_64 rfl rfl (Nat.le_of_ble_eq_true rfl)
theorem sX9_sprouts_13_1 : ab_X rom K cX9_sprouts 7 1 13 ls [w1, .ref a, v0] hp = if ab_iso hp a 7 = true then (K 209 (.ref a :: [w1]) hp).bind (fun o => ab_X rom K cX9_sprouts 7 1 16 ls (o.1.toList ++ [v0]) o.2) else none := ay_virtual (as := [w1]) (st := [v0]) dX9_sprouts_13 kc_7_64 rfl rfl (Nat.le_of_ble_eq_true rfl)
theorem sX9_sprouts_13_2 : ab_X rom K cX9_sprouts 7 1 13 ls [w1, .ref a, v0, v1] hp = if ab_iso hp a 7 = true then (K 209 (.ref a :: [w1]) hp).bind (fun o => ab_X rom K cX9_sprouts 7 1 16 ls (o.1.toList ++ [v0, v1]) o.2) else none := ay_virtual (as := [w1]) (st := [v0, v1]) dX9_sprouts_13 kc_7_64 rfl rfl (Nat.le_of_ble_eq_true rfl)
theorem sX9_sprouts_13_3 : ab_X rom K cX9_sprouts 7 1 13 ls [w1, .ref a, v0, v1, v2] hp = if ab_iso hp a 7 = true then (K 209 (.ref a :: [w1]) hp).bind (fun o => ab_X rom K cX9_sprouts 7 1 16 ls (o.1.toList ++ [v0, v1, v2]) o.2) else none := ay_virtual (as := [w1]) (st := [v0, v1, v2]) dX9_sprouts_13 kc_7_64 rfl rfl (Nat.le_of_ble_eq_true rfl)
theorem dX9_sprouts_16 : decode cX9_sprouts 16 = .ok (.istore_n 2, 1) := by decide +kernel
theorem sX9_sprouts_16i : ab_X rom K cX9_sprouts 7 1 16 (v0 :: .int y :: v2 :: ls) (.int x :: st) hp = ab_X rom K cX9_sprouts 7 1 17 (v0 :: .int y :: .int x :: ls) st hp := ax_istore_n dX9_sprouts_16 (ax_lt (v := v2) rfl) (ab_nl_c1 (j := 1) (v := .int y) rfl (ab_c1_int _)) rfl rfl
theorem sX9_sprouts_16r : ab_X rom K cX9_sprouts 7 1 16 (v0 :: .ref a2 :: v2 :: ls) (.int x :: st) hp = ab_X rom K cX9_sprouts 7 1 17 (v0 :: .ref a2 :: .int x :: ls) st hp := ax_istore_n dX9_sprouts_16 (ax_lt (v := v2) rfl) (ab_nl_c1 (j := 1) (v := .ref a2) rfl (ab_c1_ref _)) rfl rfl
theorem sX9_sprouts_16n : ab_X rom K cX9_sprouts 7 1 16 (v0 :: .null :: v2 :: ls) (.int x :: st) hp = ab_X rom K cX9_sprouts 7 1 17 (v0 :: .null :: .int x :: ls) st hp := ax_istore_n dX9_sprouts_16 (ax_lt (v := v2) rfl) (ab_nl_c1 (j := 1) (v := .null) rfl ab_c1_null) rfl rfl
theorem dX9_sprouts_17 : decode cX9_sprouts 17 = .ok (.aload_n 0, 1) := by decide +kernel
theorem sX9_sprouts_17 : ab_X rom K cX9_sprouts 7 1 17 (.ref a :: ls) st hp = ab_X rom K cX9_sprouts 7 1 18 (.ref a :: ls) (.ref a :: st) hp := ax_aload_n dX9_sprouts_17 rfl rfl
theorem dX9_sprouts_18 : decode cX9_sprouts 18 = .ok (.iload_n 1, 1) := by decide +kernel
theorem sX9_sprouts_18 : ab_X rom K cX9_sprouts 7 1 18 (v0 :: .int x :: ls) st hp = ab_X rom K cX9_sprouts 7 1 19 (v0 :: .int x :: ls) (.int x :: st) hp := ax_iload_n dX9_sprouts_18 rfl rfl
theorem dX9_sprouts_19 : decode cX9_sprouts 19 = .ok (.invokevirtual 150, 3) := by decide +kernel
theorem sX9_sprouts_19_0 : ab_X rom K cX9_sprouts 7 1 19 ls [w1, .ref a] hp = if ab_iso hp a 7 = true then (K 188 (.ref a :: [w1]) hp).bind (fun o => ab_X rom K cX9_sprouts 7 1 22 ls (o.1.toList ++ []) o.2) else none := ay_virtual (as := [w1]) (st := []) dX9_sprouts_19 kc_7_150 rfl rfl (Nat.le_of_ble_eq_true rfl)
theorem sX9_sprouts_19_1 : ab_X rom K cX9_sprouts 7 1 19 ls [w1, .ref a, v0] hp = if ab_iso hp a 7 = true then (K 188 (.ref a :: [w1]) hp).bind (fun o => ab_X rom K cX9_sprouts 7 1 22 ls (o.1.toList ++ [v0]) o.2) else none := ay_virtual (as := [w1]) (st := [v0]) dX9_sprouts_19 kc_7_150 rfl rfl (Nat.le_of_ble_eq_true rfl)
theorem sX9_sprouts_19_2 : ab_X rom K cX9_sprouts 7 1 19 ls [w1, .ref a, v0, v1] hp = if ab_iso hp a 7 = true then (K 188 (.ref a :: [w1]) hp).bind (fun o => ab_X rom K cX9_sprouts 7 1 22 ls (o.1.toList ++ [v0, v1]) o.2) else none := ay_virtual (as := [w1]) (st := [v0, v1]) dX9_sprouts_19 kc_7_150 rfl rfl (Nat.le_of_ble_eq_true rfl)
theorem sX9_sprouts_19_3 : ab_X rom K cX9_sprouts 7 1 19 ls [w1, .ref a, v0, v1, v2] hp = if ab_iso hp a 7 = true then (K 188 (.ref a :: [w1]) hp).bind (fun o => ab_X rom K cX9_sprouts 7 1 22 ls (o.1.toList ++ [v0, v1, v2]) o.2) else none := ay_virtual (as := [w1]) (st := [v0, v1, v2]) dX9_sprouts_19 kc_7_150 rfl rfl (Nat.le_of_ble_eq_true rfl)
theorem dX9_sprouts_22 : decode cX9_sprouts 22 = .ok (.istore_n 3, 1) := by decide +kernel
theorem sX9_sprouts_22i : ab_X rom K cX9_sprouts 7 1 22 (v0 :: v1 :: .int y :: v3 :: ls) (.int x :: st) hp = ab_X rom K cX9_sprouts 7 1 23 (v0 :: v1 :: .int y :: .int x :: ls) st hp := ax_istore_n dX9_sprouts_22 (ax_lt (v := v3) rfl) (ab_nl_c1 (j := 2) (v := .int y) rfl (ab_c1_int _)) rfl rfl
theorem sX9_sprouts_22r : ab_X rom K cX9_sprouts 7 1 22 (v0 :: v1 :: .ref a2 :: v3 :: ls) (.int x :: st) hp = ab_X rom K cX9_sprouts 7 1 23 (v0 :: v1 :: .ref a2 :: .int x :: ls) st hp := ax_istore_n dX9_sprouts_22 (ax_lt (v := v3) rfl) (ab_nl_c1 (j := 2) (v := .ref a2) rfl (ab_c1_ref _)) rfl rfl
theorem sX9_sprouts_22n : ab_X rom K cX9_sprouts 7 1 22 (v0 :: v1 :: .null :: v3 :: ls) (.int x :: st) hp = ab_X rom K cX9_sprouts 7 1 23 (v0 :: v1 :: .null :: .int x :: ls) st hp := ax_istore_n dX9_sprouts_22 (ax_lt (v := v3) rfl) (ab_nl_c1 (j := 2) (v := .null) rfl ab_c1_null) rfl rfl
theorem dX9_sprouts_23 : decode cX9_sprouts 23 = .ok (.iload_n 2, 1) := by decide +kernel
theorem sX9_sprouts_23 : ab_X rom K cX9_sprouts 7 1 23 (v0 :: v1 :: .int x :: ls) st hp = ab_X rom K cX9_sprouts 7 1 24 (v0 :: v1 :: .int x :: ls) (.int x :: st) hp := ax_iload_n dX9_sprouts_23 rfl rfl
theorem dX9_sprouts_24 : decode cX9_sprouts 24 = .ok (.bipush 7, 2) := by decide +kernel
theorem sX9_sprouts_24 : ab_X rom K cX9_sprouts 7 1 24 ls st hp = ab_X rom K cX9_sprouts 7 1 26 ls (.int 7 :: st) hp := ax_bipush dX9_sprouts_24 (by decide) rfl
theorem dX9_sprouts_26 : decode cX9_sprouts 26 = .ok (.if_icmp .eq 9, 3) := by decide +kernel
theorem sX9_sprouts_26 : ab_X rom K cX9_sprouts 7 1 26 ls (.int y :: .int x :: st) hp = if x = y then ab_X rom K cX9_sprouts 7 1 35 ls st hp else ab_X rom K cX9_sprouts 7 1 29 ls st hp := ax_icmp_eq dX9_sprouts_26 (by decide) rfl
theorem dX9_sprouts_29 : decode cX9_sprouts 29 = .ok (.iload_n 3, 1) := by decide +kernel
theorem sX9_sprouts_29 : ab_X rom K cX9_sprouts 7 1 29 (v0 :: v1 :: v2 :: .int x :: ls) st hp = ab_X rom K cX9_sprouts 7 1 30 (v0 :: v1 :: v2 :: .int x :: ls) (.int x :: st) hp := ax_iload_n dX9_sprouts_29 rfl rfl
theorem dX9_sprouts_30 : decode cX9_sprouts 30 = .ok (.bipush 10, 2) := by decide +kernel
theorem sX9_sprouts_30 : ab_X rom K cX9_sprouts 7 1 30 ls st hp = ab_X rom K cX9_sprouts 7 1 32 ls (.int 10 :: st) hp := ax_bipush dX9_sprouts_30 (by decide) rfl
theorem dX9_sprouts_32 : decode cX9_sprouts 32 = .ok (.if_icmp .ne 6, 3) := by decide +kernel
theorem sX9_sprouts_32 : ab_X rom K cX9_sprouts 7 1 32 ls (.int y :: .int x :: st) hp = if x = y then ab_X rom K cX9_sprouts 7 1 35 ls st hp else ab_X rom K cX9_sprouts 7 1 38 ls st hp := ax_icmp_ne dX9_sprouts_32 (by decide) rfl
theorem dX9_sprouts_35 : decode cX9_sprouts 35 = .ok (.bipush (-5), 2) := by decide +kernel
theorem sX9_sprouts_35 : ab_X rom K cX9_sprouts 7 1 35 ls st hp = ab_X rom K cX9_sprouts 7 1 37 ls (.int (-5) :: st) hp := ax_bipush dX9_sprouts_35 (by decide) rfl
theorem dX9_sprouts_37 : decode cX9_sprouts 37 = .ok (.ireturn, 1) := by decide +kernel
theorem sX9_sprouts_37 : ab_X rom K cX9_sprouts 7 1 37 ls [.int x] hp = some (some (.int x), hp) := ax_iret dX9_sprouts_37 rfl
theorem dX9_sprouts_38 : decode cX9_sprouts 38 = .ok (.aload_n 0, 1) := by decide +kernel
theorem sX9_sprouts_38 : ab_X rom K cX9_sprouts 7 1 38 (.ref a :: ls) st hp = ab_X rom K cX9_sprouts 7 1 39 (.ref a :: ls) (.ref a :: st) hp := ax_aload_n dX9_sprouts_38 rfl rfl
theorem dX9_sprouts_39 : decode cX9_sprouts 39 = .ok (.iload_n 1, 1) := by decide +kernel
theorem sX9_sprouts_39 : ab_X rom K cX9_sprouts 7 1 39 (v0 :: .int x :: ls) st hp = ab_X rom K cX9_sprouts 7 1 40 (v0 :: .int x :: ls) (.int x :: st) hp := ax_iload_n dX9_sprouts_39 rfl rfl
theorem dX9_sprouts_40 : decode cX9_sprouts 40 = .ok (.iconst 0, 1) := by decide +kernel
theorem sX9_sprouts_40 : ab_X rom K cX9_sprouts 7 1 40 ls st hp = ab_X rom K cX9_sprouts 7 1 41 ls (.int 0 :: st) hp := ax_iconst dX9_sprouts_40 (by decide) rfl
theorem dX9_sprouts_41 : decode cX9_sprouts 41 = .ok (.invokevirtual 281, 3) := by decide +kernel
theorem sX9_sprouts_41_0 : ab_X rom K cX9_sprouts 7 1 41 ls [w2, w1, .ref a] hp = if ab_iso hp a 7 = true then (K 237 (.ref a :: [w1, w2]) hp).bind (fun o => ab_X rom K cX9_sprouts 7 1 44 ls (o.1.toList ++ []) o.2) else none := ay_virtual (as := [w1, w2]) (st := []) dX9_sprouts_41 kc_7_281 rfl rfl (Nat.le_of_ble_eq_true rfl)
theorem sX9_sprouts_41_1 : ab_X rom K cX9_sprouts 7 1 41 ls [w2, w1, .ref a, v0] hp = if ab_iso hp a 7 = true then (K 237 (.ref a :: [w1, w2]) hp).bind (fun o => ab_X rom K cX9_sprouts 7 1 44 ls (o.1.toList ++ [v0]) o.2) else none := ay_virtual (as := [w1, w2]) (st := [v0]) dX9_sprouts_41 kc_7_281 rfl rfl (Nat.le_of_ble_eq_true rfl)
theorem sX9_sprouts_41_2 : ab_X rom K cX9_sprouts 7 1 41 ls [w2, w1, .ref a, v0, v1] hp = if ab_iso hp a 7 = true then (K 237 (.ref a :: [w1, w2]) hp).bind (fun o => ab_X rom K cX9_sprouts 7 1 44 ls (o.1.toList ++ [v0, v1]) o.2) else none := ay_virtual (as := [w1, w2]) (st := [v0, v1]) dX9_sprouts_41 kc_7_281 rfl rfl (Nat.le_of_ble_eq_true rfl)
theorem sX9_sprouts_41_3 : ab_X rom K cX9_sprouts 7 1 41 ls [w2, w1, .ref a, v0, v1, v2] hp = if ab_iso hp a 7 = true then (K 237 (.ref a :: [w1, w2]) hp).bind (fun o => ab_X rom K cX9_sprouts 7 1 44 ls (o.1.toList ++ [v0, v1, v2]) o.2) else none := ay_virtual (as := [w1, w2]) (st := [v0, v1, v2]) dX9_sprouts_41 kc_7_281 rfl rfl (Nat.le_of_ble_eq_true rfl)
theorem dX9_sprouts_44 : decode cX9_sprouts 44 = .ok (.ifCond .eq 6, 3) := by decide +kernel
theorem sX9_sprouts_44 : ab_X rom K cX9_sprouts 7 1 44 ls (.int x :: st) hp = if x = 0 then ab_X rom K cX9_sprouts 7 1 50 ls st hp else ab_X rom K cX9_sprouts 7 1 47 ls st hp := ax_if_eq dX9_sprouts_44 (by decide) rfl
theorem dX9_sprouts_47 : decode cX9_sprouts 47 = .ok (.bipush (-6), 2) := by decide +kernel
theorem sX9_sprouts_47 : ab_X rom K cX9_sprouts 7 1 47 ls st hp = ab_X rom K cX9_sprouts 7 1 49 ls (.int (-6) :: st) hp := ax_bipush dX9_sprouts_47 (by decide) rfl
theorem dX9_sprouts_49 : decode cX9_sprouts 49 = .ok (.ireturn, 1) := by decide +kernel
theorem sX9_sprouts_49 : ab_X rom K cX9_sprouts 7 1 49 ls [.int x] hp = some (some (.int x), hp) := ax_iret dX9_sprouts_49 rfl
theorem dX9_sprouts_50 : decode cX9_sprouts 50 = .ok (.aload_n 0, 1) := by decide +kernel
theorem sX9_sprouts_50 : ab_X rom K cX9_sprouts 7 1 50 (.ref a :: ls) st hp = ab_X rom K cX9_sprouts 7 1 51 (.ref a :: ls) (.ref a :: st) hp := ax_aload_n dX9_sprouts_50 rfl rfl
theorem dX9_sprouts_51 : decode cX9_sprouts 51 = .ok (.invokevirtual 87, 3) := by decide +kernel
theorem sX9_sprouts_51_0 : ab_X rom K cX9_sprouts 7 1 51 ls [.ref a] hp = if ab_iso hp a 7 = true then (K 214 (.ref a :: []) hp).bind (fun o => ab_X rom K cX9_sprouts 7 1 54 ls (o.1.toList ++ []) o.2) else none := ay_virtual (as := []) (st := []) dX9_sprouts_51 kc_7_87 rfl rfl (Nat.le_of_ble_eq_true rfl)
theorem sX9_sprouts_51_1 : ab_X rom K cX9_sprouts 7 1 51 ls [.ref a, v0] hp = if ab_iso hp a 7 = true then (K 214 (.ref a :: []) hp).bind (fun o => ab_X rom K cX9_sprouts 7 1 54 ls (o.1.toList ++ [v0]) o.2) else none := ay_virtual (as := []) (st := [v0]) dX9_sprouts_51 kc_7_87 rfl rfl (Nat.le_of_ble_eq_true rfl)
theorem sX9_sprouts_51_2 : ab_X rom K cX9_sprouts 7 1 51 ls [.ref a, v0, v1] hp = if ab_iso hp a 7 = true then (K 214 (.ref a :: []) hp).bind (fun o => ab_X rom K cX9_sprouts 7 1 54 ls (o.1.toList ++ [v0, v1]) o.2) else none := ay_virtual (as := []) (st := [v0, v1]) dX9_sprouts_51 kc_7_87 rfl rfl (Nat.le_of_ble_eq_true rfl)
theorem sX9_sprouts_51_3 : ab_X rom K cX9_sprouts 7 1 51 ls [.ref a, v0, v1, v2] hp = if ab_iso hp a 7 = true then (K 214 (.ref a :: []) hp).bind (fun o => ab_X rom K cX9_sprouts 7 1 54 ls (o.1.toList ++ [v0, v1, v2]) o.2) else none := ay_virtual (as := []) (st := [v0, v1, v2]) dX9_sprouts_51 kc_7_87 rfl rfl (Nat.le_of_ble_eq_true rfl)
theorem dX9_sprouts_54 : decode cX9_sprouts 54 = .ok (.aload_n 0, 1) := by decide +kernel
theorem sX9_sprouts_54 : ab_X rom K cX9_sprouts 7 1 54 (.ref a :: ls) st hp = ab_X rom K cX9_sprouts 7 1 55 (.ref a :: ls) (.ref a :: st) hp := ax_aload_n dX9_sprouts_54 rfl rfl
theorem dX9_sprouts_55 : decode cX9_sprouts 55 = .ok (.iload_n 1, 1) := by decide +kernel
theorem sX9_sprouts_55 : ab_X rom K cX9_sprouts 7 1 55 (v0 :: .int x :: ls) st hp = ab_X rom K cX9_sprouts 7 1 56 (v0 :: .int x :: ls) (.int x :: st) hp := ax_iload_n dX9_sprouts_55 rfl rfl
theorem dX9_sprouts_56 : decode cX9_sprouts 56 = .ok (.iconst 0, 1) := by decide +kernel
theorem sX9_sprouts_56 : ab_X rom K cX9_sprouts 7 1 56 ls st hp = ab_X rom K cX9_sprouts 7 1 57 ls (.int 0 :: st) hp := ax_iconst dX9_sprouts_56 (by decide) rfl
theorem dX9_sprouts_57 : decode cX9_sprouts 57 = .ok (.invokevirtual 325, 3) := by decide +kernel
theorem sX9_sprouts_57_0 : ab_X rom K cX9_sprouts 7 1 57 ls [w2, w1, .ref a] hp = if ab_iso hp a 7 = true then (K 239 (.ref a :: [w1, w2]) hp).bind (fun o => ab_X rom K cX9_sprouts 7 1 60 ls (o.1.toList ++ []) o.2) else none := ay_virtual (as := [w1, w2]) (st := []) dX9_sprouts_57 kc_7_325 rfl rfl (Nat.le_of_ble_eq_true rfl)
theorem sX9_sprouts_57_1 : ab_X rom K cX9_sprouts 7 1 57 ls [w2, w1, .ref a, v0] hp = if ab_iso hp a 7 = true then (K 239 (.ref a :: [w1, w2]) hp).bind (fun o => ab_X rom K cX9_sprouts 7 1 60 ls (o.1.toList ++ [v0]) o.2) else none := ay_virtual (as := [w1, w2]) (st := [v0]) dX9_sprouts_57 kc_7_325 rfl rfl (Nat.le_of_ble_eq_true rfl)
theorem sX9_sprouts_57_2 : ab_X rom K cX9_sprouts 7 1 57 ls [w2, w1, .ref a, v0, v1] hp = if ab_iso hp a 7 = true then (K 239 (.ref a :: [w1, w2]) hp).bind (fun o => ab_X rom K cX9_sprouts 7 1 60 ls (o.1.toList ++ [v0, v1]) o.2) else none := ay_virtual (as := [w1, w2]) (st := [v0, v1]) dX9_sprouts_57 kc_7_325 rfl rfl (Nat.le_of_ble_eq_true rfl)
theorem sX9_sprouts_57_3 : ab_X rom K cX9_sprouts 7 1 57 ls [w2, w1, .ref a, v0, v1, v2] hp = if ab_iso hp a 7 = true then (K 239 (.ref a :: [w1, w2]) hp).bind (fun o => ab_X rom K cX9_sprouts 7 1 60 ls (o.1.toList ++ [v0, v1, v2]) o.2) else none := ay_virtual (as := [w1, w2]) (st := [v0, v1, v2]) dX9_sprouts_57 kc_7_325 rfl rfl (Nat.le_of_ble_eq_true rfl)
theorem dX9_sprouts_60 : decode cX9_sprouts 60 = .ok (.istore 4, 2) := by decide +kernel
theorem sX9_sprouts_60i : ab_X rom K cX9_sprouts 7 1 60 (v0 :: v1 :: v2 :: .int y :: v4 :: ls) (.int x :: st) hp = ab_X rom K cX9_sprouts 7 1 62 (v0 :: v1 :: v2 :: .int y :: .int x :: ls) st hp := ax_istore dX9_sprouts_60 (ax_lt (v := v4) rfl) (ab_nl_c1 (j := 3) (v := .int y) rfl (ab_c1_int _)) rfl rfl
theorem sX9_sprouts_60r : ab_X rom K cX9_sprouts 7 1 60 (v0 :: v1 :: v2 :: .ref a2 :: v4 :: ls) (.int x :: st) hp = ab_X rom K cX9_sprouts 7 1 62 (v0 :: v1 :: v2 :: .ref a2 :: .int x :: ls) st hp := ax_istore dX9_sprouts_60 (ax_lt (v := v4) rfl) (ab_nl_c1 (j := 3) (v := .ref a2) rfl (ab_c1_ref _)) rfl rfl
theorem sX9_sprouts_60n : ab_X rom K cX9_sprouts 7 1 60 (v0 :: v1 :: v2 :: .null :: v4 :: ls) (.int x :: st) hp = ab_X rom K cX9_sprouts 7 1 62 (v0 :: v1 :: v2 :: .null :: .int x :: ls) st hp := ax_istore dX9_sprouts_60 (ax_lt (v := v4) rfl) (ab_nl_c1 (j := 3) (v := .null) rfl ab_c1_null) rfl rfl
theorem dX9_sprouts_62 : decode cX9_sprouts 62 = .ok (.aload_n 0, 1) := by decide +kernel
theorem sX9_sprouts_62 : ab_X rom K cX9_sprouts 7 1 62 (.ref a :: ls) st hp = ab_X rom K cX9_sprouts 7 1 63 (.ref a :: ls) (.ref a :: st) hp := ax_aload_n dX9_sprouts_62 rfl rfl
theorem dX9_sprouts_63 : decode cX9_sprouts 63 = .ok (.getfield 7, 3) := by decide +kernel
theorem sX9_sprouts_63 : ab_X rom K cX9_sprouts 7 1 63 ls (.ref a :: st) hp = (ab_fld hp a 7 0).bind (fun v => ab_X rom K cX9_sprouts 7 1 66 ls (v :: st) hp) := ax_getfield dX9_sprouts_63 kf_7_7 rfl
theorem dX9_sprouts_66 : decode cX9_sprouts 66 = .ok (.bipush 15, 2) := by decide +kernel
theorem sX9_sprouts_66 : ab_X rom K cX9_sprouts 7 1 66 ls st hp = ab_X rom K cX9_sprouts 7 1 68 ls (.int 15 :: st) hp := ax_bipush dX9_sprouts_66 (by decide) rfl
theorem dX9_sprouts_68 : decode cX9_sprouts 68 = .ok (.iload_n 1, 1) := by decide +kernel
theorem sX9_sprouts_68 : ab_X rom K cX9_sprouts 7 1 68 (v0 :: .int x :: ls) st hp = ab_X rom K cX9_sprouts 7 1 69 (v0 :: .int x :: ls) (.int x :: st) hp := ax_iload_n dX9_sprouts_68 rfl rfl
theorem dX9_sprouts_69 : decode cX9_sprouts 69 = .ok (.imul, 1) := by decide +kernel
theorem sX9_sprouts_69 : ab_X rom K cX9_sprouts 7 1 69 ls (.int y :: .int x :: st) hp = ab_X rom K cX9_sprouts 7 1 70 ls (.int (x * y) :: st) hp := ax_imul dX9_sprouts_69 rfl
theorem dX9_sprouts_70 : decode cX9_sprouts 70 = .ok (.iload_n 2, 1) := by decide +kernel
theorem sX9_sprouts_70 : ab_X rom K cX9_sprouts 7 1 70 (v0 :: v1 :: .int x :: ls) st hp = ab_X rom K cX9_sprouts 7 1 71 (v0 :: v1 :: .int x :: ls) (.int x :: st) hp := ax_iload_n dX9_sprouts_70 rfl rfl
theorem dX9_sprouts_71 : decode cX9_sprouts 71 = .ok (.iconst 1, 1) := by decide +kernel
theorem sX9_sprouts_71 : ab_X rom K cX9_sprouts 7 1 71 ls st hp = ab_X rom K cX9_sprouts 7 1 72 ls (.int 1 :: st) hp := ax_iconst dX9_sprouts_71 (by decide) rfl
theorem dX9_sprouts_72 : decode cX9_sprouts 72 = .ok (.iadd, 1) := by decide +kernel
theorem sX9_sprouts_72 : ab_X rom K cX9_sprouts 7 1 72 ls (.int y :: .int x :: st) hp = ab_X rom K cX9_sprouts 7 1 73 ls (.int (x + y) :: st) hp := ax_iadd dX9_sprouts_72 rfl
theorem dX9_sprouts_73 : decode cX9_sprouts 73 = .ok (.iastore, 1) := by decide +kernel
theorem sX9_sprouts_73 : ab_X rom K cX9_sprouts 7 1 73 ls (.int y :: .int x :: .ref a :: st) hp = (ab_awr 0 hp a x y).bind (fun hp' => ab_X rom K cX9_sprouts 7 1 74 ls st hp') := ax_iastore dX9_sprouts_73 rfl
theorem dX9_sprouts_74 : decode cX9_sprouts 74 = .ok (.aload_n 0, 1) := by decide +kernel
theorem sX9_sprouts_74 : ab_X rom K cX9_sprouts 7 1 74 (.ref a :: ls) st hp = ab_X rom K cX9_sprouts 7 1 75 (.ref a :: ls) (.ref a :: st) hp := ax_aload_n dX9_sprouts_74 rfl rfl
theorem dX9_sprouts_75 : decode cX9_sprouts 75 = .ok (.getfield 7, 3) := by decide +kernel
theorem sX9_sprouts_75 : ab_X rom K cX9_sprouts 7 1 75 ls (.ref a :: st) hp = (ab_fld hp a 7 0).bind (fun v => ab_X rom K cX9_sprouts 7 1 78 ls (v :: st) hp) := ax_getfield dX9_sprouts_75 kf_7_7 rfl
theorem dX9_sprouts_78 : decode cX9_sprouts 78 = .ok (.bipush 15, 2) := by decide +kernel
theorem sX9_sprouts_78 : ab_X rom K cX9_sprouts 7 1 78 ls st hp = ab_X rom K cX9_sprouts 7 1 80 ls (.int 15 :: st) hp := ax_bipush dX9_sprouts_78 (by decide) rfl
theorem dX9_sprouts_80 : decode cX9_sprouts 80 = .ok (.iload_n 1, 1) := by decide +kernel
theorem sX9_sprouts_80 : ab_X rom K cX9_sprouts 7 1 80 (v0 :: .int x :: ls) st hp = ab_X rom K cX9_sprouts 7 1 81 (v0 :: .int x :: ls) (.int x :: st) hp := ax_iload_n dX9_sprouts_80 rfl rfl
theorem dX9_sprouts_81 : decode cX9_sprouts 81 = .ok (.imul, 1) := by decide +kernel
theorem sX9_sprouts_81 : ab_X rom K cX9_sprouts 7 1 81 ls (.int y :: .int x :: st) hp = ab_X rom K cX9_sprouts 7 1 82 ls (.int (x * y) :: st) hp := ax_imul dX9_sprouts_81 rfl
theorem dX9_sprouts_82 : decode cX9_sprouts 82 = .ok (.bipush 8, 2) := by decide +kernel
theorem sX9_sprouts_82 : ab_X rom K cX9_sprouts 7 1 82 ls st hp = ab_X rom K cX9_sprouts 7 1 84 ls (.int 8 :: st) hp := ax_bipush dX9_sprouts_82 (by decide) rfl
theorem dX9_sprouts_84 : decode cX9_sprouts 84 = .ok (.iadd, 1) := by decide +kernel
theorem sX9_sprouts_84 : ab_X rom K cX9_sprouts 7 1 84 ls (.int y :: .int x :: st) hp = ab_X rom K cX9_sprouts 7 1 85 ls (.int (x + y) :: st) hp := ax_iadd dX9_sprouts_84 rfl
theorem dX9_sprouts_85 : decode cX9_sprouts 85 = .ok (.iload_n 2, 1) := by decide +kernel
theorem sX9_sprouts_85 : ab_X rom K cX9_sprouts 7 1 85 (v0 :: v1 :: .int x :: ls) st hp = ab_X rom K cX9_sprouts 7 1 86 (v0 :: v1 :: .int x :: ls) (.int x :: st) hp := ax_iload_n dX9_sprouts_85 rfl rfl
theorem dX9_sprouts_86 : decode cX9_sprouts 86 = .ok (.iadd, 1) := by decide +kernel
theorem sX9_sprouts_86 : ab_X rom K cX9_sprouts 7 1 86 ls (.int y :: .int x :: st) hp = ab_X rom K cX9_sprouts 7 1 87 ls (.int (x + y) :: st) hp := ax_iadd dX9_sprouts_86 rfl
theorem dX9_sprouts_87 : decode cX9_sprouts 87 = .ok (.iload_n 3, 1) := by decide +kernel
theorem sX9_sprouts_87 : ab_X rom K cX9_sprouts 7 1 87 (v0 :: v1 :: v2 :: .int x :: ls) st hp = ab_X rom K cX9_sprouts 7 1 88 (v0 :: v1 :: v2 :: .int x :: ls) (.int x :: st) hp := ax_iload_n dX9_sprouts_87 rfl rfl
theorem dX9_sprouts_88 : decode cX9_sprouts 88 = .ok (.iconst 1, 1) := by decide +kernel
theorem sX9_sprouts_88 : ab_X rom K cX9_sprouts 7 1 88 ls st hp = ab_X rom K cX9_sprouts 7 1 89 ls (.int 1 :: st) hp := ax_iconst dX9_sprouts_88 (by decide) rfl
theorem dX9_sprouts_89 : decode cX9_sprouts 89 = .ok (.iadd, 1) := by decide +kernel
theorem sX9_sprouts_89 : ab_X rom K cX9_sprouts 7 1 89 ls (.int y :: .int x :: st) hp = ab_X rom K cX9_sprouts 7 1 90 ls (.int (x + y) :: st) hp := ax_iadd dX9_sprouts_89 rfl
theorem dX9_sprouts_90 : decode cX9_sprouts 90 = .ok (.iastore, 1) := by decide +kernel
theorem sX9_sprouts_90 : ab_X rom K cX9_sprouts 7 1 90 ls (.int y :: .int x :: .ref a :: st) hp = (ab_awr 0 hp a x y).bind (fun hp' => ab_X rom K cX9_sprouts 7 1 91 ls st hp') := ax_iastore dX9_sprouts_90 rfl
theorem dX9_sprouts_91 : decode cX9_sprouts 91 = .ok (.aload_n 0, 1) := by decide +kernel
theorem sX9_sprouts_91 : ab_X rom K cX9_sprouts 7 1 91 (.ref a :: ls) st hp = ab_X rom K cX9_sprouts 7 1 92 (.ref a :: ls) (.ref a :: st) hp := ax_aload_n dX9_sprouts_91 rfl rfl
theorem dX9_sprouts_92 : decode cX9_sprouts 92 = .ok (.iload_n 1, 1) := by decide +kernel
theorem sX9_sprouts_92 : ab_X rom K cX9_sprouts 7 1 92 (v0 :: .int x :: ls) st hp = ab_X rom K cX9_sprouts 7 1 93 (v0 :: .int x :: ls) (.int x :: st) hp := ax_iload_n dX9_sprouts_92 rfl rfl
theorem dX9_sprouts_93 : decode cX9_sprouts 93 = .ok (.iload 4, 2) := by decide +kernel
theorem sX9_sprouts_93 : ab_X rom K cX9_sprouts 7 1 93 (v0 :: v1 :: v2 :: v3 :: .int x :: ls) st hp = ab_X rom K cX9_sprouts 7 1 95 (v0 :: v1 :: v2 :: v3 :: .int x :: ls) (.int x :: st) hp := ax_iload dX9_sprouts_93 rfl rfl
theorem dX9_sprouts_95 : decode cX9_sprouts 95 = .ok (.iload_n 2, 1) := by decide +kernel
theorem sX9_sprouts_95 : ab_X rom K cX9_sprouts 7 1 95 (v0 :: v1 :: .int x :: ls) st hp = ab_X rom K cX9_sprouts 7 1 96 (v0 :: v1 :: .int x :: ls) (.int x :: st) hp := ax_iload_n dX9_sprouts_95 rfl rfl
theorem dX9_sprouts_96 : decode cX9_sprouts 96 = .ok (.invokevirtual 164, 3) := by decide +kernel
theorem sX9_sprouts_96_0 : ab_X rom K cX9_sprouts 7 1 96 ls [w3, w2, w1, .ref a] hp = if ab_iso hp a 7 = true then (K 180 (.ref a :: [w1, w2, w3]) hp).bind (fun o => ab_X rom K cX9_sprouts 7 1 99 ls (o.1.toList ++ []) o.2) else none := ay_virtual (as := [w1, w2, w3]) (st := []) dX9_sprouts_96 kc_7_164 rfl rfl (Nat.le_of_ble_eq_true rfl)
theorem sX9_sprouts_96_1 : ab_X rom K cX9_sprouts 7 1 96 ls [w3, w2, w1, .ref a, v0] hp = if ab_iso hp a 7 = true then (K 180 (.ref a :: [w1, w2, w3]) hp).bind (fun o => ab_X rom K cX9_sprouts 7 1 99 ls (o.1.toList ++ [v0]) o.2) else none := ay_virtual (as := [w1, w2, w3]) (st := [v0]) dX9_sprouts_96 kc_7_164 rfl rfl (Nat.le_of_ble_eq_true rfl)
theorem sX9_sprouts_96_2 : ab_X rom K cX9_sprouts 7 1 96 ls [w3, w2, w1, .ref a, v0, v1] hp = if ab_iso hp a 7 = true then (K 180 (.ref a :: [w1, w2, w3]) hp).bind (fun o => ab_X rom K cX9_sprouts 7 1 99 ls (o.1.toList ++ [v0, v1]) o.2) else none := ay_virtual (as := [w1, w2, w3]) (st := [v0, v1]) dX9_sprouts_96 kc_7_164 rfl rfl (Nat.le_of_ble_eq_true rfl)
theorem sX9_sprouts_96_3 : ab_X rom K cX9_sprouts 7 1 96 ls [w3, w2, w1, .ref a, v0, v1, v2] hp = if ab_iso hp a 7 = true then (K 180 (.ref a :: [w1, w2, w3]) hp).bind (fun o => ab_X rom K cX9_sprouts 7 1 99 ls (o.1.toList ++ [v0, v1, v2]) o.2) else none := ay_virtual (as := [w1, w2, w3]) (st := [v0, v1, v2]) dX9_sprouts_96 kc_7_164 rfl rfl (Nat.le_of_ble_eq_true rfl)
theorem dX9_sprouts_99 : decode cX9_sprouts 99 = .ok (.aload_n 0, 1) := by decide +kernel
theorem sX9_sprouts_99 : ab_X rom K cX9_sprouts 7 1 99 (.ref a :: ls) st hp = ab_X rom K cX9_sprouts 7 1 100 (.ref a :: ls) (.ref a :: st) hp := ax_aload_n dX9_sprouts_99 rfl rfl
theorem dX9_sprouts_100 : decode cX9_sprouts 100 = .ok (.iload_n 2, 1) := by decide +kernel
theorem sX9_sprouts_100 : ab_X rom K cX9_sprouts 7 1 100 (v0 :: v1 :: .int x :: ls) st hp = ab_X rom K cX9_sprouts 7 1 101 (v0 :: v1 :: .int x :: ls) (.int x :: st) hp := ax_iload_n dX9_sprouts_100 rfl rfl
theorem dX9_sprouts_101 : decode cX9_sprouts 101 = .ok (.iconst 1, 1) := by decide +kernel
theorem sX9_sprouts_101 : ab_X rom K cX9_sprouts 7 1 101 ls st hp = ab_X rom K cX9_sprouts 7 1 102 ls (.int 1 :: st) hp := ax_iconst dX9_sprouts_101 (by decide) rfl
theorem dX9_sprouts_102 : decode cX9_sprouts 102 = .ok (.iadd, 1) := by decide +kernel
theorem sX9_sprouts_102 : ab_X rom K cX9_sprouts 7 1 102 ls (.int y :: .int x :: st) hp = ab_X rom K cX9_sprouts 7 1 103 ls (.int (x + y) :: st) hp := ax_iadd dX9_sprouts_102 rfl
theorem dX9_sprouts_103 : decode cX9_sprouts 103 = .ok (.invokevirtual 94, 3) := by decide +kernel
theorem sX9_sprouts_103_0 : ab_X rom K cX9_sprouts 7 1 103 ls [w1, .ref a] hp = if ab_iso hp a 7 = true then (K 144 (.ref a :: [w1]) hp).bind (fun o => ab_X rom K cX9_sprouts 7 1 106 ls (o.1.toList ++ []) o.2) else none := ay_virtual (as := [w1]) (st := []) dX9_sprouts_103 kc_7_94 rfl rfl (Nat.le_of_ble_eq_true rfl)
theorem sX9_sprouts_103_1 : ab_X rom K cX9_sprouts 7 1 103 ls [w1, .ref a, v0] hp = if ab_iso hp a 7 = true then (K 144 (.ref a :: [w1]) hp).bind (fun o => ab_X rom K cX9_sprouts 7 1 106 ls (o.1.toList ++ [v0]) o.2) else none := ay_virtual (as := [w1]) (st := [v0]) dX9_sprouts_103 kc_7_94 rfl rfl (Nat.le_of_ble_eq_true rfl)
theorem sX9_sprouts_103_2 : ab_X rom K cX9_sprouts 7 1 103 ls [w1, .ref a, v0, v1] hp = if ab_iso hp a 7 = true then (K 144 (.ref a :: [w1]) hp).bind (fun o => ab_X rom K cX9_sprouts 7 1 106 ls (o.1.toList ++ [v0, v1]) o.2) else none := ay_virtual (as := [w1]) (st := [v0, v1]) dX9_sprouts_103 kc_7_94 rfl rfl (Nat.le_of_ble_eq_true rfl)
theorem sX9_sprouts_103_3 : ab_X rom K cX9_sprouts 7 1 103 ls [w1, .ref a, v0, v1, v2] hp = if ab_iso hp a 7 = true then (K 144 (.ref a :: [w1]) hp).bind (fun o => ab_X rom K cX9_sprouts 7 1 106 ls (o.1.toList ++ [v0, v1, v2]) o.2) else none := ay_virtual (as := [w1]) (st := [v0, v1, v2]) dX9_sprouts_103 kc_7_94 rfl rfl (Nat.le_of_ble_eq_true rfl)
theorem dX9_sprouts_106 : decode cX9_sprouts 106 = .ok (.ireturn, 1) := by decide +kernel
theorem sX9_sprouts_106 : ab_X rom K cX9_sprouts 7 1 106 ls [.int x] hp = some (some (.int x), hp) := ax_iret dX9_sprouts_106 rfl
theorem tX9_sure : ab_mT[228]? = some (yX9_sure, cX9_sure, 6, 1, 7) := by decide +kernel
theorem mX9_sure {d : Nat} {a0 : Nat} {x0 : Int32} {x1 : Int32} : ab_M rom (d + 1) 228 [.ref a0, .int x0, .int x1] hp = ab_X rom (ab_M rom d) cX9_sure 7 1 0 [.ref a0, .int x0, .int x1, .null, .null, .null] [] hp := ab_M_eq tX9_sure (Nat.le_of_ble_eq_true rfl)
theorem dX9_sure_0 : decode cX9_sure 0 = .ok (.aload_n 0, 1) := by decide +kernel
theorem sX9_sure_0 : ab_X rom K cX9_sure 7 1 0 (.ref a :: ls) st hp = ab_X rom K cX9_sure 7 1 1 (.ref a :: ls) (.ref a :: st) hp := ax_aload_n dX9_sure_0 rfl rfl
theorem dX9_sure_1 : decode cX9_sure 1 = .ok (.iload_n 1, 1) := by decide +kernel
theorem sX9_sure_1 : ab_X rom K cX9_sure 7 1 1 (v0 :: .int x :: ls) st hp = ab_X rom K cX9_sure 7 1 2 (v0 :: .int x :: ls) (.int x :: st) hp := ax_iload_n dX9_sure_1 rfl rfl
theorem dX9_sure_2 : decode cX9_sure 2 = .ok (.invokevirtual 68, 3) := by decide +kernel
theorem sX9_sure_2_0 : ab_X rom K cX9_sure 7 1 2 ls [w1, .ref a] hp = if ab_iso hp a 7 = true then (K 171 (.ref a :: [w1]) hp).bind (fun o => ab_X rom K cX9_sure 7 1 5 ls (o.1.toList ++ []) o.2) else none := ay_virtual (as := [w1]) (st := []) dX9_sure_2 kc_7_68 rfl rfl (Nat.le_of_ble_eq_true rfl)
theorem sX9_sure_2_1 : ab_X rom K cX9_sure 7 1 2 ls [w1, .ref a, v0] hp = if ab_iso hp a 7 = true then (K 171 (.ref a :: [w1]) hp).bind (fun o => ab_X rom K cX9_sure 7 1 5 ls (o.1.toList ++ [v0]) o.2) else none := ay_virtual (as := [w1]) (st := [v0]) dX9_sure_2 kc_7_68 rfl rfl (Nat.le_of_ble_eq_true rfl)
theorem sX9_sure_2_2 : ab_X rom K cX9_sure 7 1 2 ls [w1, .ref a, v0, v1] hp = if ab_iso hp a 7 = true then (K 171 (.ref a :: [w1]) hp).bind (fun o => ab_X rom K cX9_sure 7 1 5 ls (o.1.toList ++ [v0, v1]) o.2) else none := ay_virtual (as := [w1]) (st := [v0, v1]) dX9_sure_2 kc_7_68 rfl rfl (Nat.le_of_ble_eq_true rfl)
theorem sX9_sure_2_3 : ab_X rom K cX9_sure 7 1 2 ls [w1, .ref a, v0, v1, v2] hp = if ab_iso hp a 7 = true then (K 171 (.ref a :: [w1]) hp).bind (fun o => ab_X rom K cX9_sure 7 1 5 ls (o.1.toList ++ [v0, v1, v2]) o.2) else none := ay_virtual (as := [w1]) (st := [v0, v1, v2]) dX9_sure_2 kc_7_68 rfl rfl (Nat.le_of_ble_eq_true rfl)
theorem dX9_sure_5 : decode cX9_sure 5 = .ok (.ifCond .eq 10, 3) := by decide +kernel
theorem sX9_sure_5 : ab_X rom K cX9_sure 7 1 5 ls (.int x :: st) hp = if x = 0 then ab_X rom K cX9_sure 7 1 15 ls st hp else ab_X rom K cX9_sure 7 1 8 ls st hp := ax_if_eq dX9_sure_5 (by decide) rfl
theorem dX9_sure_8 : decode cX9_sure 8 = .ok (.iload_n 2, 1) := by decide +kernel
theorem sX9_sure_8 : ab_X rom K cX9_sure 7 1 8 (v0 :: v1 :: .int x :: ls) st hp = ab_X rom K cX9_sure 7 1 9 (v0 :: v1 :: .int x :: ls) (.int x :: st) hp := ax_iload_n dX9_sure_8 rfl rfl
theorem dX9_sure_9 : decode cX9_sure 9 = .ok (.invokestatic 278, 3) := by decide +kernel
theorem sX9_sure_9_0 : ab_X rom K cX9_sure 7 1 9 ls [w1] hp = (K 168 [w1] hp).bind (fun o => ab_X rom K cX9_sure 7 1 12 ls (o.1.toList ++ []) o.2) := ax_static (as := [w1]) (st := []) dX9_sure_9 kc_7_278 rfl rfl (Nat.le_of_ble_eq_true rfl)
theorem sX9_sure_9_1 : ab_X rom K cX9_sure 7 1 9 ls [w1, v0] hp = (K 168 [w1] hp).bind (fun o => ab_X rom K cX9_sure 7 1 12 ls (o.1.toList ++ [v0]) o.2) := ax_static (as := [w1]) (st := [v0]) dX9_sure_9 kc_7_278 rfl rfl (Nat.le_of_ble_eq_true rfl)
theorem sX9_sure_9_2 : ab_X rom K cX9_sure 7 1 9 ls [w1, v0, v1] hp = (K 168 [w1] hp).bind (fun o => ab_X rom K cX9_sure 7 1 12 ls (o.1.toList ++ [v0, v1]) o.2) := ax_static (as := [w1]) (st := [v0, v1]) dX9_sure_9 kc_7_278 rfl rfl (Nat.le_of_ble_eq_true rfl)
theorem sX9_sure_9_3 : ab_X rom K cX9_sure 7 1 9 ls [w1, v0, v1, v2] hp = (K 168 [w1] hp).bind (fun o => ab_X rom K cX9_sure 7 1 12 ls (o.1.toList ++ [v0, v1, v2]) o.2) := ax_static (as := [w1]) (st := [v0, v1, v2]) dX9_sure_9 kc_7_278 rfl rfl (Nat.le_of_ble_eq_true rfl)
theorem dX9_sure_12 : decode cX9_sure 12 = .ok (.ifCond .ne 6, 3) := by decide +kernel
theorem sX9_sure_12 : ab_X rom K cX9_sure 7 1 12 ls (.int x :: st) hp = if x = 0 then ab_X rom K cX9_sure 7 1 15 ls st hp else ab_X rom K cX9_sure 7 1 18 ls st hp := ax_if_ne dX9_sure_12 (by decide) rfl
theorem dX9_sure_15 : decode cX9_sure 15 = .ok (.bipush (-2), 2) := by decide +kernel
theorem sX9_sure_15 : ab_X rom K cX9_sure 7 1 15 ls st hp = ab_X rom K cX9_sure 7 1 17 ls (.int (-2) :: st) hp := ax_bipush dX9_sure_15 (by decide) rfl
theorem dX9_sure_17 : decode cX9_sure 17 = .ok (.ireturn, 1) := by decide +kernel
theorem sX9_sure_17 : ab_X rom K cX9_sure 7 1 17 ls [.int x] hp = some (some (.int x), hp) := ax_iret dX9_sure_17 rfl
theorem dX9_sure_18 : decode cX9_sure 18 = .ok (.aload_n 0, 1) := by decide +kernel
theorem sX9_sure_18 : ab_X rom K cX9_sure 7 1 18 (.ref a :: ls) st hp = ab_X rom K cX9_sure 7 1 19 (.ref a :: ls) (.ref a :: st) hp := ax_aload_n dX9_sure_18 rfl rfl
theorem dX9_sure_19 : decode cX9_sure 19 = .ok (.iload_n 1, 1) := by decide +kernel
theorem sX9_sure_19 : ab_X rom K cX9_sure 7 1 19 (v0 :: .int x :: ls) st hp = ab_X rom K cX9_sure 7 1 20 (v0 :: .int x :: ls) (.int x :: st) hp := ax_iload_n dX9_sure_19 rfl rfl
theorem dX9_sure_20 : decode cX9_sure 20 = .ok (.iload_n 2, 1) := by decide +kernel
theorem sX9_sure_20 : ab_X rom K cX9_sure 7 1 20 (v0 :: v1 :: .int x :: ls) st hp = ab_X rom K cX9_sure 7 1 21 (v0 :: v1 :: .int x :: ls) (.int x :: st) hp := ax_iload_n dX9_sure_20 rfl rfl
theorem dX9_sure_21 : decode cX9_sure 21 = .ok (.bipush 127, 2) := by decide +kernel
theorem sX9_sure_21 : ab_X rom K cX9_sure 7 1 21 ls st hp = ab_X rom K cX9_sure 7 1 23 ls (.int 127 :: st) hp := ax_bipush dX9_sure_21 (by decide) rfl
theorem dX9_sure_23 : decode cX9_sure 23 = .ok (.iconst 0, 1) := by decide +kernel
theorem sX9_sure_23 : ab_X rom K cX9_sure 7 1 23 ls st hp = ab_X rom K cX9_sure 7 1 24 ls (.int 0 :: st) hp := ax_iconst dX9_sure_23 (by decide) rfl
theorem dX9_sure_24 : decode cX9_sure 24 = .ok (.invokevirtual 302, 3) := by decide +kernel
theorem sX9_sure_24_0 : ab_X rom K cX9_sure 7 1 24 ls [w4, w3, w2, w1, .ref a] hp = if ab_iso hp a 7 = true then (K 221 (.ref a :: [w1, w2, w3, w4]) hp).bind (fun o => ab_X rom K cX9_sure 7 1 27 ls (o.1.toList ++ []) o.2) else none := ay_virtual (as := [w1, w2, w3, w4]) (st := []) dX9_sure_24 kc_7_302 rfl rfl (Nat.le_of_ble_eq_true rfl)
theorem sX9_sure_24_1 : ab_X rom K cX9_sure 7 1 24 ls [w4, w3, w2, w1, .ref a, v0] hp = if ab_iso hp a 7 = true then (K 221 (.ref a :: [w1, w2, w3, w4]) hp).bind (fun o => ab_X rom K cX9_sure 7 1 27 ls (o.1.toList ++ [v0]) o.2) else none := ay_virtual (as := [w1, w2, w3, w4]) (st := [v0]) dX9_sure_24 kc_7_302 rfl rfl (Nat.le_of_ble_eq_true rfl)
theorem sX9_sure_24_2 : ab_X rom K cX9_sure 7 1 24 ls [w4, w3, w2, w1, .ref a, v0, v1] hp = if ab_iso hp a 7 = true then (K 221 (.ref a :: [w1, w2, w3, w4]) hp).bind (fun o => ab_X rom K cX9_sure 7 1 27 ls (o.1.toList ++ [v0, v1]) o.2) else none := ay_virtual (as := [w1, w2, w3, w4]) (st := [v0, v1]) dX9_sure_24 kc_7_302 rfl rfl (Nat.le_of_ble_eq_true rfl)
theorem sX9_sure_24_3 : ab_X rom K cX9_sure 7 1 24 ls [w4, w3, w2, w1, .ref a, v0, v1, v2] hp = if ab_iso hp a 7 = true then (K 221 (.ref a :: [w1, w2, w3, w4]) hp).bind (fun o => ab_X rom K cX9_sure 7 1 27 ls (o.1.toList ++ [v0, v1, v2]) o.2) else none := ay_virtual (as := [w1, w2, w3, w4]) (st := [v0, v1, v2]) dX9_sure_24 kc_7_302 rfl rfl (Nat.le_of_ble_eq_true rfl)
theorem dX9_sure_27 : decode cX9_sure 27 = .ok (.istore_n 3, 1) := by decide +kernel
theorem sX9_sure_27i : ab_X rom K cX9_sure 7 1 27 (v0 :: v1 :: .int y :: v3 :: ls) (.int x :: st) hp = ab_X rom K cX9_sure 7 1 28 (v0 :: v1 :: .int y :: .int x :: ls) st hp := ax_istore_n dX9_sure_27 (ax_lt (v := v3) rfl) (ab_nl_c1 (j := 2) (v := .int y) rfl (ab_c1_int _)) rfl rfl
theorem sX9_sure_27r : ab_X rom K cX9_sure 7 1 27 (v0 :: v1 :: .ref a2 :: v3 :: ls) (.int x :: st) hp = ab_X rom K cX9_sure 7 1 28 (v0 :: v1 :: .ref a2 :: .int x :: ls) st hp := ax_istore_n dX9_sure_27 (ax_lt (v := v3) rfl) (ab_nl_c1 (j := 2) (v := .ref a2) rfl (ab_c1_ref _)) rfl rfl
theorem sX9_sure_27n : ab_X rom K cX9_sure 7 1 27 (v0 :: v1 :: .null :: v3 :: ls) (.int x :: st) hp = ab_X rom K cX9_sure 7 1 28 (v0 :: v1 :: .null :: .int x :: ls) st hp := ax_istore_n dX9_sure_27 (ax_lt (v := v3) rfl) (ab_nl_c1 (j := 2) (v := .null) rfl ab_c1_null) rfl rfl
theorem dX9_sure_28 : decode cX9_sure 28 = .ok (.iconst 0, 1) := by decide +kernel
theorem sX9_sure_28 : ab_X rom K cX9_sure 7 1 28 ls st hp = ab_X rom K cX9_sure 7 1 29 ls (.int 0 :: st) hp := ax_iconst dX9_sure_28 (by decide) rfl
theorem dX9_sure_29 : decode cX9_sure 29 = .ok (.istore 4, 2) := by decide +kernel
theorem sX9_sure_29i : ab_X rom K cX9_sure 7 1 29 (v0 :: v1 :: v2 :: .int y :: v4 :: ls) (.int x :: st) hp = ab_X rom K cX9_sure 7 1 31 (v0 :: v1 :: v2 :: .int y :: .int x :: ls) st hp := ax_istore dX9_sure_29 (ax_lt (v := v4) rfl) (ab_nl_c1 (j := 3) (v := .int y) rfl (ab_c1_int _)) rfl rfl
theorem sX9_sure_29r : ab_X rom K cX9_sure 7 1 29 (v0 :: v1 :: v2 :: .ref a2 :: v4 :: ls) (.int x :: st) hp = ab_X rom K cX9_sure 7 1 31 (v0 :: v1 :: v2 :: .ref a2 :: .int x :: ls) st hp := ax_istore dX9_sure_29 (ax_lt (v := v4) rfl) (ab_nl_c1 (j := 3) (v := .ref a2) rfl (ab_c1_ref _)) rfl rfl
theorem sX9_sure_29n : ab_X rom K cX9_sure 7 1 29 (v0 :: v1 :: v2 :: .null :: v4 :: ls) (.int x :: st) hp = ab_X rom K cX9_sure 7 1 31 (v0 :: v1 :: v2 :: .null :: .int x :: ls) st hp := ax_istore dX9_sure_29 (ax_lt (v := v4) rfl) (ab_nl_c1 (j := 3) (v := .null) rfl ab_c1_null) rfl rfl
theorem dX9_sure_31 : decode cX9_sure 31 = .ok (.iconst 0, 1) := by decide +kernel
theorem sX9_sure_31 : ab_X rom K cX9_sure 7 1 31 ls st hp = ab_X rom K cX9_sure 7 1 32 ls (.int 0 :: st) hp := ax_iconst dX9_sure_31 (by decide) rfl
theorem dX9_sure_32 : decode cX9_sure 32 = .ok (.istore 5, 2) := by decide +kernel
theorem sX9_sure_32i : ab_X rom K cX9_sure 7 1 32 (v0 :: v1 :: v2 :: v3 :: .int y :: v5 :: ls) (.int x :: st) hp = ab_X rom K cX9_sure 7 1 34 (v0 :: v1 :: v2 :: v3 :: .int y :: .int x :: ls) st hp := ax_istore dX9_sure_32 (ax_lt (v := v5) rfl) (ab_nl_c1 (j := 4) (v := .int y) rfl (ab_c1_int _)) rfl rfl
theorem sX9_sure_32r : ab_X rom K cX9_sure 7 1 32 (v0 :: v1 :: v2 :: v3 :: .ref a2 :: v5 :: ls) (.int x :: st) hp = ab_X rom K cX9_sure 7 1 34 (v0 :: v1 :: v2 :: v3 :: .ref a2 :: .int x :: ls) st hp := ax_istore dX9_sure_32 (ax_lt (v := v5) rfl) (ab_nl_c1 (j := 4) (v := .ref a2) rfl (ab_c1_ref _)) rfl rfl
theorem sX9_sure_32n : ab_X rom K cX9_sure 7 1 32 (v0 :: v1 :: v2 :: v3 :: .null :: v5 :: ls) (.int x :: st) hp = ab_X rom K cX9_sure 7 1 34 (v0 :: v1 :: v2 :: v3 :: .null :: .int x :: ls) st hp := ax_istore dX9_sure_32 (ax_lt (v := v5) rfl) (ab_nl_c1 (j := 4) (v := .null) rfl ab_c1_null) rfl rfl
theorem dX9_sure_34 : decode cX9_sure 34 = .ok (.iload 5, 2) := by decide +kernel
theorem sX9_sure_34 : ab_X rom K cX9_sure 7 1 34 (v0 :: v1 :: v2 :: v3 :: v4 :: .int x :: ls) st hp = ab_X rom K cX9_sure 7 1 36 (v0 :: v1 :: v2 :: v3 :: v4 :: .int x :: ls) (.int x :: st) hp := ax_iload dX9_sure_34 rfl rfl
theorem dX9_sure_36 : decode cX9_sure 36 = .ok (.aload_n 0, 1) := by decide +kernel
theorem sX9_sure_36 : ab_X rom K cX9_sure 7 1 36 (.ref a :: ls) st hp = ab_X rom K cX9_sure 7 1 37 (.ref a :: ls) (.ref a :: st) hp := ax_aload_n dX9_sure_36 rfl rfl
theorem dX9_sure_37 : decode cX9_sure 37 = .ok (.getfield 235, 3) := by decide +kernel
theorem sX9_sure_37 : ab_X rom K cX9_sure 7 1 37 ls (.ref a :: st) hp = (ab_fld hp a 7 17).bind (fun v => ab_X rom K cX9_sure 7 1 40 ls (v :: st) hp) := ax_getfield dX9_sure_37 kf_7_235 rfl
theorem dX9_sure_40 : decode cX9_sure 40 = .ok (.if_icmp .ge 36, 3) := by decide +kernel
theorem sX9_sure_40 : ab_X rom K cX9_sure 7 1 40 ls (.int y :: .int x :: st) hp = if x < y then ab_X rom K cX9_sure 7 1 43 ls st hp else ab_X rom K cX9_sure 7 1 76 ls st hp := ax_icmp_ge dX9_sure_40 (by decide) rfl
theorem dX9_sure_43 : decode cX9_sure 43 = .ok (.iload 4, 2) := by decide +kernel
theorem sX9_sure_43 : ab_X rom K cX9_sure 7 1 43 (v0 :: v1 :: v2 :: v3 :: .int x :: ls) st hp = ab_X rom K cX9_sure 7 1 45 (v0 :: v1 :: v2 :: v3 :: .int x :: ls) (.int x :: st) hp := ax_iload dX9_sure_43 rfl rfl
theorem dX9_sure_45 : decode cX9_sure 45 = .ok (.aload_n 0, 1) := by decide +kernel
theorem sX9_sure_45 : ab_X rom K cX9_sure 7 1 45 (.ref a :: ls) st hp = ab_X rom K cX9_sure 7 1 46 (.ref a :: ls) (.ref a :: st) hp := ax_aload_n dX9_sure_45 rfl rfl
theorem dX9_sure_46 : decode cX9_sure 46 = .ok (.getfield 38, 3) := by decide +kernel
theorem sX9_sure_46 : ab_X rom K cX9_sure 7 1 46 ls (.ref a :: st) hp = (ab_fld hp a 7 20).bind (fun v => ab_X rom K cX9_sure 7 1 49 ls (v :: st) hp) := ax_getfield dX9_sure_46 kf_7_38 rfl
theorem dX9_sure_49 : decode cX9_sure 49 = .ok (.iload 5, 2) := by decide +kernel
theorem sX9_sure_49 : ab_X rom K cX9_sure 7 1 49 (v0 :: v1 :: v2 :: v3 :: v4 :: .int x :: ls) st hp = ab_X rom K cX9_sure 7 1 51 (v0 :: v1 :: v2 :: v3 :: v4 :: .int x :: ls) (.int x :: st) hp := ax_iload dX9_sure_49 rfl rfl
theorem dX9_sure_51 : decode cX9_sure 51 = .ok (.iaload, 1) := by decide +kernel
theorem sX9_sure_51 : ab_X rom K cX9_sure 7 1 51 ls (.int x :: .ref a :: st) hp = (ab_ard rom 0 hp a x).bind (fun v => ab_X rom K cX9_sure 7 1 52 ls (.int v :: st) hp) := ax_iaload dX9_sure_51 rfl
theorem dX9_sure_52 : decode cX9_sure 52 = .ok (.invokestatic 81, 3) := by decide +kernel
theorem sX9_sure_52_0 : ab_X rom K cX9_sure 7 1 52 ls [w1] hp = (K 204 [w1] hp).bind (fun o => ab_X rom K cX9_sure 7 1 55 ls (o.1.toList ++ []) o.2) := ax_static (as := [w1]) (st := []) dX9_sure_52 kc_7_81 rfl rfl (Nat.le_of_ble_eq_true rfl)
theorem sX9_sure_52_1 : ab_X rom K cX9_sure 7 1 52 ls [w1, v0] hp = (K 204 [w1] hp).bind (fun o => ab_X rom K cX9_sure 7 1 55 ls (o.1.toList ++ [v0]) o.2) := ax_static (as := [w1]) (st := [v0]) dX9_sure_52 kc_7_81 rfl rfl (Nat.le_of_ble_eq_true rfl)
theorem sX9_sure_52_2 : ab_X rom K cX9_sure 7 1 52 ls [w1, v0, v1] hp = (K 204 [w1] hp).bind (fun o => ab_X rom K cX9_sure 7 1 55 ls (o.1.toList ++ [v0, v1]) o.2) := ax_static (as := [w1]) (st := [v0, v1]) dX9_sure_52 kc_7_81 rfl rfl (Nat.le_of_ble_eq_true rfl)
theorem sX9_sure_52_3 : ab_X rom K cX9_sure 7 1 52 ls [w1, v0, v1, v2] hp = (K 204 [w1] hp).bind (fun o => ab_X rom K cX9_sure 7 1 55 ls (o.1.toList ++ [v0, v1, v2]) o.2) := ax_static (as := [w1]) (st := [v0, v1, v2]) dX9_sure_52 kc_7_81 rfl rfl (Nat.le_of_ble_eq_true rfl)
theorem dX9_sure_55 : decode cX9_sure 55 = .ok (.iconst 1, 1) := by decide +kernel
theorem sX9_sure_55 : ab_X rom K cX9_sure 7 1 55 ls st hp = ab_X rom K cX9_sure 7 1 56 ls (.int 1 :: st) hp := ax_iconst dX9_sure_55 (by decide) rfl
theorem dX9_sure_56 : decode cX9_sure 56 = .ok (.if_icmp .ne 10, 3) := by decide +kernel
theorem sX9_sure_56 : ab_X rom K cX9_sure 7 1 56 ls (.int y :: .int x :: st) hp = if x = y then ab_X rom K cX9_sure 7 1 59 ls st hp else ab_X rom K cX9_sure 7 1 66 ls st hp := ax_icmp_ne dX9_sure_56 (by decide) rfl
theorem dX9_sure_59 : decode cX9_sure 59 = .ok (.iconst 1, 1) := by decide +kernel
theorem sX9_sure_59 : ab_X rom K cX9_sure 7 1 59 ls st hp = ab_X rom K cX9_sure 7 1 60 ls (.int 1 :: st) hp := ax_iconst dX9_sure_59 (by decide) rfl
theorem dX9_sure_60 : decode cX9_sure 60 = .ok (.iload 5, 2) := by decide +kernel
theorem sX9_sure_60 : ab_X rom K cX9_sure 7 1 60 (v0 :: v1 :: v2 :: v3 :: v4 :: .int x :: ls) st hp = ab_X rom K cX9_sure 7 1 62 (v0 :: v1 :: v2 :: v3 :: v4 :: .int x :: ls) (.int x :: st) hp := ax_iload dX9_sure_60 rfl rfl
theorem dX9_sure_62 : decode cX9_sure 62 = .ok (.ishl, 1) := by decide +kernel
theorem sX9_sure_62 : ab_X rom K cX9_sure 7 1 62 ls (.int y :: .int x :: st) hp = ab_X rom K cX9_sure 7 1 63 ls (.int (x <<< (y &&& 31)) :: st) hp := ax_ishl dX9_sure_62 rfl
theorem dX9_sure_63 : decode cX9_sure 63 = .ok (.goto 4, 3) := by decide +kernel
theorem sX9_sure_63 : ab_X rom K cX9_sure 7 1 63 ls st hp = ab_X rom K cX9_sure 7 1 67 ls st hp := ax_goto dX9_sure_63 (by decide)
theorem dX9_sure_66 : decode cX9_sure 66 = .ok (.iconst 0, 1) := by decide +kernel
theorem sX9_sure_66 : ab_X rom K cX9_sure 7 1 66 ls st hp = ab_X rom K cX9_sure 7 1 67 ls (.int 0 :: st) hp := ax_iconst dX9_sure_66 (by decide) rfl
theorem dX9_sure_67 : decode cX9_sure 67 = .ok (.ior, 1) := by decide +kernel
theorem sX9_sure_67 : ab_X rom K cX9_sure 7 1 67 ls (.int y :: .int x :: st) hp = ab_X rom K cX9_sure 7 1 68 ls (.int (x ||| y) :: st) hp := ax_ior dX9_sure_67 rfl
theorem dX9_sure_68 : decode cX9_sure 68 = .ok (.istore 4, 2) := by decide +kernel
theorem sX9_sure_68i : ab_X rom K cX9_sure 7 1 68 (v0 :: v1 :: v2 :: .int y :: v4 :: ls) (.int x :: st) hp = ab_X rom K cX9_sure 7 1 70 (v0 :: v1 :: v2 :: .int y :: .int x :: ls) st hp := ax_istore dX9_sure_68 (ax_lt (v := v4) rfl) (ab_nl_c1 (j := 3) (v := .int y) rfl (ab_c1_int _)) rfl rfl
theorem sX9_sure_68r : ab_X rom K cX9_sure 7 1 68 (v0 :: v1 :: v2 :: .ref a2 :: v4 :: ls) (.int x :: st) hp = ab_X rom K cX9_sure 7 1 70 (v0 :: v1 :: v2 :: .ref a2 :: .int x :: ls) st hp := ax_istore dX9_sure_68 (ax_lt (v := v4) rfl) (ab_nl_c1 (j := 3) (v := .ref a2) rfl (ab_c1_ref _)) rfl rfl
theorem sX9_sure_68n : ab_X rom K cX9_sure 7 1 68 (v0 :: v1 :: v2 :: .null :: v4 :: ls) (.int x :: st) hp = ab_X rom K cX9_sure 7 1 70 (v0 :: v1 :: v2 :: .null :: .int x :: ls) st hp := ax_istore dX9_sure_68 (ax_lt (v := v4) rfl) (ab_nl_c1 (j := 3) (v := .null) rfl ab_c1_null) rfl rfl
theorem dX9_sure_70 : decode cX9_sure 70 = .ok (.iinc 5 1, 3) := by decide +kernel
theorem sX9_sure_70i : ab_X rom K cX9_sure 7 1 70 (v0 :: v1 :: v2 :: v3 :: .int y :: .int x :: ls) st hp = ab_X rom K cX9_sure 7 1 73 (v0 :: v1 :: v2 :: v3 :: .int y :: .int (x + 1) :: ls) st hp := ax_iinc dX9_sure_70 rfl (ab_nl_c1 (j := 4) (v := .int y) rfl (ab_c1_int _)) (by decide) rfl rfl
theorem sX9_sure_70r : ab_X rom K cX9_sure 7 1 70 (v0 :: v1 :: v2 :: v3 :: .ref a2 :: .int x :: ls) st hp = ab_X rom K cX9_sure 7 1 73 (v0 :: v1 :: v2 :: v3 :: .ref a2 :: .int (x + 1) :: ls) st hp := ax_iinc dX9_sure_70 rfl (ab_nl_c1 (j := 4) (v := .ref a2) rfl (ab_c1_ref _)) (by decide) rfl rfl
theorem sX9_sure_70n : ab_X rom K cX9_sure 7 1 70 (v0 :: v1 :: v2 :: v3 :: .null :: .int x :: ls) st hp = ab_X rom K cX9_sure 7 1 73 (v0 :: v1 :: v2 :: v3 :: .null :: .int (x + 1) :: ls) st hp := ax_iinc dX9_sure_70 rfl (ab_nl_c1 (j := 4) (v := .null) rfl ab_c1_null) (by decide) rfl rfl
theorem dX9_sure_73 : decode cX9_sure 73 = .ok (.goto (-39), 3) := by decide +kernel
theorem sX9_sure_73 : ab_X rom K cX9_sure 7 1 73 ls st hp = ab_X rom K cX9_sure 7 1 34 ls st hp := ax_goto dX9_sure_73 (by decide)
theorem dX9_sure_76 : decode cX9_sure 76 = .ok (.iload 4, 2) := by decide +kernel
theorem sX9_sure_76 : ab_X rom K cX9_sure 7 1 76 (v0 :: v1 :: v2 :: v3 :: .int x :: ls) st hp = ab_X rom K cX9_sure 7 1 78 (v0 :: v1 :: v2 :: v3 :: .int x :: ls) (.int x :: st) hp := ax_iload dX9_sure_76 rfl rfl
theorem dX9_sure_78 : decode cX9_sure 78 = .ok (.ireturn, 1) := by decide +kernel
theorem sX9_sure_78 : ab_X rom K cX9_sure 7 1 78 ls [.int x] hp = some (some (.int x), hp) := ax_iret dX9_sure_78 rfl
theorem tX9_takes : ab_mT[229]? = some (yX9_takes, cX9_takes, 6, 1, 7) := by decide +kernel
theorem mX9_takes {d : Nat} {a0 : Nat} {x0 : Int32} {x1 : Int32} {x2 : Int32} : ab_M rom (d + 1) 229 [.ref a0, .int x0, .int x1, .int x2] hp = ab_X rom (ab_M rom d) cX9_takes 7 1 0 [.ref a0, .int x0, .int x1, .int x2, .null, .null] [] hp := ab_M_eq tX9_takes (Nat.le_of_ble_eq_true rfl)
theorem dX9_takes_0 : decode cX9_takes 0 = .ok (.aload_n 0, 1) := by decide +kernel
theorem sX9_takes_0 : ab_X rom K cX9_takes 7 1 0 (.ref a :: ls) st hp = ab_X rom K cX9_takes 7 1 1 (.ref a :: ls) (.ref a :: st) hp := ax_aload_n dX9_takes_0 rfl rfl
theorem dX9_takes_1 : decode cX9_takes 1 = .ok (.iload_n 1, 1) := by decide +kernel
theorem sX9_takes_1 : ab_X rom K cX9_takes 7 1 1 (v0 :: .int x :: ls) st hp = ab_X rom K cX9_takes 7 1 2 (v0 :: .int x :: ls) (.int x :: st) hp := ax_iload_n dX9_takes_1 rfl rfl
theorem dX9_takes_2 : decode cX9_takes 2 = .ok (.invokevirtual 68, 3) := by decide +kernel
theorem sX9_takes_2_0 : ab_X rom K cX9_takes 7 1 2 ls [w1, .ref a] hp = if ab_iso hp a 7 = true then (K 171 (.ref a :: [w1]) hp).bind (fun o => ab_X rom K cX9_takes 7 1 5 ls (o.1.toList ++ []) o.2) else none := ay_virtual (as := [w1]) (st := []) dX9_takes_2 kc_7_68 rfl rfl (Nat.le_of_ble_eq_true rfl)
theorem sX9_takes_2_1 : ab_X rom K cX9_takes 7 1 2 ls [w1, .ref a, v0] hp = if ab_iso hp a 7 = true then (K 171 (.ref a :: [w1]) hp).bind (fun o => ab_X rom K cX9_takes 7 1 5 ls (o.1.toList ++ [v0]) o.2) else none := ay_virtual (as := [w1]) (st := [v0]) dX9_takes_2 kc_7_68 rfl rfl (Nat.le_of_ble_eq_true rfl)
theorem sX9_takes_2_2 : ab_X rom K cX9_takes 7 1 2 ls [w1, .ref a, v0, v1] hp = if ab_iso hp a 7 = true then (K 171 (.ref a :: [w1]) hp).bind (fun o => ab_X rom K cX9_takes 7 1 5 ls (o.1.toList ++ [v0, v1]) o.2) else none := ay_virtual (as := [w1]) (st := [v0, v1]) dX9_takes_2 kc_7_68 rfl rfl (Nat.le_of_ble_eq_true rfl)
theorem sX9_takes_2_3 : ab_X rom K cX9_takes 7 1 2 ls [w1, .ref a, v0, v1, v2] hp = if ab_iso hp a 7 = true then (K 171 (.ref a :: [w1]) hp).bind (fun o => ab_X rom K cX9_takes 7 1 5 ls (o.1.toList ++ [v0, v1, v2]) o.2) else none := ay_virtual (as := [w1]) (st := [v0, v1, v2]) dX9_takes_2 kc_7_68 rfl rfl (Nat.le_of_ble_eq_true rfl)
theorem dX9_takes_5 : decode cX9_takes 5 = .ok (.ifCond .eq 14, 3) := by decide +kernel
theorem sX9_takes_5 : ab_X rom K cX9_takes 7 1 5 ls (.int x :: st) hp = if x = 0 then ab_X rom K cX9_takes 7 1 19 ls st hp else ab_X rom K cX9_takes 7 1 8 ls st hp := ax_if_eq dX9_takes_5 (by decide) rfl
theorem dX9_takes_8 : decode cX9_takes 8 = .ok (.iload_n 2, 1) := by decide +kernel
theorem sX9_takes_8 : ab_X rom K cX9_takes 7 1 8 (v0 :: v1 :: .int x :: ls) st hp = ab_X rom K cX9_takes 7 1 9 (v0 :: v1 :: .int x :: ls) (.int x :: st) hp := ax_iload_n dX9_takes_8 rfl rfl
theorem dX9_takes_9 : decode cX9_takes 9 = .ok (.invokestatic 278, 3) := by decide +kernel
theorem sX9_takes_9_0 : ab_X rom K cX9_takes 7 1 9 ls [w1] hp = (K 168 [w1] hp).bind (fun o => ab_X rom K cX9_takes 7 1 12 ls (o.1.toList ++ []) o.2) := ax_static (as := [w1]) (st := []) dX9_takes_9 kc_7_278 rfl rfl (Nat.le_of_ble_eq_true rfl)
theorem sX9_takes_9_1 : ab_X rom K cX9_takes 7 1 9 ls [w1, v0] hp = (K 168 [w1] hp).bind (fun o => ab_X rom K cX9_takes 7 1 12 ls (o.1.toList ++ [v0]) o.2) := ax_static (as := [w1]) (st := [v0]) dX9_takes_9 kc_7_278 rfl rfl (Nat.le_of_ble_eq_true rfl)
theorem sX9_takes_9_2 : ab_X rom K cX9_takes 7 1 9 ls [w1, v0, v1] hp = (K 168 [w1] hp).bind (fun o => ab_X rom K cX9_takes 7 1 12 ls (o.1.toList ++ [v0, v1]) o.2) := ax_static (as := [w1]) (st := [v0, v1]) dX9_takes_9 kc_7_278 rfl rfl (Nat.le_of_ble_eq_true rfl)
theorem sX9_takes_9_3 : ab_X rom K cX9_takes 7 1 9 ls [w1, v0, v1, v2] hp = (K 168 [w1] hp).bind (fun o => ab_X rom K cX9_takes 7 1 12 ls (o.1.toList ++ [v0, v1, v2]) o.2) := ax_static (as := [w1]) (st := [v0, v1, v2]) dX9_takes_9 kc_7_278 rfl rfl (Nat.le_of_ble_eq_true rfl)
theorem dX9_takes_12 : decode cX9_takes 12 = .ok (.ifCond .eq 7, 3) := by decide +kernel
theorem sX9_takes_12 : ab_X rom K cX9_takes 7 1 12 ls (.int x :: st) hp = if x = 0 then ab_X rom K cX9_takes 7 1 19 ls st hp else ab_X rom K cX9_takes 7 1 15 ls st hp := ax_if_eq dX9_takes_12 (by decide) rfl
theorem dX9_takes_15 : decode cX9_takes 15 = .ok (.iload_n 3, 1) := by decide +kernel
theorem sX9_takes_15 : ab_X rom K cX9_takes 7 1 15 (v0 :: v1 :: v2 :: .int x :: ls) st hp = ab_X rom K cX9_takes 7 1 16 (v0 :: v1 :: v2 :: .int x :: ls) (.int x :: st) hp := ax_iload_n dX9_takes_15 rfl rfl
theorem dX9_takes_16 : decode cX9_takes 16 = .ok (.ifCond .ge 6, 3) := by decide +kernel
theorem sX9_takes_16 : ab_X rom K cX9_takes 7 1 16 ls (.int x :: st) hp = if x < 0 then ab_X rom K cX9_takes 7 1 19 ls st hp else ab_X rom K cX9_takes 7 1 22 ls st hp := ax_if_ge dX9_takes_16 (by decide) rfl
theorem dX9_takes_19 : decode cX9_takes 19 = .ok (.bipush (-2), 2) := by decide +kernel
theorem sX9_takes_19 : ab_X rom K cX9_takes 7 1 19 ls st hp = ab_X rom K cX9_takes 7 1 21 ls (.int (-2) :: st) hp := ax_bipush dX9_takes_19 (by decide) rfl
theorem dX9_takes_21 : decode cX9_takes 21 = .ok (.ireturn, 1) := by decide +kernel
theorem sX9_takes_21 : ab_X rom K cX9_takes 7 1 21 ls [.int x] hp = some (some (.int x), hp) := ax_iret dX9_takes_21 rfl
theorem dX9_takes_22 : decode cX9_takes 22 = .ok (.iload_n 3, 1) := by decide +kernel
theorem sX9_takes_22 : ab_X rom K cX9_takes 7 1 22 (v0 :: v1 :: v2 :: .int x :: ls) st hp = ab_X rom K cX9_takes 7 1 23 (v0 :: v1 :: v2 :: .int x :: ls) (.int x :: st) hp := ax_iload_n dX9_takes_22 rfl rfl
theorem dX9_takes_23 : decode cX9_takes 23 = .ok (.ldc_w 306, 3) := by decide +kernel
theorem sX9_takes_23 : ab_X rom K cX9_takes 7 1 23 ls st hp = ab_X rom K cX9_takes 7 1 26 ls (.int 2000000000 :: st) hp := ax_ldcw dX9_takes_23 kk_7_306 rfl
theorem dX9_takes_26 : decode cX9_takes 26 = .ok (.if_icmp .ge 17, 3) := by decide +kernel
theorem sX9_takes_26 : ab_X rom K cX9_takes 7 1 26 ls (.int y :: .int x :: st) hp = if x < y then ab_X rom K cX9_takes 7 1 29 ls st hp else ab_X rom K cX9_takes 7 1 43 ls st hp := ax_icmp_ge dX9_takes_26 (by decide) rfl
theorem dX9_takes_29 : decode cX9_takes 29 = .ok (.aload_n 0, 1) := by decide +kernel
theorem sX9_takes_29 : ab_X rom K cX9_takes 7 1 29 (.ref a :: ls) st hp = ab_X rom K cX9_takes 7 1 30 (.ref a :: ls) (.ref a :: st) hp := ax_aload_n dX9_takes_29 rfl rfl
theorem dX9_takes_30 : decode cX9_takes 30 = .ok (.iload_n 1, 1) := by decide +kernel
theorem sX9_takes_30 : ab_X rom K cX9_takes 7 1 30 (v0 :: .int x :: ls) st hp = ab_X rom K cX9_takes 7 1 31 (v0 :: .int x :: ls) (.int x :: st) hp := ax_iload_n dX9_takes_30 rfl rfl
theorem dX9_takes_31 : decode cX9_takes 31 = .ok (.iload_n 2, 1) := by decide +kernel
theorem sX9_takes_31 : ab_X rom K cX9_takes 7 1 31 (v0 :: v1 :: .int x :: ls) st hp = ab_X rom K cX9_takes 7 1 32 (v0 :: v1 :: .int x :: ls) (.int x :: st) hp := ax_iload_n dX9_takes_31 rfl rfl
theorem dX9_takes_32 : decode cX9_takes 32 = .ok (.bipush 127, 2) := by decide +kernel
theorem sX9_takes_32 : ab_X rom K cX9_takes 7 1 32 ls st hp = ab_X rom K cX9_takes 7 1 34 ls (.int 127 :: st) hp := ax_bipush dX9_takes_32 (by decide) rfl
theorem dX9_takes_34 : decode cX9_takes 34 = .ok (.iload_n 3, 1) := by decide +kernel
theorem sX9_takes_34 : ab_X rom K cX9_takes 7 1 34 (v0 :: v1 :: v2 :: .int x :: ls) st hp = ab_X rom K cX9_takes 7 1 35 (v0 :: v1 :: v2 :: .int x :: ls) (.int x :: st) hp := ax_iload_n dX9_takes_34 rfl rfl
theorem dX9_takes_35 : decode cX9_takes 35 = .ok (.iconst 1, 1) := by decide +kernel
theorem sX9_takes_35 : ab_X rom K cX9_takes 7 1 35 ls st hp = ab_X rom K cX9_takes 7 1 36 ls (.int 1 :: st) hp := ax_iconst dX9_takes_35 (by decide) rfl
theorem dX9_takes_36 : decode cX9_takes 36 = .ok (.iadd, 1) := by decide +kernel
theorem sX9_takes_36 : ab_X rom K cX9_takes 7 1 36 ls (.int y :: .int x :: st) hp = ab_X rom K cX9_takes 7 1 37 ls (.int (x + y) :: st) hp := ax_iadd dX9_takes_36 rfl
theorem dX9_takes_37 : decode cX9_takes 37 = .ok (.invokevirtual 302, 3) := by decide +kernel
theorem sX9_takes_37_0 : ab_X rom K cX9_takes 7 1 37 ls [w4, w3, w2, w1, .ref a] hp = if ab_iso hp a 7 = true then (K 221 (.ref a :: [w1, w2, w3, w4]) hp).bind (fun o => ab_X rom K cX9_takes 7 1 40 ls (o.1.toList ++ []) o.2) else none := ay_virtual (as := [w1, w2, w3, w4]) (st := []) dX9_takes_37 kc_7_302 rfl rfl (Nat.le_of_ble_eq_true rfl)
theorem sX9_takes_37_1 : ab_X rom K cX9_takes 7 1 37 ls [w4, w3, w2, w1, .ref a, v0] hp = if ab_iso hp a 7 = true then (K 221 (.ref a :: [w1, w2, w3, w4]) hp).bind (fun o => ab_X rom K cX9_takes 7 1 40 ls (o.1.toList ++ [v0]) o.2) else none := ay_virtual (as := [w1, w2, w3, w4]) (st := [v0]) dX9_takes_37 kc_7_302 rfl rfl (Nat.le_of_ble_eq_true rfl)
theorem sX9_takes_37_2 : ab_X rom K cX9_takes 7 1 37 ls [w4, w3, w2, w1, .ref a, v0, v1] hp = if ab_iso hp a 7 = true then (K 221 (.ref a :: [w1, w2, w3, w4]) hp).bind (fun o => ab_X rom K cX9_takes 7 1 40 ls (o.1.toList ++ [v0, v1]) o.2) else none := ay_virtual (as := [w1, w2, w3, w4]) (st := [v0, v1]) dX9_takes_37 kc_7_302 rfl rfl (Nat.le_of_ble_eq_true rfl)
theorem sX9_takes_37_3 : ab_X rom K cX9_takes 7 1 37 ls [w4, w3, w2, w1, .ref a, v0, v1, v2] hp = if ab_iso hp a 7 = true then (K 221 (.ref a :: [w1, w2, w3, w4]) hp).bind (fun o => ab_X rom K cX9_takes 7 1 40 ls (o.1.toList ++ [v0, v1, v2]) o.2) else none := ay_virtual (as := [w1, w2, w3, w4]) (st := [v0, v1, v2]) dX9_takes_37 kc_7_302 rfl rfl (Nat.le_of_ble_eq_true rfl)
theorem dX9_takes_40 : decode cX9_takes 40 = .ok (.ifCond .ne 5, 3) := by decide +kernel
theorem sX9_takes_40 : ab_X rom K cX9_takes 7 1 40 ls (.int x :: st) hp = if x = 0 then ab_X rom K cX9_takes 7 1 43 ls st hp else ab_X rom K cX9_takes 7 1 45 ls st hp := ax_if_ne dX9_takes_40 (by decide) rfl
theorem dX9_takes_43 : decode cX9_takes 43 = .ok (.iconst (-1), 1) := by decide +kernel
theorem sX9_takes_43 : ab_X rom K cX9_takes 7 1 43 ls st hp = ab_X rom K cX9_takes 7 1 44 ls (.int (-1) :: st) hp := ax_iconst dX9_takes_43 (by decide) rfl
theorem dX9_takes_44 : decode cX9_takes 44 = .ok (.ireturn, 1) := by decide +kernel
theorem sX9_takes_44 : ab_X rom K cX9_takes 7 1 44 ls [.int x] hp = some (some (.int x), hp) := ax_iret dX9_takes_44 rfl
theorem dX9_takes_45 : decode cX9_takes 45 = .ok (.aload_n 0, 1) := by decide +kernel
theorem sX9_takes_45 : ab_X rom K cX9_takes 7 1 45 (.ref a :: ls) st hp = ab_X rom K cX9_takes 7 1 46 (.ref a :: ls) (.ref a :: st) hp := ax_aload_n dX9_takes_45 rfl rfl
theorem dX9_takes_46 : decode cX9_takes 46 = .ok (.invokevirtual 87, 3) := by decide +kernel
theorem sX9_takes_46_0 : ab_X rom K cX9_takes 7 1 46 ls [.ref a] hp = if ab_iso hp a 7 = true then (K 214 (.ref a :: []) hp).bind (fun o => ab_X rom K cX9_takes 7 1 49 ls (o.1.toList ++ []) o.2) else none := ay_virtual (as := []) (st := []) dX9_takes_46 kc_7_87 rfl rfl (Nat.le_of_ble_eq_true rfl)
theorem sX9_takes_46_1 : ab_X rom K cX9_takes 7 1 46 ls [.ref a, v0] hp = if ab_iso hp a 7 = true then (K 214 (.ref a :: []) hp).bind (fun o => ab_X rom K cX9_takes 7 1 49 ls (o.1.toList ++ [v0]) o.2) else none := ay_virtual (as := []) (st := [v0]) dX9_takes_46 kc_7_87 rfl rfl (Nat.le_of_ble_eq_true rfl)
theorem sX9_takes_46_2 : ab_X rom K cX9_takes 7 1 46 ls [.ref a, v0, v1] hp = if ab_iso hp a 7 = true then (K 214 (.ref a :: []) hp).bind (fun o => ab_X rom K cX9_takes 7 1 49 ls (o.1.toList ++ [v0, v1]) o.2) else none := ay_virtual (as := []) (st := [v0, v1]) dX9_takes_46 kc_7_87 rfl rfl (Nat.le_of_ble_eq_true rfl)
theorem sX9_takes_46_3 : ab_X rom K cX9_takes 7 1 46 ls [.ref a, v0, v1, v2] hp = if ab_iso hp a 7 = true then (K 214 (.ref a :: []) hp).bind (fun o => ab_X rom K cX9_takes 7 1 49 ls (o.1.toList ++ [v0, v1, v2]) o.2) else none := ay_virtual (as := []) (st := [v0, v1, v2]) dX9_takes_46 kc_7_87 rfl rfl (Nat.le_of_ble_eq_true rfl)
theorem dX9_takes_49 : decode cX9_takes 49 = .ok (.iconst 0, 1) := by decide +kernel
theorem sX9_takes_49 : ab_X rom K cX9_takes 7 1 49 ls st hp = ab_X rom K cX9_takes 7 1 50 ls (.int 0 :: st) hp := ax_iconst dX9_takes_49 (by decide) rfl
theorem dX9_takes_50 : decode cX9_takes 50 = .ok (.istore 4, 2) := by decide +kernel
theorem sX9_takes_50i : ab_X rom K cX9_takes 7 1 50 (v0 :: v1 :: v2 :: .int y :: v4 :: ls) (.int x :: st) hp = ab_X rom K cX9_takes 7 1 52 (v0 :: v1 :: v2 :: .int y :: .int x :: ls) st hp := ax_istore dX9_takes_50 (ax_lt (v := v4) rfl) (ab_nl_c1 (j := 3) (v := .int y) rfl (ab_c1_int _)) rfl rfl
theorem sX9_takes_50r : ab_X rom K cX9_takes 7 1 50 (v0 :: v1 :: v2 :: .ref a2 :: v4 :: ls) (.int x :: st) hp = ab_X rom K cX9_takes 7 1 52 (v0 :: v1 :: v2 :: .ref a2 :: .int x :: ls) st hp := ax_istore dX9_takes_50 (ax_lt (v := v4) rfl) (ab_nl_c1 (j := 3) (v := .ref a2) rfl (ab_c1_ref _)) rfl rfl
theorem sX9_takes_50n : ab_X rom K cX9_takes 7 1 50 (v0 :: v1 :: v2 :: .null :: v4 :: ls) (.int x :: st) hp = ab_X rom K cX9_takes 7 1 52 (v0 :: v1 :: v2 :: .null :: .int x :: ls) st hp := ax_istore dX9_takes_50 (ax_lt (v := v4) rfl) (ab_nl_c1 (j := 3) (v := .null) rfl ab_c1_null) rfl rfl
theorem dX9_takes_52 : decode cX9_takes 52 = .ok (.iconst 0, 1) := by decide +kernel
theorem sX9_takes_52 : ab_X rom K cX9_takes 7 1 52 ls st hp = ab_X rom K cX9_takes 7 1 53 ls (.int 0 :: st) hp := ax_iconst dX9_takes_52 (by decide) rfl
theorem dX9_takes_53 : decode cX9_takes 53 = .ok (.istore 5, 2) := by decide +kernel
theorem sX9_takes_53i : ab_X rom K cX9_takes 7 1 53 (v0 :: v1 :: v2 :: v3 :: .int y :: v5 :: ls) (.int x :: st) hp = ab_X rom K cX9_takes 7 1 55 (v0 :: v1 :: v2 :: v3 :: .int y :: .int x :: ls) st hp := ax_istore dX9_takes_53 (ax_lt (v := v5) rfl) (ab_nl_c1 (j := 4) (v := .int y) rfl (ab_c1_int _)) rfl rfl
theorem sX9_takes_53r : ab_X rom K cX9_takes 7 1 53 (v0 :: v1 :: v2 :: v3 :: .ref a2 :: v5 :: ls) (.int x :: st) hp = ab_X rom K cX9_takes 7 1 55 (v0 :: v1 :: v2 :: v3 :: .ref a2 :: .int x :: ls) st hp := ax_istore dX9_takes_53 (ax_lt (v := v5) rfl) (ab_nl_c1 (j := 4) (v := .ref a2) rfl (ab_c1_ref _)) rfl rfl
theorem sX9_takes_53n : ab_X rom K cX9_takes 7 1 53 (v0 :: v1 :: v2 :: v3 :: .null :: v5 :: ls) (.int x :: st) hp = ab_X rom K cX9_takes 7 1 55 (v0 :: v1 :: v2 :: v3 :: .null :: .int x :: ls) st hp := ax_istore dX9_takes_53 (ax_lt (v := v5) rfl) (ab_nl_c1 (j := 4) (v := .null) rfl ab_c1_null) rfl rfl
theorem dX9_takes_55 : decode cX9_takes 55 = .ok (.iload 5, 2) := by decide +kernel
theorem sX9_takes_55 : ab_X rom K cX9_takes 7 1 55 (v0 :: v1 :: v2 :: v3 :: v4 :: .int x :: ls) st hp = ab_X rom K cX9_takes 7 1 57 (v0 :: v1 :: v2 :: v3 :: v4 :: .int x :: ls) (.int x :: st) hp := ax_iload dX9_takes_55 rfl rfl
theorem dX9_takes_57 : decode cX9_takes 57 = .ok (.aload_n 0, 1) := by decide +kernel
theorem sX9_takes_57 : ab_X rom K cX9_takes 7 1 57 (.ref a :: ls) st hp = ab_X rom K cX9_takes 7 1 58 (.ref a :: ls) (.ref a :: st) hp := ax_aload_n dX9_takes_57 rfl rfl
theorem dX9_takes_58 : decode cX9_takes 58 = .ok (.getfield 235, 3) := by decide +kernel
theorem sX9_takes_58 : ab_X rom K cX9_takes 7 1 58 ls (.ref a :: st) hp = (ab_fld hp a 7 17).bind (fun v => ab_X rom K cX9_takes 7 1 61 ls (v :: st) hp) := ax_getfield dX9_takes_58 kf_7_235 rfl
theorem dX9_takes_61 : decode cX9_takes 61 = .ok (.if_icmp .ge 52, 3) := by decide +kernel
theorem sX9_takes_61 : ab_X rom K cX9_takes 7 1 61 ls (.int y :: .int x :: st) hp = if x < y then ab_X rom K cX9_takes 7 1 64 ls st hp else ab_X rom K cX9_takes 7 1 113 ls st hp := ax_icmp_ge dX9_takes_61 (by decide) rfl
theorem dX9_takes_64 : decode cX9_takes 64 = .ok (.iload 4, 2) := by decide +kernel
theorem sX9_takes_64 : ab_X rom K cX9_takes 7 1 64 (v0 :: v1 :: v2 :: v3 :: .int x :: ls) st hp = ab_X rom K cX9_takes 7 1 66 (v0 :: v1 :: v2 :: v3 :: .int x :: ls) (.int x :: st) hp := ax_iload dX9_takes_64 rfl rfl
theorem dX9_takes_66 : decode cX9_takes 66 = .ok (.aload_n 0, 1) := by decide +kernel
theorem sX9_takes_66 : ab_X rom K cX9_takes 7 1 66 (.ref a :: ls) st hp = ab_X rom K cX9_takes 7 1 67 (.ref a :: ls) (.ref a :: st) hp := ax_aload_n dX9_takes_66 rfl rfl
theorem dX9_takes_67 : decode cX9_takes 67 = .ok (.iload_n 1, 1) := by decide +kernel
theorem sX9_takes_67 : ab_X rom K cX9_takes 7 1 67 (v0 :: .int x :: ls) st hp = ab_X rom K cX9_takes 7 1 68 (v0 :: .int x :: ls) (.int x :: st) hp := ax_iload_n dX9_takes_67 rfl rfl
theorem dX9_takes_68 : decode cX9_takes 68 = .ok (.iload 5, 2) := by decide +kernel
theorem sX9_takes_68 : ab_X rom K cX9_takes 7 1 68 (v0 :: v1 :: v2 :: v3 :: v4 :: .int x :: ls) st hp = ab_X rom K cX9_takes 7 1 70 (v0 :: v1 :: v2 :: v3 :: v4 :: .int x :: ls) (.int x :: st) hp := ax_iload dX9_takes_68 rfl rfl
theorem dX9_takes_70 : decode cX9_takes 70 = .ok (.invokevirtual 168, 3) := by decide +kernel
theorem sX9_takes_70_0 : ab_X rom K cX9_takes 7 1 70 ls [w2, w1, .ref a] hp = if ab_iso hp a 7 = true then (K 183 (.ref a :: [w1, w2]) hp).bind (fun o => ab_X rom K cX9_takes 7 1 73 ls (o.1.toList ++ []) o.2) else none := ay_virtual (as := [w1, w2]) (st := []) dX9_takes_70 kc_7_168 rfl rfl (Nat.le_of_ble_eq_true rfl)
theorem sX9_takes_70_1 : ab_X rom K cX9_takes 7 1 70 ls [w2, w1, .ref a, v0] hp = if ab_iso hp a 7 = true then (K 183 (.ref a :: [w1, w2]) hp).bind (fun o => ab_X rom K cX9_takes 7 1 73 ls (o.1.toList ++ [v0]) o.2) else none := ay_virtual (as := [w1, w2]) (st := [v0]) dX9_takes_70 kc_7_168 rfl rfl (Nat.le_of_ble_eq_true rfl)
theorem sX9_takes_70_2 : ab_X rom K cX9_takes 7 1 70 ls [w2, w1, .ref a, v0, v1] hp = if ab_iso hp a 7 = true then (K 183 (.ref a :: [w1, w2]) hp).bind (fun o => ab_X rom K cX9_takes 7 1 73 ls (o.1.toList ++ [v0, v1]) o.2) else none := ay_virtual (as := [w1, w2]) (st := [v0, v1]) dX9_takes_70 kc_7_168 rfl rfl (Nat.le_of_ble_eq_true rfl)
theorem sX9_takes_70_3 : ab_X rom K cX9_takes 7 1 70 ls [w2, w1, .ref a, v0, v1, v2] hp = if ab_iso hp a 7 = true then (K 183 (.ref a :: [w1, w2]) hp).bind (fun o => ab_X rom K cX9_takes 7 1 73 ls (o.1.toList ++ [v0, v1, v2]) o.2) else none := ay_virtual (as := [w1, w2]) (st := [v0, v1, v2]) dX9_takes_70 kc_7_168 rfl rfl (Nat.le_of_ble_eq_true rfl)
theorem dX9_takes_73 : decode cX9_takes 73 = .ok (.iconst (-1), 1) := by decide +kernel
theorem sX9_takes_73 : ab_X rom K cX9_takes 7 1 73 ls st hp = ab_X rom K cX9_takes 7 1 74 ls (.int (-1) :: st) hp := ax_iconst dX9_takes_73 (by decide) rfl
theorem dX9_takes_74 : decode cX9_takes 74 = .ok (.if_icmp .ne 7, 3) := by decide +kernel
theorem sX9_takes_74 : ab_X rom K cX9_takes 7 1 74 ls (.int y :: .int x :: st) hp = if x = y then ab_X rom K cX9_takes 7 1 77 ls st hp else ab_X rom K cX9_takes 7 1 81 ls st hp := ax_icmp_ne dX9_takes_74 (by decide) rfl
theorem dX9_takes_77 : decode cX9_takes 77 = .ok (.iconst 1, 1) := by decide +kernel
theorem sX9_takes_77 : ab_X rom K cX9_takes 7 1 77 ls st hp = ab_X rom K cX9_takes 7 1 78 ls (.int 1 :: st) hp := ax_iconst dX9_takes_77 (by decide) rfl
theorem dX9_takes_78 : decode cX9_takes 78 = .ok (.goto 4, 3) := by decide +kernel
theorem sX9_takes_78 : ab_X rom K cX9_takes 7 1 78 ls st hp = ab_X rom K cX9_takes 7 1 82 ls st hp := ax_goto dX9_takes_78 (by decide)
theorem dX9_takes_81 : decode cX9_takes 81 = .ok (.iconst 0, 1) := by decide +kernel
theorem sX9_takes_81 : ab_X rom K cX9_takes 7 1 81 ls st hp = ab_X rom K cX9_takes 7 1 82 ls (.int 0 :: st) hp := ax_iconst dX9_takes_81 (by decide) rfl
theorem dX9_takes_82 : decode cX9_takes 82 = .ok (.iadd, 1) := by decide +kernel
theorem sX9_takes_82 : ab_X rom K cX9_takes 7 1 82 ls (.int y :: .int x :: st) hp = ab_X rom K cX9_takes 7 1 83 ls (.int (x + y) :: st) hp := ax_iadd dX9_takes_82 rfl
theorem dX9_takes_83 : decode cX9_takes 83 = .ok (.istore 4, 2) := by decide +kernel
theorem sX9_takes_83i : ab_X rom K cX9_takes 7 1 83 (v0 :: v1 :: v2 :: .int y :: v4 :: ls) (.int x :: st) hp = ab_X rom K cX9_takes 7 1 85 (v0 :: v1 :: v2 :: .int y :: .int x :: ls) st hp := ax_istore dX9_takes_83 (ax_lt (v := v4) rfl) (ab_nl_c1 (j := 3) (v := .int y) rfl (ab_c1_int _)) rfl rfl
theorem sX9_takes_83r : ab_X rom K cX9_takes 7 1 83 (v0 :: v1 :: v2 :: .ref a2 :: v4 :: ls) (.int x :: st) hp = ab_X rom K cX9_takes 7 1 85 (v0 :: v1 :: v2 :: .ref a2 :: .int x :: ls) st hp := ax_istore dX9_takes_83 (ax_lt (v := v4) rfl) (ab_nl_c1 (j := 3) (v := .ref a2) rfl (ab_c1_ref _)) rfl rfl
theorem sX9_takes_83n : ab_X rom K cX9_takes 7 1 83 (v0 :: v1 :: v2 :: .null :: v4 :: ls) (.int x :: st) hp = ab_X rom K cX9_takes 7 1 85 (v0 :: v1 :: v2 :: .null :: .int x :: ls) st hp := ax_istore dX9_takes_83 (ax_lt (v := v4) rfl) (ab_nl_c1 (j := 3) (v := .null) rfl ab_c1_null) rfl rfl
theorem dX9_takes_85 : decode cX9_takes 85 = .ok (.aload_n 0, 1) := by decide +kernel
theorem sX9_takes_85 : ab_X rom K cX9_takes 7 1 85 (.ref a :: ls) st hp = ab_X rom K cX9_takes 7 1 86 (.ref a :: ls) (.ref a :: st) hp := ax_aload_n dX9_takes_85 rfl rfl
theorem dX9_takes_86 : decode cX9_takes 86 = .ok (.getfield 7, 3) := by decide +kernel
theorem sX9_takes_86 : ab_X rom K cX9_takes 7 1 86 ls (.ref a :: st) hp = (ab_fld hp a 7 0).bind (fun v => ab_X rom K cX9_takes 7 1 89 ls (v :: st) hp) := ax_getfield dX9_takes_86 kf_7_7 rfl
theorem dX9_takes_89 : decode cX9_takes 89 = .ok (.bipush 15, 2) := by decide +kernel
theorem sX9_takes_89 : ab_X rom K cX9_takes 7 1 89 ls st hp = ab_X rom K cX9_takes 7 1 91 ls (.int 15 :: st) hp := ax_bipush dX9_takes_89 (by decide) rfl
theorem dX9_takes_91 : decode cX9_takes 91 = .ok (.iload_n 1, 1) := by decide +kernel
theorem sX9_takes_91 : ab_X rom K cX9_takes 7 1 91 (v0 :: .int x :: ls) st hp = ab_X rom K cX9_takes 7 1 92 (v0 :: .int x :: ls) (.int x :: st) hp := ax_iload_n dX9_takes_91 rfl rfl
theorem dX9_takes_92 : decode cX9_takes 92 = .ok (.imul, 1) := by decide +kernel
theorem sX9_takes_92 : ab_X rom K cX9_takes 7 1 92 ls (.int y :: .int x :: st) hp = ab_X rom K cX9_takes 7 1 93 ls (.int (x * y) :: st) hp := ax_imul dX9_takes_92 rfl
theorem dX9_takes_93 : decode cX9_takes 93 = .ok (.bipush 8, 2) := by decide +kernel
theorem sX9_takes_93 : ab_X rom K cX9_takes 7 1 93 ls st hp = ab_X rom K cX9_takes 7 1 95 ls (.int 8 :: st) hp := ax_bipush dX9_takes_93 (by decide) rfl
theorem dX9_takes_95 : decode cX9_takes 95 = .ok (.iadd, 1) := by decide +kernel
theorem sX9_takes_95 : ab_X rom K cX9_takes 7 1 95 ls (.int y :: .int x :: st) hp = ab_X rom K cX9_takes 7 1 96 ls (.int (x + y) :: st) hp := ax_iadd dX9_takes_95 rfl
theorem dX9_takes_96 : decode cX9_takes 96 = .ok (.iload 5, 2) := by decide +kernel
theorem sX9_takes_96 : ab_X rom K cX9_takes 7 1 96 (v0 :: v1 :: v2 :: v3 :: v4 :: .int x :: ls) st hp = ab_X rom K cX9_takes 7 1 98 (v0 :: v1 :: v2 :: v3 :: v4 :: .int x :: ls) (.int x :: st) hp := ax_iload dX9_takes_96 rfl rfl
theorem dX9_takes_98 : decode cX9_takes 98 = .ok (.iadd, 1) := by decide +kernel
theorem sX9_takes_98 : ab_X rom K cX9_takes 7 1 98 ls (.int y :: .int x :: st) hp = ab_X rom K cX9_takes 7 1 99 ls (.int (x + y) :: st) hp := ax_iadd dX9_takes_98 rfl
theorem dX9_takes_99 : decode cX9_takes 99 = .ok (.aload_n 0, 1) := by decide +kernel
theorem sX9_takes_99 : ab_X rom K cX9_takes 7 1 99 (.ref a :: ls) st hp = ab_X rom K cX9_takes 7 1 100 (.ref a :: ls) (.ref a :: st) hp := ax_aload_n dX9_takes_99 rfl rfl
theorem dX9_takes_100 : decode cX9_takes 100 = .ok (.getfield 32, 3) := by decide +kernel
theorem sX9_takes_100 : ab_X rom K cX9_takes 7 1 100 ls (.ref a :: st) hp = (ab_fld hp a 7 16).bind (fun v => ab_X rom K cX9_takes 7 1 103 ls (v :: st) hp) := ax_getfield dX9_takes_100 kf_7_32 rfl
theorem dX9_takes_103 : decode cX9_takes 103 = .ok (.iload 5, 2) := by decide +kernel
theorem sX9_takes_103 : ab_X rom K cX9_takes 7 1 103 (v0 :: v1 :: v2 :: v3 :: v4 :: .int x :: ls) st hp = ab_X rom K cX9_takes 7 1 105 (v0 :: v1 :: v2 :: v3 :: v4 :: .int x :: ls) (.int x :: st) hp := ax_iload dX9_takes_103 rfl rfl
theorem dX9_takes_105 : decode cX9_takes 105 = .ok (.iaload, 1) := by decide +kernel
theorem sX9_takes_105 : ab_X rom K cX9_takes 7 1 105 ls (.int x :: .ref a :: st) hp = (ab_ard rom 0 hp a x).bind (fun v => ab_X rom K cX9_takes 7 1 106 ls (.int v :: st) hp) := ax_iaload dX9_takes_105 rfl
theorem dX9_takes_106 : decode cX9_takes 106 = .ok (.iastore, 1) := by decide +kernel
theorem sX9_takes_106 : ab_X rom K cX9_takes 7 1 106 ls (.int y :: .int x :: .ref a :: st) hp = (ab_awr 0 hp a x y).bind (fun hp' => ab_X rom K cX9_takes 7 1 107 ls st hp') := ax_iastore dX9_takes_106 rfl
theorem dX9_takes_107 : decode cX9_takes 107 = .ok (.iinc 5 1, 3) := by decide +kernel
theorem sX9_takes_107i : ab_X rom K cX9_takes 7 1 107 (v0 :: v1 :: v2 :: v3 :: .int y :: .int x :: ls) st hp = ab_X rom K cX9_takes 7 1 110 (v0 :: v1 :: v2 :: v3 :: .int y :: .int (x + 1) :: ls) st hp := ax_iinc dX9_takes_107 rfl (ab_nl_c1 (j := 4) (v := .int y) rfl (ab_c1_int _)) (by decide) rfl rfl
theorem sX9_takes_107r : ab_X rom K cX9_takes 7 1 107 (v0 :: v1 :: v2 :: v3 :: .ref a2 :: .int x :: ls) st hp = ab_X rom K cX9_takes 7 1 110 (v0 :: v1 :: v2 :: v3 :: .ref a2 :: .int (x + 1) :: ls) st hp := ax_iinc dX9_takes_107 rfl (ab_nl_c1 (j := 4) (v := .ref a2) rfl (ab_c1_ref _)) (by decide) rfl rfl
theorem sX9_takes_107n : ab_X rom K cX9_takes 7 1 107 (v0 :: v1 :: v2 :: v3 :: .null :: .int x :: ls) st hp = ab_X rom K cX9_takes 7 1 110 (v0 :: v1 :: v2 :: v3 :: .null :: .int (x + 1) :: ls) st hp := ax_iinc dX9_takes_107 rfl (ab_nl_c1 (j := 4) (v := .null) rfl ab_c1_null) (by decide) rfl rfl
theorem dX9_takes_110 : decode cX9_takes 110 = .ok (.goto (-55), 3) := by decide +kernel
theorem sX9_takes_110 : ab_X rom K cX9_takes 7 1 110 ls st hp = ab_X rom K cX9_takes 7 1 55 ls st hp := ax_goto dX9_takes_110 (by decide)
theorem dX9_takes_113 : decode cX9_takes 113 = .ok (.iload 4, 2) := by decide +kernel
theorem sX9_takes_113 : ab_X rom K cX9_takes 7 1 113 (v0 :: v1 :: v2 :: v3 :: .int x :: ls) st hp = ab_X rom K cX9_takes 7 1 115 (v0 :: v1 :: v2 :: v3 :: .int x :: ls) (.int x :: st) hp := ax_iload dX9_takes_113 rfl rfl
theorem dX9_takes_115 : decode cX9_takes 115 = .ok (.ifCond .ne 7, 3) := by decide +kernel
theorem sX9_takes_115 : ab_X rom K cX9_takes 7 1 115 ls (.int x :: st) hp = if x = 0 then ab_X rom K cX9_takes 7 1 118 ls st hp else ab_X rom K cX9_takes 7 1 122 ls st hp := ax_if_ne dX9_takes_115 (by decide) rfl
theorem dX9_takes_118 : decode cX9_takes 118 = .ok (.iconst 0, 1) := by decide +kernel
theorem sX9_takes_118 : ab_X rom K cX9_takes 7 1 118 ls st hp = ab_X rom K cX9_takes 7 1 119 ls (.int 0 :: st) hp := ax_iconst dX9_takes_118 (by decide) rfl
theorem dX9_takes_119 : decode cX9_takes 119 = .ok (.goto 9, 3) := by decide +kernel
theorem sX9_takes_119 : ab_X rom K cX9_takes 7 1 119 ls st hp = ab_X rom K cX9_takes 7 1 128 ls st hp := ax_goto dX9_takes_119 (by decide)
theorem dX9_takes_122 : decode cX9_takes 122 = .ok (.aload_n 0, 1) := by decide +kernel
theorem sX9_takes_122 : ab_X rom K cX9_takes 7 1 122 (.ref a :: ls) st hp = ab_X rom K cX9_takes 7 1 123 (.ref a :: ls) (.ref a :: st) hp := ax_aload_n dX9_takes_122 rfl rfl
theorem dX9_takes_123 : decode cX9_takes 123 = .ok (.iload 4, 2) := by decide +kernel
theorem sX9_takes_123 : ab_X rom K cX9_takes 7 1 123 (v0 :: v1 :: v2 :: v3 :: .int x :: ls) st hp = ab_X rom K cX9_takes 7 1 125 (v0 :: v1 :: v2 :: v3 :: .int x :: ls) (.int x :: st) hp := ax_iload dX9_takes_123 rfl rfl
theorem dX9_takes_125 : decode cX9_takes 125 = .ok (.invokevirtual 94, 3) := by decide +kernel
theorem sX9_takes_125_0 : ab_X rom K cX9_takes 7 1 125 ls [w1, .ref a] hp = if ab_iso hp a 7 = true then (K 144 (.ref a :: [w1]) hp).bind (fun o => ab_X rom K cX9_takes 7 1 128 ls (o.1.toList ++ []) o.2) else none := ay_virtual (as := [w1]) (st := []) dX9_takes_125 kc_7_94 rfl rfl (Nat.le_of_ble_eq_true rfl)
theorem sX9_takes_125_1 : ab_X rom K cX9_takes 7 1 125 ls [w1, .ref a, v0] hp = if ab_iso hp a 7 = true then (K 144 (.ref a :: [w1]) hp).bind (fun o => ab_X rom K cX9_takes 7 1 128 ls (o.1.toList ++ [v0]) o.2) else none := ay_virtual (as := [w1]) (st := [v0]) dX9_takes_125 kc_7_94 rfl rfl (Nat.le_of_ble_eq_true rfl)
theorem sX9_takes_125_2 : ab_X rom K cX9_takes 7 1 125 ls [w1, .ref a, v0, v1] hp = if ab_iso hp a 7 = true then (K 144 (.ref a :: [w1]) hp).bind (fun o => ab_X rom K cX9_takes 7 1 128 ls (o.1.toList ++ [v0, v1]) o.2) else none := ay_virtual (as := [w1]) (st := [v0, v1]) dX9_takes_125 kc_7_94 rfl rfl (Nat.le_of_ble_eq_true rfl)
theorem sX9_takes_125_3 : ab_X rom K cX9_takes 7 1 125 ls [w1, .ref a, v0, v1, v2] hp = if ab_iso hp a 7 = true then (K 144 (.ref a :: [w1]) hp).bind (fun o => ab_X rom K cX9_takes 7 1 128 ls (o.1.toList ++ [v0, v1, v2]) o.2) else none := ay_virtual (as := [w1]) (st := [v0, v1, v2]) dX9_takes_125 kc_7_94 rfl rfl (Nat.le_of_ble_eq_true rfl)
theorem dX9_takes_128 : decode cX9_takes 128 = .ok (.ireturn, 1) := by decide +kernel
theorem sX9_takes_128 : ab_X rom K cX9_takes 7 1 128 ls [.int x] hp = some (some (.int x), hp) := ax_iret dX9_takes_128 rfl
theorem tX9_tell : ab_mT[230]? = some (yX9_tell, cX9_tell, 4, 1, 7) := by decide +kernel
theorem mX9_tell {d : Nat} {a0 : Nat} {x0 : Int32} {x1 : Int32} : ab_M rom (d + 1) 230 [.ref a0, .int x0, .int x1] hp = ab_X rom (ab_M rom d) cX9_tell 7 1 0 [.ref a0, .int x0, .int x1, .null] [] hp := ab_M_eq tX9_tell (Nat.le_of_ble_eq_true rfl)
theorem dX9_tell_0 : decode cX9_tell 0 = .ok (.aload_n 0, 1) := by decide +kernel
theorem sX9_tell_0 : ab_X rom K cX9_tell 7 1 0 (.ref a :: ls) st hp = ab_X rom K cX9_tell 7 1 1 (.ref a :: ls) (.ref a :: st) hp := ax_aload_n dX9_tell_0 rfl rfl
theorem dX9_tell_1 : decode cX9_tell 1 = .ok (.iload_n 1, 1) := by decide +kernel
theorem sX9_tell_1 : ab_X rom K cX9_tell 7 1 1 (v0 :: .int x :: ls) st hp = ab_X rom K cX9_tell 7 1 2 (v0 :: .int x :: ls) (.int x :: st) hp := ax_iload_n dX9_tell_1 rfl rfl
theorem dX9_tell_2 : decode cX9_tell 2 = .ok (.invokevirtual 68, 3) := by decide +kernel
theorem sX9_tell_2_0 : ab_X rom K cX9_tell 7 1 2 ls [w1, .ref a] hp = if ab_iso hp a 7 = true then (K 171 (.ref a :: [w1]) hp).bind (fun o => ab_X rom K cX9_tell 7 1 5 ls (o.1.toList ++ []) o.2) else none := ay_virtual (as := [w1]) (st := []) dX9_tell_2 kc_7_68 rfl rfl (Nat.le_of_ble_eq_true rfl)
theorem sX9_tell_2_1 : ab_X rom K cX9_tell 7 1 2 ls [w1, .ref a, v0] hp = if ab_iso hp a 7 = true then (K 171 (.ref a :: [w1]) hp).bind (fun o => ab_X rom K cX9_tell 7 1 5 ls (o.1.toList ++ [v0]) o.2) else none := ay_virtual (as := [w1]) (st := [v0]) dX9_tell_2 kc_7_68 rfl rfl (Nat.le_of_ble_eq_true rfl)
theorem sX9_tell_2_2 : ab_X rom K cX9_tell 7 1 2 ls [w1, .ref a, v0, v1] hp = if ab_iso hp a 7 = true then (K 171 (.ref a :: [w1]) hp).bind (fun o => ab_X rom K cX9_tell 7 1 5 ls (o.1.toList ++ [v0, v1]) o.2) else none := ay_virtual (as := [w1]) (st := [v0, v1]) dX9_tell_2 kc_7_68 rfl rfl (Nat.le_of_ble_eq_true rfl)
theorem sX9_tell_2_3 : ab_X rom K cX9_tell 7 1 2 ls [w1, .ref a, v0, v1, v2] hp = if ab_iso hp a 7 = true then (K 171 (.ref a :: [w1]) hp).bind (fun o => ab_X rom K cX9_tell 7 1 5 ls (o.1.toList ++ [v0, v1, v2]) o.2) else none := ay_virtual (as := [w1]) (st := [v0, v1, v2]) dX9_tell_2 kc_7_68 rfl rfl (Nat.le_of_ble_eq_true rfl)
theorem dX9_tell_5 : decode cX9_tell 5 = .ok (.ifCond .eq 13, 3) := by decide +kernel
theorem sX9_tell_5 : ab_X rom K cX9_tell 7 1 5 ls (.int x :: st) hp = if x = 0 then ab_X rom K cX9_tell 7 1 18 ls st hp else ab_X rom K cX9_tell 7 1 8 ls st hp := ax_if_eq dX9_tell_5 (by decide) rfl
theorem dX9_tell_8 : decode cX9_tell 8 = .ok (.iload_n 2, 1) := by decide +kernel
theorem sX9_tell_8 : ab_X rom K cX9_tell 7 1 8 (v0 :: v1 :: .int x :: ls) st hp = ab_X rom K cX9_tell 7 1 9 (v0 :: v1 :: .int x :: ls) (.int x :: st) hp := ax_iload_n dX9_tell_8 rfl rfl
theorem dX9_tell_9 : decode cX9_tell 9 = .ok (.i2l, 1) := by decide +kernel
theorem sX9_tell_9 : ab_X rom K cX9_tell 7 1 9 ls (.int x :: st) hp = ab_X rom K cX9_tell 7 1 10 ls (.long x.toInt64 :: st) hp := ax_i2l dX9_tell_9 rfl
theorem dX9_tell_10 : decode cX9_tell 10 = .ok (.lconst 0, 1) := by decide +kernel
theorem sX9_tell_10 : ab_X rom K cX9_tell 7 1 10 ls st hp = ab_X rom K cX9_tell 7 1 11 ls (.long 0 :: st) hp := ax_lconst dX9_tell_10 (by decide) rfl
theorem dX9_tell_11 : decode cX9_tell 11 = .ok (.lconst 1, 1) := by decide +kernel
theorem sX9_tell_11 : ab_X rom K cX9_tell 7 1 11 ls st hp = ab_X rom K cX9_tell 7 1 12 ls (.long 1 :: st) hp := ax_lconst dX9_tell_11 (by decide) rfl
theorem dX9_tell_12 : decode cX9_tell 12 = .ok (.invokestatic 56, 3) := by decide +kernel
theorem sX9_tell_12_0 : ab_X rom K cX9_tell 7 1 12 ls [w3, w2, w1] hp = (K 159 [w1, w2, w3] hp).bind (fun o => ab_X rom K cX9_tell 7 1 15 ls (o.1.toList ++ []) o.2) := ax_static (as := [w1, w2, w3]) (st := []) dX9_tell_12 kc_7_56 rfl rfl (Nat.le_of_ble_eq_true rfl)
theorem sX9_tell_12_1 : ab_X rom K cX9_tell 7 1 12 ls [w3, w2, w1, v0] hp = (K 159 [w1, w2, w3] hp).bind (fun o => ab_X rom K cX9_tell 7 1 15 ls (o.1.toList ++ [v0]) o.2) := ax_static (as := [w1, w2, w3]) (st := [v0]) dX9_tell_12 kc_7_56 rfl rfl (Nat.le_of_ble_eq_true rfl)
theorem sX9_tell_12_2 : ab_X rom K cX9_tell 7 1 12 ls [w3, w2, w1, v0, v1] hp = (K 159 [w1, w2, w3] hp).bind (fun o => ab_X rom K cX9_tell 7 1 15 ls (o.1.toList ++ [v0, v1]) o.2) := ax_static (as := [w1, w2, w3]) (st := [v0, v1]) dX9_tell_12 kc_7_56 rfl rfl (Nat.le_of_ble_eq_true rfl)
theorem sX9_tell_12_3 : ab_X rom K cX9_tell 7 1 12 ls [w3, w2, w1, v0, v1, v2] hp = (K 159 [w1, w2, w3] hp).bind (fun o => ab_X rom K cX9_tell 7 1 15 ls (o.1.toList ++ [v0, v1, v2]) o.2) := ax_static (as := [w1, w2, w3]) (st := [v0, v1, v2]) dX9_tell_12 kc_7_56 rfl rfl (Nat.le_of_ble_eq_true rfl)
theorem dX9_tell_15 : decode cX9_tell 15 = .ok (.ifCond .ne 6, 3) := by decide +kernel
theorem sX9_tell_15 : ab_X rom K cX9_tell 7 1 15 ls (.int x :: st) hp = if x = 0 then ab_X rom K cX9_tell 7 1 18 ls st hp else ab_X rom K cX9_tell 7 1 21 ls st hp := ax_if_ne dX9_tell_15 (by decide) rfl
theorem dX9_tell_18 : decode cX9_tell 18 = .ok (.bipush (-2), 2) := by decide +kernel
theorem sX9_tell_18 : ab_X rom K cX9_tell 7 1 18 ls st hp = ab_X rom K cX9_tell 7 1 20 ls (.int (-2) :: st) hp := ax_bipush dX9_tell_18 (by decide) rfl
theorem dX9_tell_20 : decode cX9_tell 20 = .ok (.ireturn, 1) := by decide +kernel
theorem sX9_tell_20 : ab_X rom K cX9_tell 7 1 20 ls [.int x] hp = some (some (.int x), hp) := ax_iret dX9_tell_20 rfl
theorem dX9_tell_21 : decode cX9_tell 21 = .ok (.aload_n 0, 1) := by decide +kernel
theorem sX9_tell_21 : ab_X rom K cX9_tell 7 1 21 (.ref a :: ls) st hp = ab_X rom K cX9_tell 7 1 22 (.ref a :: ls) (.ref a :: st) hp := ax_aload_n dX9_tell_21 rfl rfl
theorem dX9_tell_22 : decode cX9_tell 22 = .ok (.iconst 0, 1) := by decide +kernel
theorem sX9_tell_22 : ab_X rom K cX9_tell 7 1 22 ls st hp = ab_X rom K cX9_tell 7 1 23 ls (.int 0 :: st) hp := ax_iconst dX9_tell_22 (by decide) rfl
theorem dX9_tell_23 : decode cX9_tell 23 = .ok (.putfield 188, 3) := by decide +kernel
theorem sX9_tell_23 : ab_X rom K cX9_tell 7 1 23 ls (.int x :: .ref a :: st) hp = (ab_fpt hp a 7 28 (.int x)).bind (fun hp' => ab_X rom K cX9_tell 7 1 26 ls st hp') := ax_putfield dX9_tell_23 kf_7_188 rfl (Or.inl rfl) rfl
theorem dX9_tell_26 : decode cX9_tell 26 = .ok (.iload_n 2, 1) := by decide +kernel
theorem sX9_tell_26 : ab_X rom K cX9_tell 7 1 26 (v0 :: v1 :: .int x :: ls) st hp = ab_X rom K cX9_tell 7 1 27 (v0 :: v1 :: .int x :: ls) (.int x :: st) hp := ax_iload_n dX9_tell_26 rfl rfl
theorem dX9_tell_27 : decode cX9_tell 27 = .ok (.iconst 1, 1) := by decide +kernel
theorem sX9_tell_27 : ab_X rom K cX9_tell 7 1 27 ls st hp = ab_X rom K cX9_tell 7 1 28 ls (.int 1 :: st) hp := ax_iconst dX9_tell_27 (by decide) rfl
theorem dX9_tell_28 : decode cX9_tell 28 = .ok (.if_icmp .ne 13, 3) := by decide +kernel
theorem sX9_tell_28 : ab_X rom K cX9_tell 7 1 28 ls (.int y :: .int x :: st) hp = if x = y then ab_X rom K cX9_tell 7 1 31 ls st hp else ab_X rom K cX9_tell 7 1 41 ls st hp := ax_icmp_ne dX9_tell_28 (by decide) rfl
theorem dX9_tell_31 : decode cX9_tell 31 = .ok (.aload_n 0, 1) := by decide +kernel
theorem sX9_tell_31 : ab_X rom K cX9_tell 7 1 31 (.ref a :: ls) st hp = ab_X rom K cX9_tell 7 1 32 (.ref a :: ls) (.ref a :: st) hp := ax_aload_n dX9_tell_31 rfl rfl
theorem dX9_tell_32 : decode cX9_tell 32 = .ok (.iload_n 1, 1) := by decide +kernel
theorem sX9_tell_32 : ab_X rom K cX9_tell 7 1 32 (v0 :: .int x :: ls) st hp = ab_X rom K cX9_tell 7 1 33 (v0 :: .int x :: ls) (.int x :: st) hp := ax_iload_n dX9_tell_32 rfl rfl
theorem dX9_tell_33 : decode cX9_tell 33 = .ok (.invokevirtual 377, 3) := by decide +kernel
theorem sX9_tell_33_0 : ab_X rom K cX9_tell 7 1 33 ls [w1, .ref a] hp = if ab_iso hp a 7 = true then (K 219 (.ref a :: [w1]) hp).bind (fun o => ab_X rom K cX9_tell 7 1 36 ls (o.1.toList ++ []) o.2) else none := ay_virtual (as := [w1]) (st := []) dX9_tell_33 kc_7_377 rfl rfl (Nat.le_of_ble_eq_true rfl)
theorem sX9_tell_33_1 : ab_X rom K cX9_tell 7 1 33 ls [w1, .ref a, v0] hp = if ab_iso hp a 7 = true then (K 219 (.ref a :: [w1]) hp).bind (fun o => ab_X rom K cX9_tell 7 1 36 ls (o.1.toList ++ [v0]) o.2) else none := ay_virtual (as := [w1]) (st := [v0]) dX9_tell_33 kc_7_377 rfl rfl (Nat.le_of_ble_eq_true rfl)
theorem sX9_tell_33_2 : ab_X rom K cX9_tell 7 1 33 ls [w1, .ref a, v0, v1] hp = if ab_iso hp a 7 = true then (K 219 (.ref a :: [w1]) hp).bind (fun o => ab_X rom K cX9_tell 7 1 36 ls (o.1.toList ++ [v0, v1]) o.2) else none := ay_virtual (as := [w1]) (st := [v0, v1]) dX9_tell_33 kc_7_377 rfl rfl (Nat.le_of_ble_eq_true rfl)
theorem sX9_tell_33_3 : ab_X rom K cX9_tell 7 1 33 ls [w1, .ref a, v0, v1, v2] hp = if ab_iso hp a 7 = true then (K 219 (.ref a :: [w1]) hp).bind (fun o => ab_X rom K cX9_tell 7 1 36 ls (o.1.toList ++ [v0, v1, v2]) o.2) else none := ay_virtual (as := [w1]) (st := [v0, v1, v2]) dX9_tell_33 kc_7_377 rfl rfl (Nat.le_of_ble_eq_true rfl)
theorem dX9_tell_36 : decode cX9_tell 36 = .ok (.aload_n 0, 1) := by decide +kernel
theorem sX9_tell_36 : ab_X rom K cX9_tell 7 1 36 (.ref a :: ls) st hp = ab_X rom K cX9_tell 7 1 37 (.ref a :: ls) (.ref a :: st) hp := ax_aload_n dX9_tell_36 rfl rfl
theorem dX9_tell_37 : decode cX9_tell 37 = .ok (.getfield 188, 3) := by decide +kernel
theorem sX9_tell_37 : ab_X rom K cX9_tell 7 1 37 ls (.ref a :: st) hp = (ab_fld hp a 7 28).bind (fun v => ab_X rom K cX9_tell 7 1 40 ls (v :: st) hp) := ax_getfield dX9_tell_37 kf_7_188 rfl
theorem dX9_tell_40 : decode cX9_tell 40 = .ok (.ireturn, 1) := by decide +kernel
theorem sX9_tell_40 : ab_X rom K cX9_tell 7 1 40 ls [.int x] hp = some (some (.int x), hp) := ax_iret dX9_tell_40 rfl
theorem dX9_tell_41 : decode cX9_tell 41 = .ok (.iconst 0, 1) := by decide +kernel
theorem sX9_tell_41 : ab_X rom K cX9_tell 7 1 41 ls st hp = ab_X rom K cX9_tell 7 1 42 ls (.int 0 :: st) hp := ax_iconst dX9_tell_41 (by decide) rfl
theorem dX9_tell_42 : decode cX9_tell 42 = .ok (.istore_n 3, 1) := by decide +kernel
theorem sX9_tell_42i : ab_X rom K cX9_tell 7 1 42 (v0 :: v1 :: .int y :: v3 :: ls) (.int x :: st) hp = ab_X rom K cX9_tell 7 1 43 (v0 :: v1 :: .int y :: .int x :: ls) st hp := ax_istore_n dX9_tell_42 (ax_lt (v := v3) rfl) (ab_nl_c1 (j := 2) (v := .int y) rfl (ab_c1_int _)) rfl rfl
theorem sX9_tell_42r : ab_X rom K cX9_tell 7 1 42 (v0 :: v1 :: .ref a2 :: v3 :: ls) (.int x :: st) hp = ab_X rom K cX9_tell 7 1 43 (v0 :: v1 :: .ref a2 :: .int x :: ls) st hp := ax_istore_n dX9_tell_42 (ax_lt (v := v3) rfl) (ab_nl_c1 (j := 2) (v := .ref a2) rfl (ab_c1_ref _)) rfl rfl
theorem sX9_tell_42n : ab_X rom K cX9_tell 7 1 42 (v0 :: v1 :: .null :: v3 :: ls) (.int x :: st) hp = ab_X rom K cX9_tell 7 1 43 (v0 :: v1 :: .null :: .int x :: ls) st hp := ax_istore_n dX9_tell_42 (ax_lt (v := v3) rfl) (ab_nl_c1 (j := 2) (v := .null) rfl ab_c1_null) rfl rfl
theorem dX9_tell_43 : decode cX9_tell 43 = .ok (.iload_n 3, 1) := by decide +kernel
theorem sX9_tell_43 : ab_X rom K cX9_tell 7 1 43 (v0 :: v1 :: v2 :: .int x :: ls) st hp = ab_X rom K cX9_tell 7 1 44 (v0 :: v1 :: v2 :: .int x :: ls) (.int x :: st) hp := ax_iload_n dX9_tell_43 rfl rfl
theorem dX9_tell_44 : decode cX9_tell 44 = .ok (.aload_n 0, 1) := by decide +kernel
theorem sX9_tell_44 : ab_X rom K cX9_tell 7 1 44 (.ref a :: ls) st hp = ab_X rom K cX9_tell 7 1 45 (.ref a :: ls) (.ref a :: st) hp := ax_aload_n dX9_tell_44 rfl rfl
theorem dX9_tell_45 : decode cX9_tell 45 = .ok (.iload_n 1, 1) := by decide +kernel
theorem sX9_tell_45 : ab_X rom K cX9_tell 7 1 45 (v0 :: .int x :: ls) st hp = ab_X rom K cX9_tell 7 1 46 (v0 :: .int x :: ls) (.int x :: st) hp := ax_iload_n dX9_tell_45 rfl rfl
theorem dX9_tell_46 : decode cX9_tell 46 = .ok (.invokevirtual 64, 3) := by decide +kernel
theorem sX9_tell_46_0 : ab_X rom K cX9_tell 7 1 46 ls [w1, .ref a] hp = if ab_iso hp a 7 = true then (K 209 (.ref a :: [w1]) hp).bind (fun o => ab_X rom K cX9_tell 7 1 49 ls (o.1.toList ++ []) o.2) else none := ay_virtual (as := [w1]) (st := []) dX9_tell_46 kc_7_64 rfl rfl (Nat.le_of_ble_eq_true rfl)
theorem sX9_tell_46_1 : ab_X rom K cX9_tell 7 1 46 ls [w1, .ref a, v0] hp = if ab_iso hp a 7 = true then (K 209 (.ref a :: [w1]) hp).bind (fun o => ab_X rom K cX9_tell 7 1 49 ls (o.1.toList ++ [v0]) o.2) else none := ay_virtual (as := [w1]) (st := [v0]) dX9_tell_46 kc_7_64 rfl rfl (Nat.le_of_ble_eq_true rfl)
theorem sX9_tell_46_2 : ab_X rom K cX9_tell 7 1 46 ls [w1, .ref a, v0, v1] hp = if ab_iso hp a 7 = true then (K 209 (.ref a :: [w1]) hp).bind (fun o => ab_X rom K cX9_tell 7 1 49 ls (o.1.toList ++ [v0, v1]) o.2) else none := ay_virtual (as := [w1]) (st := [v0, v1]) dX9_tell_46 kc_7_64 rfl rfl (Nat.le_of_ble_eq_true rfl)
theorem sX9_tell_46_3 : ab_X rom K cX9_tell 7 1 46 ls [w1, .ref a, v0, v1, v2] hp = if ab_iso hp a 7 = true then (K 209 (.ref a :: [w1]) hp).bind (fun o => ab_X rom K cX9_tell 7 1 49 ls (o.1.toList ++ [v0, v1, v2]) o.2) else none := ay_virtual (as := [w1]) (st := [v0, v1, v2]) dX9_tell_46 kc_7_64 rfl rfl (Nat.le_of_ble_eq_true rfl)
theorem dX9_tell_49 : decode cX9_tell 49 = .ok (.if_icmp .ge 47, 3) := by decide +kernel
theorem sX9_tell_49 : ab_X rom K cX9_tell 7 1 49 ls (.int y :: .int x :: st) hp = if x < y then ab_X rom K cX9_tell 7 1 52 ls st hp else ab_X rom K cX9_tell 7 1 96 ls st hp := ax_icmp_ge dX9_tell_49 (by decide) rfl
theorem dX9_tell_52 : decode cX9_tell 52 = .ok (.iload_n 3, 1) := by decide +kernel
theorem sX9_tell_52 : ab_X rom K cX9_tell 7 1 52 (v0 :: v1 :: v2 :: .int x :: ls) st hp = ab_X rom K cX9_tell 7 1 53 (v0 :: v1 :: v2 :: .int x :: ls) (.int x :: st) hp := ax_iload_n dX9_tell_52 rfl rfl
theorem dX9_tell_53 : decode cX9_tell 53 = .ok (.ifCond .le 9, 3) := by decide +kernel
theorem sX9_tell_53 : ab_X rom K cX9_tell 7 1 53 ls (.int x :: st) hp = if 0 < x then ab_X rom K cX9_tell 7 1 56 ls st hp else ab_X rom K cX9_tell 7 1 62 ls st hp := ax_if_le dX9_tell_53 (by decide) rfl
theorem dX9_tell_56 : decode cX9_tell 56 = .ok (.aload_n 0, 1) := by decide +kernel
theorem sX9_tell_56 : ab_X rom K cX9_tell 7 1 56 (.ref a :: ls) st hp = ab_X rom K cX9_tell 7 1 57 (.ref a :: ls) (.ref a :: st) hp := ax_aload_n dX9_tell_56 rfl rfl
theorem dX9_tell_57 : decode cX9_tell 57 = .ok (.bipush 44, 2) := by decide +kernel
theorem sX9_tell_57 : ab_X rom K cX9_tell 7 1 57 ls st hp = ab_X rom K cX9_tell 7 1 59 ls (.int 44 :: st) hp := ax_bipush dX9_tell_57 (by decide) rfl
theorem dX9_tell_59 : decode cX9_tell 59 = .ok (.invokevirtual 374, 3) := by decide +kernel
theorem sX9_tell_59_0 : ab_X rom K cX9_tell 7 1 59 ls [w1, .ref a] hp = if ab_iso hp a 7 = true then (K 218 (.ref a :: [w1]) hp).bind (fun o => ab_X rom K cX9_tell 7 1 62 ls (o.1.toList ++ []) o.2) else none := ay_virtual (as := [w1]) (st := []) dX9_tell_59 kc_7_374 rfl rfl (Nat.le_of_ble_eq_true rfl)
theorem sX9_tell_59_1 : ab_X rom K cX9_tell 7 1 59 ls [w1, .ref a, v0] hp = if ab_iso hp a 7 = true then (K 218 (.ref a :: [w1]) hp).bind (fun o => ab_X rom K cX9_tell 7 1 62 ls (o.1.toList ++ [v0]) o.2) else none := ay_virtual (as := [w1]) (st := [v0]) dX9_tell_59 kc_7_374 rfl rfl (Nat.le_of_ble_eq_true rfl)
theorem sX9_tell_59_2 : ab_X rom K cX9_tell 7 1 59 ls [w1, .ref a, v0, v1] hp = if ab_iso hp a 7 = true then (K 218 (.ref a :: [w1]) hp).bind (fun o => ab_X rom K cX9_tell 7 1 62 ls (o.1.toList ++ [v0, v1]) o.2) else none := ay_virtual (as := [w1]) (st := [v0, v1]) dX9_tell_59 kc_7_374 rfl rfl (Nat.le_of_ble_eq_true rfl)
theorem sX9_tell_59_3 : ab_X rom K cX9_tell 7 1 59 ls [w1, .ref a, v0, v1, v2] hp = if ab_iso hp a 7 = true then (K 218 (.ref a :: [w1]) hp).bind (fun o => ab_X rom K cX9_tell 7 1 62 ls (o.1.toList ++ [v0, v1, v2]) o.2) else none := ay_virtual (as := [w1]) (st := [v0, v1, v2]) dX9_tell_59 kc_7_374 rfl rfl (Nat.le_of_ble_eq_true rfl)
theorem dX9_tell_62 : decode cX9_tell 62 = .ok (.aload_n 0, 1) := by decide +kernel
theorem sX9_tell_62 : ab_X rom K cX9_tell 7 1 62 (.ref a :: ls) st hp = ab_X rom K cX9_tell 7 1 63 (.ref a :: ls) (.ref a :: st) hp := ax_aload_n dX9_tell_62 rfl rfl
theorem dX9_tell_63 : decode cX9_tell 63 = .ok (.iload_n 1, 1) := by decide +kernel
theorem sX9_tell_63 : ab_X rom K cX9_tell 7 1 63 (v0 :: .int x :: ls) st hp = ab_X rom K cX9_tell 7 1 64 (v0 :: .int x :: ls) (.int x :: st) hp := ax_iload_n dX9_tell_63 rfl rfl
theorem dX9_tell_64 : decode cX9_tell 64 = .ok (.iload_n 3, 1) := by decide +kernel
theorem sX9_tell_64 : ab_X rom K cX9_tell 7 1 64 (v0 :: v1 :: v2 :: .int x :: ls) st hp = ab_X rom K cX9_tell 7 1 65 (v0 :: v1 :: v2 :: .int x :: ls) (.int x :: st) hp := ax_iload_n dX9_tell_64 rfl rfl
theorem dX9_tell_65 : decode cX9_tell 65 = .ok (.invokevirtual 223, 3) := by decide +kernel
theorem sX9_tell_65_0 : ab_X rom K cX9_tell 7 1 65 ls [w2, w1, .ref a] hp = if ab_iso hp a 7 = true then (K 169 (.ref a :: [w1, w2]) hp).bind (fun o => ab_X rom K cX9_tell 7 1 68 ls (o.1.toList ++ []) o.2) else none := ay_virtual (as := [w1, w2]) (st := []) dX9_tell_65 kc_7_223 rfl rfl (Nat.le_of_ble_eq_true rfl)
theorem sX9_tell_65_1 : ab_X rom K cX9_tell 7 1 65 ls [w2, w1, .ref a, v0] hp = if ab_iso hp a 7 = true then (K 169 (.ref a :: [w1, w2]) hp).bind (fun o => ab_X rom K cX9_tell 7 1 68 ls (o.1.toList ++ [v0]) o.2) else none := ay_virtual (as := [w1, w2]) (st := [v0]) dX9_tell_65 kc_7_223 rfl rfl (Nat.le_of_ble_eq_true rfl)
theorem sX9_tell_65_2 : ab_X rom K cX9_tell 7 1 65 ls [w2, w1, .ref a, v0, v1] hp = if ab_iso hp a 7 = true then (K 169 (.ref a :: [w1, w2]) hp).bind (fun o => ab_X rom K cX9_tell 7 1 68 ls (o.1.toList ++ [v0, v1]) o.2) else none := ay_virtual (as := [w1, w2]) (st := [v0, v1]) dX9_tell_65 kc_7_223 rfl rfl (Nat.le_of_ble_eq_true rfl)
theorem sX9_tell_65_3 : ab_X rom K cX9_tell 7 1 65 ls [w2, w1, .ref a, v0, v1, v2] hp = if ab_iso hp a 7 = true then (K 169 (.ref a :: [w1, w2]) hp).bind (fun o => ab_X rom K cX9_tell 7 1 68 ls (o.1.toList ++ [v0, v1, v2]) o.2) else none := ay_virtual (as := [w1, w2]) (st := [v0, v1, v2]) dX9_tell_65 kc_7_223 rfl rfl (Nat.le_of_ble_eq_true rfl)
theorem dX9_tell_68 : decode cX9_tell 68 = .ok (.ifCond .eq 16, 3) := by decide +kernel
theorem sX9_tell_68 : ab_X rom K cX9_tell 7 1 68 ls (.int x :: st) hp = if x = 0 then ab_X rom K cX9_tell 7 1 84 ls st hp else ab_X rom K cX9_tell 7 1 71 ls st hp := ax_if_eq dX9_tell_68 (by decide) rfl
theorem dX9_tell_71 : decode cX9_tell 71 = .ok (.aload_n 0, 1) := by decide +kernel
theorem sX9_tell_71 : ab_X rom K cX9_tell 7 1 71 (.ref a :: ls) st hp = ab_X rom K cX9_tell 7 1 72 (.ref a :: ls) (.ref a :: st) hp := ax_aload_n dX9_tell_71 rfl rfl
theorem dX9_tell_72 : decode cX9_tell 72 = .ok (.aload_n 0, 1) := by decide +kernel
theorem sX9_tell_72 : ab_X rom K cX9_tell 7 1 72 (.ref a :: ls) st hp = ab_X rom K cX9_tell 7 1 73 (.ref a :: ls) (.ref a :: st) hp := ax_aload_n dX9_tell_72 rfl rfl
theorem dX9_tell_73 : decode cX9_tell 73 = .ok (.iload_n 1, 1) := by decide +kernel
theorem sX9_tell_73 : ab_X rom K cX9_tell 7 1 73 (v0 :: .int x :: ls) st hp = ab_X rom K cX9_tell 7 1 74 (v0 :: .int x :: ls) (.int x :: st) hp := ax_iload_n dX9_tell_73 rfl rfl
theorem dX9_tell_74 : decode cX9_tell 74 = .ok (.iload_n 3, 1) := by decide +kernel
theorem sX9_tell_74 : ab_X rom K cX9_tell 7 1 74 (v0 :: v1 :: v2 :: .int x :: ls) st hp = ab_X rom K cX9_tell 7 1 75 (v0 :: v1 :: v2 :: .int x :: ls) (.int x :: st) hp := ax_iload_n dX9_tell_74 rfl rfl
theorem dX9_tell_75 : decode cX9_tell 75 = .ok (.invokevirtual 168, 3) := by decide +kernel
theorem sX9_tell_75_0 : ab_X rom K cX9_tell 7 1 75 ls [w2, w1, .ref a] hp = if ab_iso hp a 7 = true then (K 183 (.ref a :: [w1, w2]) hp).bind (fun o => ab_X rom K cX9_tell 7 1 78 ls (o.1.toList ++ []) o.2) else none := ay_virtual (as := [w1, w2]) (st := []) dX9_tell_75 kc_7_168 rfl rfl (Nat.le_of_ble_eq_true rfl)
theorem sX9_tell_75_1 : ab_X rom K cX9_tell 7 1 75 ls [w2, w1, .ref a, v0] hp = if ab_iso hp a 7 = true then (K 183 (.ref a :: [w1, w2]) hp).bind (fun o => ab_X rom K cX9_tell 7 1 78 ls (o.1.toList ++ [v0]) o.2) else none := ay_virtual (as := [w1, w2]) (st := [v0]) dX9_tell_75 kc_7_168 rfl rfl (Nat.le_of_ble_eq_true rfl)
theorem sX9_tell_75_2 : ab_X rom K cX9_tell 7 1 75 ls [w2, w1, .ref a, v0, v1] hp = if ab_iso hp a 7 = true then (K 183 (.ref a :: [w1, w2]) hp).bind (fun o => ab_X rom K cX9_tell 7 1 78 ls (o.1.toList ++ [v0, v1]) o.2) else none := ay_virtual (as := [w1, w2]) (st := [v0, v1]) dX9_tell_75 kc_7_168 rfl rfl (Nat.le_of_ble_eq_true rfl)
theorem sX9_tell_75_3 : ab_X rom K cX9_tell 7 1 75 ls [w2, w1, .ref a, v0, v1, v2] hp = if ab_iso hp a 7 = true then (K 183 (.ref a :: [w1, w2]) hp).bind (fun o => ab_X rom K cX9_tell 7 1 78 ls (o.1.toList ++ [v0, v1, v2]) o.2) else none := ay_virtual (as := [w1, w2]) (st := [v0, v1, v2]) dX9_tell_75 kc_7_168 rfl rfl (Nat.le_of_ble_eq_true rfl)
theorem dX9_tell_78 : decode cX9_tell 78 = .ok (.invokevirtual 371, 3) := by decide +kernel
theorem sX9_tell_78_0 : ab_X rom K cX9_tell 7 1 78 ls [w1, .ref a] hp = if ab_iso hp a 7 = true then (K 220 (.ref a :: [w1]) hp).bind (fun o => ab_X rom K cX9_tell 7 1 81 ls (o.1.toList ++ []) o.2) else none := ay_virtual (as := [w1]) (st := []) dX9_tell_78 kc_7_371 rfl rfl (Nat.le_of_ble_eq_true rfl)
theorem sX9_tell_78_1 : ab_X rom K cX9_tell 7 1 78 ls [w1, .ref a, v0] hp = if ab_iso hp a 7 = true then (K 220 (.ref a :: [w1]) hp).bind (fun o => ab_X rom K cX9_tell 7 1 81 ls (o.1.toList ++ [v0]) o.2) else none := ay_virtual (as := [w1]) (st := [v0]) dX9_tell_78 kc_7_371 rfl rfl (Nat.le_of_ble_eq_true rfl)
theorem sX9_tell_78_2 : ab_X rom K cX9_tell 7 1 78 ls [w1, .ref a, v0, v1] hp = if ab_iso hp a 7 = true then (K 220 (.ref a :: [w1]) hp).bind (fun o => ab_X rom K cX9_tell 7 1 81 ls (o.1.toList ++ [v0, v1]) o.2) else none := ay_virtual (as := [w1]) (st := [v0, v1]) dX9_tell_78 kc_7_371 rfl rfl (Nat.le_of_ble_eq_true rfl)
theorem sX9_tell_78_3 : ab_X rom K cX9_tell 7 1 78 ls [w1, .ref a, v0, v1, v2] hp = if ab_iso hp a 7 = true then (K 220 (.ref a :: [w1]) hp).bind (fun o => ab_X rom K cX9_tell 7 1 81 ls (o.1.toList ++ [v0, v1, v2]) o.2) else none := ay_virtual (as := [w1]) (st := [v0, v1, v2]) dX9_tell_78 kc_7_371 rfl rfl (Nat.le_of_ble_eq_true rfl)
theorem dX9_tell_81 : decode cX9_tell 81 = .ok (.goto 9, 3) := by decide +kernel
theorem sX9_tell_81 : ab_X rom K cX9_tell 7 1 81 ls st hp = ab_X rom K cX9_tell 7 1 90 ls st hp := ax_goto dX9_tell_81 (by decide)
theorem dX9_tell_84 : decode cX9_tell 84 = .ok (.aload_n 0, 1) := by decide +kernel
theorem sX9_tell_84 : ab_X rom K cX9_tell 7 1 84 (.ref a :: ls) st hp = ab_X rom K cX9_tell 7 1 85 (.ref a :: ls) (.ref a :: st) hp := ax_aload_n dX9_tell_84 rfl rfl
theorem dX9_tell_85 : decode cX9_tell 85 = .ok (.bipush 45, 2) := by decide +kernel
theorem sX9_tell_85 : ab_X rom K cX9_tell 7 1 85 ls st hp = ab_X rom K cX9_tell 7 1 87 ls (.int 45 :: st) hp := ax_bipush dX9_tell_85 (by decide) rfl
theorem dX9_tell_87 : decode cX9_tell 87 = .ok (.invokevirtual 374, 3) := by decide +kernel
theorem sX9_tell_87_0 : ab_X rom K cX9_tell 7 1 87 ls [w1, .ref a] hp = if ab_iso hp a 7 = true then (K 218 (.ref a :: [w1]) hp).bind (fun o => ab_X rom K cX9_tell 7 1 90 ls (o.1.toList ++ []) o.2) else none := ay_virtual (as := [w1]) (st := []) dX9_tell_87 kc_7_374 rfl rfl (Nat.le_of_ble_eq_true rfl)
theorem sX9_tell_87_1 : ab_X rom K cX9_tell 7 1 87 ls [w1, .ref a, v0] hp = if ab_iso hp a 7 = true then (K 218 (.ref a :: [w1]) hp).bind (fun o => ab_X rom K cX9_tell 7 1 90 ls (o.1.toList ++ [v0]) o.2) else none := ay_virtual (as := [w1]) (st := [v0]) dX9_tell_87 kc_7_374 rfl rfl (Nat.le_of_ble_eq_true rfl)
theorem sX9_tell_87_2 : ab_X rom K cX9_tell 7 1 87 ls [w1, .ref a, v0, v1] hp = if ab_iso hp a 7 = true then (K 218 (.ref a :: [w1]) hp).bind (fun o => ab_X rom K cX9_tell 7 1 90 ls (o.1.toList ++ [v0, v1]) o.2) else none := ay_virtual (as := [w1]) (st := [v0, v1]) dX9_tell_87 kc_7_374 rfl rfl (Nat.le_of_ble_eq_true rfl)
theorem sX9_tell_87_3 : ab_X rom K cX9_tell 7 1 87 ls [w1, .ref a, v0, v1, v2] hp = if ab_iso hp a 7 = true then (K 218 (.ref a :: [w1]) hp).bind (fun o => ab_X rom K cX9_tell 7 1 90 ls (o.1.toList ++ [v0, v1, v2]) o.2) else none := ay_virtual (as := [w1]) (st := [v0, v1, v2]) dX9_tell_87 kc_7_374 rfl rfl (Nat.le_of_ble_eq_true rfl)
theorem dX9_tell_90 : decode cX9_tell 90 = .ok (.iinc 3 1, 3) := by decide +kernel
theorem sX9_tell_90i : ab_X rom K cX9_tell 7 1 90 (v0 :: v1 :: .int y :: .int x :: ls) st hp = ab_X rom K cX9_tell 7 1 93 (v0 :: v1 :: .int y :: .int (x + 1) :: ls) st hp := ax_iinc dX9_tell_90 rfl (ab_nl_c1 (j := 2) (v := .int y) rfl (ab_c1_int _)) (by decide) rfl rfl
theorem sX9_tell_90r : ab_X rom K cX9_tell 7 1 90 (v0 :: v1 :: .ref a2 :: .int x :: ls) st hp = ab_X rom K cX9_tell 7 1 93 (v0 :: v1 :: .ref a2 :: .int (x + 1) :: ls) st hp := ax_iinc dX9_tell_90 rfl (ab_nl_c1 (j := 2) (v := .ref a2) rfl (ab_c1_ref _)) (by decide) rfl rfl
theorem sX9_tell_90n : ab_X rom K cX9_tell 7 1 90 (v0 :: v1 :: .null :: .int x :: ls) st hp = ab_X rom K cX9_tell 7 1 93 (v0 :: v1 :: .null :: .int (x + 1) :: ls) st hp := ax_iinc dX9_tell_90 rfl (ab_nl_c1 (j := 2) (v := .null) rfl ab_c1_null) (by decide) rfl rfl
theorem dX9_tell_93 : decode cX9_tell 93 = .ok (.goto (-50), 3) := by decide +kernel
theorem sX9_tell_93 : ab_X rom K cX9_tell 7 1 93 ls st hp = ab_X rom K cX9_tell 7 1 43 ls st hp := ax_goto dX9_tell_93 (by decide)
theorem dX9_tell_96 : decode cX9_tell 96 = .ok (.aload_n 0, 1) := by decide +kernel
theorem sX9_tell_96 : ab_X rom K cX9_tell 7 1 96 (.ref a :: ls) st hp = ab_X rom K cX9_tell 7 1 97 (.ref a :: ls) (.ref a :: st) hp := ax_aload_n dX9_tell_96 rfl rfl
theorem dX9_tell_97 : decode cX9_tell 97 = .ok (.getfield 188, 3) := by decide +kernel
theorem sX9_tell_97 : ab_X rom K cX9_tell 7 1 97 ls (.ref a :: st) hp = (ab_fld hp a 7 28).bind (fun v => ab_X rom K cX9_tell 7 1 100 ls (v :: st) hp) := ax_getfield dX9_tell_97 kf_7_188 rfl
theorem dX9_tell_100 : decode cX9_tell 100 = .ok (.ireturn, 1) := by decide +kernel
theorem sX9_tell_100 : ab_X rom K cX9_tell 7 1 100 ls [.int x] hp = some (some (.int x), hp) := ax_iret dX9_tell_100 rfl
theorem tX9_told : ab_mT[231]? = some (yX9_told, cX9_told, 3, 1, 7) := by decide +kernel
theorem mX9_told {d : Nat} {a0 : Nat} {x0 : Int32} : ab_M rom (d + 1) 231 [.ref a0, .int x0] hp = ab_X rom (ab_M rom d) cX9_told 7 1 0 [.ref a0, .int x0, .null] [] hp := ab_M_eq tX9_told (Nat.le_of_ble_eq_true rfl)
theorem dX9_told_0 : decode cX9_told 0 = .ok (.iload_n 1, 1) := by decide +kernel
theorem sX9_told_0 : ab_X rom K cX9_told 7 1 0 (v0 :: .int x :: ls) st hp = ab_X rom K cX9_told 7 1 1 (v0 :: .int x :: ls) (.int x :: st) hp := ax_iload_n dX9_told_0 rfl rfl
theorem dX9_told_1 : decode cX9_told 1 = .ok (.invokestatic 60, 3) := by decide +kernel
theorem sX9_told_1_0 : ab_X rom K cX9_told 7 1 1 ls [w1] hp = (K 175 [w1] hp).bind (fun o => ab_X rom K cX9_told 7 1 4 ls (o.1.toList ++ []) o.2) := ax_static (as := [w1]) (st := []) dX9_told_1 kc_7_60 rfl rfl (Nat.le_of_ble_eq_true rfl)
theorem sX9_told_1_1 : ab_X rom K cX9_told 7 1 1 ls [w1, v0] hp = (K 175 [w1] hp).bind (fun o => ab_X rom K cX9_told 7 1 4 ls (o.1.toList ++ [v0]) o.2) := ax_static (as := [w1]) (st := [v0]) dX9_told_1 kc_7_60 rfl rfl (Nat.le_of_ble_eq_true rfl)
theorem sX9_told_1_2 : ab_X rom K cX9_told 7 1 1 ls [w1, v0, v1] hp = (K 175 [w1] hp).bind (fun o => ab_X rom K cX9_told 7 1 4 ls (o.1.toList ++ [v0, v1]) o.2) := ax_static (as := [w1]) (st := [v0, v1]) dX9_told_1 kc_7_60 rfl rfl (Nat.le_of_ble_eq_true rfl)
theorem sX9_told_1_3 : ab_X rom K cX9_told 7 1 1 ls [w1, v0, v1, v2] hp = (K 175 [w1] hp).bind (fun o => ab_X rom K cX9_told 7 1 4 ls (o.1.toList ++ [v0, v1, v2]) o.2) := ax_static (as := [w1]) (st := [v0, v1, v2]) dX9_told_1 kc_7_60 rfl rfl (Nat.le_of_ble_eq_true rfl)
theorem dX9_told_4 : decode cX9_told 4 = .ok (.ifCond .ne 6, 3) := by decide +kernel
theorem sX9_told_4 : ab_X rom K cX9_told 7 1 4 ls (.int x :: st) hp = if x = 0 then ab_X rom K cX9_told 7 1 7 ls st hp else ab_X rom K cX9_told 7 1 10 ls st hp := ax_if_ne dX9_told_4 (by decide) rfl
theorem dX9_told_7 : decode cX9_told 7 = .ok (.bipush (-2), 2) := by decide +kernel
theorem sX9_told_7 : ab_X rom K cX9_told 7 1 7 ls st hp = ab_X rom K cX9_told 7 1 9 ls (.int (-2) :: st) hp := ax_bipush dX9_told_7 (by decide) rfl
theorem dX9_told_9 : decode cX9_told 9 = .ok (.ireturn, 1) := by decide +kernel
theorem sX9_told_9 : ab_X rom K cX9_told 7 1 9 ls [.int x] hp = some (some (.int x), hp) := ax_iret dX9_told_9 rfl
theorem dX9_told_10 : decode cX9_told 10 = .ok (.aload_n 0, 1) := by decide +kernel
theorem sX9_told_10 : ab_X rom K cX9_told 7 1 10 (.ref a :: ls) st hp = ab_X rom K cX9_told 7 1 11 (.ref a :: ls) (.ref a :: st) hp := ax_aload_n dX9_told_10 rfl rfl
theorem dX9_told_11 : decode cX9_told 11 = .ok (.iconst 0, 1) := by decide +kernel
theorem sX9_told_11 : ab_X rom K cX9_told 7 1 11 ls st hp = ab_X rom K cX9_told 7 1 12 ls (.int 0 :: st) hp := ax_iconst dX9_told_11 (by decide) rfl
theorem dX9_told_12 : decode cX9_told 12 = .ok (.putfield 124, 3) := by decide +kernel
theorem sX9_told_12 : ab_X rom K cX9_told 7 1 12 ls (.int x :: .ref a :: st) hp = (ab_fpt hp a 7 6 (.int x)).bind (fun hp' => ab_X rom K cX9_told 7 1 15 ls st hp') := ax_putfield dX9_told_12 kf_7_124 rfl (Or.inl rfl) rfl
theorem dX9_told_15 : decode cX9_told 15 = .ok (.aload_n 0, 1) := by decide +kernel
theorem sX9_told_15 : ab_X rom K cX9_told 7 1 15 (.ref a :: ls) st hp = ab_X rom K cX9_told 7 1 16 (.ref a :: ls) (.ref a :: st) hp := ax_aload_n dX9_told_15 rfl rfl
theorem dX9_told_16 : decode cX9_told 16 = .ok (.iconst (-1), 1) := by decide +kernel
theorem sX9_told_16 : ab_X rom K cX9_told 7 1 16 ls st hp = ab_X rom K cX9_told 7 1 17 ls (.int (-1) :: st) hp := ax_iconst dX9_told_16 (by decide) rfl
theorem dX9_told_17 : decode cX9_told 17 = .ok (.putfield 22, 3) := by decide +kernel
theorem sX9_told_17 : ab_X rom K cX9_told 7 1 17 ls (.int x :: .ref a :: st) hp = (ab_fpt hp a 7 7 (.int x)).bind (fun hp' => ab_X rom K cX9_told 7 1 20 ls st hp') := ax_putfield dX9_told_17 kf_7_22 rfl (Or.inl rfl) rfl
theorem dX9_told_20 : decode cX9_told 20 = .ok (.aload_n 0, 1) := by decide +kernel
theorem sX9_told_20 : ab_X rom K cX9_told 7 1 20 (.ref a :: ls) st hp = ab_X rom K cX9_told 7 1 21 (.ref a :: ls) (.ref a :: st) hp := ax_aload_n dX9_told_20 rfl rfl
theorem dX9_told_21 : decode cX9_told 21 = .ok (.iconst 0, 1) := by decide +kernel
theorem sX9_told_21 : ab_X rom K cX9_told 7 1 21 ls st hp = ab_X rom K cX9_told 7 1 22 ls (.int 0 :: st) hp := ax_iconst dX9_told_21 (by decide) rfl
theorem dX9_told_22 : decode cX9_told 22 = .ok (.putfield 120, 3) := by decide +kernel
theorem sX9_told_22 : ab_X rom K cX9_told 7 1 22 ls (.int x :: .ref a :: st) hp = if x = 0 ∨ x = 1 then (ab_fpt hp a 7 12 (.int x)).bind (fun hp' => ab_X rom K cX9_told 7 1 25 ls st hp') else none := ay_putbool dX9_told_22 kf_7_120 rfl
theorem dX9_told_25 : decode cX9_told 25 = .ok (.aload_n 0, 1) := by decide +kernel
theorem sX9_told_25 : ab_X rom K cX9_told 7 1 25 (.ref a :: ls) st hp = ab_X rom K cX9_told 7 1 26 (.ref a :: ls) (.ref a :: st) hp := ax_aload_n dX9_told_25 rfl rfl
theorem dX9_told_26 : decode cX9_told 26 = .ok (.iconst 0, 1) := by decide +kernel
theorem sX9_told_26 : ab_X rom K cX9_told 7 1 26 ls st hp = ab_X rom K cX9_told 7 1 27 ls (.int 0 :: st) hp := ax_iconst dX9_told_26 (by decide) rfl
theorem dX9_told_27 : decode cX9_told 27 = .ok (.putfield 100, 3) := by decide +kernel
theorem sX9_told_27 : ab_X rom K cX9_told 7 1 27 ls (.int x :: .ref a :: st) hp = (ab_fpt hp a 7 8 (.int x)).bind (fun hp' => ab_X rom K cX9_told 7 1 30 ls st hp') := ax_putfield dX9_told_27 kf_7_100 rfl (Or.inl rfl) rfl
theorem dX9_told_30 : decode cX9_told 30 = .ok (.aload_n 0, 1) := by decide +kernel
theorem sX9_told_30 : ab_X rom K cX9_told 7 1 30 (.ref a :: ls) st hp = ab_X rom K cX9_told 7 1 31 (.ref a :: ls) (.ref a :: st) hp := ax_aload_n dX9_told_30 rfl rfl
theorem dX9_told_31 : decode cX9_told 31 = .ok (.invokevirtual 87, 3) := by decide +kernel
theorem sX9_told_31_0 : ab_X rom K cX9_told 7 1 31 ls [.ref a] hp = if ab_iso hp a 7 = true then (K 214 (.ref a :: []) hp).bind (fun o => ab_X rom K cX9_told 7 1 34 ls (o.1.toList ++ []) o.2) else none := ay_virtual (as := []) (st := []) dX9_told_31 kc_7_87 rfl rfl (Nat.le_of_ble_eq_true rfl)
theorem sX9_told_31_1 : ab_X rom K cX9_told 7 1 31 ls [.ref a, v0] hp = if ab_iso hp a 7 = true then (K 214 (.ref a :: []) hp).bind (fun o => ab_X rom K cX9_told 7 1 34 ls (o.1.toList ++ [v0]) o.2) else none := ay_virtual (as := []) (st := [v0]) dX9_told_31 kc_7_87 rfl rfl (Nat.le_of_ble_eq_true rfl)
theorem sX9_told_31_2 : ab_X rom K cX9_told 7 1 31 ls [.ref a, v0, v1] hp = if ab_iso hp a 7 = true then (K 214 (.ref a :: []) hp).bind (fun o => ab_X rom K cX9_told 7 1 34 ls (o.1.toList ++ [v0, v1]) o.2) else none := ay_virtual (as := []) (st := [v0, v1]) dX9_told_31 kc_7_87 rfl rfl (Nat.le_of_ble_eq_true rfl)
theorem sX9_told_31_3 : ab_X rom K cX9_told 7 1 31 ls [.ref a, v0, v1, v2] hp = if ab_iso hp a 7 = true then (K 214 (.ref a :: []) hp).bind (fun o => ab_X rom K cX9_told 7 1 34 ls (o.1.toList ++ [v0, v1, v2]) o.2) else none := ay_virtual (as := []) (st := [v0, v1, v2]) dX9_told_31 kc_7_87 rfl rfl (Nat.le_of_ble_eq_true rfl)
theorem dX9_told_34 : decode cX9_told 34 = .ok (.aload_n 0, 1) := by decide +kernel
theorem sX9_told_34 : ab_X rom K cX9_told 7 1 34 (.ref a :: ls) st hp = ab_X rom K cX9_told 7 1 35 (.ref a :: ls) (.ref a :: st) hp := ax_aload_n dX9_told_34 rfl rfl
theorem dX9_told_35 : decode cX9_told 35 = .ok (.invokevirtual 127, 3) := by decide +kernel
theorem sX9_told_35_0 : ab_X rom K cX9_told 7 1 35 ls [.ref a] hp = if ab_iso hp a 7 = true then (K 202 (.ref a :: []) hp).bind (fun o => ab_X rom K cX9_told 7 1 38 ls (o.1.toList ++ []) o.2) else none := ay_virtual (as := []) (st := []) dX9_told_35 kc_7_127 rfl rfl (Nat.le_of_ble_eq_true rfl)
theorem sX9_told_35_1 : ab_X rom K cX9_told 7 1 35 ls [.ref a, v0] hp = if ab_iso hp a 7 = true then (K 202 (.ref a :: []) hp).bind (fun o => ab_X rom K cX9_told 7 1 38 ls (o.1.toList ++ [v0]) o.2) else none := ay_virtual (as := []) (st := [v0]) dX9_told_35 kc_7_127 rfl rfl (Nat.le_of_ble_eq_true rfl)
theorem sX9_told_35_2 : ab_X rom K cX9_told 7 1 35 ls [.ref a, v0, v1] hp = if ab_iso hp a 7 = true then (K 202 (.ref a :: []) hp).bind (fun o => ab_X rom K cX9_told 7 1 38 ls (o.1.toList ++ [v0, v1]) o.2) else none := ay_virtual (as := []) (st := [v0, v1]) dX9_told_35 kc_7_127 rfl rfl (Nat.le_of_ble_eq_true rfl)
theorem sX9_told_35_3 : ab_X rom K cX9_told 7 1 35 ls [.ref a, v0, v1, v2] hp = if ab_iso hp a 7 = true then (K 202 (.ref a :: []) hp).bind (fun o => ab_X rom K cX9_told 7 1 38 ls (o.1.toList ++ [v0, v1, v2]) o.2) else none := ay_virtual (as := []) (st := [v0, v1, v2]) dX9_told_35 kc_7_127 rfl rfl (Nat.le_of_ble_eq_true rfl)
theorem dX9_told_38 : decode cX9_told 38 = .ok (.aload_n 0, 1) := by decide +kernel
theorem sX9_told_38 : ab_X rom K cX9_told 7 1 38 (.ref a :: ls) st hp = ab_X rom K cX9_told 7 1 39 (.ref a :: ls) (.ref a :: st) hp := ax_aload_n dX9_told_38 rfl rfl
theorem dX9_told_39 : decode cX9_told 39 = .ok (.iload_n 1, 1) := by decide +kernel
theorem sX9_told_39 : ab_X rom K cX9_told 7 1 39 (v0 :: .int x :: ls) st hp = ab_X rom K cX9_told 7 1 40 (v0 :: .int x :: ls) (.int x :: st) hp := ax_iload_n dX9_told_39 rfl rfl
theorem dX9_told_40 : decode cX9_told 40 = .ok (.invokevirtual 185, 3) := by decide +kernel
theorem sX9_told_40_0 : ab_X rom K cX9_told 7 1 40 ls [w1, .ref a] hp = if ab_iso hp a 7 = true then (K 213 (.ref a :: [w1]) hp).bind (fun o => ab_X rom K cX9_told 7 1 43 ls (o.1.toList ++ []) o.2) else none := ay_virtual (as := [w1]) (st := []) dX9_told_40 kc_7_185 rfl rfl (Nat.le_of_ble_eq_true rfl)
theorem sX9_told_40_1 : ab_X rom K cX9_told 7 1 40 ls [w1, .ref a, v0] hp = if ab_iso hp a 7 = true then (K 213 (.ref a :: [w1]) hp).bind (fun o => ab_X rom K cX9_told 7 1 43 ls (o.1.toList ++ [v0]) o.2) else none := ay_virtual (as := [w1]) (st := [v0]) dX9_told_40 kc_7_185 rfl rfl (Nat.le_of_ble_eq_true rfl)
theorem sX9_told_40_2 : ab_X rom K cX9_told 7 1 40 ls [w1, .ref a, v0, v1] hp = if ab_iso hp a 7 = true then (K 213 (.ref a :: [w1]) hp).bind (fun o => ab_X rom K cX9_told 7 1 43 ls (o.1.toList ++ [v0, v1]) o.2) else none := ay_virtual (as := [w1]) (st := [v0, v1]) dX9_told_40 kc_7_185 rfl rfl (Nat.le_of_ble_eq_true rfl)
theorem sX9_told_40_3 : ab_X rom K cX9_told 7 1 40 ls [w1, .ref a, v0, v1, v2] hp = if ab_iso hp a 7 = true then (K 213 (.ref a :: [w1]) hp).bind (fun o => ab_X rom K cX9_told 7 1 43 ls (o.1.toList ++ [v0, v1, v2]) o.2) else none := ay_virtual (as := [w1]) (st := [v0, v1, v2]) dX9_told_40 kc_7_185 rfl rfl (Nat.le_of_ble_eq_true rfl)
theorem dX9_told_43 : decode cX9_told 43 = .ok (.aload_n 0, 1) := by decide +kernel
theorem sX9_told_43 : ab_X rom K cX9_told 7 1 43 (.ref a :: ls) st hp = ab_X rom K cX9_told 7 1 44 (.ref a :: ls) (.ref a :: st) hp := ax_aload_n dX9_told_43 rfl rfl
theorem dX9_told_44 : decode cX9_told 44 = .ok (.iconst 0, 1) := by decide +kernel
theorem sX9_told_44 : ab_X rom K cX9_told 7 1 44 ls st hp = ab_X rom K cX9_told 7 1 45 ls (.int 0 :: st) hp := ax_iconst dX9_told_44 (by decide) rfl
theorem dX9_told_45 : decode cX9_told 45 = .ok (.putfield 97, 3) := by decide +kernel
theorem sX9_told_45 : ab_X rom K cX9_told 7 1 45 ls (.int x :: .ref a :: st) hp = (ab_fpt hp a 7 5 (.int x)).bind (fun hp' => ab_X rom K cX9_told 7 1 48 ls st hp') := ax_putfield dX9_told_45 kf_7_97 rfl (Or.inl rfl) rfl
theorem dX9_told_48 : decode cX9_told 48 = .ok (.aload_n 0, 1) := by decide +kernel
theorem sX9_told_48 : ab_X rom K cX9_told 7 1 48 (.ref a :: ls) st hp = ab_X rom K cX9_told 7 1 49 (.ref a :: ls) (.ref a :: st) hp := ax_aload_n dX9_told_48 rfl rfl
theorem dX9_told_49 : decode cX9_told 49 = .ok (.getfield 120, 3) := by decide +kernel
theorem sX9_told_49 : ab_X rom K cX9_told 7 1 49 ls (.ref a :: st) hp = (ab_fld hp a 7 12).bind (fun v => ab_X rom K cX9_told 7 1 52 ls (v :: st) hp) := ax_getfield dX9_told_49 kf_7_120 rfl
theorem dX9_told_52 : decode cX9_told 52 = .ok (.ifCond .eq 32, 3) := by decide +kernel
theorem sX9_told_52 : ab_X rom K cX9_told 7 1 52 ls (.int x :: st) hp = if x = 0 then ab_X rom K cX9_told 7 1 84 ls st hp else ab_X rom K cX9_told 7 1 55 ls st hp := ax_if_eq dX9_told_52 (by decide) rfl
theorem dX9_told_55 : decode cX9_told 55 = .ok (.iconst 0, 1) := by decide +kernel
theorem sX9_told_55 : ab_X rom K cX9_told 7 1 55 ls st hp = ab_X rom K cX9_told 7 1 56 ls (.int 0 :: st) hp := ax_iconst dX9_told_55 (by decide) rfl
theorem dX9_told_56 : decode cX9_told 56 = .ok (.istore_n 2, 1) := by decide +kernel
theorem sX9_told_56i : ab_X rom K cX9_told 7 1 56 (v0 :: .int y :: v2 :: ls) (.int x :: st) hp = ab_X rom K cX9_told 7 1 57 (v0 :: .int y :: .int x :: ls) st hp := ax_istore_n dX9_told_56 (ax_lt (v := v2) rfl) (ab_nl_c1 (j := 1) (v := .int y) rfl (ab_c1_int _)) rfl rfl
theorem sX9_told_56r : ab_X rom K cX9_told 7 1 56 (v0 :: .ref a2 :: v2 :: ls) (.int x :: st) hp = ab_X rom K cX9_told 7 1 57 (v0 :: .ref a2 :: .int x :: ls) st hp := ax_istore_n dX9_told_56 (ax_lt (v := v2) rfl) (ab_nl_c1 (j := 1) (v := .ref a2) rfl (ab_c1_ref _)) rfl rfl
theorem sX9_told_56n : ab_X rom K cX9_told 7 1 56 (v0 :: .null :: v2 :: ls) (.int x :: st) hp = ab_X rom K cX9_told 7 1 57 (v0 :: .null :: .int x :: ls) st hp := ax_istore_n dX9_told_56 (ax_lt (v := v2) rfl) (ab_nl_c1 (j := 1) (v := .null) rfl ab_c1_null) rfl rfl
theorem dX9_told_57 : decode cX9_told 57 = .ok (.iload_n 2, 1) := by decide +kernel
theorem sX9_told_57 : ab_X rom K cX9_told 7 1 57 (v0 :: v1 :: .int x :: ls) st hp = ab_X rom K cX9_told 7 1 58 (v0 :: v1 :: .int x :: ls) (.int x :: st) hp := ax_iload_n dX9_told_57 rfl rfl
theorem dX9_told_58 : decode cX9_told 58 = .ok (.bipush 45, 2) := by decide +kernel
theorem sX9_told_58 : ab_X rom K cX9_told 7 1 58 ls st hp = ab_X rom K cX9_told 7 1 60 ls (.int 45 :: st) hp := ax_bipush dX9_told_58 (by decide) rfl
theorem dX9_told_60 : decode cX9_told 60 = .ok (.if_icmp .ge 21, 3) := by decide +kernel
theorem sX9_told_60 : ab_X rom K cX9_told 7 1 60 ls (.int y :: .int x :: st) hp = if x < y then ab_X rom K cX9_told 7 1 63 ls st hp else ab_X rom K cX9_told 7 1 81 ls st hp := ax_icmp_ge dX9_told_60 (by decide) rfl
theorem dX9_told_63 : decode cX9_told 63 = .ok (.aload_n 0, 1) := by decide +kernel
theorem sX9_told_63 : ab_X rom K cX9_told 7 1 63 (.ref a :: ls) st hp = ab_X rom K cX9_told 7 1 64 (.ref a :: ls) (.ref a :: st) hp := ax_aload_n dX9_told_63 rfl rfl
theorem dX9_told_64 : decode cX9_told 64 = .ok (.getfield 7, 3) := by decide +kernel
theorem sX9_told_64 : ab_X rom K cX9_told 7 1 64 ls (.ref a :: st) hp = (ab_fld hp a 7 0).bind (fun v => ab_X rom K cX9_told 7 1 67 ls (v :: st) hp) := ax_getfield dX9_told_64 kf_7_7 rfl
theorem dX9_told_67 : decode cX9_told 67 = .ok (.iload_n 2, 1) := by decide +kernel
theorem sX9_told_67 : ab_X rom K cX9_told 7 1 67 (v0 :: v1 :: .int x :: ls) st hp = ab_X rom K cX9_told 7 1 68 (v0 :: v1 :: .int x :: ls) (.int x :: st) hp := ax_iload_n dX9_told_67 rfl rfl
theorem dX9_told_68 : decode cX9_told 68 = .ok (.aload_n 0, 1) := by decide +kernel
theorem sX9_told_68 : ab_X rom K cX9_told 7 1 68 (.ref a :: ls) st hp = ab_X rom K cX9_told 7 1 69 (.ref a :: ls) (.ref a :: st) hp := ax_aload_n dX9_told_68 rfl rfl
theorem dX9_told_69 : decode cX9_told 69 = .ok (.getfield 13, 3) := by decide +kernel
theorem sX9_told_69 : ab_X rom K cX9_told 7 1 69 ls (.ref a :: st) hp = (ab_fld hp a 7 1).bind (fun v => ab_X rom K cX9_told 7 1 72 ls (v :: st) hp) := ax_getfield dX9_told_69 kf_7_13 rfl
theorem dX9_told_72 : decode cX9_told 72 = .ok (.iload_n 2, 1) := by decide +kernel
theorem sX9_told_72 : ab_X rom K cX9_told 7 1 72 (v0 :: v1 :: .int x :: ls) st hp = ab_X rom K cX9_told 7 1 73 (v0 :: v1 :: .int x :: ls) (.int x :: st) hp := ax_iload_n dX9_told_72 rfl rfl
theorem dX9_told_73 : decode cX9_told 73 = .ok (.iaload, 1) := by decide +kernel
theorem sX9_told_73 : ab_X rom K cX9_told 7 1 73 ls (.int x :: .ref a :: st) hp = (ab_ard rom 0 hp a x).bind (fun v => ab_X rom K cX9_told 7 1 74 ls (.int v :: st) hp) := ax_iaload dX9_told_73 rfl
theorem dX9_told_74 : decode cX9_told 74 = .ok (.iastore, 1) := by decide +kernel
theorem sX9_told_74 : ab_X rom K cX9_told 7 1 74 ls (.int y :: .int x :: .ref a :: st) hp = (ab_awr 0 hp a x y).bind (fun hp' => ab_X rom K cX9_told 7 1 75 ls st hp') := ax_iastore dX9_told_74 rfl
theorem dX9_told_75 : decode cX9_told 75 = .ok (.iinc 2 1, 3) := by decide +kernel
theorem sX9_told_75i : ab_X rom K cX9_told 7 1 75 (v0 :: .int y :: .int x :: ls) st hp = ab_X rom K cX9_told 7 1 78 (v0 :: .int y :: .int (x + 1) :: ls) st hp := ax_iinc dX9_told_75 rfl (ab_nl_c1 (j := 1) (v := .int y) rfl (ab_c1_int _)) (by decide) rfl rfl
theorem sX9_told_75r : ab_X rom K cX9_told 7 1 75 (v0 :: .ref a2 :: .int x :: ls) st hp = ab_X rom K cX9_told 7 1 78 (v0 :: .ref a2 :: .int (x + 1) :: ls) st hp := ax_iinc dX9_told_75 rfl (ab_nl_c1 (j := 1) (v := .ref a2) rfl (ab_c1_ref _)) (by decide) rfl rfl
theorem sX9_told_75n : ab_X rom K cX9_told 7 1 75 (v0 :: .null :: .int x :: ls) st hp = ab_X rom K cX9_told 7 1 78 (v0 :: .null :: .int (x + 1) :: ls) st hp := ax_iinc dX9_told_75 rfl (ab_nl_c1 (j := 1) (v := .null) rfl ab_c1_null) (by decide) rfl rfl
theorem dX9_told_78 : decode cX9_told 78 = .ok (.goto (-21), 3) := by decide +kernel
theorem sX9_told_78 : ab_X rom K cX9_told 7 1 78 ls st hp = ab_X rom K cX9_told 7 1 57 ls st hp := ax_goto dX9_told_78 (by decide)
theorem dX9_told_81 : decode cX9_told 81 = .ok (.bipush (-4), 2) := by decide +kernel
theorem sX9_told_81 : ab_X rom K cX9_told 7 1 81 ls st hp = ab_X rom K cX9_told 7 1 83 ls (.int (-4) :: st) hp := ax_bipush dX9_told_81 (by decide) rfl
theorem dX9_told_83 : decode cX9_told 83 = .ok (.ireturn, 1) := by decide +kernel
theorem sX9_told_83 : ab_X rom K cX9_told 7 1 83 ls [.int x] hp = some (some (.int x), hp) := ax_iret dX9_told_83 rfl
theorem dX9_told_84 : decode cX9_told 84 = .ok (.aload_n 0, 1) := by decide +kernel
theorem sX9_told_84 : ab_X rom K cX9_told 7 1 84 (.ref a :: ls) st hp = ab_X rom K cX9_told 7 1 85 (.ref a :: ls) (.ref a :: st) hp := ax_aload_n dX9_told_84 rfl rfl
theorem dX9_told_85 : decode cX9_told 85 = .ok (.aload_n 0, 1) := by decide +kernel
theorem sX9_told_85 : ab_X rom K cX9_told 7 1 85 (.ref a :: ls) st hp = ab_X rom K cX9_told 7 1 86 (.ref a :: ls) (.ref a :: st) hp := ax_aload_n dX9_told_85 rfl rfl
theorem dX9_told_86 : decode cX9_told 86 = .ok (.iload_n 1, 1) := by decide +kernel
theorem sX9_told_86 : ab_X rom K cX9_told 7 1 86 (v0 :: .int x :: ls) st hp = ab_X rom K cX9_told 7 1 87 (v0 :: .int x :: ls) (.int x :: st) hp := ax_iload_n dX9_told_86 rfl rfl
theorem dX9_told_87 : decode cX9_told 87 = .ok (.invokevirtual 150, 3) := by decide +kernel
theorem sX9_told_87_0 : ab_X rom K cX9_told 7 1 87 ls [w1, .ref a] hp = if ab_iso hp a 7 = true then (K 188 (.ref a :: [w1]) hp).bind (fun o => ab_X rom K cX9_told 7 1 90 ls (o.1.toList ++ []) o.2) else none := ay_virtual (as := [w1]) (st := []) dX9_told_87 kc_7_150 rfl rfl (Nat.le_of_ble_eq_true rfl)
theorem sX9_told_87_1 : ab_X rom K cX9_told 7 1 87 ls [w1, .ref a, v0] hp = if ab_iso hp a 7 = true then (K 188 (.ref a :: [w1]) hp).bind (fun o => ab_X rom K cX9_told 7 1 90 ls (o.1.toList ++ [v0]) o.2) else none := ay_virtual (as := [w1]) (st := [v0]) dX9_told_87 kc_7_150 rfl rfl (Nat.le_of_ble_eq_true rfl)
theorem sX9_told_87_2 : ab_X rom K cX9_told 7 1 87 ls [w1, .ref a, v0, v1] hp = if ab_iso hp a 7 = true then (K 188 (.ref a :: [w1]) hp).bind (fun o => ab_X rom K cX9_told 7 1 90 ls (o.1.toList ++ [v0, v1]) o.2) else none := ay_virtual (as := [w1]) (st := [v0, v1]) dX9_told_87 kc_7_150 rfl rfl (Nat.le_of_ble_eq_true rfl)
theorem sX9_told_87_3 : ab_X rom K cX9_told 7 1 87 ls [w1, .ref a, v0, v1, v2] hp = if ab_iso hp a 7 = true then (K 188 (.ref a :: [w1]) hp).bind (fun o => ab_X rom K cX9_told 7 1 90 ls (o.1.toList ++ [v0, v1, v2]) o.2) else none := ay_virtual (as := [w1]) (st := [v0, v1, v2]) dX9_told_87 kc_7_150 rfl rfl (Nat.le_of_ble_eq_true rfl)
theorem dX9_told_90 : decode cX9_told 90 = .ok (.invokevirtual 94, 3) := by decide +kernel
theorem sX9_told_90_0 : ab_X rom K cX9_told 7 1 90 ls [w1, .ref a] hp = if ab_iso hp a 7 = true then (K 144 (.ref a :: [w1]) hp).bind (fun o => ab_X rom K cX9_told 7 1 93 ls (o.1.toList ++ []) o.2) else none := ay_virtual (as := [w1]) (st := []) dX9_told_90 kc_7_94 rfl rfl (Nat.le_of_ble_eq_true rfl)
theorem sX9_told_90_1 : ab_X rom K cX9_told 7 1 90 ls [w1, .ref a, v0] hp = if ab_iso hp a 7 = true then (K 144 (.ref a :: [w1]) hp).bind (fun o => ab_X rom K cX9_told 7 1 93 ls (o.1.toList ++ [v0]) o.2) else none := ay_virtual (as := [w1]) (st := [v0]) dX9_told_90 kc_7_94 rfl rfl (Nat.le_of_ble_eq_true rfl)
theorem sX9_told_90_2 : ab_X rom K cX9_told 7 1 90 ls [w1, .ref a, v0, v1] hp = if ab_iso hp a 7 = true then (K 144 (.ref a :: [w1]) hp).bind (fun o => ab_X rom K cX9_told 7 1 93 ls (o.1.toList ++ [v0, v1]) o.2) else none := ay_virtual (as := [w1]) (st := [v0, v1]) dX9_told_90 kc_7_94 rfl rfl (Nat.le_of_ble_eq_true rfl)
theorem sX9_told_90_3 : ab_X rom K cX9_told 7 1 90 ls [w1, .ref a, v0, v1, v2] hp = if ab_iso hp a 7 = true then (K 144 (.ref a :: [w1]) hp).bind (fun o => ab_X rom K cX9_told 7 1 93 ls (o.1.toList ++ [v0, v1, v2]) o.2) else none := ay_virtual (as := [w1]) (st := [v0, v1, v2]) dX9_told_90 kc_7_94 rfl rfl (Nat.le_of_ble_eq_true rfl)
theorem dX9_told_93 : decode cX9_told 93 = .ok (.ireturn, 1) := by decide +kernel
theorem sX9_told_93 : ab_X rom K cX9_told 7 1 93 ls [.int x] hp = some (some (.int x), hp) := ax_iret dX9_told_93 rfl
theorem tX9_total : ab_mT[232]? = some (yX9_total, cX9_total, 5, 1, 7) := by decide +kernel
theorem mX9_total {d : Nat} {a0 : Nat} {x0 : Int32} {x1 : Int32} : ab_M rom (d + 1) 232 [.ref a0, .int x0, .int x1] hp = ab_X rom (ab_M rom d) cX9_total 7 1 0 [.ref a0, .int x0, .int x1, .null, .null] [] hp := ab_M_eq tX9_total (Nat.le_of_ble_eq_true rfl)
theorem dX9_total_0 : decode cX9_total 0 = .ok (.aload_n 0, 1) := by decide +kernel
theorem sX9_total_0 : ab_X rom K cX9_total 7 1 0 (.ref a :: ls) st hp = ab_X rom K cX9_total 7 1 1 (.ref a :: ls) (.ref a :: st) hp := ax_aload_n dX9_total_0 rfl rfl
theorem dX9_total_1 : decode cX9_total 1 = .ok (.iload_n 1, 1) := by decide +kernel
theorem sX9_total_1 : ab_X rom K cX9_total 7 1 1 (v0 :: .int x :: ls) st hp = ab_X rom K cX9_total 7 1 2 (v0 :: .int x :: ls) (.int x :: st) hp := ax_iload_n dX9_total_1 rfl rfl
theorem dX9_total_2 : decode cX9_total 2 = .ok (.invokevirtual 68, 3) := by decide +kernel
theorem sX9_total_2_0 : ab_X rom K cX9_total 7 1 2 ls [w1, .ref a] hp = if ab_iso hp a 7 = true then (K 171 (.ref a :: [w1]) hp).bind (fun o => ab_X rom K cX9_total 7 1 5 ls (o.1.toList ++ []) o.2) else none := ay_virtual (as := [w1]) (st := []) dX9_total_2 kc_7_68 rfl rfl (Nat.le_of_ble_eq_true rfl)
theorem sX9_total_2_1 : ab_X rom K cX9_total 7 1 2 ls [w1, .ref a, v0] hp = if ab_iso hp a 7 = true then (K 171 (.ref a :: [w1]) hp).bind (fun o => ab_X rom K cX9_total 7 1 5 ls (o.1.toList ++ [v0]) o.2) else none := ay_virtual (as := [w1]) (st := [v0]) dX9_total_2 kc_7_68 rfl rfl (Nat.le_of_ble_eq_true rfl)
theorem sX9_total_2_2 : ab_X rom K cX9_total 7 1 2 ls [w1, .ref a, v0, v1] hp = if ab_iso hp a 7 = true then (K 171 (.ref a :: [w1]) hp).bind (fun o => ab_X rom K cX9_total 7 1 5 ls (o.1.toList ++ [v0, v1]) o.2) else none := ay_virtual (as := [w1]) (st := [v0, v1]) dX9_total_2 kc_7_68 rfl rfl (Nat.le_of_ble_eq_true rfl)
theorem sX9_total_2_3 : ab_X rom K cX9_total 7 1 2 ls [w1, .ref a, v0, v1, v2] hp = if ab_iso hp a 7 = true then (K 171 (.ref a :: [w1]) hp).bind (fun o => ab_X rom K cX9_total 7 1 5 ls (o.1.toList ++ [v0, v1, v2]) o.2) else none := ay_virtual (as := [w1]) (st := [v0, v1, v2]) dX9_total_2 kc_7_68 rfl rfl (Nat.le_of_ble_eq_true rfl)
theorem dX9_total_5 : decode cX9_total 5 = .ok (.ifCond .eq 13, 3) := by decide +kernel
theorem sX9_total_5 : ab_X rom K cX9_total 7 1 5 ls (.int x :: st) hp = if x = 0 then ab_X rom K cX9_total 7 1 18 ls st hp else ab_X rom K cX9_total 7 1 8 ls st hp := ax_if_eq dX9_total_5 (by decide) rfl
theorem dX9_total_8 : decode cX9_total 8 = .ok (.iload_n 2, 1) := by decide +kernel
theorem sX9_total_8 : ab_X rom K cX9_total 7 1 8 (v0 :: v1 :: .int x :: ls) st hp = ab_X rom K cX9_total 7 1 9 (v0 :: v1 :: .int x :: ls) (.int x :: st) hp := ax_iload_n dX9_total_8 rfl rfl
theorem dX9_total_9 : decode cX9_total 9 = .ok (.i2l, 1) := by decide +kernel
theorem sX9_total_9 : ab_X rom K cX9_total 7 1 9 ls (.int x :: st) hp = ab_X rom K cX9_total 7 1 10 ls (.long x.toInt64 :: st) hp := ax_i2l dX9_total_9 rfl
theorem dX9_total_10 : decode cX9_total 10 = .ok (.lconst 0, 1) := by decide +kernel
theorem sX9_total_10 : ab_X rom K cX9_total 7 1 10 ls st hp = ab_X rom K cX9_total 7 1 11 ls (.long 0 :: st) hp := ax_lconst dX9_total_10 (by decide) rfl
theorem dX9_total_11 : decode cX9_total 11 = .ok (.lconst 1, 1) := by decide +kernel
theorem sX9_total_11 : ab_X rom K cX9_total 7 1 11 ls st hp = ab_X rom K cX9_total 7 1 12 ls (.long 1 :: st) hp := ax_lconst dX9_total_11 (by decide) rfl
theorem dX9_total_12 : decode cX9_total 12 = .ok (.invokestatic 56, 3) := by decide +kernel
theorem sX9_total_12_0 : ab_X rom K cX9_total 7 1 12 ls [w3, w2, w1] hp = (K 159 [w1, w2, w3] hp).bind (fun o => ab_X rom K cX9_total 7 1 15 ls (o.1.toList ++ []) o.2) := ax_static (as := [w1, w2, w3]) (st := []) dX9_total_12 kc_7_56 rfl rfl (Nat.le_of_ble_eq_true rfl)
theorem sX9_total_12_1 : ab_X rom K cX9_total 7 1 12 ls [w3, w2, w1, v0] hp = (K 159 [w1, w2, w3] hp).bind (fun o => ab_X rom K cX9_total 7 1 15 ls (o.1.toList ++ [v0]) o.2) := ax_static (as := [w1, w2, w3]) (st := [v0]) dX9_total_12 kc_7_56 rfl rfl (Nat.le_of_ble_eq_true rfl)
theorem sX9_total_12_2 : ab_X rom K cX9_total 7 1 12 ls [w3, w2, w1, v0, v1] hp = (K 159 [w1, w2, w3] hp).bind (fun o => ab_X rom K cX9_total 7 1 15 ls (o.1.toList ++ [v0, v1]) o.2) := ax_static (as := [w1, w2, w3]) (st := [v0, v1]) dX9_total_12 kc_7_56 rfl rfl (Nat.le_of_ble_eq_true rfl)
theorem sX9_total_12_3 : ab_X rom K cX9_total 7 1 12 ls [w3, w2, w1, v0, v1, v2] hp = (K 159 [w1, w2, w3] hp).bind (fun o => ab_X rom K cX9_total 7 1 15 ls (o.1.toList ++ [v0, v1, v2]) o.2) := ax_static (as := [w1, w2, w3]) (st := [v0, v1, v2]) dX9_total_12 kc_7_56 rfl rfl (Nat.le_of_ble_eq_true rfl)
theorem dX9_total_15 : decode cX9_total 15 = .ok (.ifCond .ne 6, 3) := by decide +kernel
theorem sX9_total_15 : ab_X rom K cX9_total 7 1 15 ls (.int x :: st) hp = if x = 0 then ab_X rom K cX9_total 7 1 18 ls st hp else ab_X rom K cX9_total 7 1 21 ls st hp := ax_if_ne dX9_total_15 (by decide) rfl
theorem dX9_total_18 : decode cX9_total 18 = .ok (.bipush (-2), 2) := by decide +kernel
theorem sX9_total_18 : ab_X rom K cX9_total 7 1 18 ls st hp = ab_X rom K cX9_total 7 1 20 ls (.int (-2) :: st) hp := ax_bipush dX9_total_18 (by decide) rfl
theorem dX9_total_20 : decode cX9_total 20 = .ok (.ireturn, 1) := by decide +kernel
theorem sX9_total_20 : ab_X rom K cX9_total 7 1 20 ls [.int x] hp = some (some (.int x), hp) := ax_iret dX9_total_20 rfl
theorem dX9_total_21 : decode cX9_total 21 = .ok (.iconst 0, 1) := by decide +kernel
theorem sX9_total_21 : ab_X rom K cX9_total 7 1 21 ls st hp = ab_X rom K cX9_total 7 1 22 ls (.int 0 :: st) hp := ax_iconst dX9_total_21 (by decide) rfl
theorem dX9_total_22 : decode cX9_total 22 = .ok (.istore_n 3, 1) := by decide +kernel
theorem sX9_total_22i : ab_X rom K cX9_total 7 1 22 (v0 :: v1 :: .int y :: v3 :: ls) (.int x :: st) hp = ab_X rom K cX9_total 7 1 23 (v0 :: v1 :: .int y :: .int x :: ls) st hp := ax_istore_n dX9_total_22 (ax_lt (v := v3) rfl) (ab_nl_c1 (j := 2) (v := .int y) rfl (ab_c1_int _)) rfl rfl
theorem sX9_total_22r : ab_X rom K cX9_total 7 1 22 (v0 :: v1 :: .ref a2 :: v3 :: ls) (.int x :: st) hp = ab_X rom K cX9_total 7 1 23 (v0 :: v1 :: .ref a2 :: .int x :: ls) st hp := ax_istore_n dX9_total_22 (ax_lt (v := v3) rfl) (ab_nl_c1 (j := 2) (v := .ref a2) rfl (ab_c1_ref _)) rfl rfl
theorem sX9_total_22n : ab_X rom K cX9_total 7 1 22 (v0 :: v1 :: .null :: v3 :: ls) (.int x :: st) hp = ab_X rom K cX9_total 7 1 23 (v0 :: v1 :: .null :: .int x :: ls) st hp := ax_istore_n dX9_total_22 (ax_lt (v := v3) rfl) (ab_nl_c1 (j := 2) (v := .null) rfl ab_c1_null) rfl rfl
theorem dX9_total_23 : decode cX9_total 23 = .ok (.iconst 0, 1) := by decide +kernel
theorem sX9_total_23 : ab_X rom K cX9_total 7 1 23 ls st hp = ab_X rom K cX9_total 7 1 24 ls (.int 0 :: st) hp := ax_iconst dX9_total_23 (by decide) rfl
theorem dX9_total_24 : decode cX9_total 24 = .ok (.istore 4, 2) := by decide +kernel
theorem sX9_total_24i : ab_X rom K cX9_total 7 1 24 (v0 :: v1 :: v2 :: .int y :: v4 :: ls) (.int x :: st) hp = ab_X rom K cX9_total 7 1 26 (v0 :: v1 :: v2 :: .int y :: .int x :: ls) st hp := ax_istore dX9_total_24 (ax_lt (v := v4) rfl) (ab_nl_c1 (j := 3) (v := .int y) rfl (ab_c1_int _)) rfl rfl
theorem sX9_total_24r : ab_X rom K cX9_total 7 1 24 (v0 :: v1 :: v2 :: .ref a2 :: v4 :: ls) (.int x :: st) hp = ab_X rom K cX9_total 7 1 26 (v0 :: v1 :: v2 :: .ref a2 :: .int x :: ls) st hp := ax_istore dX9_total_24 (ax_lt (v := v4) rfl) (ab_nl_c1 (j := 3) (v := .ref a2) rfl (ab_c1_ref _)) rfl rfl
theorem sX9_total_24n : ab_X rom K cX9_total 7 1 24 (v0 :: v1 :: v2 :: .null :: v4 :: ls) (.int x :: st) hp = ab_X rom K cX9_total 7 1 26 (v0 :: v1 :: v2 :: .null :: .int x :: ls) st hp := ax_istore dX9_total_24 (ax_lt (v := v4) rfl) (ab_nl_c1 (j := 3) (v := .null) rfl ab_c1_null) rfl rfl
theorem dX9_total_26 : decode cX9_total 26 = .ok (.iload 4, 2) := by decide +kernel
theorem sX9_total_26 : ab_X rom K cX9_total 7 1 26 (v0 :: v1 :: v2 :: v3 :: .int x :: ls) st hp = ab_X rom K cX9_total 7 1 28 (v0 :: v1 :: v2 :: v3 :: .int x :: ls) (.int x :: st) hp := ax_iload dX9_total_26 rfl rfl
theorem dX9_total_28 : decode cX9_total 28 = .ok (.aload_n 0, 1) := by decide +kernel
theorem sX9_total_28 : ab_X rom K cX9_total 7 1 28 (.ref a :: ls) st hp = ab_X rom K cX9_total 7 1 29 (.ref a :: ls) (.ref a :: st) hp := ax_aload_n dX9_total_28 rfl rfl
theorem dX9_total_29 : decode cX9_total 29 = .ok (.iload_n 1, 1) := by decide +kernel
theorem sX9_total_29 : ab_X rom K cX9_total 7 1 29 (v0 :: .int x :: ls) st hp = ab_X rom K cX9_total 7 1 30 (v0 :: .int x :: ls) (.int x :: st) hp := ax_iload_n dX9_total_29 rfl rfl
theorem dX9_total_30 : decode cX9_total 30 = .ok (.invokevirtual 64, 3) := by decide +kernel
theorem sX9_total_30_0 : ab_X rom K cX9_total 7 1 30 ls [w1, .ref a] hp = if ab_iso hp a 7 = true then (K 209 (.ref a :: [w1]) hp).bind (fun o => ab_X rom K cX9_total 7 1 33 ls (o.1.toList ++ []) o.2) else none := ay_virtual (as := [w1]) (st := []) dX9_total_30 kc_7_64 rfl rfl (Nat.le_of_ble_eq_true rfl)
theorem sX9_total_30_1 : ab_X rom K cX9_total 7 1 30 ls [w1, .ref a, v0] hp = if ab_iso hp a 7 = true then (K 209 (.ref a :: [w1]) hp).bind (fun o => ab_X rom K cX9_total 7 1 33 ls (o.1.toList ++ [v0]) o.2) else none := ay_virtual (as := [w1]) (st := [v0]) dX9_total_30 kc_7_64 rfl rfl (Nat.le_of_ble_eq_true rfl)
theorem sX9_total_30_2 : ab_X rom K cX9_total 7 1 30 ls [w1, .ref a, v0, v1] hp = if ab_iso hp a 7 = true then (K 209 (.ref a :: [w1]) hp).bind (fun o => ab_X rom K cX9_total 7 1 33 ls (o.1.toList ++ [v0, v1]) o.2) else none := ay_virtual (as := [w1]) (st := [v0, v1]) dX9_total_30 kc_7_64 rfl rfl (Nat.le_of_ble_eq_true rfl)
theorem sX9_total_30_3 : ab_X rom K cX9_total 7 1 30 ls [w1, .ref a, v0, v1, v2] hp = if ab_iso hp a 7 = true then (K 209 (.ref a :: [w1]) hp).bind (fun o => ab_X rom K cX9_total 7 1 33 ls (o.1.toList ++ [v0, v1, v2]) o.2) else none := ay_virtual (as := [w1]) (st := [v0, v1, v2]) dX9_total_30 kc_7_64 rfl rfl (Nat.le_of_ble_eq_true rfl)
theorem dX9_total_33 : decode cX9_total 33 = .ok (.if_icmp .ge 31, 3) := by decide +kernel
theorem sX9_total_33 : ab_X rom K cX9_total 7 1 33 ls (.int y :: .int x :: st) hp = if x < y then ab_X rom K cX9_total 7 1 36 ls st hp else ab_X rom K cX9_total 7 1 64 ls st hp := ax_icmp_ge dX9_total_33 (by decide) rfl
theorem dX9_total_36 : decode cX9_total 36 = .ok (.aload_n 0, 1) := by decide +kernel
theorem sX9_total_36 : ab_X rom K cX9_total 7 1 36 (.ref a :: ls) st hp = ab_X rom K cX9_total 7 1 37 (.ref a :: ls) (.ref a :: st) hp := ax_aload_n dX9_total_36 rfl rfl
theorem dX9_total_37 : decode cX9_total 37 = .ok (.iload_n 1, 1) := by decide +kernel
theorem sX9_total_37 : ab_X rom K cX9_total 7 1 37 (v0 :: .int x :: ls) st hp = ab_X rom K cX9_total 7 1 38 (v0 :: .int x :: ls) (.int x :: st) hp := ax_iload_n dX9_total_37 rfl rfl
theorem dX9_total_38 : decode cX9_total 38 = .ok (.iload 4, 2) := by decide +kernel
theorem sX9_total_38 : ab_X rom K cX9_total 7 1 38 (v0 :: v1 :: v2 :: v3 :: .int x :: ls) st hp = ab_X rom K cX9_total 7 1 40 (v0 :: v1 :: v2 :: v3 :: .int x :: ls) (.int x :: st) hp := ax_iload dX9_total_38 rfl rfl
theorem dX9_total_40 : decode cX9_total 40 = .ok (.invokevirtual 223, 3) := by decide +kernel
theorem sX9_total_40_0 : ab_X rom K cX9_total 7 1 40 ls [w2, w1, .ref a] hp = if ab_iso hp a 7 = true then (K 169 (.ref a :: [w1, w2]) hp).bind (fun o => ab_X rom K cX9_total 7 1 43 ls (o.1.toList ++ []) o.2) else none := ay_virtual (as := [w1, w2]) (st := []) dX9_total_40 kc_7_223 rfl rfl (Nat.le_of_ble_eq_true rfl)
theorem sX9_total_40_1 : ab_X rom K cX9_total 7 1 40 ls [w2, w1, .ref a, v0] hp = if ab_iso hp a 7 = true then (K 169 (.ref a :: [w1, w2]) hp).bind (fun o => ab_X rom K cX9_total 7 1 43 ls (o.1.toList ++ [v0]) o.2) else none := ay_virtual (as := [w1, w2]) (st := [v0]) dX9_total_40 kc_7_223 rfl rfl (Nat.le_of_ble_eq_true rfl)
theorem sX9_total_40_2 : ab_X rom K cX9_total 7 1 40 ls [w2, w1, .ref a, v0, v1] hp = if ab_iso hp a 7 = true then (K 169 (.ref a :: [w1, w2]) hp).bind (fun o => ab_X rom K cX9_total 7 1 43 ls (o.1.toList ++ [v0, v1]) o.2) else none := ay_virtual (as := [w1, w2]) (st := [v0, v1]) dX9_total_40 kc_7_223 rfl rfl (Nat.le_of_ble_eq_true rfl)
theorem sX9_total_40_3 : ab_X rom K cX9_total 7 1 40 ls [w2, w1, .ref a, v0, v1, v2] hp = if ab_iso hp a 7 = true then (K 169 (.ref a :: [w1, w2]) hp).bind (fun o => ab_X rom K cX9_total 7 1 43 ls (o.1.toList ++ [v0, v1, v2]) o.2) else none := ay_virtual (as := [w1, w2]) (st := [v0, v1, v2]) dX9_total_40 kc_7_223 rfl rfl (Nat.le_of_ble_eq_true rfl)
theorem dX9_total_43 : decode cX9_total 43 = .ok (.ifCond .ne 5, 3) := by decide +kernel
theorem sX9_total_43 : ab_X rom K cX9_total 7 1 43 ls (.int x :: st) hp = if x = 0 then ab_X rom K cX9_total 7 1 46 ls st hp else ab_X rom K cX9_total 7 1 48 ls st hp := ax_if_ne dX9_total_43 (by decide) rfl
theorem dX9_total_46 : decode cX9_total 46 = .ok (.iconst (-1), 1) := by decide +kernel
theorem sX9_total_46 : ab_X rom K cX9_total 7 1 46 ls st hp = ab_X rom K cX9_total 7 1 47 ls (.int (-1) :: st) hp := ax_iconst dX9_total_46 (by decide) rfl
theorem dX9_total_47 : decode cX9_total 47 = .ok (.ireturn, 1) := by decide +kernel
theorem sX9_total_47 : ab_X rom K cX9_total 7 1 47 ls [.int x] hp = some (some (.int x), hp) := ax_iret dX9_total_47 rfl
theorem dX9_total_48 : decode cX9_total 48 = .ok (.iload_n 3, 1) := by decide +kernel
theorem sX9_total_48 : ab_X rom K cX9_total 7 1 48 (v0 :: v1 :: v2 :: .int x :: ls) st hp = ab_X rom K cX9_total 7 1 49 (v0 :: v1 :: v2 :: .int x :: ls) (.int x :: st) hp := ax_iload_n dX9_total_48 rfl rfl
theorem dX9_total_49 : decode cX9_total 49 = .ok (.aload_n 0, 1) := by decide +kernel
theorem sX9_total_49 : ab_X rom K cX9_total 7 1 49 (.ref a :: ls) st hp = ab_X rom K cX9_total 7 1 50 (.ref a :: ls) (.ref a :: st) hp := ax_aload_n dX9_total_49 rfl rfl
theorem dX9_total_50 : decode cX9_total 50 = .ok (.iload_n 1, 1) := by decide +kernel
theorem sX9_total_50 : ab_X rom K cX9_total 7 1 50 (v0 :: .int x :: ls) st hp = ab_X rom K cX9_total 7 1 51 (v0 :: .int x :: ls) (.int x :: st) hp := ax_iload_n dX9_total_50 rfl rfl
theorem dX9_total_51 : decode cX9_total 51 = .ok (.iload 4, 2) := by decide +kernel
theorem sX9_total_51 : ab_X rom K cX9_total 7 1 51 (v0 :: v1 :: v2 :: v3 :: .int x :: ls) st hp = ab_X rom K cX9_total 7 1 53 (v0 :: v1 :: v2 :: v3 :: .int x :: ls) (.int x :: st) hp := ax_iload dX9_total_51 rfl rfl
theorem dX9_total_53 : decode cX9_total 53 = .ok (.invokevirtual 168, 3) := by decide +kernel
theorem sX9_total_53_0 : ab_X rom K cX9_total 7 1 53 ls [w2, w1, .ref a] hp = if ab_iso hp a 7 = true then (K 183 (.ref a :: [w1, w2]) hp).bind (fun o => ab_X rom K cX9_total 7 1 56 ls (o.1.toList ++ []) o.2) else none := ay_virtual (as := [w1, w2]) (st := []) dX9_total_53 kc_7_168 rfl rfl (Nat.le_of_ble_eq_true rfl)
theorem sX9_total_53_1 : ab_X rom K cX9_total 7 1 53 ls [w2, w1, .ref a, v0] hp = if ab_iso hp a 7 = true then (K 183 (.ref a :: [w1, w2]) hp).bind (fun o => ab_X rom K cX9_total 7 1 56 ls (o.1.toList ++ [v0]) o.2) else none := ay_virtual (as := [w1, w2]) (st := [v0]) dX9_total_53 kc_7_168 rfl rfl (Nat.le_of_ble_eq_true rfl)
theorem sX9_total_53_2 : ab_X rom K cX9_total 7 1 53 ls [w2, w1, .ref a, v0, v1] hp = if ab_iso hp a 7 = true then (K 183 (.ref a :: [w1, w2]) hp).bind (fun o => ab_X rom K cX9_total 7 1 56 ls (o.1.toList ++ [v0, v1]) o.2) else none := ay_virtual (as := [w1, w2]) (st := [v0, v1]) dX9_total_53 kc_7_168 rfl rfl (Nat.le_of_ble_eq_true rfl)
theorem sX9_total_53_3 : ab_X rom K cX9_total 7 1 53 ls [w2, w1, .ref a, v0, v1, v2] hp = if ab_iso hp a 7 = true then (K 183 (.ref a :: [w1, w2]) hp).bind (fun o => ab_X rom K cX9_total 7 1 56 ls (o.1.toList ++ [v0, v1, v2]) o.2) else none := ay_virtual (as := [w1, w2]) (st := [v0, v1, v2]) dX9_total_53 kc_7_168 rfl rfl (Nat.le_of_ble_eq_true rfl)
theorem dX9_total_56 : decode cX9_total 56 = .ok (.iadd, 1) := by decide +kernel
theorem sX9_total_56 : ab_X rom K cX9_total 7 1 56 ls (.int y :: .int x :: st) hp = ab_X rom K cX9_total 7 1 57 ls (.int (x + y) :: st) hp := ax_iadd dX9_total_56 rfl
theorem dX9_total_57 : decode cX9_total 57 = .ok (.istore_n 3, 1) := by decide +kernel
theorem sX9_total_57i : ab_X rom K cX9_total 7 1 57 (v0 :: v1 :: .int y :: v3 :: ls) (.int x :: st) hp = ab_X rom K cX9_total 7 1 58 (v0 :: v1 :: .int y :: .int x :: ls) st hp := ax_istore_n dX9_total_57 (ax_lt (v := v3) rfl) (ab_nl_c1 (j := 2) (v := .int y) rfl (ab_c1_int _)) rfl rfl
theorem sX9_total_57r : ab_X rom K cX9_total 7 1 57 (v0 :: v1 :: .ref a2 :: v3 :: ls) (.int x :: st) hp = ab_X rom K cX9_total 7 1 58 (v0 :: v1 :: .ref a2 :: .int x :: ls) st hp := ax_istore_n dX9_total_57 (ax_lt (v := v3) rfl) (ab_nl_c1 (j := 2) (v := .ref a2) rfl (ab_c1_ref _)) rfl rfl
theorem sX9_total_57n : ab_X rom K cX9_total 7 1 57 (v0 :: v1 :: .null :: v3 :: ls) (.int x :: st) hp = ab_X rom K cX9_total 7 1 58 (v0 :: v1 :: .null :: .int x :: ls) st hp := ax_istore_n dX9_total_57 (ax_lt (v := v3) rfl) (ab_nl_c1 (j := 2) (v := .null) rfl ab_c1_null) rfl rfl
theorem dX9_total_58 : decode cX9_total 58 = .ok (.iinc 4 1, 3) := by decide +kernel
theorem sX9_total_58i : ab_X rom K cX9_total 7 1 58 (v0 :: v1 :: v2 :: .int y :: .int x :: ls) st hp = ab_X rom K cX9_total 7 1 61 (v0 :: v1 :: v2 :: .int y :: .int (x + 1) :: ls) st hp := ax_iinc dX9_total_58 rfl (ab_nl_c1 (j := 3) (v := .int y) rfl (ab_c1_int _)) (by decide) rfl rfl
theorem sX9_total_58r : ab_X rom K cX9_total 7 1 58 (v0 :: v1 :: v2 :: .ref a2 :: .int x :: ls) st hp = ab_X rom K cX9_total 7 1 61 (v0 :: v1 :: v2 :: .ref a2 :: .int (x + 1) :: ls) st hp := ax_iinc dX9_total_58 rfl (ab_nl_c1 (j := 3) (v := .ref a2) rfl (ab_c1_ref _)) (by decide) rfl rfl
theorem sX9_total_58n : ab_X rom K cX9_total 7 1 58 (v0 :: v1 :: v2 :: .null :: .int x :: ls) st hp = ab_X rom K cX9_total 7 1 61 (v0 :: v1 :: v2 :: .null :: .int (x + 1) :: ls) st hp := ax_iinc dX9_total_58 rfl (ab_nl_c1 (j := 3) (v := .null) rfl ab_c1_null) (by decide) rfl rfl
theorem dX9_total_61 : decode cX9_total 61 = .ok (.goto (-35), 3) := by decide +kernel
theorem sX9_total_61 : ab_X rom K cX9_total 7 1 61 ls st hp = ab_X rom K cX9_total 7 1 26 ls st hp := ax_goto dX9_total_61 (by decide)
theorem dX9_total_64 : decode cX9_total 64 = .ok (.iload_n 2, 1) := by decide +kernel
theorem sX9_total_64 : ab_X rom K cX9_total 7 1 64 (v0 :: v1 :: .int x :: ls) st hp = ab_X rom K cX9_total 7 1 65 (v0 :: v1 :: .int x :: ls) (.int x :: st) hp := ax_iload_n dX9_total_64 rfl rfl
theorem dX9_total_65 : decode cX9_total 65 = .ok (.ifCond .ne 5, 3) := by decide +kernel
theorem sX9_total_65 : ab_X rom K cX9_total 7 1 65 ls (.int x :: st) hp = if x = 0 then ab_X rom K cX9_total 7 1 68 ls st hp else ab_X rom K cX9_total 7 1 70 ls st hp := ax_if_ne dX9_total_65 (by decide) rfl
theorem dX9_total_68 : decode cX9_total 68 = .ok (.iload_n 3, 1) := by decide +kernel
theorem sX9_total_68 : ab_X rom K cX9_total 7 1 68 (v0 :: v1 :: v2 :: .int x :: ls) st hp = ab_X rom K cX9_total 7 1 69 (v0 :: v1 :: v2 :: .int x :: ls) (.int x :: st) hp := ax_iload_n dX9_total_68 rfl rfl
theorem dX9_total_69 : decode cX9_total 69 = .ok (.ireturn, 1) := by decide +kernel
theorem sX9_total_69 : ab_X rom K cX9_total 7 1 69 ls [.int x] hp = some (some (.int x), hp) := ax_iret dX9_total_69 rfl
theorem dX9_total_70 : decode cX9_total 70 = .ok (.iconst 0, 1) := by decide +kernel
theorem sX9_total_70 : ab_X rom K cX9_total 7 1 70 ls st hp = ab_X rom K cX9_total 7 1 71 ls (.int 0 :: st) hp := ax_iconst dX9_total_70 (by decide) rfl
theorem dX9_total_71 : decode cX9_total 71 = .ok (.istore_n 3, 1) := by decide +kernel
theorem sX9_total_71i : ab_X rom K cX9_total 7 1 71 (v0 :: v1 :: .int y :: v3 :: ls) (.int x :: st) hp = ab_X rom K cX9_total 7 1 72 (v0 :: v1 :: .int y :: .int x :: ls) st hp := ax_istore_n dX9_total_71 (ax_lt (v := v3) rfl) (ab_nl_c1 (j := 2) (v := .int y) rfl (ab_c1_int _)) rfl rfl
theorem sX9_total_71r : ab_X rom K cX9_total 7 1 71 (v0 :: v1 :: .ref a2 :: v3 :: ls) (.int x :: st) hp = ab_X rom K cX9_total 7 1 72 (v0 :: v1 :: .ref a2 :: .int x :: ls) st hp := ax_istore_n dX9_total_71 (ax_lt (v := v3) rfl) (ab_nl_c1 (j := 2) (v := .ref a2) rfl (ab_c1_ref _)) rfl rfl
theorem sX9_total_71n : ab_X rom K cX9_total 7 1 71 (v0 :: v1 :: .null :: v3 :: ls) (.int x :: st) hp = ab_X rom K cX9_total 7 1 72 (v0 :: v1 :: .null :: .int x :: ls) st hp := ax_istore_n dX9_total_71 (ax_lt (v := v3) rfl) (ab_nl_c1 (j := 2) (v := .null) rfl ab_c1_null) rfl rfl
theorem dX9_total_72 : decode cX9_total 72 = .ok (.aload_n 0, 1) := by decide +kernel
theorem sX9_total_72 : ab_X rom K cX9_total 7 1 72 (.ref a :: ls) st hp = ab_X rom K cX9_total 7 1 73 (.ref a :: ls) (.ref a :: st) hp := ax_aload_n dX9_total_72 rfl rfl
theorem dX9_total_73 : decode cX9_total 73 = .ok (.iload_n 1, 1) := by decide +kernel
theorem sX9_total_73 : ab_X rom K cX9_total 7 1 73 (v0 :: .int x :: ls) st hp = ab_X rom K cX9_total 7 1 74 (v0 :: .int x :: ls) (.int x :: st) hp := ax_iload_n dX9_total_73 rfl rfl
theorem dX9_total_74 : decode cX9_total 74 = .ok (.invokevirtual 213, 3) := by decide +kernel
theorem sX9_total_74_0 : ab_X rom K cX9_total 7 1 74 ls [w1, .ref a] hp = if ab_iso hp a 7 = true then (K 185 (.ref a :: [w1]) hp).bind (fun o => ab_X rom K cX9_total 7 1 77 ls (o.1.toList ++ []) o.2) else none := ay_virtual (as := [w1]) (st := []) dX9_total_74 kc_7_213 rfl rfl (Nat.le_of_ble_eq_true rfl)
theorem sX9_total_74_1 : ab_X rom K cX9_total 7 1 74 ls [w1, .ref a, v0] hp = if ab_iso hp a 7 = true then (K 185 (.ref a :: [w1]) hp).bind (fun o => ab_X rom K cX9_total 7 1 77 ls (o.1.toList ++ [v0]) o.2) else none := ay_virtual (as := [w1]) (st := [v0]) dX9_total_74 kc_7_213 rfl rfl (Nat.le_of_ble_eq_true rfl)
theorem sX9_total_74_2 : ab_X rom K cX9_total 7 1 74 ls [w1, .ref a, v0, v1] hp = if ab_iso hp a 7 = true then (K 185 (.ref a :: [w1]) hp).bind (fun o => ab_X rom K cX9_total 7 1 77 ls (o.1.toList ++ [v0, v1]) o.2) else none := ay_virtual (as := [w1]) (st := [v0, v1]) dX9_total_74 kc_7_213 rfl rfl (Nat.le_of_ble_eq_true rfl)
theorem sX9_total_74_3 : ab_X rom K cX9_total 7 1 74 ls [w1, .ref a, v0, v1, v2] hp = if ab_iso hp a 7 = true then (K 185 (.ref a :: [w1]) hp).bind (fun o => ab_X rom K cX9_total 7 1 77 ls (o.1.toList ++ [v0, v1, v2]) o.2) else none := ay_virtual (as := [w1]) (st := [v0, v1, v2]) dX9_total_74 kc_7_213 rfl rfl (Nat.le_of_ble_eq_true rfl)
theorem dX9_total_77 : decode cX9_total 77 = .ok (.iconst 0, 1) := by decide +kernel
theorem sX9_total_77 : ab_X rom K cX9_total 7 1 77 ls st hp = ab_X rom K cX9_total 7 1 78 ls (.int 0 :: st) hp := ax_iconst dX9_total_77 (by decide) rfl
theorem dX9_total_78 : decode cX9_total 78 = .ok (.istore 4, 2) := by decide +kernel
theorem sX9_total_78i : ab_X rom K cX9_total 7 1 78 (v0 :: v1 :: v2 :: .int y :: v4 :: ls) (.int x :: st) hp = ab_X rom K cX9_total 7 1 80 (v0 :: v1 :: v2 :: .int y :: .int x :: ls) st hp := ax_istore dX9_total_78 (ax_lt (v := v4) rfl) (ab_nl_c1 (j := 3) (v := .int y) rfl (ab_c1_int _)) rfl rfl
theorem sX9_total_78r : ab_X rom K cX9_total 7 1 78 (v0 :: v1 :: v2 :: .ref a2 :: v4 :: ls) (.int x :: st) hp = ab_X rom K cX9_total 7 1 80 (v0 :: v1 :: v2 :: .ref a2 :: .int x :: ls) st hp := ax_istore dX9_total_78 (ax_lt (v := v4) rfl) (ab_nl_c1 (j := 3) (v := .ref a2) rfl (ab_c1_ref _)) rfl rfl
theorem sX9_total_78n : ab_X rom K cX9_total 7 1 78 (v0 :: v1 :: v2 :: .null :: v4 :: ls) (.int x :: st) hp = ab_X rom K cX9_total 7 1 80 (v0 :: v1 :: v2 :: .null :: .int x :: ls) st hp := ax_istore dX9_total_78 (ax_lt (v := v4) rfl) (ab_nl_c1 (j := 3) (v := .null) rfl ab_c1_null) rfl rfl
theorem dX9_total_80 : decode cX9_total 80 = .ok (.iload 4, 2) := by decide +kernel
theorem sX9_total_80 : ab_X rom K cX9_total 7 1 80 (v0 :: v1 :: v2 :: v3 :: .int x :: ls) st hp = ab_X rom K cX9_total 7 1 82 (v0 :: v1 :: v2 :: v3 :: .int x :: ls) (.int x :: st) hp := ax_iload dX9_total_80 rfl rfl
theorem dX9_total_82 : decode cX9_total 82 = .ok (.aload_n 0, 1) := by decide +kernel
theorem sX9_total_82 : ab_X rom K cX9_total 7 1 82 (.ref a :: ls) st hp = ab_X rom K cX9_total 7 1 83 (.ref a :: ls) (.ref a :: st) hp := ax_aload_n dX9_total_82 rfl rfl
theorem dX9_total_83 : decode cX9_total 83 = .ok (.getfield 210, 3) := by decide +kernel
theorem sX9_total_83 : ab_X rom K cX9_total 7 1 83 ls (.ref a :: st) hp = (ab_fld hp a 7 15).bind (fun v => ab_X rom K cX9_total 7 1 86 ls (v :: st) hp) := ax_getfield dX9_total_83 kf_7_210 rfl
theorem dX9_total_86 : decode cX9_total 86 = .ok (.if_icmp .ge 20, 3) := by decide +kernel
theorem sX9_total_86 : ab_X rom K cX9_total 7 1 86 ls (.int y :: .int x :: st) hp = if x < y then ab_X rom K cX9_total 7 1 89 ls st hp else ab_X rom K cX9_total 7 1 106 ls st hp := ax_icmp_ge dX9_total_86 (by decide) rfl
theorem dX9_total_89 : decode cX9_total 89 = .ok (.iload_n 3, 1) := by decide +kernel
theorem sX9_total_89 : ab_X rom K cX9_total 7 1 89 (v0 :: v1 :: v2 :: .int x :: ls) st hp = ab_X rom K cX9_total 7 1 90 (v0 :: v1 :: v2 :: .int x :: ls) (.int x :: st) hp := ax_iload_n dX9_total_89 rfl rfl
theorem dX9_total_90 : decode cX9_total 90 = .ok (.aload_n 0, 1) := by decide +kernel
theorem sX9_total_90 : ab_X rom K cX9_total 7 1 90 (.ref a :: ls) st hp = ab_X rom K cX9_total 7 1 91 (.ref a :: ls) (.ref a :: st) hp := ax_aload_n dX9_total_90 rfl rfl
theorem dX9_total_91 : decode cX9_total 91 = .ok (.iload_n 1, 1) := by decide +kernel
theorem sX9_total_91 : ab_X rom K cX9_total 7 1 91 (v0 :: .int x :: ls) st hp = ab_X rom K cX9_total 7 1 92 (v0 :: .int x :: ls) (.int x :: st) hp := ax_iload_n dX9_total_91 rfl rfl
theorem dX9_total_92 : decode cX9_total 92 = .ok (.iload 4, 2) := by decide +kernel
theorem sX9_total_92 : ab_X rom K cX9_total 7 1 92 (v0 :: v1 :: v2 :: v3 :: .int x :: ls) st hp = ab_X rom K cX9_total 7 1 94 (v0 :: v1 :: v2 :: v3 :: .int x :: ls) (.int x :: st) hp := ax_iload dX9_total_92 rfl rfl
theorem dX9_total_94 : decode cX9_total 94 = .ok (.iconst 0, 1) := by decide +kernel
theorem sX9_total_94 : ab_X rom K cX9_total 7 1 94 ls st hp = ab_X rom K cX9_total 7 1 95 ls (.int 0 :: st) hp := ax_iconst dX9_total_94 (by decide) rfl
theorem dX9_total_95 : decode cX9_total 95 = .ok (.invokevirtual 229, 3) := by decide +kernel
theorem sX9_total_95_0 : ab_X rom K cX9_total 7 1 95 ls [w3, w2, w1, .ref a] hp = if ab_iso hp a 7 = true then (K 240 (.ref a :: [w1, w2, w3]) hp).bind (fun o => ab_X rom K cX9_total 7 1 98 ls (o.1.toList ++ []) o.2) else none := ay_virtual (as := [w1, w2, w3]) (st := []) dX9_total_95 kc_7_229 rfl rfl (Nat.le_of_ble_eq_true rfl)
theorem sX9_total_95_1 : ab_X rom K cX9_total 7 1 95 ls [w3, w2, w1, .ref a, v0] hp = if ab_iso hp a 7 = true then (K 240 (.ref a :: [w1, w2, w3]) hp).bind (fun o => ab_X rom K cX9_total 7 1 98 ls (o.1.toList ++ [v0]) o.2) else none := ay_virtual (as := [w1, w2, w3]) (st := [v0]) dX9_total_95 kc_7_229 rfl rfl (Nat.le_of_ble_eq_true rfl)
theorem sX9_total_95_2 : ab_X rom K cX9_total 7 1 95 ls [w3, w2, w1, .ref a, v0, v1] hp = if ab_iso hp a 7 = true then (K 240 (.ref a :: [w1, w2, w3]) hp).bind (fun o => ab_X rom K cX9_total 7 1 98 ls (o.1.toList ++ [v0, v1]) o.2) else none := ay_virtual (as := [w1, w2, w3]) (st := [v0, v1]) dX9_total_95 kc_7_229 rfl rfl (Nat.le_of_ble_eq_true rfl)
theorem sX9_total_95_3 : ab_X rom K cX9_total 7 1 95 ls [w3, w2, w1, .ref a, v0, v1, v2] hp = if ab_iso hp a 7 = true then (K 240 (.ref a :: [w1, w2, w3]) hp).bind (fun o => ab_X rom K cX9_total 7 1 98 ls (o.1.toList ++ [v0, v1, v2]) o.2) else none := ay_virtual (as := [w1, w2, w3]) (st := [v0, v1, v2]) dX9_total_95 kc_7_229 rfl rfl (Nat.le_of_ble_eq_true rfl)
theorem dX9_total_98 : decode cX9_total 98 = .ok (.iadd, 1) := by decide +kernel
theorem sX9_total_98 : ab_X rom K cX9_total 7 1 98 ls (.int y :: .int x :: st) hp = ab_X rom K cX9_total 7 1 99 ls (.int (x + y) :: st) hp := ax_iadd dX9_total_98 rfl
theorem dX9_total_99 : decode cX9_total 99 = .ok (.istore_n 3, 1) := by decide +kernel
theorem sX9_total_99i : ab_X rom K cX9_total 7 1 99 (v0 :: v1 :: .int y :: v3 :: ls) (.int x :: st) hp = ab_X rom K cX9_total 7 1 100 (v0 :: v1 :: .int y :: .int x :: ls) st hp := ax_istore_n dX9_total_99 (ax_lt (v := v3) rfl) (ab_nl_c1 (j := 2) (v := .int y) rfl (ab_c1_int _)) rfl rfl
theorem sX9_total_99r : ab_X rom K cX9_total 7 1 99 (v0 :: v1 :: .ref a2 :: v3 :: ls) (.int x :: st) hp = ab_X rom K cX9_total 7 1 100 (v0 :: v1 :: .ref a2 :: .int x :: ls) st hp := ax_istore_n dX9_total_99 (ax_lt (v := v3) rfl) (ab_nl_c1 (j := 2) (v := .ref a2) rfl (ab_c1_ref _)) rfl rfl
theorem sX9_total_99n : ab_X rom K cX9_total 7 1 99 (v0 :: v1 :: .null :: v3 :: ls) (.int x :: st) hp = ab_X rom K cX9_total 7 1 100 (v0 :: v1 :: .null :: .int x :: ls) st hp := ax_istore_n dX9_total_99 (ax_lt (v := v3) rfl) (ab_nl_c1 (j := 2) (v := .null) rfl ab_c1_null) rfl rfl
theorem dX9_total_100 : decode cX9_total 100 = .ok (.iinc 4 1, 3) := by decide +kernel
theorem sX9_total_100i : ab_X rom K cX9_total 7 1 100 (v0 :: v1 :: v2 :: .int y :: .int x :: ls) st hp = ab_X rom K cX9_total 7 1 103 (v0 :: v1 :: v2 :: .int y :: .int (x + 1) :: ls) st hp := ax_iinc dX9_total_100 rfl (ab_nl_c1 (j := 3) (v := .int y) rfl (ab_c1_int _)) (by decide) rfl rfl
theorem sX9_total_100r : ab_X rom K cX9_total 7 1 100 (v0 :: v1 :: v2 :: .ref a2 :: .int x :: ls) st hp = ab_X rom K cX9_total 7 1 103 (v0 :: v1 :: v2 :: .ref a2 :: .int (x + 1) :: ls) st hp := ax_iinc dX9_total_100 rfl (ab_nl_c1 (j := 3) (v := .ref a2) rfl (ab_c1_ref _)) (by decide) rfl rfl
theorem sX9_total_100n : ab_X rom K cX9_total 7 1 100 (v0 :: v1 :: v2 :: .null :: .int x :: ls) st hp = ab_X rom K cX9_total 7 1 103 (v0 :: v1 :: v2 :: .null :: .int (x + 1) :: ls) st hp := ax_iinc dX9_total_100 rfl (ab_nl_c1 (j := 3) (v := .null) rfl ab_c1_null) (by decide) rfl rfl
theorem dX9_total_103 : decode cX9_total 103 = .ok (.goto (-23), 3) := by decide +kernel
theorem sX9_total_103 : ab_X rom K cX9_total 7 1 103 ls st hp = ab_X rom K cX9_total 7 1 80 ls st hp := ax_goto dX9_total_103 (by decide)
theorem dX9_total_106 : decode cX9_total 106 = .ok (.iload_n 3, 1) := by decide +kernel
theorem sX9_total_106 : ab_X rom K cX9_total 7 1 106 (v0 :: v1 :: v2 :: .int x :: ls) st hp = ab_X rom K cX9_total 7 1 107 (v0 :: v1 :: v2 :: .int x :: ls) (.int x :: st) hp := ax_iload_n dX9_total_106 rfl rfl
theorem dX9_total_107 : decode cX9_total 107 = .ok (.ireturn, 1) := by decide +kernel
theorem sX9_total_107 : ab_X rom K cX9_total 7 1 107 ls [.int x] hp = some (some (.int x), hp) := ax_iret dX9_total_107 rfl
theorem tX9_undo : ab_mT[233]? = some (yX9_undo, cX9_undo, 2, 1, 7) := by decide +kernel
theorem mX9_undo {d : Nat} {a0 : Nat} : ab_M rom (d + 1) 233 [.ref a0] hp = ab_X rom (ab_M rom d) cX9_undo 7 1 0 [.ref a0, .null] [] hp := ab_M_eq tX9_undo (Nat.le_of_ble_eq_true rfl)
theorem dX9_undo_0 : decode cX9_undo 0 = .ok (.aload_n 0, 1) := by decide +kernel
theorem sX9_undo_0 : ab_X rom K cX9_undo 7 1 0 (.ref a :: ls) st hp = ab_X rom K cX9_undo 7 1 1 (.ref a :: ls) (.ref a :: st) hp := ax_aload_n dX9_undo_0 rfl rfl
theorem dX9_undo_1 : decode cX9_undo 1 = .ok (.getfield 84, 3) := by decide +kernel
theorem sX9_undo_1 : ab_X rom K cX9_undo 7 1 1 ls (.ref a :: st) hp = (ab_fld hp a 7 3).bind (fun v => ab_X rom K cX9_undo 7 1 4 ls (v :: st) hp) := ax_getfield dX9_undo_1 kf_7_84 rfl
theorem dX9_undo_4 : decode cX9_undo 4 = .ok (.ifCond .ne 5, 3) := by decide +kernel
theorem sX9_undo_4 : ab_X rom K cX9_undo 7 1 4 ls (.int x :: st) hp = if x = 0 then ab_X rom K cX9_undo 7 1 7 ls st hp else ab_X rom K cX9_undo 7 1 9 ls st hp := ax_if_ne dX9_undo_4 (by decide) rfl
theorem dX9_undo_7 : decode cX9_undo 7 = .ok (.iconst (-1), 1) := by decide +kernel
theorem sX9_undo_7 : ab_X rom K cX9_undo 7 1 7 ls st hp = ab_X rom K cX9_undo 7 1 8 ls (.int (-1) :: st) hp := ax_iconst dX9_undo_7 (by decide) rfl
theorem dX9_undo_8 : decode cX9_undo 8 = .ok (.ireturn, 1) := by decide +kernel
theorem sX9_undo_8 : ab_X rom K cX9_undo 7 1 8 ls [.int x] hp = some (some (.int x), hp) := ax_iret dX9_undo_8 rfl
theorem dX9_undo_9 : decode cX9_undo 9 = .ok (.aload_n 0, 1) := by decide +kernel
theorem sX9_undo_9 : ab_X rom K cX9_undo 7 1 9 (.ref a :: ls) st hp = ab_X rom K cX9_undo 7 1 10 (.ref a :: ls) (.ref a :: st) hp := ax_aload_n dX9_undo_9 rfl rfl
theorem dX9_undo_10 : decode cX9_undo 10 = .ok (.dup, 1) := by decide +kernel
theorem sX9_undo_10i : ab_X rom K cX9_undo 7 1 10 ls (.int x :: st) hp = ab_X rom K cX9_undo 7 1 11 ls (.int x :: .int x :: st) hp := ax_dup dX9_undo_10 rfl (ab_c1_int _)
theorem sX9_undo_10r : ab_X rom K cX9_undo 7 1 10 ls (.ref a :: st) hp = ab_X rom K cX9_undo 7 1 11 ls (.ref a :: .ref a :: st) hp := ax_dup dX9_undo_10 rfl (ab_c1_ref _)
theorem dX9_undo_11 : decode cX9_undo 11 = .ok (.getfield 84, 3) := by decide +kernel
theorem sX9_undo_11 : ab_X rom K cX9_undo 7 1 11 ls (.ref a :: st) hp = (ab_fld hp a 7 3).bind (fun v => ab_X rom K cX9_undo 7 1 14 ls (v :: st) hp) := ax_getfield dX9_undo_11 kf_7_84 rfl
theorem dX9_undo_14 : decode cX9_undo 14 = .ok (.iconst 1, 1) := by decide +kernel
theorem sX9_undo_14 : ab_X rom K cX9_undo 7 1 14 ls st hp = ab_X rom K cX9_undo 7 1 15 ls (.int 1 :: st) hp := ax_iconst dX9_undo_14 (by decide) rfl
theorem dX9_undo_15 : decode cX9_undo 15 = .ok (.isub, 1) := by decide +kernel
theorem sX9_undo_15 : ab_X rom K cX9_undo 7 1 15 ls (.int y :: .int x :: st) hp = ab_X rom K cX9_undo 7 1 16 ls (.int (x - y) :: st) hp := ax_isub dX9_undo_15 rfl
theorem dX9_undo_16 : decode cX9_undo 16 = .ok (.putfield 84, 3) := by decide +kernel
theorem sX9_undo_16 : ab_X rom K cX9_undo 7 1 16 ls (.int x :: .ref a :: st) hp = (ab_fpt hp a 7 3 (.int x)).bind (fun hp' => ab_X rom K cX9_undo 7 1 19 ls st hp') := ax_putfield dX9_undo_16 kf_7_84 rfl (Or.inl rfl) rfl
theorem dX9_undo_19 : decode cX9_undo 19 = .ok (.iconst 0, 1) := by decide +kernel
theorem sX9_undo_19 : ab_X rom K cX9_undo 7 1 19 ls st hp = ab_X rom K cX9_undo 7 1 20 ls (.int 0 :: st) hp := ax_iconst dX9_undo_19 (by decide) rfl
theorem dX9_undo_20 : decode cX9_undo 20 = .ok (.istore_n 1, 1) := by decide +kernel
theorem sX9_undo_20i : ab_X rom K cX9_undo 7 1 20 (.int y :: v1 :: ls) (.int x :: st) hp = ab_X rom K cX9_undo 7 1 21 (.int y :: .int x :: ls) st hp := ax_istore_n dX9_undo_20 (ax_lt (v := v1) rfl) (ab_nl_c1 (j := 0) (v := .int y) rfl (ab_c1_int _)) rfl rfl
theorem sX9_undo_20r : ab_X rom K cX9_undo 7 1 20 (.ref a2 :: v1 :: ls) (.int x :: st) hp = ab_X rom K cX9_undo 7 1 21 (.ref a2 :: .int x :: ls) st hp := ax_istore_n dX9_undo_20 (ax_lt (v := v1) rfl) (ab_nl_c1 (j := 0) (v := .ref a2) rfl (ab_c1_ref _)) rfl rfl
theorem sX9_undo_20n : ab_X rom K cX9_undo 7 1 20 (.null :: v1 :: ls) (.int x :: st) hp = ab_X rom K cX9_undo 7 1 21 (.null :: .int x :: ls) st hp := ax_istore_n dX9_undo_20 (ax_lt (v := v1) rfl) (ab_nl_c1 (j := 0) (v := .null) rfl ab_c1_null) rfl rfl
theorem dX9_undo_21 : decode cX9_undo 21 = .ok (.iload_n 1, 1) := by decide +kernel
theorem sX9_undo_21 : ab_X rom K cX9_undo 7 1 21 (v0 :: .int x :: ls) st hp = ab_X rom K cX9_undo 7 1 22 (v0 :: .int x :: ls) (.int x :: st) hp := ax_iload_n dX9_undo_21 rfl rfl
theorem dX9_undo_22 : decode cX9_undo 22 = .ok (.bipush 45, 2) := by decide +kernel
theorem sX9_undo_22 : ab_X rom K cX9_undo 7 1 22 ls st hp = ab_X rom K cX9_undo 7 1 24 ls (.int 45 :: st) hp := ax_bipush dX9_undo_22 (by decide) rfl
theorem dX9_undo_24 : decode cX9_undo 24 = .ok (.if_icmp .ge 29, 3) := by decide +kernel
theorem sX9_undo_24 : ab_X rom K cX9_undo 7 1 24 ls (.int y :: .int x :: st) hp = if x < y then ab_X rom K cX9_undo 7 1 27 ls st hp else ab_X rom K cX9_undo 7 1 53 ls st hp := ax_icmp_ge dX9_undo_24 (by decide) rfl
theorem dX9_undo_27 : decode cX9_undo 27 = .ok (.aload_n 0, 1) := by decide +kernel
theorem sX9_undo_27 : ab_X rom K cX9_undo 7 1 27 (.ref a :: ls) st hp = ab_X rom K cX9_undo 7 1 28 (.ref a :: ls) (.ref a :: st) hp := ax_aload_n dX9_undo_27 rfl rfl
theorem dX9_undo_28 : decode cX9_undo 28 = .ok (.getfield 7, 3) := by decide +kernel
theorem sX9_undo_28 : ab_X rom K cX9_undo 7 1 28 ls (.ref a :: st) hp = (ab_fld hp a 7 0).bind (fun v => ab_X rom K cX9_undo 7 1 31 ls (v :: st) hp) := ax_getfield dX9_undo_28 kf_7_7 rfl
theorem dX9_undo_31 : decode cX9_undo 31 = .ok (.iload_n 1, 1) := by decide +kernel
theorem sX9_undo_31 : ab_X rom K cX9_undo 7 1 31 (v0 :: .int x :: ls) st hp = ab_X rom K cX9_undo 7 1 32 (v0 :: .int x :: ls) (.int x :: st) hp := ax_iload_n dX9_undo_31 rfl rfl
theorem dX9_undo_32 : decode cX9_undo 32 = .ok (.aload_n 0, 1) := by decide +kernel
theorem sX9_undo_32 : ab_X rom K cX9_undo 7 1 32 (.ref a :: ls) st hp = ab_X rom K cX9_undo 7 1 33 (.ref a :: ls) (.ref a :: st) hp := ax_aload_n dX9_undo_32 rfl rfl
theorem dX9_undo_33 : decode cX9_undo 33 = .ok (.getfield 16, 3) := by decide +kernel
theorem sX9_undo_33 : ab_X rom K cX9_undo 7 1 33 ls (.ref a :: st) hp = (ab_fld hp a 7 2).bind (fun v => ab_X rom K cX9_undo 7 1 36 ls (v :: st) hp) := ax_getfield dX9_undo_33 kf_7_16 rfl
theorem dX9_undo_36 : decode cX9_undo 36 = .ok (.bipush 45, 2) := by decide +kernel
theorem sX9_undo_36 : ab_X rom K cX9_undo 7 1 36 ls st hp = ab_X rom K cX9_undo 7 1 38 ls (.int 45 :: st) hp := ax_bipush dX9_undo_36 (by decide) rfl
theorem dX9_undo_38 : decode cX9_undo 38 = .ok (.aload_n 0, 1) := by decide +kernel
theorem sX9_undo_38 : ab_X rom K cX9_undo 7 1 38 (.ref a :: ls) st hp = ab_X rom K cX9_undo 7 1 39 (.ref a :: ls) (.ref a :: st) hp := ax_aload_n dX9_undo_38 rfl rfl
theorem dX9_undo_39 : decode cX9_undo 39 = .ok (.getfield 84, 3) := by decide +kernel
theorem sX9_undo_39 : ab_X rom K cX9_undo 7 1 39 ls (.ref a :: st) hp = (ab_fld hp a 7 3).bind (fun v => ab_X rom K cX9_undo 7 1 42 ls (v :: st) hp) := ax_getfield dX9_undo_39 kf_7_84 rfl
theorem dX9_undo_42 : decode cX9_undo 42 = .ok (.imul, 1) := by decide +kernel
theorem sX9_undo_42 : ab_X rom K cX9_undo 7 1 42 ls (.int y :: .int x :: st) hp = ab_X rom K cX9_undo 7 1 43 ls (.int (x * y) :: st) hp := ax_imul dX9_undo_42 rfl
theorem dX9_undo_43 : decode cX9_undo 43 = .ok (.iload_n 1, 1) := by decide +kernel
theorem sX9_undo_43 : ab_X rom K cX9_undo 7 1 43 (v0 :: .int x :: ls) st hp = ab_X rom K cX9_undo 7 1 44 (v0 :: .int x :: ls) (.int x :: st) hp := ax_iload_n dX9_undo_43 rfl rfl
theorem dX9_undo_44 : decode cX9_undo 44 = .ok (.iadd, 1) := by decide +kernel
theorem sX9_undo_44 : ab_X rom K cX9_undo 7 1 44 ls (.int y :: .int x :: st) hp = ab_X rom K cX9_undo 7 1 45 ls (.int (x + y) :: st) hp := ax_iadd dX9_undo_44 rfl
theorem dX9_undo_45 : decode cX9_undo 45 = .ok (.iaload, 1) := by decide +kernel
theorem sX9_undo_45 : ab_X rom K cX9_undo 7 1 45 ls (.int x :: .ref a :: st) hp = (ab_ard rom 0 hp a x).bind (fun v => ab_X rom K cX9_undo 7 1 46 ls (.int v :: st) hp) := ax_iaload dX9_undo_45 rfl
theorem dX9_undo_46 : decode cX9_undo 46 = .ok (.iastore, 1) := by decide +kernel
theorem sX9_undo_46 : ab_X rom K cX9_undo 7 1 46 ls (.int y :: .int x :: .ref a :: st) hp = (ab_awr 0 hp a x y).bind (fun hp' => ab_X rom K cX9_undo 7 1 47 ls st hp') := ax_iastore dX9_undo_46 rfl
theorem dX9_undo_47 : decode cX9_undo 47 = .ok (.iinc 1 1, 3) := by decide +kernel
theorem sX9_undo_47i : ab_X rom K cX9_undo 7 1 47 (.int y :: .int x :: ls) st hp = ab_X rom K cX9_undo 7 1 50 (.int y :: .int (x + 1) :: ls) st hp := ax_iinc dX9_undo_47 rfl (ab_nl_c1 (j := 0) (v := .int y) rfl (ab_c1_int _)) (by decide) rfl rfl
theorem sX9_undo_47r : ab_X rom K cX9_undo 7 1 47 (.ref a2 :: .int x :: ls) st hp = ab_X rom K cX9_undo 7 1 50 (.ref a2 :: .int (x + 1) :: ls) st hp := ax_iinc dX9_undo_47 rfl (ab_nl_c1 (j := 0) (v := .ref a2) rfl (ab_c1_ref _)) (by decide) rfl rfl
theorem sX9_undo_47n : ab_X rom K cX9_undo 7 1 47 (.null :: .int x :: ls) st hp = ab_X rom K cX9_undo 7 1 50 (.null :: .int (x + 1) :: ls) st hp := ax_iinc dX9_undo_47 rfl (ab_nl_c1 (j := 0) (v := .null) rfl ab_c1_null) (by decide) rfl rfl
theorem dX9_undo_50 : decode cX9_undo 50 = .ok (.goto (-29), 3) := by decide +kernel
theorem sX9_undo_50 : ab_X rom K cX9_undo 7 1 50 ls st hp = ab_X rom K cX9_undo 7 1 21 ls st hp := ax_goto dX9_undo_50 (by decide)
theorem dX9_undo_53 : decode cX9_undo 53 = .ok (.aload_n 0, 1) := by decide +kernel
theorem sX9_undo_53 : ab_X rom K cX9_undo 7 1 53 (.ref a :: ls) st hp = ab_X rom K cX9_undo 7 1 54 (.ref a :: ls) (.ref a :: st) hp := ax_aload_n dX9_undo_53 rfl rfl
theorem dX9_undo_54 : decode cX9_undo 54 = .ok (.getfield 84, 3) := by decide +kernel
theorem sX9_undo_54 : ab_X rom K cX9_undo 7 1 54 ls (.ref a :: st) hp = (ab_fld hp a 7 3).bind (fun v => ab_X rom K cX9_undo 7 1 57 ls (v :: st) hp) := ax_getfield dX9_undo_54 kf_7_84 rfl
theorem dX9_undo_57 : decode cX9_undo 57 = .ok (.ireturn, 1) := by decide +kernel
theorem sX9_undo_57 : ab_X rom K cX9_undo 7 1 57 ls [.int x] hp = some (some (.int x), hp) := ax_iret dX9_undo_57 rfl
theorem tX9_unlike : ab_mT[234]? = some (yX9_unlike, cX9_unlike, 4, 1, 7) := by decide +kernel
theorem mX9_unlike {d : Nat} {a0 : Nat} {x0 : Int32} {x1 : Int32} : ab_M rom (d + 1) 234 [.ref a0, .int x0, .int x1] hp = ab_X rom (ab_M rom d) cX9_unlike 7 1 0 [.ref a0, .int x0, .int x1, .null] [] hp := ab_M_eq tX9_unlike (Nat.le_of_ble_eq_true rfl)
theorem dX9_unlike_0 : decode cX9_unlike 0 = .ok (.aload_n 0, 1) := by decide +kernel
theorem sX9_unlike_0 : ab_X rom K cX9_unlike 7 1 0 (.ref a :: ls) st hp = ab_X rom K cX9_unlike 7 1 1 (.ref a :: ls) (.ref a :: st) hp := ax_aload_n dX9_unlike_0 rfl rfl
theorem dX9_unlike_1 : decode cX9_unlike 1 = .ok (.iload_n 1, 1) := by decide +kernel
theorem sX9_unlike_1 : ab_X rom K cX9_unlike 7 1 1 (v0 :: .int x :: ls) st hp = ab_X rom K cX9_unlike 7 1 2 (v0 :: .int x :: ls) (.int x :: st) hp := ax_iload_n dX9_unlike_1 rfl rfl
theorem dX9_unlike_2 : decode cX9_unlike 2 = .ok (.invokevirtual 68, 3) := by decide +kernel
theorem sX9_unlike_2_0 : ab_X rom K cX9_unlike 7 1 2 ls [w1, .ref a] hp = if ab_iso hp a 7 = true then (K 171 (.ref a :: [w1]) hp).bind (fun o => ab_X rom K cX9_unlike 7 1 5 ls (o.1.toList ++ []) o.2) else none := ay_virtual (as := [w1]) (st := []) dX9_unlike_2 kc_7_68 rfl rfl (Nat.le_of_ble_eq_true rfl)
theorem sX9_unlike_2_1 : ab_X rom K cX9_unlike 7 1 2 ls [w1, .ref a, v0] hp = if ab_iso hp a 7 = true then (K 171 (.ref a :: [w1]) hp).bind (fun o => ab_X rom K cX9_unlike 7 1 5 ls (o.1.toList ++ [v0]) o.2) else none := ay_virtual (as := [w1]) (st := [v0]) dX9_unlike_2 kc_7_68 rfl rfl (Nat.le_of_ble_eq_true rfl)
theorem sX9_unlike_2_2 : ab_X rom K cX9_unlike 7 1 2 ls [w1, .ref a, v0, v1] hp = if ab_iso hp a 7 = true then (K 171 (.ref a :: [w1]) hp).bind (fun o => ab_X rom K cX9_unlike 7 1 5 ls (o.1.toList ++ [v0, v1]) o.2) else none := ay_virtual (as := [w1]) (st := [v0, v1]) dX9_unlike_2 kc_7_68 rfl rfl (Nat.le_of_ble_eq_true rfl)
theorem sX9_unlike_2_3 : ab_X rom K cX9_unlike 7 1 2 ls [w1, .ref a, v0, v1, v2] hp = if ab_iso hp a 7 = true then (K 171 (.ref a :: [w1]) hp).bind (fun o => ab_X rom K cX9_unlike 7 1 5 ls (o.1.toList ++ [v0, v1, v2]) o.2) else none := ay_virtual (as := [w1]) (st := [v0, v1, v2]) dX9_unlike_2 kc_7_68 rfl rfl (Nat.le_of_ble_eq_true rfl)
theorem dX9_unlike_5 : decode cX9_unlike 5 = .ok (.ifCond .eq 10, 3) := by decide +kernel
theorem sX9_unlike_5 : ab_X rom K cX9_unlike 7 1 5 ls (.int x :: st) hp = if x = 0 then ab_X rom K cX9_unlike 7 1 15 ls st hp else ab_X rom K cX9_unlike 7 1 8 ls st hp := ax_if_eq dX9_unlike_5 (by decide) rfl
theorem dX9_unlike_8 : decode cX9_unlike 8 = .ok (.iload_n 2, 1) := by decide +kernel
theorem sX9_unlike_8 : ab_X rom K cX9_unlike 7 1 8 (v0 :: v1 :: .int x :: ls) st hp = ab_X rom K cX9_unlike 7 1 9 (v0 :: v1 :: .int x :: ls) (.int x :: st) hp := ax_iload_n dX9_unlike_8 rfl rfl
theorem dX9_unlike_9 : decode cX9_unlike 9 = .ok (.invokestatic 278, 3) := by decide +kernel
theorem sX9_unlike_9_0 : ab_X rom K cX9_unlike 7 1 9 ls [w1] hp = (K 168 [w1] hp).bind (fun o => ab_X rom K cX9_unlike 7 1 12 ls (o.1.toList ++ []) o.2) := ax_static (as := [w1]) (st := []) dX9_unlike_9 kc_7_278 rfl rfl (Nat.le_of_ble_eq_true rfl)
theorem sX9_unlike_9_1 : ab_X rom K cX9_unlike 7 1 9 ls [w1, v0] hp = (K 168 [w1] hp).bind (fun o => ab_X rom K cX9_unlike 7 1 12 ls (o.1.toList ++ [v0]) o.2) := ax_static (as := [w1]) (st := [v0]) dX9_unlike_9 kc_7_278 rfl rfl (Nat.le_of_ble_eq_true rfl)
theorem sX9_unlike_9_2 : ab_X rom K cX9_unlike 7 1 9 ls [w1, v0, v1] hp = (K 168 [w1] hp).bind (fun o => ab_X rom K cX9_unlike 7 1 12 ls (o.1.toList ++ [v0, v1]) o.2) := ax_static (as := [w1]) (st := [v0, v1]) dX9_unlike_9 kc_7_278 rfl rfl (Nat.le_of_ble_eq_true rfl)
theorem sX9_unlike_9_3 : ab_X rom K cX9_unlike 7 1 9 ls [w1, v0, v1, v2] hp = (K 168 [w1] hp).bind (fun o => ab_X rom K cX9_unlike 7 1 12 ls (o.1.toList ++ [v0, v1, v2]) o.2) := ax_static (as := [w1]) (st := [v0, v1, v2]) dX9_unlike_9 kc_7_278 rfl rfl (Nat.le_of_ble_eq_true rfl)
theorem dX9_unlike_12 : decode cX9_unlike 12 = .ok (.ifCond .ne 6, 3) := by decide +kernel
theorem sX9_unlike_12 : ab_X rom K cX9_unlike 7 1 12 ls (.int x :: st) hp = if x = 0 then ab_X rom K cX9_unlike 7 1 15 ls st hp else ab_X rom K cX9_unlike 7 1 18 ls st hp := ax_if_ne dX9_unlike_12 (by decide) rfl
theorem dX9_unlike_15 : decode cX9_unlike 15 = .ok (.bipush (-2), 2) := by decide +kernel
theorem sX9_unlike_15 : ab_X rom K cX9_unlike 7 1 15 ls st hp = ab_X rom K cX9_unlike 7 1 17 ls (.int (-2) :: st) hp := ax_bipush dX9_unlike_15 (by decide) rfl
theorem dX9_unlike_17 : decode cX9_unlike 17 = .ok (.ireturn, 1) := by decide +kernel
theorem sX9_unlike_17 : ab_X rom K cX9_unlike 7 1 17 ls [.int x] hp = some (some (.int x), hp) := ax_iret dX9_unlike_17 rfl
theorem dX9_unlike_18 : decode cX9_unlike 18 = .ok (.aload_n 0, 1) := by decide +kernel
theorem sX9_unlike_18 : ab_X rom K cX9_unlike 7 1 18 (.ref a :: ls) st hp = ab_X rom K cX9_unlike 7 1 19 (.ref a :: ls) (.ref a :: st) hp := ax_aload_n dX9_unlike_18 rfl rfl
theorem dX9_unlike_19 : decode cX9_unlike 19 = .ok (.iload_n 1, 1) := by decide +kernel
theorem sX9_unlike_19 : ab_X rom K cX9_unlike 7 1 19 (v0 :: .int x :: ls) st hp = ab_X rom K cX9_unlike 7 1 20 (v0 :: .int x :: ls) (.int x :: st) hp := ax_iload_n dX9_unlike_19 rfl rfl
theorem dX9_unlike_20 : decode cX9_unlike 20 = .ok (.iload_n 2, 1) := by decide +kernel
theorem sX9_unlike_20 : ab_X rom K cX9_unlike 7 1 20 (v0 :: v1 :: .int x :: ls) st hp = ab_X rom K cX9_unlike 7 1 21 (v0 :: v1 :: .int x :: ls) (.int x :: st) hp := ax_iload_n dX9_unlike_20 rfl rfl
theorem dX9_unlike_21 : decode cX9_unlike 21 = .ok (.bipush 127, 2) := by decide +kernel
theorem sX9_unlike_21 : ab_X rom K cX9_unlike 7 1 21 ls st hp = ab_X rom K cX9_unlike 7 1 23 ls (.int 127 :: st) hp := ax_bipush dX9_unlike_21 (by decide) rfl
theorem dX9_unlike_23 : decode cX9_unlike 23 = .ok (.iconst 0, 1) := by decide +kernel
theorem sX9_unlike_23 : ab_X rom K cX9_unlike 7 1 23 ls st hp = ab_X rom K cX9_unlike 7 1 24 ls (.int 0 :: st) hp := ax_iconst dX9_unlike_23 (by decide) rfl
theorem dX9_unlike_24 : decode cX9_unlike 24 = .ok (.invokevirtual 302, 3) := by decide +kernel
theorem sX9_unlike_24_0 : ab_X rom K cX9_unlike 7 1 24 ls [w4, w3, w2, w1, .ref a] hp = if ab_iso hp a 7 = true then (K 221 (.ref a :: [w1, w2, w3, w4]) hp).bind (fun o => ab_X rom K cX9_unlike 7 1 27 ls (o.1.toList ++ []) o.2) else none := ay_virtual (as := [w1, w2, w3, w4]) (st := []) dX9_unlike_24 kc_7_302 rfl rfl (Nat.le_of_ble_eq_true rfl)
theorem sX9_unlike_24_1 : ab_X rom K cX9_unlike 7 1 24 ls [w4, w3, w2, w1, .ref a, v0] hp = if ab_iso hp a 7 = true then (K 221 (.ref a :: [w1, w2, w3, w4]) hp).bind (fun o => ab_X rom K cX9_unlike 7 1 27 ls (o.1.toList ++ [v0]) o.2) else none := ay_virtual (as := [w1, w2, w3, w4]) (st := [v0]) dX9_unlike_24 kc_7_302 rfl rfl (Nat.le_of_ble_eq_true rfl)
theorem sX9_unlike_24_2 : ab_X rom K cX9_unlike 7 1 24 ls [w4, w3, w2, w1, .ref a, v0, v1] hp = if ab_iso hp a 7 = true then (K 221 (.ref a :: [w1, w2, w3, w4]) hp).bind (fun o => ab_X rom K cX9_unlike 7 1 27 ls (o.1.toList ++ [v0, v1]) o.2) else none := ay_virtual (as := [w1, w2, w3, w4]) (st := [v0, v1]) dX9_unlike_24 kc_7_302 rfl rfl (Nat.le_of_ble_eq_true rfl)
theorem sX9_unlike_24_3 : ab_X rom K cX9_unlike 7 1 24 ls [w4, w3, w2, w1, .ref a, v0, v1, v2] hp = if ab_iso hp a 7 = true then (K 221 (.ref a :: [w1, w2, w3, w4]) hp).bind (fun o => ab_X rom K cX9_unlike 7 1 27 ls (o.1.toList ++ [v0, v1, v2]) o.2) else none := ay_virtual (as := [w1, w2, w3, w4]) (st := [v0, v1, v2]) dX9_unlike_24 kc_7_302 rfl rfl (Nat.le_of_ble_eq_true rfl)
theorem dX9_unlike_27 : decode cX9_unlike 27 = .ok (.istore_n 3, 1) := by decide +kernel
theorem sX9_unlike_27i : ab_X rom K cX9_unlike 7 1 27 (v0 :: v1 :: .int y :: v3 :: ls) (.int x :: st) hp = ab_X rom K cX9_unlike 7 1 28 (v0 :: v1 :: .int y :: .int x :: ls) st hp := ax_istore_n dX9_unlike_27 (ax_lt (v := v3) rfl) (ab_nl_c1 (j := 2) (v := .int y) rfl (ab_c1_int _)) rfl rfl
theorem sX9_unlike_27r : ab_X rom K cX9_unlike 7 1 27 (v0 :: v1 :: .ref a2 :: v3 :: ls) (.int x :: st) hp = ab_X rom K cX9_unlike 7 1 28 (v0 :: v1 :: .ref a2 :: .int x :: ls) st hp := ax_istore_n dX9_unlike_27 (ax_lt (v := v3) rfl) (ab_nl_c1 (j := 2) (v := .ref a2) rfl (ab_c1_ref _)) rfl rfl
theorem sX9_unlike_27n : ab_X rom K cX9_unlike 7 1 27 (v0 :: v1 :: .null :: v3 :: ls) (.int x :: st) hp = ab_X rom K cX9_unlike 7 1 28 (v0 :: v1 :: .null :: .int x :: ls) st hp := ax_istore_n dX9_unlike_27 (ax_lt (v := v3) rfl) (ab_nl_c1 (j := 2) (v := .null) rfl ab_c1_null) rfl rfl
theorem dX9_unlike_28 : decode cX9_unlike 28 = .ok (.aload_n 0, 1) := by decide +kernel
theorem sX9_unlike_28 : ab_X rom K cX9_unlike 7 1 28 (.ref a :: ls) st hp = ab_X rom K cX9_unlike 7 1 29 (.ref a :: ls) (.ref a :: st) hp := ax_aload_n dX9_unlike_28 rfl rfl
theorem dX9_unlike_29 : decode cX9_unlike 29 = .ok (.getfield 287, 3) := by decide +kernel
theorem sX9_unlike_29 : ab_X rom K cX9_unlike 7 1 29 ls (.ref a :: st) hp = (ab_fld hp a 7 23).bind (fun v => ab_X rom K cX9_unlike 7 1 32 ls (v :: st) hp) := ax_getfield dX9_unlike_29 kf_7_287 rfl
theorem dX9_unlike_32 : decode cX9_unlike 32 = .ok (.ireturn, 1) := by decide +kernel
theorem sX9_unlike_32 : ab_X rom K cX9_unlike 7 1 32 ls [.int x] hp = some (some (.int x), hp) := ax_iret dX9_unlike_32 rfl
theorem tX9_unlikeIn : ab_mT[235]? = some (yX9_unlikeIn, cX9_unlikeIn, 7, 1, 7) := by decide +kernel
theorem mX9_unlikeIn {d : Nat} {a0 : Nat} {x0 : Int32} {x1 : Int32} : ab_M rom (d + 1) 235 [.ref a0, .int x0, .int x1] hp = ab_X rom (ab_M rom d) cX9_unlikeIn 7 1 0 [.ref a0, .int x0, .int x1, .null, .null, .null, .null] [] hp := ab_M_eq tX9_unlikeIn (Nat.le_of_ble_eq_true rfl)
theorem dX9_unlikeIn_0 : decode cX9_unlikeIn 0 = .ok (.iconst 0, 1) := by decide +kernel
theorem sX9_unlikeIn_0 : ab_X rom K cX9_unlikeIn 7 1 0 ls st hp = ab_X rom K cX9_unlikeIn 7 1 1 ls (.int 0 :: st) hp := ax_iconst dX9_unlikeIn_0 (by decide) rfl
theorem dX9_unlikeIn_1 : decode cX9_unlikeIn 1 = .ok (.istore_n 3, 1) := by decide +kernel
theorem sX9_unlikeIn_1i : ab_X rom K cX9_unlikeIn 7 1 1 (v0 :: v1 :: .int y :: v3 :: ls) (.int x :: st) hp = ab_X rom K cX9_unlikeIn 7 1 2 (v0 :: v1 :: .int y :: .int x :: ls) st hp := ax_istore_n dX9_unlikeIn_1 (ax_lt (v := v3) rfl) (ab_nl_c1 (j := 2) (v := .int y) rfl (ab_c1_int _)) rfl rfl
theorem sX9_unlikeIn_1r : ab_X rom K cX9_unlikeIn 7 1 1 (v0 :: v1 :: .ref a2 :: v3 :: ls) (.int x :: st) hp = ab_X rom K cX9_unlikeIn 7 1 2 (v0 :: v1 :: .ref a2 :: .int x :: ls) st hp := ax_istore_n dX9_unlikeIn_1 (ax_lt (v := v3) rfl) (ab_nl_c1 (j := 2) (v := .ref a2) rfl (ab_c1_ref _)) rfl rfl
theorem sX9_unlikeIn_1n : ab_X rom K cX9_unlikeIn 7 1 1 (v0 :: v1 :: .null :: v3 :: ls) (.int x :: st) hp = ab_X rom K cX9_unlikeIn 7 1 2 (v0 :: v1 :: .null :: .int x :: ls) st hp := ax_istore_n dX9_unlikeIn_1 (ax_lt (v := v3) rfl) (ab_nl_c1 (j := 2) (v := .null) rfl ab_c1_null) rfl rfl
theorem dX9_unlikeIn_2 : decode cX9_unlikeIn 2 = .ok (.iload_n 3, 1) := by decide +kernel
theorem sX9_unlikeIn_2 : ab_X rom K cX9_unlikeIn 7 1 2 (v0 :: v1 :: v2 :: .int x :: ls) st hp = ab_X rom K cX9_unlikeIn 7 1 3 (v0 :: v1 :: v2 :: .int x :: ls) (.int x :: st) hp := ax_iload_n dX9_unlikeIn_2 rfl rfl
theorem dX9_unlikeIn_3 : decode cX9_unlikeIn 3 = .ok (.sipush 256, 3) := by decide +kernel
theorem sX9_unlikeIn_3 : ab_X rom K cX9_unlikeIn 7 1 3 ls st hp = ab_X rom K cX9_unlikeIn 7 1 6 ls (.int 256 :: st) hp := ax_sipush dX9_unlikeIn_3 (by decide) rfl
theorem dX9_unlikeIn_6 : decode cX9_unlikeIn 6 = .ok (.if_icmp .ge 16, 3) := by decide +kernel
theorem sX9_unlikeIn_6 : ab_X rom K cX9_unlikeIn 7 1 6 ls (.int y :: .int x :: st) hp = if x < y then ab_X rom K cX9_unlikeIn 7 1 9 ls st hp else ab_X rom K cX9_unlikeIn 7 1 22 ls st hp := ax_icmp_ge dX9_unlikeIn_6 (by decide) rfl
theorem dX9_unlikeIn_9 : decode cX9_unlikeIn 9 = .ok (.aload_n 0, 1) := by decide +kernel
theorem sX9_unlikeIn_9 : ab_X rom K cX9_unlikeIn 7 1 9 (.ref a :: ls) st hp = ab_X rom K cX9_unlikeIn 7 1 10 (.ref a :: ls) (.ref a :: st) hp := ax_aload_n dX9_unlikeIn_9 rfl rfl
theorem dX9_unlikeIn_10 : decode cX9_unlikeIn 10 = .ok (.getfield 47, 3) := by decide +kernel
theorem sX9_unlikeIn_10 : ab_X rom K cX9_unlikeIn 7 1 10 ls (.ref a :: st) hp = (ab_fld hp a 7 26).bind (fun v => ab_X rom K cX9_unlikeIn 7 1 13 ls (v :: st) hp) := ax_getfield dX9_unlikeIn_10 kf_7_47 rfl
theorem dX9_unlikeIn_13 : decode cX9_unlikeIn 13 = .ok (.iload_n 3, 1) := by decide +kernel
theorem sX9_unlikeIn_13 : ab_X rom K cX9_unlikeIn 7 1 13 (v0 :: v1 :: v2 :: .int x :: ls) st hp = ab_X rom K cX9_unlikeIn 7 1 14 (v0 :: v1 :: v2 :: .int x :: ls) (.int x :: st) hp := ax_iload_n dX9_unlikeIn_13 rfl rfl
theorem dX9_unlikeIn_14 : decode cX9_unlikeIn 14 = .ok (.iconst 0, 1) := by decide +kernel
theorem sX9_unlikeIn_14 : ab_X rom K cX9_unlikeIn 7 1 14 ls st hp = ab_X rom K cX9_unlikeIn 7 1 15 ls (.int 0 :: st) hp := ax_iconst dX9_unlikeIn_14 (by decide) rfl
theorem dX9_unlikeIn_15 : decode cX9_unlikeIn 15 = .ok (.bastore, 1) := by decide +kernel
theorem sX9_unlikeIn_15 : ab_X rom K cX9_unlikeIn 7 1 15 ls (.int y :: .int x :: .ref a :: st) hp = if y = 0 ∨ y = 1 then (ab_awr 1 hp a x y).bind (fun hp' => ab_X rom K cX9_unlikeIn 7 1 16 ls st hp') else none := ay_bastore dX9_unlikeIn_15 rfl
theorem dX9_unlikeIn_16 : decode cX9_unlikeIn 16 = .ok (.iinc 3 1, 3) := by decide +kernel
theorem sX9_unlikeIn_16i : ab_X rom K cX9_unlikeIn 7 1 16 (v0 :: v1 :: .int y :: .int x :: ls) st hp = ab_X rom K cX9_unlikeIn 7 1 19 (v0 :: v1 :: .int y :: .int (x + 1) :: ls) st hp := ax_iinc dX9_unlikeIn_16 rfl (ab_nl_c1 (j := 2) (v := .int y) rfl (ab_c1_int _)) (by decide) rfl rfl
theorem sX9_unlikeIn_16r : ab_X rom K cX9_unlikeIn 7 1 16 (v0 :: v1 :: .ref a2 :: .int x :: ls) st hp = ab_X rom K cX9_unlikeIn 7 1 19 (v0 :: v1 :: .ref a2 :: .int (x + 1) :: ls) st hp := ax_iinc dX9_unlikeIn_16 rfl (ab_nl_c1 (j := 2) (v := .ref a2) rfl (ab_c1_ref _)) (by decide) rfl rfl
theorem sX9_unlikeIn_16n : ab_X rom K cX9_unlikeIn 7 1 16 (v0 :: v1 :: .null :: .int x :: ls) st hp = ab_X rom K cX9_unlikeIn 7 1 19 (v0 :: v1 :: .null :: .int (x + 1) :: ls) st hp := ax_iinc dX9_unlikeIn_16 rfl (ab_nl_c1 (j := 2) (v := .null) rfl ab_c1_null) (by decide) rfl rfl
theorem dX9_unlikeIn_19 : decode cX9_unlikeIn 19 = .ok (.goto (-17), 3) := by decide +kernel
theorem sX9_unlikeIn_19 : ab_X rom K cX9_unlikeIn 7 1 19 ls st hp = ab_X rom K cX9_unlikeIn 7 1 2 ls st hp := ax_goto dX9_unlikeIn_19 (by decide)
theorem dX9_unlikeIn_22 : decode cX9_unlikeIn 22 = .ok (.iconst 0, 1) := by decide +kernel
theorem sX9_unlikeIn_22 : ab_X rom K cX9_unlikeIn 7 1 22 ls st hp = ab_X rom K cX9_unlikeIn 7 1 23 ls (.int 0 :: st) hp := ax_iconst dX9_unlikeIn_22 (by decide) rfl
theorem dX9_unlikeIn_23 : decode cX9_unlikeIn 23 = .ok (.istore_n 3, 1) := by decide +kernel
theorem sX9_unlikeIn_23i : ab_X rom K cX9_unlikeIn 7 1 23 (v0 :: v1 :: .int y :: v3 :: ls) (.int x :: st) hp = ab_X rom K cX9_unlikeIn 7 1 24 (v0 :: v1 :: .int y :: .int x :: ls) st hp := ax_istore_n dX9_unlikeIn_23 (ax_lt (v := v3) rfl) (ab_nl_c1 (j := 2) (v := .int y) rfl (ab_c1_int _)) rfl rfl
theorem sX9_unlikeIn_23r : ab_X rom K cX9_unlikeIn 7 1 23 (v0 :: v1 :: .ref a2 :: v3 :: ls) (.int x :: st) hp = ab_X rom K cX9_unlikeIn 7 1 24 (v0 :: v1 :: .ref a2 :: .int x :: ls) st hp := ax_istore_n dX9_unlikeIn_23 (ax_lt (v := v3) rfl) (ab_nl_c1 (j := 2) (v := .ref a2) rfl (ab_c1_ref _)) rfl rfl
theorem sX9_unlikeIn_23n : ab_X rom K cX9_unlikeIn 7 1 23 (v0 :: v1 :: .null :: v3 :: ls) (.int x :: st) hp = ab_X rom K cX9_unlikeIn 7 1 24 (v0 :: v1 :: .null :: .int x :: ls) st hp := ax_istore_n dX9_unlikeIn_23 (ax_lt (v := v3) rfl) (ab_nl_c1 (j := 2) (v := .null) rfl ab_c1_null) rfl rfl
theorem dX9_unlikeIn_24 : decode cX9_unlikeIn 24 = .ok (.iconst 0, 1) := by decide +kernel
theorem sX9_unlikeIn_24 : ab_X rom K cX9_unlikeIn 7 1 24 ls st hp = ab_X rom K cX9_unlikeIn 7 1 25 ls (.int 0 :: st) hp := ax_iconst dX9_unlikeIn_24 (by decide) rfl
theorem dX9_unlikeIn_25 : decode cX9_unlikeIn 25 = .ok (.istore 4, 2) := by decide +kernel
theorem sX9_unlikeIn_25i : ab_X rom K cX9_unlikeIn 7 1 25 (v0 :: v1 :: v2 :: .int y :: v4 :: ls) (.int x :: st) hp = ab_X rom K cX9_unlikeIn 7 1 27 (v0 :: v1 :: v2 :: .int y :: .int x :: ls) st hp := ax_istore dX9_unlikeIn_25 (ax_lt (v := v4) rfl) (ab_nl_c1 (j := 3) (v := .int y) rfl (ab_c1_int _)) rfl rfl
theorem sX9_unlikeIn_25r : ab_X rom K cX9_unlikeIn 7 1 25 (v0 :: v1 :: v2 :: .ref a2 :: v4 :: ls) (.int x :: st) hp = ab_X rom K cX9_unlikeIn 7 1 27 (v0 :: v1 :: v2 :: .ref a2 :: .int x :: ls) st hp := ax_istore dX9_unlikeIn_25 (ax_lt (v := v4) rfl) (ab_nl_c1 (j := 3) (v := .ref a2) rfl (ab_c1_ref _)) rfl rfl
theorem sX9_unlikeIn_25n : ab_X rom K cX9_unlikeIn 7 1 25 (v0 :: v1 :: v2 :: .null :: v4 :: ls) (.int x :: st) hp = ab_X rom K cX9_unlikeIn 7 1 27 (v0 :: v1 :: v2 :: .null :: .int x :: ls) st hp := ax_istore dX9_unlikeIn_25 (ax_lt (v := v4) rfl) (ab_nl_c1 (j := 3) (v := .null) rfl ab_c1_null) rfl rfl
theorem dX9_unlikeIn_27 : decode cX9_unlikeIn 27 = .ok (.iload 4, 2) := by decide +kernel
theorem sX9_unlikeIn_27 : ab_X rom K cX9_unlikeIn 7 1 27 (v0 :: v1 :: v2 :: v3 :: .int x :: ls) st hp = ab_X rom K cX9_unlikeIn 7 1 29 (v0 :: v1 :: v2 :: v3 :: .int x :: ls) (.int x :: st) hp := ax_iload dX9_unlikeIn_27 rfl rfl
theorem dX9_unlikeIn_29 : decode cX9_unlikeIn 29 = .ok (.iload_n 1, 1) := by decide +kernel
theorem sX9_unlikeIn_29 : ab_X rom K cX9_unlikeIn 7 1 29 (v0 :: .int x :: ls) st hp = ab_X rom K cX9_unlikeIn 7 1 30 (v0 :: .int x :: ls) (.int x :: st) hp := ax_iload_n dX9_unlikeIn_29 rfl rfl
theorem dX9_unlikeIn_30 : decode cX9_unlikeIn 30 = .ok (.if_icmp .ge 92, 3) := by decide +kernel
theorem sX9_unlikeIn_30 : ab_X rom K cX9_unlikeIn 7 1 30 ls (.int y :: .int x :: st) hp = if x < y then ab_X rom K cX9_unlikeIn 7 1 33 ls st hp else ab_X rom K cX9_unlikeIn 7 1 122 ls st hp := ax_icmp_ge dX9_unlikeIn_30 (by decide) rfl
theorem dX9_unlikeIn_33 : decode cX9_unlikeIn 33 = .ok (.iconst 0, 1) := by decide +kernel
theorem sX9_unlikeIn_33 : ab_X rom K cX9_unlikeIn 7 1 33 ls st hp = ab_X rom K cX9_unlikeIn 7 1 34 ls (.int 0 :: st) hp := ax_iconst dX9_unlikeIn_33 (by decide) rfl
theorem dX9_unlikeIn_34 : decode cX9_unlikeIn 34 = .ok (.istore 5, 2) := by decide +kernel
theorem sX9_unlikeIn_34i : ab_X rom K cX9_unlikeIn 7 1 34 (v0 :: v1 :: v2 :: v3 :: .int y :: v5 :: ls) (.int x :: st) hp = ab_X rom K cX9_unlikeIn 7 1 36 (v0 :: v1 :: v2 :: v3 :: .int y :: .int x :: ls) st hp := ax_istore dX9_unlikeIn_34 (ax_lt (v := v5) rfl) (ab_nl_c1 (j := 4) (v := .int y) rfl (ab_c1_int _)) rfl rfl
theorem sX9_unlikeIn_34r : ab_X rom K cX9_unlikeIn 7 1 34 (v0 :: v1 :: v2 :: v3 :: .ref a2 :: v5 :: ls) (.int x :: st) hp = ab_X rom K cX9_unlikeIn 7 1 36 (v0 :: v1 :: v2 :: v3 :: .ref a2 :: .int x :: ls) st hp := ax_istore dX9_unlikeIn_34 (ax_lt (v := v5) rfl) (ab_nl_c1 (j := 4) (v := .ref a2) rfl (ab_c1_ref _)) rfl rfl
theorem sX9_unlikeIn_34n : ab_X rom K cX9_unlikeIn 7 1 34 (v0 :: v1 :: v2 :: v3 :: .null :: v5 :: ls) (.int x :: st) hp = ab_X rom K cX9_unlikeIn 7 1 36 (v0 :: v1 :: v2 :: v3 :: .null :: .int x :: ls) st hp := ax_istore dX9_unlikeIn_34 (ax_lt (v := v5) rfl) (ab_nl_c1 (j := 4) (v := .null) rfl ab_c1_null) rfl rfl
theorem dX9_unlikeIn_36 : decode cX9_unlikeIn 36 = .ok (.iload 5, 2) := by decide +kernel
theorem sX9_unlikeIn_36 : ab_X rom K cX9_unlikeIn 7 1 36 (v0 :: v1 :: v2 :: v3 :: v4 :: .int x :: ls) st hp = ab_X rom K cX9_unlikeIn 7 1 38 (v0 :: v1 :: v2 :: v3 :: v4 :: .int x :: ls) (.int x :: st) hp := ax_iload dX9_unlikeIn_36 rfl rfl
theorem dX9_unlikeIn_38 : decode cX9_unlikeIn 38 = .ok (.iload_n 2, 1) := by decide +kernel
theorem sX9_unlikeIn_38 : ab_X rom K cX9_unlikeIn 7 1 38 (v0 :: v1 :: .int x :: ls) st hp = ab_X rom K cX9_unlikeIn 7 1 39 (v0 :: v1 :: .int x :: ls) (.int x :: st) hp := ax_iload_n dX9_unlikeIn_38 rfl rfl
theorem dX9_unlikeIn_39 : decode cX9_unlikeIn 39 = .ok (.ifCond .eq 8, 3) := by decide +kernel
theorem sX9_unlikeIn_39 : ab_X rom K cX9_unlikeIn 7 1 39 ls (.int x :: st) hp = if x = 0 then ab_X rom K cX9_unlikeIn 7 1 47 ls st hp else ab_X rom K cX9_unlikeIn 7 1 42 ls st hp := ax_if_eq dX9_unlikeIn_39 (by decide) rfl
theorem dX9_unlikeIn_42 : decode cX9_unlikeIn 42 = .ok (.iload 4, 2) := by decide +kernel
theorem sX9_unlikeIn_42 : ab_X rom K cX9_unlikeIn 7 1 42 (v0 :: v1 :: v2 :: v3 :: .int x :: ls) st hp = ab_X rom K cX9_unlikeIn 7 1 44 (v0 :: v1 :: v2 :: v3 :: .int x :: ls) (.int x :: st) hp := ax_iload dX9_unlikeIn_42 rfl rfl
theorem dX9_unlikeIn_44 : decode cX9_unlikeIn 44 = .ok (.goto 4, 3) := by decide +kernel
theorem sX9_unlikeIn_44 : ab_X rom K cX9_unlikeIn 7 1 44 ls st hp = ab_X rom K cX9_unlikeIn 7 1 48 ls st hp := ax_goto dX9_unlikeIn_44 (by decide)
theorem dX9_unlikeIn_47 : decode cX9_unlikeIn 47 = .ok (.iconst 1, 1) := by decide +kernel
theorem sX9_unlikeIn_47 : ab_X rom K cX9_unlikeIn 7 1 47 ls st hp = ab_X rom K cX9_unlikeIn 7 1 48 ls (.int 1 :: st) hp := ax_iconst dX9_unlikeIn_47 (by decide) rfl
theorem dX9_unlikeIn_48 : decode cX9_unlikeIn 48 = .ok (.if_icmp .ge 68, 3) := by decide +kernel
theorem sX9_unlikeIn_48 : ab_X rom K cX9_unlikeIn 7 1 48 ls (.int y :: .int x :: st) hp = if x < y then ab_X rom K cX9_unlikeIn 7 1 51 ls st hp else ab_X rom K cX9_unlikeIn 7 1 116 ls st hp := ax_icmp_ge dX9_unlikeIn_48 (by decide) rfl
theorem dX9_unlikeIn_51 : decode cX9_unlikeIn 51 = .ok (.iload_n 2, 1) := by decide +kernel
theorem sX9_unlikeIn_51 : ab_X rom K cX9_unlikeIn 7 1 51 (v0 :: v1 :: .int x :: ls) st hp = ab_X rom K cX9_unlikeIn 7 1 52 (v0 :: v1 :: .int x :: ls) (.int x :: st) hp := ax_iload_n dX9_unlikeIn_51 rfl rfl
theorem dX9_unlikeIn_52 : decode cX9_unlikeIn 52 = .ok (.ifCond .eq 23, 3) := by decide +kernel
theorem sX9_unlikeIn_52 : ab_X rom K cX9_unlikeIn 7 1 52 ls (.int x :: st) hp = if x = 0 then ab_X rom K cX9_unlikeIn 7 1 75 ls st hp else ab_X rom K cX9_unlikeIn 7 1 55 ls st hp := ax_if_eq dX9_unlikeIn_52 (by decide) rfl
theorem dX9_unlikeIn_55 : decode cX9_unlikeIn 55 = .ok (.aload_n 0, 1) := by decide +kernel
theorem sX9_unlikeIn_55 : ab_X rom K cX9_unlikeIn 7 1 55 (.ref a :: ls) st hp = ab_X rom K cX9_unlikeIn 7 1 56 (.ref a :: ls) (.ref a :: st) hp := ax_aload_n dX9_unlikeIn_55 rfl rfl
theorem dX9_unlikeIn_56 : decode cX9_unlikeIn 56 = .ok (.getfield 44, 3) := by decide +kernel
theorem sX9_unlikeIn_56 : ab_X rom K cX9_unlikeIn 7 1 56 ls (.ref a :: st) hp = (ab_fld hp a 7 25).bind (fun v => ab_X rom K cX9_unlikeIn 7 1 59 ls (v :: st) hp) := ax_getfield dX9_unlikeIn_56 kf_7_44 rfl
theorem dX9_unlikeIn_59 : decode cX9_unlikeIn 59 = .ok (.iload 4, 2) := by decide +kernel
theorem sX9_unlikeIn_59 : ab_X rom K cX9_unlikeIn 7 1 59 (v0 :: v1 :: v2 :: v3 :: .int x :: ls) st hp = ab_X rom K cX9_unlikeIn 7 1 61 (v0 :: v1 :: v2 :: v3 :: .int x :: ls) (.int x :: st) hp := ax_iload dX9_unlikeIn_59 rfl rfl
theorem dX9_unlikeIn_61 : decode cX9_unlikeIn 61 = .ok (.iaload, 1) := by decide +kernel
theorem sX9_unlikeIn_61 : ab_X rom K cX9_unlikeIn 7 1 61 ls (.int x :: .ref a :: st) hp = (ab_ard rom 0 hp a x).bind (fun v => ab_X rom K cX9_unlikeIn 7 1 62 ls (.int v :: st) hp) := ax_iaload dX9_unlikeIn_61 rfl
theorem dX9_unlikeIn_62 : decode cX9_unlikeIn 62 = .ok (.aload_n 0, 1) := by decide +kernel
theorem sX9_unlikeIn_62 : ab_X rom K cX9_unlikeIn 7 1 62 (.ref a :: ls) st hp = ab_X rom K cX9_unlikeIn 7 1 63 (.ref a :: ls) (.ref a :: st) hp := ax_aload_n dX9_unlikeIn_62 rfl rfl
theorem dX9_unlikeIn_63 : decode cX9_unlikeIn 63 = .ok (.getfield 44, 3) := by decide +kernel
theorem sX9_unlikeIn_63 : ab_X rom K cX9_unlikeIn 7 1 63 ls (.ref a :: st) hp = (ab_fld hp a 7 25).bind (fun v => ab_X rom K cX9_unlikeIn 7 1 66 ls (v :: st) hp) := ax_getfield dX9_unlikeIn_63 kf_7_44 rfl
theorem dX9_unlikeIn_66 : decode cX9_unlikeIn 66 = .ok (.iload 5, 2) := by decide +kernel
theorem sX9_unlikeIn_66 : ab_X rom K cX9_unlikeIn 7 1 66 (v0 :: v1 :: v2 :: v3 :: v4 :: .int x :: ls) st hp = ab_X rom K cX9_unlikeIn 7 1 68 (v0 :: v1 :: v2 :: v3 :: v4 :: .int x :: ls) (.int x :: st) hp := ax_iload dX9_unlikeIn_66 rfl rfl
theorem dX9_unlikeIn_68 : decode cX9_unlikeIn 68 = .ok (.iaload, 1) := by decide +kernel
theorem sX9_unlikeIn_68 : ab_X rom K cX9_unlikeIn 7 1 68 ls (.int x :: .ref a :: st) hp = (ab_ard rom 0 hp a x).bind (fun v => ab_X rom K cX9_unlikeIn 7 1 69 ls (.int v :: st) hp) := ax_iaload dX9_unlikeIn_68 rfl
theorem dX9_unlikeIn_69 : decode cX9_unlikeIn 69 = .ok (.invokestatic 226, 3) := by decide +kernel
theorem sX9_unlikeIn_69_0 : ab_X rom K cX9_unlikeIn 7 1 69 ls [w2, w1] hp = (K 132 [w1, w2] hp).bind (fun o => ab_X rom K cX9_unlikeIn 7 1 72 ls (o.1.toList ++ []) o.2) := ax_static (as := [w1, w2]) (st := []) dX9_unlikeIn_69 kc_7_226 rfl rfl (Nat.le_of_ble_eq_true rfl)
theorem sX9_unlikeIn_69_1 : ab_X rom K cX9_unlikeIn 7 1 69 ls [w2, w1, v0] hp = (K 132 [w1, w2] hp).bind (fun o => ab_X rom K cX9_unlikeIn 7 1 72 ls (o.1.toList ++ [v0]) o.2) := ax_static (as := [w1, w2]) (st := [v0]) dX9_unlikeIn_69 kc_7_226 rfl rfl (Nat.le_of_ble_eq_true rfl)
theorem sX9_unlikeIn_69_2 : ab_X rom K cX9_unlikeIn 7 1 69 ls [w2, w1, v0, v1] hp = (K 132 [w1, w2] hp).bind (fun o => ab_X rom K cX9_unlikeIn 7 1 72 ls (o.1.toList ++ [v0, v1]) o.2) := ax_static (as := [w1, w2]) (st := [v0, v1]) dX9_unlikeIn_69 kc_7_226 rfl rfl (Nat.le_of_ble_eq_true rfl)
theorem sX9_unlikeIn_69_3 : ab_X rom K cX9_unlikeIn 7 1 69 ls [w2, w1, v0, v1, v2] hp = (K 132 [w1, w2] hp).bind (fun o => ab_X rom K cX9_unlikeIn 7 1 72 ls (o.1.toList ++ [v0, v1, v2]) o.2) := ax_static (as := [w1, w2]) (st := [v0, v1, v2]) dX9_unlikeIn_69 kc_7_226 rfl rfl (Nat.le_of_ble_eq_true rfl)
theorem dX9_unlikeIn_72 : decode cX9_unlikeIn 72 = .ok (.goto 10, 3) := by decide +kernel
theorem sX9_unlikeIn_72 : ab_X rom K cX9_unlikeIn 7 1 72 ls st hp = ab_X rom K cX9_unlikeIn 7 1 82 ls st hp := ax_goto dX9_unlikeIn_72 (by decide)
theorem dX9_unlikeIn_75 : decode cX9_unlikeIn 75 = .ok (.aload_n 0, 1) := by decide +kernel
theorem sX9_unlikeIn_75 : ab_X rom K cX9_unlikeIn 7 1 75 (.ref a :: ls) st hp = ab_X rom K cX9_unlikeIn 7 1 76 (.ref a :: ls) (.ref a :: st) hp := ax_aload_n dX9_unlikeIn_75 rfl rfl
theorem dX9_unlikeIn_76 : decode cX9_unlikeIn 76 = .ok (.getfield 44, 3) := by decide +kernel
theorem sX9_unlikeIn_76 : ab_X rom K cX9_unlikeIn 7 1 76 ls (.ref a :: st) hp = (ab_fld hp a 7 25).bind (fun v => ab_X rom K cX9_unlikeIn 7 1 79 ls (v :: st) hp) := ax_getfield dX9_unlikeIn_76 kf_7_44 rfl
theorem dX9_unlikeIn_79 : decode cX9_unlikeIn 79 = .ok (.iload 4, 2) := by decide +kernel
theorem sX9_unlikeIn_79 : ab_X rom K cX9_unlikeIn 7 1 79 (v0 :: v1 :: v2 :: v3 :: .int x :: ls) st hp = ab_X rom K cX9_unlikeIn 7 1 81 (v0 :: v1 :: v2 :: v3 :: .int x :: ls) (.int x :: st) hp := ax_iload dX9_unlikeIn_79 rfl rfl
theorem dX9_unlikeIn_81 : decode cX9_unlikeIn 81 = .ok (.iaload, 1) := by decide +kernel
theorem sX9_unlikeIn_81 : ab_X rom K cX9_unlikeIn 7 1 81 ls (.int x :: .ref a :: st) hp = (ab_ard rom 0 hp a x).bind (fun v => ab_X rom K cX9_unlikeIn 7 1 82 ls (.int v :: st) hp) := ax_iaload dX9_unlikeIn_81 rfl
theorem dX9_unlikeIn_82 : decode cX9_unlikeIn 82 = .ok (.istore 6, 2) := by decide +kernel
theorem sX9_unlikeIn_82i : ab_X rom K cX9_unlikeIn 7 1 82 (v0 :: v1 :: v2 :: v3 :: v4 :: .int y :: v6 :: ls) (.int x :: st) hp = ab_X rom K cX9_unlikeIn 7 1 84 (v0 :: v1 :: v2 :: v3 :: v4 :: .int y :: .int x :: ls) st hp := ax_istore dX9_unlikeIn_82 (ax_lt (v := v6) rfl) (ab_nl_c1 (j := 5) (v := .int y) rfl (ab_c1_int _)) rfl rfl
theorem sX9_unlikeIn_82r : ab_X rom K cX9_unlikeIn 7 1 82 (v0 :: v1 :: v2 :: v3 :: v4 :: .ref a2 :: v6 :: ls) (.int x :: st) hp = ab_X rom K cX9_unlikeIn 7 1 84 (v0 :: v1 :: v2 :: v3 :: v4 :: .ref a2 :: .int x :: ls) st hp := ax_istore dX9_unlikeIn_82 (ax_lt (v := v6) rfl) (ab_nl_c1 (j := 5) (v := .ref a2) rfl (ab_c1_ref _)) rfl rfl
theorem sX9_unlikeIn_82n : ab_X rom K cX9_unlikeIn 7 1 82 (v0 :: v1 :: v2 :: v3 :: v4 :: .null :: v6 :: ls) (.int x :: st) hp = ab_X rom K cX9_unlikeIn 7 1 84 (v0 :: v1 :: v2 :: v3 :: v4 :: .null :: .int x :: ls) st hp := ax_istore dX9_unlikeIn_82 (ax_lt (v := v6) rfl) (ab_nl_c1 (j := 5) (v := .null) rfl ab_c1_null) rfl rfl
theorem dX9_unlikeIn_84 : decode cX9_unlikeIn 84 = .ok (.iload_n 3, 1) := by decide +kernel
theorem sX9_unlikeIn_84 : ab_X rom K cX9_unlikeIn 7 1 84 (v0 :: v1 :: v2 :: .int x :: ls) st hp = ab_X rom K cX9_unlikeIn 7 1 85 (v0 :: v1 :: v2 :: .int x :: ls) (.int x :: st) hp := ax_iload_n dX9_unlikeIn_84 rfl rfl
theorem dX9_unlikeIn_85 : decode cX9_unlikeIn 85 = .ok (.aload_n 0, 1) := by decide +kernel
theorem sX9_unlikeIn_85 : ab_X rom K cX9_unlikeIn 7 1 85 (.ref a :: ls) st hp = ab_X rom K cX9_unlikeIn 7 1 86 (.ref a :: ls) (.ref a :: st) hp := ax_aload_n dX9_unlikeIn_85 rfl rfl
theorem dX9_unlikeIn_86 : decode cX9_unlikeIn 86 = .ok (.getfield 47, 3) := by decide +kernel
theorem sX9_unlikeIn_86 : ab_X rom K cX9_unlikeIn 7 1 86 ls (.ref a :: st) hp = (ab_fld hp a 7 26).bind (fun v => ab_X rom K cX9_unlikeIn 7 1 89 ls (v :: st) hp) := ax_getfield dX9_unlikeIn_86 kf_7_47 rfl
theorem dX9_unlikeIn_89 : decode cX9_unlikeIn 89 = .ok (.iload 6, 2) := by decide +kernel
theorem sX9_unlikeIn_89 : ab_X rom K cX9_unlikeIn 7 1 89 (v0 :: v1 :: v2 :: v3 :: v4 :: v5 :: .int x :: ls) st hp = ab_X rom K cX9_unlikeIn 7 1 91 (v0 :: v1 :: v2 :: v3 :: v4 :: v5 :: .int x :: ls) (.int x :: st) hp := ax_iload dX9_unlikeIn_89 rfl rfl
theorem dX9_unlikeIn_91 : decode cX9_unlikeIn 91 = .ok (.baload, 1) := by decide +kernel
theorem sX9_unlikeIn_91 : ab_X rom K cX9_unlikeIn 7 1 91 ls (.int x :: .ref a :: st) hp = (ab_ard rom 1 hp a x).bind (fun v => ab_X rom K cX9_unlikeIn 7 1 92 ls (.int v :: st) hp) := ax_baload dX9_unlikeIn_91 rfl
theorem dX9_unlikeIn_92 : decode cX9_unlikeIn 92 = .ok (.ifCond .eq 7, 3) := by decide +kernel
theorem sX9_unlikeIn_92 : ab_X rom K cX9_unlikeIn 7 1 92 ls (.int x :: st) hp = if x = 0 then ab_X rom K cX9_unlikeIn 7 1 99 ls st hp else ab_X rom K cX9_unlikeIn 7 1 95 ls st hp := ax_if_eq dX9_unlikeIn_92 (by decide) rfl
theorem dX9_unlikeIn_95 : decode cX9_unlikeIn 95 = .ok (.iconst 0, 1) := by decide +kernel
theorem sX9_unlikeIn_95 : ab_X rom K cX9_unlikeIn 7 1 95 ls st hp = ab_X rom K cX9_unlikeIn 7 1 96 ls (.int 0 :: st) hp := ax_iconst dX9_unlikeIn_95 (by decide) rfl
theorem dX9_unlikeIn_96 : decode cX9_unlikeIn 96 = .ok (.goto 4, 3) := by decide +kernel
theorem sX9_unlikeIn_96 : ab_X rom K cX9_unlikeIn 7 1 96 ls st hp = ab_X rom K cX9_unlikeIn 7 1 100 ls st hp := ax_goto dX9_unlikeIn_96 (by decide)
theorem dX9_unlikeIn_99 : decode cX9_unlikeIn 99 = .ok (.iconst 1, 1) := by decide +kernel
theorem sX9_unlikeIn_99 : ab_X rom K cX9_unlikeIn 7 1 99 ls st hp = ab_X rom K cX9_unlikeIn 7 1 100 ls (.int 1 :: st) hp := ax_iconst dX9_unlikeIn_99 (by decide) rfl
theorem dX9_unlikeIn_100 : decode cX9_unlikeIn 100 = .ok (.iadd, 1) := by decide +kernel
theorem sX9_unlikeIn_100 : ab_X rom K cX9_unlikeIn 7 1 100 ls (.int y :: .int x :: st) hp = ab_X rom K cX9_unlikeIn 7 1 101 ls (.int (x + y) :: st) hp := ax_iadd dX9_unlikeIn_100 rfl
theorem dX9_unlikeIn_101 : decode cX9_unlikeIn 101 = .ok (.istore_n 3, 1) := by decide +kernel
theorem sX9_unlikeIn_101i : ab_X rom K cX9_unlikeIn 7 1 101 (v0 :: v1 :: .int y :: v3 :: ls) (.int x :: st) hp = ab_X rom K cX9_unlikeIn 7 1 102 (v0 :: v1 :: .int y :: .int x :: ls) st hp := ax_istore_n dX9_unlikeIn_101 (ax_lt (v := v3) rfl) (ab_nl_c1 (j := 2) (v := .int y) rfl (ab_c1_int _)) rfl rfl
theorem sX9_unlikeIn_101r : ab_X rom K cX9_unlikeIn 7 1 101 (v0 :: v1 :: .ref a2 :: v3 :: ls) (.int x :: st) hp = ab_X rom K cX9_unlikeIn 7 1 102 (v0 :: v1 :: .ref a2 :: .int x :: ls) st hp := ax_istore_n dX9_unlikeIn_101 (ax_lt (v := v3) rfl) (ab_nl_c1 (j := 2) (v := .ref a2) rfl (ab_c1_ref _)) rfl rfl
theorem sX9_unlikeIn_101n : ab_X rom K cX9_unlikeIn 7 1 101 (v0 :: v1 :: .null :: v3 :: ls) (.int x :: st) hp = ab_X rom K cX9_unlikeIn 7 1 102 (v0 :: v1 :: .null :: .int x :: ls) st hp := ax_istore_n dX9_unlikeIn_101 (ax_lt (v := v3) rfl) (ab_nl_c1 (j := 2) (v := .null) rfl ab_c1_null) rfl rfl
theorem dX9_unlikeIn_102 : decode cX9_unlikeIn 102 = .ok (.aload_n 0, 1) := by decide +kernel
theorem sX9_unlikeIn_102 : ab_X rom K cX9_unlikeIn 7 1 102 (.ref a :: ls) st hp = ab_X rom K cX9_unlikeIn 7 1 103 (.ref a :: ls) (.ref a :: st) hp := ax_aload_n dX9_unlikeIn_102 rfl rfl
theorem dX9_unlikeIn_103 : decode cX9_unlikeIn 103 = .ok (.getfield 47, 3) := by decide +kernel
theorem sX9_unlikeIn_103 : ab_X rom K cX9_unlikeIn 7 1 103 ls (.ref a :: st) hp = (ab_fld hp a 7 26).bind (fun v => ab_X rom K cX9_unlikeIn 7 1 106 ls (v :: st) hp) := ax_getfield dX9_unlikeIn_103 kf_7_47 rfl
theorem dX9_unlikeIn_106 : decode cX9_unlikeIn 106 = .ok (.iload 6, 2) := by decide +kernel
theorem sX9_unlikeIn_106 : ab_X rom K cX9_unlikeIn 7 1 106 (v0 :: v1 :: v2 :: v3 :: v4 :: v5 :: .int x :: ls) st hp = ab_X rom K cX9_unlikeIn 7 1 108 (v0 :: v1 :: v2 :: v3 :: v4 :: v5 :: .int x :: ls) (.int x :: st) hp := ax_iload dX9_unlikeIn_106 rfl rfl
theorem dX9_unlikeIn_108 : decode cX9_unlikeIn 108 = .ok (.iconst 1, 1) := by decide +kernel
theorem sX9_unlikeIn_108 : ab_X rom K cX9_unlikeIn 7 1 108 ls st hp = ab_X rom K cX9_unlikeIn 7 1 109 ls (.int 1 :: st) hp := ax_iconst dX9_unlikeIn_108 (by decide) rfl
theorem dX9_unlikeIn_109 : decode cX9_unlikeIn 109 = .ok (.bastore, 1) := by decide +kernel
theorem sX9_unlikeIn_109 : ab_X rom K cX9_unlikeIn 7 1 109 ls (.int y :: .int x :: .ref a :: st) hp = if y = 0 ∨ y = 1 then (ab_awr 1 hp a x y).bind (fun hp' => ab_X rom K cX9_unlikeIn 7 1 110 ls st hp') else none := ay_bastore dX9_unlikeIn_109 rfl
theorem dX9_unlikeIn_110 : decode cX9_unlikeIn 110 = .ok (.iinc 5 1, 3) := by decide +kernel
theorem sX9_unlikeIn_110i : ab_X rom K cX9_unlikeIn 7 1 110 (v0 :: v1 :: v2 :: v3 :: .int y :: .int x :: ls) st hp = ab_X rom K cX9_unlikeIn 7 1 113 (v0 :: v1 :: v2 :: v3 :: .int y :: .int (x + 1) :: ls) st hp := ax_iinc dX9_unlikeIn_110 rfl (ab_nl_c1 (j := 4) (v := .int y) rfl (ab_c1_int _)) (by decide) rfl rfl
theorem sX9_unlikeIn_110r : ab_X rom K cX9_unlikeIn 7 1 110 (v0 :: v1 :: v2 :: v3 :: .ref a2 :: .int x :: ls) st hp = ab_X rom K cX9_unlikeIn 7 1 113 (v0 :: v1 :: v2 :: v3 :: .ref a2 :: .int (x + 1) :: ls) st hp := ax_iinc dX9_unlikeIn_110 rfl (ab_nl_c1 (j := 4) (v := .ref a2) rfl (ab_c1_ref _)) (by decide) rfl rfl
theorem sX9_unlikeIn_110n : ab_X rom K cX9_unlikeIn 7 1 110 (v0 :: v1 :: v2 :: v3 :: .null :: .int x :: ls) st hp = ab_X rom K cX9_unlikeIn 7 1 113 (v0 :: v1 :: v2 :: v3 :: .null :: .int (x + 1) :: ls) st hp := ax_iinc dX9_unlikeIn_110 rfl (ab_nl_c1 (j := 4) (v := .null) rfl ab_c1_null) (by decide) rfl rfl
theorem dX9_unlikeIn_113 : decode cX9_unlikeIn 113 = .ok (.goto (-77), 3) := by decide +kernel
theorem sX9_unlikeIn_113 : ab_X rom K cX9_unlikeIn 7 1 113 ls st hp = ab_X rom K cX9_unlikeIn 7 1 36 ls st hp := ax_goto dX9_unlikeIn_113 (by decide)
theorem dX9_unlikeIn_116 : decode cX9_unlikeIn 116 = .ok (.iinc 4 1, 3) := by decide +kernel
theorem sX9_unlikeIn_116i : ab_X rom K cX9_unlikeIn 7 1 116 (v0 :: v1 :: v2 :: .int y :: .int x :: ls) st hp = ab_X rom K cX9_unlikeIn 7 1 119 (v0 :: v1 :: v2 :: .int y :: .int (x + 1) :: ls) st hp := ax_iinc dX9_unlikeIn_116 rfl (ab_nl_c1 (j := 3) (v := .int y) rfl (ab_c1_int _)) (by decide) rfl rfl
theorem sX9_unlikeIn_116r : ab_X rom K cX9_unlikeIn 7 1 116 (v0 :: v1 :: v2 :: .ref a2 :: .int x :: ls) st hp = ab_X rom K cX9_unlikeIn 7 1 119 (v0 :: v1 :: v2 :: .ref a2 :: .int (x + 1) :: ls) st hp := ax_iinc dX9_unlikeIn_116 rfl (ab_nl_c1 (j := 3) (v := .ref a2) rfl (ab_c1_ref _)) (by decide) rfl rfl
theorem sX9_unlikeIn_116n : ab_X rom K cX9_unlikeIn 7 1 116 (v0 :: v1 :: v2 :: .null :: .int x :: ls) st hp = ab_X rom K cX9_unlikeIn 7 1 119 (v0 :: v1 :: v2 :: .null :: .int (x + 1) :: ls) st hp := ax_iinc dX9_unlikeIn_116 rfl (ab_nl_c1 (j := 3) (v := .null) rfl ab_c1_null) (by decide) rfl rfl
theorem dX9_unlikeIn_119 : decode cX9_unlikeIn 119 = .ok (.goto (-92), 3) := by decide +kernel
theorem sX9_unlikeIn_119 : ab_X rom K cX9_unlikeIn 7 1 119 ls st hp = ab_X rom K cX9_unlikeIn 7 1 27 ls st hp := ax_goto dX9_unlikeIn_119 (by decide)
theorem dX9_unlikeIn_122 : decode cX9_unlikeIn 122 = .ok (.iload_n 3, 1) := by decide +kernel
theorem sX9_unlikeIn_122 : ab_X rom K cX9_unlikeIn 7 1 122 (v0 :: v1 :: v2 :: .int x :: ls) st hp = ab_X rom K cX9_unlikeIn 7 1 123 (v0 :: v1 :: v2 :: .int x :: ls) (.int x :: st) hp := ax_iload_n dX9_unlikeIn_122 rfl rfl
theorem dX9_unlikeIn_123 : decode cX9_unlikeIn 123 = .ok (.ireturn, 1) := by decide +kernel
theorem sX9_unlikeIn_123 : ab_X rom K cX9_unlikeIn 7 1 123 ls [.int x] hp = some (some (.int x), hp) := ax_iret dX9_unlikeIn_123 rfl
theorem tX9_why : ab_mT[236]? = some (yX9_why, cX9_why, 3, 1, 7) := by decide +kernel
theorem mX9_why {d : Nat} {a0 : Nat} {x0 : Int32} {x1 : Int32} : ab_M rom (d + 1) 236 [.ref a0, .int x0, .int x1] hp = ab_X rom (ab_M rom d) cX9_why 7 1 0 [.ref a0, .int x0, .int x1] [] hp := ab_M_eq tX9_why (Nat.le_of_ble_eq_true rfl)
theorem dX9_why_0 : decode cX9_why 0 = .ok (.aload_n 0, 1) := by decide +kernel
theorem sX9_why_0 : ab_X rom K cX9_why 7 1 0 (.ref a :: ls) st hp = ab_X rom K cX9_why 7 1 1 (.ref a :: ls) (.ref a :: st) hp := ax_aload_n dX9_why_0 rfl rfl
theorem dX9_why_1 : decode cX9_why 1 = .ok (.iload_n 1, 1) := by decide +kernel
theorem sX9_why_1 : ab_X rom K cX9_why 7 1 1 (v0 :: .int x :: ls) st hp = ab_X rom K cX9_why 7 1 2 (v0 :: .int x :: ls) (.int x :: st) hp := ax_iload_n dX9_why_1 rfl rfl
theorem dX9_why_2 : decode cX9_why 2 = .ok (.invokevirtual 68, 3) := by decide +kernel
theorem sX9_why_2_0 : ab_X rom K cX9_why 7 1 2 ls [w1, .ref a] hp = if ab_iso hp a 7 = true then (K 171 (.ref a :: [w1]) hp).bind (fun o => ab_X rom K cX9_why 7 1 5 ls (o.1.toList ++ []) o.2) else none := ay_virtual (as := [w1]) (st := []) dX9_why_2 kc_7_68 rfl rfl (Nat.le_of_ble_eq_true rfl)
theorem sX9_why_2_1 : ab_X rom K cX9_why 7 1 2 ls [w1, .ref a, v0] hp = if ab_iso hp a 7 = true then (K 171 (.ref a :: [w1]) hp).bind (fun o => ab_X rom K cX9_why 7 1 5 ls (o.1.toList ++ [v0]) o.2) else none := ay_virtual (as := [w1]) (st := [v0]) dX9_why_2 kc_7_68 rfl rfl (Nat.le_of_ble_eq_true rfl)
theorem sX9_why_2_2 : ab_X rom K cX9_why 7 1 2 ls [w1, .ref a, v0, v1] hp = if ab_iso hp a 7 = true then (K 171 (.ref a :: [w1]) hp).bind (fun o => ab_X rom K cX9_why 7 1 5 ls (o.1.toList ++ [v0, v1]) o.2) else none := ay_virtual (as := [w1]) (st := [v0, v1]) dX9_why_2 kc_7_68 rfl rfl (Nat.le_of_ble_eq_true rfl)
theorem sX9_why_2_3 : ab_X rom K cX9_why 7 1 2 ls [w1, .ref a, v0, v1, v2] hp = if ab_iso hp a 7 = true then (K 171 (.ref a :: [w1]) hp).bind (fun o => ab_X rom K cX9_why 7 1 5 ls (o.1.toList ++ [v0, v1, v2]) o.2) else none := ay_virtual (as := [w1]) (st := [v0, v1, v2]) dX9_why_2 kc_7_68 rfl rfl (Nat.le_of_ble_eq_true rfl)
theorem dX9_why_5 : decode cX9_why 5 = .ok (.ifCond .eq 19, 3) := by decide +kernel
theorem sX9_why_5 : ab_X rom K cX9_why 7 1 5 ls (.int x :: st) hp = if x = 0 then ab_X rom K cX9_why 7 1 24 ls st hp else ab_X rom K cX9_why 7 1 8 ls st hp := ax_if_eq dX9_why_5 (by decide) rfl
theorem dX9_why_8 : decode cX9_why 8 = .ok (.iload_n 2, 1) := by decide +kernel
theorem sX9_why_8 : ab_X rom K cX9_why 7 1 8 (v0 :: v1 :: .int x :: ls) st hp = ab_X rom K cX9_why 7 1 9 (v0 :: v1 :: .int x :: ls) (.int x :: st) hp := ax_iload_n dX9_why_8 rfl rfl
theorem dX9_why_9 : decode cX9_why 9 = .ok (.invokestatic 278, 3) := by decide +kernel
theorem sX9_why_9_0 : ab_X rom K cX9_why 7 1 9 ls [w1] hp = (K 168 [w1] hp).bind (fun o => ab_X rom K cX9_why 7 1 12 ls (o.1.toList ++ []) o.2) := ax_static (as := [w1]) (st := []) dX9_why_9 kc_7_278 rfl rfl (Nat.le_of_ble_eq_true rfl)
theorem sX9_why_9_1 : ab_X rom K cX9_why 7 1 9 ls [w1, v0] hp = (K 168 [w1] hp).bind (fun o => ab_X rom K cX9_why 7 1 12 ls (o.1.toList ++ [v0]) o.2) := ax_static (as := [w1]) (st := [v0]) dX9_why_9 kc_7_278 rfl rfl (Nat.le_of_ble_eq_true rfl)
theorem sX9_why_9_2 : ab_X rom K cX9_why 7 1 9 ls [w1, v0, v1] hp = (K 168 [w1] hp).bind (fun o => ab_X rom K cX9_why 7 1 12 ls (o.1.toList ++ [v0, v1]) o.2) := ax_static (as := [w1]) (st := [v0, v1]) dX9_why_9 kc_7_278 rfl rfl (Nat.le_of_ble_eq_true rfl)
theorem sX9_why_9_3 : ab_X rom K cX9_why 7 1 9 ls [w1, v0, v1, v2] hp = (K 168 [w1] hp).bind (fun o => ab_X rom K cX9_why 7 1 12 ls (o.1.toList ++ [v0, v1, v2]) o.2) := ax_static (as := [w1]) (st := [v0, v1, v2]) dX9_why_9 kc_7_278 rfl rfl (Nat.le_of_ble_eq_true rfl)
theorem dX9_why_12 : decode cX9_why 12 = .ok (.ifCond .eq 12, 3) := by decide +kernel
theorem sX9_why_12 : ab_X rom K cX9_why 7 1 12 ls (.int x :: st) hp = if x = 0 then ab_X rom K cX9_why 7 1 24 ls st hp else ab_X rom K cX9_why 7 1 15 ls st hp := ax_if_eq dX9_why_12 (by decide) rfl
theorem dX9_why_15 : decode cX9_why 15 = .ok (.aload_n 0, 1) := by decide +kernel
theorem sX9_why_15 : ab_X rom K cX9_why 7 1 15 (.ref a :: ls) st hp = ab_X rom K cX9_why 7 1 16 (.ref a :: ls) (.ref a :: st) hp := ax_aload_n dX9_why_15 rfl rfl
theorem dX9_why_16 : decode cX9_why 16 = .ok (.iload_n 1, 1) := by decide +kernel
theorem sX9_why_16 : ab_X rom K cX9_why 7 1 16 (v0 :: .int x :: ls) st hp = ab_X rom K cX9_why 7 1 17 (v0 :: .int x :: ls) (.int x :: st) hp := ax_iload_n dX9_why_16 rfl rfl
theorem dX9_why_17 : decode cX9_why 17 = .ok (.iload_n 2, 1) := by decide +kernel
theorem sX9_why_17 : ab_X rom K cX9_why 7 1 17 (v0 :: v1 :: .int x :: ls) st hp = ab_X rom K cX9_why 7 1 18 (v0 :: v1 :: .int x :: ls) (.int x :: st) hp := ax_iload_n dX9_why_17 rfl rfl
theorem dX9_why_18 : decode cX9_why 18 = .ok (.invokevirtual 281, 3) := by decide +kernel
theorem sX9_why_18_0 : ab_X rom K cX9_why 7 1 18 ls [w2, w1, .ref a] hp = if ab_iso hp a 7 = true then (K 237 (.ref a :: [w1, w2]) hp).bind (fun o => ab_X rom K cX9_why 7 1 21 ls (o.1.toList ++ []) o.2) else none := ay_virtual (as := [w1, w2]) (st := []) dX9_why_18 kc_7_281 rfl rfl (Nat.le_of_ble_eq_true rfl)
theorem sX9_why_18_1 : ab_X rom K cX9_why 7 1 18 ls [w2, w1, .ref a, v0] hp = if ab_iso hp a 7 = true then (K 237 (.ref a :: [w1, w2]) hp).bind (fun o => ab_X rom K cX9_why 7 1 21 ls (o.1.toList ++ [v0]) o.2) else none := ay_virtual (as := [w1, w2]) (st := [v0]) dX9_why_18 kc_7_281 rfl rfl (Nat.le_of_ble_eq_true rfl)
theorem sX9_why_18_2 : ab_X rom K cX9_why 7 1 18 ls [w2, w1, .ref a, v0, v1] hp = if ab_iso hp a 7 = true then (K 237 (.ref a :: [w1, w2]) hp).bind (fun o => ab_X rom K cX9_why 7 1 21 ls (o.1.toList ++ [v0, v1]) o.2) else none := ay_virtual (as := [w1, w2]) (st := [v0, v1]) dX9_why_18 kc_7_281 rfl rfl (Nat.le_of_ble_eq_true rfl)
theorem sX9_why_18_3 : ab_X rom K cX9_why 7 1 18 ls [w2, w1, .ref a, v0, v1, v2] hp = if ab_iso hp a 7 = true then (K 237 (.ref a :: [w1, w2]) hp).bind (fun o => ab_X rom K cX9_why 7 1 21 ls (o.1.toList ++ [v0, v1, v2]) o.2) else none := ay_virtual (as := [w1, w2]) (st := [v0, v1, v2]) dX9_why_18 kc_7_281 rfl rfl (Nat.le_of_ble_eq_true rfl)
theorem dX9_why_21 : decode cX9_why 21 = .ok (.goto 5, 3) := by decide +kernel
theorem sX9_why_21 : ab_X rom K cX9_why 7 1 21 ls st hp = ab_X rom K cX9_why 7 1 26 ls st hp := ax_goto dX9_why_21 (by decide)
theorem dX9_why_24 : decode cX9_why 24 = .ok (.bipush (-2), 2) := by decide +kernel
theorem sX9_why_24 : ab_X rom K cX9_why 7 1 24 ls st hp = ab_X rom K cX9_why 7 1 26 ls (.int (-2) :: st) hp := ax_bipush dX9_why_24 (by decide) rfl
theorem dX9_why_26 : decode cX9_why 26 = .ok (.ireturn, 1) := by decide +kernel
theorem sX9_why_26 : ab_X rom K cX9_why 7 1 26 ls [.int x] hp = some (some (.int x), hp) := ax_iret dX9_why_26 rfl
theorem tX9_whyAt : ab_mT[237]? = some (yX9_whyAt, cX9_whyAt, 3, 1, 7) := by decide +kernel
theorem mX9_whyAt {d : Nat} {a0 : Nat} {x0 : Int32} {x1 : Int32} : ab_M rom (d + 1) 237 [.ref a0, .int x0, .int x1] hp = ab_X rom (ab_M rom d) cX9_whyAt 7 1 0 [.ref a0, .int x0, .int x1] [] hp := ab_M_eq tX9_whyAt (Nat.le_of_ble_eq_true rfl)
theorem dX9_whyAt_0 : decode cX9_whyAt 0 = .ok (.aload_n 0, 1) := by decide +kernel
theorem sX9_whyAt_0 : ab_X rom K cX9_whyAt 7 1 0 (.ref a :: ls) st hp = ab_X rom K cX9_whyAt 7 1 1 (.ref a :: ls) (.ref a :: st) hp := ax_aload_n dX9_whyAt_0 rfl rfl
theorem dX9_whyAt_1 : decode cX9_whyAt 1 = .ok (.iload_n 1, 1) := by decide +kernel
theorem sX9_whyAt_1 : ab_X rom K cX9_whyAt 7 1 1 (v0 :: .int x :: ls) st hp = ab_X rom K cX9_whyAt 7 1 2 (v0 :: .int x :: ls) (.int x :: st) hp := ax_iload_n dX9_whyAt_1 rfl rfl
theorem dX9_whyAt_2 : decode cX9_whyAt 2 = .ok (.invokevirtual 272, 3) := by decide +kernel
theorem sX9_whyAt_2_0 : ab_X rom K cX9_whyAt 7 1 2 ls [w1, .ref a] hp = if ab_iso hp a 7 = true then (K 184 (.ref a :: [w1]) hp).bind (fun o => ab_X rom K cX9_whyAt 7 1 5 ls (o.1.toList ++ []) o.2) else none := ay_virtual (as := [w1]) (st := []) dX9_whyAt_2 kc_7_272 rfl rfl (Nat.le_of_ble_eq_true rfl)
theorem sX9_whyAt_2_1 : ab_X rom K cX9_whyAt 7 1 2 ls [w1, .ref a, v0] hp = if ab_iso hp a 7 = true then (K 184 (.ref a :: [w1]) hp).bind (fun o => ab_X rom K cX9_whyAt 7 1 5 ls (o.1.toList ++ [v0]) o.2) else none := ay_virtual (as := [w1]) (st := [v0]) dX9_whyAt_2 kc_7_272 rfl rfl (Nat.le_of_ble_eq_true rfl)
theorem sX9_whyAt_2_2 : ab_X rom K cX9_whyAt 7 1 2 ls [w1, .ref a, v0, v1] hp = if ab_iso hp a 7 = true then (K 184 (.ref a :: [w1]) hp).bind (fun o => ab_X rom K cX9_whyAt 7 1 5 ls (o.1.toList ++ [v0, v1]) o.2) else none := ay_virtual (as := [w1]) (st := [v0, v1]) dX9_whyAt_2 kc_7_272 rfl rfl (Nat.le_of_ble_eq_true rfl)
theorem sX9_whyAt_2_3 : ab_X rom K cX9_whyAt 7 1 2 ls [w1, .ref a, v0, v1, v2] hp = if ab_iso hp a 7 = true then (K 184 (.ref a :: [w1]) hp).bind (fun o => ab_X rom K cX9_whyAt 7 1 5 ls (o.1.toList ++ [v0, v1, v2]) o.2) else none := ay_virtual (as := [w1]) (st := [v0, v1, v2]) dX9_whyAt_2 kc_7_272 rfl rfl (Nat.le_of_ble_eq_true rfl)
theorem dX9_whyAt_5 : decode cX9_whyAt 5 = .ok (.aload_n 0, 1) := by decide +kernel
theorem sX9_whyAt_5 : ab_X rom K cX9_whyAt 7 1 5 (.ref a :: ls) st hp = ab_X rom K cX9_whyAt 7 1 6 (.ref a :: ls) (.ref a :: st) hp := ax_aload_n dX9_whyAt_5 rfl rfl
theorem dX9_whyAt_6 : decode cX9_whyAt 6 = .ok (.iload_n 2, 1) := by decide +kernel
theorem sX9_whyAt_6 : ab_X rom K cX9_whyAt 7 1 6 (v0 :: v1 :: .int x :: ls) st hp = ab_X rom K cX9_whyAt 7 1 7 (v0 :: v1 :: .int x :: ls) (.int x :: st) hp := ax_iload_n dX9_whyAt_6 rfl rfl
theorem dX9_whyAt_7 : decode cX9_whyAt 7 = .ok (.invokevirtual 275, 3) := by decide +kernel
theorem sX9_whyAt_7_0 : ab_X rom K cX9_whyAt 7 1 7 ls [w1, .ref a] hp = if ab_iso hp a 7 = true then (K 238 (.ref a :: [w1]) hp).bind (fun o => ab_X rom K cX9_whyAt 7 1 10 ls (o.1.toList ++ []) o.2) else none := ay_virtual (as := [w1]) (st := []) dX9_whyAt_7 kc_7_275 rfl rfl (Nat.le_of_ble_eq_true rfl)
theorem sX9_whyAt_7_1 : ab_X rom K cX9_whyAt 7 1 7 ls [w1, .ref a, v0] hp = if ab_iso hp a 7 = true then (K 238 (.ref a :: [w1]) hp).bind (fun o => ab_X rom K cX9_whyAt 7 1 10 ls (o.1.toList ++ [v0]) o.2) else none := ay_virtual (as := [w1]) (st := [v0]) dX9_whyAt_7 kc_7_275 rfl rfl (Nat.le_of_ble_eq_true rfl)
theorem sX9_whyAt_7_2 : ab_X rom K cX9_whyAt 7 1 7 ls [w1, .ref a, v0, v1] hp = if ab_iso hp a 7 = true then (K 238 (.ref a :: [w1]) hp).bind (fun o => ab_X rom K cX9_whyAt 7 1 10 ls (o.1.toList ++ [v0, v1]) o.2) else none := ay_virtual (as := [w1]) (st := [v0, v1]) dX9_whyAt_7 kc_7_275 rfl rfl (Nat.le_of_ble_eq_true rfl)
theorem sX9_whyAt_7_3 : ab_X rom K cX9_whyAt 7 1 7 ls [w1, .ref a, v0, v1, v2] hp = if ab_iso hp a 7 = true then (K 238 (.ref a :: [w1]) hp).bind (fun o => ab_X rom K cX9_whyAt 7 1 10 ls (o.1.toList ++ [v0, v1, v2]) o.2) else none := ay_virtual (as := [w1]) (st := [v0, v1, v2]) dX9_whyAt_7 kc_7_275 rfl rfl (Nat.le_of_ble_eq_true rfl)
theorem dX9_whyAt_10 : decode cX9_whyAt 10 = .ok (.ireturn, 1) := by decide +kernel
theorem sX9_whyAt_10 : ab_X rom K cX9_whyAt 7 1 10 ls [.int x] hp = some (some (.int x), hp) := ax_iret dX9_whyAt_10 rfl
end
