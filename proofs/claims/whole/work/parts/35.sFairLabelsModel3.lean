/-! FairLabelsModel: its methods step by step (printed by wip/whole/gen_steps.py) -/
section
variable {rom : List (List Int32)} {K : Nat → List Value → ab_H → Option ab_O} {ls st : List Value} {hp : ab_H} {x y z : Int32} {a a2 : Nat} {sp dp : Int32} {u w : Int64} {v0 v1 v2 v3 v4 v5 v6 v7 v8 v9 v10 v11 v12 v13 v14 v15 w1 w2 w3 w4 w5 w6 : Value}
theorem tX9_look : ab_mT[189]? = some (yX9_look, cX9_look, 5, 1, 7) := by decide +kernel
theorem mX9_look {d : Nat} {a0 : Nat} {x0 : Int32} {x1 : Int32} : ab_M rom (d + 1) 189 [.ref a0, .int x0, .int x1] hp = ab_X rom (ab_M rom d) cX9_look 7 1 0 [.ref a0, .int x0, .int x1, .null, .null] [] hp := ab_M_eq tX9_look (Nat.le_of_ble_eq_true rfl)
theorem dX9_look_0 : decode cX9_look 0 = .ok (.aload_n 0, 1) := by decide +kernel
theorem sX9_look_0 : ab_X rom K cX9_look 7 1 0 (.ref a :: ls) st hp = ab_X rom K cX9_look 7 1 1 (.ref a :: ls) (.ref a :: st) hp := ax_aload_n dX9_look_0 rfl rfl
theorem dX9_look_1 : decode cX9_look 1 = .ok (.iload_n 1, 1) := by decide +kernel
theorem sX9_look_1 : ab_X rom K cX9_look 7 1 1 (v0 :: .int x :: ls) st hp = ab_X rom K cX9_look 7 1 2 (v0 :: .int x :: ls) (.int x :: st) hp := ax_iload_n dX9_look_1 rfl rfl
theorem dX9_look_2 : decode cX9_look 2 = .ok (.invokevirtual 68, 3) := by decide +kernel
theorem sX9_look_2_0 : ab_X rom K cX9_look 7 1 2 ls [w1, .ref a] hp = if ab_iso hp a 7 = true then (K 171 (.ref a :: [w1]) hp).bind (fun o => ab_X rom K cX9_look 7 1 5 ls (o.1.toList ++ []) o.2) else none := ay_virtual (as := [w1]) (st := []) dX9_look_2 kc_7_68 rfl rfl (Nat.le_of_ble_eq_true rfl)
theorem sX9_look_2_1 : ab_X rom K cX9_look 7 1 2 ls [w1, .ref a, v0] hp = if ab_iso hp a 7 = true then (K 171 (.ref a :: [w1]) hp).bind (fun o => ab_X rom K cX9_look 7 1 5 ls (o.1.toList ++ [v0]) o.2) else none := ay_virtual (as := [w1]) (st := [v0]) dX9_look_2 kc_7_68 rfl rfl (Nat.le_of_ble_eq_true rfl)
theorem sX9_look_2_2 : ab_X rom K cX9_look 7 1 2 ls [w1, .ref a, v0, v1] hp = if ab_iso hp a 7 = true then (K 171 (.ref a :: [w1]) hp).bind (fun o => ab_X rom K cX9_look 7 1 5 ls (o.1.toList ++ [v0, v1]) o.2) else none := ay_virtual (as := [w1]) (st := [v0, v1]) dX9_look_2 kc_7_68 rfl rfl (Nat.le_of_ble_eq_true rfl)
theorem sX9_look_2_3 : ab_X rom K cX9_look 7 1 2 ls [w1, .ref a, v0, v1, v2] hp = if ab_iso hp a 7 = true then (K 171 (.ref a :: [w1]) hp).bind (fun o => ab_X rom K cX9_look 7 1 5 ls (o.1.toList ++ [v0, v1, v2]) o.2) else none := ay_virtual (as := [w1]) (st := [v0, v1, v2]) dX9_look_2 kc_7_68 rfl rfl (Nat.le_of_ble_eq_true rfl)
theorem dX9_look_5 : decode cX9_look 5 = .ok (.ifCond .ne 6, 3) := by decide +kernel
theorem sX9_look_5 : ab_X rom K cX9_look 7 1 5 ls (.int x :: st) hp = if x = 0 then ab_X rom K cX9_look 7 1 8 ls st hp else ab_X rom K cX9_look 7 1 11 ls st hp := ax_if_ne dX9_look_5 (by decide) rfl
theorem dX9_look_8 : decode cX9_look 8 = .ok (.bipush (-2), 2) := by decide +kernel
theorem sX9_look_8 : ab_X rom K cX9_look 7 1 8 ls st hp = ab_X rom K cX9_look 7 1 10 ls (.int (-2) :: st) hp := ax_bipush dX9_look_8 (by decide) rfl
theorem dX9_look_10 : decode cX9_look 10 = .ok (.ireturn, 1) := by decide +kernel
theorem sX9_look_10 : ab_X rom K cX9_look 7 1 10 ls [.int x] hp = some (some (.int x), hp) := ax_iret dX9_look_10 rfl
theorem dX9_look_11 : decode cX9_look 11 = .ok (.iconst 0, 1) := by decide +kernel
theorem sX9_look_11 : ab_X rom K cX9_look 7 1 11 ls st hp = ab_X rom K cX9_look 7 1 12 ls (.int 0 :: st) hp := ax_iconst dX9_look_11 (by decide) rfl
theorem dX9_look_12 : decode cX9_look 12 = .ok (.istore_n 3, 1) := by decide +kernel
theorem sX9_look_12i : ab_X rom K cX9_look 7 1 12 (v0 :: v1 :: .int y :: v3 :: ls) (.int x :: st) hp = ab_X rom K cX9_look 7 1 13 (v0 :: v1 :: .int y :: .int x :: ls) st hp := ax_istore_n dX9_look_12 (ax_lt (v := v3) rfl) (ab_nl_c1 (j := 2) (v := .int y) rfl (ab_c1_int _)) rfl rfl
theorem sX9_look_12r : ab_X rom K cX9_look 7 1 12 (v0 :: v1 :: .ref a2 :: v3 :: ls) (.int x :: st) hp = ab_X rom K cX9_look 7 1 13 (v0 :: v1 :: .ref a2 :: .int x :: ls) st hp := ax_istore_n dX9_look_12 (ax_lt (v := v3) rfl) (ab_nl_c1 (j := 2) (v := .ref a2) rfl (ab_c1_ref _)) rfl rfl
theorem sX9_look_12n : ab_X rom K cX9_look 7 1 12 (v0 :: v1 :: .null :: v3 :: ls) (.int x :: st) hp = ab_X rom K cX9_look 7 1 13 (v0 :: v1 :: .null :: .int x :: ls) st hp := ax_istore_n dX9_look_12 (ax_lt (v := v3) rfl) (ab_nl_c1 (j := 2) (v := .null) rfl ab_c1_null) rfl rfl
theorem dX9_look_13 : decode cX9_look 13 = .ok (.iconst 0, 1) := by decide +kernel
theorem sX9_look_13 : ab_X rom K cX9_look 7 1 13 ls st hp = ab_X rom K cX9_look 7 1 14 ls (.int 0 :: st) hp := ax_iconst dX9_look_13 (by decide) rfl
theorem dX9_look_14 : decode cX9_look 14 = .ok (.istore 4, 2) := by decide +kernel
theorem sX9_look_14i : ab_X rom K cX9_look 7 1 14 (v0 :: v1 :: v2 :: .int y :: v4 :: ls) (.int x :: st) hp = ab_X rom K cX9_look 7 1 16 (v0 :: v1 :: v2 :: .int y :: .int x :: ls) st hp := ax_istore dX9_look_14 (ax_lt (v := v4) rfl) (ab_nl_c1 (j := 3) (v := .int y) rfl (ab_c1_int _)) rfl rfl
theorem sX9_look_14r : ab_X rom K cX9_look 7 1 14 (v0 :: v1 :: v2 :: .ref a2 :: v4 :: ls) (.int x :: st) hp = ab_X rom K cX9_look 7 1 16 (v0 :: v1 :: v2 :: .ref a2 :: .int x :: ls) st hp := ax_istore dX9_look_14 (ax_lt (v := v4) rfl) (ab_nl_c1 (j := 3) (v := .ref a2) rfl (ab_c1_ref _)) rfl rfl
theorem sX9_look_14n : ab_X rom K cX9_look 7 1 14 (v0 :: v1 :: v2 :: .null :: v4 :: ls) (.int x :: st) hp = ab_X rom K cX9_look 7 1 16 (v0 :: v1 :: v2 :: .null :: .int x :: ls) st hp := ax_istore dX9_look_14 (ax_lt (v := v4) rfl) (ab_nl_c1 (j := 3) (v := .null) rfl ab_c1_null) rfl rfl
theorem dX9_look_16 : decode cX9_look 16 = .ok (.iload 4, 2) := by decide +kernel
theorem sX9_look_16 : ab_X rom K cX9_look 7 1 16 (v0 :: v1 :: v2 :: v3 :: .int x :: ls) st hp = ab_X rom K cX9_look 7 1 18 (v0 :: v1 :: v2 :: v3 :: .int x :: ls) (.int x :: st) hp := ax_iload dX9_look_16 rfl rfl
theorem dX9_look_18 : decode cX9_look 18 = .ok (.aload_n 0, 1) := by decide +kernel
theorem sX9_look_18 : ab_X rom K cX9_look 7 1 18 (.ref a :: ls) st hp = ab_X rom K cX9_look 7 1 19 (.ref a :: ls) (.ref a :: st) hp := ax_aload_n dX9_look_18 rfl rfl
theorem dX9_look_19 : decode cX9_look 19 = .ok (.iload_n 1, 1) := by decide +kernel
theorem sX9_look_19 : ab_X rom K cX9_look 7 1 19 (v0 :: .int x :: ls) st hp = ab_X rom K cX9_look 7 1 20 (v0 :: .int x :: ls) (.int x :: st) hp := ax_iload_n dX9_look_19 rfl rfl
theorem dX9_look_20 : decode cX9_look 20 = .ok (.invokevirtual 64, 3) := by decide +kernel
theorem sX9_look_20_0 : ab_X rom K cX9_look 7 1 20 ls [w1, .ref a] hp = if ab_iso hp a 7 = true then (K 209 (.ref a :: [w1]) hp).bind (fun o => ab_X rom K cX9_look 7 1 23 ls (o.1.toList ++ []) o.2) else none := ay_virtual (as := [w1]) (st := []) dX9_look_20 kc_7_64 rfl rfl (Nat.le_of_ble_eq_true rfl)
theorem sX9_look_20_1 : ab_X rom K cX9_look 7 1 20 ls [w1, .ref a, v0] hp = if ab_iso hp a 7 = true then (K 209 (.ref a :: [w1]) hp).bind (fun o => ab_X rom K cX9_look 7 1 23 ls (o.1.toList ++ [v0]) o.2) else none := ay_virtual (as := [w1]) (st := [v0]) dX9_look_20 kc_7_64 rfl rfl (Nat.le_of_ble_eq_true rfl)
theorem sX9_look_20_2 : ab_X rom K cX9_look 7 1 20 ls [w1, .ref a, v0, v1] hp = if ab_iso hp a 7 = true then (K 209 (.ref a :: [w1]) hp).bind (fun o => ab_X rom K cX9_look 7 1 23 ls (o.1.toList ++ [v0, v1]) o.2) else none := ay_virtual (as := [w1]) (st := [v0, v1]) dX9_look_20 kc_7_64 rfl rfl (Nat.le_of_ble_eq_true rfl)
theorem sX9_look_20_3 : ab_X rom K cX9_look 7 1 20 ls [w1, .ref a, v0, v1, v2] hp = if ab_iso hp a 7 = true then (K 209 (.ref a :: [w1]) hp).bind (fun o => ab_X rom K cX9_look 7 1 23 ls (o.1.toList ++ [v0, v1, v2]) o.2) else none := ay_virtual (as := [w1]) (st := [v0, v1, v2]) dX9_look_20 kc_7_64 rfl rfl (Nat.le_of_ble_eq_true rfl)
theorem dX9_look_23 : decode cX9_look 23 = .ok (.if_icmp .ge 31, 3) := by decide +kernel
theorem sX9_look_23 : ab_X rom K cX9_look 7 1 23 ls (.int y :: .int x :: st) hp = if x < y then ab_X rom K cX9_look 7 1 26 ls st hp else ab_X rom K cX9_look 7 1 54 ls st hp := ax_icmp_ge dX9_look_23 (by decide) rfl
theorem dX9_look_26 : decode cX9_look 26 = .ok (.iload_n 3, 1) := by decide +kernel
theorem sX9_look_26 : ab_X rom K cX9_look 7 1 26 (v0 :: v1 :: v2 :: .int x :: ls) st hp = ab_X rom K cX9_look 7 1 27 (v0 :: v1 :: v2 :: .int x :: ls) (.int x :: st) hp := ax_iload_n dX9_look_26 rfl rfl
theorem dX9_look_27 : decode cX9_look 27 = .ok (.aload_n 0, 1) := by decide +kernel
theorem sX9_look_27 : ab_X rom K cX9_look 7 1 27 (.ref a :: ls) st hp = ab_X rom K cX9_look 7 1 28 (.ref a :: ls) (.ref a :: st) hp := ax_aload_n dX9_look_27 rfl rfl
theorem dX9_look_28 : decode cX9_look 28 = .ok (.iload_n 1, 1) := by decide +kernel
theorem sX9_look_28 : ab_X rom K cX9_look 7 1 28 (v0 :: .int x :: ls) st hp = ab_X rom K cX9_look 7 1 29 (v0 :: .int x :: ls) (.int x :: st) hp := ax_iload_n dX9_look_28 rfl rfl
theorem dX9_look_29 : decode cX9_look 29 = .ok (.iload 4, 2) := by decide +kernel
theorem sX9_look_29 : ab_X rom K cX9_look 7 1 29 (v0 :: v1 :: v2 :: v3 :: .int x :: ls) st hp = ab_X rom K cX9_look 7 1 31 (v0 :: v1 :: v2 :: v3 :: .int x :: ls) (.int x :: st) hp := ax_iload dX9_look_29 rfl rfl
theorem dX9_look_31 : decode cX9_look 31 = .ok (.invokevirtual 168, 3) := by decide +kernel
theorem sX9_look_31_0 : ab_X rom K cX9_look 7 1 31 ls [w2, w1, .ref a] hp = if ab_iso hp a 7 = true then (K 183 (.ref a :: [w1, w2]) hp).bind (fun o => ab_X rom K cX9_look 7 1 34 ls (o.1.toList ++ []) o.2) else none := ay_virtual (as := [w1, w2]) (st := []) dX9_look_31 kc_7_168 rfl rfl (Nat.le_of_ble_eq_true rfl)
theorem sX9_look_31_1 : ab_X rom K cX9_look 7 1 31 ls [w2, w1, .ref a, v0] hp = if ab_iso hp a 7 = true then (K 183 (.ref a :: [w1, w2]) hp).bind (fun o => ab_X rom K cX9_look 7 1 34 ls (o.1.toList ++ [v0]) o.2) else none := ay_virtual (as := [w1, w2]) (st := [v0]) dX9_look_31 kc_7_168 rfl rfl (Nat.le_of_ble_eq_true rfl)
theorem sX9_look_31_2 : ab_X rom K cX9_look 7 1 31 ls [w2, w1, .ref a, v0, v1] hp = if ab_iso hp a 7 = true then (K 183 (.ref a :: [w1, w2]) hp).bind (fun o => ab_X rom K cX9_look 7 1 34 ls (o.1.toList ++ [v0, v1]) o.2) else none := ay_virtual (as := [w1, w2]) (st := [v0, v1]) dX9_look_31 kc_7_168 rfl rfl (Nat.le_of_ble_eq_true rfl)
theorem sX9_look_31_3 : ab_X rom K cX9_look 7 1 31 ls [w2, w1, .ref a, v0, v1, v2] hp = if ab_iso hp a 7 = true then (K 183 (.ref a :: [w1, w2]) hp).bind (fun o => ab_X rom K cX9_look 7 1 34 ls (o.1.toList ++ [v0, v1, v2]) o.2) else none := ay_virtual (as := [w1, w2]) (st := [v0, v1, v2]) dX9_look_31 kc_7_168 rfl rfl (Nat.le_of_ble_eq_true rfl)
theorem dX9_look_34 : decode cX9_look 34 = .ok (.iconst (-1), 1) := by decide +kernel
theorem sX9_look_34 : ab_X rom K cX9_look 7 1 34 ls st hp = ab_X rom K cX9_look 7 1 35 ls (.int (-1) :: st) hp := ax_iconst dX9_look_34 (by decide) rfl
theorem dX9_look_35 : decode cX9_look 35 = .ok (.if_icmp .ne 7, 3) := by decide +kernel
theorem sX9_look_35 : ab_X rom K cX9_look 7 1 35 ls (.int y :: .int x :: st) hp = if x = y then ab_X rom K cX9_look 7 1 38 ls st hp else ab_X rom K cX9_look 7 1 42 ls st hp := ax_icmp_ne dX9_look_35 (by decide) rfl
theorem dX9_look_38 : decode cX9_look 38 = .ok (.iconst 0, 1) := by decide +kernel
theorem sX9_look_38 : ab_X rom K cX9_look 7 1 38 ls st hp = ab_X rom K cX9_look 7 1 39 ls (.int 0 :: st) hp := ax_iconst dX9_look_38 (by decide) rfl
theorem dX9_look_39 : decode cX9_look 39 = .ok (.goto 7, 3) := by decide +kernel
theorem sX9_look_39 : ab_X rom K cX9_look 7 1 39 ls st hp = ab_X rom K cX9_look 7 1 46 ls st hp := ax_goto dX9_look_39 (by decide)
theorem dX9_look_42 : decode cX9_look 42 = .ok (.iconst 1, 1) := by decide +kernel
theorem sX9_look_42 : ab_X rom K cX9_look 7 1 42 ls st hp = ab_X rom K cX9_look 7 1 43 ls (.int 1 :: st) hp := ax_iconst dX9_look_42 (by decide) rfl
theorem dX9_look_43 : decode cX9_look 43 = .ok (.iload 4, 2) := by decide +kernel
theorem sX9_look_43 : ab_X rom K cX9_look 7 1 43 (v0 :: v1 :: v2 :: v3 :: .int x :: ls) st hp = ab_X rom K cX9_look 7 1 45 (v0 :: v1 :: v2 :: v3 :: .int x :: ls) (.int x :: st) hp := ax_iload dX9_look_43 rfl rfl
theorem dX9_look_45 : decode cX9_look 45 = .ok (.ishl, 1) := by decide +kernel
theorem sX9_look_45 : ab_X rom K cX9_look 7 1 45 ls (.int y :: .int x :: st) hp = ab_X rom K cX9_look 7 1 46 ls (.int (x <<< (y &&& 31)) :: st) hp := ax_ishl dX9_look_45 rfl
theorem dX9_look_46 : decode cX9_look 46 = .ok (.ior, 1) := by decide +kernel
theorem sX9_look_46 : ab_X rom K cX9_look 7 1 46 ls (.int y :: .int x :: st) hp = ab_X rom K cX9_look 7 1 47 ls (.int (x ||| y) :: st) hp := ax_ior dX9_look_46 rfl
theorem dX9_look_47 : decode cX9_look 47 = .ok (.istore_n 3, 1) := by decide +kernel
theorem sX9_look_47i : ab_X rom K cX9_look 7 1 47 (v0 :: v1 :: .int y :: v3 :: ls) (.int x :: st) hp = ab_X rom K cX9_look 7 1 48 (v0 :: v1 :: .int y :: .int x :: ls) st hp := ax_istore_n dX9_look_47 (ax_lt (v := v3) rfl) (ab_nl_c1 (j := 2) (v := .int y) rfl (ab_c1_int _)) rfl rfl
theorem sX9_look_47r : ab_X rom K cX9_look 7 1 47 (v0 :: v1 :: .ref a2 :: v3 :: ls) (.int x :: st) hp = ab_X rom K cX9_look 7 1 48 (v0 :: v1 :: .ref a2 :: .int x :: ls) st hp := ax_istore_n dX9_look_47 (ax_lt (v := v3) rfl) (ab_nl_c1 (j := 2) (v := .ref a2) rfl (ab_c1_ref _)) rfl rfl
theorem sX9_look_47n : ab_X rom K cX9_look 7 1 47 (v0 :: v1 :: .null :: v3 :: ls) (.int x :: st) hp = ab_X rom K cX9_look 7 1 48 (v0 :: v1 :: .null :: .int x :: ls) st hp := ax_istore_n dX9_look_47 (ax_lt (v := v3) rfl) (ab_nl_c1 (j := 2) (v := .null) rfl ab_c1_null) rfl rfl
theorem dX9_look_48 : decode cX9_look 48 = .ok (.iinc 4 1, 3) := by decide +kernel
theorem sX9_look_48i : ab_X rom K cX9_look 7 1 48 (v0 :: v1 :: v2 :: .int y :: .int x :: ls) st hp = ab_X rom K cX9_look 7 1 51 (v0 :: v1 :: v2 :: .int y :: .int (x + 1) :: ls) st hp := ax_iinc dX9_look_48 rfl (ab_nl_c1 (j := 3) (v := .int y) rfl (ab_c1_int _)) (by decide) rfl rfl
theorem sX9_look_48r : ab_X rom K cX9_look 7 1 48 (v0 :: v1 :: v2 :: .ref a2 :: .int x :: ls) st hp = ab_X rom K cX9_look 7 1 51 (v0 :: v1 :: v2 :: .ref a2 :: .int (x + 1) :: ls) st hp := ax_iinc dX9_look_48 rfl (ab_nl_c1 (j := 3) (v := .ref a2) rfl (ab_c1_ref _)) (by decide) rfl rfl
theorem sX9_look_48n : ab_X rom K cX9_look 7 1 48 (v0 :: v1 :: v2 :: .null :: .int x :: ls) st hp = ab_X rom K cX9_look 7 1 51 (v0 :: v1 :: v2 :: .null :: .int (x + 1) :: ls) st hp := ax_iinc dX9_look_48 rfl (ab_nl_c1 (j := 3) (v := .null) rfl ab_c1_null) (by decide) rfl rfl
theorem dX9_look_51 : decode cX9_look 51 = .ok (.goto (-35), 3) := by decide +kernel
theorem sX9_look_51 : ab_X rom K cX9_look 7 1 51 ls st hp = ab_X rom K cX9_look 7 1 16 ls st hp := ax_goto dX9_look_51 (by decide)
theorem dX9_look_54 : decode cX9_look 54 = .ok (.iload_n 2, 1) := by decide +kernel
theorem sX9_look_54 : ab_X rom K cX9_look 7 1 54 (v0 :: v1 :: .int x :: ls) st hp = ab_X rom K cX9_look 7 1 55 (v0 :: v1 :: .int x :: ls) (.int x :: st) hp := ax_iload_n dX9_look_54 rfl rfl
theorem dX9_look_55 : decode cX9_look 55 = .ok (.tableswitch 107 0 7 #[45, 51, 57, 59, 73, 87, 93, 100], 45) := by decide +kernel
theorem sX9_look_55_d (h : x.toInt < 0 ∨ 7 < x.toInt) : ab_X rom K cX9_look 7 1 55 ls (.int x :: st) hp = ab_X rom K cX9_look 7 1 162 ls st hp := ax_tsw_out dX9_look_55 (by decide) h
theorem sX9_look_55_0 : ab_X rom K cX9_look 7 1 55 ls (.int 0 :: st) hp = ab_X rom K cX9_look 7 1 100 ls st hp := ax_tsw_in (off := 45) dX9_look_55 (by decide) (by decide) (by decide)
theorem sX9_look_55_1 : ab_X rom K cX9_look 7 1 55 ls (.int 1 :: st) hp = ab_X rom K cX9_look 7 1 106 ls st hp := ax_tsw_in (off := 51) dX9_look_55 (by decide) (by decide) (by decide)
theorem sX9_look_55_2 : ab_X rom K cX9_look 7 1 55 ls (.int 2 :: st) hp = ab_X rom K cX9_look 7 1 112 ls st hp := ax_tsw_in (off := 57) dX9_look_55 (by decide) (by decide) (by decide)
theorem sX9_look_55_3 : ab_X rom K cX9_look 7 1 55 ls (.int 3 :: st) hp = ab_X rom K cX9_look 7 1 114 ls st hp := ax_tsw_in (off := 59) dX9_look_55 (by decide) (by decide) (by decide)
theorem sX9_look_55_4 : ab_X rom K cX9_look 7 1 55 ls (.int 4 :: st) hp = ab_X rom K cX9_look 7 1 128 ls st hp := ax_tsw_in (off := 73) dX9_look_55 (by decide) (by decide) (by decide)
theorem sX9_look_55_5 : ab_X rom K cX9_look 7 1 55 ls (.int 5 :: st) hp = ab_X rom K cX9_look 7 1 142 ls st hp := ax_tsw_in (off := 87) dX9_look_55 (by decide) (by decide) (by decide)
theorem sX9_look_55_6 : ab_X rom K cX9_look 7 1 55 ls (.int 6 :: st) hp = ab_X rom K cX9_look 7 1 148 ls st hp := ax_tsw_in (off := 93) dX9_look_55 (by decide) (by decide) (by decide)
theorem sX9_look_55_7 : ab_X rom K cX9_look 7 1 55 ls (.int 7 :: st) hp = ab_X rom K cX9_look 7 1 155 ls st hp := ax_tsw_in (off := 100) dX9_look_55 (by decide) (by decide) (by decide)
theorem dX9_look_100 : decode cX9_look 100 = .ok (.aload_n 0, 1) := by decide +kernel
theorem sX9_look_100 : ab_X rom K cX9_look 7 1 100 (.ref a :: ls) st hp = ab_X rom K cX9_look 7 1 101 (.ref a :: ls) (.ref a :: st) hp := ax_aload_n dX9_look_100 rfl rfl
theorem dX9_look_101 : decode cX9_look 101 = .ok (.iload_n 1, 1) := by decide +kernel
theorem sX9_look_101 : ab_X rom K cX9_look 7 1 101 (v0 :: .int x :: ls) st hp = ab_X rom K cX9_look 7 1 102 (v0 :: .int x :: ls) (.int x :: st) hp := ax_iload_n dX9_look_101 rfl rfl
theorem dX9_look_102 : decode cX9_look 102 = .ok (.invokevirtual 64, 3) := by decide +kernel
theorem sX9_look_102_0 : ab_X rom K cX9_look 7 1 102 ls [w1, .ref a] hp = if ab_iso hp a 7 = true then (K 209 (.ref a :: [w1]) hp).bind (fun o => ab_X rom K cX9_look 7 1 105 ls (o.1.toList ++ []) o.2) else none := ay_virtual (as := [w1]) (st := []) dX9_look_102 kc_7_64 rfl rfl (Nat.le_of_ble_eq_true rfl)
theorem sX9_look_102_1 : ab_X rom K cX9_look 7 1 102 ls [w1, .ref a, v0] hp = if ab_iso hp a 7 = true then (K 209 (.ref a :: [w1]) hp).bind (fun o => ab_X rom K cX9_look 7 1 105 ls (o.1.toList ++ [v0]) o.2) else none := ay_virtual (as := [w1]) (st := [v0]) dX9_look_102 kc_7_64 rfl rfl (Nat.le_of_ble_eq_true rfl)
theorem sX9_look_102_2 : ab_X rom K cX9_look 7 1 102 ls [w1, .ref a, v0, v1] hp = if ab_iso hp a 7 = true then (K 209 (.ref a :: [w1]) hp).bind (fun o => ab_X rom K cX9_look 7 1 105 ls (o.1.toList ++ [v0, v1]) o.2) else none := ay_virtual (as := [w1]) (st := [v0, v1]) dX9_look_102 kc_7_64 rfl rfl (Nat.le_of_ble_eq_true rfl)
theorem sX9_look_102_3 : ab_X rom K cX9_look 7 1 102 ls [w1, .ref a, v0, v1, v2] hp = if ab_iso hp a 7 = true then (K 209 (.ref a :: [w1]) hp).bind (fun o => ab_X rom K cX9_look 7 1 105 ls (o.1.toList ++ [v0, v1, v2]) o.2) else none := ay_virtual (as := [w1]) (st := [v0, v1, v2]) dX9_look_102 kc_7_64 rfl rfl (Nat.le_of_ble_eq_true rfl)
theorem dX9_look_105 : decode cX9_look 105 = .ok (.ireturn, 1) := by decide +kernel
theorem sX9_look_105 : ab_X rom K cX9_look 7 1 105 ls [.int x] hp = some (some (.int x), hp) := ax_iret dX9_look_105 rfl
theorem dX9_look_106 : decode cX9_look 106 = .ok (.aload_n 0, 1) := by decide +kernel
theorem sX9_look_106 : ab_X rom K cX9_look 7 1 106 (.ref a :: ls) st hp = ab_X rom K cX9_look 7 1 107 (.ref a :: ls) (.ref a :: st) hp := ax_aload_n dX9_look_106 rfl rfl
theorem dX9_look_107 : decode cX9_look 107 = .ok (.iload_n 1, 1) := by decide +kernel
theorem sX9_look_107 : ab_X rom K cX9_look 7 1 107 (v0 :: .int x :: ls) st hp = ab_X rom K cX9_look 7 1 108 (v0 :: .int x :: ls) (.int x :: st) hp := ax_iload_n dX9_look_107 rfl rfl
theorem dX9_look_108 : decode cX9_look 108 = .ok (.invokevirtual 150, 3) := by decide +kernel
theorem sX9_look_108_0 : ab_X rom K cX9_look 7 1 108 ls [w1, .ref a] hp = if ab_iso hp a 7 = true then (K 188 (.ref a :: [w1]) hp).bind (fun o => ab_X rom K cX9_look 7 1 111 ls (o.1.toList ++ []) o.2) else none := ay_virtual (as := [w1]) (st := []) dX9_look_108 kc_7_150 rfl rfl (Nat.le_of_ble_eq_true rfl)
theorem sX9_look_108_1 : ab_X rom K cX9_look 7 1 108 ls [w1, .ref a, v0] hp = if ab_iso hp a 7 = true then (K 188 (.ref a :: [w1]) hp).bind (fun o => ab_X rom K cX9_look 7 1 111 ls (o.1.toList ++ [v0]) o.2) else none := ay_virtual (as := [w1]) (st := [v0]) dX9_look_108 kc_7_150 rfl rfl (Nat.le_of_ble_eq_true rfl)
theorem sX9_look_108_2 : ab_X rom K cX9_look 7 1 108 ls [w1, .ref a, v0, v1] hp = if ab_iso hp a 7 = true then (K 188 (.ref a :: [w1]) hp).bind (fun o => ab_X rom K cX9_look 7 1 111 ls (o.1.toList ++ [v0, v1]) o.2) else none := ay_virtual (as := [w1]) (st := [v0, v1]) dX9_look_108 kc_7_150 rfl rfl (Nat.le_of_ble_eq_true rfl)
theorem sX9_look_108_3 : ab_X rom K cX9_look 7 1 108 ls [w1, .ref a, v0, v1, v2] hp = if ab_iso hp a 7 = true then (K 188 (.ref a :: [w1]) hp).bind (fun o => ab_X rom K cX9_look 7 1 111 ls (o.1.toList ++ [v0, v1, v2]) o.2) else none := ay_virtual (as := [w1]) (st := [v0, v1, v2]) dX9_look_108 kc_7_150 rfl rfl (Nat.le_of_ble_eq_true rfl)
theorem dX9_look_111 : decode cX9_look 111 = .ok (.ireturn, 1) := by decide +kernel
theorem sX9_look_111 : ab_X rom K cX9_look 7 1 111 ls [.int x] hp = some (some (.int x), hp) := ax_iret dX9_look_111 rfl
theorem dX9_look_112 : decode cX9_look 112 = .ok (.iload_n 3, 1) := by decide +kernel
theorem sX9_look_112 : ab_X rom K cX9_look 7 1 112 (v0 :: v1 :: v2 :: .int x :: ls) st hp = ab_X rom K cX9_look 7 1 113 (v0 :: v1 :: v2 :: .int x :: ls) (.int x :: st) hp := ax_iload_n dX9_look_112 rfl rfl
theorem dX9_look_113 : decode cX9_look 113 = .ok (.ireturn, 1) := by decide +kernel
theorem sX9_look_113 : ab_X rom K cX9_look 7 1 113 ls [.int x] hp = some (some (.int x), hp) := ax_iret dX9_look_113 rfl
theorem dX9_look_114 : decode cX9_look 114 = .ok (.aload_n 0, 1) := by decide +kernel
theorem sX9_look_114 : ab_X rom K cX9_look 7 1 114 (.ref a :: ls) st hp = ab_X rom K cX9_look 7 1 115 (.ref a :: ls) (.ref a :: st) hp := ax_aload_n dX9_look_114 rfl rfl
theorem dX9_look_115 : decode cX9_look 115 = .ok (.iload_n 1, 1) := by decide +kernel
theorem sX9_look_115 : ab_X rom K cX9_look 7 1 115 (v0 :: .int x :: ls) st hp = ab_X rom K cX9_look 7 1 116 (v0 :: .int x :: ls) (.int x :: st) hp := ax_iload_n dX9_look_115 rfl rfl
theorem dX9_look_116 : decode cX9_look 116 = .ok (.invokevirtual 200, 3) := by decide +kernel
theorem sX9_look_116_0 : ab_X rom K cX9_look 7 1 116 ls [w1, .ref a] hp = if ab_iso hp a 7 = true then (K 176 (.ref a :: [w1]) hp).bind (fun o => ab_X rom K cX9_look 7 1 119 ls (o.1.toList ++ []) o.2) else none := ay_virtual (as := [w1]) (st := []) dX9_look_116 kc_7_200 rfl rfl (Nat.le_of_ble_eq_true rfl)
theorem sX9_look_116_1 : ab_X rom K cX9_look 7 1 116 ls [w1, .ref a, v0] hp = if ab_iso hp a 7 = true then (K 176 (.ref a :: [w1]) hp).bind (fun o => ab_X rom K cX9_look 7 1 119 ls (o.1.toList ++ [v0]) o.2) else none := ay_virtual (as := [w1]) (st := [v0]) dX9_look_116 kc_7_200 rfl rfl (Nat.le_of_ble_eq_true rfl)
theorem sX9_look_116_2 : ab_X rom K cX9_look 7 1 116 ls [w1, .ref a, v0, v1] hp = if ab_iso hp a 7 = true then (K 176 (.ref a :: [w1]) hp).bind (fun o => ab_X rom K cX9_look 7 1 119 ls (o.1.toList ++ [v0, v1]) o.2) else none := ay_virtual (as := [w1]) (st := [v0, v1]) dX9_look_116 kc_7_200 rfl rfl (Nat.le_of_ble_eq_true rfl)
theorem sX9_look_116_3 : ab_X rom K cX9_look 7 1 116 ls [w1, .ref a, v0, v1, v2] hp = if ab_iso hp a 7 = true then (K 176 (.ref a :: [w1]) hp).bind (fun o => ab_X rom K cX9_look 7 1 119 ls (o.1.toList ++ [v0, v1, v2]) o.2) else none := ay_virtual (as := [w1]) (st := [v0, v1, v2]) dX9_look_116 kc_7_200 rfl rfl (Nat.le_of_ble_eq_true rfl)
theorem dX9_look_119 : decode cX9_look 119 = .ok (.ifCond .eq 7, 3) := by decide +kernel
theorem sX9_look_119 : ab_X rom K cX9_look 7 1 119 ls (.int x :: st) hp = if x = 0 then ab_X rom K cX9_look 7 1 126 ls st hp else ab_X rom K cX9_look 7 1 122 ls st hp := ax_if_eq dX9_look_119 (by decide) rfl
theorem dX9_look_122 : decode cX9_look 122 = .ok (.iconst 1, 1) := by decide +kernel
theorem sX9_look_122 : ab_X rom K cX9_look 7 1 122 ls st hp = ab_X rom K cX9_look 7 1 123 ls (.int 1 :: st) hp := ax_iconst dX9_look_122 (by decide) rfl
theorem dX9_look_123 : decode cX9_look 123 = .ok (.goto 4, 3) := by decide +kernel
theorem sX9_look_123 : ab_X rom K cX9_look 7 1 123 ls st hp = ab_X rom K cX9_look 7 1 127 ls st hp := ax_goto dX9_look_123 (by decide)
theorem dX9_look_126 : decode cX9_look 126 = .ok (.iconst 0, 1) := by decide +kernel
theorem sX9_look_126 : ab_X rom K cX9_look 7 1 126 ls st hp = ab_X rom K cX9_look 7 1 127 ls (.int 0 :: st) hp := ax_iconst dX9_look_126 (by decide) rfl
theorem dX9_look_127 : decode cX9_look 127 = .ok (.ireturn, 1) := by decide +kernel
theorem sX9_look_127 : ab_X rom K cX9_look 7 1 127 ls [.int x] hp = some (some (.int x), hp) := ax_iret dX9_look_127 rfl
theorem dX9_look_128 : decode cX9_look 128 = .ok (.aload_n 0, 1) := by decide +kernel
theorem sX9_look_128 : ab_X rom K cX9_look 7 1 128 (.ref a :: ls) st hp = ab_X rom K cX9_look 7 1 129 (.ref a :: ls) (.ref a :: st) hp := ax_aload_n dX9_look_128 rfl rfl
theorem dX9_look_129 : decode cX9_look 129 = .ok (.iload_n 1, 1) := by decide +kernel
theorem sX9_look_129 : ab_X rom K cX9_look 7 1 129 (v0 :: .int x :: ls) st hp = ab_X rom K cX9_look 7 1 130 (v0 :: .int x :: ls) (.int x :: st) hp := ax_iload_n dX9_look_129 rfl rfl
theorem dX9_look_130 : decode cX9_look 130 = .ok (.invokevirtual 203, 3) := by decide +kernel
theorem sX9_look_130_0 : ab_X rom K cX9_look 7 1 130 ls [w1, .ref a] hp = if ab_iso hp a 7 = true then (K 177 (.ref a :: [w1]) hp).bind (fun o => ab_X rom K cX9_look 7 1 133 ls (o.1.toList ++ []) o.2) else none := ay_virtual (as := [w1]) (st := []) dX9_look_130 kc_7_203 rfl rfl (Nat.le_of_ble_eq_true rfl)
theorem sX9_look_130_1 : ab_X rom K cX9_look 7 1 130 ls [w1, .ref a, v0] hp = if ab_iso hp a 7 = true then (K 177 (.ref a :: [w1]) hp).bind (fun o => ab_X rom K cX9_look 7 1 133 ls (o.1.toList ++ [v0]) o.2) else none := ay_virtual (as := [w1]) (st := [v0]) dX9_look_130 kc_7_203 rfl rfl (Nat.le_of_ble_eq_true rfl)
theorem sX9_look_130_2 : ab_X rom K cX9_look 7 1 130 ls [w1, .ref a, v0, v1] hp = if ab_iso hp a 7 = true then (K 177 (.ref a :: [w1]) hp).bind (fun o => ab_X rom K cX9_look 7 1 133 ls (o.1.toList ++ [v0, v1]) o.2) else none := ay_virtual (as := [w1]) (st := [v0, v1]) dX9_look_130 kc_7_203 rfl rfl (Nat.le_of_ble_eq_true rfl)
theorem sX9_look_130_3 : ab_X rom K cX9_look 7 1 130 ls [w1, .ref a, v0, v1, v2] hp = if ab_iso hp a 7 = true then (K 177 (.ref a :: [w1]) hp).bind (fun o => ab_X rom K cX9_look 7 1 133 ls (o.1.toList ++ [v0, v1, v2]) o.2) else none := ay_virtual (as := [w1]) (st := [v0, v1, v2]) dX9_look_130 kc_7_203 rfl rfl (Nat.le_of_ble_eq_true rfl)
theorem dX9_look_133 : decode cX9_look 133 = .ok (.ifCond .eq 7, 3) := by decide +kernel
theorem sX9_look_133 : ab_X rom K cX9_look 7 1 133 ls (.int x :: st) hp = if x = 0 then ab_X rom K cX9_look 7 1 140 ls st hp else ab_X rom K cX9_look 7 1 136 ls st hp := ax_if_eq dX9_look_133 (by decide) rfl
theorem dX9_look_136 : decode cX9_look 136 = .ok (.iconst 1, 1) := by decide +kernel
theorem sX9_look_136 : ab_X rom K cX9_look 7 1 136 ls st hp = ab_X rom K cX9_look 7 1 137 ls (.int 1 :: st) hp := ax_iconst dX9_look_136 (by decide) rfl
theorem dX9_look_137 : decode cX9_look 137 = .ok (.goto 4, 3) := by decide +kernel
theorem sX9_look_137 : ab_X rom K cX9_look 7 1 137 ls st hp = ab_X rom K cX9_look 7 1 141 ls st hp := ax_goto dX9_look_137 (by decide)
theorem dX9_look_140 : decode cX9_look 140 = .ok (.iconst 0, 1) := by decide +kernel
theorem sX9_look_140 : ab_X rom K cX9_look 7 1 140 ls st hp = ab_X rom K cX9_look 7 1 141 ls (.int 0 :: st) hp := ax_iconst dX9_look_140 (by decide) rfl
theorem dX9_look_141 : decode cX9_look 141 = .ok (.ireturn, 1) := by decide +kernel
theorem sX9_look_141 : ab_X rom K cX9_look 7 1 141 ls [.int x] hp = some (some (.int x), hp) := ax_iret dX9_look_141 rfl
theorem dX9_look_142 : decode cX9_look 142 = .ok (.aload_n 0, 1) := by decide +kernel
theorem sX9_look_142 : ab_X rom K cX9_look 7 1 142 (.ref a :: ls) st hp = ab_X rom K cX9_look 7 1 143 (.ref a :: ls) (.ref a :: st) hp := ax_aload_n dX9_look_142 rfl rfl
theorem dX9_look_143 : decode cX9_look 143 = .ok (.iload_n 1, 1) := by decide +kernel
theorem sX9_look_143 : ab_X rom K cX9_look 7 1 143 (v0 :: .int x :: ls) st hp = ab_X rom K cX9_look 7 1 144 (v0 :: .int x :: ls) (.int x :: st) hp := ax_iload_n dX9_look_143 rfl rfl
theorem dX9_look_144 : decode cX9_look 144 = .ok (.invokevirtual 194, 3) := by decide +kernel
theorem sX9_look_144_0 : ab_X rom K cX9_look 7 1 144 ls [w1, .ref a] hp = if ab_iso hp a 7 = true then (K 206 (.ref a :: [w1]) hp).bind (fun o => ab_X rom K cX9_look 7 1 147 ls (o.1.toList ++ []) o.2) else none := ay_virtual (as := [w1]) (st := []) dX9_look_144 kc_7_194 rfl rfl (Nat.le_of_ble_eq_true rfl)
theorem sX9_look_144_1 : ab_X rom K cX9_look 7 1 144 ls [w1, .ref a, v0] hp = if ab_iso hp a 7 = true then (K 206 (.ref a :: [w1]) hp).bind (fun o => ab_X rom K cX9_look 7 1 147 ls (o.1.toList ++ [v0]) o.2) else none := ay_virtual (as := [w1]) (st := [v0]) dX9_look_144 kc_7_194 rfl rfl (Nat.le_of_ble_eq_true rfl)
theorem sX9_look_144_2 : ab_X rom K cX9_look 7 1 144 ls [w1, .ref a, v0, v1] hp = if ab_iso hp a 7 = true then (K 206 (.ref a :: [w1]) hp).bind (fun o => ab_X rom K cX9_look 7 1 147 ls (o.1.toList ++ [v0, v1]) o.2) else none := ay_virtual (as := [w1]) (st := [v0, v1]) dX9_look_144 kc_7_194 rfl rfl (Nat.le_of_ble_eq_true rfl)
theorem sX9_look_144_3 : ab_X rom K cX9_look 7 1 144 ls [w1, .ref a, v0, v1, v2] hp = if ab_iso hp a 7 = true then (K 206 (.ref a :: [w1]) hp).bind (fun o => ab_X rom K cX9_look 7 1 147 ls (o.1.toList ++ [v0, v1, v2]) o.2) else none := ay_virtual (as := [w1]) (st := [v0, v1, v2]) dX9_look_144 kc_7_194 rfl rfl (Nat.le_of_ble_eq_true rfl)
theorem dX9_look_147 : decode cX9_look 147 = .ok (.ireturn, 1) := by decide +kernel
theorem sX9_look_147 : ab_X rom K cX9_look 7 1 147 ls [.int x] hp = some (some (.int x), hp) := ax_iret dX9_look_147 rfl
theorem dX9_look_148 : decode cX9_look 148 = .ok (.aload_n 0, 1) := by decide +kernel
theorem sX9_look_148 : ab_X rom K cX9_look 7 1 148 (.ref a :: ls) st hp = ab_X rom K cX9_look 7 1 149 (.ref a :: ls) (.ref a :: st) hp := ax_aload_n dX9_look_148 rfl rfl
theorem dX9_look_149 : decode cX9_look 149 = .ok (.iload_n 1, 1) := by decide +kernel
theorem sX9_look_149 : ab_X rom K cX9_look 7 1 149 (v0 :: .int x :: ls) st hp = ab_X rom K cX9_look 7 1 150 (v0 :: .int x :: ls) (.int x :: st) hp := ax_iload_n dX9_look_149 rfl rfl
theorem dX9_look_150 : decode cX9_look 150 = .ok (.iconst 1, 1) := by decide +kernel
theorem sX9_look_150 : ab_X rom K cX9_look 7 1 150 ls st hp = ab_X rom K cX9_look 7 1 151 ls (.int 1 :: st) hp := ax_iconst dX9_look_150 (by decide) rfl
theorem dX9_look_151 : decode cX9_look 151 = .ok (.invokevirtual 206, 3) := by decide +kernel
theorem sX9_look_151_0 : ab_X rom K cX9_look 7 1 151 ls [w2, w1, .ref a] hp = if ab_iso hp a 7 = true then (K 143 (.ref a :: [w1, w2]) hp).bind (fun o => ab_X rom K cX9_look 7 1 154 ls (o.1.toList ++ []) o.2) else none := ay_virtual (as := [w1, w2]) (st := []) dX9_look_151 kc_7_206 rfl rfl (Nat.le_of_ble_eq_true rfl)
theorem sX9_look_151_1 : ab_X rom K cX9_look 7 1 151 ls [w2, w1, .ref a, v0] hp = if ab_iso hp a 7 = true then (K 143 (.ref a :: [w1, w2]) hp).bind (fun o => ab_X rom K cX9_look 7 1 154 ls (o.1.toList ++ [v0]) o.2) else none := ay_virtual (as := [w1, w2]) (st := [v0]) dX9_look_151 kc_7_206 rfl rfl (Nat.le_of_ble_eq_true rfl)
theorem sX9_look_151_2 : ab_X rom K cX9_look 7 1 151 ls [w2, w1, .ref a, v0, v1] hp = if ab_iso hp a 7 = true then (K 143 (.ref a :: [w1, w2]) hp).bind (fun o => ab_X rom K cX9_look 7 1 154 ls (o.1.toList ++ [v0, v1]) o.2) else none := ay_virtual (as := [w1, w2]) (st := [v0, v1]) dX9_look_151 kc_7_206 rfl rfl (Nat.le_of_ble_eq_true rfl)
theorem sX9_look_151_3 : ab_X rom K cX9_look 7 1 151 ls [w2, w1, .ref a, v0, v1, v2] hp = if ab_iso hp a 7 = true then (K 143 (.ref a :: [w1, w2]) hp).bind (fun o => ab_X rom K cX9_look 7 1 154 ls (o.1.toList ++ [v0, v1, v2]) o.2) else none := ay_virtual (as := [w1, w2]) (st := [v0, v1, v2]) dX9_look_151 kc_7_206 rfl rfl (Nat.le_of_ble_eq_true rfl)
theorem dX9_look_154 : decode cX9_look 154 = .ok (.ireturn, 1) := by decide +kernel
theorem sX9_look_154 : ab_X rom K cX9_look 7 1 154 ls [.int x] hp = some (some (.int x), hp) := ax_iret dX9_look_154 rfl
theorem dX9_look_155 : decode cX9_look 155 = .ok (.aload_n 0, 1) := by decide +kernel
theorem sX9_look_155 : ab_X rom K cX9_look 7 1 155 (.ref a :: ls) st hp = ab_X rom K cX9_look 7 1 156 (.ref a :: ls) (.ref a :: st) hp := ax_aload_n dX9_look_155 rfl rfl
theorem dX9_look_156 : decode cX9_look 156 = .ok (.iload_n 1, 1) := by decide +kernel
theorem sX9_look_156 : ab_X rom K cX9_look 7 1 156 (v0 :: .int x :: ls) st hp = ab_X rom K cX9_look 7 1 157 (v0 :: .int x :: ls) (.int x :: st) hp := ax_iload_n dX9_look_156 rfl rfl
theorem dX9_look_157 : decode cX9_look 157 = .ok (.iconst 0, 1) := by decide +kernel
theorem sX9_look_157 : ab_X rom K cX9_look 7 1 157 ls st hp = ab_X rom K cX9_look 7 1 158 ls (.int 0 :: st) hp := ax_iconst dX9_look_157 (by decide) rfl
theorem dX9_look_158 : decode cX9_look 158 = .ok (.invokevirtual 206, 3) := by decide +kernel
theorem sX9_look_158_0 : ab_X rom K cX9_look 7 1 158 ls [w2, w1, .ref a] hp = if ab_iso hp a 7 = true then (K 143 (.ref a :: [w1, w2]) hp).bind (fun o => ab_X rom K cX9_look 7 1 161 ls (o.1.toList ++ []) o.2) else none := ay_virtual (as := [w1, w2]) (st := []) dX9_look_158 kc_7_206 rfl rfl (Nat.le_of_ble_eq_true rfl)
theorem sX9_look_158_1 : ab_X rom K cX9_look 7 1 158 ls [w2, w1, .ref a, v0] hp = if ab_iso hp a 7 = true then (K 143 (.ref a :: [w1, w2]) hp).bind (fun o => ab_X rom K cX9_look 7 1 161 ls (o.1.toList ++ [v0]) o.2) else none := ay_virtual (as := [w1, w2]) (st := [v0]) dX9_look_158 kc_7_206 rfl rfl (Nat.le_of_ble_eq_true rfl)
theorem sX9_look_158_2 : ab_X rom K cX9_look 7 1 158 ls [w2, w1, .ref a, v0, v1] hp = if ab_iso hp a 7 = true then (K 143 (.ref a :: [w1, w2]) hp).bind (fun o => ab_X rom K cX9_look 7 1 161 ls (o.1.toList ++ [v0, v1]) o.2) else none := ay_virtual (as := [w1, w2]) (st := [v0, v1]) dX9_look_158 kc_7_206 rfl rfl (Nat.le_of_ble_eq_true rfl)
theorem sX9_look_158_3 : ab_X rom K cX9_look 7 1 158 ls [w2, w1, .ref a, v0, v1, v2] hp = if ab_iso hp a 7 = true then (K 143 (.ref a :: [w1, w2]) hp).bind (fun o => ab_X rom K cX9_look 7 1 161 ls (o.1.toList ++ [v0, v1, v2]) o.2) else none := ay_virtual (as := [w1, w2]) (st := [v0, v1, v2]) dX9_look_158 kc_7_206 rfl rfl (Nat.le_of_ble_eq_true rfl)
theorem dX9_look_161 : decode cX9_look 161 = .ok (.ireturn, 1) := by decide +kernel
theorem sX9_look_161 : ab_X rom K cX9_look 7 1 161 ls [.int x] hp = some (some (.int x), hp) := ax_iret dX9_look_161 rfl
theorem dX9_look_162 : decode cX9_look 162 = .ok (.bipush (-2), 2) := by decide +kernel
theorem sX9_look_162 : ab_X rom K cX9_look 7 1 162 ls st hp = ab_X rom K cX9_look 7 1 164 ls (.int (-2) :: st) hp := ax_bipush dX9_look_162 (by decide) rfl
theorem dX9_look_164 : decode cX9_look 164 = .ok (.ireturn, 1) := by decide +kernel
theorem sX9_look_164 : ab_X rom K cX9_look 7 1 164 ls [.int x] hp = some (some (.int x), hp) := ax_iret dX9_look_164 rfl
theorem tX9_madeBegins : ab_mT[190]? = some (yX9_madeBegins, cX9_madeBegins, 3, 0, 7) := by decide +kernel
theorem mX9_madeBegins {d : Nat} {a0 : Nat} {x0 : Int32} : ab_M rom (d + 1) 190 [.ref a0, .int x0] hp = ab_X rom (ab_M rom d) cX9_madeBegins 7 0 0 [.ref a0, .int x0, .null] [] hp := ab_M_eq tX9_madeBegins (Nat.le_of_ble_eq_true rfl)
theorem dX9_madeBegins_0 : decode cX9_madeBegins 0 = .ok (.iconst 0, 1) := by decide +kernel
theorem sX9_madeBegins_0 : ab_X rom K cX9_madeBegins 7 0 0 ls st hp = ab_X rom K cX9_madeBegins 7 0 1 ls (.int 0 :: st) hp := ax_iconst dX9_madeBegins_0 (by decide) rfl
theorem dX9_madeBegins_1 : decode cX9_madeBegins 1 = .ok (.istore_n 2, 1) := by decide +kernel
theorem sX9_madeBegins_1i : ab_X rom K cX9_madeBegins 7 0 1 (v0 :: .int y :: v2 :: ls) (.int x :: st) hp = ab_X rom K cX9_madeBegins 7 0 2 (v0 :: .int y :: .int x :: ls) st hp := ax_istore_n dX9_madeBegins_1 (ax_lt (v := v2) rfl) (ab_nl_c1 (j := 1) (v := .int y) rfl (ab_c1_int _)) rfl rfl
theorem sX9_madeBegins_1r : ab_X rom K cX9_madeBegins 7 0 1 (v0 :: .ref a2 :: v2 :: ls) (.int x :: st) hp = ab_X rom K cX9_madeBegins 7 0 2 (v0 :: .ref a2 :: .int x :: ls) st hp := ax_istore_n dX9_madeBegins_1 (ax_lt (v := v2) rfl) (ab_nl_c1 (j := 1) (v := .ref a2) rfl (ab_c1_ref _)) rfl rfl
theorem sX9_madeBegins_1n : ab_X rom K cX9_madeBegins 7 0 1 (v0 :: .null :: v2 :: ls) (.int x :: st) hp = ab_X rom K cX9_madeBegins 7 0 2 (v0 :: .null :: .int x :: ls) st hp := ax_istore_n dX9_madeBegins_1 (ax_lt (v := v2) rfl) (ab_nl_c1 (j := 1) (v := .null) rfl ab_c1_null) rfl rfl
theorem dX9_madeBegins_2 : decode cX9_madeBegins 2 = .ok (.iload_n 2, 1) := by decide +kernel
theorem sX9_madeBegins_2 : ab_X rom K cX9_madeBegins 7 0 2 (v0 :: v1 :: .int x :: ls) st hp = ab_X rom K cX9_madeBegins 7 0 3 (v0 :: v1 :: .int x :: ls) (.int x :: st) hp := ax_iload_n dX9_madeBegins_2 rfl rfl
theorem dX9_madeBegins_3 : decode cX9_madeBegins 3 = .ok (.bipush 15, 2) := by decide +kernel
theorem sX9_madeBegins_3 : ab_X rom K cX9_madeBegins 7 0 3 ls st hp = ab_X rom K cX9_madeBegins 7 0 5 ls (.int 15 :: st) hp := ax_bipush dX9_madeBegins_3 (by decide) rfl
theorem dX9_madeBegins_5 : decode cX9_madeBegins 5 = .ok (.if_icmp .ge 26, 3) := by decide +kernel
theorem sX9_madeBegins_5 : ab_X rom K cX9_madeBegins 7 0 5 ls (.int y :: .int x :: st) hp = if x < y then ab_X rom K cX9_madeBegins 7 0 8 ls st hp else ab_X rom K cX9_madeBegins 7 0 31 ls st hp := ax_icmp_ge dX9_madeBegins_5 (by decide) rfl
theorem dX9_madeBegins_8 : decode cX9_madeBegins 8 = .ok (.aload_n 0, 1) := by decide +kernel
theorem sX9_madeBegins_8 : ab_X rom K cX9_madeBegins 7 0 8 (.ref a :: ls) st hp = ab_X rom K cX9_madeBegins 7 0 9 (.ref a :: ls) (.ref a :: st) hp := ax_aload_n dX9_madeBegins_8 rfl rfl
theorem dX9_madeBegins_9 : decode cX9_madeBegins 9 = .ok (.getfield 41, 3) := by decide +kernel
theorem sX9_madeBegins_9 : ab_X rom K cX9_madeBegins 7 0 9 ls (.ref a :: st) hp = (ab_fld hp a 7 24).bind (fun v => ab_X rom K cX9_madeBegins 7 0 12 ls (v :: st) hp) := ax_getfield dX9_madeBegins_9 kf_7_41 rfl
theorem dX9_madeBegins_12 : decode cX9_madeBegins 12 = .ok (.iload_n 2, 1) := by decide +kernel
theorem sX9_madeBegins_12 : ab_X rom K cX9_madeBegins 7 0 12 (v0 :: v1 :: .int x :: ls) st hp = ab_X rom K cX9_madeBegins 7 0 13 (v0 :: v1 :: .int x :: ls) (.int x :: st) hp := ax_iload_n dX9_madeBegins_12 rfl rfl
theorem dX9_madeBegins_13 : decode cX9_madeBegins 13 = .ok (.iload_n 2, 1) := by decide +kernel
theorem sX9_madeBegins_13 : ab_X rom K cX9_madeBegins 7 0 13 (v0 :: v1 :: .int x :: ls) st hp = ab_X rom K cX9_madeBegins 7 0 14 (v0 :: v1 :: .int x :: ls) (.int x :: st) hp := ax_iload_n dX9_madeBegins_13 rfl rfl
theorem dX9_madeBegins_14 : decode cX9_madeBegins 14 = .ok (.bipush 8, 2) := by decide +kernel
theorem sX9_madeBegins_14 : ab_X rom K cX9_madeBegins 7 0 14 ls st hp = ab_X rom K cX9_madeBegins 7 0 16 ls (.int 8 :: st) hp := ax_bipush dX9_madeBegins_14 (by decide) rfl
theorem dX9_madeBegins_16 : decode cX9_madeBegins 16 = .ok (.if_icmp .ge 7, 3) := by decide +kernel
theorem sX9_madeBegins_16 : ab_X rom K cX9_madeBegins 7 0 16 ls (.int y :: .int x :: st) hp = if x < y then ab_X rom K cX9_madeBegins 7 0 19 ls st hp else ab_X rom K cX9_madeBegins 7 0 23 ls st hp := ax_icmp_ge dX9_madeBegins_16 (by decide) rfl
theorem dX9_madeBegins_19 : decode cX9_madeBegins 19 = .ok (.iconst 0, 1) := by decide +kernel
theorem sX9_madeBegins_19 : ab_X rom K cX9_madeBegins 7 0 19 ls st hp = ab_X rom K cX9_madeBegins 7 0 20 ls (.int 0 :: st) hp := ax_iconst dX9_madeBegins_19 (by decide) rfl
theorem dX9_madeBegins_20 : decode cX9_madeBegins 20 = .ok (.goto 4, 3) := by decide +kernel
theorem sX9_madeBegins_20 : ab_X rom K cX9_madeBegins 7 0 20 ls st hp = ab_X rom K cX9_madeBegins 7 0 24 ls st hp := ax_goto dX9_madeBegins_20 (by decide)
theorem dX9_madeBegins_23 : decode cX9_madeBegins 23 = .ok (.iconst (-1), 1) := by decide +kernel
theorem sX9_madeBegins_23 : ab_X rom K cX9_madeBegins 7 0 23 ls st hp = ab_X rom K cX9_madeBegins 7 0 24 ls (.int (-1) :: st) hp := ax_iconst dX9_madeBegins_23 (by decide) rfl
theorem dX9_madeBegins_24 : decode cX9_madeBegins 24 = .ok (.iastore, 1) := by decide +kernel
theorem sX9_madeBegins_24 : ab_X rom K cX9_madeBegins 7 0 24 ls (.int y :: .int x :: .ref a :: st) hp = (ab_awr 0 hp a x y).bind (fun hp' => ab_X rom K cX9_madeBegins 7 0 25 ls st hp') := ax_iastore dX9_madeBegins_24 rfl
theorem dX9_madeBegins_25 : decode cX9_madeBegins 25 = .ok (.iinc 2 1, 3) := by decide +kernel
theorem sX9_madeBegins_25i : ab_X rom K cX9_madeBegins 7 0 25 (v0 :: .int y :: .int x :: ls) st hp = ab_X rom K cX9_madeBegins 7 0 28 (v0 :: .int y :: .int (x + 1) :: ls) st hp := ax_iinc dX9_madeBegins_25 rfl (ab_nl_c1 (j := 1) (v := .int y) rfl (ab_c1_int _)) (by decide) rfl rfl
theorem sX9_madeBegins_25r : ab_X rom K cX9_madeBegins 7 0 25 (v0 :: .ref a2 :: .int x :: ls) st hp = ab_X rom K cX9_madeBegins 7 0 28 (v0 :: .ref a2 :: .int (x + 1) :: ls) st hp := ax_iinc dX9_madeBegins_25 rfl (ab_nl_c1 (j := 1) (v := .ref a2) rfl (ab_c1_ref _)) (by decide) rfl rfl
theorem sX9_madeBegins_25n : ab_X rom K cX9_madeBegins 7 0 25 (v0 :: .null :: .int x :: ls) st hp = ab_X rom K cX9_madeBegins 7 0 28 (v0 :: .null :: .int (x + 1) :: ls) st hp := ax_iinc dX9_madeBegins_25 rfl (ab_nl_c1 (j := 1) (v := .null) rfl ab_c1_null) (by decide) rfl rfl
theorem dX9_madeBegins_28 : decode cX9_madeBegins 28 = .ok (.goto (-26), 3) := by decide +kernel
theorem sX9_madeBegins_28 : ab_X rom K cX9_madeBegins 7 0 28 ls st hp = ab_X rom K cX9_madeBegins 7 0 2 ls st hp := ax_goto dX9_madeBegins_28 (by decide)
theorem dX9_madeBegins_31 : decode cX9_madeBegins 31 = .ok (.aload_n 0, 1) := by decide +kernel
theorem sX9_madeBegins_31 : ab_X rom K cX9_madeBegins 7 0 31 (.ref a :: ls) st hp = ab_X rom K cX9_madeBegins 7 0 32 (.ref a :: ls) (.ref a :: st) hp := ax_aload_n dX9_madeBegins_31 rfl rfl
theorem dX9_madeBegins_32 : decode cX9_madeBegins 32 = .ok (.getfield 41, 3) := by decide +kernel
theorem sX9_madeBegins_32 : ab_X rom K cX9_madeBegins 7 0 32 ls (.ref a :: st) hp = (ab_fld hp a 7 24).bind (fun v => ab_X rom K cX9_madeBegins 7 0 35 ls (v :: st) hp) := ax_getfield dX9_madeBegins_32 kf_7_41 rfl
theorem dX9_madeBegins_35 : decode cX9_madeBegins 35 = .ok (.iconst 0, 1) := by decide +kernel
theorem sX9_madeBegins_35 : ab_X rom K cX9_madeBegins 7 0 35 ls st hp = ab_X rom K cX9_madeBegins 7 0 36 ls (.int 0 :: st) hp := ax_iconst dX9_madeBegins_35 (by decide) rfl
theorem dX9_madeBegins_36 : decode cX9_madeBegins 36 = .ok (.iload_n 1, 1) := by decide +kernel
theorem sX9_madeBegins_36 : ab_X rom K cX9_madeBegins 7 0 36 (v0 :: .int x :: ls) st hp = ab_X rom K cX9_madeBegins 7 0 37 (v0 :: .int x :: ls) (.int x :: st) hp := ax_iload_n dX9_madeBegins_36 rfl rfl
theorem dX9_madeBegins_37 : decode cX9_madeBegins 37 = .ok (.iastore, 1) := by decide +kernel
theorem sX9_madeBegins_37 : ab_X rom K cX9_madeBegins 7 0 37 ls (.int y :: .int x :: .ref a :: st) hp = (ab_awr 0 hp a x y).bind (fun hp' => ab_X rom K cX9_madeBegins 7 0 38 ls st hp') := ax_iastore dX9_madeBegins_37 rfl
theorem dX9_madeBegins_38 : decode cX9_madeBegins 38 = .ok (.return_, 1) := by decide +kernel
theorem sX9_madeBegins_38 : ab_X rom K cX9_madeBegins 7 0 38 ls [] hp = some (none, hp) := ax_vret dX9_madeBegins_38 (by decide)
theorem tX9_madeJoins : ab_mT[191]? = some (yX9_madeJoins, cX9_madeJoins, 3, 0, 7) := by decide +kernel
theorem mX9_madeJoins {d : Nat} {a0 : Nat} {x0 : Int32} {x1 : Int32} : ab_M rom (d + 1) 191 [.ref a0, .int x0, .int x1] hp = ab_X rom (ab_M rom d) cX9_madeJoins 7 0 0 [.ref a0, .int x0, .int x1] [] hp := ab_M_eq tX9_madeJoins (Nat.le_of_ble_eq_true rfl)
theorem dX9_madeJoins_0 : decode cX9_madeJoins 0 = .ok (.aload_n 0, 1) := by decide +kernel
theorem sX9_madeJoins_0 : ab_X rom K cX9_madeJoins 7 0 0 (.ref a :: ls) st hp = ab_X rom K cX9_madeJoins 7 0 1 (.ref a :: ls) (.ref a :: st) hp := ax_aload_n dX9_madeJoins_0 rfl rfl
theorem dX9_madeJoins_1 : decode cX9_madeJoins 1 = .ok (.getfield 41, 3) := by decide +kernel
theorem sX9_madeJoins_1 : ab_X rom K cX9_madeJoins 7 0 1 ls (.ref a :: st) hp = (ab_fld hp a 7 24).bind (fun v => ab_X rom K cX9_madeJoins 7 0 4 ls (v :: st) hp) := ax_getfield dX9_madeJoins_1 kf_7_41 rfl
theorem dX9_madeJoins_4 : decode cX9_madeJoins 4 = .ok (.iconst 1, 1) := by decide +kernel
theorem sX9_madeJoins_4 : ab_X rom K cX9_madeJoins 7 0 4 ls st hp = ab_X rom K cX9_madeJoins 7 0 5 ls (.int 1 :: st) hp := ax_iconst dX9_madeJoins_4 (by decide) rfl
theorem dX9_madeJoins_5 : decode cX9_madeJoins 5 = .ok (.iload_n 1, 1) := by decide +kernel
theorem sX9_madeJoins_5 : ab_X rom K cX9_madeJoins 7 0 5 (v0 :: .int x :: ls) st hp = ab_X rom K cX9_madeJoins 7 0 6 (v0 :: .int x :: ls) (.int x :: st) hp := ax_iload_n dX9_madeJoins_5 rfl rfl
theorem dX9_madeJoins_6 : decode cX9_madeJoins 6 = .ok (.iadd, 1) := by decide +kernel
theorem sX9_madeJoins_6 : ab_X rom K cX9_madeJoins 7 0 6 ls (.int y :: .int x :: st) hp = ab_X rom K cX9_madeJoins 7 0 7 ls (.int (x + y) :: st) hp := ax_iadd dX9_madeJoins_6 rfl
theorem dX9_madeJoins_7 : decode cX9_madeJoins 7 = .ok (.dup2, 1) := by decide +kernel
theorem sX9_madeJoins_7 : ab_X rom K cX9_madeJoins 7 0 7 ls (.int x :: .ref a :: st) hp = ab_X rom K cX9_madeJoins 7 0 8 ls (.int x :: .ref a :: .int x :: .ref a :: st) hp := ax_dup2 dX9_madeJoins_7 rfl (ab_c1_int _) (ab_c1_ref _)
theorem dX9_madeJoins_8 : decode cX9_madeJoins 8 = .ok (.iaload, 1) := by decide +kernel
theorem sX9_madeJoins_8 : ab_X rom K cX9_madeJoins 7 0 8 ls (.int x :: .ref a :: st) hp = (ab_ard rom 0 hp a x).bind (fun v => ab_X rom K cX9_madeJoins 7 0 9 ls (.int v :: st) hp) := ax_iaload dX9_madeJoins_8 rfl
theorem dX9_madeJoins_9 : decode cX9_madeJoins 9 = .ok (.iconst 1, 1) := by decide +kernel
theorem sX9_madeJoins_9 : ab_X rom K cX9_madeJoins 7 0 9 ls st hp = ab_X rom K cX9_madeJoins 7 0 10 ls (.int 1 :: st) hp := ax_iconst dX9_madeJoins_9 (by decide) rfl
theorem dX9_madeJoins_10 : decode cX9_madeJoins 10 = .ok (.iload_n 2, 1) := by decide +kernel
theorem sX9_madeJoins_10 : ab_X rom K cX9_madeJoins 7 0 10 (v0 :: v1 :: .int x :: ls) st hp = ab_X rom K cX9_madeJoins 7 0 11 (v0 :: v1 :: .int x :: ls) (.int x :: st) hp := ax_iload_n dX9_madeJoins_10 rfl rfl
theorem dX9_madeJoins_11 : decode cX9_madeJoins 11 = .ok (.ishl, 1) := by decide +kernel
theorem sX9_madeJoins_11 : ab_X rom K cX9_madeJoins 7 0 11 ls (.int y :: .int x :: st) hp = ab_X rom K cX9_madeJoins 7 0 12 ls (.int (x <<< (y &&& 31)) :: st) hp := ax_ishl dX9_madeJoins_11 rfl
theorem dX9_madeJoins_12 : decode cX9_madeJoins 12 = .ok (.ior, 1) := by decide +kernel
theorem sX9_madeJoins_12 : ab_X rom K cX9_madeJoins 7 0 12 ls (.int y :: .int x :: st) hp = ab_X rom K cX9_madeJoins 7 0 13 ls (.int (x ||| y) :: st) hp := ax_ior dX9_madeJoins_12 rfl
theorem dX9_madeJoins_13 : decode cX9_madeJoins 13 = .ok (.iastore, 1) := by decide +kernel
theorem sX9_madeJoins_13 : ab_X rom K cX9_madeJoins 7 0 13 ls (.int y :: .int x :: .ref a :: st) hp = (ab_awr 0 hp a x y).bind (fun hp' => ab_X rom K cX9_madeJoins 7 0 14 ls st hp') := ax_iastore dX9_madeJoins_13 rfl
theorem dX9_madeJoins_14 : decode cX9_madeJoins 14 = .ok (.aload_n 0, 1) := by decide +kernel
theorem sX9_madeJoins_14 : ab_X rom K cX9_madeJoins 7 0 14 (.ref a :: ls) st hp = ab_X rom K cX9_madeJoins 7 0 15 (.ref a :: ls) (.ref a :: st) hp := ax_aload_n dX9_madeJoins_14 rfl rfl
theorem dX9_madeJoins_15 : decode cX9_madeJoins 15 = .ok (.getfield 41, 3) := by decide +kernel
theorem sX9_madeJoins_15 : ab_X rom K cX9_madeJoins 7 0 15 ls (.ref a :: st) hp = (ab_fld hp a 7 24).bind (fun v => ab_X rom K cX9_madeJoins 7 0 18 ls (v :: st) hp) := ax_getfield dX9_madeJoins_15 kf_7_41 rfl
theorem dX9_madeJoins_18 : decode cX9_madeJoins 18 = .ok (.iconst 1, 1) := by decide +kernel
theorem sX9_madeJoins_18 : ab_X rom K cX9_madeJoins 7 0 18 ls st hp = ab_X rom K cX9_madeJoins 7 0 19 ls (.int 1 :: st) hp := ax_iconst dX9_madeJoins_18 (by decide) rfl
theorem dX9_madeJoins_19 : decode cX9_madeJoins 19 = .ok (.iload_n 2, 1) := by decide +kernel
theorem sX9_madeJoins_19 : ab_X rom K cX9_madeJoins 7 0 19 (v0 :: v1 :: .int x :: ls) st hp = ab_X rom K cX9_madeJoins 7 0 20 (v0 :: v1 :: .int x :: ls) (.int x :: st) hp := ax_iload_n dX9_madeJoins_19 rfl rfl
theorem dX9_madeJoins_20 : decode cX9_madeJoins 20 = .ok (.iadd, 1) := by decide +kernel
theorem sX9_madeJoins_20 : ab_X rom K cX9_madeJoins 7 0 20 ls (.int y :: .int x :: st) hp = ab_X rom K cX9_madeJoins 7 0 21 ls (.int (x + y) :: st) hp := ax_iadd dX9_madeJoins_20 rfl
theorem dX9_madeJoins_21 : decode cX9_madeJoins 21 = .ok (.dup2, 1) := by decide +kernel
theorem sX9_madeJoins_21 : ab_X rom K cX9_madeJoins 7 0 21 ls (.int x :: .ref a :: st) hp = ab_X rom K cX9_madeJoins 7 0 22 ls (.int x :: .ref a :: .int x :: .ref a :: st) hp := ax_dup2 dX9_madeJoins_21 rfl (ab_c1_int _) (ab_c1_ref _)
theorem dX9_madeJoins_22 : decode cX9_madeJoins 22 = .ok (.iaload, 1) := by decide +kernel
theorem sX9_madeJoins_22 : ab_X rom K cX9_madeJoins 7 0 22 ls (.int x :: .ref a :: st) hp = (ab_ard rom 0 hp a x).bind (fun v => ab_X rom K cX9_madeJoins 7 0 23 ls (.int v :: st) hp) := ax_iaload dX9_madeJoins_22 rfl
theorem dX9_madeJoins_23 : decode cX9_madeJoins 23 = .ok (.iconst 1, 1) := by decide +kernel
theorem sX9_madeJoins_23 : ab_X rom K cX9_madeJoins 7 0 23 ls st hp = ab_X rom K cX9_madeJoins 7 0 24 ls (.int 1 :: st) hp := ax_iconst dX9_madeJoins_23 (by decide) rfl
theorem dX9_madeJoins_24 : decode cX9_madeJoins 24 = .ok (.iload_n 1, 1) := by decide +kernel
theorem sX9_madeJoins_24 : ab_X rom K cX9_madeJoins 7 0 24 (v0 :: .int x :: ls) st hp = ab_X rom K cX9_madeJoins 7 0 25 (v0 :: .int x :: ls) (.int x :: st) hp := ax_iload_n dX9_madeJoins_24 rfl rfl
theorem dX9_madeJoins_25 : decode cX9_madeJoins 25 = .ok (.ishl, 1) := by decide +kernel
theorem sX9_madeJoins_25 : ab_X rom K cX9_madeJoins 7 0 25 ls (.int y :: .int x :: st) hp = ab_X rom K cX9_madeJoins 7 0 26 ls (.int (x <<< (y &&& 31)) :: st) hp := ax_ishl dX9_madeJoins_25 rfl
theorem dX9_madeJoins_26 : decode cX9_madeJoins 26 = .ok (.ior, 1) := by decide +kernel
theorem sX9_madeJoins_26 : ab_X rom K cX9_madeJoins 7 0 26 ls (.int y :: .int x :: st) hp = ab_X rom K cX9_madeJoins 7 0 27 ls (.int (x ||| y) :: st) hp := ax_ior dX9_madeJoins_26 rfl
theorem dX9_madeJoins_27 : decode cX9_madeJoins 27 = .ok (.iastore, 1) := by decide +kernel
theorem sX9_madeJoins_27 : ab_X rom K cX9_madeJoins 7 0 27 ls (.int y :: .int x :: .ref a :: st) hp = (ab_awr 0 hp a x y).bind (fun hp' => ab_X rom K cX9_madeJoins 7 0 28 ls st hp') := ax_iastore dX9_madeJoins_27 rfl
theorem dX9_madeJoins_28 : decode cX9_madeJoins 28 = .ok (.return_, 1) := by decide +kernel
theorem sX9_madeJoins_28 : ab_X rom K cX9_madeJoins 7 0 28 ls [] hp = some (none, hp) := ax_vret dX9_madeJoins_28 (by decide)
theorem tX9_madeLabels : ab_mT[192]? = some (yX9_madeLabels, cX9_madeLabels, 5, 0, 7) := by decide +kernel
theorem mX9_madeLabels {d : Nat} {a0 : Nat} {x0 : Int32} {x1 : Int32} {x2 : Int32} {x3 : Int32} : ab_M rom (d + 1) 192 [.ref a0, .int x0, .int x1, .int x2, .int x3] hp = ab_X rom (ab_M rom d) cX9_madeLabels 7 0 0 [.ref a0, .int x0, .int x1, .int x2, .int x3] [] hp := ab_M_eq tX9_madeLabels (Nat.le_of_ble_eq_true rfl)
theorem dX9_madeLabels_0 : decode cX9_madeLabels 0 = .ok (.aload_n 0, 1) := by decide +kernel
theorem sX9_madeLabels_0 : ab_X rom K cX9_madeLabels 7 0 0 (.ref a :: ls) st hp = ab_X rom K cX9_madeLabels 7 0 1 (.ref a :: ls) (.ref a :: st) hp := ax_aload_n dX9_madeLabels_0 rfl rfl
theorem dX9_madeLabels_1 : decode cX9_madeLabels 1 = .ok (.getfield 41, 3) := by decide +kernel
theorem sX9_madeLabels_1 : ab_X rom K cX9_madeLabels 7 0 1 ls (.ref a :: st) hp = (ab_fld hp a 7 24).bind (fun v => ab_X rom K cX9_madeLabels 7 0 4 ls (v :: st) hp) := ax_getfield dX9_madeLabels_1 kf_7_41 rfl
theorem dX9_madeLabels_4 : decode cX9_madeLabels 4 = .ok (.bipush 8, 2) := by decide +kernel
theorem sX9_madeLabels_4 : ab_X rom K cX9_madeLabels 7 0 4 ls st hp = ab_X rom K cX9_madeLabels 7 0 6 ls (.int 8 :: st) hp := ax_bipush dX9_madeLabels_4 (by decide) rfl
theorem dX9_madeLabels_6 : decode cX9_madeLabels 6 = .ok (.iload_n 1, 1) := by decide +kernel
theorem sX9_madeLabels_6 : ab_X rom K cX9_madeLabels 7 0 6 (v0 :: .int x :: ls) st hp = ab_X rom K cX9_madeLabels 7 0 7 (v0 :: .int x :: ls) (.int x :: st) hp := ax_iload_n dX9_madeLabels_6 rfl rfl
theorem dX9_madeLabels_7 : decode cX9_madeLabels 7 = .ok (.iastore, 1) := by decide +kernel
theorem sX9_madeLabels_7 : ab_X rom K cX9_madeLabels 7 0 7 ls (.int y :: .int x :: .ref a :: st) hp = (ab_awr 0 hp a x y).bind (fun hp' => ab_X rom K cX9_madeLabels 7 0 8 ls st hp') := ax_iastore dX9_madeLabels_7 rfl
theorem dX9_madeLabels_8 : decode cX9_madeLabels 8 = .ok (.aload_n 0, 1) := by decide +kernel
theorem sX9_madeLabels_8 : ab_X rom K cX9_madeLabels 7 0 8 (.ref a :: ls) st hp = ab_X rom K cX9_madeLabels 7 0 9 (.ref a :: ls) (.ref a :: st) hp := ax_aload_n dX9_madeLabels_8 rfl rfl
theorem dX9_madeLabels_9 : decode cX9_madeLabels 9 = .ok (.getfield 41, 3) := by decide +kernel
theorem sX9_madeLabels_9 : ab_X rom K cX9_madeLabels 7 0 9 ls (.ref a :: st) hp = (ab_fld hp a 7 24).bind (fun v => ab_X rom K cX9_madeLabels 7 0 12 ls (v :: st) hp) := ax_getfield dX9_madeLabels_9 kf_7_41 rfl
theorem dX9_madeLabels_12 : decode cX9_madeLabels 12 = .ok (.bipush 9, 2) := by decide +kernel
theorem sX9_madeLabels_12 : ab_X rom K cX9_madeLabels 7 0 12 ls st hp = ab_X rom K cX9_madeLabels 7 0 14 ls (.int 9 :: st) hp := ax_bipush dX9_madeLabels_12 (by decide) rfl
theorem dX9_madeLabels_14 : decode cX9_madeLabels 14 = .ok (.iload_n 2, 1) := by decide +kernel
theorem sX9_madeLabels_14 : ab_X rom K cX9_madeLabels 7 0 14 (v0 :: v1 :: .int x :: ls) st hp = ab_X rom K cX9_madeLabels 7 0 15 (v0 :: v1 :: .int x :: ls) (.int x :: st) hp := ax_iload_n dX9_madeLabels_14 rfl rfl
theorem dX9_madeLabels_15 : decode cX9_madeLabels 15 = .ok (.iastore, 1) := by decide +kernel
theorem sX9_madeLabels_15 : ab_X rom K cX9_madeLabels 7 0 15 ls (.int y :: .int x :: .ref a :: st) hp = (ab_awr 0 hp a x y).bind (fun hp' => ab_X rom K cX9_madeLabels 7 0 16 ls st hp') := ax_iastore dX9_madeLabels_15 rfl
theorem dX9_madeLabels_16 : decode cX9_madeLabels 16 = .ok (.aload_n 0, 1) := by decide +kernel
theorem sX9_madeLabels_16 : ab_X rom K cX9_madeLabels 7 0 16 (.ref a :: ls) st hp = ab_X rom K cX9_madeLabels 7 0 17 (.ref a :: ls) (.ref a :: st) hp := ax_aload_n dX9_madeLabels_16 rfl rfl
theorem dX9_madeLabels_17 : decode cX9_madeLabels 17 = .ok (.getfield 41, 3) := by decide +kernel
theorem sX9_madeLabels_17 : ab_X rom K cX9_madeLabels 7 0 17 ls (.ref a :: st) hp = (ab_fld hp a 7 24).bind (fun v => ab_X rom K cX9_madeLabels 7 0 20 ls (v :: st) hp) := ax_getfield dX9_madeLabels_17 kf_7_41 rfl
theorem dX9_madeLabels_20 : decode cX9_madeLabels 20 = .ok (.bipush 10, 2) := by decide +kernel
theorem sX9_madeLabels_20 : ab_X rom K cX9_madeLabels 7 0 20 ls st hp = ab_X rom K cX9_madeLabels 7 0 22 ls (.int 10 :: st) hp := ax_bipush dX9_madeLabels_20 (by decide) rfl
theorem dX9_madeLabels_22 : decode cX9_madeLabels 22 = .ok (.iload_n 3, 1) := by decide +kernel
theorem sX9_madeLabels_22 : ab_X rom K cX9_madeLabels 7 0 22 (v0 :: v1 :: v2 :: .int x :: ls) st hp = ab_X rom K cX9_madeLabels 7 0 23 (v0 :: v1 :: v2 :: .int x :: ls) (.int x :: st) hp := ax_iload_n dX9_madeLabels_22 rfl rfl
theorem dX9_madeLabels_23 : decode cX9_madeLabels 23 = .ok (.iastore, 1) := by decide +kernel
theorem sX9_madeLabels_23 : ab_X rom K cX9_madeLabels 7 0 23 ls (.int y :: .int x :: .ref a :: st) hp = (ab_awr 0 hp a x y).bind (fun hp' => ab_X rom K cX9_madeLabels 7 0 24 ls st hp') := ax_iastore dX9_madeLabels_23 rfl
theorem dX9_madeLabels_24 : decode cX9_madeLabels 24 = .ok (.aload_n 0, 1) := by decide +kernel
theorem sX9_madeLabels_24 : ab_X rom K cX9_madeLabels 7 0 24 (.ref a :: ls) st hp = ab_X rom K cX9_madeLabels 7 0 25 (.ref a :: ls) (.ref a :: st) hp := ax_aload_n dX9_madeLabels_24 rfl rfl
theorem dX9_madeLabels_25 : decode cX9_madeLabels 25 = .ok (.getfield 41, 3) := by decide +kernel
theorem sX9_madeLabels_25 : ab_X rom K cX9_madeLabels 7 0 25 ls (.ref a :: st) hp = (ab_fld hp a 7 24).bind (fun v => ab_X rom K cX9_madeLabels 7 0 28 ls (v :: st) hp) := ax_getfield dX9_madeLabels_25 kf_7_41 rfl
theorem dX9_madeLabels_28 : decode cX9_madeLabels 28 = .ok (.bipush 11, 2) := by decide +kernel
theorem sX9_madeLabels_28 : ab_X rom K cX9_madeLabels 7 0 28 ls st hp = ab_X rom K cX9_madeLabels 7 0 30 ls (.int 11 :: st) hp := ax_bipush dX9_madeLabels_28 (by decide) rfl
theorem dX9_madeLabels_30 : decode cX9_madeLabels 30 = .ok (.iload 4, 2) := by decide +kernel
theorem sX9_madeLabels_30 : ab_X rom K cX9_madeLabels 7 0 30 (v0 :: v1 :: v2 :: v3 :: .int x :: ls) st hp = ab_X rom K cX9_madeLabels 7 0 32 (v0 :: v1 :: v2 :: v3 :: .int x :: ls) (.int x :: st) hp := ax_iload dX9_madeLabels_30 rfl rfl
theorem dX9_madeLabels_32 : decode cX9_madeLabels 32 = .ok (.iastore, 1) := by decide +kernel
theorem sX9_madeLabels_32 : ab_X rom K cX9_madeLabels 7 0 32 ls (.int y :: .int x :: .ref a :: st) hp = (ab_awr 0 hp a x y).bind (fun hp' => ab_X rom K cX9_madeLabels 7 0 33 ls st hp') := ax_iastore dX9_madeLabels_32 rfl
theorem dX9_madeLabels_33 : decode cX9_madeLabels 33 = .ok (.return_, 1) := by decide +kernel
theorem sX9_madeLabels_33 : ab_X rom K cX9_madeLabels 7 0 33 ls [] hp = some (none, hp) := ax_vret dX9_madeLabels_33 (by decide)
theorem tX9_makesFull : ab_mT[193]? = some (yX9_makesFull, cX9_makesFull, 4, 2, 7) := by decide +kernel
theorem mX9_makesFull {d : Nat} {a0 : Nat} {x0 : Int32} : ab_M rom (d + 1) 193 [.ref a0, .int x0] hp = ab_X rom (ab_M rom d) cX9_makesFull 7 2 0 [.ref a0, .int x0, .null, .null] [] hp := ab_M_eq tX9_makesFull (Nat.le_of_ble_eq_true rfl)
theorem dX9_makesFull_0 : decode cX9_makesFull 0 = .ok (.iload_n 1, 1) := by decide +kernel
theorem sX9_makesFull_0 : ab_X rom K cX9_makesFull 7 2 0 (v0 :: .int x :: ls) st hp = ab_X rom K cX9_makesFull 7 2 1 (v0 :: .int x :: ls) (.int x :: st) hp := ax_iload_n dX9_makesFull_0 rfl rfl
theorem dX9_makesFull_1 : decode cX9_makesFull 1 = .ok (.i2l, 1) := by decide +kernel
theorem sX9_makesFull_1 : ab_X rom K cX9_makesFull 7 2 1 ls (.int x :: st) hp = ab_X rom K cX9_makesFull 7 2 2 ls (.long x.toInt64 :: st) hp := ax_i2l dX9_makesFull_1 rfl
theorem dX9_makesFull_2 : decode cX9_makesFull 2 = .ok (.ldc2_w 54, 3) := by decide +kernel
theorem sX9_makesFull_2 : ab_X rom K cX9_makesFull 7 2 2 ls st hp = ab_X rom K cX9_makesFull 7 2 5 ls (.long 2 :: st) hp := ax_ldc2 dX9_makesFull_2 kl_7_54 rfl
theorem dX9_makesFull_5 : decode cX9_makesFull 5 = .ok (.ldc2_w 351, 3) := by decide +kernel
theorem sX9_makesFull_5 : ab_X rom K cX9_makesFull 7 2 5 ls st hp = ab_X rom K cX9_makesFull 7 2 8 ls (.long 5 :: st) hp := ax_ldc2 dX9_makesFull_5 kl_7_351 rfl
theorem dX9_makesFull_8 : decode cX9_makesFull 8 = .ok (.invokestatic 56, 3) := by decide +kernel
theorem sX9_makesFull_8_0 : ab_X rom K cX9_makesFull 7 2 8 ls [w3, w2, w1] hp = (K 159 [w1, w2, w3] hp).bind (fun o => ab_X rom K cX9_makesFull 7 2 11 ls (o.1.toList ++ []) o.2) := ax_static (as := [w1, w2, w3]) (st := []) dX9_makesFull_8 kc_7_56 rfl rfl (Nat.le_of_ble_eq_true rfl)
theorem sX9_makesFull_8_1 : ab_X rom K cX9_makesFull 7 2 8 ls [w3, w2, w1, v0] hp = (K 159 [w1, w2, w3] hp).bind (fun o => ab_X rom K cX9_makesFull 7 2 11 ls (o.1.toList ++ [v0]) o.2) := ax_static (as := [w1, w2, w3]) (st := [v0]) dX9_makesFull_8 kc_7_56 rfl rfl (Nat.le_of_ble_eq_true rfl)
theorem sX9_makesFull_8_2 : ab_X rom K cX9_makesFull 7 2 8 ls [w3, w2, w1, v0, v1] hp = (K 159 [w1, w2, w3] hp).bind (fun o => ab_X rom K cX9_makesFull 7 2 11 ls (o.1.toList ++ [v0, v1]) o.2) := ax_static (as := [w1, w2, w3]) (st := [v0, v1]) dX9_makesFull_8 kc_7_56 rfl rfl (Nat.le_of_ble_eq_true rfl)
theorem sX9_makesFull_8_3 : ab_X rom K cX9_makesFull 7 2 8 ls [w3, w2, w1, v0, v1, v2] hp = (K 159 [w1, w2, w3] hp).bind (fun o => ab_X rom K cX9_makesFull 7 2 11 ls (o.1.toList ++ [v0, v1, v2]) o.2) := ax_static (as := [w1, w2, w3]) (st := [v0, v1, v2]) dX9_makesFull_8 kc_7_56 rfl rfl (Nat.le_of_ble_eq_true rfl)
theorem dX9_makesFull_11 : decode cX9_makesFull 11 = .ok (.ifCond .ne 5, 3) := by decide +kernel
theorem sX9_makesFull_11 : ab_X rom K cX9_makesFull 7 2 11 ls (.int x :: st) hp = if x = 0 then ab_X rom K cX9_makesFull 7 2 14 ls st hp else ab_X rom K cX9_makesFull 7 2 16 ls st hp := ax_if_ne dX9_makesFull_11 (by decide) rfl
theorem dX9_makesFull_14 : decode cX9_makesFull 14 = .ok (.iconst 0, 1) := by decide +kernel
theorem sX9_makesFull_14 : ab_X rom K cX9_makesFull 7 2 14 ls st hp = ab_X rom K cX9_makesFull 7 2 15 ls (.int 0 :: st) hp := ax_iconst dX9_makesFull_14 (by decide) rfl
theorem dX9_makesFull_15 : decode cX9_makesFull 15 = .ok (.ireturn, 1) := by decide +kernel
theorem sX9_makesFull_15 : ab_X rom K cX9_makesFull 7 2 15 ls [.int x] hp = if x = 0 ∨ x = 1 then some (some (.int x), hp) else none := ay_zret dX9_makesFull_15 rfl
theorem dX9_makesFull_16 : decode cX9_makesFull 16 = .ok (.aload_n 0, 1) := by decide +kernel
theorem sX9_makesFull_16 : ab_X rom K cX9_makesFull 7 2 16 (.ref a :: ls) st hp = ab_X rom K cX9_makesFull 7 2 17 (.ref a :: ls) (.ref a :: st) hp := ax_aload_n dX9_makesFull_16 rfl rfl
theorem dX9_makesFull_17 : decode cX9_makesFull 17 = .ok (.iload_n 1, 1) := by decide +kernel
theorem sX9_makesFull_17 : ab_X rom K cX9_makesFull 7 2 17 (v0 :: .int x :: ls) st hp = ab_X rom K cX9_makesFull 7 2 18 (v0 :: .int x :: ls) (.int x :: st) hp := ax_iload_n dX9_makesFull_17 rfl rfl
theorem dX9_makesFull_18 : decode cX9_makesFull 18 = .ok (.invokevirtual 328, 3) := by decide +kernel
theorem sX9_makesFull_18_0 : ab_X rom K cX9_makesFull 7 2 18 ls [w1, .ref a] hp = if ab_iso hp a 7 = true then (K 190 (.ref a :: [w1]) hp).bind (fun o => ab_X rom K cX9_makesFull 7 2 21 ls (o.1.toList ++ []) o.2) else none := ay_virtual (as := [w1]) (st := []) dX9_makesFull_18 kc_7_328 rfl rfl (Nat.le_of_ble_eq_true rfl)
theorem sX9_makesFull_18_1 : ab_X rom K cX9_makesFull 7 2 18 ls [w1, .ref a, v0] hp = if ab_iso hp a 7 = true then (K 190 (.ref a :: [w1]) hp).bind (fun o => ab_X rom K cX9_makesFull 7 2 21 ls (o.1.toList ++ [v0]) o.2) else none := ay_virtual (as := [w1]) (st := [v0]) dX9_makesFull_18 kc_7_328 rfl rfl (Nat.le_of_ble_eq_true rfl)
theorem sX9_makesFull_18_2 : ab_X rom K cX9_makesFull 7 2 18 ls [w1, .ref a, v0, v1] hp = if ab_iso hp a 7 = true then (K 190 (.ref a :: [w1]) hp).bind (fun o => ab_X rom K cX9_makesFull 7 2 21 ls (o.1.toList ++ [v0, v1]) o.2) else none := ay_virtual (as := [w1]) (st := [v0, v1]) dX9_makesFull_18 kc_7_328 rfl rfl (Nat.le_of_ble_eq_true rfl)
theorem sX9_makesFull_18_3 : ab_X rom K cX9_makesFull 7 2 18 ls [w1, .ref a, v0, v1, v2] hp = if ab_iso hp a 7 = true then (K 190 (.ref a :: [w1]) hp).bind (fun o => ab_X rom K cX9_makesFull 7 2 21 ls (o.1.toList ++ [v0, v1, v2]) o.2) else none := ay_virtual (as := [w1]) (st := [v0, v1, v2]) dX9_makesFull_18 kc_7_328 rfl rfl (Nat.le_of_ble_eq_true rfl)
theorem dX9_makesFull_21 : decode cX9_makesFull 21 = .ok (.iconst 0, 1) := by decide +kernel
theorem sX9_makesFull_21 : ab_X rom K cX9_makesFull 7 2 21 ls st hp = ab_X rom K cX9_makesFull 7 2 22 ls (.int 0 :: st) hp := ax_iconst dX9_makesFull_21 (by decide) rfl
theorem dX9_makesFull_22 : decode cX9_makesFull 22 = .ok (.istore_n 2, 1) := by decide +kernel
theorem sX9_makesFull_22i : ab_X rom K cX9_makesFull 7 2 22 (v0 :: .int y :: v2 :: ls) (.int x :: st) hp = ab_X rom K cX9_makesFull 7 2 23 (v0 :: .int y :: .int x :: ls) st hp := ax_istore_n dX9_makesFull_22 (ax_lt (v := v2) rfl) (ab_nl_c1 (j := 1) (v := .int y) rfl (ab_c1_int _)) rfl rfl
theorem sX9_makesFull_22r : ab_X rom K cX9_makesFull 7 2 22 (v0 :: .ref a2 :: v2 :: ls) (.int x :: st) hp = ab_X rom K cX9_makesFull 7 2 23 (v0 :: .ref a2 :: .int x :: ls) st hp := ax_istore_n dX9_makesFull_22 (ax_lt (v := v2) rfl) (ab_nl_c1 (j := 1) (v := .ref a2) rfl (ab_c1_ref _)) rfl rfl
theorem sX9_makesFull_22n : ab_X rom K cX9_makesFull 7 2 22 (v0 :: .null :: v2 :: ls) (.int x :: st) hp = ab_X rom K cX9_makesFull 7 2 23 (v0 :: .null :: .int x :: ls) st hp := ax_istore_n dX9_makesFull_22 (ax_lt (v := v2) rfl) (ab_nl_c1 (j := 1) (v := .null) rfl ab_c1_null) rfl rfl
theorem dX9_makesFull_23 : decode cX9_makesFull 23 = .ok (.iload_n 2, 1) := by decide +kernel
theorem sX9_makesFull_23 : ab_X rom K cX9_makesFull 7 2 23 (v0 :: v1 :: .int x :: ls) st hp = ab_X rom K cX9_makesFull 7 2 24 (v0 :: v1 :: .int x :: ls) (.int x :: st) hp := ax_iload_n dX9_makesFull_23 rfl rfl
theorem dX9_makesFull_24 : decode cX9_makesFull 24 = .ok (.iload_n 1, 1) := by decide +kernel
theorem sX9_makesFull_24 : ab_X rom K cX9_makesFull 7 2 24 (v0 :: .int x :: ls) st hp = ab_X rom K cX9_makesFull 7 2 25 (v0 :: .int x :: ls) (.int x :: st) hp := ax_iload_n dX9_makesFull_24 rfl rfl
theorem dX9_makesFull_25 : decode cX9_makesFull 25 = .ok (.if_icmp .ge 28, 3) := by decide +kernel
theorem sX9_makesFull_25 : ab_X rom K cX9_makesFull 7 2 25 ls (.int y :: .int x :: st) hp = if x < y then ab_X rom K cX9_makesFull 7 2 28 ls st hp else ab_X rom K cX9_makesFull 7 2 53 ls st hp := ax_icmp_ge dX9_makesFull_25 (by decide) rfl
theorem dX9_makesFull_28 : decode cX9_makesFull 28 = .ok (.iconst 0, 1) := by decide +kernel
theorem sX9_makesFull_28 : ab_X rom K cX9_makesFull 7 2 28 ls st hp = ab_X rom K cX9_makesFull 7 2 29 ls (.int 0 :: st) hp := ax_iconst dX9_makesFull_28 (by decide) rfl
theorem dX9_makesFull_29 : decode cX9_makesFull 29 = .ok (.istore_n 3, 1) := by decide +kernel
theorem sX9_makesFull_29i : ab_X rom K cX9_makesFull 7 2 29 (v0 :: v1 :: .int y :: v3 :: ls) (.int x :: st) hp = ab_X rom K cX9_makesFull 7 2 30 (v0 :: v1 :: .int y :: .int x :: ls) st hp := ax_istore_n dX9_makesFull_29 (ax_lt (v := v3) rfl) (ab_nl_c1 (j := 2) (v := .int y) rfl (ab_c1_int _)) rfl rfl
theorem sX9_makesFull_29r : ab_X rom K cX9_makesFull 7 2 29 (v0 :: v1 :: .ref a2 :: v3 :: ls) (.int x :: st) hp = ab_X rom K cX9_makesFull 7 2 30 (v0 :: v1 :: .ref a2 :: .int x :: ls) st hp := ax_istore_n dX9_makesFull_29 (ax_lt (v := v3) rfl) (ab_nl_c1 (j := 2) (v := .ref a2) rfl (ab_c1_ref _)) rfl rfl
theorem sX9_makesFull_29n : ab_X rom K cX9_makesFull 7 2 29 (v0 :: v1 :: .null :: v3 :: ls) (.int x :: st) hp = ab_X rom K cX9_makesFull 7 2 30 (v0 :: v1 :: .null :: .int x :: ls) st hp := ax_istore_n dX9_makesFull_29 (ax_lt (v := v3) rfl) (ab_nl_c1 (j := 2) (v := .null) rfl ab_c1_null) rfl rfl
theorem dX9_makesFull_30 : decode cX9_makesFull 30 = .ok (.iload_n 3, 1) := by decide +kernel
theorem sX9_makesFull_30 : ab_X rom K cX9_makesFull 7 2 30 (v0 :: v1 :: v2 :: .int x :: ls) st hp = ab_X rom K cX9_makesFull 7 2 31 (v0 :: v1 :: v2 :: .int x :: ls) (.int x :: st) hp := ax_iload_n dX9_makesFull_30 rfl rfl
theorem dX9_makesFull_31 : decode cX9_makesFull 31 = .ok (.iload_n 2, 1) := by decide +kernel
theorem sX9_makesFull_31 : ab_X rom K cX9_makesFull 7 2 31 (v0 :: v1 :: .int x :: ls) st hp = ab_X rom K cX9_makesFull 7 2 32 (v0 :: v1 :: .int x :: ls) (.int x :: st) hp := ax_iload_n dX9_makesFull_31 rfl rfl
theorem dX9_makesFull_32 : decode cX9_makesFull 32 = .ok (.if_icmp .ge 15, 3) := by decide +kernel
theorem sX9_makesFull_32 : ab_X rom K cX9_makesFull 7 2 32 ls (.int y :: .int x :: st) hp = if x < y then ab_X rom K cX9_makesFull 7 2 35 ls st hp else ab_X rom K cX9_makesFull 7 2 47 ls st hp := ax_icmp_ge dX9_makesFull_32 (by decide) rfl
theorem dX9_makesFull_35 : decode cX9_makesFull 35 = .ok (.aload_n 0, 1) := by decide +kernel
theorem sX9_makesFull_35 : ab_X rom K cX9_makesFull 7 2 35 (.ref a :: ls) st hp = ab_X rom K cX9_makesFull 7 2 36 (.ref a :: ls) (.ref a :: st) hp := ax_aload_n dX9_makesFull_35 rfl rfl
theorem dX9_makesFull_36 : decode cX9_makesFull 36 = .ok (.iload_n 2, 1) := by decide +kernel
theorem sX9_makesFull_36 : ab_X rom K cX9_makesFull 7 2 36 (v0 :: v1 :: .int x :: ls) st hp = ab_X rom K cX9_makesFull 7 2 37 (v0 :: v1 :: .int x :: ls) (.int x :: st) hp := ax_iload_n dX9_makesFull_36 rfl rfl
theorem dX9_makesFull_37 : decode cX9_makesFull 37 = .ok (.iload_n 3, 1) := by decide +kernel
theorem sX9_makesFull_37 : ab_X rom K cX9_makesFull 7 2 37 (v0 :: v1 :: v2 :: .int x :: ls) st hp = ab_X rom K cX9_makesFull 7 2 38 (v0 :: v1 :: v2 :: .int x :: ls) (.int x :: st) hp := ax_iload_n dX9_makesFull_37 rfl rfl
theorem dX9_makesFull_38 : decode cX9_makesFull 38 = .ok (.invokevirtual 335, 3) := by decide +kernel
theorem sX9_makesFull_38_0 : ab_X rom K cX9_makesFull 7 2 38 ls [w2, w1, .ref a] hp = if ab_iso hp a 7 = true then (K 191 (.ref a :: [w1, w2]) hp).bind (fun o => ab_X rom K cX9_makesFull 7 2 41 ls (o.1.toList ++ []) o.2) else none := ay_virtual (as := [w1, w2]) (st := []) dX9_makesFull_38 kc_7_335 rfl rfl (Nat.le_of_ble_eq_true rfl)
theorem sX9_makesFull_38_1 : ab_X rom K cX9_makesFull 7 2 38 ls [w2, w1, .ref a, v0] hp = if ab_iso hp a 7 = true then (K 191 (.ref a :: [w1, w2]) hp).bind (fun o => ab_X rom K cX9_makesFull 7 2 41 ls (o.1.toList ++ [v0]) o.2) else none := ay_virtual (as := [w1, w2]) (st := [v0]) dX9_makesFull_38 kc_7_335 rfl rfl (Nat.le_of_ble_eq_true rfl)
theorem sX9_makesFull_38_2 : ab_X rom K cX9_makesFull 7 2 38 ls [w2, w1, .ref a, v0, v1] hp = if ab_iso hp a 7 = true then (K 191 (.ref a :: [w1, w2]) hp).bind (fun o => ab_X rom K cX9_makesFull 7 2 41 ls (o.1.toList ++ [v0, v1]) o.2) else none := ay_virtual (as := [w1, w2]) (st := [v0, v1]) dX9_makesFull_38 kc_7_335 rfl rfl (Nat.le_of_ble_eq_true rfl)
theorem sX9_makesFull_38_3 : ab_X rom K cX9_makesFull 7 2 38 ls [w2, w1, .ref a, v0, v1, v2] hp = if ab_iso hp a 7 = true then (K 191 (.ref a :: [w1, w2]) hp).bind (fun o => ab_X rom K cX9_makesFull 7 2 41 ls (o.1.toList ++ [v0, v1, v2]) o.2) else none := ay_virtual (as := [w1, w2]) (st := [v0, v1, v2]) dX9_makesFull_38 kc_7_335 rfl rfl (Nat.le_of_ble_eq_true rfl)
theorem dX9_makesFull_41 : decode cX9_makesFull 41 = .ok (.iinc 3 1, 3) := by decide +kernel
theorem sX9_makesFull_41i : ab_X rom K cX9_makesFull 7 2 41 (v0 :: v1 :: .int y :: .int x :: ls) st hp = ab_X rom K cX9_makesFull 7 2 44 (v0 :: v1 :: .int y :: .int (x + 1) :: ls) st hp := ax_iinc dX9_makesFull_41 rfl (ab_nl_c1 (j := 2) (v := .int y) rfl (ab_c1_int _)) (by decide) rfl rfl
theorem sX9_makesFull_41r : ab_X rom K cX9_makesFull 7 2 41 (v0 :: v1 :: .ref a2 :: .int x :: ls) st hp = ab_X rom K cX9_makesFull 7 2 44 (v0 :: v1 :: .ref a2 :: .int (x + 1) :: ls) st hp := ax_iinc dX9_makesFull_41 rfl (ab_nl_c1 (j := 2) (v := .ref a2) rfl (ab_c1_ref _)) (by decide) rfl rfl
theorem sX9_makesFull_41n : ab_X rom K cX9_makesFull 7 2 41 (v0 :: v1 :: .null :: .int x :: ls) st hp = ab_X rom K cX9_makesFull 7 2 44 (v0 :: v1 :: .null :: .int (x + 1) :: ls) st hp := ax_iinc dX9_makesFull_41 rfl (ab_nl_c1 (j := 2) (v := .null) rfl ab_c1_null) (by decide) rfl rfl
theorem dX9_makesFull_44 : decode cX9_makesFull 44 = .ok (.goto (-14), 3) := by decide +kernel
theorem sX9_makesFull_44 : ab_X rom K cX9_makesFull 7 2 44 ls st hp = ab_X rom K cX9_makesFull 7 2 30 ls st hp := ax_goto dX9_makesFull_44 (by decide)
theorem dX9_makesFull_47 : decode cX9_makesFull 47 = .ok (.iinc 2 1, 3) := by decide +kernel
theorem sX9_makesFull_47i : ab_X rom K cX9_makesFull 7 2 47 (v0 :: .int y :: .int x :: ls) st hp = ab_X rom K cX9_makesFull 7 2 50 (v0 :: .int y :: .int (x + 1) :: ls) st hp := ax_iinc dX9_makesFull_47 rfl (ab_nl_c1 (j := 1) (v := .int y) rfl (ab_c1_int _)) (by decide) rfl rfl
theorem sX9_makesFull_47r : ab_X rom K cX9_makesFull 7 2 47 (v0 :: .ref a2 :: .int x :: ls) st hp = ab_X rom K cX9_makesFull 7 2 50 (v0 :: .ref a2 :: .int (x + 1) :: ls) st hp := ax_iinc dX9_makesFull_47 rfl (ab_nl_c1 (j := 1) (v := .ref a2) rfl (ab_c1_ref _)) (by decide) rfl rfl
theorem sX9_makesFull_47n : ab_X rom K cX9_makesFull 7 2 47 (v0 :: .null :: .int x :: ls) st hp = ab_X rom K cX9_makesFull 7 2 50 (v0 :: .null :: .int (x + 1) :: ls) st hp := ax_iinc dX9_makesFull_47 rfl (ab_nl_c1 (j := 1) (v := .null) rfl ab_c1_null) (by decide) rfl rfl
theorem dX9_makesFull_50 : decode cX9_makesFull 50 = .ok (.goto (-27), 3) := by decide +kernel
theorem sX9_makesFull_50 : ab_X rom K cX9_makesFull 7 2 50 ls st hp = ab_X rom K cX9_makesFull 7 2 23 ls st hp := ax_goto dX9_makesFull_50 (by decide)
theorem dX9_makesFull_53 : decode cX9_makesFull 53 = .ok (.iload_n 1, 1) := by decide +kernel
theorem sX9_makesFull_53 : ab_X rom K cX9_makesFull 7 2 53 (v0 :: .int x :: ls) st hp = ab_X rom K cX9_makesFull 7 2 54 (v0 :: .int x :: ls) (.int x :: st) hp := ax_iload_n dX9_makesFull_53 rfl rfl
theorem dX9_makesFull_54 : decode cX9_makesFull 54 = .ok (.iconst 2, 1) := by decide +kernel
theorem sX9_makesFull_54 : ab_X rom K cX9_makesFull 7 2 54 ls st hp = ab_X rom K cX9_makesFull 7 2 55 ls (.int 2 :: st) hp := ax_iconst dX9_makesFull_54 (by decide) rfl
theorem dX9_makesFull_55 : decode cX9_makesFull 55 = .ok (.if_icmp .ne 14, 3) := by decide +kernel
theorem sX9_makesFull_55 : ab_X rom K cX9_makesFull 7 2 55 ls (.int y :: .int x :: st) hp = if x = y then ab_X rom K cX9_makesFull 7 2 58 ls st hp else ab_X rom K cX9_makesFull 7 2 69 ls st hp := ax_icmp_ne dX9_makesFull_55 (by decide) rfl
theorem dX9_makesFull_58 : decode cX9_makesFull 58 = .ok (.aload_n 0, 1) := by decide +kernel
theorem sX9_makesFull_58 : ab_X rom K cX9_makesFull 7 2 58 (.ref a :: ls) st hp = ab_X rom K cX9_makesFull 7 2 59 (.ref a :: ls) (.ref a :: st) hp := ax_aload_n dX9_makesFull_58 rfl rfl
theorem dX9_makesFull_59 : decode cX9_makesFull 59 = .ok (.iconst 0, 1) := by decide +kernel
theorem sX9_makesFull_59 : ab_X rom K cX9_makesFull 7 2 59 ls st hp = ab_X rom K cX9_makesFull 7 2 60 ls (.int 0 :: st) hp := ax_iconst dX9_makesFull_59 (by decide) rfl
theorem dX9_makesFull_60 : decode cX9_makesFull 60 = .ok (.iconst 1, 1) := by decide +kernel
theorem sX9_makesFull_60 : ab_X rom K cX9_makesFull 7 2 60 ls st hp = ab_X rom K cX9_makesFull 7 2 61 ls (.int 1 :: st) hp := ax_iconst dX9_makesFull_60 (by decide) rfl
theorem dX9_makesFull_61 : decode cX9_makesFull 61 = .ok (.iconst (-1), 1) := by decide +kernel
theorem sX9_makesFull_61 : ab_X rom K cX9_makesFull 7 2 61 ls st hp = ab_X rom K cX9_makesFull 7 2 62 ls (.int (-1) :: st) hp := ax_iconst dX9_makesFull_61 (by decide) rfl
theorem dX9_makesFull_62 : decode cX9_makesFull 62 = .ok (.iconst (-1), 1) := by decide +kernel
theorem sX9_makesFull_62 : ab_X rom K cX9_makesFull 7 2 62 ls st hp = ab_X rom K cX9_makesFull 7 2 63 ls (.int (-1) :: st) hp := ax_iconst dX9_makesFull_62 (by decide) rfl
theorem dX9_makesFull_63 : decode cX9_makesFull 63 = .ok (.invokevirtual 347, 3) := by decide +kernel
theorem sX9_makesFull_63_0 : ab_X rom K cX9_makesFull 7 2 63 ls [w4, w3, w2, w1, .ref a] hp = if ab_iso hp a 7 = true then (K 192 (.ref a :: [w1, w2, w3, w4]) hp).bind (fun o => ab_X rom K cX9_makesFull 7 2 66 ls (o.1.toList ++ []) o.2) else none := ay_virtual (as := [w1, w2, w3, w4]) (st := []) dX9_makesFull_63 kc_7_347 rfl rfl (Nat.le_of_ble_eq_true rfl)
theorem sX9_makesFull_63_1 : ab_X rom K cX9_makesFull 7 2 63 ls [w4, w3, w2, w1, .ref a, v0] hp = if ab_iso hp a 7 = true then (K 192 (.ref a :: [w1, w2, w3, w4]) hp).bind (fun o => ab_X rom K cX9_makesFull 7 2 66 ls (o.1.toList ++ [v0]) o.2) else none := ay_virtual (as := [w1, w2, w3, w4]) (st := [v0]) dX9_makesFull_63 kc_7_347 rfl rfl (Nat.le_of_ble_eq_true rfl)
theorem sX9_makesFull_63_2 : ab_X rom K cX9_makesFull 7 2 63 ls [w4, w3, w2, w1, .ref a, v0, v1] hp = if ab_iso hp a 7 = true then (K 192 (.ref a :: [w1, w2, w3, w4]) hp).bind (fun o => ab_X rom K cX9_makesFull 7 2 66 ls (o.1.toList ++ [v0, v1]) o.2) else none := ay_virtual (as := [w1, w2, w3, w4]) (st := [v0, v1]) dX9_makesFull_63 kc_7_347 rfl rfl (Nat.le_of_ble_eq_true rfl)
theorem sX9_makesFull_63_3 : ab_X rom K cX9_makesFull 7 2 63 ls [w4, w3, w2, w1, .ref a, v0, v1, v2] hp = if ab_iso hp a 7 = true then (K 192 (.ref a :: [w1, w2, w3, w4]) hp).bind (fun o => ab_X rom K cX9_makesFull 7 2 66 ls (o.1.toList ++ [v0, v1, v2]) o.2) else none := ay_virtual (as := [w1, w2, w3, w4]) (st := [v0, v1, v2]) dX9_makesFull_63 kc_7_347 rfl rfl (Nat.le_of_ble_eq_true rfl)
theorem dX9_makesFull_66 : decode cX9_makesFull 66 = .ok (.goto 33, 3) := by decide +kernel
theorem sX9_makesFull_66 : ab_X rom K cX9_makesFull 7 2 66 ls st hp = ab_X rom K cX9_makesFull 7 2 99 ls st hp := ax_goto dX9_makesFull_66 (by decide)
theorem dX9_makesFull_69 : decode cX9_makesFull 69 = .ok (.iload_n 1, 1) := by decide +kernel
theorem sX9_makesFull_69 : ab_X rom K cX9_makesFull 7 2 69 (v0 :: .int x :: ls) st hp = ab_X rom K cX9_makesFull 7 2 70 (v0 :: .int x :: ls) (.int x :: st) hp := ax_iload_n dX9_makesFull_69 rfl rfl
theorem dX9_makesFull_70 : decode cX9_makesFull 70 = .ok (.iconst 3, 1) := by decide +kernel
theorem sX9_makesFull_70 : ab_X rom K cX9_makesFull 7 2 70 ls st hp = ab_X rom K cX9_makesFull 7 2 71 ls (.int 3 :: st) hp := ax_iconst dX9_makesFull_70 (by decide) rfl
theorem dX9_makesFull_71 : decode cX9_makesFull 71 = .ok (.if_icmp .ne 14, 3) := by decide +kernel
theorem sX9_makesFull_71 : ab_X rom K cX9_makesFull 7 2 71 ls (.int y :: .int x :: st) hp = if x = y then ab_X rom K cX9_makesFull 7 2 74 ls st hp else ab_X rom K cX9_makesFull 7 2 85 ls st hp := ax_icmp_ne dX9_makesFull_71 (by decide) rfl
theorem dX9_makesFull_74 : decode cX9_makesFull 74 = .ok (.aload_n 0, 1) := by decide +kernel
theorem sX9_makesFull_74 : ab_X rom K cX9_makesFull 7 2 74 (.ref a :: ls) st hp = ab_X rom K cX9_makesFull 7 2 75 (.ref a :: ls) (.ref a :: st) hp := ax_aload_n dX9_makesFull_74 rfl rfl
theorem dX9_makesFull_75 : decode cX9_makesFull 75 = .ok (.iconst 0, 1) := by decide +kernel
theorem sX9_makesFull_75 : ab_X rom K cX9_makesFull 7 2 75 ls st hp = ab_X rom K cX9_makesFull 7 2 76 ls (.int 0 :: st) hp := ax_iconst dX9_makesFull_75 (by decide) rfl
theorem dX9_makesFull_76 : decode cX9_makesFull 76 = .ok (.iconst 1, 1) := by decide +kernel
theorem sX9_makesFull_76 : ab_X rom K cX9_makesFull 7 2 76 ls st hp = ab_X rom K cX9_makesFull 7 2 77 ls (.int 1 :: st) hp := ax_iconst dX9_makesFull_76 (by decide) rfl
theorem dX9_makesFull_77 : decode cX9_makesFull 77 = .ok (.iconst 3, 1) := by decide +kernel
theorem sX9_makesFull_77 : ab_X rom K cX9_makesFull 7 2 77 ls st hp = ab_X rom K cX9_makesFull 7 2 78 ls (.int 3 :: st) hp := ax_iconst dX9_makesFull_77 (by decide) rfl
theorem dX9_makesFull_78 : decode cX9_makesFull 78 = .ok (.iconst (-1), 1) := by decide +kernel
theorem sX9_makesFull_78 : ab_X rom K cX9_makesFull 7 2 78 ls st hp = ab_X rom K cX9_makesFull 7 2 79 ls (.int (-1) :: st) hp := ax_iconst dX9_makesFull_78 (by decide) rfl
theorem dX9_makesFull_79 : decode cX9_makesFull 79 = .ok (.invokevirtual 347, 3) := by decide +kernel
theorem sX9_makesFull_79_0 : ab_X rom K cX9_makesFull 7 2 79 ls [w4, w3, w2, w1, .ref a] hp = if ab_iso hp a 7 = true then (K 192 (.ref a :: [w1, w2, w3, w4]) hp).bind (fun o => ab_X rom K cX9_makesFull 7 2 82 ls (o.1.toList ++ []) o.2) else none := ay_virtual (as := [w1, w2, w3, w4]) (st := []) dX9_makesFull_79 kc_7_347 rfl rfl (Nat.le_of_ble_eq_true rfl)
theorem sX9_makesFull_79_1 : ab_X rom K cX9_makesFull 7 2 79 ls [w4, w3, w2, w1, .ref a, v0] hp = if ab_iso hp a 7 = true then (K 192 (.ref a :: [w1, w2, w3, w4]) hp).bind (fun o => ab_X rom K cX9_makesFull 7 2 82 ls (o.1.toList ++ [v0]) o.2) else none := ay_virtual (as := [w1, w2, w3, w4]) (st := [v0]) dX9_makesFull_79 kc_7_347 rfl rfl (Nat.le_of_ble_eq_true rfl)
theorem sX9_makesFull_79_2 : ab_X rom K cX9_makesFull 7 2 79 ls [w4, w3, w2, w1, .ref a, v0, v1] hp = if ab_iso hp a 7 = true then (K 192 (.ref a :: [w1, w2, w3, w4]) hp).bind (fun o => ab_X rom K cX9_makesFull 7 2 82 ls (o.1.toList ++ [v0, v1]) o.2) else none := ay_virtual (as := [w1, w2, w3, w4]) (st := [v0, v1]) dX9_makesFull_79 kc_7_347 rfl rfl (Nat.le_of_ble_eq_true rfl)
theorem sX9_makesFull_79_3 : ab_X rom K cX9_makesFull 7 2 79 ls [w4, w3, w2, w1, .ref a, v0, v1, v2] hp = if ab_iso hp a 7 = true then (K 192 (.ref a :: [w1, w2, w3, w4]) hp).bind (fun o => ab_X rom K cX9_makesFull 7 2 82 ls (o.1.toList ++ [v0, v1, v2]) o.2) else none := ay_virtual (as := [w1, w2, w3, w4]) (st := [v0, v1, v2]) dX9_makesFull_79 kc_7_347 rfl rfl (Nat.le_of_ble_eq_true rfl)
theorem dX9_makesFull_82 : decode cX9_makesFull 82 = .ok (.goto 17, 3) := by decide +kernel
theorem sX9_makesFull_82 : ab_X rom K cX9_makesFull 7 2 82 ls st hp = ab_X rom K cX9_makesFull 7 2 99 ls st hp := ax_goto dX9_makesFull_82 (by decide)
theorem dX9_makesFull_85 : decode cX9_makesFull 85 = .ok (.iload_n 1, 1) := by decide +kernel
theorem sX9_makesFull_85 : ab_X rom K cX9_makesFull 7 2 85 (v0 :: .int x :: ls) st hp = ab_X rom K cX9_makesFull 7 2 86 (v0 :: .int x :: ls) (.int x :: st) hp := ax_iload_n dX9_makesFull_85 rfl rfl
theorem dX9_makesFull_86 : decode cX9_makesFull 86 = .ok (.iconst 4, 1) := by decide +kernel
theorem sX9_makesFull_86 : ab_X rom K cX9_makesFull 7 2 86 ls st hp = ab_X rom K cX9_makesFull 7 2 87 ls (.int 4 :: st) hp := ax_iconst dX9_makesFull_86 (by decide) rfl
theorem dX9_makesFull_87 : decode cX9_makesFull 87 = .ok (.if_icmp .ne 12, 3) := by decide +kernel
theorem sX9_makesFull_87 : ab_X rom K cX9_makesFull 7 2 87 ls (.int y :: .int x :: st) hp = if x = y then ab_X rom K cX9_makesFull 7 2 90 ls st hp else ab_X rom K cX9_makesFull 7 2 99 ls st hp := ax_icmp_ne dX9_makesFull_87 (by decide) rfl
theorem dX9_makesFull_90 : decode cX9_makesFull 90 = .ok (.aload_n 0, 1) := by decide +kernel
theorem sX9_makesFull_90 : ab_X rom K cX9_makesFull 7 2 90 (.ref a :: ls) st hp = ab_X rom K cX9_makesFull 7 2 91 (.ref a :: ls) (.ref a :: st) hp := ax_aload_n dX9_makesFull_90 rfl rfl
theorem dX9_makesFull_91 : decode cX9_makesFull 91 = .ok (.iconst 0, 1) := by decide +kernel
theorem sX9_makesFull_91 : ab_X rom K cX9_makesFull 7 2 91 ls st hp = ab_X rom K cX9_makesFull 7 2 92 ls (.int 0 :: st) hp := ax_iconst dX9_makesFull_91 (by decide) rfl
theorem dX9_makesFull_92 : decode cX9_makesFull 92 = .ok (.iconst 1, 1) := by decide +kernel
theorem sX9_makesFull_92 : ab_X rom K cX9_makesFull 7 2 92 ls st hp = ab_X rom K cX9_makesFull 7 2 93 ls (.int 1 :: st) hp := ax_iconst dX9_makesFull_92 (by decide) rfl
theorem dX9_makesFull_93 : decode cX9_makesFull 93 = .ok (.iconst 4, 1) := by decide +kernel
theorem sX9_makesFull_93 : ab_X rom K cX9_makesFull 7 2 93 ls st hp = ab_X rom K cX9_makesFull 7 2 94 ls (.int 4 :: st) hp := ax_iconst dX9_makesFull_93 (by decide) rfl
theorem dX9_makesFull_94 : decode cX9_makesFull 94 = .ok (.bipush 6, 2) := by decide +kernel
theorem sX9_makesFull_94 : ab_X rom K cX9_makesFull 7 2 94 ls st hp = ab_X rom K cX9_makesFull 7 2 96 ls (.int 6 :: st) hp := ax_bipush dX9_makesFull_94 (by decide) rfl
theorem dX9_makesFull_96 : decode cX9_makesFull 96 = .ok (.invokevirtual 347, 3) := by decide +kernel
theorem sX9_makesFull_96_0 : ab_X rom K cX9_makesFull 7 2 96 ls [w4, w3, w2, w1, .ref a] hp = if ab_iso hp a 7 = true then (K 192 (.ref a :: [w1, w2, w3, w4]) hp).bind (fun o => ab_X rom K cX9_makesFull 7 2 99 ls (o.1.toList ++ []) o.2) else none := ay_virtual (as := [w1, w2, w3, w4]) (st := []) dX9_makesFull_96 kc_7_347 rfl rfl (Nat.le_of_ble_eq_true rfl)
theorem sX9_makesFull_96_1 : ab_X rom K cX9_makesFull 7 2 96 ls [w4, w3, w2, w1, .ref a, v0] hp = if ab_iso hp a 7 = true then (K 192 (.ref a :: [w1, w2, w3, w4]) hp).bind (fun o => ab_X rom K cX9_makesFull 7 2 99 ls (o.1.toList ++ [v0]) o.2) else none := ay_virtual (as := [w1, w2, w3, w4]) (st := [v0]) dX9_makesFull_96 kc_7_347 rfl rfl (Nat.le_of_ble_eq_true rfl)
theorem sX9_makesFull_96_2 : ab_X rom K cX9_makesFull 7 2 96 ls [w4, w3, w2, w1, .ref a, v0, v1] hp = if ab_iso hp a 7 = true then (K 192 (.ref a :: [w1, w2, w3, w4]) hp).bind (fun o => ab_X rom K cX9_makesFull 7 2 99 ls (o.1.toList ++ [v0, v1]) o.2) else none := ay_virtual (as := [w1, w2, w3, w4]) (st := [v0, v1]) dX9_makesFull_96 kc_7_347 rfl rfl (Nat.le_of_ble_eq_true rfl)
theorem sX9_makesFull_96_3 : ab_X rom K cX9_makesFull 7 2 96 ls [w4, w3, w2, w1, .ref a, v0, v1, v2] hp = if ab_iso hp a 7 = true then (K 192 (.ref a :: [w1, w2, w3, w4]) hp).bind (fun o => ab_X rom K cX9_makesFull 7 2 99 ls (o.1.toList ++ [v0, v1, v2]) o.2) else none := ay_virtual (as := [w1, w2, w3, w4]) (st := [v0, v1, v2]) dX9_makesFull_96 kc_7_347 rfl rfl (Nat.le_of_ble_eq_true rfl)
theorem dX9_makesFull_99 : decode cX9_makesFull 99 = .ok (.iconst 1, 1) := by decide +kernel
theorem sX9_makesFull_99 : ab_X rom K cX9_makesFull 7 2 99 ls st hp = ab_X rom K cX9_makesFull 7 2 100 ls (.int 1 :: st) hp := ax_iconst dX9_makesFull_99 (by decide) rfl
theorem dX9_makesFull_100 : decode cX9_makesFull 100 = .ok (.ireturn, 1) := by decide +kernel
theorem sX9_makesFull_100 : ab_X rom K cX9_makesFull 7 2 100 ls [.int x] hp = if x = 0 ∨ x = 1 then some (some (.int x), hp) else none := ay_zret dX9_makesFull_100 rfl
theorem tX9_makesPath : ab_mT[194]? = some (yX9_makesPath, cX9_makesPath, 3, 2, 7) := by decide +kernel
theorem mX9_makesPath {d : Nat} {a0 : Nat} {x0 : Int32} : ab_M rom (d + 1) 194 [.ref a0, .int x0] hp = ab_X rom (ab_M rom d) cX9_makesPath 7 2 0 [.ref a0, .int x0, .null] [] hp := ab_M_eq tX9_makesPath (Nat.le_of_ble_eq_true rfl)
theorem dX9_makesPath_0 : decode cX9_makesPath 0 = .ok (.iload_n 1, 1) := by decide +kernel
theorem sX9_makesPath_0 : ab_X rom K cX9_makesPath 7 2 0 (v0 :: .int x :: ls) st hp = ab_X rom K cX9_makesPath 7 2 1 (v0 :: .int x :: ls) (.int x :: st) hp := ax_iload_n dX9_makesPath_0 rfl rfl
theorem dX9_makesPath_1 : decode cX9_makesPath 1 = .ok (.i2l, 1) := by decide +kernel
theorem sX9_makesPath_1 : ab_X rom K cX9_makesPath 7 2 1 ls (.int x :: st) hp = ab_X rom K cX9_makesPath 7 2 2 ls (.long x.toInt64 :: st) hp := ax_i2l dX9_makesPath_1 rfl
theorem dX9_makesPath_2 : decode cX9_makesPath 2 = .ok (.ldc2_w 54, 3) := by decide +kernel
theorem sX9_makesPath_2 : ab_X rom K cX9_makesPath 7 2 2 ls st hp = ab_X rom K cX9_makesPath 7 2 5 ls (.long 2 :: st) hp := ax_ldc2 dX9_makesPath_2 kl_7_54 rfl
theorem dX9_makesPath_5 : decode cX9_makesPath 5 = .ok (.ldc2_w 341, 3) := by decide +kernel
theorem sX9_makesPath_5 : ab_X rom K cX9_makesPath 7 2 5 ls st hp = ab_X rom K cX9_makesPath 7 2 8 ls (.long 7 :: st) hp := ax_ldc2 dX9_makesPath_5 kl_7_341 rfl
theorem dX9_makesPath_8 : decode cX9_makesPath 8 = .ok (.invokestatic 56, 3) := by decide +kernel
theorem sX9_makesPath_8_0 : ab_X rom K cX9_makesPath 7 2 8 ls [w3, w2, w1] hp = (K 159 [w1, w2, w3] hp).bind (fun o => ab_X rom K cX9_makesPath 7 2 11 ls (o.1.toList ++ []) o.2) := ax_static (as := [w1, w2, w3]) (st := []) dX9_makesPath_8 kc_7_56 rfl rfl (Nat.le_of_ble_eq_true rfl)
theorem sX9_makesPath_8_1 : ab_X rom K cX9_makesPath 7 2 8 ls [w3, w2, w1, v0] hp = (K 159 [w1, w2, w3] hp).bind (fun o => ab_X rom K cX9_makesPath 7 2 11 ls (o.1.toList ++ [v0]) o.2) := ax_static (as := [w1, w2, w3]) (st := [v0]) dX9_makesPath_8 kc_7_56 rfl rfl (Nat.le_of_ble_eq_true rfl)
theorem sX9_makesPath_8_2 : ab_X rom K cX9_makesPath 7 2 8 ls [w3, w2, w1, v0, v1] hp = (K 159 [w1, w2, w3] hp).bind (fun o => ab_X rom K cX9_makesPath 7 2 11 ls (o.1.toList ++ [v0, v1]) o.2) := ax_static (as := [w1, w2, w3]) (st := [v0, v1]) dX9_makesPath_8 kc_7_56 rfl rfl (Nat.le_of_ble_eq_true rfl)
theorem sX9_makesPath_8_3 : ab_X rom K cX9_makesPath 7 2 8 ls [w3, w2, w1, v0, v1, v2] hp = (K 159 [w1, w2, w3] hp).bind (fun o => ab_X rom K cX9_makesPath 7 2 11 ls (o.1.toList ++ [v0, v1, v2]) o.2) := ax_static (as := [w1, w2, w3]) (st := [v0, v1, v2]) dX9_makesPath_8 kc_7_56 rfl rfl (Nat.le_of_ble_eq_true rfl)
theorem dX9_makesPath_11 : decode cX9_makesPath 11 = .ok (.ifCond .ne 5, 3) := by decide +kernel
theorem sX9_makesPath_11 : ab_X rom K cX9_makesPath 7 2 11 ls (.int x :: st) hp = if x = 0 then ab_X rom K cX9_makesPath 7 2 14 ls st hp else ab_X rom K cX9_makesPath 7 2 16 ls st hp := ax_if_ne dX9_makesPath_11 (by decide) rfl
theorem dX9_makesPath_14 : decode cX9_makesPath 14 = .ok (.iconst 0, 1) := by decide +kernel
theorem sX9_makesPath_14 : ab_X rom K cX9_makesPath 7 2 14 ls st hp = ab_X rom K cX9_makesPath 7 2 15 ls (.int 0 :: st) hp := ax_iconst dX9_makesPath_14 (by decide) rfl
theorem dX9_makesPath_15 : decode cX9_makesPath 15 = .ok (.ireturn, 1) := by decide +kernel
theorem sX9_makesPath_15 : ab_X rom K cX9_makesPath 7 2 15 ls [.int x] hp = if x = 0 ∨ x = 1 then some (some (.int x), hp) else none := ay_zret dX9_makesPath_15 rfl
theorem dX9_makesPath_16 : decode cX9_makesPath 16 = .ok (.aload_n 0, 1) := by decide +kernel
theorem sX9_makesPath_16 : ab_X rom K cX9_makesPath 7 2 16 (.ref a :: ls) st hp = ab_X rom K cX9_makesPath 7 2 17 (.ref a :: ls) (.ref a :: st) hp := ax_aload_n dX9_makesPath_16 rfl rfl
theorem dX9_makesPath_17 : decode cX9_makesPath 17 = .ok (.iload_n 1, 1) := by decide +kernel
theorem sX9_makesPath_17 : ab_X rom K cX9_makesPath 7 2 17 (v0 :: .int x :: ls) st hp = ab_X rom K cX9_makesPath 7 2 18 (v0 :: .int x :: ls) (.int x :: st) hp := ax_iload_n dX9_makesPath_17 rfl rfl
theorem dX9_makesPath_18 : decode cX9_makesPath 18 = .ok (.invokevirtual 328, 3) := by decide +kernel
theorem sX9_makesPath_18_0 : ab_X rom K cX9_makesPath 7 2 18 ls [w1, .ref a] hp = if ab_iso hp a 7 = true then (K 190 (.ref a :: [w1]) hp).bind (fun o => ab_X rom K cX9_makesPath 7 2 21 ls (o.1.toList ++ []) o.2) else none := ay_virtual (as := [w1]) (st := []) dX9_makesPath_18 kc_7_328 rfl rfl (Nat.le_of_ble_eq_true rfl)
theorem sX9_makesPath_18_1 : ab_X rom K cX9_makesPath 7 2 18 ls [w1, .ref a, v0] hp = if ab_iso hp a 7 = true then (K 190 (.ref a :: [w1]) hp).bind (fun o => ab_X rom K cX9_makesPath 7 2 21 ls (o.1.toList ++ [v0]) o.2) else none := ay_virtual (as := [w1]) (st := [v0]) dX9_makesPath_18 kc_7_328 rfl rfl (Nat.le_of_ble_eq_true rfl)
theorem sX9_makesPath_18_2 : ab_X rom K cX9_makesPath 7 2 18 ls [w1, .ref a, v0, v1] hp = if ab_iso hp a 7 = true then (K 190 (.ref a :: [w1]) hp).bind (fun o => ab_X rom K cX9_makesPath 7 2 21 ls (o.1.toList ++ [v0, v1]) o.2) else none := ay_virtual (as := [w1]) (st := [v0, v1]) dX9_makesPath_18 kc_7_328 rfl rfl (Nat.le_of_ble_eq_true rfl)
theorem sX9_makesPath_18_3 : ab_X rom K cX9_makesPath 7 2 18 ls [w1, .ref a, v0, v1, v2] hp = if ab_iso hp a 7 = true then (K 190 (.ref a :: [w1]) hp).bind (fun o => ab_X rom K cX9_makesPath 7 2 21 ls (o.1.toList ++ [v0, v1, v2]) o.2) else none := ay_virtual (as := [w1]) (st := [v0, v1, v2]) dX9_makesPath_18 kc_7_328 rfl rfl (Nat.le_of_ble_eq_true rfl)
theorem dX9_makesPath_21 : decode cX9_makesPath 21 = .ok (.iconst 0, 1) := by decide +kernel
theorem sX9_makesPath_21 : ab_X rom K cX9_makesPath 7 2 21 ls st hp = ab_X rom K cX9_makesPath 7 2 22 ls (.int 0 :: st) hp := ax_iconst dX9_makesPath_21 (by decide) rfl
theorem dX9_makesPath_22 : decode cX9_makesPath 22 = .ok (.istore_n 2, 1) := by decide +kernel
theorem sX9_makesPath_22i : ab_X rom K cX9_makesPath 7 2 22 (v0 :: .int y :: v2 :: ls) (.int x :: st) hp = ab_X rom K cX9_makesPath 7 2 23 (v0 :: .int y :: .int x :: ls) st hp := ax_istore_n dX9_makesPath_22 (ax_lt (v := v2) rfl) (ab_nl_c1 (j := 1) (v := .int y) rfl (ab_c1_int _)) rfl rfl
theorem sX9_makesPath_22r : ab_X rom K cX9_makesPath 7 2 22 (v0 :: .ref a2 :: v2 :: ls) (.int x :: st) hp = ab_X rom K cX9_makesPath 7 2 23 (v0 :: .ref a2 :: .int x :: ls) st hp := ax_istore_n dX9_makesPath_22 (ax_lt (v := v2) rfl) (ab_nl_c1 (j := 1) (v := .ref a2) rfl (ab_c1_ref _)) rfl rfl
theorem sX9_makesPath_22n : ab_X rom K cX9_makesPath 7 2 22 (v0 :: .null :: v2 :: ls) (.int x :: st) hp = ab_X rom K cX9_makesPath 7 2 23 (v0 :: .null :: .int x :: ls) st hp := ax_istore_n dX9_makesPath_22 (ax_lt (v := v2) rfl) (ab_nl_c1 (j := 1) (v := .null) rfl ab_c1_null) rfl rfl
theorem dX9_makesPath_23 : decode cX9_makesPath 23 = .ok (.iload_n 2, 1) := by decide +kernel
theorem sX9_makesPath_23 : ab_X rom K cX9_makesPath 7 2 23 (v0 :: v1 :: .int x :: ls) st hp = ab_X rom K cX9_makesPath 7 2 24 (v0 :: v1 :: .int x :: ls) (.int x :: st) hp := ax_iload_n dX9_makesPath_23 rfl rfl
theorem dX9_makesPath_24 : decode cX9_makesPath 24 = .ok (.iload_n 1, 1) := by decide +kernel
theorem sX9_makesPath_24 : ab_X rom K cX9_makesPath 7 2 24 (v0 :: .int x :: ls) st hp = ab_X rom K cX9_makesPath 7 2 25 (v0 :: .int x :: ls) (.int x :: st) hp := ax_iload_n dX9_makesPath_24 rfl rfl
theorem dX9_makesPath_25 : decode cX9_makesPath 25 = .ok (.if_icmp .ge 49, 3) := by decide +kernel
theorem sX9_makesPath_25 : ab_X rom K cX9_makesPath 7 2 25 ls (.int y :: .int x :: st) hp = if x < y then ab_X rom K cX9_makesPath 7 2 28 ls st hp else ab_X rom K cX9_makesPath 7 2 74 ls st hp := ax_icmp_ge dX9_makesPath_25 (by decide) rfl
theorem dX9_makesPath_28 : decode cX9_makesPath 28 = .ok (.aload_n 0, 1) := by decide +kernel
theorem sX9_makesPath_28 : ab_X rom K cX9_makesPath 7 2 28 (.ref a :: ls) st hp = ab_X rom K cX9_makesPath 7 2 29 (.ref a :: ls) (.ref a :: st) hp := ax_aload_n dX9_makesPath_28 rfl rfl
theorem dX9_makesPath_29 : decode cX9_makesPath 29 = .ok (.getfield 41, 3) := by decide +kernel
theorem sX9_makesPath_29 : ab_X rom K cX9_makesPath 7 2 29 ls (.ref a :: st) hp = (ab_fld hp a 7 24).bind (fun v => ab_X rom K cX9_makesPath 7 2 32 ls (v :: st) hp) := ax_getfield dX9_makesPath_29 kf_7_41 rfl
theorem dX9_makesPath_32 : decode cX9_makesPath 32 = .ok (.bipush 8, 2) := by decide +kernel
theorem sX9_makesPath_32 : ab_X rom K cX9_makesPath 7 2 32 ls st hp = ab_X rom K cX9_makesPath 7 2 34 ls (.int 8 :: st) hp := ax_bipush dX9_makesPath_32 (by decide) rfl
theorem dX9_makesPath_34 : decode cX9_makesPath 34 = .ok (.iload_n 2, 1) := by decide +kernel
theorem sX9_makesPath_34 : ab_X rom K cX9_makesPath 7 2 34 (v0 :: v1 :: .int x :: ls) st hp = ab_X rom K cX9_makesPath 7 2 35 (v0 :: v1 :: .int x :: ls) (.int x :: st) hp := ax_iload_n dX9_makesPath_34 rfl rfl
theorem dX9_makesPath_35 : decode cX9_makesPath 35 = .ok (.iadd, 1) := by decide +kernel
theorem sX9_makesPath_35 : ab_X rom K cX9_makesPath 7 2 35 ls (.int y :: .int x :: st) hp = ab_X rom K cX9_makesPath 7 2 36 ls (.int (x + y) :: st) hp := ax_iadd dX9_makesPath_35 rfl
theorem dX9_makesPath_36 : decode cX9_makesPath 36 = .ok (.iload_n 2, 1) := by decide +kernel
theorem sX9_makesPath_36 : ab_X rom K cX9_makesPath 7 2 36 (v0 :: v1 :: .int x :: ls) st hp = ab_X rom K cX9_makesPath 7 2 37 (v0 :: v1 :: .int x :: ls) (.int x :: st) hp := ax_iload_n dX9_makesPath_36 rfl rfl
theorem dX9_makesPath_37 : decode cX9_makesPath 37 = .ok (.iconst 2, 1) := by decide +kernel
theorem sX9_makesPath_37 : ab_X rom K cX9_makesPath 7 2 37 ls st hp = ab_X rom K cX9_makesPath 7 2 38 ls (.int 2 :: st) hp := ax_iconst dX9_makesPath_37 (by decide) rfl
theorem dX9_makesPath_38 : decode cX9_makesPath 38 = .ok (.irem, 1) := by decide +kernel
theorem sX9_makesPath_38 : ab_X rom K cX9_makesPath 7 2 38 ls (.int y :: .int x :: st) hp = if y = 0 then none else ab_X rom K cX9_makesPath 7 2 39 ls (.int (ab_rem x y) :: st) hp := ay_irem dX9_makesPath_38 rfl
theorem dX9_makesPath_39 : decode cX9_makesPath 39 = .ok (.ifCond .ne 9, 3) := by decide +kernel
theorem sX9_makesPath_39 : ab_X rom K cX9_makesPath 7 2 39 ls (.int x :: st) hp = if x = 0 then ab_X rom K cX9_makesPath 7 2 42 ls st hp else ab_X rom K cX9_makesPath 7 2 48 ls st hp := ax_if_ne dX9_makesPath_39 (by decide) rfl
theorem dX9_makesPath_42 : decode cX9_makesPath 42 = .ok (.iload_n 2, 1) := by decide +kernel
theorem sX9_makesPath_42 : ab_X rom K cX9_makesPath 7 2 42 (v0 :: v1 :: .int x :: ls) st hp = ab_X rom K cX9_makesPath 7 2 43 (v0 :: v1 :: .int x :: ls) (.int x :: st) hp := ax_iload_n dX9_makesPath_42 rfl rfl
theorem dX9_makesPath_43 : decode cX9_makesPath 43 = .ok (.iconst 2, 1) := by decide +kernel
theorem sX9_makesPath_43 : ab_X rom K cX9_makesPath 7 2 43 ls st hp = ab_X rom K cX9_makesPath 7 2 44 ls (.int 2 :: st) hp := ax_iconst dX9_makesPath_43 (by decide) rfl
theorem dX9_makesPath_44 : decode cX9_makesPath 44 = .ok (.idiv, 1) := by decide +kernel
theorem sX9_makesPath_44 : ab_X rom K cX9_makesPath 7 2 44 ls (.int y :: .int x :: st) hp = if y = 0 then none else ab_X rom K cX9_makesPath 7 2 45 ls (.int (x / y) :: st) hp := ay_idiv dX9_makesPath_44 rfl
theorem dX9_makesPath_45 : decode cX9_makesPath 45 = .ok (.goto 10, 3) := by decide +kernel
theorem sX9_makesPath_45 : ab_X rom K cX9_makesPath 7 2 45 ls st hp = ab_X rom K cX9_makesPath 7 2 55 ls st hp := ax_goto dX9_makesPath_45 (by decide)
theorem dX9_makesPath_48 : decode cX9_makesPath 48 = .ok (.iload_n 1, 1) := by decide +kernel
theorem sX9_makesPath_48 : ab_X rom K cX9_makesPath 7 2 48 (v0 :: .int x :: ls) st hp = ab_X rom K cX9_makesPath 7 2 49 (v0 :: .int x :: ls) (.int x :: st) hp := ax_iload_n dX9_makesPath_48 rfl rfl
theorem dX9_makesPath_49 : decode cX9_makesPath 49 = .ok (.iconst 1, 1) := by decide +kernel
theorem sX9_makesPath_49 : ab_X rom K cX9_makesPath 7 2 49 ls st hp = ab_X rom K cX9_makesPath 7 2 50 ls (.int 1 :: st) hp := ax_iconst dX9_makesPath_49 (by decide) rfl
theorem dX9_makesPath_50 : decode cX9_makesPath 50 = .ok (.isub, 1) := by decide +kernel
theorem sX9_makesPath_50 : ab_X rom K cX9_makesPath 7 2 50 ls (.int y :: .int x :: st) hp = ab_X rom K cX9_makesPath 7 2 51 ls (.int (x - y) :: st) hp := ax_isub dX9_makesPath_50 rfl
theorem dX9_makesPath_51 : decode cX9_makesPath 51 = .ok (.iload_n 2, 1) := by decide +kernel
theorem sX9_makesPath_51 : ab_X rom K cX9_makesPath 7 2 51 (v0 :: v1 :: .int x :: ls) st hp = ab_X rom K cX9_makesPath 7 2 52 (v0 :: v1 :: .int x :: ls) (.int x :: st) hp := ax_iload_n dX9_makesPath_51 rfl rfl
theorem dX9_makesPath_52 : decode cX9_makesPath 52 = .ok (.iconst 2, 1) := by decide +kernel
theorem sX9_makesPath_52 : ab_X rom K cX9_makesPath 7 2 52 ls st hp = ab_X rom K cX9_makesPath 7 2 53 ls (.int 2 :: st) hp := ax_iconst dX9_makesPath_52 (by decide) rfl
theorem dX9_makesPath_53 : decode cX9_makesPath 53 = .ok (.idiv, 1) := by decide +kernel
theorem sX9_makesPath_53 : ab_X rom K cX9_makesPath 7 2 53 ls (.int y :: .int x :: st) hp = if y = 0 then none else ab_X rom K cX9_makesPath 7 2 54 ls (.int (x / y) :: st) hp := ay_idiv dX9_makesPath_53 rfl
theorem dX9_makesPath_54 : decode cX9_makesPath 54 = .ok (.isub, 1) := by decide +kernel
theorem sX9_makesPath_54 : ab_X rom K cX9_makesPath 7 2 54 ls (.int y :: .int x :: st) hp = ab_X rom K cX9_makesPath 7 2 55 ls (.int (x - y) :: st) hp := ax_isub dX9_makesPath_54 rfl
theorem dX9_makesPath_55 : decode cX9_makesPath 55 = .ok (.iastore, 1) := by decide +kernel
theorem sX9_makesPath_55 : ab_X rom K cX9_makesPath 7 2 55 ls (.int y :: .int x :: .ref a :: st) hp = (ab_awr 0 hp a x y).bind (fun hp' => ab_X rom K cX9_makesPath 7 2 56 ls st hp') := ax_iastore dX9_makesPath_55 rfl
theorem dX9_makesPath_56 : decode cX9_makesPath 56 = .ok (.iload_n 2, 1) := by decide +kernel
theorem sX9_makesPath_56 : ab_X rom K cX9_makesPath 7 2 56 (v0 :: v1 :: .int x :: ls) st hp = ab_X rom K cX9_makesPath 7 2 57 (v0 :: v1 :: .int x :: ls) (.int x :: st) hp := ax_iload_n dX9_makesPath_56 rfl rfl
theorem dX9_makesPath_57 : decode cX9_makesPath 57 = .ok (.ifCond .le 11, 3) := by decide +kernel
theorem sX9_makesPath_57 : ab_X rom K cX9_makesPath 7 2 57 ls (.int x :: st) hp = if 0 < x then ab_X rom K cX9_makesPath 7 2 60 ls st hp else ab_X rom K cX9_makesPath 7 2 68 ls st hp := ax_if_le dX9_makesPath_57 (by decide) rfl
theorem dX9_makesPath_60 : decode cX9_makesPath 60 = .ok (.aload_n 0, 1) := by decide +kernel
theorem sX9_makesPath_60 : ab_X rom K cX9_makesPath 7 2 60 (.ref a :: ls) st hp = ab_X rom K cX9_makesPath 7 2 61 (.ref a :: ls) (.ref a :: st) hp := ax_aload_n dX9_makesPath_60 rfl rfl
theorem dX9_makesPath_61 : decode cX9_makesPath 61 = .ok (.iload_n 2, 1) := by decide +kernel
theorem sX9_makesPath_61 : ab_X rom K cX9_makesPath 7 2 61 (v0 :: v1 :: .int x :: ls) st hp = ab_X rom K cX9_makesPath 7 2 62 (v0 :: v1 :: .int x :: ls) (.int x :: st) hp := ax_iload_n dX9_makesPath_61 rfl rfl
theorem dX9_makesPath_62 : decode cX9_makesPath 62 = .ok (.iconst 1, 1) := by decide +kernel
theorem sX9_makesPath_62 : ab_X rom K cX9_makesPath 7 2 62 ls st hp = ab_X rom K cX9_makesPath 7 2 63 ls (.int 1 :: st) hp := ax_iconst dX9_makesPath_62 (by decide) rfl
theorem dX9_makesPath_63 : decode cX9_makesPath 63 = .ok (.isub, 1) := by decide +kernel
theorem sX9_makesPath_63 : ab_X rom K cX9_makesPath 7 2 63 ls (.int y :: .int x :: st) hp = ab_X rom K cX9_makesPath 7 2 64 ls (.int (x - y) :: st) hp := ax_isub dX9_makesPath_63 rfl
theorem dX9_makesPath_64 : decode cX9_makesPath 64 = .ok (.iload_n 2, 1) := by decide +kernel
theorem sX9_makesPath_64 : ab_X rom K cX9_makesPath 7 2 64 (v0 :: v1 :: .int x :: ls) st hp = ab_X rom K cX9_makesPath 7 2 65 (v0 :: v1 :: .int x :: ls) (.int x :: st) hp := ax_iload_n dX9_makesPath_64 rfl rfl
theorem dX9_makesPath_65 : decode cX9_makesPath 65 = .ok (.invokevirtual 335, 3) := by decide +kernel
theorem sX9_makesPath_65_0 : ab_X rom K cX9_makesPath 7 2 65 ls [w2, w1, .ref a] hp = if ab_iso hp a 7 = true then (K 191 (.ref a :: [w1, w2]) hp).bind (fun o => ab_X rom K cX9_makesPath 7 2 68 ls (o.1.toList ++ []) o.2) else none := ay_virtual (as := [w1, w2]) (st := []) dX9_makesPath_65 kc_7_335 rfl rfl (Nat.le_of_ble_eq_true rfl)
theorem sX9_makesPath_65_1 : ab_X rom K cX9_makesPath 7 2 65 ls [w2, w1, .ref a, v0] hp = if ab_iso hp a 7 = true then (K 191 (.ref a :: [w1, w2]) hp).bind (fun o => ab_X rom K cX9_makesPath 7 2 68 ls (o.1.toList ++ [v0]) o.2) else none := ay_virtual (as := [w1, w2]) (st := [v0]) dX9_makesPath_65 kc_7_335 rfl rfl (Nat.le_of_ble_eq_true rfl)
theorem sX9_makesPath_65_2 : ab_X rom K cX9_makesPath 7 2 65 ls [w2, w1, .ref a, v0, v1] hp = if ab_iso hp a 7 = true then (K 191 (.ref a :: [w1, w2]) hp).bind (fun o => ab_X rom K cX9_makesPath 7 2 68 ls (o.1.toList ++ [v0, v1]) o.2) else none := ay_virtual (as := [w1, w2]) (st := [v0, v1]) dX9_makesPath_65 kc_7_335 rfl rfl (Nat.le_of_ble_eq_true rfl)
theorem sX9_makesPath_65_3 : ab_X rom K cX9_makesPath 7 2 65 ls [w2, w1, .ref a, v0, v1, v2] hp = if ab_iso hp a 7 = true then (K 191 (.ref a :: [w1, w2]) hp).bind (fun o => ab_X rom K cX9_makesPath 7 2 68 ls (o.1.toList ++ [v0, v1, v2]) o.2) else none := ay_virtual (as := [w1, w2]) (st := [v0, v1, v2]) dX9_makesPath_65 kc_7_335 rfl rfl (Nat.le_of_ble_eq_true rfl)
theorem dX9_makesPath_68 : decode cX9_makesPath 68 = .ok (.iinc 2 1, 3) := by decide +kernel
theorem sX9_makesPath_68i : ab_X rom K cX9_makesPath 7 2 68 (v0 :: .int y :: .int x :: ls) st hp = ab_X rom K cX9_makesPath 7 2 71 (v0 :: .int y :: .int (x + 1) :: ls) st hp := ax_iinc dX9_makesPath_68 rfl (ab_nl_c1 (j := 1) (v := .int y) rfl (ab_c1_int _)) (by decide) rfl rfl
theorem sX9_makesPath_68r : ab_X rom K cX9_makesPath 7 2 68 (v0 :: .ref a2 :: .int x :: ls) st hp = ab_X rom K cX9_makesPath 7 2 71 (v0 :: .ref a2 :: .int (x + 1) :: ls) st hp := ax_iinc dX9_makesPath_68 rfl (ab_nl_c1 (j := 1) (v := .ref a2) rfl (ab_c1_ref _)) (by decide) rfl rfl
theorem sX9_makesPath_68n : ab_X rom K cX9_makesPath 7 2 68 (v0 :: .null :: .int x :: ls) st hp = ab_X rom K cX9_makesPath 7 2 71 (v0 :: .null :: .int (x + 1) :: ls) st hp := ax_iinc dX9_makesPath_68 rfl (ab_nl_c1 (j := 1) (v := .null) rfl ab_c1_null) (by decide) rfl rfl
theorem dX9_makesPath_71 : decode cX9_makesPath 71 = .ok (.goto (-48), 3) := by decide +kernel
theorem sX9_makesPath_71 : ab_X rom K cX9_makesPath 7 2 71 ls st hp = ab_X rom K cX9_makesPath 7 2 23 ls st hp := ax_goto dX9_makesPath_71 (by decide)
theorem dX9_makesPath_74 : decode cX9_makesPath 74 = .ok (.iconst 1, 1) := by decide +kernel
theorem sX9_makesPath_74 : ab_X rom K cX9_makesPath 7 2 74 ls st hp = ab_X rom K cX9_makesPath 7 2 75 ls (.int 1 :: st) hp := ax_iconst dX9_makesPath_74 (by decide) rfl
theorem dX9_makesPath_75 : decode cX9_makesPath 75 = .ok (.ireturn, 1) := by decide +kernel
theorem sX9_makesPath_75 : ab_X rom K cX9_makesPath 7 2 75 ls [.int x] hp = if x = 0 ∨ x = 1 then some (some (.int x), hp) else none := ay_zret dX9_makesPath_75 rfl
theorem tX9_makesRing : ab_mT[195]? = some (yX9_makesRing, cX9_makesRing, 3, 2, 7) := by decide +kernel
theorem mX9_makesRing {d : Nat} {a0 : Nat} {x0 : Int32} : ab_M rom (d + 1) 195 [.ref a0, .int x0] hp = ab_X rom (ab_M rom d) cX9_makesRing 7 2 0 [.ref a0, .int x0, .null] [] hp := ab_M_eq tX9_makesRing (Nat.le_of_ble_eq_true rfl)
theorem dX9_makesRing_0 : decode cX9_makesRing 0 = .ok (.iload_n 1, 1) := by decide +kernel
theorem sX9_makesRing_0 : ab_X rom K cX9_makesRing 7 2 0 (v0 :: .int x :: ls) st hp = ab_X rom K cX9_makesRing 7 2 1 (v0 :: .int x :: ls) (.int x :: st) hp := ax_iload_n dX9_makesRing_0 rfl rfl
theorem dX9_makesRing_1 : decode cX9_makesRing 1 = .ok (.i2l, 1) := by decide +kernel
theorem sX9_makesRing_1 : ab_X rom K cX9_makesRing 7 2 1 ls (.int x :: st) hp = ab_X rom K cX9_makesRing 7 2 2 ls (.long x.toInt64 :: st) hp := ax_i2l dX9_makesRing_1 rfl
theorem dX9_makesRing_2 : decode cX9_makesRing 2 = .ok (.ldc2_w 345, 3) := by decide +kernel
theorem sX9_makesRing_2 : ab_X rom K cX9_makesRing 7 2 2 ls st hp = ab_X rom K cX9_makesRing 7 2 5 ls (.long 3 :: st) hp := ax_ldc2 dX9_makesRing_2 kl_7_345 rfl
theorem dX9_makesRing_5 : decode cX9_makesRing 5 = .ok (.ldc2_w 341, 3) := by decide +kernel
theorem sX9_makesRing_5 : ab_X rom K cX9_makesRing 7 2 5 ls st hp = ab_X rom K cX9_makesRing 7 2 8 ls (.long 7 :: st) hp := ax_ldc2 dX9_makesRing_5 kl_7_341 rfl
theorem dX9_makesRing_8 : decode cX9_makesRing 8 = .ok (.invokestatic 56, 3) := by decide +kernel
theorem sX9_makesRing_8_0 : ab_X rom K cX9_makesRing 7 2 8 ls [w3, w2, w1] hp = (K 159 [w1, w2, w3] hp).bind (fun o => ab_X rom K cX9_makesRing 7 2 11 ls (o.1.toList ++ []) o.2) := ax_static (as := [w1, w2, w3]) (st := []) dX9_makesRing_8 kc_7_56 rfl rfl (Nat.le_of_ble_eq_true rfl)
theorem sX9_makesRing_8_1 : ab_X rom K cX9_makesRing 7 2 8 ls [w3, w2, w1, v0] hp = (K 159 [w1, w2, w3] hp).bind (fun o => ab_X rom K cX9_makesRing 7 2 11 ls (o.1.toList ++ [v0]) o.2) := ax_static (as := [w1, w2, w3]) (st := [v0]) dX9_makesRing_8 kc_7_56 rfl rfl (Nat.le_of_ble_eq_true rfl)
theorem sX9_makesRing_8_2 : ab_X rom K cX9_makesRing 7 2 8 ls [w3, w2, w1, v0, v1] hp = (K 159 [w1, w2, w3] hp).bind (fun o => ab_X rom K cX9_makesRing 7 2 11 ls (o.1.toList ++ [v0, v1]) o.2) := ax_static (as := [w1, w2, w3]) (st := [v0, v1]) dX9_makesRing_8 kc_7_56 rfl rfl (Nat.le_of_ble_eq_true rfl)
theorem sX9_makesRing_8_3 : ab_X rom K cX9_makesRing 7 2 8 ls [w3, w2, w1, v0, v1, v2] hp = (K 159 [w1, w2, w3] hp).bind (fun o => ab_X rom K cX9_makesRing 7 2 11 ls (o.1.toList ++ [v0, v1, v2]) o.2) := ax_static (as := [w1, w2, w3]) (st := [v0, v1, v2]) dX9_makesRing_8 kc_7_56 rfl rfl (Nat.le_of_ble_eq_true rfl)
theorem dX9_makesRing_11 : decode cX9_makesRing 11 = .ok (.ifCond .ne 5, 3) := by decide +kernel
theorem sX9_makesRing_11 : ab_X rom K cX9_makesRing 7 2 11 ls (.int x :: st) hp = if x = 0 then ab_X rom K cX9_makesRing 7 2 14 ls st hp else ab_X rom K cX9_makesRing 7 2 16 ls st hp := ax_if_ne dX9_makesRing_11 (by decide) rfl
theorem dX9_makesRing_14 : decode cX9_makesRing 14 = .ok (.iconst 0, 1) := by decide +kernel
theorem sX9_makesRing_14 : ab_X rom K cX9_makesRing 7 2 14 ls st hp = ab_X rom K cX9_makesRing 7 2 15 ls (.int 0 :: st) hp := ax_iconst dX9_makesRing_14 (by decide) rfl
theorem dX9_makesRing_15 : decode cX9_makesRing 15 = .ok (.ireturn, 1) := by decide +kernel
theorem sX9_makesRing_15 : ab_X rom K cX9_makesRing 7 2 15 ls [.int x] hp = if x = 0 ∨ x = 1 then some (some (.int x), hp) else none := ay_zret dX9_makesRing_15 rfl
theorem dX9_makesRing_16 : decode cX9_makesRing 16 = .ok (.aload_n 0, 1) := by decide +kernel
theorem sX9_makesRing_16 : ab_X rom K cX9_makesRing 7 2 16 (.ref a :: ls) st hp = ab_X rom K cX9_makesRing 7 2 17 (.ref a :: ls) (.ref a :: st) hp := ax_aload_n dX9_makesRing_16 rfl rfl
theorem dX9_makesRing_17 : decode cX9_makesRing 17 = .ok (.iload_n 1, 1) := by decide +kernel
theorem sX9_makesRing_17 : ab_X rom K cX9_makesRing 7 2 17 (v0 :: .int x :: ls) st hp = ab_X rom K cX9_makesRing 7 2 18 (v0 :: .int x :: ls) (.int x :: st) hp := ax_iload_n dX9_makesRing_17 rfl rfl
theorem dX9_makesRing_18 : decode cX9_makesRing 18 = .ok (.invokevirtual 328, 3) := by decide +kernel
theorem sX9_makesRing_18_0 : ab_X rom K cX9_makesRing 7 2 18 ls [w1, .ref a] hp = if ab_iso hp a 7 = true then (K 190 (.ref a :: [w1]) hp).bind (fun o => ab_X rom K cX9_makesRing 7 2 21 ls (o.1.toList ++ []) o.2) else none := ay_virtual (as := [w1]) (st := []) dX9_makesRing_18 kc_7_328 rfl rfl (Nat.le_of_ble_eq_true rfl)
theorem sX9_makesRing_18_1 : ab_X rom K cX9_makesRing 7 2 18 ls [w1, .ref a, v0] hp = if ab_iso hp a 7 = true then (K 190 (.ref a :: [w1]) hp).bind (fun o => ab_X rom K cX9_makesRing 7 2 21 ls (o.1.toList ++ [v0]) o.2) else none := ay_virtual (as := [w1]) (st := [v0]) dX9_makesRing_18 kc_7_328 rfl rfl (Nat.le_of_ble_eq_true rfl)
theorem sX9_makesRing_18_2 : ab_X rom K cX9_makesRing 7 2 18 ls [w1, .ref a, v0, v1] hp = if ab_iso hp a 7 = true then (K 190 (.ref a :: [w1]) hp).bind (fun o => ab_X rom K cX9_makesRing 7 2 21 ls (o.1.toList ++ [v0, v1]) o.2) else none := ay_virtual (as := [w1]) (st := [v0, v1]) dX9_makesRing_18 kc_7_328 rfl rfl (Nat.le_of_ble_eq_true rfl)
theorem sX9_makesRing_18_3 : ab_X rom K cX9_makesRing 7 2 18 ls [w1, .ref a, v0, v1, v2] hp = if ab_iso hp a 7 = true then (K 190 (.ref a :: [w1]) hp).bind (fun o => ab_X rom K cX9_makesRing 7 2 21 ls (o.1.toList ++ [v0, v1, v2]) o.2) else none := ay_virtual (as := [w1]) (st := [v0, v1, v2]) dX9_makesRing_18 kc_7_328 rfl rfl (Nat.le_of_ble_eq_true rfl)
theorem dX9_makesRing_21 : decode cX9_makesRing 21 = .ok (.iconst 0, 1) := by decide +kernel
theorem sX9_makesRing_21 : ab_X rom K cX9_makesRing 7 2 21 ls st hp = ab_X rom K cX9_makesRing 7 2 22 ls (.int 0 :: st) hp := ax_iconst dX9_makesRing_21 (by decide) rfl
theorem dX9_makesRing_22 : decode cX9_makesRing 22 = .ok (.istore_n 2, 1) := by decide +kernel
theorem sX9_makesRing_22i : ab_X rom K cX9_makesRing 7 2 22 (v0 :: .int y :: v2 :: ls) (.int x :: st) hp = ab_X rom K cX9_makesRing 7 2 23 (v0 :: .int y :: .int x :: ls) st hp := ax_istore_n dX9_makesRing_22 (ax_lt (v := v2) rfl) (ab_nl_c1 (j := 1) (v := .int y) rfl (ab_c1_int _)) rfl rfl
theorem sX9_makesRing_22r : ab_X rom K cX9_makesRing 7 2 22 (v0 :: .ref a2 :: v2 :: ls) (.int x :: st) hp = ab_X rom K cX9_makesRing 7 2 23 (v0 :: .ref a2 :: .int x :: ls) st hp := ax_istore_n dX9_makesRing_22 (ax_lt (v := v2) rfl) (ab_nl_c1 (j := 1) (v := .ref a2) rfl (ab_c1_ref _)) rfl rfl
theorem sX9_makesRing_22n : ab_X rom K cX9_makesRing 7 2 22 (v0 :: .null :: v2 :: ls) (.int x :: st) hp = ab_X rom K cX9_makesRing 7 2 23 (v0 :: .null :: .int x :: ls) st hp := ax_istore_n dX9_makesRing_22 (ax_lt (v := v2) rfl) (ab_nl_c1 (j := 1) (v := .null) rfl ab_c1_null) rfl rfl
theorem dX9_makesRing_23 : decode cX9_makesRing 23 = .ok (.iload_n 2, 1) := by decide +kernel
theorem sX9_makesRing_23 : ab_X rom K cX9_makesRing 7 2 23 (v0 :: v1 :: .int x :: ls) st hp = ab_X rom K cX9_makesRing 7 2 24 (v0 :: v1 :: .int x :: ls) (.int x :: st) hp := ax_iload_n dX9_makesRing_23 rfl rfl
theorem dX9_makesRing_24 : decode cX9_makesRing 24 = .ok (.iload_n 1, 1) := by decide +kernel
theorem sX9_makesRing_24 : ab_X rom K cX9_makesRing 7 2 24 (v0 :: .int x :: ls) st hp = ab_X rom K cX9_makesRing 7 2 25 (v0 :: .int x :: ls) (.int x :: st) hp := ax_iload_n dX9_makesRing_24 rfl rfl
theorem dX9_makesRing_25 : decode cX9_makesRing 25 = .ok (.if_icmp .ge 19, 3) := by decide +kernel
theorem sX9_makesRing_25 : ab_X rom K cX9_makesRing 7 2 25 ls (.int y :: .int x :: st) hp = if x < y then ab_X rom K cX9_makesRing 7 2 28 ls st hp else ab_X rom K cX9_makesRing 7 2 44 ls st hp := ax_icmp_ge dX9_makesRing_25 (by decide) rfl
theorem dX9_makesRing_28 : decode cX9_makesRing 28 = .ok (.aload_n 0, 1) := by decide +kernel
theorem sX9_makesRing_28 : ab_X rom K cX9_makesRing 7 2 28 (.ref a :: ls) st hp = ab_X rom K cX9_makesRing 7 2 29 (.ref a :: ls) (.ref a :: st) hp := ax_aload_n dX9_makesRing_28 rfl rfl
theorem dX9_makesRing_29 : decode cX9_makesRing 29 = .ok (.iload_n 2, 1) := by decide +kernel
theorem sX9_makesRing_29 : ab_X rom K cX9_makesRing 7 2 29 (v0 :: v1 :: .int x :: ls) st hp = ab_X rom K cX9_makesRing 7 2 30 (v0 :: v1 :: .int x :: ls) (.int x :: st) hp := ax_iload_n dX9_makesRing_29 rfl rfl
theorem dX9_makesRing_30 : decode cX9_makesRing 30 = .ok (.iload_n 2, 1) := by decide +kernel
theorem sX9_makesRing_30 : ab_X rom K cX9_makesRing 7 2 30 (v0 :: v1 :: .int x :: ls) st hp = ab_X rom K cX9_makesRing 7 2 31 (v0 :: v1 :: .int x :: ls) (.int x :: st) hp := ax_iload_n dX9_makesRing_30 rfl rfl
theorem dX9_makesRing_31 : decode cX9_makesRing 31 = .ok (.iconst 1, 1) := by decide +kernel
theorem sX9_makesRing_31 : ab_X rom K cX9_makesRing 7 2 31 ls st hp = ab_X rom K cX9_makesRing 7 2 32 ls (.int 1 :: st) hp := ax_iconst dX9_makesRing_31 (by decide) rfl
theorem dX9_makesRing_32 : decode cX9_makesRing 32 = .ok (.iadd, 1) := by decide +kernel
theorem sX9_makesRing_32 : ab_X rom K cX9_makesRing 7 2 32 ls (.int y :: .int x :: st) hp = ab_X rom K cX9_makesRing 7 2 33 ls (.int (x + y) :: st) hp := ax_iadd dX9_makesRing_32 rfl
theorem dX9_makesRing_33 : decode cX9_makesRing 33 = .ok (.iload_n 1, 1) := by decide +kernel
theorem sX9_makesRing_33 : ab_X rom K cX9_makesRing 7 2 33 (v0 :: .int x :: ls) st hp = ab_X rom K cX9_makesRing 7 2 34 (v0 :: .int x :: ls) (.int x :: st) hp := ax_iload_n dX9_makesRing_33 rfl rfl
theorem dX9_makesRing_34 : decode cX9_makesRing 34 = .ok (.irem, 1) := by decide +kernel
theorem sX9_makesRing_34 : ab_X rom K cX9_makesRing 7 2 34 ls (.int y :: .int x :: st) hp = if y = 0 then none else ab_X rom K cX9_makesRing 7 2 35 ls (.int (ab_rem x y) :: st) hp := ay_irem dX9_makesRing_34 rfl
theorem dX9_makesRing_35 : decode cX9_makesRing 35 = .ok (.invokevirtual 335, 3) := by decide +kernel
theorem sX9_makesRing_35_0 : ab_X rom K cX9_makesRing 7 2 35 ls [w2, w1, .ref a] hp = if ab_iso hp a 7 = true then (K 191 (.ref a :: [w1, w2]) hp).bind (fun o => ab_X rom K cX9_makesRing 7 2 38 ls (o.1.toList ++ []) o.2) else none := ay_virtual (as := [w1, w2]) (st := []) dX9_makesRing_35 kc_7_335 rfl rfl (Nat.le_of_ble_eq_true rfl)
theorem sX9_makesRing_35_1 : ab_X rom K cX9_makesRing 7 2 35 ls [w2, w1, .ref a, v0] hp = if ab_iso hp a 7 = true then (K 191 (.ref a :: [w1, w2]) hp).bind (fun o => ab_X rom K cX9_makesRing 7 2 38 ls (o.1.toList ++ [v0]) o.2) else none := ay_virtual (as := [w1, w2]) (st := [v0]) dX9_makesRing_35 kc_7_335 rfl rfl (Nat.le_of_ble_eq_true rfl)
theorem sX9_makesRing_35_2 : ab_X rom K cX9_makesRing 7 2 35 ls [w2, w1, .ref a, v0, v1] hp = if ab_iso hp a 7 = true then (K 191 (.ref a :: [w1, w2]) hp).bind (fun o => ab_X rom K cX9_makesRing 7 2 38 ls (o.1.toList ++ [v0, v1]) o.2) else none := ay_virtual (as := [w1, w2]) (st := [v0, v1]) dX9_makesRing_35 kc_7_335 rfl rfl (Nat.le_of_ble_eq_true rfl)
theorem sX9_makesRing_35_3 : ab_X rom K cX9_makesRing 7 2 35 ls [w2, w1, .ref a, v0, v1, v2] hp = if ab_iso hp a 7 = true then (K 191 (.ref a :: [w1, w2]) hp).bind (fun o => ab_X rom K cX9_makesRing 7 2 38 ls (o.1.toList ++ [v0, v1, v2]) o.2) else none := ay_virtual (as := [w1, w2]) (st := [v0, v1, v2]) dX9_makesRing_35 kc_7_335 rfl rfl (Nat.le_of_ble_eq_true rfl)
theorem dX9_makesRing_38 : decode cX9_makesRing 38 = .ok (.iinc 2 1, 3) := by decide +kernel
theorem sX9_makesRing_38i : ab_X rom K cX9_makesRing 7 2 38 (v0 :: .int y :: .int x :: ls) st hp = ab_X rom K cX9_makesRing 7 2 41 (v0 :: .int y :: .int (x + 1) :: ls) st hp := ax_iinc dX9_makesRing_38 rfl (ab_nl_c1 (j := 1) (v := .int y) rfl (ab_c1_int _)) (by decide) rfl rfl
theorem sX9_makesRing_38r : ab_X rom K cX9_makesRing 7 2 38 (v0 :: .ref a2 :: .int x :: ls) st hp = ab_X rom K cX9_makesRing 7 2 41 (v0 :: .ref a2 :: .int (x + 1) :: ls) st hp := ax_iinc dX9_makesRing_38 rfl (ab_nl_c1 (j := 1) (v := .ref a2) rfl (ab_c1_ref _)) (by decide) rfl rfl
theorem sX9_makesRing_38n : ab_X rom K cX9_makesRing 7 2 38 (v0 :: .null :: .int x :: ls) st hp = ab_X rom K cX9_makesRing 7 2 41 (v0 :: .null :: .int (x + 1) :: ls) st hp := ax_iinc dX9_makesRing_38 rfl (ab_nl_c1 (j := 1) (v := .null) rfl ab_c1_null) (by decide) rfl rfl
theorem dX9_makesRing_41 : decode cX9_makesRing 41 = .ok (.goto (-18), 3) := by decide +kernel
theorem sX9_makesRing_41 : ab_X rom K cX9_makesRing 7 2 41 ls st hp = ab_X rom K cX9_makesRing 7 2 23 ls st hp := ax_goto dX9_makesRing_41 (by decide)
theorem dX9_makesRing_44 : decode cX9_makesRing 44 = .ok (.iload_n 1, 1) := by decide +kernel
theorem sX9_makesRing_44 : ab_X rom K cX9_makesRing 7 2 44 (v0 :: .int x :: ls) st hp = ab_X rom K cX9_makesRing 7 2 45 (v0 :: .int x :: ls) (.int x :: st) hp := ax_iload_n dX9_makesRing_44 rfl rfl
theorem dX9_makesRing_45 : decode cX9_makesRing 45 = .ok (.iconst 3, 1) := by decide +kernel
theorem sX9_makesRing_45 : ab_X rom K cX9_makesRing 7 2 45 ls st hp = ab_X rom K cX9_makesRing 7 2 46 ls (.int 3 :: st) hp := ax_iconst dX9_makesRing_45 (by decide) rfl
theorem dX9_makesRing_46 : decode cX9_makesRing 46 = .ok (.if_icmp .ne 14, 3) := by decide +kernel
theorem sX9_makesRing_46 : ab_X rom K cX9_makesRing 7 2 46 ls (.int y :: .int x :: st) hp = if x = y then ab_X rom K cX9_makesRing 7 2 49 ls st hp else ab_X rom K cX9_makesRing 7 2 60 ls st hp := ax_icmp_ne dX9_makesRing_46 (by decide) rfl
theorem dX9_makesRing_49 : decode cX9_makesRing 49 = .ok (.aload_n 0, 1) := by decide +kernel
theorem sX9_makesRing_49 : ab_X rom K cX9_makesRing 7 2 49 (.ref a :: ls) st hp = ab_X rom K cX9_makesRing 7 2 50 (.ref a :: ls) (.ref a :: st) hp := ax_aload_n dX9_makesRing_49 rfl rfl
theorem dX9_makesRing_50 : decode cX9_makesRing 50 = .ok (.iconst 0, 1) := by decide +kernel
theorem sX9_makesRing_50 : ab_X rom K cX9_makesRing 7 2 50 ls st hp = ab_X rom K cX9_makesRing 7 2 51 ls (.int 0 :: st) hp := ax_iconst dX9_makesRing_50 (by decide) rfl
theorem dX9_makesRing_51 : decode cX9_makesRing 51 = .ok (.iconst 1, 1) := by decide +kernel
theorem sX9_makesRing_51 : ab_X rom K cX9_makesRing 7 2 51 ls st hp = ab_X rom K cX9_makesRing 7 2 52 ls (.int 1 :: st) hp := ax_iconst dX9_makesRing_51 (by decide) rfl
theorem dX9_makesRing_52 : decode cX9_makesRing 52 = .ok (.iconst 3, 1) := by decide +kernel
theorem sX9_makesRing_52 : ab_X rom K cX9_makesRing 7 2 52 ls st hp = ab_X rom K cX9_makesRing 7 2 53 ls (.int 3 :: st) hp := ax_iconst dX9_makesRing_52 (by decide) rfl
theorem dX9_makesRing_53 : decode cX9_makesRing 53 = .ok (.iconst (-1), 1) := by decide +kernel
theorem sX9_makesRing_53 : ab_X rom K cX9_makesRing 7 2 53 ls st hp = ab_X rom K cX9_makesRing 7 2 54 ls (.int (-1) :: st) hp := ax_iconst dX9_makesRing_53 (by decide) rfl
theorem dX9_makesRing_54 : decode cX9_makesRing 54 = .ok (.invokevirtual 347, 3) := by decide +kernel
theorem sX9_makesRing_54_0 : ab_X rom K cX9_makesRing 7 2 54 ls [w4, w3, w2, w1, .ref a] hp = if ab_iso hp a 7 = true then (K 192 (.ref a :: [w1, w2, w3, w4]) hp).bind (fun o => ab_X rom K cX9_makesRing 7 2 57 ls (o.1.toList ++ []) o.2) else none := ay_virtual (as := [w1, w2, w3, w4]) (st := []) dX9_makesRing_54 kc_7_347 rfl rfl (Nat.le_of_ble_eq_true rfl)
theorem sX9_makesRing_54_1 : ab_X rom K cX9_makesRing 7 2 54 ls [w4, w3, w2, w1, .ref a, v0] hp = if ab_iso hp a 7 = true then (K 192 (.ref a :: [w1, w2, w3, w4]) hp).bind (fun o => ab_X rom K cX9_makesRing 7 2 57 ls (o.1.toList ++ [v0]) o.2) else none := ay_virtual (as := [w1, w2, w3, w4]) (st := [v0]) dX9_makesRing_54 kc_7_347 rfl rfl (Nat.le_of_ble_eq_true rfl)
theorem sX9_makesRing_54_2 : ab_X rom K cX9_makesRing 7 2 54 ls [w4, w3, w2, w1, .ref a, v0, v1] hp = if ab_iso hp a 7 = true then (K 192 (.ref a :: [w1, w2, w3, w4]) hp).bind (fun o => ab_X rom K cX9_makesRing 7 2 57 ls (o.1.toList ++ [v0, v1]) o.2) else none := ay_virtual (as := [w1, w2, w3, w4]) (st := [v0, v1]) dX9_makesRing_54 kc_7_347 rfl rfl (Nat.le_of_ble_eq_true rfl)
theorem sX9_makesRing_54_3 : ab_X rom K cX9_makesRing 7 2 54 ls [w4, w3, w2, w1, .ref a, v0, v1, v2] hp = if ab_iso hp a 7 = true then (K 192 (.ref a :: [w1, w2, w3, w4]) hp).bind (fun o => ab_X rom K cX9_makesRing 7 2 57 ls (o.1.toList ++ [v0, v1, v2]) o.2) else none := ay_virtual (as := [w1, w2, w3, w4]) (st := [v0, v1, v2]) dX9_makesRing_54 kc_7_347 rfl rfl (Nat.le_of_ble_eq_true rfl)
theorem dX9_makesRing_57 : decode cX9_makesRing 57 = .ok (.goto 59, 3) := by decide +kernel
theorem sX9_makesRing_57 : ab_X rom K cX9_makesRing 7 2 57 ls st hp = ab_X rom K cX9_makesRing 7 2 116 ls st hp := ax_goto dX9_makesRing_57 (by decide)
theorem dX9_makesRing_60 : decode cX9_makesRing 60 = .ok (.iload_n 1, 1) := by decide +kernel
theorem sX9_makesRing_60 : ab_X rom K cX9_makesRing 7 2 60 (v0 :: .int x :: ls) st hp = ab_X rom K cX9_makesRing 7 2 61 (v0 :: .int x :: ls) (.int x :: st) hp := ax_iload_n dX9_makesRing_60 rfl rfl
theorem dX9_makesRing_61 : decode cX9_makesRing 61 = .ok (.iconst 4, 1) := by decide +kernel
theorem sX9_makesRing_61 : ab_X rom K cX9_makesRing 7 2 61 ls st hp = ab_X rom K cX9_makesRing 7 2 62 ls (.int 4 :: st) hp := ax_iconst dX9_makesRing_61 (by decide) rfl
theorem dX9_makesRing_62 : decode cX9_makesRing 62 = .ok (.if_icmp .ne 14, 3) := by decide +kernel
theorem sX9_makesRing_62 : ab_X rom K cX9_makesRing 7 2 62 ls (.int y :: .int x :: st) hp = if x = y then ab_X rom K cX9_makesRing 7 2 65 ls st hp else ab_X rom K cX9_makesRing 7 2 76 ls st hp := ax_icmp_ne dX9_makesRing_62 (by decide) rfl
theorem dX9_makesRing_65 : decode cX9_makesRing 65 = .ok (.aload_n 0, 1) := by decide +kernel
theorem sX9_makesRing_65 : ab_X rom K cX9_makesRing 7 2 65 (.ref a :: ls) st hp = ab_X rom K cX9_makesRing 7 2 66 (.ref a :: ls) (.ref a :: st) hp := ax_aload_n dX9_makesRing_65 rfl rfl
theorem dX9_makesRing_66 : decode cX9_makesRing 66 = .ok (.iconst 0, 1) := by decide +kernel
theorem sX9_makesRing_66 : ab_X rom K cX9_makesRing 7 2 66 ls st hp = ab_X rom K cX9_makesRing 7 2 67 ls (.int 0 :: st) hp := ax_iconst dX9_makesRing_66 (by decide) rfl
theorem dX9_makesRing_67 : decode cX9_makesRing 67 = .ok (.iconst 4, 1) := by decide +kernel
theorem sX9_makesRing_67 : ab_X rom K cX9_makesRing 7 2 67 ls st hp = ab_X rom K cX9_makesRing 7 2 68 ls (.int 4 :: st) hp := ax_iconst dX9_makesRing_67 (by decide) rfl
theorem dX9_makesRing_68 : decode cX9_makesRing 68 = .ok (.iconst 1, 1) := by decide +kernel
theorem sX9_makesRing_68 : ab_X rom K cX9_makesRing 7 2 68 ls st hp = ab_X rom K cX9_makesRing 7 2 69 ls (.int 1 :: st) hp := ax_iconst dX9_makesRing_68 (by decide) rfl
theorem dX9_makesRing_69 : decode cX9_makesRing 69 = .ok (.iconst 2, 1) := by decide +kernel
theorem sX9_makesRing_69 : ab_X rom K cX9_makesRing 7 2 69 ls st hp = ab_X rom K cX9_makesRing 7 2 70 ls (.int 2 :: st) hp := ax_iconst dX9_makesRing_69 (by decide) rfl
theorem dX9_makesRing_70 : decode cX9_makesRing 70 = .ok (.invokevirtual 347, 3) := by decide +kernel
theorem sX9_makesRing_70_0 : ab_X rom K cX9_makesRing 7 2 70 ls [w4, w3, w2, w1, .ref a] hp = if ab_iso hp a 7 = true then (K 192 (.ref a :: [w1, w2, w3, w4]) hp).bind (fun o => ab_X rom K cX9_makesRing 7 2 73 ls (o.1.toList ++ []) o.2) else none := ay_virtual (as := [w1, w2, w3, w4]) (st := []) dX9_makesRing_70 kc_7_347 rfl rfl (Nat.le_of_ble_eq_true rfl)
theorem sX9_makesRing_70_1 : ab_X rom K cX9_makesRing 7 2 70 ls [w4, w3, w2, w1, .ref a, v0] hp = if ab_iso hp a 7 = true then (K 192 (.ref a :: [w1, w2, w3, w4]) hp).bind (fun o => ab_X rom K cX9_makesRing 7 2 73 ls (o.1.toList ++ [v0]) o.2) else none := ay_virtual (as := [w1, w2, w3, w4]) (st := [v0]) dX9_makesRing_70 kc_7_347 rfl rfl (Nat.le_of_ble_eq_true rfl)
theorem sX9_makesRing_70_2 : ab_X rom K cX9_makesRing 7 2 70 ls [w4, w3, w2, w1, .ref a, v0, v1] hp = if ab_iso hp a 7 = true then (K 192 (.ref a :: [w1, w2, w3, w4]) hp).bind (fun o => ab_X rom K cX9_makesRing 7 2 73 ls (o.1.toList ++ [v0, v1]) o.2) else none := ay_virtual (as := [w1, w2, w3, w4]) (st := [v0, v1]) dX9_makesRing_70 kc_7_347 rfl rfl (Nat.le_of_ble_eq_true rfl)
theorem sX9_makesRing_70_3 : ab_X rom K cX9_makesRing 7 2 70 ls [w4, w3, w2, w1, .ref a, v0, v1, v2] hp = if ab_iso hp a 7 = true then (K 192 (.ref a :: [w1, w2, w3, w4]) hp).bind (fun o => ab_X rom K cX9_makesRing 7 2 73 ls (o.1.toList ++ [v0, v1, v2]) o.2) else none := ay_virtual (as := [w1, w2, w3, w4]) (st := [v0, v1, v2]) dX9_makesRing_70 kc_7_347 rfl rfl (Nat.le_of_ble_eq_true rfl)
theorem dX9_makesRing_73 : decode cX9_makesRing 73 = .ok (.goto 43, 3) := by decide +kernel
theorem sX9_makesRing_73 : ab_X rom K cX9_makesRing 7 2 73 ls st hp = ab_X rom K cX9_makesRing 7 2 116 ls st hp := ax_goto dX9_makesRing_73 (by decide)
theorem dX9_makesRing_76 : decode cX9_makesRing 76 = .ok (.iload_n 1, 1) := by decide +kernel
theorem sX9_makesRing_76 : ab_X rom K cX9_makesRing 7 2 76 (v0 :: .int x :: ls) st hp = ab_X rom K cX9_makesRing 7 2 77 (v0 :: .int x :: ls) (.int x :: st) hp := ax_iload_n dX9_makesRing_76 rfl rfl
theorem dX9_makesRing_77 : decode cX9_makesRing 77 = .ok (.bipush 7, 2) := by decide +kernel
theorem sX9_makesRing_77 : ab_X rom K cX9_makesRing 7 2 77 ls st hp = ab_X rom K cX9_makesRing 7 2 79 ls (.int 7 :: st) hp := ax_bipush dX9_makesRing_77 (by decide) rfl
theorem dX9_makesRing_79 : decode cX9_makesRing 79 = .ok (.if_icmp .ne 37, 3) := by decide +kernel
theorem sX9_makesRing_79 : ab_X rom K cX9_makesRing 7 2 79 ls (.int y :: .int x :: st) hp = if x = y then ab_X rom K cX9_makesRing 7 2 82 ls st hp else ab_X rom K cX9_makesRing 7 2 116 ls st hp := ax_icmp_ne dX9_makesRing_79 (by decide) rfl
theorem dX9_makesRing_82 : decode cX9_makesRing 82 = .ok (.aload_n 0, 1) := by decide +kernel
theorem sX9_makesRing_82 : ab_X rom K cX9_makesRing 7 2 82 (.ref a :: ls) st hp = ab_X rom K cX9_makesRing 7 2 83 (.ref a :: ls) (.ref a :: st) hp := ax_aload_n dX9_makesRing_82 rfl rfl
theorem dX9_makesRing_83 : decode cX9_makesRing 83 = .ok (.iconst 0, 1) := by decide +kernel
theorem sX9_makesRing_83 : ab_X rom K cX9_makesRing 7 2 83 ls st hp = ab_X rom K cX9_makesRing 7 2 84 ls (.int 0 :: st) hp := ax_iconst dX9_makesRing_83 (by decide) rfl
theorem dX9_makesRing_84 : decode cX9_makesRing 84 = .ok (.bipush 7, 2) := by decide +kernel
theorem sX9_makesRing_84 : ab_X rom K cX9_makesRing 7 2 84 ls st hp = ab_X rom K cX9_makesRing 7 2 86 ls (.int 7 :: st) hp := ax_bipush dX9_makesRing_84 (by decide) rfl
theorem dX9_makesRing_86 : decode cX9_makesRing 86 = .ok (.iconst 1, 1) := by decide +kernel
theorem sX9_makesRing_86 : ab_X rom K cX9_makesRing 7 2 86 ls st hp = ab_X rom K cX9_makesRing 7 2 87 ls (.int 1 :: st) hp := ax_iconst dX9_makesRing_86 (by decide) rfl
theorem dX9_makesRing_87 : decode cX9_makesRing 87 = .ok (.bipush 6, 2) := by decide +kernel
theorem sX9_makesRing_87 : ab_X rom K cX9_makesRing 7 2 87 ls st hp = ab_X rom K cX9_makesRing 7 2 89 ls (.int 6 :: st) hp := ax_bipush dX9_makesRing_87 (by decide) rfl
theorem dX9_makesRing_89 : decode cX9_makesRing 89 = .ok (.invokevirtual 347, 3) := by decide +kernel
theorem sX9_makesRing_89_0 : ab_X rom K cX9_makesRing 7 2 89 ls [w4, w3, w2, w1, .ref a] hp = if ab_iso hp a 7 = true then (K 192 (.ref a :: [w1, w2, w3, w4]) hp).bind (fun o => ab_X rom K cX9_makesRing 7 2 92 ls (o.1.toList ++ []) o.2) else none := ay_virtual (as := [w1, w2, w3, w4]) (st := []) dX9_makesRing_89 kc_7_347 rfl rfl (Nat.le_of_ble_eq_true rfl)
theorem sX9_makesRing_89_1 : ab_X rom K cX9_makesRing 7 2 89 ls [w4, w3, w2, w1, .ref a, v0] hp = if ab_iso hp a 7 = true then (K 192 (.ref a :: [w1, w2, w3, w4]) hp).bind (fun o => ab_X rom K cX9_makesRing 7 2 92 ls (o.1.toList ++ [v0]) o.2) else none := ay_virtual (as := [w1, w2, w3, w4]) (st := [v0]) dX9_makesRing_89 kc_7_347 rfl rfl (Nat.le_of_ble_eq_true rfl)
theorem sX9_makesRing_89_2 : ab_X rom K cX9_makesRing 7 2 89 ls [w4, w3, w2, w1, .ref a, v0, v1] hp = if ab_iso hp a 7 = true then (K 192 (.ref a :: [w1, w2, w3, w4]) hp).bind (fun o => ab_X rom K cX9_makesRing 7 2 92 ls (o.1.toList ++ [v0, v1]) o.2) else none := ay_virtual (as := [w1, w2, w3, w4]) (st := [v0, v1]) dX9_makesRing_89 kc_7_347 rfl rfl (Nat.le_of_ble_eq_true rfl)
theorem sX9_makesRing_89_3 : ab_X rom K cX9_makesRing 7 2 89 ls [w4, w3, w2, w1, .ref a, v0, v1, v2] hp = if ab_iso hp a 7 = true then (K 192 (.ref a :: [w1, w2, w3, w4]) hp).bind (fun o => ab_X rom K cX9_makesRing 7 2 92 ls (o.1.toList ++ [v0, v1, v2]) o.2) else none := ay_virtual (as := [w1, w2, w3, w4]) (st := [v0, v1, v2]) dX9_makesRing_89 kc_7_347 rfl rfl (Nat.le_of_ble_eq_true rfl)
theorem dX9_makesRing_92 : decode cX9_makesRing 92 = .ok (.aload_n 0, 1) := by decide +kernel
theorem sX9_makesRing_92 : ab_X rom K cX9_makesRing 7 2 92 (.ref a :: ls) st hp = ab_X rom K cX9_makesRing 7 2 93 (.ref a :: ls) (.ref a :: st) hp := ax_aload_n dX9_makesRing_92 rfl rfl
theorem dX9_makesRing_93 : decode cX9_makesRing 93 = .ok (.getfield 41, 3) := by decide +kernel
theorem sX9_makesRing_93 : ab_X rom K cX9_makesRing 7 2 93 ls (.ref a :: st) hp = (ab_fld hp a 7 24).bind (fun v => ab_X rom K cX9_makesRing 7 2 96 ls (v :: st) hp) := ax_getfield dX9_makesRing_93 kf_7_41 rfl
theorem dX9_makesRing_96 : decode cX9_makesRing 96 = .ok (.bipush 12, 2) := by decide +kernel
theorem sX9_makesRing_96 : ab_X rom K cX9_makesRing 7 2 96 ls st hp = ab_X rom K cX9_makesRing 7 2 98 ls (.int 12 :: st) hp := ax_bipush dX9_makesRing_96 (by decide) rfl
theorem dX9_makesRing_98 : decode cX9_makesRing 98 = .ok (.iconst 2, 1) := by decide +kernel
theorem sX9_makesRing_98 : ab_X rom K cX9_makesRing 7 2 98 ls st hp = ab_X rom K cX9_makesRing 7 2 99 ls (.int 2 :: st) hp := ax_iconst dX9_makesRing_98 (by decide) rfl
theorem dX9_makesRing_99 : decode cX9_makesRing 99 = .ok (.iastore, 1) := by decide +kernel
theorem sX9_makesRing_99 : ab_X rom K cX9_makesRing 7 2 99 ls (.int y :: .int x :: .ref a :: st) hp = (ab_awr 0 hp a x y).bind (fun hp' => ab_X rom K cX9_makesRing 7 2 100 ls st hp') := ax_iastore dX9_makesRing_99 rfl
theorem dX9_makesRing_100 : decode cX9_makesRing 100 = .ok (.aload_n 0, 1) := by decide +kernel
theorem sX9_makesRing_100 : ab_X rom K cX9_makesRing 7 2 100 (.ref a :: ls) st hp = ab_X rom K cX9_makesRing 7 2 101 (.ref a :: ls) (.ref a :: st) hp := ax_aload_n dX9_makesRing_100 rfl rfl
theorem dX9_makesRing_101 : decode cX9_makesRing 101 = .ok (.getfield 41, 3) := by decide +kernel
theorem sX9_makesRing_101 : ab_X rom K cX9_makesRing 7 2 101 ls (.ref a :: st) hp = (ab_fld hp a 7 24).bind (fun v => ab_X rom K cX9_makesRing 7 2 104 ls (v :: st) hp) := ax_getfield dX9_makesRing_101 kf_7_41 rfl
theorem dX9_makesRing_104 : decode cX9_makesRing 104 = .ok (.bipush 13, 2) := by decide +kernel
theorem sX9_makesRing_104 : ab_X rom K cX9_makesRing 7 2 104 ls st hp = ab_X rom K cX9_makesRing 7 2 106 ls (.int 13 :: st) hp := ax_bipush dX9_makesRing_104 (by decide) rfl
theorem dX9_makesRing_106 : decode cX9_makesRing 106 = .ok (.iconst 4, 1) := by decide +kernel
theorem sX9_makesRing_106 : ab_X rom K cX9_makesRing 7 2 106 ls st hp = ab_X rom K cX9_makesRing 7 2 107 ls (.int 4 :: st) hp := ax_iconst dX9_makesRing_106 (by decide) rfl
theorem dX9_makesRing_107 : decode cX9_makesRing 107 = .ok (.iastore, 1) := by decide +kernel
theorem sX9_makesRing_107 : ab_X rom K cX9_makesRing 7 2 107 ls (.int y :: .int x :: .ref a :: st) hp = (ab_awr 0 hp a x y).bind (fun hp' => ab_X rom K cX9_makesRing 7 2 108 ls st hp') := ax_iastore dX9_makesRing_107 rfl
theorem dX9_makesRing_108 : decode cX9_makesRing 108 = .ok (.aload_n 0, 1) := by decide +kernel
theorem sX9_makesRing_108 : ab_X rom K cX9_makesRing 7 2 108 (.ref a :: ls) st hp = ab_X rom K cX9_makesRing 7 2 109 (.ref a :: ls) (.ref a :: st) hp := ax_aload_n dX9_makesRing_108 rfl rfl
theorem dX9_makesRing_109 : decode cX9_makesRing 109 = .ok (.getfield 41, 3) := by decide +kernel
theorem sX9_makesRing_109 : ab_X rom K cX9_makesRing 7 2 109 ls (.ref a :: st) hp = (ab_fld hp a 7 24).bind (fun v => ab_X rom K cX9_makesRing 7 2 112 ls (v :: st) hp) := ax_getfield dX9_makesRing_109 kf_7_41 rfl
theorem dX9_makesRing_112 : decode cX9_makesRing 112 = .ok (.bipush 14, 2) := by decide +kernel
theorem sX9_makesRing_112 : ab_X rom K cX9_makesRing 7 2 112 ls st hp = ab_X rom K cX9_makesRing 7 2 114 ls (.int 14 :: st) hp := ax_bipush dX9_makesRing_112 (by decide) rfl
theorem dX9_makesRing_114 : decode cX9_makesRing 114 = .ok (.iconst 3, 1) := by decide +kernel
theorem sX9_makesRing_114 : ab_X rom K cX9_makesRing 7 2 114 ls st hp = ab_X rom K cX9_makesRing 7 2 115 ls (.int 3 :: st) hp := ax_iconst dX9_makesRing_114 (by decide) rfl
theorem dX9_makesRing_115 : decode cX9_makesRing 115 = .ok (.iastore, 1) := by decide +kernel
theorem sX9_makesRing_115 : ab_X rom K cX9_makesRing 7 2 115 ls (.int y :: .int x :: .ref a :: st) hp = (ab_awr 0 hp a x y).bind (fun hp' => ab_X rom K cX9_makesRing 7 2 116 ls st hp') := ax_iastore dX9_makesRing_115 rfl
theorem dX9_makesRing_116 : decode cX9_makesRing 116 = .ok (.iconst 1, 1) := by decide +kernel
theorem sX9_makesRing_116 : ab_X rom K cX9_makesRing 7 2 116 ls st hp = ab_X rom K cX9_makesRing 7 2 117 ls (.int 1 :: st) hp := ax_iconst dX9_makesRing_116 (by decide) rfl
theorem dX9_makesRing_117 : decode cX9_makesRing 117 = .ok (.ireturn, 1) := by decide +kernel
theorem sX9_makesRing_117 : ab_X rom K cX9_makesRing 7 2 117 ls [.int x] hp = if x = 0 ∨ x = 1 then some (some (.int x), hp) else none := ay_zret dX9_makesRing_117 rfl
theorem tX9_makesSides : ab_mT[196]? = some (yX9_makesSides, cX9_makesSides, 5, 2, 7) := by decide +kernel
theorem mX9_makesSides {d : Nat} {a0 : Nat} {x0 : Int32} {x1 : Int32} : ab_M rom (d + 1) 196 [.ref a0, .int x0, .int x1] hp = ab_X rom (ab_M rom d) cX9_makesSides 7 2 0 [.ref a0, .int x0, .int x1, .null, .null] [] hp := ab_M_eq tX9_makesSides (Nat.le_of_ble_eq_true rfl)
theorem dX9_makesSides_0 : decode cX9_makesSides 0 = .ok (.iload_n 1, 1) := by decide +kernel
theorem sX9_makesSides_0 : ab_X rom K cX9_makesSides 7 2 0 (v0 :: .int x :: ls) st hp = ab_X rom K cX9_makesSides 7 2 1 (v0 :: .int x :: ls) (.int x :: st) hp := ax_iload_n dX9_makesSides_0 rfl rfl
theorem dX9_makesSides_1 : decode cX9_makesSides 1 = .ok (.i2l, 1) := by decide +kernel
theorem sX9_makesSides_1 : ab_X rom K cX9_makesSides 7 2 1 ls (.int x :: st) hp = ab_X rom K cX9_makesSides 7 2 2 ls (.long x.toInt64 :: st) hp := ax_i2l dX9_makesSides_1 rfl
theorem dX9_makesSides_2 : decode cX9_makesSides 2 = .ok (.lconst 1, 1) := by decide +kernel
theorem sX9_makesSides_2 : ab_X rom K cX9_makesSides 7 2 2 ls st hp = ab_X rom K cX9_makesSides 7 2 3 ls (.long 1 :: st) hp := ax_lconst dX9_makesSides_2 (by decide) rfl
theorem dX9_makesSides_3 : decode cX9_makesSides 3 = .ok (.ldc2_w 341, 3) := by decide +kernel
theorem sX9_makesSides_3 : ab_X rom K cX9_makesSides 7 2 3 ls st hp = ab_X rom K cX9_makesSides 7 2 6 ls (.long 7 :: st) hp := ax_ldc2 dX9_makesSides_3 kl_7_341 rfl
theorem dX9_makesSides_6 : decode cX9_makesSides 6 = .ok (.invokestatic 56, 3) := by decide +kernel
theorem sX9_makesSides_6_0 : ab_X rom K cX9_makesSides 7 2 6 ls [w3, w2, w1] hp = (K 159 [w1, w2, w3] hp).bind (fun o => ab_X rom K cX9_makesSides 7 2 9 ls (o.1.toList ++ []) o.2) := ax_static (as := [w1, w2, w3]) (st := []) dX9_makesSides_6 kc_7_56 rfl rfl (Nat.le_of_ble_eq_true rfl)
theorem sX9_makesSides_6_1 : ab_X rom K cX9_makesSides 7 2 6 ls [w3, w2, w1, v0] hp = (K 159 [w1, w2, w3] hp).bind (fun o => ab_X rom K cX9_makesSides 7 2 9 ls (o.1.toList ++ [v0]) o.2) := ax_static (as := [w1, w2, w3]) (st := [v0]) dX9_makesSides_6 kc_7_56 rfl rfl (Nat.le_of_ble_eq_true rfl)
theorem sX9_makesSides_6_2 : ab_X rom K cX9_makesSides 7 2 6 ls [w3, w2, w1, v0, v1] hp = (K 159 [w1, w2, w3] hp).bind (fun o => ab_X rom K cX9_makesSides 7 2 9 ls (o.1.toList ++ [v0, v1]) o.2) := ax_static (as := [w1, w2, w3]) (st := [v0, v1]) dX9_makesSides_6 kc_7_56 rfl rfl (Nat.le_of_ble_eq_true rfl)
theorem sX9_makesSides_6_3 : ab_X rom K cX9_makesSides 7 2 6 ls [w3, w2, w1, v0, v1, v2] hp = (K 159 [w1, w2, w3] hp).bind (fun o => ab_X rom K cX9_makesSides 7 2 9 ls (o.1.toList ++ [v0, v1, v2]) o.2) := ax_static (as := [w1, w2, w3]) (st := [v0, v1, v2]) dX9_makesSides_6 kc_7_56 rfl rfl (Nat.le_of_ble_eq_true rfl)
theorem dX9_makesSides_9 : decode cX9_makesSides 9 = .ok (.ifCond .eq 25, 3) := by decide +kernel
theorem sX9_makesSides_9 : ab_X rom K cX9_makesSides 7 2 9 ls (.int x :: st) hp = if x = 0 then ab_X rom K cX9_makesSides 7 2 34 ls st hp else ab_X rom K cX9_makesSides 7 2 12 ls st hp := ax_if_eq dX9_makesSides_9 (by decide) rfl
theorem dX9_makesSides_12 : decode cX9_makesSides 12 = .ok (.iload_n 2, 1) := by decide +kernel
theorem sX9_makesSides_12 : ab_X rom K cX9_makesSides 7 2 12 (v0 :: v1 :: .int x :: ls) st hp = ab_X rom K cX9_makesSides 7 2 13 (v0 :: v1 :: .int x :: ls) (.int x :: st) hp := ax_iload_n dX9_makesSides_12 rfl rfl
theorem dX9_makesSides_13 : decode cX9_makesSides 13 = .ok (.i2l, 1) := by decide +kernel
theorem sX9_makesSides_13 : ab_X rom K cX9_makesSides 7 2 13 ls (.int x :: st) hp = ab_X rom K cX9_makesSides 7 2 14 ls (.long x.toInt64 :: st) hp := ax_i2l dX9_makesSides_13 rfl
theorem dX9_makesSides_14 : decode cX9_makesSides 14 = .ok (.lconst 1, 1) := by decide +kernel
theorem sX9_makesSides_14 : ab_X rom K cX9_makesSides 7 2 14 ls st hp = ab_X rom K cX9_makesSides 7 2 15 ls (.long 1 :: st) hp := ax_lconst dX9_makesSides_14 (by decide) rfl
theorem dX9_makesSides_15 : decode cX9_makesSides 15 = .ok (.bipush 7, 2) := by decide +kernel
theorem sX9_makesSides_15 : ab_X rom K cX9_makesSides 7 2 15 ls st hp = ab_X rom K cX9_makesSides 7 2 17 ls (.int 7 :: st) hp := ax_bipush dX9_makesSides_15 (by decide) rfl
theorem dX9_makesSides_17 : decode cX9_makesSides 17 = .ok (.iload_n 1, 1) := by decide +kernel
theorem sX9_makesSides_17 : ab_X rom K cX9_makesSides 7 2 17 (v0 :: .int x :: ls) st hp = ab_X rom K cX9_makesSides 7 2 18 (v0 :: .int x :: ls) (.int x :: st) hp := ax_iload_n dX9_makesSides_17 rfl rfl
theorem dX9_makesSides_18 : decode cX9_makesSides 18 = .ok (.isub, 1) := by decide +kernel
theorem sX9_makesSides_18 : ab_X rom K cX9_makesSides 7 2 18 ls (.int y :: .int x :: st) hp = ab_X rom K cX9_makesSides 7 2 19 ls (.int (x - y) :: st) hp := ax_isub dX9_makesSides_18 rfl
theorem dX9_makesSides_19 : decode cX9_makesSides 19 = .ok (.i2l, 1) := by decide +kernel
theorem sX9_makesSides_19 : ab_X rom K cX9_makesSides 7 2 19 ls (.int x :: st) hp = ab_X rom K cX9_makesSides 7 2 20 ls (.long x.toInt64 :: st) hp := ax_i2l dX9_makesSides_19 rfl
theorem dX9_makesSides_20 : decode cX9_makesSides 20 = .ok (.invokestatic 56, 3) := by decide +kernel
theorem sX9_makesSides_20_0 : ab_X rom K cX9_makesSides 7 2 20 ls [w3, w2, w1] hp = (K 159 [w1, w2, w3] hp).bind (fun o => ab_X rom K cX9_makesSides 7 2 23 ls (o.1.toList ++ []) o.2) := ax_static (as := [w1, w2, w3]) (st := []) dX9_makesSides_20 kc_7_56 rfl rfl (Nat.le_of_ble_eq_true rfl)
theorem sX9_makesSides_20_1 : ab_X rom K cX9_makesSides 7 2 20 ls [w3, w2, w1, v0] hp = (K 159 [w1, w2, w3] hp).bind (fun o => ab_X rom K cX9_makesSides 7 2 23 ls (o.1.toList ++ [v0]) o.2) := ax_static (as := [w1, w2, w3]) (st := [v0]) dX9_makesSides_20 kc_7_56 rfl rfl (Nat.le_of_ble_eq_true rfl)
theorem sX9_makesSides_20_2 : ab_X rom K cX9_makesSides 7 2 20 ls [w3, w2, w1, v0, v1] hp = (K 159 [w1, w2, w3] hp).bind (fun o => ab_X rom K cX9_makesSides 7 2 23 ls (o.1.toList ++ [v0, v1]) o.2) := ax_static (as := [w1, w2, w3]) (st := [v0, v1]) dX9_makesSides_20 kc_7_56 rfl rfl (Nat.le_of_ble_eq_true rfl)
theorem sX9_makesSides_20_3 : ab_X rom K cX9_makesSides 7 2 20 ls [w3, w2, w1, v0, v1, v2] hp = (K 159 [w1, w2, w3] hp).bind (fun o => ab_X rom K cX9_makesSides 7 2 23 ls (o.1.toList ++ [v0, v1, v2]) o.2) := ax_static (as := [w1, w2, w3]) (st := [v0, v1, v2]) dX9_makesSides_20 kc_7_56 rfl rfl (Nat.le_of_ble_eq_true rfl)
theorem dX9_makesSides_23 : decode cX9_makesSides 23 = .ok (.ifCond .eq 11, 3) := by decide +kernel
theorem sX9_makesSides_23 : ab_X rom K cX9_makesSides 7 2 23 ls (.int x :: st) hp = if x = 0 then ab_X rom K cX9_makesSides 7 2 34 ls st hp else ab_X rom K cX9_makesSides 7 2 26 ls st hp := ax_if_eq dX9_makesSides_23 (by decide) rfl
theorem dX9_makesSides_26 : decode cX9_makesSides 26 = .ok (.iload_n 1, 1) := by decide +kernel
theorem sX9_makesSides_26 : ab_X rom K cX9_makesSides 7 2 26 (v0 :: .int x :: ls) st hp = ab_X rom K cX9_makesSides 7 2 27 (v0 :: .int x :: ls) (.int x :: st) hp := ax_iload_n dX9_makesSides_26 rfl rfl
theorem dX9_makesSides_27 : decode cX9_makesSides 27 = .ok (.iload_n 2, 1) := by decide +kernel
theorem sX9_makesSides_27 : ab_X rom K cX9_makesSides 7 2 27 (v0 :: v1 :: .int x :: ls) st hp = ab_X rom K cX9_makesSides 7 2 28 (v0 :: v1 :: .int x :: ls) (.int x :: st) hp := ax_iload_n dX9_makesSides_27 rfl rfl
theorem dX9_makesSides_28 : decode cX9_makesSides 28 = .ok (.imul, 1) := by decide +kernel
theorem sX9_makesSides_28 : ab_X rom K cX9_makesSides 7 2 28 ls (.int y :: .int x :: st) hp = ab_X rom K cX9_makesSides 7 2 29 ls (.int (x * y) :: st) hp := ax_imul dX9_makesSides_28 rfl
theorem dX9_makesSides_29 : decode cX9_makesSides 29 = .ok (.bipush 10, 2) := by decide +kernel
theorem sX9_makesSides_29 : ab_X rom K cX9_makesSides 7 2 29 ls st hp = ab_X rom K cX9_makesSides 7 2 31 ls (.int 10 :: st) hp := ax_bipush dX9_makesSides_29 (by decide) rfl
theorem dX9_makesSides_31 : decode cX9_makesSides 31 = .ok (.if_icmp .le 5, 3) := by decide +kernel
theorem sX9_makesSides_31 : ab_X rom K cX9_makesSides 7 2 31 ls (.int y :: .int x :: st) hp = if y < x then ab_X rom K cX9_makesSides 7 2 34 ls st hp else ab_X rom K cX9_makesSides 7 2 36 ls st hp := ax_icmp_le dX9_makesSides_31 (by decide) rfl
theorem dX9_makesSides_34 : decode cX9_makesSides 34 = .ok (.iconst 0, 1) := by decide +kernel
theorem sX9_makesSides_34 : ab_X rom K cX9_makesSides 7 2 34 ls st hp = ab_X rom K cX9_makesSides 7 2 35 ls (.int 0 :: st) hp := ax_iconst dX9_makesSides_34 (by decide) rfl
theorem dX9_makesSides_35 : decode cX9_makesSides 35 = .ok (.ireturn, 1) := by decide +kernel
theorem sX9_makesSides_35 : ab_X rom K cX9_makesSides 7 2 35 ls [.int x] hp = if x = 0 ∨ x = 1 then some (some (.int x), hp) else none := ay_zret dX9_makesSides_35 rfl
theorem dX9_makesSides_36 : decode cX9_makesSides 36 = .ok (.aload_n 0, 1) := by decide +kernel
theorem sX9_makesSides_36 : ab_X rom K cX9_makesSides 7 2 36 (.ref a :: ls) st hp = ab_X rom K cX9_makesSides 7 2 37 (.ref a :: ls) (.ref a :: st) hp := ax_aload_n dX9_makesSides_36 rfl rfl
theorem dX9_makesSides_37 : decode cX9_makesSides 37 = .ok (.iload_n 1, 1) := by decide +kernel
theorem sX9_makesSides_37 : ab_X rom K cX9_makesSides 7 2 37 (v0 :: .int x :: ls) st hp = ab_X rom K cX9_makesSides 7 2 38 (v0 :: .int x :: ls) (.int x :: st) hp := ax_iload_n dX9_makesSides_37 rfl rfl
theorem dX9_makesSides_38 : decode cX9_makesSides 38 = .ok (.iload_n 2, 1) := by decide +kernel
theorem sX9_makesSides_38 : ab_X rom K cX9_makesSides 7 2 38 (v0 :: v1 :: .int x :: ls) st hp = ab_X rom K cX9_makesSides 7 2 39 (v0 :: v1 :: .int x :: ls) (.int x :: st) hp := ax_iload_n dX9_makesSides_38 rfl rfl
theorem dX9_makesSides_39 : decode cX9_makesSides 39 = .ok (.iadd, 1) := by decide +kernel
theorem sX9_makesSides_39 : ab_X rom K cX9_makesSides 7 2 39 ls (.int y :: .int x :: st) hp = ab_X rom K cX9_makesSides 7 2 40 ls (.int (x + y) :: st) hp := ax_iadd dX9_makesSides_39 rfl
theorem dX9_makesSides_40 : decode cX9_makesSides 40 = .ok (.invokevirtual 328, 3) := by decide +kernel
theorem sX9_makesSides_40_0 : ab_X rom K cX9_makesSides 7 2 40 ls [w1, .ref a] hp = if ab_iso hp a 7 = true then (K 190 (.ref a :: [w1]) hp).bind (fun o => ab_X rom K cX9_makesSides 7 2 43 ls (o.1.toList ++ []) o.2) else none := ay_virtual (as := [w1]) (st := []) dX9_makesSides_40 kc_7_328 rfl rfl (Nat.le_of_ble_eq_true rfl)
theorem sX9_makesSides_40_1 : ab_X rom K cX9_makesSides 7 2 40 ls [w1, .ref a, v0] hp = if ab_iso hp a 7 = true then (K 190 (.ref a :: [w1]) hp).bind (fun o => ab_X rom K cX9_makesSides 7 2 43 ls (o.1.toList ++ [v0]) o.2) else none := ay_virtual (as := [w1]) (st := [v0]) dX9_makesSides_40 kc_7_328 rfl rfl (Nat.le_of_ble_eq_true rfl)
theorem sX9_makesSides_40_2 : ab_X rom K cX9_makesSides 7 2 40 ls [w1, .ref a, v0, v1] hp = if ab_iso hp a 7 = true then (K 190 (.ref a :: [w1]) hp).bind (fun o => ab_X rom K cX9_makesSides 7 2 43 ls (o.1.toList ++ [v0, v1]) o.2) else none := ay_virtual (as := [w1]) (st := [v0, v1]) dX9_makesSides_40 kc_7_328 rfl rfl (Nat.le_of_ble_eq_true rfl)
theorem sX9_makesSides_40_3 : ab_X rom K cX9_makesSides 7 2 40 ls [w1, .ref a, v0, v1, v2] hp = if ab_iso hp a 7 = true then (K 190 (.ref a :: [w1]) hp).bind (fun o => ab_X rom K cX9_makesSides 7 2 43 ls (o.1.toList ++ [v0, v1, v2]) o.2) else none := ay_virtual (as := [w1]) (st := [v0, v1, v2]) dX9_makesSides_40 kc_7_328 rfl rfl (Nat.le_of_ble_eq_true rfl)
theorem dX9_makesSides_43 : decode cX9_makesSides 43 = .ok (.iconst 0, 1) := by decide +kernel
theorem sX9_makesSides_43 : ab_X rom K cX9_makesSides 7 2 43 ls st hp = ab_X rom K cX9_makesSides 7 2 44 ls (.int 0 :: st) hp := ax_iconst dX9_makesSides_43 (by decide) rfl
theorem dX9_makesSides_44 : decode cX9_makesSides 44 = .ok (.istore_n 3, 1) := by decide +kernel
theorem sX9_makesSides_44i : ab_X rom K cX9_makesSides 7 2 44 (v0 :: v1 :: .int y :: v3 :: ls) (.int x :: st) hp = ab_X rom K cX9_makesSides 7 2 45 (v0 :: v1 :: .int y :: .int x :: ls) st hp := ax_istore_n dX9_makesSides_44 (ax_lt (v := v3) rfl) (ab_nl_c1 (j := 2) (v := .int y) rfl (ab_c1_int _)) rfl rfl
theorem sX9_makesSides_44r : ab_X rom K cX9_makesSides 7 2 44 (v0 :: v1 :: .ref a2 :: v3 :: ls) (.int x :: st) hp = ab_X rom K cX9_makesSides 7 2 45 (v0 :: v1 :: .ref a2 :: .int x :: ls) st hp := ax_istore_n dX9_makesSides_44 (ax_lt (v := v3) rfl) (ab_nl_c1 (j := 2) (v := .ref a2) rfl (ab_c1_ref _)) rfl rfl
theorem sX9_makesSides_44n : ab_X rom K cX9_makesSides 7 2 44 (v0 :: v1 :: .null :: v3 :: ls) (.int x :: st) hp = ab_X rom K cX9_makesSides 7 2 45 (v0 :: v1 :: .null :: .int x :: ls) st hp := ax_istore_n dX9_makesSides_44 (ax_lt (v := v3) rfl) (ab_nl_c1 (j := 2) (v := .null) rfl ab_c1_null) rfl rfl
theorem dX9_makesSides_45 : decode cX9_makesSides 45 = .ok (.iload_n 3, 1) := by decide +kernel
theorem sX9_makesSides_45 : ab_X rom K cX9_makesSides 7 2 45 (v0 :: v1 :: v2 :: .int x :: ls) st hp = ab_X rom K cX9_makesSides 7 2 46 (v0 :: v1 :: v2 :: .int x :: ls) (.int x :: st) hp := ax_iload_n dX9_makesSides_45 rfl rfl
theorem dX9_makesSides_46 : decode cX9_makesSides 46 = .ok (.iload_n 1, 1) := by decide +kernel
theorem sX9_makesSides_46 : ab_X rom K cX9_makesSides 7 2 46 (v0 :: .int x :: ls) st hp = ab_X rom K cX9_makesSides 7 2 47 (v0 :: .int x :: ls) (.int x :: st) hp := ax_iload_n dX9_makesSides_46 rfl rfl
theorem dX9_makesSides_47 : decode cX9_makesSides 47 = .ok (.iload_n 2, 1) := by decide +kernel
theorem sX9_makesSides_47 : ab_X rom K cX9_makesSides 7 2 47 (v0 :: v1 :: .int x :: ls) st hp = ab_X rom K cX9_makesSides 7 2 48 (v0 :: v1 :: .int x :: ls) (.int x :: st) hp := ax_iload_n dX9_makesSides_47 rfl rfl
theorem dX9_makesSides_48 : decode cX9_makesSides 48 = .ok (.iadd, 1) := by decide +kernel
theorem sX9_makesSides_48 : ab_X rom K cX9_makesSides 7 2 48 ls (.int y :: .int x :: st) hp = ab_X rom K cX9_makesSides 7 2 49 ls (.int (x + y) :: st) hp := ax_iadd dX9_makesSides_48 rfl
theorem dX9_makesSides_49 : decode cX9_makesSides 49 = .ok (.if_icmp .ge 63, 3) := by decide +kernel
theorem sX9_makesSides_49 : ab_X rom K cX9_makesSides 7 2 49 ls (.int y :: .int x :: st) hp = if x < y then ab_X rom K cX9_makesSides 7 2 52 ls st hp else ab_X rom K cX9_makesSides 7 2 112 ls st hp := ax_icmp_ge dX9_makesSides_49 (by decide) rfl
theorem dX9_makesSides_52 : decode cX9_makesSides 52 = .ok (.aload_n 0, 1) := by decide +kernel
theorem sX9_makesSides_52 : ab_X rom K cX9_makesSides 7 2 52 (.ref a :: ls) st hp = ab_X rom K cX9_makesSides 7 2 53 (.ref a :: ls) (.ref a :: st) hp := ax_aload_n dX9_makesSides_52 rfl rfl
theorem dX9_makesSides_53 : decode cX9_makesSides 53 = .ok (.getfield 41, 3) := by decide +kernel
theorem sX9_makesSides_53 : ab_X rom K cX9_makesSides 7 2 53 ls (.ref a :: st) hp = (ab_fld hp a 7 24).bind (fun v => ab_X rom K cX9_makesSides 7 2 56 ls (v :: st) hp) := ax_getfield dX9_makesSides_53 kf_7_41 rfl
theorem dX9_makesSides_56 : decode cX9_makesSides 56 = .ok (.bipush 8, 2) := by decide +kernel
theorem sX9_makesSides_56 : ab_X rom K cX9_makesSides 7 2 56 ls st hp = ab_X rom K cX9_makesSides 7 2 58 ls (.int 8 :: st) hp := ax_bipush dX9_makesSides_56 (by decide) rfl
theorem dX9_makesSides_58 : decode cX9_makesSides 58 = .ok (.iload_n 3, 1) := by decide +kernel
theorem sX9_makesSides_58 : ab_X rom K cX9_makesSides 7 2 58 (v0 :: v1 :: v2 :: .int x :: ls) st hp = ab_X rom K cX9_makesSides 7 2 59 (v0 :: v1 :: v2 :: .int x :: ls) (.int x :: st) hp := ax_iload_n dX9_makesSides_58 rfl rfl
theorem dX9_makesSides_59 : decode cX9_makesSides 59 = .ok (.iadd, 1) := by decide +kernel
theorem sX9_makesSides_59 : ab_X rom K cX9_makesSides 7 2 59 ls (.int y :: .int x :: st) hp = ab_X rom K cX9_makesSides 7 2 60 ls (.int (x + y) :: st) hp := ax_iadd dX9_makesSides_59 rfl
theorem dX9_makesSides_60 : decode cX9_makesSides 60 = .ok (.iload_n 3, 1) := by decide +kernel
theorem sX9_makesSides_60 : ab_X rom K cX9_makesSides 7 2 60 (v0 :: v1 :: v2 :: .int x :: ls) st hp = ab_X rom K cX9_makesSides 7 2 61 (v0 :: v1 :: v2 :: .int x :: ls) (.int x :: st) hp := ax_iload_n dX9_makesSides_60 rfl rfl
theorem dX9_makesSides_61 : decode cX9_makesSides 61 = .ok (.iload_n 1, 1) := by decide +kernel
theorem sX9_makesSides_61 : ab_X rom K cX9_makesSides 7 2 61 (v0 :: .int x :: ls) st hp = ab_X rom K cX9_makesSides 7 2 62 (v0 :: .int x :: ls) (.int x :: st) hp := ax_iload_n dX9_makesSides_61 rfl rfl
theorem dX9_makesSides_62 : decode cX9_makesSides 62 = .ok (.if_icmp .ge 7, 3) := by decide +kernel
theorem sX9_makesSides_62 : ab_X rom K cX9_makesSides 7 2 62 ls (.int y :: .int x :: st) hp = if x < y then ab_X rom K cX9_makesSides 7 2 65 ls st hp else ab_X rom K cX9_makesSides 7 2 69 ls st hp := ax_icmp_ge dX9_makesSides_62 (by decide) rfl
theorem dX9_makesSides_65 : decode cX9_makesSides 65 = .ok (.iload_n 3, 1) := by decide +kernel
theorem sX9_makesSides_65 : ab_X rom K cX9_makesSides 7 2 65 (v0 :: v1 :: v2 :: .int x :: ls) st hp = ab_X rom K cX9_makesSides 7 2 66 (v0 :: v1 :: v2 :: .int x :: ls) (.int x :: st) hp := ax_iload_n dX9_makesSides_65 rfl rfl
theorem dX9_makesSides_66 : decode cX9_makesSides 66 = .ok (.goto 10, 3) := by decide +kernel
theorem sX9_makesSides_66 : ab_X rom K cX9_makesSides 7 2 66 ls st hp = ab_X rom K cX9_makesSides 7 2 76 ls st hp := ax_goto dX9_makesSides_66 (by decide)
theorem dX9_makesSides_69 : decode cX9_makesSides 69 = .ok (.iload_n 1, 1) := by decide +kernel
theorem sX9_makesSides_69 : ab_X rom K cX9_makesSides 7 2 69 (v0 :: .int x :: ls) st hp = ab_X rom K cX9_makesSides 7 2 70 (v0 :: .int x :: ls) (.int x :: st) hp := ax_iload_n dX9_makesSides_69 rfl rfl
theorem dX9_makesSides_70 : decode cX9_makesSides 70 = .ok (.iload_n 3, 1) := by decide +kernel
theorem sX9_makesSides_70 : ab_X rom K cX9_makesSides 7 2 70 (v0 :: v1 :: v2 :: .int x :: ls) st hp = ab_X rom K cX9_makesSides 7 2 71 (v0 :: v1 :: v2 :: .int x :: ls) (.int x :: st) hp := ax_iload_n dX9_makesSides_70 rfl rfl
theorem dX9_makesSides_71 : decode cX9_makesSides 71 = .ok (.iload_n 1, 1) := by decide +kernel
theorem sX9_makesSides_71 : ab_X rom K cX9_makesSides 7 2 71 (v0 :: .int x :: ls) st hp = ab_X rom K cX9_makesSides 7 2 72 (v0 :: .int x :: ls) (.int x :: st) hp := ax_iload_n dX9_makesSides_71 rfl rfl
theorem dX9_makesSides_72 : decode cX9_makesSides 72 = .ok (.isub, 1) := by decide +kernel
theorem sX9_makesSides_72 : ab_X rom K cX9_makesSides 7 2 72 ls (.int y :: .int x :: st) hp = ab_X rom K cX9_makesSides 7 2 73 ls (.int (x - y) :: st) hp := ax_isub dX9_makesSides_72 rfl
theorem dX9_makesSides_73 : decode cX9_makesSides 73 = .ok (.iconst 1, 1) := by decide +kernel
theorem sX9_makesSides_73 : ab_X rom K cX9_makesSides 7 2 73 ls st hp = ab_X rom K cX9_makesSides 7 2 74 ls (.int 1 :: st) hp := ax_iconst dX9_makesSides_73 (by decide) rfl
theorem dX9_makesSides_74 : decode cX9_makesSides 74 = .ok (.iadd, 1) := by decide +kernel
theorem sX9_makesSides_74 : ab_X rom K cX9_makesSides 7 2 74 ls (.int y :: .int x :: st) hp = ab_X rom K cX9_makesSides 7 2 75 ls (.int (x + y) :: st) hp := ax_iadd dX9_makesSides_74 rfl
theorem dX9_makesSides_75 : decode cX9_makesSides 75 = .ok (.imul, 1) := by decide +kernel
theorem sX9_makesSides_75 : ab_X rom K cX9_makesSides 7 2 75 ls (.int y :: .int x :: st) hp = ab_X rom K cX9_makesSides 7 2 76 ls (.int (x * y) :: st) hp := ax_imul dX9_makesSides_75 rfl
theorem dX9_makesSides_76 : decode cX9_makesSides 76 = .ok (.iastore, 1) := by decide +kernel
theorem sX9_makesSides_76 : ab_X rom K cX9_makesSides 7 2 76 ls (.int y :: .int x :: .ref a :: st) hp = (ab_awr 0 hp a x y).bind (fun hp' => ab_X rom K cX9_makesSides 7 2 77 ls st hp') := ax_iastore dX9_makesSides_76 rfl
theorem dX9_makesSides_77 : decode cX9_makesSides 77 = .ok (.iload_n 1, 1) := by decide +kernel
theorem sX9_makesSides_77 : ab_X rom K cX9_makesSides 7 2 77 (v0 :: .int x :: ls) st hp = ab_X rom K cX9_makesSides 7 2 78 (v0 :: .int x :: ls) (.int x :: st) hp := ax_iload_n dX9_makesSides_77 rfl rfl
theorem dX9_makesSides_78 : decode cX9_makesSides 78 = .ok (.istore 4, 2) := by decide +kernel
theorem sX9_makesSides_78i : ab_X rom K cX9_makesSides 7 2 78 (v0 :: v1 :: v2 :: .int y :: v4 :: ls) (.int x :: st) hp = ab_X rom K cX9_makesSides 7 2 80 (v0 :: v1 :: v2 :: .int y :: .int x :: ls) st hp := ax_istore dX9_makesSides_78 (ax_lt (v := v4) rfl) (ab_nl_c1 (j := 3) (v := .int y) rfl (ab_c1_int _)) rfl rfl
theorem sX9_makesSides_78r : ab_X rom K cX9_makesSides 7 2 78 (v0 :: v1 :: v2 :: .ref a2 :: v4 :: ls) (.int x :: st) hp = ab_X rom K cX9_makesSides 7 2 80 (v0 :: v1 :: v2 :: .ref a2 :: .int x :: ls) st hp := ax_istore dX9_makesSides_78 (ax_lt (v := v4) rfl) (ab_nl_c1 (j := 3) (v := .ref a2) rfl (ab_c1_ref _)) rfl rfl
theorem sX9_makesSides_78n : ab_X rom K cX9_makesSides 7 2 78 (v0 :: v1 :: v2 :: .null :: v4 :: ls) (.int x :: st) hp = ab_X rom K cX9_makesSides 7 2 80 (v0 :: v1 :: v2 :: .null :: .int x :: ls) st hp := ax_istore dX9_makesSides_78 (ax_lt (v := v4) rfl) (ab_nl_c1 (j := 3) (v := .null) rfl ab_c1_null) rfl rfl
theorem dX9_makesSides_80 : decode cX9_makesSides 80 = .ok (.iload 4, 2) := by decide +kernel
theorem sX9_makesSides_80 : ab_X rom K cX9_makesSides 7 2 80 (v0 :: v1 :: v2 :: v3 :: .int x :: ls) st hp = ab_X rom K cX9_makesSides 7 2 82 (v0 :: v1 :: v2 :: v3 :: .int x :: ls) (.int x :: st) hp := ax_iload dX9_makesSides_80 rfl rfl
theorem dX9_makesSides_82 : decode cX9_makesSides 82 = .ok (.iload_n 1, 1) := by decide +kernel
theorem sX9_makesSides_82 : ab_X rom K cX9_makesSides 7 2 82 (v0 :: .int x :: ls) st hp = ab_X rom K cX9_makesSides 7 2 83 (v0 :: .int x :: ls) (.int x :: st) hp := ax_iload_n dX9_makesSides_82 rfl rfl
theorem dX9_makesSides_83 : decode cX9_makesSides 83 = .ok (.iload_n 2, 1) := by decide +kernel
theorem sX9_makesSides_83 : ab_X rom K cX9_makesSides 7 2 83 (v0 :: v1 :: .int x :: ls) st hp = ab_X rom K cX9_makesSides 7 2 84 (v0 :: v1 :: .int x :: ls) (.int x :: st) hp := ax_iload_n dX9_makesSides_83 rfl rfl
theorem dX9_makesSides_84 : decode cX9_makesSides 84 = .ok (.iadd, 1) := by decide +kernel
theorem sX9_makesSides_84 : ab_X rom K cX9_makesSides 7 2 84 ls (.int y :: .int x :: st) hp = ab_X rom K cX9_makesSides 7 2 85 ls (.int (x + y) :: st) hp := ax_iadd dX9_makesSides_84 rfl
theorem dX9_makesSides_85 : decode cX9_makesSides 85 = .ok (.if_icmp .ge 21, 3) := by decide +kernel
theorem sX9_makesSides_85 : ab_X rom K cX9_makesSides 7 2 85 ls (.int y :: .int x :: st) hp = if x < y then ab_X rom K cX9_makesSides 7 2 88 ls st hp else ab_X rom K cX9_makesSides 7 2 106 ls st hp := ax_icmp_ge dX9_makesSides_85 (by decide) rfl
theorem dX9_makesSides_88 : decode cX9_makesSides 88 = .ok (.iload_n 3, 1) := by decide +kernel
theorem sX9_makesSides_88 : ab_X rom K cX9_makesSides 7 2 88 (v0 :: v1 :: v2 :: .int x :: ls) st hp = ab_X rom K cX9_makesSides 7 2 89 (v0 :: v1 :: v2 :: .int x :: ls) (.int x :: st) hp := ax_iload_n dX9_makesSides_88 rfl rfl
theorem dX9_makesSides_89 : decode cX9_makesSides 89 = .ok (.iload_n 1, 1) := by decide +kernel
theorem sX9_makesSides_89 : ab_X rom K cX9_makesSides 7 2 89 (v0 :: .int x :: ls) st hp = ab_X rom K cX9_makesSides 7 2 90 (v0 :: .int x :: ls) (.int x :: st) hp := ax_iload_n dX9_makesSides_89 rfl rfl
theorem dX9_makesSides_90 : decode cX9_makesSides 90 = .ok (.if_icmp .ge 16, 3) := by decide +kernel
theorem sX9_makesSides_90 : ab_X rom K cX9_makesSides 7 2 90 ls (.int y :: .int x :: st) hp = if x < y then ab_X rom K cX9_makesSides 7 2 93 ls st hp else ab_X rom K cX9_makesSides 7 2 106 ls st hp := ax_icmp_ge dX9_makesSides_90 (by decide) rfl
theorem dX9_makesSides_93 : decode cX9_makesSides 93 = .ok (.aload_n 0, 1) := by decide +kernel
theorem sX9_makesSides_93 : ab_X rom K cX9_makesSides 7 2 93 (.ref a :: ls) st hp = ab_X rom K cX9_makesSides 7 2 94 (.ref a :: ls) (.ref a :: st) hp := ax_aload_n dX9_makesSides_93 rfl rfl
theorem dX9_makesSides_94 : decode cX9_makesSides 94 = .ok (.iload_n 3, 1) := by decide +kernel
theorem sX9_makesSides_94 : ab_X rom K cX9_makesSides 7 2 94 (v0 :: v1 :: v2 :: .int x :: ls) st hp = ab_X rom K cX9_makesSides 7 2 95 (v0 :: v1 :: v2 :: .int x :: ls) (.int x :: st) hp := ax_iload_n dX9_makesSides_94 rfl rfl
theorem dX9_makesSides_95 : decode cX9_makesSides 95 = .ok (.iload 4, 2) := by decide +kernel
theorem sX9_makesSides_95 : ab_X rom K cX9_makesSides 7 2 95 (v0 :: v1 :: v2 :: v3 :: .int x :: ls) st hp = ab_X rom K cX9_makesSides 7 2 97 (v0 :: v1 :: v2 :: v3 :: .int x :: ls) (.int x :: st) hp := ax_iload dX9_makesSides_95 rfl rfl
theorem dX9_makesSides_97 : decode cX9_makesSides 97 = .ok (.invokevirtual 335, 3) := by decide +kernel
theorem sX9_makesSides_97_0 : ab_X rom K cX9_makesSides 7 2 97 ls [w2, w1, .ref a] hp = if ab_iso hp a 7 = true then (K 191 (.ref a :: [w1, w2]) hp).bind (fun o => ab_X rom K cX9_makesSides 7 2 100 ls (o.1.toList ++ []) o.2) else none := ay_virtual (as := [w1, w2]) (st := []) dX9_makesSides_97 kc_7_335 rfl rfl (Nat.le_of_ble_eq_true rfl)
theorem sX9_makesSides_97_1 : ab_X rom K cX9_makesSides 7 2 97 ls [w2, w1, .ref a, v0] hp = if ab_iso hp a 7 = true then (K 191 (.ref a :: [w1, w2]) hp).bind (fun o => ab_X rom K cX9_makesSides 7 2 100 ls (o.1.toList ++ [v0]) o.2) else none := ay_virtual (as := [w1, w2]) (st := [v0]) dX9_makesSides_97 kc_7_335 rfl rfl (Nat.le_of_ble_eq_true rfl)
theorem sX9_makesSides_97_2 : ab_X rom K cX9_makesSides 7 2 97 ls [w2, w1, .ref a, v0, v1] hp = if ab_iso hp a 7 = true then (K 191 (.ref a :: [w1, w2]) hp).bind (fun o => ab_X rom K cX9_makesSides 7 2 100 ls (o.1.toList ++ [v0, v1]) o.2) else none := ay_virtual (as := [w1, w2]) (st := [v0, v1]) dX9_makesSides_97 kc_7_335 rfl rfl (Nat.le_of_ble_eq_true rfl)
theorem sX9_makesSides_97_3 : ab_X rom K cX9_makesSides 7 2 97 ls [w2, w1, .ref a, v0, v1, v2] hp = if ab_iso hp a 7 = true then (K 191 (.ref a :: [w1, w2]) hp).bind (fun o => ab_X rom K cX9_makesSides 7 2 100 ls (o.1.toList ++ [v0, v1, v2]) o.2) else none := ay_virtual (as := [w1, w2]) (st := [v0, v1, v2]) dX9_makesSides_97 kc_7_335 rfl rfl (Nat.le_of_ble_eq_true rfl)
theorem dX9_makesSides_100 : decode cX9_makesSides 100 = .ok (.iinc 4 1, 3) := by decide +kernel
theorem sX9_makesSides_100i : ab_X rom K cX9_makesSides 7 2 100 (v0 :: v1 :: v2 :: .int y :: .int x :: ls) st hp = ab_X rom K cX9_makesSides 7 2 103 (v0 :: v1 :: v2 :: .int y :: .int (x + 1) :: ls) st hp := ax_iinc dX9_makesSides_100 rfl (ab_nl_c1 (j := 3) (v := .int y) rfl (ab_c1_int _)) (by decide) rfl rfl
theorem sX9_makesSides_100r : ab_X rom K cX9_makesSides 7 2 100 (v0 :: v1 :: v2 :: .ref a2 :: .int x :: ls) st hp = ab_X rom K cX9_makesSides 7 2 103 (v0 :: v1 :: v2 :: .ref a2 :: .int (x + 1) :: ls) st hp := ax_iinc dX9_makesSides_100 rfl (ab_nl_c1 (j := 3) (v := .ref a2) rfl (ab_c1_ref _)) (by decide) rfl rfl
theorem sX9_makesSides_100n : ab_X rom K cX9_makesSides 7 2 100 (v0 :: v1 :: v2 :: .null :: .int x :: ls) st hp = ab_X rom K cX9_makesSides 7 2 103 (v0 :: v1 :: v2 :: .null :: .int (x + 1) :: ls) st hp := ax_iinc dX9_makesSides_100 rfl (ab_nl_c1 (j := 3) (v := .null) rfl ab_c1_null) (by decide) rfl rfl
theorem dX9_makesSides_103 : decode cX9_makesSides 103 = .ok (.goto (-23), 3) := by decide +kernel
theorem sX9_makesSides_103 : ab_X rom K cX9_makesSides 7 2 103 ls st hp = ab_X rom K cX9_makesSides 7 2 80 ls st hp := ax_goto dX9_makesSides_103 (by decide)
theorem dX9_makesSides_106 : decode cX9_makesSides 106 = .ok (.iinc 3 1, 3) := by decide +kernel
theorem sX9_makesSides_106i : ab_X rom K cX9_makesSides 7 2 106 (v0 :: v1 :: .int y :: .int x :: ls) st hp = ab_X rom K cX9_makesSides 7 2 109 (v0 :: v1 :: .int y :: .int (x + 1) :: ls) st hp := ax_iinc dX9_makesSides_106 rfl (ab_nl_c1 (j := 2) (v := .int y) rfl (ab_c1_int _)) (by decide) rfl rfl
theorem sX9_makesSides_106r : ab_X rom K cX9_makesSides 7 2 106 (v0 :: v1 :: .ref a2 :: .int x :: ls) st hp = ab_X rom K cX9_makesSides 7 2 109 (v0 :: v1 :: .ref a2 :: .int (x + 1) :: ls) st hp := ax_iinc dX9_makesSides_106 rfl (ab_nl_c1 (j := 2) (v := .ref a2) rfl (ab_c1_ref _)) (by decide) rfl rfl
theorem sX9_makesSides_106n : ab_X rom K cX9_makesSides 7 2 106 (v0 :: v1 :: .null :: .int x :: ls) st hp = ab_X rom K cX9_makesSides 7 2 109 (v0 :: v1 :: .null :: .int (x + 1) :: ls) st hp := ax_iinc dX9_makesSides_106 rfl (ab_nl_c1 (j := 2) (v := .null) rfl ab_c1_null) (by decide) rfl rfl
theorem dX9_makesSides_109 : decode cX9_makesSides 109 = .ok (.goto (-64), 3) := by decide +kernel
theorem sX9_makesSides_109 : ab_X rom K cX9_makesSides 7 2 109 ls st hp = ab_X rom K cX9_makesSides 7 2 45 ls st hp := ax_goto dX9_makesSides_109 (by decide)
theorem dX9_makesSides_112 : decode cX9_makesSides 112 = .ok (.iconst 1, 1) := by decide +kernel
theorem sX9_makesSides_112 : ab_X rom K cX9_makesSides 7 2 112 ls st hp = ab_X rom K cX9_makesSides 7 2 113 ls (.int 1 :: st) hp := ax_iconst dX9_makesSides_112 (by decide) rfl
theorem dX9_makesSides_113 : decode cX9_makesSides 113 = .ok (.ireturn, 1) := by decide +kernel
theorem sX9_makesSides_113 : ab_X rom K cX9_makesSides 7 2 113 ls [.int x] hp = if x = 0 ∨ x = 1 then some (some (.int x), hp) else none := ay_zret dX9_makesSides_113 rfl
theorem tX9_makesStar : ab_mT[197]? = some (yX9_makesStar, cX9_makesStar, 3, 2, 7) := by decide +kernel
theorem mX9_makesStar {d : Nat} {a0 : Nat} {x0 : Int32} : ab_M rom (d + 1) 197 [.ref a0, .int x0] hp = ab_X rom (ab_M rom d) cX9_makesStar 7 2 0 [.ref a0, .int x0, .null] [] hp := ab_M_eq tX9_makesStar (Nat.le_of_ble_eq_true rfl)
theorem dX9_makesStar_0 : decode cX9_makesStar 0 = .ok (.iload_n 1, 1) := by decide +kernel
theorem sX9_makesStar_0 : ab_X rom K cX9_makesStar 7 2 0 (v0 :: .int x :: ls) st hp = ab_X rom K cX9_makesStar 7 2 1 (v0 :: .int x :: ls) (.int x :: st) hp := ax_iload_n dX9_makesStar_0 rfl rfl
theorem dX9_makesStar_1 : decode cX9_makesStar 1 = .ok (.i2l, 1) := by decide +kernel
theorem sX9_makesStar_1 : ab_X rom K cX9_makesStar 7 2 1 ls (.int x :: st) hp = ab_X rom K cX9_makesStar 7 2 2 ls (.long x.toInt64 :: st) hp := ax_i2l dX9_makesStar_1 rfl
theorem dX9_makesStar_2 : decode cX9_makesStar 2 = .ok (.lconst 1, 1) := by decide +kernel
theorem sX9_makesStar_2 : ab_X rom K cX9_makesStar 7 2 2 ls st hp = ab_X rom K cX9_makesStar 7 2 3 ls (.long 1 :: st) hp := ax_lconst dX9_makesStar_2 (by decide) rfl
theorem dX9_makesStar_3 : decode cX9_makesStar 3 = .ok (.ldc2_w 343, 3) := by decide +kernel
theorem sX9_makesStar_3 : ab_X rom K cX9_makesStar 7 2 3 ls st hp = ab_X rom K cX9_makesStar 7 2 6 ls (.long 6 :: st) hp := ax_ldc2 dX9_makesStar_3 kl_7_343 rfl
theorem dX9_makesStar_6 : decode cX9_makesStar 6 = .ok (.invokestatic 56, 3) := by decide +kernel
theorem sX9_makesStar_6_0 : ab_X rom K cX9_makesStar 7 2 6 ls [w3, w2, w1] hp = (K 159 [w1, w2, w3] hp).bind (fun o => ab_X rom K cX9_makesStar 7 2 9 ls (o.1.toList ++ []) o.2) := ax_static (as := [w1, w2, w3]) (st := []) dX9_makesStar_6 kc_7_56 rfl rfl (Nat.le_of_ble_eq_true rfl)
theorem sX9_makesStar_6_1 : ab_X rom K cX9_makesStar 7 2 6 ls [w3, w2, w1, v0] hp = (K 159 [w1, w2, w3] hp).bind (fun o => ab_X rom K cX9_makesStar 7 2 9 ls (o.1.toList ++ [v0]) o.2) := ax_static (as := [w1, w2, w3]) (st := [v0]) dX9_makesStar_6 kc_7_56 rfl rfl (Nat.le_of_ble_eq_true rfl)
theorem sX9_makesStar_6_2 : ab_X rom K cX9_makesStar 7 2 6 ls [w3, w2, w1, v0, v1] hp = (K 159 [w1, w2, w3] hp).bind (fun o => ab_X rom K cX9_makesStar 7 2 9 ls (o.1.toList ++ [v0, v1]) o.2) := ax_static (as := [w1, w2, w3]) (st := [v0, v1]) dX9_makesStar_6 kc_7_56 rfl rfl (Nat.le_of_ble_eq_true rfl)
theorem sX9_makesStar_6_3 : ab_X rom K cX9_makesStar 7 2 6 ls [w3, w2, w1, v0, v1, v2] hp = (K 159 [w1, w2, w3] hp).bind (fun o => ab_X rom K cX9_makesStar 7 2 9 ls (o.1.toList ++ [v0, v1, v2]) o.2) := ax_static (as := [w1, w2, w3]) (st := [v0, v1, v2]) dX9_makesStar_6 kc_7_56 rfl rfl (Nat.le_of_ble_eq_true rfl)
theorem dX9_makesStar_9 : decode cX9_makesStar 9 = .ok (.ifCond .ne 5, 3) := by decide +kernel
theorem sX9_makesStar_9 : ab_X rom K cX9_makesStar 7 2 9 ls (.int x :: st) hp = if x = 0 then ab_X rom K cX9_makesStar 7 2 12 ls st hp else ab_X rom K cX9_makesStar 7 2 14 ls st hp := ax_if_ne dX9_makesStar_9 (by decide) rfl
theorem dX9_makesStar_12 : decode cX9_makesStar 12 = .ok (.iconst 0, 1) := by decide +kernel
theorem sX9_makesStar_12 : ab_X rom K cX9_makesStar 7 2 12 ls st hp = ab_X rom K cX9_makesStar 7 2 13 ls (.int 0 :: st) hp := ax_iconst dX9_makesStar_12 (by decide) rfl
theorem dX9_makesStar_13 : decode cX9_makesStar 13 = .ok (.ireturn, 1) := by decide +kernel
theorem sX9_makesStar_13 : ab_X rom K cX9_makesStar 7 2 13 ls [.int x] hp = if x = 0 ∨ x = 1 then some (some (.int x), hp) else none := ay_zret dX9_makesStar_13 rfl
theorem dX9_makesStar_14 : decode cX9_makesStar 14 = .ok (.aload_n 0, 1) := by decide +kernel
theorem sX9_makesStar_14 : ab_X rom K cX9_makesStar 7 2 14 (.ref a :: ls) st hp = ab_X rom K cX9_makesStar 7 2 15 (.ref a :: ls) (.ref a :: st) hp := ax_aload_n dX9_makesStar_14 rfl rfl
theorem dX9_makesStar_15 : decode cX9_makesStar 15 = .ok (.iload_n 1, 1) := by decide +kernel
theorem sX9_makesStar_15 : ab_X rom K cX9_makesStar 7 2 15 (v0 :: .int x :: ls) st hp = ab_X rom K cX9_makesStar 7 2 16 (v0 :: .int x :: ls) (.int x :: st) hp := ax_iload_n dX9_makesStar_15 rfl rfl
theorem dX9_makesStar_16 : decode cX9_makesStar 16 = .ok (.iconst 1, 1) := by decide +kernel
theorem sX9_makesStar_16 : ab_X rom K cX9_makesStar 7 2 16 ls st hp = ab_X rom K cX9_makesStar 7 2 17 ls (.int 1 :: st) hp := ax_iconst dX9_makesStar_16 (by decide) rfl
theorem dX9_makesStar_17 : decode cX9_makesStar 17 = .ok (.iadd, 1) := by decide +kernel
theorem sX9_makesStar_17 : ab_X rom K cX9_makesStar 7 2 17 ls (.int y :: .int x :: st) hp = ab_X rom K cX9_makesStar 7 2 18 ls (.int (x + y) :: st) hp := ax_iadd dX9_makesStar_17 rfl
theorem dX9_makesStar_18 : decode cX9_makesStar 18 = .ok (.invokevirtual 328, 3) := by decide +kernel
theorem sX9_makesStar_18_0 : ab_X rom K cX9_makesStar 7 2 18 ls [w1, .ref a] hp = if ab_iso hp a 7 = true then (K 190 (.ref a :: [w1]) hp).bind (fun o => ab_X rom K cX9_makesStar 7 2 21 ls (o.1.toList ++ []) o.2) else none := ay_virtual (as := [w1]) (st := []) dX9_makesStar_18 kc_7_328 rfl rfl (Nat.le_of_ble_eq_true rfl)
theorem sX9_makesStar_18_1 : ab_X rom K cX9_makesStar 7 2 18 ls [w1, .ref a, v0] hp = if ab_iso hp a 7 = true then (K 190 (.ref a :: [w1]) hp).bind (fun o => ab_X rom K cX9_makesStar 7 2 21 ls (o.1.toList ++ [v0]) o.2) else none := ay_virtual (as := [w1]) (st := [v0]) dX9_makesStar_18 kc_7_328 rfl rfl (Nat.le_of_ble_eq_true rfl)
theorem sX9_makesStar_18_2 : ab_X rom K cX9_makesStar 7 2 18 ls [w1, .ref a, v0, v1] hp = if ab_iso hp a 7 = true then (K 190 (.ref a :: [w1]) hp).bind (fun o => ab_X rom K cX9_makesStar 7 2 21 ls (o.1.toList ++ [v0, v1]) o.2) else none := ay_virtual (as := [w1]) (st := [v0, v1]) dX9_makesStar_18 kc_7_328 rfl rfl (Nat.le_of_ble_eq_true rfl)
theorem sX9_makesStar_18_3 : ab_X rom K cX9_makesStar 7 2 18 ls [w1, .ref a, v0, v1, v2] hp = if ab_iso hp a 7 = true then (K 190 (.ref a :: [w1]) hp).bind (fun o => ab_X rom K cX9_makesStar 7 2 21 ls (o.1.toList ++ [v0, v1, v2]) o.2) else none := ay_virtual (as := [w1]) (st := [v0, v1, v2]) dX9_makesStar_18 kc_7_328 rfl rfl (Nat.le_of_ble_eq_true rfl)
theorem dX9_makesStar_21 : decode cX9_makesStar 21 = .ok (.iconst 0, 1) := by decide +kernel
theorem sX9_makesStar_21 : ab_X rom K cX9_makesStar 7 2 21 ls st hp = ab_X rom K cX9_makesStar 7 2 22 ls (.int 0 :: st) hp := ax_iconst dX9_makesStar_21 (by decide) rfl
theorem dX9_makesStar_22 : decode cX9_makesStar 22 = .ok (.istore_n 2, 1) := by decide +kernel
theorem sX9_makesStar_22i : ab_X rom K cX9_makesStar 7 2 22 (v0 :: .int y :: v2 :: ls) (.int x :: st) hp = ab_X rom K cX9_makesStar 7 2 23 (v0 :: .int y :: .int x :: ls) st hp := ax_istore_n dX9_makesStar_22 (ax_lt (v := v2) rfl) (ab_nl_c1 (j := 1) (v := .int y) rfl (ab_c1_int _)) rfl rfl
theorem sX9_makesStar_22r : ab_X rom K cX9_makesStar 7 2 22 (v0 :: .ref a2 :: v2 :: ls) (.int x :: st) hp = ab_X rom K cX9_makesStar 7 2 23 (v0 :: .ref a2 :: .int x :: ls) st hp := ax_istore_n dX9_makesStar_22 (ax_lt (v := v2) rfl) (ab_nl_c1 (j := 1) (v := .ref a2) rfl (ab_c1_ref _)) rfl rfl
theorem sX9_makesStar_22n : ab_X rom K cX9_makesStar 7 2 22 (v0 :: .null :: v2 :: ls) (.int x :: st) hp = ab_X rom K cX9_makesStar 7 2 23 (v0 :: .null :: .int x :: ls) st hp := ax_istore_n dX9_makesStar_22 (ax_lt (v := v2) rfl) (ab_nl_c1 (j := 1) (v := .null) rfl ab_c1_null) rfl rfl
theorem dX9_makesStar_23 : decode cX9_makesStar 23 = .ok (.iload_n 2, 1) := by decide +kernel
theorem sX9_makesStar_23 : ab_X rom K cX9_makesStar 7 2 23 (v0 :: v1 :: .int x :: ls) st hp = ab_X rom K cX9_makesStar 7 2 24 (v0 :: v1 :: .int x :: ls) (.int x :: st) hp := ax_iload_n dX9_makesStar_23 rfl rfl
theorem dX9_makesStar_24 : decode cX9_makesStar 24 = .ok (.iload_n 1, 1) := by decide +kernel
theorem sX9_makesStar_24 : ab_X rom K cX9_makesStar 7 2 24 (v0 :: .int x :: ls) st hp = ab_X rom K cX9_makesStar 7 2 25 (v0 :: .int x :: ls) (.int x :: st) hp := ax_iload_n dX9_makesStar_24 rfl rfl
theorem dX9_makesStar_25 : decode cX9_makesStar 25 = .ok (.if_icmp .gt 29, 3) := by decide +kernel
theorem sX9_makesStar_25 : ab_X rom K cX9_makesStar 7 2 25 ls (.int y :: .int x :: st) hp = if y < x then ab_X rom K cX9_makesStar 7 2 54 ls st hp else ab_X rom K cX9_makesStar 7 2 28 ls st hp := ax_icmp_gt dX9_makesStar_25 (by decide) rfl
theorem dX9_makesStar_28 : decode cX9_makesStar 28 = .ok (.aload_n 0, 1) := by decide +kernel
theorem sX9_makesStar_28 : ab_X rom K cX9_makesStar 7 2 28 (.ref a :: ls) st hp = ab_X rom K cX9_makesStar 7 2 29 (.ref a :: ls) (.ref a :: st) hp := ax_aload_n dX9_makesStar_28 rfl rfl
theorem dX9_makesStar_29 : decode cX9_makesStar 29 = .ok (.getfield 41, 3) := by decide +kernel
theorem sX9_makesStar_29 : ab_X rom K cX9_makesStar 7 2 29 ls (.ref a :: st) hp = (ab_fld hp a 7 24).bind (fun v => ab_X rom K cX9_makesStar 7 2 32 ls (v :: st) hp) := ax_getfield dX9_makesStar_29 kf_7_41 rfl
theorem dX9_makesStar_32 : decode cX9_makesStar 32 = .ok (.bipush 8, 2) := by decide +kernel
theorem sX9_makesStar_32 : ab_X rom K cX9_makesStar 7 2 32 ls st hp = ab_X rom K cX9_makesStar 7 2 34 ls (.int 8 :: st) hp := ax_bipush dX9_makesStar_32 (by decide) rfl
theorem dX9_makesStar_34 : decode cX9_makesStar 34 = .ok (.iload_n 2, 1) := by decide +kernel
theorem sX9_makesStar_34 : ab_X rom K cX9_makesStar 7 2 34 (v0 :: v1 :: .int x :: ls) st hp = ab_X rom K cX9_makesStar 7 2 35 (v0 :: v1 :: .int x :: ls) (.int x :: st) hp := ax_iload_n dX9_makesStar_34 rfl rfl
theorem dX9_makesStar_35 : decode cX9_makesStar 35 = .ok (.iadd, 1) := by decide +kernel
theorem sX9_makesStar_35 : ab_X rom K cX9_makesStar 7 2 35 ls (.int y :: .int x :: st) hp = ab_X rom K cX9_makesStar 7 2 36 ls (.int (x + y) :: st) hp := ax_iadd dX9_makesStar_35 rfl
theorem dX9_makesStar_36 : decode cX9_makesStar 36 = .ok (.iload_n 2, 1) := by decide +kernel
theorem sX9_makesStar_36 : ab_X rom K cX9_makesStar 7 2 36 (v0 :: v1 :: .int x :: ls) st hp = ab_X rom K cX9_makesStar 7 2 37 (v0 :: v1 :: .int x :: ls) (.int x :: st) hp := ax_iload_n dX9_makesStar_36 rfl rfl
theorem dX9_makesStar_37 : decode cX9_makesStar 37 = .ok (.iastore, 1) := by decide +kernel
theorem sX9_makesStar_37 : ab_X rom K cX9_makesStar 7 2 37 ls (.int y :: .int x :: .ref a :: st) hp = (ab_awr 0 hp a x y).bind (fun hp' => ab_X rom K cX9_makesStar 7 2 38 ls st hp') := ax_iastore dX9_makesStar_37 rfl
theorem dX9_makesStar_38 : decode cX9_makesStar 38 = .ok (.iload_n 2, 1) := by decide +kernel
theorem sX9_makesStar_38 : ab_X rom K cX9_makesStar 7 2 38 (v0 :: v1 :: .int x :: ls) st hp = ab_X rom K cX9_makesStar 7 2 39 (v0 :: v1 :: .int x :: ls) (.int x :: st) hp := ax_iload_n dX9_makesStar_38 rfl rfl
theorem dX9_makesStar_39 : decode cX9_makesStar 39 = .ok (.ifCond .le 9, 3) := by decide +kernel
theorem sX9_makesStar_39 : ab_X rom K cX9_makesStar 7 2 39 ls (.int x :: st) hp = if 0 < x then ab_X rom K cX9_makesStar 7 2 42 ls st hp else ab_X rom K cX9_makesStar 7 2 48 ls st hp := ax_if_le dX9_makesStar_39 (by decide) rfl
theorem dX9_makesStar_42 : decode cX9_makesStar 42 = .ok (.aload_n 0, 1) := by decide +kernel
theorem sX9_makesStar_42 : ab_X rom K cX9_makesStar 7 2 42 (.ref a :: ls) st hp = ab_X rom K cX9_makesStar 7 2 43 (.ref a :: ls) (.ref a :: st) hp := ax_aload_n dX9_makesStar_42 rfl rfl
theorem dX9_makesStar_43 : decode cX9_makesStar 43 = .ok (.iconst 0, 1) := by decide +kernel
theorem sX9_makesStar_43 : ab_X rom K cX9_makesStar 7 2 43 ls st hp = ab_X rom K cX9_makesStar 7 2 44 ls (.int 0 :: st) hp := ax_iconst dX9_makesStar_43 (by decide) rfl
theorem dX9_makesStar_44 : decode cX9_makesStar 44 = .ok (.iload_n 2, 1) := by decide +kernel
theorem sX9_makesStar_44 : ab_X rom K cX9_makesStar 7 2 44 (v0 :: v1 :: .int x :: ls) st hp = ab_X rom K cX9_makesStar 7 2 45 (v0 :: v1 :: .int x :: ls) (.int x :: st) hp := ax_iload_n dX9_makesStar_44 rfl rfl
theorem dX9_makesStar_45 : decode cX9_makesStar 45 = .ok (.invokevirtual 335, 3) := by decide +kernel
theorem sX9_makesStar_45_0 : ab_X rom K cX9_makesStar 7 2 45 ls [w2, w1, .ref a] hp = if ab_iso hp a 7 = true then (K 191 (.ref a :: [w1, w2]) hp).bind (fun o => ab_X rom K cX9_makesStar 7 2 48 ls (o.1.toList ++ []) o.2) else none := ay_virtual (as := [w1, w2]) (st := []) dX9_makesStar_45 kc_7_335 rfl rfl (Nat.le_of_ble_eq_true rfl)
theorem sX9_makesStar_45_1 : ab_X rom K cX9_makesStar 7 2 45 ls [w2, w1, .ref a, v0] hp = if ab_iso hp a 7 = true then (K 191 (.ref a :: [w1, w2]) hp).bind (fun o => ab_X rom K cX9_makesStar 7 2 48 ls (o.1.toList ++ [v0]) o.2) else none := ay_virtual (as := [w1, w2]) (st := [v0]) dX9_makesStar_45 kc_7_335 rfl rfl (Nat.le_of_ble_eq_true rfl)
theorem sX9_makesStar_45_2 : ab_X rom K cX9_makesStar 7 2 45 ls [w2, w1, .ref a, v0, v1] hp = if ab_iso hp a 7 = true then (K 191 (.ref a :: [w1, w2]) hp).bind (fun o => ab_X rom K cX9_makesStar 7 2 48 ls (o.1.toList ++ [v0, v1]) o.2) else none := ay_virtual (as := [w1, w2]) (st := [v0, v1]) dX9_makesStar_45 kc_7_335 rfl rfl (Nat.le_of_ble_eq_true rfl)
theorem sX9_makesStar_45_3 : ab_X rom K cX9_makesStar 7 2 45 ls [w2, w1, .ref a, v0, v1, v2] hp = if ab_iso hp a 7 = true then (K 191 (.ref a :: [w1, w2]) hp).bind (fun o => ab_X rom K cX9_makesStar 7 2 48 ls (o.1.toList ++ [v0, v1, v2]) o.2) else none := ay_virtual (as := [w1, w2]) (st := [v0, v1, v2]) dX9_makesStar_45 kc_7_335 rfl rfl (Nat.le_of_ble_eq_true rfl)
theorem dX9_makesStar_48 : decode cX9_makesStar 48 = .ok (.iinc 2 1, 3) := by decide +kernel
theorem sX9_makesStar_48i : ab_X rom K cX9_makesStar 7 2 48 (v0 :: .int y :: .int x :: ls) st hp = ab_X rom K cX9_makesStar 7 2 51 (v0 :: .int y :: .int (x + 1) :: ls) st hp := ax_iinc dX9_makesStar_48 rfl (ab_nl_c1 (j := 1) (v := .int y) rfl (ab_c1_int _)) (by decide) rfl rfl
theorem sX9_makesStar_48r : ab_X rom K cX9_makesStar 7 2 48 (v0 :: .ref a2 :: .int x :: ls) st hp = ab_X rom K cX9_makesStar 7 2 51 (v0 :: .ref a2 :: .int (x + 1) :: ls) st hp := ax_iinc dX9_makesStar_48 rfl (ab_nl_c1 (j := 1) (v := .ref a2) rfl (ab_c1_ref _)) (by decide) rfl rfl
theorem sX9_makesStar_48n : ab_X rom K cX9_makesStar 7 2 48 (v0 :: .null :: .int x :: ls) st hp = ab_X rom K cX9_makesStar 7 2 51 (v0 :: .null :: .int (x + 1) :: ls) st hp := ax_iinc dX9_makesStar_48 rfl (ab_nl_c1 (j := 1) (v := .null) rfl ab_c1_null) (by decide) rfl rfl
theorem dX9_makesStar_51 : decode cX9_makesStar 51 = .ok (.goto (-28), 3) := by decide +kernel
theorem sX9_makesStar_51 : ab_X rom K cX9_makesStar 7 2 51 ls st hp = ab_X rom K cX9_makesStar 7 2 23 ls st hp := ax_goto dX9_makesStar_51 (by decide)
theorem dX9_makesStar_54 : decode cX9_makesStar 54 = .ok (.iconst 1, 1) := by decide +kernel
theorem sX9_makesStar_54 : ab_X rom K cX9_makesStar 7 2 54 ls st hp = ab_X rom K cX9_makesStar 7 2 55 ls (.int 1 :: st) hp := ax_iconst dX9_makesStar_54 (by decide) rfl
theorem dX9_makesStar_55 : decode cX9_makesStar 55 = .ok (.ireturn, 1) := by decide +kernel
theorem sX9_makesStar_55 : ab_X rom K cX9_makesStar 7 2 55 ls [.int x] hp = if x = 0 ∨ x = 1 then some (some (.int x), hp) else none := ay_zret dX9_makesStar_55 rfl
theorem tX9_many : ab_mT[198]? = some (yX9_many, cX9_many, 4, 1, 7) := by decide +kernel
theorem mX9_many {d : Nat} {a0 : Nat} {x0 : Int32} {x1 : Int32} : ab_M rom (d + 1) 198 [.ref a0, .int x0, .int x1] hp = ab_X rom (ab_M rom d) cX9_many 7 1 0 [.ref a0, .int x0, .int x1, .null] [] hp := ab_M_eq tX9_many (Nat.le_of_ble_eq_true rfl)
theorem dX9_many_0 : decode cX9_many 0 = .ok (.aload_n 0, 1) := by decide +kernel
theorem sX9_many_0 : ab_X rom K cX9_many 7 1 0 (.ref a :: ls) st hp = ab_X rom K cX9_many 7 1 1 (.ref a :: ls) (.ref a :: st) hp := ax_aload_n dX9_many_0 rfl rfl
theorem dX9_many_1 : decode cX9_many 1 = .ok (.iload_n 1, 1) := by decide +kernel
theorem sX9_many_1 : ab_X rom K cX9_many 7 1 1 (v0 :: .int x :: ls) st hp = ab_X rom K cX9_many 7 1 2 (v0 :: .int x :: ls) (.int x :: st) hp := ax_iload_n dX9_many_1 rfl rfl
theorem dX9_many_2 : decode cX9_many 2 = .ok (.invokevirtual 68, 3) := by decide +kernel
theorem sX9_many_2_0 : ab_X rom K cX9_many 7 1 2 ls [w1, .ref a] hp = if ab_iso hp a 7 = true then (K 171 (.ref a :: [w1]) hp).bind (fun o => ab_X rom K cX9_many 7 1 5 ls (o.1.toList ++ []) o.2) else none := ay_virtual (as := [w1]) (st := []) dX9_many_2 kc_7_68 rfl rfl (Nat.le_of_ble_eq_true rfl)
theorem sX9_many_2_1 : ab_X rom K cX9_many 7 1 2 ls [w1, .ref a, v0] hp = if ab_iso hp a 7 = true then (K 171 (.ref a :: [w1]) hp).bind (fun o => ab_X rom K cX9_many 7 1 5 ls (o.1.toList ++ [v0]) o.2) else none := ay_virtual (as := [w1]) (st := [v0]) dX9_many_2 kc_7_68 rfl rfl (Nat.le_of_ble_eq_true rfl)
theorem sX9_many_2_2 : ab_X rom K cX9_many 7 1 2 ls [w1, .ref a, v0, v1] hp = if ab_iso hp a 7 = true then (K 171 (.ref a :: [w1]) hp).bind (fun o => ab_X rom K cX9_many 7 1 5 ls (o.1.toList ++ [v0, v1]) o.2) else none := ay_virtual (as := [w1]) (st := [v0, v1]) dX9_many_2 kc_7_68 rfl rfl (Nat.le_of_ble_eq_true rfl)
theorem sX9_many_2_3 : ab_X rom K cX9_many 7 1 2 ls [w1, .ref a, v0, v1, v2] hp = if ab_iso hp a 7 = true then (K 171 (.ref a :: [w1]) hp).bind (fun o => ab_X rom K cX9_many 7 1 5 ls (o.1.toList ++ [v0, v1, v2]) o.2) else none := ay_virtual (as := [w1]) (st := [v0, v1, v2]) dX9_many_2 kc_7_68 rfl rfl (Nat.le_of_ble_eq_true rfl)
theorem dX9_many_5 : decode cX9_many 5 = .ok (.ifCond .eq 10, 3) := by decide +kernel
theorem sX9_many_5 : ab_X rom K cX9_many 7 1 5 ls (.int x :: st) hp = if x = 0 then ab_X rom K cX9_many 7 1 15 ls st hp else ab_X rom K cX9_many 7 1 8 ls st hp := ax_if_eq dX9_many_5 (by decide) rfl
theorem dX9_many_8 : decode cX9_many 8 = .ok (.iload_n 2, 1) := by decide +kernel
theorem sX9_many_8 : ab_X rom K cX9_many 7 1 8 (v0 :: v1 :: .int x :: ls) st hp = ab_X rom K cX9_many 7 1 9 (v0 :: v1 :: .int x :: ls) (.int x :: st) hp := ax_iload_n dX9_many_8 rfl rfl
theorem dX9_many_9 : decode cX9_many 9 = .ok (.invokestatic 278, 3) := by decide +kernel
theorem sX9_many_9_0 : ab_X rom K cX9_many 7 1 9 ls [w1] hp = (K 168 [w1] hp).bind (fun o => ab_X rom K cX9_many 7 1 12 ls (o.1.toList ++ []) o.2) := ax_static (as := [w1]) (st := []) dX9_many_9 kc_7_278 rfl rfl (Nat.le_of_ble_eq_true rfl)
theorem sX9_many_9_1 : ab_X rom K cX9_many 7 1 9 ls [w1, v0] hp = (K 168 [w1] hp).bind (fun o => ab_X rom K cX9_many 7 1 12 ls (o.1.toList ++ [v0]) o.2) := ax_static (as := [w1]) (st := [v0]) dX9_many_9 kc_7_278 rfl rfl (Nat.le_of_ble_eq_true rfl)
theorem sX9_many_9_2 : ab_X rom K cX9_many 7 1 9 ls [w1, v0, v1] hp = (K 168 [w1] hp).bind (fun o => ab_X rom K cX9_many 7 1 12 ls (o.1.toList ++ [v0, v1]) o.2) := ax_static (as := [w1]) (st := [v0, v1]) dX9_many_9 kc_7_278 rfl rfl (Nat.le_of_ble_eq_true rfl)
theorem sX9_many_9_3 : ab_X rom K cX9_many 7 1 9 ls [w1, v0, v1, v2] hp = (K 168 [w1] hp).bind (fun o => ab_X rom K cX9_many 7 1 12 ls (o.1.toList ++ [v0, v1, v2]) o.2) := ax_static (as := [w1]) (st := [v0, v1, v2]) dX9_many_9 kc_7_278 rfl rfl (Nat.le_of_ble_eq_true rfl)
theorem dX9_many_12 : decode cX9_many 12 = .ok (.ifCond .ne 6, 3) := by decide +kernel
theorem sX9_many_12 : ab_X rom K cX9_many 7 1 12 ls (.int x :: st) hp = if x = 0 then ab_X rom K cX9_many 7 1 15 ls st hp else ab_X rom K cX9_many 7 1 18 ls st hp := ax_if_ne dX9_many_12 (by decide) rfl
theorem dX9_many_15 : decode cX9_many 15 = .ok (.bipush (-2), 2) := by decide +kernel
theorem sX9_many_15 : ab_X rom K cX9_many 7 1 15 ls st hp = ab_X rom K cX9_many 7 1 17 ls (.int (-2) :: st) hp := ax_bipush dX9_many_15 (by decide) rfl
theorem dX9_many_17 : decode cX9_many 17 = .ok (.ireturn, 1) := by decide +kernel
theorem sX9_many_17 : ab_X rom K cX9_many 7 1 17 ls [.int x] hp = some (some (.int x), hp) := ax_iret dX9_many_17 rfl
theorem dX9_many_18 : decode cX9_many 18 = .ok (.aload_n 0, 1) := by decide +kernel
theorem sX9_many_18 : ab_X rom K cX9_many 7 1 18 (.ref a :: ls) st hp = ab_X rom K cX9_many 7 1 19 (.ref a :: ls) (.ref a :: st) hp := ax_aload_n dX9_many_18 rfl rfl
theorem dX9_many_19 : decode cX9_many 19 = .ok (.iload_n 1, 1) := by decide +kernel
theorem sX9_many_19 : ab_X rom K cX9_many 7 1 19 (v0 :: .int x :: ls) st hp = ab_X rom K cX9_many 7 1 20 (v0 :: .int x :: ls) (.int x :: st) hp := ax_iload_n dX9_many_19 rfl rfl
theorem dX9_many_20 : decode cX9_many 20 = .ok (.iload_n 2, 1) := by decide +kernel
theorem sX9_many_20 : ab_X rom K cX9_many 7 1 20 (v0 :: v1 :: .int x :: ls) st hp = ab_X rom K cX9_many 7 1 21 (v0 :: v1 :: .int x :: ls) (.int x :: st) hp := ax_iload_n dX9_many_20 rfl rfl
theorem dX9_many_21 : decode cX9_many 21 = .ok (.bipush 127, 2) := by decide +kernel
theorem sX9_many_21 : ab_X rom K cX9_many 7 1 21 ls st hp = ab_X rom K cX9_many 7 1 23 ls (.int 127 :: st) hp := ax_bipush dX9_many_21 (by decide) rfl
theorem dX9_many_23 : decode cX9_many 23 = .ok (.iconst 0, 1) := by decide +kernel
theorem sX9_many_23 : ab_X rom K cX9_many 7 1 23 ls st hp = ab_X rom K cX9_many 7 1 24 ls (.int 0 :: st) hp := ax_iconst dX9_many_23 (by decide) rfl
theorem dX9_many_24 : decode cX9_many 24 = .ok (.invokevirtual 302, 3) := by decide +kernel
theorem sX9_many_24_0 : ab_X rom K cX9_many 7 1 24 ls [w4, w3, w2, w1, .ref a] hp = if ab_iso hp a 7 = true then (K 221 (.ref a :: [w1, w2, w3, w4]) hp).bind (fun o => ab_X rom K cX9_many 7 1 27 ls (o.1.toList ++ []) o.2) else none := ay_virtual (as := [w1, w2, w3, w4]) (st := []) dX9_many_24 kc_7_302 rfl rfl (Nat.le_of_ble_eq_true rfl)
theorem sX9_many_24_1 : ab_X rom K cX9_many 7 1 24 ls [w4, w3, w2, w1, .ref a, v0] hp = if ab_iso hp a 7 = true then (K 221 (.ref a :: [w1, w2, w3, w4]) hp).bind (fun o => ab_X rom K cX9_many 7 1 27 ls (o.1.toList ++ [v0]) o.2) else none := ay_virtual (as := [w1, w2, w3, w4]) (st := [v0]) dX9_many_24 kc_7_302 rfl rfl (Nat.le_of_ble_eq_true rfl)
theorem sX9_many_24_2 : ab_X rom K cX9_many 7 1 24 ls [w4, w3, w2, w1, .ref a, v0, v1] hp = if ab_iso hp a 7 = true then (K 221 (.ref a :: [w1, w2, w3, w4]) hp).bind (fun o => ab_X rom K cX9_many 7 1 27 ls (o.1.toList ++ [v0, v1]) o.2) else none := ay_virtual (as := [w1, w2, w3, w4]) (st := [v0, v1]) dX9_many_24 kc_7_302 rfl rfl (Nat.le_of_ble_eq_true rfl)
theorem sX9_many_24_3 : ab_X rom K cX9_many 7 1 24 ls [w4, w3, w2, w1, .ref a, v0, v1, v2] hp = if ab_iso hp a 7 = true then (K 221 (.ref a :: [w1, w2, w3, w4]) hp).bind (fun o => ab_X rom K cX9_many 7 1 27 ls (o.1.toList ++ [v0, v1, v2]) o.2) else none := ay_virtual (as := [w1, w2, w3, w4]) (st := [v0, v1, v2]) dX9_many_24 kc_7_302 rfl rfl (Nat.le_of_ble_eq_true rfl)
theorem dX9_many_27 : decode cX9_many 27 = .ok (.istore_n 3, 1) := by decide +kernel
theorem sX9_many_27i : ab_X rom K cX9_many 7 1 27 (v0 :: v1 :: .int y :: v3 :: ls) (.int x :: st) hp = ab_X rom K cX9_many 7 1 28 (v0 :: v1 :: .int y :: .int x :: ls) st hp := ax_istore_n dX9_many_27 (ax_lt (v := v3) rfl) (ab_nl_c1 (j := 2) (v := .int y) rfl (ab_c1_int _)) rfl rfl
theorem sX9_many_27r : ab_X rom K cX9_many 7 1 27 (v0 :: v1 :: .ref a2 :: v3 :: ls) (.int x :: st) hp = ab_X rom K cX9_many 7 1 28 (v0 :: v1 :: .ref a2 :: .int x :: ls) st hp := ax_istore_n dX9_many_27 (ax_lt (v := v3) rfl) (ab_nl_c1 (j := 2) (v := .ref a2) rfl (ab_c1_ref _)) rfl rfl
theorem sX9_many_27n : ab_X rom K cX9_many 7 1 27 (v0 :: v1 :: .null :: v3 :: ls) (.int x :: st) hp = ab_X rom K cX9_many 7 1 28 (v0 :: v1 :: .null :: .int x :: ls) st hp := ax_istore_n dX9_many_27 (ax_lt (v := v3) rfl) (ab_nl_c1 (j := 2) (v := .null) rfl ab_c1_null) rfl rfl
theorem dX9_many_28 : decode cX9_many 28 = .ok (.aload_n 0, 1) := by decide +kernel
theorem sX9_many_28 : ab_X rom K cX9_many 7 1 28 (.ref a :: ls) st hp = ab_X rom K cX9_many 7 1 29 (.ref a :: ls) (.ref a :: st) hp := ax_aload_n dX9_many_28 rfl rfl
theorem dX9_many_29 : decode cX9_many 29 = .ok (.getfield 293, 3) := by decide +kernel
theorem sX9_many_29 : ab_X rom K cX9_many 7 1 29 ls (.ref a :: st) hp = (ab_fld hp a 7 21).bind (fun v => ab_X rom K cX9_many 7 1 32 ls (v :: st) hp) := ax_getfield dX9_many_29 kf_7_293 rfl
theorem dX9_many_32 : decode cX9_many 32 = .ok (.ireturn, 1) := by decide +kernel
theorem sX9_many_32 : ab_X rom K cX9_many 7 1 32 ls [.int x] hp = some (some (.int x), hp) := ax_iret dX9_many_32 rfl
theorem tX9_mirrors : ab_mT[199]? = some (yX9_mirrors, cX9_mirrors, 6, 1, 7) := by decide +kernel
theorem mX9_mirrors {d : Nat} {a0 : Nat} {x0 : Int32} : ab_M rom (d + 1) 199 [.ref a0, .int x0] hp = ab_X rom (ab_M rom d) cX9_mirrors 7 1 0 [.ref a0, .int x0, .null, .null, .null, .null] [] hp := ab_M_eq tX9_mirrors (Nat.le_of_ble_eq_true rfl)
theorem dX9_mirrors_0 : decode cX9_mirrors 0 = .ok (.aload_n 0, 1) := by decide +kernel
theorem sX9_mirrors_0 : ab_X rom K cX9_mirrors 7 1 0 (.ref a :: ls) st hp = ab_X rom K cX9_mirrors 7 1 1 (.ref a :: ls) (.ref a :: st) hp := ax_aload_n dX9_mirrors_0 rfl rfl
theorem dX9_mirrors_1 : decode cX9_mirrors 1 = .ok (.iload_n 1, 1) := by decide +kernel
theorem sX9_mirrors_1 : ab_X rom K cX9_mirrors 7 1 1 (v0 :: .int x :: ls) st hp = ab_X rom K cX9_mirrors 7 1 2 (v0 :: .int x :: ls) (.int x :: st) hp := ax_iload_n dX9_mirrors_1 rfl rfl
theorem dX9_mirrors_2 : decode cX9_mirrors 2 = .ok (.invokevirtual 68, 3) := by decide +kernel
theorem sX9_mirrors_2_0 : ab_X rom K cX9_mirrors 7 1 2 ls [w1, .ref a] hp = if ab_iso hp a 7 = true then (K 171 (.ref a :: [w1]) hp).bind (fun o => ab_X rom K cX9_mirrors 7 1 5 ls (o.1.toList ++ []) o.2) else none := ay_virtual (as := [w1]) (st := []) dX9_mirrors_2 kc_7_68 rfl rfl (Nat.le_of_ble_eq_true rfl)
theorem sX9_mirrors_2_1 : ab_X rom K cX9_mirrors 7 1 2 ls [w1, .ref a, v0] hp = if ab_iso hp a 7 = true then (K 171 (.ref a :: [w1]) hp).bind (fun o => ab_X rom K cX9_mirrors 7 1 5 ls (o.1.toList ++ [v0]) o.2) else none := ay_virtual (as := [w1]) (st := [v0]) dX9_mirrors_2 kc_7_68 rfl rfl (Nat.le_of_ble_eq_true rfl)
theorem sX9_mirrors_2_2 : ab_X rom K cX9_mirrors 7 1 2 ls [w1, .ref a, v0, v1] hp = if ab_iso hp a 7 = true then (K 171 (.ref a :: [w1]) hp).bind (fun o => ab_X rom K cX9_mirrors 7 1 5 ls (o.1.toList ++ [v0, v1]) o.2) else none := ay_virtual (as := [w1]) (st := [v0, v1]) dX9_mirrors_2 kc_7_68 rfl rfl (Nat.le_of_ble_eq_true rfl)
theorem sX9_mirrors_2_3 : ab_X rom K cX9_mirrors 7 1 2 ls [w1, .ref a, v0, v1, v2] hp = if ab_iso hp a 7 = true then (K 171 (.ref a :: [w1]) hp).bind (fun o => ab_X rom K cX9_mirrors 7 1 5 ls (o.1.toList ++ [v0, v1, v2]) o.2) else none := ay_virtual (as := [w1]) (st := [v0, v1, v2]) dX9_mirrors_2 kc_7_68 rfl rfl (Nat.le_of_ble_eq_true rfl)
theorem dX9_mirrors_5 : decode cX9_mirrors 5 = .ok (.ifCond .ne 6, 3) := by decide +kernel
theorem sX9_mirrors_5 : ab_X rom K cX9_mirrors 7 1 5 ls (.int x :: st) hp = if x = 0 then ab_X rom K cX9_mirrors 7 1 8 ls st hp else ab_X rom K cX9_mirrors 7 1 11 ls st hp := ax_if_ne dX9_mirrors_5 (by decide) rfl
theorem dX9_mirrors_8 : decode cX9_mirrors 8 = .ok (.bipush (-2), 2) := by decide +kernel
theorem sX9_mirrors_8 : ab_X rom K cX9_mirrors 7 1 8 ls st hp = ab_X rom K cX9_mirrors 7 1 10 ls (.int (-2) :: st) hp := ax_bipush dX9_mirrors_8 (by decide) rfl
theorem dX9_mirrors_10 : decode cX9_mirrors 10 = .ok (.ireturn, 1) := by decide +kernel
theorem sX9_mirrors_10 : ab_X rom K cX9_mirrors 7 1 10 ls [.int x] hp = some (some (.int x), hp) := ax_iret dX9_mirrors_10 rfl
theorem dX9_mirrors_11 : decode cX9_mirrors 11 = .ok (.aload_n 0, 1) := by decide +kernel
theorem sX9_mirrors_11 : ab_X rom K cX9_mirrors 7 1 11 (.ref a :: ls) st hp = ab_X rom K cX9_mirrors 7 1 12 (.ref a :: ls) (.ref a :: st) hp := ax_aload_n dX9_mirrors_11 rfl rfl
theorem dX9_mirrors_12 : decode cX9_mirrors 12 = .ok (.iload_n 1, 1) := by decide +kernel
theorem sX9_mirrors_12 : ab_X rom K cX9_mirrors 7 1 12 (v0 :: .int x :: ls) st hp = ab_X rom K cX9_mirrors 7 1 13 (v0 :: .int x :: ls) (.int x :: st) hp := ax_iload_n dX9_mirrors_12 rfl rfl
theorem dX9_mirrors_13 : decode cX9_mirrors 13 = .ok (.invokevirtual 319, 3) := by decide +kernel
theorem sX9_mirrors_13_0 : ab_X rom K cX9_mirrors 7 1 13 ls [w1, .ref a] hp = if ab_iso hp a 7 = true then (K 162 (.ref a :: [w1]) hp).bind (fun o => ab_X rom K cX9_mirrors 7 1 16 ls (o.1.toList ++ []) o.2) else none := ay_virtual (as := [w1]) (st := []) dX9_mirrors_13 kc_7_319 rfl rfl (Nat.le_of_ble_eq_true rfl)
theorem sX9_mirrors_13_1 : ab_X rom K cX9_mirrors 7 1 13 ls [w1, .ref a, v0] hp = if ab_iso hp a 7 = true then (K 162 (.ref a :: [w1]) hp).bind (fun o => ab_X rom K cX9_mirrors 7 1 16 ls (o.1.toList ++ [v0]) o.2) else none := ay_virtual (as := [w1]) (st := [v0]) dX9_mirrors_13 kc_7_319 rfl rfl (Nat.le_of_ble_eq_true rfl)
theorem sX9_mirrors_13_2 : ab_X rom K cX9_mirrors 7 1 13 ls [w1, .ref a, v0, v1] hp = if ab_iso hp a 7 = true then (K 162 (.ref a :: [w1]) hp).bind (fun o => ab_X rom K cX9_mirrors 7 1 16 ls (o.1.toList ++ [v0, v1]) o.2) else none := ay_virtual (as := [w1]) (st := [v0, v1]) dX9_mirrors_13 kc_7_319 rfl rfl (Nat.le_of_ble_eq_true rfl)
theorem sX9_mirrors_13_3 : ab_X rom K cX9_mirrors 7 1 13 ls [w1, .ref a, v0, v1, v2] hp = if ab_iso hp a 7 = true then (K 162 (.ref a :: [w1]) hp).bind (fun o => ab_X rom K cX9_mirrors 7 1 16 ls (o.1.toList ++ [v0, v1, v2]) o.2) else none := ay_virtual (as := [w1]) (st := [v0, v1, v2]) dX9_mirrors_13 kc_7_319 rfl rfl (Nat.le_of_ble_eq_true rfl)
theorem dX9_mirrors_16 : decode cX9_mirrors 16 = .ok (.ifCond .ne 6, 3) := by decide +kernel
theorem sX9_mirrors_16 : ab_X rom K cX9_mirrors 7 1 16 ls (.int x :: st) hp = if x = 0 then ab_X rom K cX9_mirrors 7 1 19 ls st hp else ab_X rom K cX9_mirrors 7 1 22 ls st hp := ax_if_ne dX9_mirrors_16 (by decide) rfl
theorem dX9_mirrors_19 : decode cX9_mirrors 19 = .ok (.bipush (-6), 2) := by decide +kernel
theorem sX9_mirrors_19 : ab_X rom K cX9_mirrors 7 1 19 ls st hp = ab_X rom K cX9_mirrors 7 1 21 ls (.int (-6) :: st) hp := ax_bipush dX9_mirrors_19 (by decide) rfl
theorem dX9_mirrors_21 : decode cX9_mirrors 21 = .ok (.ireturn, 1) := by decide +kernel
theorem sX9_mirrors_21 : ab_X rom K cX9_mirrors 7 1 21 ls [.int x] hp = some (some (.int x), hp) := ax_iret dX9_mirrors_21 rfl
theorem dX9_mirrors_22 : decode cX9_mirrors 22 = .ok (.aload_n 0, 1) := by decide +kernel
theorem sX9_mirrors_22 : ab_X rom K cX9_mirrors 7 1 22 (.ref a :: ls) st hp = ab_X rom K cX9_mirrors 7 1 23 (.ref a :: ls) (.ref a :: st) hp := ax_aload_n dX9_mirrors_22 rfl rfl
theorem dX9_mirrors_23 : decode cX9_mirrors 23 = .ok (.iload_n 1, 1) := by decide +kernel
theorem sX9_mirrors_23 : ab_X rom K cX9_mirrors 7 1 23 (v0 :: .int x :: ls) st hp = ab_X rom K cX9_mirrors 7 1 24 (v0 :: .int x :: ls) (.int x :: st) hp := ax_iload_n dX9_mirrors_23 rfl rfl
theorem dX9_mirrors_24 : decode cX9_mirrors 24 = .ok (.invokevirtual 322, 3) := by decide +kernel
theorem sX9_mirrors_24_0 : ab_X rom K cX9_mirrors 7 1 24 ls [w1, .ref a] hp = if ab_iso hp a 7 = true then (K 148 (.ref a :: [w1]) hp).bind (fun o => ab_X rom K cX9_mirrors 7 1 27 ls (o.1.toList ++ []) o.2) else none := ay_virtual (as := [w1]) (st := []) dX9_mirrors_24 kc_7_322 rfl rfl (Nat.le_of_ble_eq_true rfl)
theorem sX9_mirrors_24_1 : ab_X rom K cX9_mirrors 7 1 24 ls [w1, .ref a, v0] hp = if ab_iso hp a 7 = true then (K 148 (.ref a :: [w1]) hp).bind (fun o => ab_X rom K cX9_mirrors 7 1 27 ls (o.1.toList ++ [v0]) o.2) else none := ay_virtual (as := [w1]) (st := [v0]) dX9_mirrors_24 kc_7_322 rfl rfl (Nat.le_of_ble_eq_true rfl)
theorem sX9_mirrors_24_2 : ab_X rom K cX9_mirrors 7 1 24 ls [w1, .ref a, v0, v1] hp = if ab_iso hp a 7 = true then (K 148 (.ref a :: [w1]) hp).bind (fun o => ab_X rom K cX9_mirrors 7 1 27 ls (o.1.toList ++ [v0, v1]) o.2) else none := ay_virtual (as := [w1]) (st := [v0, v1]) dX9_mirrors_24 kc_7_322 rfl rfl (Nat.le_of_ble_eq_true rfl)
theorem sX9_mirrors_24_3 : ab_X rom K cX9_mirrors 7 1 24 ls [w1, .ref a, v0, v1, v2] hp = if ab_iso hp a 7 = true then (K 148 (.ref a :: [w1]) hp).bind (fun o => ab_X rom K cX9_mirrors 7 1 27 ls (o.1.toList ++ [v0, v1, v2]) o.2) else none := ay_virtual (as := [w1]) (st := [v0, v1, v2]) dX9_mirrors_24 kc_7_322 rfl rfl (Nat.le_of_ble_eq_true rfl)
theorem dX9_mirrors_27 : decode cX9_mirrors 27 = .ok (.istore_n 2, 1) := by decide +kernel
theorem sX9_mirrors_27i : ab_X rom K cX9_mirrors 7 1 27 (v0 :: .int y :: v2 :: ls) (.int x :: st) hp = ab_X rom K cX9_mirrors 7 1 28 (v0 :: .int y :: .int x :: ls) st hp := ax_istore_n dX9_mirrors_27 (ax_lt (v := v2) rfl) (ab_nl_c1 (j := 1) (v := .int y) rfl (ab_c1_int _)) rfl rfl
theorem sX9_mirrors_27r : ab_X rom K cX9_mirrors 7 1 27 (v0 :: .ref a2 :: v2 :: ls) (.int x :: st) hp = ab_X rom K cX9_mirrors 7 1 28 (v0 :: .ref a2 :: .int x :: ls) st hp := ax_istore_n dX9_mirrors_27 (ax_lt (v := v2) rfl) (ab_nl_c1 (j := 1) (v := .ref a2) rfl (ab_c1_ref _)) rfl rfl
theorem sX9_mirrors_27n : ab_X rom K cX9_mirrors 7 1 27 (v0 :: .null :: v2 :: ls) (.int x :: st) hp = ab_X rom K cX9_mirrors 7 1 28 (v0 :: .null :: .int x :: ls) st hp := ax_istore_n dX9_mirrors_27 (ax_lt (v := v2) rfl) (ab_nl_c1 (j := 1) (v := .null) rfl ab_c1_null) rfl rfl
theorem dX9_mirrors_28 : decode cX9_mirrors 28 = .ok (.aload_n 0, 1) := by decide +kernel
theorem sX9_mirrors_28 : ab_X rom K cX9_mirrors 7 1 28 (.ref a :: ls) st hp = ab_X rom K cX9_mirrors 7 1 29 (.ref a :: ls) (.ref a :: st) hp := ax_aload_n dX9_mirrors_28 rfl rfl
theorem dX9_mirrors_29 : decode cX9_mirrors 29 = .ok (.iload_n 1, 1) := by decide +kernel
theorem sX9_mirrors_29 : ab_X rom K cX9_mirrors 7 1 29 (v0 :: .int x :: ls) st hp = ab_X rom K cX9_mirrors 7 1 30 (v0 :: .int x :: ls) (.int x :: st) hp := ax_iload_n dX9_mirrors_29 rfl rfl
theorem dX9_mirrors_30 : decode cX9_mirrors 30 = .ok (.invokevirtual 150, 3) := by decide +kernel
theorem sX9_mirrors_30_0 : ab_X rom K cX9_mirrors 7 1 30 ls [w1, .ref a] hp = if ab_iso hp a 7 = true then (K 188 (.ref a :: [w1]) hp).bind (fun o => ab_X rom K cX9_mirrors 7 1 33 ls (o.1.toList ++ []) o.2) else none := ay_virtual (as := [w1]) (st := []) dX9_mirrors_30 kc_7_150 rfl rfl (Nat.le_of_ble_eq_true rfl)
theorem sX9_mirrors_30_1 : ab_X rom K cX9_mirrors 7 1 30 ls [w1, .ref a, v0] hp = if ab_iso hp a 7 = true then (K 188 (.ref a :: [w1]) hp).bind (fun o => ab_X rom K cX9_mirrors 7 1 33 ls (o.1.toList ++ [v0]) o.2) else none := ay_virtual (as := [w1]) (st := [v0]) dX9_mirrors_30 kc_7_150 rfl rfl (Nat.le_of_ble_eq_true rfl)
theorem sX9_mirrors_30_2 : ab_X rom K cX9_mirrors 7 1 30 ls [w1, .ref a, v0, v1] hp = if ab_iso hp a 7 = true then (K 188 (.ref a :: [w1]) hp).bind (fun o => ab_X rom K cX9_mirrors 7 1 33 ls (o.1.toList ++ [v0, v1]) o.2) else none := ay_virtual (as := [w1]) (st := [v0, v1]) dX9_mirrors_30 kc_7_150 rfl rfl (Nat.le_of_ble_eq_true rfl)
theorem sX9_mirrors_30_3 : ab_X rom K cX9_mirrors 7 1 30 ls [w1, .ref a, v0, v1, v2] hp = if ab_iso hp a 7 = true then (K 188 (.ref a :: [w1]) hp).bind (fun o => ab_X rom K cX9_mirrors 7 1 33 ls (o.1.toList ++ [v0, v1, v2]) o.2) else none := ay_virtual (as := [w1]) (st := [v0, v1, v2]) dX9_mirrors_30 kc_7_150 rfl rfl (Nat.le_of_ble_eq_true rfl)
theorem dX9_mirrors_33 : decode cX9_mirrors 33 = .ok (.istore_n 3, 1) := by decide +kernel
theorem sX9_mirrors_33i : ab_X rom K cX9_mirrors 7 1 33 (v0 :: v1 :: .int y :: v3 :: ls) (.int x :: st) hp = ab_X rom K cX9_mirrors 7 1 34 (v0 :: v1 :: .int y :: .int x :: ls) st hp := ax_istore_n dX9_mirrors_33 (ax_lt (v := v3) rfl) (ab_nl_c1 (j := 2) (v := .int y) rfl (ab_c1_int _)) rfl rfl
theorem sX9_mirrors_33r : ab_X rom K cX9_mirrors 7 1 33 (v0 :: v1 :: .ref a2 :: v3 :: ls) (.int x :: st) hp = ab_X rom K cX9_mirrors 7 1 34 (v0 :: v1 :: .ref a2 :: .int x :: ls) st hp := ax_istore_n dX9_mirrors_33 (ax_lt (v := v3) rfl) (ab_nl_c1 (j := 2) (v := .ref a2) rfl (ab_c1_ref _)) rfl rfl
theorem sX9_mirrors_33n : ab_X rom K cX9_mirrors 7 1 33 (v0 :: v1 :: .null :: v3 :: ls) (.int x :: st) hp = ab_X rom K cX9_mirrors 7 1 34 (v0 :: v1 :: .null :: .int x :: ls) st hp := ax_istore_n dX9_mirrors_33 (ax_lt (v := v3) rfl) (ab_nl_c1 (j := 2) (v := .null) rfl ab_c1_null) rfl rfl
theorem dX9_mirrors_34 : decode cX9_mirrors 34 = .ok (.aload_n 0, 1) := by decide +kernel
theorem sX9_mirrors_34 : ab_X rom K cX9_mirrors 7 1 34 (.ref a :: ls) st hp = ab_X rom K cX9_mirrors 7 1 35 (.ref a :: ls) (.ref a :: st) hp := ax_aload_n dX9_mirrors_34 rfl rfl
theorem dX9_mirrors_35 : decode cX9_mirrors 35 = .ok (.invokevirtual 87, 3) := by decide +kernel
theorem sX9_mirrors_35_0 : ab_X rom K cX9_mirrors 7 1 35 ls [.ref a] hp = if ab_iso hp a 7 = true then (K 214 (.ref a :: []) hp).bind (fun o => ab_X rom K cX9_mirrors 7 1 38 ls (o.1.toList ++ []) o.2) else none := ay_virtual (as := []) (st := []) dX9_mirrors_35 kc_7_87 rfl rfl (Nat.le_of_ble_eq_true rfl)
theorem sX9_mirrors_35_1 : ab_X rom K cX9_mirrors 7 1 35 ls [.ref a, v0] hp = if ab_iso hp a 7 = true then (K 214 (.ref a :: []) hp).bind (fun o => ab_X rom K cX9_mirrors 7 1 38 ls (o.1.toList ++ [v0]) o.2) else none := ay_virtual (as := []) (st := [v0]) dX9_mirrors_35 kc_7_87 rfl rfl (Nat.le_of_ble_eq_true rfl)
theorem sX9_mirrors_35_2 : ab_X rom K cX9_mirrors 7 1 35 ls [.ref a, v0, v1] hp = if ab_iso hp a 7 = true then (K 214 (.ref a :: []) hp).bind (fun o => ab_X rom K cX9_mirrors 7 1 38 ls (o.1.toList ++ [v0, v1]) o.2) else none := ay_virtual (as := []) (st := [v0, v1]) dX9_mirrors_35 kc_7_87 rfl rfl (Nat.le_of_ble_eq_true rfl)
theorem sX9_mirrors_35_3 : ab_X rom K cX9_mirrors 7 1 35 ls [.ref a, v0, v1, v2] hp = if ab_iso hp a 7 = true then (K 214 (.ref a :: []) hp).bind (fun o => ab_X rom K cX9_mirrors 7 1 38 ls (o.1.toList ++ [v0, v1, v2]) o.2) else none := ay_virtual (as := []) (st := [v0, v1, v2]) dX9_mirrors_35 kc_7_87 rfl rfl (Nat.le_of_ble_eq_true rfl)
theorem dX9_mirrors_38 : decode cX9_mirrors 38 = .ok (.iconst 0, 1) := by decide +kernel
theorem sX9_mirrors_38 : ab_X rom K cX9_mirrors 7 1 38 ls st hp = ab_X rom K cX9_mirrors 7 1 39 ls (.int 0 :: st) hp := ax_iconst dX9_mirrors_38 (by decide) rfl
theorem dX9_mirrors_39 : decode cX9_mirrors 39 = .ok (.istore 4, 2) := by decide +kernel
theorem sX9_mirrors_39i : ab_X rom K cX9_mirrors 7 1 39 (v0 :: v1 :: v2 :: .int y :: v4 :: ls) (.int x :: st) hp = ab_X rom K cX9_mirrors 7 1 41 (v0 :: v1 :: v2 :: .int y :: .int x :: ls) st hp := ax_istore dX9_mirrors_39 (ax_lt (v := v4) rfl) (ab_nl_c1 (j := 3) (v := .int y) rfl (ab_c1_int _)) rfl rfl
theorem sX9_mirrors_39r : ab_X rom K cX9_mirrors 7 1 39 (v0 :: v1 :: v2 :: .ref a2 :: v4 :: ls) (.int x :: st) hp = ab_X rom K cX9_mirrors 7 1 41 (v0 :: v1 :: v2 :: .ref a2 :: .int x :: ls) st hp := ax_istore dX9_mirrors_39 (ax_lt (v := v4) rfl) (ab_nl_c1 (j := 3) (v := .ref a2) rfl (ab_c1_ref _)) rfl rfl
theorem sX9_mirrors_39n : ab_X rom K cX9_mirrors 7 1 39 (v0 :: v1 :: v2 :: .null :: v4 :: ls) (.int x :: st) hp = ab_X rom K cX9_mirrors 7 1 41 (v0 :: v1 :: v2 :: .null :: .int x :: ls) st hp := ax_istore dX9_mirrors_39 (ax_lt (v := v4) rfl) (ab_nl_c1 (j := 3) (v := .null) rfl ab_c1_null) rfl rfl
theorem dX9_mirrors_41 : decode cX9_mirrors 41 = .ok (.iload 4, 2) := by decide +kernel
theorem sX9_mirrors_41 : ab_X rom K cX9_mirrors 7 1 41 (v0 :: v1 :: v2 :: v3 :: .int x :: ls) st hp = ab_X rom K cX9_mirrors 7 1 43 (v0 :: v1 :: v2 :: v3 :: .int x :: ls) (.int x :: st) hp := ax_iload dX9_mirrors_41 rfl rfl
theorem dX9_mirrors_43 : decode cX9_mirrors 43 = .ok (.aload_n 0, 1) := by decide +kernel
theorem sX9_mirrors_43 : ab_X rom K cX9_mirrors 7 1 43 (.ref a :: ls) st hp = ab_X rom K cX9_mirrors 7 1 44 (.ref a :: ls) (.ref a :: st) hp := ax_aload_n dX9_mirrors_43 rfl rfl
theorem dX9_mirrors_44 : decode cX9_mirrors 44 = .ok (.iload_n 1, 1) := by decide +kernel
theorem sX9_mirrors_44 : ab_X rom K cX9_mirrors 7 1 44 (v0 :: .int x :: ls) st hp = ab_X rom K cX9_mirrors 7 1 45 (v0 :: .int x :: ls) (.int x :: st) hp := ax_iload_n dX9_mirrors_44 rfl rfl
theorem dX9_mirrors_45 : decode cX9_mirrors 45 = .ok (.invokevirtual 64, 3) := by decide +kernel
theorem sX9_mirrors_45_0 : ab_X rom K cX9_mirrors 7 1 45 ls [w1, .ref a] hp = if ab_iso hp a 7 = true then (K 209 (.ref a :: [w1]) hp).bind (fun o => ab_X rom K cX9_mirrors 7 1 48 ls (o.1.toList ++ []) o.2) else none := ay_virtual (as := [w1]) (st := []) dX9_mirrors_45 kc_7_64 rfl rfl (Nat.le_of_ble_eq_true rfl)
theorem sX9_mirrors_45_1 : ab_X rom K cX9_mirrors 7 1 45 ls [w1, .ref a, v0] hp = if ab_iso hp a 7 = true then (K 209 (.ref a :: [w1]) hp).bind (fun o => ab_X rom K cX9_mirrors 7 1 48 ls (o.1.toList ++ [v0]) o.2) else none := ay_virtual (as := [w1]) (st := [v0]) dX9_mirrors_45 kc_7_64 rfl rfl (Nat.le_of_ble_eq_true rfl)
theorem sX9_mirrors_45_2 : ab_X rom K cX9_mirrors 7 1 45 ls [w1, .ref a, v0, v1] hp = if ab_iso hp a 7 = true then (K 209 (.ref a :: [w1]) hp).bind (fun o => ab_X rom K cX9_mirrors 7 1 48 ls (o.1.toList ++ [v0, v1]) o.2) else none := ay_virtual (as := [w1]) (st := [v0, v1]) dX9_mirrors_45 kc_7_64 rfl rfl (Nat.le_of_ble_eq_true rfl)
theorem sX9_mirrors_45_3 : ab_X rom K cX9_mirrors 7 1 45 ls [w1, .ref a, v0, v1, v2] hp = if ab_iso hp a 7 = true then (K 209 (.ref a :: [w1]) hp).bind (fun o => ab_X rom K cX9_mirrors 7 1 48 ls (o.1.toList ++ [v0, v1, v2]) o.2) else none := ay_virtual (as := [w1]) (st := [v0, v1, v2]) dX9_mirrors_45 kc_7_64 rfl rfl (Nat.le_of_ble_eq_true rfl)
theorem dX9_mirrors_48 : decode cX9_mirrors 48 = .ok (.if_icmp .ge 54, 3) := by decide +kernel
theorem sX9_mirrors_48 : ab_X rom K cX9_mirrors 7 1 48 ls (.int y :: .int x :: st) hp = if x < y then ab_X rom K cX9_mirrors 7 1 51 ls st hp else ab_X rom K cX9_mirrors 7 1 102 ls st hp := ax_icmp_ge dX9_mirrors_48 (by decide) rfl
theorem dX9_mirrors_51 : decode cX9_mirrors 51 = .ok (.aload_n 0, 1) := by decide +kernel
theorem sX9_mirrors_51 : ab_X rom K cX9_mirrors 7 1 51 (.ref a :: ls) st hp = ab_X rom K cX9_mirrors 7 1 52 (.ref a :: ls) (.ref a :: st) hp := ax_aload_n dX9_mirrors_51 rfl rfl
theorem dX9_mirrors_52 : decode cX9_mirrors 52 = .ok (.iload_n 1, 1) := by decide +kernel
theorem sX9_mirrors_52 : ab_X rom K cX9_mirrors 7 1 52 (v0 :: .int x :: ls) st hp = ab_X rom K cX9_mirrors 7 1 53 (v0 :: .int x :: ls) (.int x :: st) hp := ax_iload_n dX9_mirrors_52 rfl rfl
theorem dX9_mirrors_53 : decode cX9_mirrors 53 = .ok (.iload 4, 2) := by decide +kernel
theorem sX9_mirrors_53 : ab_X rom K cX9_mirrors 7 1 53 (v0 :: v1 :: v2 :: v3 :: .int x :: ls) st hp = ab_X rom K cX9_mirrors 7 1 55 (v0 :: v1 :: v2 :: v3 :: .int x :: ls) (.int x :: st) hp := ax_iload dX9_mirrors_53 rfl rfl
theorem dX9_mirrors_55 : decode cX9_mirrors 55 = .ok (.invokevirtual 168, 3) := by decide +kernel
theorem sX9_mirrors_55_0 : ab_X rom K cX9_mirrors 7 1 55 ls [w2, w1, .ref a] hp = if ab_iso hp a 7 = true then (K 183 (.ref a :: [w1, w2]) hp).bind (fun o => ab_X rom K cX9_mirrors 7 1 58 ls (o.1.toList ++ []) o.2) else none := ay_virtual (as := [w1, w2]) (st := []) dX9_mirrors_55 kc_7_168 rfl rfl (Nat.le_of_ble_eq_true rfl)
theorem sX9_mirrors_55_1 : ab_X rom K cX9_mirrors 7 1 55 ls [w2, w1, .ref a, v0] hp = if ab_iso hp a 7 = true then (K 183 (.ref a :: [w1, w2]) hp).bind (fun o => ab_X rom K cX9_mirrors 7 1 58 ls (o.1.toList ++ [v0]) o.2) else none := ay_virtual (as := [w1, w2]) (st := [v0]) dX9_mirrors_55 kc_7_168 rfl rfl (Nat.le_of_ble_eq_true rfl)
theorem sX9_mirrors_55_2 : ab_X rom K cX9_mirrors 7 1 55 ls [w2, w1, .ref a, v0, v1] hp = if ab_iso hp a 7 = true then (K 183 (.ref a :: [w1, w2]) hp).bind (fun o => ab_X rom K cX9_mirrors 7 1 58 ls (o.1.toList ++ [v0, v1]) o.2) else none := ay_virtual (as := [w1, w2]) (st := [v0, v1]) dX9_mirrors_55 kc_7_168 rfl rfl (Nat.le_of_ble_eq_true rfl)
theorem sX9_mirrors_55_3 : ab_X rom K cX9_mirrors 7 1 55 ls [w2, w1, .ref a, v0, v1, v2] hp = if ab_iso hp a 7 = true then (K 183 (.ref a :: [w1, w2]) hp).bind (fun o => ab_X rom K cX9_mirrors 7 1 58 ls (o.1.toList ++ [v0, v1, v2]) o.2) else none := ay_virtual (as := [w1, w2]) (st := [v0, v1, v2]) dX9_mirrors_55 kc_7_168 rfl rfl (Nat.le_of_ble_eq_true rfl)
theorem dX9_mirrors_58 : decode cX9_mirrors 58 = .ok (.istore 5, 2) := by decide +kernel
theorem sX9_mirrors_58i : ab_X rom K cX9_mirrors 7 1 58 (v0 :: v1 :: v2 :: v3 :: .int y :: v5 :: ls) (.int x :: st) hp = ab_X rom K cX9_mirrors 7 1 60 (v0 :: v1 :: v2 :: v3 :: .int y :: .int x :: ls) st hp := ax_istore dX9_mirrors_58 (ax_lt (v := v5) rfl) (ab_nl_c1 (j := 4) (v := .int y) rfl (ab_c1_int _)) rfl rfl
theorem sX9_mirrors_58r : ab_X rom K cX9_mirrors 7 1 58 (v0 :: v1 :: v2 :: v3 :: .ref a2 :: v5 :: ls) (.int x :: st) hp = ab_X rom K cX9_mirrors 7 1 60 (v0 :: v1 :: v2 :: v3 :: .ref a2 :: .int x :: ls) st hp := ax_istore dX9_mirrors_58 (ax_lt (v := v5) rfl) (ab_nl_c1 (j := 4) (v := .ref a2) rfl (ab_c1_ref _)) rfl rfl
theorem sX9_mirrors_58n : ab_X rom K cX9_mirrors 7 1 58 (v0 :: v1 :: v2 :: v3 :: .null :: v5 :: ls) (.int x :: st) hp = ab_X rom K cX9_mirrors 7 1 60 (v0 :: v1 :: v2 :: v3 :: .null :: .int x :: ls) st hp := ax_istore dX9_mirrors_58 (ax_lt (v := v5) rfl) (ab_nl_c1 (j := 4) (v := .null) rfl ab_c1_null) rfl rfl
theorem dX9_mirrors_60 : decode cX9_mirrors 60 = .ok (.aload_n 0, 1) := by decide +kernel
theorem sX9_mirrors_60 : ab_X rom K cX9_mirrors 7 1 60 (.ref a :: ls) st hp = ab_X rom K cX9_mirrors 7 1 61 (.ref a :: ls) (.ref a :: st) hp := ax_aload_n dX9_mirrors_60 rfl rfl
theorem dX9_mirrors_61 : decode cX9_mirrors 61 = .ok (.getfield 7, 3) := by decide +kernel
theorem sX9_mirrors_61 : ab_X rom K cX9_mirrors 7 1 61 ls (.ref a :: st) hp = (ab_fld hp a 7 0).bind (fun v => ab_X rom K cX9_mirrors 7 1 64 ls (v :: st) hp) := ax_getfield dX9_mirrors_61 kf_7_7 rfl
theorem dX9_mirrors_64 : decode cX9_mirrors 64 = .ok (.bipush 15, 2) := by decide +kernel
theorem sX9_mirrors_64 : ab_X rom K cX9_mirrors 7 1 64 ls st hp = ab_X rom K cX9_mirrors 7 1 66 ls (.int 15 :: st) hp := ax_bipush dX9_mirrors_64 (by decide) rfl
theorem dX9_mirrors_66 : decode cX9_mirrors 66 = .ok (.iload_n 1, 1) := by decide +kernel
theorem sX9_mirrors_66 : ab_X rom K cX9_mirrors 7 1 66 (v0 :: .int x :: ls) st hp = ab_X rom K cX9_mirrors 7 1 67 (v0 :: .int x :: ls) (.int x :: st) hp := ax_iload_n dX9_mirrors_66 rfl rfl
theorem dX9_mirrors_67 : decode cX9_mirrors 67 = .ok (.imul, 1) := by decide +kernel
theorem sX9_mirrors_67 : ab_X rom K cX9_mirrors 7 1 67 ls (.int y :: .int x :: st) hp = ab_X rom K cX9_mirrors 7 1 68 ls (.int (x * y) :: st) hp := ax_imul dX9_mirrors_67 rfl
theorem dX9_mirrors_68 : decode cX9_mirrors 68 = .ok (.bipush 8, 2) := by decide +kernel
theorem sX9_mirrors_68 : ab_X rom K cX9_mirrors 7 1 68 ls st hp = ab_X rom K cX9_mirrors 7 1 70 ls (.int 8 :: st) hp := ax_bipush dX9_mirrors_68 (by decide) rfl
theorem dX9_mirrors_70 : decode cX9_mirrors 70 = .ok (.iadd, 1) := by decide +kernel
theorem sX9_mirrors_70 : ab_X rom K cX9_mirrors 7 1 70 ls (.int y :: .int x :: st) hp = ab_X rom K cX9_mirrors 7 1 71 ls (.int (x + y) :: st) hp := ax_iadd dX9_mirrors_70 rfl
theorem dX9_mirrors_71 : decode cX9_mirrors 71 = .ok (.iload 4, 2) := by decide +kernel
theorem sX9_mirrors_71 : ab_X rom K cX9_mirrors 7 1 71 (v0 :: v1 :: v2 :: v3 :: .int x :: ls) st hp = ab_X rom K cX9_mirrors 7 1 73 (v0 :: v1 :: v2 :: v3 :: .int x :: ls) (.int x :: st) hp := ax_iload dX9_mirrors_71 rfl rfl
theorem dX9_mirrors_73 : decode cX9_mirrors 73 = .ok (.iadd, 1) := by decide +kernel
theorem sX9_mirrors_73 : ab_X rom K cX9_mirrors 7 1 73 ls (.int y :: .int x :: st) hp = ab_X rom K cX9_mirrors 7 1 74 ls (.int (x + y) :: st) hp := ax_iadd dX9_mirrors_73 rfl
theorem dX9_mirrors_74 : decode cX9_mirrors 74 = .ok (.iload 5, 2) := by decide +kernel
theorem sX9_mirrors_74 : ab_X rom K cX9_mirrors 7 1 74 (v0 :: v1 :: v2 :: v3 :: v4 :: .int x :: ls) st hp = ab_X rom K cX9_mirrors 7 1 76 (v0 :: v1 :: v2 :: v3 :: v4 :: .int x :: ls) (.int x :: st) hp := ax_iload dX9_mirrors_74 rfl rfl
theorem dX9_mirrors_76 : decode cX9_mirrors 76 = .ok (.iload_n 2, 1) := by decide +kernel
theorem sX9_mirrors_76 : ab_X rom K cX9_mirrors 7 1 76 (v0 :: v1 :: .int x :: ls) st hp = ab_X rom K cX9_mirrors 7 1 77 (v0 :: v1 :: .int x :: ls) (.int x :: st) hp := ax_iload_n dX9_mirrors_76 rfl rfl
theorem dX9_mirrors_77 : decode cX9_mirrors 77 = .ok (.if_icmp .gt 10, 3) := by decide +kernel
theorem sX9_mirrors_77 : ab_X rom K cX9_mirrors 7 1 77 ls (.int y :: .int x :: st) hp = if y < x then ab_X rom K cX9_mirrors 7 1 87 ls st hp else ab_X rom K cX9_mirrors 7 1 80 ls st hp := ax_icmp_gt dX9_mirrors_77 (by decide) rfl
theorem dX9_mirrors_80 : decode cX9_mirrors 80 = .ok (.iload_n 2, 1) := by decide +kernel
theorem sX9_mirrors_80 : ab_X rom K cX9_mirrors 7 1 80 (v0 :: v1 :: .int x :: ls) st hp = ab_X rom K cX9_mirrors 7 1 81 (v0 :: v1 :: .int x :: ls) (.int x :: st) hp := ax_iload_n dX9_mirrors_80 rfl rfl
theorem dX9_mirrors_81 : decode cX9_mirrors 81 = .ok (.iload 5, 2) := by decide +kernel
theorem sX9_mirrors_81 : ab_X rom K cX9_mirrors 7 1 81 (v0 :: v1 :: v2 :: v3 :: v4 :: .int x :: ls) st hp = ab_X rom K cX9_mirrors 7 1 83 (v0 :: v1 :: v2 :: v3 :: v4 :: .int x :: ls) (.int x :: st) hp := ax_iload dX9_mirrors_81 rfl rfl
theorem dX9_mirrors_83 : decode cX9_mirrors 83 = .ok (.isub, 1) := by decide +kernel
theorem sX9_mirrors_83 : ab_X rom K cX9_mirrors 7 1 83 ls (.int y :: .int x :: st) hp = ab_X rom K cX9_mirrors 7 1 84 ls (.int (x - y) :: st) hp := ax_isub dX9_mirrors_83 rfl
theorem dX9_mirrors_84 : decode cX9_mirrors 84 = .ok (.goto 11, 3) := by decide +kernel
theorem sX9_mirrors_84 : ab_X rom K cX9_mirrors 7 1 84 ls st hp = ab_X rom K cX9_mirrors 7 1 95 ls st hp := ax_goto dX9_mirrors_84 (by decide)
theorem dX9_mirrors_87 : decode cX9_mirrors 87 = .ok (.iload_n 3, 1) := by decide +kernel
theorem sX9_mirrors_87 : ab_X rom K cX9_mirrors 7 1 87 (v0 :: v1 :: v2 :: .int x :: ls) st hp = ab_X rom K cX9_mirrors 7 1 88 (v0 :: v1 :: v2 :: .int x :: ls) (.int x :: st) hp := ax_iload_n dX9_mirrors_87 rfl rfl
theorem dX9_mirrors_88 : decode cX9_mirrors 88 = .ok (.iload_n 2, 1) := by decide +kernel
theorem sX9_mirrors_88 : ab_X rom K cX9_mirrors 7 1 88 (v0 :: v1 :: .int x :: ls) st hp = ab_X rom K cX9_mirrors 7 1 89 (v0 :: v1 :: .int x :: ls) (.int x :: st) hp := ax_iload_n dX9_mirrors_88 rfl rfl
theorem dX9_mirrors_89 : decode cX9_mirrors 89 = .ok (.iadd, 1) := by decide +kernel
theorem sX9_mirrors_89 : ab_X rom K cX9_mirrors 7 1 89 ls (.int y :: .int x :: st) hp = ab_X rom K cX9_mirrors 7 1 90 ls (.int (x + y) :: st) hp := ax_iadd dX9_mirrors_89 rfl
theorem dX9_mirrors_90 : decode cX9_mirrors 90 = .ok (.iconst 1, 1) := by decide +kernel
theorem sX9_mirrors_90 : ab_X rom K cX9_mirrors 7 1 90 ls st hp = ab_X rom K cX9_mirrors 7 1 91 ls (.int 1 :: st) hp := ax_iconst dX9_mirrors_90 (by decide) rfl
theorem dX9_mirrors_91 : decode cX9_mirrors 91 = .ok (.iadd, 1) := by decide +kernel
theorem sX9_mirrors_91 : ab_X rom K cX9_mirrors 7 1 91 ls (.int y :: .int x :: st) hp = ab_X rom K cX9_mirrors 7 1 92 ls (.int (x + y) :: st) hp := ax_iadd dX9_mirrors_91 rfl
theorem dX9_mirrors_92 : decode cX9_mirrors 92 = .ok (.iload 5, 2) := by decide +kernel
theorem sX9_mirrors_92 : ab_X rom K cX9_mirrors 7 1 92 (v0 :: v1 :: v2 :: v3 :: v4 :: .int x :: ls) st hp = ab_X rom K cX9_mirrors 7 1 94 (v0 :: v1 :: v2 :: v3 :: v4 :: .int x :: ls) (.int x :: st) hp := ax_iload dX9_mirrors_92 rfl rfl
theorem dX9_mirrors_94 : decode cX9_mirrors 94 = .ok (.isub, 1) := by decide +kernel
theorem sX9_mirrors_94 : ab_X rom K cX9_mirrors 7 1 94 ls (.int y :: .int x :: st) hp = ab_X rom K cX9_mirrors 7 1 95 ls (.int (x - y) :: st) hp := ax_isub dX9_mirrors_94 rfl
theorem dX9_mirrors_95 : decode cX9_mirrors 95 = .ok (.iastore, 1) := by decide +kernel
theorem sX9_mirrors_95 : ab_X rom K cX9_mirrors 7 1 95 ls (.int y :: .int x :: .ref a :: st) hp = (ab_awr 0 hp a x y).bind (fun hp' => ab_X rom K cX9_mirrors 7 1 96 ls st hp') := ax_iastore dX9_mirrors_95 rfl
theorem dX9_mirrors_96 : decode cX9_mirrors 96 = .ok (.iinc 4 1, 3) := by decide +kernel
theorem sX9_mirrors_96i : ab_X rom K cX9_mirrors 7 1 96 (v0 :: v1 :: v2 :: .int y :: .int x :: ls) st hp = ab_X rom K cX9_mirrors 7 1 99 (v0 :: v1 :: v2 :: .int y :: .int (x + 1) :: ls) st hp := ax_iinc dX9_mirrors_96 rfl (ab_nl_c1 (j := 3) (v := .int y) rfl (ab_c1_int _)) (by decide) rfl rfl
theorem sX9_mirrors_96r : ab_X rom K cX9_mirrors 7 1 96 (v0 :: v1 :: v2 :: .ref a2 :: .int x :: ls) st hp = ab_X rom K cX9_mirrors 7 1 99 (v0 :: v1 :: v2 :: .ref a2 :: .int (x + 1) :: ls) st hp := ax_iinc dX9_mirrors_96 rfl (ab_nl_c1 (j := 3) (v := .ref a2) rfl (ab_c1_ref _)) (by decide) rfl rfl
theorem sX9_mirrors_96n : ab_X rom K cX9_mirrors 7 1 96 (v0 :: v1 :: v2 :: .null :: .int x :: ls) st hp = ab_X rom K cX9_mirrors 7 1 99 (v0 :: v1 :: v2 :: .null :: .int (x + 1) :: ls) st hp := ax_iinc dX9_mirrors_96 rfl (ab_nl_c1 (j := 3) (v := .null) rfl ab_c1_null) (by decide) rfl rfl
theorem dX9_mirrors_99 : decode cX9_mirrors 99 = .ok (.goto (-58), 3) := by decide +kernel
theorem sX9_mirrors_99 : ab_X rom K cX9_mirrors 7 1 99 ls st hp = ab_X rom K cX9_mirrors 7 1 41 ls st hp := ax_goto dX9_mirrors_99 (by decide)
theorem dX9_mirrors_102 : decode cX9_mirrors 102 = .ok (.aload_n 0, 1) := by decide +kernel
theorem sX9_mirrors_102 : ab_X rom K cX9_mirrors 7 1 102 (.ref a :: ls) st hp = ab_X rom K cX9_mirrors 7 1 103 (.ref a :: ls) (.ref a :: st) hp := ax_aload_n dX9_mirrors_102 rfl rfl
theorem dX9_mirrors_103 : decode cX9_mirrors 103 = .ok (.aload_n 0, 1) := by decide +kernel
theorem sX9_mirrors_103 : ab_X rom K cX9_mirrors 7 1 103 (.ref a :: ls) st hp = ab_X rom K cX9_mirrors 7 1 104 (.ref a :: ls) (.ref a :: st) hp := ax_aload_n dX9_mirrors_103 rfl rfl
theorem dX9_mirrors_104 : decode cX9_mirrors 104 = .ok (.iload_n 1, 1) := by decide +kernel
theorem sX9_mirrors_104 : ab_X rom K cX9_mirrors 7 1 104 (v0 :: .int x :: ls) st hp = ab_X rom K cX9_mirrors 7 1 105 (v0 :: .int x :: ls) (.int x :: st) hp := ax_iload_n dX9_mirrors_104 rfl rfl
theorem dX9_mirrors_105 : decode cX9_mirrors 105 = .ok (.invokevirtual 322, 3) := by decide +kernel
theorem sX9_mirrors_105_0 : ab_X rom K cX9_mirrors 7 1 105 ls [w1, .ref a] hp = if ab_iso hp a 7 = true then (K 148 (.ref a :: [w1]) hp).bind (fun o => ab_X rom K cX9_mirrors 7 1 108 ls (o.1.toList ++ []) o.2) else none := ay_virtual (as := [w1]) (st := []) dX9_mirrors_105 kc_7_322 rfl rfl (Nat.le_of_ble_eq_true rfl)
theorem sX9_mirrors_105_1 : ab_X rom K cX9_mirrors 7 1 105 ls [w1, .ref a, v0] hp = if ab_iso hp a 7 = true then (K 148 (.ref a :: [w1]) hp).bind (fun o => ab_X rom K cX9_mirrors 7 1 108 ls (o.1.toList ++ [v0]) o.2) else none := ay_virtual (as := [w1]) (st := [v0]) dX9_mirrors_105 kc_7_322 rfl rfl (Nat.le_of_ble_eq_true rfl)
theorem sX9_mirrors_105_2 : ab_X rom K cX9_mirrors 7 1 105 ls [w1, .ref a, v0, v1] hp = if ab_iso hp a 7 = true then (K 148 (.ref a :: [w1]) hp).bind (fun o => ab_X rom K cX9_mirrors 7 1 108 ls (o.1.toList ++ [v0, v1]) o.2) else none := ay_virtual (as := [w1]) (st := [v0, v1]) dX9_mirrors_105 kc_7_322 rfl rfl (Nat.le_of_ble_eq_true rfl)
theorem sX9_mirrors_105_3 : ab_X rom K cX9_mirrors 7 1 105 ls [w1, .ref a, v0, v1, v2] hp = if ab_iso hp a 7 = true then (K 148 (.ref a :: [w1]) hp).bind (fun o => ab_X rom K cX9_mirrors 7 1 108 ls (o.1.toList ++ [v0, v1, v2]) o.2) else none := ay_virtual (as := [w1]) (st := [v0, v1, v2]) dX9_mirrors_105 kc_7_322 rfl rfl (Nat.le_of_ble_eq_true rfl)
theorem dX9_mirrors_108 : decode cX9_mirrors 108 = .ok (.invokevirtual 94, 3) := by decide +kernel
theorem sX9_mirrors_108_0 : ab_X rom K cX9_mirrors 7 1 108 ls [w1, .ref a] hp = if ab_iso hp a 7 = true then (K 144 (.ref a :: [w1]) hp).bind (fun o => ab_X rom K cX9_mirrors 7 1 111 ls (o.1.toList ++ []) o.2) else none := ay_virtual (as := [w1]) (st := []) dX9_mirrors_108 kc_7_94 rfl rfl (Nat.le_of_ble_eq_true rfl)
theorem sX9_mirrors_108_1 : ab_X rom K cX9_mirrors 7 1 108 ls [w1, .ref a, v0] hp = if ab_iso hp a 7 = true then (K 144 (.ref a :: [w1]) hp).bind (fun o => ab_X rom K cX9_mirrors 7 1 111 ls (o.1.toList ++ [v0]) o.2) else none := ay_virtual (as := [w1]) (st := [v0]) dX9_mirrors_108 kc_7_94 rfl rfl (Nat.le_of_ble_eq_true rfl)
theorem sX9_mirrors_108_2 : ab_X rom K cX9_mirrors 7 1 108 ls [w1, .ref a, v0, v1] hp = if ab_iso hp a 7 = true then (K 144 (.ref a :: [w1]) hp).bind (fun o => ab_X rom K cX9_mirrors 7 1 111 ls (o.1.toList ++ [v0, v1]) o.2) else none := ay_virtual (as := [w1]) (st := [v0, v1]) dX9_mirrors_108 kc_7_94 rfl rfl (Nat.le_of_ble_eq_true rfl)
theorem sX9_mirrors_108_3 : ab_X rom K cX9_mirrors 7 1 108 ls [w1, .ref a, v0, v1, v2] hp = if ab_iso hp a 7 = true then (K 144 (.ref a :: [w1]) hp).bind (fun o => ab_X rom K cX9_mirrors 7 1 111 ls (o.1.toList ++ [v0, v1, v2]) o.2) else none := ay_virtual (as := [w1]) (st := [v0, v1, v2]) dX9_mirrors_108 kc_7_94 rfl rfl (Nat.le_of_ble_eq_true rfl)
theorem dX9_mirrors_111 : decode cX9_mirrors 111 = .ok (.ireturn, 1) := by decide +kernel
theorem sX9_mirrors_111 : ab_X rom K cX9_mirrors 7 1 111 ls [.int x] hp = some (some (.int x), hp) := ax_iret dX9_mirrors_111 rfl
theorem tX9_most : ab_mT[200]? = some (yX9_most, cX9_most, 2, 1, 7) := by decide +kernel
theorem mX9_most {d : Nat} {a0 : Nat} {x0 : Int32} : ab_M rom (d + 1) 200 [.ref a0, .int x0] hp = ab_X rom (ab_M rom d) cX9_most 7 1 0 [.ref a0, .int x0] [] hp := ab_M_eq tX9_most (Nat.le_of_ble_eq_true rfl)
theorem dX9_most_0 : decode cX9_most 0 = .ok (.iload_n 1, 1) := by decide +kernel
theorem sX9_most_0 : ab_X rom K cX9_most 7 1 0 (v0 :: .int x :: ls) st hp = ab_X rom K cX9_most 7 1 1 (v0 :: .int x :: ls) (.int x :: st) hp := ax_iload_n dX9_most_0 rfl rfl
theorem dX9_most_1 : decode cX9_most 1 = .ok (.ifCond .eq 8, 3) := by decide +kernel
theorem sX9_most_1 : ab_X rom K cX9_most 7 1 1 ls (.int x :: st) hp = if x = 0 then ab_X rom K cX9_most 7 1 9 ls st hp else ab_X rom K cX9_most 7 1 4 ls st hp := ax_if_eq dX9_most_1 (by decide) rfl
theorem dX9_most_4 : decode cX9_most 4 = .ok (.iload_n 1, 1) := by decide +kernel
theorem sX9_most_4 : ab_X rom K cX9_most 7 1 4 (v0 :: .int x :: ls) st hp = ab_X rom K cX9_most 7 1 5 (v0 :: .int x :: ls) (.int x :: st) hp := ax_iload_n dX9_most_4 rfl rfl
theorem dX9_most_5 : decode cX9_most 5 = .ok (.iconst 1, 1) := by decide +kernel
theorem sX9_most_5 : ab_X rom K cX9_most 7 1 5 ls st hp = ab_X rom K cX9_most 7 1 6 ls (.int 1 :: st) hp := ax_iconst dX9_most_5 (by decide) rfl
theorem dX9_most_6 : decode cX9_most 6 = .ok (.if_icmp .ne 10, 3) := by decide +kernel
theorem sX9_most_6 : ab_X rom K cX9_most 7 1 6 ls (.int y :: .int x :: st) hp = if x = y then ab_X rom K cX9_most 7 1 9 ls st hp else ab_X rom K cX9_most 7 1 16 ls st hp := ax_icmp_ne dX9_most_6 (by decide) rfl
theorem dX9_most_9 : decode cX9_most 9 = .ok (.aload_n 0, 1) := by decide +kernel
theorem sX9_most_9 : ab_X rom K cX9_most 7 1 9 (.ref a :: ls) st hp = ab_X rom K cX9_most 7 1 10 (.ref a :: ls) (.ref a :: st) hp := ax_aload_n dX9_most_9 rfl rfl
theorem dX9_most_10 : decode cX9_most 10 = .ok (.getfield 210, 3) := by decide +kernel
theorem sX9_most_10 : ab_X rom K cX9_most 7 1 10 ls (.ref a :: st) hp = (ab_fld hp a 7 15).bind (fun v => ab_X rom K cX9_most 7 1 13 ls (v :: st) hp) := ax_getfield dX9_most_10 kf_7_210 rfl
theorem dX9_most_13 : decode cX9_most 13 = .ok (.goto 34, 3) := by decide +kernel
theorem sX9_most_13 : ab_X rom K cX9_most 7 1 13 ls st hp = ab_X rom K cX9_most 7 1 47 ls st hp := ax_goto dX9_most_13 (by decide)
theorem dX9_most_16 : decode cX9_most 16 = .ok (.iload_n 1, 1) := by decide +kernel
theorem sX9_most_16 : ab_X rom K cX9_most 7 1 16 (v0 :: .int x :: ls) st hp = ab_X rom K cX9_most 7 1 17 (v0 :: .int x :: ls) (.int x :: st) hp := ax_iload_n dX9_most_16 rfl rfl
theorem dX9_most_17 : decode cX9_most 17 = .ok (.iconst 2, 1) := by decide +kernel
theorem sX9_most_17 : ab_X rom K cX9_most 7 1 17 ls st hp = ab_X rom K cX9_most 7 1 18 ls (.int 2 :: st) hp := ax_iconst dX9_most_17 (by decide) rfl
theorem dX9_most_18 : decode cX9_most 18 = .ok (.if_icmp .ne 12, 3) := by decide +kernel
theorem sX9_most_18 : ab_X rom K cX9_most 7 1 18 ls (.int y :: .int x :: st) hp = if x = y then ab_X rom K cX9_most 7 1 21 ls st hp else ab_X rom K cX9_most 7 1 30 ls st hp := ax_icmp_ne dX9_most_18 (by decide) rfl
theorem dX9_most_21 : decode cX9_most 21 = .ok (.aload_n 0, 1) := by decide +kernel
theorem sX9_most_21 : ab_X rom K cX9_most 7 1 21 (.ref a :: ls) st hp = ab_X rom K cX9_most 7 1 22 (.ref a :: ls) (.ref a :: st) hp := ax_aload_n dX9_most_21 rfl rfl
theorem dX9_most_22 : decode cX9_most 22 = .ok (.getfield 210, 3) := by decide +kernel
theorem sX9_most_22 : ab_X rom K cX9_most 7 1 22 ls (.ref a :: st) hp = (ab_fld hp a 7 15).bind (fun v => ab_X rom K cX9_most 7 1 25 ls (v :: st) hp) := ax_getfield dX9_most_22 kf_7_210 rfl
theorem dX9_most_25 : decode cX9_most 25 = .ok (.iconst 1, 1) := by decide +kernel
theorem sX9_most_25 : ab_X rom K cX9_most 7 1 25 ls st hp = ab_X rom K cX9_most 7 1 26 ls (.int 1 :: st) hp := ax_iconst dX9_most_25 (by decide) rfl
theorem dX9_most_26 : decode cX9_most 26 = .ok (.isub, 1) := by decide +kernel
theorem sX9_most_26 : ab_X rom K cX9_most 7 1 26 ls (.int y :: .int x :: st) hp = ab_X rom K cX9_most 7 1 27 ls (.int (x - y) :: st) hp := ax_isub dX9_most_26 rfl
theorem dX9_most_27 : decode cX9_most 27 = .ok (.goto 20, 3) := by decide +kernel
theorem sX9_most_27 : ab_X rom K cX9_most 7 1 27 ls st hp = ab_X rom K cX9_most 7 1 47 ls st hp := ax_goto dX9_most_27 (by decide)
theorem dX9_most_30 : decode cX9_most 30 = .ok (.iload_n 1, 1) := by decide +kernel
theorem sX9_most_30 : ab_X rom K cX9_most 7 1 30 (v0 :: .int x :: ls) st hp = ab_X rom K cX9_most 7 1 31 (v0 :: .int x :: ls) (.int x :: st) hp := ax_iload_n dX9_most_30 rfl rfl
theorem dX9_most_31 : decode cX9_most 31 = .ok (.iconst 3, 1) := by decide +kernel
theorem sX9_most_31 : ab_X rom K cX9_most 7 1 31 ls st hp = ab_X rom K cX9_most 7 1 32 ls (.int 3 :: st) hp := ax_iconst dX9_most_31 (by decide) rfl
theorem dX9_most_32 : decode cX9_most 32 = .ok (.if_icmp .ne 14, 3) := by decide +kernel
theorem sX9_most_32 : ab_X rom K cX9_most 7 1 32 ls (.int y :: .int x :: st) hp = if x = y then ab_X rom K cX9_most 7 1 35 ls st hp else ab_X rom K cX9_most 7 1 46 ls st hp := ax_icmp_ne dX9_most_32 (by decide) rfl
theorem dX9_most_35 : decode cX9_most 35 = .ok (.iconst 2, 1) := by decide +kernel
theorem sX9_most_35 : ab_X rom K cX9_most 7 1 35 ls st hp = ab_X rom K cX9_most 7 1 36 ls (.int 2 :: st) hp := ax_iconst dX9_most_35 (by decide) rfl
theorem dX9_most_36 : decode cX9_most 36 = .ok (.aload_n 0, 1) := by decide +kernel
theorem sX9_most_36 : ab_X rom K cX9_most 7 1 36 (.ref a :: ls) st hp = ab_X rom K cX9_most 7 1 37 (.ref a :: ls) (.ref a :: st) hp := ax_aload_n dX9_most_36 rfl rfl
theorem dX9_most_37 : decode cX9_most 37 = .ok (.getfield 210, 3) := by decide +kernel
theorem sX9_most_37 : ab_X rom K cX9_most 7 1 37 ls (.ref a :: st) hp = (ab_fld hp a 7 15).bind (fun v => ab_X rom K cX9_most 7 1 40 ls (v :: st) hp) := ax_getfield dX9_most_37 kf_7_210 rfl
theorem dX9_most_40 : decode cX9_most 40 = .ok (.imul, 1) := by decide +kernel
theorem sX9_most_40 : ab_X rom K cX9_most 7 1 40 ls (.int y :: .int x :: st) hp = ab_X rom K cX9_most 7 1 41 ls (.int (x * y) :: st) hp := ax_imul dX9_most_40 rfl
theorem dX9_most_41 : decode cX9_most 41 = .ok (.iconst 1, 1) := by decide +kernel
theorem sX9_most_41 : ab_X rom K cX9_most 7 1 41 ls st hp = ab_X rom K cX9_most 7 1 42 ls (.int 1 :: st) hp := ax_iconst dX9_most_41 (by decide) rfl
theorem dX9_most_42 : decode cX9_most 42 = .ok (.isub, 1) := by decide +kernel
theorem sX9_most_42 : ab_X rom K cX9_most 7 1 42 ls (.int y :: .int x :: st) hp = ab_X rom K cX9_most 7 1 43 ls (.int (x - y) :: st) hp := ax_isub dX9_most_42 rfl
theorem dX9_most_43 : decode cX9_most 43 = .ok (.goto 4, 3) := by decide +kernel
theorem sX9_most_43 : ab_X rom K cX9_most 7 1 43 ls st hp = ab_X rom K cX9_most 7 1 47 ls st hp := ax_goto dX9_most_43 (by decide)
theorem dX9_most_46 : decode cX9_most 46 = .ok (.iconst 1, 1) := by decide +kernel
theorem sX9_most_46 : ab_X rom K cX9_most 7 1 46 ls st hp = ab_X rom K cX9_most 7 1 47 ls (.int 1 :: st) hp := ax_iconst dX9_most_46 (by decide) rfl
theorem dX9_most_47 : decode cX9_most 47 = .ok (.ireturn, 1) := by decide +kernel
theorem sX9_most_47 : ab_X rom K cX9_most 7 1 47 ls [.int x] hp = some (some (.int x), hp) := ax_iret dX9_most_47 rfl
theorem tX9_must : ab_mT[201]? = some (yX9_must, cX9_must, 2, 0, 7) := by decide +kernel
theorem mX9_must {d : Nat} {a0 : Nat} {x0 : Int32} : ab_M rom (d + 1) 201 [.ref a0, .int x0] hp = ab_X rom (ab_M rom d) cX9_must 7 0 0 [.ref a0, .int x0] [] hp := ab_M_eq tX9_must (Nat.le_of_ble_eq_true rfl)
theorem dX9_must_0 : decode cX9_must 0 = .ok (.iload_n 1, 1) := by decide +kernel
theorem sX9_must_0 : ab_X rom K cX9_must 7 0 0 (v0 :: .int x :: ls) st hp = ab_X rom K cX9_must 7 0 1 (v0 :: .int x :: ls) (.int x :: st) hp := ax_iload_n dX9_must_0 rfl rfl
theorem dX9_must_1 : decode cX9_must 1 = .ok (.ifCond .ne 8, 3) := by decide +kernel
theorem sX9_must_1 : ab_X rom K cX9_must 7 0 1 ls (.int x :: st) hp = if x = 0 then ab_X rom K cX9_must 7 0 4 ls st hp else ab_X rom K cX9_must 7 0 9 ls st hp := ax_if_ne dX9_must_1 (by decide) rfl
theorem dX9_must_4 : decode cX9_must 4 = .ok (.aload_n 0, 1) := by decide +kernel
theorem sX9_must_4 : ab_X rom K cX9_must 7 0 4 (.ref a :: ls) st hp = ab_X rom K cX9_must 7 0 5 (.ref a :: ls) (.ref a :: st) hp := ax_aload_n dX9_must_4 rfl rfl
theorem dX9_must_5 : decode cX9_must 5 = .ok (.iconst 1, 1) := by decide +kernel
theorem sX9_must_5 : ab_X rom K cX9_must 7 0 5 ls st hp = ab_X rom K cX9_must 7 0 6 ls (.int 1 :: st) hp := ax_iconst dX9_must_5 (by decide) rfl
theorem dX9_must_6 : decode cX9_must 6 = .ok (.invokevirtual 130, 3) := by decide +kernel
theorem sX9_must_6_0 : ab_X rom K cX9_must 7 0 6 ls [w1, .ref a] hp = if ab_iso hp a 7 = true then (K 152 (.ref a :: [w1]) hp).bind (fun o => ab_X rom K cX9_must 7 0 9 ls (o.1.toList ++ []) o.2) else none := ay_virtual (as := [w1]) (st := []) dX9_must_6 kc_7_130 rfl rfl (Nat.le_of_ble_eq_true rfl)
theorem sX9_must_6_1 : ab_X rom K cX9_must 7 0 6 ls [w1, .ref a, v0] hp = if ab_iso hp a 7 = true then (K 152 (.ref a :: [w1]) hp).bind (fun o => ab_X rom K cX9_must 7 0 9 ls (o.1.toList ++ [v0]) o.2) else none := ay_virtual (as := [w1]) (st := [v0]) dX9_must_6 kc_7_130 rfl rfl (Nat.le_of_ble_eq_true rfl)
theorem sX9_must_6_2 : ab_X rom K cX9_must 7 0 6 ls [w1, .ref a, v0, v1] hp = if ab_iso hp a 7 = true then (K 152 (.ref a :: [w1]) hp).bind (fun o => ab_X rom K cX9_must 7 0 9 ls (o.1.toList ++ [v0, v1]) o.2) else none := ay_virtual (as := [w1]) (st := [v0, v1]) dX9_must_6 kc_7_130 rfl rfl (Nat.le_of_ble_eq_true rfl)
theorem sX9_must_6_3 : ab_X rom K cX9_must 7 0 6 ls [w1, .ref a, v0, v1, v2] hp = if ab_iso hp a 7 = true then (K 152 (.ref a :: [w1]) hp).bind (fun o => ab_X rom K cX9_must 7 0 9 ls (o.1.toList ++ [v0, v1, v2]) o.2) else none := ay_virtual (as := [w1]) (st := [v0, v1, v2]) dX9_must_6 kc_7_130 rfl rfl (Nat.le_of_ble_eq_true rfl)
theorem dX9_must_9 : decode cX9_must 9 = .ok (.aload_n 0, 1) := by decide +kernel
theorem sX9_must_9 : ab_X rom K cX9_must 7 0 9 (.ref a :: ls) st hp = ab_X rom K cX9_must 7 0 10 (.ref a :: ls) (.ref a :: st) hp := ax_aload_n dX9_must_9 rfl rfl
theorem dX9_must_10 : decode cX9_must 10 = .ok (.invokevirtual 134, 3) := by decide +kernel
theorem sX9_must_10_0 : ab_X rom K cX9_must 7 0 10 ls [.ref a] hp = if ab_iso hp a 7 = true then (K 207 (.ref a :: []) hp).bind (fun o => ab_X rom K cX9_must 7 0 13 ls (o.1.toList ++ []) o.2) else none := ay_virtual (as := []) (st := []) dX9_must_10 kc_7_134 rfl rfl (Nat.le_of_ble_eq_true rfl)
theorem sX9_must_10_1 : ab_X rom K cX9_must 7 0 10 ls [.ref a, v0] hp = if ab_iso hp a 7 = true then (K 207 (.ref a :: []) hp).bind (fun o => ab_X rom K cX9_must 7 0 13 ls (o.1.toList ++ [v0]) o.2) else none := ay_virtual (as := []) (st := [v0]) dX9_must_10 kc_7_134 rfl rfl (Nat.le_of_ble_eq_true rfl)
theorem sX9_must_10_2 : ab_X rom K cX9_must 7 0 10 ls [.ref a, v0, v1] hp = if ab_iso hp a 7 = true then (K 207 (.ref a :: []) hp).bind (fun o => ab_X rom K cX9_must 7 0 13 ls (o.1.toList ++ [v0, v1]) o.2) else none := ay_virtual (as := []) (st := [v0, v1]) dX9_must_10 kc_7_134 rfl rfl (Nat.le_of_ble_eq_true rfl)
theorem sX9_must_10_3 : ab_X rom K cX9_must 7 0 10 ls [.ref a, v0, v1, v2] hp = if ab_iso hp a 7 = true then (K 207 (.ref a :: []) hp).bind (fun o => ab_X rom K cX9_must 7 0 13 ls (o.1.toList ++ [v0, v1, v2]) o.2) else none := ay_virtual (as := []) (st := [v0, v1, v2]) dX9_must_10 kc_7_134 rfl rfl (Nat.le_of_ble_eq_true rfl)
theorem dX9_must_13 : decode cX9_must 13 = .ok (.return_, 1) := by decide +kernel
theorem sX9_must_13 : ab_X rom K cX9_must 7 0 13 ls [] hp = some (none, hp) := ax_vret dX9_must_13 (by decide)
theorem tX9_next : ab_mT[202]? = some (yX9_next, cX9_next, 1, 0, 7) := by decide +kernel
theorem mX9_next {d : Nat} {a0 : Nat} : ab_M rom (d + 1) 202 [.ref a0] hp = ab_X rom (ab_M rom d) cX9_next 7 0 0 [.ref a0] [] hp := ab_M_eq tX9_next (Nat.le_of_ble_eq_true rfl)
theorem dX9_next_0 : decode cX9_next 0 = .ok (.aload_n 0, 1) := by decide +kernel
theorem sX9_next_0 : ab_X rom K cX9_next 7 0 0 (.ref a :: ls) st hp = ab_X rom K cX9_next 7 0 1 (.ref a :: ls) (.ref a :: st) hp := ax_aload_n dX9_next_0 rfl rfl
theorem dX9_next_1 : decode cX9_next 1 = .ok (.bipush 32, 2) := by decide +kernel
theorem sX9_next_1 : ab_X rom K cX9_next 7 0 1 ls st hp = ab_X rom K cX9_next 7 0 3 ls (.int 32 :: st) hp := ax_bipush dX9_next_1 (by decide) rfl
theorem dX9_next_3 : decode cX9_next 3 = .ok (.bipush 32, 2) := by decide +kernel
theorem sX9_next_3 : ab_X rom K cX9_next 7 0 3 ls st hp = ab_X rom K cX9_next 7 0 5 ls (.int 32 :: st) hp := ax_bipush dX9_next_3 (by decide) rfl
theorem dX9_next_5 : decode cX9_next 5 = .ok (.invokevirtual 103, 3) := by decide +kernel
theorem sX9_next_5_0 : ab_X rom K cX9_next 7 0 5 ls [w2, w1, .ref a] hp = if ab_iso hp a 7 = true then (K 163 (.ref a :: [w1, w2]) hp).bind (fun o => ab_X rom K cX9_next 7 0 8 ls (o.1.toList ++ []) o.2) else none := ay_virtual (as := [w1, w2]) (st := []) dX9_next_5 kc_7_103 rfl rfl (Nat.le_of_ble_eq_true rfl)
theorem sX9_next_5_1 : ab_X rom K cX9_next 7 0 5 ls [w2, w1, .ref a, v0] hp = if ab_iso hp a 7 = true then (K 163 (.ref a :: [w1, w2]) hp).bind (fun o => ab_X rom K cX9_next 7 0 8 ls (o.1.toList ++ [v0]) o.2) else none := ay_virtual (as := [w1, w2]) (st := [v0]) dX9_next_5 kc_7_103 rfl rfl (Nat.le_of_ble_eq_true rfl)
theorem sX9_next_5_2 : ab_X rom K cX9_next 7 0 5 ls [w2, w1, .ref a, v0, v1] hp = if ab_iso hp a 7 = true then (K 163 (.ref a :: [w1, w2]) hp).bind (fun o => ab_X rom K cX9_next 7 0 8 ls (o.1.toList ++ [v0, v1]) o.2) else none := ay_virtual (as := [w1, w2]) (st := [v0, v1]) dX9_next_5 kc_7_103 rfl rfl (Nat.le_of_ble_eq_true rfl)
theorem sX9_next_5_3 : ab_X rom K cX9_next 7 0 5 ls [w2, w1, .ref a, v0, v1, v2] hp = if ab_iso hp a 7 = true then (K 163 (.ref a :: [w1, w2]) hp).bind (fun o => ab_X rom K cX9_next 7 0 8 ls (o.1.toList ++ [v0, v1, v2]) o.2) else none := ay_virtual (as := [w1, w2]) (st := [v0, v1, v2]) dX9_next_5 kc_7_103 rfl rfl (Nat.le_of_ble_eq_true rfl)
theorem dX9_next_8 : decode cX9_next 8 = .ok (.ifCond .ne 14, 3) := by decide +kernel
theorem sX9_next_8 : ab_X rom K cX9_next 7 0 8 ls (.int x :: st) hp = if x = 0 then ab_X rom K cX9_next 7 0 11 ls st hp else ab_X rom K cX9_next 7 0 22 ls st hp := ax_if_ne dX9_next_8 (by decide) rfl
theorem dX9_next_11 : decode cX9_next 11 = .ok (.aload_n 0, 1) := by decide +kernel
theorem sX9_next_11 : ab_X rom K cX9_next 7 0 11 (.ref a :: ls) st hp = ab_X rom K cX9_next 7 0 12 (.ref a :: ls) (.ref a :: st) hp := ax_aload_n dX9_next_11 rfl rfl
theorem dX9_next_12 : decode cX9_next 12 = .ok (.bipush 10, 2) := by decide +kernel
theorem sX9_next_12 : ab_X rom K cX9_next 7 0 12 ls st hp = ab_X rom K cX9_next 7 0 14 ls (.int 10 :: st) hp := ax_bipush dX9_next_12 (by decide) rfl
theorem dX9_next_14 : decode cX9_next 14 = .ok (.bipush 10, 2) := by decide +kernel
theorem sX9_next_14 : ab_X rom K cX9_next 7 0 14 ls st hp = ab_X rom K cX9_next 7 0 16 ls (.int 10 :: st) hp := ax_bipush dX9_next_14 (by decide) rfl
theorem dX9_next_16 : decode cX9_next 16 = .ok (.invokevirtual 103, 3) := by decide +kernel
theorem sX9_next_16_0 : ab_X rom K cX9_next 7 0 16 ls [w2, w1, .ref a] hp = if ab_iso hp a 7 = true then (K 163 (.ref a :: [w1, w2]) hp).bind (fun o => ab_X rom K cX9_next 7 0 19 ls (o.1.toList ++ []) o.2) else none := ay_virtual (as := [w1, w2]) (st := []) dX9_next_16 kc_7_103 rfl rfl (Nat.le_of_ble_eq_true rfl)
theorem sX9_next_16_1 : ab_X rom K cX9_next 7 0 16 ls [w2, w1, .ref a, v0] hp = if ab_iso hp a 7 = true then (K 163 (.ref a :: [w1, w2]) hp).bind (fun o => ab_X rom K cX9_next 7 0 19 ls (o.1.toList ++ [v0]) o.2) else none := ay_virtual (as := [w1, w2]) (st := [v0]) dX9_next_16 kc_7_103 rfl rfl (Nat.le_of_ble_eq_true rfl)
theorem sX9_next_16_2 : ab_X rom K cX9_next 7 0 16 ls [w2, w1, .ref a, v0, v1] hp = if ab_iso hp a 7 = true then (K 163 (.ref a :: [w1, w2]) hp).bind (fun o => ab_X rom K cX9_next 7 0 19 ls (o.1.toList ++ [v0, v1]) o.2) else none := ay_virtual (as := [w1, w2]) (st := [v0, v1]) dX9_next_16 kc_7_103 rfl rfl (Nat.le_of_ble_eq_true rfl)
theorem sX9_next_16_3 : ab_X rom K cX9_next 7 0 16 ls [w2, w1, .ref a, v0, v1, v2] hp = if ab_iso hp a 7 = true then (K 163 (.ref a :: [w1, w2]) hp).bind (fun o => ab_X rom K cX9_next 7 0 19 ls (o.1.toList ++ [v0, v1, v2]) o.2) else none := ay_virtual (as := [w1, w2]) (st := [v0, v1, v2]) dX9_next_16 kc_7_103 rfl rfl (Nat.le_of_ble_eq_true rfl)
theorem dX9_next_19 : decode cX9_next 19 = .ok (.ifCond .eq 16, 3) := by decide +kernel
theorem sX9_next_19 : ab_X rom K cX9_next 7 0 19 ls (.int x :: st) hp = if x = 0 then ab_X rom K cX9_next 7 0 35 ls st hp else ab_X rom K cX9_next 7 0 22 ls st hp := ax_if_eq dX9_next_19 (by decide) rfl
theorem dX9_next_22 : decode cX9_next 22 = .ok (.aload_n 0, 1) := by decide +kernel
theorem sX9_next_22 : ab_X rom K cX9_next 7 0 22 (.ref a :: ls) st hp = ab_X rom K cX9_next 7 0 23 (.ref a :: ls) (.ref a :: st) hp := ax_aload_n dX9_next_22 rfl rfl
theorem dX9_next_23 : decode cX9_next 23 = .ok (.dup, 1) := by decide +kernel
theorem sX9_next_23i : ab_X rom K cX9_next 7 0 23 ls (.int x :: st) hp = ab_X rom K cX9_next 7 0 24 ls (.int x :: .int x :: st) hp := ax_dup dX9_next_23 rfl (ab_c1_int _)
theorem sX9_next_23r : ab_X rom K cX9_next 7 0 23 ls (.ref a :: st) hp = ab_X rom K cX9_next 7 0 24 ls (.ref a :: .ref a :: st) hp := ax_dup dX9_next_23 rfl (ab_c1_ref _)
theorem dX9_next_24 : decode cX9_next 24 = .ok (.getfield 100, 3) := by decide +kernel
theorem sX9_next_24 : ab_X rom K cX9_next 7 0 24 ls (.ref a :: st) hp = (ab_fld hp a 7 8).bind (fun v => ab_X rom K cX9_next 7 0 27 ls (v :: st) hp) := ax_getfield dX9_next_24 kf_7_100 rfl
theorem dX9_next_27 : decode cX9_next 27 = .ok (.iconst 1, 1) := by decide +kernel
theorem sX9_next_27 : ab_X rom K cX9_next 7 0 27 ls st hp = ab_X rom K cX9_next 7 0 28 ls (.int 1 :: st) hp := ax_iconst dX9_next_27 (by decide) rfl
theorem dX9_next_28 : decode cX9_next 28 = .ok (.iadd, 1) := by decide +kernel
theorem sX9_next_28 : ab_X rom K cX9_next 7 0 28 ls (.int y :: .int x :: st) hp = ab_X rom K cX9_next 7 0 29 ls (.int (x + y) :: st) hp := ax_iadd dX9_next_28 rfl
theorem dX9_next_29 : decode cX9_next 29 = .ok (.putfield 100, 3) := by decide +kernel
theorem sX9_next_29 : ab_X rom K cX9_next 7 0 29 ls (.int x :: .ref a :: st) hp = (ab_fpt hp a 7 8 (.int x)).bind (fun hp' => ab_X rom K cX9_next 7 0 32 ls st hp') := ax_putfield dX9_next_29 kf_7_100 rfl (Or.inl rfl) rfl
theorem dX9_next_32 : decode cX9_next 32 = .ok (.goto (-32), 3) := by decide +kernel
theorem sX9_next_32 : ab_X rom K cX9_next 7 0 32 ls st hp = ab_X rom K cX9_next 7 0 0 ls st hp := ax_goto dX9_next_32 (by decide)
theorem dX9_next_35 : decode cX9_next 35 = .ok (.aload_n 0, 1) := by decide +kernel
theorem sX9_next_35 : ab_X rom K cX9_next 7 0 35 (.ref a :: ls) st hp = ab_X rom K cX9_next 7 0 36 (.ref a :: ls) (.ref a :: st) hp := ax_aload_n dX9_next_35 rfl rfl
theorem dX9_next_36 : decode cX9_next 36 = .ok (.aload_n 0, 1) := by decide +kernel
theorem sX9_next_36 : ab_X rom K cX9_next 7 0 36 (.ref a :: ls) st hp = ab_X rom K cX9_next 7 0 37 (.ref a :: ls) (.ref a :: st) hp := ax_aload_n dX9_next_36 rfl rfl
theorem dX9_next_37 : decode cX9_next 37 = .ok (.getfield 100, 3) := by decide +kernel
theorem sX9_next_37 : ab_X rom K cX9_next 7 0 37 ls (.ref a :: st) hp = (ab_fld hp a 7 8).bind (fun v => ab_X rom K cX9_next 7 0 40 ls (v :: st) hp) := ax_getfield dX9_next_37 kf_7_100 rfl
theorem dX9_next_40 : decode cX9_next 40 = .ok (.putfield 106, 3) := by decide +kernel
theorem sX9_next_40 : ab_X rom K cX9_next 7 0 40 ls (.int x :: .ref a :: st) hp = (ab_fpt hp a 7 9 (.int x)).bind (fun hp' => ab_X rom K cX9_next 7 0 43 ls st hp') := ax_putfield dX9_next_40 kf_7_106 rfl (Or.inl rfl) rfl
theorem dX9_next_43 : decode cX9_next 43 = .ok (.aload_n 0, 1) := by decide +kernel
theorem sX9_next_43 : ab_X rom K cX9_next 7 0 43 (.ref a :: ls) st hp = ab_X rom K cX9_next 7 0 44 (.ref a :: ls) (.ref a :: st) hp := ax_aload_n dX9_next_43 rfl rfl
theorem dX9_next_44 : decode cX9_next 44 = .ok (.iconst 0, 1) := by decide +kernel
theorem sX9_next_44 : ab_X rom K cX9_next 7 0 44 ls st hp = ab_X rom K cX9_next 7 0 45 ls (.int 0 :: st) hp := ax_iconst dX9_next_44 (by decide) rfl
theorem dX9_next_45 : decode cX9_next 45 = .ok (.putfield 109, 3) := by decide +kernel
theorem sX9_next_45 : ab_X rom K cX9_next 7 0 45 ls (.int x :: .ref a :: st) hp = (ab_fpt hp a 7 11 (.int x)).bind (fun hp' => ab_X rom K cX9_next 7 0 48 ls st hp') := ax_putfield dX9_next_45 kf_7_109 rfl (Or.inl rfl) rfl
theorem dX9_next_48 : decode cX9_next 48 = .ok (.aload_n 0, 1) := by decide +kernel
theorem sX9_next_48 : ab_X rom K cX9_next 7 0 48 (.ref a :: ls) st hp = ab_X rom K cX9_next 7 0 49 (.ref a :: ls) (.ref a :: st) hp := ax_aload_n dX9_next_48 rfl rfl
theorem dX9_next_49 : decode cX9_next 49 = .ok (.getfield 100, 3) := by decide +kernel
theorem sX9_next_49 : ab_X rom K cX9_next 7 0 49 ls (.ref a :: st) hp = (ab_fld hp a 7 8).bind (fun v => ab_X rom K cX9_next 7 0 52 ls (v :: st) hp) := ax_getfield dX9_next_49 kf_7_100 rfl
theorem dX9_next_52 : decode cX9_next 52 = .ok (.aload_n 0, 1) := by decide +kernel
theorem sX9_next_52 : ab_X rom K cX9_next 7 0 52 (.ref a :: ls) st hp = ab_X rom K cX9_next 7 0 53 (.ref a :: ls) (.ref a :: st) hp := ax_aload_n dX9_next_52 rfl rfl
theorem dX9_next_53 : decode cX9_next 53 = .ok (.getfield 97, 3) := by decide +kernel
theorem sX9_next_53 : ab_X rom K cX9_next 7 0 53 ls (.ref a :: st) hp = (ab_fld hp a 7 5).bind (fun v => ab_X rom K cX9_next 7 0 56 ls (v :: st) hp) := ax_getfield dX9_next_53 kf_7_97 rfl
theorem dX9_next_56 : decode cX9_next 56 = .ok (.if_icmp .ne 11, 3) := by decide +kernel
theorem sX9_next_56 : ab_X rom K cX9_next 7 0 56 ls (.int y :: .int x :: st) hp = if x = y then ab_X rom K cX9_next 7 0 59 ls st hp else ab_X rom K cX9_next 7 0 67 ls st hp := ax_icmp_ne dX9_next_56 (by decide) rfl
theorem dX9_next_59 : decode cX9_next 59 = .ok (.aload_n 0, 1) := by decide +kernel
theorem sX9_next_59 : ab_X rom K cX9_next 7 0 59 (.ref a :: ls) st hp = ab_X rom K cX9_next 7 0 60 (.ref a :: ls) (.ref a :: st) hp := ax_aload_n dX9_next_59 rfl rfl
theorem dX9_next_60 : decode cX9_next 60 = .ok (.iconst 0, 1) := by decide +kernel
theorem sX9_next_60 : ab_X rom K cX9_next 7 0 60 ls st hp = ab_X rom K cX9_next 7 0 61 ls (.int 0 :: st) hp := ax_iconst dX9_next_60 (by decide) rfl
theorem dX9_next_61 : decode cX9_next 61 = .ok (.putfield 112, 3) := by decide +kernel
theorem sX9_next_61 : ab_X rom K cX9_next 7 0 61 ls (.int x :: .ref a :: st) hp = (ab_fpt hp a 7 10 (.int x)).bind (fun hp' => ab_X rom K cX9_next 7 0 64 ls st hp') := ax_putfield dX9_next_61 kf_7_112 rfl (Or.inl rfl) rfl
theorem dX9_next_64 : decode cX9_next 64 = .ok (.goto 128, 3) := by decide +kernel
theorem sX9_next_64 : ab_X rom K cX9_next 7 0 64 ls st hp = ab_X rom K cX9_next 7 0 192 ls st hp := ax_goto dX9_next_64 (by decide)
theorem dX9_next_67 : decode cX9_next 67 = .ok (.aload_n 0, 1) := by decide +kernel
theorem sX9_next_67 : ab_X rom K cX9_next 7 0 67 (.ref a :: ls) st hp = ab_X rom K cX9_next 7 0 68 (.ref a :: ls) (.ref a :: st) hp := ax_aload_n dX9_next_67 rfl rfl
theorem dX9_next_68 : decode cX9_next 68 = .ok (.bipush 97, 2) := by decide +kernel
theorem sX9_next_68 : ab_X rom K cX9_next 7 0 68 ls st hp = ab_X rom K cX9_next 7 0 70 ls (.int 97 :: st) hp := ax_bipush dX9_next_68 (by decide) rfl
theorem dX9_next_70 : decode cX9_next 70 = .ok (.bipush 122, 2) := by decide +kernel
theorem sX9_next_70 : ab_X rom K cX9_next 7 0 70 ls st hp = ab_X rom K cX9_next 7 0 72 ls (.int 122 :: st) hp := ax_bipush dX9_next_70 (by decide) rfl
theorem dX9_next_72 : decode cX9_next 72 = .ok (.invokevirtual 103, 3) := by decide +kernel
theorem sX9_next_72_0 : ab_X rom K cX9_next 7 0 72 ls [w2, w1, .ref a] hp = if ab_iso hp a 7 = true then (K 163 (.ref a :: [w1, w2]) hp).bind (fun o => ab_X rom K cX9_next 7 0 75 ls (o.1.toList ++ []) o.2) else none := ay_virtual (as := [w1, w2]) (st := []) dX9_next_72 kc_7_103 rfl rfl (Nat.le_of_ble_eq_true rfl)
theorem sX9_next_72_1 : ab_X rom K cX9_next 7 0 72 ls [w2, w1, .ref a, v0] hp = if ab_iso hp a 7 = true then (K 163 (.ref a :: [w1, w2]) hp).bind (fun o => ab_X rom K cX9_next 7 0 75 ls (o.1.toList ++ [v0]) o.2) else none := ay_virtual (as := [w1, w2]) (st := [v0]) dX9_next_72 kc_7_103 rfl rfl (Nat.le_of_ble_eq_true rfl)
theorem sX9_next_72_2 : ab_X rom K cX9_next 7 0 72 ls [w2, w1, .ref a, v0, v1] hp = if ab_iso hp a 7 = true then (K 163 (.ref a :: [w1, w2]) hp).bind (fun o => ab_X rom K cX9_next 7 0 75 ls (o.1.toList ++ [v0, v1]) o.2) else none := ay_virtual (as := [w1, w2]) (st := [v0, v1]) dX9_next_72 kc_7_103 rfl rfl (Nat.le_of_ble_eq_true rfl)
theorem sX9_next_72_3 : ab_X rom K cX9_next 7 0 72 ls [w2, w1, .ref a, v0, v1, v2] hp = if ab_iso hp a 7 = true then (K 163 (.ref a :: [w1, w2]) hp).bind (fun o => ab_X rom K cX9_next 7 0 75 ls (o.1.toList ++ [v0, v1, v2]) o.2) else none := ay_virtual (as := [w1, w2]) (st := [v0, v1, v2]) dX9_next_72 kc_7_103 rfl rfl (Nat.le_of_ble_eq_true rfl)
theorem dX9_next_75 : decode cX9_next 75 = .ok (.ifCond .eq 32, 3) := by decide +kernel
theorem sX9_next_75 : ab_X rom K cX9_next 7 0 75 ls (.int x :: st) hp = if x = 0 then ab_X rom K cX9_next 7 0 107 ls st hp else ab_X rom K cX9_next 7 0 78 ls st hp := ax_if_eq dX9_next_75 (by decide) rfl
theorem dX9_next_78 : decode cX9_next 78 = .ok (.aload_n 0, 1) := by decide +kernel
theorem sX9_next_78 : ab_X rom K cX9_next 7 0 78 (.ref a :: ls) st hp = ab_X rom K cX9_next 7 0 79 (.ref a :: ls) (.ref a :: st) hp := ax_aload_n dX9_next_78 rfl rfl
theorem dX9_next_79 : decode cX9_next 79 = .ok (.iconst 1, 1) := by decide +kernel
theorem sX9_next_79 : ab_X rom K cX9_next 7 0 79 ls st hp = ab_X rom K cX9_next 7 0 80 ls (.int 1 :: st) hp := ax_iconst dX9_next_79 (by decide) rfl
theorem dX9_next_80 : decode cX9_next 80 = .ok (.putfield 112, 3) := by decide +kernel
theorem sX9_next_80 : ab_X rom K cX9_next 7 0 80 ls (.int x :: .ref a :: st) hp = (ab_fpt hp a 7 10 (.int x)).bind (fun hp' => ab_X rom K cX9_next 7 0 83 ls st hp') := ax_putfield dX9_next_80 kf_7_112 rfl (Or.inl rfl) rfl
theorem dX9_next_83 : decode cX9_next 83 = .ok (.aload_n 0, 1) := by decide +kernel
theorem sX9_next_83 : ab_X rom K cX9_next 7 0 83 (.ref a :: ls) st hp = ab_X rom K cX9_next 7 0 84 (.ref a :: ls) (.ref a :: st) hp := ax_aload_n dX9_next_83 rfl rfl
theorem dX9_next_84 : decode cX9_next 84 = .ok (.bipush 97, 2) := by decide +kernel
theorem sX9_next_84 : ab_X rom K cX9_next 7 0 84 ls st hp = ab_X rom K cX9_next 7 0 86 ls (.int 97 :: st) hp := ax_bipush dX9_next_84 (by decide) rfl
theorem dX9_next_86 : decode cX9_next 86 = .ok (.bipush 122, 2) := by decide +kernel
theorem sX9_next_86 : ab_X rom K cX9_next 7 0 86 ls st hp = ab_X rom K cX9_next 7 0 88 ls (.int 122 :: st) hp := ax_bipush dX9_next_86 (by decide) rfl
theorem dX9_next_88 : decode cX9_next 88 = .ok (.invokevirtual 103, 3) := by decide +kernel
theorem sX9_next_88_0 : ab_X rom K cX9_next 7 0 88 ls [w2, w1, .ref a] hp = if ab_iso hp a 7 = true then (K 163 (.ref a :: [w1, w2]) hp).bind (fun o => ab_X rom K cX9_next 7 0 91 ls (o.1.toList ++ []) o.2) else none := ay_virtual (as := [w1, w2]) (st := []) dX9_next_88 kc_7_103 rfl rfl (Nat.le_of_ble_eq_true rfl)
theorem sX9_next_88_1 : ab_X rom K cX9_next 7 0 88 ls [w2, w1, .ref a, v0] hp = if ab_iso hp a 7 = true then (K 163 (.ref a :: [w1, w2]) hp).bind (fun o => ab_X rom K cX9_next 7 0 91 ls (o.1.toList ++ [v0]) o.2) else none := ay_virtual (as := [w1, w2]) (st := [v0]) dX9_next_88 kc_7_103 rfl rfl (Nat.le_of_ble_eq_true rfl)
theorem sX9_next_88_2 : ab_X rom K cX9_next 7 0 88 ls [w2, w1, .ref a, v0, v1] hp = if ab_iso hp a 7 = true then (K 163 (.ref a :: [w1, w2]) hp).bind (fun o => ab_X rom K cX9_next 7 0 91 ls (o.1.toList ++ [v0, v1]) o.2) else none := ay_virtual (as := [w1, w2]) (st := [v0, v1]) dX9_next_88 kc_7_103 rfl rfl (Nat.le_of_ble_eq_true rfl)
theorem sX9_next_88_3 : ab_X rom K cX9_next 7 0 88 ls [w2, w1, .ref a, v0, v1, v2] hp = if ab_iso hp a 7 = true then (K 163 (.ref a :: [w1, w2]) hp).bind (fun o => ab_X rom K cX9_next 7 0 91 ls (o.1.toList ++ [v0, v1, v2]) o.2) else none := ay_virtual (as := [w1, w2]) (st := [v0, v1, v2]) dX9_next_88 kc_7_103 rfl rfl (Nat.le_of_ble_eq_true rfl)
theorem dX9_next_91 : decode cX9_next 91 = .ok (.ifCond .eq 101, 3) := by decide +kernel
theorem sX9_next_91 : ab_X rom K cX9_next 7 0 91 ls (.int x :: st) hp = if x = 0 then ab_X rom K cX9_next 7 0 192 ls st hp else ab_X rom K cX9_next 7 0 94 ls st hp := ax_if_eq dX9_next_91 (by decide) rfl
theorem dX9_next_94 : decode cX9_next 94 = .ok (.aload_n 0, 1) := by decide +kernel
theorem sX9_next_94 : ab_X rom K cX9_next 7 0 94 (.ref a :: ls) st hp = ab_X rom K cX9_next 7 0 95 (.ref a :: ls) (.ref a :: st) hp := ax_aload_n dX9_next_94 rfl rfl
theorem dX9_next_95 : decode cX9_next 95 = .ok (.dup, 1) := by decide +kernel
theorem sX9_next_95i : ab_X rom K cX9_next 7 0 95 ls (.int x :: st) hp = ab_X rom K cX9_next 7 0 96 ls (.int x :: .int x :: st) hp := ax_dup dX9_next_95 rfl (ab_c1_int _)
theorem sX9_next_95r : ab_X rom K cX9_next 7 0 95 ls (.ref a :: st) hp = ab_X rom K cX9_next 7 0 96 ls (.ref a :: .ref a :: st) hp := ax_dup dX9_next_95 rfl (ab_c1_ref _)
theorem dX9_next_96 : decode cX9_next 96 = .ok (.getfield 100, 3) := by decide +kernel
theorem sX9_next_96 : ab_X rom K cX9_next 7 0 96 ls (.ref a :: st) hp = (ab_fld hp a 7 8).bind (fun v => ab_X rom K cX9_next 7 0 99 ls (v :: st) hp) := ax_getfield dX9_next_96 kf_7_100 rfl
theorem dX9_next_99 : decode cX9_next 99 = .ok (.iconst 1, 1) := by decide +kernel
theorem sX9_next_99 : ab_X rom K cX9_next 7 0 99 ls st hp = ab_X rom K cX9_next 7 0 100 ls (.int 1 :: st) hp := ax_iconst dX9_next_99 (by decide) rfl
theorem dX9_next_100 : decode cX9_next 100 = .ok (.iadd, 1) := by decide +kernel
theorem sX9_next_100 : ab_X rom K cX9_next 7 0 100 ls (.int y :: .int x :: st) hp = ab_X rom K cX9_next 7 0 101 ls (.int (x + y) :: st) hp := ax_iadd dX9_next_100 rfl
theorem dX9_next_101 : decode cX9_next 101 = .ok (.putfield 100, 3) := by decide +kernel
theorem sX9_next_101 : ab_X rom K cX9_next 7 0 101 ls (.int x :: .ref a :: st) hp = (ab_fpt hp a 7 8 (.int x)).bind (fun hp' => ab_X rom K cX9_next 7 0 104 ls st hp') := ax_putfield dX9_next_101 kf_7_100 rfl (Or.inl rfl) rfl
theorem dX9_next_104 : decode cX9_next 104 = .ok (.goto (-21), 3) := by decide +kernel
theorem sX9_next_104 : ab_X rom K cX9_next 7 0 104 ls st hp = ab_X rom K cX9_next 7 0 83 ls st hp := ax_goto dX9_next_104 (by decide)
theorem dX9_next_107 : decode cX9_next 107 = .ok (.aload_n 0, 1) := by decide +kernel
theorem sX9_next_107 : ab_X rom K cX9_next 7 0 107 (.ref a :: ls) st hp = ab_X rom K cX9_next 7 0 108 (.ref a :: ls) (.ref a :: st) hp := ax_aload_n dX9_next_107 rfl rfl
theorem dX9_next_108 : decode cX9_next 108 = .ok (.bipush 48, 2) := by decide +kernel
theorem sX9_next_108 : ab_X rom K cX9_next 7 0 108 ls st hp = ab_X rom K cX9_next 7 0 110 ls (.int 48 :: st) hp := ax_bipush dX9_next_108 (by decide) rfl
theorem dX9_next_110 : decode cX9_next 110 = .ok (.bipush 57, 2) := by decide +kernel
theorem sX9_next_110 : ab_X rom K cX9_next 7 0 110 ls st hp = ab_X rom K cX9_next 7 0 112 ls (.int 57 :: st) hp := ax_bipush dX9_next_110 (by decide) rfl
theorem dX9_next_112 : decode cX9_next 112 = .ok (.invokevirtual 103, 3) := by decide +kernel
theorem sX9_next_112_0 : ab_X rom K cX9_next 7 0 112 ls [w2, w1, .ref a] hp = if ab_iso hp a 7 = true then (K 163 (.ref a :: [w1, w2]) hp).bind (fun o => ab_X rom K cX9_next 7 0 115 ls (o.1.toList ++ []) o.2) else none := ay_virtual (as := [w1, w2]) (st := []) dX9_next_112 kc_7_103 rfl rfl (Nat.le_of_ble_eq_true rfl)
theorem sX9_next_112_1 : ab_X rom K cX9_next 7 0 112 ls [w2, w1, .ref a, v0] hp = if ab_iso hp a 7 = true then (K 163 (.ref a :: [w1, w2]) hp).bind (fun o => ab_X rom K cX9_next 7 0 115 ls (o.1.toList ++ [v0]) o.2) else none := ay_virtual (as := [w1, w2]) (st := [v0]) dX9_next_112 kc_7_103 rfl rfl (Nat.le_of_ble_eq_true rfl)
theorem sX9_next_112_2 : ab_X rom K cX9_next 7 0 112 ls [w2, w1, .ref a, v0, v1] hp = if ab_iso hp a 7 = true then (K 163 (.ref a :: [w1, w2]) hp).bind (fun o => ab_X rom K cX9_next 7 0 115 ls (o.1.toList ++ [v0, v1]) o.2) else none := ay_virtual (as := [w1, w2]) (st := [v0, v1]) dX9_next_112 kc_7_103 rfl rfl (Nat.le_of_ble_eq_true rfl)
theorem sX9_next_112_3 : ab_X rom K cX9_next 7 0 112 ls [w2, w1, .ref a, v0, v1, v2] hp = if ab_iso hp a 7 = true then (K 163 (.ref a :: [w1, w2]) hp).bind (fun o => ab_X rom K cX9_next 7 0 115 ls (o.1.toList ++ [v0, v1, v2]) o.2) else none := ay_virtual (as := [w1, w2]) (st := [v0, v1, v2]) dX9_next_112 kc_7_103 rfl rfl (Nat.le_of_ble_eq_true rfl)
theorem dX9_next_115 : decode cX9_next 115 = .ok (.ifCond .eq 62, 3) := by decide +kernel
theorem sX9_next_115 : ab_X rom K cX9_next 7 0 115 ls (.int x :: st) hp = if x = 0 then ab_X rom K cX9_next 7 0 177 ls st hp else ab_X rom K cX9_next 7 0 118 ls st hp := ax_if_eq dX9_next_115 (by decide) rfl
theorem dX9_next_118 : decode cX9_next 118 = .ok (.aload_n 0, 1) := by decide +kernel
theorem sX9_next_118 : ab_X rom K cX9_next 7 0 118 (.ref a :: ls) st hp = ab_X rom K cX9_next 7 0 119 (.ref a :: ls) (.ref a :: st) hp := ax_aload_n dX9_next_118 rfl rfl
theorem dX9_next_119 : decode cX9_next 119 = .ok (.iconst 2, 1) := by decide +kernel
theorem sX9_next_119 : ab_X rom K cX9_next 7 0 119 ls st hp = ab_X rom K cX9_next 7 0 120 ls (.int 2 :: st) hp := ax_iconst dX9_next_119 (by decide) rfl
theorem dX9_next_120 : decode cX9_next 120 = .ok (.putfield 112, 3) := by decide +kernel
theorem sX9_next_120 : ab_X rom K cX9_next 7 0 120 ls (.int x :: .ref a :: st) hp = (ab_fpt hp a 7 10 (.int x)).bind (fun hp' => ab_X rom K cX9_next 7 0 123 ls st hp') := ax_putfield dX9_next_120 kf_7_112 rfl (Or.inl rfl) rfl
theorem dX9_next_123 : decode cX9_next 123 = .ok (.aload_n 0, 1) := by decide +kernel
theorem sX9_next_123 : ab_X rom K cX9_next 7 0 123 (.ref a :: ls) st hp = ab_X rom K cX9_next 7 0 124 (.ref a :: ls) (.ref a :: st) hp := ax_aload_n dX9_next_123 rfl rfl
theorem dX9_next_124 : decode cX9_next 124 = .ok (.bipush 48, 2) := by decide +kernel
theorem sX9_next_124 : ab_X rom K cX9_next 7 0 124 ls st hp = ab_X rom K cX9_next 7 0 126 ls (.int 48 :: st) hp := ax_bipush dX9_next_124 (by decide) rfl
theorem dX9_next_126 : decode cX9_next 126 = .ok (.bipush 57, 2) := by decide +kernel
theorem sX9_next_126 : ab_X rom K cX9_next 7 0 126 ls st hp = ab_X rom K cX9_next 7 0 128 ls (.int 57 :: st) hp := ax_bipush dX9_next_126 (by decide) rfl
theorem dX9_next_128 : decode cX9_next 128 = .ok (.invokevirtual 103, 3) := by decide +kernel
theorem sX9_next_128_0 : ab_X rom K cX9_next 7 0 128 ls [w2, w1, .ref a] hp = if ab_iso hp a 7 = true then (K 163 (.ref a :: [w1, w2]) hp).bind (fun o => ab_X rom K cX9_next 7 0 131 ls (o.1.toList ++ []) o.2) else none := ay_virtual (as := [w1, w2]) (st := []) dX9_next_128 kc_7_103 rfl rfl (Nat.le_of_ble_eq_true rfl)
theorem sX9_next_128_1 : ab_X rom K cX9_next 7 0 128 ls [w2, w1, .ref a, v0] hp = if ab_iso hp a 7 = true then (K 163 (.ref a :: [w1, w2]) hp).bind (fun o => ab_X rom K cX9_next 7 0 131 ls (o.1.toList ++ [v0]) o.2) else none := ay_virtual (as := [w1, w2]) (st := [v0]) dX9_next_128 kc_7_103 rfl rfl (Nat.le_of_ble_eq_true rfl)
theorem sX9_next_128_2 : ab_X rom K cX9_next 7 0 128 ls [w2, w1, .ref a, v0, v1] hp = if ab_iso hp a 7 = true then (K 163 (.ref a :: [w1, w2]) hp).bind (fun o => ab_X rom K cX9_next 7 0 131 ls (o.1.toList ++ [v0, v1]) o.2) else none := ay_virtual (as := [w1, w2]) (st := [v0, v1]) dX9_next_128 kc_7_103 rfl rfl (Nat.le_of_ble_eq_true rfl)
theorem sX9_next_128_3 : ab_X rom K cX9_next 7 0 128 ls [w2, w1, .ref a, v0, v1, v2] hp = if ab_iso hp a 7 = true then (K 163 (.ref a :: [w1, w2]) hp).bind (fun o => ab_X rom K cX9_next 7 0 131 ls (o.1.toList ++ [v0, v1, v2]) o.2) else none := ay_virtual (as := [w1, w2]) (st := [v0, v1, v2]) dX9_next_128 kc_7_103 rfl rfl (Nat.le_of_ble_eq_true rfl)
theorem dX9_next_131 : decode cX9_next 131 = .ok (.ifCond .eq 61, 3) := by decide +kernel
theorem sX9_next_131 : ab_X rom K cX9_next 7 0 131 ls (.int x :: st) hp = if x = 0 then ab_X rom K cX9_next 7 0 192 ls st hp else ab_X rom K cX9_next 7 0 134 ls st hp := ax_if_eq dX9_next_131 (by decide) rfl
theorem dX9_next_134 : decode cX9_next 134 = .ok (.aload_n 0, 1) := by decide +kernel
theorem sX9_next_134 : ab_X rom K cX9_next 7 0 134 (.ref a :: ls) st hp = ab_X rom K cX9_next 7 0 135 (.ref a :: ls) (.ref a :: st) hp := ax_aload_n dX9_next_134 rfl rfl
theorem dX9_next_135 : decode cX9_next 135 = .ok (.sipush 1000, 3) := by decide +kernel
theorem sX9_next_135 : ab_X rom K cX9_next 7 0 135 ls st hp = ab_X rom K cX9_next 7 0 138 ls (.int 1000 :: st) hp := ax_sipush dX9_next_135 (by decide) rfl
theorem dX9_next_138 : decode cX9_next 138 = .ok (.bipush 10, 2) := by decide +kernel
theorem sX9_next_138 : ab_X rom K cX9_next 7 0 138 ls st hp = ab_X rom K cX9_next 7 0 140 ls (.int 10 :: st) hp := ax_bipush dX9_next_138 (by decide) rfl
theorem dX9_next_140 : decode cX9_next 140 = .ok (.aload_n 0, 1) := by decide +kernel
theorem sX9_next_140 : ab_X rom K cX9_next 7 0 140 (.ref a :: ls) st hp = ab_X rom K cX9_next 7 0 141 (.ref a :: ls) (.ref a :: st) hp := ax_aload_n dX9_next_140 rfl rfl
theorem dX9_next_141 : decode cX9_next 141 = .ok (.getfield 109, 3) := by decide +kernel
theorem sX9_next_141 : ab_X rom K cX9_next 7 0 141 ls (.ref a :: st) hp = (ab_fld hp a 7 11).bind (fun v => ab_X rom K cX9_next 7 0 144 ls (v :: st) hp) := ax_getfield dX9_next_141 kf_7_109 rfl
theorem dX9_next_144 : decode cX9_next 144 = .ok (.imul, 1) := by decide +kernel
theorem sX9_next_144 : ab_X rom K cX9_next 7 0 144 ls (.int y :: .int x :: st) hp = ab_X rom K cX9_next 7 0 145 ls (.int (x * y) :: st) hp := ax_imul dX9_next_144 rfl
theorem dX9_next_145 : decode cX9_next 145 = .ok (.aload_n 0, 1) := by decide +kernel
theorem sX9_next_145 : ab_X rom K cX9_next 7 0 145 (.ref a :: ls) st hp = ab_X rom K cX9_next 7 0 146 (.ref a :: ls) (.ref a :: st) hp := ax_aload_n dX9_next_145 rfl rfl
theorem dX9_next_146 : decode cX9_next 146 = .ok (.getfield 19, 3) := by decide +kernel
theorem sX9_next_146 : ab_X rom K cX9_next 7 0 146 ls (.ref a :: st) hp = (ab_fld hp a 7 4).bind (fun v => ab_X rom K cX9_next 7 0 149 ls (v :: st) hp) := ax_getfield dX9_next_146 kf_7_19 rfl
theorem dX9_next_149 : decode cX9_next 149 = .ok (.aload_n 0, 1) := by decide +kernel
theorem sX9_next_149 : ab_X rom K cX9_next 7 0 149 (.ref a :: ls) st hp = ab_X rom K cX9_next 7 0 150 (.ref a :: ls) (.ref a :: st) hp := ax_aload_n dX9_next_149 rfl rfl
theorem dX9_next_150 : decode cX9_next 150 = .ok (.getfield 100, 3) := by decide +kernel
theorem sX9_next_150 : ab_X rom K cX9_next 7 0 150 ls (.ref a :: st) hp = (ab_fld hp a 7 8).bind (fun v => ab_X rom K cX9_next 7 0 153 ls (v :: st) hp) := ax_getfield dX9_next_150 kf_7_100 rfl
theorem dX9_next_153 : decode cX9_next 153 = .ok (.iaload, 1) := by decide +kernel
theorem sX9_next_153 : ab_X rom K cX9_next 7 0 153 ls (.int x :: .ref a :: st) hp = (ab_ard rom 0 hp a x).bind (fun v => ab_X rom K cX9_next 7 0 154 ls (.int v :: st) hp) := ax_iaload dX9_next_153 rfl
theorem dX9_next_154 : decode cX9_next 154 = .ok (.iadd, 1) := by decide +kernel
theorem sX9_next_154 : ab_X rom K cX9_next 7 0 154 ls (.int y :: .int x :: st) hp = ab_X rom K cX9_next 7 0 155 ls (.int (x + y) :: st) hp := ax_iadd dX9_next_154 rfl
theorem dX9_next_155 : decode cX9_next 155 = .ok (.bipush 48, 2) := by decide +kernel
theorem sX9_next_155 : ab_X rom K cX9_next 7 0 155 ls st hp = ab_X rom K cX9_next 7 0 157 ls (.int 48 :: st) hp := ax_bipush dX9_next_155 (by decide) rfl
theorem dX9_next_157 : decode cX9_next 157 = .ok (.isub, 1) := by decide +kernel
theorem sX9_next_157 : ab_X rom K cX9_next 7 0 157 ls (.int y :: .int x :: st) hp = ab_X rom K cX9_next 7 0 158 ls (.int (x - y) :: st) hp := ax_isub dX9_next_157 rfl
theorem dX9_next_158 : decode cX9_next 158 = .ok (.invokestatic 115, 3) := by decide +kernel
theorem sX9_next_158_0 : ab_X rom K cX9_next 7 0 158 ls [.int y, .int x] hp = ab_X rom K cX9_next 7 0 161 ls [.int (ab_min x y)] hp := ax_min dX9_next_158 kc_7_115 rfl (Nat.le_of_ble_eq_true rfl)
theorem sX9_next_158_1 : ab_X rom K cX9_next 7 0 158 ls [.int y, .int x, v0] hp = ab_X rom K cX9_next 7 0 161 ls [.int (ab_min x y), v0] hp := ax_min dX9_next_158 kc_7_115 rfl (Nat.le_of_ble_eq_true rfl)
theorem sX9_next_158_2 : ab_X rom K cX9_next 7 0 158 ls [.int y, .int x, v0, v1] hp = ab_X rom K cX9_next 7 0 161 ls [.int (ab_min x y), v0, v1] hp := ax_min dX9_next_158 kc_7_115 rfl (Nat.le_of_ble_eq_true rfl)
theorem sX9_next_158_3 : ab_X rom K cX9_next 7 0 158 ls [.int y, .int x, v0, v1, v2] hp = ab_X rom K cX9_next 7 0 161 ls [.int (ab_min x y), v0, v1, v2] hp := ax_min dX9_next_158 kc_7_115 rfl (Nat.le_of_ble_eq_true rfl)
theorem dX9_next_161 : decode cX9_next 161 = .ok (.putfield 109, 3) := by decide +kernel
theorem sX9_next_161 : ab_X rom K cX9_next 7 0 161 ls (.int x :: .ref a :: st) hp = (ab_fpt hp a 7 11 (.int x)).bind (fun hp' => ab_X rom K cX9_next 7 0 164 ls st hp') := ax_putfield dX9_next_161 kf_7_109 rfl (Or.inl rfl) rfl
theorem dX9_next_164 : decode cX9_next 164 = .ok (.aload_n 0, 1) := by decide +kernel
theorem sX9_next_164 : ab_X rom K cX9_next 7 0 164 (.ref a :: ls) st hp = ab_X rom K cX9_next 7 0 165 (.ref a :: ls) (.ref a :: st) hp := ax_aload_n dX9_next_164 rfl rfl
theorem dX9_next_165 : decode cX9_next 165 = .ok (.dup, 1) := by decide +kernel
theorem sX9_next_165i : ab_X rom K cX9_next 7 0 165 ls (.int x :: st) hp = ab_X rom K cX9_next 7 0 166 ls (.int x :: .int x :: st) hp := ax_dup dX9_next_165 rfl (ab_c1_int _)
theorem sX9_next_165r : ab_X rom K cX9_next 7 0 165 ls (.ref a :: st) hp = ab_X rom K cX9_next 7 0 166 ls (.ref a :: .ref a :: st) hp := ax_dup dX9_next_165 rfl (ab_c1_ref _)
theorem dX9_next_166 : decode cX9_next 166 = .ok (.getfield 100, 3) := by decide +kernel
theorem sX9_next_166 : ab_X rom K cX9_next 7 0 166 ls (.ref a :: st) hp = (ab_fld hp a 7 8).bind (fun v => ab_X rom K cX9_next 7 0 169 ls (v :: st) hp) := ax_getfield dX9_next_166 kf_7_100 rfl
theorem dX9_next_169 : decode cX9_next 169 = .ok (.iconst 1, 1) := by decide +kernel
theorem sX9_next_169 : ab_X rom K cX9_next 7 0 169 ls st hp = ab_X rom K cX9_next 7 0 170 ls (.int 1 :: st) hp := ax_iconst dX9_next_169 (by decide) rfl
theorem dX9_next_170 : decode cX9_next 170 = .ok (.iadd, 1) := by decide +kernel
theorem sX9_next_170 : ab_X rom K cX9_next 7 0 170 ls (.int y :: .int x :: st) hp = ab_X rom K cX9_next 7 0 171 ls (.int (x + y) :: st) hp := ax_iadd dX9_next_170 rfl
theorem dX9_next_171 : decode cX9_next 171 = .ok (.putfield 100, 3) := by decide +kernel
theorem sX9_next_171 : ab_X rom K cX9_next 7 0 171 ls (.int x :: .ref a :: st) hp = (ab_fpt hp a 7 8 (.int x)).bind (fun hp' => ab_X rom K cX9_next 7 0 174 ls st hp') := ax_putfield dX9_next_171 kf_7_100 rfl (Or.inl rfl) rfl
theorem dX9_next_174 : decode cX9_next 174 = .ok (.goto (-51), 3) := by decide +kernel
theorem sX9_next_174 : ab_X rom K cX9_next 7 0 174 ls st hp = ab_X rom K cX9_next 7 0 123 ls st hp := ax_goto dX9_next_174 (by decide)
theorem dX9_next_177 : decode cX9_next 177 = .ok (.aload_n 0, 1) := by decide +kernel
theorem sX9_next_177 : ab_X rom K cX9_next 7 0 177 (.ref a :: ls) st hp = ab_X rom K cX9_next 7 0 178 (.ref a :: ls) (.ref a :: st) hp := ax_aload_n dX9_next_177 rfl rfl
theorem dX9_next_178 : decode cX9_next 178 = .ok (.iconst 3, 1) := by decide +kernel
theorem sX9_next_178 : ab_X rom K cX9_next 7 0 178 ls st hp = ab_X rom K cX9_next 7 0 179 ls (.int 3 :: st) hp := ax_iconst dX9_next_178 (by decide) rfl
theorem dX9_next_179 : decode cX9_next 179 = .ok (.putfield 112, 3) := by decide +kernel
theorem sX9_next_179 : ab_X rom K cX9_next 7 0 179 ls (.int x :: .ref a :: st) hp = (ab_fpt hp a 7 10 (.int x)).bind (fun hp' => ab_X rom K cX9_next 7 0 182 ls st hp') := ax_putfield dX9_next_179 kf_7_112 rfl (Or.inl rfl) rfl
theorem dX9_next_182 : decode cX9_next 182 = .ok (.aload_n 0, 1) := by decide +kernel
theorem sX9_next_182 : ab_X rom K cX9_next 7 0 182 (.ref a :: ls) st hp = ab_X rom K cX9_next 7 0 183 (.ref a :: ls) (.ref a :: st) hp := ax_aload_n dX9_next_182 rfl rfl
theorem dX9_next_183 : decode cX9_next 183 = .ok (.dup, 1) := by decide +kernel
theorem sX9_next_183i : ab_X rom K cX9_next 7 0 183 ls (.int x :: st) hp = ab_X rom K cX9_next 7 0 184 ls (.int x :: .int x :: st) hp := ax_dup dX9_next_183 rfl (ab_c1_int _)
theorem sX9_next_183r : ab_X rom K cX9_next 7 0 183 ls (.ref a :: st) hp = ab_X rom K cX9_next 7 0 184 ls (.ref a :: .ref a :: st) hp := ax_dup dX9_next_183 rfl (ab_c1_ref _)
theorem dX9_next_184 : decode cX9_next 184 = .ok (.getfield 100, 3) := by decide +kernel
theorem sX9_next_184 : ab_X rom K cX9_next 7 0 184 ls (.ref a :: st) hp = (ab_fld hp a 7 8).bind (fun v => ab_X rom K cX9_next 7 0 187 ls (v :: st) hp) := ax_getfield dX9_next_184 kf_7_100 rfl
theorem dX9_next_187 : decode cX9_next 187 = .ok (.iconst 1, 1) := by decide +kernel
theorem sX9_next_187 : ab_X rom K cX9_next 7 0 187 ls st hp = ab_X rom K cX9_next 7 0 188 ls (.int 1 :: st) hp := ax_iconst dX9_next_187 (by decide) rfl
theorem dX9_next_188 : decode cX9_next 188 = .ok (.iadd, 1) := by decide +kernel
theorem sX9_next_188 : ab_X rom K cX9_next 7 0 188 ls (.int y :: .int x :: st) hp = ab_X rom K cX9_next 7 0 189 ls (.int (x + y) :: st) hp := ax_iadd dX9_next_188 rfl
theorem dX9_next_189 : decode cX9_next 189 = .ok (.putfield 100, 3) := by decide +kernel
theorem sX9_next_189 : ab_X rom K cX9_next 7 0 189 ls (.int x :: .ref a :: st) hp = (ab_fpt hp a 7 8 (.int x)).bind (fun hp' => ab_X rom K cX9_next 7 0 192 ls st hp') := ax_putfield dX9_next_189 kf_7_100 rfl (Or.inl rfl) rfl
theorem dX9_next_192 : decode cX9_next 192 = .ok (.return_, 1) := by decide +kernel
theorem sX9_next_192 : ab_X rom K cX9_next 7 0 192 ls [] hp = some (none, hp) := ax_vret dX9_next_192 (by decide)
theorem tX9_octet : ab_mT[203]? = some (yX9_octet, cX9_octet, 2, 1, 7) := by decide +kernel
theorem mX9_octet {d : Nat} {a0 : Nat} {x0 : Int32} : ab_M rom (d + 1) 203 [.ref a0, .int x0] hp = ab_X rom (ab_M rom d) cX9_octet 7 1 0 [.ref a0, .int x0] [] hp := ab_M_eq tX9_octet (Nat.le_of_ble_eq_true rfl)
theorem dX9_octet_0 : decode cX9_octet 0 = .ok (.iload_n 1, 1) := by decide +kernel
theorem sX9_octet_0 : ab_X rom K cX9_octet 7 1 0 (v0 :: .int x :: ls) st hp = ab_X rom K cX9_octet 7 1 1 (v0 :: .int x :: ls) (.int x :: st) hp := ax_iload_n dX9_octet_0 rfl rfl
theorem dX9_octet_1 : decode cX9_octet 1 = .ok (.i2l, 1) := by decide +kernel
theorem sX9_octet_1 : ab_X rom K cX9_octet 7 1 1 ls (.int x :: st) hp = ab_X rom K cX9_octet 7 1 2 ls (.long x.toInt64 :: st) hp := ax_i2l dX9_octet_1 rfl
theorem dX9_octet_2 : decode cX9_octet 2 = .ok (.lconst 0, 1) := by decide +kernel
theorem sX9_octet_2 : ab_X rom K cX9_octet 7 1 2 ls st hp = ab_X rom K cX9_octet 7 1 3 ls (.long 0 :: st) hp := ax_lconst dX9_octet_2 (by decide) rfl
theorem dX9_octet_3 : decode cX9_octet 3 = .ok (.aload_n 0, 1) := by decide +kernel
theorem sX9_octet_3 : ab_X rom K cX9_octet 7 1 3 (.ref a :: ls) st hp = ab_X rom K cX9_octet 7 1 4 (.ref a :: ls) (.ref a :: st) hp := ax_aload_n dX9_octet_3 rfl rfl
theorem dX9_octet_4 : decode cX9_octet 4 = .ok (.getfield 188, 3) := by decide +kernel
theorem sX9_octet_4 : ab_X rom K cX9_octet 7 1 4 ls (.ref a :: st) hp = (ab_fld hp a 7 28).bind (fun v => ab_X rom K cX9_octet 7 1 7 ls (v :: st) hp) := ax_getfield dX9_octet_4 kf_7_188 rfl
theorem dX9_octet_7 : decode cX9_octet 7 = .ok (.iconst 1, 1) := by decide +kernel
theorem sX9_octet_7 : ab_X rom K cX9_octet 7 1 7 ls st hp = ab_X rom K cX9_octet 7 1 8 ls (.int 1 :: st) hp := ax_iconst dX9_octet_7 (by decide) rfl
theorem dX9_octet_8 : decode cX9_octet 8 = .ok (.isub, 1) := by decide +kernel
theorem sX9_octet_8 : ab_X rom K cX9_octet 7 1 8 ls (.int y :: .int x :: st) hp = ab_X rom K cX9_octet 7 1 9 ls (.int (x - y) :: st) hp := ax_isub dX9_octet_8 rfl
theorem dX9_octet_9 : decode cX9_octet 9 = .ok (.i2l, 1) := by decide +kernel
theorem sX9_octet_9 : ab_X rom K cX9_octet 7 1 9 ls (.int x :: st) hp = ab_X rom K cX9_octet 7 1 10 ls (.long x.toInt64 :: st) hp := ax_i2l dX9_octet_9 rfl
theorem dX9_octet_10 : decode cX9_octet 10 = .ok (.invokestatic 56, 3) := by decide +kernel
theorem sX9_octet_10_0 : ab_X rom K cX9_octet 7 1 10 ls [w3, w2, w1] hp = (K 159 [w1, w2, w3] hp).bind (fun o => ab_X rom K cX9_octet 7 1 13 ls (o.1.toList ++ []) o.2) := ax_static (as := [w1, w2, w3]) (st := []) dX9_octet_10 kc_7_56 rfl rfl (Nat.le_of_ble_eq_true rfl)
theorem sX9_octet_10_1 : ab_X rom K cX9_octet 7 1 10 ls [w3, w2, w1, v0] hp = (K 159 [w1, w2, w3] hp).bind (fun o => ab_X rom K cX9_octet 7 1 13 ls (o.1.toList ++ [v0]) o.2) := ax_static (as := [w1, w2, w3]) (st := [v0]) dX9_octet_10 kc_7_56 rfl rfl (Nat.le_of_ble_eq_true rfl)
theorem sX9_octet_10_2 : ab_X rom K cX9_octet 7 1 10 ls [w3, w2, w1, v0, v1] hp = (K 159 [w1, w2, w3] hp).bind (fun o => ab_X rom K cX9_octet 7 1 13 ls (o.1.toList ++ [v0, v1]) o.2) := ax_static (as := [w1, w2, w3]) (st := [v0, v1]) dX9_octet_10 kc_7_56 rfl rfl (Nat.le_of_ble_eq_true rfl)
theorem sX9_octet_10_3 : ab_X rom K cX9_octet 7 1 10 ls [w3, w2, w1, v0, v1, v2] hp = (K 159 [w1, w2, w3] hp).bind (fun o => ab_X rom K cX9_octet 7 1 13 ls (o.1.toList ++ [v0, v1, v2]) o.2) := ax_static (as := [w1, w2, w3]) (st := [v0, v1, v2]) dX9_octet_10 kc_7_56 rfl rfl (Nat.le_of_ble_eq_true rfl)
theorem dX9_octet_13 : decode cX9_octet 13 = .ok (.ifCond .eq 12, 3) := by decide +kernel
theorem sX9_octet_13 : ab_X rom K cX9_octet 7 1 13 ls (.int x :: st) hp = if x = 0 then ab_X rom K cX9_octet 7 1 25 ls st hp else ab_X rom K cX9_octet 7 1 16 ls st hp := ax_if_eq dX9_octet_13 (by decide) rfl
theorem dX9_octet_16 : decode cX9_octet 16 = .ok (.aload_n 0, 1) := by decide +kernel
theorem sX9_octet_16 : ab_X rom K cX9_octet 7 1 16 (.ref a :: ls) st hp = ab_X rom K cX9_octet 7 1 17 (.ref a :: ls) (.ref a :: st) hp := ax_aload_n dX9_octet_16 rfl rfl
theorem dX9_octet_17 : decode cX9_octet 17 = .ok (.getfield 51, 3) := by decide +kernel
theorem sX9_octet_17 : ab_X rom K cX9_octet 7 1 17 ls (.ref a :: st) hp = (ab_fld hp a 7 27).bind (fun v => ab_X rom K cX9_octet 7 1 20 ls (v :: st) hp) := ax_getfield dX9_octet_17 kf_7_51 rfl
theorem dX9_octet_20 : decode cX9_octet 20 = .ok (.iload_n 1, 1) := by decide +kernel
theorem sX9_octet_20 : ab_X rom K cX9_octet 7 1 20 (v0 :: .int x :: ls) st hp = ab_X rom K cX9_octet 7 1 21 (v0 :: .int x :: ls) (.int x :: st) hp := ax_iload_n dX9_octet_20 rfl rfl
theorem dX9_octet_21 : decode cX9_octet 21 = .ok (.iaload, 1) := by decide +kernel
theorem sX9_octet_21 : ab_X rom K cX9_octet 7 1 21 ls (.int x :: .ref a :: st) hp = (ab_ard rom 0 hp a x).bind (fun v => ab_X rom K cX9_octet 7 1 22 ls (.int v :: st) hp) := ax_iaload dX9_octet_21 rfl
theorem dX9_octet_22 : decode cX9_octet 22 = .ok (.goto 4, 3) := by decide +kernel
theorem sX9_octet_22 : ab_X rom K cX9_octet 7 1 22 ls st hp = ab_X rom K cX9_octet 7 1 26 ls st hp := ax_goto dX9_octet_22 (by decide)
theorem dX9_octet_25 : decode cX9_octet 25 = .ok (.iconst (-1), 1) := by decide +kernel
theorem sX9_octet_25 : ab_X rom K cX9_octet 7 1 25 ls st hp = ab_X rom K cX9_octet 7 1 26 ls (.int (-1) :: st) hp := ax_iconst dX9_octet_25 (by decide) rfl
theorem dX9_octet_26 : decode cX9_octet 26 = .ok (.ireturn, 1) := by decide +kernel
theorem sX9_octet_26 : ab_X rom K cX9_octet 7 1 26 ls [.int x] hp = some (some (.int x), hp) := ax_iret dX9_octet_26 rfl
theorem tX9_ones : ab_mT[204]? = some (yX9_ones, cX9_ones, 3, 1, 7) := by decide +kernel
theorem mX9_ones {d : Nat} {x0 : Int32} : ab_M rom (d + 1) 204 [.int x0] hp = ab_X rom (ab_M rom d) cX9_ones 7 1 0 [.int x0, .null, .null] [] hp := ab_M_eq tX9_ones (Nat.le_of_ble_eq_true rfl)
theorem dX9_ones_0 : decode cX9_ones 0 = .ok (.iconst 0, 1) := by decide +kernel
theorem sX9_ones_0 : ab_X rom K cX9_ones 7 1 0 ls st hp = ab_X rom K cX9_ones 7 1 1 ls (.int 0 :: st) hp := ax_iconst dX9_ones_0 (by decide) rfl
theorem dX9_ones_1 : decode cX9_ones 1 = .ok (.istore_n 1, 1) := by decide +kernel
theorem sX9_ones_1i : ab_X rom K cX9_ones 7 1 1 (.int y :: v1 :: ls) (.int x :: st) hp = ab_X rom K cX9_ones 7 1 2 (.int y :: .int x :: ls) st hp := ax_istore_n dX9_ones_1 (ax_lt (v := v1) rfl) (ab_nl_c1 (j := 0) (v := .int y) rfl (ab_c1_int _)) rfl rfl
theorem sX9_ones_1r : ab_X rom K cX9_ones 7 1 1 (.ref a2 :: v1 :: ls) (.int x :: st) hp = ab_X rom K cX9_ones 7 1 2 (.ref a2 :: .int x :: ls) st hp := ax_istore_n dX9_ones_1 (ax_lt (v := v1) rfl) (ab_nl_c1 (j := 0) (v := .ref a2) rfl (ab_c1_ref _)) rfl rfl
theorem sX9_ones_1n : ab_X rom K cX9_ones 7 1 1 (.null :: v1 :: ls) (.int x :: st) hp = ab_X rom K cX9_ones 7 1 2 (.null :: .int x :: ls) st hp := ax_istore_n dX9_ones_1 (ax_lt (v := v1) rfl) (ab_nl_c1 (j := 0) (v := .null) rfl ab_c1_null) rfl rfl
theorem dX9_ones_2 : decode cX9_ones 2 = .ok (.iconst 0, 1) := by decide +kernel
theorem sX9_ones_2 : ab_X rom K cX9_ones 7 1 2 ls st hp = ab_X rom K cX9_ones 7 1 3 ls (.int 0 :: st) hp := ax_iconst dX9_ones_2 (by decide) rfl
theorem dX9_ones_3 : decode cX9_ones 3 = .ok (.istore_n 2, 1) := by decide +kernel
theorem sX9_ones_3i : ab_X rom K cX9_ones 7 1 3 (v0 :: .int y :: v2 :: ls) (.int x :: st) hp = ab_X rom K cX9_ones 7 1 4 (v0 :: .int y :: .int x :: ls) st hp := ax_istore_n dX9_ones_3 (ax_lt (v := v2) rfl) (ab_nl_c1 (j := 1) (v := .int y) rfl (ab_c1_int _)) rfl rfl
theorem sX9_ones_3r : ab_X rom K cX9_ones 7 1 3 (v0 :: .ref a2 :: v2 :: ls) (.int x :: st) hp = ab_X rom K cX9_ones 7 1 4 (v0 :: .ref a2 :: .int x :: ls) st hp := ax_istore_n dX9_ones_3 (ax_lt (v := v2) rfl) (ab_nl_c1 (j := 1) (v := .ref a2) rfl (ab_c1_ref _)) rfl rfl
theorem sX9_ones_3n : ab_X rom K cX9_ones 7 1 3 (v0 :: .null :: v2 :: ls) (.int x :: st) hp = ab_X rom K cX9_ones 7 1 4 (v0 :: .null :: .int x :: ls) st hp := ax_istore_n dX9_ones_3 (ax_lt (v := v2) rfl) (ab_nl_c1 (j := 1) (v := .null) rfl ab_c1_null) rfl rfl
theorem dX9_ones_4 : decode cX9_ones 4 = .ok (.iload_n 2, 1) := by decide +kernel
theorem sX9_ones_4 : ab_X rom K cX9_ones 7 1 4 (v0 :: v1 :: .int x :: ls) st hp = ab_X rom K cX9_ones 7 1 5 (v0 :: v1 :: .int x :: ls) (.int x :: st) hp := ax_iload_n dX9_ones_4 rfl rfl
theorem dX9_ones_5 : decode cX9_ones 5 = .ok (.bipush 31, 2) := by decide +kernel
theorem sX9_ones_5 : ab_X rom K cX9_ones 7 1 5 ls st hp = ab_X rom K cX9_ones 7 1 7 ls (.int 31 :: st) hp := ax_bipush dX9_ones_5 (by decide) rfl
theorem dX9_ones_7 : decode cX9_ones 7 = .ok (.if_icmp .ge 17, 3) := by decide +kernel
theorem sX9_ones_7 : ab_X rom K cX9_ones 7 1 7 ls (.int y :: .int x :: st) hp = if x < y then ab_X rom K cX9_ones 7 1 10 ls st hp else ab_X rom K cX9_ones 7 1 24 ls st hp := ax_icmp_ge dX9_ones_7 (by decide) rfl
theorem dX9_ones_10 : decode cX9_ones 10 = .ok (.iload_n 1, 1) := by decide +kernel
theorem sX9_ones_10 : ab_X rom K cX9_ones 7 1 10 (v0 :: .int x :: ls) st hp = ab_X rom K cX9_ones 7 1 11 (v0 :: .int x :: ls) (.int x :: st) hp := ax_iload_n dX9_ones_10 rfl rfl
theorem dX9_ones_11 : decode cX9_ones 11 = .ok (.iload_n 0, 1) := by decide +kernel
theorem sX9_ones_11 : ab_X rom K cX9_ones 7 1 11 (.int x :: ls) st hp = ab_X rom K cX9_ones 7 1 12 (.int x :: ls) (.int x :: st) hp := ax_iload_n dX9_ones_11 rfl rfl
theorem dX9_ones_12 : decode cX9_ones 12 = .ok (.iload_n 2, 1) := by decide +kernel
theorem sX9_ones_12 : ab_X rom K cX9_ones 7 1 12 (v0 :: v1 :: .int x :: ls) st hp = ab_X rom K cX9_ones 7 1 13 (v0 :: v1 :: .int x :: ls) (.int x :: st) hp := ax_iload_n dX9_ones_12 rfl rfl
theorem dX9_ones_13 : decode cX9_ones 13 = .ok (.ishr, 1) := by decide +kernel
theorem sX9_ones_13 : ab_X rom K cX9_ones 7 1 13 ls (.int y :: .int x :: st) hp = ab_X rom K cX9_ones 7 1 14 ls (.int (x >>> (y &&& 31)) :: st) hp := ax_ishr dX9_ones_13 rfl
theorem dX9_ones_14 : decode cX9_ones 14 = .ok (.iconst 1, 1) := by decide +kernel
theorem sX9_ones_14 : ab_X rom K cX9_ones 7 1 14 ls st hp = ab_X rom K cX9_ones 7 1 15 ls (.int 1 :: st) hp := ax_iconst dX9_ones_14 (by decide) rfl
theorem dX9_ones_15 : decode cX9_ones 15 = .ok (.iand, 1) := by decide +kernel
theorem sX9_ones_15 : ab_X rom K cX9_ones 7 1 15 ls (.int y :: .int x :: st) hp = ab_X rom K cX9_ones 7 1 16 ls (.int (x &&& y) :: st) hp := ax_iand dX9_ones_15 rfl
theorem dX9_ones_16 : decode cX9_ones 16 = .ok (.iadd, 1) := by decide +kernel
theorem sX9_ones_16 : ab_X rom K cX9_ones 7 1 16 ls (.int y :: .int x :: st) hp = ab_X rom K cX9_ones 7 1 17 ls (.int (x + y) :: st) hp := ax_iadd dX9_ones_16 rfl
theorem dX9_ones_17 : decode cX9_ones 17 = .ok (.istore_n 1, 1) := by decide +kernel
theorem sX9_ones_17i : ab_X rom K cX9_ones 7 1 17 (.int y :: v1 :: ls) (.int x :: st) hp = ab_X rom K cX9_ones 7 1 18 (.int y :: .int x :: ls) st hp := ax_istore_n dX9_ones_17 (ax_lt (v := v1) rfl) (ab_nl_c1 (j := 0) (v := .int y) rfl (ab_c1_int _)) rfl rfl
theorem sX9_ones_17r : ab_X rom K cX9_ones 7 1 17 (.ref a2 :: v1 :: ls) (.int x :: st) hp = ab_X rom K cX9_ones 7 1 18 (.ref a2 :: .int x :: ls) st hp := ax_istore_n dX9_ones_17 (ax_lt (v := v1) rfl) (ab_nl_c1 (j := 0) (v := .ref a2) rfl (ab_c1_ref _)) rfl rfl
theorem sX9_ones_17n : ab_X rom K cX9_ones 7 1 17 (.null :: v1 :: ls) (.int x :: st) hp = ab_X rom K cX9_ones 7 1 18 (.null :: .int x :: ls) st hp := ax_istore_n dX9_ones_17 (ax_lt (v := v1) rfl) (ab_nl_c1 (j := 0) (v := .null) rfl ab_c1_null) rfl rfl
theorem dX9_ones_18 : decode cX9_ones 18 = .ok (.iinc 2 1, 3) := by decide +kernel
theorem sX9_ones_18i : ab_X rom K cX9_ones 7 1 18 (v0 :: .int y :: .int x :: ls) st hp = ab_X rom K cX9_ones 7 1 21 (v0 :: .int y :: .int (x + 1) :: ls) st hp := ax_iinc dX9_ones_18 rfl (ab_nl_c1 (j := 1) (v := .int y) rfl (ab_c1_int _)) (by decide) rfl rfl
theorem sX9_ones_18r : ab_X rom K cX9_ones 7 1 18 (v0 :: .ref a2 :: .int x :: ls) st hp = ab_X rom K cX9_ones 7 1 21 (v0 :: .ref a2 :: .int (x + 1) :: ls) st hp := ax_iinc dX9_ones_18 rfl (ab_nl_c1 (j := 1) (v := .ref a2) rfl (ab_c1_ref _)) (by decide) rfl rfl
theorem sX9_ones_18n : ab_X rom K cX9_ones 7 1 18 (v0 :: .null :: .int x :: ls) st hp = ab_X rom K cX9_ones 7 1 21 (v0 :: .null :: .int (x + 1) :: ls) st hp := ax_iinc dX9_ones_18 rfl (ab_nl_c1 (j := 1) (v := .null) rfl ab_c1_null) (by decide) rfl rfl
theorem dX9_ones_21 : decode cX9_ones 21 = .ok (.goto (-17), 3) := by decide +kernel
theorem sX9_ones_21 : ab_X rom K cX9_ones 7 1 21 ls st hp = ab_X rom K cX9_ones 7 1 4 ls st hp := ax_goto dX9_ones_21 (by decide)
theorem dX9_ones_24 : decode cX9_ones 24 = .ok (.iload_n 1, 1) := by decide +kernel
theorem sX9_ones_24 : ab_X rom K cX9_ones 7 1 24 (v0 :: .int x :: ls) st hp = ab_X rom K cX9_ones 7 1 25 (v0 :: .int x :: ls) (.int x :: st) hp := ax_iload_n dX9_ones_24 rfl rfl
theorem dX9_ones_25 : decode cX9_ones 25 = .ok (.ireturn, 1) := by decide +kernel
theorem sX9_ones_25 : ab_X rom K cX9_ones 7 1 25 ls [.int x] hp = some (some (.int x), hp) := ax_iret dX9_ones_25 rfl
end
