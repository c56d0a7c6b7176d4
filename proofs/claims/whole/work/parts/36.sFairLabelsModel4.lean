/-! FairLabelsModel: its methods step by step (printed by wip/whole/gen_steps.py) -/
section
variable {rom : List (List Int32)} {K : Nat → List Value → ab_H → Option ab_O} {ls st : List Value} {hp : ab_H} {x y z : Int32} {a a2 : Nat} {sp dp : Int32} {u w : Int64} {v0 v1 v2 v3 v4 v5 v6 v7 v8 v9 v10 v11 v12 v13 v14 v15 w1 w2 w3 w4 w5 w6 : Value}
theorem tX9_part : ab_mT[205]? = some (yX9_part, cX9_part, 6, 1, 7) := by decide +kernel
theorem mX9_part {d : Nat} {a0 : Nat} {x0 : Int32} {x1 : Int32} : ab_M rom (d + 1) 205 [.ref a0, .int x0, .int x1] hp = ab_X rom (ab_M rom d) cX9_part 7 1 0 [.ref a0, .int x0, .int x1, .null, .null, .null] [] hp := ab_M_eq tX9_part (Nat.le_of_ble_eq_true rfl)
theorem dX9_part_0 : decode cX9_part 0 = .ok (.iconst 1, 1) := by decide +kernel
theorem sX9_part_0 : ab_X rom K cX9_part 7 1 0 ls st hp = ab_X rom K cX9_part 7 1 1 ls (.int 1 :: st) hp := ax_iconst dX9_part_0 (by decide) rfl
theorem dX9_part_1 : decode cX9_part 1 = .ok (.iload_n 2, 1) := by decide +kernel
theorem sX9_part_1 : ab_X rom K cX9_part 7 1 1 (v0 :: v1 :: .int x :: ls) st hp = ab_X rom K cX9_part 7 1 2 (v0 :: v1 :: .int x :: ls) (.int x :: st) hp := ax_iload_n dX9_part_1 rfl rfl
theorem dX9_part_2 : decode cX9_part 2 = .ok (.ishl, 1) := by decide +kernel
theorem sX9_part_2 : ab_X rom K cX9_part 7 1 2 ls (.int y :: .int x :: st) hp = ab_X rom K cX9_part 7 1 3 ls (.int (x <<< (y &&& 31)) :: st) hp := ax_ishl dX9_part_2 rfl
theorem dX9_part_3 : decode cX9_part 3 = .ok (.istore_n 3, 1) := by decide +kernel
theorem sX9_part_3i : ab_X rom K cX9_part 7 1 3 (v0 :: v1 :: .int y :: v3 :: ls) (.int x :: st) hp = ab_X rom K cX9_part 7 1 4 (v0 :: v1 :: .int y :: .int x :: ls) st hp := ax_istore_n dX9_part_3 (ax_lt (v := v3) rfl) (ab_nl_c1 (j := 2) (v := .int y) rfl (ab_c1_int _)) rfl rfl
theorem sX9_part_3r : ab_X rom K cX9_part 7 1 3 (v0 :: v1 :: .ref a2 :: v3 :: ls) (.int x :: st) hp = ab_X rom K cX9_part 7 1 4 (v0 :: v1 :: .ref a2 :: .int x :: ls) st hp := ax_istore_n dX9_part_3 (ax_lt (v := v3) rfl) (ab_nl_c1 (j := 2) (v := .ref a2) rfl (ab_c1_ref _)) rfl rfl
theorem sX9_part_3n : ab_X rom K cX9_part 7 1 3 (v0 :: v1 :: .null :: v3 :: ls) (.int x :: st) hp = ab_X rom K cX9_part 7 1 4 (v0 :: v1 :: .null :: .int x :: ls) st hp := ax_istore_n dX9_part_3 (ax_lt (v := v3) rfl) (ab_nl_c1 (j := 2) (v := .null) rfl ab_c1_null) rfl rfl
theorem dX9_part_4 : decode cX9_part 4 = .ok (.iconst 0, 1) := by decide +kernel
theorem sX9_part_4 : ab_X rom K cX9_part 7 1 4 ls st hp = ab_X rom K cX9_part 7 1 5 ls (.int 0 :: st) hp := ax_iconst dX9_part_4 (by decide) rfl
theorem dX9_part_5 : decode cX9_part 5 = .ok (.istore 4, 2) := by decide +kernel
theorem sX9_part_5i : ab_X rom K cX9_part 7 1 5 (v0 :: v1 :: v2 :: .int y :: v4 :: ls) (.int x :: st) hp = ab_X rom K cX9_part 7 1 7 (v0 :: v1 :: v2 :: .int y :: .int x :: ls) st hp := ax_istore dX9_part_5 (ax_lt (v := v4) rfl) (ab_nl_c1 (j := 3) (v := .int y) rfl (ab_c1_int _)) rfl rfl
theorem sX9_part_5r : ab_X rom K cX9_part 7 1 5 (v0 :: v1 :: v2 :: .ref a2 :: v4 :: ls) (.int x :: st) hp = ab_X rom K cX9_part 7 1 7 (v0 :: v1 :: v2 :: .ref a2 :: .int x :: ls) st hp := ax_istore dX9_part_5 (ax_lt (v := v4) rfl) (ab_nl_c1 (j := 3) (v := .ref a2) rfl (ab_c1_ref _)) rfl rfl
theorem sX9_part_5n : ab_X rom K cX9_part 7 1 5 (v0 :: v1 :: v2 :: .null :: v4 :: ls) (.int x :: st) hp = ab_X rom K cX9_part 7 1 7 (v0 :: v1 :: v2 :: .null :: .int x :: ls) st hp := ax_istore dX9_part_5 (ax_lt (v := v4) rfl) (ab_nl_c1 (j := 3) (v := .null) rfl ab_c1_null) rfl rfl
theorem dX9_part_7 : decode cX9_part 7 = .ok (.iload 4, 2) := by decide +kernel
theorem sX9_part_7 : ab_X rom K cX9_part 7 1 7 (v0 :: v1 :: v2 :: v3 :: .int x :: ls) st hp = ab_X rom K cX9_part 7 1 9 (v0 :: v1 :: v2 :: v3 :: .int x :: ls) (.int x :: st) hp := ax_iload dX9_part_7 rfl rfl
theorem dX9_part_9 : decode cX9_part 9 = .ok (.iload_n 3, 1) := by decide +kernel
theorem sX9_part_9 : ab_X rom K cX9_part 7 1 9 (v0 :: v1 :: v2 :: .int x :: ls) st hp = ab_X rom K cX9_part 7 1 10 (v0 :: v1 :: v2 :: .int x :: ls) (.int x :: st) hp := ax_iload_n dX9_part_9 rfl rfl
theorem dX9_part_10 : decode cX9_part 10 = .ok (.if_icmp .eq 52, 3) := by decide +kernel
theorem sX9_part_10 : ab_X rom K cX9_part 7 1 10 ls (.int y :: .int x :: st) hp = if x = y then ab_X rom K cX9_part 7 1 62 ls st hp else ab_X rom K cX9_part 7 1 13 ls st hp := ax_icmp_eq dX9_part_10 (by decide) rfl
theorem dX9_part_13 : decode cX9_part 13 = .ok (.iload_n 3, 1) := by decide +kernel
theorem sX9_part_13 : ab_X rom K cX9_part 7 1 13 (v0 :: v1 :: v2 :: .int x :: ls) st hp = ab_X rom K cX9_part 7 1 14 (v0 :: v1 :: v2 :: .int x :: ls) (.int x :: st) hp := ax_iload_n dX9_part_13 rfl rfl
theorem dX9_part_14 : decode cX9_part 14 = .ok (.istore 4, 2) := by decide +kernel
theorem sX9_part_14i : ab_X rom K cX9_part 7 1 14 (v0 :: v1 :: v2 :: .int y :: v4 :: ls) (.int x :: st) hp = ab_X rom K cX9_part 7 1 16 (v0 :: v1 :: v2 :: .int y :: .int x :: ls) st hp := ax_istore dX9_part_14 (ax_lt (v := v4) rfl) (ab_nl_c1 (j := 3) (v := .int y) rfl (ab_c1_int _)) rfl rfl
theorem sX9_part_14r : ab_X rom K cX9_part 7 1 14 (v0 :: v1 :: v2 :: .ref a2 :: v4 :: ls) (.int x :: st) hp = ab_X rom K cX9_part 7 1 16 (v0 :: v1 :: v2 :: .ref a2 :: .int x :: ls) st hp := ax_istore dX9_part_14 (ax_lt (v := v4) rfl) (ab_nl_c1 (j := 3) (v := .ref a2) rfl (ab_c1_ref _)) rfl rfl
theorem sX9_part_14n : ab_X rom K cX9_part 7 1 14 (v0 :: v1 :: v2 :: .null :: v4 :: ls) (.int x :: st) hp = ab_X rom K cX9_part 7 1 16 (v0 :: v1 :: v2 :: .null :: .int x :: ls) st hp := ax_istore dX9_part_14 (ax_lt (v := v4) rfl) (ab_nl_c1 (j := 3) (v := .null) rfl ab_c1_null) rfl rfl
theorem dX9_part_16 : decode cX9_part 16 = .ok (.iconst 0, 1) := by decide +kernel
theorem sX9_part_16 : ab_X rom K cX9_part 7 1 16 ls st hp = ab_X rom K cX9_part 7 1 17 ls (.int 0 :: st) hp := ax_iconst dX9_part_16 (by decide) rfl
theorem dX9_part_17 : decode cX9_part 17 = .ok (.istore 5, 2) := by decide +kernel
theorem sX9_part_17i : ab_X rom K cX9_part 7 1 17 (v0 :: v1 :: v2 :: v3 :: .int y :: v5 :: ls) (.int x :: st) hp = ab_X rom K cX9_part 7 1 19 (v0 :: v1 :: v2 :: v3 :: .int y :: .int x :: ls) st hp := ax_istore dX9_part_17 (ax_lt (v := v5) rfl) (ab_nl_c1 (j := 4) (v := .int y) rfl (ab_c1_int _)) rfl rfl
theorem sX9_part_17r : ab_X rom K cX9_part 7 1 17 (v0 :: v1 :: v2 :: v3 :: .ref a2 :: v5 :: ls) (.int x :: st) hp = ab_X rom K cX9_part 7 1 19 (v0 :: v1 :: v2 :: v3 :: .ref a2 :: .int x :: ls) st hp := ax_istore dX9_part_17 (ax_lt (v := v5) rfl) (ab_nl_c1 (j := 4) (v := .ref a2) rfl (ab_c1_ref _)) rfl rfl
theorem sX9_part_17n : ab_X rom K cX9_part 7 1 17 (v0 :: v1 :: v2 :: v3 :: .null :: v5 :: ls) (.int x :: st) hp = ab_X rom K cX9_part 7 1 19 (v0 :: v1 :: v2 :: v3 :: .null :: .int x :: ls) st hp := ax_istore dX9_part_17 (ax_lt (v := v5) rfl) (ab_nl_c1 (j := 4) (v := .null) rfl ab_c1_null) rfl rfl
theorem dX9_part_19 : decode cX9_part 19 = .ok (.iload 5, 2) := by decide +kernel
theorem sX9_part_19 : ab_X rom K cX9_part 7 1 19 (v0 :: v1 :: v2 :: v3 :: v4 :: .int x :: ls) st hp = ab_X rom K cX9_part 7 1 21 (v0 :: v1 :: v2 :: v3 :: v4 :: .int x :: ls) (.int x :: st) hp := ax_iload dX9_part_19 rfl rfl
theorem dX9_part_21 : decode cX9_part 21 = .ok (.aload_n 0, 1) := by decide +kernel
theorem sX9_part_21 : ab_X rom K cX9_part 7 1 21 (.ref a :: ls) st hp = ab_X rom K cX9_part 7 1 22 (.ref a :: ls) (.ref a :: st) hp := ax_aload_n dX9_part_21 rfl rfl
theorem dX9_part_22 : decode cX9_part 22 = .ok (.iload_n 1, 1) := by decide +kernel
theorem sX9_part_22 : ab_X rom K cX9_part 7 1 22 (v0 :: .int x :: ls) st hp = ab_X rom K cX9_part 7 1 23 (v0 :: .int x :: ls) (.int x :: st) hp := ax_iload_n dX9_part_22 rfl rfl
theorem dX9_part_23 : decode cX9_part 23 = .ok (.invokevirtual 64, 3) := by decide +kernel
theorem sX9_part_23_0 : ab_X rom K cX9_part 7 1 23 ls [w1, .ref a] hp = if ab_iso hp a 7 = true then (K 209 (.ref a :: [w1]) hp).bind (fun o => ab_X rom K cX9_part 7 1 26 ls (o.1.toList ++ []) o.2) else none := ay_virtual (as := [w1]) (st := []) dX9_part_23 kc_7_64 rfl rfl (Nat.le_of_ble_eq_true rfl)
theorem sX9_part_23_1 : ab_X rom K cX9_part 7 1 23 ls [w1, .ref a, v0] hp = if ab_iso hp a 7 = true then (K 209 (.ref a :: [w1]) hp).bind (fun o => ab_X rom K cX9_part 7 1 26 ls (o.1.toList ++ [v0]) o.2) else none := ay_virtual (as := [w1]) (st := [v0]) dX9_part_23 kc_7_64 rfl rfl (Nat.le_of_ble_eq_true rfl)
theorem sX9_part_23_2 : ab_X rom K cX9_part 7 1 23 ls [w1, .ref a, v0, v1] hp = if ab_iso hp a 7 = true then (K 209 (.ref a :: [w1]) hp).bind (fun o => ab_X rom K cX9_part 7 1 26 ls (o.1.toList ++ [v0, v1]) o.2) else none := ay_virtual (as := [w1]) (st := [v0, v1]) dX9_part_23 kc_7_64 rfl rfl (Nat.le_of_ble_eq_true rfl)
theorem sX9_part_23_3 : ab_X rom K cX9_part 7 1 23 ls [w1, .ref a, v0, v1, v2] hp = if ab_iso hp a 7 = true then (K 209 (.ref a :: [w1]) hp).bind (fun o => ab_X rom K cX9_part 7 1 26 ls (o.1.toList ++ [v0, v1, v2]) o.2) else none := ay_virtual (as := [w1]) (st := [v0, v1, v2]) dX9_part_23 kc_7_64 rfl rfl (Nat.le_of_ble_eq_true rfl)
theorem dX9_part_26 : decode cX9_part 26 = .ok (.if_icmp .ge 33, 3) := by decide +kernel
theorem sX9_part_26 : ab_X rom K cX9_part 7 1 26 ls (.int y :: .int x :: st) hp = if x < y then ab_X rom K cX9_part 7 1 29 ls st hp else ab_X rom K cX9_part 7 1 59 ls st hp := ax_icmp_ge dX9_part_26 (by decide) rfl
theorem dX9_part_29 : decode cX9_part 29 = .ok (.iload_n 3, 1) := by decide +kernel
theorem sX9_part_29 : ab_X rom K cX9_part 7 1 29 (v0 :: v1 :: v2 :: .int x :: ls) st hp = ab_X rom K cX9_part 7 1 30 (v0 :: v1 :: v2 :: .int x :: ls) (.int x :: st) hp := ax_iload_n dX9_part_29 rfl rfl
theorem dX9_part_30 : decode cX9_part 30 = .ok (.iload 4, 2) := by decide +kernel
theorem sX9_part_30 : ab_X rom K cX9_part 7 1 30 (v0 :: v1 :: v2 :: v3 :: .int x :: ls) st hp = ab_X rom K cX9_part 7 1 32 (v0 :: v1 :: v2 :: v3 :: .int x :: ls) (.int x :: st) hp := ax_iload dX9_part_30 rfl rfl
theorem dX9_part_32 : decode cX9_part 32 = .ok (.iload 5, 2) := by decide +kernel
theorem sX9_part_32 : ab_X rom K cX9_part 7 1 32 (v0 :: v1 :: v2 :: v3 :: v4 :: .int x :: ls) st hp = ab_X rom K cX9_part 7 1 34 (v0 :: v1 :: v2 :: v3 :: v4 :: .int x :: ls) (.int x :: st) hp := ax_iload dX9_part_32 rfl rfl
theorem dX9_part_34 : decode cX9_part 34 = .ok (.invokestatic 77, 3) := by decide +kernel
theorem sX9_part_34_0 : ab_X rom K cX9_part 7 1 34 ls [w2, w1] hp = (K 156 [w1, w2] hp).bind (fun o => ab_X rom K cX9_part 7 1 37 ls (o.1.toList ++ []) o.2) := ax_static (as := [w1, w2]) (st := []) dX9_part_34 kc_7_77 rfl rfl (Nat.le_of_ble_eq_true rfl)
theorem sX9_part_34_1 : ab_X rom K cX9_part 7 1 34 ls [w2, w1, v0] hp = (K 156 [w1, w2] hp).bind (fun o => ab_X rom K cX9_part 7 1 37 ls (o.1.toList ++ [v0]) o.2) := ax_static (as := [w1, w2]) (st := [v0]) dX9_part_34 kc_7_77 rfl rfl (Nat.le_of_ble_eq_true rfl)
theorem sX9_part_34_2 : ab_X rom K cX9_part 7 1 34 ls [w2, w1, v0, v1] hp = (K 156 [w1, w2] hp).bind (fun o => ab_X rom K cX9_part 7 1 37 ls (o.1.toList ++ [v0, v1]) o.2) := ax_static (as := [w1, w2]) (st := [v0, v1]) dX9_part_34 kc_7_77 rfl rfl (Nat.le_of_ble_eq_true rfl)
theorem sX9_part_34_3 : ab_X rom K cX9_part 7 1 34 ls [w2, w1, v0, v1, v2] hp = (K 156 [w1, w2] hp).bind (fun o => ab_X rom K cX9_part 7 1 37 ls (o.1.toList ++ [v0, v1, v2]) o.2) := ax_static (as := [w1, w2]) (st := [v0, v1, v2]) dX9_part_34 kc_7_77 rfl rfl (Nat.le_of_ble_eq_true rfl)
theorem dX9_part_37 : decode cX9_part 37 = .ok (.ifCond .eq 13, 3) := by decide +kernel
theorem sX9_part_37 : ab_X rom K cX9_part 7 1 37 ls (.int x :: st) hp = if x = 0 then ab_X rom K cX9_part 7 1 50 ls st hp else ab_X rom K cX9_part 7 1 40 ls st hp := ax_if_eq dX9_part_37 (by decide) rfl
theorem dX9_part_40 : decode cX9_part 40 = .ok (.aload_n 0, 1) := by decide +kernel
theorem sX9_part_40 : ab_X rom K cX9_part 7 1 40 (.ref a :: ls) st hp = ab_X rom K cX9_part 7 1 41 (.ref a :: ls) (.ref a :: st) hp := ax_aload_n dX9_part_40 rfl rfl
theorem dX9_part_41 : decode cX9_part 41 = .ok (.iload_n 1, 1) := by decide +kernel
theorem sX9_part_41 : ab_X rom K cX9_part 7 1 41 (v0 :: .int x :: ls) st hp = ab_X rom K cX9_part 7 1 42 (v0 :: .int x :: ls) (.int x :: st) hp := ax_iload_n dX9_part_41 rfl rfl
theorem dX9_part_42 : decode cX9_part 42 = .ok (.iload 5, 2) := by decide +kernel
theorem sX9_part_42 : ab_X rom K cX9_part 7 1 42 (v0 :: v1 :: v2 :: v3 :: v4 :: .int x :: ls) st hp = ab_X rom K cX9_part 7 1 44 (v0 :: v1 :: v2 :: v3 :: v4 :: .int x :: ls) (.int x :: st) hp := ax_iload dX9_part_42 rfl rfl
theorem dX9_part_44 : decode cX9_part 44 = .ok (.invokevirtual 73, 3) := by decide +kernel
theorem sX9_part_44_0 : ab_X rom K cX9_part 7 1 44 ls [w2, w1, .ref a] hp = if ab_iso hp a 7 = true then (K 179 (.ref a :: [w1, w2]) hp).bind (fun o => ab_X rom K cX9_part 7 1 47 ls (o.1.toList ++ []) o.2) else none := ay_virtual (as := [w1, w2]) (st := []) dX9_part_44 kc_7_73 rfl rfl (Nat.le_of_ble_eq_true rfl)
theorem sX9_part_44_1 : ab_X rom K cX9_part 7 1 44 ls [w2, w1, .ref a, v0] hp = if ab_iso hp a 7 = true then (K 179 (.ref a :: [w1, w2]) hp).bind (fun o => ab_X rom K cX9_part 7 1 47 ls (o.1.toList ++ [v0]) o.2) else none := ay_virtual (as := [w1, w2]) (st := [v0]) dX9_part_44 kc_7_73 rfl rfl (Nat.le_of_ble_eq_true rfl)
theorem sX9_part_44_2 : ab_X rom K cX9_part 7 1 44 ls [w2, w1, .ref a, v0, v1] hp = if ab_iso hp a 7 = true then (K 179 (.ref a :: [w1, w2]) hp).bind (fun o => ab_X rom K cX9_part 7 1 47 ls (o.1.toList ++ [v0, v1]) o.2) else none := ay_virtual (as := [w1, w2]) (st := [v0, v1]) dX9_part_44 kc_7_73 rfl rfl (Nat.le_of_ble_eq_true rfl)
theorem sX9_part_44_3 : ab_X rom K cX9_part 7 1 44 ls [w2, w1, .ref a, v0, v1, v2] hp = if ab_iso hp a 7 = true then (K 179 (.ref a :: [w1, w2]) hp).bind (fun o => ab_X rom K cX9_part 7 1 47 ls (o.1.toList ++ [v0, v1, v2]) o.2) else none := ay_virtual (as := [w1, w2]) (st := [v0, v1, v2]) dX9_part_44 kc_7_73 rfl rfl (Nat.le_of_ble_eq_true rfl)
theorem dX9_part_47 : decode cX9_part 47 = .ok (.goto 4, 3) := by decide +kernel
theorem sX9_part_47 : ab_X rom K cX9_part 7 1 47 ls st hp = ab_X rom K cX9_part 7 1 51 ls st hp := ax_goto dX9_part_47 (by decide)
theorem dX9_part_50 : decode cX9_part 50 = .ok (.iconst 0, 1) := by decide +kernel
theorem sX9_part_50 : ab_X rom K cX9_part 7 1 50 ls st hp = ab_X rom K cX9_part 7 1 51 ls (.int 0 :: st) hp := ax_iconst dX9_part_50 (by decide) rfl
theorem dX9_part_51 : decode cX9_part 51 = .ok (.ior, 1) := by decide +kernel
theorem sX9_part_51 : ab_X rom K cX9_part 7 1 51 ls (.int y :: .int x :: st) hp = ab_X rom K cX9_part 7 1 52 ls (.int (x ||| y) :: st) hp := ax_ior dX9_part_51 rfl
theorem dX9_part_52 : decode cX9_part 52 = .ok (.istore_n 3, 1) := by decide +kernel
theorem sX9_part_52i : ab_X rom K cX9_part 7 1 52 (v0 :: v1 :: .int y :: v3 :: ls) (.int x :: st) hp = ab_X rom K cX9_part 7 1 53 (v0 :: v1 :: .int y :: .int x :: ls) st hp := ax_istore_n dX9_part_52 (ax_lt (v := v3) rfl) (ab_nl_c1 (j := 2) (v := .int y) rfl (ab_c1_int _)) rfl rfl
theorem sX9_part_52r : ab_X rom K cX9_part 7 1 52 (v0 :: v1 :: .ref a2 :: v3 :: ls) (.int x :: st) hp = ab_X rom K cX9_part 7 1 53 (v0 :: v1 :: .ref a2 :: .int x :: ls) st hp := ax_istore_n dX9_part_52 (ax_lt (v := v3) rfl) (ab_nl_c1 (j := 2) (v := .ref a2) rfl (ab_c1_ref _)) rfl rfl
theorem sX9_part_52n : ab_X rom K cX9_part 7 1 52 (v0 :: v1 :: .null :: v3 :: ls) (.int x :: st) hp = ab_X rom K cX9_part 7 1 53 (v0 :: v1 :: .null :: .int x :: ls) st hp := ax_istore_n dX9_part_52 (ax_lt (v := v3) rfl) (ab_nl_c1 (j := 2) (v := .null) rfl ab_c1_null) rfl rfl
theorem dX9_part_53 : decode cX9_part 53 = .ok (.iinc 5 1, 3) := by decide +kernel
theorem sX9_part_53i : ab_X rom K cX9_part 7 1 53 (v0 :: v1 :: v2 :: v3 :: .int y :: .int x :: ls) st hp = ab_X rom K cX9_part 7 1 56 (v0 :: v1 :: v2 :: v3 :: .int y :: .int (x + 1) :: ls) st hp := ax_iinc dX9_part_53 rfl (ab_nl_c1 (j := 4) (v := .int y) rfl (ab_c1_int _)) (by decide) rfl rfl
theorem sX9_part_53r : ab_X rom K cX9_part 7 1 53 (v0 :: v1 :: v2 :: v3 :: .ref a2 :: .int x :: ls) st hp = ab_X rom K cX9_part 7 1 56 (v0 :: v1 :: v2 :: v3 :: .ref a2 :: .int (x + 1) :: ls) st hp := ax_iinc dX9_part_53 rfl (ab_nl_c1 (j := 4) (v := .ref a2) rfl (ab_c1_ref _)) (by decide) rfl rfl
theorem sX9_part_53n : ab_X rom K cX9_part 7 1 53 (v0 :: v1 :: v2 :: v3 :: .null :: .int x :: ls) st hp = ab_X rom K cX9_part 7 1 56 (v0 :: v1 :: v2 :: v3 :: .null :: .int (x + 1) :: ls) st hp := ax_iinc dX9_part_53 rfl (ab_nl_c1 (j := 4) (v := .null) rfl ab_c1_null) (by decide) rfl rfl
theorem dX9_part_56 : decode cX9_part 56 = .ok (.goto (-37), 3) := by decide +kernel
theorem sX9_part_56 : ab_X rom K cX9_part 7 1 56 ls st hp = ab_X rom K cX9_part 7 1 19 ls st hp := ax_goto dX9_part_56 (by decide)
theorem dX9_part_59 : decode cX9_part 59 = .ok (.goto (-52), 3) := by decide +kernel
theorem sX9_part_59 : ab_X rom K cX9_part 7 1 59 ls st hp = ab_X rom K cX9_part 7 1 7 ls st hp := ax_goto dX9_part_59 (by decide)
theorem dX9_part_62 : decode cX9_part 62 = .ok (.iload_n 3, 1) := by decide +kernel
theorem sX9_part_62 : ab_X rom K cX9_part 7 1 62 (v0 :: v1 :: v2 :: .int x :: ls) st hp = ab_X rom K cX9_part 7 1 63 (v0 :: v1 :: v2 :: .int x :: ls) (.int x :: st) hp := ax_iload_n dX9_part_62 rfl rfl
theorem dX9_part_63 : decode cX9_part 63 = .ok (.ireturn, 1) := by decide +kernel
theorem sX9_part_63 : ab_X rom K cX9_part 7 1 63 ls [.int x] hp = some (some (.int x), hp) := ax_iret dX9_part_63 rfl
theorem tX9_parts : ab_mT[206]? = some (yX9_parts, cX9_parts, 5, 1, 7) := by decide +kernel
theorem mX9_parts {d : Nat} {a0 : Nat} {x0 : Int32} : ab_M rom (d + 1) 206 [.ref a0, .int x0] hp = ab_X rom (ab_M rom d) cX9_parts 7 1 0 [.ref a0, .int x0, .null, .null, .null] [] hp := ab_M_eq tX9_parts (Nat.le_of_ble_eq_true rfl)
theorem dX9_parts_0 : decode cX9_parts 0 = .ok (.iconst 0, 1) := by decide +kernel
theorem sX9_parts_0 : ab_X rom K cX9_parts 7 1 0 ls st hp = ab_X rom K cX9_parts 7 1 1 ls (.int 0 :: st) hp := ax_iconst dX9_parts_0 (by decide) rfl
theorem dX9_parts_1 : decode cX9_parts 1 = .ok (.istore_n 2, 1) := by decide +kernel
theorem sX9_parts_1i : ab_X rom K cX9_parts 7 1 1 (v0 :: .int y :: v2 :: ls) (.int x :: st) hp = ab_X rom K cX9_parts 7 1 2 (v0 :: .int y :: .int x :: ls) st hp := ax_istore_n dX9_parts_1 (ax_lt (v := v2) rfl) (ab_nl_c1 (j := 1) (v := .int y) rfl (ab_c1_int _)) rfl rfl
theorem sX9_parts_1r : ab_X rom K cX9_parts 7 1 1 (v0 :: .ref a2 :: v2 :: ls) (.int x :: st) hp = ab_X rom K cX9_parts 7 1 2 (v0 :: .ref a2 :: .int x :: ls) st hp := ax_istore_n dX9_parts_1 (ax_lt (v := v2) rfl) (ab_nl_c1 (j := 1) (v := .ref a2) rfl (ab_c1_ref _)) rfl rfl
theorem sX9_parts_1n : ab_X rom K cX9_parts 7 1 1 (v0 :: .null :: v2 :: ls) (.int x :: st) hp = ab_X rom K cX9_parts 7 1 2 (v0 :: .null :: .int x :: ls) st hp := ax_istore_n dX9_parts_1 (ax_lt (v := v2) rfl) (ab_nl_c1 (j := 1) (v := .null) rfl ab_c1_null) rfl rfl
theorem dX9_parts_2 : decode cX9_parts 2 = .ok (.iconst 0, 1) := by decide +kernel
theorem sX9_parts_2 : ab_X rom K cX9_parts 7 1 2 ls st hp = ab_X rom K cX9_parts 7 1 3 ls (.int 0 :: st) hp := ax_iconst dX9_parts_2 (by decide) rfl
theorem dX9_parts_3 : decode cX9_parts 3 = .ok (.istore_n 3, 1) := by decide +kernel
theorem sX9_parts_3i : ab_X rom K cX9_parts 7 1 3 (v0 :: v1 :: .int y :: v3 :: ls) (.int x :: st) hp = ab_X rom K cX9_parts 7 1 4 (v0 :: v1 :: .int y :: .int x :: ls) st hp := ax_istore_n dX9_parts_3 (ax_lt (v := v3) rfl) (ab_nl_c1 (j := 2) (v := .int y) rfl (ab_c1_int _)) rfl rfl
theorem sX9_parts_3r : ab_X rom K cX9_parts 7 1 3 (v0 :: v1 :: .ref a2 :: v3 :: ls) (.int x :: st) hp = ab_X rom K cX9_parts 7 1 4 (v0 :: v1 :: .ref a2 :: .int x :: ls) st hp := ax_istore_n dX9_parts_3 (ax_lt (v := v3) rfl) (ab_nl_c1 (j := 2) (v := .ref a2) rfl (ab_c1_ref _)) rfl rfl
theorem sX9_parts_3n : ab_X rom K cX9_parts 7 1 3 (v0 :: v1 :: .null :: v3 :: ls) (.int x :: st) hp = ab_X rom K cX9_parts 7 1 4 (v0 :: v1 :: .null :: .int x :: ls) st hp := ax_istore_n dX9_parts_3 (ax_lt (v := v3) rfl) (ab_nl_c1 (j := 2) (v := .null) rfl ab_c1_null) rfl rfl
theorem dX9_parts_4 : decode cX9_parts 4 = .ok (.iload_n 3, 1) := by decide +kernel
theorem sX9_parts_4 : ab_X rom K cX9_parts 7 1 4 (v0 :: v1 :: v2 :: .int x :: ls) st hp = ab_X rom K cX9_parts 7 1 5 (v0 :: v1 :: v2 :: .int x :: ls) (.int x :: st) hp := ax_iload_n dX9_parts_4 rfl rfl
theorem dX9_parts_5 : decode cX9_parts 5 = .ok (.aload_n 0, 1) := by decide +kernel
theorem sX9_parts_5 : ab_X rom K cX9_parts 7 1 5 (.ref a :: ls) st hp = ab_X rom K cX9_parts 7 1 6 (.ref a :: ls) (.ref a :: st) hp := ax_aload_n dX9_parts_5 rfl rfl
theorem dX9_parts_6 : decode cX9_parts 6 = .ok (.iload_n 1, 1) := by decide +kernel
theorem sX9_parts_6 : ab_X rom K cX9_parts 7 1 6 (v0 :: .int x :: ls) st hp = ab_X rom K cX9_parts 7 1 7 (v0 :: .int x :: ls) (.int x :: st) hp := ax_iload_n dX9_parts_6 rfl rfl
theorem dX9_parts_7 : decode cX9_parts 7 = .ok (.invokevirtual 64, 3) := by decide +kernel
theorem sX9_parts_7_0 : ab_X rom K cX9_parts 7 1 7 ls [w1, .ref a] hp = if ab_iso hp a 7 = true then (K 209 (.ref a :: [w1]) hp).bind (fun o => ab_X rom K cX9_parts 7 1 10 ls (o.1.toList ++ []) o.2) else none := ay_virtual (as := [w1]) (st := []) dX9_parts_7 kc_7_64 rfl rfl (Nat.le_of_ble_eq_true rfl)
theorem sX9_parts_7_1 : ab_X rom K cX9_parts 7 1 7 ls [w1, .ref a, v0] hp = if ab_iso hp a 7 = true then (K 209 (.ref a :: [w1]) hp).bind (fun o => ab_X rom K cX9_parts 7 1 10 ls (o.1.toList ++ [v0]) o.2) else none := ay_virtual (as := [w1]) (st := [v0]) dX9_parts_7 kc_7_64 rfl rfl (Nat.le_of_ble_eq_true rfl)
theorem sX9_parts_7_2 : ab_X rom K cX9_parts 7 1 7 ls [w1, .ref a, v0, v1] hp = if ab_iso hp a 7 = true then (K 209 (.ref a :: [w1]) hp).bind (fun o => ab_X rom K cX9_parts 7 1 10 ls (o.1.toList ++ [v0, v1]) o.2) else none := ay_virtual (as := [w1]) (st := [v0, v1]) dX9_parts_7 kc_7_64 rfl rfl (Nat.le_of_ble_eq_true rfl)
theorem sX9_parts_7_3 : ab_X rom K cX9_parts 7 1 7 ls [w1, .ref a, v0, v1, v2] hp = if ab_iso hp a 7 = true then (K 209 (.ref a :: [w1]) hp).bind (fun o => ab_X rom K cX9_parts 7 1 10 ls (o.1.toList ++ [v0, v1, v2]) o.2) else none := ay_virtual (as := [w1]) (st := [v0, v1, v2]) dX9_parts_7 kc_7_64 rfl rfl (Nat.le_of_ble_eq_true rfl)
theorem dX9_parts_10 : decode cX9_parts 10 = .ok (.if_icmp .ge 36, 3) := by decide +kernel
theorem sX9_parts_10 : ab_X rom K cX9_parts 7 1 10 ls (.int y :: .int x :: st) hp = if x < y then ab_X rom K cX9_parts 7 1 13 ls st hp else ab_X rom K cX9_parts 7 1 46 ls st hp := ax_icmp_ge dX9_parts_10 (by decide) rfl
theorem dX9_parts_13 : decode cX9_parts 13 = .ok (.aload_n 0, 1) := by decide +kernel
theorem sX9_parts_13 : ab_X rom K cX9_parts 7 1 13 (.ref a :: ls) st hp = ab_X rom K cX9_parts 7 1 14 (.ref a :: ls) (.ref a :: st) hp := ax_aload_n dX9_parts_13 rfl rfl
theorem dX9_parts_14 : decode cX9_parts 14 = .ok (.iload_n 1, 1) := by decide +kernel
theorem sX9_parts_14 : ab_X rom K cX9_parts 7 1 14 (v0 :: .int x :: ls) st hp = ab_X rom K cX9_parts 7 1 15 (v0 :: .int x :: ls) (.int x :: st) hp := ax_iload_n dX9_parts_14 rfl rfl
theorem dX9_parts_15 : decode cX9_parts 15 = .ok (.iload_n 3, 1) := by decide +kernel
theorem sX9_parts_15 : ab_X rom K cX9_parts 7 1 15 (v0 :: v1 :: v2 :: .int x :: ls) st hp = ab_X rom K cX9_parts 7 1 16 (v0 :: v1 :: v2 :: .int x :: ls) (.int x :: st) hp := ax_iload_n dX9_parts_15 rfl rfl
theorem dX9_parts_16 : decode cX9_parts 16 = .ok (.invokevirtual 191, 3) := by decide +kernel
theorem sX9_parts_16_0 : ab_X rom K cX9_parts 7 1 16 ls [w2, w1, .ref a] hp = if ab_iso hp a 7 = true then (K 205 (.ref a :: [w1, w2]) hp).bind (fun o => ab_X rom K cX9_parts 7 1 19 ls (o.1.toList ++ []) o.2) else none := ay_virtual (as := [w1, w2]) (st := []) dX9_parts_16 kc_7_191 rfl rfl (Nat.le_of_ble_eq_true rfl)
theorem sX9_parts_16_1 : ab_X rom K cX9_parts 7 1 16 ls [w2, w1, .ref a, v0] hp = if ab_iso hp a 7 = true then (K 205 (.ref a :: [w1, w2]) hp).bind (fun o => ab_X rom K cX9_parts 7 1 19 ls (o.1.toList ++ [v0]) o.2) else none := ay_virtual (as := [w1, w2]) (st := [v0]) dX9_parts_16 kc_7_191 rfl rfl (Nat.le_of_ble_eq_true rfl)
theorem sX9_parts_16_2 : ab_X rom K cX9_parts 7 1 16 ls [w2, w1, .ref a, v0, v1] hp = if ab_iso hp a 7 = true then (K 205 (.ref a :: [w1, w2]) hp).bind (fun o => ab_X rom K cX9_parts 7 1 19 ls (o.1.toList ++ [v0, v1]) o.2) else none := ay_virtual (as := [w1, w2]) (st := [v0, v1]) dX9_parts_16 kc_7_191 rfl rfl (Nat.le_of_ble_eq_true rfl)
theorem sX9_parts_16_3 : ab_X rom K cX9_parts 7 1 16 ls [w2, w1, .ref a, v0, v1, v2] hp = if ab_iso hp a 7 = true then (K 205 (.ref a :: [w1, w2]) hp).bind (fun o => ab_X rom K cX9_parts 7 1 19 ls (o.1.toList ++ [v0, v1, v2]) o.2) else none := ay_virtual (as := [w1, w2]) (st := [v0, v1, v2]) dX9_parts_16 kc_7_191 rfl rfl (Nat.le_of_ble_eq_true rfl)
theorem dX9_parts_19 : decode cX9_parts 19 = .ok (.istore 4, 2) := by decide +kernel
theorem sX9_parts_19i : ab_X rom K cX9_parts 7 1 19 (v0 :: v1 :: v2 :: .int y :: v4 :: ls) (.int x :: st) hp = ab_X rom K cX9_parts 7 1 21 (v0 :: v1 :: v2 :: .int y :: .int x :: ls) st hp := ax_istore dX9_parts_19 (ax_lt (v := v4) rfl) (ab_nl_c1 (j := 3) (v := .int y) rfl (ab_c1_int _)) rfl rfl
theorem sX9_parts_19r : ab_X rom K cX9_parts 7 1 19 (v0 :: v1 :: v2 :: .ref a2 :: v4 :: ls) (.int x :: st) hp = ab_X rom K cX9_parts 7 1 21 (v0 :: v1 :: v2 :: .ref a2 :: .int x :: ls) st hp := ax_istore dX9_parts_19 (ax_lt (v := v4) rfl) (ab_nl_c1 (j := 3) (v := .ref a2) rfl (ab_c1_ref _)) rfl rfl
theorem sX9_parts_19n : ab_X rom K cX9_parts 7 1 19 (v0 :: v1 :: v2 :: .null :: v4 :: ls) (.int x :: st) hp = ab_X rom K cX9_parts 7 1 21 (v0 :: v1 :: v2 :: .null :: .int x :: ls) st hp := ax_istore dX9_parts_19 (ax_lt (v := v4) rfl) (ab_nl_c1 (j := 3) (v := .null) rfl ab_c1_null) rfl rfl
theorem dX9_parts_21 : decode cX9_parts 21 = .ok (.iload_n 2, 1) := by decide +kernel
theorem sX9_parts_21 : ab_X rom K cX9_parts 7 1 21 (v0 :: v1 :: .int x :: ls) st hp = ab_X rom K cX9_parts 7 1 22 (v0 :: v1 :: .int x :: ls) (.int x :: st) hp := ax_iload_n dX9_parts_21 rfl rfl
theorem dX9_parts_22 : decode cX9_parts 22 = .ok (.iload 4, 2) := by decide +kernel
theorem sX9_parts_22 : ab_X rom K cX9_parts 7 1 22 (v0 :: v1 :: v2 :: v3 :: .int x :: ls) st hp = ab_X rom K cX9_parts 7 1 24 (v0 :: v1 :: v2 :: v3 :: .int x :: ls) (.int x :: st) hp := ax_iload dX9_parts_22 rfl rfl
theorem dX9_parts_24 : decode cX9_parts 24 = .ok (.iconst 1, 1) := by decide +kernel
theorem sX9_parts_24 : ab_X rom K cX9_parts 7 1 24 ls st hp = ab_X rom K cX9_parts 7 1 25 ls (.int 1 :: st) hp := ax_iconst dX9_parts_24 (by decide) rfl
theorem dX9_parts_25 : decode cX9_parts 25 = .ok (.iload_n 3, 1) := by decide +kernel
theorem sX9_parts_25 : ab_X rom K cX9_parts 7 1 25 (v0 :: v1 :: v2 :: .int x :: ls) st hp = ab_X rom K cX9_parts 7 1 26 (v0 :: v1 :: v2 :: .int x :: ls) (.int x :: st) hp := ax_iload_n dX9_parts_25 rfl rfl
theorem dX9_parts_26 : decode cX9_parts 26 = .ok (.ishl, 1) := by decide +kernel
theorem sX9_parts_26 : ab_X rom K cX9_parts 7 1 26 ls (.int y :: .int x :: st) hp = ab_X rom K cX9_parts 7 1 27 ls (.int (x <<< (y &&& 31)) :: st) hp := ax_ishl dX9_parts_26 rfl
theorem dX9_parts_27 : decode cX9_parts 27 = .ok (.iconst 1, 1) := by decide +kernel
theorem sX9_parts_27 : ab_X rom K cX9_parts 7 1 27 ls st hp = ab_X rom K cX9_parts 7 1 28 ls (.int 1 :: st) hp := ax_iconst dX9_parts_27 (by decide) rfl
theorem dX9_parts_28 : decode cX9_parts 28 = .ok (.isub, 1) := by decide +kernel
theorem sX9_parts_28 : ab_X rom K cX9_parts 7 1 28 ls (.int y :: .int x :: st) hp = ab_X rom K cX9_parts 7 1 29 ls (.int (x - y) :: st) hp := ax_isub dX9_parts_28 rfl
theorem dX9_parts_29 : decode cX9_parts 29 = .ok (.iand, 1) := by decide +kernel
theorem sX9_parts_29 : ab_X rom K cX9_parts 7 1 29 ls (.int y :: .int x :: st) hp = ab_X rom K cX9_parts 7 1 30 ls (.int (x &&& y) :: st) hp := ax_iand dX9_parts_29 rfl
theorem dX9_parts_30 : decode cX9_parts 30 = .ok (.ifCond .ne 7, 3) := by decide +kernel
theorem sX9_parts_30 : ab_X rom K cX9_parts 7 1 30 ls (.int x :: st) hp = if x = 0 then ab_X rom K cX9_parts 7 1 33 ls st hp else ab_X rom K cX9_parts 7 1 37 ls st hp := ax_if_ne dX9_parts_30 (by decide) rfl
theorem dX9_parts_33 : decode cX9_parts 33 = .ok (.iconst 1, 1) := by decide +kernel
theorem sX9_parts_33 : ab_X rom K cX9_parts 7 1 33 ls st hp = ab_X rom K cX9_parts 7 1 34 ls (.int 1 :: st) hp := ax_iconst dX9_parts_33 (by decide) rfl
theorem dX9_parts_34 : decode cX9_parts 34 = .ok (.goto 4, 3) := by decide +kernel
theorem sX9_parts_34 : ab_X rom K cX9_parts 7 1 34 ls st hp = ab_X rom K cX9_parts 7 1 38 ls st hp := ax_goto dX9_parts_34 (by decide)
theorem dX9_parts_37 : decode cX9_parts 37 = .ok (.iconst 0, 1) := by decide +kernel
theorem sX9_parts_37 : ab_X rom K cX9_parts 7 1 37 ls st hp = ab_X rom K cX9_parts 7 1 38 ls (.int 0 :: st) hp := ax_iconst dX9_parts_37 (by decide) rfl
theorem dX9_parts_38 : decode cX9_parts 38 = .ok (.iadd, 1) := by decide +kernel
theorem sX9_parts_38 : ab_X rom K cX9_parts 7 1 38 ls (.int y :: .int x :: st) hp = ab_X rom K cX9_parts 7 1 39 ls (.int (x + y) :: st) hp := ax_iadd dX9_parts_38 rfl
theorem dX9_parts_39 : decode cX9_parts 39 = .ok (.istore_n 2, 1) := by decide +kernel
theorem sX9_parts_39i : ab_X rom K cX9_parts 7 1 39 (v0 :: .int y :: v2 :: ls) (.int x :: st) hp = ab_X rom K cX9_parts 7 1 40 (v0 :: .int y :: .int x :: ls) st hp := ax_istore_n dX9_parts_39 (ax_lt (v := v2) rfl) (ab_nl_c1 (j := 1) (v := .int y) rfl (ab_c1_int _)) rfl rfl
theorem sX9_parts_39r : ab_X rom K cX9_parts 7 1 39 (v0 :: .ref a2 :: v2 :: ls) (.int x :: st) hp = ab_X rom K cX9_parts 7 1 40 (v0 :: .ref a2 :: .int x :: ls) st hp := ax_istore_n dX9_parts_39 (ax_lt (v := v2) rfl) (ab_nl_c1 (j := 1) (v := .ref a2) rfl (ab_c1_ref _)) rfl rfl
theorem sX9_parts_39n : ab_X rom K cX9_parts 7 1 39 (v0 :: .null :: v2 :: ls) (.int x :: st) hp = ab_X rom K cX9_parts 7 1 40 (v0 :: .null :: .int x :: ls) st hp := ax_istore_n dX9_parts_39 (ax_lt (v := v2) rfl) (ab_nl_c1 (j := 1) (v := .null) rfl ab_c1_null) rfl rfl
theorem dX9_parts_40 : decode cX9_parts 40 = .ok (.iinc 3 1, 3) := by decide +kernel
theorem sX9_parts_40i : ab_X rom K cX9_parts 7 1 40 (v0 :: v1 :: .int y :: .int x :: ls) st hp = ab_X rom K cX9_parts 7 1 43 (v0 :: v1 :: .int y :: .int (x + 1) :: ls) st hp := ax_iinc dX9_parts_40 rfl (ab_nl_c1 (j := 2) (v := .int y) rfl (ab_c1_int _)) (by decide) rfl rfl
theorem sX9_parts_40r : ab_X rom K cX9_parts 7 1 40 (v0 :: v1 :: .ref a2 :: .int x :: ls) st hp = ab_X rom K cX9_parts 7 1 43 (v0 :: v1 :: .ref a2 :: .int (x + 1) :: ls) st hp := ax_iinc dX9_parts_40 rfl (ab_nl_c1 (j := 2) (v := .ref a2) rfl (ab_c1_ref _)) (by decide) rfl rfl
theorem sX9_parts_40n : ab_X rom K cX9_parts 7 1 40 (v0 :: v1 :: .null :: .int x :: ls) st hp = ab_X rom K cX9_parts 7 1 43 (v0 :: v1 :: .null :: .int (x + 1) :: ls) st hp := ax_iinc dX9_parts_40 rfl (ab_nl_c1 (j := 2) (v := .null) rfl ab_c1_null) (by decide) rfl rfl
theorem dX9_parts_43 : decode cX9_parts 43 = .ok (.goto (-39), 3) := by decide +kernel
theorem sX9_parts_43 : ab_X rom K cX9_parts 7 1 43 ls st hp = ab_X rom K cX9_parts 7 1 4 ls st hp := ax_goto dX9_parts_43 (by decide)
theorem dX9_parts_46 : decode cX9_parts 46 = .ok (.iload_n 2, 1) := by decide +kernel
theorem sX9_parts_46 : ab_X rom K cX9_parts 7 1 46 (v0 :: v1 :: .int x :: ls) st hp = ab_X rom K cX9_parts 7 1 47 (v0 :: v1 :: .int x :: ls) (.int x :: st) hp := ax_iload_n dX9_parts_46 rfl rfl
theorem dX9_parts_47 : decode cX9_parts 47 = .ok (.ireturn, 1) := by decide +kernel
theorem sX9_parts_47 : ab_X rom K cX9_parts 7 1 47 ls [.int x] hp = some (some (.int x), hp) := ax_iret dX9_parts_47 rfl
theorem tX9_passes : ab_mT[207]? = some (yX9_passes, cX9_passes, 1, 0, 7) := by decide +kernel
theorem mX9_passes {d : Nat} {a0 : Nat} : ab_M rom (d + 1) 207 [.ref a0] hp = ab_X rom (ab_M rom d) cX9_passes 7 0 0 [.ref a0] [] hp := ab_M_eq tX9_passes (Nat.le_of_ble_eq_true rfl)
theorem dX9_passes_0 : decode cX9_passes 0 = .ok (.aload_n 0, 1) := by decide +kernel
theorem sX9_passes_0 : ab_X rom K cX9_passes 7 0 0 (.ref a :: ls) st hp = ab_X rom K cX9_passes 7 0 1 (.ref a :: ls) (.ref a :: st) hp := ax_aload_n dX9_passes_0 rfl rfl
theorem dX9_passes_1 : decode cX9_passes 1 = .ok (.getfield 120, 3) := by decide +kernel
theorem sX9_passes_1 : ab_X rom K cX9_passes 7 0 1 ls (.ref a :: st) hp = (ab_fld hp a 7 12).bind (fun v => ab_X rom K cX9_passes 7 0 4 ls (v :: st) hp) := ax_getfield dX9_passes_1 kf_7_120 rfl
theorem dX9_passes_4 : decode cX9_passes 4 = .ok (.ifCond .ne 7, 3) := by decide +kernel
theorem sX9_passes_4 : ab_X rom K cX9_passes 7 0 4 ls (.int x :: st) hp = if x = 0 then ab_X rom K cX9_passes 7 0 7 ls st hp else ab_X rom K cX9_passes 7 0 11 ls st hp := ax_if_ne dX9_passes_4 (by decide) rfl
theorem dX9_passes_7 : decode cX9_passes 7 = .ok (.aload_n 0, 1) := by decide +kernel
theorem sX9_passes_7 : ab_X rom K cX9_passes 7 0 7 (.ref a :: ls) st hp = ab_X rom K cX9_passes 7 0 8 (.ref a :: ls) (.ref a :: st) hp := ax_aload_n dX9_passes_7 rfl rfl
theorem dX9_passes_8 : decode cX9_passes 8 = .ok (.invokevirtual 127, 3) := by decide +kernel
theorem sX9_passes_8_0 : ab_X rom K cX9_passes 7 0 8 ls [.ref a] hp = if ab_iso hp a 7 = true then (K 202 (.ref a :: []) hp).bind (fun o => ab_X rom K cX9_passes 7 0 11 ls (o.1.toList ++ []) o.2) else none := ay_virtual (as := []) (st := []) dX9_passes_8 kc_7_127 rfl rfl (Nat.le_of_ble_eq_true rfl)
theorem sX9_passes_8_1 : ab_X rom K cX9_passes 7 0 8 ls [.ref a, v0] hp = if ab_iso hp a 7 = true then (K 202 (.ref a :: []) hp).bind (fun o => ab_X rom K cX9_passes 7 0 11 ls (o.1.toList ++ [v0]) o.2) else none := ay_virtual (as := []) (st := [v0]) dX9_passes_8 kc_7_127 rfl rfl (Nat.le_of_ble_eq_true rfl)
theorem sX9_passes_8_2 : ab_X rom K cX9_passes 7 0 8 ls [.ref a, v0, v1] hp = if ab_iso hp a 7 = true then (K 202 (.ref a :: []) hp).bind (fun o => ab_X rom K cX9_passes 7 0 11 ls (o.1.toList ++ [v0, v1]) o.2) else none := ay_virtual (as := []) (st := [v0, v1]) dX9_passes_8 kc_7_127 rfl rfl (Nat.le_of_ble_eq_true rfl)
theorem sX9_passes_8_3 : ab_X rom K cX9_passes 7 0 8 ls [.ref a, v0, v1, v2] hp = if ab_iso hp a 7 = true then (K 202 (.ref a :: []) hp).bind (fun o => ab_X rom K cX9_passes 7 0 11 ls (o.1.toList ++ [v0, v1, v2]) o.2) else none := ay_virtual (as := []) (st := [v0, v1, v2]) dX9_passes_8 kc_7_127 rfl rfl (Nat.le_of_ble_eq_true rfl)
theorem dX9_passes_11 : decode cX9_passes 11 = .ok (.return_, 1) := by decide +kernel
theorem sX9_passes_11 : ab_X rom K cX9_passes 7 0 11 ls [] hp = some (none, hp) := ax_vret dX9_passes_11 (by decide)
theorem tX9_placed : ab_mT[208]? = some (yX9_placed, cX9_placed, 5, 1, 7) := by decide +kernel
theorem mX9_placed {d : Nat} {a0 : Nat} {x0 : Int32} {x1 : Int32} {x2 : Int32} {x3 : Int32} : ab_M rom (d + 1) 208 [.ref a0, .int x0, .int x1, .int x2, .int x3] hp = ab_X rom (ab_M rom d) cX9_placed 7 1 0 [.ref a0, .int x0, .int x1, .int x2, .int x3] [] hp := ab_M_eq tX9_placed (Nat.le_of_ble_eq_true rfl)
theorem dX9_placed_0 : decode cX9_placed 0 = .ok (.iload_n 2, 1) := by decide +kernel
theorem sX9_placed_0 : ab_X rom K cX9_placed 7 1 0 (v0 :: v1 :: .int x :: ls) st hp = ab_X rom K cX9_placed 7 1 1 (v0 :: v1 :: .int x :: ls) (.int x :: st) hp := ax_iload_n dX9_placed_0 rfl rfl
theorem dX9_placed_1 : decode cX9_placed 1 = .ok (.iload_n 3, 1) := by decide +kernel
theorem sX9_placed_1 : ab_X rom K cX9_placed 7 1 1 (v0 :: v1 :: v2 :: .int x :: ls) st hp = ab_X rom K cX9_placed 7 1 2 (v0 :: v1 :: v2 :: .int x :: ls) (.int x :: st) hp := ax_iload_n dX9_placed_1 rfl rfl
theorem dX9_placed_2 : decode cX9_placed 2 = .ok (.if_icmp .ne 8, 3) := by decide +kernel
theorem sX9_placed_2 : ab_X rom K cX9_placed 7 1 2 ls (.int y :: .int x :: st) hp = if x = y then ab_X rom K cX9_placed 7 1 5 ls st hp else ab_X rom K cX9_placed 7 1 10 ls st hp := ax_icmp_ne dX9_placed_2 (by decide) rfl
theorem dX9_placed_5 : decode cX9_placed 5 = .ok (.iload 4, 2) := by decide +kernel
theorem sX9_placed_5 : ab_X rom K cX9_placed 7 1 5 (v0 :: v1 :: v2 :: v3 :: .int x :: ls) st hp = ab_X rom K cX9_placed 7 1 7 (v0 :: v1 :: v2 :: v3 :: .int x :: ls) (.int x :: st) hp := ax_iload dX9_placed_5 rfl rfl
theorem dX9_placed_7 : decode cX9_placed 7 = .ok (.goto 21, 3) := by decide +kernel
theorem sX9_placed_7 : ab_X rom K cX9_placed 7 1 7 ls st hp = ab_X rom K cX9_placed 7 1 28 ls st hp := ax_goto dX9_placed_7 (by decide)
theorem dX9_placed_10 : decode cX9_placed 10 = .ok (.aload_n 0, 1) := by decide +kernel
theorem sX9_placed_10 : ab_X rom K cX9_placed 7 1 10 (.ref a :: ls) st hp = ab_X rom K cX9_placed 7 1 11 (.ref a :: ls) (.ref a :: st) hp := ax_aload_n dX9_placed_10 rfl rfl
theorem dX9_placed_11 : decode cX9_placed 11 = .ok (.iload_n 1, 1) := by decide +kernel
theorem sX9_placed_11 : ab_X rom K cX9_placed 7 1 11 (v0 :: .int x :: ls) st hp = ab_X rom K cX9_placed 7 1 12 (v0 :: .int x :: ls) (.int x :: st) hp := ax_iload_n dX9_placed_11 rfl rfl
theorem dX9_placed_12 : decode cX9_placed 12 = .ok (.invokevirtual 64, 3) := by decide +kernel
theorem sX9_placed_12_0 : ab_X rom K cX9_placed 7 1 12 ls [w1, .ref a] hp = if ab_iso hp a 7 = true then (K 209 (.ref a :: [w1]) hp).bind (fun o => ab_X rom K cX9_placed 7 1 15 ls (o.1.toList ++ []) o.2) else none := ay_virtual (as := [w1]) (st := []) dX9_placed_12 kc_7_64 rfl rfl (Nat.le_of_ble_eq_true rfl)
theorem sX9_placed_12_1 : ab_X rom K cX9_placed 7 1 12 ls [w1, .ref a, v0] hp = if ab_iso hp a 7 = true then (K 209 (.ref a :: [w1]) hp).bind (fun o => ab_X rom K cX9_placed 7 1 15 ls (o.1.toList ++ [v0]) o.2) else none := ay_virtual (as := [w1]) (st := [v0]) dX9_placed_12 kc_7_64 rfl rfl (Nat.le_of_ble_eq_true rfl)
theorem sX9_placed_12_2 : ab_X rom K cX9_placed 7 1 12 ls [w1, .ref a, v0, v1] hp = if ab_iso hp a 7 = true then (K 209 (.ref a :: [w1]) hp).bind (fun o => ab_X rom K cX9_placed 7 1 15 ls (o.1.toList ++ [v0, v1]) o.2) else none := ay_virtual (as := [w1]) (st := [v0, v1]) dX9_placed_12 kc_7_64 rfl rfl (Nat.le_of_ble_eq_true rfl)
theorem sX9_placed_12_3 : ab_X rom K cX9_placed 7 1 12 ls [w1, .ref a, v0, v1, v2] hp = if ab_iso hp a 7 = true then (K 209 (.ref a :: [w1]) hp).bind (fun o => ab_X rom K cX9_placed 7 1 15 ls (o.1.toList ++ [v0, v1, v2]) o.2) else none := ay_virtual (as := [w1]) (st := [v0, v1, v2]) dX9_placed_12 kc_7_64 rfl rfl (Nat.le_of_ble_eq_true rfl)
theorem dX9_placed_15 : decode cX9_placed 15 = .ok (.iload_n 2, 1) := by decide +kernel
theorem sX9_placed_15 : ab_X rom K cX9_placed 7 1 15 (v0 :: v1 :: .int x :: ls) st hp = ab_X rom K cX9_placed 7 1 16 (v0 :: v1 :: .int x :: ls) (.int x :: st) hp := ax_iload_n dX9_placed_15 rfl rfl
theorem dX9_placed_16 : decode cX9_placed 16 = .ok (.iadd, 1) := by decide +kernel
theorem sX9_placed_16 : ab_X rom K cX9_placed 7 1 16 ls (.int y :: .int x :: st) hp = ab_X rom K cX9_placed 7 1 17 ls (.int (x + y) :: st) hp := ax_iadd dX9_placed_16 rfl
theorem dX9_placed_17 : decode cX9_placed 17 = .ok (.iload_n 2, 1) := by decide +kernel
theorem sX9_placed_17 : ab_X rom K cX9_placed 7 1 17 (v0 :: v1 :: .int x :: ls) st hp = ab_X rom K cX9_placed 7 1 18 (v0 :: v1 :: .int x :: ls) (.int x :: st) hp := ax_iload_n dX9_placed_17 rfl rfl
theorem dX9_placed_18 : decode cX9_placed 18 = .ok (.iload_n 3, 1) := by decide +kernel
theorem sX9_placed_18 : ab_X rom K cX9_placed 7 1 18 (v0 :: v1 :: v2 :: .int x :: ls) st hp = ab_X rom K cX9_placed 7 1 19 (v0 :: v1 :: v2 :: .int x :: ls) (.int x :: st) hp := ax_iload_n dX9_placed_18 rfl rfl
theorem dX9_placed_19 : decode cX9_placed 19 = .ok (.if_icmp .le 7, 3) := by decide +kernel
theorem sX9_placed_19 : ab_X rom K cX9_placed 7 1 19 ls (.int y :: .int x :: st) hp = if y < x then ab_X rom K cX9_placed 7 1 22 ls st hp else ab_X rom K cX9_placed 7 1 26 ls st hp := ax_icmp_le dX9_placed_19 (by decide) rfl
theorem dX9_placed_22 : decode cX9_placed 22 = .ok (.iconst 1, 1) := by decide +kernel
theorem sX9_placed_22 : ab_X rom K cX9_placed 7 1 22 ls st hp = ab_X rom K cX9_placed 7 1 23 ls (.int 1 :: st) hp := ax_iconst dX9_placed_22 (by decide) rfl
theorem dX9_placed_23 : decode cX9_placed 23 = .ok (.goto 4, 3) := by decide +kernel
theorem sX9_placed_23 : ab_X rom K cX9_placed 7 1 23 ls st hp = ab_X rom K cX9_placed 7 1 27 ls st hp := ax_goto dX9_placed_23 (by decide)
theorem dX9_placed_26 : decode cX9_placed 26 = .ok (.iconst 0, 1) := by decide +kernel
theorem sX9_placed_26 : ab_X rom K cX9_placed 7 1 26 ls st hp = ab_X rom K cX9_placed 7 1 27 ls (.int 0 :: st) hp := ax_iconst dX9_placed_26 (by decide) rfl
theorem dX9_placed_27 : decode cX9_placed 27 = .ok (.isub, 1) := by decide +kernel
theorem sX9_placed_27 : ab_X rom K cX9_placed 7 1 27 ls (.int y :: .int x :: st) hp = ab_X rom K cX9_placed 7 1 28 ls (.int (x - y) :: st) hp := ax_isub dX9_placed_27 rfl
theorem dX9_placed_28 : decode cX9_placed 28 = .ok (.ireturn, 1) := by decide +kernel
theorem sX9_placed_28 : ab_X rom K cX9_placed 7 1 28 ls [.int x] hp = some (some (.int x), hp) := ax_iret dX9_placed_28 rfl
theorem tX9_points : ab_mT[209]? = some (yX9_points, cX9_points, 2, 1, 7) := by decide +kernel
theorem mX9_points {d : Nat} {a0 : Nat} {x0 : Int32} : ab_M rom (d + 1) 209 [.ref a0, .int x0] hp = ab_X rom (ab_M rom d) cX9_points 7 1 0 [.ref a0, .int x0] [] hp := ab_M_eq tX9_points (Nat.le_of_ble_eq_true rfl)
theorem dX9_points_0 : decode cX9_points 0 = .ok (.aload_n 0, 1) := by decide +kernel
theorem sX9_points_0 : ab_X rom K cX9_points 7 1 0 (.ref a :: ls) st hp = ab_X rom K cX9_points 7 1 1 (.ref a :: ls) (.ref a :: st) hp := ax_aload_n dX9_points_0 rfl rfl
theorem dX9_points_1 : decode cX9_points 1 = .ok (.getfield 7, 3) := by decide +kernel
theorem sX9_points_1 : ab_X rom K cX9_points 7 1 1 ls (.ref a :: st) hp = (ab_fld hp a 7 0).bind (fun v => ab_X rom K cX9_points 7 1 4 ls (v :: st) hp) := ax_getfield dX9_points_1 kf_7_7 rfl
theorem dX9_points_4 : decode cX9_points 4 = .ok (.bipush 15, 2) := by decide +kernel
theorem sX9_points_4 : ab_X rom K cX9_points 7 1 4 ls st hp = ab_X rom K cX9_points 7 1 6 ls (.int 15 :: st) hp := ax_bipush dX9_points_4 (by decide) rfl
theorem dX9_points_6 : decode cX9_points 6 = .ok (.iload_n 1, 1) := by decide +kernel
theorem sX9_points_6 : ab_X rom K cX9_points 7 1 6 (v0 :: .int x :: ls) st hp = ab_X rom K cX9_points 7 1 7 (v0 :: .int x :: ls) (.int x :: st) hp := ax_iload_n dX9_points_6 rfl rfl
theorem dX9_points_7 : decode cX9_points 7 = .ok (.imul, 1) := by decide +kernel
theorem sX9_points_7 : ab_X rom K cX9_points 7 1 7 ls (.int y :: .int x :: st) hp = ab_X rom K cX9_points 7 1 8 ls (.int (x * y) :: st) hp := ax_imul dX9_points_7 rfl
theorem dX9_points_8 : decode cX9_points 8 = .ok (.iaload, 1) := by decide +kernel
theorem sX9_points_8 : ab_X rom K cX9_points 7 1 8 ls (.int x :: .ref a :: st) hp = (ab_ard rom 0 hp a x).bind (fun v => ab_X rom K cX9_points 7 1 9 ls (.int v :: st) hp) := ax_iaload dX9_points_8 rfl
theorem dX9_points_9 : decode cX9_points 9 = .ok (.ireturn, 1) := by decide +kernel
theorem sX9_points_9 : ab_X rom K cX9_points 7 1 9 ls [.int x] hp = some (some (.int x), hp) := ax_iret dX9_points_9 rfl
theorem tX9_powerBeyond : ab_mT[210]? = some (yX9_powerBeyond, cX9_powerBeyond, 5, 1, 7) := by decide +kernel
theorem mX9_powerBeyond {d : Nat} {a0 : Nat} {x0 : Int32} : ab_M rom (d + 1) 210 [.ref a0, .int x0] hp = ab_X rom (ab_M rom d) cX9_powerBeyond 7 1 0 [.ref a0, .int x0, .null, .null, .null] [] hp := ab_M_eq tX9_powerBeyond (Nat.le_of_ble_eq_true rfl)
theorem dX9_powerBeyond_0 : decode cX9_powerBeyond 0 = .ok (.iconst 1, 1) := by decide +kernel
theorem sX9_powerBeyond_0 : ab_X rom K cX9_powerBeyond 7 1 0 ls st hp = ab_X rom K cX9_powerBeyond 7 1 1 ls (.int 1 :: st) hp := ax_iconst dX9_powerBeyond_0 (by decide) rfl
theorem dX9_powerBeyond_1 : decode cX9_powerBeyond 1 = .ok (.istore_n 2, 1) := by decide +kernel
theorem sX9_powerBeyond_1i : ab_X rom K cX9_powerBeyond 7 1 1 (v0 :: .int y :: v2 :: ls) (.int x :: st) hp = ab_X rom K cX9_powerBeyond 7 1 2 (v0 :: .int y :: .int x :: ls) st hp := ax_istore_n dX9_powerBeyond_1 (ax_lt (v := v2) rfl) (ab_nl_c1 (j := 1) (v := .int y) rfl (ab_c1_int _)) rfl rfl
theorem sX9_powerBeyond_1r : ab_X rom K cX9_powerBeyond 7 1 1 (v0 :: .ref a2 :: v2 :: ls) (.int x :: st) hp = ab_X rom K cX9_powerBeyond 7 1 2 (v0 :: .ref a2 :: .int x :: ls) st hp := ax_istore_n dX9_powerBeyond_1 (ax_lt (v := v2) rfl) (ab_nl_c1 (j := 1) (v := .ref a2) rfl (ab_c1_ref _)) rfl rfl
theorem sX9_powerBeyond_1n : ab_X rom K cX9_powerBeyond 7 1 1 (v0 :: .null :: v2 :: ls) (.int x :: st) hp = ab_X rom K cX9_powerBeyond 7 1 2 (v0 :: .null :: .int x :: ls) st hp := ax_istore_n dX9_powerBeyond_1 (ax_lt (v := v2) rfl) (ab_nl_c1 (j := 1) (v := .null) rfl ab_c1_null) rfl rfl
theorem dX9_powerBeyond_2 : decode cX9_powerBeyond 2 = .ok (.iconst 1, 1) := by decide +kernel
theorem sX9_powerBeyond_2 : ab_X rom K cX9_powerBeyond 7 1 2 ls st hp = ab_X rom K cX9_powerBeyond 7 1 3 ls (.int 1 :: st) hp := ax_iconst dX9_powerBeyond_2 (by decide) rfl
theorem dX9_powerBeyond_3 : decode cX9_powerBeyond 3 = .ok (.istore_n 3, 1) := by decide +kernel
theorem sX9_powerBeyond_3i : ab_X rom K cX9_powerBeyond 7 1 3 (v0 :: v1 :: .int y :: v3 :: ls) (.int x :: st) hp = ab_X rom K cX9_powerBeyond 7 1 4 (v0 :: v1 :: .int y :: .int x :: ls) st hp := ax_istore_n dX9_powerBeyond_3 (ax_lt (v := v3) rfl) (ab_nl_c1 (j := 2) (v := .int y) rfl (ab_c1_int _)) rfl rfl
theorem sX9_powerBeyond_3r : ab_X rom K cX9_powerBeyond 7 1 3 (v0 :: v1 :: .ref a2 :: v3 :: ls) (.int x :: st) hp = ab_X rom K cX9_powerBeyond 7 1 4 (v0 :: v1 :: .ref a2 :: .int x :: ls) st hp := ax_istore_n dX9_powerBeyond_3 (ax_lt (v := v3) rfl) (ab_nl_c1 (j := 2) (v := .ref a2) rfl (ab_c1_ref _)) rfl rfl
theorem sX9_powerBeyond_3n : ab_X rom K cX9_powerBeyond 7 1 3 (v0 :: v1 :: .null :: v3 :: ls) (.int x :: st) hp = ab_X rom K cX9_powerBeyond 7 1 4 (v0 :: v1 :: .null :: .int x :: ls) st hp := ax_istore_n dX9_powerBeyond_3 (ax_lt (v := v3) rfl) (ab_nl_c1 (j := 2) (v := .null) rfl ab_c1_null) rfl rfl
theorem dX9_powerBeyond_4 : decode cX9_powerBeyond 4 = .ok (.iload_n 3, 1) := by decide +kernel
theorem sX9_powerBeyond_4 : ab_X rom K cX9_powerBeyond 7 1 4 (v0 :: v1 :: v2 :: .int x :: ls) st hp = ab_X rom K cX9_powerBeyond 7 1 5 (v0 :: v1 :: v2 :: .int x :: ls) (.int x :: st) hp := ax_iload_n dX9_powerBeyond_4 rfl rfl
theorem dX9_powerBeyond_5 : decode cX9_powerBeyond 5 = .ok (.ifCond .eq 54, 3) := by decide +kernel
theorem sX9_powerBeyond_5 : ab_X rom K cX9_powerBeyond 7 1 5 ls (.int x :: st) hp = if x = 0 then ab_X rom K cX9_powerBeyond 7 1 59 ls st hp else ab_X rom K cX9_powerBeyond 7 1 8 ls st hp := ax_if_eq dX9_powerBeyond_5 (by decide) rfl
theorem dX9_powerBeyond_8 : decode cX9_powerBeyond 8 = .ok (.iload_n 2, 1) := by decide +kernel
theorem sX9_powerBeyond_8 : ab_X rom K cX9_powerBeyond 7 1 8 (v0 :: v1 :: .int x :: ls) st hp = ab_X rom K cX9_powerBeyond 7 1 9 (v0 :: v1 :: .int x :: ls) (.int x :: st) hp := ax_iload_n dX9_powerBeyond_8 rfl rfl
theorem dX9_powerBeyond_9 : decode cX9_powerBeyond 9 = .ok (.iconst 2, 1) := by decide +kernel
theorem sX9_powerBeyond_9 : ab_X rom K cX9_powerBeyond 7 1 9 ls st hp = ab_X rom K cX9_powerBeyond 7 1 10 ls (.int 2 :: st) hp := ax_iconst dX9_powerBeyond_9 (by decide) rfl
theorem dX9_powerBeyond_10 : decode cX9_powerBeyond 10 = .ok (.imul, 1) := by decide +kernel
theorem sX9_powerBeyond_10 : ab_X rom K cX9_powerBeyond 7 1 10 ls (.int y :: .int x :: st) hp = ab_X rom K cX9_powerBeyond 7 1 11 ls (.int (x * y) :: st) hp := ax_imul dX9_powerBeyond_10 rfl
theorem dX9_powerBeyond_11 : decode cX9_powerBeyond 11 = .ok (.istore_n 2, 1) := by decide +kernel
theorem sX9_powerBeyond_11i : ab_X rom K cX9_powerBeyond 7 1 11 (v0 :: .int y :: v2 :: ls) (.int x :: st) hp = ab_X rom K cX9_powerBeyond 7 1 12 (v0 :: .int y :: .int x :: ls) st hp := ax_istore_n dX9_powerBeyond_11 (ax_lt (v := v2) rfl) (ab_nl_c1 (j := 1) (v := .int y) rfl (ab_c1_int _)) rfl rfl
theorem sX9_powerBeyond_11r : ab_X rom K cX9_powerBeyond 7 1 11 (v0 :: .ref a2 :: v2 :: ls) (.int x :: st) hp = ab_X rom K cX9_powerBeyond 7 1 12 (v0 :: .ref a2 :: .int x :: ls) st hp := ax_istore_n dX9_powerBeyond_11 (ax_lt (v := v2) rfl) (ab_nl_c1 (j := 1) (v := .ref a2) rfl (ab_c1_ref _)) rfl rfl
theorem sX9_powerBeyond_11n : ab_X rom K cX9_powerBeyond 7 1 11 (v0 :: .null :: v2 :: ls) (.int x :: st) hp = ab_X rom K cX9_powerBeyond 7 1 12 (v0 :: .null :: .int x :: ls) st hp := ax_istore_n dX9_powerBeyond_11 (ax_lt (v := v2) rfl) (ab_nl_c1 (j := 1) (v := .null) rfl ab_c1_null) rfl rfl
theorem dX9_powerBeyond_12 : decode cX9_powerBeyond 12 = .ok (.iconst 0, 1) := by decide +kernel
theorem sX9_powerBeyond_12 : ab_X rom K cX9_powerBeyond 7 1 12 ls st hp = ab_X rom K cX9_powerBeyond 7 1 13 ls (.int 0 :: st) hp := ax_iconst dX9_powerBeyond_12 (by decide) rfl
theorem dX9_powerBeyond_13 : decode cX9_powerBeyond 13 = .ok (.istore 4, 2) := by decide +kernel
theorem sX9_powerBeyond_13i : ab_X rom K cX9_powerBeyond 7 1 13 (v0 :: v1 :: v2 :: .int y :: v4 :: ls) (.int x :: st) hp = ab_X rom K cX9_powerBeyond 7 1 15 (v0 :: v1 :: v2 :: .int y :: .int x :: ls) st hp := ax_istore dX9_powerBeyond_13 (ax_lt (v := v4) rfl) (ab_nl_c1 (j := 3) (v := .int y) rfl (ab_c1_int _)) rfl rfl
theorem sX9_powerBeyond_13r : ab_X rom K cX9_powerBeyond 7 1 13 (v0 :: v1 :: v2 :: .ref a2 :: v4 :: ls) (.int x :: st) hp = ab_X rom K cX9_powerBeyond 7 1 15 (v0 :: v1 :: v2 :: .ref a2 :: .int x :: ls) st hp := ax_istore dX9_powerBeyond_13 (ax_lt (v := v4) rfl) (ab_nl_c1 (j := 3) (v := .ref a2) rfl (ab_c1_ref _)) rfl rfl
theorem sX9_powerBeyond_13n : ab_X rom K cX9_powerBeyond 7 1 13 (v0 :: v1 :: v2 :: .null :: v4 :: ls) (.int x :: st) hp = ab_X rom K cX9_powerBeyond 7 1 15 (v0 :: v1 :: v2 :: .null :: .int x :: ls) st hp := ax_istore dX9_powerBeyond_13 (ax_lt (v := v4) rfl) (ab_nl_c1 (j := 3) (v := .null) rfl ab_c1_null) rfl rfl
theorem dX9_powerBeyond_15 : decode cX9_powerBeyond 15 = .ok (.iload 4, 2) := by decide +kernel
theorem sX9_powerBeyond_15 : ab_X rom K cX9_powerBeyond 7 1 15 (v0 :: v1 :: v2 :: v3 :: .int x :: ls) st hp = ab_X rom K cX9_powerBeyond 7 1 17 (v0 :: v1 :: v2 :: v3 :: .int x :: ls) (.int x :: st) hp := ax_iload dX9_powerBeyond_15 rfl rfl
theorem dX9_powerBeyond_17 : decode cX9_powerBeyond 17 = .ok (.aload_n 0, 1) := by decide +kernel
theorem sX9_powerBeyond_17 : ab_X rom K cX9_powerBeyond 7 1 17 (.ref a :: ls) st hp = ab_X rom K cX9_powerBeyond 7 1 18 (.ref a :: ls) (.ref a :: st) hp := ax_aload_n dX9_powerBeyond_17 rfl rfl
theorem dX9_powerBeyond_18 : decode cX9_powerBeyond 18 = .ok (.iload_n 1, 1) := by decide +kernel
theorem sX9_powerBeyond_18 : ab_X rom K cX9_powerBeyond 7 1 18 (v0 :: .int x :: ls) st hp = ab_X rom K cX9_powerBeyond 7 1 19 (v0 :: .int x :: ls) (.int x :: st) hp := ax_iload_n dX9_powerBeyond_18 rfl rfl
theorem dX9_powerBeyond_19 : decode cX9_powerBeyond 19 = .ok (.invokevirtual 64, 3) := by decide +kernel
theorem sX9_powerBeyond_19_0 : ab_X rom K cX9_powerBeyond 7 1 19 ls [w1, .ref a] hp = if ab_iso hp a 7 = true then (K 209 (.ref a :: [w1]) hp).bind (fun o => ab_X rom K cX9_powerBeyond 7 1 22 ls (o.1.toList ++ []) o.2) else none := ay_virtual (as := [w1]) (st := []) dX9_powerBeyond_19 kc_7_64 rfl rfl (Nat.le_of_ble_eq_true rfl)
theorem sX9_powerBeyond_19_1 : ab_X rom K cX9_powerBeyond 7 1 19 ls [w1, .ref a, v0] hp = if ab_iso hp a 7 = true then (K 209 (.ref a :: [w1]) hp).bind (fun o => ab_X rom K cX9_powerBeyond 7 1 22 ls (o.1.toList ++ [v0]) o.2) else none := ay_virtual (as := [w1]) (st := [v0]) dX9_powerBeyond_19 kc_7_64 rfl rfl (Nat.le_of_ble_eq_true rfl)
theorem sX9_powerBeyond_19_2 : ab_X rom K cX9_powerBeyond 7 1 19 ls [w1, .ref a, v0, v1] hp = if ab_iso hp a 7 = true then (K 209 (.ref a :: [w1]) hp).bind (fun o => ab_X rom K cX9_powerBeyond 7 1 22 ls (o.1.toList ++ [v0, v1]) o.2) else none := ay_virtual (as := [w1]) (st := [v0, v1]) dX9_powerBeyond_19 kc_7_64 rfl rfl (Nat.le_of_ble_eq_true rfl)
theorem sX9_powerBeyond_19_3 : ab_X rom K cX9_powerBeyond 7 1 19 ls [w1, .ref a, v0, v1, v2] hp = if ab_iso hp a 7 = true then (K 209 (.ref a :: [w1]) hp).bind (fun o => ab_X rom K cX9_powerBeyond 7 1 22 ls (o.1.toList ++ [v0, v1, v2]) o.2) else none := ay_virtual (as := [w1]) (st := [v0, v1, v2]) dX9_powerBeyond_19 kc_7_64 rfl rfl (Nat.le_of_ble_eq_true rfl)
theorem dX9_powerBeyond_22 : decode cX9_powerBeyond 22 = .ok (.if_icmp .ge 34, 3) := by decide +kernel
theorem sX9_powerBeyond_22 : ab_X rom K cX9_powerBeyond 7 1 22 ls (.int y :: .int x :: st) hp = if x < y then ab_X rom K cX9_powerBeyond 7 1 25 ls st hp else ab_X rom K cX9_powerBeyond 7 1 56 ls st hp := ax_icmp_ge dX9_powerBeyond_22 (by decide) rfl
theorem dX9_powerBeyond_25 : decode cX9_powerBeyond 25 = .ok (.iload_n 3, 1) := by decide +kernel
theorem sX9_powerBeyond_25 : ab_X rom K cX9_powerBeyond 7 1 25 (v0 :: v1 :: v2 :: .int x :: ls) st hp = ab_X rom K cX9_powerBeyond 7 1 26 (v0 :: v1 :: v2 :: .int x :: ls) (.int x :: st) hp := ax_iload_n dX9_powerBeyond_25 rfl rfl
theorem dX9_powerBeyond_26 : decode cX9_powerBeyond 26 = .ok (.ifCond .eq 22, 3) := by decide +kernel
theorem sX9_powerBeyond_26 : ab_X rom K cX9_powerBeyond 7 1 26 ls (.int x :: st) hp = if x = 0 then ab_X rom K cX9_powerBeyond 7 1 48 ls st hp else ab_X rom K cX9_powerBeyond 7 1 29 ls st hp := ax_if_eq dX9_powerBeyond_26 (by decide) rfl
theorem dX9_powerBeyond_29 : decode cX9_powerBeyond 29 = .ok (.aload_n 0, 1) := by decide +kernel
theorem sX9_powerBeyond_29 : ab_X rom K cX9_powerBeyond 7 1 29 (.ref a :: ls) st hp = ab_X rom K cX9_powerBeyond 7 1 30 (.ref a :: ls) (.ref a :: st) hp := ax_aload_n dX9_powerBeyond_29 rfl rfl
theorem dX9_powerBeyond_30 : decode cX9_powerBeyond 30 = .ok (.iload_n 1, 1) := by decide +kernel
theorem sX9_powerBeyond_30 : ab_X rom K cX9_powerBeyond 7 1 30 (v0 :: .int x :: ls) st hp = ab_X rom K cX9_powerBeyond 7 1 31 (v0 :: .int x :: ls) (.int x :: st) hp := ax_iload_n dX9_powerBeyond_30 rfl rfl
theorem dX9_powerBeyond_31 : decode cX9_powerBeyond 31 = .ok (.iload 4, 2) := by decide +kernel
theorem sX9_powerBeyond_31 : ab_X rom K cX9_powerBeyond 7 1 31 (v0 :: v1 :: v2 :: v3 :: .int x :: ls) st hp = ab_X rom K cX9_powerBeyond 7 1 33 (v0 :: v1 :: v2 :: v3 :: .int x :: ls) (.int x :: st) hp := ax_iload dX9_powerBeyond_31 rfl rfl
theorem dX9_powerBeyond_33 : decode cX9_powerBeyond 33 = .ok (.invokevirtual 73, 3) := by decide +kernel
theorem sX9_powerBeyond_33_0 : ab_X rom K cX9_powerBeyond 7 1 33 ls [w2, w1, .ref a] hp = if ab_iso hp a 7 = true then (K 179 (.ref a :: [w1, w2]) hp).bind (fun o => ab_X rom K cX9_powerBeyond 7 1 36 ls (o.1.toList ++ []) o.2) else none := ay_virtual (as := [w1, w2]) (st := []) dX9_powerBeyond_33 kc_7_73 rfl rfl (Nat.le_of_ble_eq_true rfl)
theorem sX9_powerBeyond_33_1 : ab_X rom K cX9_powerBeyond 7 1 33 ls [w2, w1, .ref a, v0] hp = if ab_iso hp a 7 = true then (K 179 (.ref a :: [w1, w2]) hp).bind (fun o => ab_X rom K cX9_powerBeyond 7 1 36 ls (o.1.toList ++ [v0]) o.2) else none := ay_virtual (as := [w1, w2]) (st := [v0]) dX9_powerBeyond_33 kc_7_73 rfl rfl (Nat.le_of_ble_eq_true rfl)
theorem sX9_powerBeyond_33_2 : ab_X rom K cX9_powerBeyond 7 1 33 ls [w2, w1, .ref a, v0, v1] hp = if ab_iso hp a 7 = true then (K 179 (.ref a :: [w1, w2]) hp).bind (fun o => ab_X rom K cX9_powerBeyond 7 1 36 ls (o.1.toList ++ [v0, v1]) o.2) else none := ay_virtual (as := [w1, w2]) (st := [v0, v1]) dX9_powerBeyond_33 kc_7_73 rfl rfl (Nat.le_of_ble_eq_true rfl)
theorem sX9_powerBeyond_33_3 : ab_X rom K cX9_powerBeyond 7 1 33 ls [w2, w1, .ref a, v0, v1, v2] hp = if ab_iso hp a 7 = true then (K 179 (.ref a :: [w1, w2]) hp).bind (fun o => ab_X rom K cX9_powerBeyond 7 1 36 ls (o.1.toList ++ [v0, v1, v2]) o.2) else none := ay_virtual (as := [w1, w2]) (st := [v0, v1, v2]) dX9_powerBeyond_33 kc_7_73 rfl rfl (Nat.le_of_ble_eq_true rfl)
theorem dX9_powerBeyond_36 : decode cX9_powerBeyond 36 = .ok (.invokestatic 81, 3) := by decide +kernel
theorem sX9_powerBeyond_36_0 : ab_X rom K cX9_powerBeyond 7 1 36 ls [w1] hp = (K 204 [w1] hp).bind (fun o => ab_X rom K cX9_powerBeyond 7 1 39 ls (o.1.toList ++ []) o.2) := ax_static (as := [w1]) (st := []) dX9_powerBeyond_36 kc_7_81 rfl rfl (Nat.le_of_ble_eq_true rfl)
theorem sX9_powerBeyond_36_1 : ab_X rom K cX9_powerBeyond 7 1 36 ls [w1, v0] hp = (K 204 [w1] hp).bind (fun o => ab_X rom K cX9_powerBeyond 7 1 39 ls (o.1.toList ++ [v0]) o.2) := ax_static (as := [w1]) (st := [v0]) dX9_powerBeyond_36 kc_7_81 rfl rfl (Nat.le_of_ble_eq_true rfl)
theorem sX9_powerBeyond_36_2 : ab_X rom K cX9_powerBeyond 7 1 36 ls [w1, v0, v1] hp = (K 204 [w1] hp).bind (fun o => ab_X rom K cX9_powerBeyond 7 1 39 ls (o.1.toList ++ [v0, v1]) o.2) := ax_static (as := [w1]) (st := [v0, v1]) dX9_powerBeyond_36 kc_7_81 rfl rfl (Nat.le_of_ble_eq_true rfl)
theorem sX9_powerBeyond_36_3 : ab_X rom K cX9_powerBeyond 7 1 36 ls [w1, v0, v1, v2] hp = (K 204 [w1] hp).bind (fun o => ab_X rom K cX9_powerBeyond 7 1 39 ls (o.1.toList ++ [v0, v1, v2]) o.2) := ax_static (as := [w1]) (st := [v0, v1, v2]) dX9_powerBeyond_36 kc_7_81 rfl rfl (Nat.le_of_ble_eq_true rfl)
theorem dX9_powerBeyond_39 : decode cX9_powerBeyond 39 = .ok (.iload_n 2, 1) := by decide +kernel
theorem sX9_powerBeyond_39 : ab_X rom K cX9_powerBeyond 7 1 39 (v0 :: v1 :: .int x :: ls) st hp = ab_X rom K cX9_powerBeyond 7 1 40 (v0 :: v1 :: .int x :: ls) (.int x :: st) hp := ax_iload_n dX9_powerBeyond_39 rfl rfl
theorem dX9_powerBeyond_40 : decode cX9_powerBeyond 40 = .ok (.irem, 1) := by decide +kernel
theorem sX9_powerBeyond_40 : ab_X rom K cX9_powerBeyond 7 1 40 ls (.int y :: .int x :: st) hp = if y = 0 then none else ab_X rom K cX9_powerBeyond 7 1 41 ls (.int (ab_rem x y) :: st) hp := ay_irem dX9_powerBeyond_40 rfl
theorem dX9_powerBeyond_41 : decode cX9_powerBeyond 41 = .ok (.ifCond .ne 7, 3) := by decide +kernel
theorem sX9_powerBeyond_41 : ab_X rom K cX9_powerBeyond 7 1 41 ls (.int x :: st) hp = if x = 0 then ab_X rom K cX9_powerBeyond 7 1 44 ls st hp else ab_X rom K cX9_powerBeyond 7 1 48 ls st hp := ax_if_ne dX9_powerBeyond_41 (by decide) rfl
theorem dX9_powerBeyond_44 : decode cX9_powerBeyond 44 = .ok (.iconst 1, 1) := by decide +kernel
theorem sX9_powerBeyond_44 : ab_X rom K cX9_powerBeyond 7 1 44 ls st hp = ab_X rom K cX9_powerBeyond 7 1 45 ls (.int 1 :: st) hp := ax_iconst dX9_powerBeyond_44 (by decide) rfl
theorem dX9_powerBeyond_45 : decode cX9_powerBeyond 45 = .ok (.goto 4, 3) := by decide +kernel
theorem sX9_powerBeyond_45 : ab_X rom K cX9_powerBeyond 7 1 45 ls st hp = ab_X rom K cX9_powerBeyond 7 1 49 ls st hp := ax_goto dX9_powerBeyond_45 (by decide)
theorem dX9_powerBeyond_48 : decode cX9_powerBeyond 48 = .ok (.iconst 0, 1) := by decide +kernel
theorem sX9_powerBeyond_48 : ab_X rom K cX9_powerBeyond 7 1 48 ls st hp = ab_X rom K cX9_powerBeyond 7 1 49 ls (.int 0 :: st) hp := ax_iconst dX9_powerBeyond_48 (by decide) rfl
theorem dX9_powerBeyond_49 : decode cX9_powerBeyond 49 = .ok (.istore_n 3, 1) := by decide +kernel
theorem sX9_powerBeyond_49i : ab_X rom K cX9_powerBeyond 7 1 49 (v0 :: v1 :: .int y :: v3 :: ls) (.int x :: st) hp = ab_X rom K cX9_powerBeyond 7 1 50 (v0 :: v1 :: .int y :: .int x :: ls) st hp := ax_istore_n dX9_powerBeyond_49 (ax_lt (v := v3) rfl) (ab_nl_c1 (j := 2) (v := .int y) rfl (ab_c1_int _)) rfl rfl
theorem sX9_powerBeyond_49r : ab_X rom K cX9_powerBeyond 7 1 49 (v0 :: v1 :: .ref a2 :: v3 :: ls) (.int x :: st) hp = ab_X rom K cX9_powerBeyond 7 1 50 (v0 :: v1 :: .ref a2 :: .int x :: ls) st hp := ax_istore_n dX9_powerBeyond_49 (ax_lt (v := v3) rfl) (ab_nl_c1 (j := 2) (v := .ref a2) rfl (ab_c1_ref _)) rfl rfl
theorem sX9_powerBeyond_49n : ab_X rom K cX9_powerBeyond 7 1 49 (v0 :: v1 :: .null :: v3 :: ls) (.int x :: st) hp = ab_X rom K cX9_powerBeyond 7 1 50 (v0 :: v1 :: .null :: .int x :: ls) st hp := ax_istore_n dX9_powerBeyond_49 (ax_lt (v := v3) rfl) (ab_nl_c1 (j := 2) (v := .null) rfl ab_c1_null) rfl rfl
theorem dX9_powerBeyond_50 : decode cX9_powerBeyond 50 = .ok (.iinc 4 1, 3) := by decide +kernel
theorem sX9_powerBeyond_50i : ab_X rom K cX9_powerBeyond 7 1 50 (v0 :: v1 :: v2 :: .int y :: .int x :: ls) st hp = ab_X rom K cX9_powerBeyond 7 1 53 (v0 :: v1 :: v2 :: .int y :: .int (x + 1) :: ls) st hp := ax_iinc dX9_powerBeyond_50 rfl (ab_nl_c1 (j := 3) (v := .int y) rfl (ab_c1_int _)) (by decide) rfl rfl
theorem sX9_powerBeyond_50r : ab_X rom K cX9_powerBeyond 7 1 50 (v0 :: v1 :: v2 :: .ref a2 :: .int x :: ls) st hp = ab_X rom K cX9_powerBeyond 7 1 53 (v0 :: v1 :: v2 :: .ref a2 :: .int (x + 1) :: ls) st hp := ax_iinc dX9_powerBeyond_50 rfl (ab_nl_c1 (j := 3) (v := .ref a2) rfl (ab_c1_ref _)) (by decide) rfl rfl
theorem sX9_powerBeyond_50n : ab_X rom K cX9_powerBeyond 7 1 50 (v0 :: v1 :: v2 :: .null :: .int x :: ls) st hp = ab_X rom K cX9_powerBeyond 7 1 53 (v0 :: v1 :: v2 :: .null :: .int (x + 1) :: ls) st hp := ax_iinc dX9_powerBeyond_50 rfl (ab_nl_c1 (j := 3) (v := .null) rfl ab_c1_null) (by decide) rfl rfl
theorem dX9_powerBeyond_53 : decode cX9_powerBeyond 53 = .ok (.goto (-38), 3) := by decide +kernel
theorem sX9_powerBeyond_53 : ab_X rom K cX9_powerBeyond 7 1 53 ls st hp = ab_X rom K cX9_powerBeyond 7 1 15 ls st hp := ax_goto dX9_powerBeyond_53 (by decide)
theorem dX9_powerBeyond_56 : decode cX9_powerBeyond 56 = .ok (.goto (-52), 3) := by decide +kernel
theorem sX9_powerBeyond_56 : ab_X rom K cX9_powerBeyond 7 1 56 ls st hp = ab_X rom K cX9_powerBeyond 7 1 4 ls st hp := ax_goto dX9_powerBeyond_56 (by decide)
theorem dX9_powerBeyond_59 : decode cX9_powerBeyond 59 = .ok (.iload_n 2, 1) := by decide +kernel
theorem sX9_powerBeyond_59 : ab_X rom K cX9_powerBeyond 7 1 59 (v0 :: v1 :: .int x :: ls) st hp = ab_X rom K cX9_powerBeyond 7 1 60 (v0 :: v1 :: .int x :: ls) (.int x :: st) hp := ax_iload_n dX9_powerBeyond_59 rfl rfl
theorem dX9_powerBeyond_60 : decode cX9_powerBeyond 60 = .ok (.ireturn, 1) := by decide +kernel
theorem sX9_powerBeyond_60 : ab_X rom K cX9_powerBeyond 7 1 60 ls [.int x] hp = some (some (.int x), hp) := ax_iret dX9_powerBeyond_60 rfl
theorem tX9_readsLabel : ab_mT[211]? = some (yX9_readsLabel, cX9_readsLabel, 4, 0, 7) := by decide +kernel
theorem mX9_readsLabel {d : Nat} {a0 : Nat} {x0 : Int32} : ab_M rom (d + 1) 211 [.ref a0, .int x0] hp = ab_X rom (ab_M rom d) cX9_readsLabel 7 0 0 [.ref a0, .int x0, .null, .null] [] hp := ab_M_eq tX9_readsLabel (Nat.le_of_ble_eq_true rfl)
theorem dX9_readsLabel_0 : decode cX9_readsLabel 0 = .ok (.aload_n 0, 1) := by decide +kernel
theorem sX9_readsLabel_0 : ab_X rom K cX9_readsLabel 7 0 0 (.ref a :: ls) st hp = ab_X rom K cX9_readsLabel 7 0 1 (.ref a :: ls) (.ref a :: st) hp := ax_aload_n dX9_readsLabel_0 rfl rfl
theorem dX9_readsLabel_1 : decode cX9_readsLabel 1 = .ok (.iconst 0, 1) := by decide +kernel
theorem sX9_readsLabel_1 : ab_X rom K cX9_readsLabel 7 0 1 ls st hp = ab_X rom K cX9_readsLabel 7 0 2 ls (.int 0 :: st) hp := ax_iconst dX9_readsLabel_1 (by decide) rfl
theorem dX9_readsLabel_2 : decode cX9_readsLabel 2 = .ok (.aload_n 0, 1) := by decide +kernel
theorem sX9_readsLabel_2 : ab_X rom K cX9_readsLabel 7 0 2 (.ref a :: ls) st hp = ab_X rom K cX9_readsLabel 7 0 3 (.ref a :: ls) (.ref a :: st) hp := ax_aload_n dX9_readsLabel_2 rfl rfl
theorem dX9_readsLabel_3 : decode cX9_readsLabel 3 = .ok (.iload_n 1, 1) := by decide +kernel
theorem sX9_readsLabel_3 : ab_X rom K cX9_readsLabel 7 0 3 (v0 :: .int x :: ls) st hp = ab_X rom K cX9_readsLabel 7 0 4 (v0 :: .int x :: ls) (.int x :: st) hp := ax_iload_n dX9_readsLabel_3 rfl rfl
theorem dX9_readsLabel_4 : decode cX9_readsLabel 4 = .ok (.invokevirtual 64, 3) := by decide +kernel
theorem sX9_readsLabel_4_0 : ab_X rom K cX9_readsLabel 7 0 4 ls [w1, .ref a] hp = if ab_iso hp a 7 = true then (K 209 (.ref a :: [w1]) hp).bind (fun o => ab_X rom K cX9_readsLabel 7 0 7 ls (o.1.toList ++ []) o.2) else none := ay_virtual (as := [w1]) (st := []) dX9_readsLabel_4 kc_7_64 rfl rfl (Nat.le_of_ble_eq_true rfl)
theorem sX9_readsLabel_4_1 : ab_X rom K cX9_readsLabel 7 0 4 ls [w1, .ref a, v0] hp = if ab_iso hp a 7 = true then (K 209 (.ref a :: [w1]) hp).bind (fun o => ab_X rom K cX9_readsLabel 7 0 7 ls (o.1.toList ++ [v0]) o.2) else none := ay_virtual (as := [w1]) (st := [v0]) dX9_readsLabel_4 kc_7_64 rfl rfl (Nat.le_of_ble_eq_true rfl)
theorem sX9_readsLabel_4_2 : ab_X rom K cX9_readsLabel 7 0 4 ls [w1, .ref a, v0, v1] hp = if ab_iso hp a 7 = true then (K 209 (.ref a :: [w1]) hp).bind (fun o => ab_X rom K cX9_readsLabel 7 0 7 ls (o.1.toList ++ [v0, v1]) o.2) else none := ay_virtual (as := [w1]) (st := [v0, v1]) dX9_readsLabel_4 kc_7_64 rfl rfl (Nat.le_of_ble_eq_true rfl)
theorem sX9_readsLabel_4_3 : ab_X rom K cX9_readsLabel 7 0 4 ls [w1, .ref a, v0, v1, v2] hp = if ab_iso hp a 7 = true then (K 209 (.ref a :: [w1]) hp).bind (fun o => ab_X rom K cX9_readsLabel 7 0 7 ls (o.1.toList ++ [v0, v1, v2]) o.2) else none := ay_virtual (as := [w1]) (st := [v0, v1, v2]) dX9_readsLabel_4 kc_7_64 rfl rfl (Nat.le_of_ble_eq_true rfl)
theorem dX9_readsLabel_7 : decode cX9_readsLabel 7 = .ok (.iconst 1, 1) := by decide +kernel
theorem sX9_readsLabel_7 : ab_X rom K cX9_readsLabel 7 0 7 ls st hp = ab_X rom K cX9_readsLabel 7 0 8 ls (.int 1 :: st) hp := ax_iconst dX9_readsLabel_7 (by decide) rfl
theorem dX9_readsLabel_8 : decode cX9_readsLabel 8 = .ok (.isub, 1) := by decide +kernel
theorem sX9_readsLabel_8 : ab_X rom K cX9_readsLabel 7 0 8 ls (.int y :: .int x :: st) hp = ab_X rom K cX9_readsLabel 7 0 9 ls (.int (x - y) :: st) hp := ax_isub dX9_readsLabel_8 rfl
theorem dX9_readsLabel_9 : decode cX9_readsLabel 9 = .ok (.invokevirtual 147, 3) := by decide +kernel
theorem sX9_readsLabel_9_0 : ab_X rom K cX9_readsLabel 7 0 9 ls [w2, w1, .ref a] hp = if ab_iso hp a 7 = true then (K 157 (.ref a :: [w1, w2]) hp).bind (fun o => ab_X rom K cX9_readsLabel 7 0 12 ls (o.1.toList ++ []) o.2) else none := ay_virtual (as := [w1, w2]) (st := []) dX9_readsLabel_9 kc_7_147 rfl rfl (Nat.le_of_ble_eq_true rfl)
theorem sX9_readsLabel_9_1 : ab_X rom K cX9_readsLabel 7 0 9 ls [w2, w1, .ref a, v0] hp = if ab_iso hp a 7 = true then (K 157 (.ref a :: [w1, w2]) hp).bind (fun o => ab_X rom K cX9_readsLabel 7 0 12 ls (o.1.toList ++ [v0]) o.2) else none := ay_virtual (as := [w1, w2]) (st := [v0]) dX9_readsLabel_9 kc_7_147 rfl rfl (Nat.le_of_ble_eq_true rfl)
theorem sX9_readsLabel_9_2 : ab_X rom K cX9_readsLabel 7 0 9 ls [w2, w1, .ref a, v0, v1] hp = if ab_iso hp a 7 = true then (K 157 (.ref a :: [w1, w2]) hp).bind (fun o => ab_X rom K cX9_readsLabel 7 0 12 ls (o.1.toList ++ [v0, v1]) o.2) else none := ay_virtual (as := [w1, w2]) (st := [v0, v1]) dX9_readsLabel_9 kc_7_147 rfl rfl (Nat.le_of_ble_eq_true rfl)
theorem sX9_readsLabel_9_3 : ab_X rom K cX9_readsLabel 7 0 9 ls [w2, w1, .ref a, v0, v1, v2] hp = if ab_iso hp a 7 = true then (K 157 (.ref a :: [w1, w2]) hp).bind (fun o => ab_X rom K cX9_readsLabel 7 0 12 ls (o.1.toList ++ [v0, v1, v2]) o.2) else none := ay_virtual (as := [w1, w2]) (st := [v0, v1, v2]) dX9_readsLabel_9 kc_7_147 rfl rfl (Nat.le_of_ble_eq_true rfl)
theorem dX9_readsLabel_12 : decode cX9_readsLabel 12 = .ok (.istore_n 2, 1) := by decide +kernel
theorem sX9_readsLabel_12i : ab_X rom K cX9_readsLabel 7 0 12 (v0 :: .int y :: v2 :: ls) (.int x :: st) hp = ab_X rom K cX9_readsLabel 7 0 13 (v0 :: .int y :: .int x :: ls) st hp := ax_istore_n dX9_readsLabel_12 (ax_lt (v := v2) rfl) (ab_nl_c1 (j := 1) (v := .int y) rfl (ab_c1_int _)) rfl rfl
theorem sX9_readsLabel_12r : ab_X rom K cX9_readsLabel 7 0 12 (v0 :: .ref a2 :: v2 :: ls) (.int x :: st) hp = ab_X rom K cX9_readsLabel 7 0 13 (v0 :: .ref a2 :: .int x :: ls) st hp := ax_istore_n dX9_readsLabel_12 (ax_lt (v := v2) rfl) (ab_nl_c1 (j := 1) (v := .ref a2) rfl (ab_c1_ref _)) rfl rfl
theorem sX9_readsLabel_12n : ab_X rom K cX9_readsLabel 7 0 12 (v0 :: .null :: v2 :: ls) (.int x :: st) hp = ab_X rom K cX9_readsLabel 7 0 13 (v0 :: .null :: .int x :: ls) st hp := ax_istore_n dX9_readsLabel_12 (ax_lt (v := v2) rfl) (ab_nl_c1 (j := 1) (v := .null) rfl ab_c1_null) rfl rfl
theorem dX9_readsLabel_13 : decode cX9_readsLabel 13 = .ok (.aload_n 0, 1) := by decide +kernel
theorem sX9_readsLabel_13 : ab_X rom K cX9_readsLabel 7 0 13 (.ref a :: ls) st hp = ab_X rom K cX9_readsLabel 7 0 14 (.ref a :: ls) (.ref a :: st) hp := ax_aload_n dX9_readsLabel_13 rfl rfl
theorem dX9_readsLabel_14 : decode cX9_readsLabel 14 = .ok (.getfield 120, 3) := by decide +kernel
theorem sX9_readsLabel_14 : ab_X rom K cX9_readsLabel 7 0 14 ls (.ref a :: st) hp = (ab_fld hp a 7 12).bind (fun v => ab_X rom K cX9_readsLabel 7 0 17 ls (v :: st) hp) := ax_getfield dX9_readsLabel_14 kf_7_120 rfl
theorem dX9_readsLabel_17 : decode cX9_readsLabel 17 = .ok (.ifCond .ne 18, 3) := by decide +kernel
theorem sX9_readsLabel_17 : ab_X rom K cX9_readsLabel 7 0 17 ls (.int x :: st) hp = if x = 0 then ab_X rom K cX9_readsLabel 7 0 20 ls st hp else ab_X rom K cX9_readsLabel 7 0 35 ls st hp := ax_if_ne dX9_readsLabel_17 (by decide) rfl
theorem dX9_readsLabel_20 : decode cX9_readsLabel 20 = .ok (.aload_n 0, 1) := by decide +kernel
theorem sX9_readsLabel_20 : ab_X rom K cX9_readsLabel 7 0 20 (.ref a :: ls) st hp = ab_X rom K cX9_readsLabel 7 0 21 (.ref a :: ls) (.ref a :: st) hp := ax_aload_n dX9_readsLabel_20 rfl rfl
theorem dX9_readsLabel_21 : decode cX9_readsLabel 21 = .ok (.iload_n 1, 1) := by decide +kernel
theorem sX9_readsLabel_21 : ab_X rom K cX9_readsLabel 7 0 21 (v0 :: .int x :: ls) st hp = ab_X rom K cX9_readsLabel 7 0 22 (v0 :: .int x :: ls) (.int x :: st) hp := ax_iload_n dX9_readsLabel_21 rfl rfl
theorem dX9_readsLabel_22 : decode cX9_readsLabel 22 = .ok (.iload_n 2, 1) := by decide +kernel
theorem sX9_readsLabel_22 : ab_X rom K cX9_readsLabel 7 0 22 (v0 :: v1 :: .int x :: ls) st hp = ab_X rom K cX9_readsLabel 7 0 23 (v0 :: v1 :: .int x :: ls) (.int x :: st) hp := ax_iload_n dX9_readsLabel_22 rfl rfl
theorem dX9_readsLabel_23 : decode cX9_readsLabel 23 = .ok (.invokevirtual 168, 3) := by decide +kernel
theorem sX9_readsLabel_23_0 : ab_X rom K cX9_readsLabel 7 0 23 ls [w2, w1, .ref a] hp = if ab_iso hp a 7 = true then (K 183 (.ref a :: [w1, w2]) hp).bind (fun o => ab_X rom K cX9_readsLabel 7 0 26 ls (o.1.toList ++ []) o.2) else none := ay_virtual (as := [w1, w2]) (st := []) dX9_readsLabel_23 kc_7_168 rfl rfl (Nat.le_of_ble_eq_true rfl)
theorem sX9_readsLabel_23_1 : ab_X rom K cX9_readsLabel 7 0 23 ls [w2, w1, .ref a, v0] hp = if ab_iso hp a 7 = true then (K 183 (.ref a :: [w1, w2]) hp).bind (fun o => ab_X rom K cX9_readsLabel 7 0 26 ls (o.1.toList ++ [v0]) o.2) else none := ay_virtual (as := [w1, w2]) (st := [v0]) dX9_readsLabel_23 kc_7_168 rfl rfl (Nat.le_of_ble_eq_true rfl)
theorem sX9_readsLabel_23_2 : ab_X rom K cX9_readsLabel 7 0 23 ls [w2, w1, .ref a, v0, v1] hp = if ab_iso hp a 7 = true then (K 183 (.ref a :: [w1, w2]) hp).bind (fun o => ab_X rom K cX9_readsLabel 7 0 26 ls (o.1.toList ++ [v0, v1]) o.2) else none := ay_virtual (as := [w1, w2]) (st := [v0, v1]) dX9_readsLabel_23 kc_7_168 rfl rfl (Nat.le_of_ble_eq_true rfl)
theorem sX9_readsLabel_23_3 : ab_X rom K cX9_readsLabel 7 0 23 ls [w2, w1, .ref a, v0, v1, v2] hp = if ab_iso hp a 7 = true then (K 183 (.ref a :: [w1, w2]) hp).bind (fun o => ab_X rom K cX9_readsLabel 7 0 26 ls (o.1.toList ++ [v0, v1, v2]) o.2) else none := ay_virtual (as := [w1, w2]) (st := [v0, v1, v2]) dX9_readsLabel_23 kc_7_168 rfl rfl (Nat.le_of_ble_eq_true rfl)
theorem dX9_readsLabel_26 : decode cX9_readsLabel 26 = .ok (.iconst (-1), 1) := by decide +kernel
theorem sX9_readsLabel_26 : ab_X rom K cX9_readsLabel 7 0 26 ls st hp = ab_X rom K cX9_readsLabel 7 0 27 ls (.int (-1) :: st) hp := ax_iconst dX9_readsLabel_26 (by decide) rfl
theorem dX9_readsLabel_27 : decode cX9_readsLabel 27 = .ok (.if_icmp .eq 8, 3) := by decide +kernel
theorem sX9_readsLabel_27 : ab_X rom K cX9_readsLabel 7 0 27 ls (.int y :: .int x :: st) hp = if x = y then ab_X rom K cX9_readsLabel 7 0 35 ls st hp else ab_X rom K cX9_readsLabel 7 0 30 ls st hp := ax_icmp_eq dX9_readsLabel_27 (by decide) rfl
theorem dX9_readsLabel_30 : decode cX9_readsLabel 30 = .ok (.aload_n 0, 1) := by decide +kernel
theorem sX9_readsLabel_30 : ab_X rom K cX9_readsLabel 7 0 30 (.ref a :: ls) st hp = ab_X rom K cX9_readsLabel 7 0 31 (.ref a :: ls) (.ref a :: st) hp := ax_aload_n dX9_readsLabel_30 rfl rfl
theorem dX9_readsLabel_31 : decode cX9_readsLabel 31 = .ok (.iconst 3, 1) := by decide +kernel
theorem sX9_readsLabel_31 : ab_X rom K cX9_readsLabel 7 0 31 ls st hp = ab_X rom K cX9_readsLabel 7 0 32 ls (.int 3 :: st) hp := ax_iconst dX9_readsLabel_31 (by decide) rfl
theorem dX9_readsLabel_32 : decode cX9_readsLabel 32 = .ok (.invokevirtual 130, 3) := by decide +kernel
theorem sX9_readsLabel_32_0 : ab_X rom K cX9_readsLabel 7 0 32 ls [w1, .ref a] hp = if ab_iso hp a 7 = true then (K 152 (.ref a :: [w1]) hp).bind (fun o => ab_X rom K cX9_readsLabel 7 0 35 ls (o.1.toList ++ []) o.2) else none := ay_virtual (as := [w1]) (st := []) dX9_readsLabel_32 kc_7_130 rfl rfl (Nat.le_of_ble_eq_true rfl)
theorem sX9_readsLabel_32_1 : ab_X rom K cX9_readsLabel 7 0 32 ls [w1, .ref a, v0] hp = if ab_iso hp a 7 = true then (K 152 (.ref a :: [w1]) hp).bind (fun o => ab_X rom K cX9_readsLabel 7 0 35 ls (o.1.toList ++ [v0]) o.2) else none := ay_virtual (as := [w1]) (st := [v0]) dX9_readsLabel_32 kc_7_130 rfl rfl (Nat.le_of_ble_eq_true rfl)
theorem sX9_readsLabel_32_2 : ab_X rom K cX9_readsLabel 7 0 32 ls [w1, .ref a, v0, v1] hp = if ab_iso hp a 7 = true then (K 152 (.ref a :: [w1]) hp).bind (fun o => ab_X rom K cX9_readsLabel 7 0 35 ls (o.1.toList ++ [v0, v1]) o.2) else none := ay_virtual (as := [w1]) (st := [v0, v1]) dX9_readsLabel_32 kc_7_130 rfl rfl (Nat.le_of_ble_eq_true rfl)
theorem sX9_readsLabel_32_3 : ab_X rom K cX9_readsLabel 7 0 32 ls [w1, .ref a, v0, v1, v2] hp = if ab_iso hp a 7 = true then (K 152 (.ref a :: [w1]) hp).bind (fun o => ab_X rom K cX9_readsLabel 7 0 35 ls (o.1.toList ++ [v0, v1, v2]) o.2) else none := ay_virtual (as := [w1]) (st := [v0, v1, v2]) dX9_readsLabel_32 kc_7_130 rfl rfl (Nat.le_of_ble_eq_true rfl)
theorem dX9_readsLabel_35 : decode cX9_readsLabel 35 = .ok (.aload_n 0, 1) := by decide +kernel
theorem sX9_readsLabel_35 : ab_X rom K cX9_readsLabel 7 0 35 (.ref a :: ls) st hp = ab_X rom K cX9_readsLabel 7 0 36 (.ref a :: ls) (.ref a :: st) hp := ax_aload_n dX9_readsLabel_35 rfl rfl
theorem dX9_readsLabel_36 : decode cX9_readsLabel 36 = .ok (.invokevirtual 134, 3) := by decide +kernel
theorem sX9_readsLabel_36_0 : ab_X rom K cX9_readsLabel 7 0 36 ls [.ref a] hp = if ab_iso hp a 7 = true then (K 207 (.ref a :: []) hp).bind (fun o => ab_X rom K cX9_readsLabel 7 0 39 ls (o.1.toList ++ []) o.2) else none := ay_virtual (as := []) (st := []) dX9_readsLabel_36 kc_7_134 rfl rfl (Nat.le_of_ble_eq_true rfl)
theorem sX9_readsLabel_36_1 : ab_X rom K cX9_readsLabel 7 0 36 ls [.ref a, v0] hp = if ab_iso hp a 7 = true then (K 207 (.ref a :: []) hp).bind (fun o => ab_X rom K cX9_readsLabel 7 0 39 ls (o.1.toList ++ [v0]) o.2) else none := ay_virtual (as := []) (st := [v0]) dX9_readsLabel_36 kc_7_134 rfl rfl (Nat.le_of_ble_eq_true rfl)
theorem sX9_readsLabel_36_2 : ab_X rom K cX9_readsLabel 7 0 36 ls [.ref a, v0, v1] hp = if ab_iso hp a 7 = true then (K 207 (.ref a :: []) hp).bind (fun o => ab_X rom K cX9_readsLabel 7 0 39 ls (o.1.toList ++ [v0, v1]) o.2) else none := ay_virtual (as := []) (st := [v0, v1]) dX9_readsLabel_36 kc_7_134 rfl rfl (Nat.le_of_ble_eq_true rfl)
theorem sX9_readsLabel_36_3 : ab_X rom K cX9_readsLabel 7 0 36 ls [.ref a, v0, v1, v2] hp = if ab_iso hp a 7 = true then (K 207 (.ref a :: []) hp).bind (fun o => ab_X rom K cX9_readsLabel 7 0 39 ls (o.1.toList ++ [v0, v1, v2]) o.2) else none := ay_virtual (as := []) (st := [v0, v1, v2]) dX9_readsLabel_36 kc_7_134 rfl rfl (Nat.le_of_ble_eq_true rfl)
theorem dX9_readsLabel_39 : decode cX9_readsLabel 39 = .ok (.aload_n 0, 1) := by decide +kernel
theorem sX9_readsLabel_39 : ab_X rom K cX9_readsLabel 7 0 39 (.ref a :: ls) st hp = ab_X rom K cX9_readsLabel 7 0 40 (.ref a :: ls) (.ref a :: st) hp := ax_aload_n dX9_readsLabel_39 rfl rfl
theorem dX9_readsLabel_40 : decode cX9_readsLabel 40 = .ok (.aload_n 0, 1) := by decide +kernel
theorem sX9_readsLabel_40 : ab_X rom K cX9_readsLabel 7 0 40 (.ref a :: ls) st hp = ab_X rom K cX9_readsLabel 7 0 41 (.ref a :: ls) (.ref a :: st) hp := ax_aload_n dX9_readsLabel_40 rfl rfl
theorem dX9_readsLabel_41 : decode cX9_readsLabel 41 = .ok (.bipush 61, 2) := by decide +kernel
theorem sX9_readsLabel_41 : ab_X rom K cX9_readsLabel 7 0 41 ls st hp = ab_X rom K cX9_readsLabel 7 0 43 ls (.int 61 :: st) hp := ax_bipush dX9_readsLabel_41 (by decide) rfl
theorem dX9_readsLabel_43 : decode cX9_readsLabel 43 = .ok (.invokevirtual 153, 3) := by decide +kernel
theorem sX9_readsLabel_43_0 : ab_X rom K cX9_readsLabel 7 0 43 ls [w1, .ref a] hp = if ab_iso hp a 7 = true then (K 174 (.ref a :: [w1]) hp).bind (fun o => ab_X rom K cX9_readsLabel 7 0 46 ls (o.1.toList ++ []) o.2) else none := ay_virtual (as := [w1]) (st := []) dX9_readsLabel_43 kc_7_153 rfl rfl (Nat.le_of_ble_eq_true rfl)
theorem sX9_readsLabel_43_1 : ab_X rom K cX9_readsLabel 7 0 43 ls [w1, .ref a, v0] hp = if ab_iso hp a 7 = true then (K 174 (.ref a :: [w1]) hp).bind (fun o => ab_X rom K cX9_readsLabel 7 0 46 ls (o.1.toList ++ [v0]) o.2) else none := ay_virtual (as := [w1]) (st := [v0]) dX9_readsLabel_43 kc_7_153 rfl rfl (Nat.le_of_ble_eq_true rfl)
theorem sX9_readsLabel_43_2 : ab_X rom K cX9_readsLabel 7 0 43 ls [w1, .ref a, v0, v1] hp = if ab_iso hp a 7 = true then (K 174 (.ref a :: [w1]) hp).bind (fun o => ab_X rom K cX9_readsLabel 7 0 46 ls (o.1.toList ++ [v0, v1]) o.2) else none := ay_virtual (as := [w1]) (st := [v0, v1]) dX9_readsLabel_43 kc_7_153 rfl rfl (Nat.le_of_ble_eq_true rfl)
theorem sX9_readsLabel_43_3 : ab_X rom K cX9_readsLabel 7 0 43 ls [w1, .ref a, v0, v1, v2] hp = if ab_iso hp a 7 = true then (K 174 (.ref a :: [w1]) hp).bind (fun o => ab_X rom K cX9_readsLabel 7 0 46 ls (o.1.toList ++ [v0, v1, v2]) o.2) else none := ay_virtual (as := [w1]) (st := [v0, v1, v2]) dX9_readsLabel_43 kc_7_153 rfl rfl (Nat.le_of_ble_eq_true rfl)
theorem dX9_readsLabel_46 : decode cX9_readsLabel 46 = .ok (.invokevirtual 156, 3) := by decide +kernel
theorem sX9_readsLabel_46_0 : ab_X rom K cX9_readsLabel 7 0 46 ls [w1, .ref a] hp = if ab_iso hp a 7 = true then (K 201 (.ref a :: [w1]) hp).bind (fun o => ab_X rom K cX9_readsLabel 7 0 49 ls (o.1.toList ++ []) o.2) else none := ay_virtual (as := [w1]) (st := []) dX9_readsLabel_46 kc_7_156 rfl rfl (Nat.le_of_ble_eq_true rfl)
theorem sX9_readsLabel_46_1 : ab_X rom K cX9_readsLabel 7 0 46 ls [w1, .ref a, v0] hp = if ab_iso hp a 7 = true then (K 201 (.ref a :: [w1]) hp).bind (fun o => ab_X rom K cX9_readsLabel 7 0 49 ls (o.1.toList ++ [v0]) o.2) else none := ay_virtual (as := [w1]) (st := [v0]) dX9_readsLabel_46 kc_7_156 rfl rfl (Nat.le_of_ble_eq_true rfl)
theorem sX9_readsLabel_46_2 : ab_X rom K cX9_readsLabel 7 0 46 ls [w1, .ref a, v0, v1] hp = if ab_iso hp a 7 = true then (K 201 (.ref a :: [w1]) hp).bind (fun o => ab_X rom K cX9_readsLabel 7 0 49 ls (o.1.toList ++ [v0, v1]) o.2) else none := ay_virtual (as := [w1]) (st := [v0, v1]) dX9_readsLabel_46 kc_7_156 rfl rfl (Nat.le_of_ble_eq_true rfl)
theorem sX9_readsLabel_46_3 : ab_X rom K cX9_readsLabel 7 0 46 ls [w1, .ref a, v0, v1, v2] hp = if ab_iso hp a 7 = true then (K 201 (.ref a :: [w1]) hp).bind (fun o => ab_X rom K cX9_readsLabel 7 0 49 ls (o.1.toList ++ [v0, v1, v2]) o.2) else none := ay_virtual (as := [w1]) (st := [v0, v1, v2]) dX9_readsLabel_46 kc_7_156 rfl rfl (Nat.le_of_ble_eq_true rfl)
theorem dX9_readsLabel_49 : decode cX9_readsLabel 49 = .ok (.aload_n 0, 1) := by decide +kernel
theorem sX9_readsLabel_49 : ab_X rom K cX9_readsLabel 7 0 49 (.ref a :: ls) st hp = ab_X rom K cX9_readsLabel 7 0 50 (.ref a :: ls) (.ref a :: st) hp := ax_aload_n dX9_readsLabel_49 rfl rfl
theorem dX9_readsLabel_50 : decode cX9_readsLabel 50 = .ok (.getfield 120, 3) := by decide +kernel
theorem sX9_readsLabel_50 : ab_X rom K cX9_readsLabel 7 0 50 ls (.ref a :: st) hp = (ab_fld hp a 7 12).bind (fun v => ab_X rom K cX9_readsLabel 7 0 53 ls (v :: st) hp) := ax_getfield dX9_readsLabel_50 kf_7_120 rfl
theorem dX9_readsLabel_53 : decode cX9_readsLabel 53 = .ok (.ifCond .eq 7, 3) := by decide +kernel
theorem sX9_readsLabel_53 : ab_X rom K cX9_readsLabel 7 0 53 ls (.int x :: st) hp = if x = 0 then ab_X rom K cX9_readsLabel 7 0 60 ls st hp else ab_X rom K cX9_readsLabel 7 0 56 ls st hp := ax_if_eq dX9_readsLabel_53 (by decide) rfl
theorem dX9_readsLabel_56 : decode cX9_readsLabel 56 = .ok (.iconst 0, 1) := by decide +kernel
theorem sX9_readsLabel_56 : ab_X rom K cX9_readsLabel 7 0 56 ls st hp = ab_X rom K cX9_readsLabel 7 0 57 ls (.int 0 :: st) hp := ax_iconst dX9_readsLabel_56 (by decide) rfl
theorem dX9_readsLabel_57 : decode cX9_readsLabel 57 = .ok (.goto 10, 3) := by decide +kernel
theorem sX9_readsLabel_57 : ab_X rom K cX9_readsLabel 7 0 57 ls st hp = ab_X rom K cX9_readsLabel 7 0 67 ls st hp := ax_goto dX9_readsLabel_57 (by decide)
theorem dX9_readsLabel_60 : decode cX9_readsLabel 60 = .ok (.aload_n 0, 1) := by decide +kernel
theorem sX9_readsLabel_60 : ab_X rom K cX9_readsLabel 7 0 60 (.ref a :: ls) st hp = ab_X rom K cX9_readsLabel 7 0 61 (.ref a :: ls) (.ref a :: st) hp := ax_aload_n dX9_readsLabel_60 rfl rfl
theorem dX9_readsLabel_61 : decode cX9_readsLabel 61 = .ok (.iconst 0, 1) := by decide +kernel
theorem sX9_readsLabel_61 : ab_X rom K cX9_readsLabel 7 0 61 ls st hp = ab_X rom K cX9_readsLabel 7 0 62 ls (.int 0 :: st) hp := ax_iconst dX9_readsLabel_61 (by decide) rfl
theorem dX9_readsLabel_62 : decode cX9_readsLabel 62 = .ok (.bipush 99, 2) := by decide +kernel
theorem sX9_readsLabel_62 : ab_X rom K cX9_readsLabel 7 0 62 ls st hp = ab_X rom K cX9_readsLabel 7 0 64 ls (.int 99 :: st) hp := ax_bipush dX9_readsLabel_62 (by decide) rfl
theorem dX9_readsLabel_64 : decode cX9_readsLabel 64 = .ok (.invokevirtual 147, 3) := by decide +kernel
theorem sX9_readsLabel_64_0 : ab_X rom K cX9_readsLabel 7 0 64 ls [w2, w1, .ref a] hp = if ab_iso hp a 7 = true then (K 157 (.ref a :: [w1, w2]) hp).bind (fun o => ab_X rom K cX9_readsLabel 7 0 67 ls (o.1.toList ++ []) o.2) else none := ay_virtual (as := [w1, w2]) (st := []) dX9_readsLabel_64 kc_7_147 rfl rfl (Nat.le_of_ble_eq_true rfl)
theorem sX9_readsLabel_64_1 : ab_X rom K cX9_readsLabel 7 0 64 ls [w2, w1, .ref a, v0] hp = if ab_iso hp a 7 = true then (K 157 (.ref a :: [w1, w2]) hp).bind (fun o => ab_X rom K cX9_readsLabel 7 0 67 ls (o.1.toList ++ [v0]) o.2) else none := ay_virtual (as := [w1, w2]) (st := [v0]) dX9_readsLabel_64 kc_7_147 rfl rfl (Nat.le_of_ble_eq_true rfl)
theorem sX9_readsLabel_64_2 : ab_X rom K cX9_readsLabel 7 0 64 ls [w2, w1, .ref a, v0, v1] hp = if ab_iso hp a 7 = true then (K 157 (.ref a :: [w1, w2]) hp).bind (fun o => ab_X rom K cX9_readsLabel 7 0 67 ls (o.1.toList ++ [v0, v1]) o.2) else none := ay_virtual (as := [w1, w2]) (st := [v0, v1]) dX9_readsLabel_64 kc_7_147 rfl rfl (Nat.le_of_ble_eq_true rfl)
theorem sX9_readsLabel_64_3 : ab_X rom K cX9_readsLabel 7 0 64 ls [w2, w1, .ref a, v0, v1, v2] hp = if ab_iso hp a 7 = true then (K 157 (.ref a :: [w1, w2]) hp).bind (fun o => ab_X rom K cX9_readsLabel 7 0 67 ls (o.1.toList ++ [v0, v1, v2]) o.2) else none := ay_virtual (as := [w1, w2]) (st := [v0, v1, v2]) dX9_readsLabel_64 kc_7_147 rfl rfl (Nat.le_of_ble_eq_true rfl)
theorem dX9_readsLabel_67 : decode cX9_readsLabel 67 = .ok (.istore_n 3, 1) := by decide +kernel
theorem sX9_readsLabel_67i : ab_X rom K cX9_readsLabel 7 0 67 (v0 :: v1 :: .int y :: v3 :: ls) (.int x :: st) hp = ab_X rom K cX9_readsLabel 7 0 68 (v0 :: v1 :: .int y :: .int x :: ls) st hp := ax_istore_n dX9_readsLabel_67 (ax_lt (v := v3) rfl) (ab_nl_c1 (j := 2) (v := .int y) rfl (ab_c1_int _)) rfl rfl
theorem sX9_readsLabel_67r : ab_X rom K cX9_readsLabel 7 0 67 (v0 :: v1 :: .ref a2 :: v3 :: ls) (.int x :: st) hp = ab_X rom K cX9_readsLabel 7 0 68 (v0 :: v1 :: .ref a2 :: .int x :: ls) st hp := ax_istore_n dX9_readsLabel_67 (ax_lt (v := v3) rfl) (ab_nl_c1 (j := 2) (v := .ref a2) rfl (ab_c1_ref _)) rfl rfl
theorem sX9_readsLabel_67n : ab_X rom K cX9_readsLabel 7 0 67 (v0 :: v1 :: .null :: v3 :: ls) (.int x :: st) hp = ab_X rom K cX9_readsLabel 7 0 68 (v0 :: v1 :: .null :: .int x :: ls) st hp := ax_istore_n dX9_readsLabel_67 (ax_lt (v := v3) rfl) (ab_nl_c1 (j := 2) (v := .null) rfl ab_c1_null) rfl rfl
theorem dX9_readsLabel_68 : decode cX9_readsLabel 68 = .ok (.aload_n 0, 1) := by decide +kernel
theorem sX9_readsLabel_68 : ab_X rom K cX9_readsLabel 7 0 68 (.ref a :: ls) st hp = ab_X rom K cX9_readsLabel 7 0 69 (.ref a :: ls) (.ref a :: st) hp := ax_aload_n dX9_readsLabel_68 rfl rfl
theorem dX9_readsLabel_69 : decode cX9_readsLabel 69 = .ok (.invokevirtual 134, 3) := by decide +kernel
theorem sX9_readsLabel_69_0 : ab_X rom K cX9_readsLabel 7 0 69 ls [.ref a] hp = if ab_iso hp a 7 = true then (K 207 (.ref a :: []) hp).bind (fun o => ab_X rom K cX9_readsLabel 7 0 72 ls (o.1.toList ++ []) o.2) else none := ay_virtual (as := []) (st := []) dX9_readsLabel_69 kc_7_134 rfl rfl (Nat.le_of_ble_eq_true rfl)
theorem sX9_readsLabel_69_1 : ab_X rom K cX9_readsLabel 7 0 69 ls [.ref a, v0] hp = if ab_iso hp a 7 = true then (K 207 (.ref a :: []) hp).bind (fun o => ab_X rom K cX9_readsLabel 7 0 72 ls (o.1.toList ++ [v0]) o.2) else none := ay_virtual (as := []) (st := [v0]) dX9_readsLabel_69 kc_7_134 rfl rfl (Nat.le_of_ble_eq_true rfl)
theorem sX9_readsLabel_69_2 : ab_X rom K cX9_readsLabel 7 0 69 ls [.ref a, v0, v1] hp = if ab_iso hp a 7 = true then (K 207 (.ref a :: []) hp).bind (fun o => ab_X rom K cX9_readsLabel 7 0 72 ls (o.1.toList ++ [v0, v1]) o.2) else none := ay_virtual (as := []) (st := [v0, v1]) dX9_readsLabel_69 kc_7_134 rfl rfl (Nat.le_of_ble_eq_true rfl)
theorem sX9_readsLabel_69_3 : ab_X rom K cX9_readsLabel 7 0 69 ls [.ref a, v0, v1, v2] hp = if ab_iso hp a 7 = true then (K 207 (.ref a :: []) hp).bind (fun o => ab_X rom K cX9_readsLabel 7 0 72 ls (o.1.toList ++ [v0, v1, v2]) o.2) else none := ay_virtual (as := []) (st := [v0, v1, v2]) dX9_readsLabel_69 kc_7_134 rfl rfl (Nat.le_of_ble_eq_true rfl)
theorem dX9_readsLabel_72 : decode cX9_readsLabel 72 = .ok (.aload_n 0, 1) := by decide +kernel
theorem sX9_readsLabel_72 : ab_X rom K cX9_readsLabel 7 0 72 (.ref a :: ls) st hp = ab_X rom K cX9_readsLabel 7 0 73 (.ref a :: ls) (.ref a :: st) hp := ax_aload_n dX9_readsLabel_72 rfl rfl
theorem dX9_readsLabel_73 : decode cX9_readsLabel 73 = .ok (.getfield 120, 3) := by decide +kernel
theorem sX9_readsLabel_73 : ab_X rom K cX9_readsLabel 7 0 73 ls (.ref a :: st) hp = (ab_fld hp a 7 12).bind (fun v => ab_X rom K cX9_readsLabel 7 0 76 ls (v :: st) hp) := ax_getfield dX9_readsLabel_73 kf_7_120 rfl
theorem dX9_readsLabel_76 : decode cX9_readsLabel 76 = .ok (.ifCond .ne 18, 3) := by decide +kernel
theorem sX9_readsLabel_76 : ab_X rom K cX9_readsLabel 7 0 76 ls (.int x :: st) hp = if x = 0 then ab_X rom K cX9_readsLabel 7 0 79 ls st hp else ab_X rom K cX9_readsLabel 7 0 94 ls st hp := ax_if_ne dX9_readsLabel_76 (by decide) rfl
theorem dX9_readsLabel_79 : decode cX9_readsLabel 79 = .ok (.aload_n 0, 1) := by decide +kernel
theorem sX9_readsLabel_79 : ab_X rom K cX9_readsLabel 7 0 79 (.ref a :: ls) st hp = ab_X rom K cX9_readsLabel 7 0 80 (.ref a :: ls) (.ref a :: st) hp := ax_aload_n dX9_readsLabel_79 rfl rfl
theorem dX9_readsLabel_80 : decode cX9_readsLabel 80 = .ok (.getfield 7, 3) := by decide +kernel
theorem sX9_readsLabel_80 : ab_X rom K cX9_readsLabel 7 0 80 ls (.ref a :: st) hp = (ab_fld hp a 7 0).bind (fun v => ab_X rom K cX9_readsLabel 7 0 83 ls (v :: st) hp) := ax_getfield dX9_readsLabel_80 kf_7_7 rfl
theorem dX9_readsLabel_83 : decode cX9_readsLabel 83 = .ok (.bipush 15, 2) := by decide +kernel
theorem sX9_readsLabel_83 : ab_X rom K cX9_readsLabel 7 0 83 ls st hp = ab_X rom K cX9_readsLabel 7 0 85 ls (.int 15 :: st) hp := ax_bipush dX9_readsLabel_83 (by decide) rfl
theorem dX9_readsLabel_85 : decode cX9_readsLabel 85 = .ok (.iload_n 1, 1) := by decide +kernel
theorem sX9_readsLabel_85 : ab_X rom K cX9_readsLabel 7 0 85 (v0 :: .int x :: ls) st hp = ab_X rom K cX9_readsLabel 7 0 86 (v0 :: .int x :: ls) (.int x :: st) hp := ax_iload_n dX9_readsLabel_85 rfl rfl
theorem dX9_readsLabel_86 : decode cX9_readsLabel 86 = .ok (.imul, 1) := by decide +kernel
theorem sX9_readsLabel_86 : ab_X rom K cX9_readsLabel 7 0 86 ls (.int y :: .int x :: st) hp = ab_X rom K cX9_readsLabel 7 0 87 ls (.int (x * y) :: st) hp := ax_imul dX9_readsLabel_86 rfl
theorem dX9_readsLabel_87 : decode cX9_readsLabel 87 = .ok (.bipush 8, 2) := by decide +kernel
theorem sX9_readsLabel_87 : ab_X rom K cX9_readsLabel 7 0 87 ls st hp = ab_X rom K cX9_readsLabel 7 0 89 ls (.int 8 :: st) hp := ax_bipush dX9_readsLabel_87 (by decide) rfl
theorem dX9_readsLabel_89 : decode cX9_readsLabel 89 = .ok (.iadd, 1) := by decide +kernel
theorem sX9_readsLabel_89 : ab_X rom K cX9_readsLabel 7 0 89 ls (.int y :: .int x :: st) hp = ab_X rom K cX9_readsLabel 7 0 90 ls (.int (x + y) :: st) hp := ax_iadd dX9_readsLabel_89 rfl
theorem dX9_readsLabel_90 : decode cX9_readsLabel 90 = .ok (.iload_n 2, 1) := by decide +kernel
theorem sX9_readsLabel_90 : ab_X rom K cX9_readsLabel 7 0 90 (v0 :: v1 :: .int x :: ls) st hp = ab_X rom K cX9_readsLabel 7 0 91 (v0 :: v1 :: .int x :: ls) (.int x :: st) hp := ax_iload_n dX9_readsLabel_90 rfl rfl
theorem dX9_readsLabel_91 : decode cX9_readsLabel 91 = .ok (.iadd, 1) := by decide +kernel
theorem sX9_readsLabel_91 : ab_X rom K cX9_readsLabel 7 0 91 ls (.int y :: .int x :: st) hp = ab_X rom K cX9_readsLabel 7 0 92 ls (.int (x + y) :: st) hp := ax_iadd dX9_readsLabel_91 rfl
theorem dX9_readsLabel_92 : decode cX9_readsLabel 92 = .ok (.iload_n 3, 1) := by decide +kernel
theorem sX9_readsLabel_92 : ab_X rom K cX9_readsLabel 7 0 92 (v0 :: v1 :: v2 :: .int x :: ls) st hp = ab_X rom K cX9_readsLabel 7 0 93 (v0 :: v1 :: v2 :: .int x :: ls) (.int x :: st) hp := ax_iload_n dX9_readsLabel_92 rfl rfl
theorem dX9_readsLabel_93 : decode cX9_readsLabel 93 = .ok (.iastore, 1) := by decide +kernel
theorem sX9_readsLabel_93 : ab_X rom K cX9_readsLabel 7 0 93 ls (.int y :: .int x :: .ref a :: st) hp = (ab_awr 0 hp a x y).bind (fun hp' => ab_X rom K cX9_readsLabel 7 0 94 ls st hp') := ax_iastore dX9_readsLabel_93 rfl
theorem dX9_readsLabel_94 : decode cX9_readsLabel 94 = .ok (.return_, 1) := by decide +kernel
theorem sX9_readsLabel_94 : ab_X rom K cX9_readsLabel 7 0 94 ls [] hp = some (none, hp) := ax_vret dX9_readsLabel_94 (by decide)
theorem tX9_readsLine : ab_mT[212]? = some (yX9_readsLine, cX9_readsLine, 4, 0, 7) := by decide +kernel
theorem mX9_readsLine {d : Nat} {a0 : Nat} {x0 : Int32} : ab_M rom (d + 1) 212 [.ref a0, .int x0] hp = ab_X rom (ab_M rom d) cX9_readsLine 7 0 0 [.ref a0, .int x0, .null, .null] [] hp := ab_M_eq tX9_readsLine (Nat.le_of_ble_eq_true rfl)
theorem dX9_readsLine_0 : decode cX9_readsLine 0 = .ok (.aload_n 0, 1) := by decide +kernel
theorem sX9_readsLine_0 : ab_X rom K cX9_readsLine 7 0 0 (.ref a :: ls) st hp = ab_X rom K cX9_readsLine 7 0 1 (.ref a :: ls) (.ref a :: st) hp := ax_aload_n dX9_readsLine_0 rfl rfl
theorem dX9_readsLine_1 : decode cX9_readsLine 1 = .ok (.iconst 0, 1) := by decide +kernel
theorem sX9_readsLine_1 : ab_X rom K cX9_readsLine 7 0 1 ls st hp = ab_X rom K cX9_readsLine 7 0 2 ls (.int 0 :: st) hp := ax_iconst dX9_readsLine_1 (by decide) rfl
theorem dX9_readsLine_2 : decode cX9_readsLine 2 = .ok (.aload_n 0, 1) := by decide +kernel
theorem sX9_readsLine_2 : ab_X rom K cX9_readsLine 7 0 2 (.ref a :: ls) st hp = ab_X rom K cX9_readsLine 7 0 3 (.ref a :: ls) (.ref a :: st) hp := ax_aload_n dX9_readsLine_2 rfl rfl
theorem dX9_readsLine_3 : decode cX9_readsLine 3 = .ok (.iload_n 1, 1) := by decide +kernel
theorem sX9_readsLine_3 : ab_X rom K cX9_readsLine 7 0 3 (v0 :: .int x :: ls) st hp = ab_X rom K cX9_readsLine 7 0 4 (v0 :: .int x :: ls) (.int x :: st) hp := ax_iload_n dX9_readsLine_3 rfl rfl
theorem dX9_readsLine_4 : decode cX9_readsLine 4 = .ok (.invokevirtual 64, 3) := by decide +kernel
theorem sX9_readsLine_4_0 : ab_X rom K cX9_readsLine 7 0 4 ls [w1, .ref a] hp = if ab_iso hp a 7 = true then (K 209 (.ref a :: [w1]) hp).bind (fun o => ab_X rom K cX9_readsLine 7 0 7 ls (o.1.toList ++ []) o.2) else none := ay_virtual (as := [w1]) (st := []) dX9_readsLine_4 kc_7_64 rfl rfl (Nat.le_of_ble_eq_true rfl)
theorem sX9_readsLine_4_1 : ab_X rom K cX9_readsLine 7 0 4 ls [w1, .ref a, v0] hp = if ab_iso hp a 7 = true then (K 209 (.ref a :: [w1]) hp).bind (fun o => ab_X rom K cX9_readsLine 7 0 7 ls (o.1.toList ++ [v0]) o.2) else none := ay_virtual (as := [w1]) (st := [v0]) dX9_readsLine_4 kc_7_64 rfl rfl (Nat.le_of_ble_eq_true rfl)
theorem sX9_readsLine_4_2 : ab_X rom K cX9_readsLine 7 0 4 ls [w1, .ref a, v0, v1] hp = if ab_iso hp a 7 = true then (K 209 (.ref a :: [w1]) hp).bind (fun o => ab_X rom K cX9_readsLine 7 0 7 ls (o.1.toList ++ [v0, v1]) o.2) else none := ay_virtual (as := [w1]) (st := [v0, v1]) dX9_readsLine_4 kc_7_64 rfl rfl (Nat.le_of_ble_eq_true rfl)
theorem sX9_readsLine_4_3 : ab_X rom K cX9_readsLine 7 0 4 ls [w1, .ref a, v0, v1, v2] hp = if ab_iso hp a 7 = true then (K 209 (.ref a :: [w1]) hp).bind (fun o => ab_X rom K cX9_readsLine 7 0 7 ls (o.1.toList ++ [v0, v1, v2]) o.2) else none := ay_virtual (as := [w1]) (st := [v0, v1, v2]) dX9_readsLine_4 kc_7_64 rfl rfl (Nat.le_of_ble_eq_true rfl)
theorem dX9_readsLine_7 : decode cX9_readsLine 7 = .ok (.iconst 1, 1) := by decide +kernel
theorem sX9_readsLine_7 : ab_X rom K cX9_readsLine 7 0 7 ls st hp = ab_X rom K cX9_readsLine 7 0 8 ls (.int 1 :: st) hp := ax_iconst dX9_readsLine_7 (by decide) rfl
theorem dX9_readsLine_8 : decode cX9_readsLine 8 = .ok (.isub, 1) := by decide +kernel
theorem sX9_readsLine_8 : ab_X rom K cX9_readsLine 7 0 8 ls (.int y :: .int x :: st) hp = ab_X rom K cX9_readsLine 7 0 9 ls (.int (x - y) :: st) hp := ax_isub dX9_readsLine_8 rfl
theorem dX9_readsLine_9 : decode cX9_readsLine 9 = .ok (.invokevirtual 147, 3) := by decide +kernel
theorem sX9_readsLine_9_0 : ab_X rom K cX9_readsLine 7 0 9 ls [w2, w1, .ref a] hp = if ab_iso hp a 7 = true then (K 157 (.ref a :: [w1, w2]) hp).bind (fun o => ab_X rom K cX9_readsLine 7 0 12 ls (o.1.toList ++ []) o.2) else none := ay_virtual (as := [w1, w2]) (st := []) dX9_readsLine_9 kc_7_147 rfl rfl (Nat.le_of_ble_eq_true rfl)
theorem sX9_readsLine_9_1 : ab_X rom K cX9_readsLine 7 0 9 ls [w2, w1, .ref a, v0] hp = if ab_iso hp a 7 = true then (K 157 (.ref a :: [w1, w2]) hp).bind (fun o => ab_X rom K cX9_readsLine 7 0 12 ls (o.1.toList ++ [v0]) o.2) else none := ay_virtual (as := [w1, w2]) (st := [v0]) dX9_readsLine_9 kc_7_147 rfl rfl (Nat.le_of_ble_eq_true rfl)
theorem sX9_readsLine_9_2 : ab_X rom K cX9_readsLine 7 0 9 ls [w2, w1, .ref a, v0, v1] hp = if ab_iso hp a 7 = true then (K 157 (.ref a :: [w1, w2]) hp).bind (fun o => ab_X rom K cX9_readsLine 7 0 12 ls (o.1.toList ++ [v0, v1]) o.2) else none := ay_virtual (as := [w1, w2]) (st := [v0, v1]) dX9_readsLine_9 kc_7_147 rfl rfl (Nat.le_of_ble_eq_true rfl)
theorem sX9_readsLine_9_3 : ab_X rom K cX9_readsLine 7 0 9 ls [w2, w1, .ref a, v0, v1, v2] hp = if ab_iso hp a 7 = true then (K 157 (.ref a :: [w1, w2]) hp).bind (fun o => ab_X rom K cX9_readsLine 7 0 12 ls (o.1.toList ++ [v0, v1, v2]) o.2) else none := ay_virtual (as := [w1, w2]) (st := [v0, v1, v2]) dX9_readsLine_9 kc_7_147 rfl rfl (Nat.le_of_ble_eq_true rfl)
theorem dX9_readsLine_12 : decode cX9_readsLine 12 = .ok (.istore_n 2, 1) := by decide +kernel
theorem sX9_readsLine_12i : ab_X rom K cX9_readsLine 7 0 12 (v0 :: .int y :: v2 :: ls) (.int x :: st) hp = ab_X rom K cX9_readsLine 7 0 13 (v0 :: .int y :: .int x :: ls) st hp := ax_istore_n dX9_readsLine_12 (ax_lt (v := v2) rfl) (ab_nl_c1 (j := 1) (v := .int y) rfl (ab_c1_int _)) rfl rfl
theorem sX9_readsLine_12r : ab_X rom K cX9_readsLine 7 0 12 (v0 :: .ref a2 :: v2 :: ls) (.int x :: st) hp = ab_X rom K cX9_readsLine 7 0 13 (v0 :: .ref a2 :: .int x :: ls) st hp := ax_istore_n dX9_readsLine_12 (ax_lt (v := v2) rfl) (ab_nl_c1 (j := 1) (v := .ref a2) rfl (ab_c1_ref _)) rfl rfl
theorem sX9_readsLine_12n : ab_X rom K cX9_readsLine 7 0 12 (v0 :: .null :: v2 :: ls) (.int x :: st) hp = ab_X rom K cX9_readsLine 7 0 13 (v0 :: .null :: .int x :: ls) st hp := ax_istore_n dX9_readsLine_12 (ax_lt (v := v2) rfl) (ab_nl_c1 (j := 1) (v := .null) rfl ab_c1_null) rfl rfl
theorem dX9_readsLine_13 : decode cX9_readsLine 13 = .ok (.aload_n 0, 1) := by decide +kernel
theorem sX9_readsLine_13 : ab_X rom K cX9_readsLine 7 0 13 (.ref a :: ls) st hp = ab_X rom K cX9_readsLine 7 0 14 (.ref a :: ls) (.ref a :: st) hp := ax_aload_n dX9_readsLine_13 rfl rfl
theorem dX9_readsLine_14 : decode cX9_readsLine 14 = .ok (.getfield 120, 3) := by decide +kernel
theorem sX9_readsLine_14 : ab_X rom K cX9_readsLine 7 0 14 ls (.ref a :: st) hp = (ab_fld hp a 7 12).bind (fun v => ab_X rom K cX9_readsLine 7 0 17 ls (v :: st) hp) := ax_getfield dX9_readsLine_14 kf_7_120 rfl
theorem dX9_readsLine_17 : decode cX9_readsLine 17 = .ok (.ifCond .ne 18, 3) := by decide +kernel
theorem sX9_readsLine_17 : ab_X rom K cX9_readsLine 7 0 17 ls (.int x :: st) hp = if x = 0 then ab_X rom K cX9_readsLine 7 0 20 ls st hp else ab_X rom K cX9_readsLine 7 0 35 ls st hp := ax_if_ne dX9_readsLine_17 (by decide) rfl
theorem dX9_readsLine_20 : decode cX9_readsLine 20 = .ok (.aload_n 0, 1) := by decide +kernel
theorem sX9_readsLine_20 : ab_X rom K cX9_readsLine 7 0 20 (.ref a :: ls) st hp = ab_X rom K cX9_readsLine 7 0 21 (.ref a :: ls) (.ref a :: st) hp := ax_aload_n dX9_readsLine_20 rfl rfl
theorem dX9_readsLine_21 : decode cX9_readsLine 21 = .ok (.iload_n 1, 1) := by decide +kernel
theorem sX9_readsLine_21 : ab_X rom K cX9_readsLine 7 0 21 (v0 :: .int x :: ls) st hp = ab_X rom K cX9_readsLine 7 0 22 (v0 :: .int x :: ls) (.int x :: st) hp := ax_iload_n dX9_readsLine_21 rfl rfl
theorem dX9_readsLine_22 : decode cX9_readsLine 22 = .ok (.invokevirtual 150, 3) := by decide +kernel
theorem sX9_readsLine_22_0 : ab_X rom K cX9_readsLine 7 0 22 ls [w1, .ref a] hp = if ab_iso hp a 7 = true then (K 188 (.ref a :: [w1]) hp).bind (fun o => ab_X rom K cX9_readsLine 7 0 25 ls (o.1.toList ++ []) o.2) else none := ay_virtual (as := [w1]) (st := []) dX9_readsLine_22 kc_7_150 rfl rfl (Nat.le_of_ble_eq_true rfl)
theorem sX9_readsLine_22_1 : ab_X rom K cX9_readsLine 7 0 22 ls [w1, .ref a, v0] hp = if ab_iso hp a 7 = true then (K 188 (.ref a :: [w1]) hp).bind (fun o => ab_X rom K cX9_readsLine 7 0 25 ls (o.1.toList ++ [v0]) o.2) else none := ay_virtual (as := [w1]) (st := [v0]) dX9_readsLine_22 kc_7_150 rfl rfl (Nat.le_of_ble_eq_true rfl)
theorem sX9_readsLine_22_2 : ab_X rom K cX9_readsLine 7 0 22 ls [w1, .ref a, v0, v1] hp = if ab_iso hp a 7 = true then (K 188 (.ref a :: [w1]) hp).bind (fun o => ab_X rom K cX9_readsLine 7 0 25 ls (o.1.toList ++ [v0, v1]) o.2) else none := ay_virtual (as := [w1]) (st := [v0, v1]) dX9_readsLine_22 kc_7_150 rfl rfl (Nat.le_of_ble_eq_true rfl)
theorem sX9_readsLine_22_3 : ab_X rom K cX9_readsLine 7 0 22 ls [w1, .ref a, v0, v1, v2] hp = if ab_iso hp a 7 = true then (K 188 (.ref a :: [w1]) hp).bind (fun o => ab_X rom K cX9_readsLine 7 0 25 ls (o.1.toList ++ [v0, v1, v2]) o.2) else none := ay_virtual (as := [w1]) (st := [v0, v1, v2]) dX9_readsLine_22 kc_7_150 rfl rfl (Nat.le_of_ble_eq_true rfl)
theorem dX9_readsLine_25 : decode cX9_readsLine 25 = .ok (.bipush 10, 2) := by decide +kernel
theorem sX9_readsLine_25 : ab_X rom K cX9_readsLine 7 0 25 ls st hp = ab_X rom K cX9_readsLine 7 0 27 ls (.int 10 :: st) hp := ax_bipush dX9_readsLine_25 (by decide) rfl
theorem dX9_readsLine_27 : decode cX9_readsLine 27 = .ok (.if_icmp .ne 8, 3) := by decide +kernel
theorem sX9_readsLine_27 : ab_X rom K cX9_readsLine 7 0 27 ls (.int y :: .int x :: st) hp = if x = y then ab_X rom K cX9_readsLine 7 0 30 ls st hp else ab_X rom K cX9_readsLine 7 0 35 ls st hp := ax_icmp_ne dX9_readsLine_27 (by decide) rfl
theorem dX9_readsLine_30 : decode cX9_readsLine 30 = .ok (.aload_n 0, 1) := by decide +kernel
theorem sX9_readsLine_30 : ab_X rom K cX9_readsLine 7 0 30 (.ref a :: ls) st hp = ab_X rom K cX9_readsLine 7 0 31 (.ref a :: ls) (.ref a :: st) hp := ax_aload_n dX9_readsLine_30 rfl rfl
theorem dX9_readsLine_31 : decode cX9_readsLine 31 = .ok (.iconst 4, 1) := by decide +kernel
theorem sX9_readsLine_31 : ab_X rom K cX9_readsLine 7 0 31 ls st hp = ab_X rom K cX9_readsLine 7 0 32 ls (.int 4 :: st) hp := ax_iconst dX9_readsLine_31 (by decide) rfl
theorem dX9_readsLine_32 : decode cX9_readsLine 32 = .ok (.invokevirtual 130, 3) := by decide +kernel
theorem sX9_readsLine_32_0 : ab_X rom K cX9_readsLine 7 0 32 ls [w1, .ref a] hp = if ab_iso hp a 7 = true then (K 152 (.ref a :: [w1]) hp).bind (fun o => ab_X rom K cX9_readsLine 7 0 35 ls (o.1.toList ++ []) o.2) else none := ay_virtual (as := [w1]) (st := []) dX9_readsLine_32 kc_7_130 rfl rfl (Nat.le_of_ble_eq_true rfl)
theorem sX9_readsLine_32_1 : ab_X rom K cX9_readsLine 7 0 32 ls [w1, .ref a, v0] hp = if ab_iso hp a 7 = true then (K 152 (.ref a :: [w1]) hp).bind (fun o => ab_X rom K cX9_readsLine 7 0 35 ls (o.1.toList ++ [v0]) o.2) else none := ay_virtual (as := [w1]) (st := [v0]) dX9_readsLine_32 kc_7_130 rfl rfl (Nat.le_of_ble_eq_true rfl)
theorem sX9_readsLine_32_2 : ab_X rom K cX9_readsLine 7 0 32 ls [w1, .ref a, v0, v1] hp = if ab_iso hp a 7 = true then (K 152 (.ref a :: [w1]) hp).bind (fun o => ab_X rom K cX9_readsLine 7 0 35 ls (o.1.toList ++ [v0, v1]) o.2) else none := ay_virtual (as := [w1]) (st := [v0, v1]) dX9_readsLine_32 kc_7_130 rfl rfl (Nat.le_of_ble_eq_true rfl)
theorem sX9_readsLine_32_3 : ab_X rom K cX9_readsLine 7 0 32 ls [w1, .ref a, v0, v1, v2] hp = if ab_iso hp a 7 = true then (K 152 (.ref a :: [w1]) hp).bind (fun o => ab_X rom K cX9_readsLine 7 0 35 ls (o.1.toList ++ [v0, v1, v2]) o.2) else none := ay_virtual (as := [w1]) (st := [v0, v1, v2]) dX9_readsLine_32 kc_7_130 rfl rfl (Nat.le_of_ble_eq_true rfl)
theorem dX9_readsLine_35 : decode cX9_readsLine 35 = .ok (.aload_n 0, 1) := by decide +kernel
theorem sX9_readsLine_35 : ab_X rom K cX9_readsLine 7 0 35 (.ref a :: ls) st hp = ab_X rom K cX9_readsLine 7 0 36 (.ref a :: ls) (.ref a :: st) hp := ax_aload_n dX9_readsLine_35 rfl rfl
theorem dX9_readsLine_36 : decode cX9_readsLine 36 = .ok (.invokevirtual 134, 3) := by decide +kernel
theorem sX9_readsLine_36_0 : ab_X rom K cX9_readsLine 7 0 36 ls [.ref a] hp = if ab_iso hp a 7 = true then (K 207 (.ref a :: []) hp).bind (fun o => ab_X rom K cX9_readsLine 7 0 39 ls (o.1.toList ++ []) o.2) else none := ay_virtual (as := []) (st := []) dX9_readsLine_36 kc_7_134 rfl rfl (Nat.le_of_ble_eq_true rfl)
theorem sX9_readsLine_36_1 : ab_X rom K cX9_readsLine 7 0 36 ls [.ref a, v0] hp = if ab_iso hp a 7 = true then (K 207 (.ref a :: []) hp).bind (fun o => ab_X rom K cX9_readsLine 7 0 39 ls (o.1.toList ++ [v0]) o.2) else none := ay_virtual (as := []) (st := [v0]) dX9_readsLine_36 kc_7_134 rfl rfl (Nat.le_of_ble_eq_true rfl)
theorem sX9_readsLine_36_2 : ab_X rom K cX9_readsLine 7 0 36 ls [.ref a, v0, v1] hp = if ab_iso hp a 7 = true then (K 207 (.ref a :: []) hp).bind (fun o => ab_X rom K cX9_readsLine 7 0 39 ls (o.1.toList ++ [v0, v1]) o.2) else none := ay_virtual (as := []) (st := [v0, v1]) dX9_readsLine_36 kc_7_134 rfl rfl (Nat.le_of_ble_eq_true rfl)
theorem sX9_readsLine_36_3 : ab_X rom K cX9_readsLine 7 0 36 ls [.ref a, v0, v1, v2] hp = if ab_iso hp a 7 = true then (K 207 (.ref a :: []) hp).bind (fun o => ab_X rom K cX9_readsLine 7 0 39 ls (o.1.toList ++ [v0, v1, v2]) o.2) else none := ay_virtual (as := []) (st := [v0, v1, v2]) dX9_readsLine_36 kc_7_134 rfl rfl (Nat.le_of_ble_eq_true rfl)
theorem dX9_readsLine_39 : decode cX9_readsLine 39 = .ok (.aload_n 0, 1) := by decide +kernel
theorem sX9_readsLine_39 : ab_X rom K cX9_readsLine 7 0 39 (.ref a :: ls) st hp = ab_X rom K cX9_readsLine 7 0 40 (.ref a :: ls) (.ref a :: st) hp := ax_aload_n dX9_readsLine_39 rfl rfl
theorem dX9_readsLine_40 : decode cX9_readsLine 40 = .ok (.aload_n 0, 1) := by decide +kernel
theorem sX9_readsLine_40 : ab_X rom K cX9_readsLine 7 0 40 (.ref a :: ls) st hp = ab_X rom K cX9_readsLine 7 0 41 (.ref a :: ls) (.ref a :: st) hp := ax_aload_n dX9_readsLine_40 rfl rfl
theorem dX9_readsLine_41 : decode cX9_readsLine 41 = .ok (.bipush 45, 2) := by decide +kernel
theorem sX9_readsLine_41 : ab_X rom K cX9_readsLine 7 0 41 ls st hp = ab_X rom K cX9_readsLine 7 0 43 ls (.int 45 :: st) hp := ax_bipush dX9_readsLine_41 (by decide) rfl
theorem dX9_readsLine_43 : decode cX9_readsLine 43 = .ok (.invokevirtual 153, 3) := by decide +kernel
theorem sX9_readsLine_43_0 : ab_X rom K cX9_readsLine 7 0 43 ls [w1, .ref a] hp = if ab_iso hp a 7 = true then (K 174 (.ref a :: [w1]) hp).bind (fun o => ab_X rom K cX9_readsLine 7 0 46 ls (o.1.toList ++ []) o.2) else none := ay_virtual (as := [w1]) (st := []) dX9_readsLine_43 kc_7_153 rfl rfl (Nat.le_of_ble_eq_true rfl)
theorem sX9_readsLine_43_1 : ab_X rom K cX9_readsLine 7 0 43 ls [w1, .ref a, v0] hp = if ab_iso hp a 7 = true then (K 174 (.ref a :: [w1]) hp).bind (fun o => ab_X rom K cX9_readsLine 7 0 46 ls (o.1.toList ++ [v0]) o.2) else none := ay_virtual (as := [w1]) (st := [v0]) dX9_readsLine_43 kc_7_153 rfl rfl (Nat.le_of_ble_eq_true rfl)
theorem sX9_readsLine_43_2 : ab_X rom K cX9_readsLine 7 0 43 ls [w1, .ref a, v0, v1] hp = if ab_iso hp a 7 = true then (K 174 (.ref a :: [w1]) hp).bind (fun o => ab_X rom K cX9_readsLine 7 0 46 ls (o.1.toList ++ [v0, v1]) o.2) else none := ay_virtual (as := [w1]) (st := [v0, v1]) dX9_readsLine_43 kc_7_153 rfl rfl (Nat.le_of_ble_eq_true rfl)
theorem sX9_readsLine_43_3 : ab_X rom K cX9_readsLine 7 0 43 ls [w1, .ref a, v0, v1, v2] hp = if ab_iso hp a 7 = true then (K 174 (.ref a :: [w1]) hp).bind (fun o => ab_X rom K cX9_readsLine 7 0 46 ls (o.1.toList ++ [v0, v1, v2]) o.2) else none := ay_virtual (as := [w1]) (st := [v0, v1, v2]) dX9_readsLine_43 kc_7_153 rfl rfl (Nat.le_of_ble_eq_true rfl)
theorem dX9_readsLine_46 : decode cX9_readsLine 46 = .ok (.invokevirtual 156, 3) := by decide +kernel
theorem sX9_readsLine_46_0 : ab_X rom K cX9_readsLine 7 0 46 ls [w1, .ref a] hp = if ab_iso hp a 7 = true then (K 201 (.ref a :: [w1]) hp).bind (fun o => ab_X rom K cX9_readsLine 7 0 49 ls (o.1.toList ++ []) o.2) else none := ay_virtual (as := [w1]) (st := []) dX9_readsLine_46 kc_7_156 rfl rfl (Nat.le_of_ble_eq_true rfl)
theorem sX9_readsLine_46_1 : ab_X rom K cX9_readsLine 7 0 46 ls [w1, .ref a, v0] hp = if ab_iso hp a 7 = true then (K 201 (.ref a :: [w1]) hp).bind (fun o => ab_X rom K cX9_readsLine 7 0 49 ls (o.1.toList ++ [v0]) o.2) else none := ay_virtual (as := [w1]) (st := [v0]) dX9_readsLine_46 kc_7_156 rfl rfl (Nat.le_of_ble_eq_true rfl)
theorem sX9_readsLine_46_2 : ab_X rom K cX9_readsLine 7 0 46 ls [w1, .ref a, v0, v1] hp = if ab_iso hp a 7 = true then (K 201 (.ref a :: [w1]) hp).bind (fun o => ab_X rom K cX9_readsLine 7 0 49 ls (o.1.toList ++ [v0, v1]) o.2) else none := ay_virtual (as := [w1]) (st := [v0, v1]) dX9_readsLine_46 kc_7_156 rfl rfl (Nat.le_of_ble_eq_true rfl)
theorem sX9_readsLine_46_3 : ab_X rom K cX9_readsLine 7 0 46 ls [w1, .ref a, v0, v1, v2] hp = if ab_iso hp a 7 = true then (K 201 (.ref a :: [w1]) hp).bind (fun o => ab_X rom K cX9_readsLine 7 0 49 ls (o.1.toList ++ [v0, v1, v2]) o.2) else none := ay_virtual (as := [w1]) (st := [v0, v1, v2]) dX9_readsLine_46 kc_7_156 rfl rfl (Nat.le_of_ble_eq_true rfl)
theorem dX9_readsLine_49 : decode cX9_readsLine 49 = .ok (.aload_n 0, 1) := by decide +kernel
theorem sX9_readsLine_49 : ab_X rom K cX9_readsLine 7 0 49 (.ref a :: ls) st hp = ab_X rom K cX9_readsLine 7 0 50 (.ref a :: ls) (.ref a :: st) hp := ax_aload_n dX9_readsLine_49 rfl rfl
theorem dX9_readsLine_50 : decode cX9_readsLine 50 = .ok (.getfield 120, 3) := by decide +kernel
theorem sX9_readsLine_50 : ab_X rom K cX9_readsLine 7 0 50 ls (.ref a :: st) hp = (ab_fld hp a 7 12).bind (fun v => ab_X rom K cX9_readsLine 7 0 53 ls (v :: st) hp) := ax_getfield dX9_readsLine_50 kf_7_120 rfl
theorem dX9_readsLine_53 : decode cX9_readsLine 53 = .ok (.ifCond .eq 7, 3) := by decide +kernel
theorem sX9_readsLine_53 : ab_X rom K cX9_readsLine 7 0 53 ls (.int x :: st) hp = if x = 0 then ab_X rom K cX9_readsLine 7 0 60 ls st hp else ab_X rom K cX9_readsLine 7 0 56 ls st hp := ax_if_eq dX9_readsLine_53 (by decide) rfl
theorem dX9_readsLine_56 : decode cX9_readsLine 56 = .ok (.iconst 0, 1) := by decide +kernel
theorem sX9_readsLine_56 : ab_X rom K cX9_readsLine 7 0 56 ls st hp = ab_X rom K cX9_readsLine 7 0 57 ls (.int 0 :: st) hp := ax_iconst dX9_readsLine_56 (by decide) rfl
theorem dX9_readsLine_57 : decode cX9_readsLine 57 = .ok (.goto 15, 3) := by decide +kernel
theorem sX9_readsLine_57 : ab_X rom K cX9_readsLine 7 0 57 ls st hp = ab_X rom K cX9_readsLine 7 0 72 ls st hp := ax_goto dX9_readsLine_57 (by decide)
theorem dX9_readsLine_60 : decode cX9_readsLine 60 = .ok (.aload_n 0, 1) := by decide +kernel
theorem sX9_readsLine_60 : ab_X rom K cX9_readsLine 7 0 60 (.ref a :: ls) st hp = ab_X rom K cX9_readsLine 7 0 61 (.ref a :: ls) (.ref a :: st) hp := ax_aload_n dX9_readsLine_60 rfl rfl
theorem dX9_readsLine_61 : decode cX9_readsLine 61 = .ok (.iconst 0, 1) := by decide +kernel
theorem sX9_readsLine_61 : ab_X rom K cX9_readsLine 7 0 61 ls st hp = ab_X rom K cX9_readsLine 7 0 62 ls (.int 0 :: st) hp := ax_iconst dX9_readsLine_61 (by decide) rfl
theorem dX9_readsLine_62 : decode cX9_readsLine 62 = .ok (.aload_n 0, 1) := by decide +kernel
theorem sX9_readsLine_62 : ab_X rom K cX9_readsLine 7 0 62 (.ref a :: ls) st hp = ab_X rom K cX9_readsLine 7 0 63 (.ref a :: ls) (.ref a :: st) hp := ax_aload_n dX9_readsLine_62 rfl rfl
theorem dX9_readsLine_63 : decode cX9_readsLine 63 = .ok (.iload_n 1, 1) := by decide +kernel
theorem sX9_readsLine_63 : ab_X rom K cX9_readsLine 7 0 63 (v0 :: .int x :: ls) st hp = ab_X rom K cX9_readsLine 7 0 64 (v0 :: .int x :: ls) (.int x :: st) hp := ax_iload_n dX9_readsLine_63 rfl rfl
theorem dX9_readsLine_64 : decode cX9_readsLine 64 = .ok (.invokevirtual 64, 3) := by decide +kernel
theorem sX9_readsLine_64_0 : ab_X rom K cX9_readsLine 7 0 64 ls [w1, .ref a] hp = if ab_iso hp a 7 = true then (K 209 (.ref a :: [w1]) hp).bind (fun o => ab_X rom K cX9_readsLine 7 0 67 ls (o.1.toList ++ []) o.2) else none := ay_virtual (as := [w1]) (st := []) dX9_readsLine_64 kc_7_64 rfl rfl (Nat.le_of_ble_eq_true rfl)
theorem sX9_readsLine_64_1 : ab_X rom K cX9_readsLine 7 0 64 ls [w1, .ref a, v0] hp = if ab_iso hp a 7 = true then (K 209 (.ref a :: [w1]) hp).bind (fun o => ab_X rom K cX9_readsLine 7 0 67 ls (o.1.toList ++ [v0]) o.2) else none := ay_virtual (as := [w1]) (st := [v0]) dX9_readsLine_64 kc_7_64 rfl rfl (Nat.le_of_ble_eq_true rfl)
theorem sX9_readsLine_64_2 : ab_X rom K cX9_readsLine 7 0 64 ls [w1, .ref a, v0, v1] hp = if ab_iso hp a 7 = true then (K 209 (.ref a :: [w1]) hp).bind (fun o => ab_X rom K cX9_readsLine 7 0 67 ls (o.1.toList ++ [v0, v1]) o.2) else none := ay_virtual (as := [w1]) (st := [v0, v1]) dX9_readsLine_64 kc_7_64 rfl rfl (Nat.le_of_ble_eq_true rfl)
theorem sX9_readsLine_64_3 : ab_X rom K cX9_readsLine 7 0 64 ls [w1, .ref a, v0, v1, v2] hp = if ab_iso hp a 7 = true then (K 209 (.ref a :: [w1]) hp).bind (fun o => ab_X rom K cX9_readsLine 7 0 67 ls (o.1.toList ++ [v0, v1, v2]) o.2) else none := ay_virtual (as := [w1]) (st := [v0, v1, v2]) dX9_readsLine_64 kc_7_64 rfl rfl (Nat.le_of_ble_eq_true rfl)
theorem dX9_readsLine_67 : decode cX9_readsLine 67 = .ok (.iconst 1, 1) := by decide +kernel
theorem sX9_readsLine_67 : ab_X rom K cX9_readsLine 7 0 67 ls st hp = ab_X rom K cX9_readsLine 7 0 68 ls (.int 1 :: st) hp := ax_iconst dX9_readsLine_67 (by decide) rfl
theorem dX9_readsLine_68 : decode cX9_readsLine 68 = .ok (.isub, 1) := by decide +kernel
theorem sX9_readsLine_68 : ab_X rom K cX9_readsLine 7 0 68 ls (.int y :: .int x :: st) hp = ab_X rom K cX9_readsLine 7 0 69 ls (.int (x - y) :: st) hp := ax_isub dX9_readsLine_68 rfl
theorem dX9_readsLine_69 : decode cX9_readsLine 69 = .ok (.invokevirtual 147, 3) := by decide +kernel
theorem sX9_readsLine_69_0 : ab_X rom K cX9_readsLine 7 0 69 ls [w2, w1, .ref a] hp = if ab_iso hp a 7 = true then (K 157 (.ref a :: [w1, w2]) hp).bind (fun o => ab_X rom K cX9_readsLine 7 0 72 ls (o.1.toList ++ []) o.2) else none := ay_virtual (as := [w1, w2]) (st := []) dX9_readsLine_69 kc_7_147 rfl rfl (Nat.le_of_ble_eq_true rfl)
theorem sX9_readsLine_69_1 : ab_X rom K cX9_readsLine 7 0 69 ls [w2, w1, .ref a, v0] hp = if ab_iso hp a 7 = true then (K 157 (.ref a :: [w1, w2]) hp).bind (fun o => ab_X rom K cX9_readsLine 7 0 72 ls (o.1.toList ++ [v0]) o.2) else none := ay_virtual (as := [w1, w2]) (st := [v0]) dX9_readsLine_69 kc_7_147 rfl rfl (Nat.le_of_ble_eq_true rfl)
theorem sX9_readsLine_69_2 : ab_X rom K cX9_readsLine 7 0 69 ls [w2, w1, .ref a, v0, v1] hp = if ab_iso hp a 7 = true then (K 157 (.ref a :: [w1, w2]) hp).bind (fun o => ab_X rom K cX9_readsLine 7 0 72 ls (o.1.toList ++ [v0, v1]) o.2) else none := ay_virtual (as := [w1, w2]) (st := [v0, v1]) dX9_readsLine_69 kc_7_147 rfl rfl (Nat.le_of_ble_eq_true rfl)
theorem sX9_readsLine_69_3 : ab_X rom K cX9_readsLine 7 0 69 ls [w2, w1, .ref a, v0, v1, v2] hp = if ab_iso hp a 7 = true then (K 157 (.ref a :: [w1, w2]) hp).bind (fun o => ab_X rom K cX9_readsLine 7 0 72 ls (o.1.toList ++ [v0, v1, v2]) o.2) else none := ay_virtual (as := [w1, w2]) (st := [v0, v1, v2]) dX9_readsLine_69 kc_7_147 rfl rfl (Nat.le_of_ble_eq_true rfl)
theorem dX9_readsLine_72 : decode cX9_readsLine 72 = .ok (.istore_n 3, 1) := by decide +kernel
theorem sX9_readsLine_72i : ab_X rom K cX9_readsLine 7 0 72 (v0 :: v1 :: .int y :: v3 :: ls) (.int x :: st) hp = ab_X rom K cX9_readsLine 7 0 73 (v0 :: v1 :: .int y :: .int x :: ls) st hp := ax_istore_n dX9_readsLine_72 (ax_lt (v := v3) rfl) (ab_nl_c1 (j := 2) (v := .int y) rfl (ab_c1_int _)) rfl rfl
theorem sX9_readsLine_72r : ab_X rom K cX9_readsLine 7 0 72 (v0 :: v1 :: .ref a2 :: v3 :: ls) (.int x :: st) hp = ab_X rom K cX9_readsLine 7 0 73 (v0 :: v1 :: .ref a2 :: .int x :: ls) st hp := ax_istore_n dX9_readsLine_72 (ax_lt (v := v3) rfl) (ab_nl_c1 (j := 2) (v := .ref a2) rfl (ab_c1_ref _)) rfl rfl
theorem sX9_readsLine_72n : ab_X rom K cX9_readsLine 7 0 72 (v0 :: v1 :: .null :: v3 :: ls) (.int x :: st) hp = ab_X rom K cX9_readsLine 7 0 73 (v0 :: v1 :: .null :: .int x :: ls) st hp := ax_istore_n dX9_readsLine_72 (ax_lt (v := v3) rfl) (ab_nl_c1 (j := 2) (v := .null) rfl ab_c1_null) rfl rfl
theorem dX9_readsLine_73 : decode cX9_readsLine 73 = .ok (.aload_n 0, 1) := by decide +kernel
theorem sX9_readsLine_73 : ab_X rom K cX9_readsLine 7 0 73 (.ref a :: ls) st hp = ab_X rom K cX9_readsLine 7 0 74 (.ref a :: ls) (.ref a :: st) hp := ax_aload_n dX9_readsLine_73 rfl rfl
theorem dX9_readsLine_74 : decode cX9_readsLine 74 = .ok (.getfield 120, 3) := by decide +kernel
theorem sX9_readsLine_74 : ab_X rom K cX9_readsLine 7 0 74 ls (.ref a :: st) hp = (ab_fld hp a 7 12).bind (fun v => ab_X rom K cX9_readsLine 7 0 77 ls (v :: st) hp) := ax_getfield dX9_readsLine_74 kf_7_120 rfl
theorem dX9_readsLine_77 : decode cX9_readsLine 77 = .ok (.ifCond .ne 13, 3) := by decide +kernel
theorem sX9_readsLine_77 : ab_X rom K cX9_readsLine 7 0 77 ls (.int x :: st) hp = if x = 0 then ab_X rom K cX9_readsLine 7 0 80 ls st hp else ab_X rom K cX9_readsLine 7 0 90 ls st hp := ax_if_ne dX9_readsLine_77 (by decide) rfl
theorem dX9_readsLine_80 : decode cX9_readsLine 80 = .ok (.iload_n 2, 1) := by decide +kernel
theorem sX9_readsLine_80 : ab_X rom K cX9_readsLine 7 0 80 (v0 :: v1 :: .int x :: ls) st hp = ab_X rom K cX9_readsLine 7 0 81 (v0 :: v1 :: .int x :: ls) (.int x :: st) hp := ax_iload_n dX9_readsLine_80 rfl rfl
theorem dX9_readsLine_81 : decode cX9_readsLine 81 = .ok (.iload_n 3, 1) := by decide +kernel
theorem sX9_readsLine_81 : ab_X rom K cX9_readsLine 7 0 81 (v0 :: v1 :: v2 :: .int x :: ls) st hp = ab_X rom K cX9_readsLine 7 0 82 (v0 :: v1 :: v2 :: .int x :: ls) (.int x :: st) hp := ax_iload_n dX9_readsLine_81 rfl rfl
theorem dX9_readsLine_82 : decode cX9_readsLine 82 = .ok (.if_icmp .ne 8, 3) := by decide +kernel
theorem sX9_readsLine_82 : ab_X rom K cX9_readsLine 7 0 82 ls (.int y :: .int x :: st) hp = if x = y then ab_X rom K cX9_readsLine 7 0 85 ls st hp else ab_X rom K cX9_readsLine 7 0 90 ls st hp := ax_icmp_ne dX9_readsLine_82 (by decide) rfl
theorem dX9_readsLine_85 : decode cX9_readsLine 85 = .ok (.aload_n 0, 1) := by decide +kernel
theorem sX9_readsLine_85 : ab_X rom K cX9_readsLine 7 0 85 (.ref a :: ls) st hp = ab_X rom K cX9_readsLine 7 0 86 (.ref a :: ls) (.ref a :: st) hp := ax_aload_n dX9_readsLine_85 rfl rfl
theorem dX9_readsLine_86 : decode cX9_readsLine 86 = .ok (.iconst 2, 1) := by decide +kernel
theorem sX9_readsLine_86 : ab_X rom K cX9_readsLine 7 0 86 ls st hp = ab_X rom K cX9_readsLine 7 0 87 ls (.int 2 :: st) hp := ax_iconst dX9_readsLine_86 (by decide) rfl
theorem dX9_readsLine_87 : decode cX9_readsLine 87 = .ok (.invokevirtual 130, 3) := by decide +kernel
theorem sX9_readsLine_87_0 : ab_X rom K cX9_readsLine 7 0 87 ls [w1, .ref a] hp = if ab_iso hp a 7 = true then (K 152 (.ref a :: [w1]) hp).bind (fun o => ab_X rom K cX9_readsLine 7 0 90 ls (o.1.toList ++ []) o.2) else none := ay_virtual (as := [w1]) (st := []) dX9_readsLine_87 kc_7_130 rfl rfl (Nat.le_of_ble_eq_true rfl)
theorem sX9_readsLine_87_1 : ab_X rom K cX9_readsLine 7 0 87 ls [w1, .ref a, v0] hp = if ab_iso hp a 7 = true then (K 152 (.ref a :: [w1]) hp).bind (fun o => ab_X rom K cX9_readsLine 7 0 90 ls (o.1.toList ++ [v0]) o.2) else none := ay_virtual (as := [w1]) (st := [v0]) dX9_readsLine_87 kc_7_130 rfl rfl (Nat.le_of_ble_eq_true rfl)
theorem sX9_readsLine_87_2 : ab_X rom K cX9_readsLine 7 0 87 ls [w1, .ref a, v0, v1] hp = if ab_iso hp a 7 = true then (K 152 (.ref a :: [w1]) hp).bind (fun o => ab_X rom K cX9_readsLine 7 0 90 ls (o.1.toList ++ [v0, v1]) o.2) else none := ay_virtual (as := [w1]) (st := [v0, v1]) dX9_readsLine_87 kc_7_130 rfl rfl (Nat.le_of_ble_eq_true rfl)
theorem sX9_readsLine_87_3 : ab_X rom K cX9_readsLine 7 0 87 ls [w1, .ref a, v0, v1, v2] hp = if ab_iso hp a 7 = true then (K 152 (.ref a :: [w1]) hp).bind (fun o => ab_X rom K cX9_readsLine 7 0 90 ls (o.1.toList ++ [v0, v1, v2]) o.2) else none := ay_virtual (as := [w1]) (st := [v0, v1, v2]) dX9_readsLine_87 kc_7_130 rfl rfl (Nat.le_of_ble_eq_true rfl)
theorem dX9_readsLine_90 : decode cX9_readsLine 90 = .ok (.aload_n 0, 1) := by decide +kernel
theorem sX9_readsLine_90 : ab_X rom K cX9_readsLine 7 0 90 (.ref a :: ls) st hp = ab_X rom K cX9_readsLine 7 0 91 (.ref a :: ls) (.ref a :: st) hp := ax_aload_n dX9_readsLine_90 rfl rfl
theorem dX9_readsLine_91 : decode cX9_readsLine 91 = .ok (.getfield 120, 3) := by decide +kernel
theorem sX9_readsLine_91 : ab_X rom K cX9_readsLine 7 0 91 ls (.ref a :: st) hp = (ab_fld hp a 7 12).bind (fun v => ab_X rom K cX9_readsLine 7 0 94 ls (v :: st) hp) := ax_getfield dX9_readsLine_91 kf_7_120 rfl
theorem dX9_readsLine_94 : decode cX9_readsLine 94 = .ok (.ifCond .ne 18, 3) := by decide +kernel
theorem sX9_readsLine_94 : ab_X rom K cX9_readsLine 7 0 94 ls (.int x :: st) hp = if x = 0 then ab_X rom K cX9_readsLine 7 0 97 ls st hp else ab_X rom K cX9_readsLine 7 0 112 ls st hp := ax_if_ne dX9_readsLine_94 (by decide) rfl
theorem dX9_readsLine_97 : decode cX9_readsLine 97 = .ok (.aload_n 0, 1) := by decide +kernel
theorem sX9_readsLine_97 : ab_X rom K cX9_readsLine 7 0 97 (.ref a :: ls) st hp = ab_X rom K cX9_readsLine 7 0 98 (.ref a :: ls) (.ref a :: st) hp := ax_aload_n dX9_readsLine_97 rfl rfl
theorem dX9_readsLine_98 : decode cX9_readsLine 98 = .ok (.iload_n 1, 1) := by decide +kernel
theorem sX9_readsLine_98 : ab_X rom K cX9_readsLine 7 0 98 (v0 :: .int x :: ls) st hp = ab_X rom K cX9_readsLine 7 0 99 (v0 :: .int x :: ls) (.int x :: st) hp := ax_iload_n dX9_readsLine_98 rfl rfl
theorem dX9_readsLine_99 : decode cX9_readsLine 99 = .ok (.iload_n 2, 1) := by decide +kernel
theorem sX9_readsLine_99 : ab_X rom K cX9_readsLine 7 0 99 (v0 :: v1 :: .int x :: ls) st hp = ab_X rom K cX9_readsLine 7 0 100 (v0 :: v1 :: .int x :: ls) (.int x :: st) hp := ax_iload_n dX9_readsLine_99 rfl rfl
theorem dX9_readsLine_100 : decode cX9_readsLine 100 = .ok (.iload_n 3, 1) := by decide +kernel
theorem sX9_readsLine_100 : ab_X rom K cX9_readsLine 7 0 100 (v0 :: v1 :: v2 :: .int x :: ls) st hp = ab_X rom K cX9_readsLine 7 0 101 (v0 :: v1 :: v2 :: .int x :: ls) (.int x :: st) hp := ax_iload_n dX9_readsLine_100 rfl rfl
theorem dX9_readsLine_101 : decode cX9_readsLine 101 = .ok (.invokevirtual 160, 3) := by decide +kernel
theorem sX9_readsLine_101_0 : ab_X rom K cX9_readsLine 7 0 101 ls [w3, w2, w1, .ref a] hp = if ab_iso hp a 7 = true then (K 135 (.ref a :: [w1, w2, w3]) hp).bind (fun o => ab_X rom K cX9_readsLine 7 0 104 ls (o.1.toList ++ []) o.2) else none := ay_virtual (as := [w1, w2, w3]) (st := []) dX9_readsLine_101 kc_7_160 rfl rfl (Nat.le_of_ble_eq_true rfl)
theorem sX9_readsLine_101_1 : ab_X rom K cX9_readsLine 7 0 101 ls [w3, w2, w1, .ref a, v0] hp = if ab_iso hp a 7 = true then (K 135 (.ref a :: [w1, w2, w3]) hp).bind (fun o => ab_X rom K cX9_readsLine 7 0 104 ls (o.1.toList ++ [v0]) o.2) else none := ay_virtual (as := [w1, w2, w3]) (st := [v0]) dX9_readsLine_101 kc_7_160 rfl rfl (Nat.le_of_ble_eq_true rfl)
theorem sX9_readsLine_101_2 : ab_X rom K cX9_readsLine 7 0 101 ls [w3, w2, w1, .ref a, v0, v1] hp = if ab_iso hp a 7 = true then (K 135 (.ref a :: [w1, w2, w3]) hp).bind (fun o => ab_X rom K cX9_readsLine 7 0 104 ls (o.1.toList ++ [v0, v1]) o.2) else none := ay_virtual (as := [w1, w2, w3]) (st := [v0, v1]) dX9_readsLine_101 kc_7_160 rfl rfl (Nat.le_of_ble_eq_true rfl)
theorem sX9_readsLine_101_3 : ab_X rom K cX9_readsLine 7 0 101 ls [w3, w2, w1, .ref a, v0, v1, v2] hp = if ab_iso hp a 7 = true then (K 135 (.ref a :: [w1, w2, w3]) hp).bind (fun o => ab_X rom K cX9_readsLine 7 0 104 ls (o.1.toList ++ [v0, v1, v2]) o.2) else none := ay_virtual (as := [w1, w2, w3]) (st := [v0, v1, v2]) dX9_readsLine_101 kc_7_160 rfl rfl (Nat.le_of_ble_eq_true rfl)
theorem dX9_readsLine_104 : decode cX9_readsLine 104 = .ok (.ifCond .eq 8, 3) := by decide +kernel
theorem sX9_readsLine_104 : ab_X rom K cX9_readsLine 7 0 104 ls (.int x :: st) hp = if x = 0 then ab_X rom K cX9_readsLine 7 0 112 ls st hp else ab_X rom K cX9_readsLine 7 0 107 ls st hp := ax_if_eq dX9_readsLine_104 (by decide) rfl
theorem dX9_readsLine_107 : decode cX9_readsLine 107 = .ok (.aload_n 0, 1) := by decide +kernel
theorem sX9_readsLine_107 : ab_X rom K cX9_readsLine 7 0 107 (.ref a :: ls) st hp = ab_X rom K cX9_readsLine 7 0 108 (.ref a :: ls) (.ref a :: st) hp := ax_aload_n dX9_readsLine_107 rfl rfl
theorem dX9_readsLine_108 : decode cX9_readsLine 108 = .ok (.iconst 3, 1) := by decide +kernel
theorem sX9_readsLine_108 : ab_X rom K cX9_readsLine 7 0 108 ls st hp = ab_X rom K cX9_readsLine 7 0 109 ls (.int 3 :: st) hp := ax_iconst dX9_readsLine_108 (by decide) rfl
theorem dX9_readsLine_109 : decode cX9_readsLine 109 = .ok (.invokevirtual 130, 3) := by decide +kernel
theorem sX9_readsLine_109_0 : ab_X rom K cX9_readsLine 7 0 109 ls [w1, .ref a] hp = if ab_iso hp a 7 = true then (K 152 (.ref a :: [w1]) hp).bind (fun o => ab_X rom K cX9_readsLine 7 0 112 ls (o.1.toList ++ []) o.2) else none := ay_virtual (as := [w1]) (st := []) dX9_readsLine_109 kc_7_130 rfl rfl (Nat.le_of_ble_eq_true rfl)
theorem sX9_readsLine_109_1 : ab_X rom K cX9_readsLine 7 0 109 ls [w1, .ref a, v0] hp = if ab_iso hp a 7 = true then (K 152 (.ref a :: [w1]) hp).bind (fun o => ab_X rom K cX9_readsLine 7 0 112 ls (o.1.toList ++ [v0]) o.2) else none := ay_virtual (as := [w1]) (st := [v0]) dX9_readsLine_109 kc_7_130 rfl rfl (Nat.le_of_ble_eq_true rfl)
theorem sX9_readsLine_109_2 : ab_X rom K cX9_readsLine 7 0 109 ls [w1, .ref a, v0, v1] hp = if ab_iso hp a 7 = true then (K 152 (.ref a :: [w1]) hp).bind (fun o => ab_X rom K cX9_readsLine 7 0 112 ls (o.1.toList ++ [v0, v1]) o.2) else none := ay_virtual (as := [w1]) (st := [v0, v1]) dX9_readsLine_109 kc_7_130 rfl rfl (Nat.le_of_ble_eq_true rfl)
theorem sX9_readsLine_109_3 : ab_X rom K cX9_readsLine 7 0 109 ls [w1, .ref a, v0, v1, v2] hp = if ab_iso hp a 7 = true then (K 152 (.ref a :: [w1]) hp).bind (fun o => ab_X rom K cX9_readsLine 7 0 112 ls (o.1.toList ++ [v0, v1, v2]) o.2) else none := ay_virtual (as := [w1]) (st := [v0, v1, v2]) dX9_readsLine_109 kc_7_130 rfl rfl (Nat.le_of_ble_eq_true rfl)
theorem dX9_readsLine_112 : decode cX9_readsLine 112 = .ok (.aload_n 0, 1) := by decide +kernel
theorem sX9_readsLine_112 : ab_X rom K cX9_readsLine 7 0 112 (.ref a :: ls) st hp = ab_X rom K cX9_readsLine 7 0 113 (.ref a :: ls) (.ref a :: st) hp := ax_aload_n dX9_readsLine_112 rfl rfl
theorem dX9_readsLine_113 : decode cX9_readsLine 113 = .ok (.invokevirtual 134, 3) := by decide +kernel
theorem sX9_readsLine_113_0 : ab_X rom K cX9_readsLine 7 0 113 ls [.ref a] hp = if ab_iso hp a 7 = true then (K 207 (.ref a :: []) hp).bind (fun o => ab_X rom K cX9_readsLine 7 0 116 ls (o.1.toList ++ []) o.2) else none := ay_virtual (as := []) (st := []) dX9_readsLine_113 kc_7_134 rfl rfl (Nat.le_of_ble_eq_true rfl)
theorem sX9_readsLine_113_1 : ab_X rom K cX9_readsLine 7 0 113 ls [.ref a, v0] hp = if ab_iso hp a 7 = true then (K 207 (.ref a :: []) hp).bind (fun o => ab_X rom K cX9_readsLine 7 0 116 ls (o.1.toList ++ [v0]) o.2) else none := ay_virtual (as := []) (st := [v0]) dX9_readsLine_113 kc_7_134 rfl rfl (Nat.le_of_ble_eq_true rfl)
theorem sX9_readsLine_113_2 : ab_X rom K cX9_readsLine 7 0 113 ls [.ref a, v0, v1] hp = if ab_iso hp a 7 = true then (K 207 (.ref a :: []) hp).bind (fun o => ab_X rom K cX9_readsLine 7 0 116 ls (o.1.toList ++ [v0, v1]) o.2) else none := ay_virtual (as := []) (st := [v0, v1]) dX9_readsLine_113 kc_7_134 rfl rfl (Nat.le_of_ble_eq_true rfl)
theorem sX9_readsLine_113_3 : ab_X rom K cX9_readsLine 7 0 113 ls [.ref a, v0, v1, v2] hp = if ab_iso hp a 7 = true then (K 207 (.ref a :: []) hp).bind (fun o => ab_X rom K cX9_readsLine 7 0 116 ls (o.1.toList ++ [v0, v1, v2]) o.2) else none := ay_virtual (as := []) (st := [v0, v1, v2]) dX9_readsLine_113 kc_7_134 rfl rfl (Nat.le_of_ble_eq_true rfl)
theorem dX9_readsLine_116 : decode cX9_readsLine 116 = .ok (.aload_n 0, 1) := by decide +kernel
theorem sX9_readsLine_116 : ab_X rom K cX9_readsLine 7 0 116 (.ref a :: ls) st hp = ab_X rom K cX9_readsLine 7 0 117 (.ref a :: ls) (.ref a :: st) hp := ax_aload_n dX9_readsLine_116 rfl rfl
theorem dX9_readsLine_117 : decode cX9_readsLine 117 = .ok (.getfield 120, 3) := by decide +kernel
theorem sX9_readsLine_117 : ab_X rom K cX9_readsLine 7 0 117 ls (.ref a :: st) hp = (ab_fld hp a 7 12).bind (fun v => ab_X rom K cX9_readsLine 7 0 120 ls (v :: st) hp) := ax_getfield dX9_readsLine_117 kf_7_120 rfl
theorem dX9_readsLine_120 : decode cX9_readsLine 120 = .ok (.ifCond .ne 10, 3) := by decide +kernel
theorem sX9_readsLine_120 : ab_X rom K cX9_readsLine 7 0 120 ls (.int x :: st) hp = if x = 0 then ab_X rom K cX9_readsLine 7 0 123 ls st hp else ab_X rom K cX9_readsLine 7 0 130 ls st hp := ax_if_ne dX9_readsLine_120 (by decide) rfl
theorem dX9_readsLine_123 : decode cX9_readsLine 123 = .ok (.aload_n 0, 1) := by decide +kernel
theorem sX9_readsLine_123 : ab_X rom K cX9_readsLine 7 0 123 (.ref a :: ls) st hp = ab_X rom K cX9_readsLine 7 0 124 (.ref a :: ls) (.ref a :: st) hp := ax_aload_n dX9_readsLine_123 rfl rfl
theorem dX9_readsLine_124 : decode cX9_readsLine 124 = .ok (.iload_n 1, 1) := by decide +kernel
theorem sX9_readsLine_124 : ab_X rom K cX9_readsLine 7 0 124 (v0 :: .int x :: ls) st hp = ab_X rom K cX9_readsLine 7 0 125 (v0 :: .int x :: ls) (.int x :: st) hp := ax_iload_n dX9_readsLine_124 rfl rfl
theorem dX9_readsLine_125 : decode cX9_readsLine 125 = .ok (.iload_n 2, 1) := by decide +kernel
theorem sX9_readsLine_125 : ab_X rom K cX9_readsLine 7 0 125 (v0 :: v1 :: .int x :: ls) st hp = ab_X rom K cX9_readsLine 7 0 126 (v0 :: v1 :: .int x :: ls) (.int x :: st) hp := ax_iload_n dX9_readsLine_125 rfl rfl
theorem dX9_readsLine_126 : decode cX9_readsLine 126 = .ok (.iload_n 3, 1) := by decide +kernel
theorem sX9_readsLine_126 : ab_X rom K cX9_readsLine 7 0 126 (v0 :: v1 :: v2 :: .int x :: ls) st hp = ab_X rom K cX9_readsLine 7 0 127 (v0 :: v1 :: v2 :: .int x :: ls) (.int x :: st) hp := ax_iload_n dX9_readsLine_126 rfl rfl
theorem dX9_readsLine_127 : decode cX9_readsLine 127 = .ok (.invokevirtual 164, 3) := by decide +kernel
theorem sX9_readsLine_127_0 : ab_X rom K cX9_readsLine 7 0 127 ls [w3, w2, w1, .ref a] hp = if ab_iso hp a 7 = true then (K 180 (.ref a :: [w1, w2, w3]) hp).bind (fun o => ab_X rom K cX9_readsLine 7 0 130 ls (o.1.toList ++ []) o.2) else none := ay_virtual (as := [w1, w2, w3]) (st := []) dX9_readsLine_127 kc_7_164 rfl rfl (Nat.le_of_ble_eq_true rfl)
theorem sX9_readsLine_127_1 : ab_X rom K cX9_readsLine 7 0 127 ls [w3, w2, w1, .ref a, v0] hp = if ab_iso hp a 7 = true then (K 180 (.ref a :: [w1, w2, w3]) hp).bind (fun o => ab_X rom K cX9_readsLine 7 0 130 ls (o.1.toList ++ [v0]) o.2) else none := ay_virtual (as := [w1, w2, w3]) (st := [v0]) dX9_readsLine_127 kc_7_164 rfl rfl (Nat.le_of_ble_eq_true rfl)
theorem sX9_readsLine_127_2 : ab_X rom K cX9_readsLine 7 0 127 ls [w3, w2, w1, .ref a, v0, v1] hp = if ab_iso hp a 7 = true then (K 180 (.ref a :: [w1, w2, w3]) hp).bind (fun o => ab_X rom K cX9_readsLine 7 0 130 ls (o.1.toList ++ [v0, v1]) o.2) else none := ay_virtual (as := [w1, w2, w3]) (st := [v0, v1]) dX9_readsLine_127 kc_7_164 rfl rfl (Nat.le_of_ble_eq_true rfl)
theorem sX9_readsLine_127_3 : ab_X rom K cX9_readsLine 7 0 127 ls [w3, w2, w1, .ref a, v0, v1, v2] hp = if ab_iso hp a 7 = true then (K 180 (.ref a :: [w1, w2, w3]) hp).bind (fun o => ab_X rom K cX9_readsLine 7 0 130 ls (o.1.toList ++ [v0, v1, v2]) o.2) else none := ay_virtual (as := [w1, w2, w3]) (st := [v0, v1, v2]) dX9_readsLine_127 kc_7_164 rfl rfl (Nat.le_of_ble_eq_true rfl)
theorem dX9_readsLine_130 : decode cX9_readsLine 130 = .ok (.return_, 1) := by decide +kernel
theorem sX9_readsLine_130 : ab_X rom K cX9_readsLine 7 0 130 ls [] hp = some (none, hp) := ax_vret dX9_readsLine_130 (by decide)
theorem tX9_readsNet : ab_mT[213]? = some (yX9_readsNet, cX9_readsNet, 3, 0, 7) := by decide +kernel
theorem mX9_readsNet {d : Nat} {a0 : Nat} {x0 : Int32} : ab_M rom (d + 1) 213 [.ref a0, .int x0] hp = ab_X rom (ab_M rom d) cX9_readsNet 7 0 0 [.ref a0, .int x0, .null] [] hp := ab_M_eq tX9_readsNet (Nat.le_of_ble_eq_true rfl)
theorem dX9_readsNet_0 : decode cX9_readsNet 0 = .ok (.aload_n 0, 1) := by decide +kernel
theorem sX9_readsNet_0 : ab_X rom K cX9_readsNet 7 0 0 (.ref a :: ls) st hp = ab_X rom K cX9_readsNet 7 0 1 (.ref a :: ls) (.ref a :: st) hp := ax_aload_n dX9_readsNet_0 rfl rfl
theorem dX9_readsNet_1 : decode cX9_readsNet 1 = .ok (.aload_n 0, 1) := by decide +kernel
theorem sX9_readsNet_1 : ab_X rom K cX9_readsNet 7 0 1 (.ref a :: ls) st hp = ab_X rom K cX9_readsNet 7 0 2 (.ref a :: ls) (.ref a :: st) hp := ax_aload_n dX9_readsNet_1 rfl rfl
theorem dX9_readsNet_2 : decode cX9_readsNet 2 = .ok (.ldc 171, 2) := by decide +kernel
theorem sX9_readsNet_2 : ab_X rom K cX9_readsNet 7 0 2 ls st hp = ab_X rom K cX9_readsNet 7 0 4 ls (.ref (ab_RO + 8) :: st) hp := ax_ldcs dX9_readsNet_2 kz_7_171 kr_7_171 rfl
theorem dX9_readsNet_4 : decode cX9_readsNet 4 = .ok (.invokevirtual 173, 3) := by decide +kernel
theorem sX9_readsNet_4_0 : ab_X rom K cX9_readsNet 7 0 4 ls [w1, .ref a] hp = if ab_iso hp a 7 = true then (K 178 (.ref a :: [w1]) hp).bind (fun o => ab_X rom K cX9_readsNet 7 0 7 ls (o.1.toList ++ []) o.2) else none := ay_virtual (as := [w1]) (st := []) dX9_readsNet_4 kc_7_173 rfl rfl (Nat.le_of_ble_eq_true rfl)
theorem sX9_readsNet_4_1 : ab_X rom K cX9_readsNet 7 0 4 ls [w1, .ref a, v0] hp = if ab_iso hp a 7 = true then (K 178 (.ref a :: [w1]) hp).bind (fun o => ab_X rom K cX9_readsNet 7 0 7 ls (o.1.toList ++ [v0]) o.2) else none := ay_virtual (as := [w1]) (st := [v0]) dX9_readsNet_4 kc_7_173 rfl rfl (Nat.le_of_ble_eq_true rfl)
theorem sX9_readsNet_4_2 : ab_X rom K cX9_readsNet 7 0 4 ls [w1, .ref a, v0, v1] hp = if ab_iso hp a 7 = true then (K 178 (.ref a :: [w1]) hp).bind (fun o => ab_X rom K cX9_readsNet 7 0 7 ls (o.1.toList ++ [v0, v1]) o.2) else none := ay_virtual (as := [w1]) (st := [v0, v1]) dX9_readsNet_4 kc_7_173 rfl rfl (Nat.le_of_ble_eq_true rfl)
theorem sX9_readsNet_4_3 : ab_X rom K cX9_readsNet 7 0 4 ls [w1, .ref a, v0, v1, v2] hp = if ab_iso hp a 7 = true then (K 178 (.ref a :: [w1]) hp).bind (fun o => ab_X rom K cX9_readsNet 7 0 7 ls (o.1.toList ++ [v0, v1, v2]) o.2) else none := ay_virtual (as := [w1]) (st := [v0, v1, v2]) dX9_readsNet_4 kc_7_173 rfl rfl (Nat.le_of_ble_eq_true rfl)
theorem dX9_readsNet_7 : decode cX9_readsNet 7 = .ok (.invokevirtual 156, 3) := by decide +kernel
theorem sX9_readsNet_7_0 : ab_X rom K cX9_readsNet 7 0 7 ls [w1, .ref a] hp = if ab_iso hp a 7 = true then (K 201 (.ref a :: [w1]) hp).bind (fun o => ab_X rom K cX9_readsNet 7 0 10 ls (o.1.toList ++ []) o.2) else none := ay_virtual (as := [w1]) (st := []) dX9_readsNet_7 kc_7_156 rfl rfl (Nat.le_of_ble_eq_true rfl)
theorem sX9_readsNet_7_1 : ab_X rom K cX9_readsNet 7 0 7 ls [w1, .ref a, v0] hp = if ab_iso hp a 7 = true then (K 201 (.ref a :: [w1]) hp).bind (fun o => ab_X rom K cX9_readsNet 7 0 10 ls (o.1.toList ++ [v0]) o.2) else none := ay_virtual (as := [w1]) (st := [v0]) dX9_readsNet_7 kc_7_156 rfl rfl (Nat.le_of_ble_eq_true rfl)
theorem sX9_readsNet_7_2 : ab_X rom K cX9_readsNet 7 0 7 ls [w1, .ref a, v0, v1] hp = if ab_iso hp a 7 = true then (K 201 (.ref a :: [w1]) hp).bind (fun o => ab_X rom K cX9_readsNet 7 0 10 ls (o.1.toList ++ [v0, v1]) o.2) else none := ay_virtual (as := [w1]) (st := [v0, v1]) dX9_readsNet_7 kc_7_156 rfl rfl (Nat.le_of_ble_eq_true rfl)
theorem sX9_readsNet_7_3 : ab_X rom K cX9_readsNet 7 0 7 ls [w1, .ref a, v0, v1, v2] hp = if ab_iso hp a 7 = true then (K 201 (.ref a :: [w1]) hp).bind (fun o => ab_X rom K cX9_readsNet 7 0 10 ls (o.1.toList ++ [v0, v1, v2]) o.2) else none := ay_virtual (as := [w1]) (st := [v0, v1, v2]) dX9_readsNet_7 kc_7_156 rfl rfl (Nat.le_of_ble_eq_true rfl)
theorem dX9_readsNet_10 : decode cX9_readsNet 10 = .ok (.aload_n 0, 1) := by decide +kernel
theorem sX9_readsNet_10 : ab_X rom K cX9_readsNet 7 0 10 (.ref a :: ls) st hp = ab_X rom K cX9_readsNet 7 0 11 (.ref a :: ls) (.ref a :: st) hp := ax_aload_n dX9_readsNet_10 rfl rfl
theorem dX9_readsNet_11 : decode cX9_readsNet 11 = .ok (.getfield 120, 3) := by decide +kernel
theorem sX9_readsNet_11 : ab_X rom K cX9_readsNet 7 0 11 ls (.ref a :: st) hp = (ab_fld hp a 7 12).bind (fun v => ab_X rom K cX9_readsNet 7 0 14 ls (v :: st) hp) := ax_getfield dX9_readsNet_11 kf_7_120 rfl
theorem dX9_readsNet_14 : decode cX9_readsNet 14 = .ok (.ifCond .eq 7, 3) := by decide +kernel
theorem sX9_readsNet_14 : ab_X rom K cX9_readsNet 7 0 14 ls (.int x :: st) hp = if x = 0 then ab_X rom K cX9_readsNet 7 0 21 ls st hp else ab_X rom K cX9_readsNet 7 0 17 ls st hp := ax_if_eq dX9_readsNet_14 (by decide) rfl
theorem dX9_readsNet_17 : decode cX9_readsNet 17 = .ok (.iconst 1, 1) := by decide +kernel
theorem sX9_readsNet_17 : ab_X rom K cX9_readsNet 7 0 17 ls st hp = ab_X rom K cX9_readsNet 7 0 18 ls (.int 1 :: st) hp := ax_iconst dX9_readsNet_17 (by decide) rfl
theorem dX9_readsNet_18 : decode cX9_readsNet 18 = .ok (.goto 10, 3) := by decide +kernel
theorem sX9_readsNet_18 : ab_X rom K cX9_readsNet 7 0 18 ls st hp = ab_X rom K cX9_readsNet 7 0 28 ls st hp := ax_goto dX9_readsNet_18 (by decide)
theorem dX9_readsNet_21 : decode cX9_readsNet 21 = .ok (.aload_n 0, 1) := by decide +kernel
theorem sX9_readsNet_21 : ab_X rom K cX9_readsNet 7 0 21 (.ref a :: ls) st hp = ab_X rom K cX9_readsNet 7 0 22 (.ref a :: ls) (.ref a :: st) hp := ax_aload_n dX9_readsNet_21 rfl rfl
theorem dX9_readsNet_22 : decode cX9_readsNet 22 = .ok (.iconst 1, 1) := by decide +kernel
theorem sX9_readsNet_22 : ab_X rom K cX9_readsNet 7 0 22 ls st hp = ab_X rom K cX9_readsNet 7 0 23 ls (.int 1 :: st) hp := ax_iconst dX9_readsNet_22 (by decide) rfl
theorem dX9_readsNet_23 : decode cX9_readsNet 23 = .ok (.bipush 7, 2) := by decide +kernel
theorem sX9_readsNet_23 : ab_X rom K cX9_readsNet 7 0 23 ls st hp = ab_X rom K cX9_readsNet 7 0 25 ls (.int 7 :: st) hp := ax_bipush dX9_readsNet_23 (by decide) rfl
theorem dX9_readsNet_25 : decode cX9_readsNet 25 = .ok (.invokevirtual 147, 3) := by decide +kernel
theorem sX9_readsNet_25_0 : ab_X rom K cX9_readsNet 7 0 25 ls [w2, w1, .ref a] hp = if ab_iso hp a 7 = true then (K 157 (.ref a :: [w1, w2]) hp).bind (fun o => ab_X rom K cX9_readsNet 7 0 28 ls (o.1.toList ++ []) o.2) else none := ay_virtual (as := [w1, w2]) (st := []) dX9_readsNet_25 kc_7_147 rfl rfl (Nat.le_of_ble_eq_true rfl)
theorem sX9_readsNet_25_1 : ab_X rom K cX9_readsNet 7 0 25 ls [w2, w1, .ref a, v0] hp = if ab_iso hp a 7 = true then (K 157 (.ref a :: [w1, w2]) hp).bind (fun o => ab_X rom K cX9_readsNet 7 0 28 ls (o.1.toList ++ [v0]) o.2) else none := ay_virtual (as := [w1, w2]) (st := [v0]) dX9_readsNet_25 kc_7_147 rfl rfl (Nat.le_of_ble_eq_true rfl)
theorem sX9_readsNet_25_2 : ab_X rom K cX9_readsNet 7 0 25 ls [w2, w1, .ref a, v0, v1] hp = if ab_iso hp a 7 = true then (K 157 (.ref a :: [w1, w2]) hp).bind (fun o => ab_X rom K cX9_readsNet 7 0 28 ls (o.1.toList ++ [v0, v1]) o.2) else none := ay_virtual (as := [w1, w2]) (st := [v0, v1]) dX9_readsNet_25 kc_7_147 rfl rfl (Nat.le_of_ble_eq_true rfl)
theorem sX9_readsNet_25_3 : ab_X rom K cX9_readsNet 7 0 25 ls [w2, w1, .ref a, v0, v1, v2] hp = if ab_iso hp a 7 = true then (K 157 (.ref a :: [w1, w2]) hp).bind (fun o => ab_X rom K cX9_readsNet 7 0 28 ls (o.1.toList ++ [v0, v1, v2]) o.2) else none := ay_virtual (as := [w1, w2]) (st := [v0, v1, v2]) dX9_readsNet_25 kc_7_147 rfl rfl (Nat.le_of_ble_eq_true rfl)
theorem dX9_readsNet_28 : decode cX9_readsNet 28 = .ok (.istore_n 2, 1) := by decide +kernel
theorem sX9_readsNet_28i : ab_X rom K cX9_readsNet 7 0 28 (v0 :: .int y :: v2 :: ls) (.int x :: st) hp = ab_X rom K cX9_readsNet 7 0 29 (v0 :: .int y :: .int x :: ls) st hp := ax_istore_n dX9_readsNet_28 (ax_lt (v := v2) rfl) (ab_nl_c1 (j := 1) (v := .int y) rfl (ab_c1_int _)) rfl rfl
theorem sX9_readsNet_28r : ab_X rom K cX9_readsNet 7 0 28 (v0 :: .ref a2 :: v2 :: ls) (.int x :: st) hp = ab_X rom K cX9_readsNet 7 0 29 (v0 :: .ref a2 :: .int x :: ls) st hp := ax_istore_n dX9_readsNet_28 (ax_lt (v := v2) rfl) (ab_nl_c1 (j := 1) (v := .ref a2) rfl (ab_c1_ref _)) rfl rfl
theorem sX9_readsNet_28n : ab_X rom K cX9_readsNet 7 0 28 (v0 :: .null :: v2 :: ls) (.int x :: st) hp = ab_X rom K cX9_readsNet 7 0 29 (v0 :: .null :: .int x :: ls) st hp := ax_istore_n dX9_readsNet_28 (ax_lt (v := v2) rfl) (ab_nl_c1 (j := 1) (v := .null) rfl ab_c1_null) rfl rfl
theorem dX9_readsNet_29 : decode cX9_readsNet 29 = .ok (.aload_n 0, 1) := by decide +kernel
theorem sX9_readsNet_29 : ab_X rom K cX9_readsNet 7 0 29 (.ref a :: ls) st hp = ab_X rom K cX9_readsNet 7 0 30 (.ref a :: ls) (.ref a :: st) hp := ax_aload_n dX9_readsNet_29 rfl rfl
theorem dX9_readsNet_30 : decode cX9_readsNet 30 = .ok (.invokevirtual 134, 3) := by decide +kernel
theorem sX9_readsNet_30_0 : ab_X rom K cX9_readsNet 7 0 30 ls [.ref a] hp = if ab_iso hp a 7 = true then (K 207 (.ref a :: []) hp).bind (fun o => ab_X rom K cX9_readsNet 7 0 33 ls (o.1.toList ++ []) o.2) else none := ay_virtual (as := []) (st := []) dX9_readsNet_30 kc_7_134 rfl rfl (Nat.le_of_ble_eq_true rfl)
theorem sX9_readsNet_30_1 : ab_X rom K cX9_readsNet 7 0 30 ls [.ref a, v0] hp = if ab_iso hp a 7 = true then (K 207 (.ref a :: []) hp).bind (fun o => ab_X rom K cX9_readsNet 7 0 33 ls (o.1.toList ++ [v0]) o.2) else none := ay_virtual (as := []) (st := [v0]) dX9_readsNet_30 kc_7_134 rfl rfl (Nat.le_of_ble_eq_true rfl)
theorem sX9_readsNet_30_2 : ab_X rom K cX9_readsNet 7 0 30 ls [.ref a, v0, v1] hp = if ab_iso hp a 7 = true then (K 207 (.ref a :: []) hp).bind (fun o => ab_X rom K cX9_readsNet 7 0 33 ls (o.1.toList ++ [v0, v1]) o.2) else none := ay_virtual (as := []) (st := [v0, v1]) dX9_readsNet_30 kc_7_134 rfl rfl (Nat.le_of_ble_eq_true rfl)
theorem sX9_readsNet_30_3 : ab_X rom K cX9_readsNet 7 0 30 ls [.ref a, v0, v1, v2] hp = if ab_iso hp a 7 = true then (K 207 (.ref a :: []) hp).bind (fun o => ab_X rom K cX9_readsNet 7 0 33 ls (o.1.toList ++ [v0, v1, v2]) o.2) else none := ay_virtual (as := []) (st := [v0, v1, v2]) dX9_readsNet_30 kc_7_134 rfl rfl (Nat.le_of_ble_eq_true rfl)
theorem dX9_readsNet_33 : decode cX9_readsNet 33 = .ok (.aload_n 0, 1) := by decide +kernel
theorem sX9_readsNet_33 : ab_X rom K cX9_readsNet 7 0 33 (.ref a :: ls) st hp = ab_X rom K cX9_readsNet 7 0 34 (.ref a :: ls) (.ref a :: st) hp := ax_aload_n dX9_readsNet_33 rfl rfl
theorem dX9_readsNet_34 : decode cX9_readsNet 34 = .ok (.iload_n 1, 1) := by decide +kernel
theorem sX9_readsNet_34 : ab_X rom K cX9_readsNet 7 0 34 (v0 :: .int x :: ls) st hp = ab_X rom K cX9_readsNet 7 0 35 (v0 :: .int x :: ls) (.int x :: st) hp := ax_iload_n dX9_readsNet_34 rfl rfl
theorem dX9_readsNet_35 : decode cX9_readsNet 35 = .ok (.iload_n 2, 1) := by decide +kernel
theorem sX9_readsNet_35 : ab_X rom K cX9_readsNet 7 0 35 (v0 :: v1 :: .int x :: ls) st hp = ab_X rom K cX9_readsNet 7 0 36 (v0 :: v1 :: .int x :: ls) (.int x :: st) hp := ax_iload_n dX9_readsNet_35 rfl rfl
theorem dX9_readsNet_36 : decode cX9_readsNet 36 = .ok (.invokevirtual 90, 3) := by decide +kernel
theorem sX9_readsNet_36_0 : ab_X rom K cX9_readsNet 7 0 36 ls [w2, w1, .ref a] hp = if ab_iso hp a 7 = true then (K 138 (.ref a :: [w1, w2]) hp).bind (fun o => ab_X rom K cX9_readsNet 7 0 39 ls (o.1.toList ++ []) o.2) else none := ay_virtual (as := [w1, w2]) (st := []) dX9_readsNet_36 kc_7_90 rfl rfl (Nat.le_of_ble_eq_true rfl)
theorem sX9_readsNet_36_1 : ab_X rom K cX9_readsNet 7 0 36 ls [w2, w1, .ref a, v0] hp = if ab_iso hp a 7 = true then (K 138 (.ref a :: [w1, w2]) hp).bind (fun o => ab_X rom K cX9_readsNet 7 0 39 ls (o.1.toList ++ [v0]) o.2) else none := ay_virtual (as := [w1, w2]) (st := [v0]) dX9_readsNet_36 kc_7_90 rfl rfl (Nat.le_of_ble_eq_true rfl)
theorem sX9_readsNet_36_2 : ab_X rom K cX9_readsNet 7 0 36 ls [w2, w1, .ref a, v0, v1] hp = if ab_iso hp a 7 = true then (K 138 (.ref a :: [w1, w2]) hp).bind (fun o => ab_X rom K cX9_readsNet 7 0 39 ls (o.1.toList ++ [v0, v1]) o.2) else none := ay_virtual (as := [w1, w2]) (st := [v0, v1]) dX9_readsNet_36 kc_7_90 rfl rfl (Nat.le_of_ble_eq_true rfl)
theorem sX9_readsNet_36_3 : ab_X rom K cX9_readsNet 7 0 36 ls [w2, w1, .ref a, v0, v1, v2] hp = if ab_iso hp a 7 = true then (K 138 (.ref a :: [w1, w2]) hp).bind (fun o => ab_X rom K cX9_readsNet 7 0 39 ls (o.1.toList ++ [v0, v1, v2]) o.2) else none := ay_virtual (as := [w1, w2]) (st := [v0, v1, v2]) dX9_readsNet_36 kc_7_90 rfl rfl (Nat.le_of_ble_eq_true rfl)
theorem dX9_readsNet_39 : decode cX9_readsNet 39 = .ok (.aload_n 0, 1) := by decide +kernel
theorem sX9_readsNet_39 : ab_X rom K cX9_readsNet 7 0 39 (.ref a :: ls) st hp = ab_X rom K cX9_readsNet 7 0 40 (.ref a :: ls) (.ref a :: st) hp := ax_aload_n dX9_readsNet_39 rfl rfl
theorem dX9_readsNet_40 : decode cX9_readsNet 40 = .ok (.bipush 58, 2) := by decide +kernel
theorem sX9_readsNet_40 : ab_X rom K cX9_readsNet 7 0 40 ls st hp = ab_X rom K cX9_readsNet 7 0 42 ls (.int 58 :: st) hp := ax_bipush dX9_readsNet_40 (by decide) rfl
theorem dX9_readsNet_42 : decode cX9_readsNet 42 = .ok (.invokevirtual 153, 3) := by decide +kernel
theorem sX9_readsNet_42_0 : ab_X rom K cX9_readsNet 7 0 42 ls [w1, .ref a] hp = if ab_iso hp a 7 = true then (K 174 (.ref a :: [w1]) hp).bind (fun o => ab_X rom K cX9_readsNet 7 0 45 ls (o.1.toList ++ []) o.2) else none := ay_virtual (as := [w1]) (st := []) dX9_readsNet_42 kc_7_153 rfl rfl (Nat.le_of_ble_eq_true rfl)
theorem sX9_readsNet_42_1 : ab_X rom K cX9_readsNet 7 0 42 ls [w1, .ref a, v0] hp = if ab_iso hp a 7 = true then (K 174 (.ref a :: [w1]) hp).bind (fun o => ab_X rom K cX9_readsNet 7 0 45 ls (o.1.toList ++ [v0]) o.2) else none := ay_virtual (as := [w1]) (st := [v0]) dX9_readsNet_42 kc_7_153 rfl rfl (Nat.le_of_ble_eq_true rfl)
theorem sX9_readsNet_42_2 : ab_X rom K cX9_readsNet 7 0 42 ls [w1, .ref a, v0, v1] hp = if ab_iso hp a 7 = true then (K 174 (.ref a :: [w1]) hp).bind (fun o => ab_X rom K cX9_readsNet 7 0 45 ls (o.1.toList ++ [v0, v1]) o.2) else none := ay_virtual (as := [w1]) (st := [v0, v1]) dX9_readsNet_42 kc_7_153 rfl rfl (Nat.le_of_ble_eq_true rfl)
theorem sX9_readsNet_42_3 : ab_X rom K cX9_readsNet 7 0 42 ls [w1, .ref a, v0, v1, v2] hp = if ab_iso hp a 7 = true then (K 174 (.ref a :: [w1]) hp).bind (fun o => ab_X rom K cX9_readsNet 7 0 45 ls (o.1.toList ++ [v0, v1, v2]) o.2) else none := ay_virtual (as := [w1]) (st := [v0, v1, v2]) dX9_readsNet_42 kc_7_153 rfl rfl (Nat.le_of_ble_eq_true rfl)
theorem dX9_readsNet_45 : decode cX9_readsNet 45 = .ok (.ifCond .eq 33, 3) := by decide +kernel
theorem sX9_readsNet_45 : ab_X rom K cX9_readsNet 7 0 45 ls (.int x :: st) hp = if x = 0 then ab_X rom K cX9_readsNet 7 0 78 ls st hp else ab_X rom K cX9_readsNet 7 0 48 ls st hp := ax_if_eq dX9_readsNet_45 (by decide) rfl
theorem dX9_readsNet_48 : decode cX9_readsNet 48 = .ok (.aload_n 0, 1) := by decide +kernel
theorem sX9_readsNet_48 : ab_X rom K cX9_readsNet 7 0 48 (.ref a :: ls) st hp = ab_X rom K cX9_readsNet 7 0 49 (.ref a :: ls) (.ref a :: st) hp := ax_aload_n dX9_readsNet_48 rfl rfl
theorem dX9_readsNet_49 : decode cX9_readsNet 49 = .ok (.invokevirtual 127, 3) := by decide +kernel
theorem sX9_readsNet_49_0 : ab_X rom K cX9_readsNet 7 0 49 ls [.ref a] hp = if ab_iso hp a 7 = true then (K 202 (.ref a :: []) hp).bind (fun o => ab_X rom K cX9_readsNet 7 0 52 ls (o.1.toList ++ []) o.2) else none := ay_virtual (as := []) (st := []) dX9_readsNet_49 kc_7_127 rfl rfl (Nat.le_of_ble_eq_true rfl)
theorem sX9_readsNet_49_1 : ab_X rom K cX9_readsNet 7 0 49 ls [.ref a, v0] hp = if ab_iso hp a 7 = true then (K 202 (.ref a :: []) hp).bind (fun o => ab_X rom K cX9_readsNet 7 0 52 ls (o.1.toList ++ [v0]) o.2) else none := ay_virtual (as := []) (st := [v0]) dX9_readsNet_49 kc_7_127 rfl rfl (Nat.le_of_ble_eq_true rfl)
theorem sX9_readsNet_49_2 : ab_X rom K cX9_readsNet 7 0 49 ls [.ref a, v0, v1] hp = if ab_iso hp a 7 = true then (K 202 (.ref a :: []) hp).bind (fun o => ab_X rom K cX9_readsNet 7 0 52 ls (o.1.toList ++ [v0, v1]) o.2) else none := ay_virtual (as := []) (st := [v0, v1]) dX9_readsNet_49 kc_7_127 rfl rfl (Nat.le_of_ble_eq_true rfl)
theorem sX9_readsNet_49_3 : ab_X rom K cX9_readsNet 7 0 49 ls [.ref a, v0, v1, v2] hp = if ab_iso hp a 7 = true then (K 202 (.ref a :: []) hp).bind (fun o => ab_X rom K cX9_readsNet 7 0 52 ls (o.1.toList ++ [v0, v1, v2]) o.2) else none := ay_virtual (as := []) (st := [v0, v1, v2]) dX9_readsNet_49 kc_7_127 rfl rfl (Nat.le_of_ble_eq_true rfl)
theorem dX9_readsNet_52 : decode cX9_readsNet 52 = .ok (.aload_n 0, 1) := by decide +kernel
theorem sX9_readsNet_52 : ab_X rom K cX9_readsNet 7 0 52 (.ref a :: ls) st hp = ab_X rom K cX9_readsNet 7 0 53 (.ref a :: ls) (.ref a :: st) hp := ax_aload_n dX9_readsNet_52 rfl rfl
theorem dX9_readsNet_53 : decode cX9_readsNet 53 = .ok (.iload_n 1, 1) := by decide +kernel
theorem sX9_readsNet_53 : ab_X rom K cX9_readsNet 7 0 53 (v0 :: .int x :: ls) st hp = ab_X rom K cX9_readsNet 7 0 54 (v0 :: .int x :: ls) (.int x :: st) hp := ax_iload_n dX9_readsNet_53 rfl rfl
theorem dX9_readsNet_54 : decode cX9_readsNet 54 = .ok (.invokevirtual 177, 3) := by decide +kernel
theorem sX9_readsNet_54_0 : ab_X rom K cX9_readsNet 7 0 54 ls [w1, .ref a] hp = if ab_iso hp a 7 = true then (K 212 (.ref a :: [w1]) hp).bind (fun o => ab_X rom K cX9_readsNet 7 0 57 ls (o.1.toList ++ []) o.2) else none := ay_virtual (as := [w1]) (st := []) dX9_readsNet_54 kc_7_177 rfl rfl (Nat.le_of_ble_eq_true rfl)
theorem sX9_readsNet_54_1 : ab_X rom K cX9_readsNet 7 0 54 ls [w1, .ref a, v0] hp = if ab_iso hp a 7 = true then (K 212 (.ref a :: [w1]) hp).bind (fun o => ab_X rom K cX9_readsNet 7 0 57 ls (o.1.toList ++ [v0]) o.2) else none := ay_virtual (as := [w1]) (st := [v0]) dX9_readsNet_54 kc_7_177 rfl rfl (Nat.le_of_ble_eq_true rfl)
theorem sX9_readsNet_54_2 : ab_X rom K cX9_readsNet 7 0 54 ls [w1, .ref a, v0, v1] hp = if ab_iso hp a 7 = true then (K 212 (.ref a :: [w1]) hp).bind (fun o => ab_X rom K cX9_readsNet 7 0 57 ls (o.1.toList ++ [v0, v1]) o.2) else none := ay_virtual (as := [w1]) (st := [v0, v1]) dX9_readsNet_54 kc_7_177 rfl rfl (Nat.le_of_ble_eq_true rfl)
theorem sX9_readsNet_54_3 : ab_X rom K cX9_readsNet 7 0 54 ls [w1, .ref a, v0, v1, v2] hp = if ab_iso hp a 7 = true then (K 212 (.ref a :: [w1]) hp).bind (fun o => ab_X rom K cX9_readsNet 7 0 57 ls (o.1.toList ++ [v0, v1, v2]) o.2) else none := ay_virtual (as := [w1]) (st := [v0, v1, v2]) dX9_readsNet_54 kc_7_177 rfl rfl (Nat.le_of_ble_eq_true rfl)
theorem dX9_readsNet_57 : decode cX9_readsNet 57 = .ok (.aload_n 0, 1) := by decide +kernel
theorem sX9_readsNet_57 : ab_X rom K cX9_readsNet 7 0 57 (.ref a :: ls) st hp = ab_X rom K cX9_readsNet 7 0 58 (.ref a :: ls) (.ref a :: st) hp := ax_aload_n dX9_readsNet_57 rfl rfl
theorem dX9_readsNet_58 : decode cX9_readsNet 58 = .ok (.bipush 44, 2) := by decide +kernel
theorem sX9_readsNet_58 : ab_X rom K cX9_readsNet 7 0 58 ls st hp = ab_X rom K cX9_readsNet 7 0 60 ls (.int 44 :: st) hp := ax_bipush dX9_readsNet_58 (by decide) rfl
theorem dX9_readsNet_60 : decode cX9_readsNet 60 = .ok (.invokevirtual 153, 3) := by decide +kernel
theorem sX9_readsNet_60_0 : ab_X rom K cX9_readsNet 7 0 60 ls [w1, .ref a] hp = if ab_iso hp a 7 = true then (K 174 (.ref a :: [w1]) hp).bind (fun o => ab_X rom K cX9_readsNet 7 0 63 ls (o.1.toList ++ []) o.2) else none := ay_virtual (as := [w1]) (st := []) dX9_readsNet_60 kc_7_153 rfl rfl (Nat.le_of_ble_eq_true rfl)
theorem sX9_readsNet_60_1 : ab_X rom K cX9_readsNet 7 0 60 ls [w1, .ref a, v0] hp = if ab_iso hp a 7 = true then (K 174 (.ref a :: [w1]) hp).bind (fun o => ab_X rom K cX9_readsNet 7 0 63 ls (o.1.toList ++ [v0]) o.2) else none := ay_virtual (as := [w1]) (st := [v0]) dX9_readsNet_60 kc_7_153 rfl rfl (Nat.le_of_ble_eq_true rfl)
theorem sX9_readsNet_60_2 : ab_X rom K cX9_readsNet 7 0 60 ls [w1, .ref a, v0, v1] hp = if ab_iso hp a 7 = true then (K 174 (.ref a :: [w1]) hp).bind (fun o => ab_X rom K cX9_readsNet 7 0 63 ls (o.1.toList ++ [v0, v1]) o.2) else none := ay_virtual (as := [w1]) (st := [v0, v1]) dX9_readsNet_60 kc_7_153 rfl rfl (Nat.le_of_ble_eq_true rfl)
theorem sX9_readsNet_60_3 : ab_X rom K cX9_readsNet 7 0 60 ls [w1, .ref a, v0, v1, v2] hp = if ab_iso hp a 7 = true then (K 174 (.ref a :: [w1]) hp).bind (fun o => ab_X rom K cX9_readsNet 7 0 63 ls (o.1.toList ++ [v0, v1, v2]) o.2) else none := ay_virtual (as := [w1]) (st := [v0, v1, v2]) dX9_readsNet_60 kc_7_153 rfl rfl (Nat.le_of_ble_eq_true rfl)
theorem dX9_readsNet_63 : decode cX9_readsNet 63 = .ok (.ifCond .eq 15, 3) := by decide +kernel
theorem sX9_readsNet_63 : ab_X rom K cX9_readsNet 7 0 63 ls (.int x :: st) hp = if x = 0 then ab_X rom K cX9_readsNet 7 0 78 ls st hp else ab_X rom K cX9_readsNet 7 0 66 ls st hp := ax_if_eq dX9_readsNet_63 (by decide) rfl
theorem dX9_readsNet_66 : decode cX9_readsNet 66 = .ok (.aload_n 0, 1) := by decide +kernel
theorem sX9_readsNet_66 : ab_X rom K cX9_readsNet 7 0 66 (.ref a :: ls) st hp = ab_X rom K cX9_readsNet 7 0 67 (.ref a :: ls) (.ref a :: st) hp := ax_aload_n dX9_readsNet_66 rfl rfl
theorem dX9_readsNet_67 : decode cX9_readsNet 67 = .ok (.invokevirtual 127, 3) := by decide +kernel
theorem sX9_readsNet_67_0 : ab_X rom K cX9_readsNet 7 0 67 ls [.ref a] hp = if ab_iso hp a 7 = true then (K 202 (.ref a :: []) hp).bind (fun o => ab_X rom K cX9_readsNet 7 0 70 ls (o.1.toList ++ []) o.2) else none := ay_virtual (as := []) (st := []) dX9_readsNet_67 kc_7_127 rfl rfl (Nat.le_of_ble_eq_true rfl)
theorem sX9_readsNet_67_1 : ab_X rom K cX9_readsNet 7 0 67 ls [.ref a, v0] hp = if ab_iso hp a 7 = true then (K 202 (.ref a :: []) hp).bind (fun o => ab_X rom K cX9_readsNet 7 0 70 ls (o.1.toList ++ [v0]) o.2) else none := ay_virtual (as := []) (st := [v0]) dX9_readsNet_67 kc_7_127 rfl rfl (Nat.le_of_ble_eq_true rfl)
theorem sX9_readsNet_67_2 : ab_X rom K cX9_readsNet 7 0 67 ls [.ref a, v0, v1] hp = if ab_iso hp a 7 = true then (K 202 (.ref a :: []) hp).bind (fun o => ab_X rom K cX9_readsNet 7 0 70 ls (o.1.toList ++ [v0, v1]) o.2) else none := ay_virtual (as := []) (st := [v0, v1]) dX9_readsNet_67 kc_7_127 rfl rfl (Nat.le_of_ble_eq_true rfl)
theorem sX9_readsNet_67_3 : ab_X rom K cX9_readsNet 7 0 67 ls [.ref a, v0, v1, v2] hp = if ab_iso hp a 7 = true then (K 202 (.ref a :: []) hp).bind (fun o => ab_X rom K cX9_readsNet 7 0 70 ls (o.1.toList ++ [v0, v1, v2]) o.2) else none := ay_virtual (as := []) (st := [v0, v1, v2]) dX9_readsNet_67 kc_7_127 rfl rfl (Nat.le_of_ble_eq_true rfl)
theorem dX9_readsNet_70 : decode cX9_readsNet 70 = .ok (.aload_n 0, 1) := by decide +kernel
theorem sX9_readsNet_70 : ab_X rom K cX9_readsNet 7 0 70 (.ref a :: ls) st hp = ab_X rom K cX9_readsNet 7 0 71 (.ref a :: ls) (.ref a :: st) hp := ax_aload_n dX9_readsNet_70 rfl rfl
theorem dX9_readsNet_71 : decode cX9_readsNet 71 = .ok (.iload_n 1, 1) := by decide +kernel
theorem sX9_readsNet_71 : ab_X rom K cX9_readsNet 7 0 71 (v0 :: .int x :: ls) st hp = ab_X rom K cX9_readsNet 7 0 72 (v0 :: .int x :: ls) (.int x :: st) hp := ax_iload_n dX9_readsNet_71 rfl rfl
theorem dX9_readsNet_72 : decode cX9_readsNet 72 = .ok (.invokevirtual 177, 3) := by decide +kernel
theorem sX9_readsNet_72_0 : ab_X rom K cX9_readsNet 7 0 72 ls [w1, .ref a] hp = if ab_iso hp a 7 = true then (K 212 (.ref a :: [w1]) hp).bind (fun o => ab_X rom K cX9_readsNet 7 0 75 ls (o.1.toList ++ []) o.2) else none := ay_virtual (as := [w1]) (st := []) dX9_readsNet_72 kc_7_177 rfl rfl (Nat.le_of_ble_eq_true rfl)
theorem sX9_readsNet_72_1 : ab_X rom K cX9_readsNet 7 0 72 ls [w1, .ref a, v0] hp = if ab_iso hp a 7 = true then (K 212 (.ref a :: [w1]) hp).bind (fun o => ab_X rom K cX9_readsNet 7 0 75 ls (o.1.toList ++ [v0]) o.2) else none := ay_virtual (as := [w1]) (st := [v0]) dX9_readsNet_72 kc_7_177 rfl rfl (Nat.le_of_ble_eq_true rfl)
theorem sX9_readsNet_72_2 : ab_X rom K cX9_readsNet 7 0 72 ls [w1, .ref a, v0, v1] hp = if ab_iso hp a 7 = true then (K 212 (.ref a :: [w1]) hp).bind (fun o => ab_X rom K cX9_readsNet 7 0 75 ls (o.1.toList ++ [v0, v1]) o.2) else none := ay_virtual (as := [w1]) (st := [v0, v1]) dX9_readsNet_72 kc_7_177 rfl rfl (Nat.le_of_ble_eq_true rfl)
theorem sX9_readsNet_72_3 : ab_X rom K cX9_readsNet 7 0 72 ls [w1, .ref a, v0, v1, v2] hp = if ab_iso hp a 7 = true then (K 212 (.ref a :: [w1]) hp).bind (fun o => ab_X rom K cX9_readsNet 7 0 75 ls (o.1.toList ++ [v0, v1, v2]) o.2) else none := ay_virtual (as := [w1]) (st := [v0, v1, v2]) dX9_readsNet_72 kc_7_177 rfl rfl (Nat.le_of_ble_eq_true rfl)
theorem dX9_readsNet_75 : decode cX9_readsNet 75 = .ok (.goto (-18), 3) := by decide +kernel
theorem sX9_readsNet_75 : ab_X rom K cX9_readsNet 7 0 75 ls st hp = ab_X rom K cX9_readsNet 7 0 57 ls st hp := ax_goto dX9_readsNet_75 (by decide)
theorem dX9_readsNet_78 : decode cX9_readsNet 78 = .ok (.aload_n 0, 1) := by decide +kernel
theorem sX9_readsNet_78 : ab_X rom K cX9_readsNet 7 0 78 (.ref a :: ls) st hp = ab_X rom K cX9_readsNet 7 0 79 (.ref a :: ls) (.ref a :: st) hp := ax_aload_n dX9_readsNet_78 rfl rfl
theorem dX9_readsNet_79 : decode cX9_readsNet 79 = .ok (.aload_n 0, 1) := by decide +kernel
theorem sX9_readsNet_79 : ab_X rom K cX9_readsNet 7 0 79 (.ref a :: ls) st hp = ab_X rom K cX9_readsNet 7 0 80 (.ref a :: ls) (.ref a :: st) hp := ax_aload_n dX9_readsNet_79 rfl rfl
theorem dX9_readsNet_80 : decode cX9_readsNet 80 = .ok (.bipush 59, 2) := by decide +kernel
theorem sX9_readsNet_80 : ab_X rom K cX9_readsNet 7 0 80 ls st hp = ab_X rom K cX9_readsNet 7 0 82 ls (.int 59 :: st) hp := ax_bipush dX9_readsNet_80 (by decide) rfl
theorem dX9_readsNet_82 : decode cX9_readsNet 82 = .ok (.invokevirtual 153, 3) := by decide +kernel
theorem sX9_readsNet_82_0 : ab_X rom K cX9_readsNet 7 0 82 ls [w1, .ref a] hp = if ab_iso hp a 7 = true then (K 174 (.ref a :: [w1]) hp).bind (fun o => ab_X rom K cX9_readsNet 7 0 85 ls (o.1.toList ++ []) o.2) else none := ay_virtual (as := [w1]) (st := []) dX9_readsNet_82 kc_7_153 rfl rfl (Nat.le_of_ble_eq_true rfl)
theorem sX9_readsNet_82_1 : ab_X rom K cX9_readsNet 7 0 82 ls [w1, .ref a, v0] hp = if ab_iso hp a 7 = true then (K 174 (.ref a :: [w1]) hp).bind (fun o => ab_X rom K cX9_readsNet 7 0 85 ls (o.1.toList ++ [v0]) o.2) else none := ay_virtual (as := [w1]) (st := [v0]) dX9_readsNet_82 kc_7_153 rfl rfl (Nat.le_of_ble_eq_true rfl)
theorem sX9_readsNet_82_2 : ab_X rom K cX9_readsNet 7 0 82 ls [w1, .ref a, v0, v1] hp = if ab_iso hp a 7 = true then (K 174 (.ref a :: [w1]) hp).bind (fun o => ab_X rom K cX9_readsNet 7 0 85 ls (o.1.toList ++ [v0, v1]) o.2) else none := ay_virtual (as := [w1]) (st := [v0, v1]) dX9_readsNet_82 kc_7_153 rfl rfl (Nat.le_of_ble_eq_true rfl)
theorem sX9_readsNet_82_3 : ab_X rom K cX9_readsNet 7 0 82 ls [w1, .ref a, v0, v1, v2] hp = if ab_iso hp a 7 = true then (K 174 (.ref a :: [w1]) hp).bind (fun o => ab_X rom K cX9_readsNet 7 0 85 ls (o.1.toList ++ [v0, v1, v2]) o.2) else none := ay_virtual (as := [w1]) (st := [v0, v1, v2]) dX9_readsNet_82 kc_7_153 rfl rfl (Nat.le_of_ble_eq_true rfl)
theorem dX9_readsNet_85 : decode cX9_readsNet 85 = .ok (.invokevirtual 156, 3) := by decide +kernel
theorem sX9_readsNet_85_0 : ab_X rom K cX9_readsNet 7 0 85 ls [w1, .ref a] hp = if ab_iso hp a 7 = true then (K 201 (.ref a :: [w1]) hp).bind (fun o => ab_X rom K cX9_readsNet 7 0 88 ls (o.1.toList ++ []) o.2) else none := ay_virtual (as := [w1]) (st := []) dX9_readsNet_85 kc_7_156 rfl rfl (Nat.le_of_ble_eq_true rfl)
theorem sX9_readsNet_85_1 : ab_X rom K cX9_readsNet 7 0 85 ls [w1, .ref a, v0] hp = if ab_iso hp a 7 = true then (K 201 (.ref a :: [w1]) hp).bind (fun o => ab_X rom K cX9_readsNet 7 0 88 ls (o.1.toList ++ [v0]) o.2) else none := ay_virtual (as := [w1]) (st := [v0]) dX9_readsNet_85 kc_7_156 rfl rfl (Nat.le_of_ble_eq_true rfl)
theorem sX9_readsNet_85_2 : ab_X rom K cX9_readsNet 7 0 85 ls [w1, .ref a, v0, v1] hp = if ab_iso hp a 7 = true then (K 201 (.ref a :: [w1]) hp).bind (fun o => ab_X rom K cX9_readsNet 7 0 88 ls (o.1.toList ++ [v0, v1]) o.2) else none := ay_virtual (as := [w1]) (st := [v0, v1]) dX9_readsNet_85 kc_7_156 rfl rfl (Nat.le_of_ble_eq_true rfl)
theorem sX9_readsNet_85_3 : ab_X rom K cX9_readsNet 7 0 85 ls [w1, .ref a, v0, v1, v2] hp = if ab_iso hp a 7 = true then (K 201 (.ref a :: [w1]) hp).bind (fun o => ab_X rom K cX9_readsNet 7 0 88 ls (o.1.toList ++ [v0, v1, v2]) o.2) else none := ay_virtual (as := [w1]) (st := [v0, v1, v2]) dX9_readsNet_85 kc_7_156 rfl rfl (Nat.le_of_ble_eq_true rfl)
theorem dX9_readsNet_88 : decode cX9_readsNet 88 = .ok (.aload_n 0, 1) := by decide +kernel
theorem sX9_readsNet_88 : ab_X rom K cX9_readsNet 7 0 88 (.ref a :: ls) st hp = ab_X rom K cX9_readsNet 7 0 89 (.ref a :: ls) (.ref a :: st) hp := ax_aload_n dX9_readsNet_88 rfl rfl
theorem dX9_readsNet_89 : decode cX9_readsNet 89 = .ok (.getfield 120, 3) := by decide +kernel
theorem sX9_readsNet_89 : ab_X rom K cX9_readsNet 7 0 89 ls (.ref a :: st) hp = (ab_fld hp a 7 12).bind (fun v => ab_X rom K cX9_readsNet 7 0 92 ls (v :: st) hp) := ax_getfield dX9_readsNet_89 kf_7_120 rfl
theorem dX9_readsNet_92 : decode cX9_readsNet 92 = .ok (.ifCond .ne 66, 3) := by decide +kernel
theorem sX9_readsNet_92 : ab_X rom K cX9_readsNet 7 0 92 ls (.int x :: st) hp = if x = 0 then ab_X rom K cX9_readsNet 7 0 95 ls st hp else ab_X rom K cX9_readsNet 7 0 158 ls st hp := ax_if_ne dX9_readsNet_92 (by decide) rfl
theorem dX9_readsNet_95 : decode cX9_readsNet 95 = .ok (.aload_n 0, 1) := by decide +kernel
theorem sX9_readsNet_95 : ab_X rom K cX9_readsNet 7 0 95 (.ref a :: ls) st hp = ab_X rom K cX9_readsNet 7 0 96 (.ref a :: ls) (.ref a :: st) hp := ax_aload_n dX9_readsNet_95 rfl rfl
theorem dX9_readsNet_96 : decode cX9_readsNet 96 = .ok (.getfield 112, 3) := by decide +kernel
theorem sX9_readsNet_96 : ab_X rom K cX9_readsNet 7 0 96 ls (.ref a :: st) hp = (ab_fld hp a 7 10).bind (fun v => ab_X rom K cX9_readsNet 7 0 99 ls (v :: st) hp) := ax_getfield dX9_readsNet_96 kf_7_112 rfl
theorem dX9_readsNet_99 : decode cX9_readsNet 99 = .ok (.ifCond .eq 59, 3) := by decide +kernel
theorem sX9_readsNet_99 : ab_X rom K cX9_readsNet 7 0 99 ls (.int x :: st) hp = if x = 0 then ab_X rom K cX9_readsNet 7 0 158 ls st hp else ab_X rom K cX9_readsNet 7 0 102 ls st hp := ax_if_eq dX9_readsNet_99 (by decide) rfl
theorem dX9_readsNet_102 : decode cX9_readsNet 102 = .ok (.aload_n 0, 1) := by decide +kernel
theorem sX9_readsNet_102 : ab_X rom K cX9_readsNet 7 0 102 (.ref a :: ls) st hp = ab_X rom K cX9_readsNet 7 0 103 (.ref a :: ls) (.ref a :: st) hp := ax_aload_n dX9_readsNet_102 rfl rfl
theorem dX9_readsNet_103 : decode cX9_readsNet 103 = .ok (.aload_n 0, 1) := by decide +kernel
theorem sX9_readsNet_103 : ab_X rom K cX9_readsNet 7 0 103 (.ref a :: ls) st hp = ab_X rom K cX9_readsNet 7 0 104 (.ref a :: ls) (.ref a :: st) hp := ax_aload_n dX9_readsNet_103 rfl rfl
theorem dX9_readsNet_104 : decode cX9_readsNet 104 = .ok (.ldc 180, 2) := by decide +kernel
theorem sX9_readsNet_104 : ab_X rom K cX9_readsNet 7 0 104 ls st hp = ab_X rom K cX9_readsNet 7 0 106 ls (.ref (ab_RO + 9) :: st) hp := ax_ldcs dX9_readsNet_104 kz_7_180 kr_7_180 rfl
theorem dX9_readsNet_106 : decode cX9_readsNet 106 = .ok (.invokevirtual 173, 3) := by decide +kernel
theorem sX9_readsNet_106_0 : ab_X rom K cX9_readsNet 7 0 106 ls [w1, .ref a] hp = if ab_iso hp a 7 = true then (K 178 (.ref a :: [w1]) hp).bind (fun o => ab_X rom K cX9_readsNet 7 0 109 ls (o.1.toList ++ []) o.2) else none := ay_virtual (as := [w1]) (st := []) dX9_readsNet_106 kc_7_173 rfl rfl (Nat.le_of_ble_eq_true rfl)
theorem sX9_readsNet_106_1 : ab_X rom K cX9_readsNet 7 0 106 ls [w1, .ref a, v0] hp = if ab_iso hp a 7 = true then (K 178 (.ref a :: [w1]) hp).bind (fun o => ab_X rom K cX9_readsNet 7 0 109 ls (o.1.toList ++ [v0]) o.2) else none := ay_virtual (as := [w1]) (st := [v0]) dX9_readsNet_106 kc_7_173 rfl rfl (Nat.le_of_ble_eq_true rfl)
theorem sX9_readsNet_106_2 : ab_X rom K cX9_readsNet 7 0 106 ls [w1, .ref a, v0, v1] hp = if ab_iso hp a 7 = true then (K 178 (.ref a :: [w1]) hp).bind (fun o => ab_X rom K cX9_readsNet 7 0 109 ls (o.1.toList ++ [v0, v1]) o.2) else none := ay_virtual (as := [w1]) (st := [v0, v1]) dX9_readsNet_106 kc_7_173 rfl rfl (Nat.le_of_ble_eq_true rfl)
theorem sX9_readsNet_106_3 : ab_X rom K cX9_readsNet 7 0 106 ls [w1, .ref a, v0, v1, v2] hp = if ab_iso hp a 7 = true then (K 178 (.ref a :: [w1]) hp).bind (fun o => ab_X rom K cX9_readsNet 7 0 109 ls (o.1.toList ++ [v0, v1, v2]) o.2) else none := ay_virtual (as := [w1]) (st := [v0, v1, v2]) dX9_readsNet_106 kc_7_173 rfl rfl (Nat.le_of_ble_eq_true rfl)
theorem dX9_readsNet_109 : decode cX9_readsNet 109 = .ok (.invokevirtual 156, 3) := by decide +kernel
theorem sX9_readsNet_109_0 : ab_X rom K cX9_readsNet 7 0 109 ls [w1, .ref a] hp = if ab_iso hp a 7 = true then (K 201 (.ref a :: [w1]) hp).bind (fun o => ab_X rom K cX9_readsNet 7 0 112 ls (o.1.toList ++ []) o.2) else none := ay_virtual (as := [w1]) (st := []) dX9_readsNet_109 kc_7_156 rfl rfl (Nat.le_of_ble_eq_true rfl)
theorem sX9_readsNet_109_1 : ab_X rom K cX9_readsNet 7 0 109 ls [w1, .ref a, v0] hp = if ab_iso hp a 7 = true then (K 201 (.ref a :: [w1]) hp).bind (fun o => ab_X rom K cX9_readsNet 7 0 112 ls (o.1.toList ++ [v0]) o.2) else none := ay_virtual (as := [w1]) (st := [v0]) dX9_readsNet_109 kc_7_156 rfl rfl (Nat.le_of_ble_eq_true rfl)
theorem sX9_readsNet_109_2 : ab_X rom K cX9_readsNet 7 0 109 ls [w1, .ref a, v0, v1] hp = if ab_iso hp a 7 = true then (K 201 (.ref a :: [w1]) hp).bind (fun o => ab_X rom K cX9_readsNet 7 0 112 ls (o.1.toList ++ [v0, v1]) o.2) else none := ay_virtual (as := [w1]) (st := [v0, v1]) dX9_readsNet_109 kc_7_156 rfl rfl (Nat.le_of_ble_eq_true rfl)
theorem sX9_readsNet_109_3 : ab_X rom K cX9_readsNet 7 0 109 ls [w1, .ref a, v0, v1, v2] hp = if ab_iso hp a 7 = true then (K 201 (.ref a :: [w1]) hp).bind (fun o => ab_X rom K cX9_readsNet 7 0 112 ls (o.1.toList ++ [v0, v1, v2]) o.2) else none := ay_virtual (as := [w1]) (st := [v0, v1, v2]) dX9_readsNet_109 kc_7_156 rfl rfl (Nat.le_of_ble_eq_true rfl)
theorem dX9_readsNet_112 : decode cX9_readsNet 112 = .ok (.aload_n 0, 1) := by decide +kernel
theorem sX9_readsNet_112 : ab_X rom K cX9_readsNet 7 0 112 (.ref a :: ls) st hp = ab_X rom K cX9_readsNet 7 0 113 (.ref a :: ls) (.ref a :: st) hp := ax_aload_n dX9_readsNet_112 rfl rfl
theorem dX9_readsNet_113 : decode cX9_readsNet 113 = .ok (.getfield 120, 3) := by decide +kernel
theorem sX9_readsNet_113 : ab_X rom K cX9_readsNet 7 0 113 ls (.ref a :: st) hp = (ab_fld hp a 7 12).bind (fun v => ab_X rom K cX9_readsNet 7 0 116 ls (v :: st) hp) := ax_getfield dX9_readsNet_113 kf_7_120 rfl
theorem dX9_readsNet_116 : decode cX9_readsNet 116 = .ok (.ifCond .ne 8, 3) := by decide +kernel
theorem sX9_readsNet_116 : ab_X rom K cX9_readsNet 7 0 116 ls (.int x :: st) hp = if x = 0 then ab_X rom K cX9_readsNet 7 0 119 ls st hp else ab_X rom K cX9_readsNet 7 0 124 ls st hp := ax_if_ne dX9_readsNet_116 (by decide) rfl
theorem dX9_readsNet_119 : decode cX9_readsNet 119 = .ok (.aload_n 0, 1) := by decide +kernel
theorem sX9_readsNet_119 : ab_X rom K cX9_readsNet 7 0 119 (.ref a :: ls) st hp = ab_X rom K cX9_readsNet 7 0 120 (.ref a :: ls) (.ref a :: st) hp := ax_aload_n dX9_readsNet_119 rfl rfl
theorem dX9_readsNet_120 : decode cX9_readsNet 120 = .ok (.iload_n 1, 1) := by decide +kernel
theorem sX9_readsNet_120 : ab_X rom K cX9_readsNet 7 0 120 (v0 :: .int x :: ls) st hp = ab_X rom K cX9_readsNet 7 0 121 (v0 :: .int x :: ls) (.int x :: st) hp := ax_iload_n dX9_readsNet_120 rfl rfl
theorem dX9_readsNet_121 : decode cX9_readsNet 121 = .ok (.invokevirtual 182, 3) := by decide +kernel
theorem sX9_readsNet_121_0 : ab_X rom K cX9_readsNet 7 0 121 ls [w1, .ref a] hp = if ab_iso hp a 7 = true then (K 211 (.ref a :: [w1]) hp).bind (fun o => ab_X rom K cX9_readsNet 7 0 124 ls (o.1.toList ++ []) o.2) else none := ay_virtual (as := [w1]) (st := []) dX9_readsNet_121 kc_7_182 rfl rfl (Nat.le_of_ble_eq_true rfl)
theorem sX9_readsNet_121_1 : ab_X rom K cX9_readsNet 7 0 121 ls [w1, .ref a, v0] hp = if ab_iso hp a 7 = true then (K 211 (.ref a :: [w1]) hp).bind (fun o => ab_X rom K cX9_readsNet 7 0 124 ls (o.1.toList ++ [v0]) o.2) else none := ay_virtual (as := [w1]) (st := [v0]) dX9_readsNet_121 kc_7_182 rfl rfl (Nat.le_of_ble_eq_true rfl)
theorem sX9_readsNet_121_2 : ab_X rom K cX9_readsNet 7 0 121 ls [w1, .ref a, v0, v1] hp = if ab_iso hp a 7 = true then (K 211 (.ref a :: [w1]) hp).bind (fun o => ab_X rom K cX9_readsNet 7 0 124 ls (o.1.toList ++ [v0, v1]) o.2) else none := ay_virtual (as := [w1]) (st := [v0, v1]) dX9_readsNet_121 kc_7_182 rfl rfl (Nat.le_of_ble_eq_true rfl)
theorem sX9_readsNet_121_3 : ab_X rom K cX9_readsNet 7 0 121 ls [w1, .ref a, v0, v1, v2] hp = if ab_iso hp a 7 = true then (K 211 (.ref a :: [w1]) hp).bind (fun o => ab_X rom K cX9_readsNet 7 0 124 ls (o.1.toList ++ [v0, v1, v2]) o.2) else none := ay_virtual (as := [w1]) (st := [v0, v1, v2]) dX9_readsNet_121 kc_7_182 rfl rfl (Nat.le_of_ble_eq_true rfl)
theorem dX9_readsNet_124 : decode cX9_readsNet 124 = .ok (.aload_n 0, 1) := by decide +kernel
theorem sX9_readsNet_124 : ab_X rom K cX9_readsNet 7 0 124 (.ref a :: ls) st hp = ab_X rom K cX9_readsNet 7 0 125 (.ref a :: ls) (.ref a :: st) hp := ax_aload_n dX9_readsNet_124 rfl rfl
theorem dX9_readsNet_125 : decode cX9_readsNet 125 = .ok (.bipush 44, 2) := by decide +kernel
theorem sX9_readsNet_125 : ab_X rom K cX9_readsNet 7 0 125 ls st hp = ab_X rom K cX9_readsNet 7 0 127 ls (.int 44 :: st) hp := ax_bipush dX9_readsNet_125 (by decide) rfl
theorem dX9_readsNet_127 : decode cX9_readsNet 127 = .ok (.invokevirtual 153, 3) := by decide +kernel
theorem sX9_readsNet_127_0 : ab_X rom K cX9_readsNet 7 0 127 ls [w1, .ref a] hp = if ab_iso hp a 7 = true then (K 174 (.ref a :: [w1]) hp).bind (fun o => ab_X rom K cX9_readsNet 7 0 130 ls (o.1.toList ++ []) o.2) else none := ay_virtual (as := [w1]) (st := []) dX9_readsNet_127 kc_7_153 rfl rfl (Nat.le_of_ble_eq_true rfl)
theorem sX9_readsNet_127_1 : ab_X rom K cX9_readsNet 7 0 127 ls [w1, .ref a, v0] hp = if ab_iso hp a 7 = true then (K 174 (.ref a :: [w1]) hp).bind (fun o => ab_X rom K cX9_readsNet 7 0 130 ls (o.1.toList ++ [v0]) o.2) else none := ay_virtual (as := [w1]) (st := [v0]) dX9_readsNet_127 kc_7_153 rfl rfl (Nat.le_of_ble_eq_true rfl)
theorem sX9_readsNet_127_2 : ab_X rom K cX9_readsNet 7 0 127 ls [w1, .ref a, v0, v1] hp = if ab_iso hp a 7 = true then (K 174 (.ref a :: [w1]) hp).bind (fun o => ab_X rom K cX9_readsNet 7 0 130 ls (o.1.toList ++ [v0, v1]) o.2) else none := ay_virtual (as := [w1]) (st := [v0, v1]) dX9_readsNet_127 kc_7_153 rfl rfl (Nat.le_of_ble_eq_true rfl)
theorem sX9_readsNet_127_3 : ab_X rom K cX9_readsNet 7 0 127 ls [w1, .ref a, v0, v1, v2] hp = if ab_iso hp a 7 = true then (K 174 (.ref a :: [w1]) hp).bind (fun o => ab_X rom K cX9_readsNet 7 0 130 ls (o.1.toList ++ [v0, v1, v2]) o.2) else none := ay_virtual (as := [w1]) (st := [v0, v1, v2]) dX9_readsNet_127 kc_7_153 rfl rfl (Nat.le_of_ble_eq_true rfl)
theorem dX9_readsNet_130 : decode cX9_readsNet 130 = .ok (.ifCond .eq 15, 3) := by decide +kernel
theorem sX9_readsNet_130 : ab_X rom K cX9_readsNet 7 0 130 ls (.int x :: st) hp = if x = 0 then ab_X rom K cX9_readsNet 7 0 145 ls st hp else ab_X rom K cX9_readsNet 7 0 133 ls st hp := ax_if_eq dX9_readsNet_130 (by decide) rfl
theorem dX9_readsNet_133 : decode cX9_readsNet 133 = .ok (.aload_n 0, 1) := by decide +kernel
theorem sX9_readsNet_133 : ab_X rom K cX9_readsNet 7 0 133 (.ref a :: ls) st hp = ab_X rom K cX9_readsNet 7 0 134 (.ref a :: ls) (.ref a :: st) hp := ax_aload_n dX9_readsNet_133 rfl rfl
theorem dX9_readsNet_134 : decode cX9_readsNet 134 = .ok (.invokevirtual 127, 3) := by decide +kernel
theorem sX9_readsNet_134_0 : ab_X rom K cX9_readsNet 7 0 134 ls [.ref a] hp = if ab_iso hp a 7 = true then (K 202 (.ref a :: []) hp).bind (fun o => ab_X rom K cX9_readsNet 7 0 137 ls (o.1.toList ++ []) o.2) else none := ay_virtual (as := []) (st := []) dX9_readsNet_134 kc_7_127 rfl rfl (Nat.le_of_ble_eq_true rfl)
theorem sX9_readsNet_134_1 : ab_X rom K cX9_readsNet 7 0 134 ls [.ref a, v0] hp = if ab_iso hp a 7 = true then (K 202 (.ref a :: []) hp).bind (fun o => ab_X rom K cX9_readsNet 7 0 137 ls (o.1.toList ++ [v0]) o.2) else none := ay_virtual (as := []) (st := [v0]) dX9_readsNet_134 kc_7_127 rfl rfl (Nat.le_of_ble_eq_true rfl)
theorem sX9_readsNet_134_2 : ab_X rom K cX9_readsNet 7 0 134 ls [.ref a, v0, v1] hp = if ab_iso hp a 7 = true then (K 202 (.ref a :: []) hp).bind (fun o => ab_X rom K cX9_readsNet 7 0 137 ls (o.1.toList ++ [v0, v1]) o.2) else none := ay_virtual (as := []) (st := [v0, v1]) dX9_readsNet_134 kc_7_127 rfl rfl (Nat.le_of_ble_eq_true rfl)
theorem sX9_readsNet_134_3 : ab_X rom K cX9_readsNet 7 0 134 ls [.ref a, v0, v1, v2] hp = if ab_iso hp a 7 = true then (K 202 (.ref a :: []) hp).bind (fun o => ab_X rom K cX9_readsNet 7 0 137 ls (o.1.toList ++ [v0, v1, v2]) o.2) else none := ay_virtual (as := []) (st := [v0, v1, v2]) dX9_readsNet_134 kc_7_127 rfl rfl (Nat.le_of_ble_eq_true rfl)
theorem dX9_readsNet_137 : decode cX9_readsNet 137 = .ok (.aload_n 0, 1) := by decide +kernel
theorem sX9_readsNet_137 : ab_X rom K cX9_readsNet 7 0 137 (.ref a :: ls) st hp = ab_X rom K cX9_readsNet 7 0 138 (.ref a :: ls) (.ref a :: st) hp := ax_aload_n dX9_readsNet_137 rfl rfl
theorem dX9_readsNet_138 : decode cX9_readsNet 138 = .ok (.iload_n 1, 1) := by decide +kernel
theorem sX9_readsNet_138 : ab_X rom K cX9_readsNet 7 0 138 (v0 :: .int x :: ls) st hp = ab_X rom K cX9_readsNet 7 0 139 (v0 :: .int x :: ls) (.int x :: st) hp := ax_iload_n dX9_readsNet_138 rfl rfl
theorem dX9_readsNet_139 : decode cX9_readsNet 139 = .ok (.invokevirtual 182, 3) := by decide +kernel
theorem sX9_readsNet_139_0 : ab_X rom K cX9_readsNet 7 0 139 ls [w1, .ref a] hp = if ab_iso hp a 7 = true then (K 211 (.ref a :: [w1]) hp).bind (fun o => ab_X rom K cX9_readsNet 7 0 142 ls (o.1.toList ++ []) o.2) else none := ay_virtual (as := [w1]) (st := []) dX9_readsNet_139 kc_7_182 rfl rfl (Nat.le_of_ble_eq_true rfl)
theorem sX9_readsNet_139_1 : ab_X rom K cX9_readsNet 7 0 139 ls [w1, .ref a, v0] hp = if ab_iso hp a 7 = true then (K 211 (.ref a :: [w1]) hp).bind (fun o => ab_X rom K cX9_readsNet 7 0 142 ls (o.1.toList ++ [v0]) o.2) else none := ay_virtual (as := [w1]) (st := [v0]) dX9_readsNet_139 kc_7_182 rfl rfl (Nat.le_of_ble_eq_true rfl)
theorem sX9_readsNet_139_2 : ab_X rom K cX9_readsNet 7 0 139 ls [w1, .ref a, v0, v1] hp = if ab_iso hp a 7 = true then (K 211 (.ref a :: [w1]) hp).bind (fun o => ab_X rom K cX9_readsNet 7 0 142 ls (o.1.toList ++ [v0, v1]) o.2) else none := ay_virtual (as := [w1]) (st := [v0, v1]) dX9_readsNet_139 kc_7_182 rfl rfl (Nat.le_of_ble_eq_true rfl)
theorem sX9_readsNet_139_3 : ab_X rom K cX9_readsNet 7 0 139 ls [w1, .ref a, v0, v1, v2] hp = if ab_iso hp a 7 = true then (K 211 (.ref a :: [w1]) hp).bind (fun o => ab_X rom K cX9_readsNet 7 0 142 ls (o.1.toList ++ [v0, v1, v2]) o.2) else none := ay_virtual (as := [w1]) (st := [v0, v1, v2]) dX9_readsNet_139 kc_7_182 rfl rfl (Nat.le_of_ble_eq_true rfl)
theorem dX9_readsNet_142 : decode cX9_readsNet 142 = .ok (.goto (-18), 3) := by decide +kernel
theorem sX9_readsNet_142 : ab_X rom K cX9_readsNet 7 0 142 ls st hp = ab_X rom K cX9_readsNet 7 0 124 ls st hp := ax_goto dX9_readsNet_142 (by decide)
theorem dX9_readsNet_145 : decode cX9_readsNet 145 = .ok (.aload_n 0, 1) := by decide +kernel
theorem sX9_readsNet_145 : ab_X rom K cX9_readsNet 7 0 145 (.ref a :: ls) st hp = ab_X rom K cX9_readsNet 7 0 146 (.ref a :: ls) (.ref a :: st) hp := ax_aload_n dX9_readsNet_145 rfl rfl
theorem dX9_readsNet_146 : decode cX9_readsNet 146 = .ok (.aload_n 0, 1) := by decide +kernel
theorem sX9_readsNet_146 : ab_X rom K cX9_readsNet 7 0 146 (.ref a :: ls) st hp = ab_X rom K cX9_readsNet 7 0 147 (.ref a :: ls) (.ref a :: st) hp := ax_aload_n dX9_readsNet_146 rfl rfl
theorem dX9_readsNet_147 : decode cX9_readsNet 147 = .ok (.bipush 59, 2) := by decide +kernel
theorem sX9_readsNet_147 : ab_X rom K cX9_readsNet 7 0 147 ls st hp = ab_X rom K cX9_readsNet 7 0 149 ls (.int 59 :: st) hp := ax_bipush dX9_readsNet_147 (by decide) rfl
theorem dX9_readsNet_149 : decode cX9_readsNet 149 = .ok (.invokevirtual 153, 3) := by decide +kernel
theorem sX9_readsNet_149_0 : ab_X rom K cX9_readsNet 7 0 149 ls [w1, .ref a] hp = if ab_iso hp a 7 = true then (K 174 (.ref a :: [w1]) hp).bind (fun o => ab_X rom K cX9_readsNet 7 0 152 ls (o.1.toList ++ []) o.2) else none := ay_virtual (as := [w1]) (st := []) dX9_readsNet_149 kc_7_153 rfl rfl (Nat.le_of_ble_eq_true rfl)
theorem sX9_readsNet_149_1 : ab_X rom K cX9_readsNet 7 0 149 ls [w1, .ref a, v0] hp = if ab_iso hp a 7 = true then (K 174 (.ref a :: [w1]) hp).bind (fun o => ab_X rom K cX9_readsNet 7 0 152 ls (o.1.toList ++ [v0]) o.2) else none := ay_virtual (as := [w1]) (st := [v0]) dX9_readsNet_149 kc_7_153 rfl rfl (Nat.le_of_ble_eq_true rfl)
theorem sX9_readsNet_149_2 : ab_X rom K cX9_readsNet 7 0 149 ls [w1, .ref a, v0, v1] hp = if ab_iso hp a 7 = true then (K 174 (.ref a :: [w1]) hp).bind (fun o => ab_X rom K cX9_readsNet 7 0 152 ls (o.1.toList ++ [v0, v1]) o.2) else none := ay_virtual (as := [w1]) (st := [v0, v1]) dX9_readsNet_149 kc_7_153 rfl rfl (Nat.le_of_ble_eq_true rfl)
theorem sX9_readsNet_149_3 : ab_X rom K cX9_readsNet 7 0 149 ls [w1, .ref a, v0, v1, v2] hp = if ab_iso hp a 7 = true then (K 174 (.ref a :: [w1]) hp).bind (fun o => ab_X rom K cX9_readsNet 7 0 152 ls (o.1.toList ++ [v0, v1, v2]) o.2) else none := ay_virtual (as := [w1]) (st := [v0, v1, v2]) dX9_readsNet_149 kc_7_153 rfl rfl (Nat.le_of_ble_eq_true rfl)
theorem dX9_readsNet_152 : decode cX9_readsNet 152 = .ok (.invokevirtual 156, 3) := by decide +kernel
theorem sX9_readsNet_152_0 : ab_X rom K cX9_readsNet 7 0 152 ls [w1, .ref a] hp = if ab_iso hp a 7 = true then (K 201 (.ref a :: [w1]) hp).bind (fun o => ab_X rom K cX9_readsNet 7 0 155 ls (o.1.toList ++ []) o.2) else none := ay_virtual (as := [w1]) (st := []) dX9_readsNet_152 kc_7_156 rfl rfl (Nat.le_of_ble_eq_true rfl)
theorem sX9_readsNet_152_1 : ab_X rom K cX9_readsNet 7 0 152 ls [w1, .ref a, v0] hp = if ab_iso hp a 7 = true then (K 201 (.ref a :: [w1]) hp).bind (fun o => ab_X rom K cX9_readsNet 7 0 155 ls (o.1.toList ++ [v0]) o.2) else none := ay_virtual (as := [w1]) (st := [v0]) dX9_readsNet_152 kc_7_156 rfl rfl (Nat.le_of_ble_eq_true rfl)
theorem sX9_readsNet_152_2 : ab_X rom K cX9_readsNet 7 0 152 ls [w1, .ref a, v0, v1] hp = if ab_iso hp a 7 = true then (K 201 (.ref a :: [w1]) hp).bind (fun o => ab_X rom K cX9_readsNet 7 0 155 ls (o.1.toList ++ [v0, v1]) o.2) else none := ay_virtual (as := [w1]) (st := [v0, v1]) dX9_readsNet_152 kc_7_156 rfl rfl (Nat.le_of_ble_eq_true rfl)
theorem sX9_readsNet_152_3 : ab_X rom K cX9_readsNet 7 0 152 ls [w1, .ref a, v0, v1, v2] hp = if ab_iso hp a 7 = true then (K 201 (.ref a :: [w1]) hp).bind (fun o => ab_X rom K cX9_readsNet 7 0 155 ls (o.1.toList ++ [v0, v1, v2]) o.2) else none := ay_virtual (as := [w1]) (st := [v0, v1, v2]) dX9_readsNet_152 kc_7_156 rfl rfl (Nat.le_of_ble_eq_true rfl)
theorem dX9_readsNet_155 : decode cX9_readsNet 155 = .ok (.goto (-67), 3) := by decide +kernel
theorem sX9_readsNet_155 : ab_X rom K cX9_readsNet 7 0 155 ls st hp = ab_X rom K cX9_readsNet 7 0 88 ls st hp := ax_goto dX9_readsNet_155 (by decide)
theorem dX9_readsNet_158 : decode cX9_readsNet 158 = .ok (.return_, 1) := by decide +kernel
theorem sX9_readsNet_158 : ab_X rom K cX9_readsNet 7 0 158 ls [] hp = some (none, hp) := ax_vret dX9_readsNet_158 (by decide)
theorem tX9_remembers : ab_mT[214]? = some (yX9_remembers, cX9_remembers, 2, 0, 7) := by decide +kernel
theorem mX9_remembers {d : Nat} {a0 : Nat} : ab_M rom (d + 1) 214 [.ref a0] hp = ab_X rom (ab_M rom d) cX9_remembers 7 0 0 [.ref a0, .null] [] hp := ab_M_eq tX9_remembers (Nat.le_of_ble_eq_true rfl)
theorem dX9_remembers_0 : decode cX9_remembers 0 = .ok (.iconst 0, 1) := by decide +kernel
theorem sX9_remembers_0 : ab_X rom K cX9_remembers 7 0 0 ls st hp = ab_X rom K cX9_remembers 7 0 1 ls (.int 0 :: st) hp := ax_iconst dX9_remembers_0 (by decide) rfl
theorem dX9_remembers_1 : decode cX9_remembers 1 = .ok (.istore_n 1, 1) := by decide +kernel
theorem sX9_remembers_1i : ab_X rom K cX9_remembers 7 0 1 (.int y :: v1 :: ls) (.int x :: st) hp = ab_X rom K cX9_remembers 7 0 2 (.int y :: .int x :: ls) st hp := ax_istore_n dX9_remembers_1 (ax_lt (v := v1) rfl) (ab_nl_c1 (j := 0) (v := .int y) rfl (ab_c1_int _)) rfl rfl
theorem sX9_remembers_1r : ab_X rom K cX9_remembers 7 0 1 (.ref a2 :: v1 :: ls) (.int x :: st) hp = ab_X rom K cX9_remembers 7 0 2 (.ref a2 :: .int x :: ls) st hp := ax_istore_n dX9_remembers_1 (ax_lt (v := v1) rfl) (ab_nl_c1 (j := 0) (v := .ref a2) rfl (ab_c1_ref _)) rfl rfl
theorem sX9_remembers_1n : ab_X rom K cX9_remembers 7 0 1 (.null :: v1 :: ls) (.int x :: st) hp = ab_X rom K cX9_remembers 7 0 2 (.null :: .int x :: ls) st hp := ax_istore_n dX9_remembers_1 (ax_lt (v := v1) rfl) (ab_nl_c1 (j := 0) (v := .null) rfl ab_c1_null) rfl rfl
theorem dX9_remembers_2 : decode cX9_remembers 2 = .ok (.iload_n 1, 1) := by decide +kernel
theorem sX9_remembers_2 : ab_X rom K cX9_remembers 7 0 2 (v0 :: .int x :: ls) st hp = ab_X rom K cX9_remembers 7 0 3 (v0 :: .int x :: ls) (.int x :: st) hp := ax_iload_n dX9_remembers_2 rfl rfl
theorem dX9_remembers_3 : decode cX9_remembers 3 = .ok (.bipush 45, 2) := by decide +kernel
theorem sX9_remembers_3 : ab_X rom K cX9_remembers 7 0 3 ls st hp = ab_X rom K cX9_remembers 7 0 5 ls (.int 45 :: st) hp := ax_bipush dX9_remembers_3 (by decide) rfl
theorem dX9_remembers_5 : decode cX9_remembers 5 = .ok (.if_icmp .ge 21, 3) := by decide +kernel
theorem sX9_remembers_5 : ab_X rom K cX9_remembers 7 0 5 ls (.int y :: .int x :: st) hp = if x < y then ab_X rom K cX9_remembers 7 0 8 ls st hp else ab_X rom K cX9_remembers 7 0 26 ls st hp := ax_icmp_ge dX9_remembers_5 (by decide) rfl
theorem dX9_remembers_8 : decode cX9_remembers 8 = .ok (.aload_n 0, 1) := by decide +kernel
theorem sX9_remembers_8 : ab_X rom K cX9_remembers 7 0 8 (.ref a :: ls) st hp = ab_X rom K cX9_remembers 7 0 9 (.ref a :: ls) (.ref a :: st) hp := ax_aload_n dX9_remembers_8 rfl rfl
theorem dX9_remembers_9 : decode cX9_remembers 9 = .ok (.getfield 13, 3) := by decide +kernel
theorem sX9_remembers_9 : ab_X rom K cX9_remembers 7 0 9 ls (.ref a :: st) hp = (ab_fld hp a 7 1).bind (fun v => ab_X rom K cX9_remembers 7 0 12 ls (v :: st) hp) := ax_getfield dX9_remembers_9 kf_7_13 rfl
theorem dX9_remembers_12 : decode cX9_remembers 12 = .ok (.iload_n 1, 1) := by decide +kernel
theorem sX9_remembers_12 : ab_X rom K cX9_remembers 7 0 12 (v0 :: .int x :: ls) st hp = ab_X rom K cX9_remembers 7 0 13 (v0 :: .int x :: ls) (.int x :: st) hp := ax_iload_n dX9_remembers_12 rfl rfl
theorem dX9_remembers_13 : decode cX9_remembers 13 = .ok (.aload_n 0, 1) := by decide +kernel
theorem sX9_remembers_13 : ab_X rom K cX9_remembers 7 0 13 (.ref a :: ls) st hp = ab_X rom K cX9_remembers 7 0 14 (.ref a :: ls) (.ref a :: st) hp := ax_aload_n dX9_remembers_13 rfl rfl
theorem dX9_remembers_14 : decode cX9_remembers 14 = .ok (.getfield 7, 3) := by decide +kernel
theorem sX9_remembers_14 : ab_X rom K cX9_remembers 7 0 14 ls (.ref a :: st) hp = (ab_fld hp a 7 0).bind (fun v => ab_X rom K cX9_remembers 7 0 17 ls (v :: st) hp) := ax_getfield dX9_remembers_14 kf_7_7 rfl
theorem dX9_remembers_17 : decode cX9_remembers 17 = .ok (.iload_n 1, 1) := by decide +kernel
theorem sX9_remembers_17 : ab_X rom K cX9_remembers 7 0 17 (v0 :: .int x :: ls) st hp = ab_X rom K cX9_remembers 7 0 18 (v0 :: .int x :: ls) (.int x :: st) hp := ax_iload_n dX9_remembers_17 rfl rfl
theorem dX9_remembers_18 : decode cX9_remembers 18 = .ok (.iaload, 1) := by decide +kernel
theorem sX9_remembers_18 : ab_X rom K cX9_remembers 7 0 18 ls (.int x :: .ref a :: st) hp = (ab_ard rom 0 hp a x).bind (fun v => ab_X rom K cX9_remembers 7 0 19 ls (.int v :: st) hp) := ax_iaload dX9_remembers_18 rfl
theorem dX9_remembers_19 : decode cX9_remembers 19 = .ok (.iastore, 1) := by decide +kernel
theorem sX9_remembers_19 : ab_X rom K cX9_remembers 7 0 19 ls (.int y :: .int x :: .ref a :: st) hp = (ab_awr 0 hp a x y).bind (fun hp' => ab_X rom K cX9_remembers 7 0 20 ls st hp') := ax_iastore dX9_remembers_19 rfl
theorem dX9_remembers_20 : decode cX9_remembers 20 = .ok (.iinc 1 1, 3) := by decide +kernel
theorem sX9_remembers_20i : ab_X rom K cX9_remembers 7 0 20 (.int y :: .int x :: ls) st hp = ab_X rom K cX9_remembers 7 0 23 (.int y :: .int (x + 1) :: ls) st hp := ax_iinc dX9_remembers_20 rfl (ab_nl_c1 (j := 0) (v := .int y) rfl (ab_c1_int _)) (by decide) rfl rfl
theorem sX9_remembers_20r : ab_X rom K cX9_remembers 7 0 20 (.ref a2 :: .int x :: ls) st hp = ab_X rom K cX9_remembers 7 0 23 (.ref a2 :: .int (x + 1) :: ls) st hp := ax_iinc dX9_remembers_20 rfl (ab_nl_c1 (j := 0) (v := .ref a2) rfl (ab_c1_ref _)) (by decide) rfl rfl
theorem sX9_remembers_20n : ab_X rom K cX9_remembers 7 0 20 (.null :: .int x :: ls) st hp = ab_X rom K cX9_remembers 7 0 23 (.null :: .int (x + 1) :: ls) st hp := ax_iinc dX9_remembers_20 rfl (ab_nl_c1 (j := 0) (v := .null) rfl ab_c1_null) (by decide) rfl rfl
theorem dX9_remembers_23 : decode cX9_remembers 23 = .ok (.goto (-21), 3) := by decide +kernel
theorem sX9_remembers_23 : ab_X rom K cX9_remembers 7 0 23 ls st hp = ab_X rom K cX9_remembers 7 0 2 ls st hp := ax_goto dX9_remembers_23 (by decide)
theorem dX9_remembers_26 : decode cX9_remembers 26 = .ok (.return_, 1) := by decide +kernel
theorem sX9_remembers_26 : ab_X rom K cX9_remembers 7 0 26 ls [] hp = some (none, hp) := ax_vret dX9_remembers_26 (by decide)
theorem tX9_reverse : ab_mT[215]? = some (yX9_reverse, cX9_reverse, 4, 1, 7) := by decide +kernel
theorem mX9_reverse {d : Nat} {a0 : Nat} {x0 : Int32} : ab_M rom (d + 1) 215 [.ref a0, .int x0] hp = ab_X rom (ab_M rom d) cX9_reverse 7 1 0 [.ref a0, .int x0, .null, .null] [] hp := ab_M_eq tX9_reverse (Nat.le_of_ble_eq_true rfl)
theorem dX9_reverse_0 : decode cX9_reverse 0 = .ok (.aload_n 0, 1) := by decide +kernel
theorem sX9_reverse_0 : ab_X rom K cX9_reverse 7 1 0 (.ref a :: ls) st hp = ab_X rom K cX9_reverse 7 1 1 (.ref a :: ls) (.ref a :: st) hp := ax_aload_n dX9_reverse_0 rfl rfl
theorem dX9_reverse_1 : decode cX9_reverse 1 = .ok (.iload_n 1, 1) := by decide +kernel
theorem sX9_reverse_1 : ab_X rom K cX9_reverse 7 1 1 (v0 :: .int x :: ls) st hp = ab_X rom K cX9_reverse 7 1 2 (v0 :: .int x :: ls) (.int x :: st) hp := ax_iload_n dX9_reverse_1 rfl rfl
theorem dX9_reverse_2 : decode cX9_reverse 2 = .ok (.invokevirtual 68, 3) := by decide +kernel
theorem sX9_reverse_2_0 : ab_X rom K cX9_reverse 7 1 2 ls [w1, .ref a] hp = if ab_iso hp a 7 = true then (K 171 (.ref a :: [w1]) hp).bind (fun o => ab_X rom K cX9_reverse 7 1 5 ls (o.1.toList ++ []) o.2) else none := ay_virtual (as := [w1]) (st := []) dX9_reverse_2 kc_7_68 rfl rfl (Nat.le_of_ble_eq_true rfl)
theorem sX9_reverse_2_1 : ab_X rom K cX9_reverse 7 1 2 ls [w1, .ref a, v0] hp = if ab_iso hp a 7 = true then (K 171 (.ref a :: [w1]) hp).bind (fun o => ab_X rom K cX9_reverse 7 1 5 ls (o.1.toList ++ [v0]) o.2) else none := ay_virtual (as := [w1]) (st := [v0]) dX9_reverse_2 kc_7_68 rfl rfl (Nat.le_of_ble_eq_true rfl)
theorem sX9_reverse_2_2 : ab_X rom K cX9_reverse 7 1 2 ls [w1, .ref a, v0, v1] hp = if ab_iso hp a 7 = true then (K 171 (.ref a :: [w1]) hp).bind (fun o => ab_X rom K cX9_reverse 7 1 5 ls (o.1.toList ++ [v0, v1]) o.2) else none := ay_virtual (as := [w1]) (st := [v0, v1]) dX9_reverse_2 kc_7_68 rfl rfl (Nat.le_of_ble_eq_true rfl)
theorem sX9_reverse_2_3 : ab_X rom K cX9_reverse 7 1 2 ls [w1, .ref a, v0, v1, v2] hp = if ab_iso hp a 7 = true then (K 171 (.ref a :: [w1]) hp).bind (fun o => ab_X rom K cX9_reverse 7 1 5 ls (o.1.toList ++ [v0, v1, v2]) o.2) else none := ay_virtual (as := [w1]) (st := [v0, v1, v2]) dX9_reverse_2 kc_7_68 rfl rfl (Nat.le_of_ble_eq_true rfl)
theorem dX9_reverse_5 : decode cX9_reverse 5 = .ok (.ifCond .ne 6, 3) := by decide +kernel
theorem sX9_reverse_5 : ab_X rom K cX9_reverse 7 1 5 ls (.int x :: st) hp = if x = 0 then ab_X rom K cX9_reverse 7 1 8 ls st hp else ab_X rom K cX9_reverse 7 1 11 ls st hp := ax_if_ne dX9_reverse_5 (by decide) rfl
theorem dX9_reverse_8 : decode cX9_reverse 8 = .ok (.bipush (-2), 2) := by decide +kernel
theorem sX9_reverse_8 : ab_X rom K cX9_reverse 7 1 8 ls st hp = ab_X rom K cX9_reverse 7 1 10 ls (.int (-2) :: st) hp := ax_bipush dX9_reverse_8 (by decide) rfl
theorem dX9_reverse_10 : decode cX9_reverse 10 = .ok (.ireturn, 1) := by decide +kernel
theorem sX9_reverse_10 : ab_X rom K cX9_reverse 7 1 10 ls [.int x] hp = some (some (.int x), hp) := ax_iret dX9_reverse_10 rfl
theorem dX9_reverse_11 : decode cX9_reverse 11 = .ok (.aload_n 0, 1) := by decide +kernel
theorem sX9_reverse_11 : ab_X rom K cX9_reverse 7 1 11 (.ref a :: ls) st hp = ab_X rom K cX9_reverse 7 1 12 (.ref a :: ls) (.ref a :: st) hp := ax_aload_n dX9_reverse_11 rfl rfl
theorem dX9_reverse_12 : decode cX9_reverse 12 = .ok (.iload_n 1, 1) := by decide +kernel
theorem sX9_reverse_12 : ab_X rom K cX9_reverse 7 1 12 (v0 :: .int x :: ls) st hp = ab_X rom K cX9_reverse 7 1 13 (v0 :: .int x :: ls) (.int x :: st) hp := ax_iload_n dX9_reverse_12 rfl rfl
theorem dX9_reverse_13 : decode cX9_reverse 13 = .ok (.invokevirtual 150, 3) := by decide +kernel
theorem sX9_reverse_13_0 : ab_X rom K cX9_reverse 7 1 13 ls [w1, .ref a] hp = if ab_iso hp a 7 = true then (K 188 (.ref a :: [w1]) hp).bind (fun o => ab_X rom K cX9_reverse 7 1 16 ls (o.1.toList ++ []) o.2) else none := ay_virtual (as := [w1]) (st := []) dX9_reverse_13 kc_7_150 rfl rfl (Nat.le_of_ble_eq_true rfl)
theorem sX9_reverse_13_1 : ab_X rom K cX9_reverse 7 1 13 ls [w1, .ref a, v0] hp = if ab_iso hp a 7 = true then (K 188 (.ref a :: [w1]) hp).bind (fun o => ab_X rom K cX9_reverse 7 1 16 ls (o.1.toList ++ [v0]) o.2) else none := ay_virtual (as := [w1]) (st := [v0]) dX9_reverse_13 kc_7_150 rfl rfl (Nat.le_of_ble_eq_true rfl)
theorem sX9_reverse_13_2 : ab_X rom K cX9_reverse 7 1 13 ls [w1, .ref a, v0, v1] hp = if ab_iso hp a 7 = true then (K 188 (.ref a :: [w1]) hp).bind (fun o => ab_X rom K cX9_reverse 7 1 16 ls (o.1.toList ++ [v0, v1]) o.2) else none := ay_virtual (as := [w1]) (st := [v0, v1]) dX9_reverse_13 kc_7_150 rfl rfl (Nat.le_of_ble_eq_true rfl)
theorem sX9_reverse_13_3 : ab_X rom K cX9_reverse 7 1 13 ls [w1, .ref a, v0, v1, v2] hp = if ab_iso hp a 7 = true then (K 188 (.ref a :: [w1]) hp).bind (fun o => ab_X rom K cX9_reverse 7 1 16 ls (o.1.toList ++ [v0, v1, v2]) o.2) else none := ay_virtual (as := [w1]) (st := [v0, v1, v2]) dX9_reverse_13 kc_7_150 rfl rfl (Nat.le_of_ble_eq_true rfl)
theorem dX9_reverse_16 : decode cX9_reverse 16 = .ok (.istore_n 2, 1) := by decide +kernel
theorem sX9_reverse_16i : ab_X rom K cX9_reverse 7 1 16 (v0 :: .int y :: v2 :: ls) (.int x :: st) hp = ab_X rom K cX9_reverse 7 1 17 (v0 :: .int y :: .int x :: ls) st hp := ax_istore_n dX9_reverse_16 (ax_lt (v := v2) rfl) (ab_nl_c1 (j := 1) (v := .int y) rfl (ab_c1_int _)) rfl rfl
theorem sX9_reverse_16r : ab_X rom K cX9_reverse 7 1 16 (v0 :: .ref a2 :: v2 :: ls) (.int x :: st) hp = ab_X rom K cX9_reverse 7 1 17 (v0 :: .ref a2 :: .int x :: ls) st hp := ax_istore_n dX9_reverse_16 (ax_lt (v := v2) rfl) (ab_nl_c1 (j := 1) (v := .ref a2) rfl (ab_c1_ref _)) rfl rfl
theorem sX9_reverse_16n : ab_X rom K cX9_reverse 7 1 16 (v0 :: .null :: v2 :: ls) (.int x :: st) hp = ab_X rom K cX9_reverse 7 1 17 (v0 :: .null :: .int x :: ls) st hp := ax_istore_n dX9_reverse_16 (ax_lt (v := v2) rfl) (ab_nl_c1 (j := 1) (v := .null) rfl ab_c1_null) rfl rfl
theorem dX9_reverse_17 : decode cX9_reverse 17 = .ok (.iconst 0, 1) := by decide +kernel
theorem sX9_reverse_17 : ab_X rom K cX9_reverse 7 1 17 ls st hp = ab_X rom K cX9_reverse 7 1 18 ls (.int 0 :: st) hp := ax_iconst dX9_reverse_17 (by decide) rfl
theorem dX9_reverse_18 : decode cX9_reverse 18 = .ok (.istore_n 3, 1) := by decide +kernel
theorem sX9_reverse_18i : ab_X rom K cX9_reverse 7 1 18 (v0 :: v1 :: .int y :: v3 :: ls) (.int x :: st) hp = ab_X rom K cX9_reverse 7 1 19 (v0 :: v1 :: .int y :: .int x :: ls) st hp := ax_istore_n dX9_reverse_18 (ax_lt (v := v3) rfl) (ab_nl_c1 (j := 2) (v := .int y) rfl (ab_c1_int _)) rfl rfl
theorem sX9_reverse_18r : ab_X rom K cX9_reverse 7 1 18 (v0 :: v1 :: .ref a2 :: v3 :: ls) (.int x :: st) hp = ab_X rom K cX9_reverse 7 1 19 (v0 :: v1 :: .ref a2 :: .int x :: ls) st hp := ax_istore_n dX9_reverse_18 (ax_lt (v := v3) rfl) (ab_nl_c1 (j := 2) (v := .ref a2) rfl (ab_c1_ref _)) rfl rfl
theorem sX9_reverse_18n : ab_X rom K cX9_reverse 7 1 18 (v0 :: v1 :: .null :: v3 :: ls) (.int x :: st) hp = ab_X rom K cX9_reverse 7 1 19 (v0 :: v1 :: .null :: .int x :: ls) st hp := ax_istore_n dX9_reverse_18 (ax_lt (v := v3) rfl) (ab_nl_c1 (j := 2) (v := .null) rfl ab_c1_null) rfl rfl
theorem dX9_reverse_19 : decode cX9_reverse 19 = .ok (.iload_n 3, 1) := by decide +kernel
theorem sX9_reverse_19 : ab_X rom K cX9_reverse 7 1 19 (v0 :: v1 :: v2 :: .int x :: ls) st hp = ab_X rom K cX9_reverse 7 1 20 (v0 :: v1 :: v2 :: .int x :: ls) (.int x :: st) hp := ax_iload_n dX9_reverse_19 rfl rfl
theorem dX9_reverse_20 : decode cX9_reverse 20 = .ok (.aload_n 0, 1) := by decide +kernel
theorem sX9_reverse_20 : ab_X rom K cX9_reverse 7 1 20 (.ref a :: ls) st hp = ab_X rom K cX9_reverse 7 1 21 (.ref a :: ls) (.ref a :: st) hp := ax_aload_n dX9_reverse_20 rfl rfl
theorem dX9_reverse_21 : decode cX9_reverse 21 = .ok (.iload_n 1, 1) := by decide +kernel
theorem sX9_reverse_21 : ab_X rom K cX9_reverse 7 1 21 (v0 :: .int x :: ls) st hp = ab_X rom K cX9_reverse 7 1 22 (v0 :: .int x :: ls) (.int x :: st) hp := ax_iload_n dX9_reverse_21 rfl rfl
theorem dX9_reverse_22 : decode cX9_reverse 22 = .ok (.invokevirtual 64, 3) := by decide +kernel
theorem sX9_reverse_22_0 : ab_X rom K cX9_reverse 7 1 22 ls [w1, .ref a] hp = if ab_iso hp a 7 = true then (K 209 (.ref a :: [w1]) hp).bind (fun o => ab_X rom K cX9_reverse 7 1 25 ls (o.1.toList ++ []) o.2) else none := ay_virtual (as := [w1]) (st := []) dX9_reverse_22 kc_7_64 rfl rfl (Nat.le_of_ble_eq_true rfl)
theorem sX9_reverse_22_1 : ab_X rom K cX9_reverse 7 1 22 ls [w1, .ref a, v0] hp = if ab_iso hp a 7 = true then (K 209 (.ref a :: [w1]) hp).bind (fun o => ab_X rom K cX9_reverse 7 1 25 ls (o.1.toList ++ [v0]) o.2) else none := ay_virtual (as := [w1]) (st := [v0]) dX9_reverse_22 kc_7_64 rfl rfl (Nat.le_of_ble_eq_true rfl)
theorem sX9_reverse_22_2 : ab_X rom K cX9_reverse 7 1 22 ls [w1, .ref a, v0, v1] hp = if ab_iso hp a 7 = true then (K 209 (.ref a :: [w1]) hp).bind (fun o => ab_X rom K cX9_reverse 7 1 25 ls (o.1.toList ++ [v0, v1]) o.2) else none := ay_virtual (as := [w1]) (st := [v0, v1]) dX9_reverse_22 kc_7_64 rfl rfl (Nat.le_of_ble_eq_true rfl)
theorem sX9_reverse_22_3 : ab_X rom K cX9_reverse 7 1 22 ls [w1, .ref a, v0, v1, v2] hp = if ab_iso hp a 7 = true then (K 209 (.ref a :: [w1]) hp).bind (fun o => ab_X rom K cX9_reverse 7 1 25 ls (o.1.toList ++ [v0, v1, v2]) o.2) else none := ay_virtual (as := [w1]) (st := [v0, v1, v2]) dX9_reverse_22 kc_7_64 rfl rfl (Nat.le_of_ble_eq_true rfl)
theorem dX9_reverse_25 : decode cX9_reverse 25 = .ok (.if_icmp .ge 28, 3) := by decide +kernel
theorem sX9_reverse_25 : ab_X rom K cX9_reverse 7 1 25 ls (.int y :: .int x :: st) hp = if x < y then ab_X rom K cX9_reverse 7 1 28 ls st hp else ab_X rom K cX9_reverse 7 1 53 ls st hp := ax_icmp_ge dX9_reverse_25 (by decide) rfl
theorem dX9_reverse_28 : decode cX9_reverse 28 = .ok (.aload_n 0, 1) := by decide +kernel
theorem sX9_reverse_28 : ab_X rom K cX9_reverse 7 1 28 (.ref a :: ls) st hp = ab_X rom K cX9_reverse 7 1 29 (.ref a :: ls) (.ref a :: st) hp := ax_aload_n dX9_reverse_28 rfl rfl
theorem dX9_reverse_29 : decode cX9_reverse 29 = .ok (.iload_n 1, 1) := by decide +kernel
theorem sX9_reverse_29 : ab_X rom K cX9_reverse 7 1 29 (v0 :: .int x :: ls) st hp = ab_X rom K cX9_reverse 7 1 30 (v0 :: .int x :: ls) (.int x :: st) hp := ax_iload_n dX9_reverse_29 rfl rfl
theorem dX9_reverse_30 : decode cX9_reverse 30 = .ok (.iload_n 3, 1) := by decide +kernel
theorem sX9_reverse_30 : ab_X rom K cX9_reverse 7 1 30 (v0 :: v1 :: v2 :: .int x :: ls) st hp = ab_X rom K cX9_reverse 7 1 31 (v0 :: v1 :: v2 :: .int x :: ls) (.int x :: st) hp := ax_iload_n dX9_reverse_30 rfl rfl
theorem dX9_reverse_31 : decode cX9_reverse 31 = .ok (.invokevirtual 168, 3) := by decide +kernel
theorem sX9_reverse_31_0 : ab_X rom K cX9_reverse 7 1 31 ls [w2, w1, .ref a] hp = if ab_iso hp a 7 = true then (K 183 (.ref a :: [w1, w2]) hp).bind (fun o => ab_X rom K cX9_reverse 7 1 34 ls (o.1.toList ++ []) o.2) else none := ay_virtual (as := [w1, w2]) (st := []) dX9_reverse_31 kc_7_168 rfl rfl (Nat.le_of_ble_eq_true rfl)
theorem sX9_reverse_31_1 : ab_X rom K cX9_reverse 7 1 31 ls [w2, w1, .ref a, v0] hp = if ab_iso hp a 7 = true then (K 183 (.ref a :: [w1, w2]) hp).bind (fun o => ab_X rom K cX9_reverse 7 1 34 ls (o.1.toList ++ [v0]) o.2) else none := ay_virtual (as := [w1, w2]) (st := [v0]) dX9_reverse_31 kc_7_168 rfl rfl (Nat.le_of_ble_eq_true rfl)
theorem sX9_reverse_31_2 : ab_X rom K cX9_reverse 7 1 31 ls [w2, w1, .ref a, v0, v1] hp = if ab_iso hp a 7 = true then (K 183 (.ref a :: [w1, w2]) hp).bind (fun o => ab_X rom K cX9_reverse 7 1 34 ls (o.1.toList ++ [v0, v1]) o.2) else none := ay_virtual (as := [w1, w2]) (st := [v0, v1]) dX9_reverse_31 kc_7_168 rfl rfl (Nat.le_of_ble_eq_true rfl)
theorem sX9_reverse_31_3 : ab_X rom K cX9_reverse 7 1 31 ls [w2, w1, .ref a, v0, v1, v2] hp = if ab_iso hp a 7 = true then (K 183 (.ref a :: [w1, w2]) hp).bind (fun o => ab_X rom K cX9_reverse 7 1 34 ls (o.1.toList ++ [v0, v1, v2]) o.2) else none := ay_virtual (as := [w1, w2]) (st := [v0, v1, v2]) dX9_reverse_31 kc_7_168 rfl rfl (Nat.le_of_ble_eq_true rfl)
theorem dX9_reverse_34 : decode cX9_reverse 34 = .ok (.i2l, 1) := by decide +kernel
theorem sX9_reverse_34 : ab_X rom K cX9_reverse 7 1 34 ls (.int x :: st) hp = ab_X rom K cX9_reverse 7 1 35 ls (.long x.toInt64 :: st) hp := ax_i2l dX9_reverse_34 rfl
theorem dX9_reverse_35 : decode cX9_reverse 35 = .ok (.lconst 0, 1) := by decide +kernel
theorem sX9_reverse_35 : ab_X rom K cX9_reverse 7 1 35 ls st hp = ab_X rom K cX9_reverse 7 1 36 ls (.long 0 :: st) hp := ax_lconst dX9_reverse_35 (by decide) rfl
theorem dX9_reverse_36 : decode cX9_reverse 36 = .ok (.iload_n 2, 1) := by decide +kernel
theorem sX9_reverse_36 : ab_X rom K cX9_reverse 7 1 36 (v0 :: v1 :: .int x :: ls) st hp = ab_X rom K cX9_reverse 7 1 37 (v0 :: v1 :: .int x :: ls) (.int x :: st) hp := ax_iload_n dX9_reverse_36 rfl rfl
theorem dX9_reverse_37 : decode cX9_reverse 37 = .ok (.i2l, 1) := by decide +kernel
theorem sX9_reverse_37 : ab_X rom K cX9_reverse 7 1 37 ls (.int x :: st) hp = ab_X rom K cX9_reverse 7 1 38 ls (.long x.toInt64 :: st) hp := ax_i2l dX9_reverse_37 rfl
theorem dX9_reverse_38 : decode cX9_reverse 38 = .ok (.invokestatic 56, 3) := by decide +kernel
theorem sX9_reverse_38_0 : ab_X rom K cX9_reverse 7 1 38 ls [w3, w2, w1] hp = (K 159 [w1, w2, w3] hp).bind (fun o => ab_X rom K cX9_reverse 7 1 41 ls (o.1.toList ++ []) o.2) := ax_static (as := [w1, w2, w3]) (st := []) dX9_reverse_38 kc_7_56 rfl rfl (Nat.le_of_ble_eq_true rfl)
theorem sX9_reverse_38_1 : ab_X rom K cX9_reverse 7 1 38 ls [w3, w2, w1, v0] hp = (K 159 [w1, w2, w3] hp).bind (fun o => ab_X rom K cX9_reverse 7 1 41 ls (o.1.toList ++ [v0]) o.2) := ax_static (as := [w1, w2, w3]) (st := [v0]) dX9_reverse_38 kc_7_56 rfl rfl (Nat.le_of_ble_eq_true rfl)
theorem sX9_reverse_38_2 : ab_X rom K cX9_reverse 7 1 38 ls [w3, w2, w1, v0, v1] hp = (K 159 [w1, w2, w3] hp).bind (fun o => ab_X rom K cX9_reverse 7 1 41 ls (o.1.toList ++ [v0, v1]) o.2) := ax_static (as := [w1, w2, w3]) (st := [v0, v1]) dX9_reverse_38 kc_7_56 rfl rfl (Nat.le_of_ble_eq_true rfl)
theorem sX9_reverse_38_3 : ab_X rom K cX9_reverse 7 1 38 ls [w3, w2, w1, v0, v1, v2] hp = (K 159 [w1, w2, w3] hp).bind (fun o => ab_X rom K cX9_reverse 7 1 41 ls (o.1.toList ++ [v0, v1, v2]) o.2) := ax_static (as := [w1, w2, w3]) (st := [v0, v1, v2]) dX9_reverse_38 kc_7_56 rfl rfl (Nat.le_of_ble_eq_true rfl)
theorem dX9_reverse_41 : decode cX9_reverse 41 = .ok (.ifCond .ne 6, 3) := by decide +kernel
theorem sX9_reverse_41 : ab_X rom K cX9_reverse 7 1 41 ls (.int x :: st) hp = if x = 0 then ab_X rom K cX9_reverse 7 1 44 ls st hp else ab_X rom K cX9_reverse 7 1 47 ls st hp := ax_if_ne dX9_reverse_41 (by decide) rfl
theorem dX9_reverse_44 : decode cX9_reverse 44 = .ok (.bipush (-6), 2) := by decide +kernel
theorem sX9_reverse_44 : ab_X rom K cX9_reverse 7 1 44 ls st hp = ab_X rom K cX9_reverse 7 1 46 ls (.int (-6) :: st) hp := ax_bipush dX9_reverse_44 (by decide) rfl
theorem dX9_reverse_46 : decode cX9_reverse 46 = .ok (.ireturn, 1) := by decide +kernel
theorem sX9_reverse_46 : ab_X rom K cX9_reverse 7 1 46 ls [.int x] hp = some (some (.int x), hp) := ax_iret dX9_reverse_46 rfl
theorem dX9_reverse_47 : decode cX9_reverse 47 = .ok (.iinc 3 1, 3) := by decide +kernel
theorem sX9_reverse_47i : ab_X rom K cX9_reverse 7 1 47 (v0 :: v1 :: .int y :: .int x :: ls) st hp = ab_X rom K cX9_reverse 7 1 50 (v0 :: v1 :: .int y :: .int (x + 1) :: ls) st hp := ax_iinc dX9_reverse_47 rfl (ab_nl_c1 (j := 2) (v := .int y) rfl (ab_c1_int _)) (by decide) rfl rfl
theorem sX9_reverse_47r : ab_X rom K cX9_reverse 7 1 47 (v0 :: v1 :: .ref a2 :: .int x :: ls) st hp = ab_X rom K cX9_reverse 7 1 50 (v0 :: v1 :: .ref a2 :: .int (x + 1) :: ls) st hp := ax_iinc dX9_reverse_47 rfl (ab_nl_c1 (j := 2) (v := .ref a2) rfl (ab_c1_ref _)) (by decide) rfl rfl
theorem sX9_reverse_47n : ab_X rom K cX9_reverse 7 1 47 (v0 :: v1 :: .null :: .int x :: ls) st hp = ab_X rom K cX9_reverse 7 1 50 (v0 :: v1 :: .null :: .int (x + 1) :: ls) st hp := ax_iinc dX9_reverse_47 rfl (ab_nl_c1 (j := 2) (v := .null) rfl ab_c1_null) (by decide) rfl rfl
theorem dX9_reverse_50 : decode cX9_reverse 50 = .ok (.goto (-31), 3) := by decide +kernel
theorem sX9_reverse_50 : ab_X rom K cX9_reverse 7 1 50 ls st hp = ab_X rom K cX9_reverse 7 1 19 ls st hp := ax_goto dX9_reverse_50 (by decide)
theorem dX9_reverse_53 : decode cX9_reverse 53 = .ok (.aload_n 0, 1) := by decide +kernel
theorem sX9_reverse_53 : ab_X rom K cX9_reverse 7 1 53 (.ref a :: ls) st hp = ab_X rom K cX9_reverse 7 1 54 (.ref a :: ls) (.ref a :: st) hp := ax_aload_n dX9_reverse_53 rfl rfl
theorem dX9_reverse_54 : decode cX9_reverse 54 = .ok (.invokevirtual 87, 3) := by decide +kernel
theorem sX9_reverse_54_0 : ab_X rom K cX9_reverse 7 1 54 ls [.ref a] hp = if ab_iso hp a 7 = true then (K 214 (.ref a :: []) hp).bind (fun o => ab_X rom K cX9_reverse 7 1 57 ls (o.1.toList ++ []) o.2) else none := ay_virtual (as := []) (st := []) dX9_reverse_54 kc_7_87 rfl rfl (Nat.le_of_ble_eq_true rfl)
theorem sX9_reverse_54_1 : ab_X rom K cX9_reverse 7 1 54 ls [.ref a, v0] hp = if ab_iso hp a 7 = true then (K 214 (.ref a :: []) hp).bind (fun o => ab_X rom K cX9_reverse 7 1 57 ls (o.1.toList ++ [v0]) o.2) else none := ay_virtual (as := []) (st := [v0]) dX9_reverse_54 kc_7_87 rfl rfl (Nat.le_of_ble_eq_true rfl)
theorem sX9_reverse_54_2 : ab_X rom K cX9_reverse 7 1 54 ls [.ref a, v0, v1] hp = if ab_iso hp a 7 = true then (K 214 (.ref a :: []) hp).bind (fun o => ab_X rom K cX9_reverse 7 1 57 ls (o.1.toList ++ [v0, v1]) o.2) else none := ay_virtual (as := []) (st := [v0, v1]) dX9_reverse_54 kc_7_87 rfl rfl (Nat.le_of_ble_eq_true rfl)
theorem sX9_reverse_54_3 : ab_X rom K cX9_reverse 7 1 54 ls [.ref a, v0, v1, v2] hp = if ab_iso hp a 7 = true then (K 214 (.ref a :: []) hp).bind (fun o => ab_X rom K cX9_reverse 7 1 57 ls (o.1.toList ++ [v0, v1, v2]) o.2) else none := ay_virtual (as := []) (st := [v0, v1, v2]) dX9_reverse_54 kc_7_87 rfl rfl (Nat.le_of_ble_eq_true rfl)
theorem dX9_reverse_57 : decode cX9_reverse 57 = .ok (.iconst 0, 1) := by decide +kernel
theorem sX9_reverse_57 : ab_X rom K cX9_reverse 7 1 57 ls st hp = ab_X rom K cX9_reverse 7 1 58 ls (.int 0 :: st) hp := ax_iconst dX9_reverse_57 (by decide) rfl
theorem dX9_reverse_58 : decode cX9_reverse 58 = .ok (.istore_n 3, 1) := by decide +kernel
theorem sX9_reverse_58i : ab_X rom K cX9_reverse 7 1 58 (v0 :: v1 :: .int y :: v3 :: ls) (.int x :: st) hp = ab_X rom K cX9_reverse 7 1 59 (v0 :: v1 :: .int y :: .int x :: ls) st hp := ax_istore_n dX9_reverse_58 (ax_lt (v := v3) rfl) (ab_nl_c1 (j := 2) (v := .int y) rfl (ab_c1_int _)) rfl rfl
theorem sX9_reverse_58r : ab_X rom K cX9_reverse 7 1 58 (v0 :: v1 :: .ref a2 :: v3 :: ls) (.int x :: st) hp = ab_X rom K cX9_reverse 7 1 59 (v0 :: v1 :: .ref a2 :: .int x :: ls) st hp := ax_istore_n dX9_reverse_58 (ax_lt (v := v3) rfl) (ab_nl_c1 (j := 2) (v := .ref a2) rfl (ab_c1_ref _)) rfl rfl
theorem sX9_reverse_58n : ab_X rom K cX9_reverse 7 1 58 (v0 :: v1 :: .null :: v3 :: ls) (.int x :: st) hp = ab_X rom K cX9_reverse 7 1 59 (v0 :: v1 :: .null :: .int x :: ls) st hp := ax_istore_n dX9_reverse_58 (ax_lt (v := v3) rfl) (ab_nl_c1 (j := 2) (v := .null) rfl ab_c1_null) rfl rfl
theorem dX9_reverse_59 : decode cX9_reverse 59 = .ok (.iload_n 3, 1) := by decide +kernel
theorem sX9_reverse_59 : ab_X rom K cX9_reverse 7 1 59 (v0 :: v1 :: v2 :: .int x :: ls) st hp = ab_X rom K cX9_reverse 7 1 60 (v0 :: v1 :: v2 :: .int x :: ls) (.int x :: st) hp := ax_iload_n dX9_reverse_59 rfl rfl
theorem dX9_reverse_60 : decode cX9_reverse 60 = .ok (.aload_n 0, 1) := by decide +kernel
theorem sX9_reverse_60 : ab_X rom K cX9_reverse 7 1 60 (.ref a :: ls) st hp = ab_X rom K cX9_reverse 7 1 61 (.ref a :: ls) (.ref a :: st) hp := ax_aload_n dX9_reverse_60 rfl rfl
theorem dX9_reverse_61 : decode cX9_reverse 61 = .ok (.iload_n 1, 1) := by decide +kernel
theorem sX9_reverse_61 : ab_X rom K cX9_reverse 7 1 61 (v0 :: .int x :: ls) st hp = ab_X rom K cX9_reverse 7 1 62 (v0 :: .int x :: ls) (.int x :: st) hp := ax_iload_n dX9_reverse_61 rfl rfl
theorem dX9_reverse_62 : decode cX9_reverse 62 = .ok (.invokevirtual 64, 3) := by decide +kernel
theorem sX9_reverse_62_0 : ab_X rom K cX9_reverse 7 1 62 ls [w1, .ref a] hp = if ab_iso hp a 7 = true then (K 209 (.ref a :: [w1]) hp).bind (fun o => ab_X rom K cX9_reverse 7 1 65 ls (o.1.toList ++ []) o.2) else none := ay_virtual (as := [w1]) (st := []) dX9_reverse_62 kc_7_64 rfl rfl (Nat.le_of_ble_eq_true rfl)
theorem sX9_reverse_62_1 : ab_X rom K cX9_reverse 7 1 62 ls [w1, .ref a, v0] hp = if ab_iso hp a 7 = true then (K 209 (.ref a :: [w1]) hp).bind (fun o => ab_X rom K cX9_reverse 7 1 65 ls (o.1.toList ++ [v0]) o.2) else none := ay_virtual (as := [w1]) (st := [v0]) dX9_reverse_62 kc_7_64 rfl rfl (Nat.le_of_ble_eq_true rfl)
theorem sX9_reverse_62_2 : ab_X rom K cX9_reverse 7 1 62 ls [w1, .ref a, v0, v1] hp = if ab_iso hp a 7 = true then (K 209 (.ref a :: [w1]) hp).bind (fun o => ab_X rom K cX9_reverse 7 1 65 ls (o.1.toList ++ [v0, v1]) o.2) else none := ay_virtual (as := [w1]) (st := [v0, v1]) dX9_reverse_62 kc_7_64 rfl rfl (Nat.le_of_ble_eq_true rfl)
theorem sX9_reverse_62_3 : ab_X rom K cX9_reverse 7 1 62 ls [w1, .ref a, v0, v1, v2] hp = if ab_iso hp a 7 = true then (K 209 (.ref a :: [w1]) hp).bind (fun o => ab_X rom K cX9_reverse 7 1 65 ls (o.1.toList ++ [v0, v1, v2]) o.2) else none := ay_virtual (as := [w1]) (st := [v0, v1, v2]) dX9_reverse_62 kc_7_64 rfl rfl (Nat.le_of_ble_eq_true rfl)
theorem dX9_reverse_65 : decode cX9_reverse 65 = .ok (.if_icmp .ge 31, 3) := by decide +kernel
theorem sX9_reverse_65 : ab_X rom K cX9_reverse 7 1 65 ls (.int y :: .int x :: st) hp = if x < y then ab_X rom K cX9_reverse 7 1 68 ls st hp else ab_X rom K cX9_reverse 7 1 96 ls st hp := ax_icmp_ge dX9_reverse_65 (by decide) rfl
theorem dX9_reverse_68 : decode cX9_reverse 68 = .ok (.aload_n 0, 1) := by decide +kernel
theorem sX9_reverse_68 : ab_X rom K cX9_reverse 7 1 68 (.ref a :: ls) st hp = ab_X rom K cX9_reverse 7 1 69 (.ref a :: ls) (.ref a :: st) hp := ax_aload_n dX9_reverse_68 rfl rfl
theorem dX9_reverse_69 : decode cX9_reverse 69 = .ok (.getfield 7, 3) := by decide +kernel
theorem sX9_reverse_69 : ab_X rom K cX9_reverse 7 1 69 ls (.ref a :: st) hp = (ab_fld hp a 7 0).bind (fun v => ab_X rom K cX9_reverse 7 1 72 ls (v :: st) hp) := ax_getfield dX9_reverse_69 kf_7_7 rfl
theorem dX9_reverse_72 : decode cX9_reverse 72 = .ok (.bipush 15, 2) := by decide +kernel
theorem sX9_reverse_72 : ab_X rom K cX9_reverse 7 1 72 ls st hp = ab_X rom K cX9_reverse 7 1 74 ls (.int 15 :: st) hp := ax_bipush dX9_reverse_72 (by decide) rfl
theorem dX9_reverse_74 : decode cX9_reverse 74 = .ok (.iload_n 1, 1) := by decide +kernel
theorem sX9_reverse_74 : ab_X rom K cX9_reverse 7 1 74 (v0 :: .int x :: ls) st hp = ab_X rom K cX9_reverse 7 1 75 (v0 :: .int x :: ls) (.int x :: st) hp := ax_iload_n dX9_reverse_74 rfl rfl
theorem dX9_reverse_75 : decode cX9_reverse 75 = .ok (.imul, 1) := by decide +kernel
theorem sX9_reverse_75 : ab_X rom K cX9_reverse 7 1 75 ls (.int y :: .int x :: st) hp = ab_X rom K cX9_reverse 7 1 76 ls (.int (x * y) :: st) hp := ax_imul dX9_reverse_75 rfl
theorem dX9_reverse_76 : decode cX9_reverse 76 = .ok (.bipush 8, 2) := by decide +kernel
theorem sX9_reverse_76 : ab_X rom K cX9_reverse 7 1 76 ls st hp = ab_X rom K cX9_reverse 7 1 78 ls (.int 8 :: st) hp := ax_bipush dX9_reverse_76 (by decide) rfl
theorem dX9_reverse_78 : decode cX9_reverse 78 = .ok (.iadd, 1) := by decide +kernel
theorem sX9_reverse_78 : ab_X rom K cX9_reverse 7 1 78 ls (.int y :: .int x :: st) hp = ab_X rom K cX9_reverse 7 1 79 ls (.int (x + y) :: st) hp := ax_iadd dX9_reverse_78 rfl
theorem dX9_reverse_79 : decode cX9_reverse 79 = .ok (.iload_n 3, 1) := by decide +kernel
theorem sX9_reverse_79 : ab_X rom K cX9_reverse 7 1 79 (v0 :: v1 :: v2 :: .int x :: ls) st hp = ab_X rom K cX9_reverse 7 1 80 (v0 :: v1 :: v2 :: .int x :: ls) (.int x :: st) hp := ax_iload_n dX9_reverse_79 rfl rfl
theorem dX9_reverse_80 : decode cX9_reverse 80 = .ok (.iadd, 1) := by decide +kernel
theorem sX9_reverse_80 : ab_X rom K cX9_reverse 7 1 80 ls (.int y :: .int x :: st) hp = ab_X rom K cX9_reverse 7 1 81 ls (.int (x + y) :: st) hp := ax_iadd dX9_reverse_80 rfl
theorem dX9_reverse_81 : decode cX9_reverse 81 = .ok (.iload_n 2, 1) := by decide +kernel
theorem sX9_reverse_81 : ab_X rom K cX9_reverse 7 1 81 (v0 :: v1 :: .int x :: ls) st hp = ab_X rom K cX9_reverse 7 1 82 (v0 :: v1 :: .int x :: ls) (.int x :: st) hp := ax_iload_n dX9_reverse_81 rfl rfl
theorem dX9_reverse_82 : decode cX9_reverse 82 = .ok (.aload_n 0, 1) := by decide +kernel
theorem sX9_reverse_82 : ab_X rom K cX9_reverse 7 1 82 (.ref a :: ls) st hp = ab_X rom K cX9_reverse 7 1 83 (.ref a :: ls) (.ref a :: st) hp := ax_aload_n dX9_reverse_82 rfl rfl
theorem dX9_reverse_83 : decode cX9_reverse 83 = .ok (.iload_n 1, 1) := by decide +kernel
theorem sX9_reverse_83 : ab_X rom K cX9_reverse 7 1 83 (v0 :: .int x :: ls) st hp = ab_X rom K cX9_reverse 7 1 84 (v0 :: .int x :: ls) (.int x :: st) hp := ax_iload_n dX9_reverse_83 rfl rfl
theorem dX9_reverse_84 : decode cX9_reverse 84 = .ok (.iload_n 3, 1) := by decide +kernel
theorem sX9_reverse_84 : ab_X rom K cX9_reverse 7 1 84 (v0 :: v1 :: v2 :: .int x :: ls) st hp = ab_X rom K cX9_reverse 7 1 85 (v0 :: v1 :: v2 :: .int x :: ls) (.int x :: st) hp := ax_iload_n dX9_reverse_84 rfl rfl
theorem dX9_reverse_85 : decode cX9_reverse 85 = .ok (.invokevirtual 168, 3) := by decide +kernel
theorem sX9_reverse_85_0 : ab_X rom K cX9_reverse 7 1 85 ls [w2, w1, .ref a] hp = if ab_iso hp a 7 = true then (K 183 (.ref a :: [w1, w2]) hp).bind (fun o => ab_X rom K cX9_reverse 7 1 88 ls (o.1.toList ++ []) o.2) else none := ay_virtual (as := [w1, w2]) (st := []) dX9_reverse_85 kc_7_168 rfl rfl (Nat.le_of_ble_eq_true rfl)
theorem sX9_reverse_85_1 : ab_X rom K cX9_reverse 7 1 85 ls [w2, w1, .ref a, v0] hp = if ab_iso hp a 7 = true then (K 183 (.ref a :: [w1, w2]) hp).bind (fun o => ab_X rom K cX9_reverse 7 1 88 ls (o.1.toList ++ [v0]) o.2) else none := ay_virtual (as := [w1, w2]) (st := [v0]) dX9_reverse_85 kc_7_168 rfl rfl (Nat.le_of_ble_eq_true rfl)
theorem sX9_reverse_85_2 : ab_X rom K cX9_reverse 7 1 85 ls [w2, w1, .ref a, v0, v1] hp = if ab_iso hp a 7 = true then (K 183 (.ref a :: [w1, w2]) hp).bind (fun o => ab_X rom K cX9_reverse 7 1 88 ls (o.1.toList ++ [v0, v1]) o.2) else none := ay_virtual (as := [w1, w2]) (st := [v0, v1]) dX9_reverse_85 kc_7_168 rfl rfl (Nat.le_of_ble_eq_true rfl)
theorem sX9_reverse_85_3 : ab_X rom K cX9_reverse 7 1 85 ls [w2, w1, .ref a, v0, v1, v2] hp = if ab_iso hp a 7 = true then (K 183 (.ref a :: [w1, w2]) hp).bind (fun o => ab_X rom K cX9_reverse 7 1 88 ls (o.1.toList ++ [v0, v1, v2]) o.2) else none := ay_virtual (as := [w1, w2]) (st := [v0, v1, v2]) dX9_reverse_85 kc_7_168 rfl rfl (Nat.le_of_ble_eq_true rfl)
theorem dX9_reverse_88 : decode cX9_reverse 88 = .ok (.isub, 1) := by decide +kernel
theorem sX9_reverse_88 : ab_X rom K cX9_reverse 7 1 88 ls (.int y :: .int x :: st) hp = ab_X rom K cX9_reverse 7 1 89 ls (.int (x - y) :: st) hp := ax_isub dX9_reverse_88 rfl
theorem dX9_reverse_89 : decode cX9_reverse 89 = .ok (.iastore, 1) := by decide +kernel
theorem sX9_reverse_89 : ab_X rom K cX9_reverse 7 1 89 ls (.int y :: .int x :: .ref a :: st) hp = (ab_awr 0 hp a x y).bind (fun hp' => ab_X rom K cX9_reverse 7 1 90 ls st hp') := ax_iastore dX9_reverse_89 rfl
theorem dX9_reverse_90 : decode cX9_reverse 90 = .ok (.iinc 3 1, 3) := by decide +kernel
theorem sX9_reverse_90i : ab_X rom K cX9_reverse 7 1 90 (v0 :: v1 :: .int y :: .int x :: ls) st hp = ab_X rom K cX9_reverse 7 1 93 (v0 :: v1 :: .int y :: .int (x + 1) :: ls) st hp := ax_iinc dX9_reverse_90 rfl (ab_nl_c1 (j := 2) (v := .int y) rfl (ab_c1_int _)) (by decide) rfl rfl
theorem sX9_reverse_90r : ab_X rom K cX9_reverse 7 1 90 (v0 :: v1 :: .ref a2 :: .int x :: ls) st hp = ab_X rom K cX9_reverse 7 1 93 (v0 :: v1 :: .ref a2 :: .int (x + 1) :: ls) st hp := ax_iinc dX9_reverse_90 rfl (ab_nl_c1 (j := 2) (v := .ref a2) rfl (ab_c1_ref _)) (by decide) rfl rfl
theorem sX9_reverse_90n : ab_X rom K cX9_reverse 7 1 90 (v0 :: v1 :: .null :: .int x :: ls) st hp = ab_X rom K cX9_reverse 7 1 93 (v0 :: v1 :: .null :: .int (x + 1) :: ls) st hp := ax_iinc dX9_reverse_90 rfl (ab_nl_c1 (j := 2) (v := .null) rfl ab_c1_null) (by decide) rfl rfl
theorem dX9_reverse_93 : decode cX9_reverse 93 = .ok (.goto (-34), 3) := by decide +kernel
theorem sX9_reverse_93 : ab_X rom K cX9_reverse 7 1 93 ls st hp = ab_X rom K cX9_reverse 7 1 59 ls st hp := ax_goto dX9_reverse_93 (by decide)
theorem dX9_reverse_96 : decode cX9_reverse 96 = .ok (.aload_n 0, 1) := by decide +kernel
theorem sX9_reverse_96 : ab_X rom K cX9_reverse 7 1 96 (.ref a :: ls) st hp = ab_X rom K cX9_reverse 7 1 97 (.ref a :: ls) (.ref a :: st) hp := ax_aload_n dX9_reverse_96 rfl rfl
theorem dX9_reverse_97 : decode cX9_reverse 97 = .ok (.aload_n 0, 1) := by decide +kernel
theorem sX9_reverse_97 : ab_X rom K cX9_reverse 7 1 97 (.ref a :: ls) st hp = ab_X rom K cX9_reverse 7 1 98 (.ref a :: ls) (.ref a :: st) hp := ax_aload_n dX9_reverse_97 rfl rfl
theorem dX9_reverse_98 : decode cX9_reverse 98 = .ok (.iload_n 1, 1) := by decide +kernel
theorem sX9_reverse_98 : ab_X rom K cX9_reverse 7 1 98 (v0 :: .int x :: ls) st hp = ab_X rom K cX9_reverse 7 1 99 (v0 :: .int x :: ls) (.int x :: st) hp := ax_iload_n dX9_reverse_98 rfl rfl
theorem dX9_reverse_99 : decode cX9_reverse 99 = .ok (.invokevirtual 64, 3) := by decide +kernel
theorem sX9_reverse_99_0 : ab_X rom K cX9_reverse 7 1 99 ls [w1, .ref a] hp = if ab_iso hp a 7 = true then (K 209 (.ref a :: [w1]) hp).bind (fun o => ab_X rom K cX9_reverse 7 1 102 ls (o.1.toList ++ []) o.2) else none := ay_virtual (as := [w1]) (st := []) dX9_reverse_99 kc_7_64 rfl rfl (Nat.le_of_ble_eq_true rfl)
theorem sX9_reverse_99_1 : ab_X rom K cX9_reverse 7 1 99 ls [w1, .ref a, v0] hp = if ab_iso hp a 7 = true then (K 209 (.ref a :: [w1]) hp).bind (fun o => ab_X rom K cX9_reverse 7 1 102 ls (o.1.toList ++ [v0]) o.2) else none := ay_virtual (as := [w1]) (st := [v0]) dX9_reverse_99 kc_7_64 rfl rfl (Nat.le_of_ble_eq_true rfl)
theorem sX9_reverse_99_2 : ab_X rom K cX9_reverse 7 1 99 ls [w1, .ref a, v0, v1] hp = if ab_iso hp a 7 = true then (K 209 (.ref a :: [w1]) hp).bind (fun o => ab_X rom K cX9_reverse 7 1 102 ls (o.1.toList ++ [v0, v1]) o.2) else none := ay_virtual (as := [w1]) (st := [v0, v1]) dX9_reverse_99 kc_7_64 rfl rfl (Nat.le_of_ble_eq_true rfl)
theorem sX9_reverse_99_3 : ab_X rom K cX9_reverse 7 1 99 ls [w1, .ref a, v0, v1, v2] hp = if ab_iso hp a 7 = true then (K 209 (.ref a :: [w1]) hp).bind (fun o => ab_X rom K cX9_reverse 7 1 102 ls (o.1.toList ++ [v0, v1, v2]) o.2) else none := ay_virtual (as := [w1]) (st := [v0, v1, v2]) dX9_reverse_99 kc_7_64 rfl rfl (Nat.le_of_ble_eq_true rfl)
theorem dX9_reverse_102 : decode cX9_reverse 102 = .ok (.invokevirtual 94, 3) := by decide +kernel
theorem sX9_reverse_102_0 : ab_X rom K cX9_reverse 7 1 102 ls [w1, .ref a] hp = if ab_iso hp a 7 = true then (K 144 (.ref a :: [w1]) hp).bind (fun o => ab_X rom K cX9_reverse 7 1 105 ls (o.1.toList ++ []) o.2) else none := ay_virtual (as := [w1]) (st := []) dX9_reverse_102 kc_7_94 rfl rfl (Nat.le_of_ble_eq_true rfl)
theorem sX9_reverse_102_1 : ab_X rom K cX9_reverse 7 1 102 ls [w1, .ref a, v0] hp = if ab_iso hp a 7 = true then (K 144 (.ref a :: [w1]) hp).bind (fun o => ab_X rom K cX9_reverse 7 1 105 ls (o.1.toList ++ [v0]) o.2) else none := ay_virtual (as := [w1]) (st := [v0]) dX9_reverse_102 kc_7_94 rfl rfl (Nat.le_of_ble_eq_true rfl)
theorem sX9_reverse_102_2 : ab_X rom K cX9_reverse 7 1 102 ls [w1, .ref a, v0, v1] hp = if ab_iso hp a 7 = true then (K 144 (.ref a :: [w1]) hp).bind (fun o => ab_X rom K cX9_reverse 7 1 105 ls (o.1.toList ++ [v0, v1]) o.2) else none := ay_virtual (as := [w1]) (st := [v0, v1]) dX9_reverse_102 kc_7_94 rfl rfl (Nat.le_of_ble_eq_true rfl)
theorem sX9_reverse_102_3 : ab_X rom K cX9_reverse 7 1 102 ls [w1, .ref a, v0, v1, v2] hp = if ab_iso hp a 7 = true then (K 144 (.ref a :: [w1]) hp).bind (fun o => ab_X rom K cX9_reverse 7 1 105 ls (o.1.toList ++ [v0, v1, v2]) o.2) else none := ay_virtual (as := [w1]) (st := [v0, v1, v2]) dX9_reverse_102 kc_7_94 rfl rfl (Nat.le_of_ble_eq_true rfl)
theorem dX9_reverse_105 : decode cX9_reverse 105 = .ok (.ireturn, 1) := by decide +kernel
theorem sX9_reverse_105 : ab_X rom K cX9_reverse 7 1 105 ls [.int x] hp = some (some (.int x), hp) := ax_iret dX9_reverse_105 rfl
theorem tX9_row : ab_mT[216]? = some (yX9_row, cX9_row, 5, 1, 7) := by decide +kernel
theorem mX9_row {d : Nat} {a0 : Nat} {x0 : Int32} {x1 : Int32} {x2 : Int32} {x3 : Int32} : ab_M rom (d + 1) 216 [.ref a0, .int x0, .int x1, .int x2, .int x3] hp = ab_X rom (ab_M rom d) cX9_row 7 1 0 [.ref a0, .int x0, .int x1, .int x2, .int x3] [] hp := ab_M_eq tX9_row (Nat.le_of_ble_eq_true rfl)
theorem dX9_row_0 : decode cX9_row 0 = .ok (.aload_n 0, 1) := by decide +kernel
theorem sX9_row_0 : ab_X rom K cX9_row 7 1 0 (.ref a :: ls) st hp = ab_X rom K cX9_row 7 1 1 (.ref a :: ls) (.ref a :: st) hp := ax_aload_n dX9_row_0 rfl rfl
theorem dX9_row_1 : decode cX9_row 1 = .ok (.iload_n 1, 1) := by decide +kernel
theorem sX9_row_1 : ab_X rom K cX9_row 7 1 1 (v0 :: .int x :: ls) st hp = ab_X rom K cX9_row 7 1 2 (v0 :: .int x :: ls) (.int x :: st) hp := ax_iload_n dX9_row_1 rfl rfl
theorem dX9_row_2 : decode cX9_row 2 = .ok (.iload 4, 2) := by decide +kernel
theorem sX9_row_2 : ab_X rom K cX9_row 7 1 2 (v0 :: v1 :: v2 :: v3 :: .int x :: ls) st hp = ab_X rom K cX9_row 7 1 4 (v0 :: v1 :: v2 :: v3 :: .int x :: ls) (.int x :: st) hp := ax_iload dX9_row_2 rfl rfl
theorem dX9_row_4 : decode cX9_row 4 = .ok (.invokevirtual 216, 3) := by decide +kernel
theorem sX9_row_4_0 : ab_X rom K cX9_row 7 1 4 ls [w2, w1, .ref a] hp = if ab_iso hp a 7 = true then (K 173 (.ref a :: [w1, w2]) hp).bind (fun o => ab_X rom K cX9_row 7 1 7 ls (o.1.toList ++ []) o.2) else none := ay_virtual (as := [w1, w2]) (st := []) dX9_row_4 kc_7_216 rfl rfl (Nat.le_of_ble_eq_true rfl)
theorem sX9_row_4_1 : ab_X rom K cX9_row 7 1 4 ls [w2, w1, .ref a, v0] hp = if ab_iso hp a 7 = true then (K 173 (.ref a :: [w1, w2]) hp).bind (fun o => ab_X rom K cX9_row 7 1 7 ls (o.1.toList ++ [v0]) o.2) else none := ay_virtual (as := [w1, w2]) (st := [v0]) dX9_row_4 kc_7_216 rfl rfl (Nat.le_of_ble_eq_true rfl)
theorem sX9_row_4_2 : ab_X rom K cX9_row 7 1 4 ls [w2, w1, .ref a, v0, v1] hp = if ab_iso hp a 7 = true then (K 173 (.ref a :: [w1, w2]) hp).bind (fun o => ab_X rom K cX9_row 7 1 7 ls (o.1.toList ++ [v0, v1]) o.2) else none := ay_virtual (as := [w1, w2]) (st := [v0, v1]) dX9_row_4 kc_7_216 rfl rfl (Nat.le_of_ble_eq_true rfl)
theorem sX9_row_4_3 : ab_X rom K cX9_row 7 1 4 ls [w2, w1, .ref a, v0, v1, v2] hp = if ab_iso hp a 7 = true then (K 173 (.ref a :: [w1, w2]) hp).bind (fun o => ab_X rom K cX9_row 7 1 7 ls (o.1.toList ++ [v0, v1, v2]) o.2) else none := ay_virtual (as := [w1, w2]) (st := [v0, v1, v2]) dX9_row_4 kc_7_216 rfl rfl (Nat.le_of_ble_eq_true rfl)
theorem dX9_row_7 : decode cX9_row 7 = .ok (.ifCond .eq 14, 3) := by decide +kernel
theorem sX9_row_7 : ab_X rom K cX9_row 7 1 7 ls (.int x :: st) hp = if x = 0 then ab_X rom K cX9_row 7 1 21 ls st hp else ab_X rom K cX9_row 7 1 10 ls st hp := ax_if_eq dX9_row_7 (by decide) rfl
theorem dX9_row_10 : decode cX9_row 10 = .ok (.iload_n 2, 1) := by decide +kernel
theorem sX9_row_10 : ab_X rom K cX9_row 7 1 10 (v0 :: v1 :: .int x :: ls) st hp = ab_X rom K cX9_row 7 1 11 (v0 :: v1 :: .int x :: ls) (.int x :: st) hp := ax_iload_n dX9_row_10 rfl rfl
theorem dX9_row_11 : decode cX9_row 11 = .ok (.invokestatic 278, 3) := by decide +kernel
theorem sX9_row_11_0 : ab_X rom K cX9_row 7 1 11 ls [w1] hp = (K 168 [w1] hp).bind (fun o => ab_X rom K cX9_row 7 1 14 ls (o.1.toList ++ []) o.2) := ax_static (as := [w1]) (st := []) dX9_row_11 kc_7_278 rfl rfl (Nat.le_of_ble_eq_true rfl)
theorem sX9_row_11_1 : ab_X rom K cX9_row 7 1 11 ls [w1, v0] hp = (K 168 [w1] hp).bind (fun o => ab_X rom K cX9_row 7 1 14 ls (o.1.toList ++ [v0]) o.2) := ax_static (as := [w1]) (st := [v0]) dX9_row_11 kc_7_278 rfl rfl (Nat.le_of_ble_eq_true rfl)
theorem sX9_row_11_2 : ab_X rom K cX9_row 7 1 11 ls [w1, v0, v1] hp = (K 168 [w1] hp).bind (fun o => ab_X rom K cX9_row 7 1 14 ls (o.1.toList ++ [v0, v1]) o.2) := ax_static (as := [w1]) (st := [v0, v1]) dX9_row_11 kc_7_278 rfl rfl (Nat.le_of_ble_eq_true rfl)
theorem sX9_row_11_3 : ab_X rom K cX9_row 7 1 11 ls [w1, v0, v1, v2] hp = (K 168 [w1] hp).bind (fun o => ab_X rom K cX9_row 7 1 14 ls (o.1.toList ++ [v0, v1, v2]) o.2) := ax_static (as := [w1]) (st := [v0, v1, v2]) dX9_row_11 kc_7_278 rfl rfl (Nat.le_of_ble_eq_true rfl)
theorem dX9_row_14 : decode cX9_row 14 = .ok (.ifCond .eq 7, 3) := by decide +kernel
theorem sX9_row_14 : ab_X rom K cX9_row 7 1 14 ls (.int x :: st) hp = if x = 0 then ab_X rom K cX9_row 7 1 21 ls st hp else ab_X rom K cX9_row 7 1 17 ls st hp := ax_if_eq dX9_row_14 (by decide) rfl
theorem dX9_row_17 : decode cX9_row 17 = .ok (.iload_n 3, 1) := by decide +kernel
theorem sX9_row_17 : ab_X rom K cX9_row 7 1 17 (v0 :: v1 :: v2 :: .int x :: ls) st hp = ab_X rom K cX9_row 7 1 18 (v0 :: v1 :: v2 :: .int x :: ls) (.int x :: st) hp := ax_iload_n dX9_row_17 rfl rfl
theorem dX9_row_18 : decode cX9_row 18 = .ok (.ifCond .ge 6, 3) := by decide +kernel
theorem sX9_row_18 : ab_X rom K cX9_row 7 1 18 ls (.int x :: st) hp = if x < 0 then ab_X rom K cX9_row 7 1 21 ls st hp else ab_X rom K cX9_row 7 1 24 ls st hp := ax_if_ge dX9_row_18 (by decide) rfl
theorem dX9_row_21 : decode cX9_row 21 = .ok (.bipush (-2), 2) := by decide +kernel
theorem sX9_row_21 : ab_X rom K cX9_row 7 1 21 ls st hp = ab_X rom K cX9_row 7 1 23 ls (.int (-2) :: st) hp := ax_bipush dX9_row_21 (by decide) rfl
theorem dX9_row_23 : decode cX9_row 23 = .ok (.ireturn, 1) := by decide +kernel
theorem sX9_row_23 : ab_X rom K cX9_row 7 1 23 ls [.int x] hp = some (some (.int x), hp) := ax_iret dX9_row_23 rfl
theorem dX9_row_24 : decode cX9_row 24 = .ok (.iload_n 3, 1) := by decide +kernel
theorem sX9_row_24 : ab_X rom K cX9_row 7 1 24 (v0 :: v1 :: v2 :: .int x :: ls) st hp = ab_X rom K cX9_row 7 1 25 (v0 :: v1 :: v2 :: .int x :: ls) (.int x :: st) hp := ax_iload_n dX9_row_24 rfl rfl
theorem dX9_row_25 : decode cX9_row 25 = .ok (.ldc_w 306, 3) := by decide +kernel
theorem sX9_row_25 : ab_X rom K cX9_row 7 1 25 ls st hp = ab_X rom K cX9_row 7 1 28 ls (.int 2000000000 :: st) hp := ax_ldcw dX9_row_25 kk_7_306 rfl
theorem dX9_row_28 : decode cX9_row 28 = .ok (.if_icmp .ge 27, 3) := by decide +kernel
theorem sX9_row_28 : ab_X rom K cX9_row 7 1 28 ls (.int y :: .int x :: st) hp = if x < y then ab_X rom K cX9_row 7 1 31 ls st hp else ab_X rom K cX9_row 7 1 55 ls st hp := ax_icmp_ge dX9_row_28 (by decide) rfl
theorem dX9_row_31 : decode cX9_row 31 = .ok (.aload_n 0, 1) := by decide +kernel
theorem sX9_row_31 : ab_X rom K cX9_row 7 1 31 (.ref a :: ls) st hp = ab_X rom K cX9_row 7 1 32 (.ref a :: ls) (.ref a :: st) hp := ax_aload_n dX9_row_31 rfl rfl
theorem dX9_row_32 : decode cX9_row 32 = .ok (.iload_n 1, 1) := by decide +kernel
theorem sX9_row_32 : ab_X rom K cX9_row 7 1 32 (v0 :: .int x :: ls) st hp = ab_X rom K cX9_row 7 1 33 (v0 :: .int x :: ls) (.int x :: st) hp := ax_iload_n dX9_row_32 rfl rfl
theorem dX9_row_33 : decode cX9_row 33 = .ok (.iload_n 2, 1) := by decide +kernel
theorem sX9_row_33 : ab_X rom K cX9_row 7 1 33 (v0 :: v1 :: .int x :: ls) st hp = ab_X rom K cX9_row 7 1 34 (v0 :: v1 :: .int x :: ls) (.int x :: st) hp := ax_iload_n dX9_row_33 rfl rfl
theorem dX9_row_34 : decode cX9_row 34 = .ok (.bipush 127, 2) := by decide +kernel
theorem sX9_row_34 : ab_X rom K cX9_row 7 1 34 ls st hp = ab_X rom K cX9_row 7 1 36 ls (.int 127 :: st) hp := ax_bipush dX9_row_34 (by decide) rfl
theorem dX9_row_36 : decode cX9_row 36 = .ok (.iload_n 3, 1) := by decide +kernel
theorem sX9_row_36 : ab_X rom K cX9_row 7 1 36 (v0 :: v1 :: v2 :: .int x :: ls) st hp = ab_X rom K cX9_row 7 1 37 (v0 :: v1 :: v2 :: .int x :: ls) (.int x :: st) hp := ax_iload_n dX9_row_36 rfl rfl
theorem dX9_row_37 : decode cX9_row 37 = .ok (.iconst 1, 1) := by decide +kernel
theorem sX9_row_37 : ab_X rom K cX9_row 7 1 37 ls st hp = ab_X rom K cX9_row 7 1 38 ls (.int 1 :: st) hp := ax_iconst dX9_row_37 (by decide) rfl
theorem dX9_row_38 : decode cX9_row 38 = .ok (.iadd, 1) := by decide +kernel
theorem sX9_row_38 : ab_X rom K cX9_row 7 1 38 ls (.int y :: .int x :: st) hp = ab_X rom K cX9_row 7 1 39 ls (.int (x + y) :: st) hp := ax_iadd dX9_row_38 rfl
theorem dX9_row_39 : decode cX9_row 39 = .ok (.invokevirtual 302, 3) := by decide +kernel
theorem sX9_row_39_0 : ab_X rom K cX9_row 7 1 39 ls [w4, w3, w2, w1, .ref a] hp = if ab_iso hp a 7 = true then (K 221 (.ref a :: [w1, w2, w3, w4]) hp).bind (fun o => ab_X rom K cX9_row 7 1 42 ls (o.1.toList ++ []) o.2) else none := ay_virtual (as := [w1, w2, w3, w4]) (st := []) dX9_row_39 kc_7_302 rfl rfl (Nat.le_of_ble_eq_true rfl)
theorem sX9_row_39_1 : ab_X rom K cX9_row 7 1 39 ls [w4, w3, w2, w1, .ref a, v0] hp = if ab_iso hp a 7 = true then (K 221 (.ref a :: [w1, w2, w3, w4]) hp).bind (fun o => ab_X rom K cX9_row 7 1 42 ls (o.1.toList ++ [v0]) o.2) else none := ay_virtual (as := [w1, w2, w3, w4]) (st := [v0]) dX9_row_39 kc_7_302 rfl rfl (Nat.le_of_ble_eq_true rfl)
theorem sX9_row_39_2 : ab_X rom K cX9_row 7 1 39 ls [w4, w3, w2, w1, .ref a, v0, v1] hp = if ab_iso hp a 7 = true then (K 221 (.ref a :: [w1, w2, w3, w4]) hp).bind (fun o => ab_X rom K cX9_row 7 1 42 ls (o.1.toList ++ [v0, v1]) o.2) else none := ay_virtual (as := [w1, w2, w3, w4]) (st := [v0, v1]) dX9_row_39 kc_7_302 rfl rfl (Nat.le_of_ble_eq_true rfl)
theorem sX9_row_39_3 : ab_X rom K cX9_row 7 1 39 ls [w4, w3, w2, w1, .ref a, v0, v1, v2] hp = if ab_iso hp a 7 = true then (K 221 (.ref a :: [w1, w2, w3, w4]) hp).bind (fun o => ab_X rom K cX9_row 7 1 42 ls (o.1.toList ++ [v0, v1, v2]) o.2) else none := ay_virtual (as := [w1, w2, w3, w4]) (st := [v0, v1, v2]) dX9_row_39 kc_7_302 rfl rfl (Nat.le_of_ble_eq_true rfl)
theorem dX9_row_42 : decode cX9_row 42 = .ok (.ifCond .eq 13, 3) := by decide +kernel
theorem sX9_row_42 : ab_X rom K cX9_row 7 1 42 ls (.int x :: st) hp = if x = 0 then ab_X rom K cX9_row 7 1 55 ls st hp else ab_X rom K cX9_row 7 1 45 ls st hp := ax_if_eq dX9_row_42 (by decide) rfl
theorem dX9_row_45 : decode cX9_row 45 = .ok (.aload_n 0, 1) := by decide +kernel
theorem sX9_row_45 : ab_X rom K cX9_row 7 1 45 (.ref a :: ls) st hp = ab_X rom K cX9_row 7 1 46 (.ref a :: ls) (.ref a :: st) hp := ax_aload_n dX9_row_45 rfl rfl
theorem dX9_row_46 : decode cX9_row 46 = .ok (.getfield 32, 3) := by decide +kernel
theorem sX9_row_46 : ab_X rom K cX9_row 7 1 46 ls (.ref a :: st) hp = (ab_fld hp a 7 16).bind (fun v => ab_X rom K cX9_row 7 1 49 ls (v :: st) hp) := ax_getfield dX9_row_46 kf_7_32 rfl
theorem dX9_row_49 : decode cX9_row 49 = .ok (.iload 4, 2) := by decide +kernel
theorem sX9_row_49 : ab_X rom K cX9_row 7 1 49 (v0 :: v1 :: v2 :: v3 :: .int x :: ls) st hp = ab_X rom K cX9_row 7 1 51 (v0 :: v1 :: v2 :: v3 :: .int x :: ls) (.int x :: st) hp := ax_iload dX9_row_49 rfl rfl
theorem dX9_row_51 : decode cX9_row 51 = .ok (.iaload, 1) := by decide +kernel
theorem sX9_row_51 : ab_X rom K cX9_row 7 1 51 ls (.int x :: .ref a :: st) hp = (ab_ard rom 0 hp a x).bind (fun v => ab_X rom K cX9_row 7 1 52 ls (.int v :: st) hp) := ax_iaload dX9_row_51 rfl
theorem dX9_row_52 : decode cX9_row 52 = .ok (.goto 4, 3) := by decide +kernel
theorem sX9_row_52 : ab_X rom K cX9_row 7 1 52 ls st hp = ab_X rom K cX9_row 7 1 56 ls st hp := ax_goto dX9_row_52 (by decide)
theorem dX9_row_55 : decode cX9_row 55 = .ok (.iconst (-1), 1) := by decide +kernel
theorem sX9_row_55 : ab_X rom K cX9_row 7 1 55 ls st hp = ab_X rom K cX9_row 7 1 56 ls (.int (-1) :: st) hp := ax_iconst dX9_row_55 (by decide) rfl
theorem dX9_row_56 : decode cX9_row 56 = .ok (.ireturn, 1) := by decide +kernel
theorem sX9_row_56 : ab_X rom K cX9_row 7 1 56 ls [.int x] hp = some (some (.int x), hp) := ax_iret dX9_row_56 rfl
theorem tX9_rule : ab_mT[217]? = some (yX9_rule, cX9_rule, 8, 1, 7) := by decide +kernel
theorem mX9_rule {d : Nat} {a0 : Nat} {x0 : Int32} {x1 : Int32} {x2 : Int32} : ab_M rom (d + 1) 217 [.ref a0, .int x0, .int x1, .int x2] hp = ab_X rom (ab_M rom d) cX9_rule 7 1 0 [.ref a0, .int x0, .int x1, .int x2, .null, .null, .null, .null] [] hp := ab_M_eq tX9_rule (Nat.le_of_ble_eq_true rfl)
theorem dX9_rule_0 : decode cX9_rule 0 = .ok (.iconst 3, 1) := by decide +kernel
theorem sX9_rule_0 : ab_X rom K cX9_rule 7 1 0 ls st hp = ab_X rom K cX9_rule 7 1 1 ls (.int 3 :: st) hp := ax_iconst dX9_rule_0 (by decide) rfl
theorem dX9_rule_1 : decode cX9_rule 1 = .ok (.newarray .int, 2) := by decide +kernel
theorem sX9_rule_1 : ab_X rom K cX9_rule 7 1 1 ls (.int x :: st) hp = if ¬ x < 0 ∧ x.toNatClampNeg ≤ 1000 ∧ hp.length < ab_RO then ab_X rom K cX9_rule 7 1 3 ls (.ref hp.length :: st) (hp ++ [.inl (0, List.replicate x.toNatClampNeg 0)]) else none := ay_newint dX9_rule_1 rfl
theorem dX9_rule_3 : decode cX9_rule 3 = .ok (.dup, 1) := by decide +kernel
theorem sX9_rule_3i : ab_X rom K cX9_rule 7 1 3 ls (.int x :: st) hp = ab_X rom K cX9_rule 7 1 4 ls (.int x :: .int x :: st) hp := ax_dup dX9_rule_3 rfl (ab_c1_int _)
theorem sX9_rule_3r : ab_X rom K cX9_rule 7 1 3 ls (.ref a :: st) hp = ab_X rom K cX9_rule 7 1 4 ls (.ref a :: .ref a :: st) hp := ax_dup dX9_rule_3 rfl (ab_c1_ref _)
theorem dX9_rule_4 : decode cX9_rule 4 = .ok (.iconst 0, 1) := by decide +kernel
theorem sX9_rule_4 : ab_X rom K cX9_rule 7 1 4 ls st hp = ab_X rom K cX9_rule 7 1 5 ls (.int 0 :: st) hp := ax_iconst dX9_rule_4 (by decide) rfl
theorem dX9_rule_5 : decode cX9_rule 5 = .ok (.iload_n 1, 1) := by decide +kernel
theorem sX9_rule_5 : ab_X rom K cX9_rule 7 1 5 (v0 :: .int x :: ls) st hp = ab_X rom K cX9_rule 7 1 6 (v0 :: .int x :: ls) (.int x :: st) hp := ax_iload_n dX9_rule_5 rfl rfl
theorem dX9_rule_6 : decode cX9_rule 6 = .ok (.iastore, 1) := by decide +kernel
theorem sX9_rule_6 : ab_X rom K cX9_rule 7 1 6 ls (.int y :: .int x :: .ref a :: st) hp = (ab_awr 0 hp a x y).bind (fun hp' => ab_X rom K cX9_rule 7 1 7 ls st hp') := ax_iastore dX9_rule_6 rfl
theorem dX9_rule_7 : decode cX9_rule 7 = .ok (.dup, 1) := by decide +kernel
theorem sX9_rule_7i : ab_X rom K cX9_rule 7 1 7 ls (.int x :: st) hp = ab_X rom K cX9_rule 7 1 8 ls (.int x :: .int x :: st) hp := ax_dup dX9_rule_7 rfl (ab_c1_int _)
theorem sX9_rule_7r : ab_X rom K cX9_rule 7 1 7 ls (.ref a :: st) hp = ab_X rom K cX9_rule 7 1 8 ls (.ref a :: .ref a :: st) hp := ax_dup dX9_rule_7 rfl (ab_c1_ref _)
theorem dX9_rule_8 : decode cX9_rule 8 = .ok (.iconst 1, 1) := by decide +kernel
theorem sX9_rule_8 : ab_X rom K cX9_rule 7 1 8 ls st hp = ab_X rom K cX9_rule 7 1 9 ls (.int 1 :: st) hp := ax_iconst dX9_rule_8 (by decide) rfl
theorem dX9_rule_9 : decode cX9_rule 9 = .ok (.iload_n 2, 1) := by decide +kernel
theorem sX9_rule_9 : ab_X rom K cX9_rule 7 1 9 (v0 :: v1 :: .int x :: ls) st hp = ab_X rom K cX9_rule 7 1 10 (v0 :: v1 :: .int x :: ls) (.int x :: st) hp := ax_iload_n dX9_rule_9 rfl rfl
theorem dX9_rule_10 : decode cX9_rule 10 = .ok (.iastore, 1) := by decide +kernel
theorem sX9_rule_10 : ab_X rom K cX9_rule 7 1 10 ls (.int y :: .int x :: .ref a :: st) hp = (ab_awr 0 hp a x y).bind (fun hp' => ab_X rom K cX9_rule 7 1 11 ls st hp') := ax_iastore dX9_rule_10 rfl
theorem dX9_rule_11 : decode cX9_rule 11 = .ok (.dup, 1) := by decide +kernel
theorem sX9_rule_11i : ab_X rom K cX9_rule 7 1 11 ls (.int x :: st) hp = ab_X rom K cX9_rule 7 1 12 ls (.int x :: .int x :: st) hp := ax_dup dX9_rule_11 rfl (ab_c1_int _)
theorem sX9_rule_11r : ab_X rom K cX9_rule 7 1 11 ls (.ref a :: st) hp = ab_X rom K cX9_rule 7 1 12 ls (.ref a :: .ref a :: st) hp := ax_dup dX9_rule_11 rfl (ab_c1_ref _)
theorem dX9_rule_12 : decode cX9_rule 12 = .ok (.iconst 2, 1) := by decide +kernel
theorem sX9_rule_12 : ab_X rom K cX9_rule 7 1 12 ls st hp = ab_X rom K cX9_rule 7 1 13 ls (.int 2 :: st) hp := ax_iconst dX9_rule_12 (by decide) rfl
theorem dX9_rule_13 : decode cX9_rule 13 = .ok (.iload_n 3, 1) := by decide +kernel
theorem sX9_rule_13 : ab_X rom K cX9_rule 7 1 13 (v0 :: v1 :: v2 :: .int x :: ls) st hp = ab_X rom K cX9_rule 7 1 14 (v0 :: v1 :: v2 :: .int x :: ls) (.int x :: st) hp := ax_iload_n dX9_rule_13 rfl rfl
theorem dX9_rule_14 : decode cX9_rule 14 = .ok (.iastore, 1) := by decide +kernel
theorem sX9_rule_14 : ab_X rom K cX9_rule 7 1 14 ls (.int y :: .int x :: .ref a :: st) hp = (ab_awr 0 hp a x y).bind (fun hp' => ab_X rom K cX9_rule 7 1 15 ls st hp') := ax_iastore dX9_rule_14 rfl
theorem dX9_rule_15 : decode cX9_rule 15 = .ok (.astore 4, 2) := by decide +kernel
theorem sX9_rule_15i : ab_X rom K cX9_rule 7 1 15 (v0 :: v1 :: v2 :: .int y :: v4 :: ls) (.ref a :: st) hp = ab_X rom K cX9_rule 7 1 17 (v0 :: v1 :: v2 :: .int y :: .ref a :: ls) st hp := ax_astore dX9_rule_15 (ax_lt (v := v4) rfl) (ab_nl_c1 (j := 3) (v := .int y) rfl (ab_c1_int _)) rfl rfl
theorem sX9_rule_15r : ab_X rom K cX9_rule 7 1 15 (v0 :: v1 :: v2 :: .ref a2 :: v4 :: ls) (.ref a :: st) hp = ab_X rom K cX9_rule 7 1 17 (v0 :: v1 :: v2 :: .ref a2 :: .ref a :: ls) st hp := ax_astore dX9_rule_15 (ax_lt (v := v4) rfl) (ab_nl_c1 (j := 3) (v := .ref a2) rfl (ab_c1_ref _)) rfl rfl
theorem sX9_rule_15n : ab_X rom K cX9_rule 7 1 15 (v0 :: v1 :: v2 :: .null :: v4 :: ls) (.ref a :: st) hp = ab_X rom K cX9_rule 7 1 17 (v0 :: v1 :: v2 :: .null :: .ref a :: ls) st hp := ax_astore dX9_rule_15 (ax_lt (v := v4) rfl) (ab_nl_c1 (j := 3) (v := .null) rfl ab_c1_null) rfl rfl
theorem dX9_rule_17 : decode cX9_rule 17 = .ok (.iconst 0, 1) := by decide +kernel
theorem sX9_rule_17 : ab_X rom K cX9_rule 7 1 17 ls st hp = ab_X rom K cX9_rule 7 1 18 ls (.int 0 :: st) hp := ax_iconst dX9_rule_17 (by decide) rfl
theorem dX9_rule_18 : decode cX9_rule 18 = .ok (.istore 5, 2) := by decide +kernel
theorem sX9_rule_18i : ab_X rom K cX9_rule 7 1 18 (v0 :: v1 :: v2 :: v3 :: .int y :: v5 :: ls) (.int x :: st) hp = ab_X rom K cX9_rule 7 1 20 (v0 :: v1 :: v2 :: v3 :: .int y :: .int x :: ls) st hp := ax_istore dX9_rule_18 (ax_lt (v := v5) rfl) (ab_nl_c1 (j := 4) (v := .int y) rfl (ab_c1_int _)) rfl rfl
theorem sX9_rule_18r : ab_X rom K cX9_rule 7 1 18 (v0 :: v1 :: v2 :: v3 :: .ref a2 :: v5 :: ls) (.int x :: st) hp = ab_X rom K cX9_rule 7 1 20 (v0 :: v1 :: v2 :: v3 :: .ref a2 :: .int x :: ls) st hp := ax_istore dX9_rule_18 (ax_lt (v := v5) rfl) (ab_nl_c1 (j := 4) (v := .ref a2) rfl (ab_c1_ref _)) rfl rfl
theorem sX9_rule_18n : ab_X rom K cX9_rule 7 1 18 (v0 :: v1 :: v2 :: v3 :: .null :: v5 :: ls) (.int x :: st) hp = ab_X rom K cX9_rule 7 1 20 (v0 :: v1 :: v2 :: v3 :: .null :: .int x :: ls) st hp := ax_istore dX9_rule_18 (ax_lt (v := v5) rfl) (ab_nl_c1 (j := 4) (v := .null) rfl ab_c1_null) rfl rfl
theorem dX9_rule_20 : decode cX9_rule 20 = .ok (.iconst 0, 1) := by decide +kernel
theorem sX9_rule_20 : ab_X rom K cX9_rule 7 1 20 ls st hp = ab_X rom K cX9_rule 7 1 21 ls (.int 0 :: st) hp := ax_iconst dX9_rule_20 (by decide) rfl
theorem dX9_rule_21 : decode cX9_rule 21 = .ok (.istore 6, 2) := by decide +kernel
theorem sX9_rule_21i : ab_X rom K cX9_rule 7 1 21 (v0 :: v1 :: v2 :: v3 :: v4 :: .int y :: v6 :: ls) (.int x :: st) hp = ab_X rom K cX9_rule 7 1 23 (v0 :: v1 :: v2 :: v3 :: v4 :: .int y :: .int x :: ls) st hp := ax_istore dX9_rule_21 (ax_lt (v := v6) rfl) (ab_nl_c1 (j := 5) (v := .int y) rfl (ab_c1_int _)) rfl rfl
theorem sX9_rule_21r : ab_X rom K cX9_rule 7 1 21 (v0 :: v1 :: v2 :: v3 :: v4 :: .ref a2 :: v6 :: ls) (.int x :: st) hp = ab_X rom K cX9_rule 7 1 23 (v0 :: v1 :: v2 :: v3 :: v4 :: .ref a2 :: .int x :: ls) st hp := ax_istore dX9_rule_21 (ax_lt (v := v6) rfl) (ab_nl_c1 (j := 5) (v := .ref a2) rfl (ab_c1_ref _)) rfl rfl
theorem sX9_rule_21n : ab_X rom K cX9_rule 7 1 21 (v0 :: v1 :: v2 :: v3 :: v4 :: .null :: v6 :: ls) (.int x :: st) hp = ab_X rom K cX9_rule 7 1 23 (v0 :: v1 :: v2 :: v3 :: v4 :: .null :: .int x :: ls) st hp := ax_istore dX9_rule_21 (ax_lt (v := v6) rfl) (ab_nl_c1 (j := 5) (v := .null) rfl ab_c1_null) rfl rfl
theorem dX9_rule_23 : decode cX9_rule 23 = .ok (.iload 6, 2) := by decide +kernel
theorem sX9_rule_23 : ab_X rom K cX9_rule 7 1 23 (v0 :: v1 :: v2 :: v3 :: v4 :: v5 :: .int x :: ls) st hp = ab_X rom K cX9_rule 7 1 25 (v0 :: v1 :: v2 :: v3 :: v4 :: v5 :: .int x :: ls) (.int x :: st) hp := ax_iload dX9_rule_23 rfl rfl
theorem dX9_rule_25 : decode cX9_rule 25 = .ok (.bipush 12, 2) := by decide +kernel
theorem sX9_rule_25 : ab_X rom K cX9_rule 7 1 25 ls st hp = ab_X rom K cX9_rule 7 1 27 ls (.int 12 :: st) hp := ax_bipush dX9_rule_25 (by decide) rfl
theorem dX9_rule_27 : decode cX9_rule 27 = .ok (.if_icmp .ge 50, 3) := by decide +kernel
theorem sX9_rule_27 : ab_X rom K cX9_rule 7 1 27 ls (.int y :: .int x :: st) hp = if x < y then ab_X rom K cX9_rule 7 1 30 ls st hp else ab_X rom K cX9_rule 7 1 77 ls st hp := ax_icmp_ge dX9_rule_27 (by decide) rfl
theorem dX9_rule_30 : decode cX9_rule 30 = .ok (.aload 4, 2) := by decide +kernel
theorem sX9_rule_30 : ab_X rom K cX9_rule 7 1 30 (v0 :: v1 :: v2 :: v3 :: .ref a :: ls) st hp = ab_X rom K cX9_rule 7 1 32 (v0 :: v1 :: v2 :: v3 :: .ref a :: ls) (.ref a :: st) hp := ax_aload dX9_rule_30 rfl rfl
theorem dX9_rule_32 : decode cX9_rule 32 = .ok (.iload 6, 2) := by decide +kernel
theorem sX9_rule_32 : ab_X rom K cX9_rule 7 1 32 (v0 :: v1 :: v2 :: v3 :: v4 :: v5 :: .int x :: ls) st hp = ab_X rom K cX9_rule 7 1 34 (v0 :: v1 :: v2 :: v3 :: v4 :: v5 :: .int x :: ls) (.int x :: st) hp := ax_iload dX9_rule_32 rfl rfl
theorem dX9_rule_34 : decode cX9_rule 34 = .ok (.iconst 4, 1) := by decide +kernel
theorem sX9_rule_34 : ab_X rom K cX9_rule 7 1 34 ls st hp = ab_X rom K cX9_rule 7 1 35 ls (.int 4 :: st) hp := ax_iconst dX9_rule_34 (by decide) rfl
theorem dX9_rule_35 : decode cX9_rule 35 = .ok (.idiv, 1) := by decide +kernel
theorem sX9_rule_35 : ab_X rom K cX9_rule 7 1 35 ls (.int y :: .int x :: st) hp = if y = 0 then none else ab_X rom K cX9_rule 7 1 36 ls (.int (x / y) :: st) hp := ay_idiv dX9_rule_35 rfl
theorem dX9_rule_36 : decode cX9_rule 36 = .ok (.iaload, 1) := by decide +kernel
theorem sX9_rule_36 : ab_X rom K cX9_rule 7 1 36 ls (.int x :: .ref a :: st) hp = (ab_ard rom 0 hp a x).bind (fun v => ab_X rom K cX9_rule 7 1 37 ls (.int v :: st) hp) := ax_iaload dX9_rule_36 rfl
theorem dX9_rule_37 : decode cX9_rule 37 = .ok (.bipush 8, 2) := by decide +kernel
theorem sX9_rule_37 : ab_X rom K cX9_rule 7 1 37 ls st hp = ab_X rom K cX9_rule 7 1 39 ls (.int 8 :: st) hp := ax_bipush dX9_rule_37 (by decide) rfl
theorem dX9_rule_39 : decode cX9_rule 39 = .ok (.iload 6, 2) := by decide +kernel
theorem sX9_rule_39 : ab_X rom K cX9_rule 7 1 39 (v0 :: v1 :: v2 :: v3 :: v4 :: v5 :: .int x :: ls) st hp = ab_X rom K cX9_rule 7 1 41 (v0 :: v1 :: v2 :: v3 :: v4 :: v5 :: .int x :: ls) (.int x :: st) hp := ax_iload dX9_rule_39 rfl rfl
theorem dX9_rule_41 : decode cX9_rule 41 = .ok (.iconst 4, 1) := by decide +kernel
theorem sX9_rule_41 : ab_X rom K cX9_rule 7 1 41 ls st hp = ab_X rom K cX9_rule 7 1 42 ls (.int 4 :: st) hp := ax_iconst dX9_rule_41 (by decide) rfl
theorem dX9_rule_42 : decode cX9_rule 42 = .ok (.irem, 1) := by decide +kernel
theorem sX9_rule_42 : ab_X rom K cX9_rule 7 1 42 ls (.int y :: .int x :: st) hp = if y = 0 then none else ab_X rom K cX9_rule 7 1 43 ls (.int (ab_rem x y) :: st) hp := ay_irem dX9_rule_42 rfl
theorem dX9_rule_43 : decode cX9_rule 43 = .ok (.imul, 1) := by decide +kernel
theorem sX9_rule_43 : ab_X rom K cX9_rule 7 1 43 ls (.int y :: .int x :: st) hp = ab_X rom K cX9_rule 7 1 44 ls (.int (x * y) :: st) hp := ax_imul dX9_rule_43 rfl
theorem dX9_rule_44 : decode cX9_rule 44 = .ok (.iushr, 1) := by decide +kernel
theorem sX9_rule_44 : ab_X rom K cX9_rule 7 1 44 ls (.int y :: .int x :: st) hp = ab_X rom K cX9_rule 7 1 45 ls (.int (x.toUInt32 >>> (y.toUInt32 &&& Int32.toUInt32 31)).toInt32 :: st) hp := ax_iushr dX9_rule_44 rfl
theorem dX9_rule_45 : decode cX9_rule 45 = .ok (.sipush 255, 3) := by decide +kernel
theorem sX9_rule_45 : ab_X rom K cX9_rule 7 1 45 ls st hp = ab_X rom K cX9_rule 7 1 48 ls (.int 255 :: st) hp := ax_sipush dX9_rule_45 (by decide) rfl
theorem dX9_rule_48 : decode cX9_rule 48 = .ok (.iand, 1) := by decide +kernel
theorem sX9_rule_48 : ab_X rom K cX9_rule 7 1 48 ls (.int y :: .int x :: st) hp = ab_X rom K cX9_rule 7 1 49 ls (.int (x &&& y) :: st) hp := ax_iand dX9_rule_48 rfl
theorem dX9_rule_49 : decode cX9_rule 49 = .ok (.istore 7, 2) := by decide +kernel
theorem sX9_rule_49i : ab_X rom K cX9_rule 7 1 49 (v0 :: v1 :: v2 :: v3 :: v4 :: v5 :: .int y :: v7 :: ls) (.int x :: st) hp = ab_X rom K cX9_rule 7 1 51 (v0 :: v1 :: v2 :: v3 :: v4 :: v5 :: .int y :: .int x :: ls) st hp := ax_istore dX9_rule_49 (ax_lt (v := v7) rfl) (ab_nl_c1 (j := 6) (v := .int y) rfl (ab_c1_int _)) rfl rfl
theorem sX9_rule_49r : ab_X rom K cX9_rule 7 1 49 (v0 :: v1 :: v2 :: v3 :: v4 :: v5 :: .ref a2 :: v7 :: ls) (.int x :: st) hp = ab_X rom K cX9_rule 7 1 51 (v0 :: v1 :: v2 :: v3 :: v4 :: v5 :: .ref a2 :: .int x :: ls) st hp := ax_istore dX9_rule_49 (ax_lt (v := v7) rfl) (ab_nl_c1 (j := 6) (v := .ref a2) rfl (ab_c1_ref _)) rfl rfl
theorem sX9_rule_49n : ab_X rom K cX9_rule 7 1 49 (v0 :: v1 :: v2 :: v3 :: v4 :: v5 :: .null :: v7 :: ls) (.int x :: st) hp = ab_X rom K cX9_rule 7 1 51 (v0 :: v1 :: v2 :: v3 :: v4 :: v5 :: .null :: .int x :: ls) st hp := ax_istore dX9_rule_49 (ax_lt (v := v7) rfl) (ab_nl_c1 (j := 6) (v := .null) rfl ab_c1_null) rfl rfl
theorem dX9_rule_51 : decode cX9_rule 51 = .ok (.iload 7, 2) := by decide +kernel
theorem sX9_rule_51 : ab_X rom K cX9_rule 7 1 51 (v0 :: v1 :: v2 :: v3 :: v4 :: v5 :: v6 :: .int x :: ls) st hp = ab_X rom K cX9_rule 7 1 53 (v0 :: v1 :: v2 :: v3 :: v4 :: v5 :: v6 :: .int x :: ls) (.int x :: st) hp := ax_iload dX9_rule_51 rfl rfl
theorem dX9_rule_53 : decode cX9_rule 53 = .ok (.sipush 255, 3) := by decide +kernel
theorem sX9_rule_53 : ab_X rom K cX9_rule 7 1 53 ls st hp = ab_X rom K cX9_rule 7 1 56 ls (.int 255 :: st) hp := ax_sipush dX9_rule_53 (by decide) rfl
theorem dX9_rule_56 : decode cX9_rule 56 = .ok (.if_icmp .eq 15, 3) := by decide +kernel
theorem sX9_rule_56 : ab_X rom K cX9_rule 7 1 56 ls (.int y :: .int x :: st) hp = if x = y then ab_X rom K cX9_rule 7 1 71 ls st hp else ab_X rom K cX9_rule 7 1 59 ls st hp := ax_icmp_eq dX9_rule_56 (by decide) rfl
theorem dX9_rule_59 : decode cX9_rule 59 = .ok (.aload_n 0, 1) := by decide +kernel
theorem sX9_rule_59 : ab_X rom K cX9_rule 7 1 59 (.ref a :: ls) st hp = ab_X rom K cX9_rule 7 1 60 (.ref a :: ls) (.ref a :: st) hp := ax_aload_n dX9_rule_59 rfl rfl
theorem dX9_rule_60 : decode cX9_rule 60 = .ok (.getfield 44, 3) := by decide +kernel
theorem sX9_rule_60 : ab_X rom K cX9_rule 7 1 60 ls (.ref a :: st) hp = (ab_fld hp a 7 25).bind (fun v => ab_X rom K cX9_rule 7 1 63 ls (v :: st) hp) := ax_getfield dX9_rule_60 kf_7_44 rfl
theorem dX9_rule_63 : decode cX9_rule 63 = .ok (.iload 5, 2) := by decide +kernel
theorem sX9_rule_63 : ab_X rom K cX9_rule 7 1 63 (v0 :: v1 :: v2 :: v3 :: v4 :: .int x :: ls) st hp = ab_X rom K cX9_rule 7 1 65 (v0 :: v1 :: v2 :: v3 :: v4 :: .int x :: ls) (.int x :: st) hp := ax_iload dX9_rule_63 rfl rfl
theorem dX9_rule_65 : decode cX9_rule 65 = .ok (.iload 7, 2) := by decide +kernel
theorem sX9_rule_65 : ab_X rom K cX9_rule 7 1 65 (v0 :: v1 :: v2 :: v3 :: v4 :: v5 :: v6 :: .int x :: ls) st hp = ab_X rom K cX9_rule 7 1 67 (v0 :: v1 :: v2 :: v3 :: v4 :: v5 :: v6 :: .int x :: ls) (.int x :: st) hp := ax_iload dX9_rule_65 rfl rfl
theorem dX9_rule_67 : decode cX9_rule 67 = .ok (.iastore, 1) := by decide +kernel
theorem sX9_rule_67 : ab_X rom K cX9_rule 7 1 67 ls (.int y :: .int x :: .ref a :: st) hp = (ab_awr 0 hp a x y).bind (fun hp' => ab_X rom K cX9_rule 7 1 68 ls st hp') := ax_iastore dX9_rule_67 rfl
theorem dX9_rule_68 : decode cX9_rule 68 = .ok (.iinc 5 1, 3) := by decide +kernel
theorem sX9_rule_68i : ab_X rom K cX9_rule 7 1 68 (v0 :: v1 :: v2 :: v3 :: .int y :: .int x :: ls) st hp = ab_X rom K cX9_rule 7 1 71 (v0 :: v1 :: v2 :: v3 :: .int y :: .int (x + 1) :: ls) st hp := ax_iinc dX9_rule_68 rfl (ab_nl_c1 (j := 4) (v := .int y) rfl (ab_c1_int _)) (by decide) rfl rfl
theorem sX9_rule_68r : ab_X rom K cX9_rule 7 1 68 (v0 :: v1 :: v2 :: v3 :: .ref a2 :: .int x :: ls) st hp = ab_X rom K cX9_rule 7 1 71 (v0 :: v1 :: v2 :: v3 :: .ref a2 :: .int (x + 1) :: ls) st hp := ax_iinc dX9_rule_68 rfl (ab_nl_c1 (j := 4) (v := .ref a2) rfl (ab_c1_ref _)) (by decide) rfl rfl
theorem sX9_rule_68n : ab_X rom K cX9_rule 7 1 68 (v0 :: v1 :: v2 :: v3 :: .null :: .int x :: ls) st hp = ab_X rom K cX9_rule 7 1 71 (v0 :: v1 :: v2 :: v3 :: .null :: .int (x + 1) :: ls) st hp := ax_iinc dX9_rule_68 rfl (ab_nl_c1 (j := 4) (v := .null) rfl ab_c1_null) (by decide) rfl rfl
theorem dX9_rule_71 : decode cX9_rule 71 = .ok (.iinc 6 1, 3) := by decide +kernel
theorem sX9_rule_71i : ab_X rom K cX9_rule 7 1 71 (v0 :: v1 :: v2 :: v3 :: v4 :: .int y :: .int x :: ls) st hp = ab_X rom K cX9_rule 7 1 74 (v0 :: v1 :: v2 :: v3 :: v4 :: .int y :: .int (x + 1) :: ls) st hp := ax_iinc dX9_rule_71 rfl (ab_nl_c1 (j := 5) (v := .int y) rfl (ab_c1_int _)) (by decide) rfl rfl
theorem sX9_rule_71r : ab_X rom K cX9_rule 7 1 71 (v0 :: v1 :: v2 :: v3 :: v4 :: .ref a2 :: .int x :: ls) st hp = ab_X rom K cX9_rule 7 1 74 (v0 :: v1 :: v2 :: v3 :: v4 :: .ref a2 :: .int (x + 1) :: ls) st hp := ax_iinc dX9_rule_71 rfl (ab_nl_c1 (j := 5) (v := .ref a2) rfl (ab_c1_ref _)) (by decide) rfl rfl
theorem sX9_rule_71n : ab_X rom K cX9_rule 7 1 71 (v0 :: v1 :: v2 :: v3 :: v4 :: .null :: .int x :: ls) st hp = ab_X rom K cX9_rule 7 1 74 (v0 :: v1 :: v2 :: v3 :: v4 :: .null :: .int (x + 1) :: ls) st hp := ax_iinc dX9_rule_71 rfl (ab_nl_c1 (j := 5) (v := .null) rfl ab_c1_null) (by decide) rfl rfl
theorem dX9_rule_74 : decode cX9_rule 74 = .ok (.goto (-51), 3) := by decide +kernel
theorem sX9_rule_74 : ab_X rom K cX9_rule 7 1 74 ls st hp = ab_X rom K cX9_rule 7 1 23 ls st hp := ax_goto dX9_rule_74 (by decide)
theorem dX9_rule_77 : decode cX9_rule 77 = .ok (.bipush 100, 2) := by decide +kernel
theorem sX9_rule_77 : ab_X rom K cX9_rule 7 1 77 ls st hp = ab_X rom K cX9_rule 7 1 79 ls (.int 100 :: st) hp := ax_bipush dX9_rule_77 (by decide) rfl
theorem dX9_rule_79 : decode cX9_rule 79 = .ok (.aload_n 0, 1) := by decide +kernel
theorem sX9_rule_79 : ab_X rom K cX9_rule 7 1 79 (.ref a :: ls) st hp = ab_X rom K cX9_rule 7 1 80 (.ref a :: ls) (.ref a :: st) hp := ax_aload_n dX9_rule_79 rfl rfl
theorem dX9_rule_80 : decode cX9_rule 80 = .ok (.iload 5, 2) := by decide +kernel
theorem sX9_rule_80 : ab_X rom K cX9_rule 7 1 80 (v0 :: v1 :: v2 :: v3 :: v4 :: .int x :: ls) st hp = ab_X rom K cX9_rule 7 1 82 (v0 :: v1 :: v2 :: v3 :: v4 :: .int x :: ls) (.int x :: st) hp := ax_iload dX9_rule_80 rfl rfl
theorem dX9_rule_82 : decode cX9_rule 82 = .ok (.iconst 0, 1) := by decide +kernel
theorem sX9_rule_82 : ab_X rom K cX9_rule 7 1 82 ls st hp = ab_X rom K cX9_rule 7 1 83 ls (.int 0 :: st) hp := ax_iconst dX9_rule_82 (by decide) rfl
theorem dX9_rule_83 : decode cX9_rule 83 = .ok (.invokevirtual 368, 3) := by decide +kernel
theorem sX9_rule_83_0 : ab_X rom K cX9_rule 7 1 83 ls [w2, w1, .ref a] hp = if ab_iso hp a 7 = true then (K 235 (.ref a :: [w1, w2]) hp).bind (fun o => ab_X rom K cX9_rule 7 1 86 ls (o.1.toList ++ []) o.2) else none := ay_virtual (as := [w1, w2]) (st := []) dX9_rule_83 kc_7_368 rfl rfl (Nat.le_of_ble_eq_true rfl)
theorem sX9_rule_83_1 : ab_X rom K cX9_rule 7 1 83 ls [w2, w1, .ref a, v0] hp = if ab_iso hp a 7 = true then (K 235 (.ref a :: [w1, w2]) hp).bind (fun o => ab_X rom K cX9_rule 7 1 86 ls (o.1.toList ++ [v0]) o.2) else none := ay_virtual (as := [w1, w2]) (st := [v0]) dX9_rule_83 kc_7_368 rfl rfl (Nat.le_of_ble_eq_true rfl)
theorem sX9_rule_83_2 : ab_X rom K cX9_rule 7 1 83 ls [w2, w1, .ref a, v0, v1] hp = if ab_iso hp a 7 = true then (K 235 (.ref a :: [w1, w2]) hp).bind (fun o => ab_X rom K cX9_rule 7 1 86 ls (o.1.toList ++ [v0, v1]) o.2) else none := ay_virtual (as := [w1, w2]) (st := [v0, v1]) dX9_rule_83 kc_7_368 rfl rfl (Nat.le_of_ble_eq_true rfl)
theorem sX9_rule_83_3 : ab_X rom K cX9_rule 7 1 83 ls [w2, w1, .ref a, v0, v1, v2] hp = if ab_iso hp a 7 = true then (K 235 (.ref a :: [w1, w2]) hp).bind (fun o => ab_X rom K cX9_rule 7 1 86 ls (o.1.toList ++ [v0, v1, v2]) o.2) else none := ay_virtual (as := [w1, w2]) (st := [v0, v1, v2]) dX9_rule_83 kc_7_368 rfl rfl (Nat.le_of_ble_eq_true rfl)
theorem dX9_rule_86 : decode cX9_rule 86 = .ok (.imul, 1) := by decide +kernel
theorem sX9_rule_86 : ab_X rom K cX9_rule 7 1 86 ls (.int y :: .int x :: st) hp = ab_X rom K cX9_rule 7 1 87 ls (.int (x * y) :: st) hp := ax_imul dX9_rule_86 rfl
theorem dX9_rule_87 : decode cX9_rule 87 = .ok (.aload_n 0, 1) := by decide +kernel
theorem sX9_rule_87 : ab_X rom K cX9_rule 7 1 87 (.ref a :: ls) st hp = ab_X rom K cX9_rule 7 1 88 (.ref a :: ls) (.ref a :: st) hp := ax_aload_n dX9_rule_87 rfl rfl
theorem dX9_rule_88 : decode cX9_rule 88 = .ok (.iload 5, 2) := by decide +kernel
theorem sX9_rule_88 : ab_X rom K cX9_rule 7 1 88 (v0 :: v1 :: v2 :: v3 :: v4 :: .int x :: ls) st hp = ab_X rom K cX9_rule 7 1 90 (v0 :: v1 :: v2 :: v3 :: v4 :: .int x :: ls) (.int x :: st) hp := ax_iload dX9_rule_88 rfl rfl
theorem dX9_rule_90 : decode cX9_rule 90 = .ok (.iconst 1, 1) := by decide +kernel
theorem sX9_rule_90 : ab_X rom K cX9_rule 7 1 90 ls st hp = ab_X rom K cX9_rule 7 1 91 ls (.int 1 :: st) hp := ax_iconst dX9_rule_90 (by decide) rfl
theorem dX9_rule_91 : decode cX9_rule 91 = .ok (.invokevirtual 368, 3) := by decide +kernel
theorem sX9_rule_91_0 : ab_X rom K cX9_rule 7 1 91 ls [w2, w1, .ref a] hp = if ab_iso hp a 7 = true then (K 235 (.ref a :: [w1, w2]) hp).bind (fun o => ab_X rom K cX9_rule 7 1 94 ls (o.1.toList ++ []) o.2) else none := ay_virtual (as := [w1, w2]) (st := []) dX9_rule_91 kc_7_368 rfl rfl (Nat.le_of_ble_eq_true rfl)
theorem sX9_rule_91_1 : ab_X rom K cX9_rule 7 1 91 ls [w2, w1, .ref a, v0] hp = if ab_iso hp a 7 = true then (K 235 (.ref a :: [w1, w2]) hp).bind (fun o => ab_X rom K cX9_rule 7 1 94 ls (o.1.toList ++ [v0]) o.2) else none := ay_virtual (as := [w1, w2]) (st := [v0]) dX9_rule_91 kc_7_368 rfl rfl (Nat.le_of_ble_eq_true rfl)
theorem sX9_rule_91_2 : ab_X rom K cX9_rule 7 1 91 ls [w2, w1, .ref a, v0, v1] hp = if ab_iso hp a 7 = true then (K 235 (.ref a :: [w1, w2]) hp).bind (fun o => ab_X rom K cX9_rule 7 1 94 ls (o.1.toList ++ [v0, v1]) o.2) else none := ay_virtual (as := [w1, w2]) (st := [v0, v1]) dX9_rule_91 kc_7_368 rfl rfl (Nat.le_of_ble_eq_true rfl)
theorem sX9_rule_91_3 : ab_X rom K cX9_rule 7 1 91 ls [w2, w1, .ref a, v0, v1, v2] hp = if ab_iso hp a 7 = true then (K 235 (.ref a :: [w1, w2]) hp).bind (fun o => ab_X rom K cX9_rule 7 1 94 ls (o.1.toList ++ [v0, v1, v2]) o.2) else none := ay_virtual (as := [w1, w2]) (st := [v0, v1, v2]) dX9_rule_91 kc_7_368 rfl rfl (Nat.le_of_ble_eq_true rfl)
theorem dX9_rule_94 : decode cX9_rule 94 = .ok (.iadd, 1) := by decide +kernel
theorem sX9_rule_94 : ab_X rom K cX9_rule 7 1 94 ls (.int y :: .int x :: st) hp = ab_X rom K cX9_rule 7 1 95 ls (.int (x + y) :: st) hp := ax_iadd dX9_rule_94 rfl
theorem dX9_rule_95 : decode cX9_rule 95 = .ok (.ireturn, 1) := by decide +kernel
theorem sX9_rule_95 : ab_X rom K cX9_rule 7 1 95 ls [.int x] hp = some (some (.int x), hp) := ax_iret dX9_rule_95 rfl
theorem tX9_says : ab_mT[218]? = some (yX9_says, cX9_says, 2, 0, 7) := by decide +kernel
theorem mX9_says {d : Nat} {a0 : Nat} {x0 : Int32} : ab_M rom (d + 1) 218 [.ref a0, .int x0] hp = ab_X rom (ab_M rom d) cX9_says 7 0 0 [.ref a0, .int x0] [] hp := ab_M_eq tX9_says (Nat.le_of_ble_eq_true rfl)
theorem dX9_says_0 : decode cX9_says 0 = .ok (.aload_n 0, 1) := by decide +kernel
theorem sX9_says_0 : ab_X rom K cX9_says 7 0 0 (.ref a :: ls) st hp = ab_X rom K cX9_says 7 0 1 (.ref a :: ls) (.ref a :: st) hp := ax_aload_n dX9_says_0 rfl rfl
theorem dX9_says_1 : decode cX9_says 1 = .ok (.getfield 51, 3) := by decide +kernel
theorem sX9_says_1 : ab_X rom K cX9_says 7 0 1 ls (.ref a :: st) hp = (ab_fld hp a 7 27).bind (fun v => ab_X rom K cX9_says 7 0 4 ls (v :: st) hp) := ax_getfield dX9_says_1 kf_7_51 rfl
theorem dX9_says_4 : decode cX9_says 4 = .ok (.aload_n 0, 1) := by decide +kernel
theorem sX9_says_4 : ab_X rom K cX9_says 7 0 4 (.ref a :: ls) st hp = ab_X rom K cX9_says 7 0 5 (.ref a :: ls) (.ref a :: st) hp := ax_aload_n dX9_says_4 rfl rfl
theorem dX9_says_5 : decode cX9_says 5 = .ok (.getfield 188, 3) := by decide +kernel
theorem sX9_says_5 : ab_X rom K cX9_says 7 0 5 ls (.ref a :: st) hp = (ab_fld hp a 7 28).bind (fun v => ab_X rom K cX9_says 7 0 8 ls (v :: st) hp) := ax_getfield dX9_says_5 kf_7_188 rfl
theorem dX9_says_8 : decode cX9_says 8 = .ok (.iload_n 1, 1) := by decide +kernel
theorem sX9_says_8 : ab_X rom K cX9_says 7 0 8 (v0 :: .int x :: ls) st hp = ab_X rom K cX9_says 7 0 9 (v0 :: .int x :: ls) (.int x :: st) hp := ax_iload_n dX9_says_8 rfl rfl
theorem dX9_says_9 : decode cX9_says 9 = .ok (.iastore, 1) := by decide +kernel
theorem sX9_says_9 : ab_X rom K cX9_says 7 0 9 ls (.int y :: .int x :: .ref a :: st) hp = (ab_awr 0 hp a x y).bind (fun hp' => ab_X rom K cX9_says 7 0 10 ls st hp') := ax_iastore dX9_says_9 rfl
theorem dX9_says_10 : decode cX9_says 10 = .ok (.aload_n 0, 1) := by decide +kernel
theorem sX9_says_10 : ab_X rom K cX9_says 7 0 10 (.ref a :: ls) st hp = ab_X rom K cX9_says 7 0 11 (.ref a :: ls) (.ref a :: st) hp := ax_aload_n dX9_says_10 rfl rfl
theorem dX9_says_11 : decode cX9_says 11 = .ok (.dup, 1) := by decide +kernel
theorem sX9_says_11i : ab_X rom K cX9_says 7 0 11 ls (.int x :: st) hp = ab_X rom K cX9_says 7 0 12 ls (.int x :: .int x :: st) hp := ax_dup dX9_says_11 rfl (ab_c1_int _)
theorem sX9_says_11r : ab_X rom K cX9_says 7 0 11 ls (.ref a :: st) hp = ab_X rom K cX9_says 7 0 12 ls (.ref a :: .ref a :: st) hp := ax_dup dX9_says_11 rfl (ab_c1_ref _)
theorem dX9_says_12 : decode cX9_says 12 = .ok (.getfield 188, 3) := by decide +kernel
theorem sX9_says_12 : ab_X rom K cX9_says 7 0 12 ls (.ref a :: st) hp = (ab_fld hp a 7 28).bind (fun v => ab_X rom K cX9_says 7 0 15 ls (v :: st) hp) := ax_getfield dX9_says_12 kf_7_188 rfl
theorem dX9_says_15 : decode cX9_says 15 = .ok (.iconst 1, 1) := by decide +kernel
theorem sX9_says_15 : ab_X rom K cX9_says 7 0 15 ls st hp = ab_X rom K cX9_says 7 0 16 ls (.int 1 :: st) hp := ax_iconst dX9_says_15 (by decide) rfl
theorem dX9_says_16 : decode cX9_says 16 = .ok (.iadd, 1) := by decide +kernel
theorem sX9_says_16 : ab_X rom K cX9_says 7 0 16 ls (.int y :: .int x :: st) hp = ab_X rom K cX9_says 7 0 17 ls (.int (x + y) :: st) hp := ax_iadd dX9_says_16 rfl
theorem dX9_says_17 : decode cX9_says 17 = .ok (.putfield 188, 3) := by decide +kernel
theorem sX9_says_17 : ab_X rom K cX9_says 7 0 17 ls (.int x :: .ref a :: st) hp = (ab_fpt hp a 7 28 (.int x)).bind (fun hp' => ab_X rom K cX9_says 7 0 20 ls st hp') := ax_putfield dX9_says_17 kf_7_188 rfl (Or.inl rfl) rfl
theorem dX9_says_20 : decode cX9_says 20 = .ok (.return_, 1) := by decide +kernel
theorem sX9_says_20 : ab_X rom K cX9_says 7 0 20 ls [] hp = some (none, hp) := ax_vret dX9_says_20 (by decide)
theorem tX9_saysNet : ab_mT[219]? = some (yX9_saysNet, cX9_saysNet, 3, 0, 7) := by decide +kernel
theorem mX9_saysNet {d : Nat} {a0 : Nat} {x0 : Int32} : ab_M rom (d + 1) 219 [.ref a0, .int x0] hp = ab_X rom (ab_M rom d) cX9_saysNet 7 0 0 [.ref a0, .int x0, .null] [] hp := ab_M_eq tX9_saysNet (Nat.le_of_ble_eq_true rfl)
theorem dX9_saysNet_0 : decode cX9_saysNet 0 = .ok (.aload_n 0, 1) := by decide +kernel
theorem sX9_saysNet_0 : ab_X rom K cX9_saysNet 7 0 0 (.ref a :: ls) st hp = ab_X rom K cX9_saysNet 7 0 1 (.ref a :: ls) (.ref a :: st) hp := ax_aload_n dX9_saysNet_0 rfl rfl
theorem dX9_saysNet_1 : decode cX9_saysNet 1 = .ok (.bipush 110, 2) := by decide +kernel
theorem sX9_saysNet_1 : ab_X rom K cX9_saysNet 7 0 1 ls st hp = ab_X rom K cX9_saysNet 7 0 3 ls (.int 110 :: st) hp := ax_bipush dX9_saysNet_1 (by decide) rfl
theorem dX9_saysNet_3 : decode cX9_saysNet 3 = .ok (.invokevirtual 374, 3) := by decide +kernel
theorem sX9_saysNet_3_0 : ab_X rom K cX9_saysNet 7 0 3 ls [w1, .ref a] hp = if ab_iso hp a 7 = true then (K 218 (.ref a :: [w1]) hp).bind (fun o => ab_X rom K cX9_saysNet 7 0 6 ls (o.1.toList ++ []) o.2) else none := ay_virtual (as := [w1]) (st := []) dX9_saysNet_3 kc_7_374 rfl rfl (Nat.le_of_ble_eq_true rfl)
theorem sX9_saysNet_3_1 : ab_X rom K cX9_saysNet 7 0 3 ls [w1, .ref a, v0] hp = if ab_iso hp a 7 = true then (K 218 (.ref a :: [w1]) hp).bind (fun o => ab_X rom K cX9_saysNet 7 0 6 ls (o.1.toList ++ [v0]) o.2) else none := ay_virtual (as := [w1]) (st := [v0]) dX9_saysNet_3 kc_7_374 rfl rfl (Nat.le_of_ble_eq_true rfl)
theorem sX9_saysNet_3_2 : ab_X rom K cX9_saysNet 7 0 3 ls [w1, .ref a, v0, v1] hp = if ab_iso hp a 7 = true then (K 218 (.ref a :: [w1]) hp).bind (fun o => ab_X rom K cX9_saysNet 7 0 6 ls (o.1.toList ++ [v0, v1]) o.2) else none := ay_virtual (as := [w1]) (st := [v0, v1]) dX9_saysNet_3 kc_7_374 rfl rfl (Nat.le_of_ble_eq_true rfl)
theorem sX9_saysNet_3_3 : ab_X rom K cX9_saysNet 7 0 3 ls [w1, .ref a, v0, v1, v2] hp = if ab_iso hp a 7 = true then (K 218 (.ref a :: [w1]) hp).bind (fun o => ab_X rom K cX9_saysNet 7 0 6 ls (o.1.toList ++ [v0, v1, v2]) o.2) else none := ay_virtual (as := [w1]) (st := [v0, v1, v2]) dX9_saysNet_3 kc_7_374 rfl rfl (Nat.le_of_ble_eq_true rfl)
theorem dX9_saysNet_6 : decode cX9_saysNet 6 = .ok (.aload_n 0, 1) := by decide +kernel
theorem sX9_saysNet_6 : ab_X rom K cX9_saysNet 7 0 6 (.ref a :: ls) st hp = ab_X rom K cX9_saysNet 7 0 7 (.ref a :: ls) (.ref a :: st) hp := ax_aload_n dX9_saysNet_6 rfl rfl
theorem dX9_saysNet_7 : decode cX9_saysNet 7 = .ok (.bipush 101, 2) := by decide +kernel
theorem sX9_saysNet_7 : ab_X rom K cX9_saysNet 7 0 7 ls st hp = ab_X rom K cX9_saysNet 7 0 9 ls (.int 101 :: st) hp := ax_bipush dX9_saysNet_7 (by decide) rfl
theorem dX9_saysNet_9 : decode cX9_saysNet 9 = .ok (.invokevirtual 374, 3) := by decide +kernel
theorem sX9_saysNet_9_0 : ab_X rom K cX9_saysNet 7 0 9 ls [w1, .ref a] hp = if ab_iso hp a 7 = true then (K 218 (.ref a :: [w1]) hp).bind (fun o => ab_X rom K cX9_saysNet 7 0 12 ls (o.1.toList ++ []) o.2) else none := ay_virtual (as := [w1]) (st := []) dX9_saysNet_9 kc_7_374 rfl rfl (Nat.le_of_ble_eq_true rfl)
theorem sX9_saysNet_9_1 : ab_X rom K cX9_saysNet 7 0 9 ls [w1, .ref a, v0] hp = if ab_iso hp a 7 = true then (K 218 (.ref a :: [w1]) hp).bind (fun o => ab_X rom K cX9_saysNet 7 0 12 ls (o.1.toList ++ [v0]) o.2) else none := ay_virtual (as := [w1]) (st := [v0]) dX9_saysNet_9 kc_7_374 rfl rfl (Nat.le_of_ble_eq_true rfl)
theorem sX9_saysNet_9_2 : ab_X rom K cX9_saysNet 7 0 9 ls [w1, .ref a, v0, v1] hp = if ab_iso hp a 7 = true then (K 218 (.ref a :: [w1]) hp).bind (fun o => ab_X rom K cX9_saysNet 7 0 12 ls (o.1.toList ++ [v0, v1]) o.2) else none := ay_virtual (as := [w1]) (st := [v0, v1]) dX9_saysNet_9 kc_7_374 rfl rfl (Nat.le_of_ble_eq_true rfl)
theorem sX9_saysNet_9_3 : ab_X rom K cX9_saysNet 7 0 9 ls [w1, .ref a, v0, v1, v2] hp = if ab_iso hp a 7 = true then (K 218 (.ref a :: [w1]) hp).bind (fun o => ab_X rom K cX9_saysNet 7 0 12 ls (o.1.toList ++ [v0, v1, v2]) o.2) else none := ay_virtual (as := [w1]) (st := [v0, v1, v2]) dX9_saysNet_9 kc_7_374 rfl rfl (Nat.le_of_ble_eq_true rfl)
theorem dX9_saysNet_12 : decode cX9_saysNet 12 = .ok (.aload_n 0, 1) := by decide +kernel
theorem sX9_saysNet_12 : ab_X rom K cX9_saysNet 7 0 12 (.ref a :: ls) st hp = ab_X rom K cX9_saysNet 7 0 13 (.ref a :: ls) (.ref a :: st) hp := ax_aload_n dX9_saysNet_12 rfl rfl
theorem dX9_saysNet_13 : decode cX9_saysNet 13 = .ok (.bipush 116, 2) := by decide +kernel
theorem sX9_saysNet_13 : ab_X rom K cX9_saysNet 7 0 13 ls st hp = ab_X rom K cX9_saysNet 7 0 15 ls (.int 116 :: st) hp := ax_bipush dX9_saysNet_13 (by decide) rfl
theorem dX9_saysNet_15 : decode cX9_saysNet 15 = .ok (.invokevirtual 374, 3) := by decide +kernel
theorem sX9_saysNet_15_0 : ab_X rom K cX9_saysNet 7 0 15 ls [w1, .ref a] hp = if ab_iso hp a 7 = true then (K 218 (.ref a :: [w1]) hp).bind (fun o => ab_X rom K cX9_saysNet 7 0 18 ls (o.1.toList ++ []) o.2) else none := ay_virtual (as := [w1]) (st := []) dX9_saysNet_15 kc_7_374 rfl rfl (Nat.le_of_ble_eq_true rfl)
theorem sX9_saysNet_15_1 : ab_X rom K cX9_saysNet 7 0 15 ls [w1, .ref a, v0] hp = if ab_iso hp a 7 = true then (K 218 (.ref a :: [w1]) hp).bind (fun o => ab_X rom K cX9_saysNet 7 0 18 ls (o.1.toList ++ [v0]) o.2) else none := ay_virtual (as := [w1]) (st := [v0]) dX9_saysNet_15 kc_7_374 rfl rfl (Nat.le_of_ble_eq_true rfl)
theorem sX9_saysNet_15_2 : ab_X rom K cX9_saysNet 7 0 15 ls [w1, .ref a, v0, v1] hp = if ab_iso hp a 7 = true then (K 218 (.ref a :: [w1]) hp).bind (fun o => ab_X rom K cX9_saysNet 7 0 18 ls (o.1.toList ++ [v0, v1]) o.2) else none := ay_virtual (as := [w1]) (st := [v0, v1]) dX9_saysNet_15 kc_7_374 rfl rfl (Nat.le_of_ble_eq_true rfl)
theorem sX9_saysNet_15_3 : ab_X rom K cX9_saysNet 7 0 15 ls [w1, .ref a, v0, v1, v2] hp = if ab_iso hp a 7 = true then (K 218 (.ref a :: [w1]) hp).bind (fun o => ab_X rom K cX9_saysNet 7 0 18 ls (o.1.toList ++ [v0, v1, v2]) o.2) else none := ay_virtual (as := [w1]) (st := [v0, v1, v2]) dX9_saysNet_15 kc_7_374 rfl rfl (Nat.le_of_ble_eq_true rfl)
theorem dX9_saysNet_18 : decode cX9_saysNet 18 = .ok (.aload_n 0, 1) := by decide +kernel
theorem sX9_saysNet_18 : ab_X rom K cX9_saysNet 7 0 18 (.ref a :: ls) st hp = ab_X rom K cX9_saysNet 7 0 19 (.ref a :: ls) (.ref a :: st) hp := ax_aload_n dX9_saysNet_18 rfl rfl
theorem dX9_saysNet_19 : decode cX9_saysNet 19 = .ok (.aload_n 0, 1) := by decide +kernel
theorem sX9_saysNet_19 : ab_X rom K cX9_saysNet 7 0 19 (.ref a :: ls) st hp = ab_X rom K cX9_saysNet 7 0 20 (.ref a :: ls) (.ref a :: st) hp := ax_aload_n dX9_saysNet_19 rfl rfl
theorem dX9_saysNet_20 : decode cX9_saysNet 20 = .ok (.iload_n 1, 1) := by decide +kernel
theorem sX9_saysNet_20 : ab_X rom K cX9_saysNet 7 0 20 (v0 :: .int x :: ls) st hp = ab_X rom K cX9_saysNet 7 0 21 (v0 :: .int x :: ls) (.int x :: st) hp := ax_iload_n dX9_saysNet_20 rfl rfl
theorem dX9_saysNet_21 : decode cX9_saysNet 21 = .ok (.invokevirtual 64, 3) := by decide +kernel
theorem sX9_saysNet_21_0 : ab_X rom K cX9_saysNet 7 0 21 ls [w1, .ref a] hp = if ab_iso hp a 7 = true then (K 209 (.ref a :: [w1]) hp).bind (fun o => ab_X rom K cX9_saysNet 7 0 24 ls (o.1.toList ++ []) o.2) else none := ay_virtual (as := [w1]) (st := []) dX9_saysNet_21 kc_7_64 rfl rfl (Nat.le_of_ble_eq_true rfl)
theorem sX9_saysNet_21_1 : ab_X rom K cX9_saysNet 7 0 21 ls [w1, .ref a, v0] hp = if ab_iso hp a 7 = true then (K 209 (.ref a :: [w1]) hp).bind (fun o => ab_X rom K cX9_saysNet 7 0 24 ls (o.1.toList ++ [v0]) o.2) else none := ay_virtual (as := [w1]) (st := [v0]) dX9_saysNet_21 kc_7_64 rfl rfl (Nat.le_of_ble_eq_true rfl)
theorem sX9_saysNet_21_2 : ab_X rom K cX9_saysNet 7 0 21 ls [w1, .ref a, v0, v1] hp = if ab_iso hp a 7 = true then (K 209 (.ref a :: [w1]) hp).bind (fun o => ab_X rom K cX9_saysNet 7 0 24 ls (o.1.toList ++ [v0, v1]) o.2) else none := ay_virtual (as := [w1]) (st := [v0, v1]) dX9_saysNet_21 kc_7_64 rfl rfl (Nat.le_of_ble_eq_true rfl)
theorem sX9_saysNet_21_3 : ab_X rom K cX9_saysNet 7 0 21 ls [w1, .ref a, v0, v1, v2] hp = if ab_iso hp a 7 = true then (K 209 (.ref a :: [w1]) hp).bind (fun o => ab_X rom K cX9_saysNet 7 0 24 ls (o.1.toList ++ [v0, v1, v2]) o.2) else none := ay_virtual (as := [w1]) (st := [v0, v1, v2]) dX9_saysNet_21 kc_7_64 rfl rfl (Nat.le_of_ble_eq_true rfl)
theorem dX9_saysNet_24 : decode cX9_saysNet 24 = .ok (.invokevirtual 371, 3) := by decide +kernel
theorem sX9_saysNet_24_0 : ab_X rom K cX9_saysNet 7 0 24 ls [w1, .ref a] hp = if ab_iso hp a 7 = true then (K 220 (.ref a :: [w1]) hp).bind (fun o => ab_X rom K cX9_saysNet 7 0 27 ls (o.1.toList ++ []) o.2) else none := ay_virtual (as := [w1]) (st := []) dX9_saysNet_24 kc_7_371 rfl rfl (Nat.le_of_ble_eq_true rfl)
theorem sX9_saysNet_24_1 : ab_X rom K cX9_saysNet 7 0 24 ls [w1, .ref a, v0] hp = if ab_iso hp a 7 = true then (K 220 (.ref a :: [w1]) hp).bind (fun o => ab_X rom K cX9_saysNet 7 0 27 ls (o.1.toList ++ [v0]) o.2) else none := ay_virtual (as := [w1]) (st := [v0]) dX9_saysNet_24 kc_7_371 rfl rfl (Nat.le_of_ble_eq_true rfl)
theorem sX9_saysNet_24_2 : ab_X rom K cX9_saysNet 7 0 24 ls [w1, .ref a, v0, v1] hp = if ab_iso hp a 7 = true then (K 220 (.ref a :: [w1]) hp).bind (fun o => ab_X rom K cX9_saysNet 7 0 27 ls (o.1.toList ++ [v0, v1]) o.2) else none := ay_virtual (as := [w1]) (st := [v0, v1]) dX9_saysNet_24 kc_7_371 rfl rfl (Nat.le_of_ble_eq_true rfl)
theorem sX9_saysNet_24_3 : ab_X rom K cX9_saysNet 7 0 24 ls [w1, .ref a, v0, v1, v2] hp = if ab_iso hp a 7 = true then (K 220 (.ref a :: [w1]) hp).bind (fun o => ab_X rom K cX9_saysNet 7 0 27 ls (o.1.toList ++ [v0, v1, v2]) o.2) else none := ay_virtual (as := [w1]) (st := [v0, v1, v2]) dX9_saysNet_24 kc_7_371 rfl rfl (Nat.le_of_ble_eq_true rfl)
theorem dX9_saysNet_27 : decode cX9_saysNet 27 = .ok (.aload_n 0, 1) := by decide +kernel
theorem sX9_saysNet_27 : ab_X rom K cX9_saysNet 7 0 27 (.ref a :: ls) st hp = ab_X rom K cX9_saysNet 7 0 28 (.ref a :: ls) (.ref a :: st) hp := ax_aload_n dX9_saysNet_27 rfl rfl
theorem dX9_saysNet_28 : decode cX9_saysNet 28 = .ok (.iload_n 1, 1) := by decide +kernel
theorem sX9_saysNet_28 : ab_X rom K cX9_saysNet 7 0 28 (v0 :: .int x :: ls) st hp = ab_X rom K cX9_saysNet 7 0 29 (v0 :: .int x :: ls) (.int x :: st) hp := ax_iload_n dX9_saysNet_28 rfl rfl
theorem dX9_saysNet_29 : decode cX9_saysNet 29 = .ok (.invokevirtual 213, 3) := by decide +kernel
theorem sX9_saysNet_29_0 : ab_X rom K cX9_saysNet 7 0 29 ls [w1, .ref a] hp = if ab_iso hp a 7 = true then (K 185 (.ref a :: [w1]) hp).bind (fun o => ab_X rom K cX9_saysNet 7 0 32 ls (o.1.toList ++ []) o.2) else none := ay_virtual (as := [w1]) (st := []) dX9_saysNet_29 kc_7_213 rfl rfl (Nat.le_of_ble_eq_true rfl)
theorem sX9_saysNet_29_1 : ab_X rom K cX9_saysNet 7 0 29 ls [w1, .ref a, v0] hp = if ab_iso hp a 7 = true then (K 185 (.ref a :: [w1]) hp).bind (fun o => ab_X rom K cX9_saysNet 7 0 32 ls (o.1.toList ++ [v0]) o.2) else none := ay_virtual (as := [w1]) (st := [v0]) dX9_saysNet_29 kc_7_213 rfl rfl (Nat.le_of_ble_eq_true rfl)
theorem sX9_saysNet_29_2 : ab_X rom K cX9_saysNet 7 0 29 ls [w1, .ref a, v0, v1] hp = if ab_iso hp a 7 = true then (K 185 (.ref a :: [w1]) hp).bind (fun o => ab_X rom K cX9_saysNet 7 0 32 ls (o.1.toList ++ [v0, v1]) o.2) else none := ay_virtual (as := [w1]) (st := [v0, v1]) dX9_saysNet_29 kc_7_213 rfl rfl (Nat.le_of_ble_eq_true rfl)
theorem sX9_saysNet_29_3 : ab_X rom K cX9_saysNet 7 0 29 ls [w1, .ref a, v0, v1, v2] hp = if ab_iso hp a 7 = true then (K 185 (.ref a :: [w1]) hp).bind (fun o => ab_X rom K cX9_saysNet 7 0 32 ls (o.1.toList ++ [v0, v1, v2]) o.2) else none := ay_virtual (as := [w1]) (st := [v0, v1, v2]) dX9_saysNet_29 kc_7_213 rfl rfl (Nat.le_of_ble_eq_true rfl)
theorem dX9_saysNet_32 : decode cX9_saysNet 32 = .ok (.iconst 0, 1) := by decide +kernel
theorem sX9_saysNet_32 : ab_X rom K cX9_saysNet 7 0 32 ls st hp = ab_X rom K cX9_saysNet 7 0 33 ls (.int 0 :: st) hp := ax_iconst dX9_saysNet_32 (by decide) rfl
theorem dX9_saysNet_33 : decode cX9_saysNet 33 = .ok (.istore_n 2, 1) := by decide +kernel
theorem sX9_saysNet_33i : ab_X rom K cX9_saysNet 7 0 33 (v0 :: .int y :: v2 :: ls) (.int x :: st) hp = ab_X rom K cX9_saysNet 7 0 34 (v0 :: .int y :: .int x :: ls) st hp := ax_istore_n dX9_saysNet_33 (ax_lt (v := v2) rfl) (ab_nl_c1 (j := 1) (v := .int y) rfl (ab_c1_int _)) rfl rfl
theorem sX9_saysNet_33r : ab_X rom K cX9_saysNet 7 0 33 (v0 :: .ref a2 :: v2 :: ls) (.int x :: st) hp = ab_X rom K cX9_saysNet 7 0 34 (v0 :: .ref a2 :: .int x :: ls) st hp := ax_istore_n dX9_saysNet_33 (ax_lt (v := v2) rfl) (ab_nl_c1 (j := 1) (v := .ref a2) rfl (ab_c1_ref _)) rfl rfl
theorem sX9_saysNet_33n : ab_X rom K cX9_saysNet 7 0 33 (v0 :: .null :: v2 :: ls) (.int x :: st) hp = ab_X rom K cX9_saysNet 7 0 34 (v0 :: .null :: .int x :: ls) st hp := ax_istore_n dX9_saysNet_33 (ax_lt (v := v2) rfl) (ab_nl_c1 (j := 1) (v := .null) rfl ab_c1_null) rfl rfl
theorem dX9_saysNet_34 : decode cX9_saysNet 34 = .ok (.iload_n 2, 1) := by decide +kernel
theorem sX9_saysNet_34 : ab_X rom K cX9_saysNet 7 0 34 (v0 :: v1 :: .int x :: ls) st hp = ab_X rom K cX9_saysNet 7 0 35 (v0 :: v1 :: .int x :: ls) (.int x :: st) hp := ax_iload_n dX9_saysNet_34 rfl rfl
theorem dX9_saysNet_35 : decode cX9_saysNet 35 = .ok (.aload_n 0, 1) := by decide +kernel
theorem sX9_saysNet_35 : ab_X rom K cX9_saysNet 7 0 35 (.ref a :: ls) st hp = ab_X rom K cX9_saysNet 7 0 36 (.ref a :: ls) (.ref a :: st) hp := ax_aload_n dX9_saysNet_35 rfl rfl
theorem dX9_saysNet_36 : decode cX9_saysNet 36 = .ok (.getfield 210, 3) := by decide +kernel
theorem sX9_saysNet_36 : ab_X rom K cX9_saysNet 7 0 36 ls (.ref a :: st) hp = (ab_fld hp a 7 15).bind (fun v => ab_X rom K cX9_saysNet 7 0 39 ls (v :: st) hp) := ax_getfield dX9_saysNet_36 kf_7_210 rfl
theorem dX9_saysNet_39 : decode cX9_saysNet 39 = .ok (.if_icmp .ge 50, 3) := by decide +kernel
theorem sX9_saysNet_39 : ab_X rom K cX9_saysNet 7 0 39 ls (.int y :: .int x :: st) hp = if x < y then ab_X rom K cX9_saysNet 7 0 42 ls st hp else ab_X rom K cX9_saysNet 7 0 89 ls st hp := ax_icmp_ge dX9_saysNet_39 (by decide) rfl
theorem dX9_saysNet_42 : decode cX9_saysNet 42 = .ok (.aload_n 0, 1) := by decide +kernel
theorem sX9_saysNet_42 : ab_X rom K cX9_saysNet 7 0 42 (.ref a :: ls) st hp = ab_X rom K cX9_saysNet 7 0 43 (.ref a :: ls) (.ref a :: st) hp := ax_aload_n dX9_saysNet_42 rfl rfl
theorem dX9_saysNet_43 : decode cX9_saysNet 43 = .ok (.iload_n 2, 1) := by decide +kernel
theorem sX9_saysNet_43 : ab_X rom K cX9_saysNet 7 0 43 (v0 :: v1 :: .int x :: ls) st hp = ab_X rom K cX9_saysNet 7 0 44 (v0 :: v1 :: .int x :: ls) (.int x :: st) hp := ax_iload_n dX9_saysNet_43 rfl rfl
theorem dX9_saysNet_44 : decode cX9_saysNet 44 = .ok (.ifCond .ne 8, 3) := by decide +kernel
theorem sX9_saysNet_44 : ab_X rom K cX9_saysNet 7 0 44 ls (.int x :: st) hp = if x = 0 then ab_X rom K cX9_saysNet 7 0 47 ls st hp else ab_X rom K cX9_saysNet 7 0 52 ls st hp := ax_if_ne dX9_saysNet_44 (by decide) rfl
theorem dX9_saysNet_47 : decode cX9_saysNet 47 = .ok (.bipush 58, 2) := by decide +kernel
theorem sX9_saysNet_47 : ab_X rom K cX9_saysNet 7 0 47 ls st hp = ab_X rom K cX9_saysNet 7 0 49 ls (.int 58 :: st) hp := ax_bipush dX9_saysNet_47 (by decide) rfl
theorem dX9_saysNet_49 : decode cX9_saysNet 49 = .ok (.goto 5, 3) := by decide +kernel
theorem sX9_saysNet_49 : ab_X rom K cX9_saysNet 7 0 49 ls st hp = ab_X rom K cX9_saysNet 7 0 54 ls st hp := ax_goto dX9_saysNet_49 (by decide)
theorem dX9_saysNet_52 : decode cX9_saysNet 52 = .ok (.bipush 44, 2) := by decide +kernel
theorem sX9_saysNet_52 : ab_X rom K cX9_saysNet 7 0 52 ls st hp = ab_X rom K cX9_saysNet 7 0 54 ls (.int 44 :: st) hp := ax_bipush dX9_saysNet_52 (by decide) rfl
theorem dX9_saysNet_54 : decode cX9_saysNet 54 = .ok (.invokevirtual 374, 3) := by decide +kernel
theorem sX9_saysNet_54_0 : ab_X rom K cX9_saysNet 7 0 54 ls [w1, .ref a] hp = if ab_iso hp a 7 = true then (K 218 (.ref a :: [w1]) hp).bind (fun o => ab_X rom K cX9_saysNet 7 0 57 ls (o.1.toList ++ []) o.2) else none := ay_virtual (as := [w1]) (st := []) dX9_saysNet_54 kc_7_374 rfl rfl (Nat.le_of_ble_eq_true rfl)
theorem sX9_saysNet_54_1 : ab_X rom K cX9_saysNet 7 0 54 ls [w1, .ref a, v0] hp = if ab_iso hp a 7 = true then (K 218 (.ref a :: [w1]) hp).bind (fun o => ab_X rom K cX9_saysNet 7 0 57 ls (o.1.toList ++ [v0]) o.2) else none := ay_virtual (as := [w1]) (st := [v0]) dX9_saysNet_54 kc_7_374 rfl rfl (Nat.le_of_ble_eq_true rfl)
theorem sX9_saysNet_54_2 : ab_X rom K cX9_saysNet 7 0 54 ls [w1, .ref a, v0, v1] hp = if ab_iso hp a 7 = true then (K 218 (.ref a :: [w1]) hp).bind (fun o => ab_X rom K cX9_saysNet 7 0 57 ls (o.1.toList ++ [v0, v1]) o.2) else none := ay_virtual (as := [w1]) (st := [v0, v1]) dX9_saysNet_54 kc_7_374 rfl rfl (Nat.le_of_ble_eq_true rfl)
theorem sX9_saysNet_54_3 : ab_X rom K cX9_saysNet 7 0 54 ls [w1, .ref a, v0, v1, v2] hp = if ab_iso hp a 7 = true then (K 218 (.ref a :: [w1]) hp).bind (fun o => ab_X rom K cX9_saysNet 7 0 57 ls (o.1.toList ++ [v0, v1, v2]) o.2) else none := ay_virtual (as := [w1]) (st := [v0, v1, v2]) dX9_saysNet_54 kc_7_374 rfl rfl (Nat.le_of_ble_eq_true rfl)
theorem dX9_saysNet_57 : decode cX9_saysNet 57 = .ok (.aload_n 0, 1) := by decide +kernel
theorem sX9_saysNet_57 : ab_X rom K cX9_saysNet 7 0 57 (.ref a :: ls) st hp = ab_X rom K cX9_saysNet 7 0 58 (.ref a :: ls) (.ref a :: st) hp := ax_aload_n dX9_saysNet_57 rfl rfl
theorem dX9_saysNet_58 : decode cX9_saysNet 58 = .ok (.aload_n 0, 1) := by decide +kernel
theorem sX9_saysNet_58 : ab_X rom K cX9_saysNet 7 0 58 (.ref a :: ls) st hp = ab_X rom K cX9_saysNet 7 0 59 (.ref a :: ls) (.ref a :: st) hp := ax_aload_n dX9_saysNet_58 rfl rfl
theorem dX9_saysNet_59 : decode cX9_saysNet 59 = .ok (.getfield 26, 3) := by decide +kernel
theorem sX9_saysNet_59 : ab_X rom K cX9_saysNet 7 0 59 ls (.ref a :: st) hp = (ab_fld hp a 7 13).bind (fun v => ab_X rom K cX9_saysNet 7 0 62 ls (v :: st) hp) := ax_getfield dX9_saysNet_59 kf_7_26 rfl
theorem dX9_saysNet_62 : decode cX9_saysNet 62 = .ok (.iload_n 2, 1) := by decide +kernel
theorem sX9_saysNet_62 : ab_X rom K cX9_saysNet 7 0 62 (v0 :: v1 :: .int x :: ls) st hp = ab_X rom K cX9_saysNet 7 0 63 (v0 :: v1 :: .int x :: ls) (.int x :: st) hp := ax_iload_n dX9_saysNet_62 rfl rfl
theorem dX9_saysNet_63 : decode cX9_saysNet 63 = .ok (.iaload, 1) := by decide +kernel
theorem sX9_saysNet_63 : ab_X rom K cX9_saysNet 7 0 63 ls (.int x :: .ref a :: st) hp = (ab_ard rom 0 hp a x).bind (fun v => ab_X rom K cX9_saysNet 7 0 64 ls (.int v :: st) hp) := ax_iaload dX9_saysNet_63 rfl
theorem dX9_saysNet_64 : decode cX9_saysNet 64 = .ok (.invokevirtual 371, 3) := by decide +kernel
theorem sX9_saysNet_64_0 : ab_X rom K cX9_saysNet 7 0 64 ls [w1, .ref a] hp = if ab_iso hp a 7 = true then (K 220 (.ref a :: [w1]) hp).bind (fun o => ab_X rom K cX9_saysNet 7 0 67 ls (o.1.toList ++ []) o.2) else none := ay_virtual (as := [w1]) (st := []) dX9_saysNet_64 kc_7_371 rfl rfl (Nat.le_of_ble_eq_true rfl)
theorem sX9_saysNet_64_1 : ab_X rom K cX9_saysNet 7 0 64 ls [w1, .ref a, v0] hp = if ab_iso hp a 7 = true then (K 220 (.ref a :: [w1]) hp).bind (fun o => ab_X rom K cX9_saysNet 7 0 67 ls (o.1.toList ++ [v0]) o.2) else none := ay_virtual (as := [w1]) (st := [v0]) dX9_saysNet_64 kc_7_371 rfl rfl (Nat.le_of_ble_eq_true rfl)
theorem sX9_saysNet_64_2 : ab_X rom K cX9_saysNet 7 0 64 ls [w1, .ref a, v0, v1] hp = if ab_iso hp a 7 = true then (K 220 (.ref a :: [w1]) hp).bind (fun o => ab_X rom K cX9_saysNet 7 0 67 ls (o.1.toList ++ [v0, v1]) o.2) else none := ay_virtual (as := [w1]) (st := [v0, v1]) dX9_saysNet_64 kc_7_371 rfl rfl (Nat.le_of_ble_eq_true rfl)
theorem sX9_saysNet_64_3 : ab_X rom K cX9_saysNet 7 0 64 ls [w1, .ref a, v0, v1, v2] hp = if ab_iso hp a 7 = true then (K 220 (.ref a :: [w1]) hp).bind (fun o => ab_X rom K cX9_saysNet 7 0 67 ls (o.1.toList ++ [v0, v1, v2]) o.2) else none := ay_virtual (as := [w1]) (st := [v0, v1, v2]) dX9_saysNet_64 kc_7_371 rfl rfl (Nat.le_of_ble_eq_true rfl)
theorem dX9_saysNet_67 : decode cX9_saysNet 67 = .ok (.aload_n 0, 1) := by decide +kernel
theorem sX9_saysNet_67 : ab_X rom K cX9_saysNet 7 0 67 (.ref a :: ls) st hp = ab_X rom K cX9_saysNet 7 0 68 (.ref a :: ls) (.ref a :: st) hp := ax_aload_n dX9_saysNet_67 rfl rfl
theorem dX9_saysNet_68 : decode cX9_saysNet 68 = .ok (.bipush 45, 2) := by decide +kernel
theorem sX9_saysNet_68 : ab_X rom K cX9_saysNet 7 0 68 ls st hp = ab_X rom K cX9_saysNet 7 0 70 ls (.int 45 :: st) hp := ax_bipush dX9_saysNet_68 (by decide) rfl
theorem dX9_saysNet_70 : decode cX9_saysNet 70 = .ok (.invokevirtual 374, 3) := by decide +kernel
theorem sX9_saysNet_70_0 : ab_X rom K cX9_saysNet 7 0 70 ls [w1, .ref a] hp = if ab_iso hp a 7 = true then (K 218 (.ref a :: [w1]) hp).bind (fun o => ab_X rom K cX9_saysNet 7 0 73 ls (o.1.toList ++ []) o.2) else none := ay_virtual (as := [w1]) (st := []) dX9_saysNet_70 kc_7_374 rfl rfl (Nat.le_of_ble_eq_true rfl)
theorem sX9_saysNet_70_1 : ab_X rom K cX9_saysNet 7 0 70 ls [w1, .ref a, v0] hp = if ab_iso hp a 7 = true then (K 218 (.ref a :: [w1]) hp).bind (fun o => ab_X rom K cX9_saysNet 7 0 73 ls (o.1.toList ++ [v0]) o.2) else none := ay_virtual (as := [w1]) (st := [v0]) dX9_saysNet_70 kc_7_374 rfl rfl (Nat.le_of_ble_eq_true rfl)
theorem sX9_saysNet_70_2 : ab_X rom K cX9_saysNet 7 0 70 ls [w1, .ref a, v0, v1] hp = if ab_iso hp a 7 = true then (K 218 (.ref a :: [w1]) hp).bind (fun o => ab_X rom K cX9_saysNet 7 0 73 ls (o.1.toList ++ [v0, v1]) o.2) else none := ay_virtual (as := [w1]) (st := [v0, v1]) dX9_saysNet_70 kc_7_374 rfl rfl (Nat.le_of_ble_eq_true rfl)
theorem sX9_saysNet_70_3 : ab_X rom K cX9_saysNet 7 0 70 ls [w1, .ref a, v0, v1, v2] hp = if ab_iso hp a 7 = true then (K 218 (.ref a :: [w1]) hp).bind (fun o => ab_X rom K cX9_saysNet 7 0 73 ls (o.1.toList ++ [v0, v1, v2]) o.2) else none := ay_virtual (as := [w1]) (st := [v0, v1, v2]) dX9_saysNet_70 kc_7_374 rfl rfl (Nat.le_of_ble_eq_true rfl)
theorem dX9_saysNet_73 : decode cX9_saysNet 73 = .ok (.aload_n 0, 1) := by decide +kernel
theorem sX9_saysNet_73 : ab_X rom K cX9_saysNet 7 0 73 (.ref a :: ls) st hp = ab_X rom K cX9_saysNet 7 0 74 (.ref a :: ls) (.ref a :: st) hp := ax_aload_n dX9_saysNet_73 rfl rfl
theorem dX9_saysNet_74 : decode cX9_saysNet 74 = .ok (.aload_n 0, 1) := by decide +kernel
theorem sX9_saysNet_74 : ab_X rom K cX9_saysNet 7 0 74 (.ref a :: ls) st hp = ab_X rom K cX9_saysNet 7 0 75 (.ref a :: ls) (.ref a :: st) hp := ax_aload_n dX9_saysNet_74 rfl rfl
theorem dX9_saysNet_75 : decode cX9_saysNet 75 = .ok (.getfield 29, 3) := by decide +kernel
theorem sX9_saysNet_75 : ab_X rom K cX9_saysNet 7 0 75 ls (.ref a :: st) hp = (ab_fld hp a 7 14).bind (fun v => ab_X rom K cX9_saysNet 7 0 78 ls (v :: st) hp) := ax_getfield dX9_saysNet_75 kf_7_29 rfl
theorem dX9_saysNet_78 : decode cX9_saysNet 78 = .ok (.iload_n 2, 1) := by decide +kernel
theorem sX9_saysNet_78 : ab_X rom K cX9_saysNet 7 0 78 (v0 :: v1 :: .int x :: ls) st hp = ab_X rom K cX9_saysNet 7 0 79 (v0 :: v1 :: .int x :: ls) (.int x :: st) hp := ax_iload_n dX9_saysNet_78 rfl rfl
theorem dX9_saysNet_79 : decode cX9_saysNet 79 = .ok (.iaload, 1) := by decide +kernel
theorem sX9_saysNet_79 : ab_X rom K cX9_saysNet 7 0 79 ls (.int x :: .ref a :: st) hp = (ab_ard rom 0 hp a x).bind (fun v => ab_X rom K cX9_saysNet 7 0 80 ls (.int v :: st) hp) := ax_iaload dX9_saysNet_79 rfl
theorem dX9_saysNet_80 : decode cX9_saysNet 80 = .ok (.invokevirtual 371, 3) := by decide +kernel
theorem sX9_saysNet_80_0 : ab_X rom K cX9_saysNet 7 0 80 ls [w1, .ref a] hp = if ab_iso hp a 7 = true then (K 220 (.ref a :: [w1]) hp).bind (fun o => ab_X rom K cX9_saysNet 7 0 83 ls (o.1.toList ++ []) o.2) else none := ay_virtual (as := [w1]) (st := []) dX9_saysNet_80 kc_7_371 rfl rfl (Nat.le_of_ble_eq_true rfl)
theorem sX9_saysNet_80_1 : ab_X rom K cX9_saysNet 7 0 80 ls [w1, .ref a, v0] hp = if ab_iso hp a 7 = true then (K 220 (.ref a :: [w1]) hp).bind (fun o => ab_X rom K cX9_saysNet 7 0 83 ls (o.1.toList ++ [v0]) o.2) else none := ay_virtual (as := [w1]) (st := [v0]) dX9_saysNet_80 kc_7_371 rfl rfl (Nat.le_of_ble_eq_true rfl)
theorem sX9_saysNet_80_2 : ab_X rom K cX9_saysNet 7 0 80 ls [w1, .ref a, v0, v1] hp = if ab_iso hp a 7 = true then (K 220 (.ref a :: [w1]) hp).bind (fun o => ab_X rom K cX9_saysNet 7 0 83 ls (o.1.toList ++ [v0, v1]) o.2) else none := ay_virtual (as := [w1]) (st := [v0, v1]) dX9_saysNet_80 kc_7_371 rfl rfl (Nat.le_of_ble_eq_true rfl)
theorem sX9_saysNet_80_3 : ab_X rom K cX9_saysNet 7 0 80 ls [w1, .ref a, v0, v1, v2] hp = if ab_iso hp a 7 = true then (K 220 (.ref a :: [w1]) hp).bind (fun o => ab_X rom K cX9_saysNet 7 0 83 ls (o.1.toList ++ [v0, v1, v2]) o.2) else none := ay_virtual (as := [w1]) (st := [v0, v1, v2]) dX9_saysNet_80 kc_7_371 rfl rfl (Nat.le_of_ble_eq_true rfl)
theorem dX9_saysNet_83 : decode cX9_saysNet 83 = .ok (.iinc 2 1, 3) := by decide +kernel
theorem sX9_saysNet_83i : ab_X rom K cX9_saysNet 7 0 83 (v0 :: .int y :: .int x :: ls) st hp = ab_X rom K cX9_saysNet 7 0 86 (v0 :: .int y :: .int (x + 1) :: ls) st hp := ax_iinc dX9_saysNet_83 rfl (ab_nl_c1 (j := 1) (v := .int y) rfl (ab_c1_int _)) (by decide) rfl rfl
theorem sX9_saysNet_83r : ab_X rom K cX9_saysNet 7 0 83 (v0 :: .ref a2 :: .int x :: ls) st hp = ab_X rom K cX9_saysNet 7 0 86 (v0 :: .ref a2 :: .int (x + 1) :: ls) st hp := ax_iinc dX9_saysNet_83 rfl (ab_nl_c1 (j := 1) (v := .ref a2) rfl (ab_c1_ref _)) (by decide) rfl rfl
theorem sX9_saysNet_83n : ab_X rom K cX9_saysNet 7 0 83 (v0 :: .null :: .int x :: ls) st hp = ab_X rom K cX9_saysNet 7 0 86 (v0 :: .null :: .int (x + 1) :: ls) st hp := ax_iinc dX9_saysNet_83 rfl (ab_nl_c1 (j := 1) (v := .null) rfl ab_c1_null) (by decide) rfl rfl
theorem dX9_saysNet_86 : decode cX9_saysNet 86 = .ok (.goto (-52), 3) := by decide +kernel
theorem sX9_saysNet_86 : ab_X rom K cX9_saysNet 7 0 86 ls st hp = ab_X rom K cX9_saysNet 7 0 34 ls st hp := ax_goto dX9_saysNet_86 (by decide)
theorem dX9_saysNet_89 : decode cX9_saysNet 89 = .ok (.aload_n 0, 1) := by decide +kernel
theorem sX9_saysNet_89 : ab_X rom K cX9_saysNet 7 0 89 (.ref a :: ls) st hp = ab_X rom K cX9_saysNet 7 0 90 (.ref a :: ls) (.ref a :: st) hp := ax_aload_n dX9_saysNet_89 rfl rfl
theorem dX9_saysNet_90 : decode cX9_saysNet 90 = .ok (.bipush 59, 2) := by decide +kernel
theorem sX9_saysNet_90 : ab_X rom K cX9_saysNet 7 0 90 ls st hp = ab_X rom K cX9_saysNet 7 0 92 ls (.int 59 :: st) hp := ax_bipush dX9_saysNet_90 (by decide) rfl
theorem dX9_saysNet_92 : decode cX9_saysNet 92 = .ok (.invokevirtual 374, 3) := by decide +kernel
theorem sX9_saysNet_92_0 : ab_X rom K cX9_saysNet 7 0 92 ls [w1, .ref a] hp = if ab_iso hp a 7 = true then (K 218 (.ref a :: [w1]) hp).bind (fun o => ab_X rom K cX9_saysNet 7 0 95 ls (o.1.toList ++ []) o.2) else none := ay_virtual (as := [w1]) (st := []) dX9_saysNet_92 kc_7_374 rfl rfl (Nat.le_of_ble_eq_true rfl)
theorem sX9_saysNet_92_1 : ab_X rom K cX9_saysNet 7 0 92 ls [w1, .ref a, v0] hp = if ab_iso hp a 7 = true then (K 218 (.ref a :: [w1]) hp).bind (fun o => ab_X rom K cX9_saysNet 7 0 95 ls (o.1.toList ++ [v0]) o.2) else none := ay_virtual (as := [w1]) (st := [v0]) dX9_saysNet_92 kc_7_374 rfl rfl (Nat.le_of_ble_eq_true rfl)
theorem sX9_saysNet_92_2 : ab_X rom K cX9_saysNet 7 0 92 ls [w1, .ref a, v0, v1] hp = if ab_iso hp a 7 = true then (K 218 (.ref a :: [w1]) hp).bind (fun o => ab_X rom K cX9_saysNet 7 0 95 ls (o.1.toList ++ [v0, v1]) o.2) else none := ay_virtual (as := [w1]) (st := [v0, v1]) dX9_saysNet_92 kc_7_374 rfl rfl (Nat.le_of_ble_eq_true rfl)
theorem sX9_saysNet_92_3 : ab_X rom K cX9_saysNet 7 0 92 ls [w1, .ref a, v0, v1, v2] hp = if ab_iso hp a 7 = true then (K 218 (.ref a :: [w1]) hp).bind (fun o => ab_X rom K cX9_saysNet 7 0 95 ls (o.1.toList ++ [v0, v1, v2]) o.2) else none := ay_virtual (as := [w1]) (st := [v0, v1, v2]) dX9_saysNet_92 kc_7_374 rfl rfl (Nat.le_of_ble_eq_true rfl)
theorem dX9_saysNet_95 : decode cX9_saysNet 95 = .ok (.return_, 1) := by decide +kernel
theorem sX9_saysNet_95 : ab_X rom K cX9_saysNet 7 0 95 ls [] hp = some (none, hp) := ax_vret dX9_saysNet_95 (by decide)
theorem tX9_saysNumber : ab_mT[220]? = some (yX9_saysNumber, cX9_saysNumber, 2, 0, 7) := by decide +kernel
theorem mX9_saysNumber {d : Nat} {a0 : Nat} {x0 : Int32} : ab_M rom (d + 1) 220 [.ref a0, .int x0] hp = ab_X rom (ab_M rom d) cX9_saysNumber 7 0 0 [.ref a0, .int x0] [] hp := ab_M_eq tX9_saysNumber (Nat.le_of_ble_eq_true rfl)
theorem dX9_saysNumber_0 : decode cX9_saysNumber 0 = .ok (.iload_n 1, 1) := by decide +kernel
theorem sX9_saysNumber_0 : ab_X rom K cX9_saysNumber 7 0 0 (v0 :: .int x :: ls) st hp = ab_X rom K cX9_saysNumber 7 0 1 (v0 :: .int x :: ls) (.int x :: st) hp := ax_iload_n dX9_saysNumber_0 rfl rfl
theorem dX9_saysNumber_1 : decode cX9_saysNumber 1 = .ok (.bipush 9, 2) := by decide +kernel
theorem sX9_saysNumber_1 : ab_X rom K cX9_saysNumber 7 0 1 ls st hp = ab_X rom K cX9_saysNumber 7 0 3 ls (.int 9 :: st) hp := ax_bipush dX9_saysNumber_1 (by decide) rfl
theorem dX9_saysNumber_3 : decode cX9_saysNumber 3 = .ok (.if_icmp .le 11, 3) := by decide +kernel
theorem sX9_saysNumber_3 : ab_X rom K cX9_saysNumber 7 0 3 ls (.int y :: .int x :: st) hp = if y < x then ab_X rom K cX9_saysNumber 7 0 6 ls st hp else ab_X rom K cX9_saysNumber 7 0 14 ls st hp := ax_icmp_le dX9_saysNumber_3 (by decide) rfl
theorem dX9_saysNumber_6 : decode cX9_saysNumber 6 = .ok (.aload_n 0, 1) := by decide +kernel
theorem sX9_saysNumber_6 : ab_X rom K cX9_saysNumber 7 0 6 (.ref a :: ls) st hp = ab_X rom K cX9_saysNumber 7 0 7 (.ref a :: ls) (.ref a :: st) hp := ax_aload_n dX9_saysNumber_6 rfl rfl
theorem dX9_saysNumber_7 : decode cX9_saysNumber 7 = .ok (.iload_n 1, 1) := by decide +kernel
theorem sX9_saysNumber_7 : ab_X rom K cX9_saysNumber 7 0 7 (v0 :: .int x :: ls) st hp = ab_X rom K cX9_saysNumber 7 0 8 (v0 :: .int x :: ls) (.int x :: st) hp := ax_iload_n dX9_saysNumber_7 rfl rfl
theorem dX9_saysNumber_8 : decode cX9_saysNumber 8 = .ok (.bipush 10, 2) := by decide +kernel
theorem sX9_saysNumber_8 : ab_X rom K cX9_saysNumber 7 0 8 ls st hp = ab_X rom K cX9_saysNumber 7 0 10 ls (.int 10 :: st) hp := ax_bipush dX9_saysNumber_8 (by decide) rfl
theorem dX9_saysNumber_10 : decode cX9_saysNumber 10 = .ok (.idiv, 1) := by decide +kernel
theorem sX9_saysNumber_10 : ab_X rom K cX9_saysNumber 7 0 10 ls (.int y :: .int x :: st) hp = if y = 0 then none else ab_X rom K cX9_saysNumber 7 0 11 ls (.int (x / y) :: st) hp := ay_idiv dX9_saysNumber_10 rfl
theorem dX9_saysNumber_11 : decode cX9_saysNumber 11 = .ok (.invokevirtual 371, 3) := by decide +kernel
theorem sX9_saysNumber_11_0 : ab_X rom K cX9_saysNumber 7 0 11 ls [w1, .ref a] hp = if ab_iso hp a 7 = true then (K 220 (.ref a :: [w1]) hp).bind (fun o => ab_X rom K cX9_saysNumber 7 0 14 ls (o.1.toList ++ []) o.2) else none := ay_virtual (as := [w1]) (st := []) dX9_saysNumber_11 kc_7_371 rfl rfl (Nat.le_of_ble_eq_true rfl)
theorem sX9_saysNumber_11_1 : ab_X rom K cX9_saysNumber 7 0 11 ls [w1, .ref a, v0] hp = if ab_iso hp a 7 = true then (K 220 (.ref a :: [w1]) hp).bind (fun o => ab_X rom K cX9_saysNumber 7 0 14 ls (o.1.toList ++ [v0]) o.2) else none := ay_virtual (as := [w1]) (st := [v0]) dX9_saysNumber_11 kc_7_371 rfl rfl (Nat.le_of_ble_eq_true rfl)
theorem sX9_saysNumber_11_2 : ab_X rom K cX9_saysNumber 7 0 11 ls [w1, .ref a, v0, v1] hp = if ab_iso hp a 7 = true then (K 220 (.ref a :: [w1]) hp).bind (fun o => ab_X rom K cX9_saysNumber 7 0 14 ls (o.1.toList ++ [v0, v1]) o.2) else none := ay_virtual (as := [w1]) (st := [v0, v1]) dX9_saysNumber_11 kc_7_371 rfl rfl (Nat.le_of_ble_eq_true rfl)
theorem sX9_saysNumber_11_3 : ab_X rom K cX9_saysNumber 7 0 11 ls [w1, .ref a, v0, v1, v2] hp = if ab_iso hp a 7 = true then (K 220 (.ref a :: [w1]) hp).bind (fun o => ab_X rom K cX9_saysNumber 7 0 14 ls (o.1.toList ++ [v0, v1, v2]) o.2) else none := ay_virtual (as := [w1]) (st := [v0, v1, v2]) dX9_saysNumber_11 kc_7_371 rfl rfl (Nat.le_of_ble_eq_true rfl)
theorem dX9_saysNumber_14 : decode cX9_saysNumber 14 = .ok (.aload_n 0, 1) := by decide +kernel
theorem sX9_saysNumber_14 : ab_X rom K cX9_saysNumber 7 0 14 (.ref a :: ls) st hp = ab_X rom K cX9_saysNumber 7 0 15 (.ref a :: ls) (.ref a :: st) hp := ax_aload_n dX9_saysNumber_14 rfl rfl
theorem dX9_saysNumber_15 : decode cX9_saysNumber 15 = .ok (.bipush 48, 2) := by decide +kernel
theorem sX9_saysNumber_15 : ab_X rom K cX9_saysNumber 7 0 15 ls st hp = ab_X rom K cX9_saysNumber 7 0 17 ls (.int 48 :: st) hp := ax_bipush dX9_saysNumber_15 (by decide) rfl
theorem dX9_saysNumber_17 : decode cX9_saysNumber 17 = .ok (.iload_n 1, 1) := by decide +kernel
theorem sX9_saysNumber_17 : ab_X rom K cX9_saysNumber 7 0 17 (v0 :: .int x :: ls) st hp = ab_X rom K cX9_saysNumber 7 0 18 (v0 :: .int x :: ls) (.int x :: st) hp := ax_iload_n dX9_saysNumber_17 rfl rfl
theorem dX9_saysNumber_18 : decode cX9_saysNumber 18 = .ok (.bipush 10, 2) := by decide +kernel
theorem sX9_saysNumber_18 : ab_X rom K cX9_saysNumber 7 0 18 ls st hp = ab_X rom K cX9_saysNumber 7 0 20 ls (.int 10 :: st) hp := ax_bipush dX9_saysNumber_18 (by decide) rfl
theorem dX9_saysNumber_20 : decode cX9_saysNumber 20 = .ok (.irem, 1) := by decide +kernel
theorem sX9_saysNumber_20 : ab_X rom K cX9_saysNumber 7 0 20 ls (.int y :: .int x :: st) hp = if y = 0 then none else ab_X rom K cX9_saysNumber 7 0 21 ls (.int (ab_rem x y) :: st) hp := ay_irem dX9_saysNumber_20 rfl
theorem dX9_saysNumber_21 : decode cX9_saysNumber 21 = .ok (.iadd, 1) := by decide +kernel
theorem sX9_saysNumber_21 : ab_X rom K cX9_saysNumber 7 0 21 ls (.int y :: .int x :: st) hp = ab_X rom K cX9_saysNumber 7 0 22 ls (.int (x + y) :: st) hp := ax_iadd dX9_saysNumber_21 rfl
theorem dX9_saysNumber_22 : decode cX9_saysNumber 22 = .ok (.invokevirtual 374, 3) := by decide +kernel
theorem sX9_saysNumber_22_0 : ab_X rom K cX9_saysNumber 7 0 22 ls [w1, .ref a] hp = if ab_iso hp a 7 = true then (K 218 (.ref a :: [w1]) hp).bind (fun o => ab_X rom K cX9_saysNumber 7 0 25 ls (o.1.toList ++ []) o.2) else none := ay_virtual (as := [w1]) (st := []) dX9_saysNumber_22 kc_7_374 rfl rfl (Nat.le_of_ble_eq_true rfl)
theorem sX9_saysNumber_22_1 : ab_X rom K cX9_saysNumber 7 0 22 ls [w1, .ref a, v0] hp = if ab_iso hp a 7 = true then (K 218 (.ref a :: [w1]) hp).bind (fun o => ab_X rom K cX9_saysNumber 7 0 25 ls (o.1.toList ++ [v0]) o.2) else none := ay_virtual (as := [w1]) (st := [v0]) dX9_saysNumber_22 kc_7_374 rfl rfl (Nat.le_of_ble_eq_true rfl)
theorem sX9_saysNumber_22_2 : ab_X rom K cX9_saysNumber 7 0 22 ls [w1, .ref a, v0, v1] hp = if ab_iso hp a 7 = true then (K 218 (.ref a :: [w1]) hp).bind (fun o => ab_X rom K cX9_saysNumber 7 0 25 ls (o.1.toList ++ [v0, v1]) o.2) else none := ay_virtual (as := [w1]) (st := [v0, v1]) dX9_saysNumber_22 kc_7_374 rfl rfl (Nat.le_of_ble_eq_true rfl)
theorem sX9_saysNumber_22_3 : ab_X rom K cX9_saysNumber 7 0 22 ls [w1, .ref a, v0, v1, v2] hp = if ab_iso hp a 7 = true then (K 218 (.ref a :: [w1]) hp).bind (fun o => ab_X rom K cX9_saysNumber 7 0 25 ls (o.1.toList ++ [v0, v1, v2]) o.2) else none := ay_virtual (as := [w1]) (st := [v0, v1, v2]) dX9_saysNumber_22 kc_7_374 rfl rfl (Nat.le_of_ble_eq_true rfl)
theorem dX9_saysNumber_25 : decode cX9_saysNumber 25 = .ok (.return_, 1) := by decide +kernel
theorem sX9_saysNumber_25 : ab_X rom K cX9_saysNumber 7 0 25 ls [] hp = some (none, hp) := ax_vret dX9_saysNumber_25 (by decide)
theorem tX9_seeks : ab_mT[221]? = some (yX9_seeks, cX9_seeks, 6, 2, 7) := by decide +kernel
theorem mX9_seeks {d : Nat} {a0 : Nat} {x0 : Int32} {x1 : Int32} {x2 : Int32} {x3 : Int32} : ab_M rom (d + 1) 221 [.ref a0, .int x0, .int x1, .int x2, .int x3] hp = ab_X rom (ab_M rom d) cX9_seeks 7 2 0 [.ref a0, .int x0, .int x1, .int x2, .int x3, .null] [] hp := ab_M_eq tX9_seeks (Nat.le_of_ble_eq_true rfl)
theorem dX9_seeks_0 : decode cX9_seeks 0 = .ok (.aload_n 0, 1) := by decide +kernel
theorem sX9_seeks_0 : ab_X rom K cX9_seeks 7 2 0 (.ref a :: ls) st hp = ab_X rom K cX9_seeks 7 2 1 (.ref a :: ls) (.ref a :: st) hp := ax_aload_n dX9_seeks_0 rfl rfl
theorem dX9_seeks_1 : decode cX9_seeks 1 = .ok (.iload_n 1, 1) := by decide +kernel
theorem sX9_seeks_1 : ab_X rom K cX9_seeks 7 2 1 (v0 :: .int x :: ls) st hp = ab_X rom K cX9_seeks 7 2 2 (v0 :: .int x :: ls) (.int x :: st) hp := ax_iload_n dX9_seeks_1 rfl rfl
theorem dX9_seeks_2 : decode cX9_seeks 2 = .ok (.invokevirtual 269, 3) := by decide +kernel
theorem sX9_seeks_2_0 : ab_X rom K cX9_seeks 7 2 2 ls [w1, .ref a] hp = if ab_iso hp a 7 = true then (K 186 (.ref a :: [w1]) hp).bind (fun o => ab_X rom K cX9_seeks 7 2 5 ls (o.1.toList ++ []) o.2) else none := ay_virtual (as := [w1]) (st := []) dX9_seeks_2 kc_7_269 rfl rfl (Nat.le_of_ble_eq_true rfl)
theorem sX9_seeks_2_1 : ab_X rom K cX9_seeks 7 2 2 ls [w1, .ref a, v0] hp = if ab_iso hp a 7 = true then (K 186 (.ref a :: [w1]) hp).bind (fun o => ab_X rom K cX9_seeks 7 2 5 ls (o.1.toList ++ [v0]) o.2) else none := ay_virtual (as := [w1]) (st := [v0]) dX9_seeks_2 kc_7_269 rfl rfl (Nat.le_of_ble_eq_true rfl)
theorem sX9_seeks_2_2 : ab_X rom K cX9_seeks 7 2 2 ls [w1, .ref a, v0, v1] hp = if ab_iso hp a 7 = true then (K 186 (.ref a :: [w1]) hp).bind (fun o => ab_X rom K cX9_seeks 7 2 5 ls (o.1.toList ++ [v0, v1]) o.2) else none := ay_virtual (as := [w1]) (st := [v0, v1]) dX9_seeks_2 kc_7_269 rfl rfl (Nat.le_of_ble_eq_true rfl)
theorem sX9_seeks_2_3 : ab_X rom K cX9_seeks 7 2 2 ls [w1, .ref a, v0, v1, v2] hp = if ab_iso hp a 7 = true then (K 186 (.ref a :: [w1]) hp).bind (fun o => ab_X rom K cX9_seeks 7 2 5 ls (o.1.toList ++ [v0, v1, v2]) o.2) else none := ay_virtual (as := [w1]) (st := [v0, v1, v2]) dX9_seeks_2 kc_7_269 rfl rfl (Nat.le_of_ble_eq_true rfl)
theorem dX9_seeks_5 : decode cX9_seeks 5 = .ok (.iconst 0, 1) := by decide +kernel
theorem sX9_seeks_5 : ab_X rom K cX9_seeks 7 2 5 ls st hp = ab_X rom K cX9_seeks 7 2 6 ls (.int 0 :: st) hp := ax_iconst dX9_seeks_5 (by decide) rfl
theorem dX9_seeks_6 : decode cX9_seeks 6 = .ok (.istore 5, 2) := by decide +kernel
theorem sX9_seeks_6i : ab_X rom K cX9_seeks 7 2 6 (v0 :: v1 :: v2 :: v3 :: .int y :: v5 :: ls) (.int x :: st) hp = ab_X rom K cX9_seeks 7 2 8 (v0 :: v1 :: v2 :: v3 :: .int y :: .int x :: ls) st hp := ax_istore dX9_seeks_6 (ax_lt (v := v5) rfl) (ab_nl_c1 (j := 4) (v := .int y) rfl (ab_c1_int _)) rfl rfl
theorem sX9_seeks_6r : ab_X rom K cX9_seeks 7 2 6 (v0 :: v1 :: v2 :: v3 :: .ref a2 :: v5 :: ls) (.int x :: st) hp = ab_X rom K cX9_seeks 7 2 8 (v0 :: v1 :: v2 :: v3 :: .ref a2 :: .int x :: ls) st hp := ax_istore dX9_seeks_6 (ax_lt (v := v5) rfl) (ab_nl_c1 (j := 4) (v := .ref a2) rfl (ab_c1_ref _)) rfl rfl
theorem sX9_seeks_6n : ab_X rom K cX9_seeks 7 2 6 (v0 :: v1 :: v2 :: v3 :: .null :: v5 :: ls) (.int x :: st) hp = ab_X rom K cX9_seeks 7 2 8 (v0 :: v1 :: v2 :: v3 :: .null :: .int x :: ls) st hp := ax_istore dX9_seeks_6 (ax_lt (v := v5) rfl) (ab_nl_c1 (j := 4) (v := .null) rfl ab_c1_null) rfl rfl
theorem dX9_seeks_8 : decode cX9_seeks 8 = .ok (.iload 5, 2) := by decide +kernel
theorem sX9_seeks_8 : ab_X rom K cX9_seeks 7 2 8 (v0 :: v1 :: v2 :: v3 :: v4 :: .int x :: ls) st hp = ab_X rom K cX9_seeks 7 2 10 (v0 :: v1 :: v2 :: v3 :: v4 :: .int x :: ls) (.int x :: st) hp := ax_iload dX9_seeks_8 rfl rfl
theorem dX9_seeks_10 : decode cX9_seeks 10 = .ok (.aload_n 0, 1) := by decide +kernel
theorem sX9_seeks_10 : ab_X rom K cX9_seeks 7 2 10 (.ref a :: ls) st hp = ab_X rom K cX9_seeks 7 2 11 (.ref a :: ls) (.ref a :: st) hp := ax_aload_n dX9_seeks_10 rfl rfl
theorem dX9_seeks_11 : decode cX9_seeks 11 = .ok (.getfield 235, 3) := by decide +kernel
theorem sX9_seeks_11 : ab_X rom K cX9_seeks 7 2 11 ls (.ref a :: st) hp = (ab_fld hp a 7 17).bind (fun v => ab_X rom K cX9_seeks 7 2 14 ls (v :: st) hp) := ax_getfield dX9_seeks_11 kf_7_235 rfl
theorem dX9_seeks_14 : decode cX9_seeks 14 = .ok (.if_icmp .ge 44, 3) := by decide +kernel
theorem sX9_seeks_14 : ab_X rom K cX9_seeks 7 2 14 ls (.int y :: .int x :: st) hp = if x < y then ab_X rom K cX9_seeks 7 2 17 ls st hp else ab_X rom K cX9_seeks 7 2 58 ls st hp := ax_icmp_ge dX9_seeks_14 (by decide) rfl
theorem dX9_seeks_17 : decode cX9_seeks 17 = .ok (.aload_n 0, 1) := by decide +kernel
theorem sX9_seeks_17 : ab_X rom K cX9_seeks 7 2 17 (.ref a :: ls) st hp = ab_X rom K cX9_seeks 7 2 18 (.ref a :: ls) (.ref a :: st) hp := ax_aload_n dX9_seeks_17 rfl rfl
theorem dX9_seeks_18 : decode cX9_seeks 18 = .ok (.getfield 35, 3) := by decide +kernel
theorem sX9_seeks_18 : ab_X rom K cX9_seeks 7 2 18 ls (.ref a :: st) hp = (ab_fld hp a 7 19).bind (fun v => ab_X rom K cX9_seeks 7 2 21 ls (v :: st) hp) := ax_getfield dX9_seeks_18 kf_7_35 rfl
theorem dX9_seeks_21 : decode cX9_seeks 21 = .ok (.iload 5, 2) := by decide +kernel
theorem sX9_seeks_21 : ab_X rom K cX9_seeks 7 2 21 (v0 :: v1 :: v2 :: v3 :: v4 :: .int x :: ls) st hp = ab_X rom K cX9_seeks 7 2 23 (v0 :: v1 :: v2 :: v3 :: v4 :: .int x :: ls) (.int x :: st) hp := ax_iload dX9_seeks_21 rfl rfl
theorem dX9_seeks_23 : decode cX9_seeks 23 = .ok (.iload_n 3, 1) := by decide +kernel
theorem sX9_seeks_23 : ab_X rom K cX9_seeks 7 2 23 (v0 :: v1 :: v2 :: .int x :: ls) st hp = ab_X rom K cX9_seeks 7 2 24 (v0 :: v1 :: v2 :: .int x :: ls) (.int x :: st) hp := ax_iload_n dX9_seeks_23 rfl rfl
theorem dX9_seeks_24 : decode cX9_seeks 24 = .ok (.iload 5, 2) := by decide +kernel
theorem sX9_seeks_24 : ab_X rom K cX9_seeks 7 2 24 (v0 :: v1 :: v2 :: v3 :: v4 :: .int x :: ls) st hp = ab_X rom K cX9_seeks 7 2 26 (v0 :: v1 :: v2 :: v3 :: v4 :: .int x :: ls) (.int x :: st) hp := ax_iload dX9_seeks_24 rfl rfl
theorem dX9_seeks_26 : decode cX9_seeks 26 = .ok (.invokestatic 77, 3) := by decide +kernel
theorem sX9_seeks_26_0 : ab_X rom K cX9_seeks 7 2 26 ls [w2, w1] hp = (K 156 [w1, w2] hp).bind (fun o => ab_X rom K cX9_seeks 7 2 29 ls (o.1.toList ++ []) o.2) := ax_static (as := [w1, w2]) (st := []) dX9_seeks_26 kc_7_77 rfl rfl (Nat.le_of_ble_eq_true rfl)
theorem sX9_seeks_26_1 : ab_X rom K cX9_seeks 7 2 26 ls [w2, w1, v0] hp = (K 156 [w1, w2] hp).bind (fun o => ab_X rom K cX9_seeks 7 2 29 ls (o.1.toList ++ [v0]) o.2) := ax_static (as := [w1, w2]) (st := [v0]) dX9_seeks_26 kc_7_77 rfl rfl (Nat.le_of_ble_eq_true rfl)
theorem sX9_seeks_26_2 : ab_X rom K cX9_seeks 7 2 26 ls [w2, w1, v0, v1] hp = (K 156 [w1, w2] hp).bind (fun o => ab_X rom K cX9_seeks 7 2 29 ls (o.1.toList ++ [v0, v1]) o.2) := ax_static (as := [w1, w2]) (st := [v0, v1]) dX9_seeks_26 kc_7_77 rfl rfl (Nat.le_of_ble_eq_true rfl)
theorem sX9_seeks_26_3 : ab_X rom K cX9_seeks 7 2 26 ls [w2, w1, v0, v1, v2] hp = (K 156 [w1, w2] hp).bind (fun o => ab_X rom K cX9_seeks 7 2 29 ls (o.1.toList ++ [v0, v1, v2]) o.2) := ax_static (as := [w1, w2]) (st := [v0, v1, v2]) dX9_seeks_26 kc_7_77 rfl rfl (Nat.le_of_ble_eq_true rfl)
theorem dX9_seeks_29 : decode cX9_seeks 29 = .ok (.ifCond .eq 13, 3) := by decide +kernel
theorem sX9_seeks_29 : ab_X rom K cX9_seeks 7 2 29 ls (.int x :: st) hp = if x = 0 then ab_X rom K cX9_seeks 7 2 42 ls st hp else ab_X rom K cX9_seeks 7 2 32 ls st hp := ax_if_eq dX9_seeks_29 (by decide) rfl
theorem dX9_seeks_32 : decode cX9_seeks 32 = .ok (.aload_n 0, 1) := by decide +kernel
theorem sX9_seeks_32 : ab_X rom K cX9_seeks 7 2 32 (.ref a :: ls) st hp = ab_X rom K cX9_seeks 7 2 33 (.ref a :: ls) (.ref a :: st) hp := ax_aload_n dX9_seeks_32 rfl rfl
theorem dX9_seeks_33 : decode cX9_seeks 33 = .ok (.iload_n 1, 1) := by decide +kernel
theorem sX9_seeks_33 : ab_X rom K cX9_seeks 7 2 33 (v0 :: .int x :: ls) st hp = ab_X rom K cX9_seeks 7 2 34 (v0 :: .int x :: ls) (.int x :: st) hp := ax_iload_n dX9_seeks_33 rfl rfl
theorem dX9_seeks_34 : decode cX9_seeks 34 = .ok (.iload 5, 2) := by decide +kernel
theorem sX9_seeks_34 : ab_X rom K cX9_seeks 7 2 34 (v0 :: v1 :: v2 :: v3 :: v4 :: .int x :: ls) st hp = ab_X rom K cX9_seeks 7 2 36 (v0 :: v1 :: v2 :: v3 :: v4 :: .int x :: ls) (.int x :: st) hp := ax_iload dX9_seeks_34 rfl rfl
theorem dX9_seeks_36 : decode cX9_seeks 36 = .ok (.invokevirtual 168, 3) := by decide +kernel
theorem sX9_seeks_36_0 : ab_X rom K cX9_seeks 7 2 36 ls [w2, w1, .ref a] hp = if ab_iso hp a 7 = true then (K 183 (.ref a :: [w1, w2]) hp).bind (fun o => ab_X rom K cX9_seeks 7 2 39 ls (o.1.toList ++ []) o.2) else none := ay_virtual (as := [w1, w2]) (st := []) dX9_seeks_36 kc_7_168 rfl rfl (Nat.le_of_ble_eq_true rfl)
theorem sX9_seeks_36_1 : ab_X rom K cX9_seeks 7 2 36 ls [w2, w1, .ref a, v0] hp = if ab_iso hp a 7 = true then (K 183 (.ref a :: [w1, w2]) hp).bind (fun o => ab_X rom K cX9_seeks 7 2 39 ls (o.1.toList ++ [v0]) o.2) else none := ay_virtual (as := [w1, w2]) (st := [v0]) dX9_seeks_36 kc_7_168 rfl rfl (Nat.le_of_ble_eq_true rfl)
theorem sX9_seeks_36_2 : ab_X rom K cX9_seeks 7 2 36 ls [w2, w1, .ref a, v0, v1] hp = if ab_iso hp a 7 = true then (K 183 (.ref a :: [w1, w2]) hp).bind (fun o => ab_X rom K cX9_seeks 7 2 39 ls (o.1.toList ++ [v0, v1]) o.2) else none := ay_virtual (as := [w1, w2]) (st := [v0, v1]) dX9_seeks_36 kc_7_168 rfl rfl (Nat.le_of_ble_eq_true rfl)
theorem sX9_seeks_36_3 : ab_X rom K cX9_seeks 7 2 36 ls [w2, w1, .ref a, v0, v1, v2] hp = if ab_iso hp a 7 = true then (K 183 (.ref a :: [w1, w2]) hp).bind (fun o => ab_X rom K cX9_seeks 7 2 39 ls (o.1.toList ++ [v0, v1, v2]) o.2) else none := ay_virtual (as := [w1, w2]) (st := [v0, v1, v2]) dX9_seeks_36 kc_7_168 rfl rfl (Nat.le_of_ble_eq_true rfl)
theorem dX9_seeks_39 : decode cX9_seeks 39 = .ok (.goto 4, 3) := by decide +kernel
theorem sX9_seeks_39 : ab_X rom K cX9_seeks 7 2 39 ls st hp = ab_X rom K cX9_seeks 7 2 43 ls st hp := ax_goto dX9_seeks_39 (by decide)
theorem dX9_seeks_42 : decode cX9_seeks 42 = .ok (.iconst (-1), 1) := by decide +kernel
theorem sX9_seeks_42 : ab_X rom K cX9_seeks 7 2 42 ls st hp = ab_X rom K cX9_seeks 7 2 43 ls (.int (-1) :: st) hp := ax_iconst dX9_seeks_42 (by decide) rfl
theorem dX9_seeks_43 : decode cX9_seeks 43 = .ok (.iastore, 1) := by decide +kernel
theorem sX9_seeks_43 : ab_X rom K cX9_seeks 7 2 43 ls (.int y :: .int x :: .ref a :: st) hp = (ab_awr 0 hp a x y).bind (fun hp' => ab_X rom K cX9_seeks 7 2 44 ls st hp') := ax_iastore dX9_seeks_43 rfl
theorem dX9_seeks_44 : decode cX9_seeks 44 = .ok (.aload_n 0, 1) := by decide +kernel
theorem sX9_seeks_44 : ab_X rom K cX9_seeks 7 2 44 (.ref a :: ls) st hp = ab_X rom K cX9_seeks 7 2 45 (.ref a :: ls) (.ref a :: st) hp := ax_aload_n dX9_seeks_44 rfl rfl
theorem dX9_seeks_45 : decode cX9_seeks 45 = .ok (.getfield 38, 3) := by decide +kernel
theorem sX9_seeks_45 : ab_X rom K cX9_seeks 7 2 45 ls (.ref a :: st) hp = (ab_fld hp a 7 20).bind (fun v => ab_X rom K cX9_seeks 7 2 48 ls (v :: st) hp) := ax_getfield dX9_seeks_45 kf_7_38 rfl
theorem dX9_seeks_48 : decode cX9_seeks 48 = .ok (.iload 5, 2) := by decide +kernel
theorem sX9_seeks_48 : ab_X rom K cX9_seeks 7 2 48 (v0 :: v1 :: v2 :: v3 :: v4 :: .int x :: ls) st hp = ab_X rom K cX9_seeks 7 2 50 (v0 :: v1 :: v2 :: v3 :: v4 :: .int x :: ls) (.int x :: st) hp := ax_iload dX9_seeks_48 rfl rfl
theorem dX9_seeks_50 : decode cX9_seeks 50 = .ok (.iconst 0, 1) := by decide +kernel
theorem sX9_seeks_50 : ab_X rom K cX9_seeks 7 2 50 ls st hp = ab_X rom K cX9_seeks 7 2 51 ls (.int 0 :: st) hp := ax_iconst dX9_seeks_50 (by decide) rfl
theorem dX9_seeks_51 : decode cX9_seeks 51 = .ok (.iastore, 1) := by decide +kernel
theorem sX9_seeks_51 : ab_X rom K cX9_seeks 7 2 51 ls (.int y :: .int x :: .ref a :: st) hp = (ab_awr 0 hp a x y).bind (fun hp' => ab_X rom K cX9_seeks 7 2 52 ls st hp') := ax_iastore dX9_seeks_51 rfl
theorem dX9_seeks_52 : decode cX9_seeks 52 = .ok (.iinc 5 1, 3) := by decide +kernel
theorem sX9_seeks_52i : ab_X rom K cX9_seeks 7 2 52 (v0 :: v1 :: v2 :: v3 :: .int y :: .int x :: ls) st hp = ab_X rom K cX9_seeks 7 2 55 (v0 :: v1 :: v2 :: v3 :: .int y :: .int (x + 1) :: ls) st hp := ax_iinc dX9_seeks_52 rfl (ab_nl_c1 (j := 4) (v := .int y) rfl (ab_c1_int _)) (by decide) rfl rfl
theorem sX9_seeks_52r : ab_X rom K cX9_seeks 7 2 52 (v0 :: v1 :: v2 :: v3 :: .ref a2 :: .int x :: ls) st hp = ab_X rom K cX9_seeks 7 2 55 (v0 :: v1 :: v2 :: v3 :: .ref a2 :: .int (x + 1) :: ls) st hp := ax_iinc dX9_seeks_52 rfl (ab_nl_c1 (j := 4) (v := .ref a2) rfl (ab_c1_ref _)) (by decide) rfl rfl
theorem sX9_seeks_52n : ab_X rom K cX9_seeks 7 2 52 (v0 :: v1 :: v2 :: v3 :: .null :: .int x :: ls) st hp = ab_X rom K cX9_seeks 7 2 55 (v0 :: v1 :: v2 :: v3 :: .null :: .int (x + 1) :: ls) st hp := ax_iinc dX9_seeks_52 rfl (ab_nl_c1 (j := 4) (v := .null) rfl ab_c1_null) (by decide) rfl rfl
theorem dX9_seeks_55 : decode cX9_seeks 55 = .ok (.goto (-47), 3) := by decide +kernel
theorem sX9_seeks_55 : ab_X rom K cX9_seeks 7 2 55 ls st hp = ab_X rom K cX9_seeks 7 2 8 ls st hp := ax_goto dX9_seeks_55 (by decide)
theorem dX9_seeks_58 : decode cX9_seeks 58 = .ok (.aload_n 0, 1) := by decide +kernel
theorem sX9_seeks_58 : ab_X rom K cX9_seeks 7 2 58 (.ref a :: ls) st hp = ab_X rom K cX9_seeks 7 2 59 (.ref a :: ls) (.ref a :: st) hp := ax_aload_n dX9_seeks_58 rfl rfl
theorem dX9_seeks_59 : decode cX9_seeks 59 = .ok (.iconst 0, 1) := by decide +kernel
theorem sX9_seeks_59 : ab_X rom K cX9_seeks 7 2 59 ls st hp = ab_X rom K cX9_seeks 7 2 60 ls (.int 0 :: st) hp := ax_iconst dX9_seeks_59 (by decide) rfl
theorem dX9_seeks_60 : decode cX9_seeks 60 = .ok (.putfield 293, 3) := by decide +kernel
theorem sX9_seeks_60 : ab_X rom K cX9_seeks 7 2 60 ls (.int x :: .ref a :: st) hp = (ab_fpt hp a 7 21 (.int x)).bind (fun hp' => ab_X rom K cX9_seeks 7 2 63 ls st hp') := ax_putfield dX9_seeks_60 kf_7_293 rfl (Or.inl rfl) rfl
theorem dX9_seeks_63 : decode cX9_seeks 63 = .ok (.aload_n 0, 1) := by decide +kernel
theorem sX9_seeks_63 : ab_X rom K cX9_seeks 7 2 63 (.ref a :: ls) st hp = ab_X rom K cX9_seeks 7 2 64 (.ref a :: ls) (.ref a :: st) hp := ax_aload_n dX9_seeks_63 rfl rfl
theorem dX9_seeks_64 : decode cX9_seeks 64 = .ok (.iload 4, 2) := by decide +kernel
theorem sX9_seeks_64 : ab_X rom K cX9_seeks 7 2 64 (v0 :: v1 :: v2 :: v3 :: .int x :: ls) st hp = ab_X rom K cX9_seeks 7 2 66 (v0 :: v1 :: v2 :: v3 :: .int x :: ls) (.int x :: st) hp := ax_iload dX9_seeks_64 rfl rfl
theorem dX9_seeks_66 : decode cX9_seeks 66 = .ok (.putfield 296, 3) := by decide +kernel
theorem sX9_seeks_66 : ab_X rom K cX9_seeks 7 2 66 ls (.int x :: .ref a :: st) hp = (ab_fpt hp a 7 22 (.int x)).bind (fun hp' => ab_X rom K cX9_seeks 7 2 69 ls st hp') := ax_putfield dX9_seeks_66 kf_7_296 rfl (Or.inl rfl) rfl
theorem dX9_seeks_69 : decode cX9_seeks 69 = .ok (.aload_n 0, 1) := by decide +kernel
theorem sX9_seeks_69 : ab_X rom K cX9_seeks 7 2 69 (.ref a :: ls) st hp = ab_X rom K cX9_seeks 7 2 70 (.ref a :: ls) (.ref a :: st) hp := ax_aload_n dX9_seeks_69 rfl rfl
theorem dX9_seeks_70 : decode cX9_seeks 70 = .ok (.iconst 0, 1) := by decide +kernel
theorem sX9_seeks_70 : ab_X rom K cX9_seeks 7 2 70 ls st hp = ab_X rom K cX9_seeks 7 2 71 ls (.int 0 :: st) hp := ax_iconst dX9_seeks_70 (by decide) rfl
theorem dX9_seeks_71 : decode cX9_seeks 71 = .ok (.putfield 287, 3) := by decide +kernel
theorem sX9_seeks_71 : ab_X rom K cX9_seeks 7 2 71 ls (.int x :: .ref a :: st) hp = (ab_fpt hp a 7 23 (.int x)).bind (fun hp' => ab_X rom K cX9_seeks 7 2 74 ls st hp') := ax_putfield dX9_seeks_71 kf_7_287 rfl (Or.inl rfl) rfl
theorem dX9_seeks_74 : decode cX9_seeks 74 = .ok (.aload_n 0, 1) := by decide +kernel
theorem sX9_seeks_74 : ab_X rom K cX9_seeks 7 2 74 (.ref a :: ls) st hp = ab_X rom K cX9_seeks 7 2 75 (.ref a :: ls) (.ref a :: st) hp := ax_aload_n dX9_seeks_74 rfl rfl
theorem dX9_seeks_75 : decode cX9_seeks 75 = .ok (.iload_n 2, 1) := by decide +kernel
theorem sX9_seeks_75 : ab_X rom K cX9_seeks 7 2 75 (v0 :: v1 :: .int x :: ls) st hp = ab_X rom K cX9_seeks 7 2 76 (v0 :: v1 :: .int x :: ls) (.int x :: st) hp := ax_iload_n dX9_seeks_75 rfl rfl
theorem dX9_seeks_76 : decode cX9_seeks 76 = .ok (.iconst 0, 1) := by decide +kernel
theorem sX9_seeks_76 : ab_X rom K cX9_seeks 7 2 76 ls st hp = ab_X rom K cX9_seeks 7 2 77 ls (.int 0 :: st) hp := ax_iconst dX9_seeks_76 (by decide) rfl
theorem dX9_seeks_77 : decode cX9_seeks 77 = .ok (.invokevirtual 299, 3) := by decide +kernel
theorem sX9_seeks_77_0 : ab_X rom K cX9_seeks 7 2 77 ls [w2, w1, .ref a] hp = if ab_iso hp a 7 = true then (K 154 (.ref a :: [w1, w2]) hp).bind (fun o => ab_X rom K cX9_seeks 7 2 80 ls (o.1.toList ++ []) o.2) else none := ay_virtual (as := [w1, w2]) (st := []) dX9_seeks_77 kc_7_299 rfl rfl (Nat.le_of_ble_eq_true rfl)
theorem sX9_seeks_77_1 : ab_X rom K cX9_seeks 7 2 77 ls [w2, w1, .ref a, v0] hp = if ab_iso hp a 7 = true then (K 154 (.ref a :: [w1, w2]) hp).bind (fun o => ab_X rom K cX9_seeks 7 2 80 ls (o.1.toList ++ [v0]) o.2) else none := ay_virtual (as := [w1, w2]) (st := [v0]) dX9_seeks_77 kc_7_299 rfl rfl (Nat.le_of_ble_eq_true rfl)
theorem sX9_seeks_77_2 : ab_X rom K cX9_seeks 7 2 77 ls [w2, w1, .ref a, v0, v1] hp = if ab_iso hp a 7 = true then (K 154 (.ref a :: [w1, w2]) hp).bind (fun o => ab_X rom K cX9_seeks 7 2 80 ls (o.1.toList ++ [v0, v1]) o.2) else none := ay_virtual (as := [w1, w2]) (st := [v0, v1]) dX9_seeks_77 kc_7_299 rfl rfl (Nat.le_of_ble_eq_true rfl)
theorem sX9_seeks_77_3 : ab_X rom K cX9_seeks 7 2 77 ls [w2, w1, .ref a, v0, v1, v2] hp = if ab_iso hp a 7 = true then (K 154 (.ref a :: [w1, w2]) hp).bind (fun o => ab_X rom K cX9_seeks 7 2 80 ls (o.1.toList ++ [v0, v1, v2]) o.2) else none := ay_virtual (as := [w1, w2]) (st := [v0, v1, v2]) dX9_seeks_77 kc_7_299 rfl rfl (Nat.le_of_ble_eq_true rfl)
theorem dX9_seeks_80 : decode cX9_seeks 80 = .ok (.ireturn, 1) := by decide +kernel
theorem sX9_seeks_80 : ab_X rom K cX9_seeks 7 2 80 ls [.int x] hp = if x = 0 ∨ x = 1 then some (some (.int x), hp) else none := ay_zret dX9_seeks_80 rfl
theorem tX9_seen : ab_mT[222]? = some (yX9_seen, cX9_seen, 7, 1, 7) := by decide +kernel
theorem mX9_seen {d : Nat} {a0 : Nat} {x0 : Int32} {x1 : Int32} : ab_M rom (d + 1) 222 [.ref a0, .int x0, .int x1] hp = ab_X rom (ab_M rom d) cX9_seen 7 1 0 [.ref a0, .int x0, .int x1, .null, .null, .null, .null] [] hp := ab_M_eq tX9_seen (Nat.le_of_ble_eq_true rfl)
theorem dX9_seen_0 : decode cX9_seen 0 = .ok (.aload_n 0, 1) := by decide +kernel
theorem sX9_seen_0 : ab_X rom K cX9_seen 7 1 0 (.ref a :: ls) st hp = ab_X rom K cX9_seen 7 1 1 (.ref a :: ls) (.ref a :: st) hp := ax_aload_n dX9_seen_0 rfl rfl
theorem dX9_seen_1 : decode cX9_seen 1 = .ok (.iload_n 1, 1) := by decide +kernel
theorem sX9_seen_1 : ab_X rom K cX9_seen 7 1 1 (v0 :: .int x :: ls) st hp = ab_X rom K cX9_seen 7 1 2 (v0 :: .int x :: ls) (.int x :: st) hp := ax_iload_n dX9_seen_1 rfl rfl
theorem dX9_seen_2 : decode cX9_seen 2 = .ok (.invokevirtual 68, 3) := by decide +kernel
theorem sX9_seen_2_0 : ab_X rom K cX9_seen 7 1 2 ls [w1, .ref a] hp = if ab_iso hp a 7 = true then (K 171 (.ref a :: [w1]) hp).bind (fun o => ab_X rom K cX9_seen 7 1 5 ls (o.1.toList ++ []) o.2) else none := ay_virtual (as := [w1]) (st := []) dX9_seen_2 kc_7_68 rfl rfl (Nat.le_of_ble_eq_true rfl)
theorem sX9_seen_2_1 : ab_X rom K cX9_seen 7 1 2 ls [w1, .ref a, v0] hp = if ab_iso hp a 7 = true then (K 171 (.ref a :: [w1]) hp).bind (fun o => ab_X rom K cX9_seen 7 1 5 ls (o.1.toList ++ [v0]) o.2) else none := ay_virtual (as := [w1]) (st := [v0]) dX9_seen_2 kc_7_68 rfl rfl (Nat.le_of_ble_eq_true rfl)
theorem sX9_seen_2_2 : ab_X rom K cX9_seen 7 1 2 ls [w1, .ref a, v0, v1] hp = if ab_iso hp a 7 = true then (K 171 (.ref a :: [w1]) hp).bind (fun o => ab_X rom K cX9_seen 7 1 5 ls (o.1.toList ++ [v0, v1]) o.2) else none := ay_virtual (as := [w1]) (st := [v0, v1]) dX9_seen_2 kc_7_68 rfl rfl (Nat.le_of_ble_eq_true rfl)
theorem sX9_seen_2_3 : ab_X rom K cX9_seen 7 1 2 ls [w1, .ref a, v0, v1, v2] hp = if ab_iso hp a 7 = true then (K 171 (.ref a :: [w1]) hp).bind (fun o => ab_X rom K cX9_seen 7 1 5 ls (o.1.toList ++ [v0, v1, v2]) o.2) else none := ay_virtual (as := [w1]) (st := [v0, v1, v2]) dX9_seen_2 kc_7_68 rfl rfl (Nat.le_of_ble_eq_true rfl)
theorem dX9_seen_5 : decode cX9_seen 5 = .ok (.ifCond .eq 13, 3) := by decide +kernel
theorem sX9_seen_5 : ab_X rom K cX9_seen 7 1 5 ls (.int x :: st) hp = if x = 0 then ab_X rom K cX9_seen 7 1 18 ls st hp else ab_X rom K cX9_seen 7 1 8 ls st hp := ax_if_eq dX9_seen_5 (by decide) rfl
theorem dX9_seen_8 : decode cX9_seen 8 = .ok (.iload_n 2, 1) := by decide +kernel
theorem sX9_seen_8 : ab_X rom K cX9_seen 7 1 8 (v0 :: v1 :: .int x :: ls) st hp = ab_X rom K cX9_seen 7 1 9 (v0 :: v1 :: .int x :: ls) (.int x :: st) hp := ax_iload_n dX9_seen_8 rfl rfl
theorem dX9_seen_9 : decode cX9_seen 9 = .ok (.i2l, 1) := by decide +kernel
theorem sX9_seen_9 : ab_X rom K cX9_seen 7 1 9 ls (.int x :: st) hp = ab_X rom K cX9_seen 7 1 10 ls (.long x.toInt64 :: st) hp := ax_i2l dX9_seen_9 rfl
theorem dX9_seen_10 : decode cX9_seen 10 = .ok (.lconst 0, 1) := by decide +kernel
theorem sX9_seen_10 : ab_X rom K cX9_seen 7 1 10 ls st hp = ab_X rom K cX9_seen 7 1 11 ls (.long 0 :: st) hp := ax_lconst dX9_seen_10 (by decide) rfl
theorem dX9_seen_11 : decode cX9_seen 11 = .ok (.lconst 1, 1) := by decide +kernel
theorem sX9_seen_11 : ab_X rom K cX9_seen 7 1 11 ls st hp = ab_X rom K cX9_seen 7 1 12 ls (.long 1 :: st) hp := ax_lconst dX9_seen_11 (by decide) rfl
theorem dX9_seen_12 : decode cX9_seen 12 = .ok (.invokestatic 56, 3) := by decide +kernel
theorem sX9_seen_12_0 : ab_X rom K cX9_seen 7 1 12 ls [w3, w2, w1] hp = (K 159 [w1, w2, w3] hp).bind (fun o => ab_X rom K cX9_seen 7 1 15 ls (o.1.toList ++ []) o.2) := ax_static (as := [w1, w2, w3]) (st := []) dX9_seen_12 kc_7_56 rfl rfl (Nat.le_of_ble_eq_true rfl)
theorem sX9_seen_12_1 : ab_X rom K cX9_seen 7 1 12 ls [w3, w2, w1, v0] hp = (K 159 [w1, w2, w3] hp).bind (fun o => ab_X rom K cX9_seen 7 1 15 ls (o.1.toList ++ [v0]) o.2) := ax_static (as := [w1, w2, w3]) (st := [v0]) dX9_seen_12 kc_7_56 rfl rfl (Nat.le_of_ble_eq_true rfl)
theorem sX9_seen_12_2 : ab_X rom K cX9_seen 7 1 12 ls [w3, w2, w1, v0, v1] hp = (K 159 [w1, w2, w3] hp).bind (fun o => ab_X rom K cX9_seen 7 1 15 ls (o.1.toList ++ [v0, v1]) o.2) := ax_static (as := [w1, w2, w3]) (st := [v0, v1]) dX9_seen_12 kc_7_56 rfl rfl (Nat.le_of_ble_eq_true rfl)
theorem sX9_seen_12_3 : ab_X rom K cX9_seen 7 1 12 ls [w3, w2, w1, v0, v1, v2] hp = (K 159 [w1, w2, w3] hp).bind (fun o => ab_X rom K cX9_seen 7 1 15 ls (o.1.toList ++ [v0, v1, v2]) o.2) := ax_static (as := [w1, w2, w3]) (st := [v0, v1, v2]) dX9_seen_12 kc_7_56 rfl rfl (Nat.le_of_ble_eq_true rfl)
theorem dX9_seen_15 : decode cX9_seen 15 = .ok (.ifCond .ne 6, 3) := by decide +kernel
theorem sX9_seen_15 : ab_X rom K cX9_seen 7 1 15 ls (.int x :: st) hp = if x = 0 then ab_X rom K cX9_seen 7 1 18 ls st hp else ab_X rom K cX9_seen 7 1 21 ls st hp := ax_if_ne dX9_seen_15 (by decide) rfl
theorem dX9_seen_18 : decode cX9_seen 18 = .ok (.bipush (-2), 2) := by decide +kernel
theorem sX9_seen_18 : ab_X rom K cX9_seen 7 1 18 ls st hp = ab_X rom K cX9_seen 7 1 20 ls (.int (-2) :: st) hp := ax_bipush dX9_seen_18 (by decide) rfl
theorem dX9_seen_20 : decode cX9_seen 20 = .ok (.ireturn, 1) := by decide +kernel
theorem sX9_seen_20 : ab_X rom K cX9_seen 7 1 20 ls [.int x] hp = some (some (.int x), hp) := ax_iret dX9_seen_20 rfl
theorem dX9_seen_21 : decode cX9_seen 21 = .ok (.iconst 0, 1) := by decide +kernel
theorem sX9_seen_21 : ab_X rom K cX9_seen 7 1 21 ls st hp = ab_X rom K cX9_seen 7 1 22 ls (.int 0 :: st) hp := ax_iconst dX9_seen_21 (by decide) rfl
theorem dX9_seen_22 : decode cX9_seen 22 = .ok (.istore_n 3, 1) := by decide +kernel
theorem sX9_seen_22i : ab_X rom K cX9_seen 7 1 22 (v0 :: v1 :: .int y :: v3 :: ls) (.int x :: st) hp = ab_X rom K cX9_seen 7 1 23 (v0 :: v1 :: .int y :: .int x :: ls) st hp := ax_istore_n dX9_seen_22 (ax_lt (v := v3) rfl) (ab_nl_c1 (j := 2) (v := .int y) rfl (ab_c1_int _)) rfl rfl
theorem sX9_seen_22r : ab_X rom K cX9_seen 7 1 22 (v0 :: v1 :: .ref a2 :: v3 :: ls) (.int x :: st) hp = ab_X rom K cX9_seen 7 1 23 (v0 :: v1 :: .ref a2 :: .int x :: ls) st hp := ax_istore_n dX9_seen_22 (ax_lt (v := v3) rfl) (ab_nl_c1 (j := 2) (v := .ref a2) rfl (ab_c1_ref _)) rfl rfl
theorem sX9_seen_22n : ab_X rom K cX9_seen 7 1 22 (v0 :: v1 :: .null :: v3 :: ls) (.int x :: st) hp = ab_X rom K cX9_seen 7 1 23 (v0 :: v1 :: .null :: .int x :: ls) st hp := ax_istore_n dX9_seen_22 (ax_lt (v := v3) rfl) (ab_nl_c1 (j := 2) (v := .null) rfl ab_c1_null) rfl rfl
theorem dX9_seen_23 : decode cX9_seen 23 = .ok (.iconst 0, 1) := by decide +kernel
theorem sX9_seen_23 : ab_X rom K cX9_seen 7 1 23 ls st hp = ab_X rom K cX9_seen 7 1 24 ls (.int 0 :: st) hp := ax_iconst dX9_seen_23 (by decide) rfl
theorem dX9_seen_24 : decode cX9_seen 24 = .ok (.istore 4, 2) := by decide +kernel
theorem sX9_seen_24i : ab_X rom K cX9_seen 7 1 24 (v0 :: v1 :: v2 :: .int y :: v4 :: ls) (.int x :: st) hp = ab_X rom K cX9_seen 7 1 26 (v0 :: v1 :: v2 :: .int y :: .int x :: ls) st hp := ax_istore dX9_seen_24 (ax_lt (v := v4) rfl) (ab_nl_c1 (j := 3) (v := .int y) rfl (ab_c1_int _)) rfl rfl
theorem sX9_seen_24r : ab_X rom K cX9_seen 7 1 24 (v0 :: v1 :: v2 :: .ref a2 :: v4 :: ls) (.int x :: st) hp = ab_X rom K cX9_seen 7 1 26 (v0 :: v1 :: v2 :: .ref a2 :: .int x :: ls) st hp := ax_istore dX9_seen_24 (ax_lt (v := v4) rfl) (ab_nl_c1 (j := 3) (v := .ref a2) rfl (ab_c1_ref _)) rfl rfl
theorem sX9_seen_24n : ab_X rom K cX9_seen 7 1 24 (v0 :: v1 :: v2 :: .null :: v4 :: ls) (.int x :: st) hp = ab_X rom K cX9_seen 7 1 26 (v0 :: v1 :: v2 :: .null :: .int x :: ls) st hp := ax_istore dX9_seen_24 (ax_lt (v := v4) rfl) (ab_nl_c1 (j := 3) (v := .null) rfl ab_c1_null) rfl rfl
theorem dX9_seen_26 : decode cX9_seen 26 = .ok (.aload_n 0, 1) := by decide +kernel
theorem sX9_seen_26 : ab_X rom K cX9_seen 7 1 26 (.ref a :: ls) st hp = ab_X rom K cX9_seen 7 1 27 (.ref a :: ls) (.ref a :: st) hp := ax_aload_n dX9_seen_26 rfl rfl
theorem dX9_seen_27 : decode cX9_seen 27 = .ok (.iload_n 1, 1) := by decide +kernel
theorem sX9_seen_27 : ab_X rom K cX9_seen 7 1 27 (v0 :: .int x :: ls) st hp = ab_X rom K cX9_seen 7 1 28 (v0 :: .int x :: ls) (.int x :: st) hp := ax_iload_n dX9_seen_27 rfl rfl
theorem dX9_seen_28 : decode cX9_seen 28 = .ok (.invokevirtual 213, 3) := by decide +kernel
theorem sX9_seen_28_0 : ab_X rom K cX9_seen 7 1 28 ls [w1, .ref a] hp = if ab_iso hp a 7 = true then (K 185 (.ref a :: [w1]) hp).bind (fun o => ab_X rom K cX9_seen 7 1 31 ls (o.1.toList ++ []) o.2) else none := ay_virtual (as := [w1]) (st := []) dX9_seen_28 kc_7_213 rfl rfl (Nat.le_of_ble_eq_true rfl)
theorem sX9_seen_28_1 : ab_X rom K cX9_seen 7 1 28 ls [w1, .ref a, v0] hp = if ab_iso hp a 7 = true then (K 185 (.ref a :: [w1]) hp).bind (fun o => ab_X rom K cX9_seen 7 1 31 ls (o.1.toList ++ [v0]) o.2) else none := ay_virtual (as := [w1]) (st := [v0]) dX9_seen_28 kc_7_213 rfl rfl (Nat.le_of_ble_eq_true rfl)
theorem sX9_seen_28_2 : ab_X rom K cX9_seen 7 1 28 ls [w1, .ref a, v0, v1] hp = if ab_iso hp a 7 = true then (K 185 (.ref a :: [w1]) hp).bind (fun o => ab_X rom K cX9_seen 7 1 31 ls (o.1.toList ++ [v0, v1]) o.2) else none := ay_virtual (as := [w1]) (st := [v0, v1]) dX9_seen_28 kc_7_213 rfl rfl (Nat.le_of_ble_eq_true rfl)
theorem sX9_seen_28_3 : ab_X rom K cX9_seen 7 1 28 ls [w1, .ref a, v0, v1, v2] hp = if ab_iso hp a 7 = true then (K 185 (.ref a :: [w1]) hp).bind (fun o => ab_X rom K cX9_seen 7 1 31 ls (o.1.toList ++ [v0, v1, v2]) o.2) else none := ay_virtual (as := [w1]) (st := [v0, v1, v2]) dX9_seen_28 kc_7_213 rfl rfl (Nat.le_of_ble_eq_true rfl)
theorem dX9_seen_31 : decode cX9_seen 31 = .ok (.iconst 0, 1) := by decide +kernel
theorem sX9_seen_31 : ab_X rom K cX9_seen 7 1 31 ls st hp = ab_X rom K cX9_seen 7 1 32 ls (.int 0 :: st) hp := ax_iconst dX9_seen_31 (by decide) rfl
theorem dX9_seen_32 : decode cX9_seen 32 = .ok (.istore 5, 2) := by decide +kernel
theorem sX9_seen_32i : ab_X rom K cX9_seen 7 1 32 (v0 :: v1 :: v2 :: v3 :: .int y :: v5 :: ls) (.int x :: st) hp = ab_X rom K cX9_seen 7 1 34 (v0 :: v1 :: v2 :: v3 :: .int y :: .int x :: ls) st hp := ax_istore dX9_seen_32 (ax_lt (v := v5) rfl) (ab_nl_c1 (j := 4) (v := .int y) rfl (ab_c1_int _)) rfl rfl
theorem sX9_seen_32r : ab_X rom K cX9_seen 7 1 32 (v0 :: v1 :: v2 :: v3 :: .ref a2 :: v5 :: ls) (.int x :: st) hp = ab_X rom K cX9_seen 7 1 34 (v0 :: v1 :: v2 :: v3 :: .ref a2 :: .int x :: ls) st hp := ax_istore dX9_seen_32 (ax_lt (v := v5) rfl) (ab_nl_c1 (j := 4) (v := .ref a2) rfl (ab_c1_ref _)) rfl rfl
theorem sX9_seen_32n : ab_X rom K cX9_seen 7 1 32 (v0 :: v1 :: v2 :: v3 :: .null :: v5 :: ls) (.int x :: st) hp = ab_X rom K cX9_seen 7 1 34 (v0 :: v1 :: v2 :: v3 :: .null :: .int x :: ls) st hp := ax_istore dX9_seen_32 (ax_lt (v := v5) rfl) (ab_nl_c1 (j := 4) (v := .null) rfl ab_c1_null) rfl rfl
theorem dX9_seen_34 : decode cX9_seen 34 = .ok (.iload 5, 2) := by decide +kernel
theorem sX9_seen_34 : ab_X rom K cX9_seen 7 1 34 (v0 :: v1 :: v2 :: v3 :: v4 :: .int x :: ls) st hp = ab_X rom K cX9_seen 7 1 36 (v0 :: v1 :: v2 :: v3 :: v4 :: .int x :: ls) (.int x :: st) hp := ax_iload dX9_seen_34 rfl rfl
theorem dX9_seen_36 : decode cX9_seen 36 = .ok (.aload_n 0, 1) := by decide +kernel
theorem sX9_seen_36 : ab_X rom K cX9_seen 7 1 36 (.ref a :: ls) st hp = ab_X rom K cX9_seen 7 1 37 (.ref a :: ls) (.ref a :: st) hp := ax_aload_n dX9_seen_36 rfl rfl
theorem dX9_seen_37 : decode cX9_seen 37 = .ok (.getfield 210, 3) := by decide +kernel
theorem sX9_seen_37 : ab_X rom K cX9_seen 7 1 37 ls (.ref a :: st) hp = (ab_fld hp a 7 15).bind (fun v => ab_X rom K cX9_seen 7 1 40 ls (v :: st) hp) := ax_getfield dX9_seen_37 kf_7_210 rfl
theorem dX9_seen_40 : decode cX9_seen 40 = .ok (.if_icmp .ge 50, 3) := by decide +kernel
theorem sX9_seen_40 : ab_X rom K cX9_seen 7 1 40 ls (.int y :: .int x :: st) hp = if x < y then ab_X rom K cX9_seen 7 1 43 ls st hp else ab_X rom K cX9_seen 7 1 90 ls st hp := ax_icmp_ge dX9_seen_40 (by decide) rfl
theorem dX9_seen_43 : decode cX9_seen 43 = .ok (.aload_n 0, 1) := by decide +kernel
theorem sX9_seen_43 : ab_X rom K cX9_seen 7 1 43 (.ref a :: ls) st hp = ab_X rom K cX9_seen 7 1 44 (.ref a :: ls) (.ref a :: st) hp := ax_aload_n dX9_seen_43 rfl rfl
theorem dX9_seen_44 : decode cX9_seen 44 = .ok (.iload_n 1, 1) := by decide +kernel
theorem sX9_seen_44 : ab_X rom K cX9_seen 7 1 44 (v0 :: .int x :: ls) st hp = ab_X rom K cX9_seen 7 1 45 (v0 :: .int x :: ls) (.int x :: st) hp := ax_iload_n dX9_seen_44 rfl rfl
theorem dX9_seen_45 : decode cX9_seen 45 = .ok (.iload 5, 2) := by decide +kernel
theorem sX9_seen_45 : ab_X rom K cX9_seen 7 1 45 (v0 :: v1 :: v2 :: v3 :: v4 :: .int x :: ls) st hp = ab_X rom K cX9_seen 7 1 47 (v0 :: v1 :: v2 :: v3 :: v4 :: .int x :: ls) (.int x :: st) hp := ax_iload dX9_seen_45 rfl rfl
theorem dX9_seen_47 : decode cX9_seen 47 = .ok (.iconst 0, 1) := by decide +kernel
theorem sX9_seen_47 : ab_X rom K cX9_seen 7 1 47 ls st hp = ab_X rom K cX9_seen 7 1 48 ls (.int 0 :: st) hp := ax_iconst dX9_seen_47 (by decide) rfl
theorem dX9_seen_48 : decode cX9_seen 48 = .ok (.invokevirtual 229, 3) := by decide +kernel
theorem sX9_seen_48_0 : ab_X rom K cX9_seen 7 1 48 ls [w3, w2, w1, .ref a] hp = if ab_iso hp a 7 = true then (K 240 (.ref a :: [w1, w2, w3]) hp).bind (fun o => ab_X rom K cX9_seen 7 1 51 ls (o.1.toList ++ []) o.2) else none := ay_virtual (as := [w1, w2, w3]) (st := []) dX9_seen_48 kc_7_229 rfl rfl (Nat.le_of_ble_eq_true rfl)
theorem sX9_seen_48_1 : ab_X rom K cX9_seen 7 1 48 ls [w3, w2, w1, .ref a, v0] hp = if ab_iso hp a 7 = true then (K 240 (.ref a :: [w1, w2, w3]) hp).bind (fun o => ab_X rom K cX9_seen 7 1 51 ls (o.1.toList ++ [v0]) o.2) else none := ay_virtual (as := [w1, w2, w3]) (st := [v0]) dX9_seen_48 kc_7_229 rfl rfl (Nat.le_of_ble_eq_true rfl)
theorem sX9_seen_48_2 : ab_X rom K cX9_seen 7 1 48 ls [w3, w2, w1, .ref a, v0, v1] hp = if ab_iso hp a 7 = true then (K 240 (.ref a :: [w1, w2, w3]) hp).bind (fun o => ab_X rom K cX9_seen 7 1 51 ls (o.1.toList ++ [v0, v1]) o.2) else none := ay_virtual (as := [w1, w2, w3]) (st := [v0, v1]) dX9_seen_48 kc_7_229 rfl rfl (Nat.le_of_ble_eq_true rfl)
theorem sX9_seen_48_3 : ab_X rom K cX9_seen 7 1 48 ls [w3, w2, w1, .ref a, v0, v1, v2] hp = if ab_iso hp a 7 = true then (K 240 (.ref a :: [w1, w2, w3]) hp).bind (fun o => ab_X rom K cX9_seen 7 1 51 ls (o.1.toList ++ [v0, v1, v2]) o.2) else none := ay_virtual (as := [w1, w2, w3]) (st := [v0, v1, v2]) dX9_seen_48 kc_7_229 rfl rfl (Nat.le_of_ble_eq_true rfl)
theorem dX9_seen_51 : decode cX9_seen 51 = .ok (.istore 6, 2) := by decide +kernel
theorem sX9_seen_51i : ab_X rom K cX9_seen 7 1 51 (v0 :: v1 :: v2 :: v3 :: v4 :: .int y :: v6 :: ls) (.int x :: st) hp = ab_X rom K cX9_seen 7 1 53 (v0 :: v1 :: v2 :: v3 :: v4 :: .int y :: .int x :: ls) st hp := ax_istore dX9_seen_51 (ax_lt (v := v6) rfl) (ab_nl_c1 (j := 5) (v := .int y) rfl (ab_c1_int _)) rfl rfl
theorem sX9_seen_51r : ab_X rom K cX9_seen 7 1 51 (v0 :: v1 :: v2 :: v3 :: v4 :: .ref a2 :: v6 :: ls) (.int x :: st) hp = ab_X rom K cX9_seen 7 1 53 (v0 :: v1 :: v2 :: v3 :: v4 :: .ref a2 :: .int x :: ls) st hp := ax_istore dX9_seen_51 (ax_lt (v := v6) rfl) (ab_nl_c1 (j := 5) (v := .ref a2) rfl (ab_c1_ref _)) rfl rfl
theorem sX9_seen_51n : ab_X rom K cX9_seen 7 1 51 (v0 :: v1 :: v2 :: v3 :: v4 :: .null :: v6 :: ls) (.int x :: st) hp = ab_X rom K cX9_seen 7 1 53 (v0 :: v1 :: v2 :: v3 :: v4 :: .null :: .int x :: ls) st hp := ax_istore dX9_seen_51 (ax_lt (v := v6) rfl) (ab_nl_c1 (j := 5) (v := .null) rfl ab_c1_null) rfl rfl
theorem dX9_seen_53 : decode cX9_seen 53 = .ok (.iload 6, 2) := by decide +kernel
theorem sX9_seen_53 : ab_X rom K cX9_seen 7 1 53 (v0 :: v1 :: v2 :: v3 :: v4 :: v5 :: .int x :: ls) st hp = ab_X rom K cX9_seen 7 1 55 (v0 :: v1 :: v2 :: v3 :: v4 :: v5 :: .int x :: ls) (.int x :: st) hp := ax_iload dX9_seen_53 rfl rfl
theorem dX9_seen_55 : decode cX9_seen 55 = .ok (.i2l, 1) := by decide +kernel
theorem sX9_seen_55 : ab_X rom K cX9_seen 7 1 55 ls (.int x :: st) hp = ab_X rom K cX9_seen 7 1 56 ls (.long x.toInt64 :: st) hp := ax_i2l dX9_seen_55 rfl
theorem dX9_seen_56 : decode cX9_seen 56 = .ok (.lconst 0, 1) := by decide +kernel
theorem sX9_seen_56 : ab_X rom K cX9_seen 7 1 56 ls st hp = ab_X rom K cX9_seen 7 1 57 ls (.long 0 :: st) hp := ax_lconst dX9_seen_56 (by decide) rfl
theorem dX9_seen_57 : decode cX9_seen 57 = .ok (.ldc2_w 233, 3) := by decide +kernel
theorem sX9_seen_57 : ab_X rom K cX9_seen 7 1 57 ls st hp = ab_X rom K cX9_seen 7 1 60 ls (.long 30 :: st) hp := ax_ldc2 dX9_seen_57 kl_7_233 rfl
theorem dX9_seen_60 : decode cX9_seen 60 = .ok (.invokestatic 56, 3) := by decide +kernel
theorem sX9_seen_60_0 : ab_X rom K cX9_seen 7 1 60 ls [w3, w2, w1] hp = (K 159 [w1, w2, w3] hp).bind (fun o => ab_X rom K cX9_seen 7 1 63 ls (o.1.toList ++ []) o.2) := ax_static (as := [w1, w2, w3]) (st := []) dX9_seen_60 kc_7_56 rfl rfl (Nat.le_of_ble_eq_true rfl)
theorem sX9_seen_60_1 : ab_X rom K cX9_seen 7 1 60 ls [w3, w2, w1, v0] hp = (K 159 [w1, w2, w3] hp).bind (fun o => ab_X rom K cX9_seen 7 1 63 ls (o.1.toList ++ [v0]) o.2) := ax_static (as := [w1, w2, w3]) (st := [v0]) dX9_seen_60 kc_7_56 rfl rfl (Nat.le_of_ble_eq_true rfl)
theorem sX9_seen_60_2 : ab_X rom K cX9_seen 7 1 60 ls [w3, w2, w1, v0, v1] hp = (K 159 [w1, w2, w3] hp).bind (fun o => ab_X rom K cX9_seen 7 1 63 ls (o.1.toList ++ [v0, v1]) o.2) := ax_static (as := [w1, w2, w3]) (st := [v0, v1]) dX9_seen_60 kc_7_56 rfl rfl (Nat.le_of_ble_eq_true rfl)
theorem sX9_seen_60_3 : ab_X rom K cX9_seen 7 1 60 ls [w3, w2, w1, v0, v1, v2] hp = (K 159 [w1, w2, w3] hp).bind (fun o => ab_X rom K cX9_seen 7 1 63 ls (o.1.toList ++ [v0, v1, v2]) o.2) := ax_static (as := [w1, w2, w3]) (st := [v0, v1, v2]) dX9_seen_60 kc_7_56 rfl rfl (Nat.le_of_ble_eq_true rfl)
theorem dX9_seen_63 : decode cX9_seen 63 = .ok (.ifCond .eq 21, 3) := by decide +kernel
theorem sX9_seen_63 : ab_X rom K cX9_seen 7 1 63 ls (.int x :: st) hp = if x = 0 then ab_X rom K cX9_seen 7 1 84 ls st hp else ab_X rom K cX9_seen 7 1 66 ls st hp := ax_if_eq dX9_seen_63 (by decide) rfl
theorem dX9_seen_66 : decode cX9_seen 66 = .ok (.iload 4, 2) := by decide +kernel
theorem sX9_seen_66 : ab_X rom K cX9_seen 7 1 66 (v0 :: v1 :: v2 :: v3 :: .int x :: ls) st hp = ab_X rom K cX9_seen 7 1 68 (v0 :: v1 :: v2 :: v3 :: .int x :: ls) (.int x :: st) hp := ax_iload dX9_seen_66 rfl rfl
theorem dX9_seen_68 : decode cX9_seen 68 = .ok (.iload_n 3, 1) := by decide +kernel
theorem sX9_seen_68 : ab_X rom K cX9_seen 7 1 68 (v0 :: v1 :: v2 :: .int x :: ls) st hp = ab_X rom K cX9_seen 7 1 69 (v0 :: v1 :: v2 :: .int x :: ls) (.int x :: st) hp := ax_iload_n dX9_seen_68 rfl rfl
theorem dX9_seen_69 : decode cX9_seen 69 = .ok (.iconst 1, 1) := by decide +kernel
theorem sX9_seen_69 : ab_X rom K cX9_seen 7 1 69 ls st hp = ab_X rom K cX9_seen 7 1 70 ls (.int 1 :: st) hp := ax_iconst dX9_seen_69 (by decide) rfl
theorem dX9_seen_70 : decode cX9_seen 70 = .ok (.iload 6, 2) := by decide +kernel
theorem sX9_seen_70 : ab_X rom K cX9_seen 7 1 70 (v0 :: v1 :: v2 :: v3 :: v4 :: v5 :: .int x :: ls) st hp = ab_X rom K cX9_seen 7 1 72 (v0 :: v1 :: v2 :: v3 :: v4 :: v5 :: .int x :: ls) (.int x :: st) hp := ax_iload dX9_seen_70 rfl rfl
theorem dX9_seen_72 : decode cX9_seen 72 = .ok (.ishl, 1) := by decide +kernel
theorem sX9_seen_72 : ab_X rom K cX9_seen 7 1 72 ls (.int y :: .int x :: st) hp = ab_X rom K cX9_seen 7 1 73 ls (.int (x <<< (y &&& 31)) :: st) hp := ax_ishl dX9_seen_72 rfl
theorem dX9_seen_73 : decode cX9_seen 73 = .ok (.iand, 1) := by decide +kernel
theorem sX9_seen_73 : ab_X rom K cX9_seen 7 1 73 ls (.int y :: .int x :: st) hp = ab_X rom K cX9_seen 7 1 74 ls (.int (x &&& y) :: st) hp := ax_iand dX9_seen_73 rfl
theorem dX9_seen_74 : decode cX9_seen 74 = .ok (.ior, 1) := by decide +kernel
theorem sX9_seen_74 : ab_X rom K cX9_seen 7 1 74 ls (.int y :: .int x :: st) hp = ab_X rom K cX9_seen 7 1 75 ls (.int (x ||| y) :: st) hp := ax_ior dX9_seen_74 rfl
theorem dX9_seen_75 : decode cX9_seen 75 = .ok (.istore 4, 2) := by decide +kernel
theorem sX9_seen_75i : ab_X rom K cX9_seen 7 1 75 (v0 :: v1 :: v2 :: .int y :: v4 :: ls) (.int x :: st) hp = ab_X rom K cX9_seen 7 1 77 (v0 :: v1 :: v2 :: .int y :: .int x :: ls) st hp := ax_istore dX9_seen_75 (ax_lt (v := v4) rfl) (ab_nl_c1 (j := 3) (v := .int y) rfl (ab_c1_int _)) rfl rfl
theorem sX9_seen_75r : ab_X rom K cX9_seen 7 1 75 (v0 :: v1 :: v2 :: .ref a2 :: v4 :: ls) (.int x :: st) hp = ab_X rom K cX9_seen 7 1 77 (v0 :: v1 :: v2 :: .ref a2 :: .int x :: ls) st hp := ax_istore dX9_seen_75 (ax_lt (v := v4) rfl) (ab_nl_c1 (j := 3) (v := .ref a2) rfl (ab_c1_ref _)) rfl rfl
theorem sX9_seen_75n : ab_X rom K cX9_seen 7 1 75 (v0 :: v1 :: v2 :: .null :: v4 :: ls) (.int x :: st) hp = ab_X rom K cX9_seen 7 1 77 (v0 :: v1 :: v2 :: .null :: .int x :: ls) st hp := ax_istore dX9_seen_75 (ax_lt (v := v4) rfl) (ab_nl_c1 (j := 3) (v := .null) rfl ab_c1_null) rfl rfl
theorem dX9_seen_77 : decode cX9_seen 77 = .ok (.iload_n 3, 1) := by decide +kernel
theorem sX9_seen_77 : ab_X rom K cX9_seen 7 1 77 (v0 :: v1 :: v2 :: .int x :: ls) st hp = ab_X rom K cX9_seen 7 1 78 (v0 :: v1 :: v2 :: .int x :: ls) (.int x :: st) hp := ax_iload_n dX9_seen_77 rfl rfl
theorem dX9_seen_78 : decode cX9_seen 78 = .ok (.iconst 1, 1) := by decide +kernel
theorem sX9_seen_78 : ab_X rom K cX9_seen 7 1 78 ls st hp = ab_X rom K cX9_seen 7 1 79 ls (.int 1 :: st) hp := ax_iconst dX9_seen_78 (by decide) rfl
theorem dX9_seen_79 : decode cX9_seen 79 = .ok (.iload 6, 2) := by decide +kernel
theorem sX9_seen_79 : ab_X rom K cX9_seen 7 1 79 (v0 :: v1 :: v2 :: v3 :: v4 :: v5 :: .int x :: ls) st hp = ab_X rom K cX9_seen 7 1 81 (v0 :: v1 :: v2 :: v3 :: v4 :: v5 :: .int x :: ls) (.int x :: st) hp := ax_iload dX9_seen_79 rfl rfl
theorem dX9_seen_81 : decode cX9_seen 81 = .ok (.ishl, 1) := by decide +kernel
theorem sX9_seen_81 : ab_X rom K cX9_seen 7 1 81 ls (.int y :: .int x :: st) hp = ab_X rom K cX9_seen 7 1 82 ls (.int (x <<< (y &&& 31)) :: st) hp := ax_ishl dX9_seen_81 rfl
theorem dX9_seen_82 : decode cX9_seen 82 = .ok (.ior, 1) := by decide +kernel
theorem sX9_seen_82 : ab_X rom K cX9_seen 7 1 82 ls (.int y :: .int x :: st) hp = ab_X rom K cX9_seen 7 1 83 ls (.int (x ||| y) :: st) hp := ax_ior dX9_seen_82 rfl
theorem dX9_seen_83 : decode cX9_seen 83 = .ok (.istore_n 3, 1) := by decide +kernel
theorem sX9_seen_83i : ab_X rom K cX9_seen 7 1 83 (v0 :: v1 :: .int y :: v3 :: ls) (.int x :: st) hp = ab_X rom K cX9_seen 7 1 84 (v0 :: v1 :: .int y :: .int x :: ls) st hp := ax_istore_n dX9_seen_83 (ax_lt (v := v3) rfl) (ab_nl_c1 (j := 2) (v := .int y) rfl (ab_c1_int _)) rfl rfl
theorem sX9_seen_83r : ab_X rom K cX9_seen 7 1 83 (v0 :: v1 :: .ref a2 :: v3 :: ls) (.int x :: st) hp = ab_X rom K cX9_seen 7 1 84 (v0 :: v1 :: .ref a2 :: .int x :: ls) st hp := ax_istore_n dX9_seen_83 (ax_lt (v := v3) rfl) (ab_nl_c1 (j := 2) (v := .ref a2) rfl (ab_c1_ref _)) rfl rfl
theorem sX9_seen_83n : ab_X rom K cX9_seen 7 1 83 (v0 :: v1 :: .null :: v3 :: ls) (.int x :: st) hp = ab_X rom K cX9_seen 7 1 84 (v0 :: v1 :: .null :: .int x :: ls) st hp := ax_istore_n dX9_seen_83 (ax_lt (v := v3) rfl) (ab_nl_c1 (j := 2) (v := .null) rfl ab_c1_null) rfl rfl
theorem dX9_seen_84 : decode cX9_seen 84 = .ok (.iinc 5 1, 3) := by decide +kernel
theorem sX9_seen_84i : ab_X rom K cX9_seen 7 1 84 (v0 :: v1 :: v2 :: v3 :: .int y :: .int x :: ls) st hp = ab_X rom K cX9_seen 7 1 87 (v0 :: v1 :: v2 :: v3 :: .int y :: .int (x + 1) :: ls) st hp := ax_iinc dX9_seen_84 rfl (ab_nl_c1 (j := 4) (v := .int y) rfl (ab_c1_int _)) (by decide) rfl rfl
theorem sX9_seen_84r : ab_X rom K cX9_seen 7 1 84 (v0 :: v1 :: v2 :: v3 :: .ref a2 :: .int x :: ls) st hp = ab_X rom K cX9_seen 7 1 87 (v0 :: v1 :: v2 :: v3 :: .ref a2 :: .int (x + 1) :: ls) st hp := ax_iinc dX9_seen_84 rfl (ab_nl_c1 (j := 4) (v := .ref a2) rfl (ab_c1_ref _)) (by decide) rfl rfl
theorem sX9_seen_84n : ab_X rom K cX9_seen 7 1 84 (v0 :: v1 :: v2 :: v3 :: .null :: .int x :: ls) st hp = ab_X rom K cX9_seen 7 1 87 (v0 :: v1 :: v2 :: v3 :: .null :: .int (x + 1) :: ls) st hp := ax_iinc dX9_seen_84 rfl (ab_nl_c1 (j := 4) (v := .null) rfl ab_c1_null) (by decide) rfl rfl
theorem dX9_seen_87 : decode cX9_seen 87 = .ok (.goto (-53), 3) := by decide +kernel
theorem sX9_seen_87 : ab_X rom K cX9_seen 7 1 87 ls st hp = ab_X rom K cX9_seen 7 1 34 ls st hp := ax_goto dX9_seen_87 (by decide)
theorem dX9_seen_90 : decode cX9_seen 90 = .ok (.iload_n 2, 1) := by decide +kernel
theorem sX9_seen_90 : ab_X rom K cX9_seen 7 1 90 (v0 :: v1 :: .int x :: ls) st hp = ab_X rom K cX9_seen 7 1 91 (v0 :: v1 :: .int x :: ls) (.int x :: st) hp := ax_iload_n dX9_seen_90 rfl rfl
theorem dX9_seen_91 : decode cX9_seen 91 = .ok (.ifCond .ne 7, 3) := by decide +kernel
theorem sX9_seen_91 : ab_X rom K cX9_seen 7 1 91 ls (.int x :: st) hp = if x = 0 then ab_X rom K cX9_seen 7 1 94 ls st hp else ab_X rom K cX9_seen 7 1 98 ls st hp := ax_if_ne dX9_seen_91 (by decide) rfl
theorem dX9_seen_94 : decode cX9_seen 94 = .ok (.iload_n 3, 1) := by decide +kernel
theorem sX9_seen_94 : ab_X rom K cX9_seen 7 1 94 (v0 :: v1 :: v2 :: .int x :: ls) st hp = ab_X rom K cX9_seen 7 1 95 (v0 :: v1 :: v2 :: .int x :: ls) (.int x :: st) hp := ax_iload_n dX9_seen_94 rfl rfl
theorem dX9_seen_95 : decode cX9_seen 95 = .ok (.goto 5, 3) := by decide +kernel
theorem sX9_seen_95 : ab_X rom K cX9_seen 7 1 95 ls st hp = ab_X rom K cX9_seen 7 1 100 ls st hp := ax_goto dX9_seen_95 (by decide)
theorem dX9_seen_98 : decode cX9_seen 98 = .ok (.iload 4, 2) := by decide +kernel
theorem sX9_seen_98 : ab_X rom K cX9_seen 7 1 98 (v0 :: v1 :: v2 :: v3 :: .int x :: ls) st hp = ab_X rom K cX9_seen 7 1 100 (v0 :: v1 :: v2 :: v3 :: .int x :: ls) (.int x :: st) hp := ax_iload dX9_seen_98 rfl rfl
theorem dX9_seen_100 : decode cX9_seen 100 = .ok (.ireturn, 1) := by decide +kernel
theorem sX9_seen_100 : ab_X rom K cX9_seen 7 1 100 ls [.int x] hp = some (some (.int x), hp) := ax_iret dX9_seen_100 rfl
end
