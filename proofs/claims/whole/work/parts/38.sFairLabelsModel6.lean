/-! FairLabelsModel: its methods step by step (printed by wip/whole/gen_steps.py) -/
section
variable {rom : List (List Int32)} {K : Nat → List Value → ab_H → Option ab_O} {ls st : List Value} {hp : ab_H} {x y z : Int32} {a a2 : Nat} {sp dp : Int32} {u w : Int64} {v0 v1 v2 v3 v4 v5 v6 v7 v8 v9 v10 v11 v12 v13 v14 v15 w1 w2 w3 w4 w5 w6 : Value}
theorem tX9_whyOf : ab_mT[238]? = some (yX9_whyOf, cX9_whyOf, 3, 1, 7) := by decide +kernel
theorem mX9_whyOf {d : Nat} {a0 : Nat} {x0 : Int32} : ab_M rom (d + 1) 238 [.ref a0, .int x0] hp = ab_X rom (ab_M rom d) cX9_whyOf 7 1 0 [.ref a0, .int x0, .null] [] hp := ab_M_eq tX9_whyOf (Nat.le_of_ble_eq_true rfl)
theorem dX9_whyOf_0 : decode cX9_whyOf 0 = .ok (.iconst 0, 1) := by decide +kernel
theorem sX9_whyOf_0 : ab_X rom K cX9_whyOf 7 1 0 ls st hp = ab_X rom K cX9_whyOf 7 1 1 ls (.int 0 :: st) hp := ax_iconst dX9_whyOf_0 (by decide) rfl
theorem dX9_whyOf_1 : decode cX9_whyOf 1 = .ok (.istore_n 2, 1) := by decide +kernel
theorem sX9_whyOf_1i : ab_X rom K cX9_whyOf 7 1 1 (v0 :: .int y :: v2 :: ls) (.int x :: st) hp = ab_X rom K cX9_whyOf 7 1 2 (v0 :: .int y :: .int x :: ls) st hp := ax_istore_n dX9_whyOf_1 (ax_lt (v := v2) rfl) (ab_nl_c1 (j := 1) (v := .int y) rfl (ab_c1_int _)) rfl rfl
theorem sX9_whyOf_1r : ab_X rom K cX9_whyOf 7 1 1 (v0 :: .ref a2 :: v2 :: ls) (.int x :: st) hp = ab_X rom K cX9_whyOf 7 1 2 (v0 :: .ref a2 :: .int x :: ls) st hp := ax_istore_n dX9_whyOf_1 (ax_lt (v := v2) rfl) (ab_nl_c1 (j := 1) (v := .ref a2) rfl (ab_c1_ref _)) rfl rfl
theorem sX9_whyOf_1n : ab_X rom K cX9_whyOf 7 1 1 (v0 :: .null :: v2 :: ls) (.int x :: st) hp = ab_X rom K cX9_whyOf 7 1 2 (v0 :: .null :: .int x :: ls) st hp := ax_istore_n dX9_whyOf_1 (ax_lt (v := v2) rfl) (ab_nl_c1 (j := 1) (v := .null) rfl ab_c1_null) rfl rfl
theorem dX9_whyOf_2 : decode cX9_whyOf 2 = .ok (.iload_n 2, 1) := by decide +kernel
theorem sX9_whyOf_2 : ab_X rom K cX9_whyOf 7 1 2 (v0 :: v1 :: .int x :: ls) st hp = ab_X rom K cX9_whyOf 7 1 3 (v0 :: v1 :: .int x :: ls) (.int x :: st) hp := ax_iload_n dX9_whyOf_2 rfl rfl
theorem dX9_whyOf_3 : decode cX9_whyOf 3 = .ok (.aload_n 0, 1) := by decide +kernel
theorem sX9_whyOf_3 : ab_X rom K cX9_whyOf 7 1 3 (.ref a :: ls) st hp = ab_X rom K cX9_whyOf 7 1 4 (.ref a :: ls) (.ref a :: st) hp := ax_aload_n dX9_whyOf_3 rfl rfl
theorem dX9_whyOf_4 : decode cX9_whyOf 4 = .ok (.getfield 235, 3) := by decide +kernel
theorem sX9_whyOf_4 : ab_X rom K cX9_whyOf 7 1 4 ls (.ref a :: st) hp = (ab_fld hp a 7 17).bind (fun v => ab_X rom K cX9_whyOf 7 1 7 ls (v :: st) hp) := ax_getfield dX9_whyOf_4 kf_7_235 rfl
theorem dX9_whyOf_7 : decode cX9_whyOf 7 = .ok (.if_icmp .ge 21, 3) := by decide +kernel
theorem sX9_whyOf_7 : ab_X rom K cX9_whyOf 7 1 7 ls (.int y :: .int x :: st) hp = if x < y then ab_X rom K cX9_whyOf 7 1 10 ls st hp else ab_X rom K cX9_whyOf 7 1 28 ls st hp := ax_icmp_ge dX9_whyOf_7 (by decide) rfl
theorem dX9_whyOf_10 : decode cX9_whyOf 10 = .ok (.aload_n 0, 1) := by decide +kernel
theorem sX9_whyOf_10 : ab_X rom K cX9_whyOf 7 1 10 (.ref a :: ls) st hp = ab_X rom K cX9_whyOf 7 1 11 (.ref a :: ls) (.ref a :: st) hp := ax_aload_n dX9_whyOf_10 rfl rfl
theorem dX9_whyOf_11 : decode cX9_whyOf 11 = .ok (.getfield 32, 3) := by decide +kernel
theorem sX9_whyOf_11 : ab_X rom K cX9_whyOf 7 1 11 ls (.ref a :: st) hp = (ab_fld hp a 7 16).bind (fun v => ab_X rom K cX9_whyOf 7 1 14 ls (v :: st) hp) := ax_getfield dX9_whyOf_11 kf_7_32 rfl
theorem dX9_whyOf_14 : decode cX9_whyOf 14 = .ok (.iload_n 2, 1) := by decide +kernel
theorem sX9_whyOf_14 : ab_X rom K cX9_whyOf 7 1 14 (v0 :: v1 :: .int x :: ls) st hp = ab_X rom K cX9_whyOf 7 1 15 (v0 :: v1 :: .int x :: ls) (.int x :: st) hp := ax_iload_n dX9_whyOf_14 rfl rfl
theorem dX9_whyOf_15 : decode cX9_whyOf 15 = .ok (.iaload, 1) := by decide +kernel
theorem sX9_whyOf_15 : ab_X rom K cX9_whyOf 7 1 15 ls (.int x :: .ref a :: st) hp = (ab_ard rom 0 hp a x).bind (fun v => ab_X rom K cX9_whyOf 7 1 16 ls (.int v :: st) hp) := ax_iaload dX9_whyOf_15 rfl
theorem dX9_whyOf_16 : decode cX9_whyOf 16 = .ok (.iconst (-1), 1) := by decide +kernel
theorem sX9_whyOf_16 : ab_X rom K cX9_whyOf 7 1 16 ls st hp = ab_X rom K cX9_whyOf 7 1 17 ls (.int (-1) :: st) hp := ax_iconst dX9_whyOf_16 (by decide) rfl
theorem dX9_whyOf_17 : decode cX9_whyOf 17 = .ok (.if_icmp .ne 5, 3) := by decide +kernel
theorem sX9_whyOf_17 : ab_X rom K cX9_whyOf 7 1 17 ls (.int y :: .int x :: st) hp = if x = y then ab_X rom K cX9_whyOf 7 1 20 ls st hp else ab_X rom K cX9_whyOf 7 1 22 ls st hp := ax_icmp_ne dX9_whyOf_17 (by decide) rfl
theorem dX9_whyOf_20 : decode cX9_whyOf 20 = .ok (.iconst 1, 1) := by decide +kernel
theorem sX9_whyOf_20 : ab_X rom K cX9_whyOf 7 1 20 ls st hp = ab_X rom K cX9_whyOf 7 1 21 ls (.int 1 :: st) hp := ax_iconst dX9_whyOf_20 (by decide) rfl
theorem dX9_whyOf_21 : decode cX9_whyOf 21 = .ok (.ireturn, 1) := by decide +kernel
theorem sX9_whyOf_21 : ab_X rom K cX9_whyOf 7 1 21 ls [.int x] hp = some (some (.int x), hp) := ax_iret dX9_whyOf_21 rfl
theorem dX9_whyOf_22 : decode cX9_whyOf 22 = .ok (.iinc 2 1, 3) := by decide +kernel
theorem sX9_whyOf_22i : ab_X rom K cX9_whyOf 7 1 22 (v0 :: .int y :: .int x :: ls) st hp = ab_X rom K cX9_whyOf 7 1 25 (v0 :: .int y :: .int (x + 1) :: ls) st hp := ax_iinc dX9_whyOf_22 rfl (ab_nl_c1 (j := 1) (v := .int y) rfl (ab_c1_int _)) (by decide) rfl rfl
theorem sX9_whyOf_22r : ab_X rom K cX9_whyOf 7 1 22 (v0 :: .ref a2 :: .int x :: ls) st hp = ab_X rom K cX9_whyOf 7 1 25 (v0 :: .ref a2 :: .int (x + 1) :: ls) st hp := ax_iinc dX9_whyOf_22 rfl (ab_nl_c1 (j := 1) (v := .ref a2) rfl (ab_c1_ref _)) (by decide) rfl rfl
theorem sX9_whyOf_22n : ab_X rom K cX9_whyOf 7 1 22 (v0 :: .null :: .int x :: ls) st hp = ab_X rom K cX9_whyOf 7 1 25 (v0 :: .null :: .int (x + 1) :: ls) st hp := ax_iinc dX9_whyOf_22 rfl (ab_nl_c1 (j := 1) (v := .null) rfl ab_c1_null) (by decide) rfl rfl
theorem dX9_whyOf_25 : decode cX9_whyOf 25 = .ok (.goto (-23), 3) := by decide +kernel
theorem sX9_whyOf_25 : ab_X rom K cX9_whyOf 7 1 25 ls st hp = ab_X rom K cX9_whyOf 7 1 2 ls st hp := ax_goto dX9_whyOf_25 (by decide)
theorem dX9_whyOf_28 : decode cX9_whyOf 28 = .ok (.iconst 0, 1) := by decide +kernel
theorem sX9_whyOf_28 : ab_X rom K cX9_whyOf 7 1 28 ls st hp = ab_X rom K cX9_whyOf 7 1 29 ls (.int 0 :: st) hp := ax_iconst dX9_whyOf_28 (by decide) rfl
theorem dX9_whyOf_29 : decode cX9_whyOf 29 = .ok (.istore_n 2, 1) := by decide +kernel
theorem sX9_whyOf_29i : ab_X rom K cX9_whyOf 7 1 29 (v0 :: .int y :: v2 :: ls) (.int x :: st) hp = ab_X rom K cX9_whyOf 7 1 30 (v0 :: .int y :: .int x :: ls) st hp := ax_istore_n dX9_whyOf_29 (ax_lt (v := v2) rfl) (ab_nl_c1 (j := 1) (v := .int y) rfl (ab_c1_int _)) rfl rfl
theorem sX9_whyOf_29r : ab_X rom K cX9_whyOf 7 1 29 (v0 :: .ref a2 :: v2 :: ls) (.int x :: st) hp = ab_X rom K cX9_whyOf 7 1 30 (v0 :: .ref a2 :: .int x :: ls) st hp := ax_istore_n dX9_whyOf_29 (ax_lt (v := v2) rfl) (ab_nl_c1 (j := 1) (v := .ref a2) rfl (ab_c1_ref _)) rfl rfl
theorem sX9_whyOf_29n : ab_X rom K cX9_whyOf 7 1 29 (v0 :: .null :: v2 :: ls) (.int x :: st) hp = ab_X rom K cX9_whyOf 7 1 30 (v0 :: .null :: .int x :: ls) st hp := ax_istore_n dX9_whyOf_29 (ax_lt (v := v2) rfl) (ab_nl_c1 (j := 1) (v := .null) rfl ab_c1_null) rfl rfl
theorem dX9_whyOf_30 : decode cX9_whyOf 30 = .ok (.iload_n 2, 1) := by decide +kernel
theorem sX9_whyOf_30 : ab_X rom K cX9_whyOf 7 1 30 (v0 :: v1 :: .int x :: ls) st hp = ab_X rom K cX9_whyOf 7 1 31 (v0 :: v1 :: .int x :: ls) (.int x :: st) hp := ax_iload_n dX9_whyOf_30 rfl rfl
theorem dX9_whyOf_31 : decode cX9_whyOf 31 = .ok (.aload_n 0, 1) := by decide +kernel
theorem sX9_whyOf_31 : ab_X rom K cX9_whyOf 7 1 31 (.ref a :: ls) st hp = ab_X rom K cX9_whyOf 7 1 32 (.ref a :: ls) (.ref a :: st) hp := ax_aload_n dX9_whyOf_31 rfl rfl
theorem dX9_whyOf_32 : decode cX9_whyOf 32 = .ok (.getfield 235, 3) := by decide +kernel
theorem sX9_whyOf_32 : ab_X rom K cX9_whyOf 7 1 32 ls (.ref a :: st) hp = (ab_fld hp a 7 17).bind (fun v => ab_X rom K cX9_whyOf 7 1 35 ls (v :: st) hp) := ax_getfield dX9_whyOf_32 kf_7_235 rfl
theorem dX9_whyOf_35 : decode cX9_whyOf 35 = .ok (.if_icmp .ge 25, 3) := by decide +kernel
theorem sX9_whyOf_35 : ab_X rom K cX9_whyOf 7 1 35 ls (.int y :: .int x :: st) hp = if x < y then ab_X rom K cX9_whyOf 7 1 38 ls st hp else ab_X rom K cX9_whyOf 7 1 60 ls st hp := ax_icmp_ge dX9_whyOf_35 (by decide) rfl
theorem dX9_whyOf_38 : decode cX9_whyOf 38 = .ok (.aload_n 0, 1) := by decide +kernel
theorem sX9_whyOf_38 : ab_X rom K cX9_whyOf 7 1 38 (.ref a :: ls) st hp = ab_X rom K cX9_whyOf 7 1 39 (.ref a :: ls) (.ref a :: st) hp := ax_aload_n dX9_whyOf_38 rfl rfl
theorem dX9_whyOf_39 : decode cX9_whyOf 39 = .ok (.getfield 32, 3) := by decide +kernel
theorem sX9_whyOf_39 : ab_X rom K cX9_whyOf 7 1 39 ls (.ref a :: st) hp = (ab_fld hp a 7 16).bind (fun v => ab_X rom K cX9_whyOf 7 1 42 ls (v :: st) hp) := ax_getfield dX9_whyOf_39 kf_7_32 rfl
theorem dX9_whyOf_42 : decode cX9_whyOf 42 = .ok (.iload_n 2, 1) := by decide +kernel
theorem sX9_whyOf_42 : ab_X rom K cX9_whyOf 7 1 42 (v0 :: v1 :: .int x :: ls) st hp = ab_X rom K cX9_whyOf 7 1 43 (v0 :: v1 :: .int x :: ls) (.int x :: st) hp := ax_iload_n dX9_whyOf_42 rfl rfl
theorem dX9_whyOf_43 : decode cX9_whyOf 43 = .ok (.iaload, 1) := by decide +kernel
theorem sX9_whyOf_43 : ab_X rom K cX9_whyOf 7 1 43 ls (.int x :: .ref a :: st) hp = (ab_ard rom 0 hp a x).bind (fun v => ab_X rom K cX9_whyOf 7 1 44 ls (.int v :: st) hp) := ax_iaload dX9_whyOf_43 rfl
theorem dX9_whyOf_44 : decode cX9_whyOf 44 = .ok (.aload_n 0, 1) := by decide +kernel
theorem sX9_whyOf_44 : ab_X rom K cX9_whyOf 7 1 44 (.ref a :: ls) st hp = ab_X rom K cX9_whyOf 7 1 45 (.ref a :: ls) (.ref a :: st) hp := ax_aload_n dX9_whyOf_44 rfl rfl
theorem dX9_whyOf_45 : decode cX9_whyOf 45 = .ok (.iload_n 1, 1) := by decide +kernel
theorem sX9_whyOf_45 : ab_X rom K cX9_whyOf 7 1 45 (v0 :: .int x :: ls) st hp = ab_X rom K cX9_whyOf 7 1 46 (v0 :: .int x :: ls) (.int x :: st) hp := ax_iload_n dX9_whyOf_45 rfl rfl
theorem dX9_whyOf_46 : decode cX9_whyOf 46 = .ok (.invokevirtual 257, 3) := by decide +kernel
theorem sX9_whyOf_46_0 : ab_X rom K cX9_whyOf 7 1 46 ls [w1, .ref a] hp = if ab_iso hp a 7 = true then (K 200 (.ref a :: [w1]) hp).bind (fun o => ab_X rom K cX9_whyOf 7 1 49 ls (o.1.toList ++ []) o.2) else none := ay_virtual (as := [w1]) (st := []) dX9_whyOf_46 kc_7_257 rfl rfl (Nat.le_of_ble_eq_true rfl)
theorem sX9_whyOf_46_1 : ab_X rom K cX9_whyOf 7 1 46 ls [w1, .ref a, v0] hp = if ab_iso hp a 7 = true then (K 200 (.ref a :: [w1]) hp).bind (fun o => ab_X rom K cX9_whyOf 7 1 49 ls (o.1.toList ++ [v0]) o.2) else none := ay_virtual (as := [w1]) (st := [v0]) dX9_whyOf_46 kc_7_257 rfl rfl (Nat.le_of_ble_eq_true rfl)
theorem sX9_whyOf_46_2 : ab_X rom K cX9_whyOf 7 1 46 ls [w1, .ref a, v0, v1] hp = if ab_iso hp a 7 = true then (K 200 (.ref a :: [w1]) hp).bind (fun o => ab_X rom K cX9_whyOf 7 1 49 ls (o.1.toList ++ [v0, v1]) o.2) else none := ay_virtual (as := [w1]) (st := [v0, v1]) dX9_whyOf_46 kc_7_257 rfl rfl (Nat.le_of_ble_eq_true rfl)
theorem sX9_whyOf_46_3 : ab_X rom K cX9_whyOf 7 1 46 ls [w1, .ref a, v0, v1, v2] hp = if ab_iso hp a 7 = true then (K 200 (.ref a :: [w1]) hp).bind (fun o => ab_X rom K cX9_whyOf 7 1 49 ls (o.1.toList ++ [v0, v1, v2]) o.2) else none := ay_virtual (as := [w1]) (st := [v0, v1, v2]) dX9_whyOf_46 kc_7_257 rfl rfl (Nat.le_of_ble_eq_true rfl)
theorem dX9_whyOf_49 : decode cX9_whyOf 49 = .ok (.if_icmp .le 5, 3) := by decide +kernel
theorem sX9_whyOf_49 : ab_X rom K cX9_whyOf 7 1 49 ls (.int y :: .int x :: st) hp = if y < x then ab_X rom K cX9_whyOf 7 1 52 ls st hp else ab_X rom K cX9_whyOf 7 1 54 ls st hp := ax_icmp_le dX9_whyOf_49 (by decide) rfl
theorem dX9_whyOf_52 : decode cX9_whyOf 52 = .ok (.iconst 2, 1) := by decide +kernel
theorem sX9_whyOf_52 : ab_X rom K cX9_whyOf 7 1 52 ls st hp = ab_X rom K cX9_whyOf 7 1 53 ls (.int 2 :: st) hp := ax_iconst dX9_whyOf_52 (by decide) rfl
theorem dX9_whyOf_53 : decode cX9_whyOf 53 = .ok (.ireturn, 1) := by decide +kernel
theorem sX9_whyOf_53 : ab_X rom K cX9_whyOf 7 1 53 ls [.int x] hp = some (some (.int x), hp) := ax_iret dX9_whyOf_53 rfl
theorem dX9_whyOf_54 : decode cX9_whyOf 54 = .ok (.iinc 2 1, 3) := by decide +kernel
theorem sX9_whyOf_54i : ab_X rom K cX9_whyOf 7 1 54 (v0 :: .int y :: .int x :: ls) st hp = ab_X rom K cX9_whyOf 7 1 57 (v0 :: .int y :: .int (x + 1) :: ls) st hp := ax_iinc dX9_whyOf_54 rfl (ab_nl_c1 (j := 1) (v := .int y) rfl (ab_c1_int _)) (by decide) rfl rfl
theorem sX9_whyOf_54r : ab_X rom K cX9_whyOf 7 1 54 (v0 :: .ref a2 :: .int x :: ls) st hp = ab_X rom K cX9_whyOf 7 1 57 (v0 :: .ref a2 :: .int (x + 1) :: ls) st hp := ax_iinc dX9_whyOf_54 rfl (ab_nl_c1 (j := 1) (v := .ref a2) rfl (ab_c1_ref _)) (by decide) rfl rfl
theorem sX9_whyOf_54n : ab_X rom K cX9_whyOf 7 1 54 (v0 :: .null :: .int x :: ls) st hp = ab_X rom K cX9_whyOf 7 1 57 (v0 :: .null :: .int (x + 1) :: ls) st hp := ax_iinc dX9_whyOf_54 rfl (ab_nl_c1 (j := 1) (v := .null) rfl ab_c1_null) (by decide) rfl rfl
theorem dX9_whyOf_57 : decode cX9_whyOf 57 = .ok (.goto (-27), 3) := by decide +kernel
theorem sX9_whyOf_57 : ab_X rom K cX9_whyOf 7 1 57 ls st hp = ab_X rom K cX9_whyOf 7 1 30 ls st hp := ax_goto dX9_whyOf_57 (by decide)
theorem dX9_whyOf_60 : decode cX9_whyOf 60 = .ok (.aload_n 0, 1) := by decide +kernel
theorem sX9_whyOf_60 : ab_X rom K cX9_whyOf 7 1 60 (.ref a :: ls) st hp = ab_X rom K cX9_whyOf 7 1 61 (.ref a :: ls) (.ref a :: st) hp := ax_aload_n dX9_whyOf_60 rfl rfl
theorem dX9_whyOf_61 : decode cX9_whyOf 61 = .ok (.iload_n 1, 1) := by decide +kernel
theorem sX9_whyOf_61 : ab_X rom K cX9_whyOf 7 1 61 (v0 :: .int x :: ls) st hp = ab_X rom K cX9_whyOf 7 1 62 (v0 :: .int x :: ls) (.int x :: st) hp := ax_iload_n dX9_whyOf_61 rfl rfl
theorem dX9_whyOf_62 : decode cX9_whyOf 62 = .ok (.aload_n 0, 1) := by decide +kernel
theorem sX9_whyOf_62 : ab_X rom K cX9_whyOf 7 1 62 (.ref a :: ls) st hp = ab_X rom K cX9_whyOf 7 1 63 (.ref a :: ls) (.ref a :: st) hp := ax_aload_n dX9_whyOf_62 rfl rfl
theorem dX9_whyOf_63 : decode cX9_whyOf 63 = .ok (.getfield 235, 3) := by decide +kernel
theorem sX9_whyOf_63 : ab_X rom K cX9_whyOf 7 1 63 ls (.ref a :: st) hp = (ab_fld hp a 7 17).bind (fun v => ab_X rom K cX9_whyOf 7 1 66 ls (v :: st) hp) := ax_getfield dX9_whyOf_63 kf_7_235 rfl
theorem dX9_whyOf_66 : decode cX9_whyOf 66 = .ok (.invokevirtual 260, 3) := by decide +kernel
theorem sX9_whyOf_66_0 : ab_X rom K cX9_whyOf 7 1 66 ls [w2, w1, .ref a] hp = if ab_iso hp a 7 = true then (K 133 (.ref a :: [w1, w2]) hp).bind (fun o => ab_X rom K cX9_whyOf 7 1 69 ls (o.1.toList ++ []) o.2) else none := ay_virtual (as := [w1, w2]) (st := []) dX9_whyOf_66 kc_7_260 rfl rfl (Nat.le_of_ble_eq_true rfl)
theorem sX9_whyOf_66_1 : ab_X rom K cX9_whyOf 7 1 66 ls [w2, w1, .ref a, v0] hp = if ab_iso hp a 7 = true then (K 133 (.ref a :: [w1, w2]) hp).bind (fun o => ab_X rom K cX9_whyOf 7 1 69 ls (o.1.toList ++ [v0]) o.2) else none := ay_virtual (as := [w1, w2]) (st := [v0]) dX9_whyOf_66 kc_7_260 rfl rfl (Nat.le_of_ble_eq_true rfl)
theorem sX9_whyOf_66_2 : ab_X rom K cX9_whyOf 7 1 66 ls [w2, w1, .ref a, v0, v1] hp = if ab_iso hp a 7 = true then (K 133 (.ref a :: [w1, w2]) hp).bind (fun o => ab_X rom K cX9_whyOf 7 1 69 ls (o.1.toList ++ [v0, v1]) o.2) else none := ay_virtual (as := [w1, w2]) (st := [v0, v1]) dX9_whyOf_66 kc_7_260 rfl rfl (Nat.le_of_ble_eq_true rfl)
theorem sX9_whyOf_66_3 : ab_X rom K cX9_whyOf 7 1 66 ls [w2, w1, .ref a, v0, v1, v2] hp = if ab_iso hp a 7 = true then (K 133 (.ref a :: [w1, w2]) hp).bind (fun o => ab_X rom K cX9_whyOf 7 1 69 ls (o.1.toList ++ [v0, v1, v2]) o.2) else none := ay_virtual (as := [w1, w2]) (st := [v0, v1, v2]) dX9_whyOf_66 kc_7_260 rfl rfl (Nat.le_of_ble_eq_true rfl)
theorem dX9_whyOf_69 : decode cX9_whyOf 69 = .ok (.ifCond .eq 7, 3) := by decide +kernel
theorem sX9_whyOf_69 : ab_X rom K cX9_whyOf 7 1 69 ls (.int x :: st) hp = if x = 0 then ab_X rom K cX9_whyOf 7 1 76 ls st hp else ab_X rom K cX9_whyOf 7 1 72 ls st hp := ax_if_eq dX9_whyOf_69 (by decide) rfl
theorem dX9_whyOf_72 : decode cX9_whyOf 72 = .ok (.iconst 3, 1) := by decide +kernel
theorem sX9_whyOf_72 : ab_X rom K cX9_whyOf 7 1 72 ls st hp = ab_X rom K cX9_whyOf 7 1 73 ls (.int 3 :: st) hp := ax_iconst dX9_whyOf_72 (by decide) rfl
theorem dX9_whyOf_73 : decode cX9_whyOf 73 = .ok (.goto 32, 3) := by decide +kernel
theorem sX9_whyOf_73 : ab_X rom K cX9_whyOf 7 1 73 ls st hp = ab_X rom K cX9_whyOf 7 1 105 ls st hp := ax_goto dX9_whyOf_73 (by decide)
theorem dX9_whyOf_76 : decode cX9_whyOf 76 = .ok (.aload_n 0, 1) := by decide +kernel
theorem sX9_whyOf_76 : ab_X rom K cX9_whyOf 7 1 76 (.ref a :: ls) st hp = ab_X rom K cX9_whyOf 7 1 77 (.ref a :: ls) (.ref a :: st) hp := ax_aload_n dX9_whyOf_76 rfl rfl
theorem dX9_whyOf_77 : decode cX9_whyOf 77 = .ok (.iload_n 1, 1) := by decide +kernel
theorem sX9_whyOf_77 : ab_X rom K cX9_whyOf 7 1 77 (v0 :: .int x :: ls) st hp = ab_X rom K cX9_whyOf 7 1 78 (v0 :: .int x :: ls) (.int x :: st) hp := ax_iload_n dX9_whyOf_77 rfl rfl
theorem dX9_whyOf_78 : decode cX9_whyOf 78 = .ok (.aload_n 0, 1) := by decide +kernel
theorem sX9_whyOf_78 : ab_X rom K cX9_whyOf 7 1 78 (.ref a :: ls) st hp = ab_X rom K cX9_whyOf 7 1 79 (.ref a :: ls) (.ref a :: st) hp := ax_aload_n dX9_whyOf_78 rfl rfl
theorem dX9_whyOf_79 : decode cX9_whyOf 79 = .ok (.getfield 235, 3) := by decide +kernel
theorem sX9_whyOf_79 : ab_X rom K cX9_whyOf 7 1 79 ls (.ref a :: st) hp = (ab_fld hp a 7 17).bind (fun v => ab_X rom K cX9_whyOf 7 1 82 ls (v :: st) hp) := ax_getfield dX9_whyOf_79 kf_7_235 rfl
theorem dX9_whyOf_82 : decode cX9_whyOf 82 = .ok (.invokevirtual 263, 3) := by decide +kernel
theorem sX9_whyOf_82_0 : ab_X rom K cX9_whyOf 7 1 82 ls [w2, w1, .ref a] hp = if ab_iso hp a 7 = true then (K 136 (.ref a :: [w1, w2]) hp).bind (fun o => ab_X rom K cX9_whyOf 7 1 85 ls (o.1.toList ++ []) o.2) else none := ay_virtual (as := [w1, w2]) (st := []) dX9_whyOf_82 kc_7_263 rfl rfl (Nat.le_of_ble_eq_true rfl)
theorem sX9_whyOf_82_1 : ab_X rom K cX9_whyOf 7 1 82 ls [w2, w1, .ref a, v0] hp = if ab_iso hp a 7 = true then (K 136 (.ref a :: [w1, w2]) hp).bind (fun o => ab_X rom K cX9_whyOf 7 1 85 ls (o.1.toList ++ [v0]) o.2) else none := ay_virtual (as := [w1, w2]) (st := [v0]) dX9_whyOf_82 kc_7_263 rfl rfl (Nat.le_of_ble_eq_true rfl)
theorem sX9_whyOf_82_2 : ab_X rom K cX9_whyOf 7 1 82 ls [w2, w1, .ref a, v0, v1] hp = if ab_iso hp a 7 = true then (K 136 (.ref a :: [w1, w2]) hp).bind (fun o => ab_X rom K cX9_whyOf 7 1 85 ls (o.1.toList ++ [v0, v1]) o.2) else none := ay_virtual (as := [w1, w2]) (st := [v0, v1]) dX9_whyOf_82 kc_7_263 rfl rfl (Nat.le_of_ble_eq_true rfl)
theorem sX9_whyOf_82_3 : ab_X rom K cX9_whyOf 7 1 82 ls [w2, w1, .ref a, v0, v1, v2] hp = if ab_iso hp a 7 = true then (K 136 (.ref a :: [w1, w2]) hp).bind (fun o => ab_X rom K cX9_whyOf 7 1 85 ls (o.1.toList ++ [v0, v1, v2]) o.2) else none := ay_virtual (as := [w1, w2]) (st := [v0, v1, v2]) dX9_whyOf_82 kc_7_263 rfl rfl (Nat.le_of_ble_eq_true rfl)
theorem dX9_whyOf_85 : decode cX9_whyOf 85 = .ok (.ifCond .eq 7, 3) := by decide +kernel
theorem sX9_whyOf_85 : ab_X rom K cX9_whyOf 7 1 85 ls (.int x :: st) hp = if x = 0 then ab_X rom K cX9_whyOf 7 1 92 ls st hp else ab_X rom K cX9_whyOf 7 1 88 ls st hp := ax_if_eq dX9_whyOf_85 (by decide) rfl
theorem dX9_whyOf_88 : decode cX9_whyOf 88 = .ok (.iconst 4, 1) := by decide +kernel
theorem sX9_whyOf_88 : ab_X rom K cX9_whyOf 7 1 88 ls st hp = ab_X rom K cX9_whyOf 7 1 89 ls (.int 4 :: st) hp := ax_iconst dX9_whyOf_88 (by decide) rfl
theorem dX9_whyOf_89 : decode cX9_whyOf 89 = .ok (.goto 16, 3) := by decide +kernel
theorem sX9_whyOf_89 : ab_X rom K cX9_whyOf 7 1 89 ls st hp = ab_X rom K cX9_whyOf 7 1 105 ls st hp := ax_goto dX9_whyOf_89 (by decide)
theorem dX9_whyOf_92 : decode cX9_whyOf 92 = .ok (.aload_n 0, 1) := by decide +kernel
theorem sX9_whyOf_92 : ab_X rom K cX9_whyOf 7 1 92 (.ref a :: ls) st hp = ab_X rom K cX9_whyOf 7 1 93 (.ref a :: ls) (.ref a :: st) hp := ax_aload_n dX9_whyOf_92 rfl rfl
theorem dX9_whyOf_93 : decode cX9_whyOf 93 = .ok (.iload_n 1, 1) := by decide +kernel
theorem sX9_whyOf_93 : ab_X rom K cX9_whyOf 7 1 93 (v0 :: .int x :: ls) st hp = ab_X rom K cX9_whyOf 7 1 94 (v0 :: .int x :: ls) (.int x :: st) hp := ax_iload_n dX9_whyOf_93 rfl rfl
theorem dX9_whyOf_94 : decode cX9_whyOf 94 = .ok (.invokevirtual 266, 3) := by decide +kernel
theorem sX9_whyOf_94_0 : ab_X rom K cX9_whyOf 7 1 94 ls [w1, .ref a] hp = if ab_iso hp a 7 = true then (K 166 (.ref a :: [w1]) hp).bind (fun o => ab_X rom K cX9_whyOf 7 1 97 ls (o.1.toList ++ []) o.2) else none := ay_virtual (as := [w1]) (st := []) dX9_whyOf_94 kc_7_266 rfl rfl (Nat.le_of_ble_eq_true rfl)
theorem sX9_whyOf_94_1 : ab_X rom K cX9_whyOf 7 1 94 ls [w1, .ref a, v0] hp = if ab_iso hp a 7 = true then (K 166 (.ref a :: [w1]) hp).bind (fun o => ab_X rom K cX9_whyOf 7 1 97 ls (o.1.toList ++ [v0]) o.2) else none := ay_virtual (as := [w1]) (st := [v0]) dX9_whyOf_94 kc_7_266 rfl rfl (Nat.le_of_ble_eq_true rfl)
theorem sX9_whyOf_94_2 : ab_X rom K cX9_whyOf 7 1 94 ls [w1, .ref a, v0, v1] hp = if ab_iso hp a 7 = true then (K 166 (.ref a :: [w1]) hp).bind (fun o => ab_X rom K cX9_whyOf 7 1 97 ls (o.1.toList ++ [v0, v1]) o.2) else none := ay_virtual (as := [w1]) (st := [v0, v1]) dX9_whyOf_94 kc_7_266 rfl rfl (Nat.le_of_ble_eq_true rfl)
theorem sX9_whyOf_94_3 : ab_X rom K cX9_whyOf 7 1 94 ls [w1, .ref a, v0, v1, v2] hp = if ab_iso hp a 7 = true then (K 166 (.ref a :: [w1]) hp).bind (fun o => ab_X rom K cX9_whyOf 7 1 97 ls (o.1.toList ++ [v0, v1, v2]) o.2) else none := ay_virtual (as := [w1]) (st := [v0, v1, v2]) dX9_whyOf_94 kc_7_266 rfl rfl (Nat.le_of_ble_eq_true rfl)
theorem dX9_whyOf_97 : decode cX9_whyOf 97 = .ok (.ifCond .eq 7, 3) := by decide +kernel
theorem sX9_whyOf_97 : ab_X rom K cX9_whyOf 7 1 97 ls (.int x :: st) hp = if x = 0 then ab_X rom K cX9_whyOf 7 1 104 ls st hp else ab_X rom K cX9_whyOf 7 1 100 ls st hp := ax_if_eq dX9_whyOf_97 (by decide) rfl
theorem dX9_whyOf_100 : decode cX9_whyOf 100 = .ok (.iconst 0, 1) := by decide +kernel
theorem sX9_whyOf_100 : ab_X rom K cX9_whyOf 7 1 100 ls st hp = ab_X rom K cX9_whyOf 7 1 101 ls (.int 0 :: st) hp := ax_iconst dX9_whyOf_100 (by decide) rfl
theorem dX9_whyOf_101 : decode cX9_whyOf 101 = .ok (.goto 4, 3) := by decide +kernel
theorem sX9_whyOf_101 : ab_X rom K cX9_whyOf 7 1 101 ls st hp = ab_X rom K cX9_whyOf 7 1 105 ls st hp := ax_goto dX9_whyOf_101 (by decide)
theorem dX9_whyOf_104 : decode cX9_whyOf 104 = .ok (.iconst 5, 1) := by decide +kernel
theorem sX9_whyOf_104 : ab_X rom K cX9_whyOf 7 1 104 ls st hp = ab_X rom K cX9_whyOf 7 1 105 ls (.int 5 :: st) hp := ax_iconst dX9_whyOf_104 (by decide) rfl
theorem dX9_whyOf_105 : decode cX9_whyOf 105 = .ok (.ireturn, 1) := by decide +kernel
theorem sX9_whyOf_105 : ab_X rom K cX9_whyOf 7 1 105 ls [.int x] hp = some (some (.int x), hp) := ax_iret dX9_whyOf_105 rfl
theorem tX9_withLabel : ab_mT[239]? = some (yX9_withLabel, cX9_withLabel, 4, 1, 7) := by decide +kernel
theorem mX9_withLabel {d : Nat} {a0 : Nat} {x0 : Int32} {x1 : Int32} : ab_M rom (d + 1) 239 [.ref a0, .int x0, .int x1] hp = ab_X rom (ab_M rom d) cX9_withLabel 7 1 0 [.ref a0, .int x0, .int x1, .null] [] hp := ab_M_eq tX9_withLabel (Nat.le_of_ble_eq_true rfl)
theorem dX9_withLabel_0 : decode cX9_withLabel 0 = .ok (.iconst 0, 1) := by decide +kernel
theorem sX9_withLabel_0 : ab_X rom K cX9_withLabel 7 1 0 ls st hp = ab_X rom K cX9_withLabel 7 1 1 ls (.int 0 :: st) hp := ax_iconst dX9_withLabel_0 (by decide) rfl
theorem dX9_withLabel_1 : decode cX9_withLabel 1 = .ok (.istore_n 3, 1) := by decide +kernel
theorem sX9_withLabel_1i : ab_X rom K cX9_withLabel 7 1 1 (v0 :: v1 :: .int y :: v3 :: ls) (.int x :: st) hp = ab_X rom K cX9_withLabel 7 1 2 (v0 :: v1 :: .int y :: .int x :: ls) st hp := ax_istore_n dX9_withLabel_1 (ax_lt (v := v3) rfl) (ab_nl_c1 (j := 2) (v := .int y) rfl (ab_c1_int _)) rfl rfl
theorem sX9_withLabel_1r : ab_X rom K cX9_withLabel 7 1 1 (v0 :: v1 :: .ref a2 :: v3 :: ls) (.int x :: st) hp = ab_X rom K cX9_withLabel 7 1 2 (v0 :: v1 :: .ref a2 :: .int x :: ls) st hp := ax_istore_n dX9_withLabel_1 (ax_lt (v := v3) rfl) (ab_nl_c1 (j := 2) (v := .ref a2) rfl (ab_c1_ref _)) rfl rfl
theorem sX9_withLabel_1n : ab_X rom K cX9_withLabel 7 1 1 (v0 :: v1 :: .null :: v3 :: ls) (.int x :: st) hp = ab_X rom K cX9_withLabel 7 1 2 (v0 :: v1 :: .null :: .int x :: ls) st hp := ax_istore_n dX9_withLabel_1 (ax_lt (v := v3) rfl) (ab_nl_c1 (j := 2) (v := .null) rfl ab_c1_null) rfl rfl
theorem dX9_withLabel_2 : decode cX9_withLabel 2 = .ok (.aload_n 0, 1) := by decide +kernel
theorem sX9_withLabel_2 : ab_X rom K cX9_withLabel 7 1 2 (.ref a :: ls) st hp = ab_X rom K cX9_withLabel 7 1 3 (.ref a :: ls) (.ref a :: st) hp := ax_aload_n dX9_withLabel_2 rfl rfl
theorem dX9_withLabel_3 : decode cX9_withLabel 3 = .ok (.iload_n 1, 1) := by decide +kernel
theorem sX9_withLabel_3 : ab_X rom K cX9_withLabel 7 1 3 (v0 :: .int x :: ls) st hp = ab_X rom K cX9_withLabel 7 1 4 (v0 :: .int x :: ls) (.int x :: st) hp := ax_iload_n dX9_withLabel_3 rfl rfl
theorem dX9_withLabel_4 : decode cX9_withLabel 4 = .ok (.iload_n 3, 1) := by decide +kernel
theorem sX9_withLabel_4 : ab_X rom K cX9_withLabel 7 1 4 (v0 :: v1 :: v2 :: .int x :: ls) st hp = ab_X rom K cX9_withLabel 7 1 5 (v0 :: v1 :: v2 :: .int x :: ls) (.int x :: st) hp := ax_iload_n dX9_withLabel_4 rfl rfl
theorem dX9_withLabel_5 : decode cX9_withLabel 5 = .ok (.invokevirtual 168, 3) := by decide +kernel
theorem sX9_withLabel_5_0 : ab_X rom K cX9_withLabel 7 1 5 ls [w2, w1, .ref a] hp = if ab_iso hp a 7 = true then (K 183 (.ref a :: [w1, w2]) hp).bind (fun o => ab_X rom K cX9_withLabel 7 1 8 ls (o.1.toList ++ []) o.2) else none := ay_virtual (as := [w1, w2]) (st := []) dX9_withLabel_5 kc_7_168 rfl rfl (Nat.le_of_ble_eq_true rfl)
theorem sX9_withLabel_5_1 : ab_X rom K cX9_withLabel 7 1 5 ls [w2, w1, .ref a, v0] hp = if ab_iso hp a 7 = true then (K 183 (.ref a :: [w1, w2]) hp).bind (fun o => ab_X rom K cX9_withLabel 7 1 8 ls (o.1.toList ++ [v0]) o.2) else none := ay_virtual (as := [w1, w2]) (st := [v0]) dX9_withLabel_5 kc_7_168 rfl rfl (Nat.le_of_ble_eq_true rfl)
theorem sX9_withLabel_5_2 : ab_X rom K cX9_withLabel 7 1 5 ls [w2, w1, .ref a, v0, v1] hp = if ab_iso hp a 7 = true then (K 183 (.ref a :: [w1, w2]) hp).bind (fun o => ab_X rom K cX9_withLabel 7 1 8 ls (o.1.toList ++ [v0, v1]) o.2) else none := ay_virtual (as := [w1, w2]) (st := [v0, v1]) dX9_withLabel_5 kc_7_168 rfl rfl (Nat.le_of_ble_eq_true rfl)
theorem sX9_withLabel_5_3 : ab_X rom K cX9_withLabel 7 1 5 ls [w2, w1, .ref a, v0, v1, v2] hp = if ab_iso hp a 7 = true then (K 183 (.ref a :: [w1, w2]) hp).bind (fun o => ab_X rom K cX9_withLabel 7 1 8 ls (o.1.toList ++ [v0, v1, v2]) o.2) else none := ay_virtual (as := [w1, w2]) (st := [v0, v1, v2]) dX9_withLabel_5 kc_7_168 rfl rfl (Nat.le_of_ble_eq_true rfl)
theorem dX9_withLabel_8 : decode cX9_withLabel 8 = .ok (.iload_n 2, 1) := by decide +kernel
theorem sX9_withLabel_8 : ab_X rom K cX9_withLabel 7 1 8 (v0 :: v1 :: .int x :: ls) st hp = ab_X rom K cX9_withLabel 7 1 9 (v0 :: v1 :: .int x :: ls) (.int x :: st) hp := ax_iload_n dX9_withLabel_8 rfl rfl
theorem dX9_withLabel_9 : decode cX9_withLabel 9 = .ok (.if_icmp .eq 9, 3) := by decide +kernel
theorem sX9_withLabel_9 : ab_X rom K cX9_withLabel 7 1 9 ls (.int y :: .int x :: st) hp = if x = y then ab_X rom K cX9_withLabel 7 1 18 ls st hp else ab_X rom K cX9_withLabel 7 1 12 ls st hp := ax_icmp_eq dX9_withLabel_9 (by decide) rfl
theorem dX9_withLabel_12 : decode cX9_withLabel 12 = .ok (.iinc 3 1, 3) := by decide +kernel
theorem sX9_withLabel_12i : ab_X rom K cX9_withLabel 7 1 12 (v0 :: v1 :: .int y :: .int x :: ls) st hp = ab_X rom K cX9_withLabel 7 1 15 (v0 :: v1 :: .int y :: .int (x + 1) :: ls) st hp := ax_iinc dX9_withLabel_12 rfl (ab_nl_c1 (j := 2) (v := .int y) rfl (ab_c1_int _)) (by decide) rfl rfl
theorem sX9_withLabel_12r : ab_X rom K cX9_withLabel 7 1 12 (v0 :: v1 :: .ref a2 :: .int x :: ls) st hp = ab_X rom K cX9_withLabel 7 1 15 (v0 :: v1 :: .ref a2 :: .int (x + 1) :: ls) st hp := ax_iinc dX9_withLabel_12 rfl (ab_nl_c1 (j := 2) (v := .ref a2) rfl (ab_c1_ref _)) (by decide) rfl rfl
theorem sX9_withLabel_12n : ab_X rom K cX9_withLabel 7 1 12 (v0 :: v1 :: .null :: .int x :: ls) st hp = ab_X rom K cX9_withLabel 7 1 15 (v0 :: v1 :: .null :: .int (x + 1) :: ls) st hp := ax_iinc dX9_withLabel_12 rfl (ab_nl_c1 (j := 2) (v := .null) rfl ab_c1_null) (by decide) rfl rfl
theorem dX9_withLabel_15 : decode cX9_withLabel 15 = .ok (.goto (-13), 3) := by decide +kernel
theorem sX9_withLabel_15 : ab_X rom K cX9_withLabel 7 1 15 ls st hp = ab_X rom K cX9_withLabel 7 1 2 ls st hp := ax_goto dX9_withLabel_15 (by decide)
theorem dX9_withLabel_18 : decode cX9_withLabel 18 = .ok (.iload_n 3, 1) := by decide +kernel
theorem sX9_withLabel_18 : ab_X rom K cX9_withLabel 7 1 18 (v0 :: v1 :: v2 :: .int x :: ls) st hp = ab_X rom K cX9_withLabel 7 1 19 (v0 :: v1 :: v2 :: .int x :: ls) (.int x :: st) hp := ax_iload_n dX9_withLabel_18 rfl rfl
theorem dX9_withLabel_19 : decode cX9_withLabel 19 = .ok (.ireturn, 1) := by decide +kernel
theorem sX9_withLabel_19 : ab_X rom K cX9_withLabel 7 1 19 ls [.int x] hp = some (some (.int x), hp) := ax_iret dX9_withLabel_19 rfl
theorem tX9_worth : ab_mT[240]? = some (yX9_worth, cX9_worth, 6, 1, 7) := by decide +kernel
theorem mX9_worth {d : Nat} {a0 : Nat} {x0 : Int32} {x1 : Int32} {x2 : Int32} : ab_M rom (d + 1) 240 [.ref a0, .int x0, .int x1, .int x2] hp = ab_X rom (ab_M rom d) cX9_worth 7 1 0 [.ref a0, .int x0, .int x1, .int x2, .null, .null] [] hp := ab_M_eq tX9_worth (Nat.le_of_ble_eq_true rfl)
theorem dX9_worth_0 : decode cX9_worth 0 = .ok (.aload_n 0, 1) := by decide +kernel
theorem sX9_worth_0 : ab_X rom K cX9_worth 7 1 0 (.ref a :: ls) st hp = ab_X rom K cX9_worth 7 1 1 (.ref a :: ls) (.ref a :: st) hp := ax_aload_n dX9_worth_0 rfl rfl
theorem dX9_worth_1 : decode cX9_worth 1 = .ok (.iload_n 1, 1) := by decide +kernel
theorem sX9_worth_1 : ab_X rom K cX9_worth 7 1 1 (v0 :: .int x :: ls) st hp = ab_X rom K cX9_worth 7 1 2 (v0 :: .int x :: ls) (.int x :: st) hp := ax_iload_n dX9_worth_1 rfl rfl
theorem dX9_worth_2 : decode cX9_worth 2 = .ok (.invokevirtual 68, 3) := by decide +kernel
theorem sX9_worth_2_0 : ab_X rom K cX9_worth 7 1 2 ls [w1, .ref a] hp = if ab_iso hp a 7 = true then (K 171 (.ref a :: [w1]) hp).bind (fun o => ab_X rom K cX9_worth 7 1 5 ls (o.1.toList ++ []) o.2) else none := ay_virtual (as := [w1]) (st := []) dX9_worth_2 kc_7_68 rfl rfl (Nat.le_of_ble_eq_true rfl)
theorem sX9_worth_2_1 : ab_X rom K cX9_worth 7 1 2 ls [w1, .ref a, v0] hp = if ab_iso hp a 7 = true then (K 171 (.ref a :: [w1]) hp).bind (fun o => ab_X rom K cX9_worth 7 1 5 ls (o.1.toList ++ [v0]) o.2) else none := ay_virtual (as := [w1]) (st := [v0]) dX9_worth_2 kc_7_68 rfl rfl (Nat.le_of_ble_eq_true rfl)
theorem sX9_worth_2_2 : ab_X rom K cX9_worth 7 1 2 ls [w1, .ref a, v0, v1] hp = if ab_iso hp a 7 = true then (K 171 (.ref a :: [w1]) hp).bind (fun o => ab_X rom K cX9_worth 7 1 5 ls (o.1.toList ++ [v0, v1]) o.2) else none := ay_virtual (as := [w1]) (st := [v0, v1]) dX9_worth_2 kc_7_68 rfl rfl (Nat.le_of_ble_eq_true rfl)
theorem sX9_worth_2_3 : ab_X rom K cX9_worth 7 1 2 ls [w1, .ref a, v0, v1, v2] hp = if ab_iso hp a 7 = true then (K 171 (.ref a :: [w1]) hp).bind (fun o => ab_X rom K cX9_worth 7 1 5 ls (o.1.toList ++ [v0, v1, v2]) o.2) else none := ay_virtual (as := [w1]) (st := [v0, v1, v2]) dX9_worth_2 kc_7_68 rfl rfl (Nat.le_of_ble_eq_true rfl)
theorem dX9_worth_5 : decode cX9_worth 5 = .ok (.ifCond .eq 17, 3) := by decide +kernel
theorem sX9_worth_5 : ab_X rom K cX9_worth 7 1 5 ls (.int x :: st) hp = if x = 0 then ab_X rom K cX9_worth 7 1 22 ls st hp else ab_X rom K cX9_worth 7 1 8 ls st hp := ax_if_eq dX9_worth_5 (by decide) rfl
theorem dX9_worth_8 : decode cX9_worth 8 = .ok (.iload_n 2, 1) := by decide +kernel
theorem sX9_worth_8 : ab_X rom K cX9_worth 7 1 8 (v0 :: v1 :: .int x :: ls) st hp = ab_X rom K cX9_worth 7 1 9 (v0 :: v1 :: .int x :: ls) (.int x :: st) hp := ax_iload_n dX9_worth_8 rfl rfl
theorem dX9_worth_9 : decode cX9_worth 9 = .ok (.ifCond .lt 13, 3) := by decide +kernel
theorem sX9_worth_9 : ab_X rom K cX9_worth 7 1 9 ls (.int x :: st) hp = if x < 0 then ab_X rom K cX9_worth 7 1 22 ls st hp else ab_X rom K cX9_worth 7 1 12 ls st hp := ax_if_lt dX9_worth_9 (by decide) rfl
theorem dX9_worth_12 : decode cX9_worth 12 = .ok (.iload_n 3, 1) := by decide +kernel
theorem sX9_worth_12 : ab_X rom K cX9_worth 7 1 12 (v0 :: v1 :: v2 :: .int x :: ls) st hp = ab_X rom K cX9_worth 7 1 13 (v0 :: v1 :: v2 :: .int x :: ls) (.int x :: st) hp := ax_iload_n dX9_worth_12 rfl rfl
theorem dX9_worth_13 : decode cX9_worth 13 = .ok (.i2l, 1) := by decide +kernel
theorem sX9_worth_13 : ab_X rom K cX9_worth 7 1 13 ls (.int x :: st) hp = ab_X rom K cX9_worth 7 1 14 ls (.long x.toInt64 :: st) hp := ax_i2l dX9_worth_13 rfl
theorem dX9_worth_14 : decode cX9_worth 14 = .ok (.lconst 0, 1) := by decide +kernel
theorem sX9_worth_14 : ab_X rom K cX9_worth 7 1 14 ls st hp = ab_X rom K cX9_worth 7 1 15 ls (.long 0 :: st) hp := ax_lconst dX9_worth_14 (by decide) rfl
theorem dX9_worth_15 : decode cX9_worth 15 = .ok (.lconst 1, 1) := by decide +kernel
theorem sX9_worth_15 : ab_X rom K cX9_worth 7 1 15 ls st hp = ab_X rom K cX9_worth 7 1 16 ls (.long 1 :: st) hp := ax_lconst dX9_worth_15 (by decide) rfl
theorem dX9_worth_16 : decode cX9_worth 16 = .ok (.invokestatic 56, 3) := by decide +kernel
theorem sX9_worth_16_0 : ab_X rom K cX9_worth 7 1 16 ls [w3, w2, w1] hp = (K 159 [w1, w2, w3] hp).bind (fun o => ab_X rom K cX9_worth 7 1 19 ls (o.1.toList ++ []) o.2) := ax_static (as := [w1, w2, w3]) (st := []) dX9_worth_16 kc_7_56 rfl rfl (Nat.le_of_ble_eq_true rfl)
theorem sX9_worth_16_1 : ab_X rom K cX9_worth 7 1 16 ls [w3, w2, w1, v0] hp = (K 159 [w1, w2, w3] hp).bind (fun o => ab_X rom K cX9_worth 7 1 19 ls (o.1.toList ++ [v0]) o.2) := ax_static (as := [w1, w2, w3]) (st := [v0]) dX9_worth_16 kc_7_56 rfl rfl (Nat.le_of_ble_eq_true rfl)
theorem sX9_worth_16_2 : ab_X rom K cX9_worth 7 1 16 ls [w3, w2, w1, v0, v1] hp = (K 159 [w1, w2, w3] hp).bind (fun o => ab_X rom K cX9_worth 7 1 19 ls (o.1.toList ++ [v0, v1]) o.2) := ax_static (as := [w1, w2, w3]) (st := [v0, v1]) dX9_worth_16 kc_7_56 rfl rfl (Nat.le_of_ble_eq_true rfl)
theorem sX9_worth_16_3 : ab_X rom K cX9_worth 7 1 16 ls [w3, w2, w1, v0, v1, v2] hp = (K 159 [w1, w2, w3] hp).bind (fun o => ab_X rom K cX9_worth 7 1 19 ls (o.1.toList ++ [v0, v1, v2]) o.2) := ax_static (as := [w1, w2, w3]) (st := [v0, v1, v2]) dX9_worth_16 kc_7_56 rfl rfl (Nat.le_of_ble_eq_true rfl)
theorem dX9_worth_19 : decode cX9_worth 19 = .ok (.ifCond .ne 6, 3) := by decide +kernel
theorem sX9_worth_19 : ab_X rom K cX9_worth 7 1 19 ls (.int x :: st) hp = if x = 0 then ab_X rom K cX9_worth 7 1 22 ls st hp else ab_X rom K cX9_worth 7 1 25 ls st hp := ax_if_ne dX9_worth_19 (by decide) rfl
theorem dX9_worth_22 : decode cX9_worth 22 = .ok (.bipush (-2), 2) := by decide +kernel
theorem sX9_worth_22 : ab_X rom K cX9_worth 7 1 22 ls st hp = ab_X rom K cX9_worth 7 1 24 ls (.int (-2) :: st) hp := ax_bipush dX9_worth_22 (by decide) rfl
theorem dX9_worth_24 : decode cX9_worth 24 = .ok (.ireturn, 1) := by decide +kernel
theorem sX9_worth_24 : ab_X rom K cX9_worth 7 1 24 ls [.int x] hp = some (some (.int x), hp) := ax_iret dX9_worth_24 rfl
theorem dX9_worth_25 : decode cX9_worth 25 = .ok (.aload_n 0, 1) := by decide +kernel
theorem sX9_worth_25 : ab_X rom K cX9_worth 7 1 25 (.ref a :: ls) st hp = ab_X rom K cX9_worth 7 1 26 (.ref a :: ls) (.ref a :: st) hp := ax_aload_n dX9_worth_25 rfl rfl
theorem dX9_worth_26 : decode cX9_worth 26 = .ok (.iload_n 1, 1) := by decide +kernel
theorem sX9_worth_26 : ab_X rom K cX9_worth 7 1 26 (v0 :: .int x :: ls) st hp = ab_X rom K cX9_worth 7 1 27 (v0 :: .int x :: ls) (.int x :: st) hp := ax_iload_n dX9_worth_26 rfl rfl
theorem dX9_worth_27 : decode cX9_worth 27 = .ok (.invokevirtual 213, 3) := by decide +kernel
theorem sX9_worth_27_0 : ab_X rom K cX9_worth 7 1 27 ls [w1, .ref a] hp = if ab_iso hp a 7 = true then (K 185 (.ref a :: [w1]) hp).bind (fun o => ab_X rom K cX9_worth 7 1 30 ls (o.1.toList ++ []) o.2) else none := ay_virtual (as := [w1]) (st := []) dX9_worth_27 kc_7_213 rfl rfl (Nat.le_of_ble_eq_true rfl)
theorem sX9_worth_27_1 : ab_X rom K cX9_worth 7 1 27 ls [w1, .ref a, v0] hp = if ab_iso hp a 7 = true then (K 185 (.ref a :: [w1]) hp).bind (fun o => ab_X rom K cX9_worth 7 1 30 ls (o.1.toList ++ [v0]) o.2) else none := ay_virtual (as := [w1]) (st := [v0]) dX9_worth_27 kc_7_213 rfl rfl (Nat.le_of_ble_eq_true rfl)
theorem sX9_worth_27_2 : ab_X rom K cX9_worth 7 1 27 ls [w1, .ref a, v0, v1] hp = if ab_iso hp a 7 = true then (K 185 (.ref a :: [w1]) hp).bind (fun o => ab_X rom K cX9_worth 7 1 30 ls (o.1.toList ++ [v0, v1]) o.2) else none := ay_virtual (as := [w1]) (st := [v0, v1]) dX9_worth_27 kc_7_213 rfl rfl (Nat.le_of_ble_eq_true rfl)
theorem sX9_worth_27_3 : ab_X rom K cX9_worth 7 1 27 ls [w1, .ref a, v0, v1, v2] hp = if ab_iso hp a 7 = true then (K 185 (.ref a :: [w1]) hp).bind (fun o => ab_X rom K cX9_worth 7 1 30 ls (o.1.toList ++ [v0, v1, v2]) o.2) else none := ay_virtual (as := [w1]) (st := [v0, v1, v2]) dX9_worth_27 kc_7_213 rfl rfl (Nat.le_of_ble_eq_true rfl)
theorem dX9_worth_30 : decode cX9_worth 30 = .ok (.iload_n 2, 1) := by decide +kernel
theorem sX9_worth_30 : ab_X rom K cX9_worth 7 1 30 (v0 :: v1 :: .int x :: ls) st hp = ab_X rom K cX9_worth 7 1 31 (v0 :: v1 :: .int x :: ls) (.int x :: st) hp := ax_iload_n dX9_worth_30 rfl rfl
theorem dX9_worth_31 : decode cX9_worth 31 = .ok (.aload_n 0, 1) := by decide +kernel
theorem sX9_worth_31 : ab_X rom K cX9_worth 7 1 31 (.ref a :: ls) st hp = ab_X rom K cX9_worth 7 1 32 (.ref a :: ls) (.ref a :: st) hp := ax_aload_n dX9_worth_31 rfl rfl
theorem dX9_worth_32 : decode cX9_worth 32 = .ok (.getfield 210, 3) := by decide +kernel
theorem sX9_worth_32 : ab_X rom K cX9_worth 7 1 32 ls (.ref a :: st) hp = (ab_fld hp a 7 15).bind (fun v => ab_X rom K cX9_worth 7 1 35 ls (v :: st) hp) := ax_getfield dX9_worth_32 kf_7_210 rfl
theorem dX9_worth_35 : decode cX9_worth 35 = .ok (.if_icmp .ge 31, 3) := by decide +kernel
theorem sX9_worth_35 : ab_X rom K cX9_worth 7 1 35 ls (.int y :: .int x :: st) hp = if x < y then ab_X rom K cX9_worth 7 1 38 ls st hp else ab_X rom K cX9_worth 7 1 66 ls st hp := ax_icmp_ge dX9_worth_35 (by decide) rfl
theorem dX9_worth_38 : decode cX9_worth 38 = .ok (.aload_n 0, 1) := by decide +kernel
theorem sX9_worth_38 : ab_X rom K cX9_worth 7 1 38 (.ref a :: ls) st hp = ab_X rom K cX9_worth 7 1 39 (.ref a :: ls) (.ref a :: st) hp := ax_aload_n dX9_worth_38 rfl rfl
theorem dX9_worth_39 : decode cX9_worth 39 = .ok (.iload_n 1, 1) := by decide +kernel
theorem sX9_worth_39 : ab_X rom K cX9_worth 7 1 39 (v0 :: .int x :: ls) st hp = ab_X rom K cX9_worth 7 1 40 (v0 :: .int x :: ls) (.int x :: st) hp := ax_iload_n dX9_worth_39 rfl rfl
theorem dX9_worth_40 : decode cX9_worth 40 = .ok (.aload_n 0, 1) := by decide +kernel
theorem sX9_worth_40 : ab_X rom K cX9_worth 7 1 40 (.ref a :: ls) st hp = ab_X rom K cX9_worth 7 1 41 (.ref a :: ls) (.ref a :: st) hp := ax_aload_n dX9_worth_40 rfl rfl
theorem dX9_worth_41 : decode cX9_worth 41 = .ok (.getfield 26, 3) := by decide +kernel
theorem sX9_worth_41 : ab_X rom K cX9_worth 7 1 41 ls (.ref a :: st) hp = (ab_fld hp a 7 13).bind (fun v => ab_X rom K cX9_worth 7 1 44 ls (v :: st) hp) := ax_getfield dX9_worth_41 kf_7_26 rfl
theorem dX9_worth_44 : decode cX9_worth 44 = .ok (.iload_n 2, 1) := by decide +kernel
theorem sX9_worth_44 : ab_X rom K cX9_worth 7 1 44 (v0 :: v1 :: .int x :: ls) st hp = ab_X rom K cX9_worth 7 1 45 (v0 :: v1 :: .int x :: ls) (.int x :: st) hp := ax_iload_n dX9_worth_44 rfl rfl
theorem dX9_worth_45 : decode cX9_worth 45 = .ok (.iaload, 1) := by decide +kernel
theorem sX9_worth_45 : ab_X rom K cX9_worth 7 1 45 ls (.int x :: .ref a :: st) hp = (ab_ard rom 0 hp a x).bind (fun v => ab_X rom K cX9_worth 7 1 46 ls (.int v :: st) hp) := ax_iaload dX9_worth_45 rfl
theorem dX9_worth_46 : decode cX9_worth 46 = .ok (.invokevirtual 223, 3) := by decide +kernel
theorem sX9_worth_46_0 : ab_X rom K cX9_worth 7 1 46 ls [w2, w1, .ref a] hp = if ab_iso hp a 7 = true then (K 169 (.ref a :: [w1, w2]) hp).bind (fun o => ab_X rom K cX9_worth 7 1 49 ls (o.1.toList ++ []) o.2) else none := ay_virtual (as := [w1, w2]) (st := []) dX9_worth_46 kc_7_223 rfl rfl (Nat.le_of_ble_eq_true rfl)
theorem sX9_worth_46_1 : ab_X rom K cX9_worth 7 1 46 ls [w2, w1, .ref a, v0] hp = if ab_iso hp a 7 = true then (K 169 (.ref a :: [w1, w2]) hp).bind (fun o => ab_X rom K cX9_worth 7 1 49 ls (o.1.toList ++ [v0]) o.2) else none := ay_virtual (as := [w1, w2]) (st := [v0]) dX9_worth_46 kc_7_223 rfl rfl (Nat.le_of_ble_eq_true rfl)
theorem sX9_worth_46_2 : ab_X rom K cX9_worth 7 1 46 ls [w2, w1, .ref a, v0, v1] hp = if ab_iso hp a 7 = true then (K 169 (.ref a :: [w1, w2]) hp).bind (fun o => ab_X rom K cX9_worth 7 1 49 ls (o.1.toList ++ [v0, v1]) o.2) else none := ay_virtual (as := [w1, w2]) (st := [v0, v1]) dX9_worth_46 kc_7_223 rfl rfl (Nat.le_of_ble_eq_true rfl)
theorem sX9_worth_46_3 : ab_X rom K cX9_worth 7 1 46 ls [w2, w1, .ref a, v0, v1, v2] hp = if ab_iso hp a 7 = true then (K 169 (.ref a :: [w1, w2]) hp).bind (fun o => ab_X rom K cX9_worth 7 1 49 ls (o.1.toList ++ [v0, v1, v2]) o.2) else none := ay_virtual (as := [w1, w2]) (st := [v0, v1, v2]) dX9_worth_46 kc_7_223 rfl rfl (Nat.le_of_ble_eq_true rfl)
theorem dX9_worth_49 : decode cX9_worth 49 = .ok (.ifCond .eq 17, 3) := by decide +kernel
theorem sX9_worth_49 : ab_X rom K cX9_worth 7 1 49 ls (.int x :: st) hp = if x = 0 then ab_X rom K cX9_worth 7 1 66 ls st hp else ab_X rom K cX9_worth 7 1 52 ls st hp := ax_if_eq dX9_worth_49 (by decide) rfl
theorem dX9_worth_52 : decode cX9_worth 52 = .ok (.aload_n 0, 1) := by decide +kernel
theorem sX9_worth_52 : ab_X rom K cX9_worth 7 1 52 (.ref a :: ls) st hp = ab_X rom K cX9_worth 7 1 53 (.ref a :: ls) (.ref a :: st) hp := ax_aload_n dX9_worth_52 rfl rfl
theorem dX9_worth_53 : decode cX9_worth 53 = .ok (.iload_n 1, 1) := by decide +kernel
theorem sX9_worth_53 : ab_X rom K cX9_worth 7 1 53 (v0 :: .int x :: ls) st hp = ab_X rom K cX9_worth 7 1 54 (v0 :: .int x :: ls) (.int x :: st) hp := ax_iload_n dX9_worth_53 rfl rfl
theorem dX9_worth_54 : decode cX9_worth 54 = .ok (.aload_n 0, 1) := by decide +kernel
theorem sX9_worth_54 : ab_X rom K cX9_worth 7 1 54 (.ref a :: ls) st hp = ab_X rom K cX9_worth 7 1 55 (.ref a :: ls) (.ref a :: st) hp := ax_aload_n dX9_worth_54 rfl rfl
theorem dX9_worth_55 : decode cX9_worth 55 = .ok (.getfield 29, 3) := by decide +kernel
theorem sX9_worth_55 : ab_X rom K cX9_worth 7 1 55 ls (.ref a :: st) hp = (ab_fld hp a 7 14).bind (fun v => ab_X rom K cX9_worth 7 1 58 ls (v :: st) hp) := ax_getfield dX9_worth_55 kf_7_29 rfl
theorem dX9_worth_58 : decode cX9_worth 58 = .ok (.iload_n 2, 1) := by decide +kernel
theorem sX9_worth_58 : ab_X rom K cX9_worth 7 1 58 (v0 :: v1 :: .int x :: ls) st hp = ab_X rom K cX9_worth 7 1 59 (v0 :: v1 :: .int x :: ls) (.int x :: st) hp := ax_iload_n dX9_worth_58 rfl rfl
theorem dX9_worth_59 : decode cX9_worth 59 = .ok (.iaload, 1) := by decide +kernel
theorem sX9_worth_59 : ab_X rom K cX9_worth 7 1 59 ls (.int x :: .ref a :: st) hp = (ab_ard rom 0 hp a x).bind (fun v => ab_X rom K cX9_worth 7 1 60 ls (.int v :: st) hp) := ax_iaload dX9_worth_59 rfl
theorem dX9_worth_60 : decode cX9_worth 60 = .ok (.invokevirtual 223, 3) := by decide +kernel
theorem sX9_worth_60_0 : ab_X rom K cX9_worth 7 1 60 ls [w2, w1, .ref a] hp = if ab_iso hp a 7 = true then (K 169 (.ref a :: [w1, w2]) hp).bind (fun o => ab_X rom K cX9_worth 7 1 63 ls (o.1.toList ++ []) o.2) else none := ay_virtual (as := [w1, w2]) (st := []) dX9_worth_60 kc_7_223 rfl rfl (Nat.le_of_ble_eq_true rfl)
theorem sX9_worth_60_1 : ab_X rom K cX9_worth 7 1 60 ls [w2, w1, .ref a, v0] hp = if ab_iso hp a 7 = true then (K 169 (.ref a :: [w1, w2]) hp).bind (fun o => ab_X rom K cX9_worth 7 1 63 ls (o.1.toList ++ [v0]) o.2) else none := ay_virtual (as := [w1, w2]) (st := [v0]) dX9_worth_60 kc_7_223 rfl rfl (Nat.le_of_ble_eq_true rfl)
theorem sX9_worth_60_2 : ab_X rom K cX9_worth 7 1 60 ls [w2, w1, .ref a, v0, v1] hp = if ab_iso hp a 7 = true then (K 169 (.ref a :: [w1, w2]) hp).bind (fun o => ab_X rom K cX9_worth 7 1 63 ls (o.1.toList ++ [v0, v1]) o.2) else none := ay_virtual (as := [w1, w2]) (st := [v0, v1]) dX9_worth_60 kc_7_223 rfl rfl (Nat.le_of_ble_eq_true rfl)
theorem sX9_worth_60_3 : ab_X rom K cX9_worth 7 1 60 ls [w2, w1, .ref a, v0, v1, v2] hp = if ab_iso hp a 7 = true then (K 169 (.ref a :: [w1, w2]) hp).bind (fun o => ab_X rom K cX9_worth 7 1 63 ls (o.1.toList ++ [v0, v1, v2]) o.2) else none := ay_virtual (as := [w1, w2]) (st := [v0, v1, v2]) dX9_worth_60 kc_7_223 rfl rfl (Nat.le_of_ble_eq_true rfl)
theorem dX9_worth_63 : decode cX9_worth 63 = .ok (.ifCond .ne 5, 3) := by decide +kernel
theorem sX9_worth_63 : ab_X rom K cX9_worth 7 1 63 ls (.int x :: st) hp = if x = 0 then ab_X rom K cX9_worth 7 1 66 ls st hp else ab_X rom K cX9_worth 7 1 68 ls st hp := ax_if_ne dX9_worth_63 (by decide) rfl
theorem dX9_worth_66 : decode cX9_worth 66 = .ok (.iconst (-1), 1) := by decide +kernel
theorem sX9_worth_66 : ab_X rom K cX9_worth 7 1 66 ls st hp = ab_X rom K cX9_worth 7 1 67 ls (.int (-1) :: st) hp := ax_iconst dX9_worth_66 (by decide) rfl
theorem dX9_worth_67 : decode cX9_worth 67 = .ok (.ireturn, 1) := by decide +kernel
theorem sX9_worth_67 : ab_X rom K cX9_worth 7 1 67 ls [.int x] hp = some (some (.int x), hp) := ax_iret dX9_worth_67 rfl
theorem dX9_worth_68 : decode cX9_worth 68 = .ok (.aload_n 0, 1) := by decide +kernel
theorem sX9_worth_68 : ab_X rom K cX9_worth 7 1 68 (.ref a :: ls) st hp = ab_X rom K cX9_worth 7 1 69 (.ref a :: ls) (.ref a :: st) hp := ax_aload_n dX9_worth_68 rfl rfl
theorem dX9_worth_69 : decode cX9_worth 69 = .ok (.iload_n 1, 1) := by decide +kernel
theorem sX9_worth_69 : ab_X rom K cX9_worth 7 1 69 (v0 :: .int x :: ls) st hp = ab_X rom K cX9_worth 7 1 70 (v0 :: .int x :: ls) (.int x :: st) hp := ax_iload_n dX9_worth_69 rfl rfl
theorem dX9_worth_70 : decode cX9_worth 70 = .ok (.aload_n 0, 1) := by decide +kernel
theorem sX9_worth_70 : ab_X rom K cX9_worth 7 1 70 (.ref a :: ls) st hp = ab_X rom K cX9_worth 7 1 71 (.ref a :: ls) (.ref a :: st) hp := ax_aload_n dX9_worth_70 rfl rfl
theorem dX9_worth_71 : decode cX9_worth 71 = .ok (.getfield 26, 3) := by decide +kernel
theorem sX9_worth_71 : ab_X rom K cX9_worth 7 1 71 ls (.ref a :: st) hp = (ab_fld hp a 7 13).bind (fun v => ab_X rom K cX9_worth 7 1 74 ls (v :: st) hp) := ax_getfield dX9_worth_71 kf_7_26 rfl
theorem dX9_worth_74 : decode cX9_worth 74 = .ok (.iload_n 2, 1) := by decide +kernel
theorem sX9_worth_74 : ab_X rom K cX9_worth 7 1 74 (v0 :: v1 :: .int x :: ls) st hp = ab_X rom K cX9_worth 7 1 75 (v0 :: v1 :: .int x :: ls) (.int x :: st) hp := ax_iload_n dX9_worth_74 rfl rfl
theorem dX9_worth_75 : decode cX9_worth 75 = .ok (.iaload, 1) := by decide +kernel
theorem sX9_worth_75 : ab_X rom K cX9_worth 7 1 75 ls (.int x :: .ref a :: st) hp = (ab_ard rom 0 hp a x).bind (fun v => ab_X rom K cX9_worth 7 1 76 ls (.int v :: st) hp) := ax_iaload dX9_worth_75 rfl
theorem dX9_worth_76 : decode cX9_worth 76 = .ok (.invokevirtual 168, 3) := by decide +kernel
theorem sX9_worth_76_0 : ab_X rom K cX9_worth 7 1 76 ls [w2, w1, .ref a] hp = if ab_iso hp a 7 = true then (K 183 (.ref a :: [w1, w2]) hp).bind (fun o => ab_X rom K cX9_worth 7 1 79 ls (o.1.toList ++ []) o.2) else none := ay_virtual (as := [w1, w2]) (st := []) dX9_worth_76 kc_7_168 rfl rfl (Nat.le_of_ble_eq_true rfl)
theorem sX9_worth_76_1 : ab_X rom K cX9_worth 7 1 76 ls [w2, w1, .ref a, v0] hp = if ab_iso hp a 7 = true then (K 183 (.ref a :: [w1, w2]) hp).bind (fun o => ab_X rom K cX9_worth 7 1 79 ls (o.1.toList ++ [v0]) o.2) else none := ay_virtual (as := [w1, w2]) (st := [v0]) dX9_worth_76 kc_7_168 rfl rfl (Nat.le_of_ble_eq_true rfl)
theorem sX9_worth_76_2 : ab_X rom K cX9_worth 7 1 76 ls [w2, w1, .ref a, v0, v1] hp = if ab_iso hp a 7 = true then (K 183 (.ref a :: [w1, w2]) hp).bind (fun o => ab_X rom K cX9_worth 7 1 79 ls (o.1.toList ++ [v0, v1]) o.2) else none := ay_virtual (as := [w1, w2]) (st := [v0, v1]) dX9_worth_76 kc_7_168 rfl rfl (Nat.le_of_ble_eq_true rfl)
theorem sX9_worth_76_3 : ab_X rom K cX9_worth 7 1 76 ls [w2, w1, .ref a, v0, v1, v2] hp = if ab_iso hp a 7 = true then (K 183 (.ref a :: [w1, w2]) hp).bind (fun o => ab_X rom K cX9_worth 7 1 79 ls (o.1.toList ++ [v0, v1, v2]) o.2) else none := ay_virtual (as := [w1, w2]) (st := [v0, v1, v2]) dX9_worth_76 kc_7_168 rfl rfl (Nat.le_of_ble_eq_true rfl)
theorem dX9_worth_79 : decode cX9_worth 79 = .ok (.istore 4, 2) := by decide +kernel
theorem sX9_worth_79i : ab_X rom K cX9_worth 7 1 79 (v0 :: v1 :: v2 :: .int y :: v4 :: ls) (.int x :: st) hp = ab_X rom K cX9_worth 7 1 81 (v0 :: v1 :: v2 :: .int y :: .int x :: ls) st hp := ax_istore dX9_worth_79 (ax_lt (v := v4) rfl) (ab_nl_c1 (j := 3) (v := .int y) rfl (ab_c1_int _)) rfl rfl
theorem sX9_worth_79r : ab_X rom K cX9_worth 7 1 79 (v0 :: v1 :: v2 :: .ref a2 :: v4 :: ls) (.int x :: st) hp = ab_X rom K cX9_worth 7 1 81 (v0 :: v1 :: v2 :: .ref a2 :: .int x :: ls) st hp := ax_istore dX9_worth_79 (ax_lt (v := v4) rfl) (ab_nl_c1 (j := 3) (v := .ref a2) rfl (ab_c1_ref _)) rfl rfl
theorem sX9_worth_79n : ab_X rom K cX9_worth 7 1 79 (v0 :: v1 :: v2 :: .null :: v4 :: ls) (.int x :: st) hp = ab_X rom K cX9_worth 7 1 81 (v0 :: v1 :: v2 :: .null :: .int x :: ls) st hp := ax_istore dX9_worth_79 (ax_lt (v := v4) rfl) (ab_nl_c1 (j := 3) (v := .null) rfl ab_c1_null) rfl rfl
theorem dX9_worth_81 : decode cX9_worth 81 = .ok (.aload_n 0, 1) := by decide +kernel
theorem sX9_worth_81 : ab_X rom K cX9_worth 7 1 81 (.ref a :: ls) st hp = ab_X rom K cX9_worth 7 1 82 (.ref a :: ls) (.ref a :: st) hp := ax_aload_n dX9_worth_81 rfl rfl
theorem dX9_worth_82 : decode cX9_worth 82 = .ok (.iload_n 1, 1) := by decide +kernel
theorem sX9_worth_82 : ab_X rom K cX9_worth 7 1 82 (v0 :: .int x :: ls) st hp = ab_X rom K cX9_worth 7 1 83 (v0 :: .int x :: ls) (.int x :: st) hp := ax_iload_n dX9_worth_82 rfl rfl
theorem dX9_worth_83 : decode cX9_worth 83 = .ok (.aload_n 0, 1) := by decide +kernel
theorem sX9_worth_83 : ab_X rom K cX9_worth 7 1 83 (.ref a :: ls) st hp = ab_X rom K cX9_worth 7 1 84 (.ref a :: ls) (.ref a :: st) hp := ax_aload_n dX9_worth_83 rfl rfl
theorem dX9_worth_84 : decode cX9_worth 84 = .ok (.getfield 29, 3) := by decide +kernel
theorem sX9_worth_84 : ab_X rom K cX9_worth 7 1 84 ls (.ref a :: st) hp = (ab_fld hp a 7 14).bind (fun v => ab_X rom K cX9_worth 7 1 87 ls (v :: st) hp) := ax_getfield dX9_worth_84 kf_7_29 rfl
theorem dX9_worth_87 : decode cX9_worth 87 = .ok (.iload_n 2, 1) := by decide +kernel
theorem sX9_worth_87 : ab_X rom K cX9_worth 7 1 87 (v0 :: v1 :: .int x :: ls) st hp = ab_X rom K cX9_worth 7 1 88 (v0 :: v1 :: .int x :: ls) (.int x :: st) hp := ax_iload_n dX9_worth_87 rfl rfl
theorem dX9_worth_88 : decode cX9_worth 88 = .ok (.iaload, 1) := by decide +kernel
theorem sX9_worth_88 : ab_X rom K cX9_worth 7 1 88 ls (.int x :: .ref a :: st) hp = (ab_ard rom 0 hp a x).bind (fun v => ab_X rom K cX9_worth 7 1 89 ls (.int v :: st) hp) := ax_iaload dX9_worth_88 rfl
theorem dX9_worth_89 : decode cX9_worth 89 = .ok (.invokevirtual 168, 3) := by decide +kernel
theorem sX9_worth_89_0 : ab_X rom K cX9_worth 7 1 89 ls [w2, w1, .ref a] hp = if ab_iso hp a 7 = true then (K 183 (.ref a :: [w1, w2]) hp).bind (fun o => ab_X rom K cX9_worth 7 1 92 ls (o.1.toList ++ []) o.2) else none := ay_virtual (as := [w1, w2]) (st := []) dX9_worth_89 kc_7_168 rfl rfl (Nat.le_of_ble_eq_true rfl)
theorem sX9_worth_89_1 : ab_X rom K cX9_worth 7 1 89 ls [w2, w1, .ref a, v0] hp = if ab_iso hp a 7 = true then (K 183 (.ref a :: [w1, w2]) hp).bind (fun o => ab_X rom K cX9_worth 7 1 92 ls (o.1.toList ++ [v0]) o.2) else none := ay_virtual (as := [w1, w2]) (st := [v0]) dX9_worth_89 kc_7_168 rfl rfl (Nat.le_of_ble_eq_true rfl)
theorem sX9_worth_89_2 : ab_X rom K cX9_worth 7 1 89 ls [w2, w1, .ref a, v0, v1] hp = if ab_iso hp a 7 = true then (K 183 (.ref a :: [w1, w2]) hp).bind (fun o => ab_X rom K cX9_worth 7 1 92 ls (o.1.toList ++ [v0, v1]) o.2) else none := ay_virtual (as := [w1, w2]) (st := [v0, v1]) dX9_worth_89 kc_7_168 rfl rfl (Nat.le_of_ble_eq_true rfl)
theorem sX9_worth_89_3 : ab_X rom K cX9_worth 7 1 89 ls [w2, w1, .ref a, v0, v1, v2] hp = if ab_iso hp a 7 = true then (K 183 (.ref a :: [w1, w2]) hp).bind (fun o => ab_X rom K cX9_worth 7 1 92 ls (o.1.toList ++ [v0, v1, v2]) o.2) else none := ay_virtual (as := [w1, w2]) (st := [v0, v1, v2]) dX9_worth_89 kc_7_168 rfl rfl (Nat.le_of_ble_eq_true rfl)
theorem dX9_worth_92 : decode cX9_worth 92 = .ok (.istore 5, 2) := by decide +kernel
theorem sX9_worth_92i : ab_X rom K cX9_worth 7 1 92 (v0 :: v1 :: v2 :: v3 :: .int y :: v5 :: ls) (.int x :: st) hp = ab_X rom K cX9_worth 7 1 94 (v0 :: v1 :: v2 :: v3 :: .int y :: .int x :: ls) st hp := ax_istore dX9_worth_92 (ax_lt (v := v5) rfl) (ab_nl_c1 (j := 4) (v := .int y) rfl (ab_c1_int _)) rfl rfl
theorem sX9_worth_92r : ab_X rom K cX9_worth 7 1 92 (v0 :: v1 :: v2 :: v3 :: .ref a2 :: v5 :: ls) (.int x :: st) hp = ab_X rom K cX9_worth 7 1 94 (v0 :: v1 :: v2 :: v3 :: .ref a2 :: .int x :: ls) st hp := ax_istore dX9_worth_92 (ax_lt (v := v5) rfl) (ab_nl_c1 (j := 4) (v := .ref a2) rfl (ab_c1_ref _)) rfl rfl
theorem sX9_worth_92n : ab_X rom K cX9_worth 7 1 92 (v0 :: v1 :: v2 :: v3 :: .null :: v5 :: ls) (.int x :: st) hp = ab_X rom K cX9_worth 7 1 94 (v0 :: v1 :: v2 :: v3 :: .null :: .int x :: ls) st hp := ax_istore dX9_worth_92 (ax_lt (v := v5) rfl) (ab_nl_c1 (j := 4) (v := .null) rfl ab_c1_null) rfl rfl
theorem dX9_worth_94 : decode cX9_worth 94 = .ok (.iload_n 3, 1) := by decide +kernel
theorem sX9_worth_94 : ab_X rom K cX9_worth 7 1 94 (v0 :: v1 :: v2 :: .int x :: ls) st hp = ab_X rom K cX9_worth 7 1 95 (v0 :: v1 :: v2 :: .int x :: ls) (.int x :: st) hp := ax_iload_n dX9_worth_94 rfl rfl
theorem dX9_worth_95 : decode cX9_worth 95 = .ok (.ifCond .ne 13, 3) := by decide +kernel
theorem sX9_worth_95 : ab_X rom K cX9_worth 7 1 95 ls (.int x :: st) hp = if x = 0 then ab_X rom K cX9_worth 7 1 98 ls st hp else ab_X rom K cX9_worth 7 1 108 ls st hp := ax_if_ne dX9_worth_95 (by decide) rfl
theorem dX9_worth_98 : decode cX9_worth 98 = .ok (.iload 4, 2) := by decide +kernel
theorem sX9_worth_98 : ab_X rom K cX9_worth 7 1 98 (v0 :: v1 :: v2 :: v3 :: .int x :: ls) st hp = ab_X rom K cX9_worth 7 1 100 (v0 :: v1 :: v2 :: v3 :: .int x :: ls) (.int x :: st) hp := ax_iload dX9_worth_98 rfl rfl
theorem dX9_worth_100 : decode cX9_worth 100 = .ok (.iload 5, 2) := by decide +kernel
theorem sX9_worth_100 : ab_X rom K cX9_worth 7 1 100 (v0 :: v1 :: v2 :: v3 :: v4 :: .int x :: ls) st hp = ab_X rom K cX9_worth 7 1 102 (v0 :: v1 :: v2 :: v3 :: v4 :: .int x :: ls) (.int x :: st) hp := ax_iload dX9_worth_100 rfl rfl
theorem dX9_worth_102 : decode cX9_worth 102 = .ok (.invokestatic 226, 3) := by decide +kernel
theorem sX9_worth_102_0 : ab_X rom K cX9_worth 7 1 102 ls [w2, w1] hp = (K 132 [w1, w2] hp).bind (fun o => ab_X rom K cX9_worth 7 1 105 ls (o.1.toList ++ []) o.2) := ax_static (as := [w1, w2]) (st := []) dX9_worth_102 kc_7_226 rfl rfl (Nat.le_of_ble_eq_true rfl)
theorem sX9_worth_102_1 : ab_X rom K cX9_worth 7 1 102 ls [w2, w1, v0] hp = (K 132 [w1, w2] hp).bind (fun o => ab_X rom K cX9_worth 7 1 105 ls (o.1.toList ++ [v0]) o.2) := ax_static (as := [w1, w2]) (st := [v0]) dX9_worth_102 kc_7_226 rfl rfl (Nat.le_of_ble_eq_true rfl)
theorem sX9_worth_102_2 : ab_X rom K cX9_worth 7 1 102 ls [w2, w1, v0, v1] hp = (K 132 [w1, w2] hp).bind (fun o => ab_X rom K cX9_worth 7 1 105 ls (o.1.toList ++ [v0, v1]) o.2) := ax_static (as := [w1, w2]) (st := [v0, v1]) dX9_worth_102 kc_7_226 rfl rfl (Nat.le_of_ble_eq_true rfl)
theorem sX9_worth_102_3 : ab_X rom K cX9_worth 7 1 102 ls [w2, w1, v0, v1, v2] hp = (K 132 [w1, w2] hp).bind (fun o => ab_X rom K cX9_worth 7 1 105 ls (o.1.toList ++ [v0, v1, v2]) o.2) := ax_static (as := [w1, w2]) (st := [v0, v1, v2]) dX9_worth_102 kc_7_226 rfl rfl (Nat.le_of_ble_eq_true rfl)
theorem dX9_worth_105 : decode cX9_worth 105 = .ok (.goto 8, 3) := by decide +kernel
theorem sX9_worth_105 : ab_X rom K cX9_worth 7 1 105 ls st hp = ab_X rom K cX9_worth 7 1 113 ls st hp := ax_goto dX9_worth_105 (by decide)
theorem dX9_worth_108 : decode cX9_worth 108 = .ok (.iload 4, 2) := by decide +kernel
theorem sX9_worth_108 : ab_X rom K cX9_worth 7 1 108 (v0 :: v1 :: v2 :: v3 :: .int x :: ls) st hp = ab_X rom K cX9_worth 7 1 110 (v0 :: v1 :: v2 :: v3 :: .int x :: ls) (.int x :: st) hp := ax_iload dX9_worth_108 rfl rfl
theorem dX9_worth_110 : decode cX9_worth 110 = .ok (.iload 5, 2) := by decide +kernel
theorem sX9_worth_110 : ab_X rom K cX9_worth 7 1 110 (v0 :: v1 :: v2 :: v3 :: v4 :: .int x :: ls) st hp = ab_X rom K cX9_worth 7 1 112 (v0 :: v1 :: v2 :: v3 :: v4 :: .int x :: ls) (.int x :: st) hp := ax_iload dX9_worth_110 rfl rfl
theorem dX9_worth_112 : decode cX9_worth 112 = .ok (.iadd, 1) := by decide +kernel
theorem sX9_worth_112 : ab_X rom K cX9_worth 7 1 112 ls (.int y :: .int x :: st) hp = ab_X rom K cX9_worth 7 1 113 ls (.int (x + y) :: st) hp := ax_iadd dX9_worth_112 rfl
theorem dX9_worth_113 : decode cX9_worth 113 = .ok (.ireturn, 1) := by decide +kernel
theorem sX9_worth_113 : ab_X rom K cX9_worth 7 1 113 ls [.int x] hp = some (some (.int x), hp) := ax_iret dX9_worth_113 rfl
theorem tX9_worthOf : ab_mT[241]? = some (yX9_worthOf, cX9_worthOf, 5, 1, 7) := by decide +kernel
theorem mX9_worthOf {d : Nat} {a0 : Nat} {x0 : Int32} {x1 : Int32} : ab_M rom (d + 1) 241 [.ref a0, .int x0, .int x1] hp = ab_X rom (ab_M rom d) cX9_worthOf 7 1 0 [.ref a0, .int x0, .int x1, .null, .null] [] hp := ab_M_eq tX9_worthOf (Nat.le_of_ble_eq_true rfl)
theorem dX9_worthOf_0 : decode cX9_worthOf 0 = .ok (.aload_n 0, 1) := by decide +kernel
theorem sX9_worthOf_0 : ab_X rom K cX9_worthOf 7 1 0 (.ref a :: ls) st hp = ab_X rom K cX9_worthOf 7 1 1 (.ref a :: ls) (.ref a :: st) hp := ax_aload_n dX9_worthOf_0 rfl rfl
theorem dX9_worthOf_1 : decode cX9_worthOf 1 = .ok (.getfield 32, 3) := by decide +kernel
theorem sX9_worthOf_1 : ab_X rom K cX9_worthOf 7 1 1 ls (.ref a :: st) hp = (ab_fld hp a 7 16).bind (fun v => ab_X rom K cX9_worthOf 7 1 4 ls (v :: st) hp) := ax_getfield dX9_worthOf_1 kf_7_32 rfl
theorem dX9_worthOf_4 : decode cX9_worthOf 4 = .ok (.aload_n 0, 1) := by decide +kernel
theorem sX9_worthOf_4 : ab_X rom K cX9_worthOf 7 1 4 (.ref a :: ls) st hp = ab_X rom K cX9_worthOf 7 1 5 (.ref a :: ls) (.ref a :: st) hp := ax_aload_n dX9_worthOf_4 rfl rfl
theorem dX9_worthOf_5 : decode cX9_worthOf 5 = .ok (.getfield 26, 3) := by decide +kernel
theorem sX9_worthOf_5 : ab_X rom K cX9_worthOf 7 1 5 ls (.ref a :: st) hp = (ab_fld hp a 7 13).bind (fun v => ab_X rom K cX9_worthOf 7 1 8 ls (v :: st) hp) := ax_getfield dX9_worthOf_5 kf_7_26 rfl
theorem dX9_worthOf_8 : decode cX9_worthOf 8 = .ok (.iload_n 2, 1) := by decide +kernel
theorem sX9_worthOf_8 : ab_X rom K cX9_worthOf 7 1 8 (v0 :: v1 :: .int x :: ls) st hp = ab_X rom K cX9_worthOf 7 1 9 (v0 :: v1 :: .int x :: ls) (.int x :: st) hp := ax_iload_n dX9_worthOf_8 rfl rfl
theorem dX9_worthOf_9 : decode cX9_worthOf 9 = .ok (.iaload, 1) := by decide +kernel
theorem sX9_worthOf_9 : ab_X rom K cX9_worthOf 7 1 9 ls (.int x :: .ref a :: st) hp = (ab_ard rom 0 hp a x).bind (fun v => ab_X rom K cX9_worthOf 7 1 10 ls (.int v :: st) hp) := ax_iaload dX9_worthOf_9 rfl
theorem dX9_worthOf_10 : decode cX9_worthOf 10 = .ok (.iaload, 1) := by decide +kernel
theorem sX9_worthOf_10 : ab_X rom K cX9_worthOf 7 1 10 ls (.int x :: .ref a :: st) hp = (ab_ard rom 0 hp a x).bind (fun v => ab_X rom K cX9_worthOf 7 1 11 ls (.int v :: st) hp) := ax_iaload dX9_worthOf_10 rfl
theorem dX9_worthOf_11 : decode cX9_worthOf 11 = .ok (.istore_n 3, 1) := by decide +kernel
theorem sX9_worthOf_11i : ab_X rom K cX9_worthOf 7 1 11 (v0 :: v1 :: .int y :: v3 :: ls) (.int x :: st) hp = ab_X rom K cX9_worthOf 7 1 12 (v0 :: v1 :: .int y :: .int x :: ls) st hp := ax_istore_n dX9_worthOf_11 (ax_lt (v := v3) rfl) (ab_nl_c1 (j := 2) (v := .int y) rfl (ab_c1_int _)) rfl rfl
theorem sX9_worthOf_11r : ab_X rom K cX9_worthOf 7 1 11 (v0 :: v1 :: .ref a2 :: v3 :: ls) (.int x :: st) hp = ab_X rom K cX9_worthOf 7 1 12 (v0 :: v1 :: .ref a2 :: .int x :: ls) st hp := ax_istore_n dX9_worthOf_11 (ax_lt (v := v3) rfl) (ab_nl_c1 (j := 2) (v := .ref a2) rfl (ab_c1_ref _)) rfl rfl
theorem sX9_worthOf_11n : ab_X rom K cX9_worthOf 7 1 11 (v0 :: v1 :: .null :: v3 :: ls) (.int x :: st) hp = ab_X rom K cX9_worthOf 7 1 12 (v0 :: v1 :: .null :: .int x :: ls) st hp := ax_istore_n dX9_worthOf_11 (ax_lt (v := v3) rfl) (ab_nl_c1 (j := 2) (v := .null) rfl ab_c1_null) rfl rfl
theorem dX9_worthOf_12 : decode cX9_worthOf 12 = .ok (.aload_n 0, 1) := by decide +kernel
theorem sX9_worthOf_12 : ab_X rom K cX9_worthOf 7 1 12 (.ref a :: ls) st hp = ab_X rom K cX9_worthOf 7 1 13 (.ref a :: ls) (.ref a :: st) hp := ax_aload_n dX9_worthOf_12 rfl rfl
theorem dX9_worthOf_13 : decode cX9_worthOf 13 = .ok (.getfield 32, 3) := by decide +kernel
theorem sX9_worthOf_13 : ab_X rom K cX9_worthOf 7 1 13 ls (.ref a :: st) hp = (ab_fld hp a 7 16).bind (fun v => ab_X rom K cX9_worthOf 7 1 16 ls (v :: st) hp) := ax_getfield dX9_worthOf_13 kf_7_32 rfl
theorem dX9_worthOf_16 : decode cX9_worthOf 16 = .ok (.aload_n 0, 1) := by decide +kernel
theorem sX9_worthOf_16 : ab_X rom K cX9_worthOf 7 1 16 (.ref a :: ls) st hp = ab_X rom K cX9_worthOf 7 1 17 (.ref a :: ls) (.ref a :: st) hp := ax_aload_n dX9_worthOf_16 rfl rfl
theorem dX9_worthOf_17 : decode cX9_worthOf 17 = .ok (.getfield 29, 3) := by decide +kernel
theorem sX9_worthOf_17 : ab_X rom K cX9_worthOf 7 1 17 ls (.ref a :: st) hp = (ab_fld hp a 7 14).bind (fun v => ab_X rom K cX9_worthOf 7 1 20 ls (v :: st) hp) := ax_getfield dX9_worthOf_17 kf_7_29 rfl
theorem dX9_worthOf_20 : decode cX9_worthOf 20 = .ok (.iload_n 2, 1) := by decide +kernel
theorem sX9_worthOf_20 : ab_X rom K cX9_worthOf 7 1 20 (v0 :: v1 :: .int x :: ls) st hp = ab_X rom K cX9_worthOf 7 1 21 (v0 :: v1 :: .int x :: ls) (.int x :: st) hp := ax_iload_n dX9_worthOf_20 rfl rfl
theorem dX9_worthOf_21 : decode cX9_worthOf 21 = .ok (.iaload, 1) := by decide +kernel
theorem sX9_worthOf_21 : ab_X rom K cX9_worthOf 7 1 21 ls (.int x :: .ref a :: st) hp = (ab_ard rom 0 hp a x).bind (fun v => ab_X rom K cX9_worthOf 7 1 22 ls (.int v :: st) hp) := ax_iaload dX9_worthOf_21 rfl
theorem dX9_worthOf_22 : decode cX9_worthOf 22 = .ok (.iaload, 1) := by decide +kernel
theorem sX9_worthOf_22 : ab_X rom K cX9_worthOf 7 1 22 ls (.int x :: .ref a :: st) hp = (ab_ard rom 0 hp a x).bind (fun v => ab_X rom K cX9_worthOf 7 1 23 ls (.int v :: st) hp) := ax_iaload dX9_worthOf_22 rfl
theorem dX9_worthOf_23 : decode cX9_worthOf 23 = .ok (.istore 4, 2) := by decide +kernel
theorem sX9_worthOf_23i : ab_X rom K cX9_worthOf 7 1 23 (v0 :: v1 :: v2 :: .int y :: v4 :: ls) (.int x :: st) hp = ab_X rom K cX9_worthOf 7 1 25 (v0 :: v1 :: v2 :: .int y :: .int x :: ls) st hp := ax_istore dX9_worthOf_23 (ax_lt (v := v4) rfl) (ab_nl_c1 (j := 3) (v := .int y) rfl (ab_c1_int _)) rfl rfl
theorem sX9_worthOf_23r : ab_X rom K cX9_worthOf 7 1 23 (v0 :: v1 :: v2 :: .ref a2 :: v4 :: ls) (.int x :: st) hp = ab_X rom K cX9_worthOf 7 1 25 (v0 :: v1 :: v2 :: .ref a2 :: .int x :: ls) st hp := ax_istore dX9_worthOf_23 (ax_lt (v := v4) rfl) (ab_nl_c1 (j := 3) (v := .ref a2) rfl (ab_c1_ref _)) rfl rfl
theorem sX9_worthOf_23n : ab_X rom K cX9_worthOf 7 1 23 (v0 :: v1 :: v2 :: .null :: v4 :: ls) (.int x :: st) hp = ab_X rom K cX9_worthOf 7 1 25 (v0 :: v1 :: v2 :: .null :: .int x :: ls) st hp := ax_istore dX9_worthOf_23 (ax_lt (v := v4) rfl) (ab_nl_c1 (j := 3) (v := .null) rfl ab_c1_null) rfl rfl
theorem dX9_worthOf_25 : decode cX9_worthOf 25 = .ok (.iload_n 1, 1) := by decide +kernel
theorem sX9_worthOf_25 : ab_X rom K cX9_worthOf 7 1 25 (v0 :: .int x :: ls) st hp = ab_X rom K cX9_worthOf 7 1 26 (v0 :: .int x :: ls) (.int x :: st) hp := ax_iload_n dX9_worthOf_25 rfl rfl
theorem dX9_worthOf_26 : decode cX9_worthOf 26 = .ok (.iconst 2, 1) := by decide +kernel
theorem sX9_worthOf_26 : ab_X rom K cX9_worthOf 7 1 26 ls st hp = ab_X rom K cX9_worthOf 7 1 27 ls (.int 2 :: st) hp := ax_iconst dX9_worthOf_26 (by decide) rfl
theorem dX9_worthOf_27 : decode cX9_worthOf 27 = .ok (.if_icmp .ne 15, 3) := by decide +kernel
theorem sX9_worthOf_27 : ab_X rom K cX9_worthOf 7 1 27 ls (.int y :: .int x :: st) hp = if x = y then ab_X rom K cX9_worthOf 7 1 30 ls st hp else ab_X rom K cX9_worthOf 7 1 42 ls st hp := ax_icmp_ne dX9_worthOf_27 (by decide) rfl
theorem dX9_worthOf_30 : decode cX9_worthOf 30 = .ok (.iload_n 3, 1) := by decide +kernel
theorem sX9_worthOf_30 : ab_X rom K cX9_worthOf 7 1 30 (v0 :: v1 :: v2 :: .int x :: ls) st hp = ab_X rom K cX9_worthOf 7 1 31 (v0 :: v1 :: v2 :: .int x :: ls) (.int x :: st) hp := ax_iload_n dX9_worthOf_30 rfl rfl
theorem dX9_worthOf_31 : decode cX9_worthOf 31 = .ok (.iload 4, 2) := by decide +kernel
theorem sX9_worthOf_31 : ab_X rom K cX9_worthOf 7 1 31 (v0 :: v1 :: v2 :: v3 :: .int x :: ls) st hp = ab_X rom K cX9_worthOf 7 1 33 (v0 :: v1 :: v2 :: v3 :: .int x :: ls) (.int x :: st) hp := ax_iload dX9_worthOf_31 rfl rfl
theorem dX9_worthOf_33 : decode cX9_worthOf 33 = .ok (.iadd, 1) := by decide +kernel
theorem sX9_worthOf_33 : ab_X rom K cX9_worthOf 7 1 33 ls (.int y :: .int x :: st) hp = ab_X rom K cX9_worthOf 7 1 34 ls (.int (x + y) :: st) hp := ax_iadd dX9_worthOf_33 rfl
theorem dX9_worthOf_34 : decode cX9_worthOf 34 = .ok (.aload_n 0, 1) := by decide +kernel
theorem sX9_worthOf_34 : ab_X rom K cX9_worthOf 7 1 34 (.ref a :: ls) st hp = ab_X rom K cX9_worthOf 7 1 35 (.ref a :: ls) (.ref a :: st) hp := ax_aload_n dX9_worthOf_34 rfl rfl
theorem dX9_worthOf_35 : decode cX9_worthOf 35 = .ok (.getfield 210, 3) := by decide +kernel
theorem sX9_worthOf_35 : ab_X rom K cX9_worthOf 7 1 35 ls (.ref a :: st) hp = (ab_fld hp a 7 15).bind (fun v => ab_X rom K cX9_worthOf 7 1 38 ls (v :: st) hp) := ax_getfield dX9_worthOf_35 kf_7_210 rfl
theorem dX9_worthOf_38 : decode cX9_worthOf 38 = .ok (.irem, 1) := by decide +kernel
theorem sX9_worthOf_38 : ab_X rom K cX9_worthOf 7 1 38 ls (.int y :: .int x :: st) hp = if y = 0 then none else ab_X rom K cX9_worthOf 7 1 39 ls (.int (ab_rem x y) :: st) hp := ay_irem dX9_worthOf_38 rfl
theorem dX9_worthOf_39 : decode cX9_worthOf 39 = .ok (.goto 9, 3) := by decide +kernel
theorem sX9_worthOf_39 : ab_X rom K cX9_worthOf 7 1 39 ls st hp = ab_X rom K cX9_worthOf 7 1 48 ls st hp := ax_goto dX9_worthOf_39 (by decide)
theorem dX9_worthOf_42 : decode cX9_worthOf 42 = .ok (.iload_n 3, 1) := by decide +kernel
theorem sX9_worthOf_42 : ab_X rom K cX9_worthOf 7 1 42 (v0 :: v1 :: v2 :: .int x :: ls) st hp = ab_X rom K cX9_worthOf 7 1 43 (v0 :: v1 :: v2 :: .int x :: ls) (.int x :: st) hp := ax_iload_n dX9_worthOf_42 rfl rfl
theorem dX9_worthOf_43 : decode cX9_worthOf 43 = .ok (.iload 4, 2) := by decide +kernel
theorem sX9_worthOf_43 : ab_X rom K cX9_worthOf 7 1 43 (v0 :: v1 :: v2 :: v3 :: .int x :: ls) st hp = ab_X rom K cX9_worthOf 7 1 45 (v0 :: v1 :: v2 :: v3 :: .int x :: ls) (.int x :: st) hp := ax_iload dX9_worthOf_43 rfl rfl
theorem dX9_worthOf_45 : decode cX9_worthOf 45 = .ok (.invokestatic 226, 3) := by decide +kernel
theorem sX9_worthOf_45_0 : ab_X rom K cX9_worthOf 7 1 45 ls [w2, w1] hp = (K 132 [w1, w2] hp).bind (fun o => ab_X rom K cX9_worthOf 7 1 48 ls (o.1.toList ++ []) o.2) := ax_static (as := [w1, w2]) (st := []) dX9_worthOf_45 kc_7_226 rfl rfl (Nat.le_of_ble_eq_true rfl)
theorem sX9_worthOf_45_1 : ab_X rom K cX9_worthOf 7 1 45 ls [w2, w1, v0] hp = (K 132 [w1, w2] hp).bind (fun o => ab_X rom K cX9_worthOf 7 1 48 ls (o.1.toList ++ [v0]) o.2) := ax_static (as := [w1, w2]) (st := [v0]) dX9_worthOf_45 kc_7_226 rfl rfl (Nat.le_of_ble_eq_true rfl)
theorem sX9_worthOf_45_2 : ab_X rom K cX9_worthOf 7 1 45 ls [w2, w1, v0, v1] hp = (K 132 [w1, w2] hp).bind (fun o => ab_X rom K cX9_worthOf 7 1 48 ls (o.1.toList ++ [v0, v1]) o.2) := ax_static (as := [w1, w2]) (st := [v0, v1]) dX9_worthOf_45 kc_7_226 rfl rfl (Nat.le_of_ble_eq_true rfl)
theorem sX9_worthOf_45_3 : ab_X rom K cX9_worthOf 7 1 45 ls [w2, w1, v0, v1, v2] hp = (K 132 [w1, w2] hp).bind (fun o => ab_X rom K cX9_worthOf 7 1 48 ls (o.1.toList ++ [v0, v1, v2]) o.2) := ax_static (as := [w1, w2]) (st := [v0, v1, v2]) dX9_worthOf_45 kc_7_226 rfl rfl (Nat.le_of_ble_eq_true rfl)
theorem dX9_worthOf_48 : decode cX9_worthOf 48 = .ok (.ireturn, 1) := by decide +kernel
theorem sX9_worthOf_48 : ab_X rom K cX9_worthOf 7 1 48 ls [.int x] hp = some (some (.int x), hp) := ax_iret dX9_worthOf_48 rfl
end
