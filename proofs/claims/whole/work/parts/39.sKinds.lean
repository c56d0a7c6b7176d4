/-! FairLabels$Kinds: its methods step by step (printed by wip/whole/gen_steps.py) -/
section
variable {rom : List (List Int32)} {K : Nat → List Value → ab_H → Option ab_O} {ls st : List Value} {hp : ab_H} {x y z : Int32} {a a2 : Nat} {sp dp : Int32} {u w : Int64} {v0 v1 v2 v3 v4 v5 v6 v7 v8 v9 v10 v11 v12 v13 v14 v15 w1 w2 w3 w4 w5 w6 : Value}
theorem tX1_allOdd : ab_mT[242]? = some (yX1_allOdd, cX1_allOdd, 2, 2, 8) := by decide +kernel
theorem mX1_allOdd {d : Nat} {r0 : Nat} : ab_M rom (d + 1) 242 [.ref r0] hp = ab_X rom (ab_M rom d) cX1_allOdd 8 2 0 [.ref r0, .null] [] hp := ab_M_eq tX1_allOdd (Nat.le_of_ble_eq_true rfl)
theorem dX1_allOdd_0 : decode cX1_allOdd 0 = .ok (.iconst 0, 1) := by decide +kernel
theorem sX1_allOdd_0 : ab_X rom K cX1_allOdd 8 2 0 ls st hp = ab_X rom K cX1_allOdd 8 2 1 ls (.int 0 :: st) hp := ax_iconst dX1_allOdd_0 (by decide) rfl
theorem dX1_allOdd_1 : decode cX1_allOdd 1 = .ok (.istore_n 1, 1) := by decide +kernel
theorem sX1_allOdd_1i : ab_X rom K cX1_allOdd 8 2 1 (.int y :: v1 :: ls) (.int x :: st) hp = ab_X rom K cX1_allOdd 8 2 2 (.int y :: .int x :: ls) st hp := ax_istore_n dX1_allOdd_1 (ax_lt (v := v1) rfl) (ab_nl_c1 (j := 0) (v := .int y) rfl (ab_c1_int _)) rfl rfl
theorem sX1_allOdd_1r : ab_X rom K cX1_allOdd 8 2 1 (.ref a2 :: v1 :: ls) (.int x :: st) hp = ab_X rom K cX1_allOdd 8 2 2 (.ref a2 :: .int x :: ls) st hp := ax_istore_n dX1_allOdd_1 (ax_lt (v := v1) rfl) (ab_nl_c1 (j := 0) (v := .ref a2) rfl (ab_c1_ref _)) rfl rfl
theorem sX1_allOdd_1n : ab_X rom K cX1_allOdd 8 2 1 (.null :: v1 :: ls) (.int x :: st) hp = ab_X rom K cX1_allOdd 8 2 2 (.null :: .int x :: ls) st hp := ax_istore_n dX1_allOdd_1 (ax_lt (v := v1) rfl) (ab_nl_c1 (j := 0) (v := .null) rfl ab_c1_null) rfl rfl
theorem dX1_allOdd_2 : decode cX1_allOdd 2 = .ok (.iload_n 1, 1) := by decide +kernel
theorem sX1_allOdd_2 : ab_X rom K cX1_allOdd 8 2 2 (v0 :: .int x :: ls) st hp = ab_X rom K cX1_allOdd 8 2 3 (v0 :: .int x :: ls) (.int x :: st) hp := ax_iload_n dX1_allOdd_2 rfl rfl
theorem dX1_allOdd_3 : decode cX1_allOdd 3 = .ok (.aload_n 0, 1) := by decide +kernel
theorem sX1_allOdd_3 : ab_X rom K cX1_allOdd 8 2 3 (.ref a :: ls) st hp = ab_X rom K cX1_allOdd 8 2 4 (.ref a :: ls) (.ref a :: st) hp := ax_aload_n dX1_allOdd_3 rfl rfl
theorem dX1_allOdd_4 : decode cX1_allOdd 4 = .ok (.getfield 22, 3) := by decide +kernel
theorem sX1_allOdd_4 : ab_X rom K cX1_allOdd 8 2 4 ls (.ref a :: st) hp = (ab_fld hp a 1 1).bind (fun v => ab_X rom K cX1_allOdd 8 2 7 ls (v :: st) hp) := ax_getfield dX1_allOdd_4 kf_8_22 rfl
theorem dX1_allOdd_7 : decode cX1_allOdd 7 = .ok (.if_icmp .ge 21, 3) := by decide +kernel
theorem sX1_allOdd_7 : ab_X rom K cX1_allOdd 8 2 7 ls (.int y :: .int x :: st) hp = if x < y then ab_X rom K cX1_allOdd 8 2 10 ls st hp else ab_X rom K cX1_allOdd 8 2 28 ls st hp := ax_icmp_ge dX1_allOdd_7 (by decide) rfl
theorem dX1_allOdd_10 : decode cX1_allOdd 10 = .ok (.aload_n 0, 1) := by decide +kernel
theorem sX1_allOdd_10 : ab_X rom K cX1_allOdd 8 2 10 (.ref a :: ls) st hp = ab_X rom K cX1_allOdd 8 2 11 (.ref a :: ls) (.ref a :: st) hp := ax_aload_n dX1_allOdd_10 rfl rfl
theorem dX1_allOdd_11 : decode cX1_allOdd 11 = .ok (.iload_n 1, 1) := by decide +kernel
theorem sX1_allOdd_11 : ab_X rom K cX1_allOdd 8 2 11 (v0 :: .int x :: ls) st hp = ab_X rom K cX1_allOdd 8 2 12 (v0 :: .int x :: ls) (.int x :: st) hp := ax_iload_n dX1_allOdd_11 rfl rfl
theorem dX1_allOdd_12 : decode cX1_allOdd 12 = .ok (.invokevirtual 60, 3) := by decide +kernel
theorem sX1_allOdd_12_0 : ab_X rom K cX1_allOdd 8 2 12 ls [w1, .ref a] hp = if ab_iso hp a 1 = true then (K 18 (.ref a :: [w1]) hp).bind (fun o => ab_X rom K cX1_allOdd 8 2 15 ls (o.1.toList ++ []) o.2) else none := ay_virtual (as := [w1]) (st := []) dX1_allOdd_12 kc_8_60 rfl rfl (Nat.le_of_ble_eq_true rfl)
theorem sX1_allOdd_12_1 : ab_X rom K cX1_allOdd 8 2 12 ls [w1, .ref a, v0] hp = if ab_iso hp a 1 = true then (K 18 (.ref a :: [w1]) hp).bind (fun o => ab_X rom K cX1_allOdd 8 2 15 ls (o.1.toList ++ [v0]) o.2) else none := ay_virtual (as := [w1]) (st := [v0]) dX1_allOdd_12 kc_8_60 rfl rfl (Nat.le_of_ble_eq_true rfl)
theorem sX1_allOdd_12_2 : ab_X rom K cX1_allOdd 8 2 12 ls [w1, .ref a, v0, v1] hp = if ab_iso hp a 1 = true then (K 18 (.ref a :: [w1]) hp).bind (fun o => ab_X rom K cX1_allOdd 8 2 15 ls (o.1.toList ++ [v0, v1]) o.2) else none := ay_virtual (as := [w1]) (st := [v0, v1]) dX1_allOdd_12 kc_8_60 rfl rfl (Nat.le_of_ble_eq_true rfl)
theorem sX1_allOdd_12_3 : ab_X rom K cX1_allOdd 8 2 12 ls [w1, .ref a, v0, v1, v2] hp = if ab_iso hp a 1 = true then (K 18 (.ref a :: [w1]) hp).bind (fun o => ab_X rom K cX1_allOdd 8 2 15 ls (o.1.toList ++ [v0, v1, v2]) o.2) else none := ay_virtual (as := [w1]) (st := [v0, v1, v2]) dX1_allOdd_12 kc_8_60 rfl rfl (Nat.le_of_ble_eq_true rfl)
theorem dX1_allOdd_15 : decode cX1_allOdd 15 = .ok (.iconst 2, 1) := by decide +kernel
theorem sX1_allOdd_15 : ab_X rom K cX1_allOdd 8 2 15 ls st hp = ab_X rom K cX1_allOdd 8 2 16 ls (.int 2 :: st) hp := ax_iconst dX1_allOdd_15 (by decide) rfl
theorem dX1_allOdd_16 : decode cX1_allOdd 16 = .ok (.irem, 1) := by decide +kernel
theorem sX1_allOdd_16 : ab_X rom K cX1_allOdd 8 2 16 ls (.int y :: .int x :: st) hp = if y = 0 then none else ab_X rom K cX1_allOdd 8 2 17 ls (.int (ab_rem x y) :: st) hp := ay_irem dX1_allOdd_16 rfl
theorem dX1_allOdd_17 : decode cX1_allOdd 17 = .ok (.ifCond .ne 5, 3) := by decide +kernel
theorem sX1_allOdd_17 : ab_X rom K cX1_allOdd 8 2 17 ls (.int x :: st) hp = if x = 0 then ab_X rom K cX1_allOdd 8 2 20 ls st hp else ab_X rom K cX1_allOdd 8 2 22 ls st hp := ax_if_ne dX1_allOdd_17 (by decide) rfl
theorem dX1_allOdd_20 : decode cX1_allOdd 20 = .ok (.iconst 0, 1) := by decide +kernel
theorem sX1_allOdd_20 : ab_X rom K cX1_allOdd 8 2 20 ls st hp = ab_X rom K cX1_allOdd 8 2 21 ls (.int 0 :: st) hp := ax_iconst dX1_allOdd_20 (by decide) rfl
theorem dX1_allOdd_21 : decode cX1_allOdd 21 = .ok (.ireturn, 1) := by decide +kernel
theorem sX1_allOdd_21 : ab_X rom K cX1_allOdd 8 2 21 ls [.int x] hp = if x = 0 ∨ x = 1 then some (some (.int x), hp) else none := ay_zret dX1_allOdd_21 rfl
theorem dX1_allOdd_22 : decode cX1_allOdd 22 = .ok (.iinc 1 1, 3) := by decide +kernel
theorem sX1_allOdd_22i : ab_X rom K cX1_allOdd 8 2 22 (.int y :: .int x :: ls) st hp = ab_X rom K cX1_allOdd 8 2 25 (.int y :: .int (x + 1) :: ls) st hp := ax_iinc dX1_allOdd_22 rfl (ab_nl_c1 (j := 0) (v := .int y) rfl (ab_c1_int _)) (by decide) rfl rfl
theorem sX1_allOdd_22r : ab_X rom K cX1_allOdd 8 2 22 (.ref a2 :: .int x :: ls) st hp = ab_X rom K cX1_allOdd 8 2 25 (.ref a2 :: .int (x + 1) :: ls) st hp := ax_iinc dX1_allOdd_22 rfl (ab_nl_c1 (j := 0) (v := .ref a2) rfl (ab_c1_ref _)) (by decide) rfl rfl
theorem sX1_allOdd_22n : ab_X rom K cX1_allOdd 8 2 22 (.null :: .int x :: ls) st hp = ab_X rom K cX1_allOdd 8 2 25 (.null :: .int (x + 1) :: ls) st hp := ax_iinc dX1_allOdd_22 rfl (ab_nl_c1 (j := 0) (v := .null) rfl ab_c1_null) (by decide) rfl rfl
theorem dX1_allOdd_25 : decode cX1_allOdd 25 = .ok (.goto (-23), 3) := by decide +kernel
theorem sX1_allOdd_25 : ab_X rom K cX1_allOdd 8 2 25 ls st hp = ab_X rom K cX1_allOdd 8 2 2 ls st hp := ax_goto dX1_allOdd_25 (by decide)
theorem dX1_allOdd_28 : decode cX1_allOdd 28 = .ok (.iconst 1, 1) := by decide +kernel
theorem sX1_allOdd_28 : ab_X rom K cX1_allOdd 8 2 28 ls st hp = ab_X rom K cX1_allOdd 8 2 29 ls (.int 1 :: st) hp := ax_iconst dX1_allOdd_28 (by decide) rfl
theorem dX1_allOdd_29 : decode cX1_allOdd 29 = .ok (.ireturn, 1) := by decide +kernel
theorem sX1_allOdd_29 : ab_X rom K cX1_allOdd 8 2 29 ls [.int x] hp = if x = 0 ∨ x = 1 then some (some (.int x), hp) else none := ay_zret dX1_allOdd_29 rfl
theorem tX1_edgeOf : ab_mT[243]? = some (yX1_edgeOf, cX1_edgeOf, 2, 1, 8) := by decide +kernel
theorem mX1_edgeOf {d : Nat} {r0 : Nat} : ab_M rom (d + 1) 243 [.ref r0] hp = ab_X rom (ab_M rom d) cX1_edgeOf 8 1 0 [.ref r0, .null] [] hp := ab_M_eq tX1_edgeOf (Nat.le_of_ble_eq_true rfl)
theorem dX1_edgeOf_0 : decode cX1_edgeOf 0 = .ok (.aload_n 0, 1) := by decide +kernel
theorem sX1_edgeOf_0 : ab_X rom K cX1_edgeOf 8 1 0 (.ref a :: ls) st hp = ab_X rom K cX1_edgeOf 8 1 1 (.ref a :: ls) (.ref a :: st) hp := ax_aload_n dX1_edgeOf_0 rfl rfl
theorem dX1_edgeOf_1 : decode cX1_edgeOf 1 = .ok (.getfield 22, 3) := by decide +kernel
theorem sX1_edgeOf_1 : ab_X rom K cX1_edgeOf 8 1 1 ls (.ref a :: st) hp = (ab_fld hp a 1 1).bind (fun v => ab_X rom K cX1_edgeOf 8 1 4 ls (v :: st) hp) := ax_getfield dX1_edgeOf_1 kf_8_22 rfl
theorem dX1_edgeOf_4 : decode cX1_edgeOf 4 = .ok (.ifCond .eq 11, 3) := by decide +kernel
theorem sX1_edgeOf_4 : ab_X rom K cX1_edgeOf 8 1 4 ls (.int x :: st) hp = if x = 0 then ab_X rom K cX1_edgeOf 8 1 15 ls st hp else ab_X rom K cX1_edgeOf 8 1 7 ls st hp := ax_if_eq dX1_edgeOf_4 (by decide) rfl
theorem dX1_edgeOf_7 : decode cX1_edgeOf 7 = .ok (.aload_n 0, 1) := by decide +kernel
theorem sX1_edgeOf_7 : ab_X rom K cX1_edgeOf 8 1 7 (.ref a :: ls) st hp = ab_X rom K cX1_edgeOf 8 1 8 (.ref a :: ls) (.ref a :: st) hp := ax_aload_n dX1_edgeOf_7 rfl rfl
theorem dX1_edgeOf_8 : decode cX1_edgeOf 8 = .ok (.iconst 1, 1) := by decide +kernel
theorem sX1_edgeOf_8 : ab_X rom K cX1_edgeOf 8 1 8 ls st hp = ab_X rom K cX1_edgeOf 8 1 9 ls (.int 1 :: st) hp := ax_iconst dX1_edgeOf_8 (by decide) rfl
theorem dX1_edgeOf_9 : decode cX1_edgeOf 9 = .ok (.invokestatic 103, 3) := by decide +kernel
theorem sX1_edgeOf_9_0 : ab_X rom K cX1_edgeOf 8 1 9 ls [w2, w1] hp = (K 251 [w1, w2] hp).bind (fun o => ab_X rom K cX1_edgeOf 8 1 12 ls (o.1.toList ++ []) o.2) := ax_static (as := [w1, w2]) (st := []) dX1_edgeOf_9 kc_8_103 rfl rfl (Nat.le_of_ble_eq_true rfl)
theorem sX1_edgeOf_9_1 : ab_X rom K cX1_edgeOf 8 1 9 ls [w2, w1, v0] hp = (K 251 [w1, w2] hp).bind (fun o => ab_X rom K cX1_edgeOf 8 1 12 ls (o.1.toList ++ [v0]) o.2) := ax_static (as := [w1, w2]) (st := [v0]) dX1_edgeOf_9 kc_8_103 rfl rfl (Nat.le_of_ble_eq_true rfl)
theorem sX1_edgeOf_9_2 : ab_X rom K cX1_edgeOf 8 1 9 ls [w2, w1, v0, v1] hp = (K 251 [w1, w2] hp).bind (fun o => ab_X rom K cX1_edgeOf 8 1 12 ls (o.1.toList ++ [v0, v1]) o.2) := ax_static (as := [w1, w2]) (st := [v0, v1]) dX1_edgeOf_9 kc_8_103 rfl rfl (Nat.le_of_ble_eq_true rfl)
theorem sX1_edgeOf_9_3 : ab_X rom K cX1_edgeOf 8 1 9 ls [w2, w1, v0, v1, v2] hp = (K 251 [w1, w2] hp).bind (fun o => ab_X rom K cX1_edgeOf 8 1 12 ls (o.1.toList ++ [v0, v1, v2]) o.2) := ax_static (as := [w1, w2]) (st := [v0, v1, v2]) dX1_edgeOf_9 kc_8_103 rfl rfl (Nat.le_of_ble_eq_true rfl)
theorem dX1_edgeOf_12 : decode cX1_edgeOf 12 = .ok (.ifCond .eq 5, 3) := by decide +kernel
theorem sX1_edgeOf_12 : ab_X rom K cX1_edgeOf 8 1 12 ls (.int x :: st) hp = if x = 0 then ab_X rom K cX1_edgeOf 8 1 17 ls st hp else ab_X rom K cX1_edgeOf 8 1 15 ls st hp := ax_if_eq dX1_edgeOf_12 (by decide) rfl
theorem dX1_edgeOf_15 : decode cX1_edgeOf 15 = .ok (.iconst (-1), 1) := by decide +kernel
theorem sX1_edgeOf_15 : ab_X rom K cX1_edgeOf 8 1 15 ls st hp = ab_X rom K cX1_edgeOf 8 1 16 ls (.int (-1) :: st) hp := ax_iconst dX1_edgeOf_15 (by decide) rfl
theorem dX1_edgeOf_16 : decode cX1_edgeOf 16 = .ok (.ireturn, 1) := by decide +kernel
theorem sX1_edgeOf_16 : ab_X rom K cX1_edgeOf 8 1 16 ls [.int x] hp = some (some (.int x), hp) := ax_iret dX1_edgeOf_16 rfl
theorem dX1_edgeOf_17 : decode cX1_edgeOf 17 = .ok (.iconst 0, 1) := by decide +kernel
theorem sX1_edgeOf_17 : ab_X rom K cX1_edgeOf 8 1 17 ls st hp = ab_X rom K cX1_edgeOf 8 1 18 ls (.int 0 :: st) hp := ax_iconst dX1_edgeOf_17 (by decide) rfl
theorem dX1_edgeOf_18 : decode cX1_edgeOf 18 = .ok (.istore_n 1, 1) := by decide +kernel
theorem sX1_edgeOf_18i : ab_X rom K cX1_edgeOf 8 1 18 (.int y :: v1 :: ls) (.int x :: st) hp = ab_X rom K cX1_edgeOf 8 1 19 (.int y :: .int x :: ls) st hp := ax_istore_n dX1_edgeOf_18 (ax_lt (v := v1) rfl) (ab_nl_c1 (j := 0) (v := .int y) rfl (ab_c1_int _)) rfl rfl
theorem sX1_edgeOf_18r : ab_X rom K cX1_edgeOf 8 1 18 (.ref a2 :: v1 :: ls) (.int x :: st) hp = ab_X rom K cX1_edgeOf 8 1 19 (.ref a2 :: .int x :: ls) st hp := ax_istore_n dX1_edgeOf_18 (ax_lt (v := v1) rfl) (ab_nl_c1 (j := 0) (v := .ref a2) rfl (ab_c1_ref _)) rfl rfl
theorem sX1_edgeOf_18n : ab_X rom K cX1_edgeOf 8 1 18 (.null :: v1 :: ls) (.int x :: st) hp = ab_X rom K cX1_edgeOf 8 1 19 (.null :: .int x :: ls) st hp := ax_istore_n dX1_edgeOf_18 (ax_lt (v := v1) rfl) (ab_nl_c1 (j := 0) (v := .null) rfl ab_c1_null) rfl rfl
theorem dX1_edgeOf_19 : decode cX1_edgeOf 19 = .ok (.iload_n 1, 1) := by decide +kernel
theorem sX1_edgeOf_19 : ab_X rom K cX1_edgeOf 8 1 19 (v0 :: .int x :: ls) st hp = ab_X rom K cX1_edgeOf 8 1 20 (v0 :: .int x :: ls) (.int x :: st) hp := ax_iload_n dX1_edgeOf_19 rfl rfl
theorem dX1_edgeOf_20 : decode cX1_edgeOf 20 = .ok (.aload_n 0, 1) := by decide +kernel
theorem sX1_edgeOf_20 : ab_X rom K cX1_edgeOf 8 1 20 (.ref a :: ls) st hp = ab_X rom K cX1_edgeOf 8 1 21 (.ref a :: ls) (.ref a :: st) hp := ax_aload_n dX1_edgeOf_20 rfl rfl
theorem dX1_edgeOf_21 : decode cX1_edgeOf 21 = .ok (.getfield 22, 3) := by decide +kernel
theorem sX1_edgeOf_21 : ab_X rom K cX1_edgeOf 8 1 21 ls (.ref a :: st) hp = (ab_fld hp a 1 1).bind (fun v => ab_X rom K cX1_edgeOf 8 1 24 ls (v :: st) hp) := ax_getfield dX1_edgeOf_21 kf_8_22 rfl
theorem dX1_edgeOf_24 : decode cX1_edgeOf 24 = .ok (.if_icmp .ge 44, 3) := by decide +kernel
theorem sX1_edgeOf_24 : ab_X rom K cX1_edgeOf 8 1 24 ls (.int y :: .int x :: st) hp = if x < y then ab_X rom K cX1_edgeOf 8 1 27 ls st hp else ab_X rom K cX1_edgeOf 8 1 68 ls st hp := ax_icmp_ge dX1_edgeOf_24 (by decide) rfl
theorem dX1_edgeOf_27 : decode cX1_edgeOf 27 = .ok (.aload_n 0, 1) := by decide +kernel
theorem sX1_edgeOf_27 : ab_X rom K cX1_edgeOf 8 1 27 (.ref a :: ls) st hp = ab_X rom K cX1_edgeOf 8 1 28 (.ref a :: ls) (.ref a :: st) hp := ax_aload_n dX1_edgeOf_27 rfl rfl
theorem dX1_edgeOf_28 : decode cX1_edgeOf 28 = .ok (.iload_n 1, 1) := by decide +kernel
theorem sX1_edgeOf_28 : ab_X rom K cX1_edgeOf 8 1 28 (v0 :: .int x :: ls) st hp = ab_X rom K cX1_edgeOf 8 1 29 (v0 :: .int x :: ls) (.int x :: st) hp := ax_iload_n dX1_edgeOf_28 rfl rfl
theorem dX1_edgeOf_29 : decode cX1_edgeOf 29 = .ok (.invokevirtual 60, 3) := by decide +kernel
theorem sX1_edgeOf_29_0 : ab_X rom K cX1_edgeOf 8 1 29 ls [w1, .ref a] hp = if ab_iso hp a 1 = true then (K 18 (.ref a :: [w1]) hp).bind (fun o => ab_X rom K cX1_edgeOf 8 1 32 ls (o.1.toList ++ []) o.2) else none := ay_virtual (as := [w1]) (st := []) dX1_edgeOf_29 kc_8_60 rfl rfl (Nat.le_of_ble_eq_true rfl)
theorem sX1_edgeOf_29_1 : ab_X rom K cX1_edgeOf 8 1 29 ls [w1, .ref a, v0] hp = if ab_iso hp a 1 = true then (K 18 (.ref a :: [w1]) hp).bind (fun o => ab_X rom K cX1_edgeOf 8 1 32 ls (o.1.toList ++ [v0]) o.2) else none := ay_virtual (as := [w1]) (st := [v0]) dX1_edgeOf_29 kc_8_60 rfl rfl (Nat.le_of_ble_eq_true rfl)
theorem sX1_edgeOf_29_2 : ab_X rom K cX1_edgeOf 8 1 29 ls [w1, .ref a, v0, v1] hp = if ab_iso hp a 1 = true then (K 18 (.ref a :: [w1]) hp).bind (fun o => ab_X rom K cX1_edgeOf 8 1 32 ls (o.1.toList ++ [v0, v1]) o.2) else none := ay_virtual (as := [w1]) (st := [v0, v1]) dX1_edgeOf_29 kc_8_60 rfl rfl (Nat.le_of_ble_eq_true rfl)
theorem sX1_edgeOf_29_3 : ab_X rom K cX1_edgeOf 8 1 29 ls [w1, .ref a, v0, v1, v2] hp = if ab_iso hp a 1 = true then (K 18 (.ref a :: [w1]) hp).bind (fun o => ab_X rom K cX1_edgeOf 8 1 32 ls (o.1.toList ++ [v0, v1, v2]) o.2) else none := ay_virtual (as := [w1]) (st := [v0, v1, v2]) dX1_edgeOf_29 kc_8_60 rfl rfl (Nat.le_of_ble_eq_true rfl)
theorem dX1_edgeOf_32 : decode cX1_edgeOf 32 = .ok (.iconst 1, 1) := by decide +kernel
theorem sX1_edgeOf_32 : ab_X rom K cX1_edgeOf 8 1 32 ls st hp = ab_X rom K cX1_edgeOf 8 1 33 ls (.int 1 :: st) hp := ax_iconst dX1_edgeOf_32 (by decide) rfl
theorem dX1_edgeOf_33 : decode cX1_edgeOf 33 = .ok (.if_icmp .ne 29, 3) := by decide +kernel
theorem sX1_edgeOf_33 : ab_X rom K cX1_edgeOf 8 1 33 ls (.int y :: .int x :: st) hp = if x = y then ab_X rom K cX1_edgeOf 8 1 36 ls st hp else ab_X rom K cX1_edgeOf 8 1 62 ls st hp := ax_icmp_ne dX1_edgeOf_33 (by decide) rfl
theorem dX1_edgeOf_36 : decode cX1_edgeOf 36 = .ok (.aload_n 0, 1) := by decide +kernel
theorem sX1_edgeOf_36 : ab_X rom K cX1_edgeOf 8 1 36 (.ref a :: ls) st hp = ab_X rom K cX1_edgeOf 8 1 37 (.ref a :: ls) (.ref a :: st) hp := ax_aload_n dX1_edgeOf_36 rfl rfl
theorem dX1_edgeOf_37 : decode cX1_edgeOf 37 = .ok (.getfield 49, 3) := by decide +kernel
theorem sX1_edgeOf_37 : ab_X rom K cX1_edgeOf 8 1 37 ls (.ref a :: st) hp = (ab_fld hp a 1 4).bind (fun v => ab_X rom K cX1_edgeOf 8 1 40 ls (v :: st) hp) := ax_getfield dX1_edgeOf_37 kf_8_49 rfl
theorem dX1_edgeOf_40 : decode cX1_edgeOf 40 = .ok (.aload_n 0, 1) := by decide +kernel
theorem sX1_edgeOf_40 : ab_X rom K cX1_edgeOf 8 1 40 (.ref a :: ls) st hp = ab_X rom K cX1_edgeOf 8 1 41 (.ref a :: ls) (.ref a :: st) hp := ax_aload_n dX1_edgeOf_40 rfl rfl
theorem dX1_edgeOf_41 : decode cX1_edgeOf 41 = .ok (.getfield 74, 3) := by decide +kernel
theorem sX1_edgeOf_41 : ab_X rom K cX1_edgeOf 8 1 41 ls (.ref a :: st) hp = (ab_fld hp a 1 2).bind (fun v => ab_X rom K cX1_edgeOf 8 1 44 ls (v :: st) hp) := ax_getfield dX1_edgeOf_41 kf_8_74 rfl
theorem dX1_edgeOf_44 : decode cX1_edgeOf 44 = .ok (.iload_n 1, 1) := by decide +kernel
theorem sX1_edgeOf_44 : ab_X rom K cX1_edgeOf 8 1 44 (v0 :: .int x :: ls) st hp = ab_X rom K cX1_edgeOf 8 1 45 (v0 :: .int x :: ls) (.int x :: st) hp := ax_iload_n dX1_edgeOf_44 rfl rfl
theorem dX1_edgeOf_45 : decode cX1_edgeOf 45 = .ok (.iaload, 1) := by decide +kernel
theorem sX1_edgeOf_45 : ab_X rom K cX1_edgeOf 8 1 45 ls (.int x :: .ref a :: st) hp = (ab_ard rom 0 hp a x).bind (fun v => ab_X rom K cX1_edgeOf 8 1 46 ls (.int v :: st) hp) := ax_iaload dX1_edgeOf_45 rfl
theorem dX1_edgeOf_46 : decode cX1_edgeOf 46 = .ok (.iaload, 1) := by decide +kernel
theorem sX1_edgeOf_46 : ab_X rom K cX1_edgeOf 8 1 46 ls (.int x :: .ref a :: st) hp = (ab_ard rom 0 hp a x).bind (fun v => ab_X rom K cX1_edgeOf 8 1 47 ls (.int v :: st) hp) := ax_iaload dX1_edgeOf_46 rfl
theorem dX1_edgeOf_47 : decode cX1_edgeOf 47 = .ok (.aload_n 0, 1) := by decide +kernel
theorem sX1_edgeOf_47 : ab_X rom K cX1_edgeOf 8 1 47 (.ref a :: ls) st hp = ab_X rom K cX1_edgeOf 8 1 48 (.ref a :: ls) (.ref a :: st) hp := ax_aload_n dX1_edgeOf_47 rfl rfl
theorem dX1_edgeOf_48 : decode cX1_edgeOf 48 = .ok (.getfield 49, 3) := by decide +kernel
theorem sX1_edgeOf_48 : ab_X rom K cX1_edgeOf 8 1 48 ls (.ref a :: st) hp = (ab_fld hp a 1 4).bind (fun v => ab_X rom K cX1_edgeOf 8 1 51 ls (v :: st) hp) := ax_getfield dX1_edgeOf_48 kf_8_49 rfl
theorem dX1_edgeOf_51 : decode cX1_edgeOf 51 = .ok (.aload_n 0, 1) := by decide +kernel
theorem sX1_edgeOf_51 : ab_X rom K cX1_edgeOf 8 1 51 (.ref a :: ls) st hp = ab_X rom K cX1_edgeOf 8 1 52 (.ref a :: ls) (.ref a :: st) hp := ax_aload_n dX1_edgeOf_51 rfl rfl
theorem dX1_edgeOf_52 : decode cX1_edgeOf 52 = .ok (.getfield 77, 3) := by decide +kernel
theorem sX1_edgeOf_52 : ab_X rom K cX1_edgeOf 8 1 52 ls (.ref a :: st) hp = (ab_fld hp a 1 3).bind (fun v => ab_X rom K cX1_edgeOf 8 1 55 ls (v :: st) hp) := ax_getfield dX1_edgeOf_52 kf_8_77 rfl
theorem dX1_edgeOf_55 : decode cX1_edgeOf 55 = .ok (.iload_n 1, 1) := by decide +kernel
theorem sX1_edgeOf_55 : ab_X rom K cX1_edgeOf 8 1 55 (v0 :: .int x :: ls) st hp = ab_X rom K cX1_edgeOf 8 1 56 (v0 :: .int x :: ls) (.int x :: st) hp := ax_iload_n dX1_edgeOf_55 rfl rfl
theorem dX1_edgeOf_56 : decode cX1_edgeOf 56 = .ok (.iaload, 1) := by decide +kernel
theorem sX1_edgeOf_56 : ab_X rom K cX1_edgeOf 8 1 56 ls (.int x :: .ref a :: st) hp = (ab_ard rom 0 hp a x).bind (fun v => ab_X rom K cX1_edgeOf 8 1 57 ls (.int v :: st) hp) := ax_iaload dX1_edgeOf_56 rfl
theorem dX1_edgeOf_57 : decode cX1_edgeOf 57 = .ok (.iaload, 1) := by decide +kernel
theorem sX1_edgeOf_57 : ab_X rom K cX1_edgeOf 8 1 57 ls (.int x :: .ref a :: st) hp = (ab_ard rom 0 hp a x).bind (fun v => ab_X rom K cX1_edgeOf 8 1 58 ls (.int v :: st) hp) := ax_iaload dX1_edgeOf_57 rfl
theorem dX1_edgeOf_58 : decode cX1_edgeOf 58 = .ok (.invokestatic 80, 3) := by decide +kernel
theorem sX1_edgeOf_58_0 : ab_X rom K cX1_edgeOf 8 1 58 ls [.int y, .int x] hp = ab_X rom K cX1_edgeOf 8 1 61 ls [.int (ab_min x y)] hp := ax_min dX1_edgeOf_58 kc_8_80 rfl (Nat.le_of_ble_eq_true rfl)
theorem sX1_edgeOf_58_1 : ab_X rom K cX1_edgeOf 8 1 58 ls [.int y, .int x, v0] hp = ab_X rom K cX1_edgeOf 8 1 61 ls [.int (ab_min x y), v0] hp := ax_min dX1_edgeOf_58 kc_8_80 rfl (Nat.le_of_ble_eq_true rfl)
theorem sX1_edgeOf_58_2 : ab_X rom K cX1_edgeOf 8 1 58 ls [.int y, .int x, v0, v1] hp = ab_X rom K cX1_edgeOf 8 1 61 ls [.int (ab_min x y), v0, v1] hp := ax_min dX1_edgeOf_58 kc_8_80 rfl (Nat.le_of_ble_eq_true rfl)
theorem sX1_edgeOf_58_3 : ab_X rom K cX1_edgeOf 8 1 58 ls [.int y, .int x, v0, v1, v2] hp = ab_X rom K cX1_edgeOf 8 1 61 ls [.int (ab_min x y), v0, v1, v2] hp := ax_min dX1_edgeOf_58 kc_8_80 rfl (Nat.le_of_ble_eq_true rfl)
theorem dX1_edgeOf_61 : decode cX1_edgeOf 61 = .ok (.ireturn, 1) := by decide +kernel
theorem sX1_edgeOf_61 : ab_X rom K cX1_edgeOf 8 1 61 ls [.int x] hp = some (some (.int x), hp) := ax_iret dX1_edgeOf_61 rfl
theorem dX1_edgeOf_62 : decode cX1_edgeOf 62 = .ok (.iinc 1 1, 3) := by decide +kernel
theorem sX1_edgeOf_62i : ab_X rom K cX1_edgeOf 8 1 62 (.int y :: .int x :: ls) st hp = ab_X rom K cX1_edgeOf 8 1 65 (.int y :: .int (x + 1) :: ls) st hp := ax_iinc dX1_edgeOf_62 rfl (ab_nl_c1 (j := 0) (v := .int y) rfl (ab_c1_int _)) (by decide) rfl rfl
theorem sX1_edgeOf_62r : ab_X rom K cX1_edgeOf 8 1 62 (.ref a2 :: .int x :: ls) st hp = ab_X rom K cX1_edgeOf 8 1 65 (.ref a2 :: .int (x + 1) :: ls) st hp := ax_iinc dX1_edgeOf_62 rfl (ab_nl_c1 (j := 0) (v := .ref a2) rfl (ab_c1_ref _)) (by decide) rfl rfl
theorem sX1_edgeOf_62n : ab_X rom K cX1_edgeOf 8 1 62 (.null :: .int x :: ls) st hp = ab_X rom K cX1_edgeOf 8 1 65 (.null :: .int (x + 1) :: ls) st hp := ax_iinc dX1_edgeOf_62 rfl (ab_nl_c1 (j := 0) (v := .null) rfl ab_c1_null) (by decide) rfl rfl
theorem dX1_edgeOf_65 : decode cX1_edgeOf 65 = .ok (.goto (-46), 3) := by decide +kernel
theorem sX1_edgeOf_65 : ab_X rom K cX1_edgeOf 8 1 65 ls st hp = ab_X rom K cX1_edgeOf 8 1 19 ls st hp := ax_goto dX1_edgeOf_65 (by decide)
theorem dX1_edgeOf_68 : decode cX1_edgeOf 68 = .ok (.iconst (-1), 1) := by decide +kernel
theorem sX1_edgeOf_68 : ab_X rom K cX1_edgeOf 8 1 68 ls st hp = ab_X rom K cX1_edgeOf 8 1 69 ls (.int (-1) :: st) hp := ax_iconst dX1_edgeOf_68 (by decide) rfl
theorem dX1_edgeOf_69 : decode cX1_edgeOf 69 = .ok (.ireturn, 1) := by decide +kernel
theorem sX1_edgeOf_69 : ab_X rom K cX1_edgeOf 8 1 69 ls [.int x] hp = some (some (.int x), hp) := ax_iret dX1_edgeOf_69 rfl
theorem tX1_greatestLabel : ab_mT[244]? = some (yX1_greatestLabel, cX1_greatestLabel, 2, 1, 8) := by decide +kernel
theorem mX1_greatestLabel {d : Nat} {x0 : Int32} {x1 : Int32} : ab_M rom (d + 1) 244 [.int x0, .int x1] hp = ab_X rom (ab_M rom d) cX1_greatestLabel 8 1 0 [.int x0, .int x1] [] hp := ab_M_eq tX1_greatestLabel (Nat.le_of_ble_eq_true rfl)
theorem dX1_greatestLabel_0 : decode cX1_greatestLabel 0 = .ok (.iload_n 0, 1) := by decide +kernel
theorem sX1_greatestLabel_0 : ab_X rom K cX1_greatestLabel 8 1 0 (.int x :: ls) st hp = ab_X rom K cX1_greatestLabel 8 1 1 (.int x :: ls) (.int x :: st) hp := ax_iload_n dX1_greatestLabel_0 rfl rfl
theorem dX1_greatestLabel_1 : decode cX1_greatestLabel 1 = .ok (.tableswitch 39 2 4 #[27, 31, 37], 27) := by decide +kernel
theorem sX1_greatestLabel_1_d (h : x.toInt < 2 ∨ 4 < x.toInt) : ab_X rom K cX1_greatestLabel 8 1 1 ls (.int x :: st) hp = ab_X rom K cX1_greatestLabel 8 1 40 ls st hp := ax_tsw_out dX1_greatestLabel_1 (by decide) h
theorem sX1_greatestLabel_1_0 : ab_X rom K cX1_greatestLabel 8 1 1 ls (.int 2 :: st) hp = ab_X rom K cX1_greatestLabel 8 1 28 ls st hp := ax_tsw_in (off := 27) dX1_greatestLabel_1 (by decide) (by decide) (by decide)
theorem sX1_greatestLabel_1_1 : ab_X rom K cX1_greatestLabel 8 1 1 ls (.int 3 :: st) hp = ab_X rom K cX1_greatestLabel 8 1 32 ls st hp := ax_tsw_in (off := 31) dX1_greatestLabel_1 (by decide) (by decide) (by decide)
theorem sX1_greatestLabel_1_2 : ab_X rom K cX1_greatestLabel 8 1 1 ls (.int 4 :: st) hp = ab_X rom K cX1_greatestLabel 8 1 38 ls st hp := ax_tsw_in (off := 37) dX1_greatestLabel_1 (by decide) (by decide) (by decide)
theorem dX1_greatestLabel_28 : decode cX1_greatestLabel 28 = .ok (.iload_n 1, 1) := by decide +kernel
theorem sX1_greatestLabel_28 : ab_X rom K cX1_greatestLabel 8 1 28 (v0 :: .int x :: ls) st hp = ab_X rom K cX1_greatestLabel 8 1 29 (v0 :: .int x :: ls) (.int x :: st) hp := ax_iload_n dX1_greatestLabel_28 rfl rfl
theorem dX1_greatestLabel_29 : decode cX1_greatestLabel 29 = .ok (.iconst 1, 1) := by decide +kernel
theorem sX1_greatestLabel_29 : ab_X rom K cX1_greatestLabel 8 1 29 ls st hp = ab_X rom K cX1_greatestLabel 8 1 30 ls (.int 1 :: st) hp := ax_iconst dX1_greatestLabel_29 (by decide) rfl
theorem dX1_greatestLabel_30 : decode cX1_greatestLabel 30 = .ok (.isub, 1) := by decide +kernel
theorem sX1_greatestLabel_30 : ab_X rom K cX1_greatestLabel 8 1 30 ls (.int y :: .int x :: st) hp = ab_X rom K cX1_greatestLabel 8 1 31 ls (.int (x - y) :: st) hp := ax_isub dX1_greatestLabel_30 rfl
theorem dX1_greatestLabel_31 : decode cX1_greatestLabel 31 = .ok (.ireturn, 1) := by decide +kernel
theorem sX1_greatestLabel_31 : ab_X rom K cX1_greatestLabel 8 1 31 ls [.int x] hp = some (some (.int x), hp) := ax_iret dX1_greatestLabel_31 rfl
theorem dX1_greatestLabel_32 : decode cX1_greatestLabel 32 = .ok (.iconst 2, 1) := by decide +kernel
theorem sX1_greatestLabel_32 : ab_X rom K cX1_greatestLabel 8 1 32 ls st hp = ab_X rom K cX1_greatestLabel 8 1 33 ls (.int 2 :: st) hp := ax_iconst dX1_greatestLabel_32 (by decide) rfl
theorem dX1_greatestLabel_33 : decode cX1_greatestLabel 33 = .ok (.iload_n 1, 1) := by decide +kernel
theorem sX1_greatestLabel_33 : ab_X rom K cX1_greatestLabel 8 1 33 (v0 :: .int x :: ls) st hp = ab_X rom K cX1_greatestLabel 8 1 34 (v0 :: .int x :: ls) (.int x :: st) hp := ax_iload_n dX1_greatestLabel_33 rfl rfl
theorem dX1_greatestLabel_34 : decode cX1_greatestLabel 34 = .ok (.imul, 1) := by decide +kernel
theorem sX1_greatestLabel_34 : ab_X rom K cX1_greatestLabel 8 1 34 ls (.int y :: .int x :: st) hp = ab_X rom K cX1_greatestLabel 8 1 35 ls (.int (x * y) :: st) hp := ax_imul dX1_greatestLabel_34 rfl
theorem dX1_greatestLabel_35 : decode cX1_greatestLabel 35 = .ok (.iconst 1, 1) := by decide +kernel
theorem sX1_greatestLabel_35 : ab_X rom K cX1_greatestLabel 8 1 35 ls st hp = ab_X rom K cX1_greatestLabel 8 1 36 ls (.int 1 :: st) hp := ax_iconst dX1_greatestLabel_35 (by decide) rfl
theorem dX1_greatestLabel_36 : decode cX1_greatestLabel 36 = .ok (.isub, 1) := by decide +kernel
theorem sX1_greatestLabel_36 : ab_X rom K cX1_greatestLabel 8 1 36 ls (.int y :: .int x :: st) hp = ab_X rom K cX1_greatestLabel 8 1 37 ls (.int (x - y) :: st) hp := ax_isub dX1_greatestLabel_36 rfl
theorem dX1_greatestLabel_37 : decode cX1_greatestLabel 37 = .ok (.ireturn, 1) := by decide +kernel
theorem sX1_greatestLabel_37 : ab_X rom K cX1_greatestLabel 8 1 37 ls [.int x] hp = some (some (.int x), hp) := ax_iret dX1_greatestLabel_37 rfl
theorem dX1_greatestLabel_38 : decode cX1_greatestLabel 38 = .ok (.iconst 1, 1) := by decide +kernel
theorem sX1_greatestLabel_38 : ab_X rom K cX1_greatestLabel 8 1 38 ls st hp = ab_X rom K cX1_greatestLabel 8 1 39 ls (.int 1 :: st) hp := ax_iconst dX1_greatestLabel_38 (by decide) rfl
theorem dX1_greatestLabel_39 : decode cX1_greatestLabel 39 = .ok (.ireturn, 1) := by decide +kernel
theorem sX1_greatestLabel_39 : ab_X rom K cX1_greatestLabel 8 1 39 ls [.int x] hp = some (some (.int x), hp) := ax_iret dX1_greatestLabel_39 rfl
theorem dX1_greatestLabel_40 : decode cX1_greatestLabel 40 = .ok (.iload_n 1, 1) := by decide +kernel
theorem sX1_greatestLabel_40 : ab_X rom K cX1_greatestLabel 8 1 40 (v0 :: .int x :: ls) st hp = ab_X rom K cX1_greatestLabel 8 1 41 (v0 :: .int x :: ls) (.int x :: st) hp := ax_iload_n dX1_greatestLabel_40 rfl rfl
theorem dX1_greatestLabel_41 : decode cX1_greatestLabel 41 = .ok (.ireturn, 1) := by decide +kernel
theorem sX1_greatestLabel_41 : ab_X rom K cX1_greatestLabel 8 1 41 ls [.int x] hp = some (some (.int x), hp) := ax_iret dX1_greatestLabel_41 rfl
theorem tX1_hasLikeWorths : ab_mT[245]? = some (yX1_hasLikeWorths, cX1_hasLikeWorths, 5, 2, 8) := by decide +kernel
theorem mX1_hasLikeWorths {d : Nat} {r0 : Nat} {x1 : Int32} : ab_M rom (d + 1) 245 [.ref r0, .int x1] hp = ab_X rom (ab_M rom d) cX1_hasLikeWorths 8 2 0 [.ref r0, .int x1, .null, .null, .null] [] hp := ab_M_eq tX1_hasLikeWorths (Nat.le_of_ble_eq_true rfl)
theorem dX1_hasLikeWorths_0 : decode cX1_hasLikeWorths 0 = .ok (.iconst 0, 1) := by decide +kernel
theorem sX1_hasLikeWorths_0 : ab_X rom K cX1_hasLikeWorths 8 2 0 ls st hp = ab_X rom K cX1_hasLikeWorths 8 2 1 ls (.int 0 :: st) hp := ax_iconst dX1_hasLikeWorths_0 (by decide) rfl
theorem dX1_hasLikeWorths_1 : decode cX1_hasLikeWorths 1 = .ok (.istore_n 2, 1) := by decide +kernel
theorem sX1_hasLikeWorths_1i : ab_X rom K cX1_hasLikeWorths 8 2 1 (v0 :: .int y :: v2 :: ls) (.int x :: st) hp = ab_X rom K cX1_hasLikeWorths 8 2 2 (v0 :: .int y :: .int x :: ls) st hp := ax_istore_n dX1_hasLikeWorths_1 (ax_lt (v := v2) rfl) (ab_nl_c1 (j := 1) (v := .int y) rfl (ab_c1_int _)) rfl rfl
theorem sX1_hasLikeWorths_1r : ab_X rom K cX1_hasLikeWorths 8 2 1 (v0 :: .ref a2 :: v2 :: ls) (.int x :: st) hp = ab_X rom K cX1_hasLikeWorths 8 2 2 (v0 :: .ref a2 :: .int x :: ls) st hp := ax_istore_n dX1_hasLikeWorths_1 (ax_lt (v := v2) rfl) (ab_nl_c1 (j := 1) (v := .ref a2) rfl (ab_c1_ref _)) rfl rfl
theorem sX1_hasLikeWorths_1n : ab_X rom K cX1_hasLikeWorths 8 2 1 (v0 :: .null :: v2 :: ls) (.int x :: st) hp = ab_X rom K cX1_hasLikeWorths 8 2 2 (v0 :: .null :: .int x :: ls) st hp := ax_istore_n dX1_hasLikeWorths_1 (ax_lt (v := v2) rfl) (ab_nl_c1 (j := 1) (v := .null) rfl ab_c1_null) rfl rfl
theorem dX1_hasLikeWorths_2 : decode cX1_hasLikeWorths 2 = .ok (.iconst 0, 1) := by decide +kernel
theorem sX1_hasLikeWorths_2 : ab_X rom K cX1_hasLikeWorths 8 2 2 ls st hp = ab_X rom K cX1_hasLikeWorths 8 2 3 ls (.int 0 :: st) hp := ax_iconst dX1_hasLikeWorths_2 (by decide) rfl
theorem dX1_hasLikeWorths_3 : decode cX1_hasLikeWorths 3 = .ok (.istore_n 3, 1) := by decide +kernel
theorem sX1_hasLikeWorths_3i : ab_X rom K cX1_hasLikeWorths 8 2 3 (v0 :: v1 :: .int y :: v3 :: ls) (.int x :: st) hp = ab_X rom K cX1_hasLikeWorths 8 2 4 (v0 :: v1 :: .int y :: .int x :: ls) st hp := ax_istore_n dX1_hasLikeWorths_3 (ax_lt (v := v3) rfl) (ab_nl_c1 (j := 2) (v := .int y) rfl (ab_c1_int _)) rfl rfl
theorem sX1_hasLikeWorths_3r : ab_X rom K cX1_hasLikeWorths 8 2 3 (v0 :: v1 :: .ref a2 :: v3 :: ls) (.int x :: st) hp = ab_X rom K cX1_hasLikeWorths 8 2 4 (v0 :: v1 :: .ref a2 :: .int x :: ls) st hp := ax_istore_n dX1_hasLikeWorths_3 (ax_lt (v := v3) rfl) (ab_nl_c1 (j := 2) (v := .ref a2) rfl (ab_c1_ref _)) rfl rfl
theorem sX1_hasLikeWorths_3n : ab_X rom K cX1_hasLikeWorths 8 2 3 (v0 :: v1 :: .null :: v3 :: ls) (.int x :: st) hp = ab_X rom K cX1_hasLikeWorths 8 2 4 (v0 :: v1 :: .null :: .int x :: ls) st hp := ax_istore_n dX1_hasLikeWorths_3 (ax_lt (v := v3) rfl) (ab_nl_c1 (j := 2) (v := .null) rfl ab_c1_null) rfl rfl
theorem dX1_hasLikeWorths_4 : decode cX1_hasLikeWorths 4 = .ok (.iload_n 3, 1) := by decide +kernel
theorem sX1_hasLikeWorths_4 : ab_X rom K cX1_hasLikeWorths 8 2 4 (v0 :: v1 :: v2 :: .int x :: ls) st hp = ab_X rom K cX1_hasLikeWorths 8 2 5 (v0 :: v1 :: v2 :: .int x :: ls) (.int x :: st) hp := ax_iload_n dX1_hasLikeWorths_4 rfl rfl
theorem dX1_hasLikeWorths_5 : decode cX1_hasLikeWorths 5 = .ok (.aload_n 0, 1) := by decide +kernel
theorem sX1_hasLikeWorths_5 : ab_X rom K cX1_hasLikeWorths 8 2 5 (.ref a :: ls) st hp = ab_X rom K cX1_hasLikeWorths 8 2 6 (.ref a :: ls) (.ref a :: st) hp := ax_aload_n dX1_hasLikeWorths_5 rfl rfl
theorem dX1_hasLikeWorths_6 : decode cX1_hasLikeWorths 6 = .ok (.getfield 22, 3) := by decide +kernel
theorem sX1_hasLikeWorths_6 : ab_X rom K cX1_hasLikeWorths 8 2 6 ls (.ref a :: st) hp = (ab_fld hp a 1 1).bind (fun v => ab_X rom K cX1_hasLikeWorths 8 2 9 ls (v :: st) hp) := ax_getfield dX1_hasLikeWorths_6 kf_8_22 rfl
theorem dX1_hasLikeWorths_9 : decode cX1_hasLikeWorths 9 = .ok (.if_icmp .ge 52, 3) := by decide +kernel
theorem sX1_hasLikeWorths_9 : ab_X rom K cX1_hasLikeWorths 8 2 9 ls (.int y :: .int x :: st) hp = if x < y then ab_X rom K cX1_hasLikeWorths 8 2 12 ls st hp else ab_X rom K cX1_hasLikeWorths 8 2 61 ls st hp := ax_icmp_ge dX1_hasLikeWorths_9 (by decide) rfl
theorem dX1_hasLikeWorths_12 : decode cX1_hasLikeWorths 12 = .ok (.iload_n 1, 1) := by decide +kernel
theorem sX1_hasLikeWorths_12 : ab_X rom K cX1_hasLikeWorths 8 2 12 (v0 :: .int x :: ls) st hp = ab_X rom K cX1_hasLikeWorths 8 2 13 (v0 :: .int x :: ls) (.int x :: st) hp := ax_iload_n dX1_hasLikeWorths_12 rfl rfl
theorem dX1_hasLikeWorths_13 : decode cX1_hasLikeWorths 13 = .ok (.iconst 2, 1) := by decide +kernel
theorem sX1_hasLikeWorths_13 : ab_X rom K cX1_hasLikeWorths 8 2 13 ls st hp = ab_X rom K cX1_hasLikeWorths 8 2 14 ls (.int 2 :: st) hp := ax_iconst dX1_hasLikeWorths_13 (by decide) rfl
theorem dX1_hasLikeWorths_14 : decode cX1_hasLikeWorths 14 = .ok (.if_icmp .ne 16, 3) := by decide +kernel
theorem sX1_hasLikeWorths_14 : ab_X rom K cX1_hasLikeWorths 8 2 14 ls (.int y :: .int x :: st) hp = if x = y then ab_X rom K cX1_hasLikeWorths 8 2 17 ls st hp else ab_X rom K cX1_hasLikeWorths 8 2 30 ls st hp := ax_icmp_ne dX1_hasLikeWorths_14 (by decide) rfl
theorem dX1_hasLikeWorths_17 : decode cX1_hasLikeWorths 17 = .ok (.aload_n 0, 1) := by decide +kernel
theorem sX1_hasLikeWorths_17 : ab_X rom K cX1_hasLikeWorths 8 2 17 (.ref a :: ls) st hp = ab_X rom K cX1_hasLikeWorths 8 2 18 (.ref a :: ls) (.ref a :: st) hp := ax_aload_n dX1_hasLikeWorths_17 rfl rfl
theorem dX1_hasLikeWorths_18 : decode cX1_hasLikeWorths 18 = .ok (.iload_n 3, 1) := by decide +kernel
theorem sX1_hasLikeWorths_18 : ab_X rom K cX1_hasLikeWorths 8 2 18 (v0 :: v1 :: v2 :: .int x :: ls) st hp = ab_X rom K cX1_hasLikeWorths 8 2 19 (v0 :: v1 :: v2 :: .int x :: ls) (.int x :: st) hp := ax_iload_n dX1_hasLikeWorths_18 rfl rfl
theorem dX1_hasLikeWorths_19 : decode cX1_hasLikeWorths 19 = .ok (.invokevirtual 57, 3) := by decide +kernel
theorem sX1_hasLikeWorths_19_0 : ab_X rom K cX1_hasLikeWorths 8 2 19 ls [w1, .ref a] hp = if ab_iso hp a 1 = true then (K 32 (.ref a :: [w1]) hp).bind (fun o => ab_X rom K cX1_hasLikeWorths 8 2 22 ls (o.1.toList ++ []) o.2) else none := ay_virtual (as := [w1]) (st := []) dX1_hasLikeWorths_19 kc_8_57 rfl rfl (Nat.le_of_ble_eq_true rfl)
theorem sX1_hasLikeWorths_19_1 : ab_X rom K cX1_hasLikeWorths 8 2 19 ls [w1, .ref a, v0] hp = if ab_iso hp a 1 = true then (K 32 (.ref a :: [w1]) hp).bind (fun o => ab_X rom K cX1_hasLikeWorths 8 2 22 ls (o.1.toList ++ [v0]) o.2) else none := ay_virtual (as := [w1]) (st := [v0]) dX1_hasLikeWorths_19 kc_8_57 rfl rfl (Nat.le_of_ble_eq_true rfl)
theorem sX1_hasLikeWorths_19_2 : ab_X rom K cX1_hasLikeWorths 8 2 19 ls [w1, .ref a, v0, v1] hp = if ab_iso hp a 1 = true then (K 32 (.ref a :: [w1]) hp).bind (fun o => ab_X rom K cX1_hasLikeWorths 8 2 22 ls (o.1.toList ++ [v0, v1]) o.2) else none := ay_virtual (as := [w1]) (st := [v0, v1]) dX1_hasLikeWorths_19 kc_8_57 rfl rfl (Nat.le_of_ble_eq_true rfl)
theorem sX1_hasLikeWorths_19_3 : ab_X rom K cX1_hasLikeWorths 8 2 19 ls [w1, .ref a, v0, v1, v2] hp = if ab_iso hp a 1 = true then (K 32 (.ref a :: [w1]) hp).bind (fun o => ab_X rom K cX1_hasLikeWorths 8 2 22 ls (o.1.toList ++ [v0, v1, v2]) o.2) else none := ay_virtual (as := [w1]) (st := [v0, v1, v2]) dX1_hasLikeWorths_19 kc_8_57 rfl rfl (Nat.le_of_ble_eq_true rfl)
theorem dX1_hasLikeWorths_22 : decode cX1_hasLikeWorths 22 = .ok (.aload_n 0, 1) := by decide +kernel
theorem sX1_hasLikeWorths_22 : ab_X rom K cX1_hasLikeWorths 8 2 22 (.ref a :: ls) st hp = ab_X rom K cX1_hasLikeWorths 8 2 23 (.ref a :: ls) (.ref a :: st) hp := ax_aload_n dX1_hasLikeWorths_22 rfl rfl
theorem dX1_hasLikeWorths_23 : decode cX1_hasLikeWorths 23 = .ok (.getfield 22, 3) := by decide +kernel
theorem sX1_hasLikeWorths_23 : ab_X rom K cX1_hasLikeWorths 8 2 23 ls (.ref a :: st) hp = (ab_fld hp a 1 1).bind (fun v => ab_X rom K cX1_hasLikeWorths 8 2 26 ls (v :: st) hp) := ax_getfield dX1_hasLikeWorths_23 kf_8_22 rfl
theorem dX1_hasLikeWorths_26 : decode cX1_hasLikeWorths 26 = .ok (.irem, 1) := by decide +kernel
theorem sX1_hasLikeWorths_26 : ab_X rom K cX1_hasLikeWorths 8 2 26 ls (.int y :: .int x :: st) hp = if y = 0 then none else ab_X rom K cX1_hasLikeWorths 8 2 27 ls (.int (ab_rem x y) :: st) hp := ay_irem dX1_hasLikeWorths_26 rfl
theorem dX1_hasLikeWorths_27 : decode cX1_hasLikeWorths 27 = .ok (.goto 8, 3) := by decide +kernel
theorem sX1_hasLikeWorths_27 : ab_X rom K cX1_hasLikeWorths 8 2 27 ls st hp = ab_X rom K cX1_hasLikeWorths 8 2 35 ls st hp := ax_goto dX1_hasLikeWorths_27 (by decide)
theorem dX1_hasLikeWorths_30 : decode cX1_hasLikeWorths 30 = .ok (.aload_n 0, 1) := by decide +kernel
theorem sX1_hasLikeWorths_30 : ab_X rom K cX1_hasLikeWorths 8 2 30 (.ref a :: ls) st hp = ab_X rom K cX1_hasLikeWorths 8 2 31 (.ref a :: ls) (.ref a :: st) hp := ax_aload_n dX1_hasLikeWorths_30 rfl rfl
theorem dX1_hasLikeWorths_31 : decode cX1_hasLikeWorths 31 = .ok (.iload_n 3, 1) := by decide +kernel
theorem sX1_hasLikeWorths_31 : ab_X rom K cX1_hasLikeWorths 8 2 31 (v0 :: v1 :: v2 :: .int x :: ls) st hp = ab_X rom K cX1_hasLikeWorths 8 2 32 (v0 :: v1 :: v2 :: .int x :: ls) (.int x :: st) hp := ax_iload_n dX1_hasLikeWorths_31 rfl rfl
theorem dX1_hasLikeWorths_32 : decode cX1_hasLikeWorths 32 = .ok (.invokevirtual 60, 3) := by decide +kernel
theorem sX1_hasLikeWorths_32_0 : ab_X rom K cX1_hasLikeWorths 8 2 32 ls [w1, .ref a] hp = if ab_iso hp a 1 = true then (K 18 (.ref a :: [w1]) hp).bind (fun o => ab_X rom K cX1_hasLikeWorths 8 2 35 ls (o.1.toList ++ []) o.2) else none := ay_virtual (as := [w1]) (st := []) dX1_hasLikeWorths_32 kc_8_60 rfl rfl (Nat.le_of_ble_eq_true rfl)
theorem sX1_hasLikeWorths_32_1 : ab_X rom K cX1_hasLikeWorths 8 2 32 ls [w1, .ref a, v0] hp = if ab_iso hp a 1 = true then (K 18 (.ref a :: [w1]) hp).bind (fun o => ab_X rom K cX1_hasLikeWorths 8 2 35 ls (o.1.toList ++ [v0]) o.2) else none := ay_virtual (as := [w1]) (st := [v0]) dX1_hasLikeWorths_32 kc_8_60 rfl rfl (Nat.le_of_ble_eq_true rfl)
theorem sX1_hasLikeWorths_32_2 : ab_X rom K cX1_hasLikeWorths 8 2 32 ls [w1, .ref a, v0, v1] hp = if ab_iso hp a 1 = true then (K 18 (.ref a :: [w1]) hp).bind (fun o => ab_X rom K cX1_hasLikeWorths 8 2 35 ls (o.1.toList ++ [v0, v1]) o.2) else none := ay_virtual (as := [w1]) (st := [v0, v1]) dX1_hasLikeWorths_32 kc_8_60 rfl rfl (Nat.le_of_ble_eq_true rfl)
theorem sX1_hasLikeWorths_32_3 : ab_X rom K cX1_hasLikeWorths 8 2 32 ls [w1, .ref a, v0, v1, v2] hp = if ab_iso hp a 1 = true then (K 18 (.ref a :: [w1]) hp).bind (fun o => ab_X rom K cX1_hasLikeWorths 8 2 35 ls (o.1.toList ++ [v0, v1, v2]) o.2) else none := ay_virtual (as := [w1]) (st := [v0, v1, v2]) dX1_hasLikeWorths_32 kc_8_60 rfl rfl (Nat.le_of_ble_eq_true rfl)
theorem dX1_hasLikeWorths_35 : decode cX1_hasLikeWorths 35 = .ok (.istore 4, 2) := by decide +kernel
theorem sX1_hasLikeWorths_35i : ab_X rom K cX1_hasLikeWorths 8 2 35 (v0 :: v1 :: v2 :: .int y :: v4 :: ls) (.int x :: st) hp = ab_X rom K cX1_hasLikeWorths 8 2 37 (v0 :: v1 :: v2 :: .int y :: .int x :: ls) st hp := ax_istore dX1_hasLikeWorths_35 (ax_lt (v := v4) rfl) (ab_nl_c1 (j := 3) (v := .int y) rfl (ab_c1_int _)) rfl rfl
theorem sX1_hasLikeWorths_35r : ab_X rom K cX1_hasLikeWorths 8 2 35 (v0 :: v1 :: v2 :: .ref a2 :: v4 :: ls) (.int x :: st) hp = ab_X rom K cX1_hasLikeWorths 8 2 37 (v0 :: v1 :: v2 :: .ref a2 :: .int x :: ls) st hp := ax_istore dX1_hasLikeWorths_35 (ax_lt (v := v4) rfl) (ab_nl_c1 (j := 3) (v := .ref a2) rfl (ab_c1_ref _)) rfl rfl
theorem sX1_hasLikeWorths_35n : ab_X rom K cX1_hasLikeWorths 8 2 35 (v0 :: v1 :: v2 :: .null :: v4 :: ls) (.int x :: st) hp = ab_X rom K cX1_hasLikeWorths 8 2 37 (v0 :: v1 :: v2 :: .null :: .int x :: ls) st hp := ax_istore dX1_hasLikeWorths_35 (ax_lt (v := v4) rfl) (ab_nl_c1 (j := 3) (v := .null) rfl ab_c1_null) rfl rfl
theorem dX1_hasLikeWorths_37 : decode cX1_hasLikeWorths 37 = .ok (.iload_n 2, 1) := by decide +kernel
theorem sX1_hasLikeWorths_37 : ab_X rom K cX1_hasLikeWorths 8 2 37 (v0 :: v1 :: .int x :: ls) st hp = ab_X rom K cX1_hasLikeWorths 8 2 38 (v0 :: v1 :: .int x :: ls) (.int x :: st) hp := ax_iload_n dX1_hasLikeWorths_37 rfl rfl
theorem dX1_hasLikeWorths_38 : decode cX1_hasLikeWorths 38 = .ok (.iload 4, 2) := by decide +kernel
theorem sX1_hasLikeWorths_38 : ab_X rom K cX1_hasLikeWorths 8 2 38 (v0 :: v1 :: v2 :: v3 :: .int x :: ls) st hp = ab_X rom K cX1_hasLikeWorths 8 2 40 (v0 :: v1 :: v2 :: v3 :: .int x :: ls) (.int x :: st) hp := ax_iload dX1_hasLikeWorths_38 rfl rfl
theorem dX1_hasLikeWorths_40 : decode cX1_hasLikeWorths 40 = .ok (.ishr, 1) := by decide +kernel
theorem sX1_hasLikeWorths_40 : ab_X rom K cX1_hasLikeWorths 8 2 40 ls (.int y :: .int x :: st) hp = ab_X rom K cX1_hasLikeWorths 8 2 41 ls (.int (x >>> (y &&& 31)) :: st) hp := ax_ishr dX1_hasLikeWorths_40 rfl
theorem dX1_hasLikeWorths_41 : decode cX1_hasLikeWorths 41 = .ok (.iconst 1, 1) := by decide +kernel
theorem sX1_hasLikeWorths_41 : ab_X rom K cX1_hasLikeWorths 8 2 41 ls st hp = ab_X rom K cX1_hasLikeWorths 8 2 42 ls (.int 1 :: st) hp := ax_iconst dX1_hasLikeWorths_41 (by decide) rfl
theorem dX1_hasLikeWorths_42 : decode cX1_hasLikeWorths 42 = .ok (.iand, 1) := by decide +kernel
theorem sX1_hasLikeWorths_42 : ab_X rom K cX1_hasLikeWorths 8 2 42 ls (.int y :: .int x :: st) hp = ab_X rom K cX1_hasLikeWorths 8 2 43 ls (.int (x &&& y) :: st) hp := ax_iand dX1_hasLikeWorths_42 rfl
theorem dX1_hasLikeWorths_43 : decode cX1_hasLikeWorths 43 = .ok (.ifCond .eq 5, 3) := by decide +kernel
theorem sX1_hasLikeWorths_43 : ab_X rom K cX1_hasLikeWorths 8 2 43 ls (.int x :: st) hp = if x = 0 then ab_X rom K cX1_hasLikeWorths 8 2 48 ls st hp else ab_X rom K cX1_hasLikeWorths 8 2 46 ls st hp := ax_if_eq dX1_hasLikeWorths_43 (by decide) rfl
theorem dX1_hasLikeWorths_46 : decode cX1_hasLikeWorths 46 = .ok (.iconst 1, 1) := by decide +kernel
theorem sX1_hasLikeWorths_46 : ab_X rom K cX1_hasLikeWorths 8 2 46 ls st hp = ab_X rom K cX1_hasLikeWorths 8 2 47 ls (.int 1 :: st) hp := ax_iconst dX1_hasLikeWorths_46 (by decide) rfl
theorem dX1_hasLikeWorths_47 : decode cX1_hasLikeWorths 47 = .ok (.ireturn, 1) := by decide +kernel
theorem sX1_hasLikeWorths_47 : ab_X rom K cX1_hasLikeWorths 8 2 47 ls [.int x] hp = if x = 0 ∨ x = 1 then some (some (.int x), hp) else none := ay_zret dX1_hasLikeWorths_47 rfl
theorem dX1_hasLikeWorths_48 : decode cX1_hasLikeWorths 48 = .ok (.iload_n 2, 1) := by decide +kernel
theorem sX1_hasLikeWorths_48 : ab_X rom K cX1_hasLikeWorths 8 2 48 (v0 :: v1 :: .int x :: ls) st hp = ab_X rom K cX1_hasLikeWorths 8 2 49 (v0 :: v1 :: .int x :: ls) (.int x :: st) hp := ax_iload_n dX1_hasLikeWorths_48 rfl rfl
theorem dX1_hasLikeWorths_49 : decode cX1_hasLikeWorths 49 = .ok (.iconst 1, 1) := by decide +kernel
theorem sX1_hasLikeWorths_49 : ab_X rom K cX1_hasLikeWorths 8 2 49 ls st hp = ab_X rom K cX1_hasLikeWorths 8 2 50 ls (.int 1 :: st) hp := ax_iconst dX1_hasLikeWorths_49 (by decide) rfl
theorem dX1_hasLikeWorths_50 : decode cX1_hasLikeWorths 50 = .ok (.iload 4, 2) := by decide +kernel
theorem sX1_hasLikeWorths_50 : ab_X rom K cX1_hasLikeWorths 8 2 50 (v0 :: v1 :: v2 :: v3 :: .int x :: ls) st hp = ab_X rom K cX1_hasLikeWorths 8 2 52 (v0 :: v1 :: v2 :: v3 :: .int x :: ls) (.int x :: st) hp := ax_iload dX1_hasLikeWorths_50 rfl rfl
theorem dX1_hasLikeWorths_52 : decode cX1_hasLikeWorths 52 = .ok (.ishl, 1) := by decide +kernel
theorem sX1_hasLikeWorths_52 : ab_X rom K cX1_hasLikeWorths 8 2 52 ls (.int y :: .int x :: st) hp = ab_X rom K cX1_hasLikeWorths 8 2 53 ls (.int (x <<< (y &&& 31)) :: st) hp := ax_ishl dX1_hasLikeWorths_52 rfl
theorem dX1_hasLikeWorths_53 : decode cX1_hasLikeWorths 53 = .ok (.ior, 1) := by decide +kernel
theorem sX1_hasLikeWorths_53 : ab_X rom K cX1_hasLikeWorths 8 2 53 ls (.int y :: .int x :: st) hp = ab_X rom K cX1_hasLikeWorths 8 2 54 ls (.int (x ||| y) :: st) hp := ax_ior dX1_hasLikeWorths_53 rfl
theorem dX1_hasLikeWorths_54 : decode cX1_hasLikeWorths 54 = .ok (.istore_n 2, 1) := by decide +kernel
theorem sX1_hasLikeWorths_54i : ab_X rom K cX1_hasLikeWorths 8 2 54 (v0 :: .int y :: v2 :: ls) (.int x :: st) hp = ab_X rom K cX1_hasLikeWorths 8 2 55 (v0 :: .int y :: .int x :: ls) st hp := ax_istore_n dX1_hasLikeWorths_54 (ax_lt (v := v2) rfl) (ab_nl_c1 (j := 1) (v := .int y) rfl (ab_c1_int _)) rfl rfl
theorem sX1_hasLikeWorths_54r : ab_X rom K cX1_hasLikeWorths 8 2 54 (v0 :: .ref a2 :: v2 :: ls) (.int x :: st) hp = ab_X rom K cX1_hasLikeWorths 8 2 55 (v0 :: .ref a2 :: .int x :: ls) st hp := ax_istore_n dX1_hasLikeWorths_54 (ax_lt (v := v2) rfl) (ab_nl_c1 (j := 1) (v := .ref a2) rfl (ab_c1_ref _)) rfl rfl
theorem sX1_hasLikeWorths_54n : ab_X rom K cX1_hasLikeWorths 8 2 54 (v0 :: .null :: v2 :: ls) (.int x :: st) hp = ab_X rom K cX1_hasLikeWorths 8 2 55 (v0 :: .null :: .int x :: ls) st hp := ax_istore_n dX1_hasLikeWorths_54 (ax_lt (v := v2) rfl) (ab_nl_c1 (j := 1) (v := .null) rfl ab_c1_null) rfl rfl
theorem dX1_hasLikeWorths_55 : decode cX1_hasLikeWorths 55 = .ok (.iinc 3 1, 3) := by decide +kernel
theorem sX1_hasLikeWorths_55i : ab_X rom K cX1_hasLikeWorths 8 2 55 (v0 :: v1 :: .int y :: .int x :: ls) st hp = ab_X rom K cX1_hasLikeWorths 8 2 58 (v0 :: v1 :: .int y :: .int (x + 1) :: ls) st hp := ax_iinc dX1_hasLikeWorths_55 rfl (ab_nl_c1 (j := 2) (v := .int y) rfl (ab_c1_int _)) (by decide) rfl rfl
theorem sX1_hasLikeWorths_55r : ab_X rom K cX1_hasLikeWorths 8 2 55 (v0 :: v1 :: .ref a2 :: .int x :: ls) st hp = ab_X rom K cX1_hasLikeWorths 8 2 58 (v0 :: v1 :: .ref a2 :: .int (x + 1) :: ls) st hp := ax_iinc dX1_hasLikeWorths_55 rfl (ab_nl_c1 (j := 2) (v := .ref a2) rfl (ab_c1_ref _)) (by decide) rfl rfl
theorem sX1_hasLikeWorths_55n : ab_X rom K cX1_hasLikeWorths 8 2 55 (v0 :: v1 :: .null :: .int x :: ls) st hp = ab_X rom K cX1_hasLikeWorths 8 2 58 (v0 :: v1 :: .null :: .int (x + 1) :: ls) st hp := ax_iinc dX1_hasLikeWorths_55 rfl (ab_nl_c1 (j := 2) (v := .null) rfl ab_c1_null) (by decide) rfl rfl
theorem dX1_hasLikeWorths_58 : decode cX1_hasLikeWorths 58 = .ok (.goto (-54), 3) := by decide +kernel
theorem sX1_hasLikeWorths_58 : ab_X rom K cX1_hasLikeWorths 8 2 58 ls st hp = ab_X rom K cX1_hasLikeWorths 8 2 4 ls st hp := ax_goto dX1_hasLikeWorths_58 (by decide)
theorem dX1_hasLikeWorths_61 : decode cX1_hasLikeWorths 61 = .ok (.iconst 0, 1) := by decide +kernel
theorem sX1_hasLikeWorths_61 : ab_X rom K cX1_hasLikeWorths 8 2 61 ls st hp = ab_X rom K cX1_hasLikeWorths 8 2 62 ls (.int 0 :: st) hp := ax_iconst dX1_hasLikeWorths_61 (by decide) rfl
theorem dX1_hasLikeWorths_62 : decode cX1_hasLikeWorths 62 = .ok (.ireturn, 1) := by decide +kernel
theorem sX1_hasLikeWorths_62 : ab_X rom K cX1_hasLikeWorths 8 2 62 ls [.int x] hp = if x = 0 ∨ x = 1 then some (some (.int x), hp) else none := ay_zret dX1_hasLikeWorths_62 rfl
theorem tX1_hasShape : ab_mT[246]? = some (yX1_hasShape, cX1_hasShape, 2, 2, 8) := by decide +kernel
theorem mX1_hasShape {d : Nat} {r0 : Nat} {x1 : Int32} : ab_M rom (d + 1) 246 [.ref r0, .int x1] hp = ab_X rom (ab_M rom d) cX1_hasShape 8 2 0 [.ref r0, .int x1] [] hp := ab_M_eq tX1_hasShape (Nat.le_of_ble_eq_true rfl)
theorem dX1_hasShape_0 : decode cX1_hasShape 0 = .ok (.iload_n 1, 1) := by decide +kernel
theorem sX1_hasShape_0 : ab_X rom K cX1_hasShape 8 2 0 (v0 :: .int x :: ls) st hp = ab_X rom K cX1_hasShape 8 2 1 (v0 :: .int x :: ls) (.int x :: st) hp := ax_iload_n dX1_hasShape_0 rfl rfl
theorem dX1_hasShape_1 : decode cX1_hasShape 1 = .ok (.tableswitch 54 1 4 #[31, 54, 40, 45], 31) := by decide +kernel
theorem sX1_hasShape_1_d (h : x.toInt < 1 ∨ 4 < x.toInt) : ab_X rom K cX1_hasShape 8 2 1 ls (.int x :: st) hp = ab_X rom K cX1_hasShape 8 2 55 ls st hp := ax_tsw_out dX1_hasShape_1 (by decide) h
theorem sX1_hasShape_1_0 : ab_X rom K cX1_hasShape 8 2 1 ls (.int 1 :: st) hp = ab_X rom K cX1_hasShape 8 2 32 ls st hp := ax_tsw_in (off := 31) dX1_hasShape_1 (by decide) (by decide) (by decide)
theorem sX1_hasShape_1_1 : ab_X rom K cX1_hasShape 8 2 1 ls (.int 2 :: st) hp = ab_X rom K cX1_hasShape 8 2 55 ls st hp := ax_tsw_in (off := 54) dX1_hasShape_1 (by decide) (by decide) (by decide)
theorem sX1_hasShape_1_2 : ab_X rom K cX1_hasShape 8 2 1 ls (.int 3 :: st) hp = ab_X rom K cX1_hasShape 8 2 41 ls st hp := ax_tsw_in (off := 40) dX1_hasShape_1 (by decide) (by decide) (by decide)
theorem sX1_hasShape_1_3 : ab_X rom K cX1_hasShape 8 2 1 ls (.int 4 :: st) hp = ab_X rom K cX1_hasShape 8 2 46 ls st hp := ax_tsw_in (off := 45) dX1_hasShape_1 (by decide) (by decide) (by decide)
theorem dX1_hasShape_32 : decode cX1_hasShape 32 = .ok (.aload_n 0, 1) := by decide +kernel
theorem sX1_hasShape_32 : ab_X rom K cX1_hasShape 8 2 32 (.ref a :: ls) st hp = ab_X rom K cX1_hasShape 8 2 33 (.ref a :: ls) (.ref a :: st) hp := ax_aload_n dX1_hasShape_32 rfl rfl
theorem dX1_hasShape_33 : decode cX1_hasShape 33 = .ok (.aload_n 0, 1) := by decide +kernel
theorem sX1_hasShape_33 : ab_X rom K cX1_hasShape 8 2 33 (.ref a :: ls) st hp = ab_X rom K cX1_hasShape 8 2 34 (.ref a :: ls) (.ref a :: st) hp := ax_aload_n dX1_hasShape_33 rfl rfl
theorem dX1_hasShape_34 : decode cX1_hasShape 34 = .ok (.getfield 49, 3) := by decide +kernel
theorem sX1_hasShape_34 : ab_X rom K cX1_hasShape 8 2 34 ls (.ref a :: st) hp = (ab_fld hp a 1 4).bind (fun v => ab_X rom K cX1_hasShape 8 2 37 ls (v :: st) hp) := ax_getfield dX1_hasShape_34 kf_8_49 rfl
theorem dX1_hasShape_37 : decode cX1_hasShape 37 = .ok (.invokestatic 63, 3) := by decide +kernel
theorem sX1_hasShape_37_0 : ab_X rom K cX1_hasShape 8 2 37 ls [w2, w1] hp = (K 250 [w1, w2] hp).bind (fun o => ab_X rom K cX1_hasShape 8 2 40 ls (o.1.toList ++ []) o.2) := ax_static (as := [w1, w2]) (st := []) dX1_hasShape_37 kc_8_63 rfl rfl (Nat.le_of_ble_eq_true rfl)
theorem sX1_hasShape_37_1 : ab_X rom K cX1_hasShape 8 2 37 ls [w2, w1, v0] hp = (K 250 [w1, w2] hp).bind (fun o => ab_X rom K cX1_hasShape 8 2 40 ls (o.1.toList ++ [v0]) o.2) := ax_static (as := [w1, w2]) (st := [v0]) dX1_hasShape_37 kc_8_63 rfl rfl (Nat.le_of_ble_eq_true rfl)
theorem sX1_hasShape_37_2 : ab_X rom K cX1_hasShape 8 2 37 ls [w2, w1, v0, v1] hp = (K 250 [w1, w2] hp).bind (fun o => ab_X rom K cX1_hasShape 8 2 40 ls (o.1.toList ++ [v0, v1]) o.2) := ax_static (as := [w1, w2]) (st := [v0, v1]) dX1_hasShape_37 kc_8_63 rfl rfl (Nat.le_of_ble_eq_true rfl)
theorem sX1_hasShape_37_3 : ab_X rom K cX1_hasShape 8 2 37 ls [w2, w1, v0, v1, v2] hp = (K 250 [w1, w2] hp).bind (fun o => ab_X rom K cX1_hasShape 8 2 40 ls (o.1.toList ++ [v0, v1, v2]) o.2) := ax_static (as := [w1, w2]) (st := [v0, v1, v2]) dX1_hasShape_37 kc_8_63 rfl rfl (Nat.le_of_ble_eq_true rfl)
theorem dX1_hasShape_40 : decode cX1_hasShape 40 = .ok (.ireturn, 1) := by decide +kernel
theorem sX1_hasShape_40 : ab_X rom K cX1_hasShape 8 2 40 ls [.int x] hp = if x = 0 ∨ x = 1 then some (some (.int x), hp) else none := ay_zret dX1_hasShape_40 rfl
theorem dX1_hasShape_41 : decode cX1_hasShape 41 = .ok (.aload_n 0, 1) := by decide +kernel
theorem sX1_hasShape_41 : ab_X rom K cX1_hasShape 8 2 41 (.ref a :: ls) st hp = ab_X rom K cX1_hasShape 8 2 42 (.ref a :: ls) (.ref a :: st) hp := ax_aload_n dX1_hasShape_41 rfl rfl
theorem dX1_hasShape_42 : decode cX1_hasShape 42 = .ok (.invokestatic 67, 3) := by decide +kernel
theorem sX1_hasShape_42_0 : ab_X rom K cX1_hasShape 8 2 42 ls [w1] hp = (K 242 [w1] hp).bind (fun o => ab_X rom K cX1_hasShape 8 2 45 ls (o.1.toList ++ []) o.2) := ax_static (as := [w1]) (st := []) dX1_hasShape_42 kc_8_67 rfl rfl (Nat.le_of_ble_eq_true rfl)
theorem sX1_hasShape_42_1 : ab_X rom K cX1_hasShape 8 2 42 ls [w1, v0] hp = (K 242 [w1] hp).bind (fun o => ab_X rom K cX1_hasShape 8 2 45 ls (o.1.toList ++ [v0]) o.2) := ax_static (as := [w1]) (st := [v0]) dX1_hasShape_42 kc_8_67 rfl rfl (Nat.le_of_ble_eq_true rfl)
theorem sX1_hasShape_42_2 : ab_X rom K cX1_hasShape 8 2 42 ls [w1, v0, v1] hp = (K 242 [w1] hp).bind (fun o => ab_X rom K cX1_hasShape 8 2 45 ls (o.1.toList ++ [v0, v1]) o.2) := ax_static (as := [w1]) (st := [v0, v1]) dX1_hasShape_42 kc_8_67 rfl rfl (Nat.le_of_ble_eq_true rfl)
theorem sX1_hasShape_42_3 : ab_X rom K cX1_hasShape 8 2 42 ls [w1, v0, v1, v2] hp = (K 242 [w1] hp).bind (fun o => ab_X rom K cX1_hasShape 8 2 45 ls (o.1.toList ++ [v0, v1, v2]) o.2) := ax_static (as := [w1]) (st := [v0, v1, v2]) dX1_hasShape_42 kc_8_67 rfl rfl (Nat.le_of_ble_eq_true rfl)
theorem dX1_hasShape_45 : decode cX1_hasShape 45 = .ok (.ireturn, 1) := by decide +kernel
theorem sX1_hasShape_45 : ab_X rom K cX1_hasShape 8 2 45 ls [.int x] hp = if x = 0 ∨ x = 1 then some (some (.int x), hp) else none := ay_zret dX1_hasShape_45 rfl
theorem dX1_hasShape_46 : decode cX1_hasShape 46 = .ok (.aload_n 0, 1) := by decide +kernel
theorem sX1_hasShape_46 : ab_X rom K cX1_hasShape 8 2 46 (.ref a :: ls) st hp = ab_X rom K cX1_hasShape 8 2 47 (.ref a :: ls) (.ref a :: st) hp := ax_aload_n dX1_hasShape_46 rfl rfl
theorem dX1_hasShape_47 : decode cX1_hasShape 47 = .ok (.aload_n 0, 1) := by decide +kernel
theorem sX1_hasShape_47 : ab_X rom K cX1_hasShape 8 2 47 (.ref a :: ls) st hp = ab_X rom K cX1_hasShape 8 2 48 (.ref a :: ls) (.ref a :: st) hp := ax_aload_n dX1_hasShape_47 rfl rfl
theorem dX1_hasShape_48 : decode cX1_hasShape 48 = .ok (.getfield 49, 3) := by decide +kernel
theorem sX1_hasShape_48 : ab_X rom K cX1_hasShape 8 2 48 ls (.ref a :: st) hp = (ab_fld hp a 1 4).bind (fun v => ab_X rom K cX1_hasShape 8 2 51 ls (v :: st) hp) := ax_getfield dX1_hasShape_48 kf_8_49 rfl
theorem dX1_hasShape_51 : decode cX1_hasShape 51 = .ok (.invokestatic 71, 3) := by decide +kernel
theorem sX1_hasShape_51_0 : ab_X rom K cX1_hasShape 8 2 51 ls [w2, w1] hp = (K 247 [w1, w2] hp).bind (fun o => ab_X rom K cX1_hasShape 8 2 54 ls (o.1.toList ++ []) o.2) := ax_static (as := [w1, w2]) (st := []) dX1_hasShape_51 kc_8_71 rfl rfl (Nat.le_of_ble_eq_true rfl)
theorem sX1_hasShape_51_1 : ab_X rom K cX1_hasShape 8 2 51 ls [w2, w1, v0] hp = (K 247 [w1, w2] hp).bind (fun o => ab_X rom K cX1_hasShape 8 2 54 ls (o.1.toList ++ [v0]) o.2) := ax_static (as := [w1, w2]) (st := [v0]) dX1_hasShape_51 kc_8_71 rfl rfl (Nat.le_of_ble_eq_true rfl)
theorem sX1_hasShape_51_2 : ab_X rom K cX1_hasShape 8 2 51 ls [w2, w1, v0, v1] hp = (K 247 [w1, w2] hp).bind (fun o => ab_X rom K cX1_hasShape 8 2 54 ls (o.1.toList ++ [v0, v1]) o.2) := ax_static (as := [w1, w2]) (st := [v0, v1]) dX1_hasShape_51 kc_8_71 rfl rfl (Nat.le_of_ble_eq_true rfl)
theorem sX1_hasShape_51_3 : ab_X rom K cX1_hasShape 8 2 51 ls [w2, w1, v0, v1, v2] hp = (K 247 [w1, w2] hp).bind (fun o => ab_X rom K cX1_hasShape 8 2 54 ls (o.1.toList ++ [v0, v1, v2]) o.2) := ax_static (as := [w1, w2]) (st := [v0, v1, v2]) dX1_hasShape_51 kc_8_71 rfl rfl (Nat.le_of_ble_eq_true rfl)
theorem dX1_hasShape_54 : decode cX1_hasShape 54 = .ok (.ireturn, 1) := by decide +kernel
theorem sX1_hasShape_54 : ab_X rom K cX1_hasShape 8 2 54 ls [.int x] hp = if x = 0 ∨ x = 1 then some (some (.int x), hp) else none := ay_zret dX1_hasShape_54 rfl
theorem dX1_hasShape_55 : decode cX1_hasShape 55 = .ok (.iconst 1, 1) := by decide +kernel
theorem sX1_hasShape_55 : ab_X rom K cX1_hasShape 8 2 55 ls st hp = ab_X rom K cX1_hasShape 8 2 56 ls (.int 1 :: st) hp := ax_iconst dX1_hasShape_55 (by decide) rfl
theorem dX1_hasShape_56 : decode cX1_hasShape 56 = .ok (.ireturn, 1) := by decide +kernel
theorem sX1_hasShape_56 : ab_X rom K cX1_hasShape 8 2 56 ls [.int x] hp = if x = 0 ∨ x = 1 then some (some (.int x), hp) else none := ay_zret dX1_hasShape_56 rfl
theorem tX1_isBalanced : ab_mT[247]? = some (yX1_isBalanced, cX1_isBalanced, 5, 2, 8) := by decide +kernel
theorem mX1_isBalanced {d : Nat} {r0 : Nat} {r1 : Nat} : ab_M rom (d + 1) 247 [.ref r0, .ref r1] hp = ab_X rom (ab_M rom d) cX1_isBalanced 8 2 0 [.ref r0, .ref r1, .null, .null, .null] [] hp := ab_M_eq tX1_isBalanced (Nat.le_of_ble_eq_true rfl)
theorem dX1_isBalanced_0 : decode cX1_isBalanced 0 = .ok (.iconst 0, 1) := by decide +kernel
theorem sX1_isBalanced_0 : ab_X rom K cX1_isBalanced 8 2 0 ls st hp = ab_X rom K cX1_isBalanced 8 2 1 ls (.int 0 :: st) hp := ax_iconst dX1_isBalanced_0 (by decide) rfl
theorem dX1_isBalanced_1 : decode cX1_isBalanced 1 = .ok (.istore_n 2, 1) := by decide +kernel
theorem sX1_isBalanced_1i : ab_X rom K cX1_isBalanced 8 2 1 (v0 :: .int y :: v2 :: ls) (.int x :: st) hp = ab_X rom K cX1_isBalanced 8 2 2 (v0 :: .int y :: .int x :: ls) st hp := ax_istore_n dX1_isBalanced_1 (ax_lt (v := v2) rfl) (ab_nl_c1 (j := 1) (v := .int y) rfl (ab_c1_int _)) rfl rfl
theorem sX1_isBalanced_1r : ab_X rom K cX1_isBalanced 8 2 1 (v0 :: .ref a2 :: v2 :: ls) (.int x :: st) hp = ab_X rom K cX1_isBalanced 8 2 2 (v0 :: .ref a2 :: .int x :: ls) st hp := ax_istore_n dX1_isBalanced_1 (ax_lt (v := v2) rfl) (ab_nl_c1 (j := 1) (v := .ref a2) rfl (ab_c1_ref _)) rfl rfl
theorem sX1_isBalanced_1n : ab_X rom K cX1_isBalanced 8 2 1 (v0 :: .null :: v2 :: ls) (.int x :: st) hp = ab_X rom K cX1_isBalanced 8 2 2 (v0 :: .null :: .int x :: ls) st hp := ax_istore_n dX1_isBalanced_1 (ax_lt (v := v2) rfl) (ab_nl_c1 (j := 1) (v := .null) rfl ab_c1_null) rfl rfl
theorem dX1_isBalanced_2 : decode cX1_isBalanced 2 = .ok (.iconst 0, 1) := by decide +kernel
theorem sX1_isBalanced_2 : ab_X rom K cX1_isBalanced 8 2 2 ls st hp = ab_X rom K cX1_isBalanced 8 2 3 ls (.int 0 :: st) hp := ax_iconst dX1_isBalanced_2 (by decide) rfl
theorem dX1_isBalanced_3 : decode cX1_isBalanced 3 = .ok (.istore_n 3, 1) := by decide +kernel
theorem sX1_isBalanced_3i : ab_X rom K cX1_isBalanced 8 2 3 (v0 :: v1 :: .int y :: v3 :: ls) (.int x :: st) hp = ab_X rom K cX1_isBalanced 8 2 4 (v0 :: v1 :: .int y :: .int x :: ls) st hp := ax_istore_n dX1_isBalanced_3 (ax_lt (v := v3) rfl) (ab_nl_c1 (j := 2) (v := .int y) rfl (ab_c1_int _)) rfl rfl
theorem sX1_isBalanced_3r : ab_X rom K cX1_isBalanced 8 2 3 (v0 :: v1 :: .ref a2 :: v3 :: ls) (.int x :: st) hp = ab_X rom K cX1_isBalanced 8 2 4 (v0 :: v1 :: .ref a2 :: .int x :: ls) st hp := ax_istore_n dX1_isBalanced_3 (ax_lt (v := v3) rfl) (ab_nl_c1 (j := 2) (v := .ref a2) rfl (ab_c1_ref _)) rfl rfl
theorem sX1_isBalanced_3n : ab_X rom K cX1_isBalanced 8 2 3 (v0 :: v1 :: .null :: v3 :: ls) (.int x :: st) hp = ab_X rom K cX1_isBalanced 8 2 4 (v0 :: v1 :: .null :: .int x :: ls) st hp := ax_istore_n dX1_isBalanced_3 (ax_lt (v := v3) rfl) (ab_nl_c1 (j := 2) (v := .null) rfl ab_c1_null) rfl rfl
theorem dX1_isBalanced_4 : decode cX1_isBalanced 4 = .ok (.iload_n 3, 1) := by decide +kernel
theorem sX1_isBalanced_4 : ab_X rom K cX1_isBalanced 8 2 4 (v0 :: v1 :: v2 :: .int x :: ls) st hp = ab_X rom K cX1_isBalanced 8 2 5 (v0 :: v1 :: v2 :: .int x :: ls) (.int x :: st) hp := ax_iload_n dX1_isBalanced_4 rfl rfl
theorem dX1_isBalanced_5 : decode cX1_isBalanced 5 = .ok (.aload_n 0, 1) := by decide +kernel
theorem sX1_isBalanced_5 : ab_X rom K cX1_isBalanced 8 2 5 (.ref a :: ls) st hp = ab_X rom K cX1_isBalanced 8 2 6 (.ref a :: ls) (.ref a :: st) hp := ax_aload_n dX1_isBalanced_5 rfl rfl
theorem dX1_isBalanced_6 : decode cX1_isBalanced 6 = .ok (.getfield 46, 3) := by decide +kernel
theorem sX1_isBalanced_6 : ab_X rom K cX1_isBalanced 8 2 6 ls (.ref a :: st) hp = (ab_fld hp a 1 0).bind (fun v => ab_X rom K cX1_isBalanced 8 2 9 ls (v :: st) hp) := ax_getfield dX1_isBalanced_6 kf_8_46 rfl
theorem dX1_isBalanced_9 : decode cX1_isBalanced 9 = .ok (.if_icmp .ge 15, 3) := by decide +kernel
theorem sX1_isBalanced_9 : ab_X rom K cX1_isBalanced 8 2 9 ls (.int y :: .int x :: st) hp = if x < y then ab_X rom K cX1_isBalanced 8 2 12 ls st hp else ab_X rom K cX1_isBalanced 8 2 24 ls st hp := ax_icmp_ge dX1_isBalanced_9 (by decide) rfl
theorem dX1_isBalanced_12 : decode cX1_isBalanced 12 = .ok (.iload_n 2, 1) := by decide +kernel
theorem sX1_isBalanced_12 : ab_X rom K cX1_isBalanced 8 2 12 (v0 :: v1 :: .int x :: ls) st hp = ab_X rom K cX1_isBalanced 8 2 13 (v0 :: v1 :: .int x :: ls) (.int x :: st) hp := ax_iload_n dX1_isBalanced_12 rfl rfl
theorem dX1_isBalanced_13 : decode cX1_isBalanced 13 = .ok (.aload_n 1, 1) := by decide +kernel
theorem sX1_isBalanced_13 : ab_X rom K cX1_isBalanced 8 2 13 (v0 :: .ref a :: ls) st hp = ab_X rom K cX1_isBalanced 8 2 14 (v0 :: .ref a :: ls) (.ref a :: st) hp := ax_aload_n dX1_isBalanced_13 rfl rfl
theorem dX1_isBalanced_14 : decode cX1_isBalanced 14 = .ok (.iload_n 3, 1) := by decide +kernel
theorem sX1_isBalanced_14 : ab_X rom K cX1_isBalanced 8 2 14 (v0 :: v1 :: v2 :: .int x :: ls) st hp = ab_X rom K cX1_isBalanced 8 2 15 (v0 :: v1 :: v2 :: .int x :: ls) (.int x :: st) hp := ax_iload_n dX1_isBalanced_14 rfl rfl
theorem dX1_isBalanced_15 : decode cX1_isBalanced 15 = .ok (.iaload, 1) := by decide +kernel
theorem sX1_isBalanced_15 : ab_X rom K cX1_isBalanced 8 2 15 ls (.int x :: .ref a :: st) hp = (ab_ard rom 0 hp a x).bind (fun v => ab_X rom K cX1_isBalanced 8 2 16 ls (.int v :: st) hp) := ax_iaload dX1_isBalanced_15 rfl
theorem dX1_isBalanced_16 : decode cX1_isBalanced 16 = .ok (.iadd, 1) := by decide +kernel
theorem sX1_isBalanced_16 : ab_X rom K cX1_isBalanced 8 2 16 ls (.int y :: .int x :: st) hp = ab_X rom K cX1_isBalanced 8 2 17 ls (.int (x + y) :: st) hp := ax_iadd dX1_isBalanced_16 rfl
theorem dX1_isBalanced_17 : decode cX1_isBalanced 17 = .ok (.istore_n 2, 1) := by decide +kernel
theorem sX1_isBalanced_17i : ab_X rom K cX1_isBalanced 8 2 17 (v0 :: .int y :: v2 :: ls) (.int x :: st) hp = ab_X rom K cX1_isBalanced 8 2 18 (v0 :: .int y :: .int x :: ls) st hp := ax_istore_n dX1_isBalanced_17 (ax_lt (v := v2) rfl) (ab_nl_c1 (j := 1) (v := .int y) rfl (ab_c1_int _)) rfl rfl
theorem sX1_isBalanced_17r : ab_X rom K cX1_isBalanced 8 2 17 (v0 :: .ref a2 :: v2 :: ls) (.int x :: st) hp = ab_X rom K cX1_isBalanced 8 2 18 (v0 :: .ref a2 :: .int x :: ls) st hp := ax_istore_n dX1_isBalanced_17 (ax_lt (v := v2) rfl) (ab_nl_c1 (j := 1) (v := .ref a2) rfl (ab_c1_ref _)) rfl rfl
theorem sX1_isBalanced_17n : ab_X rom K cX1_isBalanced 8 2 17 (v0 :: .null :: v2 :: ls) (.int x :: st) hp = ab_X rom K cX1_isBalanced 8 2 18 (v0 :: .null :: .int x :: ls) st hp := ax_istore_n dX1_isBalanced_17 (ax_lt (v := v2) rfl) (ab_nl_c1 (j := 1) (v := .null) rfl ab_c1_null) rfl rfl
theorem dX1_isBalanced_18 : decode cX1_isBalanced 18 = .ok (.iinc 3 1, 3) := by decide +kernel
theorem sX1_isBalanced_18i : ab_X rom K cX1_isBalanced 8 2 18 (v0 :: v1 :: .int y :: .int x :: ls) st hp = ab_X rom K cX1_isBalanced 8 2 21 (v0 :: v1 :: .int y :: .int (x + 1) :: ls) st hp := ax_iinc dX1_isBalanced_18 rfl (ab_nl_c1 (j := 2) (v := .int y) rfl (ab_c1_int _)) (by decide) rfl rfl
theorem sX1_isBalanced_18r : ab_X rom K cX1_isBalanced 8 2 18 (v0 :: v1 :: .ref a2 :: .int x :: ls) st hp = ab_X rom K cX1_isBalanced 8 2 21 (v0 :: v1 :: .ref a2 :: .int (x + 1) :: ls) st hp := ax_iinc dX1_isBalanced_18 rfl (ab_nl_c1 (j := 2) (v := .ref a2) rfl (ab_c1_ref _)) (by decide) rfl rfl
theorem sX1_isBalanced_18n : ab_X rom K cX1_isBalanced 8 2 18 (v0 :: v1 :: .null :: .int x :: ls) st hp = ab_X rom K cX1_isBalanced 8 2 21 (v0 :: v1 :: .null :: .int (x + 1) :: ls) st hp := ax_iinc dX1_isBalanced_18 rfl (ab_nl_c1 (j := 2) (v := .null) rfl ab_c1_null) (by decide) rfl rfl
theorem dX1_isBalanced_21 : decode cX1_isBalanced 21 = .ok (.goto (-17), 3) := by decide +kernel
theorem sX1_isBalanced_21 : ab_X rom K cX1_isBalanced 8 2 21 ls st hp = ab_X rom K cX1_isBalanced 8 2 4 ls st hp := ax_goto dX1_isBalanced_21 (by decide)
theorem dX1_isBalanced_24 : decode cX1_isBalanced 24 = .ok (.iconst 0, 1) := by decide +kernel
theorem sX1_isBalanced_24 : ab_X rom K cX1_isBalanced 8 2 24 ls st hp = ab_X rom K cX1_isBalanced 8 2 25 ls (.int 0 :: st) hp := ax_iconst dX1_isBalanced_24 (by decide) rfl
theorem dX1_isBalanced_25 : decode cX1_isBalanced 25 = .ok (.istore_n 3, 1) := by decide +kernel
theorem sX1_isBalanced_25i : ab_X rom K cX1_isBalanced 8 2 25 (v0 :: v1 :: .int y :: v3 :: ls) (.int x :: st) hp = ab_X rom K cX1_isBalanced 8 2 26 (v0 :: v1 :: .int y :: .int x :: ls) st hp := ax_istore_n dX1_isBalanced_25 (ax_lt (v := v3) rfl) (ab_nl_c1 (j := 2) (v := .int y) rfl (ab_c1_int _)) rfl rfl
theorem sX1_isBalanced_25r : ab_X rom K cX1_isBalanced 8 2 25 (v0 :: v1 :: .ref a2 :: v3 :: ls) (.int x :: st) hp = ab_X rom K cX1_isBalanced 8 2 26 (v0 :: v1 :: .ref a2 :: .int x :: ls) st hp := ax_istore_n dX1_isBalanced_25 (ax_lt (v := v3) rfl) (ab_nl_c1 (j := 2) (v := .ref a2) rfl (ab_c1_ref _)) rfl rfl
theorem sX1_isBalanced_25n : ab_X rom K cX1_isBalanced 8 2 25 (v0 :: v1 :: .null :: v3 :: ls) (.int x :: st) hp = ab_X rom K cX1_isBalanced 8 2 26 (v0 :: v1 :: .null :: .int x :: ls) st hp := ax_istore_n dX1_isBalanced_25 (ax_lt (v := v3) rfl) (ab_nl_c1 (j := 2) (v := .null) rfl ab_c1_null) rfl rfl
theorem dX1_isBalanced_26 : decode cX1_isBalanced 26 = .ok (.iconst 0, 1) := by decide +kernel
theorem sX1_isBalanced_26 : ab_X rom K cX1_isBalanced 8 2 26 ls st hp = ab_X rom K cX1_isBalanced 8 2 27 ls (.int 0 :: st) hp := ax_iconst dX1_isBalanced_26 (by decide) rfl
theorem dX1_isBalanced_27 : decode cX1_isBalanced 27 = .ok (.istore 4, 2) := by decide +kernel
theorem sX1_isBalanced_27i : ab_X rom K cX1_isBalanced 8 2 27 (v0 :: v1 :: v2 :: .int y :: v4 :: ls) (.int x :: st) hp = ab_X rom K cX1_isBalanced 8 2 29 (v0 :: v1 :: v2 :: .int y :: .int x :: ls) st hp := ax_istore dX1_isBalanced_27 (ax_lt (v := v4) rfl) (ab_nl_c1 (j := 3) (v := .int y) rfl (ab_c1_int _)) rfl rfl
theorem sX1_isBalanced_27r : ab_X rom K cX1_isBalanced 8 2 27 (v0 :: v1 :: v2 :: .ref a2 :: v4 :: ls) (.int x :: st) hp = ab_X rom K cX1_isBalanced 8 2 29 (v0 :: v1 :: v2 :: .ref a2 :: .int x :: ls) st hp := ax_istore dX1_isBalanced_27 (ax_lt (v := v4) rfl) (ab_nl_c1 (j := 3) (v := .ref a2) rfl (ab_c1_ref _)) rfl rfl
theorem sX1_isBalanced_27n : ab_X rom K cX1_isBalanced 8 2 27 (v0 :: v1 :: v2 :: .null :: v4 :: ls) (.int x :: st) hp = ab_X rom K cX1_isBalanced 8 2 29 (v0 :: v1 :: v2 :: .null :: .int x :: ls) st hp := ax_istore dX1_isBalanced_27 (ax_lt (v := v4) rfl) (ab_nl_c1 (j := 3) (v := .null) rfl ab_c1_null) rfl rfl
theorem dX1_isBalanced_29 : decode cX1_isBalanced 29 = .ok (.iload 4, 2) := by decide +kernel
theorem sX1_isBalanced_29 : ab_X rom K cX1_isBalanced 8 2 29 (v0 :: v1 :: v2 :: v3 :: .int x :: ls) st hp = ab_X rom K cX1_isBalanced 8 2 31 (v0 :: v1 :: v2 :: v3 :: .int x :: ls) (.int x :: st) hp := ax_iload dX1_isBalanced_29 rfl rfl
theorem dX1_isBalanced_31 : decode cX1_isBalanced 31 = .ok (.aload_n 0, 1) := by decide +kernel
theorem sX1_isBalanced_31 : ab_X rom K cX1_isBalanced 8 2 31 (.ref a :: ls) st hp = ab_X rom K cX1_isBalanced 8 2 32 (.ref a :: ls) (.ref a :: st) hp := ax_aload_n dX1_isBalanced_31 rfl rfl
theorem dX1_isBalanced_32 : decode cX1_isBalanced 32 = .ok (.getfield 22, 3) := by decide +kernel
theorem sX1_isBalanced_32 : ab_X rom K cX1_isBalanced 8 2 32 ls (.ref a :: st) hp = (ab_fld hp a 1 1).bind (fun v => ab_X rom K cX1_isBalanced 8 2 35 ls (v :: st) hp) := ax_getfield dX1_isBalanced_32 kf_8_22 rfl
theorem dX1_isBalanced_35 : decode cX1_isBalanced 35 = .ok (.if_icmp .ge 31, 3) := by decide +kernel
theorem sX1_isBalanced_35 : ab_X rom K cX1_isBalanced 8 2 35 ls (.int y :: .int x :: st) hp = if x < y then ab_X rom K cX1_isBalanced 8 2 38 ls st hp else ab_X rom K cX1_isBalanced 8 2 66 ls st hp := ax_icmp_ge dX1_isBalanced_35 (by decide) rfl
theorem dX1_isBalanced_38 : decode cX1_isBalanced 38 = .ok (.iload_n 3, 1) := by decide +kernel
theorem sX1_isBalanced_38 : ab_X rom K cX1_isBalanced 8 2 38 (v0 :: v1 :: v2 :: .int x :: ls) st hp = ab_X rom K cX1_isBalanced 8 2 39 (v0 :: v1 :: v2 :: .int x :: ls) (.int x :: st) hp := ax_iload_n dX1_isBalanced_38 rfl rfl
theorem dX1_isBalanced_39 : decode cX1_isBalanced 39 = .ok (.aload_n 1, 1) := by decide +kernel
theorem sX1_isBalanced_39 : ab_X rom K cX1_isBalanced 8 2 39 (v0 :: .ref a :: ls) st hp = ab_X rom K cX1_isBalanced 8 2 40 (v0 :: .ref a :: ls) (.ref a :: st) hp := ax_aload_n dX1_isBalanced_39 rfl rfl
theorem dX1_isBalanced_40 : decode cX1_isBalanced 40 = .ok (.aload_n 0, 1) := by decide +kernel
theorem sX1_isBalanced_40 : ab_X rom K cX1_isBalanced 8 2 40 (.ref a :: ls) st hp = ab_X rom K cX1_isBalanced 8 2 41 (.ref a :: ls) (.ref a :: st) hp := ax_aload_n dX1_isBalanced_40 rfl rfl
theorem dX1_isBalanced_41 : decode cX1_isBalanced 41 = .ok (.getfield 74, 3) := by decide +kernel
theorem sX1_isBalanced_41 : ab_X rom K cX1_isBalanced 8 2 41 ls (.ref a :: st) hp = (ab_fld hp a 1 2).bind (fun v => ab_X rom K cX1_isBalanced 8 2 44 ls (v :: st) hp) := ax_getfield dX1_isBalanced_41 kf_8_74 rfl
theorem dX1_isBalanced_44 : decode cX1_isBalanced 44 = .ok (.iload 4, 2) := by decide +kernel
theorem sX1_isBalanced_44 : ab_X rom K cX1_isBalanced 8 2 44 (v0 :: v1 :: v2 :: v3 :: .int x :: ls) st hp = ab_X rom K cX1_isBalanced 8 2 46 (v0 :: v1 :: v2 :: v3 :: .int x :: ls) (.int x :: st) hp := ax_iload dX1_isBalanced_44 rfl rfl
theorem dX1_isBalanced_46 : decode cX1_isBalanced 46 = .ok (.iaload, 1) := by decide +kernel
theorem sX1_isBalanced_46 : ab_X rom K cX1_isBalanced 8 2 46 ls (.int x :: .ref a :: st) hp = (ab_ard rom 0 hp a x).bind (fun v => ab_X rom K cX1_isBalanced 8 2 47 ls (.int v :: st) hp) := ax_iaload dX1_isBalanced_46 rfl
theorem dX1_isBalanced_47 : decode cX1_isBalanced 47 = .ok (.iaload, 1) := by decide +kernel
theorem sX1_isBalanced_47 : ab_X rom K cX1_isBalanced 8 2 47 ls (.int x :: .ref a :: st) hp = (ab_ard rom 0 hp a x).bind (fun v => ab_X rom K cX1_isBalanced 8 2 48 ls (.int v :: st) hp) := ax_iaload dX1_isBalanced_47 rfl
theorem dX1_isBalanced_48 : decode cX1_isBalanced 48 = .ok (.aload_n 1, 1) := by decide +kernel
theorem sX1_isBalanced_48 : ab_X rom K cX1_isBalanced 8 2 48 (v0 :: .ref a :: ls) st hp = ab_X rom K cX1_isBalanced 8 2 49 (v0 :: .ref a :: ls) (.ref a :: st) hp := ax_aload_n dX1_isBalanced_48 rfl rfl
theorem dX1_isBalanced_49 : decode cX1_isBalanced 49 = .ok (.aload_n 0, 1) := by decide +kernel
theorem sX1_isBalanced_49 : ab_X rom K cX1_isBalanced 8 2 49 (.ref a :: ls) st hp = ab_X rom K cX1_isBalanced 8 2 50 (.ref a :: ls) (.ref a :: st) hp := ax_aload_n dX1_isBalanced_49 rfl rfl
theorem dX1_isBalanced_50 : decode cX1_isBalanced 50 = .ok (.getfield 77, 3) := by decide +kernel
theorem sX1_isBalanced_50 : ab_X rom K cX1_isBalanced 8 2 50 ls (.ref a :: st) hp = (ab_fld hp a 1 3).bind (fun v => ab_X rom K cX1_isBalanced 8 2 53 ls (v :: st) hp) := ax_getfield dX1_isBalanced_50 kf_8_77 rfl
theorem dX1_isBalanced_53 : decode cX1_isBalanced 53 = .ok (.iload 4, 2) := by decide +kernel
theorem sX1_isBalanced_53 : ab_X rom K cX1_isBalanced 8 2 53 (v0 :: v1 :: v2 :: v3 :: .int x :: ls) st hp = ab_X rom K cX1_isBalanced 8 2 55 (v0 :: v1 :: v2 :: v3 :: .int x :: ls) (.int x :: st) hp := ax_iload dX1_isBalanced_53 rfl rfl
theorem dX1_isBalanced_55 : decode cX1_isBalanced 55 = .ok (.iaload, 1) := by decide +kernel
theorem sX1_isBalanced_55 : ab_X rom K cX1_isBalanced 8 2 55 ls (.int x :: .ref a :: st) hp = (ab_ard rom 0 hp a x).bind (fun v => ab_X rom K cX1_isBalanced 8 2 56 ls (.int v :: st) hp) := ax_iaload dX1_isBalanced_55 rfl
theorem dX1_isBalanced_56 : decode cX1_isBalanced 56 = .ok (.iaload, 1) := by decide +kernel
theorem sX1_isBalanced_56 : ab_X rom K cX1_isBalanced 8 2 56 ls (.int x :: .ref a :: st) hp = (ab_ard rom 0 hp a x).bind (fun v => ab_X rom K cX1_isBalanced 8 2 57 ls (.int v :: st) hp) := ax_iaload dX1_isBalanced_56 rfl
theorem dX1_isBalanced_57 : decode cX1_isBalanced 57 = .ok (.ixor, 1) := by decide +kernel
theorem sX1_isBalanced_57 : ab_X rom K cX1_isBalanced 8 2 57 ls (.int y :: .int x :: st) hp = ab_X rom K cX1_isBalanced 8 2 58 ls (.int (x ^^^ y) :: st) hp := ax_ixor dX1_isBalanced_57 rfl
theorem dX1_isBalanced_58 : decode cX1_isBalanced 58 = .ok (.iadd, 1) := by decide +kernel
theorem sX1_isBalanced_58 : ab_X rom K cX1_isBalanced 8 2 58 ls (.int y :: .int x :: st) hp = ab_X rom K cX1_isBalanced 8 2 59 ls (.int (x + y) :: st) hp := ax_iadd dX1_isBalanced_58 rfl
theorem dX1_isBalanced_59 : decode cX1_isBalanced 59 = .ok (.istore_n 3, 1) := by decide +kernel
theorem sX1_isBalanced_59i : ab_X rom K cX1_isBalanced 8 2 59 (v0 :: v1 :: .int y :: v3 :: ls) (.int x :: st) hp = ab_X rom K cX1_isBalanced 8 2 60 (v0 :: v1 :: .int y :: .int x :: ls) st hp := ax_istore_n dX1_isBalanced_59 (ax_lt (v := v3) rfl) (ab_nl_c1 (j := 2) (v := .int y) rfl (ab_c1_int _)) rfl rfl
theorem sX1_isBalanced_59r : ab_X rom K cX1_isBalanced 8 2 59 (v0 :: v1 :: .ref a2 :: v3 :: ls) (.int x :: st) hp = ab_X rom K cX1_isBalanced 8 2 60 (v0 :: v1 :: .ref a2 :: .int x :: ls) st hp := ax_istore_n dX1_isBalanced_59 (ax_lt (v := v3) rfl) (ab_nl_c1 (j := 2) (v := .ref a2) rfl (ab_c1_ref _)) rfl rfl
theorem sX1_isBalanced_59n : ab_X rom K cX1_isBalanced 8 2 59 (v0 :: v1 :: .null :: v3 :: ls) (.int x :: st) hp = ab_X rom K cX1_isBalanced 8 2 60 (v0 :: v1 :: .null :: .int x :: ls) st hp := ax_istore_n dX1_isBalanced_59 (ax_lt (v := v3) rfl) (ab_nl_c1 (j := 2) (v := .null) rfl ab_c1_null) rfl rfl
theorem dX1_isBalanced_60 : decode cX1_isBalanced 60 = .ok (.iinc 4 1, 3) := by decide +kernel
theorem sX1_isBalanced_60i : ab_X rom K cX1_isBalanced 8 2 60 (v0 :: v1 :: v2 :: .int y :: .int x :: ls) st hp = ab_X rom K cX1_isBalanced 8 2 63 (v0 :: v1 :: v2 :: .int y :: .int (x + 1) :: ls) st hp := ax_iinc dX1_isBalanced_60 rfl (ab_nl_c1 (j := 3) (v := .int y) rfl (ab_c1_int _)) (by decide) rfl rfl
theorem sX1_isBalanced_60r : ab_X rom K cX1_isBalanced 8 2 60 (v0 :: v1 :: v2 :: .ref a2 :: .int x :: ls) st hp = ab_X rom K cX1_isBalanced 8 2 63 (v0 :: v1 :: v2 :: .ref a2 :: .int (x + 1) :: ls) st hp := ax_iinc dX1_isBalanced_60 rfl (ab_nl_c1 (j := 3) (v := .ref a2) rfl (ab_c1_ref _)) (by decide) rfl rfl
theorem sX1_isBalanced_60n : ab_X rom K cX1_isBalanced 8 2 60 (v0 :: v1 :: v2 :: .null :: .int x :: ls) st hp = ab_X rom K cX1_isBalanced 8 2 63 (v0 :: v1 :: v2 :: .null :: .int (x + 1) :: ls) st hp := ax_iinc dX1_isBalanced_60 rfl (ab_nl_c1 (j := 3) (v := .null) rfl ab_c1_null) (by decide) rfl rfl
theorem dX1_isBalanced_63 : decode cX1_isBalanced 63 = .ok (.goto (-34), 3) := by decide +kernel
theorem sX1_isBalanced_63 : ab_X rom K cX1_isBalanced 8 2 63 ls st hp = ab_X rom K cX1_isBalanced 8 2 29 ls st hp := ax_goto dX1_isBalanced_63 (by decide)
theorem dX1_isBalanced_66 : decode cX1_isBalanced 66 = .ok (.aload_n 0, 1) := by decide +kernel
theorem sX1_isBalanced_66 : ab_X rom K cX1_isBalanced 8 2 66 (.ref a :: ls) st hp = ab_X rom K cX1_isBalanced 8 2 67 (.ref a :: ls) (.ref a :: st) hp := ax_aload_n dX1_isBalanced_66 rfl rfl
theorem dX1_isBalanced_67 : decode cX1_isBalanced 67 = .ok (.getfield 46, 3) := by decide +kernel
theorem sX1_isBalanced_67 : ab_X rom K cX1_isBalanced 8 2 67 ls (.ref a :: st) hp = (ab_fld hp a 1 0).bind (fun v => ab_X rom K cX1_isBalanced 8 2 70 ls (v :: st) hp) := ax_getfield dX1_isBalanced_67 kf_8_46 rfl
theorem dX1_isBalanced_70 : decode cX1_isBalanced 70 = .ok (.iconst 2, 1) := by decide +kernel
theorem sX1_isBalanced_70 : ab_X rom K cX1_isBalanced 8 2 70 ls st hp = ab_X rom K cX1_isBalanced 8 2 71 ls (.int 2 :: st) hp := ax_iconst dX1_isBalanced_70 (by decide) rfl
theorem dX1_isBalanced_71 : decode cX1_isBalanced 71 = .ok (.iload_n 2, 1) := by decide +kernel
theorem sX1_isBalanced_71 : ab_X rom K cX1_isBalanced 8 2 71 (v0 :: v1 :: .int x :: ls) st hp = ab_X rom K cX1_isBalanced 8 2 72 (v0 :: v1 :: .int x :: ls) (.int x :: st) hp := ax_iload_n dX1_isBalanced_71 rfl rfl
theorem dX1_isBalanced_72 : decode cX1_isBalanced 72 = .ok (.imul, 1) := by decide +kernel
theorem sX1_isBalanced_72 : ab_X rom K cX1_isBalanced 8 2 72 ls (.int y :: .int x :: st) hp = ab_X rom K cX1_isBalanced 8 2 73 ls (.int (x * y) :: st) hp := ax_imul dX1_isBalanced_72 rfl
theorem dX1_isBalanced_73 : decode cX1_isBalanced 73 = .ok (.isub, 1) := by decide +kernel
theorem sX1_isBalanced_73 : ab_X rom K cX1_isBalanced 8 2 73 ls (.int y :: .int x :: st) hp = ab_X rom K cX1_isBalanced 8 2 74 ls (.int (x - y) :: st) hp := ax_isub dX1_isBalanced_73 rfl
theorem dX1_isBalanced_74 : decode cX1_isBalanced 74 = .ok (.invokestatic 88, 3) := by decide +kernel
theorem sX1_isBalanced_74_0 : ab_X rom K cX1_isBalanced 8 2 74 ls [.int x] hp = ab_X rom K cX1_isBalanced 8 2 77 ls [.int (ab_abs x)] hp := ax_abs dX1_isBalanced_74 kc_8_88 rfl (Nat.le_of_ble_eq_true rfl)
theorem sX1_isBalanced_74_1 : ab_X rom K cX1_isBalanced 8 2 74 ls [.int x, v0] hp = ab_X rom K cX1_isBalanced 8 2 77 ls [.int (ab_abs x), v0] hp := ax_abs dX1_isBalanced_74 kc_8_88 rfl (Nat.le_of_ble_eq_true rfl)
theorem sX1_isBalanced_74_2 : ab_X rom K cX1_isBalanced 8 2 74 ls [.int x, v0, v1] hp = ab_X rom K cX1_isBalanced 8 2 77 ls [.int (ab_abs x), v0, v1] hp := ax_abs dX1_isBalanced_74 kc_8_88 rfl (Nat.le_of_ble_eq_true rfl)
theorem sX1_isBalanced_74_3 : ab_X rom K cX1_isBalanced 8 2 74 ls [.int x, v0, v1, v2] hp = ab_X rom K cX1_isBalanced 8 2 77 ls [.int (ab_abs x), v0, v1, v2] hp := ax_abs dX1_isBalanced_74 kc_8_88 rfl (Nat.le_of_ble_eq_true rfl)
theorem dX1_isBalanced_77 : decode cX1_isBalanced 77 = .ok (.iconst 1, 1) := by decide +kernel
theorem sX1_isBalanced_77 : ab_X rom K cX1_isBalanced 8 2 77 ls st hp = ab_X rom K cX1_isBalanced 8 2 78 ls (.int 1 :: st) hp := ax_iconst dX1_isBalanced_77 (by decide) rfl
theorem dX1_isBalanced_78 : decode cX1_isBalanced 78 = .ok (.if_icmp .gt 22, 3) := by decide +kernel
theorem sX1_isBalanced_78 : ab_X rom K cX1_isBalanced 8 2 78 ls (.int y :: .int x :: st) hp = if y < x then ab_X rom K cX1_isBalanced 8 2 100 ls st hp else ab_X rom K cX1_isBalanced 8 2 81 ls st hp := ax_icmp_gt dX1_isBalanced_78 (by decide) rfl
theorem dX1_isBalanced_81 : decode cX1_isBalanced 81 = .ok (.aload_n 0, 1) := by decide +kernel
theorem sX1_isBalanced_81 : ab_X rom K cX1_isBalanced 8 2 81 (.ref a :: ls) st hp = ab_X rom K cX1_isBalanced 8 2 82 (.ref a :: ls) (.ref a :: st) hp := ax_aload_n dX1_isBalanced_81 rfl rfl
theorem dX1_isBalanced_82 : decode cX1_isBalanced 82 = .ok (.getfield 22, 3) := by decide +kernel
theorem sX1_isBalanced_82 : ab_X rom K cX1_isBalanced 8 2 82 ls (.ref a :: st) hp = (ab_fld hp a 1 1).bind (fun v => ab_X rom K cX1_isBalanced 8 2 85 ls (v :: st) hp) := ax_getfield dX1_isBalanced_82 kf_8_22 rfl
theorem dX1_isBalanced_85 : decode cX1_isBalanced 85 = .ok (.iconst 2, 1) := by decide +kernel
theorem sX1_isBalanced_85 : ab_X rom K cX1_isBalanced 8 2 85 ls st hp = ab_X rom K cX1_isBalanced 8 2 86 ls (.int 2 :: st) hp := ax_iconst dX1_isBalanced_85 (by decide) rfl
theorem dX1_isBalanced_86 : decode cX1_isBalanced 86 = .ok (.iload_n 3, 1) := by decide +kernel
theorem sX1_isBalanced_86 : ab_X rom K cX1_isBalanced 8 2 86 (v0 :: v1 :: v2 :: .int x :: ls) st hp = ab_X rom K cX1_isBalanced 8 2 87 (v0 :: v1 :: v2 :: .int x :: ls) (.int x :: st) hp := ax_iload_n dX1_isBalanced_86 rfl rfl
theorem dX1_isBalanced_87 : decode cX1_isBalanced 87 = .ok (.imul, 1) := by decide +kernel
theorem sX1_isBalanced_87 : ab_X rom K cX1_isBalanced 8 2 87 ls (.int y :: .int x :: st) hp = ab_X rom K cX1_isBalanced 8 2 88 ls (.int (x * y) :: st) hp := ax_imul dX1_isBalanced_87 rfl
theorem dX1_isBalanced_88 : decode cX1_isBalanced 88 = .ok (.isub, 1) := by decide +kernel
theorem sX1_isBalanced_88 : ab_X rom K cX1_isBalanced 8 2 88 ls (.int y :: .int x :: st) hp = ab_X rom K cX1_isBalanced 8 2 89 ls (.int (x - y) :: st) hp := ax_isub dX1_isBalanced_88 rfl
theorem dX1_isBalanced_89 : decode cX1_isBalanced 89 = .ok (.invokestatic 88, 3) := by decide +kernel
theorem sX1_isBalanced_89_0 : ab_X rom K cX1_isBalanced 8 2 89 ls [.int x] hp = ab_X rom K cX1_isBalanced 8 2 92 ls [.int (ab_abs x)] hp := ax_abs dX1_isBalanced_89 kc_8_88 rfl (Nat.le_of_ble_eq_true rfl)
theorem sX1_isBalanced_89_1 : ab_X rom K cX1_isBalanced 8 2 89 ls [.int x, v0] hp = ab_X rom K cX1_isBalanced 8 2 92 ls [.int (ab_abs x), v0] hp := ax_abs dX1_isBalanced_89 kc_8_88 rfl (Nat.le_of_ble_eq_true rfl)
theorem sX1_isBalanced_89_2 : ab_X rom K cX1_isBalanced 8 2 89 ls [.int x, v0, v1] hp = ab_X rom K cX1_isBalanced 8 2 92 ls [.int (ab_abs x), v0, v1] hp := ax_abs dX1_isBalanced_89 kc_8_88 rfl (Nat.le_of_ble_eq_true rfl)
theorem sX1_isBalanced_89_3 : ab_X rom K cX1_isBalanced 8 2 89 ls [.int x, v0, v1, v2] hp = ab_X rom K cX1_isBalanced 8 2 92 ls [.int (ab_abs x), v0, v1, v2] hp := ax_abs dX1_isBalanced_89 kc_8_88 rfl (Nat.le_of_ble_eq_true rfl)
theorem dX1_isBalanced_92 : decode cX1_isBalanced 92 = .ok (.iconst 1, 1) := by decide +kernel
theorem sX1_isBalanced_92 : ab_X rom K cX1_isBalanced 8 2 92 ls st hp = ab_X rom K cX1_isBalanced 8 2 93 ls (.int 1 :: st) hp := ax_iconst dX1_isBalanced_92 (by decide) rfl
theorem dX1_isBalanced_93 : decode cX1_isBalanced 93 = .ok (.if_icmp .gt 7, 3) := by decide +kernel
theorem sX1_isBalanced_93 : ab_X rom K cX1_isBalanced 8 2 93 ls (.int y :: .int x :: st) hp = if y < x then ab_X rom K cX1_isBalanced 8 2 100 ls st hp else ab_X rom K cX1_isBalanced 8 2 96 ls st hp := ax_icmp_gt dX1_isBalanced_93 (by decide) rfl
theorem dX1_isBalanced_96 : decode cX1_isBalanced 96 = .ok (.iconst 1, 1) := by decide +kernel
theorem sX1_isBalanced_96 : ab_X rom K cX1_isBalanced 8 2 96 ls st hp = ab_X rom K cX1_isBalanced 8 2 97 ls (.int 1 :: st) hp := ax_iconst dX1_isBalanced_96 (by decide) rfl
theorem dX1_isBalanced_97 : decode cX1_isBalanced 97 = .ok (.goto 4, 3) := by decide +kernel
theorem sX1_isBalanced_97 : ab_X rom K cX1_isBalanced 8 2 97 ls st hp = ab_X rom K cX1_isBalanced 8 2 101 ls st hp := ax_goto dX1_isBalanced_97 (by decide)
theorem dX1_isBalanced_100 : decode cX1_isBalanced 100 = .ok (.iconst 0, 1) := by decide +kernel
theorem sX1_isBalanced_100 : ab_X rom K cX1_isBalanced 8 2 100 ls st hp = ab_X rom K cX1_isBalanced 8 2 101 ls (.int 0 :: st) hp := ax_iconst dX1_isBalanced_100 (by decide) rfl
theorem dX1_isBalanced_101 : decode cX1_isBalanced 101 = .ok (.ireturn, 1) := by decide +kernel
theorem sX1_isBalanced_101 : ab_X rom K cX1_isBalanced 8 2 101 ls [.int x] hp = if x = 0 ∨ x = 1 then some (some (.int x), hp) else none := ay_zret dX1_isBalanced_101 rfl
theorem tX1_isBarred : ab_mT[248]? = some (yX1_isBarred, cX1_isBarred, 3, 2, 8) := by decide +kernel
theorem mX1_isBarred {d : Nat} {r0 : Nat} {x1 : Int32} : ab_M rom (d + 1) 248 [.ref r0, .int x1] hp = ab_X rom (ab_M rom d) cX1_isBarred 8 2 0 [.ref r0, .int x1, .null] [] hp := ab_M_eq tX1_isBarred (Nat.le_of_ble_eq_true rfl)
theorem dX1_isBarred_0 : decode cX1_isBarred 0 = .ok (.aload_n 0, 1) := by decide +kernel
theorem sX1_isBarred_0 : ab_X rom K cX1_isBarred 8 2 0 (.ref a :: ls) st hp = ab_X rom K cX1_isBarred 8 2 1 (.ref a :: ls) (.ref a :: st) hp := ax_aload_n dX1_isBarred_0 rfl rfl
theorem dX1_isBarred_1 : decode cX1_isBarred 1 = .ok (.getfield 22, 3) := by decide +kernel
theorem sX1_isBarred_1 : ab_X rom K cX1_isBarred 8 2 1 ls (.ref a :: st) hp = (ab_fld hp a 1 1).bind (fun v => ab_X rom K cX1_isBarred 8 2 4 ls (v :: st) hp) := ax_getfield dX1_isBarred_1 kf_8_22 rfl
theorem dX1_isBarred_4 : decode cX1_isBarred 4 = .ok (.iconst 4, 1) := by decide +kernel
theorem sX1_isBarred_4 : ab_X rom K cX1_isBarred 8 2 4 ls st hp = ab_X rom K cX1_isBarred 8 2 5 ls (.int 4 :: st) hp := ax_iconst dX1_isBarred_4 (by decide) rfl
theorem dX1_isBarred_5 : decode cX1_isBarred 5 = .ok (.irem, 1) := by decide +kernel
theorem sX1_isBarred_5 : ab_X rom K cX1_isBarred 8 2 5 ls (.int y :: .int x :: st) hp = if y = 0 then none else ab_X rom K cX1_isBarred 8 2 6 ls (.int (ab_rem x y) :: st) hp := ay_irem dX1_isBarred_5 rfl
theorem dX1_isBarred_6 : decode cX1_isBarred 6 = .ok (.istore_n 2, 1) := by decide +kernel
theorem sX1_isBarred_6i : ab_X rom K cX1_isBarred 8 2 6 (v0 :: .int y :: v2 :: ls) (.int x :: st) hp = ab_X rom K cX1_isBarred 8 2 7 (v0 :: .int y :: .int x :: ls) st hp := ax_istore_n dX1_isBarred_6 (ax_lt (v := v2) rfl) (ab_nl_c1 (j := 1) (v := .int y) rfl (ab_c1_int _)) rfl rfl
theorem sX1_isBarred_6r : ab_X rom K cX1_isBarred 8 2 6 (v0 :: .ref a2 :: v2 :: ls) (.int x :: st) hp = ab_X rom K cX1_isBarred 8 2 7 (v0 :: .ref a2 :: .int x :: ls) st hp := ax_istore_n dX1_isBarred_6 (ax_lt (v := v2) rfl) (ab_nl_c1 (j := 1) (v := .ref a2) rfl (ab_c1_ref _)) rfl rfl
theorem sX1_isBarred_6n : ab_X rom K cX1_isBarred 8 2 6 (v0 :: .null :: v2 :: ls) (.int x :: st) hp = ab_X rom K cX1_isBarred 8 2 7 (v0 :: .null :: .int x :: ls) st hp := ax_istore_n dX1_isBarred_6 (ax_lt (v := v2) rfl) (ab_nl_c1 (j := 1) (v := .null) rfl ab_c1_null) rfl rfl
theorem dX1_isBarred_7 : decode cX1_isBarred 7 = .ok (.iload_n 1, 1) := by decide +kernel
theorem sX1_isBarred_7 : ab_X rom K cX1_isBarred 8 2 7 (v0 :: .int x :: ls) st hp = ab_X rom K cX1_isBarred 8 2 8 (v0 :: .int x :: ls) (.int x :: st) hp := ax_iload_n dX1_isBarred_7 rfl rfl
theorem dX1_isBarred_8 : decode cX1_isBarred 8 = .ok (.tableswitch 144 0 3 #[32, 32, 80, 118], 32) := by decide +kernel
theorem sX1_isBarred_8_d (h : x.toInt < 0 ∨ 3 < x.toInt) : ab_X rom K cX1_isBarred 8 2 8 ls (.int x :: st) hp = ab_X rom K cX1_isBarred 8 2 152 ls st hp := ax_tsw_out dX1_isBarred_8 (by decide) h
theorem sX1_isBarred_8_0 : ab_X rom K cX1_isBarred 8 2 8 ls (.int 0 :: st) hp = ab_X rom K cX1_isBarred 8 2 40 ls st hp := ax_tsw_in (off := 32) dX1_isBarred_8 (by decide) (by decide) (by decide)
theorem sX1_isBarred_8_1 : ab_X rom K cX1_isBarred 8 2 8 ls (.int 1 :: st) hp = ab_X rom K cX1_isBarred 8 2 40 ls st hp := ax_tsw_in (off := 32) dX1_isBarred_8 (by decide) (by decide) (by decide)
theorem sX1_isBarred_8_2 : ab_X rom K cX1_isBarred 8 2 8 ls (.int 2 :: st) hp = ab_X rom K cX1_isBarred 8 2 88 ls st hp := ax_tsw_in (off := 80) dX1_isBarred_8 (by decide) (by decide) (by decide)
theorem sX1_isBarred_8_3 : ab_X rom K cX1_isBarred 8 2 8 ls (.int 3 :: st) hp = ab_X rom K cX1_isBarred 8 2 126 ls st hp := ax_tsw_in (off := 118) dX1_isBarred_8 (by decide) (by decide) (by decide)
theorem dX1_isBarred_40 : decode cX1_isBarred 40 = .ok (.aload_n 0, 1) := by decide +kernel
theorem sX1_isBarred_40 : ab_X rom K cX1_isBarred 8 2 40 (.ref a :: ls) st hp = ab_X rom K cX1_isBarred 8 2 41 (.ref a :: ls) (.ref a :: st) hp := ax_aload_n dX1_isBarred_40 rfl rfl
theorem dX1_isBarred_41 : decode cX1_isBarred 41 = .ok (.getfield 46, 3) := by decide +kernel
theorem sX1_isBarred_41 : ab_X rom K cX1_isBarred 8 2 41 ls (.ref a :: st) hp = (ab_fld hp a 1 0).bind (fun v => ab_X rom K cX1_isBarred 8 2 44 ls (v :: st) hp) := ax_getfield dX1_isBarred_41 kf_8_46 rfl
theorem dX1_isBarred_44 : decode cX1_isBarred 44 = .ok (.aload_n 0, 1) := by decide +kernel
theorem sX1_isBarred_44 : ab_X rom K cX1_isBarred 8 2 44 (.ref a :: ls) st hp = ab_X rom K cX1_isBarred 8 2 45 (.ref a :: ls) (.ref a :: st) hp := ax_aload_n dX1_isBarred_44 rfl rfl
theorem dX1_isBarred_45 : decode cX1_isBarred 45 = .ok (.getfield 22, 3) := by decide +kernel
theorem sX1_isBarred_45 : ab_X rom K cX1_isBarred 8 2 45 ls (.ref a :: st) hp = (ab_fld hp a 1 1).bind (fun v => ab_X rom K cX1_isBarred 8 2 48 ls (v :: st) hp) := ax_getfield dX1_isBarred_45 kf_8_22 rfl
theorem dX1_isBarred_48 : decode cX1_isBarred 48 = .ok (.iconst 1, 1) := by decide +kernel
theorem sX1_isBarred_48 : ab_X rom K cX1_isBarred 8 2 48 ls st hp = ab_X rom K cX1_isBarred 8 2 49 ls (.int 1 :: st) hp := ax_iconst dX1_isBarred_48 (by decide) rfl
theorem dX1_isBarred_49 : decode cX1_isBarred 49 = .ok (.iadd, 1) := by decide +kernel
theorem sX1_isBarred_49 : ab_X rom K cX1_isBarred 8 2 49 ls (.int y :: .int x :: st) hp = ab_X rom K cX1_isBarred 8 2 50 ls (.int (x + y) :: st) hp := ax_iadd dX1_isBarred_49 rfl
theorem dX1_isBarred_50 : decode cX1_isBarred 50 = .ok (.if_icmp .gt 32, 3) := by decide +kernel
theorem sX1_isBarred_50 : ab_X rom K cX1_isBarred 8 2 50 ls (.int y :: .int x :: st) hp = if y < x then ab_X rom K cX1_isBarred 8 2 82 ls st hp else ab_X rom K cX1_isBarred 8 2 53 ls st hp := ax_icmp_gt dX1_isBarred_50 (by decide) rfl
theorem dX1_isBarred_53 : decode cX1_isBarred 53 = .ok (.aload_n 0, 1) := by decide +kernel
theorem sX1_isBarred_53 : ab_X rom K cX1_isBarred 8 2 53 (.ref a :: ls) st hp = ab_X rom K cX1_isBarred 8 2 54 (.ref a :: ls) (.ref a :: st) hp := ax_aload_n dX1_isBarred_53 rfl rfl
theorem dX1_isBarred_54 : decode cX1_isBarred 54 = .ok (.invokevirtual 91, 3) := by decide +kernel
theorem sX1_isBarred_54_0 : ab_X rom K cX1_isBarred 8 2 54 ls [.ref a] hp = if ab_iso hp a 1 = true then (K 12 (.ref a :: []) hp).bind (fun o => ab_X rom K cX1_isBarred 8 2 57 ls (o.1.toList ++ []) o.2) else none := ay_virtual (as := []) (st := []) dX1_isBarred_54 kc_8_91 rfl rfl (Nat.le_of_ble_eq_true rfl)
theorem sX1_isBarred_54_1 : ab_X rom K cX1_isBarred 8 2 54 ls [.ref a, v0] hp = if ab_iso hp a 1 = true then (K 12 (.ref a :: []) hp).bind (fun o => ab_X rom K cX1_isBarred 8 2 57 ls (o.1.toList ++ [v0]) o.2) else none := ay_virtual (as := []) (st := [v0]) dX1_isBarred_54 kc_8_91 rfl rfl (Nat.le_of_ble_eq_true rfl)
theorem sX1_isBarred_54_2 : ab_X rom K cX1_isBarred 8 2 54 ls [.ref a, v0, v1] hp = if ab_iso hp a 1 = true then (K 12 (.ref a :: []) hp).bind (fun o => ab_X rom K cX1_isBarred 8 2 57 ls (o.1.toList ++ [v0, v1]) o.2) else none := ay_virtual (as := []) (st := [v0, v1]) dX1_isBarred_54 kc_8_91 rfl rfl (Nat.le_of_ble_eq_true rfl)
theorem sX1_isBarred_54_3 : ab_X rom K cX1_isBarred 8 2 54 ls [.ref a, v0, v1, v2] hp = if ab_iso hp a 1 = true then (K 12 (.ref a :: []) hp).bind (fun o => ab_X rom K cX1_isBarred 8 2 57 ls (o.1.toList ++ [v0, v1, v2]) o.2) else none := ay_virtual (as := []) (st := [v0, v1, v2]) dX1_isBarred_54 kc_8_91 rfl rfl (Nat.le_of_ble_eq_true rfl)
theorem dX1_isBarred_57 : decode cX1_isBarred 57 = .ok (.ifCond .eq 13, 3) := by decide +kernel
theorem sX1_isBarred_57 : ab_X rom K cX1_isBarred 8 2 57 ls (.int x :: st) hp = if x = 0 then ab_X rom K cX1_isBarred 8 2 70 ls st hp else ab_X rom K cX1_isBarred 8 2 60 ls st hp := ax_if_eq dX1_isBarred_57 (by decide) rfl
theorem dX1_isBarred_60 : decode cX1_isBarred 60 = .ok (.iload_n 2, 1) := by decide +kernel
theorem sX1_isBarred_60 : ab_X rom K cX1_isBarred 8 2 60 (v0 :: v1 :: .int x :: ls) st hp = ab_X rom K cX1_isBarred 8 2 61 (v0 :: v1 :: .int x :: ls) (.int x :: st) hp := ax_iload_n dX1_isBarred_60 rfl rfl
theorem dX1_isBarred_61 : decode cX1_isBarred 61 = .ok (.iconst 1, 1) := by decide +kernel
theorem sX1_isBarred_61 : ab_X rom K cX1_isBarred 8 2 61 ls st hp = ab_X rom K cX1_isBarred 8 2 62 ls (.int 1 :: st) hp := ax_iconst dX1_isBarred_61 (by decide) rfl
theorem dX1_isBarred_62 : decode cX1_isBarred 62 = .ok (.if_icmp .eq 20, 3) := by decide +kernel
theorem sX1_isBarred_62 : ab_X rom K cX1_isBarred 8 2 62 ls (.int y :: .int x :: st) hp = if x = y then ab_X rom K cX1_isBarred 8 2 82 ls st hp else ab_X rom K cX1_isBarred 8 2 65 ls st hp := ax_icmp_eq dX1_isBarred_62 (by decide) rfl
theorem dX1_isBarred_65 : decode cX1_isBarred 65 = .ok (.iload_n 2, 1) := by decide +kernel
theorem sX1_isBarred_65 : ab_X rom K cX1_isBarred 8 2 65 (v0 :: v1 :: .int x :: ls) st hp = ab_X rom K cX1_isBarred 8 2 66 (v0 :: v1 :: .int x :: ls) (.int x :: st) hp := ax_iload_n dX1_isBarred_65 rfl rfl
theorem dX1_isBarred_66 : decode cX1_isBarred 66 = .ok (.iconst 2, 1) := by decide +kernel
theorem sX1_isBarred_66 : ab_X rom K cX1_isBarred 8 2 66 ls st hp = ab_X rom K cX1_isBarred 8 2 67 ls (.int 2 :: st) hp := ax_iconst dX1_isBarred_66 (by decide) rfl
theorem dX1_isBarred_67 : decode cX1_isBarred 67 = .ok (.if_icmp .eq 15, 3) := by decide +kernel
theorem sX1_isBarred_67 : ab_X rom K cX1_isBarred 8 2 67 ls (.int y :: .int x :: st) hp = if x = y then ab_X rom K cX1_isBarred 8 2 82 ls st hp else ab_X rom K cX1_isBarred 8 2 70 ls st hp := ax_icmp_eq dX1_isBarred_67 (by decide) rfl
theorem dX1_isBarred_70 : decode cX1_isBarred 70 = .ok (.iload_n 1, 1) := by decide +kernel
theorem sX1_isBarred_70 : ab_X rom K cX1_isBarred 8 2 70 (v0 :: .int x :: ls) st hp = ab_X rom K cX1_isBarred 8 2 71 (v0 :: .int x :: ls) (.int x :: st) hp := ax_iload_n dX1_isBarred_70 rfl rfl
theorem dX1_isBarred_71 : decode cX1_isBarred 71 = .ok (.iconst 1, 1) := by decide +kernel
theorem sX1_isBarred_71 : ab_X rom K cX1_isBarred 8 2 71 ls st hp = ab_X rom K cX1_isBarred 8 2 72 ls (.int 1 :: st) hp := ax_iconst dX1_isBarred_71 (by decide) rfl
theorem dX1_isBarred_72 : decode cX1_isBarred 72 = .ok (.if_icmp .ne 14, 3) := by decide +kernel
theorem sX1_isBarred_72 : ab_X rom K cX1_isBarred 8 2 72 ls (.int y :: .int x :: st) hp = if x = y then ab_X rom K cX1_isBarred 8 2 75 ls st hp else ab_X rom K cX1_isBarred 8 2 86 ls st hp := ax_icmp_ne dX1_isBarred_72 (by decide) rfl
theorem dX1_isBarred_75 : decode cX1_isBarred 75 = .ok (.aload_n 0, 1) := by decide +kernel
theorem sX1_isBarred_75 : ab_X rom K cX1_isBarred 8 2 75 (.ref a :: ls) st hp = ab_X rom K cX1_isBarred 8 2 76 (.ref a :: ls) (.ref a :: st) hp := ax_aload_n dX1_isBarred_75 rfl rfl
theorem dX1_isBarred_76 : decode cX1_isBarred 76 = .ok (.invokevirtual 94, 3) := by decide +kernel
theorem sX1_isBarred_76_0 : ab_X rom K cX1_isBarred 8 2 76 ls [.ref a] hp = if ab_iso hp a 1 = true then (K 24 (.ref a :: []) hp).bind (fun o => ab_X rom K cX1_isBarred 8 2 79 ls (o.1.toList ++ []) o.2) else none := ay_virtual (as := []) (st := []) dX1_isBarred_76 kc_8_94 rfl rfl (Nat.le_of_ble_eq_true rfl)
theorem sX1_isBarred_76_1 : ab_X rom K cX1_isBarred 8 2 76 ls [.ref a, v0] hp = if ab_iso hp a 1 = true then (K 24 (.ref a :: []) hp).bind (fun o => ab_X rom K cX1_isBarred 8 2 79 ls (o.1.toList ++ [v0]) o.2) else none := ay_virtual (as := []) (st := [v0]) dX1_isBarred_76 kc_8_94 rfl rfl (Nat.le_of_ble_eq_true rfl)
theorem sX1_isBarred_76_2 : ab_X rom K cX1_isBarred 8 2 76 ls [.ref a, v0, v1] hp = if ab_iso hp a 1 = true then (K 24 (.ref a :: []) hp).bind (fun o => ab_X rom K cX1_isBarred 8 2 79 ls (o.1.toList ++ [v0, v1]) o.2) else none := ay_virtual (as := []) (st := [v0, v1]) dX1_isBarred_76 kc_8_94 rfl rfl (Nat.le_of_ble_eq_true rfl)
theorem sX1_isBarred_76_3 : ab_X rom K cX1_isBarred 8 2 76 ls [.ref a, v0, v1, v2] hp = if ab_iso hp a 1 = true then (K 24 (.ref a :: []) hp).bind (fun o => ab_X rom K cX1_isBarred 8 2 79 ls (o.1.toList ++ [v0, v1, v2]) o.2) else none := ay_virtual (as := []) (st := [v0, v1, v2]) dX1_isBarred_76 kc_8_94 rfl rfl (Nat.le_of_ble_eq_true rfl)
theorem dX1_isBarred_79 : decode cX1_isBarred 79 = .ok (.ifCond .ne 7, 3) := by decide +kernel
theorem sX1_isBarred_79 : ab_X rom K cX1_isBarred 8 2 79 ls (.int x :: st) hp = if x = 0 then ab_X rom K cX1_isBarred 8 2 82 ls st hp else ab_X rom K cX1_isBarred 8 2 86 ls st hp := ax_if_ne dX1_isBarred_79 (by decide) rfl
theorem dX1_isBarred_82 : decode cX1_isBarred 82 = .ok (.iconst 1, 1) := by decide +kernel
theorem sX1_isBarred_82 : ab_X rom K cX1_isBarred 8 2 82 ls st hp = ab_X rom K cX1_isBarred 8 2 83 ls (.int 1 :: st) hp := ax_iconst dX1_isBarred_82 (by decide) rfl
theorem dX1_isBarred_83 : decode cX1_isBarred 83 = .ok (.goto 4, 3) := by decide +kernel
theorem sX1_isBarred_83 : ab_X rom K cX1_isBarred 8 2 83 ls st hp = ab_X rom K cX1_isBarred 8 2 87 ls st hp := ax_goto dX1_isBarred_83 (by decide)
theorem dX1_isBarred_86 : decode cX1_isBarred 86 = .ok (.iconst 0, 1) := by decide +kernel
theorem sX1_isBarred_86 : ab_X rom K cX1_isBarred 8 2 86 ls st hp = ab_X rom K cX1_isBarred 8 2 87 ls (.int 0 :: st) hp := ax_iconst dX1_isBarred_86 (by decide) rfl
theorem dX1_isBarred_87 : decode cX1_isBarred 87 = .ok (.ireturn, 1) := by decide +kernel
theorem sX1_isBarred_87 : ab_X rom K cX1_isBarred 8 2 87 ls [.int x] hp = if x = 0 ∨ x = 1 then some (some (.int x), hp) else none := ay_zret dX1_isBarred_87 rfl
theorem dX1_isBarred_88 : decode cX1_isBarred 88 = .ok (.aload_n 0, 1) := by decide +kernel
theorem sX1_isBarred_88 : ab_X rom K cX1_isBarred 8 2 88 (.ref a :: ls) st hp = ab_X rom K cX1_isBarred 8 2 89 (.ref a :: ls) (.ref a :: st) hp := ax_aload_n dX1_isBarred_88 rfl rfl
theorem dX1_isBarred_89 : decode cX1_isBarred 89 = .ok (.getfield 22, 3) := by decide +kernel
theorem sX1_isBarred_89 : ab_X rom K cX1_isBarred 8 2 89 ls (.ref a :: st) hp = (ab_fld hp a 1 1).bind (fun v => ab_X rom K cX1_isBarred 8 2 92 ls (v :: st) hp) := ax_getfield dX1_isBarred_89 kf_8_22 rfl
theorem dX1_isBarred_92 : decode cX1_isBarred 92 = .ok (.ifCond .eq 28, 3) := by decide +kernel
theorem sX1_isBarred_92 : ab_X rom K cX1_isBarred 8 2 92 ls (.int x :: st) hp = if x = 0 then ab_X rom K cX1_isBarred 8 2 120 ls st hp else ab_X rom K cX1_isBarred 8 2 95 ls st hp := ax_if_eq dX1_isBarred_92 (by decide) rfl
theorem dX1_isBarred_95 : decode cX1_isBarred 95 = .ok (.aload_n 0, 1) := by decide +kernel
theorem sX1_isBarred_95 : ab_X rom K cX1_isBarred 8 2 95 (.ref a :: ls) st hp = ab_X rom K cX1_isBarred 8 2 96 (.ref a :: ls) (.ref a :: st) hp := ax_aload_n dX1_isBarred_95 rfl rfl
theorem dX1_isBarred_96 : decode cX1_isBarred 96 = .ok (.getfield 46, 3) := by decide +kernel
theorem sX1_isBarred_96 : ab_X rom K cX1_isBarred 8 2 96 ls (.ref a :: st) hp = (ab_fld hp a 1 0).bind (fun v => ab_X rom K cX1_isBarred 8 2 99 ls (v :: st) hp) := ax_getfield dX1_isBarred_96 kf_8_46 rfl
theorem dX1_isBarred_99 : decode cX1_isBarred 99 = .ok (.aload_n 0, 1) := by decide +kernel
theorem sX1_isBarred_99 : ab_X rom K cX1_isBarred 8 2 99 (.ref a :: ls) st hp = ab_X rom K cX1_isBarred 8 2 100 (.ref a :: ls) (.ref a :: st) hp := ax_aload_n dX1_isBarred_99 rfl rfl
theorem dX1_isBarred_100 : decode cX1_isBarred 100 = .ok (.getfield 22, 3) := by decide +kernel
theorem sX1_isBarred_100 : ab_X rom K cX1_isBarred 8 2 100 ls (.ref a :: st) hp = (ab_fld hp a 1 1).bind (fun v => ab_X rom K cX1_isBarred 8 2 103 ls (v :: st) hp) := ax_getfield dX1_isBarred_100 kf_8_22 rfl
theorem dX1_isBarred_103 : decode cX1_isBarred 103 = .ok (.if_icmp .le 10, 3) := by decide +kernel
theorem sX1_isBarred_103 : ab_X rom K cX1_isBarred 8 2 103 ls (.int y :: .int x :: st) hp = if y < x then ab_X rom K cX1_isBarred 8 2 106 ls st hp else ab_X rom K cX1_isBarred 8 2 113 ls st hp := ax_icmp_le dX1_isBarred_103 (by decide) rfl
theorem dX1_isBarred_106 : decode cX1_isBarred 106 = .ok (.aload_n 0, 1) := by decide +kernel
theorem sX1_isBarred_106 : ab_X rom K cX1_isBarred 8 2 106 (.ref a :: ls) st hp = ab_X rom K cX1_isBarred 8 2 107 (.ref a :: ls) (.ref a :: st) hp := ax_aload_n dX1_isBarred_106 rfl rfl
theorem dX1_isBarred_107 : decode cX1_isBarred 107 = .ok (.invokevirtual 9, 3) := by decide +kernel
theorem sX1_isBarred_107_0 : ab_X rom K cX1_isBarred 8 2 107 ls [.ref a] hp = if ab_iso hp a 1 = true then (K 23 (.ref a :: []) hp).bind (fun o => ab_X rom K cX1_isBarred 8 2 110 ls (o.1.toList ++ []) o.2) else none := ay_virtual (as := []) (st := []) dX1_isBarred_107 kc_8_9 rfl rfl (Nat.le_of_ble_eq_true rfl)
theorem sX1_isBarred_107_1 : ab_X rom K cX1_isBarred 8 2 107 ls [.ref a, v0] hp = if ab_iso hp a 1 = true then (K 23 (.ref a :: []) hp).bind (fun o => ab_X rom K cX1_isBarred 8 2 110 ls (o.1.toList ++ [v0]) o.2) else none := ay_virtual (as := []) (st := [v0]) dX1_isBarred_107 kc_8_9 rfl rfl (Nat.le_of_ble_eq_true rfl)
theorem sX1_isBarred_107_2 : ab_X rom K cX1_isBarred 8 2 107 ls [.ref a, v0, v1] hp = if ab_iso hp a 1 = true then (K 23 (.ref a :: []) hp).bind (fun o => ab_X rom K cX1_isBarred 8 2 110 ls (o.1.toList ++ [v0, v1]) o.2) else none := ay_virtual (as := []) (st := [v0, v1]) dX1_isBarred_107 kc_8_9 rfl rfl (Nat.le_of_ble_eq_true rfl)
theorem sX1_isBarred_107_3 : ab_X rom K cX1_isBarred 8 2 107 ls [.ref a, v0, v1, v2] hp = if ab_iso hp a 1 = true then (K 23 (.ref a :: []) hp).bind (fun o => ab_X rom K cX1_isBarred 8 2 110 ls (o.1.toList ++ [v0, v1, v2]) o.2) else none := ay_virtual (as := []) (st := [v0, v1, v2]) dX1_isBarred_107 kc_8_9 rfl rfl (Nat.le_of_ble_eq_true rfl)
theorem dX1_isBarred_110 : decode cX1_isBarred 110 = .ok (.ifCond .eq 10, 3) := by decide +kernel
theorem sX1_isBarred_110 : ab_X rom K cX1_isBarred 8 2 110 ls (.int x :: st) hp = if x = 0 then ab_X rom K cX1_isBarred 8 2 120 ls st hp else ab_X rom K cX1_isBarred 8 2 113 ls st hp := ax_if_eq dX1_isBarred_110 (by decide) rfl
theorem dX1_isBarred_113 : decode cX1_isBarred 113 = .ok (.aload_n 0, 1) := by decide +kernel
theorem sX1_isBarred_113 : ab_X rom K cX1_isBarred 8 2 113 (.ref a :: ls) st hp = ab_X rom K cX1_isBarred 8 2 114 (.ref a :: ls) (.ref a :: st) hp := ax_aload_n dX1_isBarred_113 rfl rfl
theorem dX1_isBarred_114 : decode cX1_isBarred 114 = .ok (.invokestatic 97, 3) := by decide +kernel
theorem sX1_isBarred_114_0 : ab_X rom K cX1_isBarred 8 2 114 ls [w1] hp = (K 249 [w1] hp).bind (fun o => ab_X rom K cX1_isBarred 8 2 117 ls (o.1.toList ++ []) o.2) := ax_static (as := [w1]) (st := []) dX1_isBarred_114 kc_8_97 rfl rfl (Nat.le_of_ble_eq_true rfl)
theorem sX1_isBarred_114_1 : ab_X rom K cX1_isBarred 8 2 114 ls [w1, v0] hp = (K 249 [w1] hp).bind (fun o => ab_X rom K cX1_isBarred 8 2 117 ls (o.1.toList ++ [v0]) o.2) := ax_static (as := [w1]) (st := [v0]) dX1_isBarred_114 kc_8_97 rfl rfl (Nat.le_of_ble_eq_true rfl)
theorem sX1_isBarred_114_2 : ab_X rom K cX1_isBarred 8 2 114 ls [w1, v0, v1] hp = (K 249 [w1] hp).bind (fun o => ab_X rom K cX1_isBarred 8 2 117 ls (o.1.toList ++ [v0, v1]) o.2) := ax_static (as := [w1]) (st := [v0, v1]) dX1_isBarred_114 kc_8_97 rfl rfl (Nat.le_of_ble_eq_true rfl)
theorem sX1_isBarred_114_3 : ab_X rom K cX1_isBarred 8 2 114 ls [w1, v0, v1, v2] hp = (K 249 [w1] hp).bind (fun o => ab_X rom K cX1_isBarred 8 2 117 ls (o.1.toList ++ [v0, v1, v2]) o.2) := ax_static (as := [w1]) (st := [v0, v1, v2]) dX1_isBarred_114 kc_8_97 rfl rfl (Nat.le_of_ble_eq_true rfl)
theorem dX1_isBarred_117 : decode cX1_isBarred 117 = .ok (.ifCond .eq 7, 3) := by decide +kernel
theorem sX1_isBarred_117 : ab_X rom K cX1_isBarred 8 2 117 ls (.int x :: st) hp = if x = 0 then ab_X rom K cX1_isBarred 8 2 124 ls st hp else ab_X rom K cX1_isBarred 8 2 120 ls st hp := ax_if_eq dX1_isBarred_117 (by decide) rfl
theorem dX1_isBarred_120 : decode cX1_isBarred 120 = .ok (.iconst 1, 1) := by decide +kernel
theorem sX1_isBarred_120 : ab_X rom K cX1_isBarred 8 2 120 ls st hp = ab_X rom K cX1_isBarred 8 2 121 ls (.int 1 :: st) hp := ax_iconst dX1_isBarred_120 (by decide) rfl
theorem dX1_isBarred_121 : decode cX1_isBarred 121 = .ok (.goto 4, 3) := by decide +kernel
theorem sX1_isBarred_121 : ab_X rom K cX1_isBarred 8 2 121 ls st hp = ab_X rom K cX1_isBarred 8 2 125 ls st hp := ax_goto dX1_isBarred_121 (by decide)
theorem dX1_isBarred_124 : decode cX1_isBarred 124 = .ok (.iconst 0, 1) := by decide +kernel
theorem sX1_isBarred_124 : ab_X rom K cX1_isBarred 8 2 124 ls st hp = ab_X rom K cX1_isBarred 8 2 125 ls (.int 0 :: st) hp := ax_iconst dX1_isBarred_124 (by decide) rfl
theorem dX1_isBarred_125 : decode cX1_isBarred 125 = .ok (.ireturn, 1) := by decide +kernel
theorem sX1_isBarred_125 : ab_X rom K cX1_isBarred 8 2 125 ls [.int x] hp = if x = 0 ∨ x = 1 then some (some (.int x), hp) else none := ay_zret dX1_isBarred_125 rfl
theorem dX1_isBarred_126 : decode cX1_isBarred 126 = .ok (.aload_n 0, 1) := by decide +kernel
theorem sX1_isBarred_126 : ab_X rom K cX1_isBarred 8 2 126 (.ref a :: ls) st hp = ab_X rom K cX1_isBarred 8 2 127 (.ref a :: ls) (.ref a :: st) hp := ax_aload_n dX1_isBarred_126 rfl rfl
theorem dX1_isBarred_127 : decode cX1_isBarred 127 = .ok (.invokevirtual 94, 3) := by decide +kernel
theorem sX1_isBarred_127_0 : ab_X rom K cX1_isBarred 8 2 127 ls [.ref a] hp = if ab_iso hp a 1 = true then (K 24 (.ref a :: []) hp).bind (fun o => ab_X rom K cX1_isBarred 8 2 130 ls (o.1.toList ++ []) o.2) else none := ay_virtual (as := []) (st := []) dX1_isBarred_127 kc_8_94 rfl rfl (Nat.le_of_ble_eq_true rfl)
theorem sX1_isBarred_127_1 : ab_X rom K cX1_isBarred 8 2 127 ls [.ref a, v0] hp = if ab_iso hp a 1 = true then (K 24 (.ref a :: []) hp).bind (fun o => ab_X rom K cX1_isBarred 8 2 130 ls (o.1.toList ++ [v0]) o.2) else none := ay_virtual (as := []) (st := [v0]) dX1_isBarred_127 kc_8_94 rfl rfl (Nat.le_of_ble_eq_true rfl)
theorem sX1_isBarred_127_2 : ab_X rom K cX1_isBarred 8 2 127 ls [.ref a, v0, v1] hp = if ab_iso hp a 1 = true then (K 24 (.ref a :: []) hp).bind (fun o => ab_X rom K cX1_isBarred 8 2 130 ls (o.1.toList ++ [v0, v1]) o.2) else none := ay_virtual (as := []) (st := [v0, v1]) dX1_isBarred_127 kc_8_94 rfl rfl (Nat.le_of_ble_eq_true rfl)
theorem sX1_isBarred_127_3 : ab_X rom K cX1_isBarred 8 2 127 ls [.ref a, v0, v1, v2] hp = if ab_iso hp a 1 = true then (K 24 (.ref a :: []) hp).bind (fun o => ab_X rom K cX1_isBarred 8 2 130 ls (o.1.toList ++ [v0, v1, v2]) o.2) else none := ay_virtual (as := []) (st := [v0, v1, v2]) dX1_isBarred_127 kc_8_94 rfl rfl (Nat.le_of_ble_eq_true rfl)
theorem dX1_isBarred_130 : decode cX1_isBarred 130 = .ok (.ifCond .eq 16, 3) := by decide +kernel
theorem sX1_isBarred_130 : ab_X rom K cX1_isBarred 8 2 130 ls (.int x :: st) hp = if x = 0 then ab_X rom K cX1_isBarred 8 2 146 ls st hp else ab_X rom K cX1_isBarred 8 2 133 ls st hp := ax_if_eq dX1_isBarred_130 (by decide) rfl
theorem dX1_isBarred_133 : decode cX1_isBarred 133 = .ok (.aload_n 0, 1) := by decide +kernel
theorem sX1_isBarred_133 : ab_X rom K cX1_isBarred 8 2 133 (.ref a :: ls) st hp = ab_X rom K cX1_isBarred 8 2 134 (.ref a :: ls) (.ref a :: st) hp := ax_aload_n dX1_isBarred_133 rfl rfl
theorem dX1_isBarred_134 : decode cX1_isBarred 134 = .ok (.getfield 46, 3) := by decide +kernel
theorem sX1_isBarred_134 : ab_X rom K cX1_isBarred 8 2 134 ls (.ref a :: st) hp = (ab_fld hp a 1 0).bind (fun v => ab_X rom K cX1_isBarred 8 2 137 ls (v :: st) hp) := ax_getfield dX1_isBarred_134 kf_8_46 rfl
theorem dX1_isBarred_137 : decode cX1_isBarred 137 = .ok (.iconst 2, 1) := by decide +kernel
theorem sX1_isBarred_137 : ab_X rom K cX1_isBarred 8 2 137 ls st hp = ab_X rom K cX1_isBarred 8 2 138 ls (.int 2 :: st) hp := ax_iconst dX1_isBarred_137 (by decide) rfl
theorem dX1_isBarred_138 : decode cX1_isBarred 138 = .ok (.aload_n 0, 1) := by decide +kernel
theorem sX1_isBarred_138 : ab_X rom K cX1_isBarred 8 2 138 (.ref a :: ls) st hp = ab_X rom K cX1_isBarred 8 2 139 (.ref a :: ls) (.ref a :: st) hp := ax_aload_n dX1_isBarred_138 rfl rfl
theorem dX1_isBarred_139 : decode cX1_isBarred 139 = .ok (.getfield 22, 3) := by decide +kernel
theorem sX1_isBarred_139 : ab_X rom K cX1_isBarred 8 2 139 ls (.ref a :: st) hp = (ab_fld hp a 1 1).bind (fun v => ab_X rom K cX1_isBarred 8 2 142 ls (v :: st) hp) := ax_getfield dX1_isBarred_139 kf_8_22 rfl
theorem dX1_isBarred_142 : decode cX1_isBarred 142 = .ok (.imul, 1) := by decide +kernel
theorem sX1_isBarred_142 : ab_X rom K cX1_isBarred 8 2 142 ls (.int y :: .int x :: st) hp = ab_X rom K cX1_isBarred 8 2 143 ls (.int (x * y) :: st) hp := ax_imul dX1_isBarred_142 rfl
theorem dX1_isBarred_143 : decode cX1_isBarred 143 = .ok (.if_icmp .le 7, 3) := by decide +kernel
theorem sX1_isBarred_143 : ab_X rom K cX1_isBarred 8 2 143 ls (.int y :: .int x :: st) hp = if y < x then ab_X rom K cX1_isBarred 8 2 146 ls st hp else ab_X rom K cX1_isBarred 8 2 150 ls st hp := ax_icmp_le dX1_isBarred_143 (by decide) rfl
theorem dX1_isBarred_146 : decode cX1_isBarred 146 = .ok (.iconst 1, 1) := by decide +kernel
theorem sX1_isBarred_146 : ab_X rom K cX1_isBarred 8 2 146 ls st hp = ab_X rom K cX1_isBarred 8 2 147 ls (.int 1 :: st) hp := ax_iconst dX1_isBarred_146 (by decide) rfl
theorem dX1_isBarred_147 : decode cX1_isBarred 147 = .ok (.goto 4, 3) := by decide +kernel
theorem sX1_isBarred_147 : ab_X rom K cX1_isBarred 8 2 147 ls st hp = ab_X rom K cX1_isBarred 8 2 151 ls st hp := ax_goto dX1_isBarred_147 (by decide)
theorem dX1_isBarred_150 : decode cX1_isBarred 150 = .ok (.iconst 0, 1) := by decide +kernel
theorem sX1_isBarred_150 : ab_X rom K cX1_isBarred 8 2 150 ls st hp = ab_X rom K cX1_isBarred 8 2 151 ls (.int 0 :: st) hp := ax_iconst dX1_isBarred_150 (by decide) rfl
theorem dX1_isBarred_151 : decode cX1_isBarred 151 = .ok (.ireturn, 1) := by decide +kernel
theorem sX1_isBarred_151 : ab_X rom K cX1_isBarred 8 2 151 ls [.int x] hp = if x = 0 ∨ x = 1 then some (some (.int x), hp) else none := ay_zret dX1_isBarred_151 rfl
theorem dX1_isBarred_152 : decode cX1_isBarred 152 = .ok (.aload_n 0, 1) := by decide +kernel
theorem sX1_isBarred_152 : ab_X rom K cX1_isBarred 8 2 152 (.ref a :: ls) st hp = ab_X rom K cX1_isBarred 8 2 153 (.ref a :: ls) (.ref a :: st) hp := ax_aload_n dX1_isBarred_152 rfl rfl
theorem dX1_isBarred_153 : decode cX1_isBarred 153 = .ok (.invokevirtual 91, 3) := by decide +kernel
theorem sX1_isBarred_153_0 : ab_X rom K cX1_isBarred 8 2 153 ls [.ref a] hp = if ab_iso hp a 1 = true then (K 12 (.ref a :: []) hp).bind (fun o => ab_X rom K cX1_isBarred 8 2 156 ls (o.1.toList ++ []) o.2) else none := ay_virtual (as := []) (st := []) dX1_isBarred_153 kc_8_91 rfl rfl (Nat.le_of_ble_eq_true rfl)
theorem sX1_isBarred_153_1 : ab_X rom K cX1_isBarred 8 2 153 ls [.ref a, v0] hp = if ab_iso hp a 1 = true then (K 12 (.ref a :: []) hp).bind (fun o => ab_X rom K cX1_isBarred 8 2 156 ls (o.1.toList ++ [v0]) o.2) else none := ay_virtual (as := []) (st := [v0]) dX1_isBarred_153 kc_8_91 rfl rfl (Nat.le_of_ble_eq_true rfl)
theorem sX1_isBarred_153_2 : ab_X rom K cX1_isBarred 8 2 153 ls [.ref a, v0, v1] hp = if ab_iso hp a 1 = true then (K 12 (.ref a :: []) hp).bind (fun o => ab_X rom K cX1_isBarred 8 2 156 ls (o.1.toList ++ [v0, v1]) o.2) else none := ay_virtual (as := []) (st := [v0, v1]) dX1_isBarred_153 kc_8_91 rfl rfl (Nat.le_of_ble_eq_true rfl)
theorem sX1_isBarred_153_3 : ab_X rom K cX1_isBarred 8 2 153 ls [.ref a, v0, v1, v2] hp = if ab_iso hp a 1 = true then (K 12 (.ref a :: []) hp).bind (fun o => ab_X rom K cX1_isBarred 8 2 156 ls (o.1.toList ++ [v0, v1, v2]) o.2) else none := ay_virtual (as := []) (st := [v0, v1, v2]) dX1_isBarred_153 kc_8_91 rfl rfl (Nat.le_of_ble_eq_true rfl)
theorem dX1_isBarred_156 : decode cX1_isBarred 156 = .ok (.ifCond .eq 12, 3) := by decide +kernel
theorem sX1_isBarred_156 : ab_X rom K cX1_isBarred 8 2 156 ls (.int x :: st) hp = if x = 0 then ab_X rom K cX1_isBarred 8 2 168 ls st hp else ab_X rom K cX1_isBarred 8 2 159 ls st hp := ax_if_eq dX1_isBarred_156 (by decide) rfl
theorem dX1_isBarred_159 : decode cX1_isBarred 159 = .ok (.iload_n 2, 1) := by decide +kernel
theorem sX1_isBarred_159 : ab_X rom K cX1_isBarred 8 2 159 (v0 :: v1 :: .int x :: ls) st hp = ab_X rom K cX1_isBarred 8 2 160 (v0 :: v1 :: .int x :: ls) (.int x :: st) hp := ax_iload_n dX1_isBarred_159 rfl rfl
theorem dX1_isBarred_160 : decode cX1_isBarred 160 = .ok (.iconst 2, 1) := by decide +kernel
theorem sX1_isBarred_160 : ab_X rom K cX1_isBarred 8 2 160 ls st hp = ab_X rom K cX1_isBarred 8 2 161 ls (.int 2 :: st) hp := ax_iconst dX1_isBarred_160 (by decide) rfl
theorem dX1_isBarred_161 : decode cX1_isBarred 161 = .ok (.if_icmp .ne 7, 3) := by decide +kernel
theorem sX1_isBarred_161 : ab_X rom K cX1_isBarred 8 2 161 ls (.int y :: .int x :: st) hp = if x = y then ab_X rom K cX1_isBarred 8 2 164 ls st hp else ab_X rom K cX1_isBarred 8 2 168 ls st hp := ax_icmp_ne dX1_isBarred_161 (by decide) rfl
theorem dX1_isBarred_164 : decode cX1_isBarred 164 = .ok (.iconst 1, 1) := by decide +kernel
theorem sX1_isBarred_164 : ab_X rom K cX1_isBarred 8 2 164 ls st hp = ab_X rom K cX1_isBarred 8 2 165 ls (.int 1 :: st) hp := ax_iconst dX1_isBarred_164 (by decide) rfl
theorem dX1_isBarred_165 : decode cX1_isBarred 165 = .ok (.goto 4, 3) := by decide +kernel
theorem sX1_isBarred_165 : ab_X rom K cX1_isBarred 8 2 165 ls st hp = ab_X rom K cX1_isBarred 8 2 169 ls st hp := ax_goto dX1_isBarred_165 (by decide)
theorem dX1_isBarred_168 : decode cX1_isBarred 168 = .ok (.iconst 0, 1) := by decide +kernel
theorem sX1_isBarred_168 : ab_X rom K cX1_isBarred 8 2 168 ls st hp = ab_X rom K cX1_isBarred 8 2 169 ls (.int 0 :: st) hp := ax_iconst dX1_isBarred_168 (by decide) rfl
theorem dX1_isBarred_169 : decode cX1_isBarred 169 = .ok (.ireturn, 1) := by decide +kernel
theorem sX1_isBarred_169 : ab_X rom K cX1_isBarred 8 2 169 ls [.int x] hp = if x = 0 ∨ x = 1 then some (some (.int x), hp) else none := ay_zret dX1_isBarred_169 rfl
theorem tX1_isBarredByTwos : ab_mT[249]? = some (yX1_isBarredByTwos, cX1_isBarredByTwos, 3, 2, 8) := by decide +kernel
theorem mX1_isBarredByTwos {d : Nat} {r0 : Nat} : ab_M rom (d + 1) 249 [.ref r0] hp = ab_X rom (ab_M rom d) cX1_isBarredByTwos 8 2 0 [.ref r0, .null, .null] [] hp := ab_M_eq tX1_isBarredByTwos (Nat.le_of_ble_eq_true rfl)
theorem dX1_isBarredByTwos_0 : decode cX1_isBarredByTwos 0 = .ok (.aload_n 0, 1) := by decide +kernel
theorem sX1_isBarredByTwos_0 : ab_X rom K cX1_isBarredByTwos 8 2 0 (.ref a :: ls) st hp = ab_X rom K cX1_isBarredByTwos 8 2 1 (.ref a :: ls) (.ref a :: st) hp := ax_aload_n dX1_isBarredByTwos_0 rfl rfl
theorem dX1_isBarredByTwos_1 : decode cX1_isBarredByTwos 1 = .ok (.getfield 22, 3) := by decide +kernel
theorem sX1_isBarredByTwos_1 : ab_X rom K cX1_isBarredByTwos 8 2 1 ls (.ref a :: st) hp = (ab_fld hp a 1 1).bind (fun v => ab_X rom K cX1_isBarredByTwos 8 2 4 ls (v :: st) hp) := ax_getfield dX1_isBarredByTwos_1 kf_8_22 rfl
theorem dX1_isBarredByTwos_4 : decode cX1_isBarredByTwos 4 = .ok (.iconst 2, 1) := by decide +kernel
theorem sX1_isBarredByTwos_4 : ab_X rom K cX1_isBarredByTwos 8 2 4 ls st hp = ab_X rom K cX1_isBarredByTwos 8 2 5 ls (.int 2 :: st) hp := ax_iconst dX1_isBarredByTwos_4 (by decide) rfl
theorem dX1_isBarredByTwos_5 : decode cX1_isBarredByTwos 5 = .ok (.irem, 1) := by decide +kernel
theorem sX1_isBarredByTwos_5 : ab_X rom K cX1_isBarredByTwos 8 2 5 ls (.int y :: .int x :: st) hp = if y = 0 then none else ab_X rom K cX1_isBarredByTwos 8 2 6 ls (.int (ab_rem x y) :: st) hp := ay_irem dX1_isBarredByTwos_5 rfl
theorem dX1_isBarredByTwos_6 : decode cX1_isBarredByTwos 6 = .ok (.ifCond .ne 10, 3) := by decide +kernel
theorem sX1_isBarredByTwos_6 : ab_X rom K cX1_isBarredByTwos 8 2 6 ls (.int x :: st) hp = if x = 0 then ab_X rom K cX1_isBarredByTwos 8 2 9 ls st hp else ab_X rom K cX1_isBarredByTwos 8 2 16 ls st hp := ax_if_ne dX1_isBarredByTwos_6 (by decide) rfl
theorem dX1_isBarredByTwos_9 : decode cX1_isBarredByTwos 9 = .ok (.aload_n 0, 1) := by decide +kernel
theorem sX1_isBarredByTwos_9 : ab_X rom K cX1_isBarredByTwos 8 2 9 (.ref a :: ls) st hp = ab_X rom K cX1_isBarredByTwos 8 2 10 (.ref a :: ls) (.ref a :: st) hp := ax_aload_n dX1_isBarredByTwos_9 rfl rfl
theorem dX1_isBarredByTwos_10 : decode cX1_isBarredByTwos 10 = .ok (.invokevirtual 91, 3) := by decide +kernel
theorem sX1_isBarredByTwos_10_0 : ab_X rom K cX1_isBarredByTwos 8 2 10 ls [.ref a] hp = if ab_iso hp a 1 = true then (K 12 (.ref a :: []) hp).bind (fun o => ab_X rom K cX1_isBarredByTwos 8 2 13 ls (o.1.toList ++ []) o.2) else none := ay_virtual (as := []) (st := []) dX1_isBarredByTwos_10 kc_8_91 rfl rfl (Nat.le_of_ble_eq_true rfl)
theorem sX1_isBarredByTwos_10_1 : ab_X rom K cX1_isBarredByTwos 8 2 10 ls [.ref a, v0] hp = if ab_iso hp a 1 = true then (K 12 (.ref a :: []) hp).bind (fun o => ab_X rom K cX1_isBarredByTwos 8 2 13 ls (o.1.toList ++ [v0]) o.2) else none := ay_virtual (as := []) (st := [v0]) dX1_isBarredByTwos_10 kc_8_91 rfl rfl (Nat.le_of_ble_eq_true rfl)
theorem sX1_isBarredByTwos_10_2 : ab_X rom K cX1_isBarredByTwos 8 2 10 ls [.ref a, v0, v1] hp = if ab_iso hp a 1 = true then (K 12 (.ref a :: []) hp).bind (fun o => ab_X rom K cX1_isBarredByTwos 8 2 13 ls (o.1.toList ++ [v0, v1]) o.2) else none := ay_virtual (as := []) (st := [v0, v1]) dX1_isBarredByTwos_10 kc_8_91 rfl rfl (Nat.le_of_ble_eq_true rfl)
theorem sX1_isBarredByTwos_10_3 : ab_X rom K cX1_isBarredByTwos 8 2 10 ls [.ref a, v0, v1, v2] hp = if ab_iso hp a 1 = true then (K 12 (.ref a :: []) hp).bind (fun o => ab_X rom K cX1_isBarredByTwos 8 2 13 ls (o.1.toList ++ [v0, v1, v2]) o.2) else none := ay_virtual (as := []) (st := [v0, v1, v2]) dX1_isBarredByTwos_10 kc_8_91 rfl rfl (Nat.le_of_ble_eq_true rfl)
theorem dX1_isBarredByTwos_13 : decode cX1_isBarredByTwos 13 = .ok (.ifCond .ne 5, 3) := by decide +kernel
theorem sX1_isBarredByTwos_13 : ab_X rom K cX1_isBarredByTwos 8 2 13 ls (.int x :: st) hp = if x = 0 then ab_X rom K cX1_isBarredByTwos 8 2 16 ls st hp else ab_X rom K cX1_isBarredByTwos 8 2 18 ls st hp := ax_if_ne dX1_isBarredByTwos_13 (by decide) rfl
theorem dX1_isBarredByTwos_16 : decode cX1_isBarredByTwos 16 = .ok (.iconst 0, 1) := by decide +kernel
theorem sX1_isBarredByTwos_16 : ab_X rom K cX1_isBarredByTwos 8 2 16 ls st hp = ab_X rom K cX1_isBarredByTwos 8 2 17 ls (.int 0 :: st) hp := ax_iconst dX1_isBarredByTwos_16 (by decide) rfl
theorem dX1_isBarredByTwos_17 : decode cX1_isBarredByTwos 17 = .ok (.ireturn, 1) := by decide +kernel
theorem sX1_isBarredByTwos_17 : ab_X rom K cX1_isBarredByTwos 8 2 17 ls [.int x] hp = if x = 0 ∨ x = 1 then some (some (.int x), hp) else none := ay_zret dX1_isBarredByTwos_17 rfl
theorem dX1_isBarredByTwos_18 : decode cX1_isBarredByTwos 18 = .ok (.iconst 0, 1) := by decide +kernel
theorem sX1_isBarredByTwos_18 : ab_X rom K cX1_isBarredByTwos 8 2 18 ls st hp = ab_X rom K cX1_isBarredByTwos 8 2 19 ls (.int 0 :: st) hp := ax_iconst dX1_isBarredByTwos_18 (by decide) rfl
theorem dX1_isBarredByTwos_19 : decode cX1_isBarredByTwos 19 = .ok (.istore_n 1, 1) := by decide +kernel
theorem sX1_isBarredByTwos_19i : ab_X rom K cX1_isBarredByTwos 8 2 19 (.int y :: v1 :: ls) (.int x :: st) hp = ab_X rom K cX1_isBarredByTwos 8 2 20 (.int y :: .int x :: ls) st hp := ax_istore_n dX1_isBarredByTwos_19 (ax_lt (v := v1) rfl) (ab_nl_c1 (j := 0) (v := .int y) rfl (ab_c1_int _)) rfl rfl
theorem sX1_isBarredByTwos_19r : ab_X rom K cX1_isBarredByTwos 8 2 19 (.ref a2 :: v1 :: ls) (.int x :: st) hp = ab_X rom K cX1_isBarredByTwos 8 2 20 (.ref a2 :: .int x :: ls) st hp := ax_istore_n dX1_isBarredByTwos_19 (ax_lt (v := v1) rfl) (ab_nl_c1 (j := 0) (v := .ref a2) rfl (ab_c1_ref _)) rfl rfl
theorem sX1_isBarredByTwos_19n : ab_X rom K cX1_isBarredByTwos 8 2 19 (.null :: v1 :: ls) (.int x :: st) hp = ab_X rom K cX1_isBarredByTwos 8 2 20 (.null :: .int x :: ls) st hp := ax_istore_n dX1_isBarredByTwos_19 (ax_lt (v := v1) rfl) (ab_nl_c1 (j := 0) (v := .null) rfl ab_c1_null) rfl rfl
theorem dX1_isBarredByTwos_20 : decode cX1_isBarredByTwos 20 = .ok (.iconst 0, 1) := by decide +kernel
theorem sX1_isBarredByTwos_20 : ab_X rom K cX1_isBarredByTwos 8 2 20 ls st hp = ab_X rom K cX1_isBarredByTwos 8 2 21 ls (.int 0 :: st) hp := ax_iconst dX1_isBarredByTwos_20 (by decide) rfl
theorem dX1_isBarredByTwos_21 : decode cX1_isBarredByTwos 21 = .ok (.istore_n 2, 1) := by decide +kernel
theorem sX1_isBarredByTwos_21i : ab_X rom K cX1_isBarredByTwos 8 2 21 (v0 :: .int y :: v2 :: ls) (.int x :: st) hp = ab_X rom K cX1_isBarredByTwos 8 2 22 (v0 :: .int y :: .int x :: ls) st hp := ax_istore_n dX1_isBarredByTwos_21 (ax_lt (v := v2) rfl) (ab_nl_c1 (j := 1) (v := .int y) rfl (ab_c1_int _)) rfl rfl
theorem sX1_isBarredByTwos_21r : ab_X rom K cX1_isBarredByTwos 8 2 21 (v0 :: .ref a2 :: v2 :: ls) (.int x :: st) hp = ab_X rom K cX1_isBarredByTwos 8 2 22 (v0 :: .ref a2 :: .int x :: ls) st hp := ax_istore_n dX1_isBarredByTwos_21 (ax_lt (v := v2) rfl) (ab_nl_c1 (j := 1) (v := .ref a2) rfl (ab_c1_ref _)) rfl rfl
theorem sX1_isBarredByTwos_21n : ab_X rom K cX1_isBarredByTwos 8 2 21 (v0 :: .null :: v2 :: ls) (.int x :: st) hp = ab_X rom K cX1_isBarredByTwos 8 2 22 (v0 :: .null :: .int x :: ls) st hp := ax_istore_n dX1_isBarredByTwos_21 (ax_lt (v := v2) rfl) (ab_nl_c1 (j := 1) (v := .null) rfl ab_c1_null) rfl rfl
theorem dX1_isBarredByTwos_22 : decode cX1_isBarredByTwos 22 = .ok (.iload_n 2, 1) := by decide +kernel
theorem sX1_isBarredByTwos_22 : ab_X rom K cX1_isBarredByTwos 8 2 22 (v0 :: v1 :: .int x :: ls) st hp = ab_X rom K cX1_isBarredByTwos 8 2 23 (v0 :: v1 :: .int x :: ls) (.int x :: st) hp := ax_iload_n dX1_isBarredByTwos_22 rfl rfl
theorem dX1_isBarredByTwos_23 : decode cX1_isBarredByTwos 23 = .ok (.aload_n 0, 1) := by decide +kernel
theorem sX1_isBarredByTwos_23 : ab_X rom K cX1_isBarredByTwos 8 2 23 (.ref a :: ls) st hp = ab_X rom K cX1_isBarredByTwos 8 2 24 (.ref a :: ls) (.ref a :: st) hp := ax_aload_n dX1_isBarredByTwos_23 rfl rfl
theorem dX1_isBarredByTwos_24 : decode cX1_isBarredByTwos 24 = .ok (.getfield 46, 3) := by decide +kernel
theorem sX1_isBarredByTwos_24 : ab_X rom K cX1_isBarredByTwos 8 2 24 ls (.ref a :: st) hp = (ab_fld hp a 1 0).bind (fun v => ab_X rom K cX1_isBarredByTwos 8 2 27 ls (v :: st) hp) := ax_getfield dX1_isBarredByTwos_24 kf_8_46 rfl
theorem dX1_isBarredByTwos_27 : decode cX1_isBarredByTwos 27 = .ok (.if_icmp .ge 17, 3) := by decide +kernel
theorem sX1_isBarredByTwos_27 : ab_X rom K cX1_isBarredByTwos 8 2 27 ls (.int y :: .int x :: st) hp = if x < y then ab_X rom K cX1_isBarredByTwos 8 2 30 ls st hp else ab_X rom K cX1_isBarredByTwos 8 2 44 ls st hp := ax_icmp_ge dX1_isBarredByTwos_27 (by decide) rfl
theorem dX1_isBarredByTwos_30 : decode cX1_isBarredByTwos 30 = .ok (.iload_n 1, 1) := by decide +kernel
theorem sX1_isBarredByTwos_30 : ab_X rom K cX1_isBarredByTwos 8 2 30 (v0 :: .int x :: ls) st hp = ab_X rom K cX1_isBarredByTwos 8 2 31 (v0 :: .int x :: ls) (.int x :: st) hp := ax_iload_n dX1_isBarredByTwos_30 rfl rfl
theorem dX1_isBarredByTwos_31 : decode cX1_isBarredByTwos 31 = .ok (.aload_n 0, 1) := by decide +kernel
theorem sX1_isBarredByTwos_31 : ab_X rom K cX1_isBarredByTwos 8 2 31 (.ref a :: ls) st hp = ab_X rom K cX1_isBarredByTwos 8 2 32 (.ref a :: ls) (.ref a :: st) hp := ax_aload_n dX1_isBarredByTwos_31 rfl rfl
theorem dX1_isBarredByTwos_32 : decode cX1_isBarredByTwos 32 = .ok (.iload_n 2, 1) := by decide +kernel
theorem sX1_isBarredByTwos_32 : ab_X rom K cX1_isBarredByTwos 8 2 32 (v0 :: v1 :: .int x :: ls) st hp = ab_X rom K cX1_isBarredByTwos 8 2 33 (v0 :: v1 :: .int x :: ls) (.int x :: st) hp := ax_iload_n dX1_isBarredByTwos_32 rfl rfl
theorem dX1_isBarredByTwos_33 : decode cX1_isBarredByTwos 33 = .ok (.invokevirtual 100, 3) := by decide +kernel
theorem sX1_isBarredByTwos_33_0 : ab_X rom K cX1_isBarredByTwos 8 2 33 ls [w1, .ref a] hp = if ab_iso hp a 1 = true then (K 27 (.ref a :: [w1]) hp).bind (fun o => ab_X rom K cX1_isBarredByTwos 8 2 36 ls (o.1.toList ++ []) o.2) else none := ay_virtual (as := [w1]) (st := []) dX1_isBarredByTwos_33 kc_8_100 rfl rfl (Nat.le_of_ble_eq_true rfl)
theorem sX1_isBarredByTwos_33_1 : ab_X rom K cX1_isBarredByTwos 8 2 33 ls [w1, .ref a, v0] hp = if ab_iso hp a 1 = true then (K 27 (.ref a :: [w1]) hp).bind (fun o => ab_X rom K cX1_isBarredByTwos 8 2 36 ls (o.1.toList ++ [v0]) o.2) else none := ay_virtual (as := [w1]) (st := [v0]) dX1_isBarredByTwos_33 kc_8_100 rfl rfl (Nat.le_of_ble_eq_true rfl)
theorem sX1_isBarredByTwos_33_2 : ab_X rom K cX1_isBarredByTwos 8 2 33 ls [w1, .ref a, v0, v1] hp = if ab_iso hp a 1 = true then (K 27 (.ref a :: [w1]) hp).bind (fun o => ab_X rom K cX1_isBarredByTwos 8 2 36 ls (o.1.toList ++ [v0, v1]) o.2) else none := ay_virtual (as := [w1]) (st := [v0, v1]) dX1_isBarredByTwos_33 kc_8_100 rfl rfl (Nat.le_of_ble_eq_true rfl)
theorem sX1_isBarredByTwos_33_3 : ab_X rom K cX1_isBarredByTwos 8 2 33 ls [w1, .ref a, v0, v1, v2] hp = if ab_iso hp a 1 = true then (K 27 (.ref a :: [w1]) hp).bind (fun o => ab_X rom K cX1_isBarredByTwos 8 2 36 ls (o.1.toList ++ [v0, v1, v2]) o.2) else none := ay_virtual (as := [w1]) (st := [v0, v1, v2]) dX1_isBarredByTwos_33 kc_8_100 rfl rfl (Nat.le_of_ble_eq_true rfl)
theorem dX1_isBarredByTwos_36 : decode cX1_isBarredByTwos 36 = .ok (.ior, 1) := by decide +kernel
theorem sX1_isBarredByTwos_36 : ab_X rom K cX1_isBarredByTwos 8 2 36 ls (.int y :: .int x :: st) hp = ab_X rom K cX1_isBarredByTwos 8 2 37 ls (.int (x ||| y) :: st) hp := ax_ior dX1_isBarredByTwos_36 rfl
theorem dX1_isBarredByTwos_37 : decode cX1_isBarredByTwos 37 = .ok (.istore_n 1, 1) := by decide +kernel
theorem sX1_isBarredByTwos_37i : ab_X rom K cX1_isBarredByTwos 8 2 37 (.int y :: v1 :: ls) (.int x :: st) hp = ab_X rom K cX1_isBarredByTwos 8 2 38 (.int y :: .int x :: ls) st hp := ax_istore_n dX1_isBarredByTwos_37 (ax_lt (v := v1) rfl) (ab_nl_c1 (j := 0) (v := .int y) rfl (ab_c1_int _)) rfl rfl
theorem sX1_isBarredByTwos_37r : ab_X rom K cX1_isBarredByTwos 8 2 37 (.ref a2 :: v1 :: ls) (.int x :: st) hp = ab_X rom K cX1_isBarredByTwos 8 2 38 (.ref a2 :: .int x :: ls) st hp := ax_istore_n dX1_isBarredByTwos_37 (ax_lt (v := v1) rfl) (ab_nl_c1 (j := 0) (v := .ref a2) rfl (ab_c1_ref _)) rfl rfl
theorem sX1_isBarredByTwos_37n : ab_X rom K cX1_isBarredByTwos 8 2 37 (.null :: v1 :: ls) (.int x :: st) hp = ab_X rom K cX1_isBarredByTwos 8 2 38 (.null :: .int x :: ls) st hp := ax_istore_n dX1_isBarredByTwos_37 (ax_lt (v := v1) rfl) (ab_nl_c1 (j := 0) (v := .null) rfl ab_c1_null) rfl rfl
theorem dX1_isBarredByTwos_38 : decode cX1_isBarredByTwos 38 = .ok (.iinc 2 1, 3) := by decide +kernel
theorem sX1_isBarredByTwos_38i : ab_X rom K cX1_isBarredByTwos 8 2 38 (v0 :: .int y :: .int x :: ls) st hp = ab_X rom K cX1_isBarredByTwos 8 2 41 (v0 :: .int y :: .int (x + 1) :: ls) st hp := ax_iinc dX1_isBarredByTwos_38 rfl (ab_nl_c1 (j := 1) (v := .int y) rfl (ab_c1_int _)) (by decide) rfl rfl
theorem sX1_isBarredByTwos_38r : ab_X rom K cX1_isBarredByTwos 8 2 38 (v0 :: .ref a2 :: .int x :: ls) st hp = ab_X rom K cX1_isBarredByTwos 8 2 41 (v0 :: .ref a2 :: .int (x + 1) :: ls) st hp := ax_iinc dX1_isBarredByTwos_38 rfl (ab_nl_c1 (j := 1) (v := .ref a2) rfl (ab_c1_ref _)) (by decide) rfl rfl
theorem sX1_isBarredByTwos_38n : ab_X rom K cX1_isBarredByTwos 8 2 38 (v0 :: .null :: .int x :: ls) st hp = ab_X rom K cX1_isBarredByTwos 8 2 41 (v0 :: .null :: .int (x + 1) :: ls) st hp := ax_iinc dX1_isBarredByTwos_38 rfl (ab_nl_c1 (j := 1) (v := .null) rfl ab_c1_null) (by decide) rfl rfl
theorem dX1_isBarredByTwos_41 : decode cX1_isBarredByTwos 41 = .ok (.goto (-19), 3) := by decide +kernel
theorem sX1_isBarredByTwos_41 : ab_X rom K cX1_isBarredByTwos 8 2 41 ls st hp = ab_X rom K cX1_isBarredByTwos 8 2 22 ls st hp := ax_goto dX1_isBarredByTwos_41 (by decide)
theorem dX1_isBarredByTwos_44 : decode cX1_isBarredByTwos 44 = .ok (.iload_n 1, 1) := by decide +kernel
theorem sX1_isBarredByTwos_44 : ab_X rom K cX1_isBarredByTwos 8 2 44 (v0 :: .int x :: ls) st hp = ab_X rom K cX1_isBarredByTwos 8 2 45 (v0 :: .int x :: ls) (.int x :: st) hp := ax_iload_n dX1_isBarredByTwos_44 rfl rfl
theorem dX1_isBarredByTwos_45 : decode cX1_isBarredByTwos 45 = .ok (.iload_n 1, 1) := by decide +kernel
theorem sX1_isBarredByTwos_45 : ab_X rom K cX1_isBarredByTwos 8 2 45 (v0 :: .int x :: ls) st hp = ab_X rom K cX1_isBarredByTwos 8 2 46 (v0 :: .int x :: ls) (.int x :: st) hp := ax_iload_n dX1_isBarredByTwos_45 rfl rfl
theorem dX1_isBarredByTwos_46 : decode cX1_isBarredByTwos 46 = .ok (.ineg, 1) := by decide +kernel
theorem sX1_isBarredByTwos_46 : ab_X rom K cX1_isBarredByTwos 8 2 46 ls (.int x :: st) hp = ab_X rom K cX1_isBarredByTwos 8 2 47 ls (.int (-x) :: st) hp := ax_ineg dX1_isBarredByTwos_46 rfl
theorem dX1_isBarredByTwos_47 : decode cX1_isBarredByTwos 47 = .ok (.iand, 1) := by decide +kernel
theorem sX1_isBarredByTwos_47 : ab_X rom K cX1_isBarredByTwos 8 2 47 ls (.int y :: .int x :: st) hp = ab_X rom K cX1_isBarredByTwos 8 2 48 ls (.int (x &&& y) :: st) hp := ax_iand dX1_isBarredByTwos_47 rfl
theorem dX1_isBarredByTwos_48 : decode cX1_isBarredByTwos 48 = .ok (.istore_n 2, 1) := by decide +kernel
theorem sX1_isBarredByTwos_48i : ab_X rom K cX1_isBarredByTwos 8 2 48 (v0 :: .int y :: v2 :: ls) (.int x :: st) hp = ab_X rom K cX1_isBarredByTwos 8 2 49 (v0 :: .int y :: .int x :: ls) st hp := ax_istore_n dX1_isBarredByTwos_48 (ax_lt (v := v2) rfl) (ab_nl_c1 (j := 1) (v := .int y) rfl (ab_c1_int _)) rfl rfl
theorem sX1_isBarredByTwos_48r : ab_X rom K cX1_isBarredByTwos 8 2 48 (v0 :: .ref a2 :: v2 :: ls) (.int x :: st) hp = ab_X rom K cX1_isBarredByTwos 8 2 49 (v0 :: .ref a2 :: .int x :: ls) st hp := ax_istore_n dX1_isBarredByTwos_48 (ax_lt (v := v2) rfl) (ab_nl_c1 (j := 1) (v := .ref a2) rfl (ab_c1_ref _)) rfl rfl
theorem sX1_isBarredByTwos_48n : ab_X rom K cX1_isBarredByTwos 8 2 48 (v0 :: .null :: v2 :: ls) (.int x :: st) hp = ab_X rom K cX1_isBarredByTwos 8 2 49 (v0 :: .null :: .int x :: ls) st hp := ax_istore_n dX1_isBarredByTwos_48 (ax_lt (v := v2) rfl) (ab_nl_c1 (j := 1) (v := .null) rfl ab_c1_null) rfl rfl
theorem dX1_isBarredByTwos_49 : decode cX1_isBarredByTwos 49 = .ok (.aload_n 0, 1) := by decide +kernel
theorem sX1_isBarredByTwos_49 : ab_X rom K cX1_isBarredByTwos 8 2 49 (.ref a :: ls) st hp = ab_X rom K cX1_isBarredByTwos 8 2 50 (.ref a :: ls) (.ref a :: st) hp := ax_aload_n dX1_isBarredByTwos_49 rfl rfl
theorem dX1_isBarredByTwos_50 : decode cX1_isBarredByTwos 50 = .ok (.getfield 22, 3) := by decide +kernel
theorem sX1_isBarredByTwos_50 : ab_X rom K cX1_isBarredByTwos 8 2 50 ls (.ref a :: st) hp = (ab_fld hp a 1 1).bind (fun v => ab_X rom K cX1_isBarredByTwos 8 2 53 ls (v :: st) hp) := ax_getfield dX1_isBarredByTwos_50 kf_8_22 rfl
theorem dX1_isBarredByTwos_53 : decode cX1_isBarredByTwos 53 = .ok (.iconst 2, 1) := by decide +kernel
theorem sX1_isBarredByTwos_53 : ab_X rom K cX1_isBarredByTwos 8 2 53 ls st hp = ab_X rom K cX1_isBarredByTwos 8 2 54 ls (.int 2 :: st) hp := ax_iconst dX1_isBarredByTwos_53 (by decide) rfl
theorem dX1_isBarredByTwos_54 : decode cX1_isBarredByTwos 54 = .ok (.iload_n 2, 1) := by decide +kernel
theorem sX1_isBarredByTwos_54 : ab_X rom K cX1_isBarredByTwos 8 2 54 (v0 :: v1 :: .int x :: ls) st hp = ab_X rom K cX1_isBarredByTwos 8 2 55 (v0 :: v1 :: .int x :: ls) (.int x :: st) hp := ax_iload_n dX1_isBarredByTwos_54 rfl rfl
theorem dX1_isBarredByTwos_55 : decode cX1_isBarredByTwos 55 = .ok (.imul, 1) := by decide +kernel
theorem sX1_isBarredByTwos_55 : ab_X rom K cX1_isBarredByTwos 8 2 55 ls (.int y :: .int x :: st) hp = ab_X rom K cX1_isBarredByTwos 8 2 56 ls (.int (x * y) :: st) hp := ax_imul dX1_isBarredByTwos_55 rfl
theorem dX1_isBarredByTwos_56 : decode cX1_isBarredByTwos 56 = .ok (.iconst 1, 1) := by decide +kernel
theorem sX1_isBarredByTwos_56 : ab_X rom K cX1_isBarredByTwos 8 2 56 ls st hp = ab_X rom K cX1_isBarredByTwos 8 2 57 ls (.int 1 :: st) hp := ax_iconst dX1_isBarredByTwos_56 (by decide) rfl
theorem dX1_isBarredByTwos_57 : decode cX1_isBarredByTwos 57 = .ok (.isub, 1) := by decide +kernel
theorem sX1_isBarredByTwos_57 : ab_X rom K cX1_isBarredByTwos 8 2 57 ls (.int y :: .int x :: st) hp = ab_X rom K cX1_isBarredByTwos 8 2 58 ls (.int (x - y) :: st) hp := ax_isub dX1_isBarredByTwos_57 rfl
theorem dX1_isBarredByTwos_58 : decode cX1_isBarredByTwos 58 = .ok (.iand, 1) := by decide +kernel
theorem sX1_isBarredByTwos_58 : ab_X rom K cX1_isBarredByTwos 8 2 58 ls (.int y :: .int x :: st) hp = ab_X rom K cX1_isBarredByTwos 8 2 59 ls (.int (x &&& y) :: st) hp := ax_iand dX1_isBarredByTwos_58 rfl
theorem dX1_isBarredByTwos_59 : decode cX1_isBarredByTwos 59 = .ok (.ifCond .eq 7, 3) := by decide +kernel
theorem sX1_isBarredByTwos_59 : ab_X rom K cX1_isBarredByTwos 8 2 59 ls (.int x :: st) hp = if x = 0 then ab_X rom K cX1_isBarredByTwos 8 2 66 ls st hp else ab_X rom K cX1_isBarredByTwos 8 2 62 ls st hp := ax_if_eq dX1_isBarredByTwos_59 (by decide) rfl
theorem dX1_isBarredByTwos_62 : decode cX1_isBarredByTwos 62 = .ok (.iconst 1, 1) := by decide +kernel
theorem sX1_isBarredByTwos_62 : ab_X rom K cX1_isBarredByTwos 8 2 62 ls st hp = ab_X rom K cX1_isBarredByTwos 8 2 63 ls (.int 1 :: st) hp := ax_iconst dX1_isBarredByTwos_62 (by decide) rfl
theorem dX1_isBarredByTwos_63 : decode cX1_isBarredByTwos 63 = .ok (.goto 4, 3) := by decide +kernel
theorem sX1_isBarredByTwos_63 : ab_X rom K cX1_isBarredByTwos 8 2 63 ls st hp = ab_X rom K cX1_isBarredByTwos 8 2 67 ls st hp := ax_goto dX1_isBarredByTwos_63 (by decide)
theorem dX1_isBarredByTwos_66 : decode cX1_isBarredByTwos 66 = .ok (.iconst 0, 1) := by decide +kernel
theorem sX1_isBarredByTwos_66 : ab_X rom K cX1_isBarredByTwos 8 2 66 ls st hp = ab_X rom K cX1_isBarredByTwos 8 2 67 ls (.int 0 :: st) hp := ax_iconst dX1_isBarredByTwos_66 (by decide) rfl
theorem dX1_isBarredByTwos_67 : decode cX1_isBarredByTwos 67 = .ok (.ireturn, 1) := by decide +kernel
theorem sX1_isBarredByTwos_67 : ab_X rom K cX1_isBarredByTwos 8 2 67 ls [.int x] hp = if x = 0 ∨ x = 1 then some (some (.int x), hp) else none := ay_zret dX1_isBarredByTwos_67 rfl
theorem tX1_isSplit : ab_mT[250]? = some (yX1_isSplit, cX1_isSplit, 7, 2, 8) := by decide +kernel
theorem mX1_isSplit {d : Nat} {r0 : Nat} {r1 : Nat} : ab_M rom (d + 1) 250 [.ref r0, .ref r1] hp = ab_X rom (ab_M rom d) cX1_isSplit 8 2 0 [.ref r0, .ref r1, .null, .null, .null, .null, .null] [] hp := ab_M_eq tX1_isSplit (Nat.le_of_ble_eq_true rfl)
theorem dX1_isSplit_0 : decode cX1_isSplit 0 = .ok (.iconst (-1), 1) := by decide +kernel
theorem sX1_isSplit_0 : ab_X rom K cX1_isSplit 8 2 0 ls st hp = ab_X rom K cX1_isSplit 8 2 1 ls (.int (-1) :: st) hp := ax_iconst dX1_isSplit_0 (by decide) rfl
theorem dX1_isSplit_1 : decode cX1_isSplit 1 = .ok (.istore_n 2, 1) := by decide +kernel
theorem sX1_isSplit_1i : ab_X rom K cX1_isSplit 8 2 1 (v0 :: .int y :: v2 :: ls) (.int x :: st) hp = ab_X rom K cX1_isSplit 8 2 2 (v0 :: .int y :: .int x :: ls) st hp := ax_istore_n dX1_isSplit_1 (ax_lt (v := v2) rfl) (ab_nl_c1 (j := 1) (v := .int y) rfl (ab_c1_int _)) rfl rfl
theorem sX1_isSplit_1r : ab_X rom K cX1_isSplit 8 2 1 (v0 :: .ref a2 :: v2 :: ls) (.int x :: st) hp = ab_X rom K cX1_isSplit 8 2 2 (v0 :: .ref a2 :: .int x :: ls) st hp := ax_istore_n dX1_isSplit_1 (ax_lt (v := v2) rfl) (ab_nl_c1 (j := 1) (v := .ref a2) rfl (ab_c1_ref _)) rfl rfl
theorem sX1_isSplit_1n : ab_X rom K cX1_isSplit 8 2 1 (v0 :: .null :: v2 :: ls) (.int x :: st) hp = ab_X rom K cX1_isSplit 8 2 2 (v0 :: .null :: .int x :: ls) st hp := ax_istore_n dX1_isSplit_1 (ax_lt (v := v2) rfl) (ab_nl_c1 (j := 1) (v := .null) rfl ab_c1_null) rfl rfl
theorem dX1_isSplit_2 : decode cX1_isSplit 2 = .ok (.bipush 100, 2) := by decide +kernel
theorem sX1_isSplit_2 : ab_X rom K cX1_isSplit 8 2 2 ls st hp = ab_X rom K cX1_isSplit 8 2 4 ls (.int 100 :: st) hp := ax_bipush dX1_isSplit_2 (by decide) rfl
theorem dX1_isSplit_4 : decode cX1_isSplit 4 = .ok (.istore_n 3, 1) := by decide +kernel
theorem sX1_isSplit_4i : ab_X rom K cX1_isSplit 8 2 4 (v0 :: v1 :: .int y :: v3 :: ls) (.int x :: st) hp = ab_X rom K cX1_isSplit 8 2 5 (v0 :: v1 :: .int y :: .int x :: ls) st hp := ax_istore_n dX1_isSplit_4 (ax_lt (v := v3) rfl) (ab_nl_c1 (j := 2) (v := .int y) rfl (ab_c1_int _)) rfl rfl
theorem sX1_isSplit_4r : ab_X rom K cX1_isSplit 8 2 4 (v0 :: v1 :: .ref a2 :: v3 :: ls) (.int x :: st) hp = ab_X rom K cX1_isSplit 8 2 5 (v0 :: v1 :: .ref a2 :: .int x :: ls) st hp := ax_istore_n dX1_isSplit_4 (ax_lt (v := v3) rfl) (ab_nl_c1 (j := 2) (v := .ref a2) rfl (ab_c1_ref _)) rfl rfl
theorem sX1_isSplit_4n : ab_X rom K cX1_isSplit 8 2 4 (v0 :: v1 :: .null :: v3 :: ls) (.int x :: st) hp = ab_X rom K cX1_isSplit 8 2 5 (v0 :: v1 :: .null :: .int x :: ls) st hp := ax_istore_n dX1_isSplit_4 (ax_lt (v := v3) rfl) (ab_nl_c1 (j := 2) (v := .null) rfl ab_c1_null) rfl rfl
theorem dX1_isSplit_5 : decode cX1_isSplit 5 = .ok (.iconst 0, 1) := by decide +kernel
theorem sX1_isSplit_5 : ab_X rom K cX1_isSplit 8 2 5 ls st hp = ab_X rom K cX1_isSplit 8 2 6 ls (.int 0 :: st) hp := ax_iconst dX1_isSplit_5 (by decide) rfl
theorem dX1_isSplit_6 : decode cX1_isSplit 6 = .ok (.istore 4, 2) := by decide +kernel
theorem sX1_isSplit_6i : ab_X rom K cX1_isSplit 8 2 6 (v0 :: v1 :: v2 :: .int y :: v4 :: ls) (.int x :: st) hp = ab_X rom K cX1_isSplit 8 2 8 (v0 :: v1 :: v2 :: .int y :: .int x :: ls) st hp := ax_istore dX1_isSplit_6 (ax_lt (v := v4) rfl) (ab_nl_c1 (j := 3) (v := .int y) rfl (ab_c1_int _)) rfl rfl
theorem sX1_isSplit_6r : ab_X rom K cX1_isSplit 8 2 6 (v0 :: v1 :: v2 :: .ref a2 :: v4 :: ls) (.int x :: st) hp = ab_X rom K cX1_isSplit 8 2 8 (v0 :: v1 :: v2 :: .ref a2 :: .int x :: ls) st hp := ax_istore dX1_isSplit_6 (ax_lt (v := v4) rfl) (ab_nl_c1 (j := 3) (v := .ref a2) rfl (ab_c1_ref _)) rfl rfl
theorem sX1_isSplit_6n : ab_X rom K cX1_isSplit 8 2 6 (v0 :: v1 :: v2 :: .null :: v4 :: ls) (.int x :: st) hp = ab_X rom K cX1_isSplit 8 2 8 (v0 :: v1 :: v2 :: .null :: .int x :: ls) st hp := ax_istore dX1_isSplit_6 (ax_lt (v := v4) rfl) (ab_nl_c1 (j := 3) (v := .null) rfl ab_c1_null) rfl rfl
theorem dX1_isSplit_8 : decode cX1_isSplit 8 = .ok (.iload 4, 2) := by decide +kernel
theorem sX1_isSplit_8 : ab_X rom K cX1_isSplit 8 2 8 (v0 :: v1 :: v2 :: v3 :: .int x :: ls) st hp = ab_X rom K cX1_isSplit 8 2 10 (v0 :: v1 :: v2 :: v3 :: .int x :: ls) (.int x :: st) hp := ax_iload dX1_isSplit_8 rfl rfl
theorem dX1_isSplit_10 : decode cX1_isSplit 10 = .ok (.aload_n 0, 1) := by decide +kernel
theorem sX1_isSplit_10 : ab_X rom K cX1_isSplit 8 2 10 (.ref a :: ls) st hp = ab_X rom K cX1_isSplit 8 2 11 (.ref a :: ls) (.ref a :: st) hp := ax_aload_n dX1_isSplit_10 rfl rfl
theorem dX1_isSplit_11 : decode cX1_isSplit 11 = .ok (.getfield 22, 3) := by decide +kernel
theorem sX1_isSplit_11 : ab_X rom K cX1_isSplit 8 2 11 ls (.ref a :: st) hp = (ab_fld hp a 1 1).bind (fun v => ab_X rom K cX1_isSplit 8 2 14 ls (v :: st) hp) := ax_getfield dX1_isSplit_11 kf_8_22 rfl
theorem dX1_isSplit_14 : decode cX1_isSplit 14 = .ok (.if_icmp .ge 55, 3) := by decide +kernel
theorem sX1_isSplit_14 : ab_X rom K cX1_isSplit 8 2 14 ls (.int y :: .int x :: st) hp = if x < y then ab_X rom K cX1_isSplit 8 2 17 ls st hp else ab_X rom K cX1_isSplit 8 2 69 ls st hp := ax_icmp_ge dX1_isSplit_14 (by decide) rfl
theorem dX1_isSplit_17 : decode cX1_isSplit 17 = .ok (.aload_n 1, 1) := by decide +kernel
theorem sX1_isSplit_17 : ab_X rom K cX1_isSplit 8 2 17 (v0 :: .ref a :: ls) st hp = ab_X rom K cX1_isSplit 8 2 18 (v0 :: .ref a :: ls) (.ref a :: st) hp := ax_aload_n dX1_isSplit_17 rfl rfl
theorem dX1_isSplit_18 : decode cX1_isSplit 18 = .ok (.aload_n 0, 1) := by decide +kernel
theorem sX1_isSplit_18 : ab_X rom K cX1_isSplit 8 2 18 (.ref a :: ls) st hp = ab_X rom K cX1_isSplit 8 2 19 (.ref a :: ls) (.ref a :: st) hp := ax_aload_n dX1_isSplit_18 rfl rfl
theorem dX1_isSplit_19 : decode cX1_isSplit 19 = .ok (.getfield 74, 3) := by decide +kernel
theorem sX1_isSplit_19 : ab_X rom K cX1_isSplit 8 2 19 ls (.ref a :: st) hp = (ab_fld hp a 1 2).bind (fun v => ab_X rom K cX1_isSplit 8 2 22 ls (v :: st) hp) := ax_getfield dX1_isSplit_19 kf_8_74 rfl
theorem dX1_isSplit_22 : decode cX1_isSplit 22 = .ok (.iload 4, 2) := by decide +kernel
theorem sX1_isSplit_22 : ab_X rom K cX1_isSplit 8 2 22 (v0 :: v1 :: v2 :: v3 :: .int x :: ls) st hp = ab_X rom K cX1_isSplit 8 2 24 (v0 :: v1 :: v2 :: v3 :: .int x :: ls) (.int x :: st) hp := ax_iload dX1_isSplit_22 rfl rfl
theorem dX1_isSplit_24 : decode cX1_isSplit 24 = .ok (.iaload, 1) := by decide +kernel
theorem sX1_isSplit_24 : ab_X rom K cX1_isSplit 8 2 24 ls (.int x :: .ref a :: st) hp = (ab_ard rom 0 hp a x).bind (fun v => ab_X rom K cX1_isSplit 8 2 25 ls (.int v :: st) hp) := ax_iaload dX1_isSplit_24 rfl
theorem dX1_isSplit_25 : decode cX1_isSplit 25 = .ok (.iaload, 1) := by decide +kernel
theorem sX1_isSplit_25 : ab_X rom K cX1_isSplit 8 2 25 ls (.int x :: .ref a :: st) hp = (ab_ard rom 0 hp a x).bind (fun v => ab_X rom K cX1_isSplit 8 2 26 ls (.int v :: st) hp) := ax_iaload dX1_isSplit_25 rfl
theorem dX1_isSplit_26 : decode cX1_isSplit 26 = .ok (.istore 5, 2) := by decide +kernel
theorem sX1_isSplit_26i : ab_X rom K cX1_isSplit 8 2 26 (v0 :: v1 :: v2 :: v3 :: .int y :: v5 :: ls) (.int x :: st) hp = ab_X rom K cX1_isSplit 8 2 28 (v0 :: v1 :: v2 :: v3 :: .int y :: .int x :: ls) st hp := ax_istore dX1_isSplit_26 (ax_lt (v := v5) rfl) (ab_nl_c1 (j := 4) (v := .int y) rfl (ab_c1_int _)) rfl rfl
theorem sX1_isSplit_26r : ab_X rom K cX1_isSplit 8 2 26 (v0 :: v1 :: v2 :: v3 :: .ref a2 :: v5 :: ls) (.int x :: st) hp = ab_X rom K cX1_isSplit 8 2 28 (v0 :: v1 :: v2 :: v3 :: .ref a2 :: .int x :: ls) st hp := ax_istore dX1_isSplit_26 (ax_lt (v := v5) rfl) (ab_nl_c1 (j := 4) (v := .ref a2) rfl (ab_c1_ref _)) rfl rfl
theorem sX1_isSplit_26n : ab_X rom K cX1_isSplit 8 2 26 (v0 :: v1 :: v2 :: v3 :: .null :: v5 :: ls) (.int x :: st) hp = ab_X rom K cX1_isSplit 8 2 28 (v0 :: v1 :: v2 :: v3 :: .null :: .int x :: ls) st hp := ax_istore dX1_isSplit_26 (ax_lt (v := v5) rfl) (ab_nl_c1 (j := 4) (v := .null) rfl ab_c1_null) rfl rfl
theorem dX1_isSplit_28 : decode cX1_isSplit 28 = .ok (.aload_n 1, 1) := by decide +kernel
theorem sX1_isSplit_28 : ab_X rom K cX1_isSplit 8 2 28 (v0 :: .ref a :: ls) st hp = ab_X rom K cX1_isSplit 8 2 29 (v0 :: .ref a :: ls) (.ref a :: st) hp := ax_aload_n dX1_isSplit_28 rfl rfl
theorem dX1_isSplit_29 : decode cX1_isSplit 29 = .ok (.aload_n 0, 1) := by decide +kernel
theorem sX1_isSplit_29 : ab_X rom K cX1_isSplit 8 2 29 (.ref a :: ls) st hp = ab_X rom K cX1_isSplit 8 2 30 (.ref a :: ls) (.ref a :: st) hp := ax_aload_n dX1_isSplit_29 rfl rfl
theorem dX1_isSplit_30 : decode cX1_isSplit 30 = .ok (.getfield 77, 3) := by decide +kernel
theorem sX1_isSplit_30 : ab_X rom K cX1_isSplit 8 2 30 ls (.ref a :: st) hp = (ab_fld hp a 1 3).bind (fun v => ab_X rom K cX1_isSplit 8 2 33 ls (v :: st) hp) := ax_getfield dX1_isSplit_30 kf_8_77 rfl
theorem dX1_isSplit_33 : decode cX1_isSplit 33 = .ok (.iload 4, 2) := by decide +kernel
theorem sX1_isSplit_33 : ab_X rom K cX1_isSplit 8 2 33 (v0 :: v1 :: v2 :: v3 :: .int x :: ls) st hp = ab_X rom K cX1_isSplit 8 2 35 (v0 :: v1 :: v2 :: v3 :: .int x :: ls) (.int x :: st) hp := ax_iload dX1_isSplit_33 rfl rfl
theorem dX1_isSplit_35 : decode cX1_isSplit 35 = .ok (.iaload, 1) := by decide +kernel
theorem sX1_isSplit_35 : ab_X rom K cX1_isSplit 8 2 35 ls (.int x :: .ref a :: st) hp = (ab_ard rom 0 hp a x).bind (fun v => ab_X rom K cX1_isSplit 8 2 36 ls (.int v :: st) hp) := ax_iaload dX1_isSplit_35 rfl
theorem dX1_isSplit_36 : decode cX1_isSplit 36 = .ok (.iaload, 1) := by decide +kernel
theorem sX1_isSplit_36 : ab_X rom K cX1_isSplit 8 2 36 ls (.int x :: .ref a :: st) hp = (ab_ard rom 0 hp a x).bind (fun v => ab_X rom K cX1_isSplit 8 2 37 ls (.int v :: st) hp) := ax_iaload dX1_isSplit_36 rfl
theorem dX1_isSplit_37 : decode cX1_isSplit 37 = .ok (.istore 6, 2) := by decide +kernel
theorem sX1_isSplit_37i : ab_X rom K cX1_isSplit 8 2 37 (v0 :: v1 :: v2 :: v3 :: v4 :: .int y :: v6 :: ls) (.int x :: st) hp = ab_X rom K cX1_isSplit 8 2 39 (v0 :: v1 :: v2 :: v3 :: v4 :: .int y :: .int x :: ls) st hp := ax_istore dX1_isSplit_37 (ax_lt (v := v6) rfl) (ab_nl_c1 (j := 5) (v := .int y) rfl (ab_c1_int _)) rfl rfl
theorem sX1_isSplit_37r : ab_X rom K cX1_isSplit 8 2 37 (v0 :: v1 :: v2 :: v3 :: v4 :: .ref a2 :: v6 :: ls) (.int x :: st) hp = ab_X rom K cX1_isSplit 8 2 39 (v0 :: v1 :: v2 :: v3 :: v4 :: .ref a2 :: .int x :: ls) st hp := ax_istore dX1_isSplit_37 (ax_lt (v := v6) rfl) (ab_nl_c1 (j := 5) (v := .ref a2) rfl (ab_c1_ref _)) rfl rfl
theorem sX1_isSplit_37n : ab_X rom K cX1_isSplit 8 2 37 (v0 :: v1 :: v2 :: v3 :: v4 :: .null :: v6 :: ls) (.int x :: st) hp = ab_X rom K cX1_isSplit 8 2 39 (v0 :: v1 :: v2 :: v3 :: v4 :: .null :: .int x :: ls) st hp := ax_istore dX1_isSplit_37 (ax_lt (v := v6) rfl) (ab_nl_c1 (j := 5) (v := .null) rfl ab_c1_null) rfl rfl
theorem dX1_isSplit_39 : decode cX1_isSplit 39 = .ok (.iload_n 2, 1) := by decide +kernel
theorem sX1_isSplit_39 : ab_X rom K cX1_isSplit 8 2 39 (v0 :: v1 :: .int x :: ls) st hp = ab_X rom K cX1_isSplit 8 2 40 (v0 :: v1 :: .int x :: ls) (.int x :: st) hp := ax_iload_n dX1_isSplit_39 rfl rfl
theorem dX1_isSplit_40 : decode cX1_isSplit 40 = .ok (.iload 5, 2) := by decide +kernel
theorem sX1_isSplit_40 : ab_X rom K cX1_isSplit 8 2 40 (v0 :: v1 :: v2 :: v3 :: v4 :: .int x :: ls) st hp = ab_X rom K cX1_isSplit 8 2 42 (v0 :: v1 :: v2 :: v3 :: v4 :: .int x :: ls) (.int x :: st) hp := ax_iload dX1_isSplit_40 rfl rfl
theorem dX1_isSplit_42 : decode cX1_isSplit 42 = .ok (.iload 6, 2) := by decide +kernel
theorem sX1_isSplit_42 : ab_X rom K cX1_isSplit 8 2 42 (v0 :: v1 :: v2 :: v3 :: v4 :: v5 :: .int x :: ls) st hp = ab_X rom K cX1_isSplit 8 2 44 (v0 :: v1 :: v2 :: v3 :: v4 :: v5 :: .int x :: ls) (.int x :: st) hp := ax_iload dX1_isSplit_42 rfl rfl
theorem dX1_isSplit_44 : decode cX1_isSplit 44 = .ok (.invokestatic 80, 3) := by decide +kernel
theorem sX1_isSplit_44_0 : ab_X rom K cX1_isSplit 8 2 44 ls [.int y, .int x] hp = ab_X rom K cX1_isSplit 8 2 47 ls [.int (ab_min x y)] hp := ax_min dX1_isSplit_44 kc_8_80 rfl (Nat.le_of_ble_eq_true rfl)
theorem sX1_isSplit_44_1 : ab_X rom K cX1_isSplit 8 2 44 ls [.int y, .int x, v0] hp = ab_X rom K cX1_isSplit 8 2 47 ls [.int (ab_min x y), v0] hp := ax_min dX1_isSplit_44 kc_8_80 rfl (Nat.le_of_ble_eq_true rfl)
theorem sX1_isSplit_44_2 : ab_X rom K cX1_isSplit 8 2 44 ls [.int y, .int x, v0, v1] hp = ab_X rom K cX1_isSplit 8 2 47 ls [.int (ab_min x y), v0, v1] hp := ax_min dX1_isSplit_44 kc_8_80 rfl (Nat.le_of_ble_eq_true rfl)
theorem sX1_isSplit_44_3 : ab_X rom K cX1_isSplit 8 2 44 ls [.int y, .int x, v0, v1, v2] hp = ab_X rom K cX1_isSplit 8 2 47 ls [.int (ab_min x y), v0, v1, v2] hp := ax_min dX1_isSplit_44 kc_8_80 rfl (Nat.le_of_ble_eq_true rfl)
theorem dX1_isSplit_47 : decode cX1_isSplit 47 = .ok (.invokestatic 85, 3) := by decide +kernel
theorem sX1_isSplit_47_0 : ab_X rom K cX1_isSplit 8 2 47 ls [.int y, .int x] hp = ab_X rom K cX1_isSplit 8 2 50 ls [.int (ab_max x y)] hp := ax_max dX1_isSplit_47 kc_8_85 rfl (Nat.le_of_ble_eq_true rfl)
theorem sX1_isSplit_47_1 : ab_X rom K cX1_isSplit 8 2 47 ls [.int y, .int x, v0] hp = ab_X rom K cX1_isSplit 8 2 50 ls [.int (ab_max x y), v0] hp := ax_max dX1_isSplit_47 kc_8_85 rfl (Nat.le_of_ble_eq_true rfl)
theorem sX1_isSplit_47_2 : ab_X rom K cX1_isSplit 8 2 47 ls [.int y, .int x, v0, v1] hp = ab_X rom K cX1_isSplit 8 2 50 ls [.int (ab_max x y), v0, v1] hp := ax_max dX1_isSplit_47 kc_8_85 rfl (Nat.le_of_ble_eq_true rfl)
theorem sX1_isSplit_47_3 : ab_X rom K cX1_isSplit 8 2 47 ls [.int y, .int x, v0, v1, v2] hp = ab_X rom K cX1_isSplit 8 2 50 ls [.int (ab_max x y), v0, v1, v2] hp := ax_max dX1_isSplit_47 kc_8_85 rfl (Nat.le_of_ble_eq_true rfl)
theorem dX1_isSplit_50 : decode cX1_isSplit 50 = .ok (.istore_n 2, 1) := by decide +kernel
theorem sX1_isSplit_50i : ab_X rom K cX1_isSplit 8 2 50 (v0 :: .int y :: v2 :: ls) (.int x :: st) hp = ab_X rom K cX1_isSplit 8 2 51 (v0 :: .int y :: .int x :: ls) st hp := ax_istore_n dX1_isSplit_50 (ax_lt (v := v2) rfl) (ab_nl_c1 (j := 1) (v := .int y) rfl (ab_c1_int _)) rfl rfl
theorem sX1_isSplit_50r : ab_X rom K cX1_isSplit 8 2 50 (v0 :: .ref a2 :: v2 :: ls) (.int x :: st) hp = ab_X rom K cX1_isSplit 8 2 51 (v0 :: .ref a2 :: .int x :: ls) st hp := ax_istore_n dX1_isSplit_50 (ax_lt (v := v2) rfl) (ab_nl_c1 (j := 1) (v := .ref a2) rfl (ab_c1_ref _)) rfl rfl
theorem sX1_isSplit_50n : ab_X rom K cX1_isSplit 8 2 50 (v0 :: .null :: v2 :: ls) (.int x :: st) hp = ab_X rom K cX1_isSplit 8 2 51 (v0 :: .null :: .int x :: ls) st hp := ax_istore_n dX1_isSplit_50 (ax_lt (v := v2) rfl) (ab_nl_c1 (j := 1) (v := .null) rfl ab_c1_null) rfl rfl
theorem dX1_isSplit_51 : decode cX1_isSplit 51 = .ok (.iload_n 3, 1) := by decide +kernel
theorem sX1_isSplit_51 : ab_X rom K cX1_isSplit 8 2 51 (v0 :: v1 :: v2 :: .int x :: ls) st hp = ab_X rom K cX1_isSplit 8 2 52 (v0 :: v1 :: v2 :: .int x :: ls) (.int x :: st) hp := ax_iload_n dX1_isSplit_51 rfl rfl
theorem dX1_isSplit_52 : decode cX1_isSplit 52 = .ok (.iload 5, 2) := by decide +kernel
theorem sX1_isSplit_52 : ab_X rom K cX1_isSplit 8 2 52 (v0 :: v1 :: v2 :: v3 :: v4 :: .int x :: ls) st hp = ab_X rom K cX1_isSplit 8 2 54 (v0 :: v1 :: v2 :: v3 :: v4 :: .int x :: ls) (.int x :: st) hp := ax_iload dX1_isSplit_52 rfl rfl
theorem dX1_isSplit_54 : decode cX1_isSplit 54 = .ok (.iload 6, 2) := by decide +kernel
theorem sX1_isSplit_54 : ab_X rom K cX1_isSplit 8 2 54 (v0 :: v1 :: v2 :: v3 :: v4 :: v5 :: .int x :: ls) st hp = ab_X rom K cX1_isSplit 8 2 56 (v0 :: v1 :: v2 :: v3 :: v4 :: v5 :: .int x :: ls) (.int x :: st) hp := ax_iload dX1_isSplit_54 rfl rfl
theorem dX1_isSplit_56 : decode cX1_isSplit 56 = .ok (.invokestatic 85, 3) := by decide +kernel
theorem sX1_isSplit_56_0 : ab_X rom K cX1_isSplit 8 2 56 ls [.int y, .int x] hp = ab_X rom K cX1_isSplit 8 2 59 ls [.int (ab_max x y)] hp := ax_max dX1_isSplit_56 kc_8_85 rfl (Nat.le_of_ble_eq_true rfl)
theorem sX1_isSplit_56_1 : ab_X rom K cX1_isSplit 8 2 56 ls [.int y, .int x, v0] hp = ab_X rom K cX1_isSplit 8 2 59 ls [.int (ab_max x y), v0] hp := ax_max dX1_isSplit_56 kc_8_85 rfl (Nat.le_of_ble_eq_true rfl)
theorem sX1_isSplit_56_2 : ab_X rom K cX1_isSplit 8 2 56 ls [.int y, .int x, v0, v1] hp = ab_X rom K cX1_isSplit 8 2 59 ls [.int (ab_max x y), v0, v1] hp := ax_max dX1_isSplit_56 kc_8_85 rfl (Nat.le_of_ble_eq_true rfl)
theorem sX1_isSplit_56_3 : ab_X rom K cX1_isSplit 8 2 56 ls [.int y, .int x, v0, v1, v2] hp = ab_X rom K cX1_isSplit 8 2 59 ls [.int (ab_max x y), v0, v1, v2] hp := ax_max dX1_isSplit_56 kc_8_85 rfl (Nat.le_of_ble_eq_true rfl)
theorem dX1_isSplit_59 : decode cX1_isSplit 59 = .ok (.invokestatic 80, 3) := by decide +kernel
theorem sX1_isSplit_59_0 : ab_X rom K cX1_isSplit 8 2 59 ls [.int y, .int x] hp = ab_X rom K cX1_isSplit 8 2 62 ls [.int (ab_min x y)] hp := ax_min dX1_isSplit_59 kc_8_80 rfl (Nat.le_of_ble_eq_true rfl)
theorem sX1_isSplit_59_1 : ab_X rom K cX1_isSplit 8 2 59 ls [.int y, .int x, v0] hp = ab_X rom K cX1_isSplit 8 2 62 ls [.int (ab_min x y), v0] hp := ax_min dX1_isSplit_59 kc_8_80 rfl (Nat.le_of_ble_eq_true rfl)
theorem sX1_isSplit_59_2 : ab_X rom K cX1_isSplit 8 2 59 ls [.int y, .int x, v0, v1] hp = ab_X rom K cX1_isSplit 8 2 62 ls [.int (ab_min x y), v0, v1] hp := ax_min dX1_isSplit_59 kc_8_80 rfl (Nat.le_of_ble_eq_true rfl)
theorem sX1_isSplit_59_3 : ab_X rom K cX1_isSplit 8 2 59 ls [.int y, .int x, v0, v1, v2] hp = ab_X rom K cX1_isSplit 8 2 62 ls [.int (ab_min x y), v0, v1, v2] hp := ax_min dX1_isSplit_59 kc_8_80 rfl (Nat.le_of_ble_eq_true rfl)
theorem dX1_isSplit_62 : decode cX1_isSplit 62 = .ok (.istore_n 3, 1) := by decide +kernel
theorem sX1_isSplit_62i : ab_X rom K cX1_isSplit 8 2 62 (v0 :: v1 :: .int y :: v3 :: ls) (.int x :: st) hp = ab_X rom K cX1_isSplit 8 2 63 (v0 :: v1 :: .int y :: .int x :: ls) st hp := ax_istore_n dX1_isSplit_62 (ax_lt (v := v3) rfl) (ab_nl_c1 (j := 2) (v := .int y) rfl (ab_c1_int _)) rfl rfl
theorem sX1_isSplit_62r : ab_X rom K cX1_isSplit 8 2 62 (v0 :: v1 :: .ref a2 :: v3 :: ls) (.int x :: st) hp = ab_X rom K cX1_isSplit 8 2 63 (v0 :: v1 :: .ref a2 :: .int x :: ls) st hp := ax_istore_n dX1_isSplit_62 (ax_lt (v := v3) rfl) (ab_nl_c1 (j := 2) (v := .ref a2) rfl (ab_c1_ref _)) rfl rfl
theorem sX1_isSplit_62n : ab_X rom K cX1_isSplit 8 2 62 (v0 :: v1 :: .null :: v3 :: ls) (.int x :: st) hp = ab_X rom K cX1_isSplit 8 2 63 (v0 :: v1 :: .null :: .int x :: ls) st hp := ax_istore_n dX1_isSplit_62 (ax_lt (v := v3) rfl) (ab_nl_c1 (j := 2) (v := .null) rfl ab_c1_null) rfl rfl
theorem dX1_isSplit_63 : decode cX1_isSplit 63 = .ok (.iinc 4 1, 3) := by decide +kernel
theorem sX1_isSplit_63i : ab_X rom K cX1_isSplit 8 2 63 (v0 :: v1 :: v2 :: .int y :: .int x :: ls) st hp = ab_X rom K cX1_isSplit 8 2 66 (v0 :: v1 :: v2 :: .int y :: .int (x + 1) :: ls) st hp := ax_iinc dX1_isSplit_63 rfl (ab_nl_c1 (j := 3) (v := .int y) rfl (ab_c1_int _)) (by decide) rfl rfl
theorem sX1_isSplit_63r : ab_X rom K cX1_isSplit 8 2 63 (v0 :: v1 :: v2 :: .ref a2 :: .int x :: ls) st hp = ab_X rom K cX1_isSplit 8 2 66 (v0 :: v1 :: v2 :: .ref a2 :: .int (x + 1) :: ls) st hp := ax_iinc dX1_isSplit_63 rfl (ab_nl_c1 (j := 3) (v := .ref a2) rfl (ab_c1_ref _)) (by decide) rfl rfl
theorem sX1_isSplit_63n : ab_X rom K cX1_isSplit 8 2 63 (v0 :: v1 :: v2 :: .null :: .int x :: ls) st hp = ab_X rom K cX1_isSplit 8 2 66 (v0 :: v1 :: v2 :: .null :: .int (x + 1) :: ls) st hp := ax_iinc dX1_isSplit_63 rfl (ab_nl_c1 (j := 3) (v := .null) rfl ab_c1_null) (by decide) rfl rfl
theorem dX1_isSplit_66 : decode cX1_isSplit 66 = .ok (.goto (-58), 3) := by decide +kernel
theorem sX1_isSplit_66 : ab_X rom K cX1_isSplit 8 2 66 ls st hp = ab_X rom K cX1_isSplit 8 2 8 ls st hp := ax_goto dX1_isSplit_66 (by decide)
theorem dX1_isSplit_69 : decode cX1_isSplit 69 = .ok (.iload_n 2, 1) := by decide +kernel
theorem sX1_isSplit_69 : ab_X rom K cX1_isSplit 8 2 69 (v0 :: v1 :: .int x :: ls) st hp = ab_X rom K cX1_isSplit 8 2 70 (v0 :: v1 :: .int x :: ls) (.int x :: st) hp := ax_iload_n dX1_isSplit_69 rfl rfl
theorem dX1_isSplit_70 : decode cX1_isSplit 70 = .ok (.iload_n 3, 1) := by decide +kernel
theorem sX1_isSplit_70 : ab_X rom K cX1_isSplit 8 2 70 (v0 :: v1 :: v2 :: .int x :: ls) st hp = ab_X rom K cX1_isSplit 8 2 71 (v0 :: v1 :: v2 :: .int x :: ls) (.int x :: st) hp := ax_iload_n dX1_isSplit_70 rfl rfl
theorem dX1_isSplit_71 : decode cX1_isSplit 71 = .ok (.if_icmp .ge 7, 3) := by decide +kernel
theorem sX1_isSplit_71 : ab_X rom K cX1_isSplit 8 2 71 ls (.int y :: .int x :: st) hp = if x < y then ab_X rom K cX1_isSplit 8 2 74 ls st hp else ab_X rom K cX1_isSplit 8 2 78 ls st hp := ax_icmp_ge dX1_isSplit_71 (by decide) rfl
theorem dX1_isSplit_74 : decode cX1_isSplit 74 = .ok (.iconst 1, 1) := by decide +kernel
theorem sX1_isSplit_74 : ab_X rom K cX1_isSplit 8 2 74 ls st hp = ab_X rom K cX1_isSplit 8 2 75 ls (.int 1 :: st) hp := ax_iconst dX1_isSplit_74 (by decide) rfl
theorem dX1_isSplit_75 : decode cX1_isSplit 75 = .ok (.goto 4, 3) := by decide +kernel
theorem sX1_isSplit_75 : ab_X rom K cX1_isSplit 8 2 75 ls st hp = ab_X rom K cX1_isSplit 8 2 79 ls st hp := ax_goto dX1_isSplit_75 (by decide)
theorem dX1_isSplit_78 : decode cX1_isSplit 78 = .ok (.iconst 0, 1) := by decide +kernel
theorem sX1_isSplit_78 : ab_X rom K cX1_isSplit 8 2 78 ls st hp = ab_X rom K cX1_isSplit 8 2 79 ls (.int 0 :: st) hp := ax_iconst dX1_isSplit_78 (by decide) rfl
theorem dX1_isSplit_79 : decode cX1_isSplit 79 = .ok (.ireturn, 1) := by decide +kernel
theorem sX1_isSplit_79 : ab_X rom K cX1_isSplit 8 2 79 ls [.int x] hp = if x = 0 ∨ x = 1 then some (some (.int x), hp) else none := ay_zret dX1_isSplit_79 rfl
theorem tX1_reasonAgainst : ab_mT[251]? = some (yX1_reasonAgainst, cX1_reasonAgainst, 2, 1, 8) := by decide +kernel
theorem mX1_reasonAgainst {d : Nat} {r0 : Nat} {x1 : Int32} : ab_M rom (d + 1) 251 [.ref r0, .int x1] hp = ab_X rom (ab_M rom d) cX1_reasonAgainst 8 1 0 [.ref r0, .int x1] [] hp := ab_M_eq tX1_reasonAgainst (Nat.le_of_ble_eq_true rfl)
theorem dX1_reasonAgainst_0 : decode cX1_reasonAgainst 0 = .ok (.aload_n 0, 1) := by decide +kernel
theorem sX1_reasonAgainst_0 : ab_X rom K cX1_reasonAgainst 8 1 0 (.ref a :: ls) st hp = ab_X rom K cX1_reasonAgainst 8 1 1 (.ref a :: ls) (.ref a :: st) hp := ax_aload_n dX1_reasonAgainst_0 rfl rfl
theorem dX1_reasonAgainst_1 : decode cX1_reasonAgainst 1 = .ok (.invokevirtual 15, 3) := by decide +kernel
theorem sX1_reasonAgainst_1_0 : ab_X rom K cX1_reasonAgainst 8 1 1 ls [.ref a] hp = if ab_iso hp a 1 = true then (K 13 (.ref a :: []) hp).bind (fun o => ab_X rom K cX1_reasonAgainst 8 1 4 ls (o.1.toList ++ []) o.2) else none := ay_virtual (as := []) (st := []) dX1_reasonAgainst_1 kc_8_15 rfl rfl (Nat.le_of_ble_eq_true rfl)
theorem sX1_reasonAgainst_1_1 : ab_X rom K cX1_reasonAgainst 8 1 1 ls [.ref a, v0] hp = if ab_iso hp a 1 = true then (K 13 (.ref a :: []) hp).bind (fun o => ab_X rom K cX1_reasonAgainst 8 1 4 ls (o.1.toList ++ [v0]) o.2) else none := ay_virtual (as := []) (st := [v0]) dX1_reasonAgainst_1 kc_8_15 rfl rfl (Nat.le_of_ble_eq_true rfl)
theorem sX1_reasonAgainst_1_2 : ab_X rom K cX1_reasonAgainst 8 1 1 ls [.ref a, v0, v1] hp = if ab_iso hp a 1 = true then (K 13 (.ref a :: []) hp).bind (fun o => ab_X rom K cX1_reasonAgainst 8 1 4 ls (o.1.toList ++ [v0, v1]) o.2) else none := ay_virtual (as := []) (st := [v0, v1]) dX1_reasonAgainst_1 kc_8_15 rfl rfl (Nat.le_of_ble_eq_true rfl)
theorem sX1_reasonAgainst_1_3 : ab_X rom K cX1_reasonAgainst 8 1 1 ls [.ref a, v0, v1, v2] hp = if ab_iso hp a 1 = true then (K 13 (.ref a :: []) hp).bind (fun o => ab_X rom K cX1_reasonAgainst 8 1 4 ls (o.1.toList ++ [v0, v1, v2]) o.2) else none := ay_virtual (as := []) (st := [v0, v1, v2]) dX1_reasonAgainst_1 kc_8_15 rfl rfl (Nat.le_of_ble_eq_true rfl)
theorem dX1_reasonAgainst_4 : decode cX1_reasonAgainst 4 = .ok (.ifCond .ne 5, 3) := by decide +kernel
theorem sX1_reasonAgainst_4 : ab_X rom K cX1_reasonAgainst 8 1 4 ls (.int x :: st) hp = if x = 0 then ab_X rom K cX1_reasonAgainst 8 1 7 ls st hp else ab_X rom K cX1_reasonAgainst 8 1 9 ls st hp := ax_if_ne dX1_reasonAgainst_4 (by decide) rfl
theorem dX1_reasonAgainst_7 : decode cX1_reasonAgainst 7 = .ok (.iconst 1, 1) := by decide +kernel
theorem sX1_reasonAgainst_7 : ab_X rom K cX1_reasonAgainst 8 1 7 ls st hp = ab_X rom K cX1_reasonAgainst 8 1 8 ls (.int 1 :: st) hp := ax_iconst dX1_reasonAgainst_7 (by decide) rfl
theorem dX1_reasonAgainst_8 : decode cX1_reasonAgainst 8 = .ok (.ireturn, 1) := by decide +kernel
theorem sX1_reasonAgainst_8 : ab_X rom K cX1_reasonAgainst 8 1 8 ls [.int x] hp = some (some (.int x), hp) := ax_iret dX1_reasonAgainst_8 rfl
theorem dX1_reasonAgainst_9 : decode cX1_reasonAgainst 9 = .ok (.aload_n 0, 1) := by decide +kernel
theorem sX1_reasonAgainst_9 : ab_X rom K cX1_reasonAgainst 8 1 9 (.ref a :: ls) st hp = ab_X rom K cX1_reasonAgainst 8 1 10 (.ref a :: ls) (.ref a :: st) hp := ax_aload_n dX1_reasonAgainst_9 rfl rfl
theorem dX1_reasonAgainst_10 : decode cX1_reasonAgainst 10 = .ok (.invokevirtual 18, 3) := by decide +kernel
theorem sX1_reasonAgainst_10_0 : ab_X rom K cX1_reasonAgainst 8 1 10 ls [.ref a] hp = if ab_iso hp a 1 = true then (K 21 (.ref a :: []) hp).bind (fun o => ab_X rom K cX1_reasonAgainst 8 1 13 ls (o.1.toList ++ []) o.2) else none := ay_virtual (as := []) (st := []) dX1_reasonAgainst_10 kc_8_18 rfl rfl (Nat.le_of_ble_eq_true rfl)
theorem sX1_reasonAgainst_10_1 : ab_X rom K cX1_reasonAgainst 8 1 10 ls [.ref a, v0] hp = if ab_iso hp a 1 = true then (K 21 (.ref a :: []) hp).bind (fun o => ab_X rom K cX1_reasonAgainst 8 1 13 ls (o.1.toList ++ [v0]) o.2) else none := ay_virtual (as := []) (st := [v0]) dX1_reasonAgainst_10 kc_8_18 rfl rfl (Nat.le_of_ble_eq_true rfl)
theorem sX1_reasonAgainst_10_2 : ab_X rom K cX1_reasonAgainst 8 1 10 ls [.ref a, v0, v1] hp = if ab_iso hp a 1 = true then (K 21 (.ref a :: []) hp).bind (fun o => ab_X rom K cX1_reasonAgainst 8 1 13 ls (o.1.toList ++ [v0, v1]) o.2) else none := ay_virtual (as := []) (st := [v0, v1]) dX1_reasonAgainst_10 kc_8_18 rfl rfl (Nat.le_of_ble_eq_true rfl)
theorem sX1_reasonAgainst_10_3 : ab_X rom K cX1_reasonAgainst 8 1 10 ls [.ref a, v0, v1, v2] hp = if ab_iso hp a 1 = true then (K 21 (.ref a :: []) hp).bind (fun o => ab_X rom K cX1_reasonAgainst 8 1 13 ls (o.1.toList ++ [v0, v1, v2]) o.2) else none := ay_virtual (as := []) (st := [v0, v1, v2]) dX1_reasonAgainst_10 kc_8_18 rfl rfl (Nat.le_of_ble_eq_true rfl)
theorem dX1_reasonAgainst_13 : decode cX1_reasonAgainst 13 = .ok (.iload_n 1, 1) := by decide +kernel
theorem sX1_reasonAgainst_13 : ab_X rom K cX1_reasonAgainst 8 1 13 (v0 :: .int x :: ls) st hp = ab_X rom K cX1_reasonAgainst 8 1 14 (v0 :: .int x :: ls) (.int x :: st) hp := ax_iload_n dX1_reasonAgainst_13 rfl rfl
theorem dX1_reasonAgainst_14 : decode cX1_reasonAgainst 14 = .ok (.aload_n 0, 1) := by decide +kernel
theorem sX1_reasonAgainst_14 : ab_X rom K cX1_reasonAgainst 8 1 14 (.ref a :: ls) st hp = ab_X rom K cX1_reasonAgainst 8 1 15 (.ref a :: ls) (.ref a :: st) hp := ax_aload_n dX1_reasonAgainst_14 rfl rfl
theorem dX1_reasonAgainst_15 : decode cX1_reasonAgainst 15 = .ok (.getfield 22, 3) := by decide +kernel
theorem sX1_reasonAgainst_15 : ab_X rom K cX1_reasonAgainst 8 1 15 ls (.ref a :: st) hp = (ab_fld hp a 1 1).bind (fun v => ab_X rom K cX1_reasonAgainst 8 1 18 ls (v :: st) hp) := ax_getfield dX1_reasonAgainst_15 kf_8_22 rfl
theorem dX1_reasonAgainst_18 : decode cX1_reasonAgainst 18 = .ok (.invokestatic 26, 3) := by decide +kernel
theorem sX1_reasonAgainst_18_0 : ab_X rom K cX1_reasonAgainst 8 1 18 ls [w2, w1] hp = (K 244 [w1, w2] hp).bind (fun o => ab_X rom K cX1_reasonAgainst 8 1 21 ls (o.1.toList ++ []) o.2) := ax_static (as := [w1, w2]) (st := []) dX1_reasonAgainst_18 kc_8_26 rfl rfl (Nat.le_of_ble_eq_true rfl)
theorem sX1_reasonAgainst_18_1 : ab_X rom K cX1_reasonAgainst 8 1 18 ls [w2, w1, v0] hp = (K 244 [w1, w2] hp).bind (fun o => ab_X rom K cX1_reasonAgainst 8 1 21 ls (o.1.toList ++ [v0]) o.2) := ax_static (as := [w1, w2]) (st := [v0]) dX1_reasonAgainst_18 kc_8_26 rfl rfl (Nat.le_of_ble_eq_true rfl)
theorem sX1_reasonAgainst_18_2 : ab_X rom K cX1_reasonAgainst 8 1 18 ls [w2, w1, v0, v1] hp = (K 244 [w1, w2] hp).bind (fun o => ab_X rom K cX1_reasonAgainst 8 1 21 ls (o.1.toList ++ [v0, v1]) o.2) := ax_static (as := [w1, w2]) (st := [v0, v1]) dX1_reasonAgainst_18 kc_8_26 rfl rfl (Nat.le_of_ble_eq_true rfl)
theorem sX1_reasonAgainst_18_3 : ab_X rom K cX1_reasonAgainst 8 1 18 ls [w2, w1, v0, v1, v2] hp = (K 244 [w1, w2] hp).bind (fun o => ab_X rom K cX1_reasonAgainst 8 1 21 ls (o.1.toList ++ [v0, v1, v2]) o.2) := ax_static (as := [w1, w2]) (st := [v0, v1, v2]) dX1_reasonAgainst_18 kc_8_26 rfl rfl (Nat.le_of_ble_eq_true rfl)
theorem dX1_reasonAgainst_21 : decode cX1_reasonAgainst 21 = .ok (.if_icmp .le 5, 3) := by decide +kernel
theorem sX1_reasonAgainst_21 : ab_X rom K cX1_reasonAgainst 8 1 21 ls (.int y :: .int x :: st) hp = if y < x then ab_X rom K cX1_reasonAgainst 8 1 24 ls st hp else ab_X rom K cX1_reasonAgainst 8 1 26 ls st hp := ax_icmp_le dX1_reasonAgainst_21 (by decide) rfl
theorem dX1_reasonAgainst_24 : decode cX1_reasonAgainst 24 = .ok (.iconst 2, 1) := by decide +kernel
theorem sX1_reasonAgainst_24 : ab_X rom K cX1_reasonAgainst 8 1 24 ls st hp = ab_X rom K cX1_reasonAgainst 8 1 25 ls (.int 2 :: st) hp := ax_iconst dX1_reasonAgainst_24 (by decide) rfl
theorem dX1_reasonAgainst_25 : decode cX1_reasonAgainst 25 = .ok (.ireturn, 1) := by decide +kernel
theorem sX1_reasonAgainst_25 : ab_X rom K cX1_reasonAgainst 8 1 25 ls [.int x] hp = some (some (.int x), hp) := ax_iret dX1_reasonAgainst_25 rfl
theorem dX1_reasonAgainst_26 : decode cX1_reasonAgainst 26 = .ok (.aload_n 0, 1) := by decide +kernel
theorem sX1_reasonAgainst_26 : ab_X rom K cX1_reasonAgainst 8 1 26 (.ref a :: ls) st hp = ab_X rom K cX1_reasonAgainst 8 1 27 (.ref a :: ls) (.ref a :: st) hp := ax_aload_n dX1_reasonAgainst_26 rfl rfl
theorem dX1_reasonAgainst_27 : decode cX1_reasonAgainst 27 = .ok (.invokestatic 31, 3) := by decide +kernel
theorem sX1_reasonAgainst_27_0 : ab_X rom K cX1_reasonAgainst 8 1 27 ls [w1] hp = (K 252 [w1] hp).bind (fun o => ab_X rom K cX1_reasonAgainst 8 1 30 ls (o.1.toList ++ []) o.2) := ax_static (as := [w1]) (st := []) dX1_reasonAgainst_27 kc_8_31 rfl rfl (Nat.le_of_ble_eq_true rfl)
theorem sX1_reasonAgainst_27_1 : ab_X rom K cX1_reasonAgainst 8 1 27 ls [w1, v0] hp = (K 252 [w1] hp).bind (fun o => ab_X rom K cX1_reasonAgainst 8 1 30 ls (o.1.toList ++ [v0]) o.2) := ax_static (as := [w1]) (st := [v0]) dX1_reasonAgainst_27 kc_8_31 rfl rfl (Nat.le_of_ble_eq_true rfl)
theorem sX1_reasonAgainst_27_2 : ab_X rom K cX1_reasonAgainst 8 1 27 ls [w1, v0, v1] hp = (K 252 [w1] hp).bind (fun o => ab_X rom K cX1_reasonAgainst 8 1 30 ls (o.1.toList ++ [v0, v1]) o.2) := ax_static (as := [w1]) (st := [v0, v1]) dX1_reasonAgainst_27 kc_8_31 rfl rfl (Nat.le_of_ble_eq_true rfl)
theorem sX1_reasonAgainst_27_3 : ab_X rom K cX1_reasonAgainst 8 1 27 ls [w1, v0, v1, v2] hp = (K 252 [w1] hp).bind (fun o => ab_X rom K cX1_reasonAgainst 8 1 30 ls (o.1.toList ++ [v0, v1, v2]) o.2) := ax_static (as := [w1]) (st := [v0, v1, v2]) dX1_reasonAgainst_27 kc_8_31 rfl rfl (Nat.le_of_ble_eq_true rfl)
theorem dX1_reasonAgainst_30 : decode cX1_reasonAgainst 30 = .ok (.aload_n 0, 1) := by decide +kernel
theorem sX1_reasonAgainst_30 : ab_X rom K cX1_reasonAgainst 8 1 30 (.ref a :: ls) st hp = ab_X rom K cX1_reasonAgainst 8 1 31 (.ref a :: ls) (.ref a :: st) hp := ax_aload_n dX1_reasonAgainst_30 rfl rfl
theorem dX1_reasonAgainst_31 : decode cX1_reasonAgainst 31 = .ok (.iload_n 1, 1) := by decide +kernel
theorem sX1_reasonAgainst_31 : ab_X rom K cX1_reasonAgainst 8 1 31 (v0 :: .int x :: ls) st hp = ab_X rom K cX1_reasonAgainst 8 1 32 (v0 :: .int x :: ls) (.int x :: st) hp := ax_iload_n dX1_reasonAgainst_31 rfl rfl
theorem dX1_reasonAgainst_32 : decode cX1_reasonAgainst 32 = .ok (.invokestatic 35, 3) := by decide +kernel
theorem sX1_reasonAgainst_32_0 : ab_X rom K cX1_reasonAgainst 8 1 32 ls [w2, w1] hp = (K 253 [w1, w2] hp).bind (fun o => ab_X rom K cX1_reasonAgainst 8 1 35 ls (o.1.toList ++ []) o.2) := ax_static (as := [w1, w2]) (st := []) dX1_reasonAgainst_32 kc_8_35 rfl rfl (Nat.le_of_ble_eq_true rfl)
theorem sX1_reasonAgainst_32_1 : ab_X rom K cX1_reasonAgainst 8 1 32 ls [w2, w1, v0] hp = (K 253 [w1, w2] hp).bind (fun o => ab_X rom K cX1_reasonAgainst 8 1 35 ls (o.1.toList ++ [v0]) o.2) := ax_static (as := [w1, w2]) (st := [v0]) dX1_reasonAgainst_32 kc_8_35 rfl rfl (Nat.le_of_ble_eq_true rfl)
theorem sX1_reasonAgainst_32_2 : ab_X rom K cX1_reasonAgainst 8 1 32 ls [w2, w1, v0, v1] hp = (K 253 [w1, w2] hp).bind (fun o => ab_X rom K cX1_reasonAgainst 8 1 35 ls (o.1.toList ++ [v0, v1]) o.2) := ax_static (as := [w1, w2]) (st := [v0, v1]) dX1_reasonAgainst_32 kc_8_35 rfl rfl (Nat.le_of_ble_eq_true rfl)
theorem sX1_reasonAgainst_32_3 : ab_X rom K cX1_reasonAgainst 8 1 32 ls [w2, w1, v0, v1, v2] hp = (K 253 [w1, w2] hp).bind (fun o => ab_X rom K cX1_reasonAgainst 8 1 35 ls (o.1.toList ++ [v0, v1, v2]) o.2) := ax_static (as := [w1, w2]) (st := [v0, v1, v2]) dX1_reasonAgainst_32 kc_8_35 rfl rfl (Nat.le_of_ble_eq_true rfl)
theorem dX1_reasonAgainst_35 : decode cX1_reasonAgainst 35 = .ok (.if_icmp .le 5, 3) := by decide +kernel
theorem sX1_reasonAgainst_35 : ab_X rom K cX1_reasonAgainst 8 1 35 ls (.int y :: .int x :: st) hp = if y < x then ab_X rom K cX1_reasonAgainst 8 1 38 ls st hp else ab_X rom K cX1_reasonAgainst 8 1 40 ls st hp := ax_icmp_le dX1_reasonAgainst_35 (by decide) rfl
theorem dX1_reasonAgainst_38 : decode cX1_reasonAgainst 38 = .ok (.iconst 3, 1) := by decide +kernel
theorem sX1_reasonAgainst_38 : ab_X rom K cX1_reasonAgainst 8 1 38 ls st hp = ab_X rom K cX1_reasonAgainst 8 1 39 ls (.int 3 :: st) hp := ax_iconst dX1_reasonAgainst_38 (by decide) rfl
theorem dX1_reasonAgainst_39 : decode cX1_reasonAgainst 39 = .ok (.ireturn, 1) := by decide +kernel
theorem sX1_reasonAgainst_39 : ab_X rom K cX1_reasonAgainst 8 1 39 ls [.int x] hp = some (some (.int x), hp) := ax_iret dX1_reasonAgainst_39 rfl
theorem dX1_reasonAgainst_40 : decode cX1_reasonAgainst 40 = .ok (.iload_n 1, 1) := by decide +kernel
theorem sX1_reasonAgainst_40 : ab_X rom K cX1_reasonAgainst 8 1 40 (v0 :: .int x :: ls) st hp = ab_X rom K cX1_reasonAgainst 8 1 41 (v0 :: .int x :: ls) (.int x :: st) hp := ax_iload_n dX1_reasonAgainst_40 rfl rfl
theorem dX1_reasonAgainst_41 : decode cX1_reasonAgainst 41 = .ok (.iconst 4, 1) := by decide +kernel
theorem sX1_reasonAgainst_41 : ab_X rom K cX1_reasonAgainst 8 1 41 ls st hp = ab_X rom K cX1_reasonAgainst 8 1 42 ls (.int 4 :: st) hp := ax_iconst dX1_reasonAgainst_41 (by decide) rfl
theorem dX1_reasonAgainst_42 : decode cX1_reasonAgainst 42 = .ok (.if_icmp .eq 13, 3) := by decide +kernel
theorem sX1_reasonAgainst_42 : ab_X rom K cX1_reasonAgainst 8 1 42 ls (.int y :: .int x :: st) hp = if x = y then ab_X rom K cX1_reasonAgainst 8 1 55 ls st hp else ab_X rom K cX1_reasonAgainst 8 1 45 ls st hp := ax_icmp_eq dX1_reasonAgainst_42 (by decide) rfl
theorem dX1_reasonAgainst_45 : decode cX1_reasonAgainst 45 = .ok (.aload_n 0, 1) := by decide +kernel
theorem sX1_reasonAgainst_45 : ab_X rom K cX1_reasonAgainst 8 1 45 (.ref a :: ls) st hp = ab_X rom K cX1_reasonAgainst 8 1 46 (.ref a :: ls) (.ref a :: st) hp := ax_aload_n dX1_reasonAgainst_45 rfl rfl
theorem dX1_reasonAgainst_46 : decode cX1_reasonAgainst 46 = .ok (.iload_n 1, 1) := by decide +kernel
theorem sX1_reasonAgainst_46 : ab_X rom K cX1_reasonAgainst 8 1 46 (v0 :: .int x :: ls) st hp = ab_X rom K cX1_reasonAgainst 8 1 47 (v0 :: .int x :: ls) (.int x :: st) hp := ax_iload_n dX1_reasonAgainst_46 rfl rfl
theorem dX1_reasonAgainst_47 : decode cX1_reasonAgainst 47 = .ok (.invokestatic 39, 3) := by decide +kernel
theorem sX1_reasonAgainst_47_0 : ab_X rom K cX1_reasonAgainst 8 1 47 ls [w2, w1] hp = (K 245 [w1, w2] hp).bind (fun o => ab_X rom K cX1_reasonAgainst 8 1 50 ls (o.1.toList ++ []) o.2) := ax_static (as := [w1, w2]) (st := []) dX1_reasonAgainst_47 kc_8_39 rfl rfl (Nat.le_of_ble_eq_true rfl)
theorem sX1_reasonAgainst_47_1 : ab_X rom K cX1_reasonAgainst 8 1 47 ls [w2, w1, v0] hp = (K 245 [w1, w2] hp).bind (fun o => ab_X rom K cX1_reasonAgainst 8 1 50 ls (o.1.toList ++ [v0]) o.2) := ax_static (as := [w1, w2]) (st := [v0]) dX1_reasonAgainst_47 kc_8_39 rfl rfl (Nat.le_of_ble_eq_true rfl)
theorem sX1_reasonAgainst_47_2 : ab_X rom K cX1_reasonAgainst 8 1 47 ls [w2, w1, v0, v1] hp = (K 245 [w1, w2] hp).bind (fun o => ab_X rom K cX1_reasonAgainst 8 1 50 ls (o.1.toList ++ [v0, v1]) o.2) := ax_static (as := [w1, w2]) (st := [v0, v1]) dX1_reasonAgainst_47 kc_8_39 rfl rfl (Nat.le_of_ble_eq_true rfl)
theorem sX1_reasonAgainst_47_3 : ab_X rom K cX1_reasonAgainst 8 1 47 ls [w2, w1, v0, v1, v2] hp = (K 245 [w1, w2] hp).bind (fun o => ab_X rom K cX1_reasonAgainst 8 1 50 ls (o.1.toList ++ [v0, v1, v2]) o.2) := ax_static (as := [w1, w2]) (st := [v0, v1, v2]) dX1_reasonAgainst_47 kc_8_39 rfl rfl (Nat.le_of_ble_eq_true rfl)
theorem dX1_reasonAgainst_50 : decode cX1_reasonAgainst 50 = .ok (.ifCond .eq 5, 3) := by decide +kernel
theorem sX1_reasonAgainst_50 : ab_X rom K cX1_reasonAgainst 8 1 50 ls (.int x :: st) hp = if x = 0 then ab_X rom K cX1_reasonAgainst 8 1 55 ls st hp else ab_X rom K cX1_reasonAgainst 8 1 53 ls st hp := ax_if_eq dX1_reasonAgainst_50 (by decide) rfl
theorem dX1_reasonAgainst_53 : decode cX1_reasonAgainst 53 = .ok (.iconst 4, 1) := by decide +kernel
theorem sX1_reasonAgainst_53 : ab_X rom K cX1_reasonAgainst 8 1 53 ls st hp = ab_X rom K cX1_reasonAgainst 8 1 54 ls (.int 4 :: st) hp := ax_iconst dX1_reasonAgainst_53 (by decide) rfl
theorem dX1_reasonAgainst_54 : decode cX1_reasonAgainst 54 = .ok (.ireturn, 1) := by decide +kernel
theorem sX1_reasonAgainst_54 : ab_X rom K cX1_reasonAgainst 8 1 54 ls [.int x] hp = some (some (.int x), hp) := ax_iret dX1_reasonAgainst_54 rfl
theorem dX1_reasonAgainst_55 : decode cX1_reasonAgainst 55 = .ok (.aload_n 0, 1) := by decide +kernel
theorem sX1_reasonAgainst_55 : ab_X rom K cX1_reasonAgainst 8 1 55 (.ref a :: ls) st hp = ab_X rom K cX1_reasonAgainst 8 1 56 (.ref a :: ls) (.ref a :: st) hp := ax_aload_n dX1_reasonAgainst_55 rfl rfl
theorem dX1_reasonAgainst_56 : decode cX1_reasonAgainst 56 = .ok (.iload_n 1, 1) := by decide +kernel
theorem sX1_reasonAgainst_56 : ab_X rom K cX1_reasonAgainst 8 1 56 (v0 :: .int x :: ls) st hp = ab_X rom K cX1_reasonAgainst 8 1 57 (v0 :: .int x :: ls) (.int x :: st) hp := ax_iload_n dX1_reasonAgainst_56 rfl rfl
theorem dX1_reasonAgainst_57 : decode cX1_reasonAgainst 57 = .ok (.invokestatic 43, 3) := by decide +kernel
theorem sX1_reasonAgainst_57_0 : ab_X rom K cX1_reasonAgainst 8 1 57 ls [w2, w1] hp = (K 246 [w1, w2] hp).bind (fun o => ab_X rom K cX1_reasonAgainst 8 1 60 ls (o.1.toList ++ []) o.2) := ax_static (as := [w1, w2]) (st := []) dX1_reasonAgainst_57 kc_8_43 rfl rfl (Nat.le_of_ble_eq_true rfl)
theorem sX1_reasonAgainst_57_1 : ab_X rom K cX1_reasonAgainst 8 1 57 ls [w2, w1, v0] hp = (K 246 [w1, w2] hp).bind (fun o => ab_X rom K cX1_reasonAgainst 8 1 60 ls (o.1.toList ++ [v0]) o.2) := ax_static (as := [w1, w2]) (st := [v0]) dX1_reasonAgainst_57 kc_8_43 rfl rfl (Nat.le_of_ble_eq_true rfl)
theorem sX1_reasonAgainst_57_2 : ab_X rom K cX1_reasonAgainst 8 1 57 ls [w2, w1, v0, v1] hp = (K 246 [w1, w2] hp).bind (fun o => ab_X rom K cX1_reasonAgainst 8 1 60 ls (o.1.toList ++ [v0, v1]) o.2) := ax_static (as := [w1, w2]) (st := [v0, v1]) dX1_reasonAgainst_57 kc_8_43 rfl rfl (Nat.le_of_ble_eq_true rfl)
theorem sX1_reasonAgainst_57_3 : ab_X rom K cX1_reasonAgainst 8 1 57 ls [w2, w1, v0, v1, v2] hp = (K 246 [w1, w2] hp).bind (fun o => ab_X rom K cX1_reasonAgainst 8 1 60 ls (o.1.toList ++ [v0, v1, v2]) o.2) := ax_static (as := [w1, w2]) (st := [v0, v1, v2]) dX1_reasonAgainst_57 kc_8_43 rfl rfl (Nat.le_of_ble_eq_true rfl)
theorem dX1_reasonAgainst_60 : decode cX1_reasonAgainst 60 = .ok (.ifCond .eq 7, 3) := by decide +kernel
theorem sX1_reasonAgainst_60 : ab_X rom K cX1_reasonAgainst 8 1 60 ls (.int x :: st) hp = if x = 0 then ab_X rom K cX1_reasonAgainst 8 1 67 ls st hp else ab_X rom K cX1_reasonAgainst 8 1 63 ls st hp := ax_if_eq dX1_reasonAgainst_60 (by decide) rfl
theorem dX1_reasonAgainst_63 : decode cX1_reasonAgainst 63 = .ok (.iconst 0, 1) := by decide +kernel
theorem sX1_reasonAgainst_63 : ab_X rom K cX1_reasonAgainst 8 1 63 ls st hp = ab_X rom K cX1_reasonAgainst 8 1 64 ls (.int 0 :: st) hp := ax_iconst dX1_reasonAgainst_63 (by decide) rfl
theorem dX1_reasonAgainst_64 : decode cX1_reasonAgainst 64 = .ok (.goto 4, 3) := by decide +kernel
theorem sX1_reasonAgainst_64 : ab_X rom K cX1_reasonAgainst 8 1 64 ls st hp = ab_X rom K cX1_reasonAgainst 8 1 68 ls st hp := ax_goto dX1_reasonAgainst_64 (by decide)
theorem dX1_reasonAgainst_67 : decode cX1_reasonAgainst 67 = .ok (.iconst 5, 1) := by decide +kernel
theorem sX1_reasonAgainst_67 : ab_X rom K cX1_reasonAgainst 8 1 67 ls st hp = ab_X rom K cX1_reasonAgainst 8 1 68 ls (.int 5 :: st) hp := ax_iconst dX1_reasonAgainst_67 (by decide) rfl
theorem dX1_reasonAgainst_68 : decode cX1_reasonAgainst 68 = .ok (.ireturn, 1) := by decide +kernel
theorem sX1_reasonAgainst_68 : ab_X rom K cX1_reasonAgainst 8 1 68 ls [.int x] hp = some (some (.int x), hp) := ax_iret dX1_reasonAgainst_68 rfl
theorem tX1_repeats : ab_mT[252]? = some (yX1_repeats, cX1_repeats, 3, 1, 8) := by decide +kernel
theorem mX1_repeats {d : Nat} {r0 : Nat} : ab_M rom (d + 1) 252 [.ref r0] hp = ab_X rom (ab_M rom d) cX1_repeats 8 1 0 [.ref r0, .null, .null] [] hp := ab_M_eq tX1_repeats (Nat.le_of_ble_eq_true rfl)
theorem dX1_repeats_0 : decode cX1_repeats 0 = .ok (.iconst 0, 1) := by decide +kernel
theorem sX1_repeats_0 : ab_X rom K cX1_repeats 8 1 0 ls st hp = ab_X rom K cX1_repeats 8 1 1 ls (.int 0 :: st) hp := ax_iconst dX1_repeats_0 (by decide) rfl
theorem dX1_repeats_1 : decode cX1_repeats 1 = .ok (.istore_n 1, 1) := by decide +kernel
theorem sX1_repeats_1i : ab_X rom K cX1_repeats 8 1 1 (.int y :: v1 :: ls) (.int x :: st) hp = ab_X rom K cX1_repeats 8 1 2 (.int y :: .int x :: ls) st hp := ax_istore_n dX1_repeats_1 (ax_lt (v := v1) rfl) (ab_nl_c1 (j := 0) (v := .int y) rfl (ab_c1_int _)) rfl rfl
theorem sX1_repeats_1r : ab_X rom K cX1_repeats 8 1 1 (.ref a2 :: v1 :: ls) (.int x :: st) hp = ab_X rom K cX1_repeats 8 1 2 (.ref a2 :: .int x :: ls) st hp := ax_istore_n dX1_repeats_1 (ax_lt (v := v1) rfl) (ab_nl_c1 (j := 0) (v := .ref a2) rfl (ab_c1_ref _)) rfl rfl
theorem sX1_repeats_1n : ab_X rom K cX1_repeats 8 1 1 (.null :: v1 :: ls) (.int x :: st) hp = ab_X rom K cX1_repeats 8 1 2 (.null :: .int x :: ls) st hp := ax_istore_n dX1_repeats_1 (ax_lt (v := v1) rfl) (ab_nl_c1 (j := 0) (v := .null) rfl ab_c1_null) rfl rfl
theorem dX1_repeats_2 : decode cX1_repeats 2 = .ok (.iconst 0, 1) := by decide +kernel
theorem sX1_repeats_2 : ab_X rom K cX1_repeats 8 1 2 ls st hp = ab_X rom K cX1_repeats 8 1 3 ls (.int 0 :: st) hp := ax_iconst dX1_repeats_2 (by decide) rfl
theorem dX1_repeats_3 : decode cX1_repeats 3 = .ok (.istore_n 2, 1) := by decide +kernel
theorem sX1_repeats_3i : ab_X rom K cX1_repeats 8 1 3 (v0 :: .int y :: v2 :: ls) (.int x :: st) hp = ab_X rom K cX1_repeats 8 1 4 (v0 :: .int y :: .int x :: ls) st hp := ax_istore_n dX1_repeats_3 (ax_lt (v := v2) rfl) (ab_nl_c1 (j := 1) (v := .int y) rfl (ab_c1_int _)) rfl rfl
theorem sX1_repeats_3r : ab_X rom K cX1_repeats 8 1 3 (v0 :: .ref a2 :: v2 :: ls) (.int x :: st) hp = ab_X rom K cX1_repeats 8 1 4 (v0 :: .ref a2 :: .int x :: ls) st hp := ax_istore_n dX1_repeats_3 (ax_lt (v := v2) rfl) (ab_nl_c1 (j := 1) (v := .ref a2) rfl (ab_c1_ref _)) rfl rfl
theorem sX1_repeats_3n : ab_X rom K cX1_repeats 8 1 3 (v0 :: .null :: v2 :: ls) (.int x :: st) hp = ab_X rom K cX1_repeats 8 1 4 (v0 :: .null :: .int x :: ls) st hp := ax_istore_n dX1_repeats_3 (ax_lt (v := v2) rfl) (ab_nl_c1 (j := 1) (v := .null) rfl ab_c1_null) rfl rfl
theorem dX1_repeats_4 : decode cX1_repeats 4 = .ok (.iload_n 2, 1) := by decide +kernel
theorem sX1_repeats_4 : ab_X rom K cX1_repeats 8 1 4 (v0 :: v1 :: .int x :: ls) st hp = ab_X rom K cX1_repeats 8 1 5 (v0 :: v1 :: .int x :: ls) (.int x :: st) hp := ax_iload_n dX1_repeats_4 rfl rfl
theorem dX1_repeats_5 : decode cX1_repeats 5 = .ok (.aload_n 0, 1) := by decide +kernel
theorem sX1_repeats_5 : ab_X rom K cX1_repeats 8 1 5 (.ref a :: ls) st hp = ab_X rom K cX1_repeats 8 1 6 (.ref a :: ls) (.ref a :: st) hp := ax_aload_n dX1_repeats_5 rfl rfl
theorem dX1_repeats_6 : decode cX1_repeats 6 = .ok (.getfield 46, 3) := by decide +kernel
theorem sX1_repeats_6 : ab_X rom K cX1_repeats 8 1 6 ls (.ref a :: st) hp = (ab_fld hp a 1 0).bind (fun v => ab_X rom K cX1_repeats 8 1 9 ls (v :: st) hp) := ax_getfield dX1_repeats_6 kf_8_46 rfl
theorem dX1_repeats_9 : decode cX1_repeats 9 = .ok (.if_icmp .ge 26, 3) := by decide +kernel
theorem sX1_repeats_9 : ab_X rom K cX1_repeats 8 1 9 ls (.int y :: .int x :: st) hp = if x < y then ab_X rom K cX1_repeats 8 1 12 ls st hp else ab_X rom K cX1_repeats 8 1 35 ls st hp := ax_icmp_ge dX1_repeats_9 (by decide) rfl
theorem dX1_repeats_12 : decode cX1_repeats 12 = .ok (.aload_n 0, 1) := by decide +kernel
theorem sX1_repeats_12 : ab_X rom K cX1_repeats 8 1 12 (.ref a :: ls) st hp = ab_X rom K cX1_repeats 8 1 13 (.ref a :: ls) (.ref a :: st) hp := ax_aload_n dX1_repeats_12 rfl rfl
theorem dX1_repeats_13 : decode cX1_repeats 13 = .ok (.aload_n 0, 1) := by decide +kernel
theorem sX1_repeats_13 : ab_X rom K cX1_repeats 8 1 13 (.ref a :: ls) st hp = ab_X rom K cX1_repeats 8 1 14 (.ref a :: ls) (.ref a :: st) hp := ax_aload_n dX1_repeats_13 rfl rfl
theorem dX1_repeats_14 : decode cX1_repeats 14 = .ok (.getfield 49, 3) := by decide +kernel
theorem sX1_repeats_14 : ab_X rom K cX1_repeats 8 1 14 ls (.ref a :: st) hp = (ab_fld hp a 1 4).bind (fun v => ab_X rom K cX1_repeats 8 1 17 ls (v :: st) hp) := ax_getfield dX1_repeats_14 kf_8_49 rfl
theorem dX1_repeats_17 : decode cX1_repeats 17 = .ok (.iload_n 2, 1) := by decide +kernel
theorem sX1_repeats_17 : ab_X rom K cX1_repeats 8 1 17 (v0 :: v1 :: .int x :: ls) st hp = ab_X rom K cX1_repeats 8 1 18 (v0 :: v1 :: .int x :: ls) (.int x :: st) hp := ax_iload_n dX1_repeats_17 rfl rfl
theorem dX1_repeats_18 : decode cX1_repeats 18 = .ok (.iaload, 1) := by decide +kernel
theorem sX1_repeats_18 : ab_X rom K cX1_repeats 8 1 18 ls (.int x :: .ref a :: st) hp = (ab_ard rom 0 hp a x).bind (fun v => ab_X rom K cX1_repeats 8 1 19 ls (.int v :: st) hp) := ax_iaload dX1_repeats_18 rfl
theorem dX1_repeats_19 : decode cX1_repeats 19 = .ok (.invokevirtual 53, 3) := by decide +kernel
theorem sX1_repeats_19_0 : ab_X rom K cX1_repeats 8 1 19 ls [w1, .ref a] hp = if ab_iso hp a 1 = true then (K 30 (.ref a :: [w1]) hp).bind (fun o => ab_X rom K cX1_repeats 8 1 22 ls (o.1.toList ++ []) o.2) else none := ay_virtual (as := [w1]) (st := []) dX1_repeats_19 kc_8_53 rfl rfl (Nat.le_of_ble_eq_true rfl)
theorem sX1_repeats_19_1 : ab_X rom K cX1_repeats 8 1 19 ls [w1, .ref a, v0] hp = if ab_iso hp a 1 = true then (K 30 (.ref a :: [w1]) hp).bind (fun o => ab_X rom K cX1_repeats 8 1 22 ls (o.1.toList ++ [v0]) o.2) else none := ay_virtual (as := [w1]) (st := [v0]) dX1_repeats_19 kc_8_53 rfl rfl (Nat.le_of_ble_eq_true rfl)
theorem sX1_repeats_19_2 : ab_X rom K cX1_repeats 8 1 19 ls [w1, .ref a, v0, v1] hp = if ab_iso hp a 1 = true then (K 30 (.ref a :: [w1]) hp).bind (fun o => ab_X rom K cX1_repeats 8 1 22 ls (o.1.toList ++ [v0, v1]) o.2) else none := ay_virtual (as := [w1]) (st := [v0, v1]) dX1_repeats_19 kc_8_53 rfl rfl (Nat.le_of_ble_eq_true rfl)
theorem sX1_repeats_19_3 : ab_X rom K cX1_repeats 8 1 19 ls [w1, .ref a, v0, v1, v2] hp = if ab_iso hp a 1 = true then (K 30 (.ref a :: [w1]) hp).bind (fun o => ab_X rom K cX1_repeats 8 1 22 ls (o.1.toList ++ [v0, v1, v2]) o.2) else none := ay_virtual (as := [w1]) (st := [v0, v1, v2]) dX1_repeats_19 kc_8_53 rfl rfl (Nat.le_of_ble_eq_true rfl)
theorem dX1_repeats_22 : decode cX1_repeats 22 = .ok (.iload_n 2, 1) := by decide +kernel
theorem sX1_repeats_22 : ab_X rom K cX1_repeats 8 1 22 (v0 :: v1 :: .int x :: ls) st hp = ab_X rom K cX1_repeats 8 1 23 (v0 :: v1 :: .int x :: ls) (.int x :: st) hp := ax_iload_n dX1_repeats_22 rfl rfl
theorem dX1_repeats_23 : decode cX1_repeats 23 = .ok (.if_icmp .ge 6, 3) := by decide +kernel
theorem sX1_repeats_23 : ab_X rom K cX1_repeats 8 1 23 ls (.int y :: .int x :: st) hp = if x < y then ab_X rom K cX1_repeats 8 1 26 ls st hp else ab_X rom K cX1_repeats 8 1 29 ls st hp := ax_icmp_ge dX1_repeats_23 (by decide) rfl
theorem dX1_repeats_26 : decode cX1_repeats 26 = .ok (.iinc 1 1, 3) := by decide +kernel
theorem sX1_repeats_26i : ab_X rom K cX1_repeats 8 1 26 (.int y :: .int x :: ls) st hp = ab_X rom K cX1_repeats 8 1 29 (.int y :: .int (x + 1) :: ls) st hp := ax_iinc dX1_repeats_26 rfl (ab_nl_c1 (j := 0) (v := .int y) rfl (ab_c1_int _)) (by decide) rfl rfl
theorem sX1_repeats_26r : ab_X rom K cX1_repeats 8 1 26 (.ref a2 :: .int x :: ls) st hp = ab_X rom K cX1_repeats 8 1 29 (.ref a2 :: .int (x + 1) :: ls) st hp := ax_iinc dX1_repeats_26 rfl (ab_nl_c1 (j := 0) (v := .ref a2) rfl (ab_c1_ref _)) (by decide) rfl rfl
theorem sX1_repeats_26n : ab_X rom K cX1_repeats 8 1 26 (.null :: .int x :: ls) st hp = ab_X rom K cX1_repeats 8 1 29 (.null :: .int (x + 1) :: ls) st hp := ax_iinc dX1_repeats_26 rfl (ab_nl_c1 (j := 0) (v := .null) rfl ab_c1_null) (by decide) rfl rfl
theorem dX1_repeats_29 : decode cX1_repeats 29 = .ok (.iinc 2 1, 3) := by decide +kernel
theorem sX1_repeats_29i : ab_X rom K cX1_repeats 8 1 29 (v0 :: .int y :: .int x :: ls) st hp = ab_X rom K cX1_repeats 8 1 32 (v0 :: .int y :: .int (x + 1) :: ls) st hp := ax_iinc dX1_repeats_29 rfl (ab_nl_c1 (j := 1) (v := .int y) rfl (ab_c1_int _)) (by decide) rfl rfl
theorem sX1_repeats_29r : ab_X rom K cX1_repeats 8 1 29 (v0 :: .ref a2 :: .int x :: ls) st hp = ab_X rom K cX1_repeats 8 1 32 (v0 :: .ref a2 :: .int (x + 1) :: ls) st hp := ax_iinc dX1_repeats_29 rfl (ab_nl_c1 (j := 1) (v := .ref a2) rfl (ab_c1_ref _)) (by decide) rfl rfl
theorem sX1_repeats_29n : ab_X rom K cX1_repeats 8 1 29 (v0 :: .null :: .int x :: ls) st hp = ab_X rom K cX1_repeats 8 1 32 (v0 :: .null :: .int (x + 1) :: ls) st hp := ax_iinc dX1_repeats_29 rfl (ab_nl_c1 (j := 1) (v := .null) rfl ab_c1_null) (by decide) rfl rfl
theorem dX1_repeats_32 : decode cX1_repeats 32 = .ok (.goto (-28), 3) := by decide +kernel
theorem sX1_repeats_32 : ab_X rom K cX1_repeats 8 1 32 ls st hp = ab_X rom K cX1_repeats 8 1 4 ls st hp := ax_goto dX1_repeats_32 (by decide)
theorem dX1_repeats_35 : decode cX1_repeats 35 = .ok (.iload_n 1, 1) := by decide +kernel
theorem sX1_repeats_35 : ab_X rom K cX1_repeats 8 1 35 (v0 :: .int x :: ls) st hp = ab_X rom K cX1_repeats 8 1 36 (v0 :: .int x :: ls) (.int x :: st) hp := ax_iload_n dX1_repeats_35 rfl rfl
theorem dX1_repeats_36 : decode cX1_repeats 36 = .ok (.ireturn, 1) := by decide +kernel
theorem sX1_repeats_36 : ab_X rom K cX1_repeats 8 1 36 ls [.int x] hp = some (some (.int x), hp) := ax_iret dX1_repeats_36 rfl
theorem tX1_repeatsAllowed : ab_mT[253]? = some (yX1_repeatsAllowed, cX1_repeatsAllowed, 2, 1, 8) := by decide +kernel
theorem mX1_repeatsAllowed {d : Nat} {r0 : Nat} {x1 : Int32} : ab_M rom (d + 1) 253 [.ref r0, .int x1] hp = ab_X rom (ab_M rom d) cX1_repeatsAllowed 8 1 0 [.ref r0, .int x1] [] hp := ab_M_eq tX1_repeatsAllowed (Nat.le_of_ble_eq_true rfl)
theorem dX1_repeatsAllowed_0 : decode cX1_repeatsAllowed 0 = .ok (.iload_n 1, 1) := by decide +kernel
theorem sX1_repeatsAllowed_0 : ab_X rom K cX1_repeatsAllowed 8 1 0 (v0 :: .int x :: ls) st hp = ab_X rom K cX1_repeatsAllowed 8 1 1 (v0 :: .int x :: ls) (.int x :: st) hp := ax_iload_n dX1_repeatsAllowed_0 rfl rfl
theorem dX1_repeatsAllowed_1 : decode cX1_repeatsAllowed 1 = .ok (.iconst 4, 1) := by decide +kernel
theorem sX1_repeatsAllowed_1 : ab_X rom K cX1_repeatsAllowed 8 1 1 ls st hp = ab_X rom K cX1_repeatsAllowed 8 1 2 ls (.int 4 :: st) hp := ax_iconst dX1_repeatsAllowed_1 (by decide) rfl
theorem dX1_repeatsAllowed_2 : decode cX1_repeatsAllowed 2 = .ok (.if_icmp .ne 6, 3) := by decide +kernel
theorem sX1_repeatsAllowed_2 : ab_X rom K cX1_repeatsAllowed 8 1 2 ls (.int y :: .int x :: st) hp = if x = y then ab_X rom K cX1_repeatsAllowed 8 1 5 ls st hp else ab_X rom K cX1_repeatsAllowed 8 1 8 ls st hp := ax_icmp_ne dX1_repeatsAllowed_2 (by decide) rfl
theorem dX1_repeatsAllowed_5 : decode cX1_repeatsAllowed 5 = .ok (.bipush 7, 2) := by decide +kernel
theorem sX1_repeatsAllowed_5 : ab_X rom K cX1_repeatsAllowed 8 1 5 ls st hp = ab_X rom K cX1_repeatsAllowed 8 1 7 ls (.int 7 :: st) hp := ax_bipush dX1_repeatsAllowed_5 (by decide) rfl
theorem dX1_repeatsAllowed_7 : decode cX1_repeatsAllowed 7 = .ok (.ireturn, 1) := by decide +kernel
theorem sX1_repeatsAllowed_7 : ab_X rom K cX1_repeatsAllowed 8 1 7 ls [.int x] hp = some (some (.int x), hp) := ax_iret dX1_repeatsAllowed_7 rfl
theorem dX1_repeatsAllowed_8 : decode cX1_repeatsAllowed 8 = .ok (.iload_n 1, 1) := by decide +kernel
theorem sX1_repeatsAllowed_8 : ab_X rom K cX1_repeatsAllowed 8 1 8 (v0 :: .int x :: ls) st hp = ab_X rom K cX1_repeatsAllowed 8 1 9 (v0 :: .int x :: ls) (.int x :: st) hp := ax_iload_n dX1_repeatsAllowed_8 rfl rfl
theorem dX1_repeatsAllowed_9 : decode cX1_repeatsAllowed 9 = .ok (.iconst 2, 1) := by decide +kernel
theorem sX1_repeatsAllowed_9 : ab_X rom K cX1_repeatsAllowed 8 1 9 ls st hp = ab_X rom K cX1_repeatsAllowed 8 1 10 ls (.int 2 :: st) hp := ax_iconst dX1_repeatsAllowed_9 (by decide) rfl
theorem dX1_repeatsAllowed_10 : decode cX1_repeatsAllowed 10 = .ok (.if_icmp .ne 14, 3) := by decide +kernel
theorem sX1_repeatsAllowed_10 : ab_X rom K cX1_repeatsAllowed 8 1 10 ls (.int y :: .int x :: st) hp = if x = y then ab_X rom K cX1_repeatsAllowed 8 1 13 ls st hp else ab_X rom K cX1_repeatsAllowed 8 1 24 ls st hp := ax_icmp_ne dX1_repeatsAllowed_10 (by decide) rfl
theorem dX1_repeatsAllowed_13 : decode cX1_repeatsAllowed 13 = .ok (.aload_n 0, 1) := by decide +kernel
theorem sX1_repeatsAllowed_13 : ab_X rom K cX1_repeatsAllowed 8 1 13 (.ref a :: ls) st hp = ab_X rom K cX1_repeatsAllowed 8 1 14 (.ref a :: ls) (.ref a :: st) hp := ax_aload_n dX1_repeatsAllowed_13 rfl rfl
theorem dX1_repeatsAllowed_14 : decode cX1_repeatsAllowed 14 = .ok (.invokevirtual 9, 3) := by decide +kernel
theorem sX1_repeatsAllowed_14_0 : ab_X rom K cX1_repeatsAllowed 8 1 14 ls [.ref a] hp = if ab_iso hp a 1 = true then (K 23 (.ref a :: []) hp).bind (fun o => ab_X rom K cX1_repeatsAllowed 8 1 17 ls (o.1.toList ++ []) o.2) else none := ay_virtual (as := []) (st := []) dX1_repeatsAllowed_14 kc_8_9 rfl rfl (Nat.le_of_ble_eq_true rfl)
theorem sX1_repeatsAllowed_14_1 : ab_X rom K cX1_repeatsAllowed 8 1 14 ls [.ref a, v0] hp = if ab_iso hp a 1 = true then (K 23 (.ref a :: []) hp).bind (fun o => ab_X rom K cX1_repeatsAllowed 8 1 17 ls (o.1.toList ++ [v0]) o.2) else none := ay_virtual (as := []) (st := [v0]) dX1_repeatsAllowed_14 kc_8_9 rfl rfl (Nat.le_of_ble_eq_true rfl)
theorem sX1_repeatsAllowed_14_2 : ab_X rom K cX1_repeatsAllowed 8 1 14 ls [.ref a, v0, v1] hp = if ab_iso hp a 1 = true then (K 23 (.ref a :: []) hp).bind (fun o => ab_X rom K cX1_repeatsAllowed 8 1 17 ls (o.1.toList ++ [v0, v1]) o.2) else none := ay_virtual (as := []) (st := [v0, v1]) dX1_repeatsAllowed_14 kc_8_9 rfl rfl (Nat.le_of_ble_eq_true rfl)
theorem sX1_repeatsAllowed_14_3 : ab_X rom K cX1_repeatsAllowed 8 1 14 ls [.ref a, v0, v1, v2] hp = if ab_iso hp a 1 = true then (K 23 (.ref a :: []) hp).bind (fun o => ab_X rom K cX1_repeatsAllowed 8 1 17 ls (o.1.toList ++ [v0, v1, v2]) o.2) else none := ay_virtual (as := []) (st := [v0, v1, v2]) dX1_repeatsAllowed_14 kc_8_9 rfl rfl (Nat.le_of_ble_eq_true rfl)
theorem dX1_repeatsAllowed_17 : decode cX1_repeatsAllowed 17 = .ok (.ifCond .eq 7, 3) := by decide +kernel
theorem sX1_repeatsAllowed_17 : ab_X rom K cX1_repeatsAllowed 8 1 17 ls (.int x :: st) hp = if x = 0 then ab_X rom K cX1_repeatsAllowed 8 1 24 ls st hp else ab_X rom K cX1_repeatsAllowed 8 1 20 ls st hp := ax_if_eq dX1_repeatsAllowed_17 (by decide) rfl
theorem dX1_repeatsAllowed_20 : decode cX1_repeatsAllowed 20 = .ok (.iconst 1, 1) := by decide +kernel
theorem sX1_repeatsAllowed_20 : ab_X rom K cX1_repeatsAllowed 8 1 20 ls st hp = ab_X rom K cX1_repeatsAllowed 8 1 21 ls (.int 1 :: st) hp := ax_iconst dX1_repeatsAllowed_20 (by decide) rfl
theorem dX1_repeatsAllowed_21 : decode cX1_repeatsAllowed 21 = .ok (.goto 4, 3) := by decide +kernel
theorem sX1_repeatsAllowed_21 : ab_X rom K cX1_repeatsAllowed 8 1 21 ls st hp = ab_X rom K cX1_repeatsAllowed 8 1 25 ls st hp := ax_goto dX1_repeatsAllowed_21 (by decide)
theorem dX1_repeatsAllowed_24 : decode cX1_repeatsAllowed 24 = .ok (.iconst 0, 1) := by decide +kernel
theorem sX1_repeatsAllowed_24 : ab_X rom K cX1_repeatsAllowed 8 1 24 ls st hp = ab_X rom K cX1_repeatsAllowed 8 1 25 ls (.int 0 :: st) hp := ax_iconst dX1_repeatsAllowed_24 (by decide) rfl
theorem dX1_repeatsAllowed_25 : decode cX1_repeatsAllowed 25 = .ok (.ireturn, 1) := by decide +kernel
theorem sX1_repeatsAllowed_25 : ab_X rom K cX1_repeatsAllowed 8 1 25 ls [.int x] hp = some (some (.int x), hp) := ax_iret dX1_repeatsAllowed_25 rfl
theorem tX1_turningKeepsLabels : ab_mT[254]? = some (yX1_turningKeepsLabels, cX1_turningKeepsLabels, 4, 2, 8) := by decide +kernel
theorem mX1_turningKeepsLabels {d : Nat} {r0 : Nat} {x1 : Int32} : ab_M rom (d + 1) 254 [.ref r0, .int x1] hp = ab_X rom (ab_M rom d) cX1_turningKeepsLabels 8 2 0 [.ref r0, .int x1, .null, .null] [] hp := ab_M_eq tX1_turningKeepsLabels (Nat.le_of_ble_eq_true rfl)
theorem dX1_turningKeepsLabels_0 : decode cX1_turningKeepsLabels 0 = .ok (.iload_n 1, 1) := by decide +kernel
theorem sX1_turningKeepsLabels_0 : ab_X rom K cX1_turningKeepsLabels 8 2 0 (v0 :: .int x :: ls) st hp = ab_X rom K cX1_turningKeepsLabels 8 2 1 (v0 :: .int x :: ls) (.int x :: st) hp := ax_iload_n dX1_turningKeepsLabels_0 rfl rfl
theorem dX1_turningKeepsLabels_1 : decode cX1_turningKeepsLabels 1 = .ok (.aload_n 0, 1) := by decide +kernel
theorem sX1_turningKeepsLabels_1 : ab_X rom K cX1_turningKeepsLabels 8 2 1 (.ref a :: ls) st hp = ab_X rom K cX1_turningKeepsLabels 8 2 2 (.ref a :: ls) (.ref a :: st) hp := ax_aload_n dX1_turningKeepsLabels_1 rfl rfl
theorem dX1_turningKeepsLabels_2 : decode cX1_turningKeepsLabels 2 = .ok (.getfield 22, 3) := by decide +kernel
theorem sX1_turningKeepsLabels_2 : ab_X rom K cX1_turningKeepsLabels 8 2 2 ls (.ref a :: st) hp = (ab_fld hp a 1 1).bind (fun v => ab_X rom K cX1_turningKeepsLabels 8 2 5 ls (v :: st) hp) := ax_getfield dX1_turningKeepsLabels_2 kf_8_22 rfl
theorem dX1_turningKeepsLabels_5 : decode cX1_turningKeepsLabels 5 = .ok (.invokestatic 26, 3) := by decide +kernel
theorem sX1_turningKeepsLabels_5_0 : ab_X rom K cX1_turningKeepsLabels 8 2 5 ls [w2, w1] hp = (K 244 [w1, w2] hp).bind (fun o => ab_X rom K cX1_turningKeepsLabels 8 2 8 ls (o.1.toList ++ []) o.2) := ax_static (as := [w1, w2]) (st := []) dX1_turningKeepsLabels_5 kc_8_26 rfl rfl (Nat.le_of_ble_eq_true rfl)
theorem sX1_turningKeepsLabels_5_1 : ab_X rom K cX1_turningKeepsLabels 8 2 5 ls [w2, w1, v0] hp = (K 244 [w1, w2] hp).bind (fun o => ab_X rom K cX1_turningKeepsLabels 8 2 8 ls (o.1.toList ++ [v0]) o.2) := ax_static (as := [w1, w2]) (st := [v0]) dX1_turningKeepsLabels_5 kc_8_26 rfl rfl (Nat.le_of_ble_eq_true rfl)
theorem sX1_turningKeepsLabels_5_2 : ab_X rom K cX1_turningKeepsLabels 8 2 5 ls [w2, w1, v0, v1] hp = (K 244 [w1, w2] hp).bind (fun o => ab_X rom K cX1_turningKeepsLabels 8 2 8 ls (o.1.toList ++ [v0, v1]) o.2) := ax_static (as := [w1, w2]) (st := [v0, v1]) dX1_turningKeepsLabels_5 kc_8_26 rfl rfl (Nat.le_of_ble_eq_true rfl)
theorem sX1_turningKeepsLabels_5_3 : ab_X rom K cX1_turningKeepsLabels 8 2 5 ls [w2, w1, v0, v1, v2] hp = (K 244 [w1, w2] hp).bind (fun o => ab_X rom K cX1_turningKeepsLabels 8 2 8 ls (o.1.toList ++ [v0, v1, v2]) o.2) := ax_static (as := [w1, w2]) (st := [v0, v1, v2]) dX1_turningKeepsLabels_5 kc_8_26 rfl rfl (Nat.le_of_ble_eq_true rfl)
theorem dX1_turningKeepsLabels_8 : decode cX1_turningKeepsLabels 8 = .ok (.istore_n 2, 1) := by decide +kernel
theorem sX1_turningKeepsLabels_8i : ab_X rom K cX1_turningKeepsLabels 8 2 8 (v0 :: .int y :: v2 :: ls) (.int x :: st) hp = ab_X rom K cX1_turningKeepsLabels 8 2 9 (v0 :: .int y :: .int x :: ls) st hp := ax_istore_n dX1_turningKeepsLabels_8 (ax_lt (v := v2) rfl) (ab_nl_c1 (j := 1) (v := .int y) rfl (ab_c1_int _)) rfl rfl
theorem sX1_turningKeepsLabels_8r : ab_X rom K cX1_turningKeepsLabels 8 2 8 (v0 :: .ref a2 :: v2 :: ls) (.int x :: st) hp = ab_X rom K cX1_turningKeepsLabels 8 2 9 (v0 :: .ref a2 :: .int x :: ls) st hp := ax_istore_n dX1_turningKeepsLabels_8 (ax_lt (v := v2) rfl) (ab_nl_c1 (j := 1) (v := .ref a2) rfl (ab_c1_ref _)) rfl rfl
theorem sX1_turningKeepsLabels_8n : ab_X rom K cX1_turningKeepsLabels 8 2 8 (v0 :: .null :: v2 :: ls) (.int x :: st) hp = ab_X rom K cX1_turningKeepsLabels 8 2 9 (v0 :: .null :: .int x :: ls) st hp := ax_istore_n dX1_turningKeepsLabels_8 (ax_lt (v := v2) rfl) (ab_nl_c1 (j := 1) (v := .null) rfl ab_c1_null) rfl rfl
theorem dX1_turningKeepsLabels_9 : decode cX1_turningKeepsLabels 9 = .ok (.iconst 0, 1) := by decide +kernel
theorem sX1_turningKeepsLabels_9 : ab_X rom K cX1_turningKeepsLabels 8 2 9 ls st hp = ab_X rom K cX1_turningKeepsLabels 8 2 10 ls (.int 0 :: st) hp := ax_iconst dX1_turningKeepsLabels_9 (by decide) rfl
theorem dX1_turningKeepsLabels_10 : decode cX1_turningKeepsLabels 10 = .ok (.istore_n 3, 1) := by decide +kernel
theorem sX1_turningKeepsLabels_10i : ab_X rom K cX1_turningKeepsLabels 8 2 10 (v0 :: v1 :: .int y :: v3 :: ls) (.int x :: st) hp = ab_X rom K cX1_turningKeepsLabels 8 2 11 (v0 :: v1 :: .int y :: .int x :: ls) st hp := ax_istore_n dX1_turningKeepsLabels_10 (ax_lt (v := v3) rfl) (ab_nl_c1 (j := 2) (v := .int y) rfl (ab_c1_int _)) rfl rfl
theorem sX1_turningKeepsLabels_10r : ab_X rom K cX1_turningKeepsLabels 8 2 10 (v0 :: v1 :: .ref a2 :: v3 :: ls) (.int x :: st) hp = ab_X rom K cX1_turningKeepsLabels 8 2 11 (v0 :: v1 :: .ref a2 :: .int x :: ls) st hp := ax_istore_n dX1_turningKeepsLabels_10 (ax_lt (v := v3) rfl) (ab_nl_c1 (j := 2) (v := .ref a2) rfl (ab_c1_ref _)) rfl rfl
theorem sX1_turningKeepsLabels_10n : ab_X rom K cX1_turningKeepsLabels 8 2 10 (v0 :: v1 :: .null :: v3 :: ls) (.int x :: st) hp = ab_X rom K cX1_turningKeepsLabels 8 2 11 (v0 :: v1 :: .null :: .int x :: ls) st hp := ax_istore_n dX1_turningKeepsLabels_10 (ax_lt (v := v3) rfl) (ab_nl_c1 (j := 2) (v := .null) rfl ab_c1_null) rfl rfl
theorem dX1_turningKeepsLabels_11 : decode cX1_turningKeepsLabels 11 = .ok (.iload_n 3, 1) := by decide +kernel
theorem sX1_turningKeepsLabels_11 : ab_X rom K cX1_turningKeepsLabels 8 2 11 (v0 :: v1 :: v2 :: .int x :: ls) st hp = ab_X rom K cX1_turningKeepsLabels 8 2 12 (v0 :: v1 :: v2 :: .int x :: ls) (.int x :: st) hp := ax_iload_n dX1_turningKeepsLabels_11 rfl rfl
theorem dX1_turningKeepsLabels_12 : decode cX1_turningKeepsLabels 12 = .ok (.aload_n 0, 1) := by decide +kernel
theorem sX1_turningKeepsLabels_12 : ab_X rom K cX1_turningKeepsLabels 8 2 12 (.ref a :: ls) st hp = ab_X rom K cX1_turningKeepsLabels 8 2 13 (.ref a :: ls) (.ref a :: st) hp := ax_aload_n dX1_turningKeepsLabels_12 rfl rfl
theorem dX1_turningKeepsLabels_13 : decode cX1_turningKeepsLabels 13 = .ok (.getfield 46, 3) := by decide +kernel
theorem sX1_turningKeepsLabels_13 : ab_X rom K cX1_turningKeepsLabels 8 2 13 ls (.ref a :: st) hp = (ab_fld hp a 1 0).bind (fun v => ab_X rom K cX1_turningKeepsLabels 8 2 16 ls (v :: st) hp) := ax_getfield dX1_turningKeepsLabels_13 kf_8_46 rfl
theorem dX1_turningKeepsLabels_16 : decode cX1_turningKeepsLabels 16 = .ok (.if_icmp .ge 33, 3) := by decide +kernel
theorem sX1_turningKeepsLabels_16 : ab_X rom K cX1_turningKeepsLabels 8 2 16 ls (.int y :: .int x :: st) hp = if x < y then ab_X rom K cX1_turningKeepsLabels 8 2 19 ls st hp else ab_X rom K cX1_turningKeepsLabels 8 2 49 ls st hp := ax_icmp_ge dX1_turningKeepsLabels_16 (by decide) rfl
theorem dX1_turningKeepsLabels_19 : decode cX1_turningKeepsLabels 19 = .ok (.aload_n 0, 1) := by decide +kernel
theorem sX1_turningKeepsLabels_19 : ab_X rom K cX1_turningKeepsLabels 8 2 19 (.ref a :: ls) st hp = ab_X rom K cX1_turningKeepsLabels 8 2 20 (.ref a :: ls) (.ref a :: st) hp := ax_aload_n dX1_turningKeepsLabels_19 rfl rfl
theorem dX1_turningKeepsLabels_20 : decode cX1_turningKeepsLabels 20 = .ok (.getfield 49, 3) := by decide +kernel
theorem sX1_turningKeepsLabels_20 : ab_X rom K cX1_turningKeepsLabels 8 2 20 ls (.ref a :: st) hp = (ab_fld hp a 1 4).bind (fun v => ab_X rom K cX1_turningKeepsLabels 8 2 23 ls (v :: st) hp) := ax_getfield dX1_turningKeepsLabels_20 kf_8_49 rfl
theorem dX1_turningKeepsLabels_23 : decode cX1_turningKeepsLabels 23 = .ok (.iload_n 3, 1) := by decide +kernel
theorem sX1_turningKeepsLabels_23 : ab_X rom K cX1_turningKeepsLabels 8 2 23 (v0 :: v1 :: v2 :: .int x :: ls) st hp = ab_X rom K cX1_turningKeepsLabels 8 2 24 (v0 :: v1 :: v2 :: .int x :: ls) (.int x :: st) hp := ax_iload_n dX1_turningKeepsLabels_23 rfl rfl
theorem dX1_turningKeepsLabels_24 : decode cX1_turningKeepsLabels 24 = .ok (.iaload, 1) := by decide +kernel
theorem sX1_turningKeepsLabels_24 : ab_X rom K cX1_turningKeepsLabels 8 2 24 ls (.int x :: .ref a :: st) hp = (ab_ard rom 0 hp a x).bind (fun v => ab_X rom K cX1_turningKeepsLabels 8 2 25 ls (.int v :: st) hp) := ax_iaload dX1_turningKeepsLabels_24 rfl
theorem dX1_turningKeepsLabels_25 : decode cX1_turningKeepsLabels 25 = .ok (.iconst (-1), 1) := by decide +kernel
theorem sX1_turningKeepsLabels_25 : ab_X rom K cX1_turningKeepsLabels 8 2 25 ls st hp = ab_X rom K cX1_turningKeepsLabels 8 2 26 ls (.int (-1) :: st) hp := ax_iconst dX1_turningKeepsLabels_25 (by decide) rfl
theorem dX1_turningKeepsLabels_26 : decode cX1_turningKeepsLabels 26 = .ok (.if_icmp .eq 17, 3) := by decide +kernel
theorem sX1_turningKeepsLabels_26 : ab_X rom K cX1_turningKeepsLabels 8 2 26 ls (.int y :: .int x :: st) hp = if x = y then ab_X rom K cX1_turningKeepsLabels 8 2 43 ls st hp else ab_X rom K cX1_turningKeepsLabels 8 2 29 ls st hp := ax_icmp_eq dX1_turningKeepsLabels_26 (by decide) rfl
theorem dX1_turningKeepsLabels_29 : decode cX1_turningKeepsLabels 29 = .ok (.iconst 2, 1) := by decide +kernel
theorem sX1_turningKeepsLabels_29 : ab_X rom K cX1_turningKeepsLabels 8 2 29 ls st hp = ab_X rom K cX1_turningKeepsLabels 8 2 30 ls (.int 2 :: st) hp := ax_iconst dX1_turningKeepsLabels_29 (by decide) rfl
theorem dX1_turningKeepsLabels_30 : decode cX1_turningKeepsLabels 30 = .ok (.aload_n 0, 1) := by decide +kernel
theorem sX1_turningKeepsLabels_30 : ab_X rom K cX1_turningKeepsLabels 8 2 30 (.ref a :: ls) st hp = ab_X rom K cX1_turningKeepsLabels 8 2 31 (.ref a :: ls) (.ref a :: st) hp := ax_aload_n dX1_turningKeepsLabels_30 rfl rfl
theorem dX1_turningKeepsLabels_31 : decode cX1_turningKeepsLabels 31 = .ok (.getfield 49, 3) := by decide +kernel
theorem sX1_turningKeepsLabels_31 : ab_X rom K cX1_turningKeepsLabels 8 2 31 ls (.ref a :: st) hp = (ab_fld hp a 1 4).bind (fun v => ab_X rom K cX1_turningKeepsLabels 8 2 34 ls (v :: st) hp) := ax_getfield dX1_turningKeepsLabels_31 kf_8_49 rfl
theorem dX1_turningKeepsLabels_34 : decode cX1_turningKeepsLabels 34 = .ok (.iload_n 3, 1) := by decide +kernel
theorem sX1_turningKeepsLabels_34 : ab_X rom K cX1_turningKeepsLabels 8 2 34 (v0 :: v1 :: v2 :: .int x :: ls) st hp = ab_X rom K cX1_turningKeepsLabels 8 2 35 (v0 :: v1 :: v2 :: .int x :: ls) (.int x :: st) hp := ax_iload_n dX1_turningKeepsLabels_34 rfl rfl
theorem dX1_turningKeepsLabels_35 : decode cX1_turningKeepsLabels 35 = .ok (.iaload, 1) := by decide +kernel
theorem sX1_turningKeepsLabels_35 : ab_X rom K cX1_turningKeepsLabels 8 2 35 ls (.int x :: .ref a :: st) hp = (ab_ard rom 0 hp a x).bind (fun v => ab_X rom K cX1_turningKeepsLabels 8 2 36 ls (.int v :: st) hp) := ax_iaload dX1_turningKeepsLabels_35 rfl
theorem dX1_turningKeepsLabels_36 : decode cX1_turningKeepsLabels 36 = .ok (.imul, 1) := by decide +kernel
theorem sX1_turningKeepsLabels_36 : ab_X rom K cX1_turningKeepsLabels 8 2 36 ls (.int y :: .int x :: st) hp = ab_X rom K cX1_turningKeepsLabels 8 2 37 ls (.int (x * y) :: st) hp := ax_imul dX1_turningKeepsLabels_36 rfl
theorem dX1_turningKeepsLabels_37 : decode cX1_turningKeepsLabels 37 = .ok (.iload_n 2, 1) := by decide +kernel
theorem sX1_turningKeepsLabels_37 : ab_X rom K cX1_turningKeepsLabels 8 2 37 (v0 :: v1 :: .int x :: ls) st hp = ab_X rom K cX1_turningKeepsLabels 8 2 38 (v0 :: v1 :: .int x :: ls) (.int x :: st) hp := ax_iload_n dX1_turningKeepsLabels_37 rfl rfl
theorem dX1_turningKeepsLabels_38 : decode cX1_turningKeepsLabels 38 = .ok (.if_icmp .eq 5, 3) := by decide +kernel
theorem sX1_turningKeepsLabels_38 : ab_X rom K cX1_turningKeepsLabels 8 2 38 ls (.int y :: .int x :: st) hp = if x = y then ab_X rom K cX1_turningKeepsLabels 8 2 43 ls st hp else ab_X rom K cX1_turningKeepsLabels 8 2 41 ls st hp := ax_icmp_eq dX1_turningKeepsLabels_38 (by decide) rfl
theorem dX1_turningKeepsLabels_41 : decode cX1_turningKeepsLabels 41 = .ok (.iconst 0, 1) := by decide +kernel
theorem sX1_turningKeepsLabels_41 : ab_X rom K cX1_turningKeepsLabels 8 2 41 ls st hp = ab_X rom K cX1_turningKeepsLabels 8 2 42 ls (.int 0 :: st) hp := ax_iconst dX1_turningKeepsLabels_41 (by decide) rfl
theorem dX1_turningKeepsLabels_42 : decode cX1_turningKeepsLabels 42 = .ok (.ireturn, 1) := by decide +kernel
theorem sX1_turningKeepsLabels_42 : ab_X rom K cX1_turningKeepsLabels 8 2 42 ls [.int x] hp = if x = 0 ∨ x = 1 then some (some (.int x), hp) else none := ay_zret dX1_turningKeepsLabels_42 rfl
theorem dX1_turningKeepsLabels_43 : decode cX1_turningKeepsLabels 43 = .ok (.iinc 3 1, 3) := by decide +kernel
theorem sX1_turningKeepsLabels_43i : ab_X rom K cX1_turningKeepsLabels 8 2 43 (v0 :: v1 :: .int y :: .int x :: ls) st hp = ab_X rom K cX1_turningKeepsLabels 8 2 46 (v0 :: v1 :: .int y :: .int (x + 1) :: ls) st hp := ax_iinc dX1_turningKeepsLabels_43 rfl (ab_nl_c1 (j := 2) (v := .int y) rfl (ab_c1_int _)) (by decide) rfl rfl
theorem sX1_turningKeepsLabels_43r : ab_X rom K cX1_turningKeepsLabels 8 2 43 (v0 :: v1 :: .ref a2 :: .int x :: ls) st hp = ab_X rom K cX1_turningKeepsLabels 8 2 46 (v0 :: v1 :: .ref a2 :: .int (x + 1) :: ls) st hp := ax_iinc dX1_turningKeepsLabels_43 rfl (ab_nl_c1 (j := 2) (v := .ref a2) rfl (ab_c1_ref _)) (by decide) rfl rfl
theorem sX1_turningKeepsLabels_43n : ab_X rom K cX1_turningKeepsLabels 8 2 43 (v0 :: v1 :: .null :: .int x :: ls) st hp = ab_X rom K cX1_turningKeepsLabels 8 2 46 (v0 :: v1 :: .null :: .int (x + 1) :: ls) st hp := ax_iinc dX1_turningKeepsLabels_43 rfl (ab_nl_c1 (j := 2) (v := .null) rfl ab_c1_null) (by decide) rfl rfl
theorem dX1_turningKeepsLabels_46 : decode cX1_turningKeepsLabels 46 = .ok (.goto (-35), 3) := by decide +kernel
theorem sX1_turningKeepsLabels_46 : ab_X rom K cX1_turningKeepsLabels 8 2 46 ls st hp = ab_X rom K cX1_turningKeepsLabels 8 2 11 ls st hp := ax_goto dX1_turningKeepsLabels_46 (by decide)
theorem dX1_turningKeepsLabels_49 : decode cX1_turningKeepsLabels 49 = .ok (.iconst 1, 1) := by decide +kernel
theorem sX1_turningKeepsLabels_49 : ab_X rom K cX1_turningKeepsLabels 8 2 49 ls st hp = ab_X rom K cX1_turningKeepsLabels 8 2 50 ls (.int 1 :: st) hp := ax_iconst dX1_turningKeepsLabels_49 (by decide) rfl
theorem dX1_turningKeepsLabels_50 : decode cX1_turningKeepsLabels 50 = .ok (.ireturn, 1) := by decide +kernel
theorem sX1_turningKeepsLabels_50 : ab_X rom K cX1_turningKeepsLabels 8 2 50 ls [.int x] hp = if x = 0 ∨ x = 1 then some (some (.int x), hp) else none := ay_zret dX1_turningKeepsLabels_50 rfl
end
