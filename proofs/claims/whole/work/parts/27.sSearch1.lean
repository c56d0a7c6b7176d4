/-! FairLabels$Search: its methods step by step (printed by wip/whole/gen_steps.py) -/
section
variable {rom : List (List Int32)} {K : Nat → List Value → ab_H → Option ab_O} {ls st : List Value} {hp : ab_H} {x y z : Int32} {a a2 : Nat} {sp dp : Int32} {u w : Int64} {v0 v1 v2 v3 v4 v5 v6 v7 v8 v9 v10 v11 v12 v13 v14 v15 w1 w2 w3 w4 w5 w6 : Value}
theorem tX6_putBoth : ab_mT[69]? = some (yX6_putBoth, cX6_putBoth, 8, 2, 4) := by decide +kernel
theorem mX6_putBoth {d : Nat} {a0 : Nat} {x0 : Int32} {x1 : Int32} {x2 : Int32} {x3 : Int32} : ab_M rom (d + 1) 69 [.ref a0, .int x0, .int x1, .int x2, .int x3] hp = ab_X rom (ab_M rom d) cX6_putBoth 4 2 0 [.ref a0, .int x0, .int x1, .int x2, .int x3, .null, .null, .null] [] hp := ab_M_eq tX6_putBoth (Nat.le_of_ble_eq_true rfl)
theorem dX6_putBoth_0 : decode cX6_putBoth 0 = .ok (.iload 4, 2) := by decide +kernel
theorem sX6_putBoth_0 : ab_X rom K cX6_putBoth 4 2 0 (v0 :: v1 :: v2 :: v3 :: .int x :: ls) st hp = ab_X rom K cX6_putBoth 4 2 2 (v0 :: v1 :: v2 :: v3 :: .int x :: ls) (.int x :: st) hp := ax_iload dX6_putBoth_0 rfl rfl
theorem dX6_putBoth_2 : decode cX6_putBoth 2 = .ok (.ifCond .lt 22, 3) := by decide +kernel
theorem sX6_putBoth_2 : ab_X rom K cX6_putBoth 4 2 2 ls (.int x :: st) hp = if x < 0 then ab_X rom K cX6_putBoth 4 2 24 ls st hp else ab_X rom K cX6_putBoth 4 2 5 ls st hp := ax_if_lt dX6_putBoth_2 (by decide) rfl
theorem dX6_putBoth_5 : decode cX6_putBoth 5 = .ok (.iload 4, 2) := by decide +kernel
theorem sX6_putBoth_5 : ab_X rom K cX6_putBoth 4 2 5 (v0 :: v1 :: v2 :: v3 :: .int x :: ls) st hp = ab_X rom K cX6_putBoth 4 2 7 (v0 :: v1 :: v2 :: v3 :: .int x :: ls) (.int x :: st) hp := ax_iload dX6_putBoth_5 rfl rfl
theorem dX6_putBoth_7 : decode cX6_putBoth 7 = .ok (.aload_n 0, 1) := by decide +kernel
theorem sX6_putBoth_7 : ab_X rom K cX6_putBoth 4 2 7 (.ref a :: ls) st hp = ab_X rom K cX6_putBoth 4 2 8 (.ref a :: ls) (.ref a :: st) hp := ax_aload_n dX6_putBoth_7 rfl rfl
theorem dX6_putBoth_8 : decode cX6_putBoth 8 = .ok (.getfield 35, 3) := by decide +kernel
theorem sX6_putBoth_8 : ab_X rom K cX6_putBoth 4 2 8 ls (.ref a :: st) hp = (ab_fld hp a 4 7).bind (fun v => ab_X rom K cX6_putBoth 4 2 11 ls (v :: st) hp) := ax_getfield dX6_putBoth_8 kf_4_35 rfl
theorem dX6_putBoth_11 : decode cX6_putBoth 11 = .ok (.if_icmp .gt 13, 3) := by decide +kernel
theorem sX6_putBoth_11 : ab_X rom K cX6_putBoth 4 2 11 ls (.int y :: .int x :: st) hp = if y < x then ab_X rom K cX6_putBoth 4 2 24 ls st hp else ab_X rom K cX6_putBoth 4 2 14 ls st hp := ax_icmp_gt dX6_putBoth_11 (by decide) rfl
theorem dX6_putBoth_14 : decode cX6_putBoth 14 = .ok (.aload_n 0, 1) := by decide +kernel
theorem sX6_putBoth_14 : ab_X rom K cX6_putBoth 4 2 14 (.ref a :: ls) st hp = ab_X rom K cX6_putBoth 4 2 15 (.ref a :: ls) (.ref a :: st) hp := ax_aload_n dX6_putBoth_14 rfl rfl
theorem dX6_putBoth_15 : decode cX6_putBoth 15 = .ok (.getfield 22, 3) := by decide +kernel
theorem sX6_putBoth_15 : ab_X rom K cX6_putBoth 4 2 15 ls (.ref a :: st) hp = (ab_fld hp a 4 2).bind (fun v => ab_X rom K cX6_putBoth 4 2 18 ls (v :: st) hp) := ax_getfield dX6_putBoth_15 kf_4_22 rfl
theorem dX6_putBoth_18 : decode cX6_putBoth 18 = .ok (.iload 4, 2) := by decide +kernel
theorem sX6_putBoth_18 : ab_X rom K cX6_putBoth 4 2 18 (v0 :: v1 :: v2 :: v3 :: .int x :: ls) st hp = ab_X rom K cX6_putBoth 4 2 20 (v0 :: v1 :: v2 :: v3 :: .int x :: ls) (.int x :: st) hp := ax_iload dX6_putBoth_18 rfl rfl
theorem dX6_putBoth_20 : decode cX6_putBoth 20 = .ok (.iaload, 1) := by decide +kernel
theorem sX6_putBoth_20 : ab_X rom K cX6_putBoth 4 2 20 ls (.int x :: .ref a :: st) hp = (ab_ard rom 0 hp a x).bind (fun v => ab_X rom K cX6_putBoth 4 2 21 ls (.int v :: st) hp) := ax_iaload dX6_putBoth_20 rfl
theorem dX6_putBoth_21 : decode cX6_putBoth 21 = .ok (.ifCond .le 5, 3) := by decide +kernel
theorem sX6_putBoth_21 : ab_X rom K cX6_putBoth 4 2 21 ls (.int x :: st) hp = if 0 < x then ab_X rom K cX6_putBoth 4 2 24 ls st hp else ab_X rom K cX6_putBoth 4 2 26 ls st hp := ax_if_le dX6_putBoth_21 (by decide) rfl
theorem dX6_putBoth_24 : decode cX6_putBoth 24 = .ok (.iconst 0, 1) := by decide +kernel
theorem sX6_putBoth_24 : ab_X rom K cX6_putBoth 4 2 24 ls st hp = ab_X rom K cX6_putBoth 4 2 25 ls (.int 0 :: st) hp := ax_iconst dX6_putBoth_24 (by decide) rfl
theorem dX6_putBoth_25 : decode cX6_putBoth 25 = .ok (.ireturn, 1) := by decide +kernel
theorem sX6_putBoth_25 : ab_X rom K cX6_putBoth 4 2 25 ls [.int x] hp = if x = 0 ∨ x = 1 then some (some (.int x), hp) else none := ay_zret dX6_putBoth_25 rfl
theorem dX6_putBoth_26 : decode cX6_putBoth 26 = .ok (.aload_n 0, 1) := by decide +kernel
theorem sX6_putBoth_26 : ab_X rom K cX6_putBoth 4 2 26 (.ref a :: ls) st hp = ab_X rom K cX6_putBoth 4 2 27 (.ref a :: ls) (.ref a :: st) hp := ax_aload_n dX6_putBoth_26 rfl rfl
theorem dX6_putBoth_27 : decode cX6_putBoth 27 = .ok (.getfield 44, 3) := by decide +kernel
theorem sX6_putBoth_27 : ab_X rom K cX6_putBoth 4 2 27 ls (.ref a :: st) hp = (ab_fld hp a 4 10).bind (fun v => ab_X rom K cX6_putBoth 4 2 30 ls (v :: st) hp) := ax_getfield dX6_putBoth_27 kf_4_44 rfl
theorem dX6_putBoth_30 : decode cX6_putBoth 30 = .ok (.istore 5, 2) := by decide +kernel
theorem sX6_putBoth_30i : ab_X rom K cX6_putBoth 4 2 30 (v0 :: v1 :: v2 :: v3 :: .int y :: v5 :: ls) (.int x :: st) hp = ab_X rom K cX6_putBoth 4 2 32 (v0 :: v1 :: v2 :: v3 :: .int y :: .int x :: ls) st hp := ax_istore dX6_putBoth_30 (ax_lt (v := v5) rfl) (ab_nl_c1 (j := 4) (v := .int y) rfl (ab_c1_int _)) rfl rfl
theorem sX6_putBoth_30r : ab_X rom K cX6_putBoth 4 2 30 (v0 :: v1 :: v2 :: v3 :: .ref a2 :: v5 :: ls) (.int x :: st) hp = ab_X rom K cX6_putBoth 4 2 32 (v0 :: v1 :: v2 :: v3 :: .ref a2 :: .int x :: ls) st hp := ax_istore dX6_putBoth_30 (ax_lt (v := v5) rfl) (ab_nl_c1 (j := 4) (v := .ref a2) rfl (ab_c1_ref _)) rfl rfl
theorem sX6_putBoth_30n : ab_X rom K cX6_putBoth 4 2 30 (v0 :: v1 :: v2 :: v3 :: .null :: v5 :: ls) (.int x :: st) hp = ab_X rom K cX6_putBoth 4 2 32 (v0 :: v1 :: v2 :: v3 :: .null :: .int x :: ls) st hp := ax_istore dX6_putBoth_30 (ax_lt (v := v5) rfl) (ab_nl_c1 (j := 4) (v := .null) rfl ab_c1_null) rfl rfl
theorem dX6_putBoth_32 : decode cX6_putBoth 32 = .ok (.aload_n 0, 1) := by decide +kernel
theorem sX6_putBoth_32 : ab_X rom K cX6_putBoth 4 2 32 (.ref a :: ls) st hp = ab_X rom K cX6_putBoth 4 2 33 (.ref a :: ls) (.ref a :: st) hp := ax_aload_n dX6_putBoth_32 rfl rfl
theorem dX6_putBoth_33 : decode cX6_putBoth 33 = .ok (.getfield 18, 3) := by decide +kernel
theorem sX6_putBoth_33 : ab_X rom K cX6_putBoth 4 2 33 ls (.ref a :: st) hp = (ab_fld hp a 4 1).bind (fun v => ab_X rom K cX6_putBoth 4 2 36 ls (v :: st) hp) := ax_getfield dX6_putBoth_33 kf_4_18 rfl
theorem dX6_putBoth_36 : decode cX6_putBoth 36 = .ok (.iload_n 1, 1) := by decide +kernel
theorem sX6_putBoth_36 : ab_X rom K cX6_putBoth 4 2 36 (v0 :: .int x :: ls) st hp = ab_X rom K cX6_putBoth 4 2 37 (v0 :: .int x :: ls) (.int x :: st) hp := ax_iload_n dX6_putBoth_36 rfl rfl
theorem dX6_putBoth_37 : decode cX6_putBoth 37 = .ok (.iaload, 1) := by decide +kernel
theorem sX6_putBoth_37 : ab_X rom K cX6_putBoth 4 2 37 ls (.int x :: .ref a :: st) hp = (ab_ard rom 0 hp a x).bind (fun v => ab_X rom K cX6_putBoth 4 2 38 ls (.int v :: st) hp) := ax_iaload dX6_putBoth_37 rfl
theorem dX6_putBoth_38 : decode cX6_putBoth 38 = .ok (.iconst (-1), 1) := by decide +kernel
theorem sX6_putBoth_38 : ab_X rom K cX6_putBoth 4 2 38 ls st hp = ab_X rom K cX6_putBoth 4 2 39 ls (.int (-1) :: st) hp := ax_iconst dX6_putBoth_38 (by decide) rfl
theorem dX6_putBoth_39 : decode cX6_putBoth 39 = .ok (.if_icmp .eq 7, 3) := by decide +kernel
theorem sX6_putBoth_39 : ab_X rom K cX6_putBoth 4 2 39 ls (.int y :: .int x :: st) hp = if x = y then ab_X rom K cX6_putBoth 4 2 46 ls st hp else ab_X rom K cX6_putBoth 4 2 42 ls st hp := ax_icmp_eq dX6_putBoth_39 (by decide) rfl
theorem dX6_putBoth_42 : decode cX6_putBoth 42 = .ok (.iconst 1, 1) := by decide +kernel
theorem sX6_putBoth_42 : ab_X rom K cX6_putBoth 4 2 42 ls st hp = ab_X rom K cX6_putBoth 4 2 43 ls (.int 1 :: st) hp := ax_iconst dX6_putBoth_42 (by decide) rfl
theorem dX6_putBoth_43 : decode cX6_putBoth 43 = .ok (.goto 4, 3) := by decide +kernel
theorem sX6_putBoth_43 : ab_X rom K cX6_putBoth 4 2 43 ls st hp = ab_X rom K cX6_putBoth 4 2 47 ls st hp := ax_goto dX6_putBoth_43 (by decide)
theorem dX6_putBoth_46 : decode cX6_putBoth 46 = .ok (.iconst 0, 1) := by decide +kernel
theorem sX6_putBoth_46 : ab_X rom K cX6_putBoth 4 2 46 ls st hp = ab_X rom K cX6_putBoth 4 2 47 ls (.int 0 :: st) hp := ax_iconst dX6_putBoth_46 (by decide) rfl
theorem dX6_putBoth_47 : decode cX6_putBoth 47 = .ok (.istore 6, 2) := by decide +kernel
theorem sX6_putBoth_47i : ab_X rom K cX6_putBoth 4 2 47 (v0 :: v1 :: v2 :: v3 :: v4 :: .int y :: v6 :: ls) (.int x :: st) hp = ab_X rom K cX6_putBoth 4 2 49 (v0 :: v1 :: v2 :: v3 :: v4 :: .int y :: .int x :: ls) st hp := ax_istore dX6_putBoth_47 (ax_lt (v := v6) rfl) (ab_nl_c1 (j := 5) (v := .int y) rfl (ab_c1_int _)) rfl rfl
theorem sX6_putBoth_47r : ab_X rom K cX6_putBoth 4 2 47 (v0 :: v1 :: v2 :: v3 :: v4 :: .ref a2 :: v6 :: ls) (.int x :: st) hp = ab_X rom K cX6_putBoth 4 2 49 (v0 :: v1 :: v2 :: v3 :: v4 :: .ref a2 :: .int x :: ls) st hp := ax_istore dX6_putBoth_47 (ax_lt (v := v6) rfl) (ab_nl_c1 (j := 5) (v := .ref a2) rfl (ab_c1_ref _)) rfl rfl
theorem sX6_putBoth_47n : ab_X rom K cX6_putBoth 4 2 47 (v0 :: v1 :: v2 :: v3 :: v4 :: .null :: v6 :: ls) (.int x :: st) hp = ab_X rom K cX6_putBoth 4 2 49 (v0 :: v1 :: v2 :: v3 :: v4 :: .null :: .int x :: ls) st hp := ax_istore dX6_putBoth_47 (ax_lt (v := v6) rfl) (ab_nl_c1 (j := 5) (v := .null) rfl ab_c1_null) rfl rfl
theorem dX6_putBoth_49 : decode cX6_putBoth 49 = .ok (.iload 6, 2) := by decide +kernel
theorem sX6_putBoth_49 : ab_X rom K cX6_putBoth 4 2 49 (v0 :: v1 :: v2 :: v3 :: v4 :: v5 :: .int x :: ls) st hp = ab_X rom K cX6_putBoth 4 2 51 (v0 :: v1 :: v2 :: v3 :: v4 :: v5 :: .int x :: ls) (.int x :: st) hp := ax_iload dX6_putBoth_49 rfl rfl
theorem dX6_putBoth_51 : decode cX6_putBoth 51 = .ok (.ifCond .ne 27, 3) := by decide +kernel
theorem sX6_putBoth_51 : ab_X rom K cX6_putBoth 4 2 51 ls (.int x :: st) hp = if x = 0 then ab_X rom K cX6_putBoth 4 2 54 ls st hp else ab_X rom K cX6_putBoth 4 2 78 ls st hp := ax_if_ne dX6_putBoth_51 (by decide) rfl
theorem dX6_putBoth_54 : decode cX6_putBoth 54 = .ok (.aload_n 0, 1) := by decide +kernel
theorem sX6_putBoth_54 : ab_X rom K cX6_putBoth 4 2 54 (.ref a :: ls) st hp = ab_X rom K cX6_putBoth 4 2 55 (.ref a :: ls) (.ref a :: st) hp := ax_aload_n dX6_putBoth_54 rfl rfl
theorem dX6_putBoth_55 : decode cX6_putBoth 55 = .ok (.iload_n 1, 1) := by decide +kernel
theorem sX6_putBoth_55 : ab_X rom K cX6_putBoth 4 2 55 (v0 :: .int x :: ls) st hp = ab_X rom K cX6_putBoth 4 2 56 (v0 :: .int x :: ls) (.int x :: st) hp := ax_iload_n dX6_putBoth_55 rfl rfl
theorem dX6_putBoth_56 : decode cX6_putBoth 56 = .ok (.iload_n 2, 1) := by decide +kernel
theorem sX6_putBoth_56 : ab_X rom K cX6_putBoth 4 2 56 (v0 :: v1 :: .int x :: ls) st hp = ab_X rom K cX6_putBoth 4 2 57 (v0 :: v1 :: .int x :: ls) (.int x :: st) hp := ax_iload_n dX6_putBoth_56 rfl rfl
theorem dX6_putBoth_57 : decode cX6_putBoth 57 = .ok (.invokevirtual 124, 3) := by decide +kernel
theorem sX6_putBoth_57_0 : ab_X rom K cX6_putBoth 4 2 57 ls [w2, w1, .ref a] hp = if ab_iso hp a 4 = true then (K 74 (.ref a :: [w1, w2]) hp).bind (fun o => ab_X rom K cX6_putBoth 4 2 60 ls (o.1.toList ++ []) o.2) else none := ay_virtual (as := [w1, w2]) (st := []) dX6_putBoth_57 kc_4_124 rfl rfl (Nat.le_of_ble_eq_true rfl)
theorem sX6_putBoth_57_1 : ab_X rom K cX6_putBoth 4 2 57 ls [w2, w1, .ref a, v0] hp = if ab_iso hp a 4 = true then (K 74 (.ref a :: [w1, w2]) hp).bind (fun o => ab_X rom K cX6_putBoth 4 2 60 ls (o.1.toList ++ [v0]) o.2) else none := ay_virtual (as := [w1, w2]) (st := [v0]) dX6_putBoth_57 kc_4_124 rfl rfl (Nat.le_of_ble_eq_true rfl)
theorem sX6_putBoth_57_2 : ab_X rom K cX6_putBoth 4 2 57 ls [w2, w1, .ref a, v0, v1] hp = if ab_iso hp a 4 = true then (K 74 (.ref a :: [w1, w2]) hp).bind (fun o => ab_X rom K cX6_putBoth 4 2 60 ls (o.1.toList ++ [v0, v1]) o.2) else none := ay_virtual (as := [w1, w2]) (st := [v0, v1]) dX6_putBoth_57 kc_4_124 rfl rfl (Nat.le_of_ble_eq_true rfl)
theorem sX6_putBoth_57_3 : ab_X rom K cX6_putBoth 4 2 57 ls [w2, w1, .ref a, v0, v1, v2] hp = if ab_iso hp a 4 = true then (K 74 (.ref a :: [w1, w2]) hp).bind (fun o => ab_X rom K cX6_putBoth 4 2 60 ls (o.1.toList ++ [v0, v1, v2]) o.2) else none := ay_virtual (as := [w1, w2]) (st := [v0, v1, v2]) dX6_putBoth_57 kc_4_124 rfl rfl (Nat.le_of_ble_eq_true rfl)
theorem dX6_putBoth_60 : decode cX6_putBoth 60 = .ok (.istore 7, 2) := by decide +kernel
theorem sX6_putBoth_60i : ab_X rom K cX6_putBoth 4 2 60 (v0 :: v1 :: v2 :: v3 :: v4 :: v5 :: .int y :: v7 :: ls) (.int x :: st) hp = ab_X rom K cX6_putBoth 4 2 62 (v0 :: v1 :: v2 :: v3 :: v4 :: v5 :: .int y :: .int x :: ls) st hp := ax_istore dX6_putBoth_60 (ax_lt (v := v7) rfl) (ab_nl_c1 (j := 6) (v := .int y) rfl (ab_c1_int _)) rfl rfl
theorem sX6_putBoth_60r : ab_X rom K cX6_putBoth 4 2 60 (v0 :: v1 :: v2 :: v3 :: v4 :: v5 :: .ref a2 :: v7 :: ls) (.int x :: st) hp = ab_X rom K cX6_putBoth 4 2 62 (v0 :: v1 :: v2 :: v3 :: v4 :: v5 :: .ref a2 :: .int x :: ls) st hp := ax_istore dX6_putBoth_60 (ax_lt (v := v7) rfl) (ab_nl_c1 (j := 6) (v := .ref a2) rfl (ab_c1_ref _)) rfl rfl
theorem sX6_putBoth_60n : ab_X rom K cX6_putBoth 4 2 60 (v0 :: v1 :: v2 :: v3 :: v4 :: v5 :: .null :: v7 :: ls) (.int x :: st) hp = ab_X rom K cX6_putBoth 4 2 62 (v0 :: v1 :: v2 :: v3 :: v4 :: v5 :: .null :: .int x :: ls) st hp := ax_istore dX6_putBoth_60 (ax_lt (v := v7) rfl) (ab_nl_c1 (j := 6) (v := .null) rfl ab_c1_null) rfl rfl
theorem dX6_putBoth_62 : decode cX6_putBoth 62 = .ok (.iload 7, 2) := by decide +kernel
theorem sX6_putBoth_62 : ab_X rom K cX6_putBoth 4 2 62 (v0 :: v1 :: v2 :: v3 :: v4 :: v5 :: v6 :: .int x :: ls) st hp = ab_X rom K cX6_putBoth 4 2 64 (v0 :: v1 :: v2 :: v3 :: v4 :: v5 :: v6 :: .int x :: ls) (.int x :: st) hp := ax_iload dX6_putBoth_62 rfl rfl
theorem dX6_putBoth_64 : decode cX6_putBoth 64 = .ok (.iconst (-1), 1) := by decide +kernel
theorem sX6_putBoth_64 : ab_X rom K cX6_putBoth 4 2 64 ls st hp = ab_X rom K cX6_putBoth 4 2 65 ls (.int (-1) :: st) hp := ax_iconst dX6_putBoth_64 (by decide) rfl
theorem dX6_putBoth_65 : decode cX6_putBoth 65 = .ok (.if_icmp .ne 5, 3) := by decide +kernel
theorem sX6_putBoth_65 : ab_X rom K cX6_putBoth 4 2 65 ls (.int y :: .int x :: st) hp = if x = y then ab_X rom K cX6_putBoth 4 2 68 ls st hp else ab_X rom K cX6_putBoth 4 2 70 ls st hp := ax_icmp_ne dX6_putBoth_65 (by decide) rfl
theorem dX6_putBoth_68 : decode cX6_putBoth 68 = .ok (.iconst 0, 1) := by decide +kernel
theorem sX6_putBoth_68 : ab_X rom K cX6_putBoth 4 2 68 ls st hp = ab_X rom K cX6_putBoth 4 2 69 ls (.int 0 :: st) hp := ax_iconst dX6_putBoth_68 (by decide) rfl
theorem dX6_putBoth_69 : decode cX6_putBoth 69 = .ok (.ireturn, 1) := by decide +kernel
theorem sX6_putBoth_69 : ab_X rom K cX6_putBoth 4 2 69 ls [.int x] hp = if x = 0 ∨ x = 1 then some (some (.int x), hp) else none := ay_zret dX6_putBoth_69 rfl
theorem dX6_putBoth_70 : decode cX6_putBoth 70 = .ok (.aload_n 0, 1) := by decide +kernel
theorem sX6_putBoth_70 : ab_X rom K cX6_putBoth 4 2 70 (.ref a :: ls) st hp = ab_X rom K cX6_putBoth 4 2 71 (.ref a :: ls) (.ref a :: st) hp := ax_aload_n dX6_putBoth_70 rfl rfl
theorem dX6_putBoth_71 : decode cX6_putBoth 71 = .ok (.iload_n 1, 1) := by decide +kernel
theorem sX6_putBoth_71 : ab_X rom K cX6_putBoth 4 2 71 (v0 :: .int x :: ls) st hp = ab_X rom K cX6_putBoth 4 2 72 (v0 :: .int x :: ls) (.int x :: st) hp := ax_iload_n dX6_putBoth_71 rfl rfl
theorem dX6_putBoth_72 : decode cX6_putBoth 72 = .ok (.iload_n 2, 1) := by decide +kernel
theorem sX6_putBoth_72 : ab_X rom K cX6_putBoth 4 2 72 (v0 :: v1 :: .int x :: ls) st hp = ab_X rom K cX6_putBoth 4 2 73 (v0 :: v1 :: .int x :: ls) (.int x :: st) hp := ax_iload_n dX6_putBoth_72 rfl rfl
theorem dX6_putBoth_73 : decode cX6_putBoth 73 = .ok (.iload 7, 2) := by decide +kernel
theorem sX6_putBoth_73 : ab_X rom K cX6_putBoth 4 2 73 (v0 :: v1 :: v2 :: v3 :: v4 :: v5 :: v6 :: .int x :: ls) st hp = ab_X rom K cX6_putBoth 4 2 75 (v0 :: v1 :: v2 :: v3 :: v4 :: v5 :: v6 :: .int x :: ls) (.int x :: st) hp := ax_iload dX6_putBoth_73 rfl rfl
theorem dX6_putBoth_75 : decode cX6_putBoth 75 = .ok (.invokevirtual 127, 3) := by decide +kernel
theorem sX6_putBoth_75_0 : ab_X rom K cX6_putBoth 4 2 75 ls [w3, w2, w1, .ref a] hp = if ab_iso hp a 4 = true then (K 68 (.ref a :: [w1, w2, w3]) hp).bind (fun o => ab_X rom K cX6_putBoth 4 2 78 ls (o.1.toList ++ []) o.2) else none := ay_virtual (as := [w1, w2, w3]) (st := []) dX6_putBoth_75 kc_4_127 rfl rfl (Nat.le_of_ble_eq_true rfl)
theorem sX6_putBoth_75_1 : ab_X rom K cX6_putBoth 4 2 75 ls [w3, w2, w1, .ref a, v0] hp = if ab_iso hp a 4 = true then (K 68 (.ref a :: [w1, w2, w3]) hp).bind (fun o => ab_X rom K cX6_putBoth 4 2 78 ls (o.1.toList ++ [v0]) o.2) else none := ay_virtual (as := [w1, w2, w3]) (st := [v0]) dX6_putBoth_75 kc_4_127 rfl rfl (Nat.le_of_ble_eq_true rfl)
theorem sX6_putBoth_75_2 : ab_X rom K cX6_putBoth 4 2 75 ls [w3, w2, w1, .ref a, v0, v1] hp = if ab_iso hp a 4 = true then (K 68 (.ref a :: [w1, w2, w3]) hp).bind (fun o => ab_X rom K cX6_putBoth 4 2 78 ls (o.1.toList ++ [v0, v1]) o.2) else none := ay_virtual (as := [w1, w2, w3]) (st := [v0, v1]) dX6_putBoth_75 kc_4_127 rfl rfl (Nat.le_of_ble_eq_true rfl)
theorem sX6_putBoth_75_3 : ab_X rom K cX6_putBoth 4 2 75 ls [w3, w2, w1, .ref a, v0, v1, v2] hp = if ab_iso hp a 4 = true then (K 68 (.ref a :: [w1, w2, w3]) hp).bind (fun o => ab_X rom K cX6_putBoth 4 2 78 ls (o.1.toList ++ [v0, v1, v2]) o.2) else none := ay_virtual (as := [w1, w2, w3]) (st := [v0, v1, v2]) dX6_putBoth_75 kc_4_127 rfl rfl (Nat.le_of_ble_eq_true rfl)
theorem dX6_putBoth_78 : decode cX6_putBoth 78 = .ok (.aload_n 0, 1) := by decide +kernel
theorem sX6_putBoth_78 : ab_X rom K cX6_putBoth 4 2 78 (.ref a :: ls) st hp = ab_X rom K cX6_putBoth 4 2 79 (.ref a :: ls) (.ref a :: st) hp := ax_aload_n dX6_putBoth_78 rfl rfl
theorem dX6_putBoth_79 : decode cX6_putBoth 79 = .ok (.iload_n 3, 1) := by decide +kernel
theorem sX6_putBoth_79 : ab_X rom K cX6_putBoth 4 2 79 (v0 :: v1 :: v2 :: .int x :: ls) st hp = ab_X rom K cX6_putBoth 4 2 80 (v0 :: v1 :: v2 :: .int x :: ls) (.int x :: st) hp := ax_iload_n dX6_putBoth_79 rfl rfl
theorem dX6_putBoth_80 : decode cX6_putBoth 80 = .ok (.iload 4, 2) := by decide +kernel
theorem sX6_putBoth_80 : ab_X rom K cX6_putBoth 4 2 80 (v0 :: v1 :: v2 :: v3 :: .int x :: ls) st hp = ab_X rom K cX6_putBoth 4 2 82 (v0 :: v1 :: v2 :: v3 :: .int x :: ls) (.int x :: st) hp := ax_iload dX6_putBoth_80 rfl rfl
theorem dX6_putBoth_82 : decode cX6_putBoth 82 = .ok (.invokevirtual 124, 3) := by decide +kernel
theorem sX6_putBoth_82_0 : ab_X rom K cX6_putBoth 4 2 82 ls [w2, w1, .ref a] hp = if ab_iso hp a 4 = true then (K 74 (.ref a :: [w1, w2]) hp).bind (fun o => ab_X rom K cX6_putBoth 4 2 85 ls (o.1.toList ++ []) o.2) else none := ay_virtual (as := [w1, w2]) (st := []) dX6_putBoth_82 kc_4_124 rfl rfl (Nat.le_of_ble_eq_true rfl)
theorem sX6_putBoth_82_1 : ab_X rom K cX6_putBoth 4 2 82 ls [w2, w1, .ref a, v0] hp = if ab_iso hp a 4 = true then (K 74 (.ref a :: [w1, w2]) hp).bind (fun o => ab_X rom K cX6_putBoth 4 2 85 ls (o.1.toList ++ [v0]) o.2) else none := ay_virtual (as := [w1, w2]) (st := [v0]) dX6_putBoth_82 kc_4_124 rfl rfl (Nat.le_of_ble_eq_true rfl)
theorem sX6_putBoth_82_2 : ab_X rom K cX6_putBoth 4 2 82 ls [w2, w1, .ref a, v0, v1] hp = if ab_iso hp a 4 = true then (K 74 (.ref a :: [w1, w2]) hp).bind (fun o => ab_X rom K cX6_putBoth 4 2 85 ls (o.1.toList ++ [v0, v1]) o.2) else none := ay_virtual (as := [w1, w2]) (st := [v0, v1]) dX6_putBoth_82 kc_4_124 rfl rfl (Nat.le_of_ble_eq_true rfl)
theorem sX6_putBoth_82_3 : ab_X rom K cX6_putBoth 4 2 82 ls [w2, w1, .ref a, v0, v1, v2] hp = if ab_iso hp a 4 = true then (K 74 (.ref a :: [w1, w2]) hp).bind (fun o => ab_X rom K cX6_putBoth 4 2 85 ls (o.1.toList ++ [v0, v1, v2]) o.2) else none := ay_virtual (as := [w1, w2]) (st := [v0, v1, v2]) dX6_putBoth_82 kc_4_124 rfl rfl (Nat.le_of_ble_eq_true rfl)
theorem dX6_putBoth_85 : decode cX6_putBoth 85 = .ok (.istore 7, 2) := by decide +kernel
theorem sX6_putBoth_85i : ab_X rom K cX6_putBoth 4 2 85 (v0 :: v1 :: v2 :: v3 :: v4 :: v5 :: .int y :: v7 :: ls) (.int x :: st) hp = ab_X rom K cX6_putBoth 4 2 87 (v0 :: v1 :: v2 :: v3 :: v4 :: v5 :: .int y :: .int x :: ls) st hp := ax_istore dX6_putBoth_85 (ax_lt (v := v7) rfl) (ab_nl_c1 (j := 6) (v := .int y) rfl (ab_c1_int _)) rfl rfl
theorem sX6_putBoth_85r : ab_X rom K cX6_putBoth 4 2 85 (v0 :: v1 :: v2 :: v3 :: v4 :: v5 :: .ref a2 :: v7 :: ls) (.int x :: st) hp = ab_X rom K cX6_putBoth 4 2 87 (v0 :: v1 :: v2 :: v3 :: v4 :: v5 :: .ref a2 :: .int x :: ls) st hp := ax_istore dX6_putBoth_85 (ax_lt (v := v7) rfl) (ab_nl_c1 (j := 6) (v := .ref a2) rfl (ab_c1_ref _)) rfl rfl
theorem sX6_putBoth_85n : ab_X rom K cX6_putBoth 4 2 85 (v0 :: v1 :: v2 :: v3 :: v4 :: v5 :: .null :: v7 :: ls) (.int x :: st) hp = ab_X rom K cX6_putBoth 4 2 87 (v0 :: v1 :: v2 :: v3 :: v4 :: v5 :: .null :: .int x :: ls) st hp := ax_istore dX6_putBoth_85 (ax_lt (v := v7) rfl) (ab_nl_c1 (j := 6) (v := .null) rfl ab_c1_null) rfl rfl
theorem dX6_putBoth_87 : decode cX6_putBoth 87 = .ok (.iload 7, 2) := by decide +kernel
theorem sX6_putBoth_87 : ab_X rom K cX6_putBoth 4 2 87 (v0 :: v1 :: v2 :: v3 :: v4 :: v5 :: v6 :: .int x :: ls) st hp = ab_X rom K cX6_putBoth 4 2 89 (v0 :: v1 :: v2 :: v3 :: v4 :: v5 :: v6 :: .int x :: ls) (.int x :: st) hp := ax_iload dX6_putBoth_87 rfl rfl
theorem dX6_putBoth_89 : decode cX6_putBoth 89 = .ok (.iconst (-1), 1) := by decide +kernel
theorem sX6_putBoth_89 : ab_X rom K cX6_putBoth 4 2 89 ls st hp = ab_X rom K cX6_putBoth 4 2 90 ls (.int (-1) :: st) hp := ax_iconst dX6_putBoth_89 (by decide) rfl
theorem dX6_putBoth_90 : decode cX6_putBoth 90 = .ok (.if_icmp .eq 14, 3) := by decide +kernel
theorem sX6_putBoth_90 : ab_X rom K cX6_putBoth 4 2 90 ls (.int y :: .int x :: st) hp = if x = y then ab_X rom K cX6_putBoth 4 2 104 ls st hp else ab_X rom K cX6_putBoth 4 2 93 ls st hp := ax_icmp_eq dX6_putBoth_90 (by decide) rfl
theorem dX6_putBoth_93 : decode cX6_putBoth 93 = .ok (.aload_n 0, 1) := by decide +kernel
theorem sX6_putBoth_93 : ab_X rom K cX6_putBoth 4 2 93 (.ref a :: ls) st hp = ab_X rom K cX6_putBoth 4 2 94 (.ref a :: ls) (.ref a :: st) hp := ax_aload_n dX6_putBoth_93 rfl rfl
theorem dX6_putBoth_94 : decode cX6_putBoth 94 = .ok (.iload_n 3, 1) := by decide +kernel
theorem sX6_putBoth_94 : ab_X rom K cX6_putBoth 4 2 94 (v0 :: v1 :: v2 :: .int x :: ls) st hp = ab_X rom K cX6_putBoth 4 2 95 (v0 :: v1 :: v2 :: .int x :: ls) (.int x :: st) hp := ax_iload_n dX6_putBoth_94 rfl rfl
theorem dX6_putBoth_95 : decode cX6_putBoth 95 = .ok (.iload 4, 2) := by decide +kernel
theorem sX6_putBoth_95 : ab_X rom K cX6_putBoth 4 2 95 (v0 :: v1 :: v2 :: v3 :: .int x :: ls) st hp = ab_X rom K cX6_putBoth 4 2 97 (v0 :: v1 :: v2 :: v3 :: .int x :: ls) (.int x :: st) hp := ax_iload dX6_putBoth_95 rfl rfl
theorem dX6_putBoth_97 : decode cX6_putBoth 97 = .ok (.iload 7, 2) := by decide +kernel
theorem sX6_putBoth_97 : ab_X rom K cX6_putBoth 4 2 97 (v0 :: v1 :: v2 :: v3 :: v4 :: v5 :: v6 :: .int x :: ls) st hp = ab_X rom K cX6_putBoth 4 2 99 (v0 :: v1 :: v2 :: v3 :: v4 :: v5 :: v6 :: .int x :: ls) (.int x :: st) hp := ax_iload dX6_putBoth_97 rfl rfl
theorem dX6_putBoth_99 : decode cX6_putBoth 99 = .ok (.invokevirtual 127, 3) := by decide +kernel
theorem sX6_putBoth_99_0 : ab_X rom K cX6_putBoth 4 2 99 ls [w3, w2, w1, .ref a] hp = if ab_iso hp a 4 = true then (K 68 (.ref a :: [w1, w2, w3]) hp).bind (fun o => ab_X rom K cX6_putBoth 4 2 102 ls (o.1.toList ++ []) o.2) else none := ay_virtual (as := [w1, w2, w3]) (st := []) dX6_putBoth_99 kc_4_127 rfl rfl (Nat.le_of_ble_eq_true rfl)
theorem sX6_putBoth_99_1 : ab_X rom K cX6_putBoth 4 2 99 ls [w3, w2, w1, .ref a, v0] hp = if ab_iso hp a 4 = true then (K 68 (.ref a :: [w1, w2, w3]) hp).bind (fun o => ab_X rom K cX6_putBoth 4 2 102 ls (o.1.toList ++ [v0]) o.2) else none := ay_virtual (as := [w1, w2, w3]) (st := [v0]) dX6_putBoth_99 kc_4_127 rfl rfl (Nat.le_of_ble_eq_true rfl)
theorem sX6_putBoth_99_2 : ab_X rom K cX6_putBoth 4 2 99 ls [w3, w2, w1, .ref a, v0, v1] hp = if ab_iso hp a 4 = true then (K 68 (.ref a :: [w1, w2, w3]) hp).bind (fun o => ab_X rom K cX6_putBoth 4 2 102 ls (o.1.toList ++ [v0, v1]) o.2) else none := ay_virtual (as := [w1, w2, w3]) (st := [v0, v1]) dX6_putBoth_99 kc_4_127 rfl rfl (Nat.le_of_ble_eq_true rfl)
theorem sX6_putBoth_99_3 : ab_X rom K cX6_putBoth 4 2 99 ls [w3, w2, w1, .ref a, v0, v1, v2] hp = if ab_iso hp a 4 = true then (K 68 (.ref a :: [w1, w2, w3]) hp).bind (fun o => ab_X rom K cX6_putBoth 4 2 102 ls (o.1.toList ++ [v0, v1, v2]) o.2) else none := ay_virtual (as := [w1, w2, w3]) (st := [v0, v1, v2]) dX6_putBoth_99 kc_4_127 rfl rfl (Nat.le_of_ble_eq_true rfl)
theorem dX6_putBoth_102 : decode cX6_putBoth 102 = .ok (.iconst 1, 1) := by decide +kernel
theorem sX6_putBoth_102 : ab_X rom K cX6_putBoth 4 2 102 ls st hp = ab_X rom K cX6_putBoth 4 2 103 ls (.int 1 :: st) hp := ax_iconst dX6_putBoth_102 (by decide) rfl
theorem dX6_putBoth_103 : decode cX6_putBoth 103 = .ok (.ireturn, 1) := by decide +kernel
theorem sX6_putBoth_103 : ab_X rom K cX6_putBoth 4 2 103 ls [.int x] hp = if x = 0 ∨ x = 1 then some (some (.int x), hp) else none := ay_zret dX6_putBoth_103 rfl
theorem dX6_putBoth_104 : decode cX6_putBoth 104 = .ok (.iload 6, 2) := by decide +kernel
theorem sX6_putBoth_104 : ab_X rom K cX6_putBoth 4 2 104 (v0 :: v1 :: v2 :: v3 :: v4 :: v5 :: .int x :: ls) st hp = ab_X rom K cX6_putBoth 4 2 106 (v0 :: v1 :: v2 :: v3 :: v4 :: v5 :: .int x :: ls) (.int x :: st) hp := ax_iload dX6_putBoth_104 rfl rfl
theorem dX6_putBoth_106 : decode cX6_putBoth 106 = .ok (.ifCond .ne 10, 3) := by decide +kernel
theorem sX6_putBoth_106 : ab_X rom K cX6_putBoth 4 2 106 ls (.int x :: st) hp = if x = 0 then ab_X rom K cX6_putBoth 4 2 109 ls st hp else ab_X rom K cX6_putBoth 4 2 116 ls st hp := ax_if_ne dX6_putBoth_106 (by decide) rfl
theorem dX6_putBoth_109 : decode cX6_putBoth 109 = .ok (.aload_n 0, 1) := by decide +kernel
theorem sX6_putBoth_109 : ab_X rom K cX6_putBoth 4 2 109 (.ref a :: ls) st hp = ab_X rom K cX6_putBoth 4 2 110 (.ref a :: ls) (.ref a :: st) hp := ax_aload_n dX6_putBoth_109 rfl rfl
theorem dX6_putBoth_110 : decode cX6_putBoth 110 = .ok (.iload_n 1, 1) := by decide +kernel
theorem sX6_putBoth_110 : ab_X rom K cX6_putBoth 4 2 110 (v0 :: .int x :: ls) st hp = ab_X rom K cX6_putBoth 4 2 111 (v0 :: .int x :: ls) (.int x :: st) hp := ax_iload_n dX6_putBoth_110 rfl rfl
theorem dX6_putBoth_111 : decode cX6_putBoth 111 = .ok (.iload 5, 2) := by decide +kernel
theorem sX6_putBoth_111 : ab_X rom K cX6_putBoth 4 2 111 (v0 :: v1 :: v2 :: v3 :: v4 :: .int x :: ls) st hp = ab_X rom K cX6_putBoth 4 2 113 (v0 :: v1 :: v2 :: v3 :: v4 :: .int x :: ls) (.int x :: st) hp := ax_iload dX6_putBoth_111 rfl rfl
theorem dX6_putBoth_113 : decode cX6_putBoth 113 = .ok (.invokevirtual 154, 3) := by decide +kernel
theorem sX6_putBoth_113_0 : ab_X rom K cX6_putBoth 4 2 113 ls [w2, w1, .ref a] hp = if ab_iso hp a 4 = true then (K 72 (.ref a :: [w1, w2]) hp).bind (fun o => ab_X rom K cX6_putBoth 4 2 116 ls (o.1.toList ++ []) o.2) else none := ay_virtual (as := [w1, w2]) (st := []) dX6_putBoth_113 kc_4_154 rfl rfl (Nat.le_of_ble_eq_true rfl)
theorem sX6_putBoth_113_1 : ab_X rom K cX6_putBoth 4 2 113 ls [w2, w1, .ref a, v0] hp = if ab_iso hp a 4 = true then (K 72 (.ref a :: [w1, w2]) hp).bind (fun o => ab_X rom K cX6_putBoth 4 2 116 ls (o.1.toList ++ [v0]) o.2) else none := ay_virtual (as := [w1, w2]) (st := [v0]) dX6_putBoth_113 kc_4_154 rfl rfl (Nat.le_of_ble_eq_true rfl)
theorem sX6_putBoth_113_2 : ab_X rom K cX6_putBoth 4 2 113 ls [w2, w1, .ref a, v0, v1] hp = if ab_iso hp a 4 = true then (K 72 (.ref a :: [w1, w2]) hp).bind (fun o => ab_X rom K cX6_putBoth 4 2 116 ls (o.1.toList ++ [v0, v1]) o.2) else none := ay_virtual (as := [w1, w2]) (st := [v0, v1]) dX6_putBoth_113 kc_4_154 rfl rfl (Nat.le_of_ble_eq_true rfl)
theorem sX6_putBoth_113_3 : ab_X rom K cX6_putBoth 4 2 113 ls [w2, w1, .ref a, v0, v1, v2] hp = if ab_iso hp a 4 = true then (K 72 (.ref a :: [w1, w2]) hp).bind (fun o => ab_X rom K cX6_putBoth 4 2 116 ls (o.1.toList ++ [v0, v1, v2]) o.2) else none := ay_virtual (as := [w1, w2]) (st := [v0, v1, v2]) dX6_putBoth_113 kc_4_154 rfl rfl (Nat.le_of_ble_eq_true rfl)
theorem dX6_putBoth_116 : decode cX6_putBoth 116 = .ok (.iconst 0, 1) := by decide +kernel
theorem sX6_putBoth_116 : ab_X rom K cX6_putBoth 4 2 116 ls st hp = ab_X rom K cX6_putBoth 4 2 117 ls (.int 0 :: st) hp := ax_iconst dX6_putBoth_116 (by decide) rfl
theorem dX6_putBoth_117 : decode cX6_putBoth 117 = .ok (.ireturn, 1) := by decide +kernel
theorem sX6_putBoth_117 : ab_X rom K cX6_putBoth 4 2 117 ls [.int x] hp = if x = 0 ∨ x = 1 then some (some (.int x), hp) else none := ay_zret dX6_putBoth_117 rfl
theorem tX6_putLabelsTold : ab_mT[70]? = some (yX6_putLabelsTold, cX6_putLabelsTold, 4, 2, 4) := by decide +kernel
theorem mX6_putLabelsTold {d : Nat} {a0 : Nat} : ab_M rom (d + 1) 70 [.ref a0] hp = ab_X rom (ab_M rom d) cX6_putLabelsTold 4 2 0 [.ref a0, .null, .null, .null] [] hp := ab_M_eq tX6_putLabelsTold (Nat.le_of_ble_eq_true rfl)
theorem dX6_putLabelsTold_0 : decode cX6_putLabelsTold 0 = .ok (.iconst 0, 1) := by decide +kernel
theorem sX6_putLabelsTold_0 : ab_X rom K cX6_putLabelsTold 4 2 0 ls st hp = ab_X rom K cX6_putLabelsTold 4 2 1 ls (.int 0 :: st) hp := ax_iconst dX6_putLabelsTold_0 (by decide) rfl
theorem dX6_putLabelsTold_1 : decode cX6_putLabelsTold 1 = .ok (.istore_n 1, 1) := by decide +kernel
theorem sX6_putLabelsTold_1i : ab_X rom K cX6_putLabelsTold 4 2 1 (.int y :: v1 :: ls) (.int x :: st) hp = ab_X rom K cX6_putLabelsTold 4 2 2 (.int y :: .int x :: ls) st hp := ax_istore_n dX6_putLabelsTold_1 (ax_lt (v := v1) rfl) (ab_nl_c1 (j := 0) (v := .int y) rfl (ab_c1_int _)) rfl rfl
theorem sX6_putLabelsTold_1r : ab_X rom K cX6_putLabelsTold 4 2 1 (.ref a2 :: v1 :: ls) (.int x :: st) hp = ab_X rom K cX6_putLabelsTold 4 2 2 (.ref a2 :: .int x :: ls) st hp := ax_istore_n dX6_putLabelsTold_1 (ax_lt (v := v1) rfl) (ab_nl_c1 (j := 0) (v := .ref a2) rfl (ab_c1_ref _)) rfl rfl
theorem sX6_putLabelsTold_1n : ab_X rom K cX6_putLabelsTold 4 2 1 (.null :: v1 :: ls) (.int x :: st) hp = ab_X rom K cX6_putLabelsTold 4 2 2 (.null :: .int x :: ls) st hp := ax_istore_n dX6_putLabelsTold_1 (ax_lt (v := v1) rfl) (ab_nl_c1 (j := 0) (v := .null) rfl ab_c1_null) rfl rfl
theorem dX6_putLabelsTold_2 : decode cX6_putLabelsTold 2 = .ok (.iload_n 1, 1) := by decide +kernel
theorem sX6_putLabelsTold_2 : ab_X rom K cX6_putLabelsTold 4 2 2 (v0 :: .int x :: ls) st hp = ab_X rom K cX6_putLabelsTold 4 2 3 (v0 :: .int x :: ls) (.int x :: st) hp := ax_iload_n dX6_putLabelsTold_2 rfl rfl
theorem dX6_putLabelsTold_3 : decode cX6_putLabelsTold 3 = .ok (.aload_n 0, 1) := by decide +kernel
theorem sX6_putLabelsTold_3 : ab_X rom K cX6_putLabelsTold 4 2 3 (.ref a :: ls) st hp = ab_X rom K cX6_putLabelsTold 4 2 4 (.ref a :: ls) (.ref a :: st) hp := ax_aload_n dX6_putLabelsTold_3 rfl rfl
theorem dX6_putLabelsTold_4 : decode cX6_putLabelsTold 4 = .ok (.getfield 60, 3) := by decide +kernel
theorem sX6_putLabelsTold_4 : ab_X rom K cX6_putLabelsTold 4 2 4 ls (.ref a :: st) hp = (ab_fld hp a 4 5).bind (fun v => ab_X rom K cX6_putLabelsTold 4 2 7 ls (v :: st) hp) := ax_getfield dX6_putLabelsTold_4 kf_4_60 rfl
theorem dX6_putLabelsTold_7 : decode cX6_putLabelsTold 7 = .ok (.getfield 120, 3) := by decide +kernel
theorem sX6_putLabelsTold_7 : ab_X rom K cX6_putLabelsTold 4 2 7 ls (.ref a :: st) hp = (ab_fld hp a 1 0).bind (fun v => ab_X rom K cX6_putLabelsTold 4 2 10 ls (v :: st) hp) := ax_getfield dX6_putLabelsTold_7 kf_4_120 rfl
theorem dX6_putLabelsTold_10 : decode cX6_putLabelsTold 10 = .ok (.if_icmp .ge 45, 3) := by decide +kernel
theorem sX6_putLabelsTold_10 : ab_X rom K cX6_putLabelsTold 4 2 10 ls (.int y :: .int x :: st) hp = if x < y then ab_X rom K cX6_putLabelsTold 4 2 13 ls st hp else ab_X rom K cX6_putLabelsTold 4 2 55 ls st hp := ax_icmp_ge dX6_putLabelsTold_10 (by decide) rfl
theorem dX6_putLabelsTold_13 : decode cX6_putLabelsTold 13 = .ok (.aload_n 0, 1) := by decide +kernel
theorem sX6_putLabelsTold_13 : ab_X rom K cX6_putLabelsTold 4 2 13 (.ref a :: ls) st hp = ab_X rom K cX6_putLabelsTold 4 2 14 (.ref a :: ls) (.ref a :: st) hp := ax_aload_n dX6_putLabelsTold_13 rfl rfl
theorem dX6_putLabelsTold_14 : decode cX6_putLabelsTold 14 = .ok (.getfield 60, 3) := by decide +kernel
theorem sX6_putLabelsTold_14 : ab_X rom K cX6_putLabelsTold 4 2 14 ls (.ref a :: st) hp = (ab_fld hp a 4 5).bind (fun v => ab_X rom K cX6_putLabelsTold 4 2 17 ls (v :: st) hp) := ax_getfield dX6_putLabelsTold_14 kf_4_60 rfl
theorem dX6_putLabelsTold_17 : decode cX6_putLabelsTold 17 = .ok (.getfield 123, 3) := by decide +kernel
theorem sX6_putLabelsTold_17 : ab_X rom K cX6_putLabelsTold 4 2 17 ls (.ref a :: st) hp = (ab_fld hp a 1 4).bind (fun v => ab_X rom K cX6_putLabelsTold 4 2 20 ls (v :: st) hp) := ax_getfield dX6_putLabelsTold_17 kf_4_123 rfl
theorem dX6_putLabelsTold_20 : decode cX6_putLabelsTold 20 = .ok (.iload_n 1, 1) := by decide +kernel
theorem sX6_putLabelsTold_20 : ab_X rom K cX6_putLabelsTold 4 2 20 (v0 :: .int x :: ls) st hp = ab_X rom K cX6_putLabelsTold 4 2 21 (v0 :: .int x :: ls) (.int x :: st) hp := ax_iload_n dX6_putLabelsTold_20 rfl rfl
theorem dX6_putLabelsTold_21 : decode cX6_putLabelsTold 21 = .ok (.iaload, 1) := by decide +kernel
theorem sX6_putLabelsTold_21 : ab_X rom K cX6_putLabelsTold 4 2 21 ls (.int x :: .ref a :: st) hp = (ab_ard rom 0 hp a x).bind (fun v => ab_X rom K cX6_putLabelsTold 4 2 22 ls (.int v :: st) hp) := ax_iaload dX6_putLabelsTold_21 rfl
theorem dX6_putLabelsTold_22 : decode cX6_putLabelsTold 22 = .ok (.istore_n 2, 1) := by decide +kernel
theorem sX6_putLabelsTold_22i : ab_X rom K cX6_putLabelsTold 4 2 22 (v0 :: .int y :: v2 :: ls) (.int x :: st) hp = ab_X rom K cX6_putLabelsTold 4 2 23 (v0 :: .int y :: .int x :: ls) st hp := ax_istore_n dX6_putLabelsTold_22 (ax_lt (v := v2) rfl) (ab_nl_c1 (j := 1) (v := .int y) rfl (ab_c1_int _)) rfl rfl
theorem sX6_putLabelsTold_22r : ab_X rom K cX6_putLabelsTold 4 2 22 (v0 :: .ref a2 :: v2 :: ls) (.int x :: st) hp = ab_X rom K cX6_putLabelsTold 4 2 23 (v0 :: .ref a2 :: .int x :: ls) st hp := ax_istore_n dX6_putLabelsTold_22 (ax_lt (v := v2) rfl) (ab_nl_c1 (j := 1) (v := .ref a2) rfl (ab_c1_ref _)) rfl rfl
theorem sX6_putLabelsTold_22n : ab_X rom K cX6_putLabelsTold 4 2 22 (v0 :: .null :: v2 :: ls) (.int x :: st) hp = ab_X rom K cX6_putLabelsTold 4 2 23 (v0 :: .null :: .int x :: ls) st hp := ax_istore_n dX6_putLabelsTold_22 (ax_lt (v := v2) rfl) (ab_nl_c1 (j := 1) (v := .null) rfl ab_c1_null) rfl rfl
theorem dX6_putLabelsTold_23 : decode cX6_putLabelsTold 23 = .ok (.iload_n 2, 1) := by decide +kernel
theorem sX6_putLabelsTold_23 : ab_X rom K cX6_putLabelsTold 4 2 23 (v0 :: v1 :: .int x :: ls) st hp = ab_X rom K cX6_putLabelsTold 4 2 24 (v0 :: v1 :: .int x :: ls) (.int x :: st) hp := ax_iload_n dX6_putLabelsTold_23 rfl rfl
theorem dX6_putLabelsTold_24 : decode cX6_putLabelsTold 24 = .ok (.iconst (-1), 1) := by decide +kernel
theorem sX6_putLabelsTold_24 : ab_X rom K cX6_putLabelsTold 4 2 24 ls st hp = ab_X rom K cX6_putLabelsTold 4 2 25 ls (.int (-1) :: st) hp := ax_iconst dX6_putLabelsTold_24 (by decide) rfl
theorem dX6_putLabelsTold_25 : decode cX6_putLabelsTold 25 = .ok (.if_icmp .eq 24, 3) := by decide +kernel
theorem sX6_putLabelsTold_25 : ab_X rom K cX6_putLabelsTold 4 2 25 ls (.int y :: .int x :: st) hp = if x = y then ab_X rom K cX6_putLabelsTold 4 2 49 ls st hp else ab_X rom K cX6_putLabelsTold 4 2 28 ls st hp := ax_icmp_eq dX6_putLabelsTold_25 (by decide) rfl
theorem dX6_putLabelsTold_28 : decode cX6_putLabelsTold 28 = .ok (.aload_n 0, 1) := by decide +kernel
theorem sX6_putLabelsTold_28 : ab_X rom K cX6_putLabelsTold 4 2 28 (.ref a :: ls) st hp = ab_X rom K cX6_putLabelsTold 4 2 29 (.ref a :: ls) (.ref a :: st) hp := ax_aload_n dX6_putLabelsTold_28 rfl rfl
theorem dX6_putLabelsTold_29 : decode cX6_putLabelsTold 29 = .ok (.iload_n 1, 1) := by decide +kernel
theorem sX6_putLabelsTold_29 : ab_X rom K cX6_putLabelsTold 4 2 29 (v0 :: .int x :: ls) st hp = ab_X rom K cX6_putLabelsTold 4 2 30 (v0 :: .int x :: ls) (.int x :: st) hp := ax_iload_n dX6_putLabelsTold_29 rfl rfl
theorem dX6_putLabelsTold_30 : decode cX6_putLabelsTold 30 = .ok (.iload_n 2, 1) := by decide +kernel
theorem sX6_putLabelsTold_30 : ab_X rom K cX6_putLabelsTold 4 2 30 (v0 :: v1 :: .int x :: ls) st hp = ab_X rom K cX6_putLabelsTold 4 2 31 (v0 :: v1 :: .int x :: ls) (.int x :: st) hp := ax_iload_n dX6_putLabelsTold_30 rfl rfl
theorem dX6_putLabelsTold_31 : decode cX6_putLabelsTold 31 = .ok (.invokevirtual 124, 3) := by decide +kernel
theorem sX6_putLabelsTold_31_0 : ab_X rom K cX6_putLabelsTold 4 2 31 ls [w2, w1, .ref a] hp = if ab_iso hp a 4 = true then (K 74 (.ref a :: [w1, w2]) hp).bind (fun o => ab_X rom K cX6_putLabelsTold 4 2 34 ls (o.1.toList ++ []) o.2) else none := ay_virtual (as := [w1, w2]) (st := []) dX6_putLabelsTold_31 kc_4_124 rfl rfl (Nat.le_of_ble_eq_true rfl)
theorem sX6_putLabelsTold_31_1 : ab_X rom K cX6_putLabelsTold 4 2 31 ls [w2, w1, .ref a, v0] hp = if ab_iso hp a 4 = true then (K 74 (.ref a :: [w1, w2]) hp).bind (fun o => ab_X rom K cX6_putLabelsTold 4 2 34 ls (o.1.toList ++ [v0]) o.2) else none := ay_virtual (as := [w1, w2]) (st := [v0]) dX6_putLabelsTold_31 kc_4_124 rfl rfl (Nat.le_of_ble_eq_true rfl)
theorem sX6_putLabelsTold_31_2 : ab_X rom K cX6_putLabelsTold 4 2 31 ls [w2, w1, .ref a, v0, v1] hp = if ab_iso hp a 4 = true then (K 74 (.ref a :: [w1, w2]) hp).bind (fun o => ab_X rom K cX6_putLabelsTold 4 2 34 ls (o.1.toList ++ [v0, v1]) o.2) else none := ay_virtual (as := [w1, w2]) (st := [v0, v1]) dX6_putLabelsTold_31 kc_4_124 rfl rfl (Nat.le_of_ble_eq_true rfl)
theorem sX6_putLabelsTold_31_3 : ab_X rom K cX6_putLabelsTold 4 2 31 ls [w2, w1, .ref a, v0, v1, v2] hp = if ab_iso hp a 4 = true then (K 74 (.ref a :: [w1, w2]) hp).bind (fun o => ab_X rom K cX6_putLabelsTold 4 2 34 ls (o.1.toList ++ [v0, v1, v2]) o.2) else none := ay_virtual (as := [w1, w2]) (st := [v0, v1, v2]) dX6_putLabelsTold_31 kc_4_124 rfl rfl (Nat.le_of_ble_eq_true rfl)
theorem dX6_putLabelsTold_34 : decode cX6_putLabelsTold 34 = .ok (.istore_n 3, 1) := by decide +kernel
theorem sX6_putLabelsTold_34i : ab_X rom K cX6_putLabelsTold 4 2 34 (v0 :: v1 :: .int y :: v3 :: ls) (.int x :: st) hp = ab_X rom K cX6_putLabelsTold 4 2 35 (v0 :: v1 :: .int y :: .int x :: ls) st hp := ax_istore_n dX6_putLabelsTold_34 (ax_lt (v := v3) rfl) (ab_nl_c1 (j := 2) (v := .int y) rfl (ab_c1_int _)) rfl rfl
theorem sX6_putLabelsTold_34r : ab_X rom K cX6_putLabelsTold 4 2 34 (v0 :: v1 :: .ref a2 :: v3 :: ls) (.int x :: st) hp = ab_X rom K cX6_putLabelsTold 4 2 35 (v0 :: v1 :: .ref a2 :: .int x :: ls) st hp := ax_istore_n dX6_putLabelsTold_34 (ax_lt (v := v3) rfl) (ab_nl_c1 (j := 2) (v := .ref a2) rfl (ab_c1_ref _)) rfl rfl
theorem sX6_putLabelsTold_34n : ab_X rom K cX6_putLabelsTold 4 2 34 (v0 :: v1 :: .null :: v3 :: ls) (.int x :: st) hp = ab_X rom K cX6_putLabelsTold 4 2 35 (v0 :: v1 :: .null :: .int x :: ls) st hp := ax_istore_n dX6_putLabelsTold_34 (ax_lt (v := v3) rfl) (ab_nl_c1 (j := 2) (v := .null) rfl ab_c1_null) rfl rfl
theorem dX6_putLabelsTold_35 : decode cX6_putLabelsTold 35 = .ok (.iload_n 3, 1) := by decide +kernel
theorem sX6_putLabelsTold_35 : ab_X rom K cX6_putLabelsTold 4 2 35 (v0 :: v1 :: v2 :: .int x :: ls) st hp = ab_X rom K cX6_putLabelsTold 4 2 36 (v0 :: v1 :: v2 :: .int x :: ls) (.int x :: st) hp := ax_iload_n dX6_putLabelsTold_35 rfl rfl
theorem dX6_putLabelsTold_36 : decode cX6_putLabelsTold 36 = .ok (.iconst (-1), 1) := by decide +kernel
theorem sX6_putLabelsTold_36 : ab_X rom K cX6_putLabelsTold 4 2 36 ls st hp = ab_X rom K cX6_putLabelsTold 4 2 37 ls (.int (-1) :: st) hp := ax_iconst dX6_putLabelsTold_36 (by decide) rfl
theorem dX6_putLabelsTold_37 : decode cX6_putLabelsTold 37 = .ok (.if_icmp .ne 5, 3) := by decide +kernel
theorem sX6_putLabelsTold_37 : ab_X rom K cX6_putLabelsTold 4 2 37 ls (.int y :: .int x :: st) hp = if x = y then ab_X rom K cX6_putLabelsTold 4 2 40 ls st hp else ab_X rom K cX6_putLabelsTold 4 2 42 ls st hp := ax_icmp_ne dX6_putLabelsTold_37 (by decide) rfl
theorem dX6_putLabelsTold_40 : decode cX6_putLabelsTold 40 = .ok (.iconst 0, 1) := by decide +kernel
theorem sX6_putLabelsTold_40 : ab_X rom K cX6_putLabelsTold 4 2 40 ls st hp = ab_X rom K cX6_putLabelsTold 4 2 41 ls (.int 0 :: st) hp := ax_iconst dX6_putLabelsTold_40 (by decide) rfl
theorem dX6_putLabelsTold_41 : decode cX6_putLabelsTold 41 = .ok (.ireturn, 1) := by decide +kernel
theorem sX6_putLabelsTold_41 : ab_X rom K cX6_putLabelsTold 4 2 41 ls [.int x] hp = if x = 0 ∨ x = 1 then some (some (.int x), hp) else none := ay_zret dX6_putLabelsTold_41 rfl
theorem dX6_putLabelsTold_42 : decode cX6_putLabelsTold 42 = .ok (.aload_n 0, 1) := by decide +kernel
theorem sX6_putLabelsTold_42 : ab_X rom K cX6_putLabelsTold 4 2 42 (.ref a :: ls) st hp = ab_X rom K cX6_putLabelsTold 4 2 43 (.ref a :: ls) (.ref a :: st) hp := ax_aload_n dX6_putLabelsTold_42 rfl rfl
theorem dX6_putLabelsTold_43 : decode cX6_putLabelsTold 43 = .ok (.iload_n 1, 1) := by decide +kernel
theorem sX6_putLabelsTold_43 : ab_X rom K cX6_putLabelsTold 4 2 43 (v0 :: .int x :: ls) st hp = ab_X rom K cX6_putLabelsTold 4 2 44 (v0 :: .int x :: ls) (.int x :: st) hp := ax_iload_n dX6_putLabelsTold_43 rfl rfl
theorem dX6_putLabelsTold_44 : decode cX6_putLabelsTold 44 = .ok (.iload_n 2, 1) := by decide +kernel
theorem sX6_putLabelsTold_44 : ab_X rom K cX6_putLabelsTold 4 2 44 (v0 :: v1 :: .int x :: ls) st hp = ab_X rom K cX6_putLabelsTold 4 2 45 (v0 :: v1 :: .int x :: ls) (.int x :: st) hp := ax_iload_n dX6_putLabelsTold_44 rfl rfl
theorem dX6_putLabelsTold_45 : decode cX6_putLabelsTold 45 = .ok (.iload_n 3, 1) := by decide +kernel
theorem sX6_putLabelsTold_45 : ab_X rom K cX6_putLabelsTold 4 2 45 (v0 :: v1 :: v2 :: .int x :: ls) st hp = ab_X rom K cX6_putLabelsTold 4 2 46 (v0 :: v1 :: v2 :: .int x :: ls) (.int x :: st) hp := ax_iload_n dX6_putLabelsTold_45 rfl rfl
theorem dX6_putLabelsTold_46 : decode cX6_putLabelsTold 46 = .ok (.invokevirtual 127, 3) := by decide +kernel
theorem sX6_putLabelsTold_46_0 : ab_X rom K cX6_putLabelsTold 4 2 46 ls [w3, w2, w1, .ref a] hp = if ab_iso hp a 4 = true then (K 68 (.ref a :: [w1, w2, w3]) hp).bind (fun o => ab_X rom K cX6_putLabelsTold 4 2 49 ls (o.1.toList ++ []) o.2) else none := ay_virtual (as := [w1, w2, w3]) (st := []) dX6_putLabelsTold_46 kc_4_127 rfl rfl (Nat.le_of_ble_eq_true rfl)
theorem sX6_putLabelsTold_46_1 : ab_X rom K cX6_putLabelsTold 4 2 46 ls [w3, w2, w1, .ref a, v0] hp = if ab_iso hp a 4 = true then (K 68 (.ref a :: [w1, w2, w3]) hp).bind (fun o => ab_X rom K cX6_putLabelsTold 4 2 49 ls (o.1.toList ++ [v0]) o.2) else none := ay_virtual (as := [w1, w2, w3]) (st := [v0]) dX6_putLabelsTold_46 kc_4_127 rfl rfl (Nat.le_of_ble_eq_true rfl)
theorem sX6_putLabelsTold_46_2 : ab_X rom K cX6_putLabelsTold 4 2 46 ls [w3, w2, w1, .ref a, v0, v1] hp = if ab_iso hp a 4 = true then (K 68 (.ref a :: [w1, w2, w3]) hp).bind (fun o => ab_X rom K cX6_putLabelsTold 4 2 49 ls (o.1.toList ++ [v0, v1]) o.2) else none := ay_virtual (as := [w1, w2, w3]) (st := [v0, v1]) dX6_putLabelsTold_46 kc_4_127 rfl rfl (Nat.le_of_ble_eq_true rfl)
theorem sX6_putLabelsTold_46_3 : ab_X rom K cX6_putLabelsTold 4 2 46 ls [w3, w2, w1, .ref a, v0, v1, v2] hp = if ab_iso hp a 4 = true then (K 68 (.ref a :: [w1, w2, w3]) hp).bind (fun o => ab_X rom K cX6_putLabelsTold 4 2 49 ls (o.1.toList ++ [v0, v1, v2]) o.2) else none := ay_virtual (as := [w1, w2, w3]) (st := [v0, v1, v2]) dX6_putLabelsTold_46 kc_4_127 rfl rfl (Nat.le_of_ble_eq_true rfl)
theorem dX6_putLabelsTold_49 : decode cX6_putLabelsTold 49 = .ok (.iinc 1 1, 3) := by decide +kernel
theorem sX6_putLabelsTold_49i : ab_X rom K cX6_putLabelsTold 4 2 49 (.int y :: .int x :: ls) st hp = ab_X rom K cX6_putLabelsTold 4 2 52 (.int y :: .int (x + 1) :: ls) st hp := ax_iinc dX6_putLabelsTold_49 rfl (ab_nl_c1 (j := 0) (v := .int y) rfl (ab_c1_int _)) (by decide) rfl rfl
theorem sX6_putLabelsTold_49r : ab_X rom K cX6_putLabelsTold 4 2 49 (.ref a2 :: .int x :: ls) st hp = ab_X rom K cX6_putLabelsTold 4 2 52 (.ref a2 :: .int (x + 1) :: ls) st hp := ax_iinc dX6_putLabelsTold_49 rfl (ab_nl_c1 (j := 0) (v := .ref a2) rfl (ab_c1_ref _)) (by decide) rfl rfl
theorem sX6_putLabelsTold_49n : ab_X rom K cX6_putLabelsTold 4 2 49 (.null :: .int x :: ls) st hp = ab_X rom K cX6_putLabelsTold 4 2 52 (.null :: .int (x + 1) :: ls) st hp := ax_iinc dX6_putLabelsTold_49 rfl (ab_nl_c1 (j := 0) (v := .null) rfl ab_c1_null) (by decide) rfl rfl
theorem dX6_putLabelsTold_52 : decode cX6_putLabelsTold 52 = .ok (.goto (-50), 3) := by decide +kernel
theorem sX6_putLabelsTold_52 : ab_X rom K cX6_putLabelsTold 4 2 52 ls st hp = ab_X rom K cX6_putLabelsTold 4 2 2 ls st hp := ax_goto dX6_putLabelsTold_52 (by decide)
theorem dX6_putLabelsTold_55 : decode cX6_putLabelsTold 55 = .ok (.iconst 1, 1) := by decide +kernel
theorem sX6_putLabelsTold_55 : ab_X rom K cX6_putLabelsTold 4 2 55 ls st hp = ab_X rom K cX6_putLabelsTold 4 2 56 ls (.int 1 :: st) hp := ax_iconst dX6_putLabelsTold_55 (by decide) rfl
theorem dX6_putLabelsTold_56 : decode cX6_putLabelsTold 56 = .ok (.ireturn, 1) := by decide +kernel
theorem sX6_putLabelsTold_56 : ab_X rom K cX6_putLabelsTold 4 2 56 ls [.int x] hp = if x = 0 ∨ x = 1 then some (some (.int x), hp) else none := ay_zret dX6_putLabelsTold_56 rfl
theorem tX6_run : ab_mT[71]? = some (yX6_run, cX6_run, 4, 0, 4) := by decide +kernel
theorem mX6_run {d : Nat} {a0 : Nat} {r0 : Nat} {x1 : Int32} {x2 : Int32} : ab_M rom (d + 1) 71 [.ref a0, .ref r0, .int x1, .int x2] hp = ab_X rom (ab_M rom d) cX6_run 4 0 0 [.ref a0, .ref r0, .int x1, .int x2] [] hp := ab_M_eq tX6_run (Nat.le_of_ble_eq_true rfl)
theorem dX6_run_0 : decode cX6_run 0 = .ok (.aload_n 1, 1) := by decide +kernel
theorem sX6_run_0 : ab_X rom K cX6_run 4 0 0 (v0 :: .ref a :: ls) st hp = ab_X rom K cX6_run 4 0 1 (v0 :: .ref a :: ls) (.ref a :: st) hp := ax_aload_n dX6_run_0 rfl rfl
theorem dX6_run_1 : decode cX6_run 1 = .ok (.iload_n 2, 1) := by decide +kernel
theorem sX6_run_1 : ab_X rom K cX6_run 4 0 1 (v0 :: v1 :: .int x :: ls) st hp = ab_X rom K cX6_run 4 0 2 (v0 :: v1 :: .int x :: ls) (.int x :: st) hp := ax_iload_n dX6_run_1 rfl rfl
theorem dX6_run_2 : decode cX6_run 2 = .ok (.invokestatic 69, 3) := by decide +kernel
theorem sX6_run_2_0 : ab_X rom K cX6_run 4 0 2 ls [w2, w1] hp = (K 248 [w1, w2] hp).bind (fun o => ab_X rom K cX6_run 4 0 5 ls (o.1.toList ++ []) o.2) := ax_static (as := [w1, w2]) (st := []) dX6_run_2 kc_4_69 rfl rfl (Nat.le_of_ble_eq_true rfl)
theorem sX6_run_2_1 : ab_X rom K cX6_run 4 0 2 ls [w2, w1, v0] hp = (K 248 [w1, w2] hp).bind (fun o => ab_X rom K cX6_run 4 0 5 ls (o.1.toList ++ [v0]) o.2) := ax_static (as := [w1, w2]) (st := [v0]) dX6_run_2 kc_4_69 rfl rfl (Nat.le_of_ble_eq_true rfl)
theorem sX6_run_2_2 : ab_X rom K cX6_run 4 0 2 ls [w2, w1, v0, v1] hp = (K 248 [w1, w2] hp).bind (fun o => ab_X rom K cX6_run 4 0 5 ls (o.1.toList ++ [v0, v1]) o.2) := ax_static (as := [w1, w2]) (st := [v0, v1]) dX6_run_2 kc_4_69 rfl rfl (Nat.le_of_ble_eq_true rfl)
theorem sX6_run_2_3 : ab_X rom K cX6_run 4 0 2 ls [w2, w1, v0, v1, v2] hp = (K 248 [w1, w2] hp).bind (fun o => ab_X rom K cX6_run 4 0 5 ls (o.1.toList ++ [v0, v1, v2]) o.2) := ax_static (as := [w1, w2]) (st := [v0, v1, v2]) dX6_run_2 kc_4_69 rfl rfl (Nat.le_of_ble_eq_true rfl)
theorem dX6_run_5 : decode cX6_run 5 = .ok (.ifCond .eq 4, 3) := by decide +kernel
theorem sX6_run_5 : ab_X rom K cX6_run 4 0 5 ls (.int x :: st) hp = if x = 0 then ab_X rom K cX6_run 4 0 9 ls st hp else ab_X rom K cX6_run 4 0 8 ls st hp := ax_if_eq dX6_run_5 (by decide) rfl
theorem dX6_run_8 : decode cX6_run 8 = .ok (.return_, 1) := by decide +kernel
theorem sX6_run_8 : ab_X rom K cX6_run 4 0 8 ls [] hp = some (none, hp) := ax_vret dX6_run_8 (by decide)
theorem dX6_run_9 : decode cX6_run 9 = .ok (.aload_n 0, 1) := by decide +kernel
theorem sX6_run_9 : ab_X rom K cX6_run 4 0 9 (.ref a :: ls) st hp = ab_X rom K cX6_run 4 0 10 (.ref a :: ls) (.ref a :: st) hp := ax_aload_n dX6_run_9 rfl rfl
theorem dX6_run_10 : decode cX6_run 10 = .ok (.aload_n 1, 1) := by decide +kernel
theorem sX6_run_10 : ab_X rom K cX6_run 4 0 10 (v0 :: .ref a :: ls) st hp = ab_X rom K cX6_run 4 0 11 (v0 :: .ref a :: ls) (.ref a :: st) hp := ax_aload_n dX6_run_10 rfl rfl
theorem dX6_run_11 : decode cX6_run 11 = .ok (.iload_n 2, 1) := by decide +kernel
theorem sX6_run_11 : ab_X rom K cX6_run 4 0 11 (v0 :: v1 :: .int x :: ls) st hp = ab_X rom K cX6_run 4 0 12 (v0 :: v1 :: .int x :: ls) (.int x :: st) hp := ax_iload_n dX6_run_11 rfl rfl
theorem dX6_run_12 : decode cX6_run 12 = .ok (.iload_n 3, 1) := by decide +kernel
theorem sX6_run_12 : ab_X rom K cX6_run 4 0 12 (v0 :: v1 :: v2 :: .int x :: ls) st hp = ab_X rom K cX6_run 4 0 13 (v0 :: v1 :: v2 :: .int x :: ls) (.int x :: st) hp := ax_iload_n dX6_run_12 rfl rfl
theorem dX6_run_13 : decode cX6_run 13 = .ok (.invokevirtual 78, 3) := by decide +kernel
theorem sX6_run_13_0 : ab_X rom K cX6_run 4 0 13 ls [w3, w2, w1, .ref a] hp = if ab_iso hp a 4 = true then (K 58 (.ref a :: [w1, w2, w3]) hp).bind (fun o => ab_X rom K cX6_run 4 0 16 ls (o.1.toList ++ []) o.2) else none := ay_virtual (as := [w1, w2, w3]) (st := []) dX6_run_13 kc_4_78 rfl rfl (Nat.le_of_ble_eq_true rfl)
theorem sX6_run_13_1 : ab_X rom K cX6_run 4 0 13 ls [w3, w2, w1, .ref a, v0] hp = if ab_iso hp a 4 = true then (K 58 (.ref a :: [w1, w2, w3]) hp).bind (fun o => ab_X rom K cX6_run 4 0 16 ls (o.1.toList ++ [v0]) o.2) else none := ay_virtual (as := [w1, w2, w3]) (st := [v0]) dX6_run_13 kc_4_78 rfl rfl (Nat.le_of_ble_eq_true rfl)
theorem sX6_run_13_2 : ab_X rom K cX6_run 4 0 13 ls [w3, w2, w1, .ref a, v0, v1] hp = if ab_iso hp a 4 = true then (K 58 (.ref a :: [w1, w2, w3]) hp).bind (fun o => ab_X rom K cX6_run 4 0 16 ls (o.1.toList ++ [v0, v1]) o.2) else none := ay_virtual (as := [w1, w2, w3]) (st := [v0, v1]) dX6_run_13 kc_4_78 rfl rfl (Nat.le_of_ble_eq_true rfl)
theorem sX6_run_13_3 : ab_X rom K cX6_run 4 0 13 ls [w3, w2, w1, .ref a, v0, v1, v2] hp = if ab_iso hp a 4 = true then (K 58 (.ref a :: [w1, w2, w3]) hp).bind (fun o => ab_X rom K cX6_run 4 0 16 ls (o.1.toList ++ [v0, v1, v2]) o.2) else none := ay_virtual (as := [w1, w2, w3]) (st := [v0, v1, v2]) dX6_run_13 kc_4_78 rfl rfl (Nat.le_of_ble_eq_true rfl)
theorem dX6_run_16 : decode cX6_run 16 = .ok (.aload_n 0, 1) := by decide +kernel
theorem sX6_run_16 : ab_X rom K cX6_run 4 0 16 (.ref a :: ls) st hp = ab_X rom K cX6_run 4 0 17 (.ref a :: ls) (.ref a :: st) hp := ax_aload_n dX6_run_16 rfl rfl
theorem dX6_run_17 : decode cX6_run 17 = .ok (.invokevirtual 91, 3) := by decide +kernel
theorem sX6_run_17_0 : ab_X rom K cX6_run 4 0 17 ls [.ref a] hp = if ab_iso hp a 4 = true then (K 70 (.ref a :: []) hp).bind (fun o => ab_X rom K cX6_run 4 0 20 ls (o.1.toList ++ []) o.2) else none := ay_virtual (as := []) (st := []) dX6_run_17 kc_4_91 rfl rfl (Nat.le_of_ble_eq_true rfl)
theorem sX6_run_17_1 : ab_X rom K cX6_run 4 0 17 ls [.ref a, v0] hp = if ab_iso hp a 4 = true then (K 70 (.ref a :: []) hp).bind (fun o => ab_X rom K cX6_run 4 0 20 ls (o.1.toList ++ [v0]) o.2) else none := ay_virtual (as := []) (st := [v0]) dX6_run_17 kc_4_91 rfl rfl (Nat.le_of_ble_eq_true rfl)
theorem sX6_run_17_2 : ab_X rom K cX6_run 4 0 17 ls [.ref a, v0, v1] hp = if ab_iso hp a 4 = true then (K 70 (.ref a :: []) hp).bind (fun o => ab_X rom K cX6_run 4 0 20 ls (o.1.toList ++ [v0, v1]) o.2) else none := ay_virtual (as := []) (st := [v0, v1]) dX6_run_17 kc_4_91 rfl rfl (Nat.le_of_ble_eq_true rfl)
theorem sX6_run_17_3 : ab_X rom K cX6_run 4 0 17 ls [.ref a, v0, v1, v2] hp = if ab_iso hp a 4 = true then (K 70 (.ref a :: []) hp).bind (fun o => ab_X rom K cX6_run 4 0 20 ls (o.1.toList ++ [v0, v1, v2]) o.2) else none := ay_virtual (as := []) (st := [v0, v1, v2]) dX6_run_17 kc_4_91 rfl rfl (Nat.le_of_ble_eq_true rfl)
theorem dX6_run_20 : decode cX6_run 20 = .ok (.ifCond .ne 4, 3) := by decide +kernel
theorem sX6_run_20 : ab_X rom K cX6_run 4 0 20 ls (.int x :: st) hp = if x = 0 then ab_X rom K cX6_run 4 0 23 ls st hp else ab_X rom K cX6_run 4 0 24 ls st hp := ax_if_ne dX6_run_20 (by decide) rfl
theorem dX6_run_23 : decode cX6_run 23 = .ok (.return_, 1) := by decide +kernel
theorem sX6_run_23 : ab_X rom K cX6_run 4 0 23 ls [] hp = some (none, hp) := ax_vret dX6_run_23 (by decide)
theorem dX6_run_24 : decode cX6_run 24 = .ok (.aload_n 0, 1) := by decide +kernel
theorem sX6_run_24 : ab_X rom K cX6_run 4 0 24 (.ref a :: ls) st hp = ab_X rom K cX6_run 4 0 25 (.ref a :: ls) (.ref a :: st) hp := ax_aload_n dX6_run_24 rfl rfl
theorem dX6_run_25 : decode cX6_run 25 = .ok (.getfield 31, 3) := by decide +kernel
theorem sX6_run_25 : ab_X rom K cX6_run 4 0 25 ls (.ref a :: st) hp = (ab_fld hp a 4 6).bind (fun v => ab_X rom K cX6_run 4 0 28 ls (v :: st) hp) := ax_getfield dX6_run_25 kf_4_31 rfl
theorem dX6_run_28 : decode cX6_run 28 = .ok (.iconst 2, 1) := by decide +kernel
theorem sX6_run_28 : ab_X rom K cX6_run 4 0 28 ls st hp = ab_X rom K cX6_run 4 0 29 ls (.int 2 :: st) hp := ax_iconst dX6_run_28 (by decide) rfl
theorem dX6_run_29 : decode cX6_run 29 = .ok (.if_icmp .eq 11, 3) := by decide +kernel
theorem sX6_run_29 : ab_X rom K cX6_run 4 0 29 ls (.int y :: .int x :: st) hp = if x = y then ab_X rom K cX6_run 4 0 40 ls st hp else ab_X rom K cX6_run 4 0 32 ls st hp := ax_icmp_eq dX6_run_29 (by decide) rfl
theorem dX6_run_32 : decode cX6_run 32 = .ok (.aload_n 0, 1) := by decide +kernel
theorem sX6_run_32 : ab_X rom K cX6_run 4 0 32 (.ref a :: ls) st hp = ab_X rom K cX6_run 4 0 33 (.ref a :: ls) (.ref a :: st) hp := ax_aload_n dX6_run_32 rfl rfl
theorem dX6_run_33 : decode cX6_run 33 = .ok (.getfield 31, 3) := by decide +kernel
theorem sX6_run_33 : ab_X rom K cX6_run 4 0 33 ls (.ref a :: st) hp = (ab_fld hp a 4 6).bind (fun v => ab_X rom K cX6_run 4 0 36 ls (v :: st) hp) := ax_getfield dX6_run_33 kf_4_31 rfl
theorem dX6_run_36 : decode cX6_run 36 = .ok (.iconst 4, 1) := by decide +kernel
theorem sX6_run_36 : ab_X rom K cX6_run 4 0 36 ls st hp = ab_X rom K cX6_run 4 0 37 ls (.int 4 :: st) hp := ax_iconst dX6_run_36 (by decide) rfl
theorem dX6_run_37 : decode cX6_run 37 = .ok (.if_icmp .ne 15, 3) := by decide +kernel
theorem sX6_run_37 : ab_X rom K cX6_run 4 0 37 ls (.int y :: .int x :: st) hp = if x = y then ab_X rom K cX6_run 4 0 40 ls st hp else ab_X rom K cX6_run 4 0 52 ls st hp := ax_icmp_ne dX6_run_37 (by decide) rfl
theorem dX6_run_40 : decode cX6_run 40 = .ok (.aload_n 0, 1) := by decide +kernel
theorem sX6_run_40 : ab_X rom K cX6_run 4 0 40 (.ref a :: ls) st hp = ab_X rom K cX6_run 4 0 41 (.ref a :: ls) (.ref a :: st) hp := ax_aload_n dX6_run_40 rfl rfl
theorem dX6_run_41 : decode cX6_run 41 = .ok (.invokevirtual 95, 3) := by decide +kernel
theorem sX6_run_41_0 : ab_X rom K cX6_run 4 0 41 ls [.ref a] hp = if ab_iso hp a 4 = true then (K 63 (.ref a :: []) hp).bind (fun o => ab_X rom K cX6_run 4 0 44 ls (o.1.toList ++ []) o.2) else none := ay_virtual (as := []) (st := []) dX6_run_41 kc_4_95 rfl rfl (Nat.le_of_ble_eq_true rfl)
theorem sX6_run_41_1 : ab_X rom K cX6_run 4 0 41 ls [.ref a, v0] hp = if ab_iso hp a 4 = true then (K 63 (.ref a :: []) hp).bind (fun o => ab_X rom K cX6_run 4 0 44 ls (o.1.toList ++ [v0]) o.2) else none := ay_virtual (as := []) (st := [v0]) dX6_run_41 kc_4_95 rfl rfl (Nat.le_of_ble_eq_true rfl)
theorem sX6_run_41_2 : ab_X rom K cX6_run 4 0 41 ls [.ref a, v0, v1] hp = if ab_iso hp a 4 = true then (K 63 (.ref a :: []) hp).bind (fun o => ab_X rom K cX6_run 4 0 44 ls (o.1.toList ++ [v0, v1]) o.2) else none := ay_virtual (as := []) (st := [v0, v1]) dX6_run_41 kc_4_95 rfl rfl (Nat.le_of_ble_eq_true rfl)
theorem sX6_run_41_3 : ab_X rom K cX6_run 4 0 41 ls [.ref a, v0, v1, v2] hp = if ab_iso hp a 4 = true then (K 63 (.ref a :: []) hp).bind (fun o => ab_X rom K cX6_run 4 0 44 ls (o.1.toList ++ [v0, v1, v2]) o.2) else none := ay_virtual (as := []) (st := [v0, v1, v2]) dX6_run_41 kc_4_95 rfl rfl (Nat.le_of_ble_eq_true rfl)
theorem dX6_run_44 : decode cX6_run 44 = .ok (.aload_n 0, 1) := by decide +kernel
theorem sX6_run_44 : ab_X rom K cX6_run 4 0 44 (.ref a :: ls) st hp = ab_X rom K cX6_run 4 0 45 (.ref a :: ls) (.ref a :: st) hp := ax_aload_n dX6_run_44 rfl rfl
theorem dX6_run_45 : decode cX6_run 45 = .ok (.iconst 0, 1) := by decide +kernel
theorem sX6_run_45 : ab_X rom K cX6_run 4 0 45 ls st hp = ab_X rom K cX6_run 4 0 46 ls (.int 0 :: st) hp := ax_iconst dX6_run_45 (by decide) rfl
theorem dX6_run_46 : decode cX6_run 46 = .ok (.invokestatic 98, 3) := by decide +kernel
theorem sX6_run_46_0 : ab_X rom K cX6_run 4 0 46 ls [w2, w1] hp = (K 67 [w1, w2] hp).bind (fun o => ab_X rom K cX6_run 4 0 49 ls (o.1.toList ++ []) o.2) := ax_static (as := [w1, w2]) (st := []) dX6_run_46 kc_4_98 rfl rfl (Nat.le_of_ble_eq_true rfl)
theorem sX6_run_46_1 : ab_X rom K cX6_run 4 0 46 ls [w2, w1, v0] hp = (K 67 [w1, w2] hp).bind (fun o => ab_X rom K cX6_run 4 0 49 ls (o.1.toList ++ [v0]) o.2) := ax_static (as := [w1, w2]) (st := [v0]) dX6_run_46 kc_4_98 rfl rfl (Nat.le_of_ble_eq_true rfl)
theorem sX6_run_46_2 : ab_X rom K cX6_run 4 0 46 ls [w2, w1, v0, v1] hp = (K 67 [w1, w2] hp).bind (fun o => ab_X rom K cX6_run 4 0 49 ls (o.1.toList ++ [v0, v1]) o.2) := ax_static (as := [w1, w2]) (st := [v0, v1]) dX6_run_46 kc_4_98 rfl rfl (Nat.le_of_ble_eq_true rfl)
theorem sX6_run_46_3 : ab_X rom K cX6_run 4 0 46 ls [w2, w1, v0, v1, v2] hp = (K 67 [w1, w2] hp).bind (fun o => ab_X rom K cX6_run 4 0 49 ls (o.1.toList ++ [v0, v1, v2]) o.2) := ax_static (as := [w1, w2]) (st := [v0, v1, v2]) dX6_run_46 kc_4_98 rfl rfl (Nat.le_of_ble_eq_true rfl)
theorem dX6_run_49 : decode cX6_run 49 = .ok (.goto 17, 3) := by decide +kernel
theorem sX6_run_49 : ab_X rom K cX6_run 4 0 49 ls st hp = ab_X rom K cX6_run 4 0 66 ls st hp := ax_goto dX6_run_49 (by decide)
theorem dX6_run_52 : decode cX6_run 52 = .ok (.aload_n 0, 1) := by decide +kernel
theorem sX6_run_52 : ab_X rom K cX6_run 4 0 52 (.ref a :: ls) st hp = ab_X rom K cX6_run 4 0 53 (.ref a :: ls) (.ref a :: st) hp := ax_aload_n dX6_run_52 rfl rfl
theorem dX6_run_53 : decode cX6_run 53 = .ok (.invokevirtual 81, 3) := by decide +kernel
theorem sX6_run_53_0 : ab_X rom K cX6_run 4 0 53 ls [.ref a] hp = if ab_iso hp a 4 = true then (K 64 (.ref a :: []) hp).bind (fun o => ab_X rom K cX6_run 4 0 56 ls (o.1.toList ++ []) o.2) else none := ay_virtual (as := []) (st := []) dX6_run_53 kc_4_81 rfl rfl (Nat.le_of_ble_eq_true rfl)
theorem sX6_run_53_1 : ab_X rom K cX6_run 4 0 53 ls [.ref a, v0] hp = if ab_iso hp a 4 = true then (K 64 (.ref a :: []) hp).bind (fun o => ab_X rom K cX6_run 4 0 56 ls (o.1.toList ++ [v0]) o.2) else none := ay_virtual (as := []) (st := [v0]) dX6_run_53 kc_4_81 rfl rfl (Nat.le_of_ble_eq_true rfl)
theorem sX6_run_53_2 : ab_X rom K cX6_run 4 0 53 ls [.ref a, v0, v1] hp = if ab_iso hp a 4 = true then (K 64 (.ref a :: []) hp).bind (fun o => ab_X rom K cX6_run 4 0 56 ls (o.1.toList ++ [v0, v1]) o.2) else none := ay_virtual (as := []) (st := [v0, v1]) dX6_run_53 kc_4_81 rfl rfl (Nat.le_of_ble_eq_true rfl)
theorem sX6_run_53_3 : ab_X rom K cX6_run 4 0 53 ls [.ref a, v0, v1, v2] hp = if ab_iso hp a 4 = true then (K 64 (.ref a :: []) hp).bind (fun o => ab_X rom K cX6_run 4 0 56 ls (o.1.toList ++ [v0, v1, v2]) o.2) else none := ay_virtual (as := []) (st := [v0, v1, v2]) dX6_run_53 kc_4_81 rfl rfl (Nat.le_of_ble_eq_true rfl)
theorem dX6_run_56 : decode cX6_run 56 = .ok (.aload_n 0, 1) := by decide +kernel
theorem sX6_run_56 : ab_X rom K cX6_run 4 0 56 (.ref a :: ls) st hp = ab_X rom K cX6_run 4 0 57 (.ref a :: ls) (.ref a :: st) hp := ax_aload_n dX6_run_56 rfl rfl
theorem dX6_run_57 : decode cX6_run 57 = .ok (.aload_n 0, 1) := by decide +kernel
theorem sX6_run_57 : ab_X rom K cX6_run 4 0 57 (.ref a :: ls) st hp = ab_X rom K cX6_run 4 0 58 (.ref a :: ls) (.ref a :: st) hp := ax_aload_n dX6_run_57 rfl rfl
theorem dX6_run_58 : decode cX6_run 58 = .ok (.getfield 35, 3) := by decide +kernel
theorem sX6_run_58 : ab_X rom K cX6_run 4 0 58 ls (.ref a :: st) hp = (ab_fld hp a 4 7).bind (fun v => ab_X rom K cX6_run 4 0 61 ls (v :: st) hp) := ax_getfield dX6_run_58 kf_4_35 rfl
theorem dX6_run_61 : decode cX6_run 61 = .ok (.iconst 0, 1) := by decide +kernel
theorem sX6_run_61 : ab_X rom K cX6_run 4 0 61 ls st hp = ab_X rom K cX6_run 4 0 62 ls (.int 0 :: st) hp := ax_iconst dX6_run_61 (by decide) rfl
theorem dX6_run_62 : decode cX6_run 62 = .ok (.iconst 0, 1) := by decide +kernel
theorem sX6_run_62 : ab_X rom K cX6_run 4 0 62 ls st hp = ab_X rom K cX6_run 4 0 63 ls (.int 0 :: st) hp := ax_iconst dX6_run_62 (by decide) rfl
theorem dX6_run_63 : decode cX6_run 63 = .ok (.invokestatic 84, 3) := by decide +kernel
theorem sX6_run_63_0 : ab_X rom K cX6_run 4 0 63 ls [w4, w3, w2, w1] hp = (K 65 [w1, w2, w3, w4] hp).bind (fun o => ab_X rom K cX6_run 4 0 66 ls (o.1.toList ++ []) o.2) := ax_static (as := [w1, w2, w3, w4]) (st := []) dX6_run_63 kc_4_84 rfl rfl (Nat.le_of_ble_eq_true rfl)
theorem sX6_run_63_1 : ab_X rom K cX6_run 4 0 63 ls [w4, w3, w2, w1, v0] hp = (K 65 [w1, w2, w3, w4] hp).bind (fun o => ab_X rom K cX6_run 4 0 66 ls (o.1.toList ++ [v0]) o.2) := ax_static (as := [w1, w2, w3, w4]) (st := [v0]) dX6_run_63 kc_4_84 rfl rfl (Nat.le_of_ble_eq_true rfl)
theorem sX6_run_63_2 : ab_X rom K cX6_run 4 0 63 ls [w4, w3, w2, w1, v0, v1] hp = (K 65 [w1, w2, w3, w4] hp).bind (fun o => ab_X rom K cX6_run 4 0 66 ls (o.1.toList ++ [v0, v1]) o.2) := ax_static (as := [w1, w2, w3, w4]) (st := [v0, v1]) dX6_run_63 kc_4_84 rfl rfl (Nat.le_of_ble_eq_true rfl)
theorem sX6_run_63_3 : ab_X rom K cX6_run 4 0 63 ls [w4, w3, w2, w1, v0, v1, v2] hp = (K 65 [w1, w2, w3, w4] hp).bind (fun o => ab_X rom K cX6_run 4 0 66 ls (o.1.toList ++ [v0, v1, v2]) o.2) := ax_static (as := [w1, w2, w3, w4]) (st := [v0, v1, v2]) dX6_run_63 kc_4_84 rfl rfl (Nat.le_of_ble_eq_true rfl)
theorem dX6_run_66 : decode cX6_run 66 = .ok (.return_, 1) := by decide +kernel
theorem sX6_run_66 : ab_X rom K cX6_run 4 0 66 ls [] hp = some (none, hp) := ax_vret dX6_run_66 (by decide)
theorem tX6_takeBack : ab_mT[72]? = some (yX6_takeBack, cX6_takeBack, 4, 0, 4) := by decide +kernel
theorem mX6_takeBack {d : Nat} {a0 : Nat} {x0 : Int32} {x1 : Int32} : ab_M rom (d + 1) 72 [.ref a0, .int x0, .int x1] hp = ab_X rom (ab_M rom d) cX6_takeBack 4 0 0 [.ref a0, .int x0, .int x1, .null] [] hp := ab_M_eq tX6_takeBack (Nat.le_of_ble_eq_true rfl)
theorem dX6_takeBack_0 : decode cX6_takeBack 0 = .ok (.aload_n 0, 1) := by decide +kernel
theorem sX6_takeBack_0 : ab_X rom K cX6_takeBack 4 0 0 (.ref a :: ls) st hp = ab_X rom K cX6_takeBack 4 0 1 (.ref a :: ls) (.ref a :: st) hp := ax_aload_n dX6_takeBack_0 rfl rfl
theorem dX6_takeBack_1 : decode cX6_takeBack 1 = .ok (.getfield 18, 3) := by decide +kernel
theorem sX6_takeBack_1 : ab_X rom K cX6_takeBack 4 0 1 ls (.ref a :: st) hp = (ab_fld hp a 4 1).bind (fun v => ab_X rom K cX6_takeBack 4 0 4 ls (v :: st) hp) := ax_getfield dX6_takeBack_1 kf_4_18 rfl
theorem dX6_takeBack_4 : decode cX6_takeBack 4 = .ok (.iload_n 1, 1) := by decide +kernel
theorem sX6_takeBack_4 : ab_X rom K cX6_takeBack 4 0 4 (v0 :: .int x :: ls) st hp = ab_X rom K cX6_takeBack 4 0 5 (v0 :: .int x :: ls) (.int x :: st) hp := ax_iload_n dX6_takeBack_4 rfl rfl
theorem dX6_takeBack_5 : decode cX6_takeBack 5 = .ok (.iaload, 1) := by decide +kernel
theorem sX6_takeBack_5 : ab_X rom K cX6_takeBack 4 0 5 ls (.int x :: .ref a :: st) hp = (ab_ard rom 0 hp a x).bind (fun v => ab_X rom K cX6_takeBack 4 0 6 ls (.int v :: st) hp) := ax_iaload dX6_takeBack_5 rfl
theorem dX6_takeBack_6 : decode cX6_takeBack 6 = .ok (.istore_n 3, 1) := by decide +kernel
theorem sX6_takeBack_6i : ab_X rom K cX6_takeBack 4 0 6 (v0 :: v1 :: .int y :: v3 :: ls) (.int x :: st) hp = ab_X rom K cX6_takeBack 4 0 7 (v0 :: v1 :: .int y :: .int x :: ls) st hp := ax_istore_n dX6_takeBack_6 (ax_lt (v := v3) rfl) (ab_nl_c1 (j := 2) (v := .int y) rfl (ab_c1_int _)) rfl rfl
theorem sX6_takeBack_6r : ab_X rom K cX6_takeBack 4 0 6 (v0 :: v1 :: .ref a2 :: v3 :: ls) (.int x :: st) hp = ab_X rom K cX6_takeBack 4 0 7 (v0 :: v1 :: .ref a2 :: .int x :: ls) st hp := ax_istore_n dX6_takeBack_6 (ax_lt (v := v3) rfl) (ab_nl_c1 (j := 2) (v := .ref a2) rfl (ab_c1_ref _)) rfl rfl
theorem sX6_takeBack_6n : ab_X rom K cX6_takeBack 4 0 6 (v0 :: v1 :: .null :: v3 :: ls) (.int x :: st) hp = ab_X rom K cX6_takeBack 4 0 7 (v0 :: v1 :: .null :: .int x :: ls) st hp := ax_istore_n dX6_takeBack_6 (ax_lt (v := v3) rfl) (ab_nl_c1 (j := 2) (v := .null) rfl ab_c1_null) rfl rfl
theorem dX6_takeBack_7 : decode cX6_takeBack 7 = .ok (.aload_n 0, 1) := by decide +kernel
theorem sX6_takeBack_7 : ab_X rom K cX6_takeBack 4 0 7 (.ref a :: ls) st hp = ab_X rom K cX6_takeBack 4 0 8 (.ref a :: ls) (.ref a :: st) hp := ax_aload_n dX6_takeBack_7 rfl rfl
theorem dX6_takeBack_8 : decode cX6_takeBack 8 = .ok (.getfield 22, 3) := by decide +kernel
theorem sX6_takeBack_8 : ab_X rom K cX6_takeBack 4 0 8 ls (.ref a :: st) hp = (ab_fld hp a 4 2).bind (fun v => ab_X rom K cX6_takeBack 4 0 11 ls (v :: st) hp) := ax_getfield dX6_takeBack_8 kf_4_22 rfl
theorem dX6_takeBack_11 : decode cX6_takeBack 11 = .ok (.iload_n 3, 1) := by decide +kernel
theorem sX6_takeBack_11 : ab_X rom K cX6_takeBack 4 0 11 (v0 :: v1 :: v2 :: .int x :: ls) st hp = ab_X rom K cX6_takeBack 4 0 12 (v0 :: v1 :: v2 :: .int x :: ls) (.int x :: st) hp := ax_iload_n dX6_takeBack_11 rfl rfl
theorem dX6_takeBack_12 : decode cX6_takeBack 12 = .ok (.dup2, 1) := by decide +kernel
theorem sX6_takeBack_12 : ab_X rom K cX6_takeBack 4 0 12 ls (.int x :: .ref a :: st) hp = ab_X rom K cX6_takeBack 4 0 13 ls (.int x :: .ref a :: .int x :: .ref a :: st) hp := ax_dup2 dX6_takeBack_12 rfl (ab_c1_int _) (ab_c1_ref _)
theorem dX6_takeBack_13 : decode cX6_takeBack 13 = .ok (.iaload, 1) := by decide +kernel
theorem sX6_takeBack_13 : ab_X rom K cX6_takeBack 4 0 13 ls (.int x :: .ref a :: st) hp = (ab_ard rom 0 hp a x).bind (fun v => ab_X rom K cX6_takeBack 4 0 14 ls (.int v :: st) hp) := ax_iaload dX6_takeBack_13 rfl
theorem dX6_takeBack_14 : decode cX6_takeBack 14 = .ok (.iconst 1, 1) := by decide +kernel
theorem sX6_takeBack_14 : ab_X rom K cX6_takeBack 4 0 14 ls st hp = ab_X rom K cX6_takeBack 4 0 15 ls (.int 1 :: st) hp := ax_iconst dX6_takeBack_14 (by decide) rfl
theorem dX6_takeBack_15 : decode cX6_takeBack 15 = .ok (.isub, 1) := by decide +kernel
theorem sX6_takeBack_15 : ab_X rom K cX6_takeBack 4 0 15 ls (.int y :: .int x :: st) hp = ab_X rom K cX6_takeBack 4 0 16 ls (.int (x - y) :: st) hp := ax_isub dX6_takeBack_15 rfl
theorem dX6_takeBack_16 : decode cX6_takeBack 16 = .ok (.iastore, 1) := by decide +kernel
theorem sX6_takeBack_16 : ab_X rom K cX6_takeBack 4 0 16 ls (.int y :: .int x :: .ref a :: st) hp = (ab_awr 0 hp a x y).bind (fun hp' => ab_X rom K cX6_takeBack 4 0 17 ls st hp') := ax_iastore dX6_takeBack_16 rfl
theorem dX6_takeBack_17 : decode cX6_takeBack 17 = .ok (.aload_n 0, 1) := by decide +kernel
theorem sX6_takeBack_17 : ab_X rom K cX6_takeBack 4 0 17 (.ref a :: ls) st hp = ab_X rom K cX6_takeBack 4 0 18 (.ref a :: ls) (.ref a :: st) hp := ax_aload_n dX6_takeBack_17 rfl rfl
theorem dX6_takeBack_18 : decode cX6_takeBack 18 = .ok (.getfield 22, 3) := by decide +kernel
theorem sX6_takeBack_18 : ab_X rom K cX6_takeBack 4 0 18 ls (.ref a :: st) hp = (ab_fld hp a 4 2).bind (fun v => ab_X rom K cX6_takeBack 4 0 21 ls (v :: st) hp) := ax_getfield dX6_takeBack_18 kf_4_22 rfl
theorem dX6_takeBack_21 : decode cX6_takeBack 21 = .ok (.iload_n 3, 1) := by decide +kernel
theorem sX6_takeBack_21 : ab_X rom K cX6_takeBack 4 0 21 (v0 :: v1 :: v2 :: .int x :: ls) st hp = ab_X rom K cX6_takeBack 4 0 22 (v0 :: v1 :: v2 :: .int x :: ls) (.int x :: st) hp := ax_iload_n dX6_takeBack_21 rfl rfl
theorem dX6_takeBack_22 : decode cX6_takeBack 22 = .ok (.iaload, 1) := by decide +kernel
theorem sX6_takeBack_22 : ab_X rom K cX6_takeBack 4 0 22 ls (.int x :: .ref a :: st) hp = (ab_ard rom 0 hp a x).bind (fun v => ab_X rom K cX6_takeBack 4 0 23 ls (.int v :: st) hp) := ax_iaload dX6_takeBack_22 rfl
theorem dX6_takeBack_23 : decode cX6_takeBack 23 = .ok (.ifCond .le 13, 3) := by decide +kernel
theorem sX6_takeBack_23 : ab_X rom K cX6_takeBack 4 0 23 ls (.int x :: st) hp = if 0 < x then ab_X rom K cX6_takeBack 4 0 26 ls st hp else ab_X rom K cX6_takeBack 4 0 36 ls st hp := ax_if_le dX6_takeBack_23 (by decide) rfl
theorem dX6_takeBack_26 : decode cX6_takeBack 26 = .ok (.aload_n 0, 1) := by decide +kernel
theorem sX6_takeBack_26 : ab_X rom K cX6_takeBack 4 0 26 (.ref a :: ls) st hp = ab_X rom K cX6_takeBack 4 0 27 (.ref a :: ls) (.ref a :: st) hp := ax_aload_n dX6_takeBack_26 rfl rfl
theorem dX6_takeBack_27 : decode cX6_takeBack 27 = .ok (.dup, 1) := by decide +kernel
theorem sX6_takeBack_27i : ab_X rom K cX6_takeBack 4 0 27 ls (.int x :: st) hp = ab_X rom K cX6_takeBack 4 0 28 ls (.int x :: .int x :: st) hp := ax_dup dX6_takeBack_27 rfl (ab_c1_int _)
theorem sX6_takeBack_27r : ab_X rom K cX6_takeBack 4 0 27 ls (.ref a :: st) hp = ab_X rom K cX6_takeBack 4 0 28 ls (.ref a :: .ref a :: st) hp := ax_dup dX6_takeBack_27 rfl (ab_c1_ref _)
theorem dX6_takeBack_28 : decode cX6_takeBack 28 = .ok (.getfield 38, 3) := by decide +kernel
theorem sX6_takeBack_28 : ab_X rom K cX6_takeBack 4 0 28 ls (.ref a :: st) hp = (ab_fld hp a 4 8).bind (fun v => ab_X rom K cX6_takeBack 4 0 31 ls (v :: st) hp) := ax_getfield dX6_takeBack_28 kf_4_38 rfl
theorem dX6_takeBack_31 : decode cX6_takeBack 31 = .ok (.iconst 1, 1) := by decide +kernel
theorem sX6_takeBack_31 : ab_X rom K cX6_takeBack 4 0 31 ls st hp = ab_X rom K cX6_takeBack 4 0 32 ls (.int 1 :: st) hp := ax_iconst dX6_takeBack_31 (by decide) rfl
theorem dX6_takeBack_32 : decode cX6_takeBack 32 = .ok (.isub, 1) := by decide +kernel
theorem sX6_takeBack_32 : ab_X rom K cX6_takeBack 4 0 32 ls (.int y :: .int x :: st) hp = ab_X rom K cX6_takeBack 4 0 33 ls (.int (x - y) :: st) hp := ax_isub dX6_takeBack_32 rfl
theorem dX6_takeBack_33 : decode cX6_takeBack 33 = .ok (.putfield 38, 3) := by decide +kernel
theorem sX6_takeBack_33 : ab_X rom K cX6_takeBack 4 0 33 ls (.int x :: .ref a :: st) hp = (ab_fpt hp a 4 8 (.int x)).bind (fun hp' => ab_X rom K cX6_takeBack 4 0 36 ls st hp') := ax_putfield dX6_takeBack_33 kf_4_38 rfl (Or.inl rfl) rfl
theorem dX6_takeBack_36 : decode cX6_takeBack 36 = .ok (.aload_n 0, 1) := by decide +kernel
theorem sX6_takeBack_36 : ab_X rom K cX6_takeBack 4 0 36 (.ref a :: ls) st hp = ab_X rom K cX6_takeBack 4 0 37 (.ref a :: ls) (.ref a :: st) hp := ax_aload_n dX6_takeBack_36 rfl rfl
theorem dX6_takeBack_37 : decode cX6_takeBack 37 = .ok (.getfield 18, 3) := by decide +kernel
theorem sX6_takeBack_37 : ab_X rom K cX6_takeBack 4 0 37 ls (.ref a :: st) hp = (ab_fld hp a 4 1).bind (fun v => ab_X rom K cX6_takeBack 4 0 40 ls (v :: st) hp) := ax_getfield dX6_takeBack_37 kf_4_18 rfl
theorem dX6_takeBack_40 : decode cX6_takeBack 40 = .ok (.iload_n 1, 1) := by decide +kernel
theorem sX6_takeBack_40 : ab_X rom K cX6_takeBack 4 0 40 (v0 :: .int x :: ls) st hp = ab_X rom K cX6_takeBack 4 0 41 (v0 :: .int x :: ls) (.int x :: st) hp := ax_iload_n dX6_takeBack_40 rfl rfl
theorem dX6_takeBack_41 : decode cX6_takeBack 41 = .ok (.iconst (-1), 1) := by decide +kernel
theorem sX6_takeBack_41 : ab_X rom K cX6_takeBack 4 0 41 ls st hp = ab_X rom K cX6_takeBack 4 0 42 ls (.int (-1) :: st) hp := ax_iconst dX6_takeBack_41 (by decide) rfl
theorem dX6_takeBack_42 : decode cX6_takeBack 42 = .ok (.iastore, 1) := by decide +kernel
theorem sX6_takeBack_42 : ab_X rom K cX6_takeBack 4 0 42 ls (.int y :: .int x :: .ref a :: st) hp = (ab_awr 0 hp a x y).bind (fun hp' => ab_X rom K cX6_takeBack 4 0 43 ls st hp') := ax_iastore dX6_takeBack_42 rfl
theorem dX6_takeBack_43 : decode cX6_takeBack 43 = .ok (.aload_n 0, 1) := by decide +kernel
theorem sX6_takeBack_43 : ab_X rom K cX6_takeBack 4 0 43 (.ref a :: ls) st hp = ab_X rom K cX6_takeBack 4 0 44 (.ref a :: ls) (.ref a :: st) hp := ax_aload_n dX6_takeBack_43 rfl rfl
theorem dX6_takeBack_44 : decode cX6_takeBack 44 = .ok (.iload_n 2, 1) := by decide +kernel
theorem sX6_takeBack_44 : ab_X rom K cX6_takeBack 4 0 44 (v0 :: v1 :: .int x :: ls) st hp = ab_X rom K cX6_takeBack 4 0 45 (v0 :: v1 :: .int x :: ls) (.int x :: st) hp := ax_iload_n dX6_takeBack_44 rfl rfl
theorem dX6_takeBack_45 : decode cX6_takeBack 45 = .ok (.putfield 44, 3) := by decide +kernel
theorem sX6_takeBack_45 : ab_X rom K cX6_takeBack 4 0 45 ls (.int x :: .ref a :: st) hp = (ab_fpt hp a 4 10 (.int x)).bind (fun hp' => ab_X rom K cX6_takeBack 4 0 48 ls st hp') := ax_putfield dX6_takeBack_45 kf_4_44 rfl (Or.inl rfl) rfl
theorem dX6_takeBack_48 : decode cX6_takeBack 48 = .ok (.return_, 1) := by decide +kernel
theorem sX6_takeBack_48 : ab_X rom K cX6_takeBack 4 0 48 ls [] hp = some (none, hp) := ax_vret dX6_takeBack_48 (by decide)
theorem tX6_worthOf : ab_mT[73]? = some (yX6_worthOf, cX6_worthOf, 3, 1, 4) := by decide +kernel
theorem mX6_worthOf {d : Nat} {a0 : Nat} {x0 : Int32} {x1 : Int32} : ab_M rom (d + 1) 73 [.ref a0, .int x0, .int x1] hp = ab_X rom (ab_M rom d) cX6_worthOf 4 1 0 [.ref a0, .int x0, .int x1] [] hp := ab_M_eq tX6_worthOf (Nat.le_of_ble_eq_true rfl)
theorem dX6_worthOf_0 : decode cX6_worthOf 0 = .ok (.aload_n 0, 1) := by decide +kernel
theorem sX6_worthOf_0 : ab_X rom K cX6_worthOf 4 1 0 (.ref a :: ls) st hp = ab_X rom K cX6_worthOf 4 1 1 (.ref a :: ls) (.ref a :: st) hp := ax_aload_n dX6_worthOf_0 rfl rfl
theorem dX6_worthOf_1 : decode cX6_worthOf 1 = .ok (.getfield 31, 3) := by decide +kernel
theorem sX6_worthOf_1 : ab_X rom K cX6_worthOf 4 1 1 ls (.ref a :: st) hp = (ab_fld hp a 4 6).bind (fun v => ab_X rom K cX6_worthOf 4 1 4 ls (v :: st) hp) := ax_getfield dX6_worthOf_1 kf_4_31 rfl
theorem dX6_worthOf_4 : decode cX6_worthOf 4 = .ok (.iconst 2, 1) := by decide +kernel
theorem sX6_worthOf_4 : ab_X rom K cX6_worthOf 4 1 4 ls st hp = ab_X rom K cX6_worthOf 4 1 5 ls (.int 2 :: st) hp := ax_iconst dX6_worthOf_4 (by decide) rfl
theorem dX6_worthOf_5 : decode cX6_worthOf 5 = .ok (.if_icmp .eq 10, 3) := by decide +kernel
theorem sX6_worthOf_5 : ab_X rom K cX6_worthOf 4 1 5 ls (.int y :: .int x :: st) hp = if x = y then ab_X rom K cX6_worthOf 4 1 15 ls st hp else ab_X rom K cX6_worthOf 4 1 8 ls st hp := ax_icmp_eq dX6_worthOf_5 (by decide) rfl
theorem dX6_worthOf_8 : decode cX6_worthOf 8 = .ok (.iload_n 1, 1) := by decide +kernel
theorem sX6_worthOf_8 : ab_X rom K cX6_worthOf 4 1 8 (v0 :: .int x :: ls) st hp = ab_X rom K cX6_worthOf 4 1 9 (v0 :: .int x :: ls) (.int x :: st) hp := ax_iload_n dX6_worthOf_8 rfl rfl
theorem dX6_worthOf_9 : decode cX6_worthOf 9 = .ok (.iload_n 2, 1) := by decide +kernel
theorem sX6_worthOf_9 : ab_X rom K cX6_worthOf 4 1 9 (v0 :: v1 :: .int x :: ls) st hp = ab_X rom K cX6_worthOf 4 1 10 (v0 :: v1 :: .int x :: ls) (.int x :: st) hp := ax_iload_n dX6_worthOf_9 rfl rfl
theorem dX6_worthOf_10 : decode cX6_worthOf 10 = .ok (.isub, 1) := by decide +kernel
theorem sX6_worthOf_10 : ab_X rom K cX6_worthOf 4 1 10 ls (.int y :: .int x :: st) hp = ab_X rom K cX6_worthOf 4 1 11 ls (.int (x - y) :: st) hp := ax_isub dX6_worthOf_10 rfl
theorem dX6_worthOf_11 : decode cX6_worthOf 11 = .ok (.invokestatic 149, 3) := by decide +kernel
theorem sX6_worthOf_11_0 : ab_X rom K cX6_worthOf 4 1 11 ls [.int x] hp = ab_X rom K cX6_worthOf 4 1 14 ls [.int (ab_abs x)] hp := ax_abs dX6_worthOf_11 kc_4_149 rfl (Nat.le_of_ble_eq_true rfl)
theorem sX6_worthOf_11_1 : ab_X rom K cX6_worthOf 4 1 11 ls [.int x, v0] hp = ab_X rom K cX6_worthOf 4 1 14 ls [.int (ab_abs x), v0] hp := ax_abs dX6_worthOf_11 kc_4_149 rfl (Nat.le_of_ble_eq_true rfl)
theorem sX6_worthOf_11_2 : ab_X rom K cX6_worthOf 4 1 11 ls [.int x, v0, v1] hp = ab_X rom K cX6_worthOf 4 1 14 ls [.int (ab_abs x), v0, v1] hp := ax_abs dX6_worthOf_11 kc_4_149 rfl (Nat.le_of_ble_eq_true rfl)
theorem sX6_worthOf_11_3 : ab_X rom K cX6_worthOf 4 1 11 ls [.int x, v0, v1, v2] hp = ab_X rom K cX6_worthOf 4 1 14 ls [.int (ab_abs x), v0, v1, v2] hp := ax_abs dX6_worthOf_11 kc_4_149 rfl (Nat.le_of_ble_eq_true rfl)
theorem dX6_worthOf_14 : decode cX6_worthOf 14 = .ok (.ireturn, 1) := by decide +kernel
theorem sX6_worthOf_14 : ab_X rom K cX6_worthOf 4 1 14 ls [.int x] hp = some (some (.int x), hp) := ax_iret dX6_worthOf_14 rfl
theorem dX6_worthOf_15 : decode cX6_worthOf 15 = .ok (.iload_n 1, 1) := by decide +kernel
theorem sX6_worthOf_15 : ab_X rom K cX6_worthOf 4 1 15 (v0 :: .int x :: ls) st hp = ab_X rom K cX6_worthOf 4 1 16 (v0 :: .int x :: ls) (.int x :: st) hp := ax_iload_n dX6_worthOf_15 rfl rfl
theorem dX6_worthOf_16 : decode cX6_worthOf 16 = .ok (.iload_n 2, 1) := by decide +kernel
theorem sX6_worthOf_16 : ab_X rom K cX6_worthOf 4 1 16 (v0 :: v1 :: .int x :: ls) st hp = ab_X rom K cX6_worthOf 4 1 17 (v0 :: v1 :: .int x :: ls) (.int x :: st) hp := ax_iload_n dX6_worthOf_16 rfl rfl
theorem dX6_worthOf_17 : decode cX6_worthOf 17 = .ok (.iadd, 1) := by decide +kernel
theorem sX6_worthOf_17 : ab_X rom K cX6_worthOf 4 1 17 ls (.int y :: .int x :: st) hp = ab_X rom K cX6_worthOf 4 1 18 ls (.int (x + y) :: st) hp := ax_iadd dX6_worthOf_17 rfl
theorem dX6_worthOf_18 : decode cX6_worthOf 18 = .ok (.aload_n 0, 1) := by decide +kernel
theorem sX6_worthOf_18 : ab_X rom K cX6_worthOf 4 1 18 (.ref a :: ls) st hp = ab_X rom K cX6_worthOf 4 1 19 (.ref a :: ls) (.ref a :: st) hp := ax_aload_n dX6_worthOf_18 rfl rfl
theorem dX6_worthOf_19 : decode cX6_worthOf 19 = .ok (.getfield 60, 3) := by decide +kernel
theorem sX6_worthOf_19 : ab_X rom K cX6_worthOf 4 1 19 ls (.ref a :: st) hp = (ab_fld hp a 4 5).bind (fun v => ab_X rom K cX6_worthOf 4 1 22 ls (v :: st) hp) := ax_getfield dX6_worthOf_19 kf_4_60 rfl
theorem dX6_worthOf_22 : decode cX6_worthOf 22 = .ok (.getfield 64, 3) := by decide +kernel
theorem sX6_worthOf_22 : ab_X rom K cX6_worthOf 4 1 22 ls (.ref a :: st) hp = (ab_fld hp a 1 1).bind (fun v => ab_X rom K cX6_worthOf 4 1 25 ls (v :: st) hp) := ax_getfield dX6_worthOf_22 kf_4_64 rfl
theorem dX6_worthOf_25 : decode cX6_worthOf 25 = .ok (.if_icmp .lt 17, 3) := by decide +kernel
theorem sX6_worthOf_25 : ab_X rom K cX6_worthOf 4 1 25 ls (.int y :: .int x :: st) hp = if x < y then ab_X rom K cX6_worthOf 4 1 42 ls st hp else ab_X rom K cX6_worthOf 4 1 28 ls st hp := ax_icmp_lt dX6_worthOf_25 (by decide) rfl
theorem dX6_worthOf_28 : decode cX6_worthOf 28 = .ok (.iload_n 1, 1) := by decide +kernel
theorem sX6_worthOf_28 : ab_X rom K cX6_worthOf 4 1 28 (v0 :: .int x :: ls) st hp = ab_X rom K cX6_worthOf 4 1 29 (v0 :: .int x :: ls) (.int x :: st) hp := ax_iload_n dX6_worthOf_28 rfl rfl
theorem dX6_worthOf_29 : decode cX6_worthOf 29 = .ok (.iload_n 2, 1) := by decide +kernel
theorem sX6_worthOf_29 : ab_X rom K cX6_worthOf 4 1 29 (v0 :: v1 :: .int x :: ls) st hp = ab_X rom K cX6_worthOf 4 1 30 (v0 :: v1 :: .int x :: ls) (.int x :: st) hp := ax_iload_n dX6_worthOf_29 rfl rfl
theorem dX6_worthOf_30 : decode cX6_worthOf 30 = .ok (.iadd, 1) := by decide +kernel
theorem sX6_worthOf_30 : ab_X rom K cX6_worthOf 4 1 30 ls (.int y :: .int x :: st) hp = ab_X rom K cX6_worthOf 4 1 31 ls (.int (x + y) :: st) hp := ax_iadd dX6_worthOf_30 rfl
theorem dX6_worthOf_31 : decode cX6_worthOf 31 = .ok (.aload_n 0, 1) := by decide +kernel
theorem sX6_worthOf_31 : ab_X rom K cX6_worthOf 4 1 31 (.ref a :: ls) st hp = ab_X rom K cX6_worthOf 4 1 32 (.ref a :: ls) (.ref a :: st) hp := ax_aload_n dX6_worthOf_31 rfl rfl
theorem dX6_worthOf_32 : decode cX6_worthOf 32 = .ok (.getfield 60, 3) := by decide +kernel
theorem sX6_worthOf_32 : ab_X rom K cX6_worthOf 4 1 32 ls (.ref a :: st) hp = (ab_fld hp a 4 5).bind (fun v => ab_X rom K cX6_worthOf 4 1 35 ls (v :: st) hp) := ax_getfield dX6_worthOf_32 kf_4_60 rfl
theorem dX6_worthOf_35 : decode cX6_worthOf 35 = .ok (.getfield 64, 3) := by decide +kernel
theorem sX6_worthOf_35 : ab_X rom K cX6_worthOf 4 1 35 ls (.ref a :: st) hp = (ab_fld hp a 1 1).bind (fun v => ab_X rom K cX6_worthOf 4 1 38 ls (v :: st) hp) := ax_getfield dX6_worthOf_35 kf_4_64 rfl
theorem dX6_worthOf_38 : decode cX6_worthOf 38 = .ok (.isub, 1) := by decide +kernel
theorem sX6_worthOf_38 : ab_X rom K cX6_worthOf 4 1 38 ls (.int y :: .int x :: st) hp = ab_X rom K cX6_worthOf 4 1 39 ls (.int (x - y) :: st) hp := ax_isub dX6_worthOf_38 rfl
theorem dX6_worthOf_39 : decode cX6_worthOf 39 = .ok (.goto 6, 3) := by decide +kernel
theorem sX6_worthOf_39 : ab_X rom K cX6_worthOf 4 1 39 ls st hp = ab_X rom K cX6_worthOf 4 1 45 ls st hp := ax_goto dX6_worthOf_39 (by decide)
theorem dX6_worthOf_42 : decode cX6_worthOf 42 = .ok (.iload_n 1, 1) := by decide +kernel
theorem sX6_worthOf_42 : ab_X rom K cX6_worthOf 4 1 42 (v0 :: .int x :: ls) st hp = ab_X rom K cX6_worthOf 4 1 43 (v0 :: .int x :: ls) (.int x :: st) hp := ax_iload_n dX6_worthOf_42 rfl rfl
theorem dX6_worthOf_43 : decode cX6_worthOf 43 = .ok (.iload_n 2, 1) := by decide +kernel
theorem sX6_worthOf_43 : ab_X rom K cX6_worthOf 4 1 43 (v0 :: v1 :: .int x :: ls) st hp = ab_X rom K cX6_worthOf 4 1 44 (v0 :: v1 :: .int x :: ls) (.int x :: st) hp := ax_iload_n dX6_worthOf_43 rfl rfl
theorem dX6_worthOf_44 : decode cX6_worthOf 44 = .ok (.iadd, 1) := by decide +kernel
theorem sX6_worthOf_44 : ab_X rom K cX6_worthOf 4 1 44 ls (.int y :: .int x :: st) hp = ab_X rom K cX6_worthOf 4 1 45 ls (.int (x + y) :: st) hp := ax_iadd dX6_worthOf_44 rfl
theorem dX6_worthOf_45 : decode cX6_worthOf 45 = .ok (.ireturn, 1) := by decide +kernel
theorem sX6_worthOf_45 : ab_X rom K cX6_worthOf 4 1 45 ls [.int x] hp = some (some (.int x), hp) := ax_iret dX6_worthOf_45 rfl
theorem tX6_worthsWith : ab_mT[74]? = some (yX6_worthsWith, cX6_worthsWith, 7, 1, 4) := by decide +kernel
theorem mX6_worthsWith {d : Nat} {a0 : Nat} {x0 : Int32} {x1 : Int32} : ab_M rom (d + 1) 74 [.ref a0, .int x0, .int x1] hp = ab_X rom (ab_M rom d) cX6_worthsWith 4 1 0 [.ref a0, .int x0, .int x1, .null, .null, .null, .null] [] hp := ab_M_eq tX6_worthsWith (Nat.le_of_ble_eq_true rfl)
theorem dX6_worthsWith_0 : decode cX6_worthsWith 0 = .ok (.iload_n 2, 1) := by decide +kernel
theorem sX6_worthsWith_0 : ab_X rom K cX6_worthsWith 4 1 0 (v0 :: v1 :: .int x :: ls) st hp = ab_X rom K cX6_worthsWith 4 1 1 (v0 :: v1 :: .int x :: ls) (.int x :: st) hp := ax_iload_n dX6_worthsWith_0 rfl rfl
theorem dX6_worthsWith_1 : decode cX6_worthsWith 1 = .ok (.ifCond .lt 31, 3) := by decide +kernel
theorem sX6_worthsWith_1 : ab_X rom K cX6_worthsWith 4 1 1 ls (.int x :: st) hp = if x < 0 then ab_X rom K cX6_worthsWith 4 1 32 ls st hp else ab_X rom K cX6_worthsWith 4 1 4 ls st hp := ax_if_lt dX6_worthsWith_1 (by decide) rfl
theorem dX6_worthsWith_4 : decode cX6_worthsWith 4 = .ok (.iload_n 2, 1) := by decide +kernel
theorem sX6_worthsWith_4 : ab_X rom K cX6_worthsWith 4 1 4 (v0 :: v1 :: .int x :: ls) st hp = ab_X rom K cX6_worthsWith 4 1 5 (v0 :: v1 :: .int x :: ls) (.int x :: st) hp := ax_iload_n dX6_worthsWith_4 rfl rfl
theorem dX6_worthsWith_5 : decode cX6_worthsWith 5 = .ok (.aload_n 0, 1) := by decide +kernel
theorem sX6_worthsWith_5 : ab_X rom K cX6_worthsWith 4 1 5 (.ref a :: ls) st hp = ab_X rom K cX6_worthsWith 4 1 6 (.ref a :: ls) (.ref a :: st) hp := ax_aload_n dX6_worthsWith_5 rfl rfl
theorem dX6_worthsWith_6 : decode cX6_worthsWith 6 = .ok (.getfield 35, 3) := by decide +kernel
theorem sX6_worthsWith_6 : ab_X rom K cX6_worthsWith 4 1 6 ls (.ref a :: st) hp = (ab_fld hp a 4 7).bind (fun v => ab_X rom K cX6_worthsWith 4 1 9 ls (v :: st) hp) := ax_getfield dX6_worthsWith_6 kf_4_35 rfl
theorem dX6_worthsWith_9 : decode cX6_worthsWith 9 = .ok (.if_icmp .gt 23, 3) := by decide +kernel
theorem sX6_worthsWith_9 : ab_X rom K cX6_worthsWith 4 1 9 ls (.int y :: .int x :: st) hp = if y < x then ab_X rom K cX6_worthsWith 4 1 32 ls st hp else ab_X rom K cX6_worthsWith 4 1 12 ls st hp := ax_icmp_gt dX6_worthsWith_9 (by decide) rfl
theorem dX6_worthsWith_12 : decode cX6_worthsWith 12 = .ok (.aload_n 0, 1) := by decide +kernel
theorem sX6_worthsWith_12 : ab_X rom K cX6_worthsWith 4 1 12 (.ref a :: ls) st hp = ab_X rom K cX6_worthsWith 4 1 13 (.ref a :: ls) (.ref a :: st) hp := ax_aload_n dX6_worthsWith_12 rfl rfl
theorem dX6_worthsWith_13 : decode cX6_worthsWith 13 = .ok (.getfield 22, 3) := by decide +kernel
theorem sX6_worthsWith_13 : ab_X rom K cX6_worthsWith 4 1 13 ls (.ref a :: st) hp = (ab_fld hp a 4 2).bind (fun v => ab_X rom K cX6_worthsWith 4 1 16 ls (v :: st) hp) := ax_getfield dX6_worthsWith_13 kf_4_22 rfl
theorem dX6_worthsWith_16 : decode cX6_worthsWith 16 = .ok (.iload_n 2, 1) := by decide +kernel
theorem sX6_worthsWith_16 : ab_X rom K cX6_worthsWith 4 1 16 (v0 :: v1 :: .int x :: ls) st hp = ab_X rom K cX6_worthsWith 4 1 17 (v0 :: v1 :: .int x :: ls) (.int x :: st) hp := ax_iload_n dX6_worthsWith_16 rfl rfl
theorem dX6_worthsWith_17 : decode cX6_worthsWith 17 = .ok (.iaload, 1) := by decide +kernel
theorem sX6_worthsWith_17 : ab_X rom K cX6_worthsWith 4 1 17 ls (.int x :: .ref a :: st) hp = (ab_ard rom 0 hp a x).bind (fun v => ab_X rom K cX6_worthsWith 4 1 18 ls (.int v :: st) hp) := ax_iaload dX6_worthsWith_17 rfl
theorem dX6_worthsWith_18 : decode cX6_worthsWith 18 = .ok (.ifCond .le 16, 3) := by decide +kernel
theorem sX6_worthsWith_18 : ab_X rom K cX6_worthsWith 4 1 18 ls (.int x :: st) hp = if 0 < x then ab_X rom K cX6_worthsWith 4 1 21 ls st hp else ab_X rom K cX6_worthsWith 4 1 34 ls st hp := ax_if_le dX6_worthsWith_18 (by decide) rfl
theorem dX6_worthsWith_21 : decode cX6_worthsWith 21 = .ok (.aload_n 0, 1) := by decide +kernel
theorem sX6_worthsWith_21 : ab_X rom K cX6_worthsWith 4 1 21 (.ref a :: ls) st hp = ab_X rom K cX6_worthsWith 4 1 22 (.ref a :: ls) (.ref a :: st) hp := ax_aload_n dX6_worthsWith_21 rfl rfl
theorem dX6_worthsWith_22 : decode cX6_worthsWith 22 = .ok (.getfield 38, 3) := by decide +kernel
theorem sX6_worthsWith_22 : ab_X rom K cX6_worthsWith 4 1 22 ls (.ref a :: st) hp = (ab_fld hp a 4 8).bind (fun v => ab_X rom K cX6_worthsWith 4 1 25 ls (v :: st) hp) := ax_getfield dX6_worthsWith_22 kf_4_38 rfl
theorem dX6_worthsWith_25 : decode cX6_worthsWith 25 = .ok (.aload_n 0, 1) := by decide +kernel
theorem sX6_worthsWith_25 : ab_X rom K cX6_worthsWith 4 1 25 (.ref a :: ls) st hp = ab_X rom K cX6_worthsWith 4 1 26 (.ref a :: ls) (.ref a :: st) hp := ax_aload_n dX6_worthsWith_25 rfl rfl
theorem dX6_worthsWith_26 : decode cX6_worthsWith 26 = .ok (.getfield 41, 3) := by decide +kernel
theorem sX6_worthsWith_26 : ab_X rom K cX6_worthsWith 4 1 26 ls (.ref a :: st) hp = (ab_fld hp a 4 9).bind (fun v => ab_X rom K cX6_worthsWith 4 1 29 ls (v :: st) hp) := ax_getfield dX6_worthsWith_26 kf_4_41 rfl
theorem dX6_worthsWith_29 : decode cX6_worthsWith 29 = .ok (.if_icmp .lt 5, 3) := by decide +kernel
theorem sX6_worthsWith_29 : ab_X rom K cX6_worthsWith 4 1 29 ls (.int y :: .int x :: st) hp = if x < y then ab_X rom K cX6_worthsWith 4 1 34 ls st hp else ab_X rom K cX6_worthsWith 4 1 32 ls st hp := ax_icmp_lt dX6_worthsWith_29 (by decide) rfl
theorem dX6_worthsWith_32 : decode cX6_worthsWith 32 = .ok (.iconst (-1), 1) := by decide +kernel
theorem sX6_worthsWith_32 : ab_X rom K cX6_worthsWith 4 1 32 ls st hp = ab_X rom K cX6_worthsWith 4 1 33 ls (.int (-1) :: st) hp := ax_iconst dX6_worthsWith_32 (by decide) rfl
theorem dX6_worthsWith_33 : decode cX6_worthsWith 33 = .ok (.ireturn, 1) := by decide +kernel
theorem sX6_worthsWith_33 : ab_X rom K cX6_worthsWith 4 1 33 ls [.int x] hp = some (some (.int x), hp) := ax_iret dX6_worthsWith_33 rfl
theorem dX6_worthsWith_34 : decode cX6_worthsWith 34 = .ok (.aload_n 0, 1) := by decide +kernel
theorem sX6_worthsWith_34 : ab_X rom K cX6_worthsWith 4 1 34 (.ref a :: ls) st hp = ab_X rom K cX6_worthsWith 4 1 35 (.ref a :: ls) (.ref a :: st) hp := ax_aload_n dX6_worthsWith_34 rfl rfl
theorem dX6_worthsWith_35 : decode cX6_worthsWith 35 = .ok (.getfield 31, 3) := by decide +kernel
theorem sX6_worthsWith_35 : ab_X rom K cX6_worthsWith 4 1 35 ls (.ref a :: st) hp = (ab_fld hp a 4 6).bind (fun v => ab_X rom K cX6_worthsWith 4 1 38 ls (v :: st) hp) := ax_getfield dX6_worthsWith_35 kf_4_31 rfl
theorem dX6_worthsWith_38 : decode cX6_worthsWith 38 = .ok (.iconst 4, 1) := by decide +kernel
theorem sX6_worthsWith_38 : ab_X rom K cX6_worthsWith 4 1 38 ls st hp = ab_X rom K cX6_worthsWith 4 1 39 ls (.int 4 :: st) hp := ax_iconst dX6_worthsWith_38 (by decide) rfl
theorem dX6_worthsWith_39 : decode cX6_worthsWith 39 = .ok (.if_icmp .ne 8, 3) := by decide +kernel
theorem sX6_worthsWith_39 : ab_X rom K cX6_worthsWith 4 1 39 ls (.int y :: .int x :: st) hp = if x = y then ab_X rom K cX6_worthsWith 4 1 42 ls st hp else ab_X rom K cX6_worthsWith 4 1 47 ls st hp := ax_icmp_ne dX6_worthsWith_39 (by decide) rfl
theorem dX6_worthsWith_42 : decode cX6_worthsWith 42 = .ok (.aload_n 0, 1) := by decide +kernel
theorem sX6_worthsWith_42 : ab_X rom K cX6_worthsWith 4 1 42 (.ref a :: ls) st hp = ab_X rom K cX6_worthsWith 4 1 43 (.ref a :: ls) (.ref a :: st) hp := ax_aload_n dX6_worthsWith_42 rfl rfl
theorem dX6_worthsWith_43 : decode cX6_worthsWith 43 = .ok (.getfield 44, 3) := by decide +kernel
theorem sX6_worthsWith_43 : ab_X rom K cX6_worthsWith 4 1 43 ls (.ref a :: st) hp = (ab_fld hp a 4 10).bind (fun v => ab_X rom K cX6_worthsWith 4 1 46 ls (v :: st) hp) := ax_getfield dX6_worthsWith_43 kf_4_44 rfl
theorem dX6_worthsWith_46 : decode cX6_worthsWith 46 = .ok (.ireturn, 1) := by decide +kernel
theorem sX6_worthsWith_46 : ab_X rom K cX6_worthsWith 4 1 46 ls [.int x] hp = some (some (.int x), hp) := ax_iret dX6_worthsWith_46 rfl
theorem dX6_worthsWith_47 : decode cX6_worthsWith 47 = .ok (.aload_n 0, 1) := by decide +kernel
theorem sX6_worthsWith_47 : ab_X rom K cX6_worthsWith 4 1 47 (.ref a :: ls) st hp = ab_X rom K cX6_worthsWith 4 1 48 (.ref a :: ls) (.ref a :: st) hp := ax_aload_n dX6_worthsWith_47 rfl rfl
theorem dX6_worthsWith_48 : decode cX6_worthsWith 48 = .ok (.getfield 44, 3) := by decide +kernel
theorem sX6_worthsWith_48 : ab_X rom K cX6_worthsWith 4 1 48 ls (.ref a :: st) hp = (ab_fld hp a 4 10).bind (fun v => ab_X rom K cX6_worthsWith 4 1 51 ls (v :: st) hp) := ax_getfield dX6_worthsWith_48 kf_4_44 rfl
theorem dX6_worthsWith_51 : decode cX6_worthsWith 51 = .ok (.istore_n 3, 1) := by decide +kernel
theorem sX6_worthsWith_51i : ab_X rom K cX6_worthsWith 4 1 51 (v0 :: v1 :: .int y :: v3 :: ls) (.int x :: st) hp = ab_X rom K cX6_worthsWith 4 1 52 (v0 :: v1 :: .int y :: .int x :: ls) st hp := ax_istore_n dX6_worthsWith_51 (ax_lt (v := v3) rfl) (ab_nl_c1 (j := 2) (v := .int y) rfl (ab_c1_int _)) rfl rfl
theorem sX6_worthsWith_51r : ab_X rom K cX6_worthsWith 4 1 51 (v0 :: v1 :: .ref a2 :: v3 :: ls) (.int x :: st) hp = ab_X rom K cX6_worthsWith 4 1 52 (v0 :: v1 :: .ref a2 :: .int x :: ls) st hp := ax_istore_n dX6_worthsWith_51 (ax_lt (v := v3) rfl) (ab_nl_c1 (j := 2) (v := .ref a2) rfl (ab_c1_ref _)) rfl rfl
theorem sX6_worthsWith_51n : ab_X rom K cX6_worthsWith 4 1 51 (v0 :: v1 :: .null :: v3 :: ls) (.int x :: st) hp = ab_X rom K cX6_worthsWith 4 1 52 (v0 :: v1 :: .null :: .int x :: ls) st hp := ax_istore_n dX6_worthsWith_51 (ax_lt (v := v3) rfl) (ab_nl_c1 (j := 2) (v := .null) rfl ab_c1_null) rfl rfl
theorem dX6_worthsWith_52 : decode cX6_worthsWith 52 = .ok (.aload_n 0, 1) := by decide +kernel
theorem sX6_worthsWith_52 : ab_X rom K cX6_worthsWith 4 1 52 (.ref a :: ls) st hp = ab_X rom K cX6_worthsWith 4 1 53 (.ref a :: ls) (.ref a :: st) hp := ax_aload_n dX6_worthsWith_52 rfl rfl
theorem dX6_worthsWith_53 : decode cX6_worthsWith 53 = .ok (.getfield 60, 3) := by decide +kernel
theorem sX6_worthsWith_53 : ab_X rom K cX6_worthsWith 4 1 53 ls (.ref a :: st) hp = (ab_fld hp a 4 5).bind (fun v => ab_X rom K cX6_worthsWith 4 1 56 ls (v :: st) hp) := ax_getfield dX6_worthsWith_53 kf_4_60 rfl
theorem dX6_worthsWith_56 : decode cX6_worthsWith 56 = .ok (.getfield 131, 3) := by decide +kernel
theorem sX6_worthsWith_56 : ab_X rom K cX6_worthsWith 4 1 56 ls (.ref a :: st) hp = (ab_fld hp a 1 5).bind (fun v => ab_X rom K cX6_worthsWith 4 1 59 ls (v :: st) hp) := ax_getfield dX6_worthsWith_56 kf_4_131 rfl
theorem dX6_worthsWith_59 : decode cX6_worthsWith 59 = .ok (.iload_n 1, 1) := by decide +kernel
theorem sX6_worthsWith_59 : ab_X rom K cX6_worthsWith 4 1 59 (v0 :: .int x :: ls) st hp = ab_X rom K cX6_worthsWith 4 1 60 (v0 :: .int x :: ls) (.int x :: st) hp := ax_iload_n dX6_worthsWith_59 rfl rfl
theorem dX6_worthsWith_60 : decode cX6_worthsWith 60 = .ok (.iaload, 1) := by decide +kernel
theorem sX6_worthsWith_60 : ab_X rom K cX6_worthsWith 4 1 60 ls (.int x :: .ref a :: st) hp = (ab_ard rom 0 hp a x).bind (fun v => ab_X rom K cX6_worthsWith 4 1 61 ls (.int v :: st) hp) := ax_iaload dX6_worthsWith_60 rfl
theorem dX6_worthsWith_61 : decode cX6_worthsWith 61 = .ok (.istore 4, 2) := by decide +kernel
theorem sX6_worthsWith_61i : ab_X rom K cX6_worthsWith 4 1 61 (v0 :: v1 :: v2 :: .int y :: v4 :: ls) (.int x :: st) hp = ab_X rom K cX6_worthsWith 4 1 63 (v0 :: v1 :: v2 :: .int y :: .int x :: ls) st hp := ax_istore dX6_worthsWith_61 (ax_lt (v := v4) rfl) (ab_nl_c1 (j := 3) (v := .int y) rfl (ab_c1_int _)) rfl rfl
theorem sX6_worthsWith_61r : ab_X rom K cX6_worthsWith 4 1 61 (v0 :: v1 :: v2 :: .ref a2 :: v4 :: ls) (.int x :: st) hp = ab_X rom K cX6_worthsWith 4 1 63 (v0 :: v1 :: v2 :: .ref a2 :: .int x :: ls) st hp := ax_istore dX6_worthsWith_61 (ax_lt (v := v4) rfl) (ab_nl_c1 (j := 3) (v := .ref a2) rfl (ab_c1_ref _)) rfl rfl
theorem sX6_worthsWith_61n : ab_X rom K cX6_worthsWith 4 1 61 (v0 :: v1 :: v2 :: .null :: v4 :: ls) (.int x :: st) hp = ab_X rom K cX6_worthsWith 4 1 63 (v0 :: v1 :: v2 :: .null :: .int x :: ls) st hp := ax_istore dX6_worthsWith_61 (ax_lt (v := v4) rfl) (ab_nl_c1 (j := 3) (v := .null) rfl ab_c1_null) rfl rfl
theorem dX6_worthsWith_63 : decode cX6_worthsWith 63 = .ok (.iconst 0, 1) := by decide +kernel
theorem sX6_worthsWith_63 : ab_X rom K cX6_worthsWith 4 1 63 ls st hp = ab_X rom K cX6_worthsWith 4 1 64 ls (.int 0 :: st) hp := ax_iconst dX6_worthsWith_63 (by decide) rfl
theorem dX6_worthsWith_64 : decode cX6_worthsWith 64 = .ok (.istore 5, 2) := by decide +kernel
theorem sX6_worthsWith_64i : ab_X rom K cX6_worthsWith 4 1 64 (v0 :: v1 :: v2 :: v3 :: .int y :: v5 :: ls) (.int x :: st) hp = ab_X rom K cX6_worthsWith 4 1 66 (v0 :: v1 :: v2 :: v3 :: .int y :: .int x :: ls) st hp := ax_istore dX6_worthsWith_64 (ax_lt (v := v5) rfl) (ab_nl_c1 (j := 4) (v := .int y) rfl (ab_c1_int _)) rfl rfl
theorem sX6_worthsWith_64r : ab_X rom K cX6_worthsWith 4 1 64 (v0 :: v1 :: v2 :: v3 :: .ref a2 :: v5 :: ls) (.int x :: st) hp = ab_X rom K cX6_worthsWith 4 1 66 (v0 :: v1 :: v2 :: v3 :: .ref a2 :: .int x :: ls) st hp := ax_istore dX6_worthsWith_64 (ax_lt (v := v5) rfl) (ab_nl_c1 (j := 4) (v := .ref a2) rfl (ab_c1_ref _)) rfl rfl
theorem sX6_worthsWith_64n : ab_X rom K cX6_worthsWith 4 1 64 (v0 :: v1 :: v2 :: v3 :: .null :: v5 :: ls) (.int x :: st) hp = ab_X rom K cX6_worthsWith 4 1 66 (v0 :: v1 :: v2 :: v3 :: .null :: .int x :: ls) st hp := ax_istore dX6_worthsWith_64 (ax_lt (v := v5) rfl) (ab_nl_c1 (j := 4) (v := .null) rfl ab_c1_null) rfl rfl
theorem dX6_worthsWith_66 : decode cX6_worthsWith 66 = .ok (.iload 5, 2) := by decide +kernel
theorem sX6_worthsWith_66 : ab_X rom K cX6_worthsWith 4 1 66 (v0 :: v1 :: v2 :: v3 :: v4 :: .int x :: ls) st hp = ab_X rom K cX6_worthsWith 4 1 68 (v0 :: v1 :: v2 :: v3 :: v4 :: .int x :: ls) (.int x :: st) hp := ax_iload dX6_worthsWith_66 rfl rfl
theorem dX6_worthsWith_68 : decode cX6_worthsWith 68 = .ok (.aload_n 0, 1) := by decide +kernel
theorem sX6_worthsWith_68 : ab_X rom K cX6_worthsWith 4 1 68 (.ref a :: ls) st hp = ab_X rom K cX6_worthsWith 4 1 69 (.ref a :: ls) (.ref a :: st) hp := ax_aload_n dX6_worthsWith_68 rfl rfl
theorem dX6_worthsWith_69 : decode cX6_worthsWith 69 = .ok (.getfield 60, 3) := by decide +kernel
theorem sX6_worthsWith_69 : ab_X rom K cX6_worthsWith 4 1 69 ls (.ref a :: st) hp = (ab_fld hp a 4 5).bind (fun v => ab_X rom K cX6_worthsWith 4 1 72 ls (v :: st) hp) := ax_getfield dX6_worthsWith_69 kf_4_60 rfl
theorem dX6_worthsWith_72 : decode cX6_worthsWith 72 = .ok (.getfield 120, 3) := by decide +kernel
theorem sX6_worthsWith_72 : ab_X rom K cX6_worthsWith 4 1 72 ls (.ref a :: st) hp = (ab_fld hp a 1 0).bind (fun v => ab_X rom K cX6_worthsWith 4 1 75 ls (v :: st) hp) := ax_getfield dX6_worthsWith_72 kf_4_120 rfl
theorem dX6_worthsWith_75 : decode cX6_worthsWith 75 = .ok (.if_icmp .ge 68, 3) := by decide +kernel
theorem sX6_worthsWith_75 : ab_X rom K cX6_worthsWith 4 1 75 ls (.int y :: .int x :: st) hp = if x < y then ab_X rom K cX6_worthsWith 4 1 78 ls st hp else ab_X rom K cX6_worthsWith 4 1 143 ls st hp := ax_icmp_ge dX6_worthsWith_75 (by decide) rfl
theorem dX6_worthsWith_78 : decode cX6_worthsWith 78 = .ok (.iload 4, 2) := by decide +kernel
theorem sX6_worthsWith_78 : ab_X rom K cX6_worthsWith 4 1 78 (v0 :: v1 :: v2 :: v3 :: .int x :: ls) st hp = ab_X rom K cX6_worthsWith 4 1 80 (v0 :: v1 :: v2 :: v3 :: .int x :: ls) (.int x :: st) hp := ax_iload dX6_worthsWith_78 rfl rfl
theorem dX6_worthsWith_80 : decode cX6_worthsWith 80 = .ok (.ifCond .eq 63, 3) := by decide +kernel
theorem sX6_worthsWith_80 : ab_X rom K cX6_worthsWith 4 1 80 ls (.int x :: st) hp = if x = 0 then ab_X rom K cX6_worthsWith 4 1 143 ls st hp else ab_X rom K cX6_worthsWith 4 1 83 ls st hp := ax_if_eq dX6_worthsWith_80 (by decide) rfl
theorem dX6_worthsWith_83 : decode cX6_worthsWith 83 = .ok (.iload 4, 2) := by decide +kernel
theorem sX6_worthsWith_83 : ab_X rom K cX6_worthsWith 4 1 83 (v0 :: v1 :: v2 :: v3 :: .int x :: ls) st hp = ab_X rom K cX6_worthsWith 4 1 85 (v0 :: v1 :: v2 :: v3 :: .int x :: ls) (.int x :: st) hp := ax_iload dX6_worthsWith_83 rfl rfl
theorem dX6_worthsWith_85 : decode cX6_worthsWith 85 = .ok (.iconst 1, 1) := by decide +kernel
theorem sX6_worthsWith_85 : ab_X rom K cX6_worthsWith 4 1 85 ls st hp = ab_X rom K cX6_worthsWith 4 1 86 ls (.int 1 :: st) hp := ax_iconst dX6_worthsWith_85 (by decide) rfl
theorem dX6_worthsWith_86 : decode cX6_worthsWith 86 = .ok (.iand, 1) := by decide +kernel
theorem sX6_worthsWith_86 : ab_X rom K cX6_worthsWith 4 1 86 ls (.int y :: .int x :: st) hp = ab_X rom K cX6_worthsWith 4 1 87 ls (.int (x &&& y) :: st) hp := ax_iand dX6_worthsWith_86 rfl
theorem dX6_worthsWith_87 : decode cX6_worthsWith 87 = .ok (.ifCond .eq 44, 3) := by decide +kernel
theorem sX6_worthsWith_87 : ab_X rom K cX6_worthsWith 4 1 87 ls (.int x :: st) hp = if x = 0 then ab_X rom K cX6_worthsWith 4 1 131 ls st hp else ab_X rom K cX6_worthsWith 4 1 90 ls st hp := ax_if_eq dX6_worthsWith_87 (by decide) rfl
theorem dX6_worthsWith_90 : decode cX6_worthsWith 90 = .ok (.aload_n 0, 1) := by decide +kernel
theorem sX6_worthsWith_90 : ab_X rom K cX6_worthsWith 4 1 90 (.ref a :: ls) st hp = ab_X rom K cX6_worthsWith 4 1 91 (.ref a :: ls) (.ref a :: st) hp := ax_aload_n dX6_worthsWith_90 rfl rfl
theorem dX6_worthsWith_91 : decode cX6_worthsWith 91 = .ok (.getfield 18, 3) := by decide +kernel
theorem sX6_worthsWith_91 : ab_X rom K cX6_worthsWith 4 1 91 ls (.ref a :: st) hp = (ab_fld hp a 4 1).bind (fun v => ab_X rom K cX6_worthsWith 4 1 94 ls (v :: st) hp) := ax_getfield dX6_worthsWith_91 kf_4_18 rfl
theorem dX6_worthsWith_94 : decode cX6_worthsWith 94 = .ok (.iload 5, 2) := by decide +kernel
theorem sX6_worthsWith_94 : ab_X rom K cX6_worthsWith 4 1 94 (v0 :: v1 :: v2 :: v3 :: v4 :: .int x :: ls) st hp = ab_X rom K cX6_worthsWith 4 1 96 (v0 :: v1 :: v2 :: v3 :: v4 :: .int x :: ls) (.int x :: st) hp := ax_iload dX6_worthsWith_94 rfl rfl
theorem dX6_worthsWith_96 : decode cX6_worthsWith 96 = .ok (.iaload, 1) := by decide +kernel
theorem sX6_worthsWith_96 : ab_X rom K cX6_worthsWith 4 1 96 ls (.int x :: .ref a :: st) hp = (ab_ard rom 0 hp a x).bind (fun v => ab_X rom K cX6_worthsWith 4 1 97 ls (.int v :: st) hp) := ax_iaload dX6_worthsWith_96 rfl
theorem dX6_worthsWith_97 : decode cX6_worthsWith 97 = .ok (.iconst (-1), 1) := by decide +kernel
theorem sX6_worthsWith_97 : ab_X rom K cX6_worthsWith 4 1 97 ls st hp = ab_X rom K cX6_worthsWith 4 1 98 ls (.int (-1) :: st) hp := ax_iconst dX6_worthsWith_97 (by decide) rfl
theorem dX6_worthsWith_98 : decode cX6_worthsWith 98 = .ok (.if_icmp .eq 33, 3) := by decide +kernel
theorem sX6_worthsWith_98 : ab_X rom K cX6_worthsWith 4 1 98 ls (.int y :: .int x :: st) hp = if x = y then ab_X rom K cX6_worthsWith 4 1 131 ls st hp else ab_X rom K cX6_worthsWith 4 1 101 ls st hp := ax_icmp_eq dX6_worthsWith_98 (by decide) rfl
theorem dX6_worthsWith_101 : decode cX6_worthsWith 101 = .ok (.iconst 1, 1) := by decide +kernel
theorem sX6_worthsWith_101 : ab_X rom K cX6_worthsWith 4 1 101 ls st hp = ab_X rom K cX6_worthsWith 4 1 102 ls (.int 1 :: st) hp := ax_iconst dX6_worthsWith_101 (by decide) rfl
theorem dX6_worthsWith_102 : decode cX6_worthsWith 102 = .ok (.aload_n 0, 1) := by decide +kernel
theorem sX6_worthsWith_102 : ab_X rom K cX6_worthsWith 4 1 102 (.ref a :: ls) st hp = ab_X rom K cX6_worthsWith 4 1 103 (.ref a :: ls) (.ref a :: st) hp := ax_aload_n dX6_worthsWith_102 rfl rfl
theorem dX6_worthsWith_103 : decode cX6_worthsWith 103 = .ok (.iload_n 2, 1) := by decide +kernel
theorem sX6_worthsWith_103 : ab_X rom K cX6_worthsWith 4 1 103 (v0 :: v1 :: .int x :: ls) st hp = ab_X rom K cX6_worthsWith 4 1 104 (v0 :: v1 :: .int x :: ls) (.int x :: st) hp := ax_iload_n dX6_worthsWith_103 rfl rfl
theorem dX6_worthsWith_104 : decode cX6_worthsWith 104 = .ok (.aload_n 0, 1) := by decide +kernel
theorem sX6_worthsWith_104 : ab_X rom K cX6_worthsWith 4 1 104 (.ref a :: ls) st hp = ab_X rom K cX6_worthsWith 4 1 105 (.ref a :: ls) (.ref a :: st) hp := ax_aload_n dX6_worthsWith_104 rfl rfl
theorem dX6_worthsWith_105 : decode cX6_worthsWith 105 = .ok (.getfield 18, 3) := by decide +kernel
theorem sX6_worthsWith_105 : ab_X rom K cX6_worthsWith 4 1 105 ls (.ref a :: st) hp = (ab_fld hp a 4 1).bind (fun v => ab_X rom K cX6_worthsWith 4 1 108 ls (v :: st) hp) := ax_getfield dX6_worthsWith_105 kf_4_18 rfl
theorem dX6_worthsWith_108 : decode cX6_worthsWith 108 = .ok (.iload 5, 2) := by decide +kernel
theorem sX6_worthsWith_108 : ab_X rom K cX6_worthsWith 4 1 108 (v0 :: v1 :: v2 :: v3 :: v4 :: .int x :: ls) st hp = ab_X rom K cX6_worthsWith 4 1 110 (v0 :: v1 :: v2 :: v3 :: v4 :: .int x :: ls) (.int x :: st) hp := ax_iload dX6_worthsWith_108 rfl rfl
theorem dX6_worthsWith_110 : decode cX6_worthsWith 110 = .ok (.iaload, 1) := by decide +kernel
theorem sX6_worthsWith_110 : ab_X rom K cX6_worthsWith 4 1 110 ls (.int x :: .ref a :: st) hp = (ab_ard rom 0 hp a x).bind (fun v => ab_X rom K cX6_worthsWith 4 1 111 ls (.int v :: st) hp) := ax_iaload dX6_worthsWith_110 rfl
theorem dX6_worthsWith_111 : decode cX6_worthsWith 111 = .ok (.invokevirtual 146, 3) := by decide +kernel
theorem sX6_worthsWith_111_0 : ab_X rom K cX6_worthsWith 4 1 111 ls [w2, w1, .ref a] hp = if ab_iso hp a 4 = true then (K 73 (.ref a :: [w1, w2]) hp).bind (fun o => ab_X rom K cX6_worthsWith 4 1 114 ls (o.1.toList ++ []) o.2) else none := ay_virtual (as := [w1, w2]) (st := []) dX6_worthsWith_111 kc_4_146 rfl rfl (Nat.le_of_ble_eq_true rfl)
theorem sX6_worthsWith_111_1 : ab_X rom K cX6_worthsWith 4 1 111 ls [w2, w1, .ref a, v0] hp = if ab_iso hp a 4 = true then (K 73 (.ref a :: [w1, w2]) hp).bind (fun o => ab_X rom K cX6_worthsWith 4 1 114 ls (o.1.toList ++ [v0]) o.2) else none := ay_virtual (as := [w1, w2]) (st := [v0]) dX6_worthsWith_111 kc_4_146 rfl rfl (Nat.le_of_ble_eq_true rfl)
theorem sX6_worthsWith_111_2 : ab_X rom K cX6_worthsWith 4 1 111 ls [w2, w1, .ref a, v0, v1] hp = if ab_iso hp a 4 = true then (K 73 (.ref a :: [w1, w2]) hp).bind (fun o => ab_X rom K cX6_worthsWith 4 1 114 ls (o.1.toList ++ [v0, v1]) o.2) else none := ay_virtual (as := [w1, w2]) (st := [v0, v1]) dX6_worthsWith_111 kc_4_146 rfl rfl (Nat.le_of_ble_eq_true rfl)
theorem sX6_worthsWith_111_3 : ab_X rom K cX6_worthsWith 4 1 111 ls [w2, w1, .ref a, v0, v1, v2] hp = if ab_iso hp a 4 = true then (K 73 (.ref a :: [w1, w2]) hp).bind (fun o => ab_X rom K cX6_worthsWith 4 1 114 ls (o.1.toList ++ [v0, v1, v2]) o.2) else none := ay_virtual (as := [w1, w2]) (st := [v0, v1, v2]) dX6_worthsWith_111 kc_4_146 rfl rfl (Nat.le_of_ble_eq_true rfl)
theorem dX6_worthsWith_114 : decode cX6_worthsWith 114 = .ok (.ishl, 1) := by decide +kernel
theorem sX6_worthsWith_114 : ab_X rom K cX6_worthsWith 4 1 114 ls (.int y :: .int x :: st) hp = ab_X rom K cX6_worthsWith 4 1 115 ls (.int (x <<< (y &&& 31)) :: st) hp := ax_ishl dX6_worthsWith_114 rfl
theorem dX6_worthsWith_115 : decode cX6_worthsWith 115 = .ok (.istore 6, 2) := by decide +kernel
theorem sX6_worthsWith_115i : ab_X rom K cX6_worthsWith 4 1 115 (v0 :: v1 :: v2 :: v3 :: v4 :: .int y :: v6 :: ls) (.int x :: st) hp = ab_X rom K cX6_worthsWith 4 1 117 (v0 :: v1 :: v2 :: v3 :: v4 :: .int y :: .int x :: ls) st hp := ax_istore dX6_worthsWith_115 (ax_lt (v := v6) rfl) (ab_nl_c1 (j := 5) (v := .int y) rfl (ab_c1_int _)) rfl rfl
theorem sX6_worthsWith_115r : ab_X rom K cX6_worthsWith 4 1 115 (v0 :: v1 :: v2 :: v3 :: v4 :: .ref a2 :: v6 :: ls) (.int x :: st) hp = ab_X rom K cX6_worthsWith 4 1 117 (v0 :: v1 :: v2 :: v3 :: v4 :: .ref a2 :: .int x :: ls) st hp := ax_istore dX6_worthsWith_115 (ax_lt (v := v6) rfl) (ab_nl_c1 (j := 5) (v := .ref a2) rfl (ab_c1_ref _)) rfl rfl
theorem sX6_worthsWith_115n : ab_X rom K cX6_worthsWith 4 1 115 (v0 :: v1 :: v2 :: v3 :: v4 :: .null :: v6 :: ls) (.int x :: st) hp = ab_X rom K cX6_worthsWith 4 1 117 (v0 :: v1 :: v2 :: v3 :: v4 :: .null :: .int x :: ls) st hp := ax_istore dX6_worthsWith_115 (ax_lt (v := v6) rfl) (ab_nl_c1 (j := 5) (v := .null) rfl ab_c1_null) rfl rfl
theorem dX6_worthsWith_117 : decode cX6_worthsWith 117 = .ok (.iload_n 3, 1) := by decide +kernel
theorem sX6_worthsWith_117 : ab_X rom K cX6_worthsWith 4 1 117 (v0 :: v1 :: v2 :: .int x :: ls) st hp = ab_X rom K cX6_worthsWith 4 1 118 (v0 :: v1 :: v2 :: .int x :: ls) (.int x :: st) hp := ax_iload_n dX6_worthsWith_117 rfl rfl
theorem dX6_worthsWith_118 : decode cX6_worthsWith 118 = .ok (.iload 6, 2) := by decide +kernel
theorem sX6_worthsWith_118 : ab_X rom K cX6_worthsWith 4 1 118 (v0 :: v1 :: v2 :: v3 :: v4 :: v5 :: .int x :: ls) st hp = ab_X rom K cX6_worthsWith 4 1 120 (v0 :: v1 :: v2 :: v3 :: v4 :: v5 :: .int x :: ls) (.int x :: st) hp := ax_iload dX6_worthsWith_118 rfl rfl
theorem dX6_worthsWith_120 : decode cX6_worthsWith 120 = .ok (.iand, 1) := by decide +kernel
theorem sX6_worthsWith_120 : ab_X rom K cX6_worthsWith 4 1 120 ls (.int y :: .int x :: st) hp = ab_X rom K cX6_worthsWith 4 1 121 ls (.int (x &&& y) :: st) hp := ax_iand dX6_worthsWith_120 rfl
theorem dX6_worthsWith_121 : decode cX6_worthsWith 121 = .ok (.ifCond .eq 5, 3) := by decide +kernel
theorem sX6_worthsWith_121 : ab_X rom K cX6_worthsWith 4 1 121 ls (.int x :: st) hp = if x = 0 then ab_X rom K cX6_worthsWith 4 1 126 ls st hp else ab_X rom K cX6_worthsWith 4 1 124 ls st hp := ax_if_eq dX6_worthsWith_121 (by decide) rfl
theorem dX6_worthsWith_124 : decode cX6_worthsWith 124 = .ok (.iconst (-1), 1) := by decide +kernel
theorem sX6_worthsWith_124 : ab_X rom K cX6_worthsWith 4 1 124 ls st hp = ab_X rom K cX6_worthsWith 4 1 125 ls (.int (-1) :: st) hp := ax_iconst dX6_worthsWith_124 (by decide) rfl
theorem dX6_worthsWith_125 : decode cX6_worthsWith 125 = .ok (.ireturn, 1) := by decide +kernel
theorem sX6_worthsWith_125 : ab_X rom K cX6_worthsWith 4 1 125 ls [.int x] hp = some (some (.int x), hp) := ax_iret dX6_worthsWith_125 rfl
theorem dX6_worthsWith_126 : decode cX6_worthsWith 126 = .ok (.iload_n 3, 1) := by decide +kernel
theorem sX6_worthsWith_126 : ab_X rom K cX6_worthsWith 4 1 126 (v0 :: v1 :: v2 :: .int x :: ls) st hp = ab_X rom K cX6_worthsWith 4 1 127 (v0 :: v1 :: v2 :: .int x :: ls) (.int x :: st) hp := ax_iload_n dX6_worthsWith_126 rfl rfl
theorem dX6_worthsWith_127 : decode cX6_worthsWith 127 = .ok (.iload 6, 2) := by decide +kernel
theorem sX6_worthsWith_127 : ab_X rom K cX6_worthsWith 4 1 127 (v0 :: v1 :: v2 :: v3 :: v4 :: v5 :: .int x :: ls) st hp = ab_X rom K cX6_worthsWith 4 1 129 (v0 :: v1 :: v2 :: v3 :: v4 :: v5 :: .int x :: ls) (.int x :: st) hp := ax_iload dX6_worthsWith_127 rfl rfl
theorem dX6_worthsWith_129 : decode cX6_worthsWith 129 = .ok (.ior, 1) := by decide +kernel
theorem sX6_worthsWith_129 : ab_X rom K cX6_worthsWith 4 1 129 ls (.int y :: .int x :: st) hp = ab_X rom K cX6_worthsWith 4 1 130 ls (.int (x ||| y) :: st) hp := ax_ior dX6_worthsWith_129 rfl
theorem dX6_worthsWith_130 : decode cX6_worthsWith 130 = .ok (.istore_n 3, 1) := by decide +kernel
theorem sX6_worthsWith_130i : ab_X rom K cX6_worthsWith 4 1 130 (v0 :: v1 :: .int y :: v3 :: ls) (.int x :: st) hp = ab_X rom K cX6_worthsWith 4 1 131 (v0 :: v1 :: .int y :: .int x :: ls) st hp := ax_istore_n dX6_worthsWith_130 (ax_lt (v := v3) rfl) (ab_nl_c1 (j := 2) (v := .int y) rfl (ab_c1_int _)) rfl rfl
theorem sX6_worthsWith_130r : ab_X rom K cX6_worthsWith 4 1 130 (v0 :: v1 :: .ref a2 :: v3 :: ls) (.int x :: st) hp = ab_X rom K cX6_worthsWith 4 1 131 (v0 :: v1 :: .ref a2 :: .int x :: ls) st hp := ax_istore_n dX6_worthsWith_130 (ax_lt (v := v3) rfl) (ab_nl_c1 (j := 2) (v := .ref a2) rfl (ab_c1_ref _)) rfl rfl
theorem sX6_worthsWith_130n : ab_X rom K cX6_worthsWith 4 1 130 (v0 :: v1 :: .null :: v3 :: ls) (.int x :: st) hp = ab_X rom K cX6_worthsWith 4 1 131 (v0 :: v1 :: .null :: .int x :: ls) st hp := ax_istore_n dX6_worthsWith_130 (ax_lt (v := v3) rfl) (ab_nl_c1 (j := 2) (v := .null) rfl ab_c1_null) rfl rfl
theorem dX6_worthsWith_131 : decode cX6_worthsWith 131 = .ok (.iinc 5 1, 3) := by decide +kernel
theorem sX6_worthsWith_131i : ab_X rom K cX6_worthsWith 4 1 131 (v0 :: v1 :: v2 :: v3 :: .int y :: .int x :: ls) st hp = ab_X rom K cX6_worthsWith 4 1 134 (v0 :: v1 :: v2 :: v3 :: .int y :: .int (x + 1) :: ls) st hp := ax_iinc dX6_worthsWith_131 rfl (ab_nl_c1 (j := 4) (v := .int y) rfl (ab_c1_int _)) (by decide) rfl rfl
theorem sX6_worthsWith_131r : ab_X rom K cX6_worthsWith 4 1 131 (v0 :: v1 :: v2 :: v3 :: .ref a2 :: .int x :: ls) st hp = ab_X rom K cX6_worthsWith 4 1 134 (v0 :: v1 :: v2 :: v3 :: .ref a2 :: .int (x + 1) :: ls) st hp := ax_iinc dX6_worthsWith_131 rfl (ab_nl_c1 (j := 4) (v := .ref a2) rfl (ab_c1_ref _)) (by decide) rfl rfl
theorem sX6_worthsWith_131n : ab_X rom K cX6_worthsWith 4 1 131 (v0 :: v1 :: v2 :: v3 :: .null :: .int x :: ls) st hp = ab_X rom K cX6_worthsWith 4 1 134 (v0 :: v1 :: v2 :: v3 :: .null :: .int (x + 1) :: ls) st hp := ax_iinc dX6_worthsWith_131 rfl (ab_nl_c1 (j := 4) (v := .null) rfl ab_c1_null) (by decide) rfl rfl
theorem dX6_worthsWith_134 : decode cX6_worthsWith 134 = .ok (.iload 4, 2) := by decide +kernel
theorem sX6_worthsWith_134 : ab_X rom K cX6_worthsWith 4 1 134 (v0 :: v1 :: v2 :: v3 :: .int x :: ls) st hp = ab_X rom K cX6_worthsWith 4 1 136 (v0 :: v1 :: v2 :: v3 :: .int x :: ls) (.int x :: st) hp := ax_iload dX6_worthsWith_134 rfl rfl
theorem dX6_worthsWith_136 : decode cX6_worthsWith 136 = .ok (.iconst 1, 1) := by decide +kernel
theorem sX6_worthsWith_136 : ab_X rom K cX6_worthsWith 4 1 136 ls st hp = ab_X rom K cX6_worthsWith 4 1 137 ls (.int 1 :: st) hp := ax_iconst dX6_worthsWith_136 (by decide) rfl
theorem dX6_worthsWith_137 : decode cX6_worthsWith 137 = .ok (.ishr, 1) := by decide +kernel
theorem sX6_worthsWith_137 : ab_X rom K cX6_worthsWith 4 1 137 ls (.int y :: .int x :: st) hp = ab_X rom K cX6_worthsWith 4 1 138 ls (.int (x >>> (y &&& 31)) :: st) hp := ax_ishr dX6_worthsWith_137 rfl
theorem dX6_worthsWith_138 : decode cX6_worthsWith 138 = .ok (.istore 4, 2) := by decide +kernel
theorem sX6_worthsWith_138i : ab_X rom K cX6_worthsWith 4 1 138 (v0 :: v1 :: v2 :: .int y :: v4 :: ls) (.int x :: st) hp = ab_X rom K cX6_worthsWith 4 1 140 (v0 :: v1 :: v2 :: .int y :: .int x :: ls) st hp := ax_istore dX6_worthsWith_138 (ax_lt (v := v4) rfl) (ab_nl_c1 (j := 3) (v := .int y) rfl (ab_c1_int _)) rfl rfl
theorem sX6_worthsWith_138r : ab_X rom K cX6_worthsWith 4 1 138 (v0 :: v1 :: v2 :: .ref a2 :: v4 :: ls) (.int x :: st) hp = ab_X rom K cX6_worthsWith 4 1 140 (v0 :: v1 :: v2 :: .ref a2 :: .int x :: ls) st hp := ax_istore dX6_worthsWith_138 (ax_lt (v := v4) rfl) (ab_nl_c1 (j := 3) (v := .ref a2) rfl (ab_c1_ref _)) rfl rfl
theorem sX6_worthsWith_138n : ab_X rom K cX6_worthsWith 4 1 138 (v0 :: v1 :: v2 :: .null :: v4 :: ls) (.int x :: st) hp = ab_X rom K cX6_worthsWith 4 1 140 (v0 :: v1 :: v2 :: .null :: .int x :: ls) st hp := ax_istore dX6_worthsWith_138 (ax_lt (v := v4) rfl) (ab_nl_c1 (j := 3) (v := .null) rfl ab_c1_null) rfl rfl
theorem dX6_worthsWith_140 : decode cX6_worthsWith 140 = .ok (.goto (-74), 3) := by decide +kernel
theorem sX6_worthsWith_140 : ab_X rom K cX6_worthsWith 4 1 140 ls st hp = ab_X rom K cX6_worthsWith 4 1 66 ls st hp := ax_goto dX6_worthsWith_140 (by decide)
theorem dX6_worthsWith_143 : decode cX6_worthsWith 143 = .ok (.iload_n 3, 1) := by decide +kernel
theorem sX6_worthsWith_143 : ab_X rom K cX6_worthsWith 4 1 143 (v0 :: v1 :: v2 :: .int x :: ls) st hp = ab_X rom K cX6_worthsWith 4 1 144 (v0 :: v1 :: v2 :: .int x :: ls) (.int x :: st) hp := ax_iload_n dX6_worthsWith_143 rfl rfl
theorem dX6_worthsWith_144 : decode cX6_worthsWith 144 = .ok (.ireturn, 1) := by decide +kernel
theorem sX6_worthsWith_144 : ab_X rom K cX6_worthsWith 4 1 144 ls [.int x] hp = some (some (.int x), hp) := ax_iret dX6_worthsWith_144 rfl
end
