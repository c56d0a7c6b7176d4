/-! FairLabels$Maker: its methods step by step (printed by wip/whole/gen_steps.py) -/
section
variable {rom : List (List Int32)} {K : Nat → List Value → ab_H → Option ab_O} {ls st : List Value} {hp : ab_H} {x y z : Int32} {a a2 : Nat} {sp dp : Int32} {u w : Int64} {v0 v1 v2 v3 v4 v5 v6 v7 v8 v9 v10 v11 v12 v13 v14 v15 w1 w2 w3 w4 w5 w6 : Value}
theorem tX2_graftedPoint : ab_mT[255]? = some (yX2_graftedPoint, cX2_graftedPoint, 4, 1, 9) := by decide +kernel
theorem mX2_graftedPoint {d : Nat} {r0 : Nat} {x1 : Int32} {x2 : Int32} {x3 : Int32} : ab_M rom (d + 1) 255 [.ref r0, .int x1, .int x2, .int x3] hp = ab_X rom (ab_M rom d) cX2_graftedPoint 9 1 0 [.ref r0, .int x1, .int x2, .int x3] [] hp := ab_M_eq tX2_graftedPoint (Nat.le_of_ble_eq_true rfl)
theorem dX2_graftedPoint_0 : decode cX2_graftedPoint 0 = .ok (.iload_n 1, 1) := by decide +kernel
theorem sX2_graftedPoint_0 : ab_X rom K cX2_graftedPoint 9 1 0 (v0 :: .int x :: ls) st hp = ab_X rom K cX2_graftedPoint 9 1 1 (v0 :: .int x :: ls) (.int x :: st) hp := ax_iload_n dX2_graftedPoint_0 rfl rfl
theorem dX2_graftedPoint_1 : decode cX2_graftedPoint 1 = .ok (.iload_n 2, 1) := by decide +kernel
theorem sX2_graftedPoint_1 : ab_X rom K cX2_graftedPoint 9 1 1 (v0 :: v1 :: .int x :: ls) st hp = ab_X rom K cX2_graftedPoint 9 1 2 (v0 :: v1 :: .int x :: ls) (.int x :: st) hp := ax_iload_n dX2_graftedPoint_1 rfl rfl
theorem dX2_graftedPoint_2 : decode cX2_graftedPoint 2 = .ok (.if_icmp .ne 5, 3) := by decide +kernel
theorem sX2_graftedPoint_2 : ab_X rom K cX2_graftedPoint 9 1 2 ls (.int y :: .int x :: st) hp = if x = y then ab_X rom K cX2_graftedPoint 9 1 5 ls st hp else ab_X rom K cX2_graftedPoint 9 1 7 ls st hp := ax_icmp_ne dX2_graftedPoint_2 (by decide) rfl
theorem dX2_graftedPoint_5 : decode cX2_graftedPoint 5 = .ok (.iload_n 3, 1) := by decide +kernel
theorem sX2_graftedPoint_5 : ab_X rom K cX2_graftedPoint 9 1 5 (v0 :: v1 :: v2 :: .int x :: ls) st hp = ab_X rom K cX2_graftedPoint 9 1 6 (v0 :: v1 :: v2 :: .int x :: ls) (.int x :: st) hp := ax_iload_n dX2_graftedPoint_5 rfl rfl
theorem dX2_graftedPoint_6 : decode cX2_graftedPoint 6 = .ok (.ireturn, 1) := by decide +kernel
theorem sX2_graftedPoint_6 : ab_X rom K cX2_graftedPoint 9 1 6 ls [.int x] hp = some (some (.int x), hp) := ax_iret dX2_graftedPoint_6 rfl
theorem dX2_graftedPoint_7 : decode cX2_graftedPoint 7 = .ok (.aload_n 0, 1) := by decide +kernel
theorem sX2_graftedPoint_7 : ab_X rom K cX2_graftedPoint 9 1 7 (.ref a :: ls) st hp = ab_X rom K cX2_graftedPoint 9 1 8 (.ref a :: ls) (.ref a :: st) hp := ax_aload_n dX2_graftedPoint_7 rfl rfl
theorem dX2_graftedPoint_8 : decode cX2_graftedPoint 8 = .ok (.getfield 35, 3) := by decide +kernel
theorem sX2_graftedPoint_8 : ab_X rom K cX2_graftedPoint 9 1 8 ls (.ref a :: st) hp = (ab_fld hp a 1 0).bind (fun v => ab_X rom K cX2_graftedPoint 9 1 11 ls (v :: st) hp) := ax_getfield dX2_graftedPoint_8 kf_9_35 rfl
theorem dX2_graftedPoint_11 : decode cX2_graftedPoint 11 = .ok (.iload_n 1, 1) := by decide +kernel
theorem sX2_graftedPoint_11 : ab_X rom K cX2_graftedPoint 9 1 11 (v0 :: .int x :: ls) st hp = ab_X rom K cX2_graftedPoint 9 1 12 (v0 :: .int x :: ls) (.int x :: st) hp := ax_iload_n dX2_graftedPoint_11 rfl rfl
theorem dX2_graftedPoint_12 : decode cX2_graftedPoint 12 = .ok (.iload_n 2, 1) := by decide +kernel
theorem sX2_graftedPoint_12 : ab_X rom K cX2_graftedPoint 9 1 12 (v0 :: v1 :: .int x :: ls) st hp = ab_X rom K cX2_graftedPoint 9 1 13 (v0 :: v1 :: .int x :: ls) (.int x :: st) hp := ax_iload_n dX2_graftedPoint_12 rfl rfl
theorem dX2_graftedPoint_13 : decode cX2_graftedPoint 13 = .ok (.if_icmp .le 9, 3) := by decide +kernel
theorem sX2_graftedPoint_13 : ab_X rom K cX2_graftedPoint 9 1 13 ls (.int y :: .int x :: st) hp = if y < x then ab_X rom K cX2_graftedPoint 9 1 16 ls st hp else ab_X rom K cX2_graftedPoint 9 1 22 ls st hp := ax_icmp_le dX2_graftedPoint_13 (by decide) rfl
theorem dX2_graftedPoint_16 : decode cX2_graftedPoint 16 = .ok (.iload_n 1, 1) := by decide +kernel
theorem sX2_graftedPoint_16 : ab_X rom K cX2_graftedPoint 9 1 16 (v0 :: .int x :: ls) st hp = ab_X rom K cX2_graftedPoint 9 1 17 (v0 :: .int x :: ls) (.int x :: st) hp := ax_iload_n dX2_graftedPoint_16 rfl rfl
theorem dX2_graftedPoint_17 : decode cX2_graftedPoint 17 = .ok (.iconst 1, 1) := by decide +kernel
theorem sX2_graftedPoint_17 : ab_X rom K cX2_graftedPoint 9 1 17 ls st hp = ab_X rom K cX2_graftedPoint 9 1 18 ls (.int 1 :: st) hp := ax_iconst dX2_graftedPoint_17 (by decide) rfl
theorem dX2_graftedPoint_18 : decode cX2_graftedPoint 18 = .ok (.isub, 1) := by decide +kernel
theorem sX2_graftedPoint_18 : ab_X rom K cX2_graftedPoint 9 1 18 ls (.int y :: .int x :: st) hp = ab_X rom K cX2_graftedPoint 9 1 19 ls (.int (x - y) :: st) hp := ax_isub dX2_graftedPoint_18 rfl
theorem dX2_graftedPoint_19 : decode cX2_graftedPoint 19 = .ok (.goto 4, 3) := by decide +kernel
theorem sX2_graftedPoint_19 : ab_X rom K cX2_graftedPoint 9 1 19 ls st hp = ab_X rom K cX2_graftedPoint 9 1 23 ls st hp := ax_goto dX2_graftedPoint_19 (by decide)
theorem dX2_graftedPoint_22 : decode cX2_graftedPoint 22 = .ok (.iload_n 1, 1) := by decide +kernel
theorem sX2_graftedPoint_22 : ab_X rom K cX2_graftedPoint 9 1 22 (v0 :: .int x :: ls) st hp = ab_X rom K cX2_graftedPoint 9 1 23 (v0 :: .int x :: ls) (.int x :: st) hp := ax_iload_n dX2_graftedPoint_22 rfl rfl
theorem dX2_graftedPoint_23 : decode cX2_graftedPoint 23 = .ok (.iadd, 1) := by decide +kernel
theorem sX2_graftedPoint_23 : ab_X rom K cX2_graftedPoint 9 1 23 ls (.int y :: .int x :: st) hp = ab_X rom K cX2_graftedPoint 9 1 24 ls (.int (x + y) :: st) hp := ax_iadd dX2_graftedPoint_23 rfl
theorem dX2_graftedPoint_24 : decode cX2_graftedPoint 24 = .ok (.ireturn, 1) := by decide +kernel
theorem sX2_graftedPoint_24 : ab_X rom K cX2_graftedPoint 9 1 24 ls [.int x] hp = some (some (.int x), hp) := ax_iret dX2_graftedPoint_24 rfl
theorem tX2_joinInRow : ab_mT[256]? = some (yX2_joinInRow, cX2_joinInRow, 3, 0, 9) := by decide +kernel
theorem mX2_joinInRow {d : Nat} {r0 : Nat} {x1 : Int32} : ab_M rom (d + 1) 256 [.ref r0, .int x1] hp = ab_X rom (ab_M rom d) cX2_joinInRow 9 0 0 [.ref r0, .int x1, .null] [] hp := ab_M_eq tX2_joinInRow (Nat.le_of_ble_eq_true rfl)
theorem dX2_joinInRow_0 : decode cX2_joinInRow 0 = .ok (.aload_n 0, 1) := by decide +kernel
theorem sX2_joinInRow_0 : ab_X rom K cX2_joinInRow 9 0 0 (.ref a :: ls) st hp = ab_X rom K cX2_joinInRow 9 0 1 (.ref a :: ls) (.ref a :: st) hp := ax_aload_n dX2_joinInRow_0 rfl rfl
theorem dX2_joinInRow_1 : decode cX2_joinInRow 1 = .ok (.iload_n 1, 1) := by decide +kernel
theorem sX2_joinInRow_1 : ab_X rom K cX2_joinInRow 9 0 1 (v0 :: .int x :: ls) st hp = ab_X rom K cX2_joinInRow 9 0 2 (v0 :: .int x :: ls) (.int x :: st) hp := ax_iload_n dX2_joinInRow_1 rfl rfl
theorem dX2_joinInRow_2 : decode cX2_joinInRow 2 = .ok (.invokevirtual 25, 3) := by decide +kernel
theorem sX2_joinInRow_2_0 : ab_X rom K cX2_joinInRow 9 0 2 ls [w1, .ref a] hp = if ab_iso hp a 1 = true then (K 15 (.ref a :: [w1]) hp).bind (fun o => ab_X rom K cX2_joinInRow 9 0 5 ls (o.1.toList ++ []) o.2) else none := ay_virtual (as := [w1]) (st := []) dX2_joinInRow_2 kc_9_25 rfl rfl (Nat.le_of_ble_eq_true rfl)
theorem sX2_joinInRow_2_1 : ab_X rom K cX2_joinInRow 9 0 2 ls [w1, .ref a, v0] hp = if ab_iso hp a 1 = true then (K 15 (.ref a :: [w1]) hp).bind (fun o => ab_X rom K cX2_joinInRow 9 0 5 ls (o.1.toList ++ [v0]) o.2) else none := ay_virtual (as := [w1]) (st := [v0]) dX2_joinInRow_2 kc_9_25 rfl rfl (Nat.le_of_ble_eq_true rfl)
theorem sX2_joinInRow_2_2 : ab_X rom K cX2_joinInRow 9 0 2 ls [w1, .ref a, v0, v1] hp = if ab_iso hp a 1 = true then (K 15 (.ref a :: [w1]) hp).bind (fun o => ab_X rom K cX2_joinInRow 9 0 5 ls (o.1.toList ++ [v0, v1]) o.2) else none := ay_virtual (as := [w1]) (st := [v0, v1]) dX2_joinInRow_2 kc_9_25 rfl rfl (Nat.le_of_ble_eq_true rfl)
theorem sX2_joinInRow_2_3 : ab_X rom K cX2_joinInRow 9 0 2 ls [w1, .ref a, v0, v1, v2] hp = if ab_iso hp a 1 = true then (K 15 (.ref a :: [w1]) hp).bind (fun o => ab_X rom K cX2_joinInRow 9 0 5 ls (o.1.toList ++ [v0, v1, v2]) o.2) else none := ay_virtual (as := [w1]) (st := [v0, v1, v2]) dX2_joinInRow_2 kc_9_25 rfl rfl (Nat.le_of_ble_eq_true rfl)
theorem dX2_joinInRow_5 : decode cX2_joinInRow 5 = .ok (.iconst 1, 1) := by decide +kernel
theorem sX2_joinInRow_5 : ab_X rom K cX2_joinInRow 9 0 5 ls st hp = ab_X rom K cX2_joinInRow 9 0 6 ls (.int 1 :: st) hp := ax_iconst dX2_joinInRow_5 (by decide) rfl
theorem dX2_joinInRow_6 : decode cX2_joinInRow 6 = .ok (.istore_n 2, 1) := by decide +kernel
theorem sX2_joinInRow_6i : ab_X rom K cX2_joinInRow 9 0 6 (v0 :: .int y :: v2 :: ls) (.int x :: st) hp = ab_X rom K cX2_joinInRow 9 0 7 (v0 :: .int y :: .int x :: ls) st hp := ax_istore_n dX2_joinInRow_6 (ax_lt (v := v2) rfl) (ab_nl_c1 (j := 1) (v := .int y) rfl (ab_c1_int _)) rfl rfl
theorem sX2_joinInRow_6r : ab_X rom K cX2_joinInRow 9 0 6 (v0 :: .ref a2 :: v2 :: ls) (.int x :: st) hp = ab_X rom K cX2_joinInRow 9 0 7 (v0 :: .ref a2 :: .int x :: ls) st hp := ax_istore_n dX2_joinInRow_6 (ax_lt (v := v2) rfl) (ab_nl_c1 (j := 1) (v := .ref a2) rfl (ab_c1_ref _)) rfl rfl
theorem sX2_joinInRow_6n : ab_X rom K cX2_joinInRow 9 0 6 (v0 :: .null :: v2 :: ls) (.int x :: st) hp = ab_X rom K cX2_joinInRow 9 0 7 (v0 :: .null :: .int x :: ls) st hp := ax_istore_n dX2_joinInRow_6 (ax_lt (v := v2) rfl) (ab_nl_c1 (j := 1) (v := .null) rfl ab_c1_null) rfl rfl
theorem dX2_joinInRow_7 : decode cX2_joinInRow 7 = .ok (.iload_n 2, 1) := by decide +kernel
theorem sX2_joinInRow_7 : ab_X rom K cX2_joinInRow 9 0 7 (v0 :: v1 :: .int x :: ls) st hp = ab_X rom K cX2_joinInRow 9 0 8 (v0 :: v1 :: .int x :: ls) (.int x :: st) hp := ax_iload_n dX2_joinInRow_7 rfl rfl
theorem dX2_joinInRow_8 : decode cX2_joinInRow 8 = .ok (.iload_n 1, 1) := by decide +kernel
theorem sX2_joinInRow_8 : ab_X rom K cX2_joinInRow 9 0 8 (v0 :: .int x :: ls) st hp = ab_X rom K cX2_joinInRow 9 0 9 (v0 :: .int x :: ls) (.int x :: st) hp := ax_iload_n dX2_joinInRow_8 rfl rfl
theorem dX2_joinInRow_9 : decode cX2_joinInRow 9 = .ok (.if_icmp .ge 17, 3) := by decide +kernel
theorem sX2_joinInRow_9 : ab_X rom K cX2_joinInRow 9 0 9 ls (.int y :: .int x :: st) hp = if x < y then ab_X rom K cX2_joinInRow 9 0 12 ls st hp else ab_X rom K cX2_joinInRow 9 0 26 ls st hp := ax_icmp_ge dX2_joinInRow_9 (by decide) rfl
theorem dX2_joinInRow_12 : decode cX2_joinInRow 12 = .ok (.aload_n 0, 1) := by decide +kernel
theorem sX2_joinInRow_12 : ab_X rom K cX2_joinInRow 9 0 12 (.ref a :: ls) st hp = ab_X rom K cX2_joinInRow 9 0 13 (.ref a :: ls) (.ref a :: st) hp := ax_aload_n dX2_joinInRow_12 rfl rfl
theorem dX2_joinInRow_13 : decode cX2_joinInRow 13 = .ok (.iload_n 2, 1) := by decide +kernel
theorem sX2_joinInRow_13 : ab_X rom K cX2_joinInRow 9 0 13 (v0 :: v1 :: .int x :: ls) st hp = ab_X rom K cX2_joinInRow 9 0 14 (v0 :: v1 :: .int x :: ls) (.int x :: st) hp := ax_iload_n dX2_joinInRow_13 rfl rfl
theorem dX2_joinInRow_14 : decode cX2_joinInRow 14 = .ok (.iconst 1, 1) := by decide +kernel
theorem sX2_joinInRow_14 : ab_X rom K cX2_joinInRow 9 0 14 ls st hp = ab_X rom K cX2_joinInRow 9 0 15 ls (.int 1 :: st) hp := ax_iconst dX2_joinInRow_14 (by decide) rfl
theorem dX2_joinInRow_15 : decode cX2_joinInRow 15 = .ok (.isub, 1) := by decide +kernel
theorem sX2_joinInRow_15 : ab_X rom K cX2_joinInRow 9 0 15 ls (.int y :: .int x :: st) hp = ab_X rom K cX2_joinInRow 9 0 16 ls (.int (x - y) :: st) hp := ax_isub dX2_joinInRow_15 rfl
theorem dX2_joinInRow_16 : decode cX2_joinInRow 16 = .ok (.iload_n 2, 1) := by decide +kernel
theorem sX2_joinInRow_16 : ab_X rom K cX2_joinInRow 9 0 16 (v0 :: v1 :: .int x :: ls) st hp = ab_X rom K cX2_joinInRow 9 0 17 (v0 :: v1 :: .int x :: ls) (.int x :: st) hp := ax_iload_n dX2_joinInRow_16 rfl rfl
theorem dX2_joinInRow_17 : decode cX2_joinInRow 17 = .ok (.invokevirtual 31, 3) := by decide +kernel
theorem sX2_joinInRow_17_0 : ab_X rom K cX2_joinInRow 9 0 17 ls [w2, w1, .ref a] hp = if ab_iso hp a 1 = true then (K 22 (.ref a :: [w1, w2]) hp).bind (fun o => ab_X rom K cX2_joinInRow 9 0 20 ls (o.1.toList ++ []) o.2) else none := ay_virtual (as := [w1, w2]) (st := []) dX2_joinInRow_17 kc_9_31 rfl rfl (Nat.le_of_ble_eq_true rfl)
theorem sX2_joinInRow_17_1 : ab_X rom K cX2_joinInRow 9 0 17 ls [w2, w1, .ref a, v0] hp = if ab_iso hp a 1 = true then (K 22 (.ref a :: [w1, w2]) hp).bind (fun o => ab_X rom K cX2_joinInRow 9 0 20 ls (o.1.toList ++ [v0]) o.2) else none := ay_virtual (as := [w1, w2]) (st := [v0]) dX2_joinInRow_17 kc_9_31 rfl rfl (Nat.le_of_ble_eq_true rfl)
theorem sX2_joinInRow_17_2 : ab_X rom K cX2_joinInRow 9 0 17 ls [w2, w1, .ref a, v0, v1] hp = if ab_iso hp a 1 = true then (K 22 (.ref a :: [w1, w2]) hp).bind (fun o => ab_X rom K cX2_joinInRow 9 0 20 ls (o.1.toList ++ [v0, v1]) o.2) else none := ay_virtual (as := [w1, w2]) (st := [v0, v1]) dX2_joinInRow_17 kc_9_31 rfl rfl (Nat.le_of_ble_eq_true rfl)
theorem sX2_joinInRow_17_3 : ab_X rom K cX2_joinInRow 9 0 17 ls [w2, w1, .ref a, v0, v1, v2] hp = if ab_iso hp a 1 = true then (K 22 (.ref a :: [w1, w2]) hp).bind (fun o => ab_X rom K cX2_joinInRow 9 0 20 ls (o.1.toList ++ [v0, v1, v2]) o.2) else none := ay_virtual (as := [w1, w2]) (st := [v0, v1, v2]) dX2_joinInRow_17 kc_9_31 rfl rfl (Nat.le_of_ble_eq_true rfl)
theorem dX2_joinInRow_20 : decode cX2_joinInRow 20 = .ok (.iinc 2 1, 3) := by decide +kernel
theorem sX2_joinInRow_20i : ab_X rom K cX2_joinInRow 9 0 20 (v0 :: .int y :: .int x :: ls) st hp = ab_X rom K cX2_joinInRow 9 0 23 (v0 :: .int y :: .int (x + 1) :: ls) st hp := ax_iinc dX2_joinInRow_20 rfl (ab_nl_c1 (j := 1) (v := .int y) rfl (ab_c1_int _)) (by decide) rfl rfl
theorem sX2_joinInRow_20r : ab_X rom K cX2_joinInRow 9 0 20 (v0 :: .ref a2 :: .int x :: ls) st hp = ab_X rom K cX2_joinInRow 9 0 23 (v0 :: .ref a2 :: .int (x + 1) :: ls) st hp := ax_iinc dX2_joinInRow_20 rfl (ab_nl_c1 (j := 1) (v := .ref a2) rfl (ab_c1_ref _)) (by decide) rfl rfl
theorem sX2_joinInRow_20n : ab_X rom K cX2_joinInRow 9 0 20 (v0 :: .null :: .int x :: ls) st hp = ab_X rom K cX2_joinInRow 9 0 23 (v0 :: .null :: .int (x + 1) :: ls) st hp := ax_iinc dX2_joinInRow_20 rfl (ab_nl_c1 (j := 1) (v := .null) rfl ab_c1_null) (by decide) rfl rfl
theorem dX2_joinInRow_23 : decode cX2_joinInRow 23 = .ok (.goto (-16), 3) := by decide +kernel
theorem sX2_joinInRow_23 : ab_X rom K cX2_joinInRow 9 0 23 ls st hp = ab_X rom K cX2_joinInRow 9 0 7 ls st hp := ax_goto dX2_joinInRow_23 (by decide)
theorem dX2_joinInRow_26 : decode cX2_joinInRow 26 = .ok (.return_, 1) := by decide +kernel
theorem sX2_joinInRow_26 : ab_X rom K cX2_joinInRow 9 0 26 ls [] hp = some (none, hp) := ax_vret dX2_joinInRow_26 (by decide)
theorem tX2_makeFamily : ab_mT[257]? = some (yX2_makeFamily, cX2_makeFamily, 4, 2, 9) := by decide +kernel
theorem mX2_makeFamily {d : Nat} {r0 : Nat} {x1 : Int32} {x2 : Int32} {x3 : Int32} : ab_M rom (d + 1) 257 [.ref r0, .int x1, .int x2, .int x3] hp = ab_X rom (ab_M rom d) cX2_makeFamily 9 2 0 [.ref r0, .int x1, .int x2, .int x3] [] hp := ab_M_eq tX2_makeFamily (Nat.le_of_ble_eq_true rfl)
theorem dX2_makeFamily_0 : decode cX2_makeFamily 0 = .ok (.iload_n 1, 1) := by decide +kernel
theorem sX2_makeFamily_0 : ab_X rom K cX2_makeFamily 9 2 0 (v0 :: .int x :: ls) st hp = ab_X rom K cX2_makeFamily 9 2 1 (v0 :: .int x :: ls) (.int x :: st) hp := ax_iload_n dX2_makeFamily_0 rfl rfl
theorem dX2_makeFamily_1 : decode cX2_makeFamily 1 = .ok (.tableswitch 182 0 4 #[35, 60, 86, 111, 135], 35) := by decide +kernel
theorem sX2_makeFamily_1_d (h : x.toInt < 0 ∨ 4 < x.toInt) : ab_X rom K cX2_makeFamily 9 2 1 ls (.int x :: st) hp = ab_X rom K cX2_makeFamily 9 2 183 ls st hp := ax_tsw_out dX2_makeFamily_1 (by decide) h
theorem sX2_makeFamily_1_0 : ab_X rom K cX2_makeFamily 9 2 1 ls (.int 0 :: st) hp = ab_X rom K cX2_makeFamily 9 2 36 ls st hp := ax_tsw_in (off := 35) dX2_makeFamily_1 (by decide) (by decide) (by decide)
theorem sX2_makeFamily_1_1 : ab_X rom K cX2_makeFamily 9 2 1 ls (.int 1 :: st) hp = ab_X rom K cX2_makeFamily 9 2 61 ls st hp := ax_tsw_in (off := 60) dX2_makeFamily_1 (by decide) (by decide) (by decide)
theorem sX2_makeFamily_1_2 : ab_X rom K cX2_makeFamily 9 2 1 ls (.int 2 :: st) hp = ab_X rom K cX2_makeFamily 9 2 87 ls st hp := ax_tsw_in (off := 86) dX2_makeFamily_1 (by decide) (by decide) (by decide)
theorem sX2_makeFamily_1_3 : ab_X rom K cX2_makeFamily 9 2 1 ls (.int 3 :: st) hp = ab_X rom K cX2_makeFamily 9 2 112 ls st hp := ax_tsw_in (off := 111) dX2_makeFamily_1 (by decide) (by decide) (by decide)
theorem sX2_makeFamily_1_4 : ab_X rom K cX2_makeFamily 9 2 1 ls (.int 4 :: st) hp = ab_X rom K cX2_makeFamily 9 2 136 ls st hp := ax_tsw_in (off := 135) dX2_makeFamily_1 (by decide) (by decide) (by decide)
theorem dX2_makeFamily_36 : decode cX2_makeFamily 36 = .ok (.iload_n 2, 1) := by decide +kernel
theorem sX2_makeFamily_36 : ab_X rom K cX2_makeFamily 9 2 36 (v0 :: v1 :: .int x :: ls) st hp = ab_X rom K cX2_makeFamily 9 2 37 (v0 :: v1 :: .int x :: ls) (.int x :: st) hp := ax_iload_n dX2_makeFamily_36 rfl rfl
theorem dX2_makeFamily_37 : decode cX2_makeFamily 37 = .ok (.iconst 2, 1) := by decide +kernel
theorem sX2_makeFamily_37 : ab_X rom K cX2_makeFamily 9 2 37 ls st hp = ab_X rom K cX2_makeFamily 9 2 38 ls (.int 2 :: st) hp := ax_iconst dX2_makeFamily_37 (by decide) rfl
theorem dX2_makeFamily_38 : decode cX2_makeFamily 38 = .ok (.if_icmp .lt 21, 3) := by decide +kernel
theorem sX2_makeFamily_38 : ab_X rom K cX2_makeFamily 9 2 38 ls (.int y :: .int x :: st) hp = if x < y then ab_X rom K cX2_makeFamily 9 2 59 ls st hp else ab_X rom K cX2_makeFamily 9 2 41 ls st hp := ax_icmp_lt dX2_makeFamily_38 (by decide) rfl
theorem dX2_makeFamily_41 : decode cX2_makeFamily 41 = .ok (.iload_n 2, 1) := by decide +kernel
theorem sX2_makeFamily_41 : ab_X rom K cX2_makeFamily 9 2 41 (v0 :: v1 :: .int x :: ls) st hp = ab_X rom K cX2_makeFamily 9 2 42 (v0 :: v1 :: .int x :: ls) (.int x :: st) hp := ax_iload_n dX2_makeFamily_41 rfl rfl
theorem dX2_makeFamily_42 : decode cX2_makeFamily 42 = .ok (.bipush 7, 2) := by decide +kernel
theorem sX2_makeFamily_42 : ab_X rom K cX2_makeFamily 9 2 42 ls st hp = ab_X rom K cX2_makeFamily 9 2 44 ls (.int 7 :: st) hp := ax_bipush dX2_makeFamily_42 (by decide) rfl
theorem dX2_makeFamily_44 : decode cX2_makeFamily 44 = .ok (.if_icmp .gt 15, 3) := by decide +kernel
theorem sX2_makeFamily_44 : ab_X rom K cX2_makeFamily 9 2 44 ls (.int y :: .int x :: st) hp = if y < x then ab_X rom K cX2_makeFamily 9 2 59 ls st hp else ab_X rom K cX2_makeFamily 9 2 47 ls st hp := ax_icmp_gt dX2_makeFamily_44 (by decide) rfl
theorem dX2_makeFamily_47 : decode cX2_makeFamily 47 = .ok (.aload_n 0, 1) := by decide +kernel
theorem sX2_makeFamily_47 : ab_X rom K cX2_makeFamily 9 2 47 (.ref a :: ls) st hp = ab_X rom K cX2_makeFamily 9 2 48 (.ref a :: ls) (.ref a :: st) hp := ax_aload_n dX2_makeFamily_47 rfl rfl
theorem dX2_makeFamily_48 : decode cX2_makeFamily 48 = .ok (.iload_n 2, 1) := by decide +kernel
theorem sX2_makeFamily_48 : ab_X rom K cX2_makeFamily 9 2 48 (v0 :: v1 :: .int x :: ls) st hp = ab_X rom K cX2_makeFamily 9 2 49 (v0 :: v1 :: .int x :: ls) (.int x :: st) hp := ax_iload_n dX2_makeFamily_48 rfl rfl
theorem dX2_makeFamily_49 : decode cX2_makeFamily 49 = .ok (.invokestatic 9, 3) := by decide +kernel
theorem sX2_makeFamily_49_0 : ab_X rom K cX2_makeFamily 9 2 49 ls [w2, w1] hp = (K 260 [w1, w2] hp).bind (fun o => ab_X rom K cX2_makeFamily 9 2 52 ls (o.1.toList ++ []) o.2) := ax_static (as := [w1, w2]) (st := []) dX2_makeFamily_49 kc_9_9 rfl rfl (Nat.le_of_ble_eq_true rfl)
theorem sX2_makeFamily_49_1 : ab_X rom K cX2_makeFamily 9 2 49 ls [w2, w1, v0] hp = (K 260 [w1, w2] hp).bind (fun o => ab_X rom K cX2_makeFamily 9 2 52 ls (o.1.toList ++ [v0]) o.2) := ax_static (as := [w1, w2]) (st := [v0]) dX2_makeFamily_49 kc_9_9 rfl rfl (Nat.le_of_ble_eq_true rfl)
theorem sX2_makeFamily_49_2 : ab_X rom K cX2_makeFamily 9 2 49 ls [w2, w1, v0, v1] hp = (K 260 [w1, w2] hp).bind (fun o => ab_X rom K cX2_makeFamily 9 2 52 ls (o.1.toList ++ [v0, v1]) o.2) := ax_static (as := [w1, w2]) (st := [v0, v1]) dX2_makeFamily_49 kc_9_9 rfl rfl (Nat.le_of_ble_eq_true rfl)
theorem sX2_makeFamily_49_3 : ab_X rom K cX2_makeFamily 9 2 49 ls [w2, w1, v0, v1, v2] hp = (K 260 [w1, w2] hp).bind (fun o => ab_X rom K cX2_makeFamily 9 2 52 ls (o.1.toList ++ [v0, v1, v2]) o.2) := ax_static (as := [w1, w2]) (st := [v0, v1, v2]) dX2_makeFamily_49 kc_9_9 rfl rfl (Nat.le_of_ble_eq_true rfl)
theorem dX2_makeFamily_52 : decode cX2_makeFamily 52 = .ok (.ifCond .eq 7, 3) := by decide +kernel
theorem sX2_makeFamily_52 : ab_X rom K cX2_makeFamily 9 2 52 ls (.int x :: st) hp = if x = 0 then ab_X rom K cX2_makeFamily 9 2 59 ls st hp else ab_X rom K cX2_makeFamily 9 2 55 ls st hp := ax_if_eq dX2_makeFamily_52 (by decide) rfl
theorem dX2_makeFamily_55 : decode cX2_makeFamily 55 = .ok (.iconst 1, 1) := by decide +kernel
theorem sX2_makeFamily_55 : ab_X rom K cX2_makeFamily 9 2 55 ls st hp = ab_X rom K cX2_makeFamily 9 2 56 ls (.int 1 :: st) hp := ax_iconst dX2_makeFamily_55 (by decide) rfl
theorem dX2_makeFamily_56 : decode cX2_makeFamily 56 = .ok (.goto 4, 3) := by decide +kernel
theorem sX2_makeFamily_56 : ab_X rom K cX2_makeFamily 9 2 56 ls st hp = ab_X rom K cX2_makeFamily 9 2 60 ls st hp := ax_goto dX2_makeFamily_56 (by decide)
theorem dX2_makeFamily_59 : decode cX2_makeFamily 59 = .ok (.iconst 0, 1) := by decide +kernel
theorem sX2_makeFamily_59 : ab_X rom K cX2_makeFamily 9 2 59 ls st hp = ab_X rom K cX2_makeFamily 9 2 60 ls (.int 0 :: st) hp := ax_iconst dX2_makeFamily_59 (by decide) rfl
theorem dX2_makeFamily_60 : decode cX2_makeFamily 60 = .ok (.ireturn, 1) := by decide +kernel
theorem sX2_makeFamily_60 : ab_X rom K cX2_makeFamily 9 2 60 ls [.int x] hp = if x = 0 ∨ x = 1 then some (some (.int x), hp) else none := ay_zret dX2_makeFamily_60 rfl
theorem dX2_makeFamily_61 : decode cX2_makeFamily 61 = .ok (.iload_n 2, 1) := by decide +kernel
theorem sX2_makeFamily_61 : ab_X rom K cX2_makeFamily 9 2 61 (v0 :: v1 :: .int x :: ls) st hp = ab_X rom K cX2_makeFamily 9 2 62 (v0 :: v1 :: .int x :: ls) (.int x :: st) hp := ax_iload_n dX2_makeFamily_61 rfl rfl
theorem dX2_makeFamily_62 : decode cX2_makeFamily 62 = .ok (.iconst 1, 1) := by decide +kernel
theorem sX2_makeFamily_62 : ab_X rom K cX2_makeFamily 9 2 62 ls st hp = ab_X rom K cX2_makeFamily 9 2 63 ls (.int 1 :: st) hp := ax_iconst dX2_makeFamily_62 (by decide) rfl
theorem dX2_makeFamily_63 : decode cX2_makeFamily 63 = .ok (.if_icmp .lt 22, 3) := by decide +kernel
theorem sX2_makeFamily_63 : ab_X rom K cX2_makeFamily 9 2 63 ls (.int y :: .int x :: st) hp = if x < y then ab_X rom K cX2_makeFamily 9 2 85 ls st hp else ab_X rom K cX2_makeFamily 9 2 66 ls st hp := ax_icmp_lt dX2_makeFamily_63 (by decide) rfl
theorem dX2_makeFamily_66 : decode cX2_makeFamily 66 = .ok (.iload_n 2, 1) := by decide +kernel
theorem sX2_makeFamily_66 : ab_X rom K cX2_makeFamily 9 2 66 (v0 :: v1 :: .int x :: ls) st hp = ab_X rom K cX2_makeFamily 9 2 67 (v0 :: v1 :: .int x :: ls) (.int x :: st) hp := ax_iload_n dX2_makeFamily_66 rfl rfl
theorem dX2_makeFamily_67 : decode cX2_makeFamily 67 = .ok (.bipush 7, 2) := by decide +kernel
theorem sX2_makeFamily_67 : ab_X rom K cX2_makeFamily 9 2 67 ls st hp = ab_X rom K cX2_makeFamily 9 2 69 ls (.int 7 :: st) hp := ax_bipush dX2_makeFamily_67 (by decide) rfl
theorem dX2_makeFamily_69 : decode cX2_makeFamily 69 = .ok (.if_icmp .ge 16, 3) := by decide +kernel
theorem sX2_makeFamily_69 : ab_X rom K cX2_makeFamily 9 2 69 ls (.int y :: .int x :: st) hp = if x < y then ab_X rom K cX2_makeFamily 9 2 72 ls st hp else ab_X rom K cX2_makeFamily 9 2 85 ls st hp := ax_icmp_ge dX2_makeFamily_69 (by decide) rfl
theorem dX2_makeFamily_72 : decode cX2_makeFamily 72 = .ok (.aload_n 0, 1) := by decide +kernel
theorem sX2_makeFamily_72 : ab_X rom K cX2_makeFamily 9 2 72 (.ref a :: ls) st hp = ab_X rom K cX2_makeFamily 9 2 73 (.ref a :: ls) (.ref a :: st) hp := ax_aload_n dX2_makeFamily_72 rfl rfl
theorem dX2_makeFamily_73 : decode cX2_makeFamily 73 = .ok (.iconst 1, 1) := by decide +kernel
theorem sX2_makeFamily_73 : ab_X rom K cX2_makeFamily 9 2 73 ls st hp = ab_X rom K cX2_makeFamily 9 2 74 ls (.int 1 :: st) hp := ax_iconst dX2_makeFamily_73 (by decide) rfl
theorem dX2_makeFamily_74 : decode cX2_makeFamily 74 = .ok (.iload_n 2, 1) := by decide +kernel
theorem sX2_makeFamily_74 : ab_X rom K cX2_makeFamily 9 2 74 (v0 :: v1 :: .int x :: ls) st hp = ab_X rom K cX2_makeFamily 9 2 75 (v0 :: v1 :: .int x :: ls) (.int x :: st) hp := ax_iload_n dX2_makeFamily_74 rfl rfl
theorem dX2_makeFamily_75 : decode cX2_makeFamily 75 = .ok (.invokestatic 15, 3) := by decide +kernel
theorem sX2_makeFamily_75_0 : ab_X rom K cX2_makeFamily 9 2 75 ls [w3, w2, w1] hp = (K 262 [w1, w2, w3] hp).bind (fun o => ab_X rom K cX2_makeFamily 9 2 78 ls (o.1.toList ++ []) o.2) := ax_static (as := [w1, w2, w3]) (st := []) dX2_makeFamily_75 kc_9_15 rfl rfl (Nat.le_of_ble_eq_true rfl)
theorem sX2_makeFamily_75_1 : ab_X rom K cX2_makeFamily 9 2 75 ls [w3, w2, w1, v0] hp = (K 262 [w1, w2, w3] hp).bind (fun o => ab_X rom K cX2_makeFamily 9 2 78 ls (o.1.toList ++ [v0]) o.2) := ax_static (as := [w1, w2, w3]) (st := [v0]) dX2_makeFamily_75 kc_9_15 rfl rfl (Nat.le_of_ble_eq_true rfl)
theorem sX2_makeFamily_75_2 : ab_X rom K cX2_makeFamily 9 2 75 ls [w3, w2, w1, v0, v1] hp = (K 262 [w1, w2, w3] hp).bind (fun o => ab_X rom K cX2_makeFamily 9 2 78 ls (o.1.toList ++ [v0, v1]) o.2) := ax_static (as := [w1, w2, w3]) (st := [v0, v1]) dX2_makeFamily_75 kc_9_15 rfl rfl (Nat.le_of_ble_eq_true rfl)
theorem sX2_makeFamily_75_3 : ab_X rom K cX2_makeFamily 9 2 75 ls [w3, w2, w1, v0, v1, v2] hp = (K 262 [w1, w2, w3] hp).bind (fun o => ab_X rom K cX2_makeFamily 9 2 78 ls (o.1.toList ++ [v0, v1, v2]) o.2) := ax_static (as := [w1, w2, w3]) (st := [v0, v1, v2]) dX2_makeFamily_75 kc_9_15 rfl rfl (Nat.le_of_ble_eq_true rfl)
theorem dX2_makeFamily_78 : decode cX2_makeFamily 78 = .ok (.ifCond .eq 7, 3) := by decide +kernel
theorem sX2_makeFamily_78 : ab_X rom K cX2_makeFamily 9 2 78 ls (.int x :: st) hp = if x = 0 then ab_X rom K cX2_makeFamily 9 2 85 ls st hp else ab_X rom K cX2_makeFamily 9 2 81 ls st hp := ax_if_eq dX2_makeFamily_78 (by decide) rfl
theorem dX2_makeFamily_81 : decode cX2_makeFamily 81 = .ok (.iconst 1, 1) := by decide +kernel
theorem sX2_makeFamily_81 : ab_X rom K cX2_makeFamily 9 2 81 ls st hp = ab_X rom K cX2_makeFamily 9 2 82 ls (.int 1 :: st) hp := ax_iconst dX2_makeFamily_81 (by decide) rfl
theorem dX2_makeFamily_82 : decode cX2_makeFamily 82 = .ok (.goto 4, 3) := by decide +kernel
theorem sX2_makeFamily_82 : ab_X rom K cX2_makeFamily 9 2 82 ls st hp = ab_X rom K cX2_makeFamily 9 2 86 ls st hp := ax_goto dX2_makeFamily_82 (by decide)
theorem dX2_makeFamily_85 : decode cX2_makeFamily 85 = .ok (.iconst 0, 1) := by decide +kernel
theorem sX2_makeFamily_85 : ab_X rom K cX2_makeFamily 9 2 85 ls st hp = ab_X rom K cX2_makeFamily 9 2 86 ls (.int 0 :: st) hp := ax_iconst dX2_makeFamily_85 (by decide) rfl
theorem dX2_makeFamily_86 : decode cX2_makeFamily 86 = .ok (.ireturn, 1) := by decide +kernel
theorem sX2_makeFamily_86 : ab_X rom K cX2_makeFamily 9 2 86 ls [.int x] hp = if x = 0 ∨ x = 1 then some (some (.int x), hp) else none := ay_zret dX2_makeFamily_86 rfl
theorem dX2_makeFamily_87 : decode cX2_makeFamily 87 = .ok (.iload_n 2, 1) := by decide +kernel
theorem sX2_makeFamily_87 : ab_X rom K cX2_makeFamily 9 2 87 (v0 :: v1 :: .int x :: ls) st hp = ab_X rom K cX2_makeFamily 9 2 88 (v0 :: v1 :: .int x :: ls) (.int x :: st) hp := ax_iload_n dX2_makeFamily_87 rfl rfl
theorem dX2_makeFamily_88 : decode cX2_makeFamily 88 = .ok (.iconst 3, 1) := by decide +kernel
theorem sX2_makeFamily_88 : ab_X rom K cX2_makeFamily 9 2 88 ls st hp = ab_X rom K cX2_makeFamily 9 2 89 ls (.int 3 :: st) hp := ax_iconst dX2_makeFamily_88 (by decide) rfl
theorem dX2_makeFamily_89 : decode cX2_makeFamily 89 = .ok (.if_icmp .lt 21, 3) := by decide +kernel
theorem sX2_makeFamily_89 : ab_X rom K cX2_makeFamily 9 2 89 ls (.int y :: .int x :: st) hp = if x < y then ab_X rom K cX2_makeFamily 9 2 110 ls st hp else ab_X rom K cX2_makeFamily 9 2 92 ls st hp := ax_icmp_lt dX2_makeFamily_89 (by decide) rfl
theorem dX2_makeFamily_92 : decode cX2_makeFamily 92 = .ok (.iload_n 2, 1) := by decide +kernel
theorem sX2_makeFamily_92 : ab_X rom K cX2_makeFamily 9 2 92 (v0 :: v1 :: .int x :: ls) st hp = ab_X rom K cX2_makeFamily 9 2 93 (v0 :: v1 :: .int x :: ls) (.int x :: st) hp := ax_iload_n dX2_makeFamily_92 rfl rfl
theorem dX2_makeFamily_93 : decode cX2_makeFamily 93 = .ok (.bipush 7, 2) := by decide +kernel
theorem sX2_makeFamily_93 : ab_X rom K cX2_makeFamily 9 2 93 ls st hp = ab_X rom K cX2_makeFamily 9 2 95 ls (.int 7 :: st) hp := ax_bipush dX2_makeFamily_93 (by decide) rfl
theorem dX2_makeFamily_95 : decode cX2_makeFamily 95 = .ok (.if_icmp .gt 15, 3) := by decide +kernel
theorem sX2_makeFamily_95 : ab_X rom K cX2_makeFamily 9 2 95 ls (.int y :: .int x :: st) hp = if y < x then ab_X rom K cX2_makeFamily 9 2 110 ls st hp else ab_X rom K cX2_makeFamily 9 2 98 ls st hp := ax_icmp_gt dX2_makeFamily_95 (by decide) rfl
theorem dX2_makeFamily_98 : decode cX2_makeFamily 98 = .ok (.aload_n 0, 1) := by decide +kernel
theorem sX2_makeFamily_98 : ab_X rom K cX2_makeFamily 9 2 98 (.ref a :: ls) st hp = ab_X rom K cX2_makeFamily 9 2 99 (.ref a :: ls) (.ref a :: st) hp := ax_aload_n dX2_makeFamily_98 rfl rfl
theorem dX2_makeFamily_99 : decode cX2_makeFamily 99 = .ok (.iload_n 2, 1) := by decide +kernel
theorem sX2_makeFamily_99 : ab_X rom K cX2_makeFamily 9 2 99 (v0 :: v1 :: .int x :: ls) st hp = ab_X rom K cX2_makeFamily 9 2 100 (v0 :: v1 :: .int x :: ls) (.int x :: st) hp := ax_iload_n dX2_makeFamily_99 rfl rfl
theorem dX2_makeFamily_100 : decode cX2_makeFamily 100 = .ok (.invokestatic 19, 3) := by decide +kernel
theorem sX2_makeFamily_100_0 : ab_X rom K cX2_makeFamily 9 2 100 ls [w2, w1] hp = (K 261 [w1, w2] hp).bind (fun o => ab_X rom K cX2_makeFamily 9 2 103 ls (o.1.toList ++ []) o.2) := ax_static (as := [w1, w2]) (st := []) dX2_makeFamily_100 kc_9_19 rfl rfl (Nat.le_of_ble_eq_true rfl)
theorem sX2_makeFamily_100_1 : ab_X rom K cX2_makeFamily 9 2 100 ls [w2, w1, v0] hp = (K 261 [w1, w2] hp).bind (fun o => ab_X rom K cX2_makeFamily 9 2 103 ls (o.1.toList ++ [v0]) o.2) := ax_static (as := [w1, w2]) (st := [v0]) dX2_makeFamily_100 kc_9_19 rfl rfl (Nat.le_of_ble_eq_true rfl)
theorem sX2_makeFamily_100_2 : ab_X rom K cX2_makeFamily 9 2 100 ls [w2, w1, v0, v1] hp = (K 261 [w1, w2] hp).bind (fun o => ab_X rom K cX2_makeFamily 9 2 103 ls (o.1.toList ++ [v0, v1]) o.2) := ax_static (as := [w1, w2]) (st := [v0, v1]) dX2_makeFamily_100 kc_9_19 rfl rfl (Nat.le_of_ble_eq_true rfl)
theorem sX2_makeFamily_100_3 : ab_X rom K cX2_makeFamily 9 2 100 ls [w2, w1, v0, v1, v2] hp = (K 261 [w1, w2] hp).bind (fun o => ab_X rom K cX2_makeFamily 9 2 103 ls (o.1.toList ++ [v0, v1, v2]) o.2) := ax_static (as := [w1, w2]) (st := [v0, v1, v2]) dX2_makeFamily_100 kc_9_19 rfl rfl (Nat.le_of_ble_eq_true rfl)
theorem dX2_makeFamily_103 : decode cX2_makeFamily 103 = .ok (.ifCond .eq 7, 3) := by decide +kernel
theorem sX2_makeFamily_103 : ab_X rom K cX2_makeFamily 9 2 103 ls (.int x :: st) hp = if x = 0 then ab_X rom K cX2_makeFamily 9 2 110 ls st hp else ab_X rom K cX2_makeFamily 9 2 106 ls st hp := ax_if_eq dX2_makeFamily_103 (by decide) rfl
theorem dX2_makeFamily_106 : decode cX2_makeFamily 106 = .ok (.iconst 1, 1) := by decide +kernel
theorem sX2_makeFamily_106 : ab_X rom K cX2_makeFamily 9 2 106 ls st hp = ab_X rom K cX2_makeFamily 9 2 107 ls (.int 1 :: st) hp := ax_iconst dX2_makeFamily_106 (by decide) rfl
theorem dX2_makeFamily_107 : decode cX2_makeFamily 107 = .ok (.goto 4, 3) := by decide +kernel
theorem sX2_makeFamily_107 : ab_X rom K cX2_makeFamily 9 2 107 ls st hp = ab_X rom K cX2_makeFamily 9 2 111 ls st hp := ax_goto dX2_makeFamily_107 (by decide)
theorem dX2_makeFamily_110 : decode cX2_makeFamily 110 = .ok (.iconst 0, 1) := by decide +kernel
theorem sX2_makeFamily_110 : ab_X rom K cX2_makeFamily 9 2 110 ls st hp = ab_X rom K cX2_makeFamily 9 2 111 ls (.int 0 :: st) hp := ax_iconst dX2_makeFamily_110 (by decide) rfl
theorem dX2_makeFamily_111 : decode cX2_makeFamily 111 = .ok (.ireturn, 1) := by decide +kernel
theorem sX2_makeFamily_111 : ab_X rom K cX2_makeFamily 9 2 111 ls [.int x] hp = if x = 0 ∨ x = 1 then some (some (.int x), hp) else none := ay_zret dX2_makeFamily_111 rfl
theorem dX2_makeFamily_112 : decode cX2_makeFamily 112 = .ok (.iload_n 2, 1) := by decide +kernel
theorem sX2_makeFamily_112 : ab_X rom K cX2_makeFamily 9 2 112 (v0 :: v1 :: .int x :: ls) st hp = ab_X rom K cX2_makeFamily 9 2 113 (v0 :: v1 :: .int x :: ls) (.int x :: st) hp := ax_iload_n dX2_makeFamily_112 rfl rfl
theorem dX2_makeFamily_113 : decode cX2_makeFamily 113 = .ok (.iconst 2, 1) := by decide +kernel
theorem sX2_makeFamily_113 : ab_X rom K cX2_makeFamily 9 2 113 ls st hp = ab_X rom K cX2_makeFamily 9 2 114 ls (.int 2 :: st) hp := ax_iconst dX2_makeFamily_113 (by decide) rfl
theorem dX2_makeFamily_114 : decode cX2_makeFamily 114 = .ok (.if_icmp .lt 20, 3) := by decide +kernel
theorem sX2_makeFamily_114 : ab_X rom K cX2_makeFamily 9 2 114 ls (.int y :: .int x :: st) hp = if x < y then ab_X rom K cX2_makeFamily 9 2 134 ls st hp else ab_X rom K cX2_makeFamily 9 2 117 ls st hp := ax_icmp_lt dX2_makeFamily_114 (by decide) rfl
theorem dX2_makeFamily_117 : decode cX2_makeFamily 117 = .ok (.iload_n 2, 1) := by decide +kernel
theorem sX2_makeFamily_117 : ab_X rom K cX2_makeFamily 9 2 117 (v0 :: v1 :: .int x :: ls) st hp = ab_X rom K cX2_makeFamily 9 2 118 (v0 :: v1 :: .int x :: ls) (.int x :: st) hp := ax_iload_n dX2_makeFamily_117 rfl rfl
theorem dX2_makeFamily_118 : decode cX2_makeFamily 118 = .ok (.iconst 5, 1) := by decide +kernel
theorem sX2_makeFamily_118 : ab_X rom K cX2_makeFamily 9 2 118 ls st hp = ab_X rom K cX2_makeFamily 9 2 119 ls (.int 5 :: st) hp := ax_iconst dX2_makeFamily_118 (by decide) rfl
theorem dX2_makeFamily_119 : decode cX2_makeFamily 119 = .ok (.if_icmp .gt 15, 3) := by decide +kernel
theorem sX2_makeFamily_119 : ab_X rom K cX2_makeFamily 9 2 119 ls (.int y :: .int x :: st) hp = if y < x then ab_X rom K cX2_makeFamily 9 2 134 ls st hp else ab_X rom K cX2_makeFamily 9 2 122 ls st hp := ax_icmp_gt dX2_makeFamily_119 (by decide) rfl
theorem dX2_makeFamily_122 : decode cX2_makeFamily 122 = .ok (.aload_n 0, 1) := by decide +kernel
theorem sX2_makeFamily_122 : ab_X rom K cX2_makeFamily 9 2 122 (.ref a :: ls) st hp = ab_X rom K cX2_makeFamily 9 2 123 (.ref a :: ls) (.ref a :: st) hp := ax_aload_n dX2_makeFamily_122 rfl rfl
theorem dX2_makeFamily_123 : decode cX2_makeFamily 123 = .ok (.iload_n 2, 1) := by decide +kernel
theorem sX2_makeFamily_123 : ab_X rom K cX2_makeFamily 9 2 123 (v0 :: v1 :: .int x :: ls) st hp = ab_X rom K cX2_makeFamily 9 2 124 (v0 :: v1 :: .int x :: ls) (.int x :: st) hp := ax_iload_n dX2_makeFamily_123 rfl rfl
theorem dX2_makeFamily_124 : decode cX2_makeFamily 124 = .ok (.invokestatic 22, 3) := by decide +kernel
theorem sX2_makeFamily_124_0 : ab_X rom K cX2_makeFamily 9 2 124 ls [w2, w1] hp = (K 258 [w1, w2] hp).bind (fun o => ab_X rom K cX2_makeFamily 9 2 127 ls (o.1.toList ++ []) o.2) := ax_static (as := [w1, w2]) (st := []) dX2_makeFamily_124 kc_9_22 rfl rfl (Nat.le_of_ble_eq_true rfl)
theorem sX2_makeFamily_124_1 : ab_X rom K cX2_makeFamily 9 2 124 ls [w2, w1, v0] hp = (K 258 [w1, w2] hp).bind (fun o => ab_X rom K cX2_makeFamily 9 2 127 ls (o.1.toList ++ [v0]) o.2) := ax_static (as := [w1, w2]) (st := [v0]) dX2_makeFamily_124 kc_9_22 rfl rfl (Nat.le_of_ble_eq_true rfl)
theorem sX2_makeFamily_124_2 : ab_X rom K cX2_makeFamily 9 2 124 ls [w2, w1, v0, v1] hp = (K 258 [w1, w2] hp).bind (fun o => ab_X rom K cX2_makeFamily 9 2 127 ls (o.1.toList ++ [v0, v1]) o.2) := ax_static (as := [w1, w2]) (st := [v0, v1]) dX2_makeFamily_124 kc_9_22 rfl rfl (Nat.le_of_ble_eq_true rfl)
theorem sX2_makeFamily_124_3 : ab_X rom K cX2_makeFamily 9 2 124 ls [w2, w1, v0, v1, v2] hp = (K 258 [w1, w2] hp).bind (fun o => ab_X rom K cX2_makeFamily 9 2 127 ls (o.1.toList ++ [v0, v1, v2]) o.2) := ax_static (as := [w1, w2]) (st := [v0, v1, v2]) dX2_makeFamily_124 kc_9_22 rfl rfl (Nat.le_of_ble_eq_true rfl)
theorem dX2_makeFamily_127 : decode cX2_makeFamily 127 = .ok (.ifCond .eq 7, 3) := by decide +kernel
theorem sX2_makeFamily_127 : ab_X rom K cX2_makeFamily 9 2 127 ls (.int x :: st) hp = if x = 0 then ab_X rom K cX2_makeFamily 9 2 134 ls st hp else ab_X rom K cX2_makeFamily 9 2 130 ls st hp := ax_if_eq dX2_makeFamily_127 (by decide) rfl
theorem dX2_makeFamily_130 : decode cX2_makeFamily 130 = .ok (.iconst 1, 1) := by decide +kernel
theorem sX2_makeFamily_130 : ab_X rom K cX2_makeFamily 9 2 130 ls st hp = ab_X rom K cX2_makeFamily 9 2 131 ls (.int 1 :: st) hp := ax_iconst dX2_makeFamily_130 (by decide) rfl
theorem dX2_makeFamily_131 : decode cX2_makeFamily 131 = .ok (.goto 4, 3) := by decide +kernel
theorem sX2_makeFamily_131 : ab_X rom K cX2_makeFamily 9 2 131 ls st hp = ab_X rom K cX2_makeFamily 9 2 135 ls st hp := ax_goto dX2_makeFamily_131 (by decide)
theorem dX2_makeFamily_134 : decode cX2_makeFamily 134 = .ok (.iconst 0, 1) := by decide +kernel
theorem sX2_makeFamily_134 : ab_X rom K cX2_makeFamily 9 2 134 ls st hp = ab_X rom K cX2_makeFamily 9 2 135 ls (.int 0 :: st) hp := ax_iconst dX2_makeFamily_134 (by decide) rfl
theorem dX2_makeFamily_135 : decode cX2_makeFamily 135 = .ok (.ireturn, 1) := by decide +kernel
theorem sX2_makeFamily_135 : ab_X rom K cX2_makeFamily 9 2 135 ls [.int x] hp = if x = 0 ∨ x = 1 then some (some (.int x), hp) else none := ay_zret dX2_makeFamily_135 rfl
theorem dX2_makeFamily_136 : decode cX2_makeFamily 136 = .ok (.iload_n 2, 1) := by decide +kernel
theorem sX2_makeFamily_136 : ab_X rom K cX2_makeFamily 9 2 136 (v0 :: v1 :: .int x :: ls) st hp = ab_X rom K cX2_makeFamily 9 2 137 (v0 :: v1 :: .int x :: ls) (.int x :: st) hp := ax_iload_n dX2_makeFamily_136 rfl rfl
theorem dX2_makeFamily_137 : decode cX2_makeFamily 137 = .ok (.iconst 1, 1) := by decide +kernel
theorem sX2_makeFamily_137 : ab_X rom K cX2_makeFamily 9 2 137 ls st hp = ab_X rom K cX2_makeFamily 9 2 138 ls (.int 1 :: st) hp := ax_iconst dX2_makeFamily_137 (by decide) rfl
theorem dX2_makeFamily_138 : decode cX2_makeFamily 138 = .ok (.if_icmp .lt 43, 3) := by decide +kernel
theorem sX2_makeFamily_138 : ab_X rom K cX2_makeFamily 9 2 138 ls (.int y :: .int x :: st) hp = if x < y then ab_X rom K cX2_makeFamily 9 2 181 ls st hp else ab_X rom K cX2_makeFamily 9 2 141 ls st hp := ax_icmp_lt dX2_makeFamily_138 (by decide) rfl
theorem dX2_makeFamily_141 : decode cX2_makeFamily 141 = .ok (.iload_n 2, 1) := by decide +kernel
theorem sX2_makeFamily_141 : ab_X rom K cX2_makeFamily 9 2 141 (v0 :: v1 :: .int x :: ls) st hp = ab_X rom K cX2_makeFamily 9 2 142 (v0 :: v1 :: .int x :: ls) (.int x :: st) hp := ax_iload_n dX2_makeFamily_141 rfl rfl
theorem dX2_makeFamily_142 : decode cX2_makeFamily 142 = .ok (.bipush 7, 2) := by decide +kernel
theorem sX2_makeFamily_142 : ab_X rom K cX2_makeFamily 9 2 142 ls st hp = ab_X rom K cX2_makeFamily 9 2 144 ls (.int 7 :: st) hp := ax_bipush dX2_makeFamily_142 (by decide) rfl
theorem dX2_makeFamily_144 : decode cX2_makeFamily 144 = .ok (.if_icmp .ge 37, 3) := by decide +kernel
theorem sX2_makeFamily_144 : ab_X rom K cX2_makeFamily 9 2 144 ls (.int y :: .int x :: st) hp = if x < y then ab_X rom K cX2_makeFamily 9 2 147 ls st hp else ab_X rom K cX2_makeFamily 9 2 181 ls st hp := ax_icmp_ge dX2_makeFamily_144 (by decide) rfl
theorem dX2_makeFamily_147 : decode cX2_makeFamily 147 = .ok (.iload_n 3, 1) := by decide +kernel
theorem sX2_makeFamily_147 : ab_X rom K cX2_makeFamily 9 2 147 (v0 :: v1 :: v2 :: .int x :: ls) st hp = ab_X rom K cX2_makeFamily 9 2 148 (v0 :: v1 :: v2 :: .int x :: ls) (.int x :: st) hp := ax_iload_n dX2_makeFamily_147 rfl rfl
theorem dX2_makeFamily_148 : decode cX2_makeFamily 148 = .ok (.iconst 1, 1) := by decide +kernel
theorem sX2_makeFamily_148 : ab_X rom K cX2_makeFamily 9 2 148 ls st hp = ab_X rom K cX2_makeFamily 9 2 149 ls (.int 1 :: st) hp := ax_iconst dX2_makeFamily_148 (by decide) rfl
theorem dX2_makeFamily_149 : decode cX2_makeFamily 149 = .ok (.if_icmp .lt 32, 3) := by decide +kernel
theorem sX2_makeFamily_149 : ab_X rom K cX2_makeFamily 9 2 149 ls (.int y :: .int x :: st) hp = if x < y then ab_X rom K cX2_makeFamily 9 2 181 ls st hp else ab_X rom K cX2_makeFamily 9 2 152 ls st hp := ax_icmp_lt dX2_makeFamily_149 (by decide) rfl
theorem dX2_makeFamily_152 : decode cX2_makeFamily 152 = .ok (.iload_n 3, 1) := by decide +kernel
theorem sX2_makeFamily_152 : ab_X rom K cX2_makeFamily 9 2 152 (v0 :: v1 :: v2 :: .int x :: ls) st hp = ab_X rom K cX2_makeFamily 9 2 153 (v0 :: v1 :: v2 :: .int x :: ls) (.int x :: st) hp := ax_iload_n dX2_makeFamily_152 rfl rfl
theorem dX2_makeFamily_153 : decode cX2_makeFamily 153 = .ok (.bipush 7, 2) := by decide +kernel
theorem sX2_makeFamily_153 : ab_X rom K cX2_makeFamily 9 2 153 ls st hp = ab_X rom K cX2_makeFamily 9 2 155 ls (.int 7 :: st) hp := ax_bipush dX2_makeFamily_153 (by decide) rfl
theorem dX2_makeFamily_155 : decode cX2_makeFamily 155 = .ok (.iload_n 2, 1) := by decide +kernel
theorem sX2_makeFamily_155 : ab_X rom K cX2_makeFamily 9 2 155 (v0 :: v1 :: .int x :: ls) st hp = ab_X rom K cX2_makeFamily 9 2 156 (v0 :: v1 :: .int x :: ls) (.int x :: st) hp := ax_iload_n dX2_makeFamily_155 rfl rfl
theorem dX2_makeFamily_156 : decode cX2_makeFamily 156 = .ok (.isub, 1) := by decide +kernel
theorem sX2_makeFamily_156 : ab_X rom K cX2_makeFamily 9 2 156 ls (.int y :: .int x :: st) hp = ab_X rom K cX2_makeFamily 9 2 157 ls (.int (x - y) :: st) hp := ax_isub dX2_makeFamily_156 rfl
theorem dX2_makeFamily_157 : decode cX2_makeFamily 157 = .ok (.if_icmp .gt 24, 3) := by decide +kernel
theorem sX2_makeFamily_157 : ab_X rom K cX2_makeFamily 9 2 157 ls (.int y :: .int x :: st) hp = if y < x then ab_X rom K cX2_makeFamily 9 2 181 ls st hp else ab_X rom K cX2_makeFamily 9 2 160 ls st hp := ax_icmp_gt dX2_makeFamily_157 (by decide) rfl
theorem dX2_makeFamily_160 : decode cX2_makeFamily 160 = .ok (.iload_n 2, 1) := by decide +kernel
theorem sX2_makeFamily_160 : ab_X rom K cX2_makeFamily 9 2 160 (v0 :: v1 :: .int x :: ls) st hp = ab_X rom K cX2_makeFamily 9 2 161 (v0 :: v1 :: .int x :: ls) (.int x :: st) hp := ax_iload_n dX2_makeFamily_160 rfl rfl
theorem dX2_makeFamily_161 : decode cX2_makeFamily 161 = .ok (.iload_n 3, 1) := by decide +kernel
theorem sX2_makeFamily_161 : ab_X rom K cX2_makeFamily 9 2 161 (v0 :: v1 :: v2 :: .int x :: ls) st hp = ab_X rom K cX2_makeFamily 9 2 162 (v0 :: v1 :: v2 :: .int x :: ls) (.int x :: st) hp := ax_iload_n dX2_makeFamily_161 rfl rfl
theorem dX2_makeFamily_162 : decode cX2_makeFamily 162 = .ok (.imul, 1) := by decide +kernel
theorem sX2_makeFamily_162 : ab_X rom K cX2_makeFamily 9 2 162 ls (.int y :: .int x :: st) hp = ab_X rom K cX2_makeFamily 9 2 163 ls (.int (x * y) :: st) hp := ax_imul dX2_makeFamily_162 rfl
theorem dX2_makeFamily_163 : decode cX2_makeFamily 163 = .ok (.bipush 10, 2) := by decide +kernel
theorem sX2_makeFamily_163 : ab_X rom K cX2_makeFamily 9 2 163 ls st hp = ab_X rom K cX2_makeFamily 9 2 165 ls (.int 10 :: st) hp := ax_bipush dX2_makeFamily_163 (by decide) rfl
theorem dX2_makeFamily_165 : decode cX2_makeFamily 165 = .ok (.if_icmp .gt 16, 3) := by decide +kernel
theorem sX2_makeFamily_165 : ab_X rom K cX2_makeFamily 9 2 165 ls (.int y :: .int x :: st) hp = if y < x then ab_X rom K cX2_makeFamily 9 2 181 ls st hp else ab_X rom K cX2_makeFamily 9 2 168 ls st hp := ax_icmp_gt dX2_makeFamily_165 (by decide) rfl
theorem dX2_makeFamily_168 : decode cX2_makeFamily 168 = .ok (.aload_n 0, 1) := by decide +kernel
theorem sX2_makeFamily_168 : ab_X rom K cX2_makeFamily 9 2 168 (.ref a :: ls) st hp = ab_X rom K cX2_makeFamily 9 2 169 (.ref a :: ls) (.ref a :: st) hp := ax_aload_n dX2_makeFamily_168 rfl rfl
theorem dX2_makeFamily_169 : decode cX2_makeFamily 169 = .ok (.iload_n 2, 1) := by decide +kernel
theorem sX2_makeFamily_169 : ab_X rom K cX2_makeFamily 9 2 169 (v0 :: v1 :: .int x :: ls) st hp = ab_X rom K cX2_makeFamily 9 2 170 (v0 :: v1 :: .int x :: ls) (.int x :: st) hp := ax_iload_n dX2_makeFamily_169 rfl rfl
theorem dX2_makeFamily_170 : decode cX2_makeFamily 170 = .ok (.iload_n 3, 1) := by decide +kernel
theorem sX2_makeFamily_170 : ab_X rom K cX2_makeFamily 9 2 170 (v0 :: v1 :: v2 :: .int x :: ls) st hp = ab_X rom K cX2_makeFamily 9 2 171 (v0 :: v1 :: v2 :: .int x :: ls) (.int x :: st) hp := ax_iload_n dX2_makeFamily_170 rfl rfl
theorem dX2_makeFamily_171 : decode cX2_makeFamily 171 = .ok (.invokestatic 15, 3) := by decide +kernel
theorem sX2_makeFamily_171_0 : ab_X rom K cX2_makeFamily 9 2 171 ls [w3, w2, w1] hp = (K 262 [w1, w2, w3] hp).bind (fun o => ab_X rom K cX2_makeFamily 9 2 174 ls (o.1.toList ++ []) o.2) := ax_static (as := [w1, w2, w3]) (st := []) dX2_makeFamily_171 kc_9_15 rfl rfl (Nat.le_of_ble_eq_true rfl)
theorem sX2_makeFamily_171_1 : ab_X rom K cX2_makeFamily 9 2 171 ls [w3, w2, w1, v0] hp = (K 262 [w1, w2, w3] hp).bind (fun o => ab_X rom K cX2_makeFamily 9 2 174 ls (o.1.toList ++ [v0]) o.2) := ax_static (as := [w1, w2, w3]) (st := [v0]) dX2_makeFamily_171 kc_9_15 rfl rfl (Nat.le_of_ble_eq_true rfl)
theorem sX2_makeFamily_171_2 : ab_X rom K cX2_makeFamily 9 2 171 ls [w3, w2, w1, v0, v1] hp = (K 262 [w1, w2, w3] hp).bind (fun o => ab_X rom K cX2_makeFamily 9 2 174 ls (o.1.toList ++ [v0, v1]) o.2) := ax_static (as := [w1, w2, w3]) (st := [v0, v1]) dX2_makeFamily_171 kc_9_15 rfl rfl (Nat.le_of_ble_eq_true rfl)
theorem sX2_makeFamily_171_3 : ab_X rom K cX2_makeFamily 9 2 171 ls [w3, w2, w1, v0, v1, v2] hp = (K 262 [w1, w2, w3] hp).bind (fun o => ab_X rom K cX2_makeFamily 9 2 174 ls (o.1.toList ++ [v0, v1, v2]) o.2) := ax_static (as := [w1, w2, w3]) (st := [v0, v1, v2]) dX2_makeFamily_171 kc_9_15 rfl rfl (Nat.le_of_ble_eq_true rfl)
theorem dX2_makeFamily_174 : decode cX2_makeFamily 174 = .ok (.ifCond .eq 7, 3) := by decide +kernel
theorem sX2_makeFamily_174 : ab_X rom K cX2_makeFamily 9 2 174 ls (.int x :: st) hp = if x = 0 then ab_X rom K cX2_makeFamily 9 2 181 ls st hp else ab_X rom K cX2_makeFamily 9 2 177 ls st hp := ax_if_eq dX2_makeFamily_174 (by decide) rfl
theorem dX2_makeFamily_177 : decode cX2_makeFamily 177 = .ok (.iconst 1, 1) := by decide +kernel
theorem sX2_makeFamily_177 : ab_X rom K cX2_makeFamily 9 2 177 ls st hp = ab_X rom K cX2_makeFamily 9 2 178 ls (.int 1 :: st) hp := ax_iconst dX2_makeFamily_177 (by decide) rfl
theorem dX2_makeFamily_178 : decode cX2_makeFamily 178 = .ok (.goto 4, 3) := by decide +kernel
theorem sX2_makeFamily_178 : ab_X rom K cX2_makeFamily 9 2 178 ls st hp = ab_X rom K cX2_makeFamily 9 2 182 ls st hp := ax_goto dX2_makeFamily_178 (by decide)
theorem dX2_makeFamily_181 : decode cX2_makeFamily 181 = .ok (.iconst 0, 1) := by decide +kernel
theorem sX2_makeFamily_181 : ab_X rom K cX2_makeFamily 9 2 181 ls st hp = ab_X rom K cX2_makeFamily 9 2 182 ls (.int 0 :: st) hp := ax_iconst dX2_makeFamily_181 (by decide) rfl
theorem dX2_makeFamily_182 : decode cX2_makeFamily 182 = .ok (.ireturn, 1) := by decide +kernel
theorem sX2_makeFamily_182 : ab_X rom K cX2_makeFamily 9 2 182 ls [.int x] hp = if x = 0 ∨ x = 1 then some (some (.int x), hp) else none := ay_zret dX2_makeFamily_182 rfl
theorem dX2_makeFamily_183 : decode cX2_makeFamily 183 = .ok (.iconst 0, 1) := by decide +kernel
theorem sX2_makeFamily_183 : ab_X rom K cX2_makeFamily 9 2 183 ls st hp = ab_X rom K cX2_makeFamily 9 2 184 ls (.int 0 :: st) hp := ax_iconst dX2_makeFamily_183 (by decide) rfl
theorem dX2_makeFamily_184 : decode cX2_makeFamily 184 = .ok (.ireturn, 1) := by decide +kernel
theorem sX2_makeFamily_184 : ab_X rom K cX2_makeFamily 9 2 184 ls [.int x] hp = if x = 0 ∨ x = 1 then some (some (.int x), hp) else none := ay_zret dX2_makeFamily_184 rfl
theorem tX2_makeFull : ab_mT[258]? = some (yX2_makeFull, cX2_makeFull, 4, 2, 9) := by decide +kernel
theorem mX2_makeFull {d : Nat} {r0 : Nat} {x1 : Int32} : ab_M rom (d + 1) 258 [.ref r0, .int x1] hp = ab_X rom (ab_M rom d) cX2_makeFull 9 2 0 [.ref r0, .int x1, .null, .null] [] hp := ab_M_eq tX2_makeFull (Nat.le_of_ble_eq_true rfl)
theorem dX2_makeFull_0 : decode cX2_makeFull 0 = .ok (.aload_n 0, 1) := by decide +kernel
theorem sX2_makeFull_0 : ab_X rom K cX2_makeFull 9 2 0 (.ref a :: ls) st hp = ab_X rom K cX2_makeFull 9 2 1 (.ref a :: ls) (.ref a :: st) hp := ax_aload_n dX2_makeFull_0 rfl rfl
theorem dX2_makeFull_1 : decode cX2_makeFull 1 = .ok (.iload_n 1, 1) := by decide +kernel
theorem sX2_makeFull_1 : ab_X rom K cX2_makeFull 9 2 1 (v0 :: .int x :: ls) st hp = ab_X rom K cX2_makeFull 9 2 2 (v0 :: .int x :: ls) (.int x :: st) hp := ax_iload_n dX2_makeFull_1 rfl rfl
theorem dX2_makeFull_2 : decode cX2_makeFull 2 = .ok (.invokevirtual 25, 3) := by decide +kernel
theorem sX2_makeFull_2_0 : ab_X rom K cX2_makeFull 9 2 2 ls [w1, .ref a] hp = if ab_iso hp a 1 = true then (K 15 (.ref a :: [w1]) hp).bind (fun o => ab_X rom K cX2_makeFull 9 2 5 ls (o.1.toList ++ []) o.2) else none := ay_virtual (as := [w1]) (st := []) dX2_makeFull_2 kc_9_25 rfl rfl (Nat.le_of_ble_eq_true rfl)
theorem sX2_makeFull_2_1 : ab_X rom K cX2_makeFull 9 2 2 ls [w1, .ref a, v0] hp = if ab_iso hp a 1 = true then (K 15 (.ref a :: [w1]) hp).bind (fun o => ab_X rom K cX2_makeFull 9 2 5 ls (o.1.toList ++ [v0]) o.2) else none := ay_virtual (as := [w1]) (st := [v0]) dX2_makeFull_2 kc_9_25 rfl rfl (Nat.le_of_ble_eq_true rfl)
theorem sX2_makeFull_2_2 : ab_X rom K cX2_makeFull 9 2 2 ls [w1, .ref a, v0, v1] hp = if ab_iso hp a 1 = true then (K 15 (.ref a :: [w1]) hp).bind (fun o => ab_X rom K cX2_makeFull 9 2 5 ls (o.1.toList ++ [v0, v1]) o.2) else none := ay_virtual (as := [w1]) (st := [v0, v1]) dX2_makeFull_2 kc_9_25 rfl rfl (Nat.le_of_ble_eq_true rfl)
theorem sX2_makeFull_2_3 : ab_X rom K cX2_makeFull 9 2 2 ls [w1, .ref a, v0, v1, v2] hp = if ab_iso hp a 1 = true then (K 15 (.ref a :: [w1]) hp).bind (fun o => ab_X rom K cX2_makeFull 9 2 5 ls (o.1.toList ++ [v0, v1, v2]) o.2) else none := ay_virtual (as := [w1]) (st := [v0, v1, v2]) dX2_makeFull_2 kc_9_25 rfl rfl (Nat.le_of_ble_eq_true rfl)
theorem dX2_makeFull_5 : decode cX2_makeFull 5 = .ok (.iconst 1, 1) := by decide +kernel
theorem sX2_makeFull_5 : ab_X rom K cX2_makeFull 9 2 5 ls st hp = ab_X rom K cX2_makeFull 9 2 6 ls (.int 1 :: st) hp := ax_iconst dX2_makeFull_5 (by decide) rfl
theorem dX2_makeFull_6 : decode cX2_makeFull 6 = .ok (.istore_n 2, 1) := by decide +kernel
theorem sX2_makeFull_6i : ab_X rom K cX2_makeFull 9 2 6 (v0 :: .int y :: v2 :: ls) (.int x :: st) hp = ab_X rom K cX2_makeFull 9 2 7 (v0 :: .int y :: .int x :: ls) st hp := ax_istore_n dX2_makeFull_6 (ax_lt (v := v2) rfl) (ab_nl_c1 (j := 1) (v := .int y) rfl (ab_c1_int _)) rfl rfl
theorem sX2_makeFull_6r : ab_X rom K cX2_makeFull 9 2 6 (v0 :: .ref a2 :: v2 :: ls) (.int x :: st) hp = ab_X rom K cX2_makeFull 9 2 7 (v0 :: .ref a2 :: .int x :: ls) st hp := ax_istore_n dX2_makeFull_6 (ax_lt (v := v2) rfl) (ab_nl_c1 (j := 1) (v := .ref a2) rfl (ab_c1_ref _)) rfl rfl
theorem sX2_makeFull_6n : ab_X rom K cX2_makeFull 9 2 6 (v0 :: .null :: v2 :: ls) (.int x :: st) hp = ab_X rom K cX2_makeFull 9 2 7 (v0 :: .null :: .int x :: ls) st hp := ax_istore_n dX2_makeFull_6 (ax_lt (v := v2) rfl) (ab_nl_c1 (j := 1) (v := .null) rfl ab_c1_null) rfl rfl
theorem dX2_makeFull_7 : decode cX2_makeFull 7 = .ok (.iload_n 2, 1) := by decide +kernel
theorem sX2_makeFull_7 : ab_X rom K cX2_makeFull 9 2 7 (v0 :: v1 :: .int x :: ls) st hp = ab_X rom K cX2_makeFull 9 2 8 (v0 :: v1 :: .int x :: ls) (.int x :: st) hp := ax_iload_n dX2_makeFull_7 rfl rfl
theorem dX2_makeFull_8 : decode cX2_makeFull 8 = .ok (.iload_n 1, 1) := by decide +kernel
theorem sX2_makeFull_8 : ab_X rom K cX2_makeFull 9 2 8 (v0 :: .int x :: ls) st hp = ab_X rom K cX2_makeFull 9 2 9 (v0 :: .int x :: ls) (.int x :: st) hp := ax_iload_n dX2_makeFull_8 rfl rfl
theorem dX2_makeFull_9 : decode cX2_makeFull 9 = .ok (.if_icmp .ge 28, 3) := by decide +kernel
theorem sX2_makeFull_9 : ab_X rom K cX2_makeFull 9 2 9 ls (.int y :: .int x :: st) hp = if x < y then ab_X rom K cX2_makeFull 9 2 12 ls st hp else ab_X rom K cX2_makeFull 9 2 37 ls st hp := ax_icmp_ge dX2_makeFull_9 (by decide) rfl
theorem dX2_makeFull_12 : decode cX2_makeFull 12 = .ok (.iconst 0, 1) := by decide +kernel
theorem sX2_makeFull_12 : ab_X rom K cX2_makeFull 9 2 12 ls st hp = ab_X rom K cX2_makeFull 9 2 13 ls (.int 0 :: st) hp := ax_iconst dX2_makeFull_12 (by decide) rfl
theorem dX2_makeFull_13 : decode cX2_makeFull 13 = .ok (.istore_n 3, 1) := by decide +kernel
theorem sX2_makeFull_13i : ab_X rom K cX2_makeFull 9 2 13 (v0 :: v1 :: .int y :: v3 :: ls) (.int x :: st) hp = ab_X rom K cX2_makeFull 9 2 14 (v0 :: v1 :: .int y :: .int x :: ls) st hp := ax_istore_n dX2_makeFull_13 (ax_lt (v := v3) rfl) (ab_nl_c1 (j := 2) (v := .int y) rfl (ab_c1_int _)) rfl rfl
theorem sX2_makeFull_13r : ab_X rom K cX2_makeFull 9 2 13 (v0 :: v1 :: .ref a2 :: v3 :: ls) (.int x :: st) hp = ab_X rom K cX2_makeFull 9 2 14 (v0 :: v1 :: .ref a2 :: .int x :: ls) st hp := ax_istore_n dX2_makeFull_13 (ax_lt (v := v3) rfl) (ab_nl_c1 (j := 2) (v := .ref a2) rfl (ab_c1_ref _)) rfl rfl
theorem sX2_makeFull_13n : ab_X rom K cX2_makeFull 9 2 13 (v0 :: v1 :: .null :: v3 :: ls) (.int x :: st) hp = ab_X rom K cX2_makeFull 9 2 14 (v0 :: v1 :: .null :: .int x :: ls) st hp := ax_istore_n dX2_makeFull_13 (ax_lt (v := v3) rfl) (ab_nl_c1 (j := 2) (v := .null) rfl ab_c1_null) rfl rfl
theorem dX2_makeFull_14 : decode cX2_makeFull 14 = .ok (.iload_n 3, 1) := by decide +kernel
theorem sX2_makeFull_14 : ab_X rom K cX2_makeFull 9 2 14 (v0 :: v1 :: v2 :: .int x :: ls) st hp = ab_X rom K cX2_makeFull 9 2 15 (v0 :: v1 :: v2 :: .int x :: ls) (.int x :: st) hp := ax_iload_n dX2_makeFull_14 rfl rfl
theorem dX2_makeFull_15 : decode cX2_makeFull 15 = .ok (.iload_n 2, 1) := by decide +kernel
theorem sX2_makeFull_15 : ab_X rom K cX2_makeFull 9 2 15 (v0 :: v1 :: .int x :: ls) st hp = ab_X rom K cX2_makeFull 9 2 16 (v0 :: v1 :: .int x :: ls) (.int x :: st) hp := ax_iload_n dX2_makeFull_15 rfl rfl
theorem dX2_makeFull_16 : decode cX2_makeFull 16 = .ok (.if_icmp .ge 15, 3) := by decide +kernel
theorem sX2_makeFull_16 : ab_X rom K cX2_makeFull 9 2 16 ls (.int y :: .int x :: st) hp = if x < y then ab_X rom K cX2_makeFull 9 2 19 ls st hp else ab_X rom K cX2_makeFull 9 2 31 ls st hp := ax_icmp_ge dX2_makeFull_16 (by decide) rfl
theorem dX2_makeFull_19 : decode cX2_makeFull 19 = .ok (.aload_n 0, 1) := by decide +kernel
theorem sX2_makeFull_19 : ab_X rom K cX2_makeFull 9 2 19 (.ref a :: ls) st hp = ab_X rom K cX2_makeFull 9 2 20 (.ref a :: ls) (.ref a :: st) hp := ax_aload_n dX2_makeFull_19 rfl rfl
theorem dX2_makeFull_20 : decode cX2_makeFull 20 = .ok (.iload_n 3, 1) := by decide +kernel
theorem sX2_makeFull_20 : ab_X rom K cX2_makeFull 9 2 20 (v0 :: v1 :: v2 :: .int x :: ls) st hp = ab_X rom K cX2_makeFull 9 2 21 (v0 :: v1 :: v2 :: .int x :: ls) (.int x :: st) hp := ax_iload_n dX2_makeFull_20 rfl rfl
theorem dX2_makeFull_21 : decode cX2_makeFull 21 = .ok (.iload_n 2, 1) := by decide +kernel
theorem sX2_makeFull_21 : ab_X rom K cX2_makeFull 9 2 21 (v0 :: v1 :: .int x :: ls) st hp = ab_X rom K cX2_makeFull 9 2 22 (v0 :: v1 :: .int x :: ls) (.int x :: st) hp := ax_iload_n dX2_makeFull_21 rfl rfl
theorem dX2_makeFull_22 : decode cX2_makeFull 22 = .ok (.invokevirtual 31, 3) := by decide +kernel
theorem sX2_makeFull_22_0 : ab_X rom K cX2_makeFull 9 2 22 ls [w2, w1, .ref a] hp = if ab_iso hp a 1 = true then (K 22 (.ref a :: [w1, w2]) hp).bind (fun o => ab_X rom K cX2_makeFull 9 2 25 ls (o.1.toList ++ []) o.2) else none := ay_virtual (as := [w1, w2]) (st := []) dX2_makeFull_22 kc_9_31 rfl rfl (Nat.le_of_ble_eq_true rfl)
theorem sX2_makeFull_22_1 : ab_X rom K cX2_makeFull 9 2 22 ls [w2, w1, .ref a, v0] hp = if ab_iso hp a 1 = true then (K 22 (.ref a :: [w1, w2]) hp).bind (fun o => ab_X rom K cX2_makeFull 9 2 25 ls (o.1.toList ++ [v0]) o.2) else none := ay_virtual (as := [w1, w2]) (st := [v0]) dX2_makeFull_22 kc_9_31 rfl rfl (Nat.le_of_ble_eq_true rfl)
theorem sX2_makeFull_22_2 : ab_X rom K cX2_makeFull 9 2 22 ls [w2, w1, .ref a, v0, v1] hp = if ab_iso hp a 1 = true then (K 22 (.ref a :: [w1, w2]) hp).bind (fun o => ab_X rom K cX2_makeFull 9 2 25 ls (o.1.toList ++ [v0, v1]) o.2) else none := ay_virtual (as := [w1, w2]) (st := [v0, v1]) dX2_makeFull_22 kc_9_31 rfl rfl (Nat.le_of_ble_eq_true rfl)
theorem sX2_makeFull_22_3 : ab_X rom K cX2_makeFull 9 2 22 ls [w2, w1, .ref a, v0, v1, v2] hp = if ab_iso hp a 1 = true then (K 22 (.ref a :: [w1, w2]) hp).bind (fun o => ab_X rom K cX2_makeFull 9 2 25 ls (o.1.toList ++ [v0, v1, v2]) o.2) else none := ay_virtual (as := [w1, w2]) (st := [v0, v1, v2]) dX2_makeFull_22 kc_9_31 rfl rfl (Nat.le_of_ble_eq_true rfl)
theorem dX2_makeFull_25 : decode cX2_makeFull 25 = .ok (.iinc 3 1, 3) := by decide +kernel
theorem sX2_makeFull_25i : ab_X rom K cX2_makeFull 9 2 25 (v0 :: v1 :: .int y :: .int x :: ls) st hp = ab_X rom K cX2_makeFull 9 2 28 (v0 :: v1 :: .int y :: .int (x + 1) :: ls) st hp := ax_iinc dX2_makeFull_25 rfl (ab_nl_c1 (j := 2) (v := .int y) rfl (ab_c1_int _)) (by decide) rfl rfl
theorem sX2_makeFull_25r : ab_X rom K cX2_makeFull 9 2 25 (v0 :: v1 :: .ref a2 :: .int x :: ls) st hp = ab_X rom K cX2_makeFull 9 2 28 (v0 :: v1 :: .ref a2 :: .int (x + 1) :: ls) st hp := ax_iinc dX2_makeFull_25 rfl (ab_nl_c1 (j := 2) (v := .ref a2) rfl (ab_c1_ref _)) (by decide) rfl rfl
theorem sX2_makeFull_25n : ab_X rom K cX2_makeFull 9 2 25 (v0 :: v1 :: .null :: .int x :: ls) st hp = ab_X rom K cX2_makeFull 9 2 28 (v0 :: v1 :: .null :: .int (x + 1) :: ls) st hp := ax_iinc dX2_makeFull_25 rfl (ab_nl_c1 (j := 2) (v := .null) rfl ab_c1_null) (by decide) rfl rfl
theorem dX2_makeFull_28 : decode cX2_makeFull 28 = .ok (.goto (-14), 3) := by decide +kernel
theorem sX2_makeFull_28 : ab_X rom K cX2_makeFull 9 2 28 ls st hp = ab_X rom K cX2_makeFull 9 2 14 ls st hp := ax_goto dX2_makeFull_28 (by decide)
theorem dX2_makeFull_31 : decode cX2_makeFull 31 = .ok (.iinc 2 1, 3) := by decide +kernel
theorem sX2_makeFull_31i : ab_X rom K cX2_makeFull 9 2 31 (v0 :: .int y :: .int x :: ls) st hp = ab_X rom K cX2_makeFull 9 2 34 (v0 :: .int y :: .int (x + 1) :: ls) st hp := ax_iinc dX2_makeFull_31 rfl (ab_nl_c1 (j := 1) (v := .int y) rfl (ab_c1_int _)) (by decide) rfl rfl
theorem sX2_makeFull_31r : ab_X rom K cX2_makeFull 9 2 31 (v0 :: .ref a2 :: .int x :: ls) st hp = ab_X rom K cX2_makeFull 9 2 34 (v0 :: .ref a2 :: .int (x + 1) :: ls) st hp := ax_iinc dX2_makeFull_31 rfl (ab_nl_c1 (j := 1) (v := .ref a2) rfl (ab_c1_ref _)) (by decide) rfl rfl
theorem sX2_makeFull_31n : ab_X rom K cX2_makeFull 9 2 31 (v0 :: .null :: .int x :: ls) st hp = ab_X rom K cX2_makeFull 9 2 34 (v0 :: .null :: .int (x + 1) :: ls) st hp := ax_iinc dX2_makeFull_31 rfl (ab_nl_c1 (j := 1) (v := .null) rfl ab_c1_null) (by decide) rfl rfl
theorem dX2_makeFull_34 : decode cX2_makeFull 34 = .ok (.goto (-27), 3) := by decide +kernel
theorem sX2_makeFull_34 : ab_X rom K cX2_makeFull 9 2 34 ls st hp = ab_X rom K cX2_makeFull 9 2 7 ls st hp := ax_goto dX2_makeFull_34 (by decide)
theorem dX2_makeFull_37 : decode cX2_makeFull 37 = .ok (.aload_n 0, 1) := by decide +kernel
theorem sX2_makeFull_37 : ab_X rom K cX2_makeFull 9 2 37 (.ref a :: ls) st hp = ab_X rom K cX2_makeFull 9 2 38 (.ref a :: ls) (.ref a :: st) hp := ax_aload_n dX2_makeFull_37 rfl rfl
theorem dX2_makeFull_38 : decode cX2_makeFull 38 = .ok (.iload_n 1, 1) := by decide +kernel
theorem sX2_makeFull_38 : ab_X rom K cX2_makeFull 9 2 38 (v0 :: .int x :: ls) st hp = ab_X rom K cX2_makeFull 9 2 39 (v0 :: .int x :: ls) (.int x :: st) hp := ax_iload_n dX2_makeFull_38 rfl rfl
theorem dX2_makeFull_39 : decode cX2_makeFull 39 = .ok (.iconst 3, 1) := by decide +kernel
theorem sX2_makeFull_39 : ab_X rom K cX2_makeFull 9 2 39 ls st hp = ab_X rom K cX2_makeFull 9 2 40 ls (.int 3 :: st) hp := ax_iconst dX2_makeFull_39 (by decide) rfl
theorem dX2_makeFull_40 : decode cX2_makeFull 40 = .ok (.if_icmp .gt 9, 3) := by decide +kernel
theorem sX2_makeFull_40 : ab_X rom K cX2_makeFull 9 2 40 ls (.int y :: .int x :: st) hp = if y < x then ab_X rom K cX2_makeFull 9 2 49 ls st hp else ab_X rom K cX2_makeFull 9 2 43 ls st hp := ax_icmp_gt dX2_makeFull_40 (by decide) rfl
theorem dX2_makeFull_43 : decode cX2_makeFull 43 = .ok (.getstatic 50, 3) := by decide +kernel
theorem sX2_makeFull_43 : ab_X rom K cX2_makeFull 9 2 43 ls st hp = ab_X rom K cX2_makeFull 9 2 46 ls (.ref (ab_RO + 1) :: st) hp := ax_getstatic dX2_makeFull_43 ks_9_50 rfl
theorem dX2_makeFull_46 : decode cX2_makeFull 46 = .ok (.goto 17, 3) := by decide +kernel
theorem sX2_makeFull_46 : ab_X rom K cX2_makeFull 9 2 46 ls st hp = ab_X rom K cX2_makeFull 9 2 63 ls st hp := ax_goto dX2_makeFull_46 (by decide)
theorem dX2_makeFull_49 : decode cX2_makeFull 49 = .ok (.iload_n 1, 1) := by decide +kernel
theorem sX2_makeFull_49 : ab_X rom K cX2_makeFull 9 2 49 (v0 :: .int x :: ls) st hp = ab_X rom K cX2_makeFull 9 2 50 (v0 :: .int x :: ls) (.int x :: st) hp := ax_iload_n dX2_makeFull_49 rfl rfl
theorem dX2_makeFull_50 : decode cX2_makeFull 50 = .ok (.iconst 4, 1) := by decide +kernel
theorem sX2_makeFull_50 : ab_X rom K cX2_makeFull 9 2 50 ls st hp = ab_X rom K cX2_makeFull 9 2 51 ls (.int 4 :: st) hp := ax_iconst dX2_makeFull_50 (by decide) rfl
theorem dX2_makeFull_51 : decode cX2_makeFull 51 = .ok (.if_icmp .ne 9, 3) := by decide +kernel
theorem sX2_makeFull_51 : ab_X rom K cX2_makeFull 9 2 51 ls (.int y :: .int x :: st) hp = if x = y then ab_X rom K cX2_makeFull 9 2 54 ls st hp else ab_X rom K cX2_makeFull 9 2 60 ls st hp := ax_icmp_ne dX2_makeFull_51 (by decide) rfl
theorem dX2_makeFull_54 : decode cX2_makeFull 54 = .ok (.getstatic 66, 3) := by decide +kernel
theorem sX2_makeFull_54 : ab_X rom K cX2_makeFull 9 2 54 ls st hp = ab_X rom K cX2_makeFull 9 2 57 ls (.ref (ab_RO + 4) :: st) hp := ax_getstatic dX2_makeFull_54 ks_9_66 rfl
theorem dX2_makeFull_57 : decode cX2_makeFull 57 = .ok (.goto 6, 3) := by decide +kernel
theorem sX2_makeFull_57 : ab_X rom K cX2_makeFull 9 2 57 ls st hp = ab_X rom K cX2_makeFull 9 2 63 ls st hp := ax_goto dX2_makeFull_57 (by decide)
theorem dX2_makeFull_60 : decode cX2_makeFull 60 = .ok (.getstatic 59, 3) := by decide +kernel
theorem sX2_makeFull_60 : ab_X rom K cX2_makeFull 9 2 60 ls st hp = ab_X rom K cX2_makeFull 9 2 63 ls (.ref (ab_RO + 5) :: st) hp := ax_getstatic dX2_makeFull_60 ks_9_59 rfl
theorem dX2_makeFull_63 : decode cX2_makeFull 63 = .ok (.invokestatic 62, 3) := by decide +kernel
theorem sX2_makeFull_63_0 : ab_X rom K cX2_makeFull 9 2 63 ls [w2, w1] hp = (K 263 [w1, w2] hp).bind (fun o => ab_X rom K cX2_makeFull 9 2 66 ls (o.1.toList ++ []) o.2) := ax_static (as := [w1, w2]) (st := []) dX2_makeFull_63 kc_9_62 rfl rfl (Nat.le_of_ble_eq_true rfl)
theorem sX2_makeFull_63_1 : ab_X rom K cX2_makeFull 9 2 63 ls [w2, w1, v0] hp = (K 263 [w1, w2] hp).bind (fun o => ab_X rom K cX2_makeFull 9 2 66 ls (o.1.toList ++ [v0]) o.2) := ax_static (as := [w1, w2]) (st := [v0]) dX2_makeFull_63 kc_9_62 rfl rfl (Nat.le_of_ble_eq_true rfl)
theorem sX2_makeFull_63_2 : ab_X rom K cX2_makeFull 9 2 63 ls [w2, w1, v0, v1] hp = (K 263 [w1, w2] hp).bind (fun o => ab_X rom K cX2_makeFull 9 2 66 ls (o.1.toList ++ [v0, v1]) o.2) := ax_static (as := [w1, w2]) (st := [v0, v1]) dX2_makeFull_63 kc_9_62 rfl rfl (Nat.le_of_ble_eq_true rfl)
theorem sX2_makeFull_63_3 : ab_X rom K cX2_makeFull 9 2 63 ls [w2, w1, v0, v1, v2] hp = (K 263 [w1, w2] hp).bind (fun o => ab_X rom K cX2_makeFull 9 2 66 ls (o.1.toList ++ [v0, v1, v2]) o.2) := ax_static (as := [w1, w2]) (st := [v0, v1, v2]) dX2_makeFull_63 kc_9_62 rfl rfl (Nat.le_of_ble_eq_true rfl)
theorem dX2_makeFull_66 : decode cX2_makeFull 66 = .ok (.iconst 1, 1) := by decide +kernel
theorem sX2_makeFull_66 : ab_X rom K cX2_makeFull 9 2 66 ls st hp = ab_X rom K cX2_makeFull 9 2 67 ls (.int 1 :: st) hp := ax_iconst dX2_makeFull_66 (by decide) rfl
theorem dX2_makeFull_67 : decode cX2_makeFull 67 = .ok (.ireturn, 1) := by decide +kernel
theorem sX2_makeFull_67 : ab_X rom K cX2_makeFull 9 2 67 ls [.int x] hp = if x = 0 ∨ x = 1 then some (some (.int x), hp) else none := ay_zret dX2_makeFull_67 rfl
theorem tX2_makeGraft : ab_mT[259]? = some (yX2_makeGraft, cX2_makeGraft, 7, 0, 9) := by decide +kernel
theorem mX2_makeGraft {d : Nat} {r0 : Nat} {r1 : Nat} {r2 : Nat} {x3 : Int32} {x4 : Int32} : ab_M rom (d + 1) 259 [.ref r0, .ref r1, .ref r2, .int x3, .int x4] hp = ab_X rom (ab_M rom d) cX2_makeGraft 9 0 0 [.ref r0, .ref r1, .ref r2, .int x3, .int x4, .null, .null] [] hp := ab_M_eq tX2_makeGraft (Nat.le_of_ble_eq_true rfl)
theorem dX2_makeGraft_0 : decode cX2_makeGraft 0 = .ok (.aload_n 1, 1) := by decide +kernel
theorem sX2_makeGraft_0 : ab_X rom K cX2_makeGraft 9 0 0 (v0 :: .ref a :: ls) st hp = ab_X rom K cX2_makeGraft 9 0 1 (v0 :: .ref a :: ls) (.ref a :: st) hp := ax_aload_n dX2_makeGraft_0 rfl rfl
theorem dX2_makeGraft_1 : decode cX2_makeGraft 1 = .ok (.iload_n 3, 1) := by decide +kernel
theorem sX2_makeGraft_1 : ab_X rom K cX2_makeGraft 9 0 1 (v0 :: v1 :: v2 :: .int x :: ls) st hp = ab_X rom K cX2_makeGraft 9 0 2 (v0 :: v1 :: v2 :: .int x :: ls) (.int x :: st) hp := ax_iload_n dX2_makeGraft_1 rfl rfl
theorem dX2_makeGraft_2 : decode cX2_makeGraft 2 = .ok (.invokevirtual 69, 3) := by decide +kernel
theorem sX2_makeGraft_2_0 : ab_X rom K cX2_makeGraft 9 0 2 ls [w1, .ref a] hp = if ab_iso hp a 1 = true then (K 30 (.ref a :: [w1]) hp).bind (fun o => ab_X rom K cX2_makeGraft 9 0 5 ls (o.1.toList ++ []) o.2) else none := ay_virtual (as := [w1]) (st := []) dX2_makeGraft_2 kc_9_69 rfl rfl (Nat.le_of_ble_eq_true rfl)
theorem sX2_makeGraft_2_1 : ab_X rom K cX2_makeGraft 9 0 2 ls [w1, .ref a, v0] hp = if ab_iso hp a 1 = true then (K 30 (.ref a :: [w1]) hp).bind (fun o => ab_X rom K cX2_makeGraft 9 0 5 ls (o.1.toList ++ [v0]) o.2) else none := ay_virtual (as := [w1]) (st := [v0]) dX2_makeGraft_2 kc_9_69 rfl rfl (Nat.le_of_ble_eq_true rfl)
theorem sX2_makeGraft_2_2 : ab_X rom K cX2_makeGraft 9 0 2 ls [w1, .ref a, v0, v1] hp = if ab_iso hp a 1 = true then (K 30 (.ref a :: [w1]) hp).bind (fun o => ab_X rom K cX2_makeGraft 9 0 5 ls (o.1.toList ++ [v0, v1]) o.2) else none := ay_virtual (as := [w1]) (st := [v0, v1]) dX2_makeGraft_2 kc_9_69 rfl rfl (Nat.le_of_ble_eq_true rfl)
theorem sX2_makeGraft_2_3 : ab_X rom K cX2_makeGraft 9 0 2 ls [w1, .ref a, v0, v1, v2] hp = if ab_iso hp a 1 = true then (K 30 (.ref a :: [w1]) hp).bind (fun o => ab_X rom K cX2_makeGraft 9 0 5 ls (o.1.toList ++ [v0, v1, v2]) o.2) else none := ay_virtual (as := [w1]) (st := [v0, v1, v2]) dX2_makeGraft_2 kc_9_69 rfl rfl (Nat.le_of_ble_eq_true rfl)
theorem dX2_makeGraft_5 : decode cX2_makeGraft 5 = .ok (.istore 5, 2) := by decide +kernel
theorem sX2_makeGraft_5i : ab_X rom K cX2_makeGraft 9 0 5 (v0 :: v1 :: v2 :: v3 :: .int y :: v5 :: ls) (.int x :: st) hp = ab_X rom K cX2_makeGraft 9 0 7 (v0 :: v1 :: v2 :: v3 :: .int y :: .int x :: ls) st hp := ax_istore dX2_makeGraft_5 (ax_lt (v := v5) rfl) (ab_nl_c1 (j := 4) (v := .int y) rfl (ab_c1_int _)) rfl rfl
theorem sX2_makeGraft_5r : ab_X rom K cX2_makeGraft 9 0 5 (v0 :: v1 :: v2 :: v3 :: .ref a2 :: v5 :: ls) (.int x :: st) hp = ab_X rom K cX2_makeGraft 9 0 7 (v0 :: v1 :: v2 :: v3 :: .ref a2 :: .int x :: ls) st hp := ax_istore dX2_makeGraft_5 (ax_lt (v := v5) rfl) (ab_nl_c1 (j := 4) (v := .ref a2) rfl (ab_c1_ref _)) rfl rfl
theorem sX2_makeGraft_5n : ab_X rom K cX2_makeGraft 9 0 5 (v0 :: v1 :: v2 :: v3 :: .null :: v5 :: ls) (.int x :: st) hp = ab_X rom K cX2_makeGraft 9 0 7 (v0 :: v1 :: v2 :: v3 :: .null :: .int x :: ls) st hp := ax_istore dX2_makeGraft_5 (ax_lt (v := v5) rfl) (ab_nl_c1 (j := 4) (v := .null) rfl ab_c1_null) rfl rfl
theorem dX2_makeGraft_7 : decode cX2_makeGraft 7 = .ok (.iload 5, 2) := by decide +kernel
theorem sX2_makeGraft_7 : ab_X rom K cX2_makeGraft 9 0 7 (v0 :: v1 :: v2 :: v3 :: v4 :: .int x :: ls) st hp = ab_X rom K cX2_makeGraft 9 0 9 (v0 :: v1 :: v2 :: v3 :: v4 :: .int x :: ls) (.int x :: st) hp := ax_iload dX2_makeGraft_7 rfl rfl
theorem dX2_makeGraft_9 : decode cX2_makeGraft 9 = .ok (.iconst (-1), 1) := by decide +kernel
theorem sX2_makeGraft_9 : ab_X rom K cX2_makeGraft 9 0 9 ls st hp = ab_X rom K cX2_makeGraft 9 0 10 ls (.int (-1) :: st) hp := ax_iconst dX2_makeGraft_9 (by decide) rfl
theorem dX2_makeGraft_10 : decode cX2_makeGraft 10 = .ok (.if_icmp .ne 4, 3) := by decide +kernel
theorem sX2_makeGraft_10 : ab_X rom K cX2_makeGraft 9 0 10 ls (.int y :: .int x :: st) hp = if x = y then ab_X rom K cX2_makeGraft 9 0 13 ls st hp else ab_X rom K cX2_makeGraft 9 0 14 ls st hp := ax_icmp_ne dX2_makeGraft_10 (by decide) rfl
theorem dX2_makeGraft_13 : decode cX2_makeGraft 13 = .ok (.return_, 1) := by decide +kernel
theorem sX2_makeGraft_13 : ab_X rom K cX2_makeGraft 9 0 13 ls [] hp = some (none, hp) := ax_vret dX2_makeGraft_13 (by decide)
theorem dX2_makeGraft_14 : decode cX2_makeGraft 14 = .ok (.aload_n 0, 1) := by decide +kernel
theorem sX2_makeGraft_14 : ab_X rom K cX2_makeGraft 9 0 14 (.ref a :: ls) st hp = ab_X rom K cX2_makeGraft 9 0 15 (.ref a :: ls) (.ref a :: st) hp := ax_aload_n dX2_makeGraft_14 rfl rfl
theorem dX2_makeGraft_15 : decode cX2_makeGraft 15 = .ok (.aload_n 1, 1) := by decide +kernel
theorem sX2_makeGraft_15 : ab_X rom K cX2_makeGraft 9 0 15 (v0 :: .ref a :: ls) st hp = ab_X rom K cX2_makeGraft 9 0 16 (v0 :: .ref a :: ls) (.ref a :: st) hp := ax_aload_n dX2_makeGraft_15 rfl rfl
theorem dX2_makeGraft_16 : decode cX2_makeGraft 16 = .ok (.invokevirtual 73, 3) := by decide +kernel
theorem sX2_makeGraft_16_0 : ab_X rom K cX2_makeGraft 9 0 16 ls [w1, .ref a] hp = if ab_iso hp a 1 = true then (K 17 (.ref a :: [w1]) hp).bind (fun o => ab_X rom K cX2_makeGraft 9 0 19 ls (o.1.toList ++ []) o.2) else none := ay_virtual (as := [w1]) (st := []) dX2_makeGraft_16 kc_9_73 rfl rfl (Nat.le_of_ble_eq_true rfl)
theorem sX2_makeGraft_16_1 : ab_X rom K cX2_makeGraft 9 0 16 ls [w1, .ref a, v0] hp = if ab_iso hp a 1 = true then (K 17 (.ref a :: [w1]) hp).bind (fun o => ab_X rom K cX2_makeGraft 9 0 19 ls (o.1.toList ++ [v0]) o.2) else none := ay_virtual (as := [w1]) (st := [v0]) dX2_makeGraft_16 kc_9_73 rfl rfl (Nat.le_of_ble_eq_true rfl)
theorem sX2_makeGraft_16_2 : ab_X rom K cX2_makeGraft 9 0 16 ls [w1, .ref a, v0, v1] hp = if ab_iso hp a 1 = true then (K 17 (.ref a :: [w1]) hp).bind (fun o => ab_X rom K cX2_makeGraft 9 0 19 ls (o.1.toList ++ [v0, v1]) o.2) else none := ay_virtual (as := [w1]) (st := [v0, v1]) dX2_makeGraft_16 kc_9_73 rfl rfl (Nat.le_of_ble_eq_true rfl)
theorem sX2_makeGraft_16_3 : ab_X rom K cX2_makeGraft 9 0 16 ls [w1, .ref a, v0, v1, v2] hp = if ab_iso hp a 1 = true then (K 17 (.ref a :: [w1]) hp).bind (fun o => ab_X rom K cX2_makeGraft 9 0 19 ls (o.1.toList ++ [v0, v1, v2]) o.2) else none := ay_virtual (as := [w1]) (st := [v0, v1, v2]) dX2_makeGraft_16 kc_9_73 rfl rfl (Nat.le_of_ble_eq_true rfl)
theorem dX2_makeGraft_19 : decode cX2_makeGraft 19 = .ok (.aload_n 0, 1) := by decide +kernel
theorem sX2_makeGraft_19 : ab_X rom K cX2_makeGraft 9 0 19 (.ref a :: ls) st hp = ab_X rom K cX2_makeGraft 9 0 20 (.ref a :: ls) (.ref a :: st) hp := ax_aload_n dX2_makeGraft_19 rfl rfl
theorem dX2_makeGraft_20 : decode cX2_makeGraft 20 = .ok (.aload_n 1, 1) := by decide +kernel
theorem sX2_makeGraft_20 : ab_X rom K cX2_makeGraft 9 0 20 (v0 :: .ref a :: ls) st hp = ab_X rom K cX2_makeGraft 9 0 21 (v0 :: .ref a :: ls) (.ref a :: st) hp := ax_aload_n dX2_makeGraft_20 rfl rfl
theorem dX2_makeGraft_21 : decode cX2_makeGraft 21 = .ok (.getfield 35, 3) := by decide +kernel
theorem sX2_makeGraft_21 : ab_X rom K cX2_makeGraft 9 0 21 ls (.ref a :: st) hp = (ab_fld hp a 1 0).bind (fun v => ab_X rom K cX2_makeGraft 9 0 24 ls (v :: st) hp) := ax_getfield dX2_makeGraft_21 kf_9_35 rfl
theorem dX2_makeGraft_24 : decode cX2_makeGraft 24 = .ok (.aload_n 2, 1) := by decide +kernel
theorem sX2_makeGraft_24 : ab_X rom K cX2_makeGraft 9 0 24 (v0 :: v1 :: .ref a :: ls) st hp = ab_X rom K cX2_makeGraft 9 0 25 (v0 :: v1 :: .ref a :: ls) (.ref a :: st) hp := ax_aload_n dX2_makeGraft_24 rfl rfl
theorem dX2_makeGraft_25 : decode cX2_makeGraft 25 = .ok (.getfield 35, 3) := by decide +kernel
theorem sX2_makeGraft_25 : ab_X rom K cX2_makeGraft 9 0 25 ls (.ref a :: st) hp = (ab_fld hp a 1 0).bind (fun v => ab_X rom K cX2_makeGraft 9 0 28 ls (v :: st) hp) := ax_getfield dX2_makeGraft_25 kf_9_35 rfl
theorem dX2_makeGraft_28 : decode cX2_makeGraft 28 = .ok (.iadd, 1) := by decide +kernel
theorem sX2_makeGraft_28 : ab_X rom K cX2_makeGraft 9 0 28 ls (.int y :: .int x :: st) hp = ab_X rom K cX2_makeGraft 9 0 29 ls (.int (x + y) :: st) hp := ax_iadd dX2_makeGraft_28 rfl
theorem dX2_makeGraft_29 : decode cX2_makeGraft 29 = .ok (.iconst 1, 1) := by decide +kernel
theorem sX2_makeGraft_29 : ab_X rom K cX2_makeGraft 9 0 29 ls st hp = ab_X rom K cX2_makeGraft 9 0 30 ls (.int 1 :: st) hp := ax_iconst dX2_makeGraft_29 (by decide) rfl
theorem dX2_makeGraft_30 : decode cX2_makeGraft 30 = .ok (.isub, 1) := by decide +kernel
theorem sX2_makeGraft_30 : ab_X rom K cX2_makeGraft 9 0 30 ls (.int y :: .int x :: st) hp = ab_X rom K cX2_makeGraft 9 0 31 ls (.int (x - y) :: st) hp := ax_isub dX2_makeGraft_30 rfl
theorem dX2_makeGraft_31 : decode cX2_makeGraft 31 = .ok (.putfield 35, 3) := by decide +kernel
theorem sX2_makeGraft_31 : ab_X rom K cX2_makeGraft 9 0 31 ls (.int x :: .ref a :: st) hp = (ab_fpt hp a 1 0 (.int x)).bind (fun hp' => ab_X rom K cX2_makeGraft 9 0 34 ls st hp') := ax_putfield dX2_makeGraft_31 kf_9_35 rfl (Or.inl rfl) rfl
theorem dX2_makeGraft_34 : decode cX2_makeGraft 34 = .ok (.iconst 0, 1) := by decide +kernel
theorem sX2_makeGraft_34 : ab_X rom K cX2_makeGraft 9 0 34 ls st hp = ab_X rom K cX2_makeGraft 9 0 35 ls (.int 0 :: st) hp := ax_iconst dX2_makeGraft_34 (by decide) rfl
theorem dX2_makeGraft_35 : decode cX2_makeGraft 35 = .ok (.istore 6, 2) := by decide +kernel
theorem sX2_makeGraft_35i : ab_X rom K cX2_makeGraft 9 0 35 (v0 :: v1 :: v2 :: v3 :: v4 :: .int y :: v6 :: ls) (.int x :: st) hp = ab_X rom K cX2_makeGraft 9 0 37 (v0 :: v1 :: v2 :: v3 :: v4 :: .int y :: .int x :: ls) st hp := ax_istore dX2_makeGraft_35 (ax_lt (v := v6) rfl) (ab_nl_c1 (j := 5) (v := .int y) rfl (ab_c1_int _)) rfl rfl
theorem sX2_makeGraft_35r : ab_X rom K cX2_makeGraft 9 0 35 (v0 :: v1 :: v2 :: v3 :: v4 :: .ref a2 :: v6 :: ls) (.int x :: st) hp = ab_X rom K cX2_makeGraft 9 0 37 (v0 :: v1 :: v2 :: v3 :: v4 :: .ref a2 :: .int x :: ls) st hp := ax_istore dX2_makeGraft_35 (ax_lt (v := v6) rfl) (ab_nl_c1 (j := 5) (v := .ref a2) rfl (ab_c1_ref _)) rfl rfl
theorem sX2_makeGraft_35n : ab_X rom K cX2_makeGraft 9 0 35 (v0 :: v1 :: v2 :: v3 :: v4 :: .null :: v6 :: ls) (.int x :: st) hp = ab_X rom K cX2_makeGraft 9 0 37 (v0 :: v1 :: v2 :: v3 :: v4 :: .null :: .int x :: ls) st hp := ax_istore dX2_makeGraft_35 (ax_lt (v := v6) rfl) (ab_nl_c1 (j := 5) (v := .null) rfl ab_c1_null) rfl rfl
theorem dX2_makeGraft_37 : decode cX2_makeGraft 37 = .ok (.iload 6, 2) := by decide +kernel
theorem sX2_makeGraft_37 : ab_X rom K cX2_makeGraft 9 0 37 (v0 :: v1 :: v2 :: v3 :: v4 :: v5 :: .int x :: ls) st hp = ab_X rom K cX2_makeGraft 9 0 39 (v0 :: v1 :: v2 :: v3 :: v4 :: v5 :: .int x :: ls) (.int x :: st) hp := ax_iload dX2_makeGraft_37 rfl rfl
theorem dX2_makeGraft_39 : decode cX2_makeGraft 39 = .ok (.aload_n 1, 1) := by decide +kernel
theorem sX2_makeGraft_39 : ab_X rom K cX2_makeGraft 9 0 39 (v0 :: .ref a :: ls) st hp = ab_X rom K cX2_makeGraft 9 0 40 (v0 :: .ref a :: ls) (.ref a :: st) hp := ax_aload_n dX2_makeGraft_39 rfl rfl
theorem dX2_makeGraft_40 : decode cX2_makeGraft 40 = .ok (.getfield 35, 3) := by decide +kernel
theorem sX2_makeGraft_40 : ab_X rom K cX2_makeGraft 9 0 40 ls (.ref a :: st) hp = (ab_fld hp a 1 0).bind (fun v => ab_X rom K cX2_makeGraft 9 0 43 ls (v :: st) hp) := ax_getfield dX2_makeGraft_40 kf_9_35 rfl
theorem dX2_makeGraft_43 : decode cX2_makeGraft 43 = .ok (.if_icmp .ge 34, 3) := by decide +kernel
theorem sX2_makeGraft_43 : ab_X rom K cX2_makeGraft 9 0 43 ls (.int y :: .int x :: st) hp = if x < y then ab_X rom K cX2_makeGraft 9 0 46 ls st hp else ab_X rom K cX2_makeGraft 9 0 77 ls st hp := ax_icmp_ge dX2_makeGraft_43 (by decide) rfl
theorem dX2_makeGraft_46 : decode cX2_makeGraft 46 = .ok (.aload_n 1, 1) := by decide +kernel
theorem sX2_makeGraft_46 : ab_X rom K cX2_makeGraft 9 0 46 (v0 :: .ref a :: ls) st hp = ab_X rom K cX2_makeGraft 9 0 47 (v0 :: .ref a :: ls) (.ref a :: st) hp := ax_aload_n dX2_makeGraft_46 rfl rfl
theorem dX2_makeGraft_47 : decode cX2_makeGraft 47 = .ok (.getfield 39, 3) := by decide +kernel
theorem sX2_makeGraft_47 : ab_X rom K cX2_makeGraft 9 0 47 ls (.ref a :: st) hp = (ab_fld hp a 1 4).bind (fun v => ab_X rom K cX2_makeGraft 9 0 50 ls (v :: st) hp) := ax_getfield dX2_makeGraft_47 kf_9_39 rfl
theorem dX2_makeGraft_50 : decode cX2_makeGraft 50 = .ok (.iload 6, 2) := by decide +kernel
theorem sX2_makeGraft_50 : ab_X rom K cX2_makeGraft 9 0 50 (v0 :: v1 :: v2 :: v3 :: v4 :: v5 :: .int x :: ls) st hp = ab_X rom K cX2_makeGraft 9 0 52 (v0 :: v1 :: v2 :: v3 :: v4 :: v5 :: .int x :: ls) (.int x :: st) hp := ax_iload dX2_makeGraft_50 rfl rfl
theorem dX2_makeGraft_52 : decode cX2_makeGraft 52 = .ok (.iaload, 1) := by decide +kernel
theorem sX2_makeGraft_52 : ab_X rom K cX2_makeGraft 9 0 52 ls (.int x :: .ref a :: st) hp = (ab_ard rom 0 hp a x).bind (fun v => ab_X rom K cX2_makeGraft 9 0 53 ls (.int v :: st) hp) := ax_iaload dX2_makeGraft_52 rfl
theorem dX2_makeGraft_53 : decode cX2_makeGraft 53 = .ok (.iload_n 3, 1) := by decide +kernel
theorem sX2_makeGraft_53 : ab_X rom K cX2_makeGraft 9 0 53 (v0 :: v1 :: v2 :: .int x :: ls) st hp = ab_X rom K cX2_makeGraft 9 0 54 (v0 :: v1 :: v2 :: .int x :: ls) (.int x :: st) hp := ax_iload_n dX2_makeGraft_53 rfl rfl
theorem dX2_makeGraft_54 : decode cX2_makeGraft 54 = .ok (.if_icmp .le 17, 3) := by decide +kernel
theorem sX2_makeGraft_54 : ab_X rom K cX2_makeGraft 9 0 54 ls (.int y :: .int x :: st) hp = if y < x then ab_X rom K cX2_makeGraft 9 0 57 ls st hp else ab_X rom K cX2_makeGraft 9 0 71 ls st hp := ax_icmp_le dX2_makeGraft_54 (by decide) rfl
theorem dX2_makeGraft_57 : decode cX2_makeGraft 57 = .ok (.aload_n 0, 1) := by decide +kernel
theorem sX2_makeGraft_57 : ab_X rom K cX2_makeGraft 9 0 57 (.ref a :: ls) st hp = ab_X rom K cX2_makeGraft 9 0 58 (.ref a :: ls) (.ref a :: st) hp := ax_aload_n dX2_makeGraft_57 rfl rfl
theorem dX2_makeGraft_58 : decode cX2_makeGraft 58 = .ok (.getfield 39, 3) := by decide +kernel
theorem sX2_makeGraft_58 : ab_X rom K cX2_makeGraft 9 0 58 ls (.ref a :: st) hp = (ab_fld hp a 1 4).bind (fun v => ab_X rom K cX2_makeGraft 9 0 61 ls (v :: st) hp) := ax_getfield dX2_makeGraft_58 kf_9_39 rfl
theorem dX2_makeGraft_61 : decode cX2_makeGraft 61 = .ok (.iload 6, 2) := by decide +kernel
theorem sX2_makeGraft_61 : ab_X rom K cX2_makeGraft 9 0 61 (v0 :: v1 :: v2 :: v3 :: v4 :: v5 :: .int x :: ls) st hp = ab_X rom K cX2_makeGraft 9 0 63 (v0 :: v1 :: v2 :: v3 :: v4 :: v5 :: .int x :: ls) (.int x :: st) hp := ax_iload dX2_makeGraft_61 rfl rfl
theorem dX2_makeGraft_63 : decode cX2_makeGraft 63 = .ok (.dup2, 1) := by decide +kernel
theorem sX2_makeGraft_63 : ab_X rom K cX2_makeGraft 9 0 63 ls (.int x :: .ref a :: st) hp = ab_X rom K cX2_makeGraft 9 0 64 ls (.int x :: .ref a :: .int x :: .ref a :: st) hp := ax_dup2 dX2_makeGraft_63 rfl (ab_c1_int _) (ab_c1_ref _)
theorem dX2_makeGraft_64 : decode cX2_makeGraft 64 = .ok (.iaload, 1) := by decide +kernel
theorem sX2_makeGraft_64 : ab_X rom K cX2_makeGraft 9 0 64 ls (.int x :: .ref a :: st) hp = (ab_ard rom 0 hp a x).bind (fun v => ab_X rom K cX2_makeGraft 9 0 65 ls (.int v :: st) hp) := ax_iaload dX2_makeGraft_64 rfl
theorem dX2_makeGraft_65 : decode cX2_makeGraft 65 = .ok (.aload_n 2, 1) := by decide +kernel
theorem sX2_makeGraft_65 : ab_X rom K cX2_makeGraft 9 0 65 (v0 :: v1 :: .ref a :: ls) st hp = ab_X rom K cX2_makeGraft 9 0 66 (v0 :: v1 :: .ref a :: ls) (.ref a :: st) hp := ax_aload_n dX2_makeGraft_65 rfl rfl
theorem dX2_makeGraft_66 : decode cX2_makeGraft 66 = .ok (.getfield 47, 3) := by decide +kernel
theorem sX2_makeGraft_66 : ab_X rom K cX2_makeGraft 9 0 66 ls (.ref a :: st) hp = (ab_fld hp a 1 1).bind (fun v => ab_X rom K cX2_makeGraft 9 0 69 ls (v :: st) hp) := ax_getfield dX2_makeGraft_66 kf_9_47 rfl
theorem dX2_makeGraft_69 : decode cX2_makeGraft 69 = .ok (.iadd, 1) := by decide +kernel
theorem sX2_makeGraft_69 : ab_X rom K cX2_makeGraft 9 0 69 ls (.int y :: .int x :: st) hp = ab_X rom K cX2_makeGraft 9 0 70 ls (.int (x + y) :: st) hp := ax_iadd dX2_makeGraft_69 rfl
theorem dX2_makeGraft_70 : decode cX2_makeGraft 70 = .ok (.iastore, 1) := by decide +kernel
theorem sX2_makeGraft_70 : ab_X rom K cX2_makeGraft 9 0 70 ls (.int y :: .int x :: .ref a :: st) hp = (ab_awr 0 hp a x y).bind (fun hp' => ab_X rom K cX2_makeGraft 9 0 71 ls st hp') := ax_iastore dX2_makeGraft_70 rfl
theorem dX2_makeGraft_71 : decode cX2_makeGraft 71 = .ok (.iinc 6 1, 3) := by decide +kernel
theorem sX2_makeGraft_71i : ab_X rom K cX2_makeGraft 9 0 71 (v0 :: v1 :: v2 :: v3 :: v4 :: .int y :: .int x :: ls) st hp = ab_X rom K cX2_makeGraft 9 0 74 (v0 :: v1 :: v2 :: v3 :: v4 :: .int y :: .int (x + 1) :: ls) st hp := ax_iinc dX2_makeGraft_71 rfl (ab_nl_c1 (j := 5) (v := .int y) rfl (ab_c1_int _)) (by decide) rfl rfl
theorem sX2_makeGraft_71r : ab_X rom K cX2_makeGraft 9 0 71 (v0 :: v1 :: v2 :: v3 :: v4 :: .ref a2 :: .int x :: ls) st hp = ab_X rom K cX2_makeGraft 9 0 74 (v0 :: v1 :: v2 :: v3 :: v4 :: .ref a2 :: .int (x + 1) :: ls) st hp := ax_iinc dX2_makeGraft_71 rfl (ab_nl_c1 (j := 5) (v := .ref a2) rfl (ab_c1_ref _)) (by decide) rfl rfl
theorem sX2_makeGraft_71n : ab_X rom K cX2_makeGraft 9 0 71 (v0 :: v1 :: v2 :: v3 :: v4 :: .null :: .int x :: ls) st hp = ab_X rom K cX2_makeGraft 9 0 74 (v0 :: v1 :: v2 :: v3 :: v4 :: .null :: .int (x + 1) :: ls) st hp := ax_iinc dX2_makeGraft_71 rfl (ab_nl_c1 (j := 5) (v := .null) rfl ab_c1_null) (by decide) rfl rfl
theorem dX2_makeGraft_74 : decode cX2_makeGraft 74 = .ok (.goto (-37), 3) := by decide +kernel
theorem sX2_makeGraft_74 : ab_X rom K cX2_makeGraft 9 0 74 ls st hp = ab_X rom K cX2_makeGraft 9 0 37 ls st hp := ax_goto dX2_makeGraft_74 (by decide)
theorem dX2_makeGraft_77 : decode cX2_makeGraft 77 = .ok (.iconst 0, 1) := by decide +kernel
theorem sX2_makeGraft_77 : ab_X rom K cX2_makeGraft 9 0 77 ls st hp = ab_X rom K cX2_makeGraft 9 0 78 ls (.int 0 :: st) hp := ax_iconst dX2_makeGraft_77 (by decide) rfl
theorem dX2_makeGraft_78 : decode cX2_makeGraft 78 = .ok (.istore 6, 2) := by decide +kernel
theorem sX2_makeGraft_78i : ab_X rom K cX2_makeGraft 9 0 78 (v0 :: v1 :: v2 :: v3 :: v4 :: .int y :: v6 :: ls) (.int x :: st) hp = ab_X rom K cX2_makeGraft 9 0 80 (v0 :: v1 :: v2 :: v3 :: v4 :: .int y :: .int x :: ls) st hp := ax_istore dX2_makeGraft_78 (ax_lt (v := v6) rfl) (ab_nl_c1 (j := 5) (v := .int y) rfl (ab_c1_int _)) rfl rfl
theorem sX2_makeGraft_78r : ab_X rom K cX2_makeGraft 9 0 78 (v0 :: v1 :: v2 :: v3 :: v4 :: .ref a2 :: v6 :: ls) (.int x :: st) hp = ab_X rom K cX2_makeGraft 9 0 80 (v0 :: v1 :: v2 :: v3 :: v4 :: .ref a2 :: .int x :: ls) st hp := ax_istore dX2_makeGraft_78 (ax_lt (v := v6) rfl) (ab_nl_c1 (j := 5) (v := .ref a2) rfl (ab_c1_ref _)) rfl rfl
theorem sX2_makeGraft_78n : ab_X rom K cX2_makeGraft 9 0 78 (v0 :: v1 :: v2 :: v3 :: v4 :: .null :: v6 :: ls) (.int x :: st) hp = ab_X rom K cX2_makeGraft 9 0 80 (v0 :: v1 :: v2 :: v3 :: v4 :: .null :: .int x :: ls) st hp := ax_istore dX2_makeGraft_78 (ax_lt (v := v6) rfl) (ab_nl_c1 (j := 5) (v := .null) rfl ab_c1_null) rfl rfl
theorem dX2_makeGraft_80 : decode cX2_makeGraft 80 = .ok (.iload 6, 2) := by decide +kernel
theorem sX2_makeGraft_80 : ab_X rom K cX2_makeGraft 9 0 80 (v0 :: v1 :: v2 :: v3 :: v4 :: v5 :: .int x :: ls) st hp = ab_X rom K cX2_makeGraft 9 0 82 (v0 :: v1 :: v2 :: v3 :: v4 :: v5 :: .int x :: ls) (.int x :: st) hp := ax_iload dX2_makeGraft_80 rfl rfl
theorem dX2_makeGraft_82 : decode cX2_makeGraft 82 = .ok (.aload_n 2, 1) := by decide +kernel
theorem sX2_makeGraft_82 : ab_X rom K cX2_makeGraft 9 0 82 (v0 :: v1 :: .ref a :: ls) st hp = ab_X rom K cX2_makeGraft 9 0 83 (v0 :: v1 :: .ref a :: ls) (.ref a :: st) hp := ax_aload_n dX2_makeGraft_82 rfl rfl
theorem dX2_makeGraft_83 : decode cX2_makeGraft 83 = .ok (.getfield 35, 3) := by decide +kernel
theorem sX2_makeGraft_83 : ab_X rom K cX2_makeGraft 9 0 83 ls (.ref a :: st) hp = (ab_fld hp a 1 0).bind (fun v => ab_X rom K cX2_makeGraft 9 0 86 ls (v :: st) hp) := ax_getfield dX2_makeGraft_83 kf_9_35 rfl
theorem dX2_makeGraft_86 : decode cX2_makeGraft 86 = .ok (.if_icmp .ge 33, 3) := by decide +kernel
theorem sX2_makeGraft_86 : ab_X rom K cX2_makeGraft 9 0 86 ls (.int y :: .int x :: st) hp = if x < y then ab_X rom K cX2_makeGraft 9 0 89 ls st hp else ab_X rom K cX2_makeGraft 9 0 119 ls st hp := ax_icmp_ge dX2_makeGraft_86 (by decide) rfl
theorem dX2_makeGraft_89 : decode cX2_makeGraft 89 = .ok (.aload_n 0, 1) := by decide +kernel
theorem sX2_makeGraft_89 : ab_X rom K cX2_makeGraft 9 0 89 (.ref a :: ls) st hp = ab_X rom K cX2_makeGraft 9 0 90 (.ref a :: ls) (.ref a :: st) hp := ax_aload_n dX2_makeGraft_89 rfl rfl
theorem dX2_makeGraft_90 : decode cX2_makeGraft 90 = .ok (.getfield 39, 3) := by decide +kernel
theorem sX2_makeGraft_90 : ab_X rom K cX2_makeGraft 9 0 90 ls (.ref a :: st) hp = (ab_fld hp a 1 4).bind (fun v => ab_X rom K cX2_makeGraft 9 0 93 ls (v :: st) hp) := ax_getfield dX2_makeGraft_90 kf_9_39 rfl
theorem dX2_makeGraft_93 : decode cX2_makeGraft 93 = .ok (.aload_n 1, 1) := by decide +kernel
theorem sX2_makeGraft_93 : ab_X rom K cX2_makeGraft 9 0 93 (v0 :: .ref a :: ls) st hp = ab_X rom K cX2_makeGraft 9 0 94 (v0 :: .ref a :: ls) (.ref a :: st) hp := ax_aload_n dX2_makeGraft_93 rfl rfl
theorem dX2_makeGraft_94 : decode cX2_makeGraft 94 = .ok (.iload 6, 2) := by decide +kernel
theorem sX2_makeGraft_94 : ab_X rom K cX2_makeGraft 9 0 94 (v0 :: v1 :: v2 :: v3 :: v4 :: v5 :: .int x :: ls) st hp = ab_X rom K cX2_makeGraft 9 0 96 (v0 :: v1 :: v2 :: v3 :: v4 :: v5 :: .int x :: ls) (.int x :: st) hp := ax_iload dX2_makeGraft_94 rfl rfl
theorem dX2_makeGraft_96 : decode cX2_makeGraft 96 = .ok (.iload 4, 2) := by decide +kernel
theorem sX2_makeGraft_96 : ab_X rom K cX2_makeGraft 9 0 96 (v0 :: v1 :: v2 :: v3 :: .int x :: ls) st hp = ab_X rom K cX2_makeGraft 9 0 98 (v0 :: v1 :: v2 :: v3 :: .int x :: ls) (.int x :: st) hp := ax_iload dX2_makeGraft_96 rfl rfl
theorem dX2_makeGraft_98 : decode cX2_makeGraft 98 = .ok (.iload 5, 2) := by decide +kernel
theorem sX2_makeGraft_98 : ab_X rom K cX2_makeGraft 9 0 98 (v0 :: v1 :: v2 :: v3 :: v4 :: .int x :: ls) st hp = ab_X rom K cX2_makeGraft 9 0 100 (v0 :: v1 :: v2 :: v3 :: v4 :: .int x :: ls) (.int x :: st) hp := ax_iload dX2_makeGraft_98 rfl rfl
theorem dX2_makeGraft_100 : decode cX2_makeGraft 100 = .ok (.invokestatic 77, 3) := by decide +kernel
theorem sX2_makeGraft_100_0 : ab_X rom K cX2_makeGraft 9 0 100 ls [w4, w3, w2, w1] hp = (K 255 [w1, w2, w3, w4] hp).bind (fun o => ab_X rom K cX2_makeGraft 9 0 103 ls (o.1.toList ++ []) o.2) := ax_static (as := [w1, w2, w3, w4]) (st := []) dX2_makeGraft_100 kc_9_77 rfl rfl (Nat.le_of_ble_eq_true rfl)
theorem sX2_makeGraft_100_1 : ab_X rom K cX2_makeGraft 9 0 100 ls [w4, w3, w2, w1, v0] hp = (K 255 [w1, w2, w3, w4] hp).bind (fun o => ab_X rom K cX2_makeGraft 9 0 103 ls (o.1.toList ++ [v0]) o.2) := ax_static (as := [w1, w2, w3, w4]) (st := [v0]) dX2_makeGraft_100 kc_9_77 rfl rfl (Nat.le_of_ble_eq_true rfl)
theorem sX2_makeGraft_100_2 : ab_X rom K cX2_makeGraft 9 0 100 ls [w4, w3, w2, w1, v0, v1] hp = (K 255 [w1, w2, w3, w4] hp).bind (fun o => ab_X rom K cX2_makeGraft 9 0 103 ls (o.1.toList ++ [v0, v1]) o.2) := ax_static (as := [w1, w2, w3, w4]) (st := [v0, v1]) dX2_makeGraft_100 kc_9_77 rfl rfl (Nat.le_of_ble_eq_true rfl)
theorem sX2_makeGraft_100_3 : ab_X rom K cX2_makeGraft 9 0 100 ls [w4, w3, w2, w1, v0, v1, v2] hp = (K 255 [w1, w2, w3, w4] hp).bind (fun o => ab_X rom K cX2_makeGraft 9 0 103 ls (o.1.toList ++ [v0, v1, v2]) o.2) := ax_static (as := [w1, w2, w3, w4]) (st := [v0, v1, v2]) dX2_makeGraft_100 kc_9_77 rfl rfl (Nat.le_of_ble_eq_true rfl)
theorem dX2_makeGraft_103 : decode cX2_makeGraft 103 = .ok (.aload_n 2, 1) := by decide +kernel
theorem sX2_makeGraft_103 : ab_X rom K cX2_makeGraft 9 0 103 (v0 :: v1 :: .ref a :: ls) st hp = ab_X rom K cX2_makeGraft 9 0 104 (v0 :: v1 :: .ref a :: ls) (.ref a :: st) hp := ax_aload_n dX2_makeGraft_103 rfl rfl
theorem dX2_makeGraft_104 : decode cX2_makeGraft 104 = .ok (.getfield 39, 3) := by decide +kernel
theorem sX2_makeGraft_104 : ab_X rom K cX2_makeGraft 9 0 104 ls (.ref a :: st) hp = (ab_fld hp a 1 4).bind (fun v => ab_X rom K cX2_makeGraft 9 0 107 ls (v :: st) hp) := ax_getfield dX2_makeGraft_104 kf_9_39 rfl
theorem dX2_makeGraft_107 : decode cX2_makeGraft 107 = .ok (.iload 6, 2) := by decide +kernel
theorem sX2_makeGraft_107 : ab_X rom K cX2_makeGraft 9 0 107 (v0 :: v1 :: v2 :: v3 :: v4 :: v5 :: .int x :: ls) st hp = ab_X rom K cX2_makeGraft 9 0 109 (v0 :: v1 :: v2 :: v3 :: v4 :: v5 :: .int x :: ls) (.int x :: st) hp := ax_iload dX2_makeGraft_107 rfl rfl
theorem dX2_makeGraft_109 : decode cX2_makeGraft 109 = .ok (.iaload, 1) := by decide +kernel
theorem sX2_makeGraft_109 : ab_X rom K cX2_makeGraft 9 0 109 ls (.int x :: .ref a :: st) hp = (ab_ard rom 0 hp a x).bind (fun v => ab_X rom K cX2_makeGraft 9 0 110 ls (.int v :: st) hp) := ax_iaload dX2_makeGraft_109 rfl
theorem dX2_makeGraft_110 : decode cX2_makeGraft 110 = .ok (.iload_n 3, 1) := by decide +kernel
theorem sX2_makeGraft_110 : ab_X rom K cX2_makeGraft 9 0 110 (v0 :: v1 :: v2 :: .int x :: ls) st hp = ab_X rom K cX2_makeGraft 9 0 111 (v0 :: v1 :: v2 :: .int x :: ls) (.int x :: st) hp := ax_iload_n dX2_makeGraft_110 rfl rfl
theorem dX2_makeGraft_111 : decode cX2_makeGraft 111 = .ok (.iadd, 1) := by decide +kernel
theorem sX2_makeGraft_111 : ab_X rom K cX2_makeGraft 9 0 111 ls (.int y :: .int x :: st) hp = ab_X rom K cX2_makeGraft 9 0 112 ls (.int (x + y) :: st) hp := ax_iadd dX2_makeGraft_111 rfl
theorem dX2_makeGraft_112 : decode cX2_makeGraft 112 = .ok (.iastore, 1) := by decide +kernel
theorem sX2_makeGraft_112 : ab_X rom K cX2_makeGraft 9 0 112 ls (.int y :: .int x :: .ref a :: st) hp = (ab_awr 0 hp a x y).bind (fun hp' => ab_X rom K cX2_makeGraft 9 0 113 ls st hp') := ax_iastore dX2_makeGraft_112 rfl
theorem dX2_makeGraft_113 : decode cX2_makeGraft 113 = .ok (.iinc 6 1, 3) := by decide +kernel
theorem sX2_makeGraft_113i : ab_X rom K cX2_makeGraft 9 0 113 (v0 :: v1 :: v2 :: v3 :: v4 :: .int y :: .int x :: ls) st hp = ab_X rom K cX2_makeGraft 9 0 116 (v0 :: v1 :: v2 :: v3 :: v4 :: .int y :: .int (x + 1) :: ls) st hp := ax_iinc dX2_makeGraft_113 rfl (ab_nl_c1 (j := 5) (v := .int y) rfl (ab_c1_int _)) (by decide) rfl rfl
theorem sX2_makeGraft_113r : ab_X rom K cX2_makeGraft 9 0 113 (v0 :: v1 :: v2 :: v3 :: v4 :: .ref a2 :: .int x :: ls) st hp = ab_X rom K cX2_makeGraft 9 0 116 (v0 :: v1 :: v2 :: v3 :: v4 :: .ref a2 :: .int (x + 1) :: ls) st hp := ax_iinc dX2_makeGraft_113 rfl (ab_nl_c1 (j := 5) (v := .ref a2) rfl (ab_c1_ref _)) (by decide) rfl rfl
theorem sX2_makeGraft_113n : ab_X rom K cX2_makeGraft 9 0 113 (v0 :: v1 :: v2 :: v3 :: v4 :: .null :: .int x :: ls) st hp = ab_X rom K cX2_makeGraft 9 0 116 (v0 :: v1 :: v2 :: v3 :: v4 :: .null :: .int (x + 1) :: ls) st hp := ax_iinc dX2_makeGraft_113 rfl (ab_nl_c1 (j := 5) (v := .null) rfl ab_c1_null) (by decide) rfl rfl
theorem dX2_makeGraft_116 : decode cX2_makeGraft 116 = .ok (.goto (-36), 3) := by decide +kernel
theorem sX2_makeGraft_116 : ab_X rom K cX2_makeGraft 9 0 116 ls st hp = ab_X rom K cX2_makeGraft 9 0 80 ls st hp := ax_goto dX2_makeGraft_116 (by decide)
theorem dX2_makeGraft_119 : decode cX2_makeGraft 119 = .ok (.iconst 0, 1) := by decide +kernel
theorem sX2_makeGraft_119 : ab_X rom K cX2_makeGraft 9 0 119 ls st hp = ab_X rom K cX2_makeGraft 9 0 120 ls (.int 0 :: st) hp := ax_iconst dX2_makeGraft_119 (by decide) rfl
theorem dX2_makeGraft_120 : decode cX2_makeGraft 120 = .ok (.istore 6, 2) := by decide +kernel
theorem sX2_makeGraft_120i : ab_X rom K cX2_makeGraft 9 0 120 (v0 :: v1 :: v2 :: v3 :: v4 :: .int y :: v6 :: ls) (.int x :: st) hp = ab_X rom K cX2_makeGraft 9 0 122 (v0 :: v1 :: v2 :: v3 :: v4 :: .int y :: .int x :: ls) st hp := ax_istore dX2_makeGraft_120 (ax_lt (v := v6) rfl) (ab_nl_c1 (j := 5) (v := .int y) rfl (ab_c1_int _)) rfl rfl
theorem sX2_makeGraft_120r : ab_X rom K cX2_makeGraft 9 0 120 (v0 :: v1 :: v2 :: v3 :: v4 :: .ref a2 :: v6 :: ls) (.int x :: st) hp = ab_X rom K cX2_makeGraft 9 0 122 (v0 :: v1 :: v2 :: v3 :: v4 :: .ref a2 :: .int x :: ls) st hp := ax_istore dX2_makeGraft_120 (ax_lt (v := v6) rfl) (ab_nl_c1 (j := 5) (v := .ref a2) rfl (ab_c1_ref _)) rfl rfl
theorem sX2_makeGraft_120n : ab_X rom K cX2_makeGraft 9 0 120 (v0 :: v1 :: v2 :: v3 :: v4 :: .null :: v6 :: ls) (.int x :: st) hp = ab_X rom K cX2_makeGraft 9 0 122 (v0 :: v1 :: v2 :: v3 :: v4 :: .null :: .int x :: ls) st hp := ax_istore dX2_makeGraft_120 (ax_lt (v := v6) rfl) (ab_nl_c1 (j := 5) (v := .null) rfl ab_c1_null) rfl rfl
theorem dX2_makeGraft_122 : decode cX2_makeGraft 122 = .ok (.iload 6, 2) := by decide +kernel
theorem sX2_makeGraft_122 : ab_X rom K cX2_makeGraft 9 0 122 (v0 :: v1 :: v2 :: v3 :: v4 :: v5 :: .int x :: ls) st hp = ab_X rom K cX2_makeGraft 9 0 124 (v0 :: v1 :: v2 :: v3 :: v4 :: v5 :: .int x :: ls) (.int x :: st) hp := ax_iload dX2_makeGraft_122 rfl rfl
theorem dX2_makeGraft_124 : decode cX2_makeGraft 124 = .ok (.aload_n 2, 1) := by decide +kernel
theorem sX2_makeGraft_124 : ab_X rom K cX2_makeGraft 9 0 124 (v0 :: v1 :: .ref a :: ls) st hp = ab_X rom K cX2_makeGraft 9 0 125 (v0 :: v1 :: .ref a :: ls) (.ref a :: st) hp := ax_aload_n dX2_makeGraft_124 rfl rfl
theorem dX2_makeGraft_125 : decode cX2_makeGraft 125 = .ok (.getfield 47, 3) := by decide +kernel
theorem sX2_makeGraft_125 : ab_X rom K cX2_makeGraft 9 0 125 ls (.ref a :: st) hp = (ab_fld hp a 1 1).bind (fun v => ab_X rom K cX2_makeGraft 9 0 128 ls (v :: st) hp) := ax_getfield dX2_makeGraft_125 kf_9_47 rfl
theorem dX2_makeGraft_128 : decode cX2_makeGraft 128 = .ok (.if_icmp .ge 43, 3) := by decide +kernel
theorem sX2_makeGraft_128 : ab_X rom K cX2_makeGraft 9 0 128 ls (.int y :: .int x :: st) hp = if x < y then ab_X rom K cX2_makeGraft 9 0 131 ls st hp else ab_X rom K cX2_makeGraft 9 0 171 ls st hp := ax_icmp_ge dX2_makeGraft_128 (by decide) rfl
theorem dX2_makeGraft_131 : decode cX2_makeGraft 131 = .ok (.aload_n 0, 1) := by decide +kernel
theorem sX2_makeGraft_131 : ab_X rom K cX2_makeGraft 9 0 131 (.ref a :: ls) st hp = ab_X rom K cX2_makeGraft 9 0 132 (.ref a :: ls) (.ref a :: st) hp := ax_aload_n dX2_makeGraft_131 rfl rfl
theorem dX2_makeGraft_132 : decode cX2_makeGraft 132 = .ok (.aload_n 1, 1) := by decide +kernel
theorem sX2_makeGraft_132 : ab_X rom K cX2_makeGraft 9 0 132 (v0 :: .ref a :: ls) st hp = ab_X rom K cX2_makeGraft 9 0 133 (v0 :: .ref a :: ls) (.ref a :: st) hp := ax_aload_n dX2_makeGraft_132 rfl rfl
theorem dX2_makeGraft_133 : decode cX2_makeGraft 133 = .ok (.aload_n 2, 1) := by decide +kernel
theorem sX2_makeGraft_133 : ab_X rom K cX2_makeGraft 9 0 133 (v0 :: v1 :: .ref a :: ls) st hp = ab_X rom K cX2_makeGraft 9 0 134 (v0 :: v1 :: .ref a :: ls) (.ref a :: st) hp := ax_aload_n dX2_makeGraft_133 rfl rfl
theorem dX2_makeGraft_134 : decode cX2_makeGraft 134 = .ok (.getfield 81, 3) := by decide +kernel
theorem sX2_makeGraft_134 : ab_X rom K cX2_makeGraft 9 0 134 ls (.ref a :: st) hp = (ab_fld hp a 1 2).bind (fun v => ab_X rom K cX2_makeGraft 9 0 137 ls (v :: st) hp) := ax_getfield dX2_makeGraft_134 kf_9_81 rfl
theorem dX2_makeGraft_137 : decode cX2_makeGraft 137 = .ok (.iload 6, 2) := by decide +kernel
theorem sX2_makeGraft_137 : ab_X rom K cX2_makeGraft 9 0 137 (v0 :: v1 :: v2 :: v3 :: v4 :: v5 :: .int x :: ls) st hp = ab_X rom K cX2_makeGraft 9 0 139 (v0 :: v1 :: v2 :: v3 :: v4 :: v5 :: .int x :: ls) (.int x :: st) hp := ax_iload dX2_makeGraft_137 rfl rfl
theorem dX2_makeGraft_139 : decode cX2_makeGraft 139 = .ok (.iaload, 1) := by decide +kernel
theorem sX2_makeGraft_139 : ab_X rom K cX2_makeGraft 9 0 139 ls (.int x :: .ref a :: st) hp = (ab_ard rom 0 hp a x).bind (fun v => ab_X rom K cX2_makeGraft 9 0 140 ls (.int v :: st) hp) := ax_iaload dX2_makeGraft_139 rfl
theorem dX2_makeGraft_140 : decode cX2_makeGraft 140 = .ok (.iload 4, 2) := by decide +kernel
theorem sX2_makeGraft_140 : ab_X rom K cX2_makeGraft 9 0 140 (v0 :: v1 :: v2 :: v3 :: .int x :: ls) st hp = ab_X rom K cX2_makeGraft 9 0 142 (v0 :: v1 :: v2 :: v3 :: .int x :: ls) (.int x :: st) hp := ax_iload dX2_makeGraft_140 rfl rfl
theorem dX2_makeGraft_142 : decode cX2_makeGraft 142 = .ok (.iload 5, 2) := by decide +kernel
theorem sX2_makeGraft_142 : ab_X rom K cX2_makeGraft 9 0 142 (v0 :: v1 :: v2 :: v3 :: v4 :: .int x :: ls) st hp = ab_X rom K cX2_makeGraft 9 0 144 (v0 :: v1 :: v2 :: v3 :: v4 :: .int x :: ls) (.int x :: st) hp := ax_iload dX2_makeGraft_142 rfl rfl
theorem dX2_makeGraft_144 : decode cX2_makeGraft 144 = .ok (.invokestatic 77, 3) := by decide +kernel
theorem sX2_makeGraft_144_0 : ab_X rom K cX2_makeGraft 9 0 144 ls [w4, w3, w2, w1] hp = (K 255 [w1, w2, w3, w4] hp).bind (fun o => ab_X rom K cX2_makeGraft 9 0 147 ls (o.1.toList ++ []) o.2) := ax_static (as := [w1, w2, w3, w4]) (st := []) dX2_makeGraft_144 kc_9_77 rfl rfl (Nat.le_of_ble_eq_true rfl)
theorem sX2_makeGraft_144_1 : ab_X rom K cX2_makeGraft 9 0 144 ls [w4, w3, w2, w1, v0] hp = (K 255 [w1, w2, w3, w4] hp).bind (fun o => ab_X rom K cX2_makeGraft 9 0 147 ls (o.1.toList ++ [v0]) o.2) := ax_static (as := [w1, w2, w3, w4]) (st := [v0]) dX2_makeGraft_144 kc_9_77 rfl rfl (Nat.le_of_ble_eq_true rfl)
theorem sX2_makeGraft_144_2 : ab_X rom K cX2_makeGraft 9 0 144 ls [w4, w3, w2, w1, v0, v1] hp = (K 255 [w1, w2, w3, w4] hp).bind (fun o => ab_X rom K cX2_makeGraft 9 0 147 ls (o.1.toList ++ [v0, v1]) o.2) := ax_static (as := [w1, w2, w3, w4]) (st := [v0, v1]) dX2_makeGraft_144 kc_9_77 rfl rfl (Nat.le_of_ble_eq_true rfl)
theorem sX2_makeGraft_144_3 : ab_X rom K cX2_makeGraft 9 0 144 ls [w4, w3, w2, w1, v0, v1, v2] hp = (K 255 [w1, w2, w3, w4] hp).bind (fun o => ab_X rom K cX2_makeGraft 9 0 147 ls (o.1.toList ++ [v0, v1, v2]) o.2) := ax_static (as := [w1, w2, w3, w4]) (st := [v0, v1, v2]) dX2_makeGraft_144 kc_9_77 rfl rfl (Nat.le_of_ble_eq_true rfl)
theorem dX2_makeGraft_147 : decode cX2_makeGraft 147 = .ok (.aload_n 1, 1) := by decide +kernel
theorem sX2_makeGraft_147 : ab_X rom K cX2_makeGraft 9 0 147 (v0 :: .ref a :: ls) st hp = ab_X rom K cX2_makeGraft 9 0 148 (v0 :: .ref a :: ls) (.ref a :: st) hp := ax_aload_n dX2_makeGraft_147 rfl rfl
theorem dX2_makeGraft_148 : decode cX2_makeGraft 148 = .ok (.aload_n 2, 1) := by decide +kernel
theorem sX2_makeGraft_148 : ab_X rom K cX2_makeGraft 9 0 148 (v0 :: v1 :: .ref a :: ls) st hp = ab_X rom K cX2_makeGraft 9 0 149 (v0 :: v1 :: .ref a :: ls) (.ref a :: st) hp := ax_aload_n dX2_makeGraft_148 rfl rfl
theorem dX2_makeGraft_149 : decode cX2_makeGraft 149 = .ok (.getfield 84, 3) := by decide +kernel
theorem sX2_makeGraft_149 : ab_X rom K cX2_makeGraft 9 0 149 ls (.ref a :: st) hp = (ab_fld hp a 1 3).bind (fun v => ab_X rom K cX2_makeGraft 9 0 152 ls (v :: st) hp) := ax_getfield dX2_makeGraft_149 kf_9_84 rfl
theorem dX2_makeGraft_152 : decode cX2_makeGraft 152 = .ok (.iload 6, 2) := by decide +kernel
theorem sX2_makeGraft_152 : ab_X rom K cX2_makeGraft 9 0 152 (v0 :: v1 :: v2 :: v3 :: v4 :: v5 :: .int x :: ls) st hp = ab_X rom K cX2_makeGraft 9 0 154 (v0 :: v1 :: v2 :: v3 :: v4 :: v5 :: .int x :: ls) (.int x :: st) hp := ax_iload dX2_makeGraft_152 rfl rfl
theorem dX2_makeGraft_154 : decode cX2_makeGraft 154 = .ok (.iaload, 1) := by decide +kernel
theorem sX2_makeGraft_154 : ab_X rom K cX2_makeGraft 9 0 154 ls (.int x :: .ref a :: st) hp = (ab_ard rom 0 hp a x).bind (fun v => ab_X rom K cX2_makeGraft 9 0 155 ls (.int v :: st) hp) := ax_iaload dX2_makeGraft_154 rfl
theorem dX2_makeGraft_155 : decode cX2_makeGraft 155 = .ok (.iload 4, 2) := by decide +kernel
theorem sX2_makeGraft_155 : ab_X rom K cX2_makeGraft 9 0 155 (v0 :: v1 :: v2 :: v3 :: .int x :: ls) st hp = ab_X rom K cX2_makeGraft 9 0 157 (v0 :: v1 :: v2 :: v3 :: .int x :: ls) (.int x :: st) hp := ax_iload dX2_makeGraft_155 rfl rfl
theorem dX2_makeGraft_157 : decode cX2_makeGraft 157 = .ok (.iload 5, 2) := by decide +kernel
theorem sX2_makeGraft_157 : ab_X rom K cX2_makeGraft 9 0 157 (v0 :: v1 :: v2 :: v3 :: v4 :: .int x :: ls) st hp = ab_X rom K cX2_makeGraft 9 0 159 (v0 :: v1 :: v2 :: v3 :: v4 :: .int x :: ls) (.int x :: st) hp := ax_iload dX2_makeGraft_157 rfl rfl
theorem dX2_makeGraft_159 : decode cX2_makeGraft 159 = .ok (.invokestatic 77, 3) := by decide +kernel
theorem sX2_makeGraft_159_0 : ab_X rom K cX2_makeGraft 9 0 159 ls [w4, w3, w2, w1] hp = (K 255 [w1, w2, w3, w4] hp).bind (fun o => ab_X rom K cX2_makeGraft 9 0 162 ls (o.1.toList ++ []) o.2) := ax_static (as := [w1, w2, w3, w4]) (st := []) dX2_makeGraft_159 kc_9_77 rfl rfl (Nat.le_of_ble_eq_true rfl)
theorem sX2_makeGraft_159_1 : ab_X rom K cX2_makeGraft 9 0 159 ls [w4, w3, w2, w1, v0] hp = (K 255 [w1, w2, w3, w4] hp).bind (fun o => ab_X rom K cX2_makeGraft 9 0 162 ls (o.1.toList ++ [v0]) o.2) := ax_static (as := [w1, w2, w3, w4]) (st := [v0]) dX2_makeGraft_159 kc_9_77 rfl rfl (Nat.le_of_ble_eq_true rfl)
theorem sX2_makeGraft_159_2 : ab_X rom K cX2_makeGraft 9 0 159 ls [w4, w3, w2, w1, v0, v1] hp = (K 255 [w1, w2, w3, w4] hp).bind (fun o => ab_X rom K cX2_makeGraft 9 0 162 ls (o.1.toList ++ [v0, v1]) o.2) := ax_static (as := [w1, w2, w3, w4]) (st := [v0, v1]) dX2_makeGraft_159 kc_9_77 rfl rfl (Nat.le_of_ble_eq_true rfl)
theorem sX2_makeGraft_159_3 : ab_X rom K cX2_makeGraft 9 0 159 ls [w4, w3, w2, w1, v0, v1, v2] hp = (K 255 [w1, w2, w3, w4] hp).bind (fun o => ab_X rom K cX2_makeGraft 9 0 162 ls (o.1.toList ++ [v0, v1, v2]) o.2) := ax_static (as := [w1, w2, w3, w4]) (st := [v0, v1, v2]) dX2_makeGraft_159 kc_9_77 rfl rfl (Nat.le_of_ble_eq_true rfl)
theorem dX2_makeGraft_162 : decode cX2_makeGraft 162 = .ok (.invokevirtual 31, 3) := by decide +kernel
theorem sX2_makeGraft_162_0 : ab_X rom K cX2_makeGraft 9 0 162 ls [w2, w1, .ref a] hp = if ab_iso hp a 1 = true then (K 22 (.ref a :: [w1, w2]) hp).bind (fun o => ab_X rom K cX2_makeGraft 9 0 165 ls (o.1.toList ++ []) o.2) else none := ay_virtual (as := [w1, w2]) (st := []) dX2_makeGraft_162 kc_9_31 rfl rfl (Nat.le_of_ble_eq_true rfl)
theorem sX2_makeGraft_162_1 : ab_X rom K cX2_makeGraft 9 0 162 ls [w2, w1, .ref a, v0] hp = if ab_iso hp a 1 = true then (K 22 (.ref a :: [w1, w2]) hp).bind (fun o => ab_X rom K cX2_makeGraft 9 0 165 ls (o.1.toList ++ [v0]) o.2) else none := ay_virtual (as := [w1, w2]) (st := [v0]) dX2_makeGraft_162 kc_9_31 rfl rfl (Nat.le_of_ble_eq_true rfl)
theorem sX2_makeGraft_162_2 : ab_X rom K cX2_makeGraft 9 0 162 ls [w2, w1, .ref a, v0, v1] hp = if ab_iso hp a 1 = true then (K 22 (.ref a :: [w1, w2]) hp).bind (fun o => ab_X rom K cX2_makeGraft 9 0 165 ls (o.1.toList ++ [v0, v1]) o.2) else none := ay_virtual (as := [w1, w2]) (st := [v0, v1]) dX2_makeGraft_162 kc_9_31 rfl rfl (Nat.le_of_ble_eq_true rfl)
theorem sX2_makeGraft_162_3 : ab_X rom K cX2_makeGraft 9 0 162 ls [w2, w1, .ref a, v0, v1, v2] hp = if ab_iso hp a 1 = true then (K 22 (.ref a :: [w1, w2]) hp).bind (fun o => ab_X rom K cX2_makeGraft 9 0 165 ls (o.1.toList ++ [v0, v1, v2]) o.2) else none := ay_virtual (as := [w1, w2]) (st := [v0, v1, v2]) dX2_makeGraft_162 kc_9_31 rfl rfl (Nat.le_of_ble_eq_true rfl)
theorem dX2_makeGraft_165 : decode cX2_makeGraft 165 = .ok (.iinc 6 1, 3) := by decide +kernel
theorem sX2_makeGraft_165i : ab_X rom K cX2_makeGraft 9 0 165 (v0 :: v1 :: v2 :: v3 :: v4 :: .int y :: .int x :: ls) st hp = ab_X rom K cX2_makeGraft 9 0 168 (v0 :: v1 :: v2 :: v3 :: v4 :: .int y :: .int (x + 1) :: ls) st hp := ax_iinc dX2_makeGraft_165 rfl (ab_nl_c1 (j := 5) (v := .int y) rfl (ab_c1_int _)) (by decide) rfl rfl
theorem sX2_makeGraft_165r : ab_X rom K cX2_makeGraft 9 0 165 (v0 :: v1 :: v2 :: v3 :: v4 :: .ref a2 :: .int x :: ls) st hp = ab_X rom K cX2_makeGraft 9 0 168 (v0 :: v1 :: v2 :: v3 :: v4 :: .ref a2 :: .int (x + 1) :: ls) st hp := ax_iinc dX2_makeGraft_165 rfl (ab_nl_c1 (j := 5) (v := .ref a2) rfl (ab_c1_ref _)) (by decide) rfl rfl
theorem sX2_makeGraft_165n : ab_X rom K cX2_makeGraft 9 0 165 (v0 :: v1 :: v2 :: v3 :: v4 :: .null :: .int x :: ls) st hp = ab_X rom K cX2_makeGraft 9 0 168 (v0 :: v1 :: v2 :: v3 :: v4 :: .null :: .int (x + 1) :: ls) st hp := ax_iinc dX2_makeGraft_165 rfl (ab_nl_c1 (j := 5) (v := .null) rfl ab_c1_null) (by decide) rfl rfl
theorem dX2_makeGraft_168 : decode cX2_makeGraft 168 = .ok (.goto (-46), 3) := by decide +kernel
theorem sX2_makeGraft_168 : ab_X rom K cX2_makeGraft 9 0 168 ls st hp = ab_X rom K cX2_makeGraft 9 0 122 ls st hp := ax_goto dX2_makeGraft_168 (by decide)
theorem dX2_makeGraft_171 : decode cX2_makeGraft 171 = .ok (.return_, 1) := by decide +kernel
theorem sX2_makeGraft_171 : ab_X rom K cX2_makeGraft 9 0 171 ls [] hp = some (none, hp) := ax_vret dX2_makeGraft_171 (by decide)
theorem tX2_makePath : ab_mT[260]? = some (yX2_makePath, cX2_makePath, 3, 2, 9) := by decide +kernel
theorem mX2_makePath {d : Nat} {r0 : Nat} {x1 : Int32} : ab_M rom (d + 1) 260 [.ref r0, .int x1] hp = ab_X rom (ab_M rom d) cX2_makePath 9 2 0 [.ref r0, .int x1, .null] [] hp := ab_M_eq tX2_makePath (Nat.le_of_ble_eq_true rfl)
theorem dX2_makePath_0 : decode cX2_makePath 0 = .ok (.aload_n 0, 1) := by decide +kernel
theorem sX2_makePath_0 : ab_X rom K cX2_makePath 9 2 0 (.ref a :: ls) st hp = ab_X rom K cX2_makePath 9 2 1 (.ref a :: ls) (.ref a :: st) hp := ax_aload_n dX2_makePath_0 rfl rfl
theorem dX2_makePath_1 : decode cX2_makePath 1 = .ok (.iload_n 1, 1) := by decide +kernel
theorem sX2_makePath_1 : ab_X rom K cX2_makePath 9 2 1 (v0 :: .int x :: ls) st hp = ab_X rom K cX2_makePath 9 2 2 (v0 :: .int x :: ls) (.int x :: st) hp := ax_iload_n dX2_makePath_1 rfl rfl
theorem dX2_makePath_2 : decode cX2_makePath 2 = .ok (.invokestatic 43, 3) := by decide +kernel
theorem sX2_makePath_2_0 : ab_X rom K cX2_makePath 9 2 2 ls [w2, w1] hp = (K 256 [w1, w2] hp).bind (fun o => ab_X rom K cX2_makePath 9 2 5 ls (o.1.toList ++ []) o.2) := ax_static (as := [w1, w2]) (st := []) dX2_makePath_2 kc_9_43 rfl rfl (Nat.le_of_ble_eq_true rfl)
theorem sX2_makePath_2_1 : ab_X rom K cX2_makePath 9 2 2 ls [w2, w1, v0] hp = (K 256 [w1, w2] hp).bind (fun o => ab_X rom K cX2_makePath 9 2 5 ls (o.1.toList ++ [v0]) o.2) := ax_static (as := [w1, w2]) (st := [v0]) dX2_makePath_2 kc_9_43 rfl rfl (Nat.le_of_ble_eq_true rfl)
theorem sX2_makePath_2_2 : ab_X rom K cX2_makePath 9 2 2 ls [w2, w1, v0, v1] hp = (K 256 [w1, w2] hp).bind (fun o => ab_X rom K cX2_makePath 9 2 5 ls (o.1.toList ++ [v0, v1]) o.2) := ax_static (as := [w1, w2]) (st := [v0, v1]) dX2_makePath_2 kc_9_43 rfl rfl (Nat.le_of_ble_eq_true rfl)
theorem sX2_makePath_2_3 : ab_X rom K cX2_makePath 9 2 2 ls [w2, w1, v0, v1, v2] hp = (K 256 [w1, w2] hp).bind (fun o => ab_X rom K cX2_makePath 9 2 5 ls (o.1.toList ++ [v0, v1, v2]) o.2) := ax_static (as := [w1, w2]) (st := [v0, v1, v2]) dX2_makePath_2 kc_9_43 rfl rfl (Nat.le_of_ble_eq_true rfl)
theorem dX2_makePath_5 : decode cX2_makePath 5 = .ok (.iconst 0, 1) := by decide +kernel
theorem sX2_makePath_5 : ab_X rom K cX2_makePath 9 2 5 ls st hp = ab_X rom K cX2_makePath 9 2 6 ls (.int 0 :: st) hp := ax_iconst dX2_makePath_5 (by decide) rfl
theorem dX2_makePath_6 : decode cX2_makePath 6 = .ok (.istore_n 2, 1) := by decide +kernel
theorem sX2_makePath_6i : ab_X rom K cX2_makePath 9 2 6 (v0 :: .int y :: v2 :: ls) (.int x :: st) hp = ab_X rom K cX2_makePath 9 2 7 (v0 :: .int y :: .int x :: ls) st hp := ax_istore_n dX2_makePath_6 (ax_lt (v := v2) rfl) (ab_nl_c1 (j := 1) (v := .int y) rfl (ab_c1_int _)) rfl rfl
theorem sX2_makePath_6r : ab_X rom K cX2_makePath 9 2 6 (v0 :: .ref a2 :: v2 :: ls) (.int x :: st) hp = ab_X rom K cX2_makePath 9 2 7 (v0 :: .ref a2 :: .int x :: ls) st hp := ax_istore_n dX2_makePath_6 (ax_lt (v := v2) rfl) (ab_nl_c1 (j := 1) (v := .ref a2) rfl (ab_c1_ref _)) rfl rfl
theorem sX2_makePath_6n : ab_X rom K cX2_makePath 9 2 6 (v0 :: .null :: v2 :: ls) (.int x :: st) hp = ab_X rom K cX2_makePath 9 2 7 (v0 :: .null :: .int x :: ls) st hp := ax_istore_n dX2_makePath_6 (ax_lt (v := v2) rfl) (ab_nl_c1 (j := 1) (v := .null) rfl ab_c1_null) rfl rfl
theorem dX2_makePath_7 : decode cX2_makePath 7 = .ok (.iload_n 2, 1) := by decide +kernel
theorem sX2_makePath_7 : ab_X rom K cX2_makePath 9 2 7 (v0 :: v1 :: .int x :: ls) st hp = ab_X rom K cX2_makePath 9 2 8 (v0 :: v1 :: .int x :: ls) (.int x :: st) hp := ax_iload_n dX2_makePath_7 rfl rfl
theorem dX2_makePath_8 : decode cX2_makePath 8 = .ok (.iload_n 1, 1) := by decide +kernel
theorem sX2_makePath_8 : ab_X rom K cX2_makePath 9 2 8 (v0 :: .int x :: ls) st hp = ab_X rom K cX2_makePath 9 2 9 (v0 :: .int x :: ls) (.int x :: st) hp := ax_iload_n dX2_makePath_8 rfl rfl
theorem dX2_makePath_9 : decode cX2_makePath 9 = .ok (.if_icmp .ge 35, 3) := by decide +kernel
theorem sX2_makePath_9 : ab_X rom K cX2_makePath 9 2 9 ls (.int y :: .int x :: st) hp = if x < y then ab_X rom K cX2_makePath 9 2 12 ls st hp else ab_X rom K cX2_makePath 9 2 44 ls st hp := ax_icmp_ge dX2_makePath_9 (by decide) rfl
theorem dX2_makePath_12 : decode cX2_makePath 12 = .ok (.aload_n 0, 1) := by decide +kernel
theorem sX2_makePath_12 : ab_X rom K cX2_makePath 9 2 12 (.ref a :: ls) st hp = ab_X rom K cX2_makePath 9 2 13 (.ref a :: ls) (.ref a :: st) hp := ax_aload_n dX2_makePath_12 rfl rfl
theorem dX2_makePath_13 : decode cX2_makePath 13 = .ok (.getfield 39, 3) := by decide +kernel
theorem sX2_makePath_13 : ab_X rom K cX2_makePath 9 2 13 ls (.ref a :: st) hp = (ab_fld hp a 1 4).bind (fun v => ab_X rom K cX2_makePath 9 2 16 ls (v :: st) hp) := ax_getfield dX2_makePath_13 kf_9_39 rfl
theorem dX2_makePath_16 : decode cX2_makePath 16 = .ok (.iload_n 2, 1) := by decide +kernel
theorem sX2_makePath_16 : ab_X rom K cX2_makePath 9 2 16 (v0 :: v1 :: .int x :: ls) st hp = ab_X rom K cX2_makePath 9 2 17 (v0 :: v1 :: .int x :: ls) (.int x :: st) hp := ax_iload_n dX2_makePath_16 rfl rfl
theorem dX2_makePath_17 : decode cX2_makePath 17 = .ok (.iload_n 2, 1) := by decide +kernel
theorem sX2_makePath_17 : ab_X rom K cX2_makePath 9 2 17 (v0 :: v1 :: .int x :: ls) st hp = ab_X rom K cX2_makePath 9 2 18 (v0 :: v1 :: .int x :: ls) (.int x :: st) hp := ax_iload_n dX2_makePath_17 rfl rfl
theorem dX2_makePath_18 : decode cX2_makePath 18 = .ok (.iconst 2, 1) := by decide +kernel
theorem sX2_makePath_18 : ab_X rom K cX2_makePath 9 2 18 ls st hp = ab_X rom K cX2_makePath 9 2 19 ls (.int 2 :: st) hp := ax_iconst dX2_makePath_18 (by decide) rfl
theorem dX2_makePath_19 : decode cX2_makePath 19 = .ok (.irem, 1) := by decide +kernel
theorem sX2_makePath_19 : ab_X rom K cX2_makePath 9 2 19 ls (.int y :: .int x :: st) hp = if y = 0 then none else ab_X rom K cX2_makePath 9 2 20 ls (.int (ab_rem x y) :: st) hp := ay_irem dX2_makePath_19 rfl
theorem dX2_makePath_20 : decode cX2_makePath 20 = .ok (.ifCond .ne 9, 3) := by decide +kernel
theorem sX2_makePath_20 : ab_X rom K cX2_makePath 9 2 20 ls (.int x :: st) hp = if x = 0 then ab_X rom K cX2_makePath 9 2 23 ls st hp else ab_X rom K cX2_makePath 9 2 29 ls st hp := ax_if_ne dX2_makePath_20 (by decide) rfl
theorem dX2_makePath_23 : decode cX2_makePath 23 = .ok (.iload_n 2, 1) := by decide +kernel
theorem sX2_makePath_23 : ab_X rom K cX2_makePath 9 2 23 (v0 :: v1 :: .int x :: ls) st hp = ab_X rom K cX2_makePath 9 2 24 (v0 :: v1 :: .int x :: ls) (.int x :: st) hp := ax_iload_n dX2_makePath_23 rfl rfl
theorem dX2_makePath_24 : decode cX2_makePath 24 = .ok (.iconst 2, 1) := by decide +kernel
theorem sX2_makePath_24 : ab_X rom K cX2_makePath 9 2 24 ls st hp = ab_X rom K cX2_makePath 9 2 25 ls (.int 2 :: st) hp := ax_iconst dX2_makePath_24 (by decide) rfl
theorem dX2_makePath_25 : decode cX2_makePath 25 = .ok (.idiv, 1) := by decide +kernel
theorem sX2_makePath_25 : ab_X rom K cX2_makePath 9 2 25 ls (.int y :: .int x :: st) hp = if y = 0 then none else ab_X rom K cX2_makePath 9 2 26 ls (.int (x / y) :: st) hp := ay_idiv dX2_makePath_25 rfl
theorem dX2_makePath_26 : decode cX2_makePath 26 = .ok (.goto 11, 3) := by decide +kernel
theorem sX2_makePath_26 : ab_X rom K cX2_makePath 9 2 26 ls st hp = ab_X rom K cX2_makePath 9 2 37 ls st hp := ax_goto dX2_makePath_26 (by decide)
theorem dX2_makePath_29 : decode cX2_makePath 29 = .ok (.aload_n 0, 1) := by decide +kernel
theorem sX2_makePath_29 : ab_X rom K cX2_makePath 9 2 29 (.ref a :: ls) st hp = ab_X rom K cX2_makePath 9 2 30 (.ref a :: ls) (.ref a :: st) hp := ax_aload_n dX2_makePath_29 rfl rfl
theorem dX2_makePath_30 : decode cX2_makePath 30 = .ok (.getfield 47, 3) := by decide +kernel
theorem sX2_makePath_30 : ab_X rom K cX2_makePath 9 2 30 ls (.ref a :: st) hp = (ab_fld hp a 1 1).bind (fun v => ab_X rom K cX2_makePath 9 2 33 ls (v :: st) hp) := ax_getfield dX2_makePath_30 kf_9_47 rfl
theorem dX2_makePath_33 : decode cX2_makePath 33 = .ok (.iload_n 2, 1) := by decide +kernel
theorem sX2_makePath_33 : ab_X rom K cX2_makePath 9 2 33 (v0 :: v1 :: .int x :: ls) st hp = ab_X rom K cX2_makePath 9 2 34 (v0 :: v1 :: .int x :: ls) (.int x :: st) hp := ax_iload_n dX2_makePath_33 rfl rfl
theorem dX2_makePath_34 : decode cX2_makePath 34 = .ok (.iconst 2, 1) := by decide +kernel
theorem sX2_makePath_34 : ab_X rom K cX2_makePath 9 2 34 ls st hp = ab_X rom K cX2_makePath 9 2 35 ls (.int 2 :: st) hp := ax_iconst dX2_makePath_34 (by decide) rfl
theorem dX2_makePath_35 : decode cX2_makePath 35 = .ok (.idiv, 1) := by decide +kernel
theorem sX2_makePath_35 : ab_X rom K cX2_makePath 9 2 35 ls (.int y :: .int x :: st) hp = if y = 0 then none else ab_X rom K cX2_makePath 9 2 36 ls (.int (x / y) :: st) hp := ay_idiv dX2_makePath_35 rfl
theorem dX2_makePath_36 : decode cX2_makePath 36 = .ok (.isub, 1) := by decide +kernel
theorem sX2_makePath_36 : ab_X rom K cX2_makePath 9 2 36 ls (.int y :: .int x :: st) hp = ab_X rom K cX2_makePath 9 2 37 ls (.int (x - y) :: st) hp := ax_isub dX2_makePath_36 rfl
theorem dX2_makePath_37 : decode cX2_makePath 37 = .ok (.iastore, 1) := by decide +kernel
theorem sX2_makePath_37 : ab_X rom K cX2_makePath 9 2 37 ls (.int y :: .int x :: .ref a :: st) hp = (ab_awr 0 hp a x y).bind (fun hp' => ab_X rom K cX2_makePath 9 2 38 ls st hp') := ax_iastore dX2_makePath_37 rfl
theorem dX2_makePath_38 : decode cX2_makePath 38 = .ok (.iinc 2 1, 3) := by decide +kernel
theorem sX2_makePath_38i : ab_X rom K cX2_makePath 9 2 38 (v0 :: .int y :: .int x :: ls) st hp = ab_X rom K cX2_makePath 9 2 41 (v0 :: .int y :: .int (x + 1) :: ls) st hp := ax_iinc dX2_makePath_38 rfl (ab_nl_c1 (j := 1) (v := .int y) rfl (ab_c1_int _)) (by decide) rfl rfl
theorem sX2_makePath_38r : ab_X rom K cX2_makePath 9 2 38 (v0 :: .ref a2 :: .int x :: ls) st hp = ab_X rom K cX2_makePath 9 2 41 (v0 :: .ref a2 :: .int (x + 1) :: ls) st hp := ax_iinc dX2_makePath_38 rfl (ab_nl_c1 (j := 1) (v := .ref a2) rfl (ab_c1_ref _)) (by decide) rfl rfl
theorem sX2_makePath_38n : ab_X rom K cX2_makePath 9 2 38 (v0 :: .null :: .int x :: ls) st hp = ab_X rom K cX2_makePath 9 2 41 (v0 :: .null :: .int (x + 1) :: ls) st hp := ax_iinc dX2_makePath_38 rfl (ab_nl_c1 (j := 1) (v := .null) rfl ab_c1_null) (by decide) rfl rfl
theorem dX2_makePath_41 : decode cX2_makePath 41 = .ok (.goto (-34), 3) := by decide +kernel
theorem sX2_makePath_41 : ab_X rom K cX2_makePath 9 2 41 ls st hp = ab_X rom K cX2_makePath 9 2 7 ls st hp := ax_goto dX2_makePath_41 (by decide)
theorem dX2_makePath_44 : decode cX2_makePath 44 = .ok (.iconst 1, 1) := by decide +kernel
theorem sX2_makePath_44 : ab_X rom K cX2_makePath 9 2 44 ls st hp = ab_X rom K cX2_makePath 9 2 45 ls (.int 1 :: st) hp := ax_iconst dX2_makePath_44 (by decide) rfl
theorem dX2_makePath_45 : decode cX2_makePath 45 = .ok (.ireturn, 1) := by decide +kernel
theorem sX2_makePath_45 : ab_X rom K cX2_makePath 9 2 45 ls [.int x] hp = if x = 0 ∨ x = 1 then some (some (.int x), hp) else none := ay_zret dX2_makePath_45 rfl
theorem tX2_makeRing : ab_mT[261]? = some (yX2_makeRing, cX2_makeRing, 2, 2, 9) := by decide +kernel
theorem mX2_makeRing {d : Nat} {r0 : Nat} {x1 : Int32} : ab_M rom (d + 1) 261 [.ref r0, .int x1] hp = ab_X rom (ab_M rom d) cX2_makeRing 9 2 0 [.ref r0, .int x1] [] hp := ab_M_eq tX2_makeRing (Nat.le_of_ble_eq_true rfl)
theorem dX2_makeRing_0 : decode cX2_makeRing 0 = .ok (.aload_n 0, 1) := by decide +kernel
theorem sX2_makeRing_0 : ab_X rom K cX2_makeRing 9 2 0 (.ref a :: ls) st hp = ab_X rom K cX2_makeRing 9 2 1 (.ref a :: ls) (.ref a :: st) hp := ax_aload_n dX2_makeRing_0 rfl rfl
theorem dX2_makeRing_1 : decode cX2_makeRing 1 = .ok (.iload_n 1, 1) := by decide +kernel
theorem sX2_makeRing_1 : ab_X rom K cX2_makeRing 9 2 1 (v0 :: .int x :: ls) st hp = ab_X rom K cX2_makeRing 9 2 2 (v0 :: .int x :: ls) (.int x :: st) hp := ax_iload_n dX2_makeRing_1 rfl rfl
theorem dX2_makeRing_2 : decode cX2_makeRing 2 = .ok (.invokestatic 43, 3) := by decide +kernel
theorem sX2_makeRing_2_0 : ab_X rom K cX2_makeRing 9 2 2 ls [w2, w1] hp = (K 256 [w1, w2] hp).bind (fun o => ab_X rom K cX2_makeRing 9 2 5 ls (o.1.toList ++ []) o.2) := ax_static (as := [w1, w2]) (st := []) dX2_makeRing_2 kc_9_43 rfl rfl (Nat.le_of_ble_eq_true rfl)
theorem sX2_makeRing_2_1 : ab_X rom K cX2_makeRing 9 2 2 ls [w2, w1, v0] hp = (K 256 [w1, w2] hp).bind (fun o => ab_X rom K cX2_makeRing 9 2 5 ls (o.1.toList ++ [v0]) o.2) := ax_static (as := [w1, w2]) (st := [v0]) dX2_makeRing_2 kc_9_43 rfl rfl (Nat.le_of_ble_eq_true rfl)
theorem sX2_makeRing_2_2 : ab_X rom K cX2_makeRing 9 2 2 ls [w2, w1, v0, v1] hp = (K 256 [w1, w2] hp).bind (fun o => ab_X rom K cX2_makeRing 9 2 5 ls (o.1.toList ++ [v0, v1]) o.2) := ax_static (as := [w1, w2]) (st := [v0, v1]) dX2_makeRing_2 kc_9_43 rfl rfl (Nat.le_of_ble_eq_true rfl)
theorem sX2_makeRing_2_3 : ab_X rom K cX2_makeRing 9 2 2 ls [w2, w1, v0, v1, v2] hp = (K 256 [w1, w2] hp).bind (fun o => ab_X rom K cX2_makeRing 9 2 5 ls (o.1.toList ++ [v0, v1, v2]) o.2) := ax_static (as := [w1, w2]) (st := [v0, v1, v2]) dX2_makeRing_2 kc_9_43 rfl rfl (Nat.le_of_ble_eq_true rfl)
theorem dX2_makeRing_5 : decode cX2_makeRing 5 = .ok (.aload_n 0, 1) := by decide +kernel
theorem sX2_makeRing_5 : ab_X rom K cX2_makeRing 9 2 5 (.ref a :: ls) st hp = ab_X rom K cX2_makeRing 9 2 6 (.ref a :: ls) (.ref a :: st) hp := ax_aload_n dX2_makeRing_5 rfl rfl
theorem dX2_makeRing_6 : decode cX2_makeRing 6 = .ok (.iconst 0, 1) := by decide +kernel
theorem sX2_makeRing_6 : ab_X rom K cX2_makeRing 9 2 6 ls st hp = ab_X rom K cX2_makeRing 9 2 7 ls (.int 0 :: st) hp := ax_iconst dX2_makeRing_6 (by decide) rfl
theorem dX2_makeRing_7 : decode cX2_makeRing 7 = .ok (.iload_n 1, 1) := by decide +kernel
theorem sX2_makeRing_7 : ab_X rom K cX2_makeRing 9 2 7 (v0 :: .int x :: ls) st hp = ab_X rom K cX2_makeRing 9 2 8 (v0 :: .int x :: ls) (.int x :: st) hp := ax_iload_n dX2_makeRing_7 rfl rfl
theorem dX2_makeRing_8 : decode cX2_makeRing 8 = .ok (.iconst 1, 1) := by decide +kernel
theorem sX2_makeRing_8 : ab_X rom K cX2_makeRing 9 2 8 ls st hp = ab_X rom K cX2_makeRing 9 2 9 ls (.int 1 :: st) hp := ax_iconst dX2_makeRing_8 (by decide) rfl
theorem dX2_makeRing_9 : decode cX2_makeRing 9 = .ok (.isub, 1) := by decide +kernel
theorem sX2_makeRing_9 : ab_X rom K cX2_makeRing 9 2 9 ls (.int y :: .int x :: st) hp = ab_X rom K cX2_makeRing 9 2 10 ls (.int (x - y) :: st) hp := ax_isub dX2_makeRing_9 rfl
theorem dX2_makeRing_10 : decode cX2_makeRing 10 = .ok (.invokevirtual 31, 3) := by decide +kernel
theorem sX2_makeRing_10_0 : ab_X rom K cX2_makeRing 9 2 10 ls [w2, w1, .ref a] hp = if ab_iso hp a 1 = true then (K 22 (.ref a :: [w1, w2]) hp).bind (fun o => ab_X rom K cX2_makeRing 9 2 13 ls (o.1.toList ++ []) o.2) else none := ay_virtual (as := [w1, w2]) (st := []) dX2_makeRing_10 kc_9_31 rfl rfl (Nat.le_of_ble_eq_true rfl)
theorem sX2_makeRing_10_1 : ab_X rom K cX2_makeRing 9 2 10 ls [w2, w1, .ref a, v0] hp = if ab_iso hp a 1 = true then (K 22 (.ref a :: [w1, w2]) hp).bind (fun o => ab_X rom K cX2_makeRing 9 2 13 ls (o.1.toList ++ [v0]) o.2) else none := ay_virtual (as := [w1, w2]) (st := [v0]) dX2_makeRing_10 kc_9_31 rfl rfl (Nat.le_of_ble_eq_true rfl)
theorem sX2_makeRing_10_2 : ab_X rom K cX2_makeRing 9 2 10 ls [w2, w1, .ref a, v0, v1] hp = if ab_iso hp a 1 = true then (K 22 (.ref a :: [w1, w2]) hp).bind (fun o => ab_X rom K cX2_makeRing 9 2 13 ls (o.1.toList ++ [v0, v1]) o.2) else none := ay_virtual (as := [w1, w2]) (st := [v0, v1]) dX2_makeRing_10 kc_9_31 rfl rfl (Nat.le_of_ble_eq_true rfl)
theorem sX2_makeRing_10_3 : ab_X rom K cX2_makeRing 9 2 10 ls [w2, w1, .ref a, v0, v1, v2] hp = if ab_iso hp a 1 = true then (K 22 (.ref a :: [w1, w2]) hp).bind (fun o => ab_X rom K cX2_makeRing 9 2 13 ls (o.1.toList ++ [v0, v1, v2]) o.2) else none := ay_virtual (as := [w1, w2]) (st := [v0, v1, v2]) dX2_makeRing_10 kc_9_31 rfl rfl (Nat.le_of_ble_eq_true rfl)
theorem dX2_makeRing_13 : decode cX2_makeRing 13 = .ok (.aload_n 0, 1) := by decide +kernel
theorem sX2_makeRing_13 : ab_X rom K cX2_makeRing 9 2 13 (.ref a :: ls) st hp = ab_X rom K cX2_makeRing 9 2 14 (.ref a :: ls) (.ref a :: st) hp := ax_aload_n dX2_makeRing_13 rfl rfl
theorem dX2_makeRing_14 : decode cX2_makeRing 14 = .ok (.iload_n 1, 1) := by decide +kernel
theorem sX2_makeRing_14 : ab_X rom K cX2_makeRing 9 2 14 (v0 :: .int x :: ls) st hp = ab_X rom K cX2_makeRing 9 2 15 (v0 :: .int x :: ls) (.int x :: st) hp := ax_iload_n dX2_makeRing_14 rfl rfl
theorem dX2_makeRing_15 : decode cX2_makeRing 15 = .ok (.iconst 3, 1) := by decide +kernel
theorem sX2_makeRing_15 : ab_X rom K cX2_makeRing 9 2 15 ls st hp = ab_X rom K cX2_makeRing 9 2 16 ls (.int 3 :: st) hp := ax_iconst dX2_makeRing_15 (by decide) rfl
theorem dX2_makeRing_16 : decode cX2_makeRing 16 = .ok (.if_icmp .ne 9, 3) := by decide +kernel
theorem sX2_makeRing_16 : ab_X rom K cX2_makeRing 9 2 16 ls (.int y :: .int x :: st) hp = if x = y then ab_X rom K cX2_makeRing 9 2 19 ls st hp else ab_X rom K cX2_makeRing 9 2 25 ls st hp := ax_icmp_ne dX2_makeRing_16 (by decide) rfl
theorem dX2_makeRing_19 : decode cX2_makeRing 19 = .ok (.getstatic 50, 3) := by decide +kernel
theorem sX2_makeRing_19 : ab_X rom K cX2_makeRing 9 2 19 ls st hp = ab_X rom K cX2_makeRing 9 2 22 ls (.ref (ab_RO + 1) :: st) hp := ax_getstatic dX2_makeRing_19 ks_9_50 rfl
theorem dX2_makeRing_22 : decode cX2_makeRing 22 = .ok (.goto 29, 3) := by decide +kernel
theorem sX2_makeRing_22 : ab_X rom K cX2_makeRing 9 2 22 ls st hp = ab_X rom K cX2_makeRing 9 2 51 ls st hp := ax_goto dX2_makeRing_22 (by decide)
theorem dX2_makeRing_25 : decode cX2_makeRing 25 = .ok (.iload_n 1, 1) := by decide +kernel
theorem sX2_makeRing_25 : ab_X rom K cX2_makeRing 9 2 25 (v0 :: .int x :: ls) st hp = ab_X rom K cX2_makeRing 9 2 26 (v0 :: .int x :: ls) (.int x :: st) hp := ax_iload_n dX2_makeRing_25 rfl rfl
theorem dX2_makeRing_26 : decode cX2_makeRing 26 = .ok (.iconst 4, 1) := by decide +kernel
theorem sX2_makeRing_26 : ab_X rom K cX2_makeRing 9 2 26 ls st hp = ab_X rom K cX2_makeRing 9 2 27 ls (.int 4 :: st) hp := ax_iconst dX2_makeRing_26 (by decide) rfl
theorem dX2_makeRing_27 : decode cX2_makeRing 27 = .ok (.if_icmp .ne 9, 3) := by decide +kernel
theorem sX2_makeRing_27 : ab_X rom K cX2_makeRing 9 2 27 ls (.int y :: .int x :: st) hp = if x = y then ab_X rom K cX2_makeRing 9 2 30 ls st hp else ab_X rom K cX2_makeRing 9 2 36 ls st hp := ax_icmp_ne dX2_makeRing_27 (by decide) rfl
theorem dX2_makeRing_30 : decode cX2_makeRing 30 = .ok (.getstatic 53, 3) := by decide +kernel
theorem sX2_makeRing_30 : ab_X rom K cX2_makeRing 9 2 30 ls st hp = ab_X rom K cX2_makeRing 9 2 33 ls (.ref (ab_RO + 2) :: st) hp := ax_getstatic dX2_makeRing_30 ks_9_53 rfl
theorem dX2_makeRing_33 : decode cX2_makeRing 33 = .ok (.goto 18, 3) := by decide +kernel
theorem sX2_makeRing_33 : ab_X rom K cX2_makeRing 9 2 33 ls st hp = ab_X rom K cX2_makeRing 9 2 51 ls st hp := ax_goto dX2_makeRing_33 (by decide)
theorem dX2_makeRing_36 : decode cX2_makeRing 36 = .ok (.iload_n 1, 1) := by decide +kernel
theorem sX2_makeRing_36 : ab_X rom K cX2_makeRing 9 2 36 (v0 :: .int x :: ls) st hp = ab_X rom K cX2_makeRing 9 2 37 (v0 :: .int x :: ls) (.int x :: st) hp := ax_iload_n dX2_makeRing_36 rfl rfl
theorem dX2_makeRing_37 : decode cX2_makeRing 37 = .ok (.bipush 7, 2) := by decide +kernel
theorem sX2_makeRing_37 : ab_X rom K cX2_makeRing 9 2 37 ls st hp = ab_X rom K cX2_makeRing 9 2 39 ls (.int 7 :: st) hp := ax_bipush dX2_makeRing_37 (by decide) rfl
theorem dX2_makeRing_39 : decode cX2_makeRing 39 = .ok (.if_icmp .ne 9, 3) := by decide +kernel
theorem sX2_makeRing_39 : ab_X rom K cX2_makeRing 9 2 39 ls (.int y :: .int x :: st) hp = if x = y then ab_X rom K cX2_makeRing 9 2 42 ls st hp else ab_X rom K cX2_makeRing 9 2 48 ls st hp := ax_icmp_ne dX2_makeRing_39 (by decide) rfl
theorem dX2_makeRing_42 : decode cX2_makeRing 42 = .ok (.getstatic 56, 3) := by decide +kernel
theorem sX2_makeRing_42 : ab_X rom K cX2_makeRing 9 2 42 ls st hp = ab_X rom K cX2_makeRing 9 2 45 ls (.ref (ab_RO + 3) :: st) hp := ax_getstatic dX2_makeRing_42 ks_9_56 rfl
theorem dX2_makeRing_45 : decode cX2_makeRing 45 = .ok (.goto 6, 3) := by decide +kernel
theorem sX2_makeRing_45 : ab_X rom K cX2_makeRing 9 2 45 ls st hp = ab_X rom K cX2_makeRing 9 2 51 ls st hp := ax_goto dX2_makeRing_45 (by decide)
theorem dX2_makeRing_48 : decode cX2_makeRing 48 = .ok (.getstatic 59, 3) := by decide +kernel
theorem sX2_makeRing_48 : ab_X rom K cX2_makeRing 9 2 48 ls st hp = ab_X rom K cX2_makeRing 9 2 51 ls (.ref (ab_RO + 5) :: st) hp := ax_getstatic dX2_makeRing_48 ks_9_59 rfl
theorem dX2_makeRing_51 : decode cX2_makeRing 51 = .ok (.invokestatic 62, 3) := by decide +kernel
theorem sX2_makeRing_51_0 : ab_X rom K cX2_makeRing 9 2 51 ls [w2, w1] hp = (K 263 [w1, w2] hp).bind (fun o => ab_X rom K cX2_makeRing 9 2 54 ls (o.1.toList ++ []) o.2) := ax_static (as := [w1, w2]) (st := []) dX2_makeRing_51 kc_9_62 rfl rfl (Nat.le_of_ble_eq_true rfl)
theorem sX2_makeRing_51_1 : ab_X rom K cX2_makeRing 9 2 51 ls [w2, w1, v0] hp = (K 263 [w1, w2] hp).bind (fun o => ab_X rom K cX2_makeRing 9 2 54 ls (o.1.toList ++ [v0]) o.2) := ax_static (as := [w1, w2]) (st := [v0]) dX2_makeRing_51 kc_9_62 rfl rfl (Nat.le_of_ble_eq_true rfl)
theorem sX2_makeRing_51_2 : ab_X rom K cX2_makeRing 9 2 51 ls [w2, w1, v0, v1] hp = (K 263 [w1, w2] hp).bind (fun o => ab_X rom K cX2_makeRing 9 2 54 ls (o.1.toList ++ [v0, v1]) o.2) := ax_static (as := [w1, w2]) (st := [v0, v1]) dX2_makeRing_51 kc_9_62 rfl rfl (Nat.le_of_ble_eq_true rfl)
theorem sX2_makeRing_51_3 : ab_X rom K cX2_makeRing 9 2 51 ls [w2, w1, v0, v1, v2] hp = (K 263 [w1, w2] hp).bind (fun o => ab_X rom K cX2_makeRing 9 2 54 ls (o.1.toList ++ [v0, v1, v2]) o.2) := ax_static (as := [w1, w2]) (st := [v0, v1, v2]) dX2_makeRing_51 kc_9_62 rfl rfl (Nat.le_of_ble_eq_true rfl)
theorem dX2_makeRing_54 : decode cX2_makeRing 54 = .ok (.iconst 1, 1) := by decide +kernel
theorem sX2_makeRing_54 : ab_X rom K cX2_makeRing 9 2 54 ls st hp = ab_X rom K cX2_makeRing 9 2 55 ls (.int 1 :: st) hp := ax_iconst dX2_makeRing_54 (by decide) rfl
theorem dX2_makeRing_55 : decode cX2_makeRing 55 = .ok (.ireturn, 1) := by decide +kernel
theorem sX2_makeRing_55 : ab_X rom K cX2_makeRing 9 2 55 ls [.int x] hp = if x = 0 ∨ x = 1 then some (some (.int x), hp) else none := ay_zret dX2_makeRing_55 rfl
theorem tX2_makeTwoSides : ab_mT[262]? = some (yX2_makeTwoSides, cX2_makeTwoSides, 5, 2, 9) := by decide +kernel
theorem mX2_makeTwoSides {d : Nat} {r0 : Nat} {x1 : Int32} {x2 : Int32} : ab_M rom (d + 1) 262 [.ref r0, .int x1, .int x2] hp = ab_X rom (ab_M rom d) cX2_makeTwoSides 9 2 0 [.ref r0, .int x1, .int x2, .null, .null] [] hp := ab_M_eq tX2_makeTwoSides (Nat.le_of_ble_eq_true rfl)
theorem dX2_makeTwoSides_0 : decode cX2_makeTwoSides 0 = .ok (.aload_n 0, 1) := by decide +kernel
theorem sX2_makeTwoSides_0 : ab_X rom K cX2_makeTwoSides 9 2 0 (.ref a :: ls) st hp = ab_X rom K cX2_makeTwoSides 9 2 1 (.ref a :: ls) (.ref a :: st) hp := ax_aload_n dX2_makeTwoSides_0 rfl rfl
theorem dX2_makeTwoSides_1 : decode cX2_makeTwoSides 1 = .ok (.iload_n 1, 1) := by decide +kernel
theorem sX2_makeTwoSides_1 : ab_X rom K cX2_makeTwoSides 9 2 1 (v0 :: .int x :: ls) st hp = ab_X rom K cX2_makeTwoSides 9 2 2 (v0 :: .int x :: ls) (.int x :: st) hp := ax_iload_n dX2_makeTwoSides_1 rfl rfl
theorem dX2_makeTwoSides_2 : decode cX2_makeTwoSides 2 = .ok (.iload_n 2, 1) := by decide +kernel
theorem sX2_makeTwoSides_2 : ab_X rom K cX2_makeTwoSides 9 2 2 (v0 :: v1 :: .int x :: ls) st hp = ab_X rom K cX2_makeTwoSides 9 2 3 (v0 :: v1 :: .int x :: ls) (.int x :: st) hp := ax_iload_n dX2_makeTwoSides_2 rfl rfl
theorem dX2_makeTwoSides_3 : decode cX2_makeTwoSides 3 = .ok (.iadd, 1) := by decide +kernel
theorem sX2_makeTwoSides_3 : ab_X rom K cX2_makeTwoSides 9 2 3 ls (.int y :: .int x :: st) hp = ab_X rom K cX2_makeTwoSides 9 2 4 ls (.int (x + y) :: st) hp := ax_iadd dX2_makeTwoSides_3 rfl
theorem dX2_makeTwoSides_4 : decode cX2_makeTwoSides 4 = .ok (.invokevirtual 25, 3) := by decide +kernel
theorem sX2_makeTwoSides_4_0 : ab_X rom K cX2_makeTwoSides 9 2 4 ls [w1, .ref a] hp = if ab_iso hp a 1 = true then (K 15 (.ref a :: [w1]) hp).bind (fun o => ab_X rom K cX2_makeTwoSides 9 2 7 ls (o.1.toList ++ []) o.2) else none := ay_virtual (as := [w1]) (st := []) dX2_makeTwoSides_4 kc_9_25 rfl rfl (Nat.le_of_ble_eq_true rfl)
theorem sX2_makeTwoSides_4_1 : ab_X rom K cX2_makeTwoSides 9 2 4 ls [w1, .ref a, v0] hp = if ab_iso hp a 1 = true then (K 15 (.ref a :: [w1]) hp).bind (fun o => ab_X rom K cX2_makeTwoSides 9 2 7 ls (o.1.toList ++ [v0]) o.2) else none := ay_virtual (as := [w1]) (st := [v0]) dX2_makeTwoSides_4 kc_9_25 rfl rfl (Nat.le_of_ble_eq_true rfl)
theorem sX2_makeTwoSides_4_2 : ab_X rom K cX2_makeTwoSides 9 2 4 ls [w1, .ref a, v0, v1] hp = if ab_iso hp a 1 = true then (K 15 (.ref a :: [w1]) hp).bind (fun o => ab_X rom K cX2_makeTwoSides 9 2 7 ls (o.1.toList ++ [v0, v1]) o.2) else none := ay_virtual (as := [w1]) (st := [v0, v1]) dX2_makeTwoSides_4 kc_9_25 rfl rfl (Nat.le_of_ble_eq_true rfl)
theorem sX2_makeTwoSides_4_3 : ab_X rom K cX2_makeTwoSides 9 2 4 ls [w1, .ref a, v0, v1, v2] hp = if ab_iso hp a 1 = true then (K 15 (.ref a :: [w1]) hp).bind (fun o => ab_X rom K cX2_makeTwoSides 9 2 7 ls (o.1.toList ++ [v0, v1, v2]) o.2) else none := ay_virtual (as := [w1]) (st := [v0, v1, v2]) dX2_makeTwoSides_4 kc_9_25 rfl rfl (Nat.le_of_ble_eq_true rfl)
theorem dX2_makeTwoSides_7 : decode cX2_makeTwoSides 7 = .ok (.iconst 0, 1) := by decide +kernel
theorem sX2_makeTwoSides_7 : ab_X rom K cX2_makeTwoSides 9 2 7 ls st hp = ab_X rom K cX2_makeTwoSides 9 2 8 ls (.int 0 :: st) hp := ax_iconst dX2_makeTwoSides_7 (by decide) rfl
theorem dX2_makeTwoSides_8 : decode cX2_makeTwoSides 8 = .ok (.istore_n 3, 1) := by decide +kernel
theorem sX2_makeTwoSides_8i : ab_X rom K cX2_makeTwoSides 9 2 8 (v0 :: v1 :: .int y :: v3 :: ls) (.int x :: st) hp = ab_X rom K cX2_makeTwoSides 9 2 9 (v0 :: v1 :: .int y :: .int x :: ls) st hp := ax_istore_n dX2_makeTwoSides_8 (ax_lt (v := v3) rfl) (ab_nl_c1 (j := 2) (v := .int y) rfl (ab_c1_int _)) rfl rfl
theorem sX2_makeTwoSides_8r : ab_X rom K cX2_makeTwoSides 9 2 8 (v0 :: v1 :: .ref a2 :: v3 :: ls) (.int x :: st) hp = ab_X rom K cX2_makeTwoSides 9 2 9 (v0 :: v1 :: .ref a2 :: .int x :: ls) st hp := ax_istore_n dX2_makeTwoSides_8 (ax_lt (v := v3) rfl) (ab_nl_c1 (j := 2) (v := .ref a2) rfl (ab_c1_ref _)) rfl rfl
theorem sX2_makeTwoSides_8n : ab_X rom K cX2_makeTwoSides 9 2 8 (v0 :: v1 :: .null :: v3 :: ls) (.int x :: st) hp = ab_X rom K cX2_makeTwoSides 9 2 9 (v0 :: v1 :: .null :: .int x :: ls) st hp := ax_istore_n dX2_makeTwoSides_8 (ax_lt (v := v3) rfl) (ab_nl_c1 (j := 2) (v := .null) rfl ab_c1_null) rfl rfl
theorem dX2_makeTwoSides_9 : decode cX2_makeTwoSides 9 = .ok (.iload_n 3, 1) := by decide +kernel
theorem sX2_makeTwoSides_9 : ab_X rom K cX2_makeTwoSides 9 2 9 (v0 :: v1 :: v2 :: .int x :: ls) st hp = ab_X rom K cX2_makeTwoSides 9 2 10 (v0 :: v1 :: v2 :: .int x :: ls) (.int x :: st) hp := ax_iload_n dX2_makeTwoSides_9 rfl rfl
theorem dX2_makeTwoSides_10 : decode cX2_makeTwoSides 10 = .ok (.iload_n 1, 1) := by decide +kernel
theorem sX2_makeTwoSides_10 : ab_X rom K cX2_makeTwoSides 9 2 10 (v0 :: .int x :: ls) st hp = ab_X rom K cX2_makeTwoSides 9 2 11 (v0 :: .int x :: ls) (.int x :: st) hp := ax_iload_n dX2_makeTwoSides_10 rfl rfl
theorem dX2_makeTwoSides_11 : decode cX2_makeTwoSides 11 = .ok (.if_icmp .ge 40, 3) := by decide +kernel
theorem sX2_makeTwoSides_11 : ab_X rom K cX2_makeTwoSides 9 2 11 ls (.int y :: .int x :: st) hp = if x < y then ab_X rom K cX2_makeTwoSides 9 2 14 ls st hp else ab_X rom K cX2_makeTwoSides 9 2 51 ls st hp := ax_icmp_ge dX2_makeTwoSides_11 (by decide) rfl
theorem dX2_makeTwoSides_14 : decode cX2_makeTwoSides 14 = .ok (.aload_n 0, 1) := by decide +kernel
theorem sX2_makeTwoSides_14 : ab_X rom K cX2_makeTwoSides 9 2 14 (.ref a :: ls) st hp = ab_X rom K cX2_makeTwoSides 9 2 15 (.ref a :: ls) (.ref a :: st) hp := ax_aload_n dX2_makeTwoSides_14 rfl rfl
theorem dX2_makeTwoSides_15 : decode cX2_makeTwoSides 15 = .ok (.getfield 39, 3) := by decide +kernel
theorem sX2_makeTwoSides_15 : ab_X rom K cX2_makeTwoSides 9 2 15 ls (.ref a :: st) hp = (ab_fld hp a 1 4).bind (fun v => ab_X rom K cX2_makeTwoSides 9 2 18 ls (v :: st) hp) := ax_getfield dX2_makeTwoSides_15 kf_9_39 rfl
theorem dX2_makeTwoSides_18 : decode cX2_makeTwoSides 18 = .ok (.iload_n 3, 1) := by decide +kernel
theorem sX2_makeTwoSides_18 : ab_X rom K cX2_makeTwoSides 9 2 18 (v0 :: v1 :: v2 :: .int x :: ls) st hp = ab_X rom K cX2_makeTwoSides 9 2 19 (v0 :: v1 :: v2 :: .int x :: ls) (.int x :: st) hp := ax_iload_n dX2_makeTwoSides_18 rfl rfl
theorem dX2_makeTwoSides_19 : decode cX2_makeTwoSides 19 = .ok (.iload_n 3, 1) := by decide +kernel
theorem sX2_makeTwoSides_19 : ab_X rom K cX2_makeTwoSides 9 2 19 (v0 :: v1 :: v2 :: .int x :: ls) st hp = ab_X rom K cX2_makeTwoSides 9 2 20 (v0 :: v1 :: v2 :: .int x :: ls) (.int x :: st) hp := ax_iload_n dX2_makeTwoSides_19 rfl rfl
theorem dX2_makeTwoSides_20 : decode cX2_makeTwoSides 20 = .ok (.iastore, 1) := by decide +kernel
theorem sX2_makeTwoSides_20 : ab_X rom K cX2_makeTwoSides 9 2 20 ls (.int y :: .int x :: .ref a :: st) hp = (ab_awr 0 hp a x y).bind (fun hp' => ab_X rom K cX2_makeTwoSides 9 2 21 ls st hp') := ax_iastore dX2_makeTwoSides_20 rfl
theorem dX2_makeTwoSides_21 : decode cX2_makeTwoSides 21 = .ok (.iconst 0, 1) := by decide +kernel
theorem sX2_makeTwoSides_21 : ab_X rom K cX2_makeTwoSides 9 2 21 ls st hp = ab_X rom K cX2_makeTwoSides 9 2 22 ls (.int 0 :: st) hp := ax_iconst dX2_makeTwoSides_21 (by decide) rfl
theorem dX2_makeTwoSides_22 : decode cX2_makeTwoSides 22 = .ok (.istore 4, 2) := by decide +kernel
theorem sX2_makeTwoSides_22i : ab_X rom K cX2_makeTwoSides 9 2 22 (v0 :: v1 :: v2 :: .int y :: v4 :: ls) (.int x :: st) hp = ab_X rom K cX2_makeTwoSides 9 2 24 (v0 :: v1 :: v2 :: .int y :: .int x :: ls) st hp := ax_istore dX2_makeTwoSides_22 (ax_lt (v := v4) rfl) (ab_nl_c1 (j := 3) (v := .int y) rfl (ab_c1_int _)) rfl rfl
theorem sX2_makeTwoSides_22r : ab_X rom K cX2_makeTwoSides 9 2 22 (v0 :: v1 :: v2 :: .ref a2 :: v4 :: ls) (.int x :: st) hp = ab_X rom K cX2_makeTwoSides 9 2 24 (v0 :: v1 :: v2 :: .ref a2 :: .int x :: ls) st hp := ax_istore dX2_makeTwoSides_22 (ax_lt (v := v4) rfl) (ab_nl_c1 (j := 3) (v := .ref a2) rfl (ab_c1_ref _)) rfl rfl
theorem sX2_makeTwoSides_22n : ab_X rom K cX2_makeTwoSides 9 2 22 (v0 :: v1 :: v2 :: .null :: v4 :: ls) (.int x :: st) hp = ab_X rom K cX2_makeTwoSides 9 2 24 (v0 :: v1 :: v2 :: .null :: .int x :: ls) st hp := ax_istore dX2_makeTwoSides_22 (ax_lt (v := v4) rfl) (ab_nl_c1 (j := 3) (v := .null) rfl ab_c1_null) rfl rfl
theorem dX2_makeTwoSides_24 : decode cX2_makeTwoSides 24 = .ok (.iload 4, 2) := by decide +kernel
theorem sX2_makeTwoSides_24 : ab_X rom K cX2_makeTwoSides 9 2 24 (v0 :: v1 :: v2 :: v3 :: .int x :: ls) st hp = ab_X rom K cX2_makeTwoSides 9 2 26 (v0 :: v1 :: v2 :: v3 :: .int x :: ls) (.int x :: st) hp := ax_iload dX2_makeTwoSides_24 rfl rfl
theorem dX2_makeTwoSides_26 : decode cX2_makeTwoSides 26 = .ok (.iload_n 2, 1) := by decide +kernel
theorem sX2_makeTwoSides_26 : ab_X rom K cX2_makeTwoSides 9 2 26 (v0 :: v1 :: .int x :: ls) st hp = ab_X rom K cX2_makeTwoSides 9 2 27 (v0 :: v1 :: .int x :: ls) (.int x :: st) hp := ax_iload_n dX2_makeTwoSides_26 rfl rfl
theorem dX2_makeTwoSides_27 : decode cX2_makeTwoSides 27 = .ok (.if_icmp .ge 18, 3) := by decide +kernel
theorem sX2_makeTwoSides_27 : ab_X rom K cX2_makeTwoSides 9 2 27 ls (.int y :: .int x :: st) hp = if x < y then ab_X rom K cX2_makeTwoSides 9 2 30 ls st hp else ab_X rom K cX2_makeTwoSides 9 2 45 ls st hp := ax_icmp_ge dX2_makeTwoSides_27 (by decide) rfl
theorem dX2_makeTwoSides_30 : decode cX2_makeTwoSides 30 = .ok (.aload_n 0, 1) := by decide +kernel
theorem sX2_makeTwoSides_30 : ab_X rom K cX2_makeTwoSides 9 2 30 (.ref a :: ls) st hp = ab_X rom K cX2_makeTwoSides 9 2 31 (.ref a :: ls) (.ref a :: st) hp := ax_aload_n dX2_makeTwoSides_30 rfl rfl
theorem dX2_makeTwoSides_31 : decode cX2_makeTwoSides 31 = .ok (.iload_n 3, 1) := by decide +kernel
theorem sX2_makeTwoSides_31 : ab_X rom K cX2_makeTwoSides 9 2 31 (v0 :: v1 :: v2 :: .int x :: ls) st hp = ab_X rom K cX2_makeTwoSides 9 2 32 (v0 :: v1 :: v2 :: .int x :: ls) (.int x :: st) hp := ax_iload_n dX2_makeTwoSides_31 rfl rfl
theorem dX2_makeTwoSides_32 : decode cX2_makeTwoSides 32 = .ok (.iload_n 1, 1) := by decide +kernel
theorem sX2_makeTwoSides_32 : ab_X rom K cX2_makeTwoSides 9 2 32 (v0 :: .int x :: ls) st hp = ab_X rom K cX2_makeTwoSides 9 2 33 (v0 :: .int x :: ls) (.int x :: st) hp := ax_iload_n dX2_makeTwoSides_32 rfl rfl
theorem dX2_makeTwoSides_33 : decode cX2_makeTwoSides 33 = .ok (.iload 4, 2) := by decide +kernel
theorem sX2_makeTwoSides_33 : ab_X rom K cX2_makeTwoSides 9 2 33 (v0 :: v1 :: v2 :: v3 :: .int x :: ls) st hp = ab_X rom K cX2_makeTwoSides 9 2 35 (v0 :: v1 :: v2 :: v3 :: .int x :: ls) (.int x :: st) hp := ax_iload dX2_makeTwoSides_33 rfl rfl
theorem dX2_makeTwoSides_35 : decode cX2_makeTwoSides 35 = .ok (.iadd, 1) := by decide +kernel
theorem sX2_makeTwoSides_35 : ab_X rom K cX2_makeTwoSides 9 2 35 ls (.int y :: .int x :: st) hp = ab_X rom K cX2_makeTwoSides 9 2 36 ls (.int (x + y) :: st) hp := ax_iadd dX2_makeTwoSides_35 rfl
theorem dX2_makeTwoSides_36 : decode cX2_makeTwoSides 36 = .ok (.invokevirtual 31, 3) := by decide +kernel
theorem sX2_makeTwoSides_36_0 : ab_X rom K cX2_makeTwoSides 9 2 36 ls [w2, w1, .ref a] hp = if ab_iso hp a 1 = true then (K 22 (.ref a :: [w1, w2]) hp).bind (fun o => ab_X rom K cX2_makeTwoSides 9 2 39 ls (o.1.toList ++ []) o.2) else none := ay_virtual (as := [w1, w2]) (st := []) dX2_makeTwoSides_36 kc_9_31 rfl rfl (Nat.le_of_ble_eq_true rfl)
theorem sX2_makeTwoSides_36_1 : ab_X rom K cX2_makeTwoSides 9 2 36 ls [w2, w1, .ref a, v0] hp = if ab_iso hp a 1 = true then (K 22 (.ref a :: [w1, w2]) hp).bind (fun o => ab_X rom K cX2_makeTwoSides 9 2 39 ls (o.1.toList ++ [v0]) o.2) else none := ay_virtual (as := [w1, w2]) (st := [v0]) dX2_makeTwoSides_36 kc_9_31 rfl rfl (Nat.le_of_ble_eq_true rfl)
theorem sX2_makeTwoSides_36_2 : ab_X rom K cX2_makeTwoSides 9 2 36 ls [w2, w1, .ref a, v0, v1] hp = if ab_iso hp a 1 = true then (K 22 (.ref a :: [w1, w2]) hp).bind (fun o => ab_X rom K cX2_makeTwoSides 9 2 39 ls (o.1.toList ++ [v0, v1]) o.2) else none := ay_virtual (as := [w1, w2]) (st := [v0, v1]) dX2_makeTwoSides_36 kc_9_31 rfl rfl (Nat.le_of_ble_eq_true rfl)
theorem sX2_makeTwoSides_36_3 : ab_X rom K cX2_makeTwoSides 9 2 36 ls [w2, w1, .ref a, v0, v1, v2] hp = if ab_iso hp a 1 = true then (K 22 (.ref a :: [w1, w2]) hp).bind (fun o => ab_X rom K cX2_makeTwoSides 9 2 39 ls (o.1.toList ++ [v0, v1, v2]) o.2) else none := ay_virtual (as := [w1, w2]) (st := [v0, v1, v2]) dX2_makeTwoSides_36 kc_9_31 rfl rfl (Nat.le_of_ble_eq_true rfl)
theorem dX2_makeTwoSides_39 : decode cX2_makeTwoSides 39 = .ok (.iinc 4 1, 3) := by decide +kernel
theorem sX2_makeTwoSides_39i : ab_X rom K cX2_makeTwoSides 9 2 39 (v0 :: v1 :: v2 :: .int y :: .int x :: ls) st hp = ab_X rom K cX2_makeTwoSides 9 2 42 (v0 :: v1 :: v2 :: .int y :: .int (x + 1) :: ls) st hp := ax_iinc dX2_makeTwoSides_39 rfl (ab_nl_c1 (j := 3) (v := .int y) rfl (ab_c1_int _)) (by decide) rfl rfl
theorem sX2_makeTwoSides_39r : ab_X rom K cX2_makeTwoSides 9 2 39 (v0 :: v1 :: v2 :: .ref a2 :: .int x :: ls) st hp = ab_X rom K cX2_makeTwoSides 9 2 42 (v0 :: v1 :: v2 :: .ref a2 :: .int (x + 1) :: ls) st hp := ax_iinc dX2_makeTwoSides_39 rfl (ab_nl_c1 (j := 3) (v := .ref a2) rfl (ab_c1_ref _)) (by decide) rfl rfl
theorem sX2_makeTwoSides_39n : ab_X rom K cX2_makeTwoSides 9 2 39 (v0 :: v1 :: v2 :: .null :: .int x :: ls) st hp = ab_X rom K cX2_makeTwoSides 9 2 42 (v0 :: v1 :: v2 :: .null :: .int (x + 1) :: ls) st hp := ax_iinc dX2_makeTwoSides_39 rfl (ab_nl_c1 (j := 3) (v := .null) rfl ab_c1_null) (by decide) rfl rfl
theorem dX2_makeTwoSides_42 : decode cX2_makeTwoSides 42 = .ok (.goto (-18), 3) := by decide +kernel
theorem sX2_makeTwoSides_42 : ab_X rom K cX2_makeTwoSides 9 2 42 ls st hp = ab_X rom K cX2_makeTwoSides 9 2 24 ls st hp := ax_goto dX2_makeTwoSides_42 (by decide)
theorem dX2_makeTwoSides_45 : decode cX2_makeTwoSides 45 = .ok (.iinc 3 1, 3) := by decide +kernel
theorem sX2_makeTwoSides_45i : ab_X rom K cX2_makeTwoSides 9 2 45 (v0 :: v1 :: .int y :: .int x :: ls) st hp = ab_X rom K cX2_makeTwoSides 9 2 48 (v0 :: v1 :: .int y :: .int (x + 1) :: ls) st hp := ax_iinc dX2_makeTwoSides_45 rfl (ab_nl_c1 (j := 2) (v := .int y) rfl (ab_c1_int _)) (by decide) rfl rfl
theorem sX2_makeTwoSides_45r : ab_X rom K cX2_makeTwoSides 9 2 45 (v0 :: v1 :: .ref a2 :: .int x :: ls) st hp = ab_X rom K cX2_makeTwoSides 9 2 48 (v0 :: v1 :: .ref a2 :: .int (x + 1) :: ls) st hp := ax_iinc dX2_makeTwoSides_45 rfl (ab_nl_c1 (j := 2) (v := .ref a2) rfl (ab_c1_ref _)) (by decide) rfl rfl
theorem sX2_makeTwoSides_45n : ab_X rom K cX2_makeTwoSides 9 2 45 (v0 :: v1 :: .null :: .int x :: ls) st hp = ab_X rom K cX2_makeTwoSides 9 2 48 (v0 :: v1 :: .null :: .int (x + 1) :: ls) st hp := ax_iinc dX2_makeTwoSides_45 rfl (ab_nl_c1 (j := 2) (v := .null) rfl ab_c1_null) (by decide) rfl rfl
theorem dX2_makeTwoSides_48 : decode cX2_makeTwoSides 48 = .ok (.goto (-39), 3) := by decide +kernel
theorem sX2_makeTwoSides_48 : ab_X rom K cX2_makeTwoSides 9 2 48 ls st hp = ab_X rom K cX2_makeTwoSides 9 2 9 ls st hp := ax_goto dX2_makeTwoSides_48 (by decide)
theorem dX2_makeTwoSides_51 : decode cX2_makeTwoSides 51 = .ok (.iconst 0, 1) := by decide +kernel
theorem sX2_makeTwoSides_51 : ab_X rom K cX2_makeTwoSides 9 2 51 ls st hp = ab_X rom K cX2_makeTwoSides 9 2 52 ls (.int 0 :: st) hp := ax_iconst dX2_makeTwoSides_51 (by decide) rfl
theorem dX2_makeTwoSides_52 : decode cX2_makeTwoSides 52 = .ok (.istore_n 3, 1) := by decide +kernel
theorem sX2_makeTwoSides_52i : ab_X rom K cX2_makeTwoSides 9 2 52 (v0 :: v1 :: .int y :: v3 :: ls) (.int x :: st) hp = ab_X rom K cX2_makeTwoSides 9 2 53 (v0 :: v1 :: .int y :: .int x :: ls) st hp := ax_istore_n dX2_makeTwoSides_52 (ax_lt (v := v3) rfl) (ab_nl_c1 (j := 2) (v := .int y) rfl (ab_c1_int _)) rfl rfl
theorem sX2_makeTwoSides_52r : ab_X rom K cX2_makeTwoSides 9 2 52 (v0 :: v1 :: .ref a2 :: v3 :: ls) (.int x :: st) hp = ab_X rom K cX2_makeTwoSides 9 2 53 (v0 :: v1 :: .ref a2 :: .int x :: ls) st hp := ax_istore_n dX2_makeTwoSides_52 (ax_lt (v := v3) rfl) (ab_nl_c1 (j := 2) (v := .ref a2) rfl (ab_c1_ref _)) rfl rfl
theorem sX2_makeTwoSides_52n : ab_X rom K cX2_makeTwoSides 9 2 52 (v0 :: v1 :: .null :: v3 :: ls) (.int x :: st) hp = ab_X rom K cX2_makeTwoSides 9 2 53 (v0 :: v1 :: .null :: .int x :: ls) st hp := ax_istore_n dX2_makeTwoSides_52 (ax_lt (v := v3) rfl) (ab_nl_c1 (j := 2) (v := .null) rfl ab_c1_null) rfl rfl
theorem dX2_makeTwoSides_53 : decode cX2_makeTwoSides 53 = .ok (.iload_n 3, 1) := by decide +kernel
theorem sX2_makeTwoSides_53 : ab_X rom K cX2_makeTwoSides 9 2 53 (v0 :: v1 :: v2 :: .int x :: ls) st hp = ab_X rom K cX2_makeTwoSides 9 2 54 (v0 :: v1 :: v2 :: .int x :: ls) (.int x :: st) hp := ax_iload_n dX2_makeTwoSides_53 rfl rfl
theorem dX2_makeTwoSides_54 : decode cX2_makeTwoSides 54 = .ok (.iload_n 2, 1) := by decide +kernel
theorem sX2_makeTwoSides_54 : ab_X rom K cX2_makeTwoSides 9 2 54 (v0 :: v1 :: .int x :: ls) st hp = ab_X rom K cX2_makeTwoSides 9 2 55 (v0 :: v1 :: .int x :: ls) (.int x :: st) hp := ax_iload_n dX2_makeTwoSides_54 rfl rfl
theorem dX2_makeTwoSides_55 : decode cX2_makeTwoSides 55 = .ok (.if_icmp .ge 22, 3) := by decide +kernel
theorem sX2_makeTwoSides_55 : ab_X rom K cX2_makeTwoSides 9 2 55 ls (.int y :: .int x :: st) hp = if x < y then ab_X rom K cX2_makeTwoSides 9 2 58 ls st hp else ab_X rom K cX2_makeTwoSides 9 2 77 ls st hp := ax_icmp_ge dX2_makeTwoSides_55 (by decide) rfl
theorem dX2_makeTwoSides_58 : decode cX2_makeTwoSides 58 = .ok (.aload_n 0, 1) := by decide +kernel
theorem sX2_makeTwoSides_58 : ab_X rom K cX2_makeTwoSides 9 2 58 (.ref a :: ls) st hp = ab_X rom K cX2_makeTwoSides 9 2 59 (.ref a :: ls) (.ref a :: st) hp := ax_aload_n dX2_makeTwoSides_58 rfl rfl
theorem dX2_makeTwoSides_59 : decode cX2_makeTwoSides 59 = .ok (.getfield 39, 3) := by decide +kernel
theorem sX2_makeTwoSides_59 : ab_X rom K cX2_makeTwoSides 9 2 59 ls (.ref a :: st) hp = (ab_fld hp a 1 4).bind (fun v => ab_X rom K cX2_makeTwoSides 9 2 62 ls (v :: st) hp) := ax_getfield dX2_makeTwoSides_59 kf_9_39 rfl
theorem dX2_makeTwoSides_62 : decode cX2_makeTwoSides 62 = .ok (.iload_n 1, 1) := by decide +kernel
theorem sX2_makeTwoSides_62 : ab_X rom K cX2_makeTwoSides 9 2 62 (v0 :: .int x :: ls) st hp = ab_X rom K cX2_makeTwoSides 9 2 63 (v0 :: .int x :: ls) (.int x :: st) hp := ax_iload_n dX2_makeTwoSides_62 rfl rfl
theorem dX2_makeTwoSides_63 : decode cX2_makeTwoSides 63 = .ok (.iload_n 3, 1) := by decide +kernel
theorem sX2_makeTwoSides_63 : ab_X rom K cX2_makeTwoSides 9 2 63 (v0 :: v1 :: v2 :: .int x :: ls) st hp = ab_X rom K cX2_makeTwoSides 9 2 64 (v0 :: v1 :: v2 :: .int x :: ls) (.int x :: st) hp := ax_iload_n dX2_makeTwoSides_63 rfl rfl
theorem dX2_makeTwoSides_64 : decode cX2_makeTwoSides 64 = .ok (.iadd, 1) := by decide +kernel
theorem sX2_makeTwoSides_64 : ab_X rom K cX2_makeTwoSides 9 2 64 ls (.int y :: .int x :: st) hp = ab_X rom K cX2_makeTwoSides 9 2 65 ls (.int (x + y) :: st) hp := ax_iadd dX2_makeTwoSides_64 rfl
theorem dX2_makeTwoSides_65 : decode cX2_makeTwoSides 65 = .ok (.iload_n 1, 1) := by decide +kernel
theorem sX2_makeTwoSides_65 : ab_X rom K cX2_makeTwoSides 9 2 65 (v0 :: .int x :: ls) st hp = ab_X rom K cX2_makeTwoSides 9 2 66 (v0 :: .int x :: ls) (.int x :: st) hp := ax_iload_n dX2_makeTwoSides_65 rfl rfl
theorem dX2_makeTwoSides_66 : decode cX2_makeTwoSides 66 = .ok (.iload_n 3, 1) := by decide +kernel
theorem sX2_makeTwoSides_66 : ab_X rom K cX2_makeTwoSides 9 2 66 (v0 :: v1 :: v2 :: .int x :: ls) st hp = ab_X rom K cX2_makeTwoSides 9 2 67 (v0 :: v1 :: v2 :: .int x :: ls) (.int x :: st) hp := ax_iload_n dX2_makeTwoSides_66 rfl rfl
theorem dX2_makeTwoSides_67 : decode cX2_makeTwoSides 67 = .ok (.iconst 1, 1) := by decide +kernel
theorem sX2_makeTwoSides_67 : ab_X rom K cX2_makeTwoSides 9 2 67 ls st hp = ab_X rom K cX2_makeTwoSides 9 2 68 ls (.int 1 :: st) hp := ax_iconst dX2_makeTwoSides_67 (by decide) rfl
theorem dX2_makeTwoSides_68 : decode cX2_makeTwoSides 68 = .ok (.iadd, 1) := by decide +kernel
theorem sX2_makeTwoSides_68 : ab_X rom K cX2_makeTwoSides 9 2 68 ls (.int y :: .int x :: st) hp = ab_X rom K cX2_makeTwoSides 9 2 69 ls (.int (x + y) :: st) hp := ax_iadd dX2_makeTwoSides_68 rfl
theorem dX2_makeTwoSides_69 : decode cX2_makeTwoSides 69 = .ok (.imul, 1) := by decide +kernel
theorem sX2_makeTwoSides_69 : ab_X rom K cX2_makeTwoSides 9 2 69 ls (.int y :: .int x :: st) hp = ab_X rom K cX2_makeTwoSides 9 2 70 ls (.int (x * y) :: st) hp := ax_imul dX2_makeTwoSides_69 rfl
theorem dX2_makeTwoSides_70 : decode cX2_makeTwoSides 70 = .ok (.iastore, 1) := by decide +kernel
theorem sX2_makeTwoSides_70 : ab_X rom K cX2_makeTwoSides 9 2 70 ls (.int y :: .int x :: .ref a :: st) hp = (ab_awr 0 hp a x y).bind (fun hp' => ab_X rom K cX2_makeTwoSides 9 2 71 ls st hp') := ax_iastore dX2_makeTwoSides_70 rfl
theorem dX2_makeTwoSides_71 : decode cX2_makeTwoSides 71 = .ok (.iinc 3 1, 3) := by decide +kernel
theorem sX2_makeTwoSides_71i : ab_X rom K cX2_makeTwoSides 9 2 71 (v0 :: v1 :: .int y :: .int x :: ls) st hp = ab_X rom K cX2_makeTwoSides 9 2 74 (v0 :: v1 :: .int y :: .int (x + 1) :: ls) st hp := ax_iinc dX2_makeTwoSides_71 rfl (ab_nl_c1 (j := 2) (v := .int y) rfl (ab_c1_int _)) (by decide) rfl rfl
theorem sX2_makeTwoSides_71r : ab_X rom K cX2_makeTwoSides 9 2 71 (v0 :: v1 :: .ref a2 :: .int x :: ls) st hp = ab_X rom K cX2_makeTwoSides 9 2 74 (v0 :: v1 :: .ref a2 :: .int (x + 1) :: ls) st hp := ax_iinc dX2_makeTwoSides_71 rfl (ab_nl_c1 (j := 2) (v := .ref a2) rfl (ab_c1_ref _)) (by decide) rfl rfl
theorem sX2_makeTwoSides_71n : ab_X rom K cX2_makeTwoSides 9 2 71 (v0 :: v1 :: .null :: .int x :: ls) st hp = ab_X rom K cX2_makeTwoSides 9 2 74 (v0 :: v1 :: .null :: .int (x + 1) :: ls) st hp := ax_iinc dX2_makeTwoSides_71 rfl (ab_nl_c1 (j := 2) (v := .null) rfl ab_c1_null) (by decide) rfl rfl
theorem dX2_makeTwoSides_74 : decode cX2_makeTwoSides 74 = .ok (.goto (-21), 3) := by decide +kernel
theorem sX2_makeTwoSides_74 : ab_X rom K cX2_makeTwoSides 9 2 74 ls st hp = ab_X rom K cX2_makeTwoSides 9 2 53 ls st hp := ax_goto dX2_makeTwoSides_74 (by decide)
theorem dX2_makeTwoSides_77 : decode cX2_makeTwoSides 77 = .ok (.iconst 1, 1) := by decide +kernel
theorem sX2_makeTwoSides_77 : ab_X rom K cX2_makeTwoSides 9 2 77 ls st hp = ab_X rom K cX2_makeTwoSides 9 2 78 ls (.int 1 :: st) hp := ax_iconst dX2_makeTwoSides_77 (by decide) rfl
theorem dX2_makeTwoSides_78 : decode cX2_makeTwoSides 78 = .ok (.ireturn, 1) := by decide +kernel
theorem sX2_makeTwoSides_78 : ab_X rom K cX2_makeTwoSides 9 2 78 ls [.int x] hp = if x = 0 ∨ x = 1 then some (some (.int x), hp) else none := ay_zret dX2_makeTwoSides_78 rfl
theorem tX2_putLabels : ab_mT[263]? = some (yX2_putLabels, cX2_putLabels, 3, 0, 9) := by decide +kernel
theorem mX2_putLabels {d : Nat} {r0 : Nat} {r1 : Nat} : ab_M rom (d + 1) 263 [.ref r0, .ref r1] hp = ab_X rom (ab_M rom d) cX2_putLabels 9 0 0 [.ref r0, .ref r1, .null] [] hp := ab_M_eq tX2_putLabels (Nat.le_of_ble_eq_true rfl)
theorem dX2_putLabels_0 : decode cX2_putLabels 0 = .ok (.iconst 0, 1) := by decide +kernel
theorem sX2_putLabels_0 : ab_X rom K cX2_putLabels 9 0 0 ls st hp = ab_X rom K cX2_putLabels 9 0 1 ls (.int 0 :: st) hp := ax_iconst dX2_putLabels_0 (by decide) rfl
theorem dX2_putLabels_1 : decode cX2_putLabels 1 = .ok (.istore_n 2, 1) := by decide +kernel
theorem sX2_putLabels_1i : ab_X rom K cX2_putLabels 9 0 1 (v0 :: .int y :: v2 :: ls) (.int x :: st) hp = ab_X rom K cX2_putLabels 9 0 2 (v0 :: .int y :: .int x :: ls) st hp := ax_istore_n dX2_putLabels_1 (ax_lt (v := v2) rfl) (ab_nl_c1 (j := 1) (v := .int y) rfl (ab_c1_int _)) rfl rfl
theorem sX2_putLabels_1r : ab_X rom K cX2_putLabels 9 0 1 (v0 :: .ref a2 :: v2 :: ls) (.int x :: st) hp = ab_X rom K cX2_putLabels 9 0 2 (v0 :: .ref a2 :: .int x :: ls) st hp := ax_istore_n dX2_putLabels_1 (ax_lt (v := v2) rfl) (ab_nl_c1 (j := 1) (v := .ref a2) rfl (ab_c1_ref _)) rfl rfl
theorem sX2_putLabels_1n : ab_X rom K cX2_putLabels 9 0 1 (v0 :: .null :: v2 :: ls) (.int x :: st) hp = ab_X rom K cX2_putLabels 9 0 2 (v0 :: .null :: .int x :: ls) st hp := ax_istore_n dX2_putLabels_1 (ax_lt (v := v2) rfl) (ab_nl_c1 (j := 1) (v := .null) rfl ab_c1_null) rfl rfl
theorem dX2_putLabels_2 : decode cX2_putLabels 2 = .ok (.iload_n 2, 1) := by decide +kernel
theorem sX2_putLabels_2 : ab_X rom K cX2_putLabels 9 0 2 (v0 :: v1 :: .int x :: ls) st hp = ab_X rom K cX2_putLabels 9 0 3 (v0 :: v1 :: .int x :: ls) (.int x :: st) hp := ax_iload_n dX2_putLabels_2 rfl rfl
theorem dX2_putLabels_3 : decode cX2_putLabels 3 = .ok (.aload_n 0, 1) := by decide +kernel
theorem sX2_putLabels_3 : ab_X rom K cX2_putLabels 9 0 3 (.ref a :: ls) st hp = ab_X rom K cX2_putLabels 9 0 4 (.ref a :: ls) (.ref a :: st) hp := ax_aload_n dX2_putLabels_3 rfl rfl
theorem dX2_putLabels_4 : decode cX2_putLabels 4 = .ok (.getfield 35, 3) := by decide +kernel
theorem sX2_putLabels_4 : ab_X rom K cX2_putLabels 9 0 4 ls (.ref a :: st) hp = (ab_fld hp a 1 0).bind (fun v => ab_X rom K cX2_putLabels 9 0 7 ls (v :: st) hp) := ax_getfield dX2_putLabels_4 kf_9_35 rfl
theorem dX2_putLabels_7 : decode cX2_putLabels 7 = .ok (.if_icmp .ge 24, 3) := by decide +kernel
theorem sX2_putLabels_7 : ab_X rom K cX2_putLabels 9 0 7 ls (.int y :: .int x :: st) hp = if x < y then ab_X rom K cX2_putLabels 9 0 10 ls st hp else ab_X rom K cX2_putLabels 9 0 31 ls st hp := ax_icmp_ge dX2_putLabels_7 (by decide) rfl
theorem dX2_putLabels_10 : decode cX2_putLabels 10 = .ok (.iload_n 2, 1) := by decide +kernel
theorem sX2_putLabels_10 : ab_X rom K cX2_putLabels 9 0 10 (v0 :: v1 :: .int x :: ls) st hp = ab_X rom K cX2_putLabels 9 0 11 (v0 :: v1 :: .int x :: ls) (.int x :: st) hp := ax_iload_n dX2_putLabels_10 rfl rfl
theorem dX2_putLabels_11 : decode cX2_putLabels 11 = .ok (.aload_n 1, 1) := by decide +kernel
theorem sX2_putLabels_11 : ab_X rom K cX2_putLabels 9 0 11 (v0 :: .ref a :: ls) st hp = ab_X rom K cX2_putLabels 9 0 12 (v0 :: .ref a :: ls) (.ref a :: st) hp := ax_aload_n dX2_putLabels_11 rfl rfl
theorem dX2_putLabels_12 : decode cX2_putLabels 12 = .ok (.arraylength, 1) := by decide +kernel
theorem sX2_putLabels_12 : ab_X rom K cX2_putLabels 9 0 12 ls (.ref a :: st) hp = (ab_aln rom hp a).bind (fun v => ab_X rom K cX2_putLabels 9 0 13 ls (.int v :: st) hp) := ax_arraylength dX2_putLabels_12 rfl
theorem dX2_putLabels_13 : decode cX2_putLabels 13 = .ok (.if_icmp .ge 18, 3) := by decide +kernel
theorem sX2_putLabels_13 : ab_X rom K cX2_putLabels 9 0 13 ls (.int y :: .int x :: st) hp = if x < y then ab_X rom K cX2_putLabels 9 0 16 ls st hp else ab_X rom K cX2_putLabels 9 0 31 ls st hp := ax_icmp_ge dX2_putLabels_13 (by decide) rfl
theorem dX2_putLabels_16 : decode cX2_putLabels 16 = .ok (.aload_n 0, 1) := by decide +kernel
theorem sX2_putLabels_16 : ab_X rom K cX2_putLabels 9 0 16 (.ref a :: ls) st hp = ab_X rom K cX2_putLabels 9 0 17 (.ref a :: ls) (.ref a :: st) hp := ax_aload_n dX2_putLabels_16 rfl rfl
theorem dX2_putLabels_17 : decode cX2_putLabels 17 = .ok (.getfield 39, 3) := by decide +kernel
theorem sX2_putLabels_17 : ab_X rom K cX2_putLabels 9 0 17 ls (.ref a :: st) hp = (ab_fld hp a 1 4).bind (fun v => ab_X rom K cX2_putLabels 9 0 20 ls (v :: st) hp) := ax_getfield dX2_putLabels_17 kf_9_39 rfl
theorem dX2_putLabels_20 : decode cX2_putLabels 20 = .ok (.iload_n 2, 1) := by decide +kernel
theorem sX2_putLabels_20 : ab_X rom K cX2_putLabels 9 0 20 (v0 :: v1 :: .int x :: ls) st hp = ab_X rom K cX2_putLabels 9 0 21 (v0 :: v1 :: .int x :: ls) (.int x :: st) hp := ax_iload_n dX2_putLabels_20 rfl rfl
theorem dX2_putLabels_21 : decode cX2_putLabels 21 = .ok (.aload_n 1, 1) := by decide +kernel
theorem sX2_putLabels_21 : ab_X rom K cX2_putLabels 9 0 21 (v0 :: .ref a :: ls) st hp = ab_X rom K cX2_putLabels 9 0 22 (v0 :: .ref a :: ls) (.ref a :: st) hp := ax_aload_n dX2_putLabels_21 rfl rfl
theorem dX2_putLabels_22 : decode cX2_putLabels 22 = .ok (.iload_n 2, 1) := by decide +kernel
theorem sX2_putLabels_22 : ab_X rom K cX2_putLabels 9 0 22 (v0 :: v1 :: .int x :: ls) st hp = ab_X rom K cX2_putLabels 9 0 23 (v0 :: v1 :: .int x :: ls) (.int x :: st) hp := ax_iload_n dX2_putLabels_22 rfl rfl
theorem dX2_putLabels_23 : decode cX2_putLabels 23 = .ok (.iaload, 1) := by decide +kernel
theorem sX2_putLabels_23 : ab_X rom K cX2_putLabels 9 0 23 ls (.int x :: .ref a :: st) hp = (ab_ard rom 0 hp a x).bind (fun v => ab_X rom K cX2_putLabels 9 0 24 ls (.int v :: st) hp) := ax_iaload dX2_putLabels_23 rfl
theorem dX2_putLabels_24 : decode cX2_putLabels 24 = .ok (.iastore, 1) := by decide +kernel
theorem sX2_putLabels_24 : ab_X rom K cX2_putLabels 9 0 24 ls (.int y :: .int x :: .ref a :: st) hp = (ab_awr 0 hp a x y).bind (fun hp' => ab_X rom K cX2_putLabels 9 0 25 ls st hp') := ax_iastore dX2_putLabels_24 rfl
theorem dX2_putLabels_25 : decode cX2_putLabels 25 = .ok (.iinc 2 1, 3) := by decide +kernel
theorem sX2_putLabels_25i : ab_X rom K cX2_putLabels 9 0 25 (v0 :: .int y :: .int x :: ls) st hp = ab_X rom K cX2_putLabels 9 0 28 (v0 :: .int y :: .int (x + 1) :: ls) st hp := ax_iinc dX2_putLabels_25 rfl (ab_nl_c1 (j := 1) (v := .int y) rfl (ab_c1_int _)) (by decide) rfl rfl
theorem sX2_putLabels_25r : ab_X rom K cX2_putLabels 9 0 25 (v0 :: .ref a2 :: .int x :: ls) st hp = ab_X rom K cX2_putLabels 9 0 28 (v0 :: .ref a2 :: .int (x + 1) :: ls) st hp := ax_iinc dX2_putLabels_25 rfl (ab_nl_c1 (j := 1) (v := .ref a2) rfl (ab_c1_ref _)) (by decide) rfl rfl
theorem sX2_putLabels_25n : ab_X rom K cX2_putLabels 9 0 25 (v0 :: .null :: .int x :: ls) st hp = ab_X rom K cX2_putLabels 9 0 28 (v0 :: .null :: .int (x + 1) :: ls) st hp := ax_iinc dX2_putLabels_25 rfl (ab_nl_c1 (j := 1) (v := .null) rfl ab_c1_null) (by decide) rfl rfl
theorem dX2_putLabels_28 : decode cX2_putLabels 28 = .ok (.goto (-26), 3) := by decide +kernel
theorem sX2_putLabels_28 : ab_X rom K cX2_putLabels 9 0 28 ls st hp = ab_X rom K cX2_putLabels 9 0 2 ls st hp := ax_goto dX2_putLabels_28 (by decide)
theorem dX2_putLabels_31 : decode cX2_putLabels 31 = .ok (.return_, 1) := by decide +kernel
theorem sX2_putLabels_31 : ab_X rom K cX2_putLabels 9 0 31 ls [] hp = some (none, hp) := ax_vret dX2_putLabels_31 (by decide)
end
