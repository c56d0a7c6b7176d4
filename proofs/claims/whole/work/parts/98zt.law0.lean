/-! the law, step by step (printed by wip/whole/gen_law.py) -/
abbrev cL_law : ByteArray := code
section
variable {rom : List (List Int32)} {K : Nat → List Value → ab_H → Option ab_O} {ls st : List Value} {hp : ab_H} {x y z : Int32} {a a2 : Nat} {sp dp : Int32} {u w : Int64} {v0 v1 v2 v3 v4 v5 v6 v7 v8 v9 v10 v11 v12 v13 v14 v15 w1 w2 w3 w4 w5 w6 : Value}
theorem dL_law_0 : decode cL_law 0 = .ok (.new 7, 3) := by decide +kernel
theorem sL_law_0 (h2 : hp.length < ab_RO) : ab_X rom K cL_law 12 2 0 ls st hp = ab_X rom K cL_law 12 2 3 ls (.ref hp.length :: st) (hp ++ [.inr (.inr (6, [.null, .null, .null, .null, .null, .null, .null, .null, .null, .int 0, .int 0]))]) := ax_new dL_law_0 kn_12_7 rfl rfl h2
theorem dL_law_3 : decode cL_law 3 = .ok (.dup, 1) := by decide +kernel
theorem sL_law_3i : ab_X rom K cL_law 12 2 3 ls (.int x :: st) hp = ab_X rom K cL_law 12 2 4 ls (.int x :: .int x :: st) hp := ax_dup dL_law_3 rfl (ab_c1_int _)
theorem sL_law_3r : ab_X rom K cL_law 12 2 3 ls (.ref a :: st) hp = ab_X rom K cL_law 12 2 4 ls (.ref a :: .ref a :: st) hp := ax_dup dL_law_3 rfl (ab_c1_ref _)
theorem dL_law_4 : decode cL_law 4 = .ok (.invokespecial 9, 3) := by decide +kernel
theorem sL_law_4_0 (ho : ab_iso hp a 6 = true) : ab_X rom K cL_law 12 2 4 ls [.ref a] hp = (K 79 (.ref a :: []) hp).bind (fun o => ab_X rom K cL_law 12 2 7 ls (o.1.toList ++ []) o.2) := ax_init (as := []) (st := []) dL_law_4 kc_12_9 (by decide) rfl rfl (Nat.le_of_ble_eq_true rfl) ho
theorem sL_law_4_1 (ho : ab_iso hp a 6 = true) : ab_X rom K cL_law 12 2 4 ls [.ref a,v0] hp = (K 79 (.ref a :: []) hp).bind (fun o => ab_X rom K cL_law 12 2 7 ls (o.1.toList ++ [v0]) o.2) := ax_init (as := []) (st := [v0]) dL_law_4 kc_12_9 (by decide) rfl rfl (Nat.le_of_ble_eq_true rfl) ho
theorem sL_law_4_2 (ho : ab_iso hp a 6 = true) : ab_X rom K cL_law 12 2 4 ls [.ref a,v0,v1] hp = (K 79 (.ref a :: []) hp).bind (fun o => ab_X rom K cL_law 12 2 7 ls (o.1.toList ++ [v0, v1]) o.2) := ax_init (as := []) (st := [v0, v1]) dL_law_4 kc_12_9 (by decide) rfl rfl (Nat.le_of_ble_eq_true rfl) ho
theorem dL_law_7 : decode cL_law 7 = .ok (.astore_n 1, 1) := by decide +kernel
theorem sL_law_7i : ab_X rom K cL_law 12 2 7 (.int y :: v1 :: ls) (.ref a :: st) hp = ab_X rom K cL_law 12 2 8 (.int y :: .ref a :: ls) st hp := ax_astore_n dL_law_7 (ax_lt (v := v1) rfl) (ab_nl_c1 (j := 0) (v := .int y) rfl (ab_c1_int _)) rfl rfl
theorem sL_law_7r : ab_X rom K cL_law 12 2 7 (.ref a2 :: v1 :: ls) (.ref a :: st) hp = ab_X rom K cL_law 12 2 8 (.ref a2 :: .ref a :: ls) st hp := ax_astore_n dL_law_7 (ax_lt (v := v1) rfl) (ab_nl_c1 (j := 0) (v := .ref a2) rfl (ab_c1_ref _)) rfl rfl
theorem sL_law_7n : ab_X rom K cL_law 12 2 7 (.null :: v1 :: ls) (.ref a :: st) hp = ab_X rom K cL_law 12 2 8 (.null :: .ref a :: ls) st hp := ax_astore_n dL_law_7 (ax_lt (v := v1) rfl) (ab_nl_c1 (j := 0) (v := .null) rfl ab_c1_null) rfl rfl
theorem dL_law_8 : decode cL_law 8 = .ok (.new 10, 3) := by decide +kernel
theorem sL_law_8 (h2 : hp.length < ab_RO) : ab_X rom K cL_law 12 2 8 ls st hp = ab_X rom K cL_law 12 2 11 ls (.ref hp.length :: st) (hp ++ [.inr (.inr (7, [.null, .null, .null, .int 0, .null, .int 0, .int 0, .int 0, .int 0, .int 0, .int 0, .int 0, .int 0, .null, .null, .int 0, .null, .int 0, .int 0, .null, .null, .int 0, .int 0, .int 0, .null, .null, .null, .null, .int 0]))]) := ax_new dL_law_8 kn_12_10 rfl rfl h2
theorem dL_law_11 : decode cL_law 11 = .ok (.dup, 1) := by decide +kernel
theorem sL_law_11i : ab_X rom K cL_law 12 2 11 ls (.int x :: st) hp = ab_X rom K cL_law 12 2 12 ls (.int x :: .int x :: st) hp := ax_dup dL_law_11 rfl (ab_c1_int _)
theorem sL_law_11r : ab_X rom K cL_law 12 2 11 ls (.ref a :: st) hp = ab_X rom K cL_law 12 2 12 ls (.ref a :: .ref a :: st) hp := ax_dup dL_law_11 rfl (ab_c1_ref _)
theorem dL_law_12 : decode cL_law 12 = .ok (.invokespecial 12, 3) := by decide +kernel
theorem sL_law_12_0 (ho : ab_iso hp a 7 = true) : ab_X rom K cL_law 12 2 12 ls [.ref a] hp = (K 130 (.ref a :: []) hp).bind (fun o => ab_X rom K cL_law 12 2 15 ls (o.1.toList ++ []) o.2) := ax_init (as := []) (st := []) dL_law_12 kc_12_12 (by decide) rfl rfl (Nat.le_of_ble_eq_true rfl) ho
theorem sL_law_12_1 (ho : ab_iso hp a 7 = true) : ab_X rom K cL_law 12 2 12 ls [.ref a,v0] hp = (K 130 (.ref a :: []) hp).bind (fun o => ab_X rom K cL_law 12 2 15 ls (o.1.toList ++ [v0]) o.2) := ax_init (as := []) (st := [v0]) dL_law_12 kc_12_12 (by decide) rfl rfl (Nat.le_of_ble_eq_true rfl) ho
theorem sL_law_12_2 (ho : ab_iso hp a 7 = true) : ab_X rom K cL_law 12 2 12 ls [.ref a,v0,v1] hp = (K 130 (.ref a :: []) hp).bind (fun o => ab_X rom K cL_law 12 2 15 ls (o.1.toList ++ [v0, v1]) o.2) := ax_init (as := []) (st := [v0, v1]) dL_law_12 kc_12_12 (by decide) rfl rfl (Nat.le_of_ble_eq_true rfl) ho
theorem dL_law_15 : decode cL_law 15 = .ok (.astore_n 2, 1) := by decide +kernel
theorem sL_law_15i : ab_X rom K cL_law 12 2 15 (v0 :: .int y :: v2 :: ls) (.ref a :: st) hp = ab_X rom K cL_law 12 2 16 (v0 :: .int y :: .ref a :: ls) st hp := ax_astore_n dL_law_15 (ax_lt (v := v2) rfl) (ab_nl_c1 (j := 1) (v := .int y) rfl (ab_c1_int _)) rfl rfl
theorem sL_law_15r : ab_X rom K cL_law 12 2 15 (v0 :: .ref a2 :: v2 :: ls) (.ref a :: st) hp = ab_X rom K cL_law 12 2 16 (v0 :: .ref a2 :: .ref a :: ls) st hp := ax_astore_n dL_law_15 (ax_lt (v := v2) rfl) (ab_nl_c1 (j := 1) (v := .ref a2) rfl (ab_c1_ref _)) rfl rfl
theorem sL_law_15n : ab_X rom K cL_law 12 2 15 (v0 :: .null :: v2 :: ls) (.ref a :: st) hp = ab_X rom K cL_law 12 2 16 (v0 :: .null :: .ref a :: ls) st hp := ax_astore_n dL_law_15 (ax_lt (v := v2) rfl) (ab_nl_c1 (j := 1) (v := .null) rfl ab_c1_null) rfl rfl
theorem dL_law_16 : decode cL_law 16 = .ok (.iconst 0, 1) := by decide +kernel
theorem sL_law_16 : ab_X rom K cL_law 12 2 16 ls st hp = ab_X rom K cL_law 12 2 17 ls (.int 0 :: st) hp := ax_iconst dL_law_16 (by decide) rfl
theorem dL_law_17 : decode cL_law 17 = .ok (.istore_n 3, 1) := by decide +kernel
theorem sL_law_17i : ab_X rom K cL_law 12 2 17 (v0 :: v1 :: .int y :: v3 :: ls) (.int x :: st) hp = ab_X rom K cL_law 12 2 18 (v0 :: v1 :: .int y :: .int x :: ls) st hp := ax_istore_n dL_law_17 (ax_lt (v := v3) rfl) (ab_nl_c1 (j := 2) (v := .int y) rfl (ab_c1_int _)) rfl rfl
theorem sL_law_17r : ab_X rom K cL_law 12 2 17 (v0 :: v1 :: .ref a2 :: v3 :: ls) (.int x :: st) hp = ab_X rom K cL_law 12 2 18 (v0 :: v1 :: .ref a2 :: .int x :: ls) st hp := ax_istore_n dL_law_17 (ax_lt (v := v3) rfl) (ab_nl_c1 (j := 2) (v := .ref a2) rfl (ab_c1_ref _)) rfl rfl
theorem sL_law_17n : ab_X rom K cL_law 12 2 17 (v0 :: v1 :: .null :: v3 :: ls) (.int x :: st) hp = ab_X rom K cL_law 12 2 18 (v0 :: v1 :: .null :: .int x :: ls) st hp := ax_istore_n dL_law_17 (ax_lt (v := v3) rfl) (ab_nl_c1 (j := 2) (v := .null) rfl ab_c1_null) rfl rfl
theorem dL_law_18 : decode cL_law 18 = .ok (.iload_n 3, 1) := by decide +kernel
theorem sL_law_18 : ab_X rom K cL_law 12 2 18 (v0 :: v1 :: v2 :: .int x :: ls) st hp = ab_X rom K cL_law 12 2 19 (v0 :: v1 :: v2 :: .int x :: ls) (.int x :: st) hp := ax_iload_n dL_law_18 rfl rfl
theorem dL_law_19 : decode cL_law 19 = .ok (.aload_n 0, 1) := by decide +kernel
theorem sL_law_19 : ab_X rom K cL_law 12 2 19 (.ref a :: ls) st hp = ab_X rom K cL_law 12 2 20 (.ref a :: ls) (.ref a :: st) hp := ax_aload_n dL_law_19 rfl rfl
theorem dL_law_20 : decode cL_law 20 = .ok (.arraylength, 1) := by decide +kernel
theorem sL_law_20 : ab_X rom K cL_law 12 2 20 ls (.ref a :: st) hp = (ab_aln rom hp a).bind (fun v => ab_X rom K cL_law 12 2 21 ls (.int v :: st) hp) := ax_arraylength dL_law_20 rfl
theorem dL_law_21 : decode cL_law 21 = .ok (.bipush 6, 2) := by decide +kernel
theorem sL_law_21 : ab_X rom K cL_law 12 2 21 ls st hp = ab_X rom K cL_law 12 2 23 ls (.int 6 :: st) hp := ax_bipush dL_law_21 (by decide) rfl
theorem dL_law_23 : decode cL_law 23 = .ok (.isub, 1) := by decide +kernel
theorem sL_law_23 : ab_X rom K cL_law 12 2 23 ls (.int y :: .int x :: st) hp = ab_X rom K cL_law 12 2 24 ls (.int (x - y) :: st) hp := ax_isub dL_law_23 rfl
theorem dL_law_24 : decode cL_law 24 = .ok (.if_icmp .gt 1466, 3) := by decide +kernel
theorem sL_law_24 : ab_X rom K cL_law 12 2 24 ls (.int y :: .int x :: st) hp = if y < x then ab_X rom K cL_law 12 2 1490 ls st hp else ab_X rom K cL_law 12 2 27 ls st hp := ax_icmp_gt dL_law_24 (by decide) rfl
theorem dL_law_27 : decode cL_law 27 = .ok (.aload_n 0, 1) := by decide +kernel
theorem sL_law_27 : ab_X rom K cL_law 12 2 27 (.ref a :: ls) st hp = ab_X rom K cL_law 12 2 28 (.ref a :: ls) (.ref a :: st) hp := ax_aload_n dL_law_27 rfl rfl
theorem dL_law_28 : decode cL_law 28 = .ok (.iload_n 3, 1) := by decide +kernel
theorem sL_law_28 : ab_X rom K cL_law 12 2 28 (v0 :: v1 :: v2 :: .int x :: ls) st hp = ab_X rom K cL_law 12 2 29 (v0 :: v1 :: v2 :: .int x :: ls) (.int x :: st) hp := ax_iload_n dL_law_28 rfl rfl
theorem dL_law_29 : decode cL_law 29 = .ok (.iaload, 1) := by decide +kernel
theorem sL_law_29 : ab_X rom K cL_law 12 2 29 ls (.int x :: .ref a :: st) hp = (ab_ard rom 0 hp a x).bind (fun v => ab_X rom K cL_law 12 2 30 ls (.int v :: st) hp) := ax_iaload dL_law_29 rfl
theorem dL_law_30 : decode cL_law 30 = .ok (.bipush 63, 2) := by decide +kernel
theorem sL_law_30 : ab_X rom K cL_law 12 2 30 ls st hp = ab_X rom K cL_law 12 2 32 ls (.int 63 :: st) hp := ax_bipush dL_law_30 (by decide) rfl
theorem dL_law_32 : decode cL_law 32 = .ok (.iand, 1) := by decide +kernel
theorem sL_law_32 : ab_X rom K cL_law 12 2 32 ls (.int y :: .int x :: st) hp = ab_X rom K cL_law 12 2 33 ls (.int (x &&& y) :: st) hp := ax_iand dL_law_32 rfl
theorem dL_law_33 : decode cL_law 33 = .ok (.tableswitch 1451 0 37 #[167, 230, 253, 276, 299, 322, 355, 398, 441, 484, 517, 560, 603, 636, 669, 702, 735, 768, 821, 864, 907, 940, 973, 1006, 1039, 1072, 1105, 1128, 1151, 1174, 1197, 1220, 1263, 1316, 1359, 1382, 1395, 1428], 167) := by decide +kernel
theorem sL_law_33_d (h : x.toInt < 0 ∨ 37 < x.toInt) : ab_X rom K cL_law 12 2 33 ls (.int x :: st) hp = ab_X rom K cL_law 12 2 1484 ls st hp := ax_tsw_out dL_law_33 (by decide) h
theorem sL_law_33_0 : ab_X rom K cL_law 12 2 33 ls (.int 0 :: st) hp = ab_X rom K cL_law 12 2 200 ls st hp := ax_tsw_in (off := 167) dL_law_33 (by decide) (by decide) (by decide)
theorem sL_law_33_1 : ab_X rom K cL_law 12 2 33 ls (.int 1 :: st) hp = ab_X rom K cL_law 12 2 263 ls st hp := ax_tsw_in (off := 230) dL_law_33 (by decide) (by decide) (by decide)
theorem sL_law_33_2 : ab_X rom K cL_law 12 2 33 ls (.int 2 :: st) hp = ab_X rom K cL_law 12 2 286 ls st hp := ax_tsw_in (off := 253) dL_law_33 (by decide) (by decide) (by decide)
theorem sL_law_33_3 : ab_X rom K cL_law 12 2 33 ls (.int 3 :: st) hp = ab_X rom K cL_law 12 2 309 ls st hp := ax_tsw_in (off := 276) dL_law_33 (by decide) (by decide) (by decide)
theorem sL_law_33_4 : ab_X rom K cL_law 12 2 33 ls (.int 4 :: st) hp = ab_X rom K cL_law 12 2 332 ls st hp := ax_tsw_in (off := 299) dL_law_33 (by decide) (by decide) (by decide)
theorem sL_law_33_5 : ab_X rom K cL_law 12 2 33 ls (.int 5 :: st) hp = ab_X rom K cL_law 12 2 355 ls st hp := ax_tsw_in (off := 322) dL_law_33 (by decide) (by decide) (by decide)
theorem sL_law_33_6 : ab_X rom K cL_law 12 2 33 ls (.int 6 :: st) hp = ab_X rom K cL_law 12 2 388 ls st hp := ax_tsw_in (off := 355) dL_law_33 (by decide) (by decide) (by decide)
theorem sL_law_33_7 : ab_X rom K cL_law 12 2 33 ls (.int 7 :: st) hp = ab_X rom K cL_law 12 2 431 ls st hp := ax_tsw_in (off := 398) dL_law_33 (by decide) (by decide) (by decide)
theorem sL_law_33_8 : ab_X rom K cL_law 12 2 33 ls (.int 8 :: st) hp = ab_X rom K cL_law 12 2 474 ls st hp := ax_tsw_in (off := 441) dL_law_33 (by decide) (by decide) (by decide)
theorem sL_law_33_9 : ab_X rom K cL_law 12 2 33 ls (.int 9 :: st) hp = ab_X rom K cL_law 12 2 517 ls st hp := ax_tsw_in (off := 484) dL_law_33 (by decide) (by decide) (by decide)
theorem sL_law_33_10 : ab_X rom K cL_law 12 2 33 ls (.int 10 :: st) hp = ab_X rom K cL_law 12 2 550 ls st hp := ax_tsw_in (off := 517) dL_law_33 (by decide) (by decide) (by decide)
theorem sL_law_33_11 : ab_X rom K cL_law 12 2 33 ls (.int 11 :: st) hp = ab_X rom K cL_law 12 2 593 ls st hp := ax_tsw_in (off := 560) dL_law_33 (by decide) (by decide) (by decide)
theorem sL_law_33_12 : ab_X rom K cL_law 12 2 33 ls (.int 12 :: st) hp = ab_X rom K cL_law 12 2 636 ls st hp := ax_tsw_in (off := 603) dL_law_33 (by decide) (by decide) (by decide)
theorem sL_law_33_13 : ab_X rom K cL_law 12 2 33 ls (.int 13 :: st) hp = ab_X rom K cL_law 12 2 669 ls st hp := ax_tsw_in (off := 636) dL_law_33 (by decide) (by decide) (by decide)
theorem sL_law_33_14 : ab_X rom K cL_law 12 2 33 ls (.int 14 :: st) hp = ab_X rom K cL_law 12 2 702 ls st hp := ax_tsw_in (off := 669) dL_law_33 (by decide) (by decide) (by decide)
theorem sL_law_33_15 : ab_X rom K cL_law 12 2 33 ls (.int 15 :: st) hp = ab_X rom K cL_law 12 2 735 ls st hp := ax_tsw_in (off := 702) dL_law_33 (by decide) (by decide) (by decide)
theorem sL_law_33_16 : ab_X rom K cL_law 12 2 33 ls (.int 16 :: st) hp = ab_X rom K cL_law 12 2 768 ls st hp := ax_tsw_in (off := 735) dL_law_33 (by decide) (by decide) (by decide)
theorem sL_law_33_17 : ab_X rom K cL_law 12 2 33 ls (.int 17 :: st) hp = ab_X rom K cL_law 12 2 801 ls st hp := ax_tsw_in (off := 768) dL_law_33 (by decide) (by decide) (by decide)
theorem sL_law_33_18 : ab_X rom K cL_law 12 2 33 ls (.int 18 :: st) hp = ab_X rom K cL_law 12 2 854 ls st hp := ax_tsw_in (off := 821) dL_law_33 (by decide) (by decide) (by decide)
theorem sL_law_33_19 : ab_X rom K cL_law 12 2 33 ls (.int 19 :: st) hp = ab_X rom K cL_law 12 2 897 ls st hp := ax_tsw_in (off := 864) dL_law_33 (by decide) (by decide) (by decide)
theorem sL_law_33_20 : ab_X rom K cL_law 12 2 33 ls (.int 20 :: st) hp = ab_X rom K cL_law 12 2 940 ls st hp := ax_tsw_in (off := 907) dL_law_33 (by decide) (by decide) (by decide)
theorem sL_law_33_21 : ab_X rom K cL_law 12 2 33 ls (.int 21 :: st) hp = ab_X rom K cL_law 12 2 973 ls st hp := ax_tsw_in (off := 940) dL_law_33 (by decide) (by decide) (by decide)
theorem sL_law_33_22 : ab_X rom K cL_law 12 2 33 ls (.int 22 :: st) hp = ab_X rom K cL_law 12 2 1006 ls st hp := ax_tsw_in (off := 973) dL_law_33 (by decide) (by decide) (by decide)
theorem sL_law_33_23 : ab_X rom K cL_law 12 2 33 ls (.int 23 :: st) hp = ab_X rom K cL_law 12 2 1039 ls st hp := ax_tsw_in (off := 1006) dL_law_33 (by decide) (by decide) (by decide)
theorem sL_law_33_24 : ab_X rom K cL_law 12 2 33 ls (.int 24 :: st) hp = ab_X rom K cL_law 12 2 1072 ls st hp := ax_tsw_in (off := 1039) dL_law_33 (by decide) (by decide) (by decide)
theorem sL_law_33_25 : ab_X rom K cL_law 12 2 33 ls (.int 25 :: st) hp = ab_X rom K cL_law 12 2 1105 ls st hp := ax_tsw_in (off := 1072) dL_law_33 (by decide) (by decide) (by decide)
theorem sL_law_33_26 : ab_X rom K cL_law 12 2 33 ls (.int 26 :: st) hp = ab_X rom K cL_law 12 2 1138 ls st hp := ax_tsw_in (off := 1105) dL_law_33 (by decide) (by decide) (by decide)
theorem sL_law_33_27 : ab_X rom K cL_law 12 2 33 ls (.int 27 :: st) hp = ab_X rom K cL_law 12 2 1161 ls st hp := ax_tsw_in (off := 1128) dL_law_33 (by decide) (by decide) (by decide)
theorem sL_law_33_28 : ab_X rom K cL_law 12 2 33 ls (.int 28 :: st) hp = ab_X rom K cL_law 12 2 1184 ls st hp := ax_tsw_in (off := 1151) dL_law_33 (by decide) (by decide) (by decide)
theorem sL_law_33_29 : ab_X rom K cL_law 12 2 33 ls (.int 29 :: st) hp = ab_X rom K cL_law 12 2 1207 ls st hp := ax_tsw_in (off := 1174) dL_law_33 (by decide) (by decide) (by decide)
theorem sL_law_33_30 : ab_X rom K cL_law 12 2 33 ls (.int 30 :: st) hp = ab_X rom K cL_law 12 2 1230 ls st hp := ax_tsw_in (off := 1197) dL_law_33 (by decide) (by decide) (by decide)
theorem sL_law_33_31 : ab_X rom K cL_law 12 2 33 ls (.int 31 :: st) hp = ab_X rom K cL_law 12 2 1253 ls st hp := ax_tsw_in (off := 1220) dL_law_33 (by decide) (by decide) (by decide)
theorem sL_law_33_32 : ab_X rom K cL_law 12 2 33 ls (.int 32 :: st) hp = ab_X rom K cL_law 12 2 1296 ls st hp := ax_tsw_in (off := 1263) dL_law_33 (by decide) (by decide) (by decide)
theorem sL_law_33_33 : ab_X rom K cL_law 12 2 33 ls (.int 33 :: st) hp = ab_X rom K cL_law 12 2 1349 ls st hp := ax_tsw_in (off := 1316) dL_law_33 (by decide) (by decide) (by decide)
theorem sL_law_33_34 : ab_X rom K cL_law 12 2 33 ls (.int 34 :: st) hp = ab_X rom K cL_law 12 2 1392 ls st hp := ax_tsw_in (off := 1359) dL_law_33 (by decide) (by decide) (by decide)
theorem sL_law_33_35 : ab_X rom K cL_law 12 2 33 ls (.int 35 :: st) hp = ab_X rom K cL_law 12 2 1415 ls st hp := ax_tsw_in (off := 1382) dL_law_33 (by decide) (by decide) (by decide)
theorem sL_law_33_36 : ab_X rom K cL_law 12 2 33 ls (.int 36 :: st) hp = ab_X rom K cL_law 12 2 1428 ls st hp := ax_tsw_in (off := 1395) dL_law_33 (by decide) (by decide) (by decide)
theorem sL_law_33_37 : ab_X rom K cL_law 12 2 33 ls (.int 37 :: st) hp = ab_X rom K cL_law 12 2 1461 ls st hp := ax_tsw_in (off := 1428) dL_law_33 (by decide) (by decide) (by decide)
theorem dL_law_200 : decode cL_law 200 = .ok (.aload_n 1, 1) := by decide +kernel
theorem sL_law_200 : ab_X rom K cL_law 12 2 200 (v0 :: .ref a :: ls) st hp = ab_X rom K cL_law 12 2 201 (v0 :: .ref a :: ls) (.ref a :: st) hp := ax_aload_n dL_law_200 rfl rfl
theorem dL_law_201 : decode cL_law 201 = .ok (.aload_n 0, 1) := by decide +kernel
theorem sL_law_201 : ab_X rom K cL_law 12 2 201 (.ref a :: ls) st hp = ab_X rom K cL_law 12 2 202 (.ref a :: ls) (.ref a :: st) hp := ax_aload_n dL_law_201 rfl rfl
theorem dL_law_202 : decode cL_law 202 = .ok (.iload_n 3, 1) := by decide +kernel
theorem sL_law_202 : ab_X rom K cL_law 12 2 202 (v0 :: v1 :: v2 :: .int x :: ls) st hp = ab_X rom K cL_law 12 2 203 (v0 :: v1 :: v2 :: .int x :: ls) (.int x :: st) hp := ax_iload_n dL_law_202 rfl rfl
theorem dL_law_203 : decode cL_law 203 = .ok (.iconst 1, 1) := by decide +kernel
theorem sL_law_203 : ab_X rom K cL_law 12 2 203 ls st hp = ab_X rom K cL_law 12 2 204 ls (.int 1 :: st) hp := ax_iconst dL_law_203 (by decide) rfl
theorem dL_law_204 : decode cL_law 204 = .ok (.iadd, 1) := by decide +kernel
theorem sL_law_204 : ab_X rom K cL_law 12 2 204 ls (.int y :: .int x :: st) hp = ab_X rom K cL_law 12 2 205 ls (.int (x + y) :: st) hp := ax_iadd dL_law_204 rfl
theorem dL_law_205 : decode cL_law 205 = .ok (.iaload, 1) := by decide +kernel
theorem sL_law_205 : ab_X rom K cL_law 12 2 205 ls (.int x :: .ref a :: st) hp = (ab_ard rom 0 hp a x).bind (fun v => ab_X rom K cL_law 12 2 206 ls (.int v :: st) hp) := ax_iaload dL_law_205 rfl
theorem dL_law_206 : decode cL_law 206 = .ok (.aload_n 0, 1) := by decide +kernel
theorem sL_law_206 : ab_X rom K cL_law 12 2 206 (.ref a :: ls) st hp = ab_X rom K cL_law 12 2 207 (.ref a :: ls) (.ref a :: st) hp := ax_aload_n dL_law_206 rfl rfl
theorem dL_law_207 : decode cL_law 207 = .ok (.iload_n 3, 1) := by decide +kernel
theorem sL_law_207 : ab_X rom K cL_law 12 2 207 (v0 :: v1 :: v2 :: .int x :: ls) st hp = ab_X rom K cL_law 12 2 208 (v0 :: v1 :: v2 :: .int x :: ls) (.int x :: st) hp := ax_iload_n dL_law_207 rfl rfl
theorem dL_law_208 : decode cL_law 208 = .ok (.iconst 2, 1) := by decide +kernel
theorem sL_law_208 : ab_X rom K cL_law 12 2 208 ls st hp = ab_X rom K cL_law 12 2 209 ls (.int 2 :: st) hp := ax_iconst dL_law_208 (by decide) rfl
theorem dL_law_209 : decode cL_law 209 = .ok (.iadd, 1) := by decide +kernel
theorem sL_law_209 : ab_X rom K cL_law 12 2 209 ls (.int y :: .int x :: st) hp = ab_X rom K cL_law 12 2 210 ls (.int (x + y) :: st) hp := ax_iadd dL_law_209 rfl
theorem dL_law_210 : decode cL_law 210 = .ok (.iaload, 1) := by decide +kernel
theorem sL_law_210 : ab_X rom K cL_law 12 2 210 ls (.int x :: .ref a :: st) hp = (ab_ard rom 0 hp a x).bind (fun v => ab_X rom K cL_law 12 2 211 ls (.int v :: st) hp) := ax_iaload dL_law_210 rfl
theorem dL_law_211 : decode cL_law 211 = .ok (.aload_n 0, 1) := by decide +kernel
theorem sL_law_211 : ab_X rom K cL_law 12 2 211 (.ref a :: ls) st hp = ab_X rom K cL_law 12 2 212 (.ref a :: ls) (.ref a :: st) hp := ax_aload_n dL_law_211 rfl rfl
theorem dL_law_212 : decode cL_law 212 = .ok (.iload_n 3, 1) := by decide +kernel
theorem sL_law_212 : ab_X rom K cL_law 12 2 212 (v0 :: v1 :: v2 :: .int x :: ls) st hp = ab_X rom K cL_law 12 2 213 (v0 :: v1 :: v2 :: .int x :: ls) (.int x :: st) hp := ax_iload_n dL_law_212 rfl rfl
theorem dL_law_213 : decode cL_law 213 = .ok (.iconst 3, 1) := by decide +kernel
theorem sL_law_213 : ab_X rom K cL_law 12 2 213 ls st hp = ab_X rom K cL_law 12 2 214 ls (.int 3 :: st) hp := ax_iconst dL_law_213 (by decide) rfl
theorem dL_law_214 : decode cL_law 214 = .ok (.iadd, 1) := by decide +kernel
theorem sL_law_214 : ab_X rom K cL_law 12 2 214 ls (.int y :: .int x :: st) hp = ab_X rom K cL_law 12 2 215 ls (.int (x + y) :: st) hp := ax_iadd dL_law_214 rfl
theorem dL_law_215 : decode cL_law 215 = .ok (.iaload, 1) := by decide +kernel
theorem sL_law_215 : ab_X rom K cL_law 12 2 215 ls (.int x :: .ref a :: st) hp = (ab_ard rom 0 hp a x).bind (fun v => ab_X rom K cL_law 12 2 216 ls (.int v :: st) hp) := ax_iaload dL_law_215 rfl
theorem dL_law_216 : decode cL_law 216 = .ok (.aload_n 0, 1) := by decide +kernel
theorem sL_law_216 : ab_X rom K cL_law 12 2 216 (.ref a :: ls) st hp = ab_X rom K cL_law 12 2 217 (.ref a :: ls) (.ref a :: st) hp := ax_aload_n dL_law_216 rfl rfl
theorem dL_law_217 : decode cL_law 217 = .ok (.iload_n 3, 1) := by decide +kernel
theorem sL_law_217 : ab_X rom K cL_law 12 2 217 (v0 :: v1 :: v2 :: .int x :: ls) st hp = ab_X rom K cL_law 12 2 218 (v0 :: v1 :: v2 :: .int x :: ls) (.int x :: st) hp := ax_iload_n dL_law_217 rfl rfl
theorem dL_law_218 : decode cL_law 218 = .ok (.iconst 4, 1) := by decide +kernel
theorem sL_law_218 : ab_X rom K cL_law 12 2 218 ls st hp = ab_X rom K cL_law 12 2 219 ls (.int 4 :: st) hp := ax_iconst dL_law_218 (by decide) rfl
theorem dL_law_219 : decode cL_law 219 = .ok (.iadd, 1) := by decide +kernel
theorem sL_law_219 : ab_X rom K cL_law 12 2 219 ls (.int y :: .int x :: st) hp = ab_X rom K cL_law 12 2 220 ls (.int (x + y) :: st) hp := ax_iadd dL_law_219 rfl
theorem dL_law_220 : decode cL_law 220 = .ok (.iaload, 1) := by decide +kernel
theorem sL_law_220 : ab_X rom K cL_law 12 2 220 ls (.int x :: .ref a :: st) hp = (ab_ard rom 0 hp a x).bind (fun v => ab_X rom K cL_law 12 2 221 ls (.int v :: st) hp) := ax_iaload dL_law_220 rfl
theorem dL_law_221 : decode cL_law 221 = .ok (.aload_n 0, 1) := by decide +kernel
theorem sL_law_221 : ab_X rom K cL_law 12 2 221 (.ref a :: ls) st hp = ab_X rom K cL_law 12 2 222 (.ref a :: ls) (.ref a :: st) hp := ax_aload_n dL_law_221 rfl rfl
theorem dL_law_222 : decode cL_law 222 = .ok (.iload_n 3, 1) := by decide +kernel
theorem sL_law_222 : ab_X rom K cL_law 12 2 222 (v0 :: v1 :: v2 :: .int x :: ls) st hp = ab_X rom K cL_law 12 2 223 (v0 :: v1 :: v2 :: .int x :: ls) (.int x :: st) hp := ax_iload_n dL_law_222 rfl rfl
theorem dL_law_223 : decode cL_law 223 = .ok (.iconst 5, 1) := by decide +kernel
theorem sL_law_223 : ab_X rom K cL_law 12 2 223 ls st hp = ab_X rom K cL_law 12 2 224 ls (.int 5 :: st) hp := ax_iconst dL_law_223 (by decide) rfl
theorem dL_law_224 : decode cL_law 224 = .ok (.iadd, 1) := by decide +kernel
theorem sL_law_224 : ab_X rom K cL_law 12 2 224 ls (.int y :: .int x :: st) hp = ab_X rom K cL_law 12 2 225 ls (.int (x + y) :: st) hp := ax_iadd dL_law_224 rfl
theorem dL_law_225 : decode cL_law 225 = .ok (.iaload, 1) := by decide +kernel
theorem sL_law_225 : ab_X rom K cL_law 12 2 225 ls (.int x :: .ref a :: st) hp = (ab_ard rom 0 hp a x).bind (fun v => ab_X rom K cL_law 12 2 226 ls (.int v :: st) hp) := ax_iaload dL_law_225 rfl
theorem dL_law_226 : decode cL_law 226 = .ok (.invokevirtual 13, 3) := by decide +kernel
theorem sL_law_226_0 : ab_X rom K cL_law 12 2 226 ls [w5, w4, w3, w2, w1, .ref a] hp = if ab_iso hp a 6 = true then (K 92 (.ref a :: [w1, w2, w3, w4, w5]) hp).bind (fun o => ab_X rom K cL_law 12 2 229 ls (o.1.toList ++ []) o.2) else none := ay_virtual (as := [w1, w2, w3, w4, w5]) (st := []) dL_law_226 kc_12_13 rfl rfl (Nat.le_of_ble_eq_true rfl)
theorem sL_law_226_1 : ab_X rom K cL_law 12 2 226 ls [w5, w4, w3, w2, w1, .ref a, v0] hp = if ab_iso hp a 6 = true then (K 92 (.ref a :: [w1, w2, w3, w4, w5]) hp).bind (fun o => ab_X rom K cL_law 12 2 229 ls (o.1.toList ++ [v0]) o.2) else none := ay_virtual (as := [w1, w2, w3, w4, w5]) (st := [v0]) dL_law_226 kc_12_13 rfl rfl (Nat.le_of_ble_eq_true rfl)
theorem sL_law_226_2 : ab_X rom K cL_law 12 2 226 ls [w5, w4, w3, w2, w1, .ref a, v0, v1] hp = if ab_iso hp a 6 = true then (K 92 (.ref a :: [w1, w2, w3, w4, w5]) hp).bind (fun o => ab_X rom K cL_law 12 2 229 ls (o.1.toList ++ [v0, v1]) o.2) else none := ay_virtual (as := [w1, w2, w3, w4, w5]) (st := [v0, v1]) dL_law_226 kc_12_13 rfl rfl (Nat.le_of_ble_eq_true rfl)
theorem sL_law_226_3 : ab_X rom K cL_law 12 2 226 ls [w5, w4, w3, w2, w1, .ref a, v0, v1, v2] hp = if ab_iso hp a 6 = true then (K 92 (.ref a :: [w1, w2, w3, w4, w5]) hp).bind (fun o => ab_X rom K cL_law 12 2 229 ls (o.1.toList ++ [v0, v1, v2]) o.2) else none := ay_virtual (as := [w1, w2, w3, w4, w5]) (st := [v0, v1, v2]) dL_law_226 kc_12_13 rfl rfl (Nat.le_of_ble_eq_true rfl)
theorem dL_law_229 : decode cL_law 229 = .ok (.aload_n 2, 1) := by decide +kernel
theorem sL_law_229 : ab_X rom K cL_law 12 2 229 (v0 :: v1 :: .ref a :: ls) st hp = ab_X rom K cL_law 12 2 230 (v0 :: v1 :: .ref a :: ls) (.ref a :: st) hp := ax_aload_n dL_law_229 rfl rfl
theorem dL_law_230 : decode cL_law 230 = .ok (.aload_n 0, 1) := by decide +kernel
theorem sL_law_230 : ab_X rom K cL_law 12 2 230 (.ref a :: ls) st hp = ab_X rom K cL_law 12 2 231 (.ref a :: ls) (.ref a :: st) hp := ax_aload_n dL_law_230 rfl rfl
theorem dL_law_231 : decode cL_law 231 = .ok (.iload_n 3, 1) := by decide +kernel
theorem sL_law_231 : ab_X rom K cL_law 12 2 231 (v0 :: v1 :: v2 :: .int x :: ls) st hp = ab_X rom K cL_law 12 2 232 (v0 :: v1 :: v2 :: .int x :: ls) (.int x :: st) hp := ax_iload_n dL_law_231 rfl rfl
theorem dL_law_232 : decode cL_law 232 = .ok (.iconst 1, 1) := by decide +kernel
theorem sL_law_232 : ab_X rom K cL_law 12 2 232 ls st hp = ab_X rom K cL_law 12 2 233 ls (.int 1 :: st) hp := ax_iconst dL_law_232 (by decide) rfl
theorem dL_law_233 : decode cL_law 233 = .ok (.iadd, 1) := by decide +kernel
theorem sL_law_233 : ab_X rom K cL_law 12 2 233 ls (.int y :: .int x :: st) hp = ab_X rom K cL_law 12 2 234 ls (.int (x + y) :: st) hp := ax_iadd dL_law_233 rfl
theorem dL_law_234 : decode cL_law 234 = .ok (.iaload, 1) := by decide +kernel
theorem sL_law_234 : ab_X rom K cL_law 12 2 234 ls (.int x :: .ref a :: st) hp = (ab_ard rom 0 hp a x).bind (fun v => ab_X rom K cL_law 12 2 235 ls (.int v :: st) hp) := ax_iaload dL_law_234 rfl
theorem dL_law_235 : decode cL_law 235 = .ok (.aload_n 0, 1) := by decide +kernel
theorem sL_law_235 : ab_X rom K cL_law 12 2 235 (.ref a :: ls) st hp = ab_X rom K cL_law 12 2 236 (.ref a :: ls) (.ref a :: st) hp := ax_aload_n dL_law_235 rfl rfl
theorem dL_law_236 : decode cL_law 236 = .ok (.iload_n 3, 1) := by decide +kernel
theorem sL_law_236 : ab_X rom K cL_law 12 2 236 (v0 :: v1 :: v2 :: .int x :: ls) st hp = ab_X rom K cL_law 12 2 237 (v0 :: v1 :: v2 :: .int x :: ls) (.int x :: st) hp := ax_iload_n dL_law_236 rfl rfl
theorem dL_law_237 : decode cL_law 237 = .ok (.iconst 2, 1) := by decide +kernel
theorem sL_law_237 : ab_X rom K cL_law 12 2 237 ls st hp = ab_X rom K cL_law 12 2 238 ls (.int 2 :: st) hp := ax_iconst dL_law_237 (by decide) rfl
theorem dL_law_238 : decode cL_law 238 = .ok (.iadd, 1) := by decide +kernel
theorem sL_law_238 : ab_X rom K cL_law 12 2 238 ls (.int y :: .int x :: st) hp = ab_X rom K cL_law 12 2 239 ls (.int (x + y) :: st) hp := ax_iadd dL_law_238 rfl
theorem dL_law_239 : decode cL_law 239 = .ok (.iaload, 1) := by decide +kernel
theorem sL_law_239 : ab_X rom K cL_law 12 2 239 ls (.int x :: .ref a :: st) hp = (ab_ard rom 0 hp a x).bind (fun v => ab_X rom K cL_law 12 2 240 ls (.int v :: st) hp) := ax_iaload dL_law_239 rfl
theorem dL_law_240 : decode cL_law 240 = .ok (.aload_n 0, 1) := by decide +kernel
theorem sL_law_240 : ab_X rom K cL_law 12 2 240 (.ref a :: ls) st hp = ab_X rom K cL_law 12 2 241 (.ref a :: ls) (.ref a :: st) hp := ax_aload_n dL_law_240 rfl rfl
theorem dL_law_241 : decode cL_law 241 = .ok (.iload_n 3, 1) := by decide +kernel
theorem sL_law_241 : ab_X rom K cL_law 12 2 241 (v0 :: v1 :: v2 :: .int x :: ls) st hp = ab_X rom K cL_law 12 2 242 (v0 :: v1 :: v2 :: .int x :: ls) (.int x :: st) hp := ax_iload_n dL_law_241 rfl rfl
theorem dL_law_242 : decode cL_law 242 = .ok (.iconst 3, 1) := by decide +kernel
theorem sL_law_242 : ab_X rom K cL_law 12 2 242 ls st hp = ab_X rom K cL_law 12 2 243 ls (.int 3 :: st) hp := ax_iconst dL_law_242 (by decide) rfl
theorem dL_law_243 : decode cL_law 243 = .ok (.iadd, 1) := by decide +kernel
theorem sL_law_243 : ab_X rom K cL_law 12 2 243 ls (.int y :: .int x :: st) hp = ab_X rom K cL_law 12 2 244 ls (.int (x + y) :: st) hp := ax_iadd dL_law_243 rfl
theorem dL_law_244 : decode cL_law 244 = .ok (.iaload, 1) := by decide +kernel
theorem sL_law_244 : ab_X rom K cL_law 12 2 244 ls (.int x :: .ref a :: st) hp = (ab_ard rom 0 hp a x).bind (fun v => ab_X rom K cL_law 12 2 245 ls (.int v :: st) hp) := ax_iaload dL_law_244 rfl
theorem dL_law_245 : decode cL_law 245 = .ok (.aload_n 0, 1) := by decide +kernel
theorem sL_law_245 : ab_X rom K cL_law 12 2 245 (.ref a :: ls) st hp = ab_X rom K cL_law 12 2 246 (.ref a :: ls) (.ref a :: st) hp := ax_aload_n dL_law_245 rfl rfl
theorem dL_law_246 : decode cL_law 246 = .ok (.iload_n 3, 1) := by decide +kernel
theorem sL_law_246 : ab_X rom K cL_law 12 2 246 (v0 :: v1 :: v2 :: .int x :: ls) st hp = ab_X rom K cL_law 12 2 247 (v0 :: v1 :: v2 :: .int x :: ls) (.int x :: st) hp := ax_iload_n dL_law_246 rfl rfl
theorem dL_law_247 : decode cL_law 247 = .ok (.iconst 4, 1) := by decide +kernel
theorem sL_law_247 : ab_X rom K cL_law 12 2 247 ls st hp = ab_X rom K cL_law 12 2 248 ls (.int 4 :: st) hp := ax_iconst dL_law_247 (by decide) rfl
theorem dL_law_248 : decode cL_law 248 = .ok (.iadd, 1) := by decide +kernel
theorem sL_law_248 : ab_X rom K cL_law 12 2 248 ls (.int y :: .int x :: st) hp = ab_X rom K cL_law 12 2 249 ls (.int (x + y) :: st) hp := ax_iadd dL_law_248 rfl
theorem dL_law_249 : decode cL_law 249 = .ok (.iaload, 1) := by decide +kernel
theorem sL_law_249 : ab_X rom K cL_law 12 2 249 ls (.int x :: .ref a :: st) hp = (ab_ard rom 0 hp a x).bind (fun v => ab_X rom K cL_law 12 2 250 ls (.int v :: st) hp) := ax_iaload dL_law_249 rfl
theorem dL_law_250 : decode cL_law 250 = .ok (.aload_n 0, 1) := by decide +kernel
theorem sL_law_250 : ab_X rom K cL_law 12 2 250 (.ref a :: ls) st hp = ab_X rom K cL_law 12 2 251 (.ref a :: ls) (.ref a :: st) hp := ax_aload_n dL_law_250 rfl rfl
theorem dL_law_251 : decode cL_law 251 = .ok (.iload_n 3, 1) := by decide +kernel
theorem sL_law_251 : ab_X rom K cL_law 12 2 251 (v0 :: v1 :: v2 :: .int x :: ls) st hp = ab_X rom K cL_law 12 2 252 (v0 :: v1 :: v2 :: .int x :: ls) (.int x :: st) hp := ax_iload_n dL_law_251 rfl rfl
theorem dL_law_252 : decode cL_law 252 = .ok (.iconst 5, 1) := by decide +kernel
theorem sL_law_252 : ab_X rom K cL_law 12 2 252 ls st hp = ab_X rom K cL_law 12 2 253 ls (.int 5 :: st) hp := ax_iconst dL_law_252 (by decide) rfl
theorem dL_law_253 : decode cL_law 253 = .ok (.iadd, 1) := by decide +kernel
theorem sL_law_253 : ab_X rom K cL_law 12 2 253 ls (.int y :: .int x :: st) hp = ab_X rom K cL_law 12 2 254 ls (.int (x + y) :: st) hp := ax_iadd dL_law_253 rfl
theorem dL_law_254 : decode cL_law 254 = .ok (.iaload, 1) := by decide +kernel
theorem sL_law_254 : ab_X rom K cL_law 12 2 254 ls (.int x :: .ref a :: st) hp = (ab_ard rom 0 hp a x).bind (fun v => ab_X rom K cL_law 12 2 255 ls (.int v :: st) hp) := ax_iaload dL_law_254 rfl
theorem dL_law_255 : decode cL_law 255 = .ok (.invokevirtual 17, 3) := by decide +kernel
theorem sL_law_255_0 : ab_X rom K cL_law 12 2 255 ls [w5, w4, w3, w2, w1, .ref a] hp = if ab_iso hp a 7 = true then (K 153 (.ref a :: [w1, w2, w3, w4, w5]) hp).bind (fun o => ab_X rom K cL_law 12 2 258 ls (o.1.toList ++ []) o.2) else none := ay_virtual (as := [w1, w2, w3, w4, w5]) (st := []) dL_law_255 kc_12_17 rfl rfl (Nat.le_of_ble_eq_true rfl)
theorem sL_law_255_1 : ab_X rom K cL_law 12 2 255 ls [w5, w4, w3, w2, w1, .ref a, v0] hp = if ab_iso hp a 7 = true then (K 153 (.ref a :: [w1, w2, w3, w4, w5]) hp).bind (fun o => ab_X rom K cL_law 12 2 258 ls (o.1.toList ++ [v0]) o.2) else none := ay_virtual (as := [w1, w2, w3, w4, w5]) (st := [v0]) dL_law_255 kc_12_17 rfl rfl (Nat.le_of_ble_eq_true rfl)
theorem sL_law_255_2 : ab_X rom K cL_law 12 2 255 ls [w5, w4, w3, w2, w1, .ref a, v0, v1] hp = if ab_iso hp a 7 = true then (K 153 (.ref a :: [w1, w2, w3, w4, w5]) hp).bind (fun o => ab_X rom K cL_law 12 2 258 ls (o.1.toList ++ [v0, v1]) o.2) else none := ay_virtual (as := [w1, w2, w3, w4, w5]) (st := [v0, v1]) dL_law_255 kc_12_17 rfl rfl (Nat.le_of_ble_eq_true rfl)
theorem sL_law_255_3 : ab_X rom K cL_law 12 2 255 ls [w5, w4, w3, w2, w1, .ref a, v0, v1, v2] hp = if ab_iso hp a 7 = true then (K 153 (.ref a :: [w1, w2, w3, w4, w5]) hp).bind (fun o => ab_X rom K cL_law 12 2 258 ls (o.1.toList ++ [v0, v1, v2]) o.2) else none := ay_virtual (as := [w1, w2, w3, w4, w5]) (st := [v0, v1, v2]) dL_law_255 kc_12_17 rfl rfl (Nat.le_of_ble_eq_true rfl)
theorem dL_law_258 : decode cL_law 258 = .ok (.if_icmp .eq 1226, 3) := by decide +kernel
theorem sL_law_258 : ab_X rom K cL_law 12 2 258 ls (.int y :: .int x :: st) hp = if x = y then ab_X rom K cL_law 12 2 1484 ls st hp else ab_X rom K cL_law 12 2 261 ls st hp := ax_icmp_eq dL_law_258 (by decide) rfl
theorem dL_law_263 : decode cL_law 263 = .ok (.aload_n 1, 1) := by decide +kernel
theorem sL_law_263 : ab_X rom K cL_law 12 2 263 (v0 :: .ref a :: ls) st hp = ab_X rom K cL_law 12 2 264 (v0 :: .ref a :: ls) (.ref a :: st) hp := ax_aload_n dL_law_263 rfl rfl
theorem dL_law_264 : decode cL_law 264 = .ok (.aload_n 0, 1) := by decide +kernel
theorem sL_law_264 : ab_X rom K cL_law 12 2 264 (.ref a :: ls) st hp = ab_X rom K cL_law 12 2 265 (.ref a :: ls) (.ref a :: st) hp := ax_aload_n dL_law_264 rfl rfl
theorem dL_law_265 : decode cL_law 265 = .ok (.iload_n 3, 1) := by decide +kernel
theorem sL_law_265 : ab_X rom K cL_law 12 2 265 (v0 :: v1 :: v2 :: .int x :: ls) st hp = ab_X rom K cL_law 12 2 266 (v0 :: v1 :: v2 :: .int x :: ls) (.int x :: st) hp := ax_iload_n dL_law_265 rfl rfl
theorem dL_law_266 : decode cL_law 266 = .ok (.iconst 1, 1) := by decide +kernel
theorem sL_law_266 : ab_X rom K cL_law 12 2 266 ls st hp = ab_X rom K cL_law 12 2 267 ls (.int 1 :: st) hp := ax_iconst dL_law_266 (by decide) rfl
theorem dL_law_267 : decode cL_law 267 = .ok (.iadd, 1) := by decide +kernel
theorem sL_law_267 : ab_X rom K cL_law 12 2 267 ls (.int y :: .int x :: st) hp = ab_X rom K cL_law 12 2 268 ls (.int (x + y) :: st) hp := ax_iadd dL_law_267 rfl
theorem dL_law_268 : decode cL_law 268 = .ok (.iaload, 1) := by decide +kernel
theorem sL_law_268 : ab_X rom K cL_law 12 2 268 ls (.int x :: .ref a :: st) hp = (ab_ard rom 0 hp a x).bind (fun v => ab_X rom K cL_law 12 2 269 ls (.int v :: st) hp) := ax_iaload dL_law_268 rfl
theorem dL_law_269 : decode cL_law 269 = .ok (.invokevirtual 18, 3) := by decide +kernel
theorem sL_law_269_0 : ab_X rom K cL_law 12 2 269 ls [w1, .ref a] hp = if ab_iso hp a 6 = true then (K 89 (.ref a :: [w1]) hp).bind (fun o => ab_X rom K cL_law 12 2 272 ls (o.1.toList ++ []) o.2) else none := ay_virtual (as := [w1]) (st := []) dL_law_269 kc_12_18 rfl rfl (Nat.le_of_ble_eq_true rfl)
theorem sL_law_269_1 : ab_X rom K cL_law 12 2 269 ls [w1, .ref a, v0] hp = if ab_iso hp a 6 = true then (K 89 (.ref a :: [w1]) hp).bind (fun o => ab_X rom K cL_law 12 2 272 ls (o.1.toList ++ [v0]) o.2) else none := ay_virtual (as := [w1]) (st := [v0]) dL_law_269 kc_12_18 rfl rfl (Nat.le_of_ble_eq_true rfl)
theorem sL_law_269_2 : ab_X rom K cL_law 12 2 269 ls [w1, .ref a, v0, v1] hp = if ab_iso hp a 6 = true then (K 89 (.ref a :: [w1]) hp).bind (fun o => ab_X rom K cL_law 12 2 272 ls (o.1.toList ++ [v0, v1]) o.2) else none := ay_virtual (as := [w1]) (st := [v0, v1]) dL_law_269 kc_12_18 rfl rfl (Nat.le_of_ble_eq_true rfl)
theorem sL_law_269_3 : ab_X rom K cL_law 12 2 269 ls [w1, .ref a, v0, v1, v2] hp = if ab_iso hp a 6 = true then (K 89 (.ref a :: [w1]) hp).bind (fun o => ab_X rom K cL_law 12 2 272 ls (o.1.toList ++ [v0, v1, v2]) o.2) else none := ay_virtual (as := [w1]) (st := [v0, v1, v2]) dL_law_269 kc_12_18 rfl rfl (Nat.le_of_ble_eq_true rfl)
theorem dL_law_272 : decode cL_law 272 = .ok (.aload_n 2, 1) := by decide +kernel
theorem sL_law_272 : ab_X rom K cL_law 12 2 272 (v0 :: v1 :: .ref a :: ls) st hp = ab_X rom K cL_law 12 2 273 (v0 :: v1 :: .ref a :: ls) (.ref a :: st) hp := ax_aload_n dL_law_272 rfl rfl
theorem dL_law_273 : decode cL_law 273 = .ok (.aload_n 0, 1) := by decide +kernel
theorem sL_law_273 : ab_X rom K cL_law 12 2 273 (.ref a :: ls) st hp = ab_X rom K cL_law 12 2 274 (.ref a :: ls) (.ref a :: st) hp := ax_aload_n dL_law_273 rfl rfl
theorem dL_law_274 : decode cL_law 274 = .ok (.iload_n 3, 1) := by decide +kernel
theorem sL_law_274 : ab_X rom K cL_law 12 2 274 (v0 :: v1 :: v2 :: .int x :: ls) st hp = ab_X rom K cL_law 12 2 275 (v0 :: v1 :: v2 :: .int x :: ls) (.int x :: st) hp := ax_iload_n dL_law_274 rfl rfl
theorem dL_law_275 : decode cL_law 275 = .ok (.iconst 1, 1) := by decide +kernel
theorem sL_law_275 : ab_X rom K cL_law 12 2 275 ls st hp = ab_X rom K cL_law 12 2 276 ls (.int 1 :: st) hp := ax_iconst dL_law_275 (by decide) rfl
theorem dL_law_276 : decode cL_law 276 = .ok (.iadd, 1) := by decide +kernel
theorem sL_law_276 : ab_X rom K cL_law 12 2 276 ls (.int y :: .int x :: st) hp = ab_X rom K cL_law 12 2 277 ls (.int (x + y) :: st) hp := ax_iadd dL_law_276 rfl
theorem dL_law_277 : decode cL_law 277 = .ok (.iaload, 1) := by decide +kernel
theorem sL_law_277 : ab_X rom K cL_law 12 2 277 ls (.int x :: .ref a :: st) hp = (ab_ard rom 0 hp a x).bind (fun v => ab_X rom K cL_law 12 2 278 ls (.int v :: st) hp) := ax_iaload dL_law_277 rfl
theorem dL_law_278 : decode cL_law 278 = .ok (.invokevirtual 22, 3) := by decide +kernel
theorem sL_law_278_0 : ab_X rom K cL_law 12 2 278 ls [w1, .ref a] hp = if ab_iso hp a 7 = true then (K 149 (.ref a :: [w1]) hp).bind (fun o => ab_X rom K cL_law 12 2 281 ls (o.1.toList ++ []) o.2) else none := ay_virtual (as := [w1]) (st := []) dL_law_278 kc_12_22 rfl rfl (Nat.le_of_ble_eq_true rfl)
theorem sL_law_278_1 : ab_X rom K cL_law 12 2 278 ls [w1, .ref a, v0] hp = if ab_iso hp a 7 = true then (K 149 (.ref a :: [w1]) hp).bind (fun o => ab_X rom K cL_law 12 2 281 ls (o.1.toList ++ [v0]) o.2) else none := ay_virtual (as := [w1]) (st := [v0]) dL_law_278 kc_12_22 rfl rfl (Nat.le_of_ble_eq_true rfl)
theorem sL_law_278_2 : ab_X rom K cL_law 12 2 278 ls [w1, .ref a, v0, v1] hp = if ab_iso hp a 7 = true then (K 149 (.ref a :: [w1]) hp).bind (fun o => ab_X rom K cL_law 12 2 281 ls (o.1.toList ++ [v0, v1]) o.2) else none := ay_virtual (as := [w1]) (st := [v0, v1]) dL_law_278 kc_12_22 rfl rfl (Nat.le_of_ble_eq_true rfl)
theorem sL_law_278_3 : ab_X rom K cL_law 12 2 278 ls [w1, .ref a, v0, v1, v2] hp = if ab_iso hp a 7 = true then (K 149 (.ref a :: [w1]) hp).bind (fun o => ab_X rom K cL_law 12 2 281 ls (o.1.toList ++ [v0, v1, v2]) o.2) else none := ay_virtual (as := [w1]) (st := [v0, v1, v2]) dL_law_278 kc_12_22 rfl rfl (Nat.le_of_ble_eq_true rfl)
theorem dL_law_281 : decode cL_law 281 = .ok (.if_icmp .eq 1203, 3) := by decide +kernel
theorem sL_law_281 : ab_X rom K cL_law 12 2 281 ls (.int y :: .int x :: st) hp = if x = y then ab_X rom K cL_law 12 2 1484 ls st hp else ab_X rom K cL_law 12 2 284 ls st hp := ax_icmp_eq dL_law_281 (by decide) rfl
theorem dL_law_286 : decode cL_law 286 = .ok (.aload_n 1, 1) := by decide +kernel
theorem sL_law_286 : ab_X rom K cL_law 12 2 286 (v0 :: .ref a :: ls) st hp = ab_X rom K cL_law 12 2 287 (v0 :: .ref a :: ls) (.ref a :: st) hp := ax_aload_n dL_law_286 rfl rfl
theorem dL_law_287 : decode cL_law 287 = .ok (.aload_n 0, 1) := by decide +kernel
theorem sL_law_287 : ab_X rom K cL_law 12 2 287 (.ref a :: ls) st hp = ab_X rom K cL_law 12 2 288 (.ref a :: ls) (.ref a :: st) hp := ax_aload_n dL_law_287 rfl rfl
theorem dL_law_288 : decode cL_law 288 = .ok (.iload_n 3, 1) := by decide +kernel
theorem sL_law_288 : ab_X rom K cL_law 12 2 288 (v0 :: v1 :: v2 :: .int x :: ls) st hp = ab_X rom K cL_law 12 2 289 (v0 :: v1 :: v2 :: .int x :: ls) (.int x :: st) hp := ax_iload_n dL_law_288 rfl rfl
theorem dL_law_289 : decode cL_law 289 = .ok (.iconst 1, 1) := by decide +kernel
theorem sL_law_289 : ab_X rom K cL_law 12 2 289 ls st hp = ab_X rom K cL_law 12 2 290 ls (.int 1 :: st) hp := ax_iconst dL_law_289 (by decide) rfl
theorem dL_law_290 : decode cL_law 290 = .ok (.iadd, 1) := by decide +kernel
theorem sL_law_290 : ab_X rom K cL_law 12 2 290 ls (.int y :: .int x :: st) hp = ab_X rom K cL_law 12 2 291 ls (.int (x + y) :: st) hp := ax_iadd dL_law_290 rfl
theorem dL_law_291 : decode cL_law 291 = .ok (.iaload, 1) := by decide +kernel
theorem sL_law_291 : ab_X rom K cL_law 12 2 291 ls (.int x :: .ref a :: st) hp = (ab_ard rom 0 hp a x).bind (fun v => ab_X rom K cL_law 12 2 292 ls (.int v :: st) hp) := ax_iaload dL_law_291 rfl
theorem dL_law_292 : decode cL_law 292 = .ok (.invokevirtual 23, 3) := by decide +kernel
theorem sL_law_292_0 : ab_X rom K cL_law 12 2 292 ls [w1, .ref a] hp = if ab_iso hp a 6 = true then (K 121 (.ref a :: [w1]) hp).bind (fun o => ab_X rom K cL_law 12 2 295 ls (o.1.toList ++ []) o.2) else none := ay_virtual (as := [w1]) (st := []) dL_law_292 kc_12_23 rfl rfl (Nat.le_of_ble_eq_true rfl)
theorem sL_law_292_1 : ab_X rom K cL_law 12 2 292 ls [w1, .ref a, v0] hp = if ab_iso hp a 6 = true then (K 121 (.ref a :: [w1]) hp).bind (fun o => ab_X rom K cL_law 12 2 295 ls (o.1.toList ++ [v0]) o.2) else none := ay_virtual (as := [w1]) (st := [v0]) dL_law_292 kc_12_23 rfl rfl (Nat.le_of_ble_eq_true rfl)
theorem sL_law_292_2 : ab_X rom K cL_law 12 2 292 ls [w1, .ref a, v0, v1] hp = if ab_iso hp a 6 = true then (K 121 (.ref a :: [w1]) hp).bind (fun o => ab_X rom K cL_law 12 2 295 ls (o.1.toList ++ [v0, v1]) o.2) else none := ay_virtual (as := [w1]) (st := [v0, v1]) dL_law_292 kc_12_23 rfl rfl (Nat.le_of_ble_eq_true rfl)
theorem sL_law_292_3 : ab_X rom K cL_law 12 2 292 ls [w1, .ref a, v0, v1, v2] hp = if ab_iso hp a 6 = true then (K 121 (.ref a :: [w1]) hp).bind (fun o => ab_X rom K cL_law 12 2 295 ls (o.1.toList ++ [v0, v1, v2]) o.2) else none := ay_virtual (as := [w1]) (st := [v0, v1, v2]) dL_law_292 kc_12_23 rfl rfl (Nat.le_of_ble_eq_true rfl)
theorem dL_law_295 : decode cL_law 295 = .ok (.aload_n 2, 1) := by decide +kernel
theorem sL_law_295 : ab_X rom K cL_law 12 2 295 (v0 :: v1 :: .ref a :: ls) st hp = ab_X rom K cL_law 12 2 296 (v0 :: v1 :: .ref a :: ls) (.ref a :: st) hp := ax_aload_n dL_law_295 rfl rfl
theorem dL_law_296 : decode cL_law 296 = .ok (.aload_n 0, 1) := by decide +kernel
theorem sL_law_296 : ab_X rom K cL_law 12 2 296 (.ref a :: ls) st hp = ab_X rom K cL_law 12 2 297 (.ref a :: ls) (.ref a :: st) hp := ax_aload_n dL_law_296 rfl rfl
theorem dL_law_297 : decode cL_law 297 = .ok (.iload_n 3, 1) := by decide +kernel
theorem sL_law_297 : ab_X rom K cL_law 12 2 297 (v0 :: v1 :: v2 :: .int x :: ls) st hp = ab_X rom K cL_law 12 2 298 (v0 :: v1 :: v2 :: .int x :: ls) (.int x :: st) hp := ax_iload_n dL_law_297 rfl rfl
theorem dL_law_298 : decode cL_law 298 = .ok (.iconst 1, 1) := by decide +kernel
theorem sL_law_298 : ab_X rom K cL_law 12 2 298 ls st hp = ab_X rom K cL_law 12 2 299 ls (.int 1 :: st) hp := ax_iconst dL_law_298 (by decide) rfl
theorem dL_law_299 : decode cL_law 299 = .ok (.iadd, 1) := by decide +kernel
theorem sL_law_299 : ab_X rom K cL_law 12 2 299 ls (.int y :: .int x :: st) hp = ab_X rom K cL_law 12 2 300 ls (.int (x + y) :: st) hp := ax_iadd dL_law_299 rfl
theorem dL_law_300 : decode cL_law 300 = .ok (.iaload, 1) := by decide +kernel
theorem sL_law_300 : ab_X rom K cL_law 12 2 300 ls (.int x :: .ref a :: st) hp = (ab_ard rom 0 hp a x).bind (fun v => ab_X rom K cL_law 12 2 301 ls (.int v :: st) hp) := ax_iaload dL_law_300 rfl
theorem dL_law_301 : decode cL_law 301 = .ok (.invokevirtual 26, 3) := by decide +kernel
theorem sL_law_301_0 : ab_X rom K cL_law 12 2 301 ls [w1, .ref a] hp = if ab_iso hp a 7 = true then (K 231 (.ref a :: [w1]) hp).bind (fun o => ab_X rom K cL_law 12 2 304 ls (o.1.toList ++ []) o.2) else none := ay_virtual (as := [w1]) (st := []) dL_law_301 kc_12_26 rfl rfl (Nat.le_of_ble_eq_true rfl)
theorem sL_law_301_1 : ab_X rom K cL_law 12 2 301 ls [w1, .ref a, v0] hp = if ab_iso hp a 7 = true then (K 231 (.ref a :: [w1]) hp).bind (fun o => ab_X rom K cL_law 12 2 304 ls (o.1.toList ++ [v0]) o.2) else none := ay_virtual (as := [w1]) (st := [v0]) dL_law_301 kc_12_26 rfl rfl (Nat.le_of_ble_eq_true rfl)
theorem sL_law_301_2 : ab_X rom K cL_law 12 2 301 ls [w1, .ref a, v0, v1] hp = if ab_iso hp a 7 = true then (K 231 (.ref a :: [w1]) hp).bind (fun o => ab_X rom K cL_law 12 2 304 ls (o.1.toList ++ [v0, v1]) o.2) else none := ay_virtual (as := [w1]) (st := [v0, v1]) dL_law_301 kc_12_26 rfl rfl (Nat.le_of_ble_eq_true rfl)
theorem sL_law_301_3 : ab_X rom K cL_law 12 2 301 ls [w1, .ref a, v0, v1, v2] hp = if ab_iso hp a 7 = true then (K 231 (.ref a :: [w1]) hp).bind (fun o => ab_X rom K cL_law 12 2 304 ls (o.1.toList ++ [v0, v1, v2]) o.2) else none := ay_virtual (as := [w1]) (st := [v0, v1, v2]) dL_law_301 kc_12_26 rfl rfl (Nat.le_of_ble_eq_true rfl)
theorem dL_law_304 : decode cL_law 304 = .ok (.if_icmp .eq 1180, 3) := by decide +kernel
theorem sL_law_304 : ab_X rom K cL_law 12 2 304 ls (.int y :: .int x :: st) hp = if x = y then ab_X rom K cL_law 12 2 1484 ls st hp else ab_X rom K cL_law 12 2 307 ls st hp := ax_icmp_eq dL_law_304 (by decide) rfl
theorem dL_law_309 : decode cL_law 309 = .ok (.aload_n 1, 1) := by decide +kernel
theorem sL_law_309 : ab_X rom K cL_law 12 2 309 (v0 :: .ref a :: ls) st hp = ab_X rom K cL_law 12 2 310 (v0 :: .ref a :: ls) (.ref a :: st) hp := ax_aload_n dL_law_309 rfl rfl
theorem dL_law_310 : decode cL_law 310 = .ok (.aload_n 0, 1) := by decide +kernel
theorem sL_law_310 : ab_X rom K cL_law 12 2 310 (.ref a :: ls) st hp = ab_X rom K cL_law 12 2 311 (.ref a :: ls) (.ref a :: st) hp := ax_aload_n dL_law_310 rfl rfl
theorem dL_law_311 : decode cL_law 311 = .ok (.iload_n 3, 1) := by decide +kernel
theorem sL_law_311 : ab_X rom K cL_law 12 2 311 (v0 :: v1 :: v2 :: .int x :: ls) st hp = ab_X rom K cL_law 12 2 312 (v0 :: v1 :: v2 :: .int x :: ls) (.int x :: st) hp := ax_iload_n dL_law_311 rfl rfl
theorem dL_law_312 : decode cL_law 312 = .ok (.iconst 1, 1) := by decide +kernel
theorem sL_law_312 : ab_X rom K cL_law 12 2 312 ls st hp = ab_X rom K cL_law 12 2 313 ls (.int 1 :: st) hp := ax_iconst dL_law_312 (by decide) rfl
theorem dL_law_313 : decode cL_law 313 = .ok (.iadd, 1) := by decide +kernel
theorem sL_law_313 : ab_X rom K cL_law 12 2 313 ls (.int y :: .int x :: st) hp = ab_X rom K cL_law 12 2 314 ls (.int (x + y) :: st) hp := ax_iadd dL_law_313 rfl
theorem dL_law_314 : decode cL_law 314 = .ok (.iaload, 1) := by decide +kernel
theorem sL_law_314 : ab_X rom K cL_law 12 2 314 ls (.int x :: .ref a :: st) hp = (ab_ard rom 0 hp a x).bind (fun v => ab_X rom K cL_law 12 2 315 ls (.int v :: st) hp) := ax_iaload dL_law_314 rfl
theorem dL_law_315 : decode cL_law 315 = .ok (.invokevirtual 27, 3) := by decide +kernel
theorem sL_law_315_0 : ab_X rom K cL_law 12 2 315 ls [w1, .ref a] hp = if ab_iso hp a 6 = true then (K 91 (.ref a :: [w1]) hp).bind (fun o => ab_X rom K cL_law 12 2 318 ls (o.1.toList ++ []) o.2) else none := ay_virtual (as := [w1]) (st := []) dL_law_315 kc_12_27 rfl rfl (Nat.le_of_ble_eq_true rfl)
theorem sL_law_315_1 : ab_X rom K cL_law 12 2 315 ls [w1, .ref a, v0] hp = if ab_iso hp a 6 = true then (K 91 (.ref a :: [w1]) hp).bind (fun o => ab_X rom K cL_law 12 2 318 ls (o.1.toList ++ [v0]) o.2) else none := ay_virtual (as := [w1]) (st := [v0]) dL_law_315 kc_12_27 rfl rfl (Nat.le_of_ble_eq_true rfl)
theorem sL_law_315_2 : ab_X rom K cL_law 12 2 315 ls [w1, .ref a, v0, v1] hp = if ab_iso hp a 6 = true then (K 91 (.ref a :: [w1]) hp).bind (fun o => ab_X rom K cL_law 12 2 318 ls (o.1.toList ++ [v0, v1]) o.2) else none := ay_virtual (as := [w1]) (st := [v0, v1]) dL_law_315 kc_12_27 rfl rfl (Nat.le_of_ble_eq_true rfl)
theorem sL_law_315_3 : ab_X rom K cL_law 12 2 315 ls [w1, .ref a, v0, v1, v2] hp = if ab_iso hp a 6 = true then (K 91 (.ref a :: [w1]) hp).bind (fun o => ab_X rom K cL_law 12 2 318 ls (o.1.toList ++ [v0, v1, v2]) o.2) else none := ay_virtual (as := [w1]) (st := [v0, v1, v2]) dL_law_315 kc_12_27 rfl rfl (Nat.le_of_ble_eq_true rfl)
theorem dL_law_318 : decode cL_law 318 = .ok (.aload_n 2, 1) := by decide +kernel
theorem sL_law_318 : ab_X rom K cL_law 12 2 318 (v0 :: v1 :: .ref a :: ls) st hp = ab_X rom K cL_law 12 2 319 (v0 :: v1 :: .ref a :: ls) (.ref a :: st) hp := ax_aload_n dL_law_318 rfl rfl
theorem dL_law_319 : decode cL_law 319 = .ok (.aload_n 0, 1) := by decide +kernel
theorem sL_law_319 : ab_X rom K cL_law 12 2 319 (.ref a :: ls) st hp = ab_X rom K cL_law 12 2 320 (.ref a :: ls) (.ref a :: st) hp := ax_aload_n dL_law_319 rfl rfl
theorem dL_law_320 : decode cL_law 320 = .ok (.iload_n 3, 1) := by decide +kernel
theorem sL_law_320 : ab_X rom K cL_law 12 2 320 (v0 :: v1 :: v2 :: .int x :: ls) st hp = ab_X rom K cL_law 12 2 321 (v0 :: v1 :: v2 :: .int x :: ls) (.int x :: st) hp := ax_iload_n dL_law_320 rfl rfl
theorem dL_law_321 : decode cL_law 321 = .ok (.iconst 1, 1) := by decide +kernel
theorem sL_law_321 : ab_X rom K cL_law 12 2 321 ls st hp = ab_X rom K cL_law 12 2 322 ls (.int 1 :: st) hp := ax_iconst dL_law_321 (by decide) rfl
theorem dL_law_322 : decode cL_law 322 = .ok (.iadd, 1) := by decide +kernel
theorem sL_law_322 : ab_X rom K cL_law 12 2 322 ls (.int y :: .int x :: st) hp = ab_X rom K cL_law 12 2 323 ls (.int (x + y) :: st) hp := ax_iadd dL_law_322 rfl
theorem dL_law_323 : decode cL_law 323 = .ok (.iaload, 1) := by decide +kernel
theorem sL_law_323 : ab_X rom K cL_law 12 2 323 ls (.int x :: .ref a :: st) hp = (ab_ard rom 0 hp a x).bind (fun v => ab_X rom K cL_law 12 2 324 ls (.int v :: st) hp) := ax_iaload dL_law_323 rfl
theorem dL_law_324 : decode cL_law 324 = .ok (.invokevirtual 30, 3) := by decide +kernel
theorem sL_law_324_0 : ab_X rom K cL_law 12 2 324 ls [w1, .ref a] hp = if ab_iso hp a 7 = true then (K 151 (.ref a :: [w1]) hp).bind (fun o => ab_X rom K cL_law 12 2 327 ls (o.1.toList ++ []) o.2) else none := ay_virtual (as := [w1]) (st := []) dL_law_324 kc_12_30 rfl rfl (Nat.le_of_ble_eq_true rfl)
theorem sL_law_324_1 : ab_X rom K cL_law 12 2 324 ls [w1, .ref a, v0] hp = if ab_iso hp a 7 = true then (K 151 (.ref a :: [w1]) hp).bind (fun o => ab_X rom K cL_law 12 2 327 ls (o.1.toList ++ [v0]) o.2) else none := ay_virtual (as := [w1]) (st := [v0]) dL_law_324 kc_12_30 rfl rfl (Nat.le_of_ble_eq_true rfl)
theorem sL_law_324_2 : ab_X rom K cL_law 12 2 324 ls [w1, .ref a, v0, v1] hp = if ab_iso hp a 7 = true then (K 151 (.ref a :: [w1]) hp).bind (fun o => ab_X rom K cL_law 12 2 327 ls (o.1.toList ++ [v0, v1]) o.2) else none := ay_virtual (as := [w1]) (st := [v0, v1]) dL_law_324 kc_12_30 rfl rfl (Nat.le_of_ble_eq_true rfl)
theorem sL_law_324_3 : ab_X rom K cL_law 12 2 324 ls [w1, .ref a, v0, v1, v2] hp = if ab_iso hp a 7 = true then (K 151 (.ref a :: [w1]) hp).bind (fun o => ab_X rom K cL_law 12 2 327 ls (o.1.toList ++ [v0, v1, v2]) o.2) else none := ay_virtual (as := [w1]) (st := [v0, v1, v2]) dL_law_324 kc_12_30 rfl rfl (Nat.le_of_ble_eq_true rfl)
theorem dL_law_327 : decode cL_law 327 = .ok (.if_icmp .eq 1157, 3) := by decide +kernel
theorem sL_law_327 : ab_X rom K cL_law 12 2 327 ls (.int y :: .int x :: st) hp = if x = y then ab_X rom K cL_law 12 2 1484 ls st hp else ab_X rom K cL_law 12 2 330 ls st hp := ax_icmp_eq dL_law_327 (by decide) rfl
theorem dL_law_332 : decode cL_law 332 = .ok (.aload_n 1, 1) := by decide +kernel
theorem sL_law_332 : ab_X rom K cL_law 12 2 332 (v0 :: .ref a :: ls) st hp = ab_X rom K cL_law 12 2 333 (v0 :: .ref a :: ls) (.ref a :: st) hp := ax_aload_n dL_law_332 rfl rfl
theorem dL_law_333 : decode cL_law 333 = .ok (.aload_n 0, 1) := by decide +kernel
theorem sL_law_333 : ab_X rom K cL_law 12 2 333 (.ref a :: ls) st hp = ab_X rom K cL_law 12 2 334 (.ref a :: ls) (.ref a :: st) hp := ax_aload_n dL_law_333 rfl rfl
theorem dL_law_334 : decode cL_law 334 = .ok (.iload_n 3, 1) := by decide +kernel
theorem sL_law_334 : ab_X rom K cL_law 12 2 334 (v0 :: v1 :: v2 :: .int x :: ls) st hp = ab_X rom K cL_law 12 2 335 (v0 :: v1 :: v2 :: .int x :: ls) (.int x :: st) hp := ax_iload_n dL_law_334 rfl rfl
theorem dL_law_335 : decode cL_law 335 = .ok (.iconst 1, 1) := by decide +kernel
theorem sL_law_335 : ab_X rom K cL_law 12 2 335 ls st hp = ab_X rom K cL_law 12 2 336 ls (.int 1 :: st) hp := ax_iconst dL_law_335 (by decide) rfl
theorem dL_law_336 : decode cL_law 336 = .ok (.iadd, 1) := by decide +kernel
theorem sL_law_336 : ab_X rom K cL_law 12 2 336 ls (.int y :: .int x :: st) hp = ab_X rom K cL_law 12 2 337 ls (.int (x + y) :: st) hp := ax_iadd dL_law_336 rfl
theorem dL_law_337 : decode cL_law 337 = .ok (.iaload, 1) := by decide +kernel
theorem sL_law_337 : ab_X rom K cL_law 12 2 337 ls (.int x :: .ref a :: st) hp = (ab_ard rom 0 hp a x).bind (fun v => ab_X rom K cL_law 12 2 338 ls (.int v :: st) hp) := ax_iaload dL_law_337 rfl
theorem dL_law_338 : decode cL_law 338 = .ok (.invokevirtual 31, 3) := by decide +kernel
theorem sL_law_338_0 : ab_X rom K cL_law 12 2 338 ls [w1, .ref a] hp = if ab_iso hp a 6 = true then (K 83 (.ref a :: [w1]) hp).bind (fun o => ab_X rom K cL_law 12 2 341 ls (o.1.toList ++ []) o.2) else none := ay_virtual (as := [w1]) (st := []) dL_law_338 kc_12_31 rfl rfl (Nat.le_of_ble_eq_true rfl)
theorem sL_law_338_1 : ab_X rom K cL_law 12 2 338 ls [w1, .ref a, v0] hp = if ab_iso hp a 6 = true then (K 83 (.ref a :: [w1]) hp).bind (fun o => ab_X rom K cL_law 12 2 341 ls (o.1.toList ++ [v0]) o.2) else none := ay_virtual (as := [w1]) (st := [v0]) dL_law_338 kc_12_31 rfl rfl (Nat.le_of_ble_eq_true rfl)
theorem sL_law_338_2 : ab_X rom K cL_law 12 2 338 ls [w1, .ref a, v0, v1] hp = if ab_iso hp a 6 = true then (K 83 (.ref a :: [w1]) hp).bind (fun o => ab_X rom K cL_law 12 2 341 ls (o.1.toList ++ [v0, v1]) o.2) else none := ay_virtual (as := [w1]) (st := [v0, v1]) dL_law_338 kc_12_31 rfl rfl (Nat.le_of_ble_eq_true rfl)
theorem sL_law_338_3 : ab_X rom K cL_law 12 2 338 ls [w1, .ref a, v0, v1, v2] hp = if ab_iso hp a 6 = true then (K 83 (.ref a :: [w1]) hp).bind (fun o => ab_X rom K cL_law 12 2 341 ls (o.1.toList ++ [v0, v1, v2]) o.2) else none := ay_virtual (as := [w1]) (st := [v0, v1, v2]) dL_law_338 kc_12_31 rfl rfl (Nat.le_of_ble_eq_true rfl)
theorem dL_law_341 : decode cL_law 341 = .ok (.aload_n 2, 1) := by decide +kernel
theorem sL_law_341 : ab_X rom K cL_law 12 2 341 (v0 :: v1 :: .ref a :: ls) st hp = ab_X rom K cL_law 12 2 342 (v0 :: v1 :: .ref a :: ls) (.ref a :: st) hp := ax_aload_n dL_law_341 rfl rfl
theorem dL_law_342 : decode cL_law 342 = .ok (.aload_n 0, 1) := by decide +kernel
theorem sL_law_342 : ab_X rom K cL_law 12 2 342 (.ref a :: ls) st hp = ab_X rom K cL_law 12 2 343 (.ref a :: ls) (.ref a :: st) hp := ax_aload_n dL_law_342 rfl rfl
theorem dL_law_343 : decode cL_law 343 = .ok (.iload_n 3, 1) := by decide +kernel
theorem sL_law_343 : ab_X rom K cL_law 12 2 343 (v0 :: v1 :: v2 :: .int x :: ls) st hp = ab_X rom K cL_law 12 2 344 (v0 :: v1 :: v2 :: .int x :: ls) (.int x :: st) hp := ax_iload_n dL_law_343 rfl rfl
theorem dL_law_344 : decode cL_law 344 = .ok (.iconst 1, 1) := by decide +kernel
theorem sL_law_344 : ab_X rom K cL_law 12 2 344 ls st hp = ab_X rom K cL_law 12 2 345 ls (.int 1 :: st) hp := ax_iconst dL_law_344 (by decide) rfl
theorem dL_law_345 : decode cL_law 345 = .ok (.iadd, 1) := by decide +kernel
theorem sL_law_345 : ab_X rom K cL_law 12 2 345 ls (.int y :: .int x :: st) hp = ab_X rom K cL_law 12 2 346 ls (.int (x + y) :: st) hp := ax_iadd dL_law_345 rfl
theorem dL_law_346 : decode cL_law 346 = .ok (.iaload, 1) := by decide +kernel
theorem sL_law_346 : ab_X rom K cL_law 12 2 346 ls (.int x :: .ref a :: st) hp = (ab_ard rom 0 hp a x).bind (fun v => ab_X rom K cL_law 12 2 347 ls (.int v :: st) hp) := ax_iaload dL_law_346 rfl
theorem dL_law_347 : decode cL_law 347 = .ok (.invokevirtual 34, 3) := by decide +kernel
theorem sL_law_347_0 : ab_X rom K cL_law 12 2 347 ls [w1, .ref a] hp = if ab_iso hp a 7 = true then (K 141 (.ref a :: [w1]) hp).bind (fun o => ab_X rom K cL_law 12 2 350 ls (o.1.toList ++ []) o.2) else none := ay_virtual (as := [w1]) (st := []) dL_law_347 kc_12_34 rfl rfl (Nat.le_of_ble_eq_true rfl)
theorem sL_law_347_1 : ab_X rom K cL_law 12 2 347 ls [w1, .ref a, v0] hp = if ab_iso hp a 7 = true then (K 141 (.ref a :: [w1]) hp).bind (fun o => ab_X rom K cL_law 12 2 350 ls (o.1.toList ++ [v0]) o.2) else none := ay_virtual (as := [w1]) (st := [v0]) dL_law_347 kc_12_34 rfl rfl (Nat.le_of_ble_eq_true rfl)
theorem sL_law_347_2 : ab_X rom K cL_law 12 2 347 ls [w1, .ref a, v0, v1] hp = if ab_iso hp a 7 = true then (K 141 (.ref a :: [w1]) hp).bind (fun o => ab_X rom K cL_law 12 2 350 ls (o.1.toList ++ [v0, v1]) o.2) else none := ay_virtual (as := [w1]) (st := [v0, v1]) dL_law_347 kc_12_34 rfl rfl (Nat.le_of_ble_eq_true rfl)
theorem sL_law_347_3 : ab_X rom K cL_law 12 2 347 ls [w1, .ref a, v0, v1, v2] hp = if ab_iso hp a 7 = true then (K 141 (.ref a :: [w1]) hp).bind (fun o => ab_X rom K cL_law 12 2 350 ls (o.1.toList ++ [v0, v1, v2]) o.2) else none := ay_virtual (as := [w1]) (st := [v0, v1, v2]) dL_law_347 kc_12_34 rfl rfl (Nat.le_of_ble_eq_true rfl)
theorem dL_law_350 : decode cL_law 350 = .ok (.if_icmp .eq 1134, 3) := by decide +kernel
theorem sL_law_350 : ab_X rom K cL_law 12 2 350 ls (.int y :: .int x :: st) hp = if x = y then ab_X rom K cL_law 12 2 1484 ls st hp else ab_X rom K cL_law 12 2 353 ls st hp := ax_icmp_eq dL_law_350 (by decide) rfl
theorem dL_law_355 : decode cL_law 355 = .ok (.aload_n 1, 1) := by decide +kernel
theorem sL_law_355 : ab_X rom K cL_law 12 2 355 (v0 :: .ref a :: ls) st hp = ab_X rom K cL_law 12 2 356 (v0 :: .ref a :: ls) (.ref a :: st) hp := ax_aload_n dL_law_355 rfl rfl
theorem dL_law_356 : decode cL_law 356 = .ok (.aload_n 0, 1) := by decide +kernel
theorem sL_law_356 : ab_X rom K cL_law 12 2 356 (.ref a :: ls) st hp = ab_X rom K cL_law 12 2 357 (.ref a :: ls) (.ref a :: st) hp := ax_aload_n dL_law_356 rfl rfl
theorem dL_law_357 : decode cL_law 357 = .ok (.iload_n 3, 1) := by decide +kernel
theorem sL_law_357 : ab_X rom K cL_law 12 2 357 (v0 :: v1 :: v2 :: .int x :: ls) st hp = ab_X rom K cL_law 12 2 358 (v0 :: v1 :: v2 :: .int x :: ls) (.int x :: st) hp := ax_iload_n dL_law_357 rfl rfl
theorem dL_law_358 : decode cL_law 358 = .ok (.iconst 1, 1) := by decide +kernel
theorem sL_law_358 : ab_X rom K cL_law 12 2 358 ls st hp = ab_X rom K cL_law 12 2 359 ls (.int 1 :: st) hp := ax_iconst dL_law_358 (by decide) rfl
theorem dL_law_359 : decode cL_law 359 = .ok (.iadd, 1) := by decide +kernel
theorem sL_law_359 : ab_X rom K cL_law 12 2 359 ls (.int y :: .int x :: st) hp = ab_X rom K cL_law 12 2 360 ls (.int (x + y) :: st) hp := ax_iadd dL_law_359 rfl
theorem dL_law_360 : decode cL_law 360 = .ok (.iaload, 1) := by decide +kernel
theorem sL_law_360 : ab_X rom K cL_law 12 2 360 ls (.int x :: .ref a :: st) hp = (ab_ard rom 0 hp a x).bind (fun v => ab_X rom K cL_law 12 2 361 ls (.int v :: st) hp) := ax_iaload dL_law_360 rfl
theorem dL_law_361 : decode cL_law 361 = .ok (.aload_n 0, 1) := by decide +kernel
theorem sL_law_361 : ab_X rom K cL_law 12 2 361 (.ref a :: ls) st hp = ab_X rom K cL_law 12 2 362 (.ref a :: ls) (.ref a :: st) hp := ax_aload_n dL_law_361 rfl rfl
theorem dL_law_362 : decode cL_law 362 = .ok (.iload_n 3, 1) := by decide +kernel
theorem sL_law_362 : ab_X rom K cL_law 12 2 362 (v0 :: v1 :: v2 :: .int x :: ls) st hp = ab_X rom K cL_law 12 2 363 (v0 :: v1 :: v2 :: .int x :: ls) (.int x :: st) hp := ax_iload_n dL_law_362 rfl rfl
theorem dL_law_363 : decode cL_law 363 = .ok (.iconst 2, 1) := by decide +kernel
theorem sL_law_363 : ab_X rom K cL_law 12 2 363 ls st hp = ab_X rom K cL_law 12 2 364 ls (.int 2 :: st) hp := ax_iconst dL_law_363 (by decide) rfl
theorem dL_law_364 : decode cL_law 364 = .ok (.iadd, 1) := by decide +kernel
theorem sL_law_364 : ab_X rom K cL_law 12 2 364 ls (.int y :: .int x :: st) hp = ab_X rom K cL_law 12 2 365 ls (.int (x + y) :: st) hp := ax_iadd dL_law_364 rfl
theorem dL_law_365 : decode cL_law 365 = .ok (.iaload, 1) := by decide +kernel
theorem sL_law_365 : ab_X rom K cL_law 12 2 365 ls (.int x :: .ref a :: st) hp = (ab_ard rom 0 hp a x).bind (fun v => ab_X rom K cL_law 12 2 366 ls (.int v :: st) hp) := ax_iaload dL_law_365 rfl
theorem dL_law_366 : decode cL_law 366 = .ok (.invokevirtual 35, 3) := by decide +kernel
theorem sL_law_366_0 : ab_X rom K cL_law 12 2 366 ls [w2, w1, .ref a] hp = if ab_iso hp a 6 = true then (K 106 (.ref a :: [w1, w2]) hp).bind (fun o => ab_X rom K cL_law 12 2 369 ls (o.1.toList ++ []) o.2) else none := ay_virtual (as := [w1, w2]) (st := []) dL_law_366 kc_12_35 rfl rfl (Nat.le_of_ble_eq_true rfl)
theorem sL_law_366_1 : ab_X rom K cL_law 12 2 366 ls [w2, w1, .ref a, v0] hp = if ab_iso hp a 6 = true then (K 106 (.ref a :: [w1, w2]) hp).bind (fun o => ab_X rom K cL_law 12 2 369 ls (o.1.toList ++ [v0]) o.2) else none := ay_virtual (as := [w1, w2]) (st := [v0]) dL_law_366 kc_12_35 rfl rfl (Nat.le_of_ble_eq_true rfl)
theorem sL_law_366_2 : ab_X rom K cL_law 12 2 366 ls [w2, w1, .ref a, v0, v1] hp = if ab_iso hp a 6 = true then (K 106 (.ref a :: [w1, w2]) hp).bind (fun o => ab_X rom K cL_law 12 2 369 ls (o.1.toList ++ [v0, v1]) o.2) else none := ay_virtual (as := [w1, w2]) (st := [v0, v1]) dL_law_366 kc_12_35 rfl rfl (Nat.le_of_ble_eq_true rfl)
theorem sL_law_366_3 : ab_X rom K cL_law 12 2 366 ls [w2, w1, .ref a, v0, v1, v2] hp = if ab_iso hp a 6 = true then (K 106 (.ref a :: [w1, w2]) hp).bind (fun o => ab_X rom K cL_law 12 2 369 ls (o.1.toList ++ [v0, v1, v2]) o.2) else none := ay_virtual (as := [w1, w2]) (st := [v0, v1, v2]) dL_law_366 kc_12_35 rfl rfl (Nat.le_of_ble_eq_true rfl)
theorem dL_law_369 : decode cL_law 369 = .ok (.aload_n 2, 1) := by decide +kernel
theorem sL_law_369 : ab_X rom K cL_law 12 2 369 (v0 :: v1 :: .ref a :: ls) st hp = ab_X rom K cL_law 12 2 370 (v0 :: v1 :: .ref a :: ls) (.ref a :: st) hp := ax_aload_n dL_law_369 rfl rfl
theorem dL_law_370 : decode cL_law 370 = .ok (.aload_n 0, 1) := by decide +kernel
theorem sL_law_370 : ab_X rom K cL_law 12 2 370 (.ref a :: ls) st hp = ab_X rom K cL_law 12 2 371 (.ref a :: ls) (.ref a :: st) hp := ax_aload_n dL_law_370 rfl rfl
theorem dL_law_371 : decode cL_law 371 = .ok (.iload_n 3, 1) := by decide +kernel
theorem sL_law_371 : ab_X rom K cL_law 12 2 371 (v0 :: v1 :: v2 :: .int x :: ls) st hp = ab_X rom K cL_law 12 2 372 (v0 :: v1 :: v2 :: .int x :: ls) (.int x :: st) hp := ax_iload_n dL_law_371 rfl rfl
theorem dL_law_372 : decode cL_law 372 = .ok (.iconst 1, 1) := by decide +kernel
theorem sL_law_372 : ab_X rom K cL_law 12 2 372 ls st hp = ab_X rom K cL_law 12 2 373 ls (.int 1 :: st) hp := ax_iconst dL_law_372 (by decide) rfl
theorem dL_law_373 : decode cL_law 373 = .ok (.iadd, 1) := by decide +kernel
theorem sL_law_373 : ab_X rom K cL_law 12 2 373 ls (.int y :: .int x :: st) hp = ab_X rom K cL_law 12 2 374 ls (.int (x + y) :: st) hp := ax_iadd dL_law_373 rfl
theorem dL_law_374 : decode cL_law 374 = .ok (.iaload, 1) := by decide +kernel
theorem sL_law_374 : ab_X rom K cL_law 12 2 374 ls (.int x :: .ref a :: st) hp = (ab_ard rom 0 hp a x).bind (fun v => ab_X rom K cL_law 12 2 375 ls (.int v :: st) hp) := ax_iaload dL_law_374 rfl
theorem dL_law_375 : decode cL_law 375 = .ok (.aload_n 0, 1) := by decide +kernel
theorem sL_law_375 : ab_X rom K cL_law 12 2 375 (.ref a :: ls) st hp = ab_X rom K cL_law 12 2 376 (.ref a :: ls) (.ref a :: st) hp := ax_aload_n dL_law_375 rfl rfl
theorem dL_law_376 : decode cL_law 376 = .ok (.iload_n 3, 1) := by decide +kernel
theorem sL_law_376 : ab_X rom K cL_law 12 2 376 (v0 :: v1 :: v2 :: .int x :: ls) st hp = ab_X rom K cL_law 12 2 377 (v0 :: v1 :: v2 :: .int x :: ls) (.int x :: st) hp := ax_iload_n dL_law_376 rfl rfl
theorem dL_law_377 : decode cL_law 377 = .ok (.iconst 2, 1) := by decide +kernel
theorem sL_law_377 : ab_X rom K cL_law 12 2 377 ls st hp = ab_X rom K cL_law 12 2 378 ls (.int 2 :: st) hp := ax_iconst dL_law_377 (by decide) rfl
theorem dL_law_378 : decode cL_law 378 = .ok (.iadd, 1) := by decide +kernel
theorem sL_law_378 : ab_X rom K cL_law 12 2 378 ls (.int y :: .int x :: st) hp = ab_X rom K cL_law 12 2 379 ls (.int (x + y) :: st) hp := ax_iadd dL_law_378 rfl
theorem dL_law_379 : decode cL_law 379 = .ok (.iaload, 1) := by decide +kernel
theorem sL_law_379 : ab_X rom K cL_law 12 2 379 ls (.int x :: .ref a :: st) hp = (ab_ard rom 0 hp a x).bind (fun v => ab_X rom K cL_law 12 2 380 ls (.int v :: st) hp) := ax_iaload dL_law_379 rfl
theorem dL_law_380 : decode cL_law 380 = .ok (.invokevirtual 39, 3) := by decide +kernel
theorem sL_law_380_0 : ab_X rom K cL_law 12 2 380 ls [w2, w1, .ref a] hp = if ab_iso hp a 7 = true then (K 189 (.ref a :: [w1, w2]) hp).bind (fun o => ab_X rom K cL_law 12 2 383 ls (o.1.toList ++ []) o.2) else none := ay_virtual (as := [w1, w2]) (st := []) dL_law_380 kc_12_39 rfl rfl (Nat.le_of_ble_eq_true rfl)
theorem sL_law_380_1 : ab_X rom K cL_law 12 2 380 ls [w2, w1, .ref a, v0] hp = if ab_iso hp a 7 = true then (K 189 (.ref a :: [w1, w2]) hp).bind (fun o => ab_X rom K cL_law 12 2 383 ls (o.1.toList ++ [v0]) o.2) else none := ay_virtual (as := [w1, w2]) (st := [v0]) dL_law_380 kc_12_39 rfl rfl (Nat.le_of_ble_eq_true rfl)
theorem sL_law_380_2 : ab_X rom K cL_law 12 2 380 ls [w2, w1, .ref a, v0, v1] hp = if ab_iso hp a 7 = true then (K 189 (.ref a :: [w1, w2]) hp).bind (fun o => ab_X rom K cL_law 12 2 383 ls (o.1.toList ++ [v0, v1]) o.2) else none := ay_virtual (as := [w1, w2]) (st := [v0, v1]) dL_law_380 kc_12_39 rfl rfl (Nat.le_of_ble_eq_true rfl)
theorem sL_law_380_3 : ab_X rom K cL_law 12 2 380 ls [w2, w1, .ref a, v0, v1, v2] hp = if ab_iso hp a 7 = true then (K 189 (.ref a :: [w1, w2]) hp).bind (fun o => ab_X rom K cL_law 12 2 383 ls (o.1.toList ++ [v0, v1, v2]) o.2) else none := ay_virtual (as := [w1, w2]) (st := [v0, v1, v2]) dL_law_380 kc_12_39 rfl rfl (Nat.le_of_ble_eq_true rfl)
theorem dL_law_383 : decode cL_law 383 = .ok (.if_icmp .eq 1101, 3) := by decide +kernel
theorem sL_law_383 : ab_X rom K cL_law 12 2 383 ls (.int y :: .int x :: st) hp = if x = y then ab_X rom K cL_law 12 2 1484 ls st hp else ab_X rom K cL_law 12 2 386 ls st hp := ax_icmp_eq dL_law_383 (by decide) rfl
theorem dL_law_388 : decode cL_law 388 = .ok (.aload_n 1, 1) := by decide +kernel
theorem sL_law_388 : ab_X rom K cL_law 12 2 388 (v0 :: .ref a :: ls) st hp = ab_X rom K cL_law 12 2 389 (v0 :: .ref a :: ls) (.ref a :: st) hp := ax_aload_n dL_law_388 rfl rfl
theorem dL_law_389 : decode cL_law 389 = .ok (.aload_n 0, 1) := by decide +kernel
theorem sL_law_389 : ab_X rom K cL_law 12 2 389 (.ref a :: ls) st hp = ab_X rom K cL_law 12 2 390 (.ref a :: ls) (.ref a :: st) hp := ax_aload_n dL_law_389 rfl rfl
theorem dL_law_390 : decode cL_law 390 = .ok (.iload_n 3, 1) := by decide +kernel
theorem sL_law_390 : ab_X rom K cL_law 12 2 390 (v0 :: v1 :: v2 :: .int x :: ls) st hp = ab_X rom K cL_law 12 2 391 (v0 :: v1 :: v2 :: .int x :: ls) (.int x :: st) hp := ax_iload_n dL_law_390 rfl rfl
theorem dL_law_391 : decode cL_law 391 = .ok (.iconst 1, 1) := by decide +kernel
theorem sL_law_391 : ab_X rom K cL_law 12 2 391 ls st hp = ab_X rom K cL_law 12 2 392 ls (.int 1 :: st) hp := ax_iconst dL_law_391 (by decide) rfl
theorem dL_law_392 : decode cL_law 392 = .ok (.iadd, 1) := by decide +kernel
theorem sL_law_392 : ab_X rom K cL_law 12 2 392 ls (.int y :: .int x :: st) hp = ab_X rom K cL_law 12 2 393 ls (.int (x + y) :: st) hp := ax_iadd dL_law_392 rfl
theorem dL_law_393 : decode cL_law 393 = .ok (.iaload, 1) := by decide +kernel
theorem sL_law_393 : ab_X rom K cL_law 12 2 393 ls (.int x :: .ref a :: st) hp = (ab_ard rom 0 hp a x).bind (fun v => ab_X rom K cL_law 12 2 394 ls (.int v :: st) hp) := ax_iaload dL_law_393 rfl
theorem dL_law_394 : decode cL_law 394 = .ok (.aload_n 0, 1) := by decide +kernel
theorem sL_law_394 : ab_X rom K cL_law 12 2 394 (.ref a :: ls) st hp = ab_X rom K cL_law 12 2 395 (.ref a :: ls) (.ref a :: st) hp := ax_aload_n dL_law_394 rfl rfl
theorem dL_law_395 : decode cL_law 395 = .ok (.iload_n 3, 1) := by decide +kernel
theorem sL_law_395 : ab_X rom K cL_law 12 2 395 (v0 :: v1 :: v2 :: .int x :: ls) st hp = ab_X rom K cL_law 12 2 396 (v0 :: v1 :: v2 :: .int x :: ls) (.int x :: st) hp := ax_iload_n dL_law_395 rfl rfl
end
