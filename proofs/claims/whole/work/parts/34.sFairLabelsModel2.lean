/-! FairLabelsModel: its methods step by step (printed by wip/whole/gen_steps.py) -/
section
variable {rom : List (List Int32)} {K : Nat → List Value → ab_H → Option ab_O} {ls st : List Value} {hp : ab_H} {x y z : Int32} {a a2 : Nat} {sp dp : Int32} {u w : Int64} {v0 v1 v2 v3 v4 v5 v6 v7 v8 v9 v10 v11 v12 v13 v14 v15 w1 w2 w3 w4 w5 w6 : Value}
theorem tX9_isBarred : ab_mT[165]? = some (yX9_isBarred, cX9_isBarred, 5, 2, 7) := by decide +kernel
theorem mX9_isBarred {d : Nat} {a0 : Nat} {x0 : Int32} {x1 : Int32} : ab_M rom (d + 1) 165 [.ref a0, .int x0, .int x1] hp = ab_X rom (ab_M rom d) cX9_isBarred 7 2 0 [.ref a0, .int x0, .int x1, .null, .null] [] hp := ab_M_eq tX9_isBarred (Nat.le_of_ble_eq_true rfl)
theorem dX9_isBarred_0 : decode cX9_isBarred 0 = .ok (.aload_n 0, 1) := by decide +kernel
theorem sX9_isBarred_0 : ab_X rom K cX9_isBarred 7 2 0 (.ref a :: ls) st hp = ab_X rom K cX9_isBarred 7 2 1 (.ref a :: ls) (.ref a :: st) hp := ax_aload_n dX9_isBarred_0 rfl rfl
theorem dX9_isBarred_1 : decode cX9_isBarred 1 = .ok (.iload_n 1, 1) := by decide +kernel
theorem sX9_isBarred_1 : ab_X rom K cX9_isBarred 7 2 1 (v0 :: .int x :: ls) st hp = ab_X rom K cX9_isBarred 7 2 2 (v0 :: .int x :: ls) (.int x :: st) hp := ax_iload_n dX9_isBarred_1 rfl rfl
theorem dX9_isBarred_2 : decode cX9_isBarred 2 = .ok (.invokevirtual 64, 3) := by decide +kernel
theorem sX9_isBarred_2_0 : ab_X rom K cX9_isBarred 7 2 2 ls [w1, .ref a] hp = if ab_iso hp a 7 = true then (K 209 (.ref a :: [w1]) hp).bind (fun o => ab_X rom K cX9_isBarred 7 2 5 ls (o.1.toList ++ []) o.2) else none := ay_virtual (as := [w1]) (st := []) dX9_isBarred_2 kc_7_64 rfl rfl (Nat.le_of_ble_eq_true rfl)
theorem sX9_isBarred_2_1 : ab_X rom K cX9_isBarred 7 2 2 ls [w1, .ref a, v0] hp = if ab_iso hp a 7 = true then (K 209 (.ref a :: [w1]) hp).bind (fun o => ab_X rom K cX9_isBarred 7 2 5 ls (o.1.toList ++ [v0]) o.2) else none := ay_virtual (as := [w1]) (st := [v0]) dX9_isBarred_2 kc_7_64 rfl rfl (Nat.le_of_ble_eq_true rfl)
theorem sX9_isBarred_2_2 : ab_X rom K cX9_isBarred 7 2 2 ls [w1, .ref a, v0, v1] hp = if ab_iso hp a 7 = true then (K 209 (.ref a :: [w1]) hp).bind (fun o => ab_X rom K cX9_isBarred 7 2 5 ls (o.1.toList ++ [v0, v1]) o.2) else none := ay_virtual (as := [w1]) (st := [v0, v1]) dX9_isBarred_2 kc_7_64 rfl rfl (Nat.le_of_ble_eq_true rfl)
theorem sX9_isBarred_2_3 : ab_X rom K cX9_isBarred 7 2 2 ls [w1, .ref a, v0, v1, v2] hp = if ab_iso hp a 7 = true then (K 209 (.ref a :: [w1]) hp).bind (fun o => ab_X rom K cX9_isBarred 7 2 5 ls (o.1.toList ++ [v0, v1, v2]) o.2) else none := ay_virtual (as := [w1]) (st := [v0, v1, v2]) dX9_isBarred_2 kc_7_64 rfl rfl (Nat.le_of_ble_eq_true rfl)
theorem dX9_isBarred_5 : decode cX9_isBarred 5 = .ok (.istore_n 3, 1) := by decide +kernel
theorem sX9_isBarred_5i : ab_X rom K cX9_isBarred 7 2 5 (v0 :: v1 :: .int y :: v3 :: ls) (.int x :: st) hp = ab_X rom K cX9_isBarred 7 2 6 (v0 :: v1 :: .int y :: .int x :: ls) st hp := ax_istore_n dX9_isBarred_5 (ax_lt (v := v3) rfl) (ab_nl_c1 (j := 2) (v := .int y) rfl (ab_c1_int _)) rfl rfl
theorem sX9_isBarred_5r : ab_X rom K cX9_isBarred 7 2 5 (v0 :: v1 :: .ref a2 :: v3 :: ls) (.int x :: st) hp = ab_X rom K cX9_isBarred 7 2 6 (v0 :: v1 :: .ref a2 :: .int x :: ls) st hp := ax_istore_n dX9_isBarred_5 (ax_lt (v := v3) rfl) (ab_nl_c1 (j := 2) (v := .ref a2) rfl (ab_c1_ref _)) rfl rfl
theorem sX9_isBarred_5n : ab_X rom K cX9_isBarred 7 2 5 (v0 :: v1 :: .null :: v3 :: ls) (.int x :: st) hp = ab_X rom K cX9_isBarred 7 2 6 (v0 :: v1 :: .null :: .int x :: ls) st hp := ax_istore_n dX9_isBarred_5 (ax_lt (v := v3) rfl) (ab_nl_c1 (j := 2) (v := .null) rfl ab_c1_null) rfl rfl
theorem dX9_isBarred_6 : decode cX9_isBarred 6 = .ok (.aload_n 0, 1) := by decide +kernel
theorem sX9_isBarred_6 : ab_X rom K cX9_isBarred 7 2 6 (.ref a :: ls) st hp = ab_X rom K cX9_isBarred 7 2 7 (.ref a :: ls) (.ref a :: st) hp := ax_aload_n dX9_isBarred_6 rfl rfl
theorem dX9_isBarred_7 : decode cX9_isBarred 7 = .ok (.iload_n 1, 1) := by decide +kernel
theorem sX9_isBarred_7 : ab_X rom K cX9_isBarred 7 2 7 (v0 :: .int x :: ls) st hp = ab_X rom K cX9_isBarred 7 2 8 (v0 :: .int x :: ls) (.int x :: st) hp := ax_iload_n dX9_isBarred_7 rfl rfl
theorem dX9_isBarred_8 : decode cX9_isBarred 8 = .ok (.invokevirtual 150, 3) := by decide +kernel
theorem sX9_isBarred_8_0 : ab_X rom K cX9_isBarred 7 2 8 ls [w1, .ref a] hp = if ab_iso hp a 7 = true then (K 188 (.ref a :: [w1]) hp).bind (fun o => ab_X rom K cX9_isBarred 7 2 11 ls (o.1.toList ++ []) o.2) else none := ay_virtual (as := [w1]) (st := []) dX9_isBarred_8 kc_7_150 rfl rfl (Nat.le_of_ble_eq_true rfl)
theorem sX9_isBarred_8_1 : ab_X rom K cX9_isBarred 7 2 8 ls [w1, .ref a, v0] hp = if ab_iso hp a 7 = true then (K 188 (.ref a :: [w1]) hp).bind (fun o => ab_X rom K cX9_isBarred 7 2 11 ls (o.1.toList ++ [v0]) o.2) else none := ay_virtual (as := [w1]) (st := [v0]) dX9_isBarred_8 kc_7_150 rfl rfl (Nat.le_of_ble_eq_true rfl)
theorem sX9_isBarred_8_2 : ab_X rom K cX9_isBarred 7 2 8 ls [w1, .ref a, v0, v1] hp = if ab_iso hp a 7 = true then (K 188 (.ref a :: [w1]) hp).bind (fun o => ab_X rom K cX9_isBarred 7 2 11 ls (o.1.toList ++ [v0, v1]) o.2) else none := ay_virtual (as := [w1]) (st := [v0, v1]) dX9_isBarred_8 kc_7_150 rfl rfl (Nat.le_of_ble_eq_true rfl)
theorem sX9_isBarred_8_3 : ab_X rom K cX9_isBarred 7 2 8 ls [w1, .ref a, v0, v1, v2] hp = if ab_iso hp a 7 = true then (K 188 (.ref a :: [w1]) hp).bind (fun o => ab_X rom K cX9_isBarred 7 2 11 ls (o.1.toList ++ [v0, v1, v2]) o.2) else none := ay_virtual (as := [w1]) (st := [v0, v1, v2]) dX9_isBarred_8 kc_7_150 rfl rfl (Nat.le_of_ble_eq_true rfl)
theorem dX9_isBarred_11 : decode cX9_isBarred 11 = .ok (.istore 4, 2) := by decide +kernel
theorem sX9_isBarred_11i : ab_X rom K cX9_isBarred 7 2 11 (v0 :: v1 :: v2 :: .int y :: v4 :: ls) (.int x :: st) hp = ab_X rom K cX9_isBarred 7 2 13 (v0 :: v1 :: v2 :: .int y :: .int x :: ls) st hp := ax_istore dX9_isBarred_11 (ax_lt (v := v4) rfl) (ab_nl_c1 (j := 3) (v := .int y) rfl (ab_c1_int _)) rfl rfl
theorem sX9_isBarred_11r : ab_X rom K cX9_isBarred 7 2 11 (v0 :: v1 :: v2 :: .ref a2 :: v4 :: ls) (.int x :: st) hp = ab_X rom K cX9_isBarred 7 2 13 (v0 :: v1 :: v2 :: .ref a2 :: .int x :: ls) st hp := ax_istore dX9_isBarred_11 (ax_lt (v := v4) rfl) (ab_nl_c1 (j := 3) (v := .ref a2) rfl (ab_c1_ref _)) rfl rfl
theorem sX9_isBarred_11n : ab_X rom K cX9_isBarred 7 2 11 (v0 :: v1 :: v2 :: .null :: v4 :: ls) (.int x :: st) hp = ab_X rom K cX9_isBarred 7 2 13 (v0 :: v1 :: v2 :: .null :: .int x :: ls) st hp := ax_istore dX9_isBarred_11 (ax_lt (v := v4) rfl) (ab_nl_c1 (j := 3) (v := .null) rfl ab_c1_null) rfl rfl
theorem dX9_isBarred_13 : decode cX9_isBarred 13 = .ok (.iload_n 2, 1) := by decide +kernel
theorem sX9_isBarred_13 : ab_X rom K cX9_isBarred 7 2 13 (v0 :: v1 :: .int x :: ls) st hp = ab_X rom K cX9_isBarred 7 2 14 (v0 :: v1 :: .int x :: ls) (.int x :: st) hp := ax_iload_n dX9_isBarred_13 rfl rfl
theorem dX9_isBarred_14 : decode cX9_isBarred 14 = .ok (.tableswitch 163 0 3 #[30, 67, 90, 141], 30) := by decide +kernel
theorem sX9_isBarred_14_d (h : x.toInt < 0 ∨ 3 < x.toInt) : ab_X rom K cX9_isBarred 7 2 14 ls (.int x :: st) hp = ab_X rom K cX9_isBarred 7 2 177 ls st hp := ax_tsw_out dX9_isBarred_14 (by decide) h
theorem sX9_isBarred_14_0 : ab_X rom K cX9_isBarred 7 2 14 ls (.int 0 :: st) hp = ab_X rom K cX9_isBarred 7 2 44 ls st hp := ax_tsw_in (off := 30) dX9_isBarred_14 (by decide) (by decide) (by decide)
theorem sX9_isBarred_14_1 : ab_X rom K cX9_isBarred 7 2 14 ls (.int 1 :: st) hp = ab_X rom K cX9_isBarred 7 2 81 ls st hp := ax_tsw_in (off := 67) dX9_isBarred_14 (by decide) (by decide) (by decide)
theorem sX9_isBarred_14_2 : ab_X rom K cX9_isBarred 7 2 14 ls (.int 2 :: st) hp = ab_X rom K cX9_isBarred 7 2 104 ls st hp := ax_tsw_in (off := 90) dX9_isBarred_14 (by decide) (by decide) (by decide)
theorem sX9_isBarred_14_3 : ab_X rom K cX9_isBarred 7 2 14 ls (.int 3 :: st) hp = ab_X rom K cX9_isBarred 7 2 155 ls st hp := ax_tsw_in (off := 141) dX9_isBarred_14 (by decide) (by decide) (by decide)
theorem dX9_isBarred_44 : decode cX9_isBarred 44 = .ok (.iload_n 3, 1) := by decide +kernel
theorem sX9_isBarred_44 : ab_X rom K cX9_isBarred 7 2 44 (v0 :: v1 :: v2 :: .int x :: ls) st hp = ab_X rom K cX9_isBarred 7 2 45 (v0 :: v1 :: v2 :: .int x :: ls) (.int x :: st) hp := ax_iload_n dX9_isBarred_44 rfl rfl
theorem dX9_isBarred_45 : decode cX9_isBarred 45 = .ok (.iload 4, 2) := by decide +kernel
theorem sX9_isBarred_45 : ab_X rom K cX9_isBarred 7 2 45 (v0 :: v1 :: v2 :: v3 :: .int x :: ls) st hp = ab_X rom K cX9_isBarred 7 2 47 (v0 :: v1 :: v2 :: v3 :: .int x :: ls) (.int x :: st) hp := ax_iload dX9_isBarred_45 rfl rfl
theorem dX9_isBarred_47 : decode cX9_isBarred 47 = .ok (.iconst 1, 1) := by decide +kernel
theorem sX9_isBarred_47 : ab_X rom K cX9_isBarred 7 2 47 ls st hp = ab_X rom K cX9_isBarred 7 2 48 ls (.int 1 :: st) hp := ax_iconst dX9_isBarred_47 (by decide) rfl
theorem dX9_isBarred_48 : decode cX9_isBarred 48 = .ok (.iadd, 1) := by decide +kernel
theorem sX9_isBarred_48 : ab_X rom K cX9_isBarred 7 2 48 ls (.int y :: .int x :: st) hp = ab_X rom K cX9_isBarred 7 2 49 ls (.int (x + y) :: st) hp := ax_iadd dX9_isBarred_48 rfl
theorem dX9_isBarred_49 : decode cX9_isBarred 49 = .ok (.if_icmp .gt 26, 3) := by decide +kernel
theorem sX9_isBarred_49 : ab_X rom K cX9_isBarred 7 2 49 ls (.int y :: .int x :: st) hp = if y < x then ab_X rom K cX9_isBarred 7 2 75 ls st hp else ab_X rom K cX9_isBarred 7 2 52 ls st hp := ax_icmp_gt dX9_isBarred_49 (by decide) rfl
theorem dX9_isBarred_52 : decode cX9_isBarred 52 = .ok (.aload_n 0, 1) := by decide +kernel
theorem sX9_isBarred_52 : ab_X rom K cX9_isBarred 7 2 52 (.ref a :: ls) st hp = ab_X rom K cX9_isBarred 7 2 53 (.ref a :: ls) (.ref a :: st) hp := ax_aload_n dX9_isBarred_52 rfl rfl
theorem dX9_isBarred_53 : decode cX9_isBarred 53 = .ok (.iload_n 1, 1) := by decide +kernel
theorem sX9_isBarred_53 : ab_X rom K cX9_isBarred 7 2 53 (v0 :: .int x :: ls) st hp = ab_X rom K cX9_isBarred 7 2 54 (v0 :: .int x :: ls) (.int x :: st) hp := ax_iload_n dX9_isBarred_53 rfl rfl
theorem dX9_isBarred_54 : decode cX9_isBarred 54 = .ok (.invokevirtual 307, 3) := by decide +kernel
theorem sX9_isBarred_54_0 : ab_X rom K cX9_isBarred 7 2 54 ls [w1, .ref a] hp = if ab_iso hp a 7 = true then (K 134 (.ref a :: [w1]) hp).bind (fun o => ab_X rom K cX9_isBarred 7 2 57 ls (o.1.toList ++ []) o.2) else none := ay_virtual (as := [w1]) (st := []) dX9_isBarred_54 kc_7_307 rfl rfl (Nat.le_of_ble_eq_true rfl)
theorem sX9_isBarred_54_1 : ab_X rom K cX9_isBarred 7 2 54 ls [w1, .ref a, v0] hp = if ab_iso hp a 7 = true then (K 134 (.ref a :: [w1]) hp).bind (fun o => ab_X rom K cX9_isBarred 7 2 57 ls (o.1.toList ++ [v0]) o.2) else none := ay_virtual (as := [w1]) (st := [v0]) dX9_isBarred_54 kc_7_307 rfl rfl (Nat.le_of_ble_eq_true rfl)
theorem sX9_isBarred_54_2 : ab_X rom K cX9_isBarred 7 2 54 ls [w1, .ref a, v0, v1] hp = if ab_iso hp a 7 = true then (K 134 (.ref a :: [w1]) hp).bind (fun o => ab_X rom K cX9_isBarred 7 2 57 ls (o.1.toList ++ [v0, v1]) o.2) else none := ay_virtual (as := [w1]) (st := [v0, v1]) dX9_isBarred_54 kc_7_307 rfl rfl (Nat.le_of_ble_eq_true rfl)
theorem sX9_isBarred_54_3 : ab_X rom K cX9_isBarred 7 2 54 ls [w1, .ref a, v0, v1, v2] hp = if ab_iso hp a 7 = true then (K 134 (.ref a :: [w1]) hp).bind (fun o => ab_X rom K cX9_isBarred 7 2 57 ls (o.1.toList ++ [v0, v1, v2]) o.2) else none := ay_virtual (as := [w1]) (st := [v0, v1, v2]) dX9_isBarred_54 kc_7_307 rfl rfl (Nat.le_of_ble_eq_true rfl)
theorem dX9_isBarred_57 : decode cX9_isBarred 57 = .ok (.ifCond .eq 22, 3) := by decide +kernel
theorem sX9_isBarred_57 : ab_X rom K cX9_isBarred 7 2 57 ls (.int x :: st) hp = if x = 0 then ab_X rom K cX9_isBarred 7 2 79 ls st hp else ab_X rom K cX9_isBarred 7 2 60 ls st hp := ax_if_eq dX9_isBarred_57 (by decide) rfl
theorem dX9_isBarred_60 : decode cX9_isBarred 60 = .ok (.iload 4, 2) := by decide +kernel
theorem sX9_isBarred_60 : ab_X rom K cX9_isBarred 7 2 60 (v0 :: v1 :: v2 :: v3 :: .int x :: ls) st hp = ab_X rom K cX9_isBarred 7 2 62 (v0 :: v1 :: v2 :: v3 :: .int x :: ls) (.int x :: st) hp := ax_iload dX9_isBarred_60 rfl rfl
theorem dX9_isBarred_62 : decode cX9_isBarred 62 = .ok (.iconst 4, 1) := by decide +kernel
theorem sX9_isBarred_62 : ab_X rom K cX9_isBarred 7 2 62 ls st hp = ab_X rom K cX9_isBarred 7 2 63 ls (.int 4 :: st) hp := ax_iconst dX9_isBarred_62 (by decide) rfl
theorem dX9_isBarred_63 : decode cX9_isBarred 63 = .ok (.irem, 1) := by decide +kernel
theorem sX9_isBarred_63 : ab_X rom K cX9_isBarred 7 2 63 ls (.int y :: .int x :: st) hp = if y = 0 then none else ab_X rom K cX9_isBarred 7 2 64 ls (.int (ab_rem x y) :: st) hp := ay_irem dX9_isBarred_63 rfl
theorem dX9_isBarred_64 : decode cX9_isBarred 64 = .ok (.i2l, 1) := by decide +kernel
theorem sX9_isBarred_64 : ab_X rom K cX9_isBarred 7 2 64 ls (.int x :: st) hp = ab_X rom K cX9_isBarred 7 2 65 ls (.long x.toInt64 :: st) hp := ax_i2l dX9_isBarred_64 rfl
theorem dX9_isBarred_65 : decode cX9_isBarred 65 = .ok (.lconst 1, 1) := by decide +kernel
theorem sX9_isBarred_65 : ab_X rom K cX9_isBarred 7 2 65 ls st hp = ab_X rom K cX9_isBarred 7 2 66 ls (.long 1 :: st) hp := ax_lconst dX9_isBarred_65 (by decide) rfl
theorem dX9_isBarred_66 : decode cX9_isBarred 66 = .ok (.ldc2_w 54, 3) := by decide +kernel
theorem sX9_isBarred_66 : ab_X rom K cX9_isBarred 7 2 66 ls st hp = ab_X rom K cX9_isBarred 7 2 69 ls (.long 2 :: st) hp := ax_ldc2 dX9_isBarred_66 kl_7_54 rfl
theorem dX9_isBarred_69 : decode cX9_isBarred 69 = .ok (.invokestatic 56, 3) := by decide +kernel
theorem sX9_isBarred_69_0 : ab_X rom K cX9_isBarred 7 2 69 ls [w3, w2, w1] hp = (K 159 [w1, w2, w3] hp).bind (fun o => ab_X rom K cX9_isBarred 7 2 72 ls (o.1.toList ++ []) o.2) := ax_static (as := [w1, w2, w3]) (st := []) dX9_isBarred_69 kc_7_56 rfl rfl (Nat.le_of_ble_eq_true rfl)
theorem sX9_isBarred_69_1 : ab_X rom K cX9_isBarred 7 2 69 ls [w3, w2, w1, v0] hp = (K 159 [w1, w2, w3] hp).bind (fun o => ab_X rom K cX9_isBarred 7 2 72 ls (o.1.toList ++ [v0]) o.2) := ax_static (as := [w1, w2, w3]) (st := [v0]) dX9_isBarred_69 kc_7_56 rfl rfl (Nat.le_of_ble_eq_true rfl)
theorem sX9_isBarred_69_2 : ab_X rom K cX9_isBarred 7 2 69 ls [w3, w2, w1, v0, v1] hp = (K 159 [w1, w2, w3] hp).bind (fun o => ab_X rom K cX9_isBarred 7 2 72 ls (o.1.toList ++ [v0, v1]) o.2) := ax_static (as := [w1, w2, w3]) (st := [v0, v1]) dX9_isBarred_69 kc_7_56 rfl rfl (Nat.le_of_ble_eq_true rfl)
theorem sX9_isBarred_69_3 : ab_X rom K cX9_isBarred 7 2 69 ls [w3, w2, w1, v0, v1, v2] hp = (K 159 [w1, w2, w3] hp).bind (fun o => ab_X rom K cX9_isBarred 7 2 72 ls (o.1.toList ++ [v0, v1, v2]) o.2) := ax_static (as := [w1, w2, w3]) (st := [v0, v1, v2]) dX9_isBarred_69 kc_7_56 rfl rfl (Nat.le_of_ble_eq_true rfl)
theorem dX9_isBarred_72 : decode cX9_isBarred 72 = .ok (.ifCond .eq 7, 3) := by decide +kernel
theorem sX9_isBarred_72 : ab_X rom K cX9_isBarred 7 2 72 ls (.int x :: st) hp = if x = 0 then ab_X rom K cX9_isBarred 7 2 79 ls st hp else ab_X rom K cX9_isBarred 7 2 75 ls st hp := ax_if_eq dX9_isBarred_72 (by decide) rfl
theorem dX9_isBarred_75 : decode cX9_isBarred 75 = .ok (.iconst 1, 1) := by decide +kernel
theorem sX9_isBarred_75 : ab_X rom K cX9_isBarred 7 2 75 ls st hp = ab_X rom K cX9_isBarred 7 2 76 ls (.int 1 :: st) hp := ax_iconst dX9_isBarred_75 (by decide) rfl
theorem dX9_isBarred_76 : decode cX9_isBarred 76 = .ok (.goto 4, 3) := by decide +kernel
theorem sX9_isBarred_76 : ab_X rom K cX9_isBarred 7 2 76 ls st hp = ab_X rom K cX9_isBarred 7 2 80 ls st hp := ax_goto dX9_isBarred_76 (by decide)
theorem dX9_isBarred_79 : decode cX9_isBarred 79 = .ok (.iconst 0, 1) := by decide +kernel
theorem sX9_isBarred_79 : ab_X rom K cX9_isBarred 7 2 79 ls st hp = ab_X rom K cX9_isBarred 7 2 80 ls (.int 0 :: st) hp := ax_iconst dX9_isBarred_79 (by decide) rfl
theorem dX9_isBarred_80 : decode cX9_isBarred 80 = .ok (.ireturn, 1) := by decide +kernel
theorem sX9_isBarred_80 : ab_X rom K cX9_isBarred 7 2 80 ls [.int x] hp = if x = 0 ∨ x = 1 then some (some (.int x), hp) else none := ay_zret dX9_isBarred_80 rfl
theorem dX9_isBarred_81 : decode cX9_isBarred 81 = .ok (.aload_n 0, 1) := by decide +kernel
theorem sX9_isBarred_81 : ab_X rom K cX9_isBarred 7 2 81 (.ref a :: ls) st hp = ab_X rom K cX9_isBarred 7 2 82 (.ref a :: ls) (.ref a :: st) hp := ax_aload_n dX9_isBarred_81 rfl rfl
theorem dX9_isBarred_82 : decode cX9_isBarred 82 = .ok (.iload_n 1, 1) := by decide +kernel
theorem sX9_isBarred_82 : ab_X rom K cX9_isBarred 7 2 82 (v0 :: .int x :: ls) st hp = ab_X rom K cX9_isBarred 7 2 83 (v0 :: .int x :: ls) (.int x :: st) hp := ax_iload_n dX9_isBarred_82 rfl rfl
theorem dX9_isBarred_83 : decode cX9_isBarred 83 = .ok (.iconst 0, 1) := by decide +kernel
theorem sX9_isBarred_83 : ab_X rom K cX9_isBarred 7 2 83 ls st hp = ab_X rom K cX9_isBarred 7 2 84 ls (.int 0 :: st) hp := ax_iconst dX9_isBarred_83 (by decide) rfl
theorem dX9_isBarred_84 : decode cX9_isBarred 84 = .ok (.invokevirtual 310, 3) := by decide +kernel
theorem sX9_isBarred_84_0 : ab_X rom K cX9_isBarred 7 2 84 ls [w2, w1, .ref a] hp = if ab_iso hp a 7 = true then (K 165 (.ref a :: [w1, w2]) hp).bind (fun o => ab_X rom K cX9_isBarred 7 2 87 ls (o.1.toList ++ []) o.2) else none := ay_virtual (as := [w1, w2]) (st := []) dX9_isBarred_84 kc_7_310 rfl rfl (Nat.le_of_ble_eq_true rfl)
theorem sX9_isBarred_84_1 : ab_X rom K cX9_isBarred 7 2 84 ls [w2, w1, .ref a, v0] hp = if ab_iso hp a 7 = true then (K 165 (.ref a :: [w1, w2]) hp).bind (fun o => ab_X rom K cX9_isBarred 7 2 87 ls (o.1.toList ++ [v0]) o.2) else none := ay_virtual (as := [w1, w2]) (st := [v0]) dX9_isBarred_84 kc_7_310 rfl rfl (Nat.le_of_ble_eq_true rfl)
theorem sX9_isBarred_84_2 : ab_X rom K cX9_isBarred 7 2 84 ls [w2, w1, .ref a, v0, v1] hp = if ab_iso hp a 7 = true then (K 165 (.ref a :: [w1, w2]) hp).bind (fun o => ab_X rom K cX9_isBarred 7 2 87 ls (o.1.toList ++ [v0, v1]) o.2) else none := ay_virtual (as := [w1, w2]) (st := [v0, v1]) dX9_isBarred_84 kc_7_310 rfl rfl (Nat.le_of_ble_eq_true rfl)
theorem sX9_isBarred_84_3 : ab_X rom K cX9_isBarred 7 2 84 ls [w2, w1, .ref a, v0, v1, v2] hp = if ab_iso hp a 7 = true then (K 165 (.ref a :: [w1, w2]) hp).bind (fun o => ab_X rom K cX9_isBarred 7 2 87 ls (o.1.toList ++ [v0, v1, v2]) o.2) else none := ay_virtual (as := [w1, w2]) (st := [v0, v1, v2]) dX9_isBarred_84 kc_7_310 rfl rfl (Nat.le_of_ble_eq_true rfl)
theorem dX9_isBarred_87 : decode cX9_isBarred 87 = .ok (.ifCond .ne 11, 3) := by decide +kernel
theorem sX9_isBarred_87 : ab_X rom K cX9_isBarred 7 2 87 ls (.int x :: st) hp = if x = 0 then ab_X rom K cX9_isBarred 7 2 90 ls st hp else ab_X rom K cX9_isBarred 7 2 98 ls st hp := ax_if_ne dX9_isBarred_87 (by decide) rfl
theorem dX9_isBarred_90 : decode cX9_isBarred 90 = .ok (.aload_n 0, 1) := by decide +kernel
theorem sX9_isBarred_90 : ab_X rom K cX9_isBarred 7 2 90 (.ref a :: ls) st hp = ab_X rom K cX9_isBarred 7 2 91 (.ref a :: ls) (.ref a :: st) hp := ax_aload_n dX9_isBarred_90 rfl rfl
theorem dX9_isBarred_91 : decode cX9_isBarred 91 = .ok (.iload_n 1, 1) := by decide +kernel
theorem sX9_isBarred_91 : ab_X rom K cX9_isBarred 7 2 91 (v0 :: .int x :: ls) st hp = ab_X rom K cX9_isBarred 7 2 92 (v0 :: .int x :: ls) (.int x :: st) hp := ax_iload_n dX9_isBarred_91 rfl rfl
theorem dX9_isBarred_92 : decode cX9_isBarred 92 = .ok (.invokevirtual 203, 3) := by decide +kernel
theorem sX9_isBarred_92_0 : ab_X rom K cX9_isBarred 7 2 92 ls [w1, .ref a] hp = if ab_iso hp a 7 = true then (K 177 (.ref a :: [w1]) hp).bind (fun o => ab_X rom K cX9_isBarred 7 2 95 ls (o.1.toList ++ []) o.2) else none := ay_virtual (as := [w1]) (st := []) dX9_isBarred_92 kc_7_203 rfl rfl (Nat.le_of_ble_eq_true rfl)
theorem sX9_isBarred_92_1 : ab_X rom K cX9_isBarred 7 2 92 ls [w1, .ref a, v0] hp = if ab_iso hp a 7 = true then (K 177 (.ref a :: [w1]) hp).bind (fun o => ab_X rom K cX9_isBarred 7 2 95 ls (o.1.toList ++ [v0]) o.2) else none := ay_virtual (as := [w1]) (st := [v0]) dX9_isBarred_92 kc_7_203 rfl rfl (Nat.le_of_ble_eq_true rfl)
theorem sX9_isBarred_92_2 : ab_X rom K cX9_isBarred 7 2 92 ls [w1, .ref a, v0, v1] hp = if ab_iso hp a 7 = true then (K 177 (.ref a :: [w1]) hp).bind (fun o => ab_X rom K cX9_isBarred 7 2 95 ls (o.1.toList ++ [v0, v1]) o.2) else none := ay_virtual (as := [w1]) (st := [v0, v1]) dX9_isBarred_92 kc_7_203 rfl rfl (Nat.le_of_ble_eq_true rfl)
theorem sX9_isBarred_92_3 : ab_X rom K cX9_isBarred 7 2 92 ls [w1, .ref a, v0, v1, v2] hp = if ab_iso hp a 7 = true then (K 177 (.ref a :: [w1]) hp).bind (fun o => ab_X rom K cX9_isBarred 7 2 95 ls (o.1.toList ++ [v0, v1, v2]) o.2) else none := ay_virtual (as := [w1]) (st := [v0, v1, v2]) dX9_isBarred_92 kc_7_203 rfl rfl (Nat.le_of_ble_eq_true rfl)
theorem dX9_isBarred_95 : decode cX9_isBarred 95 = .ok (.ifCond .ne 7, 3) := by decide +kernel
theorem sX9_isBarred_95 : ab_X rom K cX9_isBarred 7 2 95 ls (.int x :: st) hp = if x = 0 then ab_X rom K cX9_isBarred 7 2 98 ls st hp else ab_X rom K cX9_isBarred 7 2 102 ls st hp := ax_if_ne dX9_isBarred_95 (by decide) rfl
theorem dX9_isBarred_98 : decode cX9_isBarred 98 = .ok (.iconst 1, 1) := by decide +kernel
theorem sX9_isBarred_98 : ab_X rom K cX9_isBarred 7 2 98 ls st hp = ab_X rom K cX9_isBarred 7 2 99 ls (.int 1 :: st) hp := ax_iconst dX9_isBarred_98 (by decide) rfl
theorem dX9_isBarred_99 : decode cX9_isBarred 99 = .ok (.goto 4, 3) := by decide +kernel
theorem sX9_isBarred_99 : ab_X rom K cX9_isBarred 7 2 99 ls st hp = ab_X rom K cX9_isBarred 7 2 103 ls st hp := ax_goto dX9_isBarred_99 (by decide)
theorem dX9_isBarred_102 : decode cX9_isBarred 102 = .ok (.iconst 0, 1) := by decide +kernel
theorem sX9_isBarred_102 : ab_X rom K cX9_isBarred 7 2 102 ls st hp = ab_X rom K cX9_isBarred 7 2 103 ls (.int 0 :: st) hp := ax_iconst dX9_isBarred_102 (by decide) rfl
theorem dX9_isBarred_103 : decode cX9_isBarred 103 = .ok (.ireturn, 1) := by decide +kernel
theorem sX9_isBarred_103 : ab_X rom K cX9_isBarred 7 2 103 ls [.int x] hp = if x = 0 ∨ x = 1 then some (some (.int x), hp) else none := ay_zret dX9_isBarred_103 rfl
theorem dX9_isBarred_104 : decode cX9_isBarred 104 = .ok (.iload 4, 2) := by decide +kernel
theorem sX9_isBarred_104 : ab_X rom K cX9_isBarred 7 2 104 (v0 :: v1 :: v2 :: v3 :: .int x :: ls) st hp = ab_X rom K cX9_isBarred 7 2 106 (v0 :: v1 :: v2 :: v3 :: .int x :: ls) (.int x :: st) hp := ax_iload dX9_isBarred_104 rfl rfl
theorem dX9_isBarred_106 : decode cX9_isBarred 106 = .ok (.ifCond .eq 43, 3) := by decide +kernel
theorem sX9_isBarred_106 : ab_X rom K cX9_isBarred 7 2 106 ls (.int x :: st) hp = if x = 0 then ab_X rom K cX9_isBarred 7 2 149 ls st hp else ab_X rom K cX9_isBarred 7 2 109 ls st hp := ax_if_eq dX9_isBarred_106 (by decide) rfl
theorem dX9_isBarred_109 : decode cX9_isBarred 109 = .ok (.iload_n 3, 1) := by decide +kernel
theorem sX9_isBarred_109 : ab_X rom K cX9_isBarred 7 2 109 (v0 :: v1 :: v2 :: .int x :: ls) st hp = ab_X rom K cX9_isBarred 7 2 110 (v0 :: v1 :: v2 :: .int x :: ls) (.int x :: st) hp := ax_iload_n dX9_isBarred_109 rfl rfl
theorem dX9_isBarred_110 : decode cX9_isBarred 110 = .ok (.iload 4, 2) := by decide +kernel
theorem sX9_isBarred_110 : ab_X rom K cX9_isBarred 7 2 110 (v0 :: v1 :: v2 :: v3 :: .int x :: ls) st hp = ab_X rom K cX9_isBarred 7 2 112 (v0 :: v1 :: v2 :: v3 :: .int x :: ls) (.int x :: st) hp := ax_iload dX9_isBarred_110 rfl rfl
theorem dX9_isBarred_112 : decode cX9_isBarred 112 = .ok (.if_icmp .le 11, 3) := by decide +kernel
theorem sX9_isBarred_112 : ab_X rom K cX9_isBarred 7 2 112 ls (.int y :: .int x :: st) hp = if y < x then ab_X rom K cX9_isBarred 7 2 115 ls st hp else ab_X rom K cX9_isBarred 7 2 123 ls st hp := ax_icmp_le dX9_isBarred_112 (by decide) rfl
theorem dX9_isBarred_115 : decode cX9_isBarred 115 = .ok (.aload_n 0, 1) := by decide +kernel
theorem sX9_isBarred_115 : ab_X rom K cX9_isBarred 7 2 115 (.ref a :: ls) st hp = ab_X rom K cX9_isBarred 7 2 116 (.ref a :: ls) (.ref a :: st) hp := ax_aload_n dX9_isBarred_115 rfl rfl
theorem dX9_isBarred_116 : decode cX9_isBarred 116 = .ok (.iload_n 1, 1) := by decide +kernel
theorem sX9_isBarred_116 : ab_X rom K cX9_isBarred 7 2 116 (v0 :: .int x :: ls) st hp = ab_X rom K cX9_isBarred 7 2 117 (v0 :: .int x :: ls) (.int x :: st) hp := ax_iload_n dX9_isBarred_116 rfl rfl
theorem dX9_isBarred_117 : decode cX9_isBarred 117 = .ok (.invokevirtual 200, 3) := by decide +kernel
theorem sX9_isBarred_117_0 : ab_X rom K cX9_isBarred 7 2 117 ls [w1, .ref a] hp = if ab_iso hp a 7 = true then (K 176 (.ref a :: [w1]) hp).bind (fun o => ab_X rom K cX9_isBarred 7 2 120 ls (o.1.toList ++ []) o.2) else none := ay_virtual (as := [w1]) (st := []) dX9_isBarred_117 kc_7_200 rfl rfl (Nat.le_of_ble_eq_true rfl)
theorem sX9_isBarred_117_1 : ab_X rom K cX9_isBarred 7 2 117 ls [w1, .ref a, v0] hp = if ab_iso hp a 7 = true then (K 176 (.ref a :: [w1]) hp).bind (fun o => ab_X rom K cX9_isBarred 7 2 120 ls (o.1.toList ++ [v0]) o.2) else none := ay_virtual (as := [w1]) (st := [v0]) dX9_isBarred_117 kc_7_200 rfl rfl (Nat.le_of_ble_eq_true rfl)
theorem sX9_isBarred_117_2 : ab_X rom K cX9_isBarred 7 2 117 ls [w1, .ref a, v0, v1] hp = if ab_iso hp a 7 = true then (K 176 (.ref a :: [w1]) hp).bind (fun o => ab_X rom K cX9_isBarred 7 2 120 ls (o.1.toList ++ [v0, v1]) o.2) else none := ay_virtual (as := [w1]) (st := [v0, v1]) dX9_isBarred_117 kc_7_200 rfl rfl (Nat.le_of_ble_eq_true rfl)
theorem sX9_isBarred_117_3 : ab_X rom K cX9_isBarred 7 2 117 ls [w1, .ref a, v0, v1, v2] hp = if ab_iso hp a 7 = true then (K 176 (.ref a :: [w1]) hp).bind (fun o => ab_X rom K cX9_isBarred 7 2 120 ls (o.1.toList ++ [v0, v1, v2]) o.2) else none := ay_virtual (as := [w1]) (st := [v0, v1, v2]) dX9_isBarred_117 kc_7_200 rfl rfl (Nat.le_of_ble_eq_true rfl)
theorem dX9_isBarred_120 : decode cX9_isBarred 120 = .ok (.ifCond .eq 29, 3) := by decide +kernel
theorem sX9_isBarred_120 : ab_X rom K cX9_isBarred 7 2 120 ls (.int x :: st) hp = if x = 0 then ab_X rom K cX9_isBarred 7 2 149 ls st hp else ab_X rom K cX9_isBarred 7 2 123 ls st hp := ax_if_eq dX9_isBarred_120 (by decide) rfl
theorem dX9_isBarred_123 : decode cX9_isBarred 123 = .ok (.iload 4, 2) := by decide +kernel
theorem sX9_isBarred_123 : ab_X rom K cX9_isBarred 7 2 123 (v0 :: v1 :: v2 :: v3 :: .int x :: ls) st hp = ab_X rom K cX9_isBarred 7 2 125 (v0 :: v1 :: v2 :: v3 :: .int x :: ls) (.int x :: st) hp := ax_iload dX9_isBarred_123 rfl rfl
theorem dX9_isBarred_125 : decode cX9_isBarred 125 = .ok (.iconst 2, 1) := by decide +kernel
theorem sX9_isBarred_125 : ab_X rom K cX9_isBarred 7 2 125 ls st hp = ab_X rom K cX9_isBarred 7 2 126 ls (.int 2 :: st) hp := ax_iconst dX9_isBarred_125 (by decide) rfl
theorem dX9_isBarred_126 : decode cX9_isBarred 126 = .ok (.irem, 1) := by decide +kernel
theorem sX9_isBarred_126 : ab_X rom K cX9_isBarred 7 2 126 ls (.int y :: .int x :: st) hp = if y = 0 then none else ab_X rom K cX9_isBarred 7 2 127 ls (.int (ab_rem x y) :: st) hp := ay_irem dX9_isBarred_126 rfl
theorem dX9_isBarred_127 : decode cX9_isBarred 127 = .ok (.ifCond .ne 26, 3) := by decide +kernel
theorem sX9_isBarred_127 : ab_X rom K cX9_isBarred 7 2 127 ls (.int x :: st) hp = if x = 0 then ab_X rom K cX9_isBarred 7 2 130 ls st hp else ab_X rom K cX9_isBarred 7 2 153 ls st hp := ax_if_ne dX9_isBarred_127 (by decide) rfl
theorem dX9_isBarred_130 : decode cX9_isBarred 130 = .ok (.aload_n 0, 1) := by decide +kernel
theorem sX9_isBarred_130 : ab_X rom K cX9_isBarred 7 2 130 (.ref a :: ls) st hp = ab_X rom K cX9_isBarred 7 2 131 (.ref a :: ls) (.ref a :: st) hp := ax_aload_n dX9_isBarred_130 rfl rfl
theorem dX9_isBarred_131 : decode cX9_isBarred 131 = .ok (.iload_n 1, 1) := by decide +kernel
theorem sX9_isBarred_131 : ab_X rom K cX9_isBarred 7 2 131 (v0 :: .int x :: ls) st hp = ab_X rom K cX9_isBarred 7 2 132 (v0 :: .int x :: ls) (.int x :: st) hp := ax_iload_n dX9_isBarred_131 rfl rfl
theorem dX9_isBarred_132 : decode cX9_isBarred 132 = .ok (.invokevirtual 307, 3) := by decide +kernel
theorem sX9_isBarred_132_0 : ab_X rom K cX9_isBarred 7 2 132 ls [w1, .ref a] hp = if ab_iso hp a 7 = true then (K 134 (.ref a :: [w1]) hp).bind (fun o => ab_X rom K cX9_isBarred 7 2 135 ls (o.1.toList ++ []) o.2) else none := ay_virtual (as := [w1]) (st := []) dX9_isBarred_132 kc_7_307 rfl rfl (Nat.le_of_ble_eq_true rfl)
theorem sX9_isBarred_132_1 : ab_X rom K cX9_isBarred 7 2 132 ls [w1, .ref a, v0] hp = if ab_iso hp a 7 = true then (K 134 (.ref a :: [w1]) hp).bind (fun o => ab_X rom K cX9_isBarred 7 2 135 ls (o.1.toList ++ [v0]) o.2) else none := ay_virtual (as := [w1]) (st := [v0]) dX9_isBarred_132 kc_7_307 rfl rfl (Nat.le_of_ble_eq_true rfl)
theorem sX9_isBarred_132_2 : ab_X rom K cX9_isBarred 7 2 132 ls [w1, .ref a, v0, v1] hp = if ab_iso hp a 7 = true then (K 134 (.ref a :: [w1]) hp).bind (fun o => ab_X rom K cX9_isBarred 7 2 135 ls (o.1.toList ++ [v0, v1]) o.2) else none := ay_virtual (as := [w1]) (st := [v0, v1]) dX9_isBarred_132 kc_7_307 rfl rfl (Nat.le_of_ble_eq_true rfl)
theorem sX9_isBarred_132_3 : ab_X rom K cX9_isBarred 7 2 132 ls [w1, .ref a, v0, v1, v2] hp = if ab_iso hp a 7 = true then (K 134 (.ref a :: [w1]) hp).bind (fun o => ab_X rom K cX9_isBarred 7 2 135 ls (o.1.toList ++ [v0, v1, v2]) o.2) else none := ay_virtual (as := [w1]) (st := [v0, v1, v2]) dX9_isBarred_132 kc_7_307 rfl rfl (Nat.le_of_ble_eq_true rfl)
theorem dX9_isBarred_135 : decode cX9_isBarred 135 = .ok (.ifCond .eq 18, 3) := by decide +kernel
theorem sX9_isBarred_135 : ab_X rom K cX9_isBarred 7 2 135 ls (.int x :: st) hp = if x = 0 then ab_X rom K cX9_isBarred 7 2 153 ls st hp else ab_X rom K cX9_isBarred 7 2 138 ls st hp := ax_if_eq dX9_isBarred_135 (by decide) rfl
theorem dX9_isBarred_138 : decode cX9_isBarred 138 = .ok (.iload 4, 2) := by decide +kernel
theorem sX9_isBarred_138 : ab_X rom K cX9_isBarred 7 2 138 (v0 :: v1 :: v2 :: v3 :: .int x :: ls) st hp = ab_X rom K cX9_isBarred 7 2 140 (v0 :: v1 :: v2 :: v3 :: .int x :: ls) (.int x :: st) hp := ax_iload dX9_isBarred_138 rfl rfl
theorem dX9_isBarred_140 : decode cX9_isBarred 140 = .ok (.aload_n 0, 1) := by decide +kernel
theorem sX9_isBarred_140 : ab_X rom K cX9_isBarred 7 2 140 (.ref a :: ls) st hp = ab_X rom K cX9_isBarred 7 2 141 (.ref a :: ls) (.ref a :: st) hp := ax_aload_n dX9_isBarred_140 rfl rfl
theorem dX9_isBarred_141 : decode cX9_isBarred 141 = .ok (.iload_n 1, 1) := by decide +kernel
theorem sX9_isBarred_141 : ab_X rom K cX9_isBarred 7 2 141 (v0 :: .int x :: ls) st hp = ab_X rom K cX9_isBarred 7 2 142 (v0 :: .int x :: ls) (.int x :: st) hp := ax_iload_n dX9_isBarred_141 rfl rfl
theorem dX9_isBarred_142 : decode cX9_isBarred 142 = .ok (.invokevirtual 313, 3) := by decide +kernel
theorem sX9_isBarred_142_0 : ab_X rom K cX9_isBarred 7 2 142 ls [w1, .ref a] hp = if ab_iso hp a 7 = true then (K 210 (.ref a :: [w1]) hp).bind (fun o => ab_X rom K cX9_isBarred 7 2 145 ls (o.1.toList ++ []) o.2) else none := ay_virtual (as := [w1]) (st := []) dX9_isBarred_142 kc_7_313 rfl rfl (Nat.le_of_ble_eq_true rfl)
theorem sX9_isBarred_142_1 : ab_X rom K cX9_isBarred 7 2 142 ls [w1, .ref a, v0] hp = if ab_iso hp a 7 = true then (K 210 (.ref a :: [w1]) hp).bind (fun o => ab_X rom K cX9_isBarred 7 2 145 ls (o.1.toList ++ [v0]) o.2) else none := ay_virtual (as := [w1]) (st := [v0]) dX9_isBarred_142 kc_7_313 rfl rfl (Nat.le_of_ble_eq_true rfl)
theorem sX9_isBarred_142_2 : ab_X rom K cX9_isBarred 7 2 142 ls [w1, .ref a, v0, v1] hp = if ab_iso hp a 7 = true then (K 210 (.ref a :: [w1]) hp).bind (fun o => ab_X rom K cX9_isBarred 7 2 145 ls (o.1.toList ++ [v0, v1]) o.2) else none := ay_virtual (as := [w1]) (st := [v0, v1]) dX9_isBarred_142 kc_7_313 rfl rfl (Nat.le_of_ble_eq_true rfl)
theorem sX9_isBarred_142_3 : ab_X rom K cX9_isBarred 7 2 142 ls [w1, .ref a, v0, v1, v2] hp = if ab_iso hp a 7 = true then (K 210 (.ref a :: [w1]) hp).bind (fun o => ab_X rom K cX9_isBarred 7 2 145 ls (o.1.toList ++ [v0, v1, v2]) o.2) else none := ay_virtual (as := [w1]) (st := [v0, v1, v2]) dX9_isBarred_142 kc_7_313 rfl rfl (Nat.le_of_ble_eq_true rfl)
theorem dX9_isBarred_145 : decode cX9_isBarred 145 = .ok (.irem, 1) := by decide +kernel
theorem sX9_isBarred_145 : ab_X rom K cX9_isBarred 7 2 145 ls (.int y :: .int x :: st) hp = if y = 0 then none else ab_X rom K cX9_isBarred 7 2 146 ls (.int (ab_rem x y) :: st) hp := ay_irem dX9_isBarred_145 rfl
theorem dX9_isBarred_146 : decode cX9_isBarred 146 = .ok (.ifCond .eq 7, 3) := by decide +kernel
theorem sX9_isBarred_146 : ab_X rom K cX9_isBarred 7 2 146 ls (.int x :: st) hp = if x = 0 then ab_X rom K cX9_isBarred 7 2 153 ls st hp else ab_X rom K cX9_isBarred 7 2 149 ls st hp := ax_if_eq dX9_isBarred_146 (by decide) rfl
theorem dX9_isBarred_149 : decode cX9_isBarred 149 = .ok (.iconst 1, 1) := by decide +kernel
theorem sX9_isBarred_149 : ab_X rom K cX9_isBarred 7 2 149 ls st hp = ab_X rom K cX9_isBarred 7 2 150 ls (.int 1 :: st) hp := ax_iconst dX9_isBarred_149 (by decide) rfl
theorem dX9_isBarred_150 : decode cX9_isBarred 150 = .ok (.goto 4, 3) := by decide +kernel
theorem sX9_isBarred_150 : ab_X rom K cX9_isBarred 7 2 150 ls st hp = ab_X rom K cX9_isBarred 7 2 154 ls st hp := ax_goto dX9_isBarred_150 (by decide)
theorem dX9_isBarred_153 : decode cX9_isBarred 153 = .ok (.iconst 0, 1) := by decide +kernel
theorem sX9_isBarred_153 : ab_X rom K cX9_isBarred 7 2 153 ls st hp = ab_X rom K cX9_isBarred 7 2 154 ls (.int 0 :: st) hp := ax_iconst dX9_isBarred_153 (by decide) rfl
theorem dX9_isBarred_154 : decode cX9_isBarred 154 = .ok (.ireturn, 1) := by decide +kernel
theorem sX9_isBarred_154 : ab_X rom K cX9_isBarred 7 2 154 ls [.int x] hp = if x = 0 ∨ x = 1 then some (some (.int x), hp) else none := ay_zret dX9_isBarred_154 rfl
theorem dX9_isBarred_155 : decode cX9_isBarred 155 = .ok (.aload_n 0, 1) := by decide +kernel
theorem sX9_isBarred_155 : ab_X rom K cX9_isBarred 7 2 155 (.ref a :: ls) st hp = ab_X rom K cX9_isBarred 7 2 156 (.ref a :: ls) (.ref a :: st) hp := ax_aload_n dX9_isBarred_155 rfl rfl
theorem dX9_isBarred_156 : decode cX9_isBarred 156 = .ok (.iload_n 1, 1) := by decide +kernel
theorem sX9_isBarred_156 : ab_X rom K cX9_isBarred 7 2 156 (v0 :: .int x :: ls) st hp = ab_X rom K cX9_isBarred 7 2 157 (v0 :: .int x :: ls) (.int x :: st) hp := ax_iload_n dX9_isBarred_156 rfl rfl
theorem dX9_isBarred_157 : decode cX9_isBarred 157 = .ok (.invokevirtual 203, 3) := by decide +kernel
theorem sX9_isBarred_157_0 : ab_X rom K cX9_isBarred 7 2 157 ls [w1, .ref a] hp = if ab_iso hp a 7 = true then (K 177 (.ref a :: [w1]) hp).bind (fun o => ab_X rom K cX9_isBarred 7 2 160 ls (o.1.toList ++ []) o.2) else none := ay_virtual (as := [w1]) (st := []) dX9_isBarred_157 kc_7_203 rfl rfl (Nat.le_of_ble_eq_true rfl)
theorem sX9_isBarred_157_1 : ab_X rom K cX9_isBarred 7 2 157 ls [w1, .ref a, v0] hp = if ab_iso hp a 7 = true then (K 177 (.ref a :: [w1]) hp).bind (fun o => ab_X rom K cX9_isBarred 7 2 160 ls (o.1.toList ++ [v0]) o.2) else none := ay_virtual (as := [w1]) (st := [v0]) dX9_isBarred_157 kc_7_203 rfl rfl (Nat.le_of_ble_eq_true rfl)
theorem sX9_isBarred_157_2 : ab_X rom K cX9_isBarred 7 2 157 ls [w1, .ref a, v0, v1] hp = if ab_iso hp a 7 = true then (K 177 (.ref a :: [w1]) hp).bind (fun o => ab_X rom K cX9_isBarred 7 2 160 ls (o.1.toList ++ [v0, v1]) o.2) else none := ay_virtual (as := [w1]) (st := [v0, v1]) dX9_isBarred_157 kc_7_203 rfl rfl (Nat.le_of_ble_eq_true rfl)
theorem sX9_isBarred_157_3 : ab_X rom K cX9_isBarred 7 2 157 ls [w1, .ref a, v0, v1, v2] hp = if ab_iso hp a 7 = true then (K 177 (.ref a :: [w1]) hp).bind (fun o => ab_X rom K cX9_isBarred 7 2 160 ls (o.1.toList ++ [v0, v1, v2]) o.2) else none := ay_virtual (as := [w1]) (st := [v0, v1, v2]) dX9_isBarred_157 kc_7_203 rfl rfl (Nat.le_of_ble_eq_true rfl)
theorem dX9_isBarred_160 : decode cX9_isBarred 160 = .ok (.ifCond .eq 11, 3) := by decide +kernel
theorem sX9_isBarred_160 : ab_X rom K cX9_isBarred 7 2 160 ls (.int x :: st) hp = if x = 0 then ab_X rom K cX9_isBarred 7 2 171 ls st hp else ab_X rom K cX9_isBarred 7 2 163 ls st hp := ax_if_eq dX9_isBarred_160 (by decide) rfl
theorem dX9_isBarred_163 : decode cX9_isBarred 163 = .ok (.iload_n 3, 1) := by decide +kernel
theorem sX9_isBarred_163 : ab_X rom K cX9_isBarred 7 2 163 (v0 :: v1 :: v2 :: .int x :: ls) st hp = ab_X rom K cX9_isBarred 7 2 164 (v0 :: v1 :: v2 :: .int x :: ls) (.int x :: st) hp := ax_iload_n dX9_isBarred_163 rfl rfl
theorem dX9_isBarred_164 : decode cX9_isBarred 164 = .ok (.iconst 2, 1) := by decide +kernel
theorem sX9_isBarred_164 : ab_X rom K cX9_isBarred 7 2 164 ls st hp = ab_X rom K cX9_isBarred 7 2 165 ls (.int 2 :: st) hp := ax_iconst dX9_isBarred_164 (by decide) rfl
theorem dX9_isBarred_165 : decode cX9_isBarred 165 = .ok (.iload 4, 2) := by decide +kernel
theorem sX9_isBarred_165 : ab_X rom K cX9_isBarred 7 2 165 (v0 :: v1 :: v2 :: v3 :: .int x :: ls) st hp = ab_X rom K cX9_isBarred 7 2 167 (v0 :: v1 :: v2 :: v3 :: .int x :: ls) (.int x :: st) hp := ax_iload dX9_isBarred_165 rfl rfl
theorem dX9_isBarred_167 : decode cX9_isBarred 167 = .ok (.imul, 1) := by decide +kernel
theorem sX9_isBarred_167 : ab_X rom K cX9_isBarred 7 2 167 ls (.int y :: .int x :: st) hp = ab_X rom K cX9_isBarred 7 2 168 ls (.int (x * y) :: st) hp := ax_imul dX9_isBarred_167 rfl
theorem dX9_isBarred_168 : decode cX9_isBarred 168 = .ok (.if_icmp .le 7, 3) := by decide +kernel
theorem sX9_isBarred_168 : ab_X rom K cX9_isBarred 7 2 168 ls (.int y :: .int x :: st) hp = if y < x then ab_X rom K cX9_isBarred 7 2 171 ls st hp else ab_X rom K cX9_isBarred 7 2 175 ls st hp := ax_icmp_le dX9_isBarred_168 (by decide) rfl
theorem dX9_isBarred_171 : decode cX9_isBarred 171 = .ok (.iconst 1, 1) := by decide +kernel
theorem sX9_isBarred_171 : ab_X rom K cX9_isBarred 7 2 171 ls st hp = ab_X rom K cX9_isBarred 7 2 172 ls (.int 1 :: st) hp := ax_iconst dX9_isBarred_171 (by decide) rfl
theorem dX9_isBarred_172 : decode cX9_isBarred 172 = .ok (.goto 4, 3) := by decide +kernel
theorem sX9_isBarred_172 : ab_X rom K cX9_isBarred 7 2 172 ls st hp = ab_X rom K cX9_isBarred 7 2 176 ls st hp := ax_goto dX9_isBarred_172 (by decide)
theorem dX9_isBarred_175 : decode cX9_isBarred 175 = .ok (.iconst 0, 1) := by decide +kernel
theorem sX9_isBarred_175 : ab_X rom K cX9_isBarred 7 2 175 ls st hp = ab_X rom K cX9_isBarred 7 2 176 ls (.int 0 :: st) hp := ax_iconst dX9_isBarred_175 (by decide) rfl
theorem dX9_isBarred_176 : decode cX9_isBarred 176 = .ok (.ireturn, 1) := by decide +kernel
theorem sX9_isBarred_176 : ab_X rom K cX9_isBarred 7 2 176 ls [.int x] hp = if x = 0 ∨ x = 1 then some (some (.int x), hp) else none := ay_zret dX9_isBarred_176 rfl
theorem dX9_isBarred_177 : decode cX9_isBarred 177 = .ok (.aload_n 0, 1) := by decide +kernel
theorem sX9_isBarred_177 : ab_X rom K cX9_isBarred 7 2 177 (.ref a :: ls) st hp = ab_X rom K cX9_isBarred 7 2 178 (.ref a :: ls) (.ref a :: st) hp := ax_aload_n dX9_isBarred_177 rfl rfl
theorem dX9_isBarred_178 : decode cX9_isBarred 178 = .ok (.iload_n 1, 1) := by decide +kernel
theorem sX9_isBarred_178 : ab_X rom K cX9_isBarred 7 2 178 (v0 :: .int x :: ls) st hp = ab_X rom K cX9_isBarred 7 2 179 (v0 :: .int x :: ls) (.int x :: st) hp := ax_iload_n dX9_isBarred_178 rfl rfl
theorem dX9_isBarred_179 : decode cX9_isBarred 179 = .ok (.invokevirtual 307, 3) := by decide +kernel
theorem sX9_isBarred_179_0 : ab_X rom K cX9_isBarred 7 2 179 ls [w1, .ref a] hp = if ab_iso hp a 7 = true then (K 134 (.ref a :: [w1]) hp).bind (fun o => ab_X rom K cX9_isBarred 7 2 182 ls (o.1.toList ++ []) o.2) else none := ay_virtual (as := [w1]) (st := []) dX9_isBarred_179 kc_7_307 rfl rfl (Nat.le_of_ble_eq_true rfl)
theorem sX9_isBarred_179_1 : ab_X rom K cX9_isBarred 7 2 179 ls [w1, .ref a, v0] hp = if ab_iso hp a 7 = true then (K 134 (.ref a :: [w1]) hp).bind (fun o => ab_X rom K cX9_isBarred 7 2 182 ls (o.1.toList ++ [v0]) o.2) else none := ay_virtual (as := [w1]) (st := [v0]) dX9_isBarred_179 kc_7_307 rfl rfl (Nat.le_of_ble_eq_true rfl)
theorem sX9_isBarred_179_2 : ab_X rom K cX9_isBarred 7 2 179 ls [w1, .ref a, v0, v1] hp = if ab_iso hp a 7 = true then (K 134 (.ref a :: [w1]) hp).bind (fun o => ab_X rom K cX9_isBarred 7 2 182 ls (o.1.toList ++ [v0, v1]) o.2) else none := ay_virtual (as := [w1]) (st := [v0, v1]) dX9_isBarred_179 kc_7_307 rfl rfl (Nat.le_of_ble_eq_true rfl)
theorem sX9_isBarred_179_3 : ab_X rom K cX9_isBarred 7 2 179 ls [w1, .ref a, v0, v1, v2] hp = if ab_iso hp a 7 = true then (K 134 (.ref a :: [w1]) hp).bind (fun o => ab_X rom K cX9_isBarred 7 2 182 ls (o.1.toList ++ [v0, v1, v2]) o.2) else none := ay_virtual (as := [w1]) (st := [v0, v1, v2]) dX9_isBarred_179 kc_7_307 rfl rfl (Nat.le_of_ble_eq_true rfl)
theorem dX9_isBarred_182 : decode cX9_isBarred 182 = .ok (.ifCond .eq 15, 3) := by decide +kernel
theorem sX9_isBarred_182 : ab_X rom K cX9_isBarred 7 2 182 ls (.int x :: st) hp = if x = 0 then ab_X rom K cX9_isBarred 7 2 197 ls st hp else ab_X rom K cX9_isBarred 7 2 185 ls st hp := ax_if_eq dX9_isBarred_182 (by decide) rfl
theorem dX9_isBarred_185 : decode cX9_isBarred 185 = .ok (.iload 4, 2) := by decide +kernel
theorem sX9_isBarred_185 : ab_X rom K cX9_isBarred 7 2 185 (v0 :: v1 :: v2 :: v3 :: .int x :: ls) st hp = ab_X rom K cX9_isBarred 7 2 187 (v0 :: v1 :: v2 :: v3 :: .int x :: ls) (.int x :: st) hp := ax_iload dX9_isBarred_185 rfl rfl
theorem dX9_isBarred_187 : decode cX9_isBarred 187 = .ok (.iconst 4, 1) := by decide +kernel
theorem sX9_isBarred_187 : ab_X rom K cX9_isBarred 7 2 187 ls st hp = ab_X rom K cX9_isBarred 7 2 188 ls (.int 4 :: st) hp := ax_iconst dX9_isBarred_187 (by decide) rfl
theorem dX9_isBarred_188 : decode cX9_isBarred 188 = .ok (.irem, 1) := by decide +kernel
theorem sX9_isBarred_188 : ab_X rom K cX9_isBarred 7 2 188 ls (.int y :: .int x :: st) hp = if y = 0 then none else ab_X rom K cX9_isBarred 7 2 189 ls (.int (ab_rem x y) :: st) hp := ay_irem dX9_isBarred_188 rfl
theorem dX9_isBarred_189 : decode cX9_isBarred 189 = .ok (.iconst 2, 1) := by decide +kernel
theorem sX9_isBarred_189 : ab_X rom K cX9_isBarred 7 2 189 ls st hp = ab_X rom K cX9_isBarred 7 2 190 ls (.int 2 :: st) hp := ax_iconst dX9_isBarred_189 (by decide) rfl
theorem dX9_isBarred_190 : decode cX9_isBarred 190 = .ok (.if_icmp .ne 7, 3) := by decide +kernel
theorem sX9_isBarred_190 : ab_X rom K cX9_isBarred 7 2 190 ls (.int y :: .int x :: st) hp = if x = y then ab_X rom K cX9_isBarred 7 2 193 ls st hp else ab_X rom K cX9_isBarred 7 2 197 ls st hp := ax_icmp_ne dX9_isBarred_190 (by decide) rfl
theorem dX9_isBarred_193 : decode cX9_isBarred 193 = .ok (.iconst 1, 1) := by decide +kernel
theorem sX9_isBarred_193 : ab_X rom K cX9_isBarred 7 2 193 ls st hp = ab_X rom K cX9_isBarred 7 2 194 ls (.int 1 :: st) hp := ax_iconst dX9_isBarred_193 (by decide) rfl
theorem dX9_isBarred_194 : decode cX9_isBarred 194 = .ok (.goto 4, 3) := by decide +kernel
theorem sX9_isBarred_194 : ab_X rom K cX9_isBarred 7 2 194 ls st hp = ab_X rom K cX9_isBarred 7 2 198 ls st hp := ax_goto dX9_isBarred_194 (by decide)
theorem dX9_isBarred_197 : decode cX9_isBarred 197 = .ok (.iconst 0, 1) := by decide +kernel
theorem sX9_isBarred_197 : ab_X rom K cX9_isBarred 7 2 197 ls st hp = ab_X rom K cX9_isBarred 7 2 198 ls (.int 0 :: st) hp := ax_iconst dX9_isBarred_197 (by decide) rfl
theorem dX9_isBarred_198 : decode cX9_isBarred 198 = .ok (.ireturn, 1) := by decide +kernel
theorem sX9_isBarred_198 : ab_X rom K cX9_isBarred 7 2 198 ls [.int x] hp = if x = 0 ∨ x = 1 then some (some (.int x), hp) else none := ay_zret dX9_isBarred_198 rfl
theorem tX9_isElse : ab_mT[166]? = some (yX9_isElse, cX9_isElse, 2, 2, 7) := by decide +kernel
theorem mX9_isElse {d : Nat} {a0 : Nat} {x0 : Int32} : ab_M rom (d + 1) 166 [.ref a0, .int x0] hp = ab_X rom (ab_M rom d) cX9_isElse 7 2 0 [.ref a0, .int x0] [] hp := ab_M_eq tX9_isElse (Nat.le_of_ble_eq_true rfl)
theorem dX9_isElse_0 : decode cX9_isElse 0 = .ok (.iload_n 1, 1) := by decide +kernel
theorem sX9_isElse_0 : ab_X rom K cX9_isElse 7 2 0 (v0 :: .int x :: ls) st hp = ab_X rom K cX9_isElse 7 2 1 (v0 :: .int x :: ls) (.int x :: st) hp := ax_iload_n dX9_isElse_0 rfl rfl
theorem dX9_isElse_1 : decode cX9_isElse 1 = .ok (.iconst 1, 1) := by decide +kernel
theorem sX9_isElse_1 : ab_X rom K cX9_isElse 7 2 1 ls st hp = ab_X rom K cX9_isElse 7 2 2 ls (.int 1 :: st) hp := ax_iconst dX9_isElse_1 (by decide) rfl
theorem dX9_isElse_2 : decode cX9_isElse 2 = .ok (.if_icmp .ne 10, 3) := by decide +kernel
theorem sX9_isElse_2 : ab_X rom K cX9_isElse 7 2 2 ls (.int y :: .int x :: st) hp = if x = y then ab_X rom K cX9_isElse 7 2 5 ls st hp else ab_X rom K cX9_isElse 7 2 12 ls st hp := ax_icmp_ne dX9_isElse_2 (by decide) rfl
theorem dX9_isElse_5 : decode cX9_isElse 5 = .ok (.aload_n 0, 1) := by decide +kernel
theorem sX9_isElse_5 : ab_X rom K cX9_isElse 7 2 5 (.ref a :: ls) st hp = ab_X rom K cX9_isElse 7 2 6 (.ref a :: ls) (.ref a :: st) hp := ax_aload_n dX9_isElse_5 rfl rfl
theorem dX9_isElse_6 : decode cX9_isElse 6 = .ok (.invokevirtual 247, 3) := by decide +kernel
theorem sX9_isElse_6_0 : ab_X rom K cX9_isElse 7 2 6 ls [.ref a] hp = if ab_iso hp a 7 = true then (K 161 (.ref a :: []) hp).bind (fun o => ab_X rom K cX9_isElse 7 2 9 ls (o.1.toList ++ []) o.2) else none := ay_virtual (as := []) (st := []) dX9_isElse_6 kc_7_247 rfl rfl (Nat.le_of_ble_eq_true rfl)
theorem sX9_isElse_6_1 : ab_X rom K cX9_isElse 7 2 6 ls [.ref a, v0] hp = if ab_iso hp a 7 = true then (K 161 (.ref a :: []) hp).bind (fun o => ab_X rom K cX9_isElse 7 2 9 ls (o.1.toList ++ [v0]) o.2) else none := ay_virtual (as := []) (st := [v0]) dX9_isElse_6 kc_7_247 rfl rfl (Nat.le_of_ble_eq_true rfl)
theorem sX9_isElse_6_2 : ab_X rom K cX9_isElse 7 2 6 ls [.ref a, v0, v1] hp = if ab_iso hp a 7 = true then (K 161 (.ref a :: []) hp).bind (fun o => ab_X rom K cX9_isElse 7 2 9 ls (o.1.toList ++ [v0, v1]) o.2) else none := ay_virtual (as := []) (st := [v0, v1]) dX9_isElse_6 kc_7_247 rfl rfl (Nat.le_of_ble_eq_true rfl)
theorem sX9_isElse_6_3 : ab_X rom K cX9_isElse 7 2 6 ls [.ref a, v0, v1, v2] hp = if ab_iso hp a 7 = true then (K 161 (.ref a :: []) hp).bind (fun o => ab_X rom K cX9_isElse 7 2 9 ls (o.1.toList ++ [v0, v1, v2]) o.2) else none := ay_virtual (as := []) (st := [v0, v1, v2]) dX9_isElse_6 kc_7_247 rfl rfl (Nat.le_of_ble_eq_true rfl)
theorem dX9_isElse_9 : decode cX9_isElse 9 = .ok (.goto 60, 3) := by decide +kernel
theorem sX9_isElse_9 : ab_X rom K cX9_isElse 7 2 9 ls st hp = ab_X rom K cX9_isElse 7 2 69 ls st hp := ax_goto dX9_isElse_9 (by decide)
theorem dX9_isElse_12 : decode cX9_isElse 12 = .ok (.iload_n 1, 1) := by decide +kernel
theorem sX9_isElse_12 : ab_X rom K cX9_isElse 7 2 12 (v0 :: .int x :: ls) st hp = ab_X rom K cX9_isElse 7 2 13 (v0 :: .int x :: ls) (.int x :: st) hp := ax_iload_n dX9_isElse_12 rfl rfl
theorem dX9_isElse_13 : decode cX9_isElse 13 = .ok (.iconst 3, 1) := by decide +kernel
theorem sX9_isElse_13 : ab_X rom K cX9_isElse 7 2 13 ls st hp = ab_X rom K cX9_isElse 7 2 14 ls (.int 3 :: st) hp := ax_iconst dX9_isElse_13 (by decide) rfl
theorem dX9_isElse_14 : decode cX9_isElse 14 = .ok (.if_icmp .ne 14, 3) := by decide +kernel
theorem sX9_isElse_14 : ab_X rom K cX9_isElse 7 2 14 ls (.int y :: .int x :: st) hp = if x = y then ab_X rom K cX9_isElse 7 2 17 ls st hp else ab_X rom K cX9_isElse 7 2 28 ls st hp := ax_icmp_ne dX9_isElse_14 (by decide) rfl
theorem dX9_isElse_17 : decode cX9_isElse 17 = .ok (.aload_n 0, 1) := by decide +kernel
theorem sX9_isElse_17 : ab_X rom K cX9_isElse 7 2 17 (.ref a :: ls) st hp = ab_X rom K cX9_isElse 7 2 18 (.ref a :: ls) (.ref a :: st) hp := ax_aload_n dX9_isElse_17 rfl rfl
theorem dX9_isElse_18 : decode cX9_isElse 18 = .ok (.aload_n 0, 1) := by decide +kernel
theorem sX9_isElse_18 : ab_X rom K cX9_isElse 7 2 18 (.ref a :: ls) st hp = ab_X rom K cX9_isElse 7 2 19 (.ref a :: ls) (.ref a :: st) hp := ax_aload_n dX9_isElse_18 rfl rfl
theorem dX9_isElse_19 : decode cX9_isElse 19 = .ok (.getfield 235, 3) := by decide +kernel
theorem sX9_isElse_19 : ab_X rom K cX9_isElse 7 2 19 ls (.ref a :: st) hp = (ab_fld hp a 7 17).bind (fun v => ab_X rom K cX9_isElse 7 2 22 ls (v :: st) hp) := ax_getfield dX9_isElse_19 kf_7_235 rfl
theorem dX9_isElse_22 : decode cX9_isElse 22 = .ok (.invokevirtual 251, 3) := by decide +kernel
theorem sX9_isElse_22_0 : ab_X rom K cX9_isElse 7 2 22 ls [w1, .ref a] hp = if ab_iso hp a 7 = true then (K 172 (.ref a :: [w1]) hp).bind (fun o => ab_X rom K cX9_isElse 7 2 25 ls (o.1.toList ++ []) o.2) else none := ay_virtual (as := [w1]) (st := []) dX9_isElse_22 kc_7_251 rfl rfl (Nat.le_of_ble_eq_true rfl)
theorem sX9_isElse_22_1 : ab_X rom K cX9_isElse 7 2 22 ls [w1, .ref a, v0] hp = if ab_iso hp a 7 = true then (K 172 (.ref a :: [w1]) hp).bind (fun o => ab_X rom K cX9_isElse 7 2 25 ls (o.1.toList ++ [v0]) o.2) else none := ay_virtual (as := [w1]) (st := [v0]) dX9_isElse_22 kc_7_251 rfl rfl (Nat.le_of_ble_eq_true rfl)
theorem sX9_isElse_22_2 : ab_X rom K cX9_isElse 7 2 22 ls [w1, .ref a, v0, v1] hp = if ab_iso hp a 7 = true then (K 172 (.ref a :: [w1]) hp).bind (fun o => ab_X rom K cX9_isElse 7 2 25 ls (o.1.toList ++ [v0, v1]) o.2) else none := ay_virtual (as := [w1]) (st := [v0, v1]) dX9_isElse_22 kc_7_251 rfl rfl (Nat.le_of_ble_eq_true rfl)
theorem sX9_isElse_22_3 : ab_X rom K cX9_isElse 7 2 22 ls [w1, .ref a, v0, v1, v2] hp = if ab_iso hp a 7 = true then (K 172 (.ref a :: [w1]) hp).bind (fun o => ab_X rom K cX9_isElse 7 2 25 ls (o.1.toList ++ [v0, v1, v2]) o.2) else none := ay_virtual (as := [w1]) (st := [v0, v1, v2]) dX9_isElse_22 kc_7_251 rfl rfl (Nat.le_of_ble_eq_true rfl)
theorem dX9_isElse_25 : decode cX9_isElse 25 = .ok (.goto 44, 3) := by decide +kernel
theorem sX9_isElse_25 : ab_X rom K cX9_isElse 7 2 25 ls st hp = ab_X rom K cX9_isElse 7 2 69 ls st hp := ax_goto dX9_isElse_25 (by decide)
theorem dX9_isElse_28 : decode cX9_isElse 28 = .ok (.iload_n 1, 1) := by decide +kernel
theorem sX9_isElse_28 : ab_X rom K cX9_isElse 7 2 28 (v0 :: .int x :: ls) st hp = ab_X rom K cX9_isElse 7 2 29 (v0 :: .int x :: ls) (.int x :: st) hp := ax_iload_n dX9_isElse_28 rfl rfl
theorem dX9_isElse_29 : decode cX9_isElse 29 = .ok (.iconst 4, 1) := by decide +kernel
theorem sX9_isElse_29 : ab_X rom K cX9_isElse 7 2 29 ls st hp = ab_X rom K cX9_isElse 7 2 30 ls (.int 4 :: st) hp := ax_iconst dX9_isElse_29 (by decide) rfl
theorem dX9_isElse_30 : decode cX9_isElse 30 = .ok (.if_icmp .ne 10, 3) := by decide +kernel
theorem sX9_isElse_30 : ab_X rom K cX9_isElse 7 2 30 ls (.int y :: .int x :: st) hp = if x = y then ab_X rom K cX9_isElse 7 2 33 ls st hp else ab_X rom K cX9_isElse 7 2 40 ls st hp := ax_icmp_ne dX9_isElse_30 (by decide) rfl
theorem dX9_isElse_33 : decode cX9_isElse 33 = .ok (.aload_n 0, 1) := by decide +kernel
theorem sX9_isElse_33 : ab_X rom K cX9_isElse 7 2 33 (.ref a :: ls) st hp = ab_X rom K cX9_isElse 7 2 34 (.ref a :: ls) (.ref a :: st) hp := ax_aload_n dX9_isElse_33 rfl rfl
theorem dX9_isElse_34 : decode cX9_isElse 34 = .ok (.invokevirtual 254, 3) := by decide +kernel
theorem sX9_isElse_34_0 : ab_X rom K cX9_isElse 7 2 34 ls [.ref a] hp = if ab_iso hp a 7 = true then (K 164 (.ref a :: []) hp).bind (fun o => ab_X rom K cX9_isElse 7 2 37 ls (o.1.toList ++ []) o.2) else none := ay_virtual (as := []) (st := []) dX9_isElse_34 kc_7_254 rfl rfl (Nat.le_of_ble_eq_true rfl)
theorem sX9_isElse_34_1 : ab_X rom K cX9_isElse 7 2 34 ls [.ref a, v0] hp = if ab_iso hp a 7 = true then (K 164 (.ref a :: []) hp).bind (fun o => ab_X rom K cX9_isElse 7 2 37 ls (o.1.toList ++ [v0]) o.2) else none := ay_virtual (as := []) (st := [v0]) dX9_isElse_34 kc_7_254 rfl rfl (Nat.le_of_ble_eq_true rfl)
theorem sX9_isElse_34_2 : ab_X rom K cX9_isElse 7 2 34 ls [.ref a, v0, v1] hp = if ab_iso hp a 7 = true then (K 164 (.ref a :: []) hp).bind (fun o => ab_X rom K cX9_isElse 7 2 37 ls (o.1.toList ++ [v0, v1]) o.2) else none := ay_virtual (as := []) (st := [v0, v1]) dX9_isElse_34 kc_7_254 rfl rfl (Nat.le_of_ble_eq_true rfl)
theorem sX9_isElse_34_3 : ab_X rom K cX9_isElse 7 2 34 ls [.ref a, v0, v1, v2] hp = if ab_iso hp a 7 = true then (K 164 (.ref a :: []) hp).bind (fun o => ab_X rom K cX9_isElse 7 2 37 ls (o.1.toList ++ [v0, v1, v2]) o.2) else none := ay_virtual (as := []) (st := [v0, v1, v2]) dX9_isElse_34 kc_7_254 rfl rfl (Nat.le_of_ble_eq_true rfl)
theorem dX9_isElse_37 : decode cX9_isElse 37 = .ok (.goto 32, 3) := by decide +kernel
theorem sX9_isElse_37 : ab_X rom K cX9_isElse 7 2 37 ls st hp = ab_X rom K cX9_isElse 7 2 69 ls st hp := ax_goto dX9_isElse_37 (by decide)
theorem dX9_isElse_40 : decode cX9_isElse 40 = .ok (.iload_n 1, 1) := by decide +kernel
theorem sX9_isElse_40 : ab_X rom K cX9_isElse 7 2 40 (v0 :: .int x :: ls) st hp = ab_X rom K cX9_isElse 7 2 41 (v0 :: .int x :: ls) (.int x :: st) hp := ax_iload_n dX9_isElse_40 rfl rfl
theorem dX9_isElse_41 : decode cX9_isElse 41 = .ok (.iconst 2, 1) := by decide +kernel
theorem sX9_isElse_41 : ab_X rom K cX9_isElse 7 2 41 ls st hp = ab_X rom K cX9_isElse 7 2 42 ls (.int 2 :: st) hp := ax_iconst dX9_isElse_41 (by decide) rfl
theorem dX9_isElse_42 : decode cX9_isElse 42 = .ok (.if_icmp .ne 22, 3) := by decide +kernel
theorem sX9_isElse_42 : ab_X rom K cX9_isElse 7 2 42 ls (.int y :: .int x :: st) hp = if x = y then ab_X rom K cX9_isElse 7 2 45 ls st hp else ab_X rom K cX9_isElse 7 2 64 ls st hp := ax_icmp_ne dX9_isElse_42 (by decide) rfl
theorem dX9_isElse_45 : decode cX9_isElse 45 = .ok (.aload_n 0, 1) := by decide +kernel
theorem sX9_isElse_45 : ab_X rom K cX9_isElse 7 2 45 (.ref a :: ls) st hp = ab_X rom K cX9_isElse 7 2 46 (.ref a :: ls) (.ref a :: st) hp := ax_aload_n dX9_isElse_45 rfl rfl
theorem dX9_isElse_46 : decode cX9_isElse 46 = .ok (.getfield 238, 3) := by decide +kernel
theorem sX9_isElse_46 : ab_X rom K cX9_isElse 7 2 46 ls (.ref a :: st) hp = (ab_fld hp a 7 18).bind (fun v => ab_X rom K cX9_isElse 7 2 49 ls (v :: st) hp) := ax_getfield dX9_isElse_46 kf_7_238 rfl
theorem dX9_isElse_49 : decode cX9_isElse 49 = .ok (.ifCond .eq 15, 3) := by decide +kernel
theorem sX9_isElse_49 : ab_X rom K cX9_isElse 7 2 49 ls (.int x :: st) hp = if x = 0 then ab_X rom K cX9_isElse 7 2 64 ls st hp else ab_X rom K cX9_isElse 7 2 52 ls st hp := ax_if_eq dX9_isElse_49 (by decide) rfl
theorem dX9_isElse_52 : decode cX9_isElse 52 = .ok (.aload_n 0, 1) := by decide +kernel
theorem sX9_isElse_52 : ab_X rom K cX9_isElse 7 2 52 (.ref a :: ls) st hp = ab_X rom K cX9_isElse 7 2 53 (.ref a :: ls) (.ref a :: st) hp := ax_aload_n dX9_isElse_52 rfl rfl
theorem dX9_isElse_53 : decode cX9_isElse 53 = .ok (.aload_n 0, 1) := by decide +kernel
theorem sX9_isElse_53 : ab_X rom K cX9_isElse 7 2 53 (.ref a :: ls) st hp = ab_X rom K cX9_isElse 7 2 54 (.ref a :: ls) (.ref a :: st) hp := ax_aload_n dX9_isElse_53 rfl rfl
theorem dX9_isElse_54 : decode cX9_isElse 54 = .ok (.getfield 235, 3) := by decide +kernel
theorem sX9_isElse_54 : ab_X rom K cX9_isElse 7 2 54 ls (.ref a :: st) hp = (ab_fld hp a 7 17).bind (fun v => ab_X rom K cX9_isElse 7 2 57 ls (v :: st) hp) := ax_getfield dX9_isElse_54 kf_7_235 rfl
theorem dX9_isElse_57 : decode cX9_isElse 57 = .ok (.invokevirtual 241, 3) := by decide +kernel
theorem sX9_isElse_57_0 : ab_X rom K cX9_isElse 7 2 57 ls [w1, .ref a] hp = if ab_iso hp a 7 = true then (K 145 (.ref a :: [w1]) hp).bind (fun o => ab_X rom K cX9_isElse 7 2 60 ls (o.1.toList ++ []) o.2) else none := ay_virtual (as := [w1]) (st := []) dX9_isElse_57 kc_7_241 rfl rfl (Nat.le_of_ble_eq_true rfl)
theorem sX9_isElse_57_1 : ab_X rom K cX9_isElse 7 2 57 ls [w1, .ref a, v0] hp = if ab_iso hp a 7 = true then (K 145 (.ref a :: [w1]) hp).bind (fun o => ab_X rom K cX9_isElse 7 2 60 ls (o.1.toList ++ [v0]) o.2) else none := ay_virtual (as := [w1]) (st := [v0]) dX9_isElse_57 kc_7_241 rfl rfl (Nat.le_of_ble_eq_true rfl)
theorem sX9_isElse_57_2 : ab_X rom K cX9_isElse 7 2 57 ls [w1, .ref a, v0, v1] hp = if ab_iso hp a 7 = true then (K 145 (.ref a :: [w1]) hp).bind (fun o => ab_X rom K cX9_isElse 7 2 60 ls (o.1.toList ++ [v0, v1]) o.2) else none := ay_virtual (as := [w1]) (st := [v0, v1]) dX9_isElse_57 kc_7_241 rfl rfl (Nat.le_of_ble_eq_true rfl)
theorem sX9_isElse_57_3 : ab_X rom K cX9_isElse 7 2 57 ls [w1, .ref a, v0, v1, v2] hp = if ab_iso hp a 7 = true then (K 145 (.ref a :: [w1]) hp).bind (fun o => ab_X rom K cX9_isElse 7 2 60 ls (o.1.toList ++ [v0, v1, v2]) o.2) else none := ay_virtual (as := [w1]) (st := [v0, v1, v2]) dX9_isElse_57 kc_7_241 rfl rfl (Nat.le_of_ble_eq_true rfl)
theorem dX9_isElse_60 : decode cX9_isElse 60 = .ok (.iconst 1, 1) := by decide +kernel
theorem sX9_isElse_60 : ab_X rom K cX9_isElse 7 2 60 ls st hp = ab_X rom K cX9_isElse 7 2 61 ls (.int 1 :: st) hp := ax_iconst dX9_isElse_60 (by decide) rfl
theorem dX9_isElse_61 : decode cX9_isElse 61 = .ok (.if_icmp .ne 7, 3) := by decide +kernel
theorem sX9_isElse_61 : ab_X rom K cX9_isElse 7 2 61 ls (.int y :: .int x :: st) hp = if x = y then ab_X rom K cX9_isElse 7 2 64 ls st hp else ab_X rom K cX9_isElse 7 2 68 ls st hp := ax_icmp_ne dX9_isElse_61 (by decide) rfl
theorem dX9_isElse_64 : decode cX9_isElse 64 = .ok (.iconst 1, 1) := by decide +kernel
theorem sX9_isElse_64 : ab_X rom K cX9_isElse 7 2 64 ls st hp = ab_X rom K cX9_isElse 7 2 65 ls (.int 1 :: st) hp := ax_iconst dX9_isElse_64 (by decide) rfl
theorem dX9_isElse_65 : decode cX9_isElse 65 = .ok (.goto 4, 3) := by decide +kernel
theorem sX9_isElse_65 : ab_X rom K cX9_isElse 7 2 65 ls st hp = ab_X rom K cX9_isElse 7 2 69 ls st hp := ax_goto dX9_isElse_65 (by decide)
theorem dX9_isElse_68 : decode cX9_isElse 68 = .ok (.iconst 0, 1) := by decide +kernel
theorem sX9_isElse_68 : ab_X rom K cX9_isElse 7 2 68 ls st hp = ab_X rom K cX9_isElse 7 2 69 ls (.int 0 :: st) hp := ax_iconst dX9_isElse_68 (by decide) rfl
theorem dX9_isElse_69 : decode cX9_isElse 69 = .ok (.ireturn, 1) := by decide +kernel
theorem sX9_isElse_69 : ab_X rom K cX9_isElse 7 2 69 ls [.int x] hp = if x = 0 ∨ x = 1 then some (some (.int x), hp) else none := ay_zret dX9_isElse_69 rfl
theorem tX9_isFirstOfLike : ab_mT[167]? = some (yX9_isFirstOfLike, cX9_isFirstOfLike, 4, 2, 7) := by decide +kernel
theorem mX9_isFirstOfLike {d : Nat} {a0 : Nat} {x0 : Int32} : ab_M rom (d + 1) 167 [.ref a0, .int x0] hp = ab_X rom (ab_M rom d) cX9_isFirstOfLike 7 2 0 [.ref a0, .int x0, .null, .null] [] hp := ab_M_eq tX9_isFirstOfLike (Nat.le_of_ble_eq_true rfl)
theorem dX9_isFirstOfLike_0 : decode cX9_isFirstOfLike 0 = .ok (.iload_n 1, 1) := by decide +kernel
theorem sX9_isFirstOfLike_0 : ab_X rom K cX9_isFirstOfLike 7 2 0 (v0 :: .int x :: ls) st hp = ab_X rom K cX9_isFirstOfLike 7 2 1 (v0 :: .int x :: ls) (.int x :: st) hp := ax_iload_n dX9_isFirstOfLike_0 rfl rfl
theorem dX9_isFirstOfLike_1 : decode cX9_isFirstOfLike 1 = .ok (.iconst 2, 1) := by decide +kernel
theorem sX9_isFirstOfLike_1 : ab_X rom K cX9_isFirstOfLike 7 2 1 ls st hp = ab_X rom K cX9_isFirstOfLike 7 2 2 ls (.int 2 :: st) hp := ax_iconst dX9_isFirstOfLike_1 (by decide) rfl
theorem dX9_isFirstOfLike_2 : decode cX9_isFirstOfLike 2 = .ok (.if_icmp .ne 10, 3) := by decide +kernel
theorem sX9_isFirstOfLike_2 : ab_X rom K cX9_isFirstOfLike 7 2 2 ls (.int y :: .int x :: st) hp = if x = y then ab_X rom K cX9_isFirstOfLike 7 2 5 ls st hp else ab_X rom K cX9_isFirstOfLike 7 2 12 ls st hp := ax_icmp_ne dX9_isFirstOfLike_2 (by decide) rfl
theorem dX9_isFirstOfLike_5 : decode cX9_isFirstOfLike 5 = .ok (.aload_n 0, 1) := by decide +kernel
theorem sX9_isFirstOfLike_5 : ab_X rom K cX9_isFirstOfLike 7 2 5 (.ref a :: ls) st hp = ab_X rom K cX9_isFirstOfLike 7 2 6 (.ref a :: ls) (.ref a :: st) hp := ax_aload_n dX9_isFirstOfLike_5 rfl rfl
theorem dX9_isFirstOfLike_6 : decode cX9_isFirstOfLike 6 = .ok (.getfield 210, 3) := by decide +kernel
theorem sX9_isFirstOfLike_6 : ab_X rom K cX9_isFirstOfLike 7 2 6 ls (.ref a :: st) hp = (ab_fld hp a 7 15).bind (fun v => ab_X rom K cX9_isFirstOfLike 7 2 9 ls (v :: st) hp) := ax_getfield dX9_isFirstOfLike_6 kf_7_210 rfl
theorem dX9_isFirstOfLike_9 : decode cX9_isFirstOfLike 9 = .ok (.goto 4, 3) := by decide +kernel
theorem sX9_isFirstOfLike_9 : ab_X rom K cX9_isFirstOfLike 7 2 9 ls st hp = ab_X rom K cX9_isFirstOfLike 7 2 13 ls st hp := ax_goto dX9_isFirstOfLike_9 (by decide)
theorem dX9_isFirstOfLike_12 : decode cX9_isFirstOfLike 12 = .ok (.iconst 2, 1) := by decide +kernel
theorem sX9_isFirstOfLike_12 : ab_X rom K cX9_isFirstOfLike 7 2 12 ls st hp = ab_X rom K cX9_isFirstOfLike 7 2 13 ls (.int 2 :: st) hp := ax_iconst dX9_isFirstOfLike_12 (by decide) rfl
theorem dX9_isFirstOfLike_13 : decode cX9_isFirstOfLike 13 = .ok (.istore_n 2, 1) := by decide +kernel
theorem sX9_isFirstOfLike_13i : ab_X rom K cX9_isFirstOfLike 7 2 13 (v0 :: .int y :: v2 :: ls) (.int x :: st) hp = ab_X rom K cX9_isFirstOfLike 7 2 14 (v0 :: .int y :: .int x :: ls) st hp := ax_istore_n dX9_isFirstOfLike_13 (ax_lt (v := v2) rfl) (ab_nl_c1 (j := 1) (v := .int y) rfl (ab_c1_int _)) rfl rfl
theorem sX9_isFirstOfLike_13r : ab_X rom K cX9_isFirstOfLike 7 2 13 (v0 :: .ref a2 :: v2 :: ls) (.int x :: st) hp = ab_X rom K cX9_isFirstOfLike 7 2 14 (v0 :: .ref a2 :: .int x :: ls) st hp := ax_istore_n dX9_isFirstOfLike_13 (ax_lt (v := v2) rfl) (ab_nl_c1 (j := 1) (v := .ref a2) rfl (ab_c1_ref _)) rfl rfl
theorem sX9_isFirstOfLike_13n : ab_X rom K cX9_isFirstOfLike 7 2 13 (v0 :: .null :: v2 :: ls) (.int x :: st) hp = ab_X rom K cX9_isFirstOfLike 7 2 14 (v0 :: .null :: .int x :: ls) st hp := ax_istore_n dX9_isFirstOfLike_13 (ax_lt (v := v2) rfl) (ab_nl_c1 (j := 1) (v := .null) rfl ab_c1_null) rfl rfl
theorem dX9_isFirstOfLike_14 : decode cX9_isFirstOfLike 14 = .ok (.iconst 1, 1) := by decide +kernel
theorem sX9_isFirstOfLike_14 : ab_X rom K cX9_isFirstOfLike 7 2 14 ls st hp = ab_X rom K cX9_isFirstOfLike 7 2 15 ls (.int 1 :: st) hp := ax_iconst dX9_isFirstOfLike_14 (by decide) rfl
theorem dX9_isFirstOfLike_15 : decode cX9_isFirstOfLike 15 = .ok (.istore_n 3, 1) := by decide +kernel
theorem sX9_isFirstOfLike_15i : ab_X rom K cX9_isFirstOfLike 7 2 15 (v0 :: v1 :: .int y :: v3 :: ls) (.int x :: st) hp = ab_X rom K cX9_isFirstOfLike 7 2 16 (v0 :: v1 :: .int y :: .int x :: ls) st hp := ax_istore_n dX9_isFirstOfLike_15 (ax_lt (v := v3) rfl) (ab_nl_c1 (j := 2) (v := .int y) rfl (ab_c1_int _)) rfl rfl
theorem sX9_isFirstOfLike_15r : ab_X rom K cX9_isFirstOfLike 7 2 15 (v0 :: v1 :: .ref a2 :: v3 :: ls) (.int x :: st) hp = ab_X rom K cX9_isFirstOfLike 7 2 16 (v0 :: v1 :: .ref a2 :: .int x :: ls) st hp := ax_istore_n dX9_isFirstOfLike_15 (ax_lt (v := v3) rfl) (ab_nl_c1 (j := 2) (v := .ref a2) rfl (ab_c1_ref _)) rfl rfl
theorem sX9_isFirstOfLike_15n : ab_X rom K cX9_isFirstOfLike 7 2 15 (v0 :: v1 :: .null :: v3 :: ls) (.int x :: st) hp = ab_X rom K cX9_isFirstOfLike 7 2 16 (v0 :: v1 :: .null :: .int x :: ls) st hp := ax_istore_n dX9_isFirstOfLike_15 (ax_lt (v := v3) rfl) (ab_nl_c1 (j := 2) (v := .null) rfl ab_c1_null) rfl rfl
theorem dX9_isFirstOfLike_16 : decode cX9_isFirstOfLike 16 = .ok (.iload_n 3, 1) := by decide +kernel
theorem sX9_isFirstOfLike_16 : ab_X rom K cX9_isFirstOfLike 7 2 16 (v0 :: v1 :: v2 :: .int x :: ls) st hp = ab_X rom K cX9_isFirstOfLike 7 2 17 (v0 :: v1 :: v2 :: .int x :: ls) (.int x :: st) hp := ax_iload_n dX9_isFirstOfLike_16 rfl rfl
theorem dX9_isFirstOfLike_17 : decode cX9_isFirstOfLike 17 = .ok (.iload_n 2, 1) := by decide +kernel
theorem sX9_isFirstOfLike_17 : ab_X rom K cX9_isFirstOfLike 7 2 17 (v0 :: v1 :: .int x :: ls) st hp = ab_X rom K cX9_isFirstOfLike 7 2 18 (v0 :: v1 :: .int x :: ls) (.int x :: st) hp := ax_iload_n dX9_isFirstOfLike_17 rfl rfl
theorem dX9_isFirstOfLike_18 : decode cX9_isFirstOfLike 18 = .ok (.if_icmp .ge 20, 3) := by decide +kernel
theorem sX9_isFirstOfLike_18 : ab_X rom K cX9_isFirstOfLike 7 2 18 ls (.int y :: .int x :: st) hp = if x < y then ab_X rom K cX9_isFirstOfLike 7 2 21 ls st hp else ab_X rom K cX9_isFirstOfLike 7 2 38 ls st hp := ax_icmp_ge dX9_isFirstOfLike_18 (by decide) rfl
theorem dX9_isFirstOfLike_21 : decode cX9_isFirstOfLike 21 = .ok (.aload_n 0, 1) := by decide +kernel
theorem sX9_isFirstOfLike_21 : ab_X rom K cX9_isFirstOfLike 7 2 21 (.ref a :: ls) st hp = ab_X rom K cX9_isFirstOfLike 7 2 22 (.ref a :: ls) (.ref a :: st) hp := ax_aload_n dX9_isFirstOfLike_21 rfl rfl
theorem dX9_isFirstOfLike_22 : decode cX9_isFirstOfLike 22 = .ok (.iload_n 1, 1) := by decide +kernel
theorem sX9_isFirstOfLike_22 : ab_X rom K cX9_isFirstOfLike 7 2 22 (v0 :: .int x :: ls) st hp = ab_X rom K cX9_isFirstOfLike 7 2 23 (v0 :: .int x :: ls) (.int x :: st) hp := ax_iload_n dX9_isFirstOfLike_22 rfl rfl
theorem dX9_isFirstOfLike_23 : decode cX9_isFirstOfLike 23 = .ok (.iload_n 3, 1) := by decide +kernel
theorem sX9_isFirstOfLike_23 : ab_X rom K cX9_isFirstOfLike 7 2 23 (v0 :: v1 :: v2 :: .int x :: ls) st hp = ab_X rom K cX9_isFirstOfLike 7 2 24 (v0 :: v1 :: v2 :: .int x :: ls) (.int x :: st) hp := ax_iload_n dX9_isFirstOfLike_23 rfl rfl
theorem dX9_isFirstOfLike_24 : decode cX9_isFirstOfLike 24 = .ok (.invokevirtual 284, 3) := by decide +kernel
theorem sX9_isFirstOfLike_24_0 : ab_X rom K cX9_isFirstOfLike 7 2 24 ls [w2, w1, .ref a] hp = if ab_iso hp a 7 = true then (K 170 (.ref a :: [w1, w2]) hp).bind (fun o => ab_X rom K cX9_isFirstOfLike 7 2 27 ls (o.1.toList ++ []) o.2) else none := ay_virtual (as := [w1, w2]) (st := []) dX9_isFirstOfLike_24 kc_7_284 rfl rfl (Nat.le_of_ble_eq_true rfl)
theorem sX9_isFirstOfLike_24_1 : ab_X rom K cX9_isFirstOfLike 7 2 24 ls [w2, w1, .ref a, v0] hp = if ab_iso hp a 7 = true then (K 170 (.ref a :: [w1, w2]) hp).bind (fun o => ab_X rom K cX9_isFirstOfLike 7 2 27 ls (o.1.toList ++ [v0]) o.2) else none := ay_virtual (as := [w1, w2]) (st := [v0]) dX9_isFirstOfLike_24 kc_7_284 rfl rfl (Nat.le_of_ble_eq_true rfl)
theorem sX9_isFirstOfLike_24_2 : ab_X rom K cX9_isFirstOfLike 7 2 24 ls [w2, w1, .ref a, v0, v1] hp = if ab_iso hp a 7 = true then (K 170 (.ref a :: [w1, w2]) hp).bind (fun o => ab_X rom K cX9_isFirstOfLike 7 2 27 ls (o.1.toList ++ [v0, v1]) o.2) else none := ay_virtual (as := [w1, w2]) (st := [v0, v1]) dX9_isFirstOfLike_24 kc_7_284 rfl rfl (Nat.le_of_ble_eq_true rfl)
theorem sX9_isFirstOfLike_24_3 : ab_X rom K cX9_isFirstOfLike 7 2 24 ls [w2, w1, .ref a, v0, v1, v2] hp = if ab_iso hp a 7 = true then (K 170 (.ref a :: [w1, w2]) hp).bind (fun o => ab_X rom K cX9_isFirstOfLike 7 2 27 ls (o.1.toList ++ [v0, v1, v2]) o.2) else none := ay_virtual (as := [w1, w2]) (st := [v0, v1, v2]) dX9_isFirstOfLike_24 kc_7_284 rfl rfl (Nat.le_of_ble_eq_true rfl)
theorem dX9_isFirstOfLike_27 : decode cX9_isFirstOfLike 27 = .ok (.ifCond .eq 5, 3) := by decide +kernel
theorem sX9_isFirstOfLike_27 : ab_X rom K cX9_isFirstOfLike 7 2 27 ls (.int x :: st) hp = if x = 0 then ab_X rom K cX9_isFirstOfLike 7 2 32 ls st hp else ab_X rom K cX9_isFirstOfLike 7 2 30 ls st hp := ax_if_eq dX9_isFirstOfLike_27 (by decide) rfl
theorem dX9_isFirstOfLike_30 : decode cX9_isFirstOfLike 30 = .ok (.iconst 0, 1) := by decide +kernel
theorem sX9_isFirstOfLike_30 : ab_X rom K cX9_isFirstOfLike 7 2 30 ls st hp = ab_X rom K cX9_isFirstOfLike 7 2 31 ls (.int 0 :: st) hp := ax_iconst dX9_isFirstOfLike_30 (by decide) rfl
theorem dX9_isFirstOfLike_31 : decode cX9_isFirstOfLike 31 = .ok (.ireturn, 1) := by decide +kernel
theorem sX9_isFirstOfLike_31 : ab_X rom K cX9_isFirstOfLike 7 2 31 ls [.int x] hp = if x = 0 ∨ x = 1 then some (some (.int x), hp) else none := ay_zret dX9_isFirstOfLike_31 rfl
theorem dX9_isFirstOfLike_32 : decode cX9_isFirstOfLike 32 = .ok (.iinc 3 1, 3) := by decide +kernel
theorem sX9_isFirstOfLike_32i : ab_X rom K cX9_isFirstOfLike 7 2 32 (v0 :: v1 :: .int y :: .int x :: ls) st hp = ab_X rom K cX9_isFirstOfLike 7 2 35 (v0 :: v1 :: .int y :: .int (x + 1) :: ls) st hp := ax_iinc dX9_isFirstOfLike_32 rfl (ab_nl_c1 (j := 2) (v := .int y) rfl (ab_c1_int _)) (by decide) rfl rfl
theorem sX9_isFirstOfLike_32r : ab_X rom K cX9_isFirstOfLike 7 2 32 (v0 :: v1 :: .ref a2 :: .int x :: ls) st hp = ab_X rom K cX9_isFirstOfLike 7 2 35 (v0 :: v1 :: .ref a2 :: .int (x + 1) :: ls) st hp := ax_iinc dX9_isFirstOfLike_32 rfl (ab_nl_c1 (j := 2) (v := .ref a2) rfl (ab_c1_ref _)) (by decide) rfl rfl
theorem sX9_isFirstOfLike_32n : ab_X rom K cX9_isFirstOfLike 7 2 32 (v0 :: v1 :: .null :: .int x :: ls) st hp = ab_X rom K cX9_isFirstOfLike 7 2 35 (v0 :: v1 :: .null :: .int (x + 1) :: ls) st hp := ax_iinc dX9_isFirstOfLike_32 rfl (ab_nl_c1 (j := 2) (v := .null) rfl ab_c1_null) (by decide) rfl rfl
theorem dX9_isFirstOfLike_35 : decode cX9_isFirstOfLike 35 = .ok (.goto (-19), 3) := by decide +kernel
theorem sX9_isFirstOfLike_35 : ab_X rom K cX9_isFirstOfLike 7 2 35 ls st hp = ab_X rom K cX9_isFirstOfLike 7 2 16 ls st hp := ax_goto dX9_isFirstOfLike_35 (by decide)
theorem dX9_isFirstOfLike_38 : decode cX9_isFirstOfLike 38 = .ok (.iconst 1, 1) := by decide +kernel
theorem sX9_isFirstOfLike_38 : ab_X rom K cX9_isFirstOfLike 7 2 38 ls st hp = ab_X rom K cX9_isFirstOfLike 7 2 39 ls (.int 1 :: st) hp := ax_iconst dX9_isFirstOfLike_38 (by decide) rfl
theorem dX9_isFirstOfLike_39 : decode cX9_isFirstOfLike 39 = .ok (.ireturn, 1) := by decide +kernel
theorem sX9_isFirstOfLike_39 : ab_X rom K cX9_isFirstOfLike 7 2 39 ls [.int x] hp = if x = 0 ∨ x = 1 then some (some (.int x), hp) else none := ay_zret dX9_isFirstOfLike_39 rfl
theorem tX9_isKind : ab_mT[168]? = some (yX9_isKind, cX9_isKind, 1, 2, 7) := by decide +kernel
theorem mX9_isKind {d : Nat} {x0 : Int32} : ab_M rom (d + 1) 168 [.int x0] hp = ab_X rom (ab_M rom d) cX9_isKind 7 2 0 [.int x0] [] hp := ab_M_eq tX9_isKind (Nat.le_of_ble_eq_true rfl)
theorem dX9_isKind_0 : decode cX9_isKind 0 = .ok (.iload_n 0, 1) := by decide +kernel
theorem sX9_isKind_0 : ab_X rom K cX9_isKind 7 2 0 (.int x :: ls) st hp = ab_X rom K cX9_isKind 7 2 1 (.int x :: ls) (.int x :: st) hp := ax_iload_n dX9_isKind_0 rfl rfl
theorem dX9_isKind_1 : decode cX9_isKind 1 = .ok (.i2l, 1) := by decide +kernel
theorem sX9_isKind_1 : ab_X rom K cX9_isKind 7 2 1 ls (.int x :: st) hp = ab_X rom K cX9_isKind 7 2 2 ls (.long x.toInt64 :: st) hp := ax_i2l dX9_isKind_1 rfl
theorem dX9_isKind_2 : decode cX9_isKind 2 = .ok (.lconst 0, 1) := by decide +kernel
theorem sX9_isKind_2 : ab_X rom K cX9_isKind 7 2 2 ls st hp = ab_X rom K cX9_isKind 7 2 3 ls (.long 0 :: st) hp := ax_lconst dX9_isKind_2 (by decide) rfl
theorem dX9_isKind_3 : decode cX9_isKind 3 = .ok (.ldc2_w 71, 3) := by decide +kernel
theorem sX9_isKind_3 : ab_X rom K cX9_isKind 7 2 3 ls st hp = ab_X rom K cX9_isKind 7 2 6 ls (.long 4 :: st) hp := ax_ldc2 dX9_isKind_3 kl_7_71 rfl
theorem dX9_isKind_6 : decode cX9_isKind 6 = .ok (.invokestatic 56, 3) := by decide +kernel
theorem sX9_isKind_6_0 : ab_X rom K cX9_isKind 7 2 6 ls [w3, w2, w1] hp = (K 159 [w1, w2, w3] hp).bind (fun o => ab_X rom K cX9_isKind 7 2 9 ls (o.1.toList ++ []) o.2) := ax_static (as := [w1, w2, w3]) (st := []) dX9_isKind_6 kc_7_56 rfl rfl (Nat.le_of_ble_eq_true rfl)
theorem sX9_isKind_6_1 : ab_X rom K cX9_isKind 7 2 6 ls [w3, w2, w1, v0] hp = (K 159 [w1, w2, w3] hp).bind (fun o => ab_X rom K cX9_isKind 7 2 9 ls (o.1.toList ++ [v0]) o.2) := ax_static (as := [w1, w2, w3]) (st := [v0]) dX9_isKind_6 kc_7_56 rfl rfl (Nat.le_of_ble_eq_true rfl)
theorem sX9_isKind_6_2 : ab_X rom K cX9_isKind 7 2 6 ls [w3, w2, w1, v0, v1] hp = (K 159 [w1, w2, w3] hp).bind (fun o => ab_X rom K cX9_isKind 7 2 9 ls (o.1.toList ++ [v0, v1]) o.2) := ax_static (as := [w1, w2, w3]) (st := [v0, v1]) dX9_isKind_6 kc_7_56 rfl rfl (Nat.le_of_ble_eq_true rfl)
theorem sX9_isKind_6_3 : ab_X rom K cX9_isKind 7 2 6 ls [w3, w2, w1, v0, v1, v2] hp = (K 159 [w1, w2, w3] hp).bind (fun o => ab_X rom K cX9_isKind 7 2 9 ls (o.1.toList ++ [v0, v1, v2]) o.2) := ax_static (as := [w1, w2, w3]) (st := [v0, v1, v2]) dX9_isKind_6 kc_7_56 rfl rfl (Nat.le_of_ble_eq_true rfl)
theorem dX9_isKind_9 : decode cX9_isKind 9 = .ok (.ireturn, 1) := by decide +kernel
theorem sX9_isKind_9 : ab_X rom K cX9_isKind 7 2 9 ls [.int x] hp = if x = 0 ∨ x = 1 then some (some (.int x), hp) else none := ay_zret dX9_isKind_9 rfl
theorem tX9_isLabelled : ab_mT[169]? = some (yX9_isLabelled, cX9_isLabelled, 3, 2, 7) := by decide +kernel
theorem mX9_isLabelled {d : Nat} {a0 : Nat} {x0 : Int32} {x1 : Int32} : ab_M rom (d + 1) 169 [.ref a0, .int x0, .int x1] hp = ab_X rom (ab_M rom d) cX9_isLabelled 7 2 0 [.ref a0, .int x0, .int x1] [] hp := ab_M_eq tX9_isLabelled (Nat.le_of_ble_eq_true rfl)
theorem dX9_isLabelled_0 : decode cX9_isLabelled 0 = .ok (.aload_n 0, 1) := by decide +kernel
theorem sX9_isLabelled_0 : ab_X rom K cX9_isLabelled 7 2 0 (.ref a :: ls) st hp = ab_X rom K cX9_isLabelled 7 2 1 (.ref a :: ls) (.ref a :: st) hp := ax_aload_n dX9_isLabelled_0 rfl rfl
theorem dX9_isLabelled_1 : decode cX9_isLabelled 1 = .ok (.iload_n 1, 1) := by decide +kernel
theorem sX9_isLabelled_1 : ab_X rom K cX9_isLabelled 7 2 1 (v0 :: .int x :: ls) st hp = ab_X rom K cX9_isLabelled 7 2 2 (v0 :: .int x :: ls) (.int x :: st) hp := ax_iload_n dX9_isLabelled_1 rfl rfl
theorem dX9_isLabelled_2 : decode cX9_isLabelled 2 = .ok (.iload_n 2, 1) := by decide +kernel
theorem sX9_isLabelled_2 : ab_X rom K cX9_isLabelled 7 2 2 (v0 :: v1 :: .int x :: ls) st hp = ab_X rom K cX9_isLabelled 7 2 3 (v0 :: v1 :: .int x :: ls) (.int x :: st) hp := ax_iload_n dX9_isLabelled_2 rfl rfl
theorem dX9_isLabelled_3 : decode cX9_isLabelled 3 = .ok (.invokevirtual 168, 3) := by decide +kernel
theorem sX9_isLabelled_3_0 : ab_X rom K cX9_isLabelled 7 2 3 ls [w2, w1, .ref a] hp = if ab_iso hp a 7 = true then (K 183 (.ref a :: [w1, w2]) hp).bind (fun o => ab_X rom K cX9_isLabelled 7 2 6 ls (o.1.toList ++ []) o.2) else none := ay_virtual (as := [w1, w2]) (st := []) dX9_isLabelled_3 kc_7_168 rfl rfl (Nat.le_of_ble_eq_true rfl)
theorem sX9_isLabelled_3_1 : ab_X rom K cX9_isLabelled 7 2 3 ls [w2, w1, .ref a, v0] hp = if ab_iso hp a 7 = true then (K 183 (.ref a :: [w1, w2]) hp).bind (fun o => ab_X rom K cX9_isLabelled 7 2 6 ls (o.1.toList ++ [v0]) o.2) else none := ay_virtual (as := [w1, w2]) (st := [v0]) dX9_isLabelled_3 kc_7_168 rfl rfl (Nat.le_of_ble_eq_true rfl)
theorem sX9_isLabelled_3_2 : ab_X rom K cX9_isLabelled 7 2 3 ls [w2, w1, .ref a, v0, v1] hp = if ab_iso hp a 7 = true then (K 183 (.ref a :: [w1, w2]) hp).bind (fun o => ab_X rom K cX9_isLabelled 7 2 6 ls (o.1.toList ++ [v0, v1]) o.2) else none := ay_virtual (as := [w1, w2]) (st := [v0, v1]) dX9_isLabelled_3 kc_7_168 rfl rfl (Nat.le_of_ble_eq_true rfl)
theorem sX9_isLabelled_3_3 : ab_X rom K cX9_isLabelled 7 2 3 ls [w2, w1, .ref a, v0, v1, v2] hp = if ab_iso hp a 7 = true then (K 183 (.ref a :: [w1, w2]) hp).bind (fun o => ab_X rom K cX9_isLabelled 7 2 6 ls (o.1.toList ++ [v0, v1, v2]) o.2) else none := ay_virtual (as := [w1, w2]) (st := [v0, v1, v2]) dX9_isLabelled_3 kc_7_168 rfl rfl (Nat.le_of_ble_eq_true rfl)
theorem dX9_isLabelled_6 : decode cX9_isLabelled 6 = .ok (.iconst (-1), 1) := by decide +kernel
theorem sX9_isLabelled_6 : ab_X rom K cX9_isLabelled 7 2 6 ls st hp = ab_X rom K cX9_isLabelled 7 2 7 ls (.int (-1) :: st) hp := ax_iconst dX9_isLabelled_6 (by decide) rfl
theorem dX9_isLabelled_7 : decode cX9_isLabelled 7 = .ok (.if_icmp .eq 7, 3) := by decide +kernel
theorem sX9_isLabelled_7 : ab_X rom K cX9_isLabelled 7 2 7 ls (.int y :: .int x :: st) hp = if x = y then ab_X rom K cX9_isLabelled 7 2 14 ls st hp else ab_X rom K cX9_isLabelled 7 2 10 ls st hp := ax_icmp_eq dX9_isLabelled_7 (by decide) rfl
theorem dX9_isLabelled_10 : decode cX9_isLabelled 10 = .ok (.iconst 1, 1) := by decide +kernel
theorem sX9_isLabelled_10 : ab_X rom K cX9_isLabelled 7 2 10 ls st hp = ab_X rom K cX9_isLabelled 7 2 11 ls (.int 1 :: st) hp := ax_iconst dX9_isLabelled_10 (by decide) rfl
theorem dX9_isLabelled_11 : decode cX9_isLabelled 11 = .ok (.goto 4, 3) := by decide +kernel
theorem sX9_isLabelled_11 : ab_X rom K cX9_isLabelled 7 2 11 ls st hp = ab_X rom K cX9_isLabelled 7 2 15 ls st hp := ax_goto dX9_isLabelled_11 (by decide)
theorem dX9_isLabelled_14 : decode cX9_isLabelled 14 = .ok (.iconst 0, 1) := by decide +kernel
theorem sX9_isLabelled_14 : ab_X rom K cX9_isLabelled 7 2 14 ls st hp = ab_X rom K cX9_isLabelled 7 2 15 ls (.int 0 :: st) hp := ax_iconst dX9_isLabelled_14 (by decide) rfl
theorem dX9_isLabelled_15 : decode cX9_isLabelled 15 = .ok (.ireturn, 1) := by decide +kernel
theorem sX9_isLabelled_15 : ab_X rom K cX9_isLabelled 7 2 15 ls [.int x] hp = if x = 0 ∨ x = 1 then some (some (.int x), hp) else none := ay_zret dX9_isLabelled_15 rfl
theorem tX9_isLessBy : ab_mT[170]? = some (yX9_isLessBy, cX9_isLessBy, 6, 2, 7) := by decide +kernel
theorem mX9_isLessBy {d : Nat} {a0 : Nat} {x0 : Int32} {x1 : Int32} : ab_M rom (d + 1) 170 [.ref a0, .int x0, .int x1] hp = ab_X rom (ab_M rom d) cX9_isLessBy 7 2 0 [.ref a0, .int x0, .int x1, .null, .null, .null] [] hp := ab_M_eq tX9_isLessBy (Nat.le_of_ble_eq_true rfl)
theorem dX9_isLessBy_0 : decode cX9_isLessBy 0 = .ok (.iconst 0, 1) := by decide +kernel
theorem sX9_isLessBy_0 : ab_X rom K cX9_isLessBy 7 2 0 ls st hp = ab_X rom K cX9_isLessBy 7 2 1 ls (.int 0 :: st) hp := ax_iconst dX9_isLessBy_0 (by decide) rfl
theorem dX9_isLessBy_1 : decode cX9_isLessBy 1 = .ok (.istore_n 3, 1) := by decide +kernel
theorem sX9_isLessBy_1i : ab_X rom K cX9_isLessBy 7 2 1 (v0 :: v1 :: .int y :: v3 :: ls) (.int x :: st) hp = ab_X rom K cX9_isLessBy 7 2 2 (v0 :: v1 :: .int y :: .int x :: ls) st hp := ax_istore_n dX9_isLessBy_1 (ax_lt (v := v3) rfl) (ab_nl_c1 (j := 2) (v := .int y) rfl (ab_c1_int _)) rfl rfl
theorem sX9_isLessBy_1r : ab_X rom K cX9_isLessBy 7 2 1 (v0 :: v1 :: .ref a2 :: v3 :: ls) (.int x :: st) hp = ab_X rom K cX9_isLessBy 7 2 2 (v0 :: v1 :: .ref a2 :: .int x :: ls) st hp := ax_istore_n dX9_isLessBy_1 (ax_lt (v := v3) rfl) (ab_nl_c1 (j := 2) (v := .ref a2) rfl (ab_c1_ref _)) rfl rfl
theorem sX9_isLessBy_1n : ab_X rom K cX9_isLessBy 7 2 1 (v0 :: v1 :: .null :: v3 :: ls) (.int x :: st) hp = ab_X rom K cX9_isLessBy 7 2 2 (v0 :: v1 :: .null :: .int x :: ls) st hp := ax_istore_n dX9_isLessBy_1 (ax_lt (v := v3) rfl) (ab_nl_c1 (j := 2) (v := .null) rfl ab_c1_null) rfl rfl
theorem dX9_isLessBy_2 : decode cX9_isLessBy 2 = .ok (.iconst 0, 1) := by decide +kernel
theorem sX9_isLessBy_2 : ab_X rom K cX9_isLessBy 7 2 2 ls st hp = ab_X rom K cX9_isLessBy 7 2 3 ls (.int 0 :: st) hp := ax_iconst dX9_isLessBy_2 (by decide) rfl
theorem dX9_isLessBy_3 : decode cX9_isLessBy 3 = .ok (.istore 4, 2) := by decide +kernel
theorem sX9_isLessBy_3i : ab_X rom K cX9_isLessBy 7 2 3 (v0 :: v1 :: v2 :: .int y :: v4 :: ls) (.int x :: st) hp = ab_X rom K cX9_isLessBy 7 2 5 (v0 :: v1 :: v2 :: .int y :: .int x :: ls) st hp := ax_istore dX9_isLessBy_3 (ax_lt (v := v4) rfl) (ab_nl_c1 (j := 3) (v := .int y) rfl (ab_c1_int _)) rfl rfl
theorem sX9_isLessBy_3r : ab_X rom K cX9_isLessBy 7 2 3 (v0 :: v1 :: v2 :: .ref a2 :: v4 :: ls) (.int x :: st) hp = ab_X rom K cX9_isLessBy 7 2 5 (v0 :: v1 :: v2 :: .ref a2 :: .int x :: ls) st hp := ax_istore dX9_isLessBy_3 (ax_lt (v := v4) rfl) (ab_nl_c1 (j := 3) (v := .ref a2) rfl (ab_c1_ref _)) rfl rfl
theorem sX9_isLessBy_3n : ab_X rom K cX9_isLessBy 7 2 3 (v0 :: v1 :: v2 :: .null :: v4 :: ls) (.int x :: st) hp = ab_X rom K cX9_isLessBy 7 2 5 (v0 :: v1 :: v2 :: .null :: .int x :: ls) st hp := ax_istore dX9_isLessBy_3 (ax_lt (v := v4) rfl) (ab_nl_c1 (j := 3) (v := .null) rfl ab_c1_null) rfl rfl
theorem dX9_isLessBy_5 : decode cX9_isLessBy 5 = .ok (.iload 4, 2) := by decide +kernel
theorem sX9_isLessBy_5 : ab_X rom K cX9_isLessBy 7 2 5 (v0 :: v1 :: v2 :: v3 :: .int x :: ls) st hp = ab_X rom K cX9_isLessBy 7 2 7 (v0 :: v1 :: v2 :: v3 :: .int x :: ls) (.int x :: st) hp := ax_iload dX9_isLessBy_5 rfl rfl
theorem dX9_isLessBy_7 : decode cX9_isLessBy 7 = .ok (.aload_n 0, 1) := by decide +kernel
theorem sX9_isLessBy_7 : ab_X rom K cX9_isLessBy 7 2 7 (.ref a :: ls) st hp = ab_X rom K cX9_isLessBy 7 2 8 (.ref a :: ls) (.ref a :: st) hp := ax_aload_n dX9_isLessBy_7 rfl rfl
theorem dX9_isLessBy_8 : decode cX9_isLessBy 8 = .ok (.getfield 235, 3) := by decide +kernel
theorem sX9_isLessBy_8 : ab_X rom K cX9_isLessBy 7 2 8 ls (.ref a :: st) hp = (ab_fld hp a 7 17).bind (fun v => ab_X rom K cX9_isLessBy 7 2 11 ls (v :: st) hp) := ax_getfield dX9_isLessBy_8 kf_7_235 rfl
theorem dX9_isLessBy_11 : decode cX9_isLessBy 11 = .ok (.if_icmp .ge 90, 3) := by decide +kernel
theorem sX9_isLessBy_11 : ab_X rom K cX9_isLessBy 7 2 11 ls (.int y :: .int x :: st) hp = if x < y then ab_X rom K cX9_isLessBy 7 2 14 ls st hp else ab_X rom K cX9_isLessBy 7 2 101 ls st hp := ax_icmp_ge dX9_isLessBy_11 (by decide) rfl
theorem dX9_isLessBy_14 : decode cX9_isLessBy 14 = .ok (.iload_n 1, 1) := by decide +kernel
theorem sX9_isLessBy_14 : ab_X rom K cX9_isLessBy 7 2 14 (v0 :: .int x :: ls) st hp = ab_X rom K cX9_isLessBy 7 2 15 (v0 :: .int x :: ls) (.int x :: st) hp := ax_iload_n dX9_isLessBy_14 rfl rfl
theorem dX9_isLessBy_15 : decode cX9_isLessBy 15 = .ok (.iconst 2, 1) := by decide +kernel
theorem sX9_isLessBy_15 : ab_X rom K cX9_isLessBy 7 2 15 ls st hp = ab_X rom K cX9_isLessBy 7 2 16 ls (.int 2 :: st) hp := ax_iconst dX9_isLessBy_15 (by decide) rfl
theorem dX9_isLessBy_16 : decode cX9_isLessBy 16 = .ok (.if_icmp .ne 20, 3) := by decide +kernel
theorem sX9_isLessBy_16 : ab_X rom K cX9_isLessBy 7 2 16 ls (.int y :: .int x :: st) hp = if x = y then ab_X rom K cX9_isLessBy 7 2 19 ls st hp else ab_X rom K cX9_isLessBy 7 2 36 ls st hp := ax_icmp_ne dX9_isLessBy_16 (by decide) rfl
theorem dX9_isLessBy_19 : decode cX9_isLessBy 19 = .ok (.aload_n 0, 1) := by decide +kernel
theorem sX9_isLessBy_19 : ab_X rom K cX9_isLessBy 7 2 19 (.ref a :: ls) st hp = ab_X rom K cX9_isLessBy 7 2 20 (.ref a :: ls) (.ref a :: st) hp := ax_aload_n dX9_isLessBy_19 rfl rfl
theorem dX9_isLessBy_20 : decode cX9_isLessBy 20 = .ok (.getfield 32, 3) := by decide +kernel
theorem sX9_isLessBy_20 : ab_X rom K cX9_isLessBy 7 2 20 ls (.ref a :: st) hp = (ab_fld hp a 7 16).bind (fun v => ab_X rom K cX9_isLessBy 7 2 23 ls (v :: st) hp) := ax_getfield dX9_isLessBy_20 kf_7_32 rfl
theorem dX9_isLessBy_23 : decode cX9_isLessBy 23 = .ok (.iload 4, 2) := by decide +kernel
theorem sX9_isLessBy_23 : ab_X rom K cX9_isLessBy 7 2 23 (v0 :: v1 :: v2 :: v3 :: .int x :: ls) st hp = ab_X rom K cX9_isLessBy 7 2 25 (v0 :: v1 :: v2 :: v3 :: .int x :: ls) (.int x :: st) hp := ax_iload dX9_isLessBy_23 rfl rfl
theorem dX9_isLessBy_25 : decode cX9_isLessBy 25 = .ok (.iaload, 1) := by decide +kernel
theorem sX9_isLessBy_25 : ab_X rom K cX9_isLessBy 7 2 25 ls (.int x :: .ref a :: st) hp = (ab_ard rom 0 hp a x).bind (fun v => ab_X rom K cX9_isLessBy 7 2 26 ls (.int v :: st) hp) := ax_iaload dX9_isLessBy_25 rfl
theorem dX9_isLessBy_26 : decode cX9_isLessBy 26 = .ok (.iload_n 2, 1) := by decide +kernel
theorem sX9_isLessBy_26 : ab_X rom K cX9_isLessBy 7 2 26 (v0 :: v1 :: .int x :: ls) st hp = ab_X rom K cX9_isLessBy 7 2 27 (v0 :: v1 :: .int x :: ls) (.int x :: st) hp := ax_iload_n dX9_isLessBy_26 rfl rfl
theorem dX9_isLessBy_27 : decode cX9_isLessBy 27 = .ok (.iadd, 1) := by decide +kernel
theorem sX9_isLessBy_27 : ab_X rom K cX9_isLessBy 7 2 27 ls (.int y :: .int x :: st) hp = ab_X rom K cX9_isLessBy 7 2 28 ls (.int (x + y) :: st) hp := ax_iadd dX9_isLessBy_27 rfl
theorem dX9_isLessBy_28 : decode cX9_isLessBy 28 = .ok (.aload_n 0, 1) := by decide +kernel
theorem sX9_isLessBy_28 : ab_X rom K cX9_isLessBy 7 2 28 (.ref a :: ls) st hp = ab_X rom K cX9_isLessBy 7 2 29 (.ref a :: ls) (.ref a :: st) hp := ax_aload_n dX9_isLessBy_28 rfl rfl
theorem dX9_isLessBy_29 : decode cX9_isLessBy 29 = .ok (.getfield 210, 3) := by decide +kernel
theorem sX9_isLessBy_29 : ab_X rom K cX9_isLessBy 7 2 29 ls (.ref a :: st) hp = (ab_fld hp a 7 15).bind (fun v => ab_X rom K cX9_isLessBy 7 2 32 ls (v :: st) hp) := ax_getfield dX9_isLessBy_29 kf_7_210 rfl
theorem dX9_isLessBy_32 : decode cX9_isLessBy 32 = .ok (.irem, 1) := by decide +kernel
theorem sX9_isLessBy_32 : ab_X rom K cX9_isLessBy 7 2 32 ls (.int y :: .int x :: st) hp = if y = 0 then none else ab_X rom K cX9_isLessBy 7 2 33 ls (.int (ab_rem x y) :: st) hp := ay_irem dX9_isLessBy_32 rfl
theorem dX9_isLessBy_33 : decode cX9_isLessBy 33 = .ok (.goto 16, 3) := by decide +kernel
theorem sX9_isLessBy_33 : ab_X rom K cX9_isLessBy 7 2 33 ls st hp = ab_X rom K cX9_isLessBy 7 2 49 ls st hp := ax_goto dX9_isLessBy_33 (by decide)
theorem dX9_isLessBy_36 : decode cX9_isLessBy 36 = .ok (.aload_n 0, 1) := by decide +kernel
theorem sX9_isLessBy_36 : ab_X rom K cX9_isLessBy 7 2 36 (.ref a :: ls) st hp = ab_X rom K cX9_isLessBy 7 2 37 (.ref a :: ls) (.ref a :: st) hp := ax_aload_n dX9_isLessBy_36 rfl rfl
theorem dX9_isLessBy_37 : decode cX9_isLessBy 37 = .ok (.iload_n 1, 1) := by decide +kernel
theorem sX9_isLessBy_37 : ab_X rom K cX9_isLessBy 7 2 37 (v0 :: .int x :: ls) st hp = ab_X rom K cX9_isLessBy 7 2 38 (v0 :: .int x :: ls) (.int x :: st) hp := ax_iload_n dX9_isLessBy_37 rfl rfl
theorem dX9_isLessBy_38 : decode cX9_isLessBy 38 = .ok (.invokevirtual 257, 3) := by decide +kernel
theorem sX9_isLessBy_38_0 : ab_X rom K cX9_isLessBy 7 2 38 ls [w1, .ref a] hp = if ab_iso hp a 7 = true then (K 200 (.ref a :: [w1]) hp).bind (fun o => ab_X rom K cX9_isLessBy 7 2 41 ls (o.1.toList ++ []) o.2) else none := ay_virtual (as := [w1]) (st := []) dX9_isLessBy_38 kc_7_257 rfl rfl (Nat.le_of_ble_eq_true rfl)
theorem sX9_isLessBy_38_1 : ab_X rom K cX9_isLessBy 7 2 38 ls [w1, .ref a, v0] hp = if ab_iso hp a 7 = true then (K 200 (.ref a :: [w1]) hp).bind (fun o => ab_X rom K cX9_isLessBy 7 2 41 ls (o.1.toList ++ [v0]) o.2) else none := ay_virtual (as := [w1]) (st := [v0]) dX9_isLessBy_38 kc_7_257 rfl rfl (Nat.le_of_ble_eq_true rfl)
theorem sX9_isLessBy_38_2 : ab_X rom K cX9_isLessBy 7 2 38 ls [w1, .ref a, v0, v1] hp = if ab_iso hp a 7 = true then (K 200 (.ref a :: [w1]) hp).bind (fun o => ab_X rom K cX9_isLessBy 7 2 41 ls (o.1.toList ++ [v0, v1]) o.2) else none := ay_virtual (as := [w1]) (st := [v0, v1]) dX9_isLessBy_38 kc_7_257 rfl rfl (Nat.le_of_ble_eq_true rfl)
theorem sX9_isLessBy_38_3 : ab_X rom K cX9_isLessBy 7 2 38 ls [w1, .ref a, v0, v1, v2] hp = if ab_iso hp a 7 = true then (K 200 (.ref a :: [w1]) hp).bind (fun o => ab_X rom K cX9_isLessBy 7 2 41 ls (o.1.toList ++ [v0, v1, v2]) o.2) else none := ay_virtual (as := [w1]) (st := [v0, v1, v2]) dX9_isLessBy_38 kc_7_257 rfl rfl (Nat.le_of_ble_eq_true rfl)
theorem dX9_isLessBy_41 : decode cX9_isLessBy 41 = .ok (.aload_n 0, 1) := by decide +kernel
theorem sX9_isLessBy_41 : ab_X rom K cX9_isLessBy 7 2 41 (.ref a :: ls) st hp = ab_X rom K cX9_isLessBy 7 2 42 (.ref a :: ls) (.ref a :: st) hp := ax_aload_n dX9_isLessBy_41 rfl rfl
theorem dX9_isLessBy_42 : decode cX9_isLessBy 42 = .ok (.getfield 32, 3) := by decide +kernel
theorem sX9_isLessBy_42 : ab_X rom K cX9_isLessBy 7 2 42 ls (.ref a :: st) hp = (ab_fld hp a 7 16).bind (fun v => ab_X rom K cX9_isLessBy 7 2 45 ls (v :: st) hp) := ax_getfield dX9_isLessBy_42 kf_7_32 rfl
theorem dX9_isLessBy_45 : decode cX9_isLessBy 45 = .ok (.iload 4, 2) := by decide +kernel
theorem sX9_isLessBy_45 : ab_X rom K cX9_isLessBy 7 2 45 (v0 :: v1 :: v2 :: v3 :: .int x :: ls) st hp = ab_X rom K cX9_isLessBy 7 2 47 (v0 :: v1 :: v2 :: v3 :: .int x :: ls) (.int x :: st) hp := ax_iload dX9_isLessBy_45 rfl rfl
theorem dX9_isLessBy_47 : decode cX9_isLessBy 47 = .ok (.iaload, 1) := by decide +kernel
theorem sX9_isLessBy_47 : ab_X rom K cX9_isLessBy 7 2 47 ls (.int x :: .ref a :: st) hp = (ab_ard rom 0 hp a x).bind (fun v => ab_X rom K cX9_isLessBy 7 2 48 ls (.int v :: st) hp) := ax_iaload dX9_isLessBy_47 rfl
theorem dX9_isLessBy_48 : decode cX9_isLessBy 48 = .ok (.isub, 1) := by decide +kernel
theorem sX9_isLessBy_48 : ab_X rom K cX9_isLessBy 7 2 48 ls (.int y :: .int x :: st) hp = ab_X rom K cX9_isLessBy 7 2 49 ls (.int (x - y) :: st) hp := ax_isub dX9_isLessBy_48 rfl
theorem dX9_isLessBy_49 : decode cX9_isLessBy 49 = .ok (.istore 5, 2) := by decide +kernel
theorem sX9_isLessBy_49i : ab_X rom K cX9_isLessBy 7 2 49 (v0 :: v1 :: v2 :: v3 :: .int y :: v5 :: ls) (.int x :: st) hp = ab_X rom K cX9_isLessBy 7 2 51 (v0 :: v1 :: v2 :: v3 :: .int y :: .int x :: ls) st hp := ax_istore dX9_isLessBy_49 (ax_lt (v := v5) rfl) (ab_nl_c1 (j := 4) (v := .int y) rfl (ab_c1_int _)) rfl rfl
theorem sX9_isLessBy_49r : ab_X rom K cX9_isLessBy 7 2 49 (v0 :: v1 :: v2 :: v3 :: .ref a2 :: v5 :: ls) (.int x :: st) hp = ab_X rom K cX9_isLessBy 7 2 51 (v0 :: v1 :: v2 :: v3 :: .ref a2 :: .int x :: ls) st hp := ax_istore dX9_isLessBy_49 (ax_lt (v := v5) rfl) (ab_nl_c1 (j := 4) (v := .ref a2) rfl (ab_c1_ref _)) rfl rfl
theorem sX9_isLessBy_49n : ab_X rom K cX9_isLessBy 7 2 49 (v0 :: v1 :: v2 :: v3 :: .null :: v5 :: ls) (.int x :: st) hp = ab_X rom K cX9_isLessBy 7 2 51 (v0 :: v1 :: v2 :: v3 :: .null :: .int x :: ls) st hp := ax_istore dX9_isLessBy_49 (ax_lt (v := v5) rfl) (ab_nl_c1 (j := 4) (v := .null) rfl ab_c1_null) rfl rfl
theorem dX9_isLessBy_51 : decode cX9_isLessBy 51 = .ok (.aload_n 0, 1) := by decide +kernel
theorem sX9_isLessBy_51 : ab_X rom K cX9_isLessBy 7 2 51 (.ref a :: ls) st hp = ab_X rom K cX9_isLessBy 7 2 52 (.ref a :: ls) (.ref a :: st) hp := ax_aload_n dX9_isLessBy_51 rfl rfl
theorem dX9_isLessBy_52 : decode cX9_isLessBy 52 = .ok (.getfield 35, 3) := by decide +kernel
theorem sX9_isLessBy_52 : ab_X rom K cX9_isLessBy 7 2 52 ls (.ref a :: st) hp = (ab_fld hp a 7 19).bind (fun v => ab_X rom K cX9_isLessBy 7 2 55 ls (v :: st) hp) := ax_getfield dX9_isLessBy_52 kf_7_35 rfl
theorem dX9_isLessBy_55 : decode cX9_isLessBy 55 = .ok (.iload 4, 2) := by decide +kernel
theorem sX9_isLessBy_55 : ab_X rom K cX9_isLessBy 7 2 55 (v0 :: v1 :: v2 :: v3 :: .int x :: ls) st hp = ab_X rom K cX9_isLessBy 7 2 57 (v0 :: v1 :: v2 :: v3 :: .int x :: ls) (.int x :: st) hp := ax_iload dX9_isLessBy_55 rfl rfl
theorem dX9_isLessBy_57 : decode cX9_isLessBy 57 = .ok (.iaload, 1) := by decide +kernel
theorem sX9_isLessBy_57 : ab_X rom K cX9_isLessBy 7 2 57 ls (.int x :: .ref a :: st) hp = (ab_ard rom 0 hp a x).bind (fun v => ab_X rom K cX9_isLessBy 7 2 58 ls (.int v :: st) hp) := ax_iaload dX9_isLessBy_57 rfl
theorem dX9_isLessBy_58 : decode cX9_isLessBy 58 = .ok (.iconst (-1), 1) := by decide +kernel
theorem sX9_isLessBy_58 : ab_X rom K cX9_isLessBy 7 2 58 ls st hp = ab_X rom K cX9_isLessBy 7 2 59 ls (.int (-1) :: st) hp := ax_iconst dX9_isLessBy_58 (by decide) rfl
theorem dX9_isLessBy_59 : decode cX9_isLessBy 59 = .ok (.if_icmp .eq 17, 3) := by decide +kernel
theorem sX9_isLessBy_59 : ab_X rom K cX9_isLessBy 7 2 59 ls (.int y :: .int x :: st) hp = if x = y then ab_X rom K cX9_isLessBy 7 2 76 ls st hp else ab_X rom K cX9_isLessBy 7 2 62 ls st hp := ax_icmp_eq dX9_isLessBy_59 (by decide) rfl
theorem dX9_isLessBy_62 : decode cX9_isLessBy 62 = .ok (.aload_n 0, 1) := by decide +kernel
theorem sX9_isLessBy_62 : ab_X rom K cX9_isLessBy 7 2 62 (.ref a :: ls) st hp = ab_X rom K cX9_isLessBy 7 2 63 (.ref a :: ls) (.ref a :: st) hp := ax_aload_n dX9_isLessBy_62 rfl rfl
theorem dX9_isLessBy_63 : decode cX9_isLessBy 63 = .ok (.getfield 35, 3) := by decide +kernel
theorem sX9_isLessBy_63 : ab_X rom K cX9_isLessBy 7 2 63 ls (.ref a :: st) hp = (ab_fld hp a 7 19).bind (fun v => ab_X rom K cX9_isLessBy 7 2 66 ls (v :: st) hp) := ax_getfield dX9_isLessBy_63 kf_7_35 rfl
theorem dX9_isLessBy_66 : decode cX9_isLessBy 66 = .ok (.iload 4, 2) := by decide +kernel
theorem sX9_isLessBy_66 : ab_X rom K cX9_isLessBy 7 2 66 (v0 :: v1 :: v2 :: v3 :: .int x :: ls) st hp = ab_X rom K cX9_isLessBy 7 2 68 (v0 :: v1 :: v2 :: v3 :: .int x :: ls) (.int x :: st) hp := ax_iload dX9_isLessBy_66 rfl rfl
theorem dX9_isLessBy_68 : decode cX9_isLessBy 68 = .ok (.iaload, 1) := by decide +kernel
theorem sX9_isLessBy_68 : ab_X rom K cX9_isLessBy 7 2 68 ls (.int x :: .ref a :: st) hp = (ab_ard rom 0 hp a x).bind (fun v => ab_X rom K cX9_isLessBy 7 2 69 ls (.int v :: st) hp) := ax_iaload dX9_isLessBy_68 rfl
theorem dX9_isLessBy_69 : decode cX9_isLessBy 69 = .ok (.iload 5, 2) := by decide +kernel
theorem sX9_isLessBy_69 : ab_X rom K cX9_isLessBy 7 2 69 (v0 :: v1 :: v2 :: v3 :: v4 :: .int x :: ls) st hp = ab_X rom K cX9_isLessBy 7 2 71 (v0 :: v1 :: v2 :: v3 :: v4 :: .int x :: ls) (.int x :: st) hp := ax_iload dX9_isLessBy_69 rfl rfl
theorem dX9_isLessBy_71 : decode cX9_isLessBy 71 = .ok (.if_icmp .eq 5, 3) := by decide +kernel
theorem sX9_isLessBy_71 : ab_X rom K cX9_isLessBy 7 2 71 ls (.int y :: .int x :: st) hp = if x = y then ab_X rom K cX9_isLessBy 7 2 76 ls st hp else ab_X rom K cX9_isLessBy 7 2 74 ls st hp := ax_icmp_eq dX9_isLessBy_71 (by decide) rfl
theorem dX9_isLessBy_74 : decode cX9_isLessBy 74 = .ok (.iconst 0, 1) := by decide +kernel
theorem sX9_isLessBy_74 : ab_X rom K cX9_isLessBy 7 2 74 ls st hp = ab_X rom K cX9_isLessBy 7 2 75 ls (.int 0 :: st) hp := ax_iconst dX9_isLessBy_74 (by decide) rfl
theorem dX9_isLessBy_75 : decode cX9_isLessBy 75 = .ok (.ireturn, 1) := by decide +kernel
theorem sX9_isLessBy_75 : ab_X rom K cX9_isLessBy 7 2 75 ls [.int x] hp = if x = 0 ∨ x = 1 then some (some (.int x), hp) else none := ay_zret dX9_isLessBy_75 rfl
theorem dX9_isLessBy_76 : decode cX9_isLessBy 76 = .ok (.iload_n 3, 1) := by decide +kernel
theorem sX9_isLessBy_76 : ab_X rom K cX9_isLessBy 7 2 76 (v0 :: v1 :: v2 :: .int x :: ls) st hp = ab_X rom K cX9_isLessBy 7 2 77 (v0 :: v1 :: v2 :: .int x :: ls) (.int x :: st) hp := ax_iload_n dX9_isLessBy_76 rfl rfl
theorem dX9_isLessBy_77 : decode cX9_isLessBy 77 = .ok (.ifCond .eq 7, 3) := by decide +kernel
theorem sX9_isLessBy_77 : ab_X rom K cX9_isLessBy 7 2 77 ls (.int x :: st) hp = if x = 0 then ab_X rom K cX9_isLessBy 7 2 84 ls st hp else ab_X rom K cX9_isLessBy 7 2 80 ls st hp := ax_if_eq dX9_isLessBy_77 (by decide) rfl
theorem dX9_isLessBy_80 : decode cX9_isLessBy 80 = .ok (.iload_n 3, 1) := by decide +kernel
theorem sX9_isLessBy_80 : ab_X rom K cX9_isLessBy 7 2 80 (v0 :: v1 :: v2 :: .int x :: ls) st hp = ab_X rom K cX9_isLessBy 7 2 81 (v0 :: v1 :: v2 :: .int x :: ls) (.int x :: st) hp := ax_iload_n dX9_isLessBy_80 rfl rfl
theorem dX9_isLessBy_81 : decode cX9_isLessBy 81 = .ok (.goto 13, 3) := by decide +kernel
theorem sX9_isLessBy_81 : ab_X rom K cX9_isLessBy 7 2 81 ls st hp = ab_X rom K cX9_isLessBy 7 2 94 ls st hp := ax_goto dX9_isLessBy_81 (by decide)
theorem dX9_isLessBy_84 : decode cX9_isLessBy 84 = .ok (.iload 5, 2) := by decide +kernel
theorem sX9_isLessBy_84 : ab_X rom K cX9_isLessBy 7 2 84 (v0 :: v1 :: v2 :: v3 :: v4 :: .int x :: ls) st hp = ab_X rom K cX9_isLessBy 7 2 86 (v0 :: v1 :: v2 :: v3 :: v4 :: .int x :: ls) (.int x :: st) hp := ax_iload dX9_isLessBy_84 rfl rfl
theorem dX9_isLessBy_86 : decode cX9_isLessBy 86 = .ok (.aload_n 0, 1) := by decide +kernel
theorem sX9_isLessBy_86 : ab_X rom K cX9_isLessBy 7 2 86 (.ref a :: ls) st hp = ab_X rom K cX9_isLessBy 7 2 87 (.ref a :: ls) (.ref a :: st) hp := ax_aload_n dX9_isLessBy_86 rfl rfl
theorem dX9_isLessBy_87 : decode cX9_isLessBy 87 = .ok (.getfield 32, 3) := by decide +kernel
theorem sX9_isLessBy_87 : ab_X rom K cX9_isLessBy 7 2 87 ls (.ref a :: st) hp = (ab_fld hp a 7 16).bind (fun v => ab_X rom K cX9_isLessBy 7 2 90 ls (v :: st) hp) := ax_getfield dX9_isLessBy_87 kf_7_32 rfl
theorem dX9_isLessBy_90 : decode cX9_isLessBy 90 = .ok (.iload 4, 2) := by decide +kernel
theorem sX9_isLessBy_90 : ab_X rom K cX9_isLessBy 7 2 90 (v0 :: v1 :: v2 :: v3 :: .int x :: ls) st hp = ab_X rom K cX9_isLessBy 7 2 92 (v0 :: v1 :: v2 :: v3 :: .int x :: ls) (.int x :: st) hp := ax_iload dX9_isLessBy_90 rfl rfl
theorem dX9_isLessBy_92 : decode cX9_isLessBy 92 = .ok (.iaload, 1) := by decide +kernel
theorem sX9_isLessBy_92 : ab_X rom K cX9_isLessBy 7 2 92 ls (.int x :: .ref a :: st) hp = (ab_ard rom 0 hp a x).bind (fun v => ab_X rom K cX9_isLessBy 7 2 93 ls (.int v :: st) hp) := ax_iaload dX9_isLessBy_92 rfl
theorem dX9_isLessBy_93 : decode cX9_isLessBy 93 = .ok (.isub, 1) := by decide +kernel
theorem sX9_isLessBy_93 : ab_X rom K cX9_isLessBy 7 2 93 ls (.int y :: .int x :: st) hp = ab_X rom K cX9_isLessBy 7 2 94 ls (.int (x - y) :: st) hp := ax_isub dX9_isLessBy_93 rfl
theorem dX9_isLessBy_94 : decode cX9_isLessBy 94 = .ok (.istore_n 3, 1) := by decide +kernel
theorem sX9_isLessBy_94i : ab_X rom K cX9_isLessBy 7 2 94 (v0 :: v1 :: .int y :: v3 :: ls) (.int x :: st) hp = ab_X rom K cX9_isLessBy 7 2 95 (v0 :: v1 :: .int y :: .int x :: ls) st hp := ax_istore_n dX9_isLessBy_94 (ax_lt (v := v3) rfl) (ab_nl_c1 (j := 2) (v := .int y) rfl (ab_c1_int _)) rfl rfl
theorem sX9_isLessBy_94r : ab_X rom K cX9_isLessBy 7 2 94 (v0 :: v1 :: .ref a2 :: v3 :: ls) (.int x :: st) hp = ab_X rom K cX9_isLessBy 7 2 95 (v0 :: v1 :: .ref a2 :: .int x :: ls) st hp := ax_istore_n dX9_isLessBy_94 (ax_lt (v := v3) rfl) (ab_nl_c1 (j := 2) (v := .ref a2) rfl (ab_c1_ref _)) rfl rfl
theorem sX9_isLessBy_94n : ab_X rom K cX9_isLessBy 7 2 94 (v0 :: v1 :: .null :: v3 :: ls) (.int x :: st) hp = ab_X rom K cX9_isLessBy 7 2 95 (v0 :: v1 :: .null :: .int x :: ls) st hp := ax_istore_n dX9_isLessBy_94 (ax_lt (v := v3) rfl) (ab_nl_c1 (j := 2) (v := .null) rfl ab_c1_null) rfl rfl
theorem dX9_isLessBy_95 : decode cX9_isLessBy 95 = .ok (.iinc 4 1, 3) := by decide +kernel
theorem sX9_isLessBy_95i : ab_X rom K cX9_isLessBy 7 2 95 (v0 :: v1 :: v2 :: .int y :: .int x :: ls) st hp = ab_X rom K cX9_isLessBy 7 2 98 (v0 :: v1 :: v2 :: .int y :: .int (x + 1) :: ls) st hp := ax_iinc dX9_isLessBy_95 rfl (ab_nl_c1 (j := 3) (v := .int y) rfl (ab_c1_int _)) (by decide) rfl rfl
theorem sX9_isLessBy_95r : ab_X rom K cX9_isLessBy 7 2 95 (v0 :: v1 :: v2 :: .ref a2 :: .int x :: ls) st hp = ab_X rom K cX9_isLessBy 7 2 98 (v0 :: v1 :: v2 :: .ref a2 :: .int (x + 1) :: ls) st hp := ax_iinc dX9_isLessBy_95 rfl (ab_nl_c1 (j := 3) (v := .ref a2) rfl (ab_c1_ref _)) (by decide) rfl rfl
theorem sX9_isLessBy_95n : ab_X rom K cX9_isLessBy 7 2 95 (v0 :: v1 :: v2 :: .null :: .int x :: ls) st hp = ab_X rom K cX9_isLessBy 7 2 98 (v0 :: v1 :: v2 :: .null :: .int (x + 1) :: ls) st hp := ax_iinc dX9_isLessBy_95 rfl (ab_nl_c1 (j := 3) (v := .null) rfl ab_c1_null) (by decide) rfl rfl
theorem dX9_isLessBy_98 : decode cX9_isLessBy 98 = .ok (.goto (-93), 3) := by decide +kernel
theorem sX9_isLessBy_98 : ab_X rom K cX9_isLessBy 7 2 98 ls st hp = ab_X rom K cX9_isLessBy 7 2 5 ls st hp := ax_goto dX9_isLessBy_98 (by decide)
theorem dX9_isLessBy_101 : decode cX9_isLessBy 101 = .ok (.iload_n 3, 1) := by decide +kernel
theorem sX9_isLessBy_101 : ab_X rom K cX9_isLessBy 7 2 101 (v0 :: v1 :: v2 :: .int x :: ls) st hp = ab_X rom K cX9_isLessBy 7 2 102 (v0 :: v1 :: v2 :: .int x :: ls) (.int x :: st) hp := ax_iload_n dX9_isLessBy_101 rfl rfl
theorem dX9_isLessBy_102 : decode cX9_isLessBy 102 = .ok (.ifCond .ge 7, 3) := by decide +kernel
theorem sX9_isLessBy_102 : ab_X rom K cX9_isLessBy 7 2 102 ls (.int x :: st) hp = if x < 0 then ab_X rom K cX9_isLessBy 7 2 105 ls st hp else ab_X rom K cX9_isLessBy 7 2 109 ls st hp := ax_if_ge dX9_isLessBy_102 (by decide) rfl
theorem dX9_isLessBy_105 : decode cX9_isLessBy 105 = .ok (.iconst 1, 1) := by decide +kernel
theorem sX9_isLessBy_105 : ab_X rom K cX9_isLessBy 7 2 105 ls st hp = ab_X rom K cX9_isLessBy 7 2 106 ls (.int 1 :: st) hp := ax_iconst dX9_isLessBy_105 (by decide) rfl
theorem dX9_isLessBy_106 : decode cX9_isLessBy 106 = .ok (.goto 4, 3) := by decide +kernel
theorem sX9_isLessBy_106 : ab_X rom K cX9_isLessBy 7 2 106 ls st hp = ab_X rom K cX9_isLessBy 7 2 110 ls st hp := ax_goto dX9_isLessBy_106 (by decide)
theorem dX9_isLessBy_109 : decode cX9_isLessBy 109 = .ok (.iconst 0, 1) := by decide +kernel
theorem sX9_isLessBy_109 : ab_X rom K cX9_isLessBy 7 2 109 ls st hp = ab_X rom K cX9_isLessBy 7 2 110 ls (.int 0 :: st) hp := ax_iconst dX9_isLessBy_109 (by decide) rfl
theorem dX9_isLessBy_110 : decode cX9_isLessBy 110 = .ok (.ireturn, 1) := by decide +kernel
theorem sX9_isLessBy_110 : ab_X rom K cX9_isLessBy 7 2 110 ls [.int x] hp = if x = 0 ∨ x = 1 then some (some (.int x), hp) else none := ay_zret dX9_isLessBy_110 rfl
theorem tX9_isNet : ab_mT[171]? = some (yX9_isNet, cX9_isNet, 2, 2, 7) := by decide +kernel
theorem mX9_isNet {d : Nat} {a0 : Nat} {x0 : Int32} : ab_M rom (d + 1) 171 [.ref a0, .int x0] hp = ab_X rom (ab_M rom d) cX9_isNet 7 2 0 [.ref a0, .int x0] [] hp := ab_M_eq tX9_isNet (Nat.le_of_ble_eq_true rfl)
theorem dX9_isNet_0 : decode cX9_isNet 0 = .ok (.iload_n 1, 1) := by decide +kernel
theorem sX9_isNet_0 : ab_X rom K cX9_isNet 7 2 0 (v0 :: .int x :: ls) st hp = ab_X rom K cX9_isNet 7 2 1 (v0 :: .int x :: ls) (.int x :: st) hp := ax_iload_n dX9_isNet_0 rfl rfl
theorem dX9_isNet_1 : decode cX9_isNet 1 = .ok (.invokestatic 60, 3) := by decide +kernel
theorem sX9_isNet_1_0 : ab_X rom K cX9_isNet 7 2 1 ls [w1] hp = (K 175 [w1] hp).bind (fun o => ab_X rom K cX9_isNet 7 2 4 ls (o.1.toList ++ []) o.2) := ax_static (as := [w1]) (st := []) dX9_isNet_1 kc_7_60 rfl rfl (Nat.le_of_ble_eq_true rfl)
theorem sX9_isNet_1_1 : ab_X rom K cX9_isNet 7 2 1 ls [w1, v0] hp = (K 175 [w1] hp).bind (fun o => ab_X rom K cX9_isNet 7 2 4 ls (o.1.toList ++ [v0]) o.2) := ax_static (as := [w1]) (st := [v0]) dX9_isNet_1 kc_7_60 rfl rfl (Nat.le_of_ble_eq_true rfl)
theorem sX9_isNet_1_2 : ab_X rom K cX9_isNet 7 2 1 ls [w1, v0, v1] hp = (K 175 [w1] hp).bind (fun o => ab_X rom K cX9_isNet 7 2 4 ls (o.1.toList ++ [v0, v1]) o.2) := ax_static (as := [w1]) (st := [v0, v1]) dX9_isNet_1 kc_7_60 rfl rfl (Nat.le_of_ble_eq_true rfl)
theorem sX9_isNet_1_3 : ab_X rom K cX9_isNet 7 2 1 ls [w1, v0, v1, v2] hp = (K 175 [w1] hp).bind (fun o => ab_X rom K cX9_isNet 7 2 4 ls (o.1.toList ++ [v0, v1, v2]) o.2) := ax_static (as := [w1]) (st := [v0, v1, v2]) dX9_isNet_1 kc_7_60 rfl rfl (Nat.le_of_ble_eq_true rfl)
theorem dX9_isNet_4 : decode cX9_isNet 4 = .ok (.ifCond .eq 15, 3) := by decide +kernel
theorem sX9_isNet_4 : ab_X rom K cX9_isNet 7 2 4 ls (.int x :: st) hp = if x = 0 then ab_X rom K cX9_isNet 7 2 19 ls st hp else ab_X rom K cX9_isNet 7 2 7 ls st hp := ax_if_eq dX9_isNet_4 (by decide) rfl
theorem dX9_isNet_7 : decode cX9_isNet 7 = .ok (.aload_n 0, 1) := by decide +kernel
theorem sX9_isNet_7 : ab_X rom K cX9_isNet 7 2 7 (.ref a :: ls) st hp = ab_X rom K cX9_isNet 7 2 8 (.ref a :: ls) (.ref a :: st) hp := ax_aload_n dX9_isNet_7 rfl rfl
theorem dX9_isNet_8 : decode cX9_isNet 8 = .ok (.iload_n 1, 1) := by decide +kernel
theorem sX9_isNet_8 : ab_X rom K cX9_isNet 7 2 8 (v0 :: .int x :: ls) st hp = ab_X rom K cX9_isNet 7 2 9 (v0 :: .int x :: ls) (.int x :: st) hp := ax_iload_n dX9_isNet_8 rfl rfl
theorem dX9_isNet_9 : decode cX9_isNet 9 = .ok (.invokevirtual 64, 3) := by decide +kernel
theorem sX9_isNet_9_0 : ab_X rom K cX9_isNet 7 2 9 ls [w1, .ref a] hp = if ab_iso hp a 7 = true then (K 209 (.ref a :: [w1]) hp).bind (fun o => ab_X rom K cX9_isNet 7 2 12 ls (o.1.toList ++ []) o.2) else none := ay_virtual (as := [w1]) (st := []) dX9_isNet_9 kc_7_64 rfl rfl (Nat.le_of_ble_eq_true rfl)
theorem sX9_isNet_9_1 : ab_X rom K cX9_isNet 7 2 9 ls [w1, .ref a, v0] hp = if ab_iso hp a 7 = true then (K 209 (.ref a :: [w1]) hp).bind (fun o => ab_X rom K cX9_isNet 7 2 12 ls (o.1.toList ++ [v0]) o.2) else none := ay_virtual (as := [w1]) (st := [v0]) dX9_isNet_9 kc_7_64 rfl rfl (Nat.le_of_ble_eq_true rfl)
theorem sX9_isNet_9_2 : ab_X rom K cX9_isNet 7 2 9 ls [w1, .ref a, v0, v1] hp = if ab_iso hp a 7 = true then (K 209 (.ref a :: [w1]) hp).bind (fun o => ab_X rom K cX9_isNet 7 2 12 ls (o.1.toList ++ [v0, v1]) o.2) else none := ay_virtual (as := [w1]) (st := [v0, v1]) dX9_isNet_9 kc_7_64 rfl rfl (Nat.le_of_ble_eq_true rfl)
theorem sX9_isNet_9_3 : ab_X rom K cX9_isNet 7 2 9 ls [w1, .ref a, v0, v1, v2] hp = if ab_iso hp a 7 = true then (K 209 (.ref a :: [w1]) hp).bind (fun o => ab_X rom K cX9_isNet 7 2 12 ls (o.1.toList ++ [v0, v1, v2]) o.2) else none := ay_virtual (as := [w1]) (st := [v0, v1, v2]) dX9_isNet_9 kc_7_64 rfl rfl (Nat.le_of_ble_eq_true rfl)
theorem dX9_isNet_12 : decode cX9_isNet 12 = .ok (.ifCond .le 7, 3) := by decide +kernel
theorem sX9_isNet_12 : ab_X rom K cX9_isNet 7 2 12 ls (.int x :: st) hp = if 0 < x then ab_X rom K cX9_isNet 7 2 15 ls st hp else ab_X rom K cX9_isNet 7 2 19 ls st hp := ax_if_le dX9_isNet_12 (by decide) rfl
theorem dX9_isNet_15 : decode cX9_isNet 15 = .ok (.iconst 1, 1) := by decide +kernel
theorem sX9_isNet_15 : ab_X rom K cX9_isNet 7 2 15 ls st hp = ab_X rom K cX9_isNet 7 2 16 ls (.int 1 :: st) hp := ax_iconst dX9_isNet_15 (by decide) rfl
theorem dX9_isNet_16 : decode cX9_isNet 16 = .ok (.goto 4, 3) := by decide +kernel
theorem sX9_isNet_16 : ab_X rom K cX9_isNet 7 2 16 ls st hp = ab_X rom K cX9_isNet 7 2 20 ls st hp := ax_goto dX9_isNet_16 (by decide)
theorem dX9_isNet_19 : decode cX9_isNet 19 = .ok (.iconst 0, 1) := by decide +kernel
theorem sX9_isNet_19 : ab_X rom K cX9_isNet 7 2 19 ls st hp = ab_X rom K cX9_isNet 7 2 20 ls (.int 0 :: st) hp := ax_iconst dX9_isNet_19 (by decide) rfl
theorem dX9_isNet_20 : decode cX9_isNet 20 = .ok (.ireturn, 1) := by decide +kernel
theorem sX9_isNet_20 : ab_X rom K cX9_isNet 7 2 20 ls [.int x] hp = if x = 0 ∨ x = 1 then some (some (.int x), hp) else none := ay_zret dX9_isNet_20 rfl
theorem tX9_isOdd : ab_mT[172]? = some (yX9_isOdd, cX9_isOdd, 3, 2, 7) := by decide +kernel
theorem mX9_isOdd {d : Nat} {a0 : Nat} {x0 : Int32} : ab_M rom (d + 1) 172 [.ref a0, .int x0] hp = ab_X rom (ab_M rom d) cX9_isOdd 7 2 0 [.ref a0, .int x0, .null] [] hp := ab_M_eq tX9_isOdd (Nat.le_of_ble_eq_true rfl)
theorem dX9_isOdd_0 : decode cX9_isOdd 0 = .ok (.iconst 0, 1) := by decide +kernel
theorem sX9_isOdd_0 : ab_X rom K cX9_isOdd 7 2 0 ls st hp = ab_X rom K cX9_isOdd 7 2 1 ls (.int 0 :: st) hp := ax_iconst dX9_isOdd_0 (by decide) rfl
theorem dX9_isOdd_1 : decode cX9_isOdd 1 = .ok (.istore_n 2, 1) := by decide +kernel
theorem sX9_isOdd_1i : ab_X rom K cX9_isOdd 7 2 1 (v0 :: .int y :: v2 :: ls) (.int x :: st) hp = ab_X rom K cX9_isOdd 7 2 2 (v0 :: .int y :: .int x :: ls) st hp := ax_istore_n dX9_isOdd_1 (ax_lt (v := v2) rfl) (ab_nl_c1 (j := 1) (v := .int y) rfl (ab_c1_int _)) rfl rfl
theorem sX9_isOdd_1r : ab_X rom K cX9_isOdd 7 2 1 (v0 :: .ref a2 :: v2 :: ls) (.int x :: st) hp = ab_X rom K cX9_isOdd 7 2 2 (v0 :: .ref a2 :: .int x :: ls) st hp := ax_istore_n dX9_isOdd_1 (ax_lt (v := v2) rfl) (ab_nl_c1 (j := 1) (v := .ref a2) rfl (ab_c1_ref _)) rfl rfl
theorem sX9_isOdd_1n : ab_X rom K cX9_isOdd 7 2 1 (v0 :: .null :: v2 :: ls) (.int x :: st) hp = ab_X rom K cX9_isOdd 7 2 2 (v0 :: .null :: .int x :: ls) st hp := ax_istore_n dX9_isOdd_1 (ax_lt (v := v2) rfl) (ab_nl_c1 (j := 1) (v := .null) rfl ab_c1_null) rfl rfl
theorem dX9_isOdd_2 : decode cX9_isOdd 2 = .ok (.iload_n 2, 1) := by decide +kernel
theorem sX9_isOdd_2 : ab_X rom K cX9_isOdd 7 2 2 (v0 :: v1 :: .int x :: ls) st hp = ab_X rom K cX9_isOdd 7 2 3 (v0 :: v1 :: .int x :: ls) (.int x :: st) hp := ax_iload_n dX9_isOdd_2 rfl rfl
theorem dX9_isOdd_3 : decode cX9_isOdd 3 = .ok (.aload_n 0, 1) := by decide +kernel
theorem sX9_isOdd_3 : ab_X rom K cX9_isOdd 7 2 3 (.ref a :: ls) st hp = ab_X rom K cX9_isOdd 7 2 4 (.ref a :: ls) (.ref a :: st) hp := ax_aload_n dX9_isOdd_3 rfl rfl
theorem dX9_isOdd_4 : decode cX9_isOdd 4 = .ok (.getfield 210, 3) := by decide +kernel
theorem sX9_isOdd_4 : ab_X rom K cX9_isOdd 7 2 4 ls (.ref a :: st) hp = (ab_fld hp a 7 15).bind (fun v => ab_X rom K cX9_isOdd 7 2 7 ls (v :: st) hp) := ax_getfield dX9_isOdd_4 kf_7_210 rfl
theorem dX9_isOdd_7 : decode cX9_isOdd 7 = .ok (.if_icmp .ge 32, 3) := by decide +kernel
theorem sX9_isOdd_7 : ab_X rom K cX9_isOdd 7 2 7 ls (.int y :: .int x :: st) hp = if x < y then ab_X rom K cX9_isOdd 7 2 10 ls st hp else ab_X rom K cX9_isOdd 7 2 39 ls st hp := ax_icmp_ge dX9_isOdd_7 (by decide) rfl
theorem dX9_isOdd_10 : decode cX9_isOdd 10 = .ok (.aload_n 0, 1) := by decide +kernel
theorem sX9_isOdd_10 : ab_X rom K cX9_isOdd 7 2 10 (.ref a :: ls) st hp = ab_X rom K cX9_isOdd 7 2 11 (.ref a :: ls) (.ref a :: st) hp := ax_aload_n dX9_isOdd_10 rfl rfl
theorem dX9_isOdd_11 : decode cX9_isOdd 11 = .ok (.getfield 29, 3) := by decide +kernel
theorem sX9_isOdd_11 : ab_X rom K cX9_isOdd 7 2 11 ls (.ref a :: st) hp = (ab_fld hp a 7 14).bind (fun v => ab_X rom K cX9_isOdd 7 2 14 ls (v :: st) hp) := ax_getfield dX9_isOdd_11 kf_7_29 rfl
theorem dX9_isOdd_14 : decode cX9_isOdd 14 = .ok (.iload_n 2, 1) := by decide +kernel
theorem sX9_isOdd_14 : ab_X rom K cX9_isOdd 7 2 14 (v0 :: v1 :: .int x :: ls) st hp = ab_X rom K cX9_isOdd 7 2 15 (v0 :: v1 :: .int x :: ls) (.int x :: st) hp := ax_iload_n dX9_isOdd_14 rfl rfl
theorem dX9_isOdd_15 : decode cX9_isOdd 15 = .ok (.iaload, 1) := by decide +kernel
theorem sX9_isOdd_15 : ab_X rom K cX9_isOdd 7 2 15 ls (.int x :: .ref a :: st) hp = (ab_ard rom 0 hp a x).bind (fun v => ab_X rom K cX9_isOdd 7 2 16 ls (.int v :: st) hp) := ax_iaload dX9_isOdd_15 rfl
theorem dX9_isOdd_16 : decode cX9_isOdd 16 = .ok (.iload_n 1, 1) := by decide +kernel
theorem sX9_isOdd_16 : ab_X rom K cX9_isOdd 7 2 16 (v0 :: .int x :: ls) st hp = ab_X rom K cX9_isOdd 7 2 17 (v0 :: .int x :: ls) (.int x :: st) hp := ax_iload_n dX9_isOdd_16 rfl rfl
theorem dX9_isOdd_17 : decode cX9_isOdd 17 = .ok (.if_icmp .ge 16, 3) := by decide +kernel
theorem sX9_isOdd_17 : ab_X rom K cX9_isOdd 7 2 17 ls (.int y :: .int x :: st) hp = if x < y then ab_X rom K cX9_isOdd 7 2 20 ls st hp else ab_X rom K cX9_isOdd 7 2 33 ls st hp := ax_icmp_ge dX9_isOdd_17 (by decide) rfl
theorem dX9_isOdd_20 : decode cX9_isOdd 20 = .ok (.aload_n 0, 1) := by decide +kernel
theorem sX9_isOdd_20 : ab_X rom K cX9_isOdd 7 2 20 (.ref a :: ls) st hp = ab_X rom K cX9_isOdd 7 2 21 (.ref a :: ls) (.ref a :: st) hp := ax_aload_n dX9_isOdd_20 rfl rfl
theorem dX9_isOdd_21 : decode cX9_isOdd 21 = .ok (.iconst 3, 1) := by decide +kernel
theorem sX9_isOdd_21 : ab_X rom K cX9_isOdd 7 2 21 ls st hp = ab_X rom K cX9_isOdd 7 2 22 ls (.int 3 :: st) hp := ax_iconst dX9_isOdd_21 (by decide) rfl
theorem dX9_isOdd_22 : decode cX9_isOdd 22 = .ok (.iload_n 2, 1) := by decide +kernel
theorem sX9_isOdd_22 : ab_X rom K cX9_isOdd 7 2 22 (v0 :: v1 :: .int x :: ls) st hp = ab_X rom K cX9_isOdd 7 2 23 (v0 :: v1 :: .int x :: ls) (.int x :: st) hp := ax_iload_n dX9_isOdd_22 rfl rfl
theorem dX9_isOdd_23 : decode cX9_isOdd 23 = .ok (.invokevirtual 244, 3) := by decide +kernel
theorem sX9_isOdd_23_0 : ab_X rom K cX9_isOdd 7 2 23 ls [w2, w1, .ref a] hp = if ab_iso hp a 7 = true then (K 241 (.ref a :: [w1, w2]) hp).bind (fun o => ab_X rom K cX9_isOdd 7 2 26 ls (o.1.toList ++ []) o.2) else none := ay_virtual (as := [w1, w2]) (st := []) dX9_isOdd_23 kc_7_244 rfl rfl (Nat.le_of_ble_eq_true rfl)
theorem sX9_isOdd_23_1 : ab_X rom K cX9_isOdd 7 2 23 ls [w2, w1, .ref a, v0] hp = if ab_iso hp a 7 = true then (K 241 (.ref a :: [w1, w2]) hp).bind (fun o => ab_X rom K cX9_isOdd 7 2 26 ls (o.1.toList ++ [v0]) o.2) else none := ay_virtual (as := [w1, w2]) (st := [v0]) dX9_isOdd_23 kc_7_244 rfl rfl (Nat.le_of_ble_eq_true rfl)
theorem sX9_isOdd_23_2 : ab_X rom K cX9_isOdd 7 2 23 ls [w2, w1, .ref a, v0, v1] hp = if ab_iso hp a 7 = true then (K 241 (.ref a :: [w1, w2]) hp).bind (fun o => ab_X rom K cX9_isOdd 7 2 26 ls (o.1.toList ++ [v0, v1]) o.2) else none := ay_virtual (as := [w1, w2]) (st := [v0, v1]) dX9_isOdd_23 kc_7_244 rfl rfl (Nat.le_of_ble_eq_true rfl)
theorem sX9_isOdd_23_3 : ab_X rom K cX9_isOdd 7 2 23 ls [w2, w1, .ref a, v0, v1, v2] hp = if ab_iso hp a 7 = true then (K 241 (.ref a :: [w1, w2]) hp).bind (fun o => ab_X rom K cX9_isOdd 7 2 26 ls (o.1.toList ++ [v0, v1, v2]) o.2) else none := ay_virtual (as := [w1, w2]) (st := [v0, v1, v2]) dX9_isOdd_23 kc_7_244 rfl rfl (Nat.le_of_ble_eq_true rfl)
theorem dX9_isOdd_26 : decode cX9_isOdd 26 = .ok (.iconst 2, 1) := by decide +kernel
theorem sX9_isOdd_26 : ab_X rom K cX9_isOdd 7 2 26 ls st hp = ab_X rom K cX9_isOdd 7 2 27 ls (.int 2 :: st) hp := ax_iconst dX9_isOdd_26 (by decide) rfl
theorem dX9_isOdd_27 : decode cX9_isOdd 27 = .ok (.irem, 1) := by decide +kernel
theorem sX9_isOdd_27 : ab_X rom K cX9_isOdd 7 2 27 ls (.int y :: .int x :: st) hp = if y = 0 then none else ab_X rom K cX9_isOdd 7 2 28 ls (.int (ab_rem x y) :: st) hp := ay_irem dX9_isOdd_27 rfl
theorem dX9_isOdd_28 : decode cX9_isOdd 28 = .ok (.ifCond .ne 5, 3) := by decide +kernel
theorem sX9_isOdd_28 : ab_X rom K cX9_isOdd 7 2 28 ls (.int x :: st) hp = if x = 0 then ab_X rom K cX9_isOdd 7 2 31 ls st hp else ab_X rom K cX9_isOdd 7 2 33 ls st hp := ax_if_ne dX9_isOdd_28 (by decide) rfl
theorem dX9_isOdd_31 : decode cX9_isOdd 31 = .ok (.iconst 0, 1) := by decide +kernel
theorem sX9_isOdd_31 : ab_X rom K cX9_isOdd 7 2 31 ls st hp = ab_X rom K cX9_isOdd 7 2 32 ls (.int 0 :: st) hp := ax_iconst dX9_isOdd_31 (by decide) rfl
theorem dX9_isOdd_32 : decode cX9_isOdd 32 = .ok (.ireturn, 1) := by decide +kernel
theorem sX9_isOdd_32 : ab_X rom K cX9_isOdd 7 2 32 ls [.int x] hp = if x = 0 ∨ x = 1 then some (some (.int x), hp) else none := ay_zret dX9_isOdd_32 rfl
theorem dX9_isOdd_33 : decode cX9_isOdd 33 = .ok (.iinc 2 1, 3) := by decide +kernel
theorem sX9_isOdd_33i : ab_X rom K cX9_isOdd 7 2 33 (v0 :: .int y :: .int x :: ls) st hp = ab_X rom K cX9_isOdd 7 2 36 (v0 :: .int y :: .int (x + 1) :: ls) st hp := ax_iinc dX9_isOdd_33 rfl (ab_nl_c1 (j := 1) (v := .int y) rfl (ab_c1_int _)) (by decide) rfl rfl
theorem sX9_isOdd_33r : ab_X rom K cX9_isOdd 7 2 33 (v0 :: .ref a2 :: .int x :: ls) st hp = ab_X rom K cX9_isOdd 7 2 36 (v0 :: .ref a2 :: .int (x + 1) :: ls) st hp := ax_iinc dX9_isOdd_33 rfl (ab_nl_c1 (j := 1) (v := .ref a2) rfl (ab_c1_ref _)) (by decide) rfl rfl
theorem sX9_isOdd_33n : ab_X rom K cX9_isOdd 7 2 33 (v0 :: .null :: .int x :: ls) st hp = ab_X rom K cX9_isOdd 7 2 36 (v0 :: .null :: .int (x + 1) :: ls) st hp := ax_iinc dX9_isOdd_33 rfl (ab_nl_c1 (j := 1) (v := .null) rfl ab_c1_null) (by decide) rfl rfl
theorem dX9_isOdd_36 : decode cX9_isOdd 36 = .ok (.goto (-34), 3) := by decide +kernel
theorem sX9_isOdd_36 : ab_X rom K cX9_isOdd 7 2 36 ls st hp = ab_X rom K cX9_isOdd 7 2 2 ls st hp := ax_goto dX9_isOdd_36 (by decide)
theorem dX9_isOdd_39 : decode cX9_isOdd 39 = .ok (.iconst 1, 1) := by decide +kernel
theorem sX9_isOdd_39 : ab_X rom K cX9_isOdd 7 2 39 ls st hp = ab_X rom K cX9_isOdd 7 2 40 ls (.int 1 :: st) hp := ax_iconst dX9_isOdd_39 (by decide) rfl
theorem dX9_isOdd_40 : decode cX9_isOdd 40 = .ok (.ireturn, 1) := by decide +kernel
theorem sX9_isOdd_40 : ab_X rom K cX9_isOdd 7 2 40 ls [.int x] hp = if x = 0 ∨ x = 1 then some (some (.int x), hp) else none := ay_zret dX9_isOdd_40 rfl
theorem tX9_isPoint : ab_mT[173]? = some (yX9_isPoint, cX9_isPoint, 3, 2, 7) := by decide +kernel
theorem mX9_isPoint {d : Nat} {a0 : Nat} {x0 : Int32} {x1 : Int32} : ab_M rom (d + 1) 173 [.ref a0, .int x0, .int x1] hp = ab_X rom (ab_M rom d) cX9_isPoint 7 2 0 [.ref a0, .int x0, .int x1] [] hp := ab_M_eq tX9_isPoint (Nat.le_of_ble_eq_true rfl)
theorem dX9_isPoint_0 : decode cX9_isPoint 0 = .ok (.aload_n 0, 1) := by decide +kernel
theorem sX9_isPoint_0 : ab_X rom K cX9_isPoint 7 2 0 (.ref a :: ls) st hp = ab_X rom K cX9_isPoint 7 2 1 (.ref a :: ls) (.ref a :: st) hp := ax_aload_n dX9_isPoint_0 rfl rfl
theorem dX9_isPoint_1 : decode cX9_isPoint 1 = .ok (.iload_n 1, 1) := by decide +kernel
theorem sX9_isPoint_1 : ab_X rom K cX9_isPoint 7 2 1 (v0 :: .int x :: ls) st hp = ab_X rom K cX9_isPoint 7 2 2 (v0 :: .int x :: ls) (.int x :: st) hp := ax_iload_n dX9_isPoint_1 rfl rfl
theorem dX9_isPoint_2 : decode cX9_isPoint 2 = .ok (.invokevirtual 68, 3) := by decide +kernel
theorem sX9_isPoint_2_0 : ab_X rom K cX9_isPoint 7 2 2 ls [w1, .ref a] hp = if ab_iso hp a 7 = true then (K 171 (.ref a :: [w1]) hp).bind (fun o => ab_X rom K cX9_isPoint 7 2 5 ls (o.1.toList ++ []) o.2) else none := ay_virtual (as := [w1]) (st := []) dX9_isPoint_2 kc_7_68 rfl rfl (Nat.le_of_ble_eq_true rfl)
theorem sX9_isPoint_2_1 : ab_X rom K cX9_isPoint 7 2 2 ls [w1, .ref a, v0] hp = if ab_iso hp a 7 = true then (K 171 (.ref a :: [w1]) hp).bind (fun o => ab_X rom K cX9_isPoint 7 2 5 ls (o.1.toList ++ [v0]) o.2) else none := ay_virtual (as := [w1]) (st := [v0]) dX9_isPoint_2 kc_7_68 rfl rfl (Nat.le_of_ble_eq_true rfl)
theorem sX9_isPoint_2_2 : ab_X rom K cX9_isPoint 7 2 2 ls [w1, .ref a, v0, v1] hp = if ab_iso hp a 7 = true then (K 171 (.ref a :: [w1]) hp).bind (fun o => ab_X rom K cX9_isPoint 7 2 5 ls (o.1.toList ++ [v0, v1]) o.2) else none := ay_virtual (as := [w1]) (st := [v0, v1]) dX9_isPoint_2 kc_7_68 rfl rfl (Nat.le_of_ble_eq_true rfl)
theorem sX9_isPoint_2_3 : ab_X rom K cX9_isPoint 7 2 2 ls [w1, .ref a, v0, v1, v2] hp = if ab_iso hp a 7 = true then (K 171 (.ref a :: [w1]) hp).bind (fun o => ab_X rom K cX9_isPoint 7 2 5 ls (o.1.toList ++ [v0, v1, v2]) o.2) else none := ay_virtual (as := [w1]) (st := [v0, v1, v2]) dX9_isPoint_2 kc_7_68 rfl rfl (Nat.le_of_ble_eq_true rfl)
theorem dX9_isPoint_5 : decode cX9_isPoint 5 = .ok (.ifCond .eq 24, 3) := by decide +kernel
theorem sX9_isPoint_5 : ab_X rom K cX9_isPoint 7 2 5 ls (.int x :: st) hp = if x = 0 then ab_X rom K cX9_isPoint 7 2 29 ls st hp else ab_X rom K cX9_isPoint 7 2 8 ls st hp := ax_if_eq dX9_isPoint_5 (by decide) rfl
theorem dX9_isPoint_8 : decode cX9_isPoint 8 = .ok (.iload_n 2, 1) := by decide +kernel
theorem sX9_isPoint_8 : ab_X rom K cX9_isPoint 7 2 8 (v0 :: v1 :: .int x :: ls) st hp = ab_X rom K cX9_isPoint 7 2 9 (v0 :: v1 :: .int x :: ls) (.int x :: st) hp := ax_iload_n dX9_isPoint_8 rfl rfl
theorem dX9_isPoint_9 : decode cX9_isPoint 9 = .ok (.i2l, 1) := by decide +kernel
theorem sX9_isPoint_9 : ab_X rom K cX9_isPoint 7 2 9 ls (.int x :: st) hp = ab_X rom K cX9_isPoint 7 2 10 ls (.long x.toInt64 :: st) hp := ax_i2l dX9_isPoint_9 rfl
theorem dX9_isPoint_10 : decode cX9_isPoint 10 = .ok (.lconst 0, 1) := by decide +kernel
theorem sX9_isPoint_10 : ab_X rom K cX9_isPoint 7 2 10 ls st hp = ab_X rom K cX9_isPoint 7 2 11 ls (.long 0 :: st) hp := ax_lconst dX9_isPoint_10 (by decide) rfl
theorem dX9_isPoint_11 : decode cX9_isPoint 11 = .ok (.aload_n 0, 1) := by decide +kernel
theorem sX9_isPoint_11 : ab_X rom K cX9_isPoint 7 2 11 (.ref a :: ls) st hp = ab_X rom K cX9_isPoint 7 2 12 (.ref a :: ls) (.ref a :: st) hp := ax_aload_n dX9_isPoint_11 rfl rfl
theorem dX9_isPoint_12 : decode cX9_isPoint 12 = .ok (.iload_n 1, 1) := by decide +kernel
theorem sX9_isPoint_12 : ab_X rom K cX9_isPoint 7 2 12 (v0 :: .int x :: ls) st hp = ab_X rom K cX9_isPoint 7 2 13 (v0 :: .int x :: ls) (.int x :: st) hp := ax_iload_n dX9_isPoint_12 rfl rfl
theorem dX9_isPoint_13 : decode cX9_isPoint 13 = .ok (.invokevirtual 64, 3) := by decide +kernel
theorem sX9_isPoint_13_0 : ab_X rom K cX9_isPoint 7 2 13 ls [w1, .ref a] hp = if ab_iso hp a 7 = true then (K 209 (.ref a :: [w1]) hp).bind (fun o => ab_X rom K cX9_isPoint 7 2 16 ls (o.1.toList ++ []) o.2) else none := ay_virtual (as := [w1]) (st := []) dX9_isPoint_13 kc_7_64 rfl rfl (Nat.le_of_ble_eq_true rfl)
theorem sX9_isPoint_13_1 : ab_X rom K cX9_isPoint 7 2 13 ls [w1, .ref a, v0] hp = if ab_iso hp a 7 = true then (K 209 (.ref a :: [w1]) hp).bind (fun o => ab_X rom K cX9_isPoint 7 2 16 ls (o.1.toList ++ [v0]) o.2) else none := ay_virtual (as := [w1]) (st := [v0]) dX9_isPoint_13 kc_7_64 rfl rfl (Nat.le_of_ble_eq_true rfl)
theorem sX9_isPoint_13_2 : ab_X rom K cX9_isPoint 7 2 13 ls [w1, .ref a, v0, v1] hp = if ab_iso hp a 7 = true then (K 209 (.ref a :: [w1]) hp).bind (fun o => ab_X rom K cX9_isPoint 7 2 16 ls (o.1.toList ++ [v0, v1]) o.2) else none := ay_virtual (as := [w1]) (st := [v0, v1]) dX9_isPoint_13 kc_7_64 rfl rfl (Nat.le_of_ble_eq_true rfl)
theorem sX9_isPoint_13_3 : ab_X rom K cX9_isPoint 7 2 13 ls [w1, .ref a, v0, v1, v2] hp = if ab_iso hp a 7 = true then (K 209 (.ref a :: [w1]) hp).bind (fun o => ab_X rom K cX9_isPoint 7 2 16 ls (o.1.toList ++ [v0, v1, v2]) o.2) else none := ay_virtual (as := [w1]) (st := [v0, v1, v2]) dX9_isPoint_13 kc_7_64 rfl rfl (Nat.le_of_ble_eq_true rfl)
theorem dX9_isPoint_16 : decode cX9_isPoint 16 = .ok (.iconst 1, 1) := by decide +kernel
theorem sX9_isPoint_16 : ab_X rom K cX9_isPoint 7 2 16 ls st hp = ab_X rom K cX9_isPoint 7 2 17 ls (.int 1 :: st) hp := ax_iconst dX9_isPoint_16 (by decide) rfl
theorem dX9_isPoint_17 : decode cX9_isPoint 17 = .ok (.isub, 1) := by decide +kernel
theorem sX9_isPoint_17 : ab_X rom K cX9_isPoint 7 2 17 ls (.int y :: .int x :: st) hp = ab_X rom K cX9_isPoint 7 2 18 ls (.int (x - y) :: st) hp := ax_isub dX9_isPoint_17 rfl
theorem dX9_isPoint_18 : decode cX9_isPoint 18 = .ok (.i2l, 1) := by decide +kernel
theorem sX9_isPoint_18 : ab_X rom K cX9_isPoint 7 2 18 ls (.int x :: st) hp = ab_X rom K cX9_isPoint 7 2 19 ls (.long x.toInt64 :: st) hp := ax_i2l dX9_isPoint_18 rfl
theorem dX9_isPoint_19 : decode cX9_isPoint 19 = .ok (.invokestatic 56, 3) := by decide +kernel
theorem sX9_isPoint_19_0 : ab_X rom K cX9_isPoint 7 2 19 ls [w3, w2, w1] hp = (K 159 [w1, w2, w3] hp).bind (fun o => ab_X rom K cX9_isPoint 7 2 22 ls (o.1.toList ++ []) o.2) := ax_static (as := [w1, w2, w3]) (st := []) dX9_isPoint_19 kc_7_56 rfl rfl (Nat.le_of_ble_eq_true rfl)
theorem sX9_isPoint_19_1 : ab_X rom K cX9_isPoint 7 2 19 ls [w3, w2, w1, v0] hp = (K 159 [w1, w2, w3] hp).bind (fun o => ab_X rom K cX9_isPoint 7 2 22 ls (o.1.toList ++ [v0]) o.2) := ax_static (as := [w1, w2, w3]) (st := [v0]) dX9_isPoint_19 kc_7_56 rfl rfl (Nat.le_of_ble_eq_true rfl)
theorem sX9_isPoint_19_2 : ab_X rom K cX9_isPoint 7 2 19 ls [w3, w2, w1, v0, v1] hp = (K 159 [w1, w2, w3] hp).bind (fun o => ab_X rom K cX9_isPoint 7 2 22 ls (o.1.toList ++ [v0, v1]) o.2) := ax_static (as := [w1, w2, w3]) (st := [v0, v1]) dX9_isPoint_19 kc_7_56 rfl rfl (Nat.le_of_ble_eq_true rfl)
theorem sX9_isPoint_19_3 : ab_X rom K cX9_isPoint 7 2 19 ls [w3, w2, w1, v0, v1, v2] hp = (K 159 [w1, w2, w3] hp).bind (fun o => ab_X rom K cX9_isPoint 7 2 22 ls (o.1.toList ++ [v0, v1, v2]) o.2) := ax_static (as := [w1, w2, w3]) (st := [v0, v1, v2]) dX9_isPoint_19 kc_7_56 rfl rfl (Nat.le_of_ble_eq_true rfl)
theorem dX9_isPoint_22 : decode cX9_isPoint 22 = .ok (.ifCond .eq 7, 3) := by decide +kernel
theorem sX9_isPoint_22 : ab_X rom K cX9_isPoint 7 2 22 ls (.int x :: st) hp = if x = 0 then ab_X rom K cX9_isPoint 7 2 29 ls st hp else ab_X rom K cX9_isPoint 7 2 25 ls st hp := ax_if_eq dX9_isPoint_22 (by decide) rfl
theorem dX9_isPoint_25 : decode cX9_isPoint 25 = .ok (.iconst 1, 1) := by decide +kernel
theorem sX9_isPoint_25 : ab_X rom K cX9_isPoint 7 2 25 ls st hp = ab_X rom K cX9_isPoint 7 2 26 ls (.int 1 :: st) hp := ax_iconst dX9_isPoint_25 (by decide) rfl
theorem dX9_isPoint_26 : decode cX9_isPoint 26 = .ok (.goto 4, 3) := by decide +kernel
theorem sX9_isPoint_26 : ab_X rom K cX9_isPoint 7 2 26 ls st hp = ab_X rom K cX9_isPoint 7 2 30 ls st hp := ax_goto dX9_isPoint_26 (by decide)
theorem dX9_isPoint_29 : decode cX9_isPoint 29 = .ok (.iconst 0, 1) := by decide +kernel
theorem sX9_isPoint_29 : ab_X rom K cX9_isPoint 7 2 29 ls st hp = ab_X rom K cX9_isPoint 7 2 30 ls (.int 0 :: st) hp := ax_iconst dX9_isPoint_29 (by decide) rfl
theorem dX9_isPoint_30 : decode cX9_isPoint 30 = .ok (.ireturn, 1) := by decide +kernel
theorem sX9_isPoint_30 : ab_X rom K cX9_isPoint 7 2 30 ls [.int x] hp = if x = 0 ∨ x = 1 then some (some (.int x), hp) else none := ay_zret dX9_isPoint_30 rfl
theorem tX9_isSign : ab_mT[174]? = some (yX9_isSign, cX9_isSign, 2, 2, 7) := by decide +kernel
theorem mX9_isSign {d : Nat} {a0 : Nat} {x0 : Int32} : ab_M rom (d + 1) 174 [.ref a0, .int x0] hp = ab_X rom (ab_M rom d) cX9_isSign 7 2 0 [.ref a0, .int x0] [] hp := ab_M_eq tX9_isSign (Nat.le_of_ble_eq_true rfl)
theorem dX9_isSign_0 : decode cX9_isSign 0 = .ok (.aload_n 0, 1) := by decide +kernel
theorem sX9_isSign_0 : ab_X rom K cX9_isSign 7 2 0 (.ref a :: ls) st hp = ab_X rom K cX9_isSign 7 2 1 (.ref a :: ls) (.ref a :: st) hp := ax_aload_n dX9_isSign_0 rfl rfl
theorem dX9_isSign_1 : decode cX9_isSign 1 = .ok (.getfield 120, 3) := by decide +kernel
theorem sX9_isSign_1 : ab_X rom K cX9_isSign 7 2 1 ls (.ref a :: st) hp = (ab_fld hp a 7 12).bind (fun v => ab_X rom K cX9_isSign 7 2 4 ls (v :: st) hp) := ax_getfield dX9_isSign_1 kf_7_120 rfl
theorem dX9_isSign_4 : decode cX9_isSign 4 = .ok (.ifCond .ne 28, 3) := by decide +kernel
theorem sX9_isSign_4 : ab_X rom K cX9_isSign 7 2 4 ls (.int x :: st) hp = if x = 0 then ab_X rom K cX9_isSign 7 2 7 ls st hp else ab_X rom K cX9_isSign 7 2 32 ls st hp := ax_if_ne dX9_isSign_4 (by decide) rfl
theorem dX9_isSign_7 : decode cX9_isSign 7 = .ok (.aload_n 0, 1) := by decide +kernel
theorem sX9_isSign_7 : ab_X rom K cX9_isSign 7 2 7 (.ref a :: ls) st hp = ab_X rom K cX9_isSign 7 2 8 (.ref a :: ls) (.ref a :: st) hp := ax_aload_n dX9_isSign_7 rfl rfl
theorem dX9_isSign_8 : decode cX9_isSign 8 = .ok (.getfield 112, 3) := by decide +kernel
theorem sX9_isSign_8 : ab_X rom K cX9_isSign 7 2 8 ls (.ref a :: st) hp = (ab_fld hp a 7 10).bind (fun v => ab_X rom K cX9_isSign 7 2 11 ls (v :: st) hp) := ax_getfield dX9_isSign_8 kf_7_112 rfl
theorem dX9_isSign_11 : decode cX9_isSign 11 = .ok (.iconst 3, 1) := by decide +kernel
theorem sX9_isSign_11 : ab_X rom K cX9_isSign 7 2 11 ls st hp = ab_X rom K cX9_isSign 7 2 12 ls (.int 3 :: st) hp := ax_iconst dX9_isSign_11 (by decide) rfl
theorem dX9_isSign_12 : decode cX9_isSign 12 = .ok (.if_icmp .ne 20, 3) := by decide +kernel
theorem sX9_isSign_12 : ab_X rom K cX9_isSign 7 2 12 ls (.int y :: .int x :: st) hp = if x = y then ab_X rom K cX9_isSign 7 2 15 ls st hp else ab_X rom K cX9_isSign 7 2 32 ls st hp := ax_icmp_ne dX9_isSign_12 (by decide) rfl
theorem dX9_isSign_15 : decode cX9_isSign 15 = .ok (.aload_n 0, 1) := by decide +kernel
theorem sX9_isSign_15 : ab_X rom K cX9_isSign 7 2 15 (.ref a :: ls) st hp = ab_X rom K cX9_isSign 7 2 16 (.ref a :: ls) (.ref a :: st) hp := ax_aload_n dX9_isSign_15 rfl rfl
theorem dX9_isSign_16 : decode cX9_isSign 16 = .ok (.getfield 19, 3) := by decide +kernel
theorem sX9_isSign_16 : ab_X rom K cX9_isSign 7 2 16 ls (.ref a :: st) hp = (ab_fld hp a 7 4).bind (fun v => ab_X rom K cX9_isSign 7 2 19 ls (v :: st) hp) := ax_getfield dX9_isSign_16 kf_7_19 rfl
theorem dX9_isSign_19 : decode cX9_isSign 19 = .ok (.aload_n 0, 1) := by decide +kernel
theorem sX9_isSign_19 : ab_X rom K cX9_isSign 7 2 19 (.ref a :: ls) st hp = ab_X rom K cX9_isSign 7 2 20 (.ref a :: ls) (.ref a :: st) hp := ax_aload_n dX9_isSign_19 rfl rfl
theorem dX9_isSign_20 : decode cX9_isSign 20 = .ok (.getfield 106, 3) := by decide +kernel
theorem sX9_isSign_20 : ab_X rom K cX9_isSign 7 2 20 ls (.ref a :: st) hp = (ab_fld hp a 7 9).bind (fun v => ab_X rom K cX9_isSign 7 2 23 ls (v :: st) hp) := ax_getfield dX9_isSign_20 kf_7_106 rfl
theorem dX9_isSign_23 : decode cX9_isSign 23 = .ok (.iaload, 1) := by decide +kernel
theorem sX9_isSign_23 : ab_X rom K cX9_isSign 7 2 23 ls (.int x :: .ref a :: st) hp = (ab_ard rom 0 hp a x).bind (fun v => ab_X rom K cX9_isSign 7 2 24 ls (.int v :: st) hp) := ax_iaload dX9_isSign_23 rfl
theorem dX9_isSign_24 : decode cX9_isSign 24 = .ok (.iload_n 1, 1) := by decide +kernel
theorem sX9_isSign_24 : ab_X rom K cX9_isSign 7 2 24 (v0 :: .int x :: ls) st hp = ab_X rom K cX9_isSign 7 2 25 (v0 :: .int x :: ls) (.int x :: st) hp := ax_iload_n dX9_isSign_24 rfl rfl
theorem dX9_isSign_25 : decode cX9_isSign 25 = .ok (.if_icmp .ne 7, 3) := by decide +kernel
theorem sX9_isSign_25 : ab_X rom K cX9_isSign 7 2 25 ls (.int y :: .int x :: st) hp = if x = y then ab_X rom K cX9_isSign 7 2 28 ls st hp else ab_X rom K cX9_isSign 7 2 32 ls st hp := ax_icmp_ne dX9_isSign_25 (by decide) rfl
theorem dX9_isSign_28 : decode cX9_isSign 28 = .ok (.iconst 1, 1) := by decide +kernel
theorem sX9_isSign_28 : ab_X rom K cX9_isSign 7 2 28 ls st hp = ab_X rom K cX9_isSign 7 2 29 ls (.int 1 :: st) hp := ax_iconst dX9_isSign_28 (by decide) rfl
theorem dX9_isSign_29 : decode cX9_isSign 29 = .ok (.goto 4, 3) := by decide +kernel
theorem sX9_isSign_29 : ab_X rom K cX9_isSign 7 2 29 ls st hp = ab_X rom K cX9_isSign 7 2 33 ls st hp := ax_goto dX9_isSign_29 (by decide)
theorem dX9_isSign_32 : decode cX9_isSign 32 = .ok (.iconst 0, 1) := by decide +kernel
theorem sX9_isSign_32 : ab_X rom K cX9_isSign 7 2 32 ls st hp = ab_X rom K cX9_isSign 7 2 33 ls (.int 0 :: st) hp := ax_iconst dX9_isSign_32 (by decide) rfl
theorem dX9_isSign_33 : decode cX9_isSign 33 = .ok (.ireturn, 1) := by decide +kernel
theorem sX9_isSign_33 : ab_X rom K cX9_isSign 7 2 33 ls [.int x] hp = if x = 0 ∨ x = 1 then some (some (.int x), hp) else none := ay_zret dX9_isSign_33 rfl
theorem tX9_isSlot : ab_mT[175]? = some (yX9_isSlot, cX9_isSlot, 1, 2, 7) := by decide +kernel
theorem mX9_isSlot {d : Nat} {x0 : Int32} : ab_M rom (d + 1) 175 [.int x0] hp = ab_X rom (ab_M rom d) cX9_isSlot 7 2 0 [.int x0] [] hp := ab_M_eq tX9_isSlot (Nat.le_of_ble_eq_true rfl)
theorem dX9_isSlot_0 : decode cX9_isSlot 0 = .ok (.iload_n 0, 1) := by decide +kernel
theorem sX9_isSlot_0 : ab_X rom K cX9_isSlot 7 2 0 (.int x :: ls) st hp = ab_X rom K cX9_isSlot 7 2 1 (.int x :: ls) (.int x :: st) hp := ax_iload_n dX9_isSlot_0 rfl rfl
theorem dX9_isSlot_1 : decode cX9_isSlot 1 = .ok (.i2l, 1) := by decide +kernel
theorem sX9_isSlot_1 : ab_X rom K cX9_isSlot 7 2 1 ls (.int x :: st) hp = ab_X rom K cX9_isSlot 7 2 2 ls (.long x.toInt64 :: st) hp := ax_i2l dX9_isSlot_1 rfl
theorem dX9_isSlot_2 : decode cX9_isSlot 2 = .ok (.lconst 0, 1) := by decide +kernel
theorem sX9_isSlot_2 : ab_X rom K cX9_isSlot 7 2 2 ls st hp = ab_X rom K cX9_isSlot 7 2 3 ls (.long 0 :: st) hp := ax_lconst dX9_isSlot_2 (by decide) rfl
theorem dX9_isSlot_3 : decode cX9_isSlot 3 = .ok (.ldc2_w 54, 3) := by decide +kernel
theorem sX9_isSlot_3 : ab_X rom K cX9_isSlot 7 2 3 ls st hp = ab_X rom K cX9_isSlot 7 2 6 ls (.long 2 :: st) hp := ax_ldc2 dX9_isSlot_3 kl_7_54 rfl
theorem dX9_isSlot_6 : decode cX9_isSlot 6 = .ok (.invokestatic 56, 3) := by decide +kernel
theorem sX9_isSlot_6_0 : ab_X rom K cX9_isSlot 7 2 6 ls [w3, w2, w1] hp = (K 159 [w1, w2, w3] hp).bind (fun o => ab_X rom K cX9_isSlot 7 2 9 ls (o.1.toList ++ []) o.2) := ax_static (as := [w1, w2, w3]) (st := []) dX9_isSlot_6 kc_7_56 rfl rfl (Nat.le_of_ble_eq_true rfl)
theorem sX9_isSlot_6_1 : ab_X rom K cX9_isSlot 7 2 6 ls [w3, w2, w1, v0] hp = (K 159 [w1, w2, w3] hp).bind (fun o => ab_X rom K cX9_isSlot 7 2 9 ls (o.1.toList ++ [v0]) o.2) := ax_static (as := [w1, w2, w3]) (st := [v0]) dX9_isSlot_6 kc_7_56 rfl rfl (Nat.le_of_ble_eq_true rfl)
theorem sX9_isSlot_6_2 : ab_X rom K cX9_isSlot 7 2 6 ls [w3, w2, w1, v0, v1] hp = (K 159 [w1, w2, w3] hp).bind (fun o => ab_X rom K cX9_isSlot 7 2 9 ls (o.1.toList ++ [v0, v1]) o.2) := ax_static (as := [w1, w2, w3]) (st := [v0, v1]) dX9_isSlot_6 kc_7_56 rfl rfl (Nat.le_of_ble_eq_true rfl)
theorem sX9_isSlot_6_3 : ab_X rom K cX9_isSlot 7 2 6 ls [w3, w2, w1, v0, v1, v2] hp = (K 159 [w1, w2, w3] hp).bind (fun o => ab_X rom K cX9_isSlot 7 2 9 ls (o.1.toList ++ [v0, v1, v2]) o.2) := ax_static (as := [w1, w2, w3]) (st := [v0, v1, v2]) dX9_isSlot_6 kc_7_56 rfl rfl (Nat.le_of_ble_eq_true rfl)
theorem dX9_isSlot_9 : decode cX9_isSlot 9 = .ok (.ireturn, 1) := by decide +kernel
theorem sX9_isSlot_9 : ab_X rom K cX9_isSlot 7 2 9 ls [.int x] hp = if x = 0 ∨ x = 1 then some (some (.int x), hp) else none := ay_zret dX9_isSlot_9 rfl
theorem tX9_isTree : ab_mT[176]? = some (yX9_isTree, cX9_isTree, 2, 2, 7) := by decide +kernel
theorem mX9_isTree {d : Nat} {a0 : Nat} {x0 : Int32} : ab_M rom (d + 1) 176 [.ref a0, .int x0] hp = ab_X rom (ab_M rom d) cX9_isTree 7 2 0 [.ref a0, .int x0] [] hp := ab_M_eq tX9_isTree (Nat.le_of_ble_eq_true rfl)
theorem dX9_isTree_0 : decode cX9_isTree 0 = .ok (.aload_n 0, 1) := by decide +kernel
theorem sX9_isTree_0 : ab_X rom K cX9_isTree 7 2 0 (.ref a :: ls) st hp = ab_X rom K cX9_isTree 7 2 1 (.ref a :: ls) (.ref a :: st) hp := ax_aload_n dX9_isTree_0 rfl rfl
theorem dX9_isTree_1 : decode cX9_isTree 1 = .ok (.iload_n 1, 1) := by decide +kernel
theorem sX9_isTree_1 : ab_X rom K cX9_isTree 7 2 1 (v0 :: .int x :: ls) st hp = ab_X rom K cX9_isTree 7 2 2 (v0 :: .int x :: ls) (.int x :: st) hp := ax_iload_n dX9_isTree_1 rfl rfl
theorem dX9_isTree_2 : decode cX9_isTree 2 = .ok (.invokevirtual 194, 3) := by decide +kernel
theorem sX9_isTree_2_0 : ab_X rom K cX9_isTree 7 2 2 ls [w1, .ref a] hp = if ab_iso hp a 7 = true then (K 206 (.ref a :: [w1]) hp).bind (fun o => ab_X rom K cX9_isTree 7 2 5 ls (o.1.toList ++ []) o.2) else none := ay_virtual (as := [w1]) (st := []) dX9_isTree_2 kc_7_194 rfl rfl (Nat.le_of_ble_eq_true rfl)
theorem sX9_isTree_2_1 : ab_X rom K cX9_isTree 7 2 2 ls [w1, .ref a, v0] hp = if ab_iso hp a 7 = true then (K 206 (.ref a :: [w1]) hp).bind (fun o => ab_X rom K cX9_isTree 7 2 5 ls (o.1.toList ++ [v0]) o.2) else none := ay_virtual (as := [w1]) (st := [v0]) dX9_isTree_2 kc_7_194 rfl rfl (Nat.le_of_ble_eq_true rfl)
theorem sX9_isTree_2_2 : ab_X rom K cX9_isTree 7 2 2 ls [w1, .ref a, v0, v1] hp = if ab_iso hp a 7 = true then (K 206 (.ref a :: [w1]) hp).bind (fun o => ab_X rom K cX9_isTree 7 2 5 ls (o.1.toList ++ [v0, v1]) o.2) else none := ay_virtual (as := [w1]) (st := [v0, v1]) dX9_isTree_2 kc_7_194 rfl rfl (Nat.le_of_ble_eq_true rfl)
theorem sX9_isTree_2_3 : ab_X rom K cX9_isTree 7 2 2 ls [w1, .ref a, v0, v1, v2] hp = if ab_iso hp a 7 = true then (K 206 (.ref a :: [w1]) hp).bind (fun o => ab_X rom K cX9_isTree 7 2 5 ls (o.1.toList ++ [v0, v1, v2]) o.2) else none := ay_virtual (as := [w1]) (st := [v0, v1, v2]) dX9_isTree_2 kc_7_194 rfl rfl (Nat.le_of_ble_eq_true rfl)
theorem dX9_isTree_5 : decode cX9_isTree 5 = .ok (.iconst 1, 1) := by decide +kernel
theorem sX9_isTree_5 : ab_X rom K cX9_isTree 7 2 5 ls st hp = ab_X rom K cX9_isTree 7 2 6 ls (.int 1 :: st) hp := ax_iconst dX9_isTree_5 (by decide) rfl
theorem dX9_isTree_6 : decode cX9_isTree 6 = .ok (.if_icmp .ne 22, 3) := by decide +kernel
theorem sX9_isTree_6 : ab_X rom K cX9_isTree 7 2 6 ls (.int y :: .int x :: st) hp = if x = y then ab_X rom K cX9_isTree 7 2 9 ls st hp else ab_X rom K cX9_isTree 7 2 28 ls st hp := ax_icmp_ne dX9_isTree_6 (by decide) rfl
theorem dX9_isTree_9 : decode cX9_isTree 9 = .ok (.aload_n 0, 1) := by decide +kernel
theorem sX9_isTree_9 : ab_X rom K cX9_isTree 7 2 9 (.ref a :: ls) st hp = ab_X rom K cX9_isTree 7 2 10 (.ref a :: ls) (.ref a :: st) hp := ax_aload_n dX9_isTree_9 rfl rfl
theorem dX9_isTree_10 : decode cX9_isTree 10 = .ok (.iload_n 1, 1) := by decide +kernel
theorem sX9_isTree_10 : ab_X rom K cX9_isTree 7 2 10 (v0 :: .int x :: ls) st hp = ab_X rom K cX9_isTree 7 2 11 (v0 :: .int x :: ls) (.int x :: st) hp := ax_iload_n dX9_isTree_10 rfl rfl
theorem dX9_isTree_11 : decode cX9_isTree 11 = .ok (.invokevirtual 150, 3) := by decide +kernel
theorem sX9_isTree_11_0 : ab_X rom K cX9_isTree 7 2 11 ls [w1, .ref a] hp = if ab_iso hp a 7 = true then (K 188 (.ref a :: [w1]) hp).bind (fun o => ab_X rom K cX9_isTree 7 2 14 ls (o.1.toList ++ []) o.2) else none := ay_virtual (as := [w1]) (st := []) dX9_isTree_11 kc_7_150 rfl rfl (Nat.le_of_ble_eq_true rfl)
theorem sX9_isTree_11_1 : ab_X rom K cX9_isTree 7 2 11 ls [w1, .ref a, v0] hp = if ab_iso hp a 7 = true then (K 188 (.ref a :: [w1]) hp).bind (fun o => ab_X rom K cX9_isTree 7 2 14 ls (o.1.toList ++ [v0]) o.2) else none := ay_virtual (as := [w1]) (st := [v0]) dX9_isTree_11 kc_7_150 rfl rfl (Nat.le_of_ble_eq_true rfl)
theorem sX9_isTree_11_2 : ab_X rom K cX9_isTree 7 2 11 ls [w1, .ref a, v0, v1] hp = if ab_iso hp a 7 = true then (K 188 (.ref a :: [w1]) hp).bind (fun o => ab_X rom K cX9_isTree 7 2 14 ls (o.1.toList ++ [v0, v1]) o.2) else none := ay_virtual (as := [w1]) (st := [v0, v1]) dX9_isTree_11 kc_7_150 rfl rfl (Nat.le_of_ble_eq_true rfl)
theorem sX9_isTree_11_3 : ab_X rom K cX9_isTree 7 2 11 ls [w1, .ref a, v0, v1, v2] hp = if ab_iso hp a 7 = true then (K 188 (.ref a :: [w1]) hp).bind (fun o => ab_X rom K cX9_isTree 7 2 14 ls (o.1.toList ++ [v0, v1, v2]) o.2) else none := ay_virtual (as := [w1]) (st := [v0, v1, v2]) dX9_isTree_11 kc_7_150 rfl rfl (Nat.le_of_ble_eq_true rfl)
theorem dX9_isTree_14 : decode cX9_isTree 14 = .ok (.aload_n 0, 1) := by decide +kernel
theorem sX9_isTree_14 : ab_X rom K cX9_isTree 7 2 14 (.ref a :: ls) st hp = ab_X rom K cX9_isTree 7 2 15 (.ref a :: ls) (.ref a :: st) hp := ax_aload_n dX9_isTree_14 rfl rfl
theorem dX9_isTree_15 : decode cX9_isTree 15 = .ok (.iload_n 1, 1) := by decide +kernel
theorem sX9_isTree_15 : ab_X rom K cX9_isTree 7 2 15 (v0 :: .int x :: ls) st hp = ab_X rom K cX9_isTree 7 2 16 (v0 :: .int x :: ls) (.int x :: st) hp := ax_iload_n dX9_isTree_15 rfl rfl
theorem dX9_isTree_16 : decode cX9_isTree 16 = .ok (.invokevirtual 64, 3) := by decide +kernel
theorem sX9_isTree_16_0 : ab_X rom K cX9_isTree 7 2 16 ls [w1, .ref a] hp = if ab_iso hp a 7 = true then (K 209 (.ref a :: [w1]) hp).bind (fun o => ab_X rom K cX9_isTree 7 2 19 ls (o.1.toList ++ []) o.2) else none := ay_virtual (as := [w1]) (st := []) dX9_isTree_16 kc_7_64 rfl rfl (Nat.le_of_ble_eq_true rfl)
theorem sX9_isTree_16_1 : ab_X rom K cX9_isTree 7 2 16 ls [w1, .ref a, v0] hp = if ab_iso hp a 7 = true then (K 209 (.ref a :: [w1]) hp).bind (fun o => ab_X rom K cX9_isTree 7 2 19 ls (o.1.toList ++ [v0]) o.2) else none := ay_virtual (as := [w1]) (st := [v0]) dX9_isTree_16 kc_7_64 rfl rfl (Nat.le_of_ble_eq_true rfl)
theorem sX9_isTree_16_2 : ab_X rom K cX9_isTree 7 2 16 ls [w1, .ref a, v0, v1] hp = if ab_iso hp a 7 = true then (K 209 (.ref a :: [w1]) hp).bind (fun o => ab_X rom K cX9_isTree 7 2 19 ls (o.1.toList ++ [v0, v1]) o.2) else none := ay_virtual (as := [w1]) (st := [v0, v1]) dX9_isTree_16 kc_7_64 rfl rfl (Nat.le_of_ble_eq_true rfl)
theorem sX9_isTree_16_3 : ab_X rom K cX9_isTree 7 2 16 ls [w1, .ref a, v0, v1, v2] hp = if ab_iso hp a 7 = true then (K 209 (.ref a :: [w1]) hp).bind (fun o => ab_X rom K cX9_isTree 7 2 19 ls (o.1.toList ++ [v0, v1, v2]) o.2) else none := ay_virtual (as := [w1]) (st := [v0, v1, v2]) dX9_isTree_16 kc_7_64 rfl rfl (Nat.le_of_ble_eq_true rfl)
theorem dX9_isTree_19 : decode cX9_isTree 19 = .ok (.iconst 1, 1) := by decide +kernel
theorem sX9_isTree_19 : ab_X rom K cX9_isTree 7 2 19 ls st hp = ab_X rom K cX9_isTree 7 2 20 ls (.int 1 :: st) hp := ax_iconst dX9_isTree_19 (by decide) rfl
theorem dX9_isTree_20 : decode cX9_isTree 20 = .ok (.isub, 1) := by decide +kernel
theorem sX9_isTree_20 : ab_X rom K cX9_isTree 7 2 20 ls (.int y :: .int x :: st) hp = ab_X rom K cX9_isTree 7 2 21 ls (.int (x - y) :: st) hp := ax_isub dX9_isTree_20 rfl
theorem dX9_isTree_21 : decode cX9_isTree 21 = .ok (.if_icmp .ne 7, 3) := by decide +kernel
theorem sX9_isTree_21 : ab_X rom K cX9_isTree 7 2 21 ls (.int y :: .int x :: st) hp = if x = y then ab_X rom K cX9_isTree 7 2 24 ls st hp else ab_X rom K cX9_isTree 7 2 28 ls st hp := ax_icmp_ne dX9_isTree_21 (by decide) rfl
theorem dX9_isTree_24 : decode cX9_isTree 24 = .ok (.iconst 1, 1) := by decide +kernel
theorem sX9_isTree_24 : ab_X rom K cX9_isTree 7 2 24 ls st hp = ab_X rom K cX9_isTree 7 2 25 ls (.int 1 :: st) hp := ax_iconst dX9_isTree_24 (by decide) rfl
theorem dX9_isTree_25 : decode cX9_isTree 25 = .ok (.goto 4, 3) := by decide +kernel
theorem sX9_isTree_25 : ab_X rom K cX9_isTree 7 2 25 ls st hp = ab_X rom K cX9_isTree 7 2 29 ls st hp := ax_goto dX9_isTree_25 (by decide)
theorem dX9_isTree_28 : decode cX9_isTree 28 = .ok (.iconst 0, 1) := by decide +kernel
theorem sX9_isTree_28 : ab_X rom K cX9_isTree 7 2 28 ls st hp = ab_X rom K cX9_isTree 7 2 29 ls (.int 0 :: st) hp := ax_iconst dX9_isTree_28 (by decide) rfl
theorem dX9_isTree_29 : decode cX9_isTree 29 = .ok (.ireturn, 1) := by decide +kernel
theorem sX9_isTree_29 : ab_X rom K cX9_isTree 7 2 29 ls [.int x] hp = if x = 0 ∨ x = 1 then some (some (.int x), hp) else none := ay_zret dX9_isTree_29 rfl
theorem tX9_isTwoSided : ab_mT[177]? = some (yX9_isTwoSided, cX9_isTwoSided, 5, 2, 7) := by decide +kernel
theorem mX9_isTwoSided {d : Nat} {a0 : Nat} {x0 : Int32} : ab_M rom (d + 1) 177 [.ref a0, .int x0] hp = ab_X rom (ab_M rom d) cX9_isTwoSided 7 2 0 [.ref a0, .int x0, .null, .null, .null] [] hp := ab_M_eq tX9_isTwoSided (Nat.le_of_ble_eq_true rfl)
theorem dX9_isTwoSided_0 : decode cX9_isTwoSided 0 = .ok (.iconst 0, 1) := by decide +kernel
theorem sX9_isTwoSided_0 : ab_X rom K cX9_isTwoSided 7 2 0 ls st hp = ab_X rom K cX9_isTwoSided 7 2 1 ls (.int 0 :: st) hp := ax_iconst dX9_isTwoSided_0 (by decide) rfl
theorem dX9_isTwoSided_1 : decode cX9_isTwoSided 1 = .ok (.istore_n 2, 1) := by decide +kernel
theorem sX9_isTwoSided_1i : ab_X rom K cX9_isTwoSided 7 2 1 (v0 :: .int y :: v2 :: ls) (.int x :: st) hp = ab_X rom K cX9_isTwoSided 7 2 2 (v0 :: .int y :: .int x :: ls) st hp := ax_istore_n dX9_isTwoSided_1 (ax_lt (v := v2) rfl) (ab_nl_c1 (j := 1) (v := .int y) rfl (ab_c1_int _)) rfl rfl
theorem sX9_isTwoSided_1r : ab_X rom K cX9_isTwoSided 7 2 1 (v0 :: .ref a2 :: v2 :: ls) (.int x :: st) hp = ab_X rom K cX9_isTwoSided 7 2 2 (v0 :: .ref a2 :: .int x :: ls) st hp := ax_istore_n dX9_isTwoSided_1 (ax_lt (v := v2) rfl) (ab_nl_c1 (j := 1) (v := .ref a2) rfl (ab_c1_ref _)) rfl rfl
theorem sX9_isTwoSided_1n : ab_X rom K cX9_isTwoSided 7 2 1 (v0 :: .null :: v2 :: ls) (.int x :: st) hp = ab_X rom K cX9_isTwoSided 7 2 2 (v0 :: .null :: .int x :: ls) st hp := ax_istore_n dX9_isTwoSided_1 (ax_lt (v := v2) rfl) (ab_nl_c1 (j := 1) (v := .null) rfl ab_c1_null) rfl rfl
theorem dX9_isTwoSided_2 : decode cX9_isTwoSided 2 = .ok (.iload_n 2, 1) := by decide +kernel
theorem sX9_isTwoSided_2 : ab_X rom K cX9_isTwoSided 7 2 2 (v0 :: v1 :: .int x :: ls) st hp = ab_X rom K cX9_isTwoSided 7 2 3 (v0 :: v1 :: .int x :: ls) (.int x :: st) hp := ax_iload_n dX9_isTwoSided_2 rfl rfl
theorem dX9_isTwoSided_3 : decode cX9_isTwoSided 3 = .ok (.iconst 1, 1) := by decide +kernel
theorem sX9_isTwoSided_3 : ab_X rom K cX9_isTwoSided 7 2 3 ls st hp = ab_X rom K cX9_isTwoSided 7 2 4 ls (.int 1 :: st) hp := ax_iconst dX9_isTwoSided_3 (by decide) rfl
theorem dX9_isTwoSided_4 : decode cX9_isTwoSided 4 = .ok (.aload_n 0, 1) := by decide +kernel
theorem sX9_isTwoSided_4 : ab_X rom K cX9_isTwoSided 7 2 4 (.ref a :: ls) st hp = ab_X rom K cX9_isTwoSided 7 2 5 (.ref a :: ls) (.ref a :: st) hp := ax_aload_n dX9_isTwoSided_4 rfl rfl
theorem dX9_isTwoSided_5 : decode cX9_isTwoSided 5 = .ok (.iload_n 1, 1) := by decide +kernel
theorem sX9_isTwoSided_5 : ab_X rom K cX9_isTwoSided 7 2 5 (v0 :: .int x :: ls) st hp = ab_X rom K cX9_isTwoSided 7 2 6 (v0 :: .int x :: ls) (.int x :: st) hp := ax_iload_n dX9_isTwoSided_5 rfl rfl
theorem dX9_isTwoSided_6 : decode cX9_isTwoSided 6 = .ok (.invokevirtual 64, 3) := by decide +kernel
theorem sX9_isTwoSided_6_0 : ab_X rom K cX9_isTwoSided 7 2 6 ls [w1, .ref a] hp = if ab_iso hp a 7 = true then (K 209 (.ref a :: [w1]) hp).bind (fun o => ab_X rom K cX9_isTwoSided 7 2 9 ls (o.1.toList ++ []) o.2) else none := ay_virtual (as := [w1]) (st := []) dX9_isTwoSided_6 kc_7_64 rfl rfl (Nat.le_of_ble_eq_true rfl)
theorem sX9_isTwoSided_6_1 : ab_X rom K cX9_isTwoSided 7 2 6 ls [w1, .ref a, v0] hp = if ab_iso hp a 7 = true then (K 209 (.ref a :: [w1]) hp).bind (fun o => ab_X rom K cX9_isTwoSided 7 2 9 ls (o.1.toList ++ [v0]) o.2) else none := ay_virtual (as := [w1]) (st := [v0]) dX9_isTwoSided_6 kc_7_64 rfl rfl (Nat.le_of_ble_eq_true rfl)
theorem sX9_isTwoSided_6_2 : ab_X rom K cX9_isTwoSided 7 2 6 ls [w1, .ref a, v0, v1] hp = if ab_iso hp a 7 = true then (K 209 (.ref a :: [w1]) hp).bind (fun o => ab_X rom K cX9_isTwoSided 7 2 9 ls (o.1.toList ++ [v0, v1]) o.2) else none := ay_virtual (as := [w1]) (st := [v0, v1]) dX9_isTwoSided_6 kc_7_64 rfl rfl (Nat.le_of_ble_eq_true rfl)
theorem sX9_isTwoSided_6_3 : ab_X rom K cX9_isTwoSided 7 2 6 ls [w1, .ref a, v0, v1, v2] hp = if ab_iso hp a 7 = true then (K 209 (.ref a :: [w1]) hp).bind (fun o => ab_X rom K cX9_isTwoSided 7 2 9 ls (o.1.toList ++ [v0, v1, v2]) o.2) else none := ay_virtual (as := [w1]) (st := [v0, v1, v2]) dX9_isTwoSided_6 kc_7_64 rfl rfl (Nat.le_of_ble_eq_true rfl)
theorem dX9_isTwoSided_9 : decode cX9_isTwoSided 9 = .ok (.ishl, 1) := by decide +kernel
theorem sX9_isTwoSided_9 : ab_X rom K cX9_isTwoSided 7 2 9 ls (.int y :: .int x :: st) hp = ab_X rom K cX9_isTwoSided 7 2 10 ls (.int (x <<< (y &&& 31)) :: st) hp := ax_ishl dX9_isTwoSided_9 rfl
theorem dX9_isTwoSided_10 : decode cX9_isTwoSided 10 = .ok (.if_icmp .ge 89, 3) := by decide +kernel
theorem sX9_isTwoSided_10 : ab_X rom K cX9_isTwoSided 7 2 10 ls (.int y :: .int x :: st) hp = if x < y then ab_X rom K cX9_isTwoSided 7 2 13 ls st hp else ab_X rom K cX9_isTwoSided 7 2 99 ls st hp := ax_icmp_ge dX9_isTwoSided_10 (by decide) rfl
theorem dX9_isTwoSided_13 : decode cX9_isTwoSided 13 = .ok (.iconst 1, 1) := by decide +kernel
theorem sX9_isTwoSided_13 : ab_X rom K cX9_isTwoSided 7 2 13 ls st hp = ab_X rom K cX9_isTwoSided 7 2 14 ls (.int 1 :: st) hp := ax_iconst dX9_isTwoSided_13 (by decide) rfl
theorem dX9_isTwoSided_14 : decode cX9_isTwoSided 14 = .ok (.istore_n 3, 1) := by decide +kernel
theorem sX9_isTwoSided_14i : ab_X rom K cX9_isTwoSided 7 2 14 (v0 :: v1 :: .int y :: v3 :: ls) (.int x :: st) hp = ab_X rom K cX9_isTwoSided 7 2 15 (v0 :: v1 :: .int y :: .int x :: ls) st hp := ax_istore_n dX9_isTwoSided_14 (ax_lt (v := v3) rfl) (ab_nl_c1 (j := 2) (v := .int y) rfl (ab_c1_int _)) rfl rfl
theorem sX9_isTwoSided_14r : ab_X rom K cX9_isTwoSided 7 2 14 (v0 :: v1 :: .ref a2 :: v3 :: ls) (.int x :: st) hp = ab_X rom K cX9_isTwoSided 7 2 15 (v0 :: v1 :: .ref a2 :: .int x :: ls) st hp := ax_istore_n dX9_isTwoSided_14 (ax_lt (v := v3) rfl) (ab_nl_c1 (j := 2) (v := .ref a2) rfl (ab_c1_ref _)) rfl rfl
theorem sX9_isTwoSided_14n : ab_X rom K cX9_isTwoSided 7 2 14 (v0 :: v1 :: .null :: v3 :: ls) (.int x :: st) hp = ab_X rom K cX9_isTwoSided 7 2 15 (v0 :: v1 :: .null :: .int x :: ls) st hp := ax_istore_n dX9_isTwoSided_14 (ax_lt (v := v3) rfl) (ab_nl_c1 (j := 2) (v := .null) rfl ab_c1_null) rfl rfl
theorem dX9_isTwoSided_15 : decode cX9_isTwoSided 15 = .ok (.iconst 0, 1) := by decide +kernel
theorem sX9_isTwoSided_15 : ab_X rom K cX9_isTwoSided 7 2 15 ls st hp = ab_X rom K cX9_isTwoSided 7 2 16 ls (.int 0 :: st) hp := ax_iconst dX9_isTwoSided_15 (by decide) rfl
theorem dX9_isTwoSided_16 : decode cX9_isTwoSided 16 = .ok (.istore 4, 2) := by decide +kernel
theorem sX9_isTwoSided_16i : ab_X rom K cX9_isTwoSided 7 2 16 (v0 :: v1 :: v2 :: .int y :: v4 :: ls) (.int x :: st) hp = ab_X rom K cX9_isTwoSided 7 2 18 (v0 :: v1 :: v2 :: .int y :: .int x :: ls) st hp := ax_istore dX9_isTwoSided_16 (ax_lt (v := v4) rfl) (ab_nl_c1 (j := 3) (v := .int y) rfl (ab_c1_int _)) rfl rfl
theorem sX9_isTwoSided_16r : ab_X rom K cX9_isTwoSided 7 2 16 (v0 :: v1 :: v2 :: .ref a2 :: v4 :: ls) (.int x :: st) hp = ab_X rom K cX9_isTwoSided 7 2 18 (v0 :: v1 :: v2 :: .ref a2 :: .int x :: ls) st hp := ax_istore dX9_isTwoSided_16 (ax_lt (v := v4) rfl) (ab_nl_c1 (j := 3) (v := .ref a2) rfl (ab_c1_ref _)) rfl rfl
theorem sX9_isTwoSided_16n : ab_X rom K cX9_isTwoSided 7 2 16 (v0 :: v1 :: v2 :: .null :: v4 :: ls) (.int x :: st) hp = ab_X rom K cX9_isTwoSided 7 2 18 (v0 :: v1 :: v2 :: .null :: .int x :: ls) st hp := ax_istore dX9_isTwoSided_16 (ax_lt (v := v4) rfl) (ab_nl_c1 (j := 3) (v := .null) rfl ab_c1_null) rfl rfl
theorem dX9_isTwoSided_18 : decode cX9_isTwoSided 18 = .ok (.iload 4, 2) := by decide +kernel
theorem sX9_isTwoSided_18 : ab_X rom K cX9_isTwoSided 7 2 18 (v0 :: v1 :: v2 :: v3 :: .int x :: ls) st hp = ab_X rom K cX9_isTwoSided 7 2 20 (v0 :: v1 :: v2 :: v3 :: .int x :: ls) (.int x :: st) hp := ax_iload dX9_isTwoSided_18 rfl rfl
theorem dX9_isTwoSided_20 : decode cX9_isTwoSided 20 = .ok (.aload_n 0, 1) := by decide +kernel
theorem sX9_isTwoSided_20 : ab_X rom K cX9_isTwoSided 7 2 20 (.ref a :: ls) st hp = ab_X rom K cX9_isTwoSided 7 2 21 (.ref a :: ls) (.ref a :: st) hp := ax_aload_n dX9_isTwoSided_20 rfl rfl
theorem dX9_isTwoSided_21 : decode cX9_isTwoSided 21 = .ok (.iload_n 1, 1) := by decide +kernel
theorem sX9_isTwoSided_21 : ab_X rom K cX9_isTwoSided 7 2 21 (v0 :: .int x :: ls) st hp = ab_X rom K cX9_isTwoSided 7 2 22 (v0 :: .int x :: ls) (.int x :: st) hp := ax_iload_n dX9_isTwoSided_21 rfl rfl
theorem dX9_isTwoSided_22 : decode cX9_isTwoSided 22 = .ok (.invokevirtual 64, 3) := by decide +kernel
theorem sX9_isTwoSided_22_0 : ab_X rom K cX9_isTwoSided 7 2 22 ls [w1, .ref a] hp = if ab_iso hp a 7 = true then (K 209 (.ref a :: [w1]) hp).bind (fun o => ab_X rom K cX9_isTwoSided 7 2 25 ls (o.1.toList ++ []) o.2) else none := ay_virtual (as := [w1]) (st := []) dX9_isTwoSided_22 kc_7_64 rfl rfl (Nat.le_of_ble_eq_true rfl)
theorem sX9_isTwoSided_22_1 : ab_X rom K cX9_isTwoSided 7 2 22 ls [w1, .ref a, v0] hp = if ab_iso hp a 7 = true then (K 209 (.ref a :: [w1]) hp).bind (fun o => ab_X rom K cX9_isTwoSided 7 2 25 ls (o.1.toList ++ [v0]) o.2) else none := ay_virtual (as := [w1]) (st := [v0]) dX9_isTwoSided_22 kc_7_64 rfl rfl (Nat.le_of_ble_eq_true rfl)
theorem sX9_isTwoSided_22_2 : ab_X rom K cX9_isTwoSided 7 2 22 ls [w1, .ref a, v0, v1] hp = if ab_iso hp a 7 = true then (K 209 (.ref a :: [w1]) hp).bind (fun o => ab_X rom K cX9_isTwoSided 7 2 25 ls (o.1.toList ++ [v0, v1]) o.2) else none := ay_virtual (as := [w1]) (st := [v0, v1]) dX9_isTwoSided_22 kc_7_64 rfl rfl (Nat.le_of_ble_eq_true rfl)
theorem sX9_isTwoSided_22_3 : ab_X rom K cX9_isTwoSided 7 2 22 ls [w1, .ref a, v0, v1, v2] hp = if ab_iso hp a 7 = true then (K 209 (.ref a :: [w1]) hp).bind (fun o => ab_X rom K cX9_isTwoSided 7 2 25 ls (o.1.toList ++ [v0, v1, v2]) o.2) else none := ay_virtual (as := [w1]) (st := [v0, v1, v2]) dX9_isTwoSided_22 kc_7_64 rfl rfl (Nat.le_of_ble_eq_true rfl)
theorem dX9_isTwoSided_25 : decode cX9_isTwoSided 25 = .ok (.if_icmp .ge 62, 3) := by decide +kernel
theorem sX9_isTwoSided_25 : ab_X rom K cX9_isTwoSided 7 2 25 ls (.int y :: .int x :: st) hp = if x < y then ab_X rom K cX9_isTwoSided 7 2 28 ls st hp else ab_X rom K cX9_isTwoSided 7 2 87 ls st hp := ax_icmp_ge dX9_isTwoSided_25 (by decide) rfl
theorem dX9_isTwoSided_28 : decode cX9_isTwoSided 28 = .ok (.iload_n 3, 1) := by decide +kernel
theorem sX9_isTwoSided_28 : ab_X rom K cX9_isTwoSided 7 2 28 (v0 :: v1 :: v2 :: .int x :: ls) st hp = ab_X rom K cX9_isTwoSided 7 2 29 (v0 :: v1 :: v2 :: .int x :: ls) (.int x :: st) hp := ax_iload_n dX9_isTwoSided_28 rfl rfl
theorem dX9_isTwoSided_29 : decode cX9_isTwoSided 29 = .ok (.ifCond .eq 58, 3) := by decide +kernel
theorem sX9_isTwoSided_29 : ab_X rom K cX9_isTwoSided 7 2 29 ls (.int x :: st) hp = if x = 0 then ab_X rom K cX9_isTwoSided 7 2 87 ls st hp else ab_X rom K cX9_isTwoSided 7 2 32 ls st hp := ax_if_eq dX9_isTwoSided_29 (by decide) rfl
theorem dX9_isTwoSided_32 : decode cX9_isTwoSided 32 = .ok (.iload_n 2, 1) := by decide +kernel
theorem sX9_isTwoSided_32 : ab_X rom K cX9_isTwoSided 7 2 32 (v0 :: v1 :: .int x :: ls) st hp = ab_X rom K cX9_isTwoSided 7 2 33 (v0 :: v1 :: .int x :: ls) (.int x :: st) hp := ax_iload_n dX9_isTwoSided_32 rfl rfl
theorem dX9_isTwoSided_33 : decode cX9_isTwoSided 33 = .ok (.iload 4, 2) := by decide +kernel
theorem sX9_isTwoSided_33 : ab_X rom K cX9_isTwoSided 7 2 33 (v0 :: v1 :: v2 :: v3 :: .int x :: ls) st hp = ab_X rom K cX9_isTwoSided 7 2 35 (v0 :: v1 :: v2 :: v3 :: .int x :: ls) (.int x :: st) hp := ax_iload dX9_isTwoSided_33 rfl rfl
theorem dX9_isTwoSided_35 : decode cX9_isTwoSided 35 = .ok (.invokestatic 77, 3) := by decide +kernel
theorem sX9_isTwoSided_35_0 : ab_X rom K cX9_isTwoSided 7 2 35 ls [w2, w1] hp = (K 156 [w1, w2] hp).bind (fun o => ab_X rom K cX9_isTwoSided 7 2 38 ls (o.1.toList ++ []) o.2) := ax_static (as := [w1, w2]) (st := []) dX9_isTwoSided_35 kc_7_77 rfl rfl (Nat.le_of_ble_eq_true rfl)
theorem sX9_isTwoSided_35_1 : ab_X rom K cX9_isTwoSided 7 2 35 ls [w2, w1, v0] hp = (K 156 [w1, w2] hp).bind (fun o => ab_X rom K cX9_isTwoSided 7 2 38 ls (o.1.toList ++ [v0]) o.2) := ax_static (as := [w1, w2]) (st := [v0]) dX9_isTwoSided_35 kc_7_77 rfl rfl (Nat.le_of_ble_eq_true rfl)
theorem sX9_isTwoSided_35_2 : ab_X rom K cX9_isTwoSided 7 2 35 ls [w2, w1, v0, v1] hp = (K 156 [w1, w2] hp).bind (fun o => ab_X rom K cX9_isTwoSided 7 2 38 ls (o.1.toList ++ [v0, v1]) o.2) := ax_static (as := [w1, w2]) (st := [v0, v1]) dX9_isTwoSided_35 kc_7_77 rfl rfl (Nat.le_of_ble_eq_true rfl)
theorem sX9_isTwoSided_35_3 : ab_X rom K cX9_isTwoSided 7 2 35 ls [w2, w1, v0, v1, v2] hp = (K 156 [w1, w2] hp).bind (fun o => ab_X rom K cX9_isTwoSided 7 2 38 ls (o.1.toList ++ [v0, v1, v2]) o.2) := ax_static (as := [w1, w2]) (st := [v0, v1, v2]) dX9_isTwoSided_35 kc_7_77 rfl rfl (Nat.le_of_ble_eq_true rfl)
theorem dX9_isTwoSided_38 : decode cX9_isTwoSided 38 = .ok (.ifCond .eq 23, 3) := by decide +kernel
theorem sX9_isTwoSided_38 : ab_X rom K cX9_isTwoSided 7 2 38 ls (.int x :: st) hp = if x = 0 then ab_X rom K cX9_isTwoSided 7 2 61 ls st hp else ab_X rom K cX9_isTwoSided 7 2 41 ls st hp := ax_if_eq dX9_isTwoSided_38 (by decide) rfl
theorem dX9_isTwoSided_41 : decode cX9_isTwoSided 41 = .ok (.aload_n 0, 1) := by decide +kernel
theorem sX9_isTwoSided_41 : ab_X rom K cX9_isTwoSided 7 2 41 (.ref a :: ls) st hp = ab_X rom K cX9_isTwoSided 7 2 42 (.ref a :: ls) (.ref a :: st) hp := ax_aload_n dX9_isTwoSided_41 rfl rfl
theorem dX9_isTwoSided_42 : decode cX9_isTwoSided 42 = .ok (.iload_n 1, 1) := by decide +kernel
theorem sX9_isTwoSided_42 : ab_X rom K cX9_isTwoSided 7 2 42 (v0 :: .int x :: ls) st hp = ab_X rom K cX9_isTwoSided 7 2 43 (v0 :: .int x :: ls) (.int x :: st) hp := ax_iload_n dX9_isTwoSided_42 rfl rfl
theorem dX9_isTwoSided_43 : decode cX9_isTwoSided 43 = .ok (.iload 4, 2) := by decide +kernel
theorem sX9_isTwoSided_43 : ab_X rom K cX9_isTwoSided 7 2 43 (v0 :: v1 :: v2 :: v3 :: .int x :: ls) st hp = ab_X rom K cX9_isTwoSided 7 2 45 (v0 :: v1 :: v2 :: v3 :: .int x :: ls) (.int x :: st) hp := ax_iload dX9_isTwoSided_43 rfl rfl
theorem dX9_isTwoSided_45 : decode cX9_isTwoSided 45 = .ok (.invokevirtual 73, 3) := by decide +kernel
theorem sX9_isTwoSided_45_0 : ab_X rom K cX9_isTwoSided 7 2 45 ls [w2, w1, .ref a] hp = if ab_iso hp a 7 = true then (K 179 (.ref a :: [w1, w2]) hp).bind (fun o => ab_X rom K cX9_isTwoSided 7 2 48 ls (o.1.toList ++ []) o.2) else none := ay_virtual (as := [w1, w2]) (st := []) dX9_isTwoSided_45 kc_7_73 rfl rfl (Nat.le_of_ble_eq_true rfl)
theorem sX9_isTwoSided_45_1 : ab_X rom K cX9_isTwoSided 7 2 45 ls [w2, w1, .ref a, v0] hp = if ab_iso hp a 7 = true then (K 179 (.ref a :: [w1, w2]) hp).bind (fun o => ab_X rom K cX9_isTwoSided 7 2 48 ls (o.1.toList ++ [v0]) o.2) else none := ay_virtual (as := [w1, w2]) (st := [v0]) dX9_isTwoSided_45 kc_7_73 rfl rfl (Nat.le_of_ble_eq_true rfl)
theorem sX9_isTwoSided_45_2 : ab_X rom K cX9_isTwoSided 7 2 45 ls [w2, w1, .ref a, v0, v1] hp = if ab_iso hp a 7 = true then (K 179 (.ref a :: [w1, w2]) hp).bind (fun o => ab_X rom K cX9_isTwoSided 7 2 48 ls (o.1.toList ++ [v0, v1]) o.2) else none := ay_virtual (as := [w1, w2]) (st := [v0, v1]) dX9_isTwoSided_45 kc_7_73 rfl rfl (Nat.le_of_ble_eq_true rfl)
theorem sX9_isTwoSided_45_3 : ab_X rom K cX9_isTwoSided 7 2 45 ls [w2, w1, .ref a, v0, v1, v2] hp = if ab_iso hp a 7 = true then (K 179 (.ref a :: [w1, w2]) hp).bind (fun o => ab_X rom K cX9_isTwoSided 7 2 48 ls (o.1.toList ++ [v0, v1, v2]) o.2) else none := ay_virtual (as := [w1, w2]) (st := [v0, v1, v2]) dX9_isTwoSided_45 kc_7_73 rfl rfl (Nat.le_of_ble_eq_true rfl)
theorem dX9_isTwoSided_48 : decode cX9_isTwoSided 48 = .ok (.iload_n 2, 1) := by decide +kernel
theorem sX9_isTwoSided_48 : ab_X rom K cX9_isTwoSided 7 2 48 (v0 :: v1 :: .int x :: ls) st hp = ab_X rom K cX9_isTwoSided 7 2 49 (v0 :: v1 :: .int x :: ls) (.int x :: st) hp := ax_iload_n dX9_isTwoSided_48 rfl rfl
theorem dX9_isTwoSided_49 : decode cX9_isTwoSided 49 = .ok (.iand, 1) := by decide +kernel
theorem sX9_isTwoSided_49 : ab_X rom K cX9_isTwoSided 7 2 49 ls (.int y :: .int x :: st) hp = ab_X rom K cX9_isTwoSided 7 2 50 ls (.int (x &&& y) :: st) hp := ax_iand dX9_isTwoSided_49 rfl
theorem dX9_isTwoSided_50 : decode cX9_isTwoSided 50 = .ok (.ifCond .ne 7, 3) := by decide +kernel
theorem sX9_isTwoSided_50 : ab_X rom K cX9_isTwoSided 7 2 50 ls (.int x :: st) hp = if x = 0 then ab_X rom K cX9_isTwoSided 7 2 53 ls st hp else ab_X rom K cX9_isTwoSided 7 2 57 ls st hp := ax_if_ne dX9_isTwoSided_50 (by decide) rfl
theorem dX9_isTwoSided_53 : decode cX9_isTwoSided 53 = .ok (.iconst 1, 1) := by decide +kernel
theorem sX9_isTwoSided_53 : ab_X rom K cX9_isTwoSided 7 2 53 ls st hp = ab_X rom K cX9_isTwoSided 7 2 54 ls (.int 1 :: st) hp := ax_iconst dX9_isTwoSided_53 (by decide) rfl
theorem dX9_isTwoSided_54 : decode cX9_isTwoSided 54 = .ok (.goto 26, 3) := by decide +kernel
theorem sX9_isTwoSided_54 : ab_X rom K cX9_isTwoSided 7 2 54 ls st hp = ab_X rom K cX9_isTwoSided 7 2 80 ls st hp := ax_goto dX9_isTwoSided_54 (by decide)
theorem dX9_isTwoSided_57 : decode cX9_isTwoSided 57 = .ok (.iconst 0, 1) := by decide +kernel
theorem sX9_isTwoSided_57 : ab_X rom K cX9_isTwoSided 7 2 57 ls st hp = ab_X rom K cX9_isTwoSided 7 2 58 ls (.int 0 :: st) hp := ax_iconst dX9_isTwoSided_57 (by decide) rfl
theorem dX9_isTwoSided_58 : decode cX9_isTwoSided 58 = .ok (.goto 22, 3) := by decide +kernel
theorem sX9_isTwoSided_58 : ab_X rom K cX9_isTwoSided 7 2 58 ls st hp = ab_X rom K cX9_isTwoSided 7 2 80 ls st hp := ax_goto dX9_isTwoSided_58 (by decide)
theorem dX9_isTwoSided_61 : decode cX9_isTwoSided 61 = .ok (.aload_n 0, 1) := by decide +kernel
theorem sX9_isTwoSided_61 : ab_X rom K cX9_isTwoSided 7 2 61 (.ref a :: ls) st hp = ab_X rom K cX9_isTwoSided 7 2 62 (.ref a :: ls) (.ref a :: st) hp := ax_aload_n dX9_isTwoSided_61 rfl rfl
theorem dX9_isTwoSided_62 : decode cX9_isTwoSided 62 = .ok (.iload_n 1, 1) := by decide +kernel
theorem sX9_isTwoSided_62 : ab_X rom K cX9_isTwoSided 7 2 62 (v0 :: .int x :: ls) st hp = ab_X rom K cX9_isTwoSided 7 2 63 (v0 :: .int x :: ls) (.int x :: st) hp := ax_iload_n dX9_isTwoSided_62 rfl rfl
theorem dX9_isTwoSided_63 : decode cX9_isTwoSided 63 = .ok (.iload 4, 2) := by decide +kernel
theorem sX9_isTwoSided_63 : ab_X rom K cX9_isTwoSided 7 2 63 (v0 :: v1 :: v2 :: v3 :: .int x :: ls) st hp = ab_X rom K cX9_isTwoSided 7 2 65 (v0 :: v1 :: v2 :: v3 :: .int x :: ls) (.int x :: st) hp := ax_iload dX9_isTwoSided_63 rfl rfl
theorem dX9_isTwoSided_65 : decode cX9_isTwoSided 65 = .ok (.invokevirtual 73, 3) := by decide +kernel
theorem sX9_isTwoSided_65_0 : ab_X rom K cX9_isTwoSided 7 2 65 ls [w2, w1, .ref a] hp = if ab_iso hp a 7 = true then (K 179 (.ref a :: [w1, w2]) hp).bind (fun o => ab_X rom K cX9_isTwoSided 7 2 68 ls (o.1.toList ++ []) o.2) else none := ay_virtual (as := [w1, w2]) (st := []) dX9_isTwoSided_65 kc_7_73 rfl rfl (Nat.le_of_ble_eq_true rfl)
theorem sX9_isTwoSided_65_1 : ab_X rom K cX9_isTwoSided 7 2 65 ls [w2, w1, .ref a, v0] hp = if ab_iso hp a 7 = true then (K 179 (.ref a :: [w1, w2]) hp).bind (fun o => ab_X rom K cX9_isTwoSided 7 2 68 ls (o.1.toList ++ [v0]) o.2) else none := ay_virtual (as := [w1, w2]) (st := [v0]) dX9_isTwoSided_65 kc_7_73 rfl rfl (Nat.le_of_ble_eq_true rfl)
theorem sX9_isTwoSided_65_2 : ab_X rom K cX9_isTwoSided 7 2 65 ls [w2, w1, .ref a, v0, v1] hp = if ab_iso hp a 7 = true then (K 179 (.ref a :: [w1, w2]) hp).bind (fun o => ab_X rom K cX9_isTwoSided 7 2 68 ls (o.1.toList ++ [v0, v1]) o.2) else none := ay_virtual (as := [w1, w2]) (st := [v0, v1]) dX9_isTwoSided_65 kc_7_73 rfl rfl (Nat.le_of_ble_eq_true rfl)
theorem sX9_isTwoSided_65_3 : ab_X rom K cX9_isTwoSided 7 2 65 ls [w2, w1, .ref a, v0, v1, v2] hp = if ab_iso hp a 7 = true then (K 179 (.ref a :: [w1, w2]) hp).bind (fun o => ab_X rom K cX9_isTwoSided 7 2 68 ls (o.1.toList ++ [v0, v1, v2]) o.2) else none := ay_virtual (as := [w1, w2]) (st := [v0, v1, v2]) dX9_isTwoSided_65 kc_7_73 rfl rfl (Nat.le_of_ble_eq_true rfl)
theorem dX9_isTwoSided_68 : decode cX9_isTwoSided 68 = .ok (.iload_n 2, 1) := by decide +kernel
theorem sX9_isTwoSided_68 : ab_X rom K cX9_isTwoSided 7 2 68 (v0 :: v1 :: .int x :: ls) st hp = ab_X rom K cX9_isTwoSided 7 2 69 (v0 :: v1 :: .int x :: ls) (.int x :: st) hp := ax_iload_n dX9_isTwoSided_68 rfl rfl
theorem dX9_isTwoSided_69 : decode cX9_isTwoSided 69 = .ok (.iconst (-1), 1) := by decide +kernel
theorem sX9_isTwoSided_69 : ab_X rom K cX9_isTwoSided 7 2 69 ls st hp = ab_X rom K cX9_isTwoSided 7 2 70 ls (.int (-1) :: st) hp := ax_iconst dX9_isTwoSided_69 (by decide) rfl
theorem dX9_isTwoSided_70 : decode cX9_isTwoSided 70 = .ok (.ixor, 1) := by decide +kernel
theorem sX9_isTwoSided_70 : ab_X rom K cX9_isTwoSided 7 2 70 ls (.int y :: .int x :: st) hp = ab_X rom K cX9_isTwoSided 7 2 71 ls (.int (x ^^^ y) :: st) hp := ax_ixor dX9_isTwoSided_70 rfl
theorem dX9_isTwoSided_71 : decode cX9_isTwoSided 71 = .ok (.iand, 1) := by decide +kernel
theorem sX9_isTwoSided_71 : ab_X rom K cX9_isTwoSided 7 2 71 ls (.int y :: .int x :: st) hp = ab_X rom K cX9_isTwoSided 7 2 72 ls (.int (x &&& y) :: st) hp := ax_iand dX9_isTwoSided_71 rfl
theorem dX9_isTwoSided_72 : decode cX9_isTwoSided 72 = .ok (.ifCond .ne 7, 3) := by decide +kernel
theorem sX9_isTwoSided_72 : ab_X rom K cX9_isTwoSided 7 2 72 ls (.int x :: st) hp = if x = 0 then ab_X rom K cX9_isTwoSided 7 2 75 ls st hp else ab_X rom K cX9_isTwoSided 7 2 79 ls st hp := ax_if_ne dX9_isTwoSided_72 (by decide) rfl
theorem dX9_isTwoSided_75 : decode cX9_isTwoSided 75 = .ok (.iconst 1, 1) := by decide +kernel
theorem sX9_isTwoSided_75 : ab_X rom K cX9_isTwoSided 7 2 75 ls st hp = ab_X rom K cX9_isTwoSided 7 2 76 ls (.int 1 :: st) hp := ax_iconst dX9_isTwoSided_75 (by decide) rfl
theorem dX9_isTwoSided_76 : decode cX9_isTwoSided 76 = .ok (.goto 4, 3) := by decide +kernel
theorem sX9_isTwoSided_76 : ab_X rom K cX9_isTwoSided 7 2 76 ls st hp = ab_X rom K cX9_isTwoSided 7 2 80 ls st hp := ax_goto dX9_isTwoSided_76 (by decide)
theorem dX9_isTwoSided_79 : decode cX9_isTwoSided 79 = .ok (.iconst 0, 1) := by decide +kernel
theorem sX9_isTwoSided_79 : ab_X rom K cX9_isTwoSided 7 2 79 ls st hp = ab_X rom K cX9_isTwoSided 7 2 80 ls (.int 0 :: st) hp := ax_iconst dX9_isTwoSided_79 (by decide) rfl
theorem dX9_isTwoSided_80 : decode cX9_isTwoSided 80 = .ok (.istore_n 3, 1) := by decide +kernel
theorem sX9_isTwoSided_80i : ab_X rom K cX9_isTwoSided 7 2 80 (v0 :: v1 :: .int y :: v3 :: ls) (.int x :: st) hp = ab_X rom K cX9_isTwoSided 7 2 81 (v0 :: v1 :: .int y :: .int x :: ls) st hp := ax_istore_n dX9_isTwoSided_80 (ax_lt (v := v3) rfl) (ab_nl_c1 (j := 2) (v := .int y) rfl (ab_c1_int _)) rfl rfl
theorem sX9_isTwoSided_80r : ab_X rom K cX9_isTwoSided 7 2 80 (v0 :: v1 :: .ref a2 :: v3 :: ls) (.int x :: st) hp = ab_X rom K cX9_isTwoSided 7 2 81 (v0 :: v1 :: .ref a2 :: .int x :: ls) st hp := ax_istore_n dX9_isTwoSided_80 (ax_lt (v := v3) rfl) (ab_nl_c1 (j := 2) (v := .ref a2) rfl (ab_c1_ref _)) rfl rfl
theorem sX9_isTwoSided_80n : ab_X rom K cX9_isTwoSided 7 2 80 (v0 :: v1 :: .null :: v3 :: ls) (.int x :: st) hp = ab_X rom K cX9_isTwoSided 7 2 81 (v0 :: v1 :: .null :: .int x :: ls) st hp := ax_istore_n dX9_isTwoSided_80 (ax_lt (v := v3) rfl) (ab_nl_c1 (j := 2) (v := .null) rfl ab_c1_null) rfl rfl
theorem dX9_isTwoSided_81 : decode cX9_isTwoSided 81 = .ok (.iinc 4 1, 3) := by decide +kernel
theorem sX9_isTwoSided_81i : ab_X rom K cX9_isTwoSided 7 2 81 (v0 :: v1 :: v2 :: .int y :: .int x :: ls) st hp = ab_X rom K cX9_isTwoSided 7 2 84 (v0 :: v1 :: v2 :: .int y :: .int (x + 1) :: ls) st hp := ax_iinc dX9_isTwoSided_81 rfl (ab_nl_c1 (j := 3) (v := .int y) rfl (ab_c1_int _)) (by decide) rfl rfl
theorem sX9_isTwoSided_81r : ab_X rom K cX9_isTwoSided 7 2 81 (v0 :: v1 :: v2 :: .ref a2 :: .int x :: ls) st hp = ab_X rom K cX9_isTwoSided 7 2 84 (v0 :: v1 :: v2 :: .ref a2 :: .int (x + 1) :: ls) st hp := ax_iinc dX9_isTwoSided_81 rfl (ab_nl_c1 (j := 3) (v := .ref a2) rfl (ab_c1_ref _)) (by decide) rfl rfl
theorem sX9_isTwoSided_81n : ab_X rom K cX9_isTwoSided 7 2 81 (v0 :: v1 :: v2 :: .null :: .int x :: ls) st hp = ab_X rom K cX9_isTwoSided 7 2 84 (v0 :: v1 :: v2 :: .null :: .int (x + 1) :: ls) st hp := ax_iinc dX9_isTwoSided_81 rfl (ab_nl_c1 (j := 3) (v := .null) rfl ab_c1_null) (by decide) rfl rfl
theorem dX9_isTwoSided_84 : decode cX9_isTwoSided 84 = .ok (.goto (-66), 3) := by decide +kernel
theorem sX9_isTwoSided_84 : ab_X rom K cX9_isTwoSided 7 2 84 ls st hp = ab_X rom K cX9_isTwoSided 7 2 18 ls st hp := ax_goto dX9_isTwoSided_84 (by decide)
theorem dX9_isTwoSided_87 : decode cX9_isTwoSided 87 = .ok (.iload_n 3, 1) := by decide +kernel
theorem sX9_isTwoSided_87 : ab_X rom K cX9_isTwoSided 7 2 87 (v0 :: v1 :: v2 :: .int x :: ls) st hp = ab_X rom K cX9_isTwoSided 7 2 88 (v0 :: v1 :: v2 :: .int x :: ls) (.int x :: st) hp := ax_iload_n dX9_isTwoSided_87 rfl rfl
theorem dX9_isTwoSided_88 : decode cX9_isTwoSided 88 = .ok (.ifCond .eq 5, 3) := by decide +kernel
theorem sX9_isTwoSided_88 : ab_X rom K cX9_isTwoSided 7 2 88 ls (.int x :: st) hp = if x = 0 then ab_X rom K cX9_isTwoSided 7 2 93 ls st hp else ab_X rom K cX9_isTwoSided 7 2 91 ls st hp := ax_if_eq dX9_isTwoSided_88 (by decide) rfl
theorem dX9_isTwoSided_91 : decode cX9_isTwoSided 91 = .ok (.iconst 1, 1) := by decide +kernel
theorem sX9_isTwoSided_91 : ab_X rom K cX9_isTwoSided 7 2 91 ls st hp = ab_X rom K cX9_isTwoSided 7 2 92 ls (.int 1 :: st) hp := ax_iconst dX9_isTwoSided_91 (by decide) rfl
theorem dX9_isTwoSided_92 : decode cX9_isTwoSided 92 = .ok (.ireturn, 1) := by decide +kernel
theorem sX9_isTwoSided_92 : ab_X rom K cX9_isTwoSided 7 2 92 ls [.int x] hp = if x = 0 ∨ x = 1 then some (some (.int x), hp) else none := ay_zret dX9_isTwoSided_92 rfl
theorem dX9_isTwoSided_93 : decode cX9_isTwoSided 93 = .ok (.iinc 2 1, 3) := by decide +kernel
theorem sX9_isTwoSided_93i : ab_X rom K cX9_isTwoSided 7 2 93 (v0 :: .int y :: .int x :: ls) st hp = ab_X rom K cX9_isTwoSided 7 2 96 (v0 :: .int y :: .int (x + 1) :: ls) st hp := ax_iinc dX9_isTwoSided_93 rfl (ab_nl_c1 (j := 1) (v := .int y) rfl (ab_c1_int _)) (by decide) rfl rfl
theorem sX9_isTwoSided_93r : ab_X rom K cX9_isTwoSided 7 2 93 (v0 :: .ref a2 :: .int x :: ls) st hp = ab_X rom K cX9_isTwoSided 7 2 96 (v0 :: .ref a2 :: .int (x + 1) :: ls) st hp := ax_iinc dX9_isTwoSided_93 rfl (ab_nl_c1 (j := 1) (v := .ref a2) rfl (ab_c1_ref _)) (by decide) rfl rfl
theorem sX9_isTwoSided_93n : ab_X rom K cX9_isTwoSided 7 2 93 (v0 :: .null :: .int x :: ls) st hp = ab_X rom K cX9_isTwoSided 7 2 96 (v0 :: .null :: .int (x + 1) :: ls) st hp := ax_iinc dX9_isTwoSided_93 rfl (ab_nl_c1 (j := 1) (v := .null) rfl ab_c1_null) (by decide) rfl rfl
theorem dX9_isTwoSided_96 : decode cX9_isTwoSided 96 = .ok (.goto (-94), 3) := by decide +kernel
theorem sX9_isTwoSided_96 : ab_X rom K cX9_isTwoSided 7 2 96 ls st hp = ab_X rom K cX9_isTwoSided 7 2 2 ls st hp := ax_goto dX9_isTwoSided_96 (by decide)
theorem dX9_isTwoSided_99 : decode cX9_isTwoSided 99 = .ok (.iconst 0, 1) := by decide +kernel
theorem sX9_isTwoSided_99 : ab_X rom K cX9_isTwoSided 7 2 99 ls st hp = ab_X rom K cX9_isTwoSided 7 2 100 ls (.int 0 :: st) hp := ax_iconst dX9_isTwoSided_99 (by decide) rfl
theorem dX9_isTwoSided_100 : decode cX9_isTwoSided 100 = .ok (.ireturn, 1) := by decide +kernel
theorem sX9_isTwoSided_100 : ab_X rom K cX9_isTwoSided 7 2 100 ls [.int x] hp = if x = 0 ∨ x = 1 then some (some (.int x), hp) else none := ay_zret dX9_isTwoSided_100 rfl
theorem tX9_isWord : ab_mT[178]? = some (yX9_isWord, cX9_isWord, 4, 2, 7) := by decide +kernel
theorem mX9_isWord {d : Nat} {a0 : Nat} {r0 : Nat} : ab_M rom (d + 1) 178 [.ref a0, .ref r0] hp = ab_X rom (ab_M rom d) cX9_isWord 7 2 0 [.ref a0, .ref r0, .null, .null] [] hp := ab_M_eq tX9_isWord (Nat.le_of_ble_eq_true rfl)
theorem dX9_isWord_0 : decode cX9_isWord 0 = .ok (.aload_n 0, 1) := by decide +kernel
theorem sX9_isWord_0 : ab_X rom K cX9_isWord 7 2 0 (.ref a :: ls) st hp = ab_X rom K cX9_isWord 7 2 1 (.ref a :: ls) (.ref a :: st) hp := ax_aload_n dX9_isWord_0 rfl rfl
theorem dX9_isWord_1 : decode cX9_isWord 1 = .ok (.getfield 120, 3) := by decide +kernel
theorem sX9_isWord_1 : ab_X rom K cX9_isWord 7 2 1 ls (.ref a :: st) hp = (ab_fld hp a 7 12).bind (fun v => ab_X rom K cX9_isWord 7 2 4 ls (v :: st) hp) := ax_getfield dX9_isWord_1 kf_7_120 rfl
theorem dX9_isWord_4 : decode cX9_isWord 4 = .ok (.ifCond .ne 31, 3) := by decide +kernel
theorem sX9_isWord_4 : ab_X rom K cX9_isWord 7 2 4 ls (.int x :: st) hp = if x = 0 then ab_X rom K cX9_isWord 7 2 7 ls st hp else ab_X rom K cX9_isWord 7 2 35 ls st hp := ax_if_ne dX9_isWord_4 (by decide) rfl
theorem dX9_isWord_7 : decode cX9_isWord 7 = .ok (.aload_n 0, 1) := by decide +kernel
theorem sX9_isWord_7 : ab_X rom K cX9_isWord 7 2 7 (.ref a :: ls) st hp = ab_X rom K cX9_isWord 7 2 8 (.ref a :: ls) (.ref a :: st) hp := ax_aload_n dX9_isWord_7 rfl rfl
theorem dX9_isWord_8 : decode cX9_isWord 8 = .ok (.getfield 112, 3) := by decide +kernel
theorem sX9_isWord_8 : ab_X rom K cX9_isWord 7 2 8 ls (.ref a :: st) hp = (ab_fld hp a 7 10).bind (fun v => ab_X rom K cX9_isWord 7 2 11 ls (v :: st) hp) := ax_getfield dX9_isWord_8 kf_7_112 rfl
theorem dX9_isWord_11 : decode cX9_isWord 11 = .ok (.iconst 1, 1) := by decide +kernel
theorem sX9_isWord_11 : ab_X rom K cX9_isWord 7 2 11 ls st hp = ab_X rom K cX9_isWord 7 2 12 ls (.int 1 :: st) hp := ax_iconst dX9_isWord_11 (by decide) rfl
theorem dX9_isWord_12 : decode cX9_isWord 12 = .ok (.if_icmp .ne 23, 3) := by decide +kernel
theorem sX9_isWord_12 : ab_X rom K cX9_isWord 7 2 12 ls (.int y :: .int x :: st) hp = if x = y then ab_X rom K cX9_isWord 7 2 15 ls st hp else ab_X rom K cX9_isWord 7 2 35 ls st hp := ax_icmp_ne dX9_isWord_12 (by decide) rfl
theorem dX9_isWord_15 : decode cX9_isWord 15 = .ok (.aload_n 0, 1) := by decide +kernel
theorem sX9_isWord_15 : ab_X rom K cX9_isWord 7 2 15 (.ref a :: ls) st hp = ab_X rom K cX9_isWord 7 2 16 (.ref a :: ls) (.ref a :: st) hp := ax_aload_n dX9_isWord_15 rfl rfl
theorem dX9_isWord_16 : decode cX9_isWord 16 = .ok (.getfield 100, 3) := by decide +kernel
theorem sX9_isWord_16 : ab_X rom K cX9_isWord 7 2 16 ls (.ref a :: st) hp = (ab_fld hp a 7 8).bind (fun v => ab_X rom K cX9_isWord 7 2 19 ls (v :: st) hp) := ax_getfield dX9_isWord_16 kf_7_100 rfl
theorem dX9_isWord_19 : decode cX9_isWord 19 = .ok (.aload_n 0, 1) := by decide +kernel
theorem sX9_isWord_19 : ab_X rom K cX9_isWord 7 2 19 (.ref a :: ls) st hp = ab_X rom K cX9_isWord 7 2 20 (.ref a :: ls) (.ref a :: st) hp := ax_aload_n dX9_isWord_19 rfl rfl
theorem dX9_isWord_20 : decode cX9_isWord 20 = .ok (.getfield 106, 3) := by decide +kernel
theorem sX9_isWord_20 : ab_X rom K cX9_isWord 7 2 20 ls (.ref a :: st) hp = (ab_fld hp a 7 9).bind (fun v => ab_X rom K cX9_isWord 7 2 23 ls (v :: st) hp) := ax_getfield dX9_isWord_20 kf_7_106 rfl
theorem dX9_isWord_23 : decode cX9_isWord 23 = .ok (.isub, 1) := by decide +kernel
theorem sX9_isWord_23 : ab_X rom K cX9_isWord 7 2 23 ls (.int y :: .int x :: st) hp = ab_X rom K cX9_isWord 7 2 24 ls (.int (x - y) :: st) hp := ax_isub dX9_isWord_23 rfl
theorem dX9_isWord_24 : decode cX9_isWord 24 = .ok (.aload_n 1, 1) := by decide +kernel
theorem sX9_isWord_24 : ab_X rom K cX9_isWord 7 2 24 (v0 :: .ref a :: ls) st hp = ab_X rom K cX9_isWord 7 2 25 (v0 :: .ref a :: ls) (.ref a :: st) hp := ax_aload_n dX9_isWord_24 rfl rfl
theorem dX9_isWord_25 : decode cX9_isWord 25 = .ok (.invokevirtual 137, 3) := by decide +kernel
theorem sX9_isWord_25_0 : ab_X rom K cX9_isWord 7 2 25 ls [.ref a] hp = (K 1000 (.ref a :: []) hp).bind (fun o => ab_X rom K cX9_isWord 7 2 28 ls (o.1.toList ++ []) o.2) := ax_text (as := []) (st := []) dX9_isWord_25 kc_7_137 (by decide) rfl rfl (Nat.le_of_ble_eq_true rfl)
theorem sX9_isWord_25_1 : ab_X rom K cX9_isWord 7 2 25 ls [.ref a, v0] hp = (K 1000 (.ref a :: []) hp).bind (fun o => ab_X rom K cX9_isWord 7 2 28 ls (o.1.toList ++ [v0]) o.2) := ax_text (as := []) (st := [v0]) dX9_isWord_25 kc_7_137 (by decide) rfl rfl (Nat.le_of_ble_eq_true rfl)
theorem sX9_isWord_25_2 : ab_X rom K cX9_isWord 7 2 25 ls [.ref a, v0, v1] hp = (K 1000 (.ref a :: []) hp).bind (fun o => ab_X rom K cX9_isWord 7 2 28 ls (o.1.toList ++ [v0, v1]) o.2) := ax_text (as := []) (st := [v0, v1]) dX9_isWord_25 kc_7_137 (by decide) rfl rfl (Nat.le_of_ble_eq_true rfl)
theorem sX9_isWord_25_3 : ab_X rom K cX9_isWord 7 2 25 ls [.ref a, v0, v1, v2] hp = (K 1000 (.ref a :: []) hp).bind (fun o => ab_X rom K cX9_isWord 7 2 28 ls (o.1.toList ++ [v0, v1, v2]) o.2) := ax_text (as := []) (st := [v0, v1, v2]) dX9_isWord_25 kc_7_137 (by decide) rfl rfl (Nat.le_of_ble_eq_true rfl)
theorem dX9_isWord_28 : decode cX9_isWord 28 = .ok (.if_icmp .ne 7, 3) := by decide +kernel
theorem sX9_isWord_28 : ab_X rom K cX9_isWord 7 2 28 ls (.int y :: .int x :: st) hp = if x = y then ab_X rom K cX9_isWord 7 2 31 ls st hp else ab_X rom K cX9_isWord 7 2 35 ls st hp := ax_icmp_ne dX9_isWord_28 (by decide) rfl
theorem dX9_isWord_31 : decode cX9_isWord 31 = .ok (.iconst 1, 1) := by decide +kernel
theorem sX9_isWord_31 : ab_X rom K cX9_isWord 7 2 31 ls st hp = ab_X rom K cX9_isWord 7 2 32 ls (.int 1 :: st) hp := ax_iconst dX9_isWord_31 (by decide) rfl
theorem dX9_isWord_32 : decode cX9_isWord 32 = .ok (.goto 4, 3) := by decide +kernel
theorem sX9_isWord_32 : ab_X rom K cX9_isWord 7 2 32 ls st hp = ab_X rom K cX9_isWord 7 2 36 ls st hp := ax_goto dX9_isWord_32 (by decide)
theorem dX9_isWord_35 : decode cX9_isWord 35 = .ok (.iconst 0, 1) := by decide +kernel
theorem sX9_isWord_35 : ab_X rom K cX9_isWord 7 2 35 ls st hp = ab_X rom K cX9_isWord 7 2 36 ls (.int 0 :: st) hp := ax_iconst dX9_isWord_35 (by decide) rfl
theorem dX9_isWord_36 : decode cX9_isWord 36 = .ok (.istore_n 2, 1) := by decide +kernel
theorem sX9_isWord_36i : ab_X rom K cX9_isWord 7 2 36 (v0 :: .int y :: v2 :: ls) (.int x :: st) hp = ab_X rom K cX9_isWord 7 2 37 (v0 :: .int y :: .int x :: ls) st hp := ax_istore_n dX9_isWord_36 (ax_lt (v := v2) rfl) (ab_nl_c1 (j := 1) (v := .int y) rfl (ab_c1_int _)) rfl rfl
theorem sX9_isWord_36r : ab_X rom K cX9_isWord 7 2 36 (v0 :: .ref a2 :: v2 :: ls) (.int x :: st) hp = ab_X rom K cX9_isWord 7 2 37 (v0 :: .ref a2 :: .int x :: ls) st hp := ax_istore_n dX9_isWord_36 (ax_lt (v := v2) rfl) (ab_nl_c1 (j := 1) (v := .ref a2) rfl (ab_c1_ref _)) rfl rfl
theorem sX9_isWord_36n : ab_X rom K cX9_isWord 7 2 36 (v0 :: .null :: v2 :: ls) (.int x :: st) hp = ab_X rom K cX9_isWord 7 2 37 (v0 :: .null :: .int x :: ls) st hp := ax_istore_n dX9_isWord_36 (ax_lt (v := v2) rfl) (ab_nl_c1 (j := 1) (v := .null) rfl ab_c1_null) rfl rfl
theorem dX9_isWord_37 : decode cX9_isWord 37 = .ok (.iconst 0, 1) := by decide +kernel
theorem sX9_isWord_37 : ab_X rom K cX9_isWord 7 2 37 ls st hp = ab_X rom K cX9_isWord 7 2 38 ls (.int 0 :: st) hp := ax_iconst dX9_isWord_37 (by decide) rfl
theorem dX9_isWord_38 : decode cX9_isWord 38 = .ok (.istore_n 3, 1) := by decide +kernel
theorem sX9_isWord_38i : ab_X rom K cX9_isWord 7 2 38 (v0 :: v1 :: .int y :: v3 :: ls) (.int x :: st) hp = ab_X rom K cX9_isWord 7 2 39 (v0 :: v1 :: .int y :: .int x :: ls) st hp := ax_istore_n dX9_isWord_38 (ax_lt (v := v3) rfl) (ab_nl_c1 (j := 2) (v := .int y) rfl (ab_c1_int _)) rfl rfl
theorem sX9_isWord_38r : ab_X rom K cX9_isWord 7 2 38 (v0 :: v1 :: .ref a2 :: v3 :: ls) (.int x :: st) hp = ab_X rom K cX9_isWord 7 2 39 (v0 :: v1 :: .ref a2 :: .int x :: ls) st hp := ax_istore_n dX9_isWord_38 (ax_lt (v := v3) rfl) (ab_nl_c1 (j := 2) (v := .ref a2) rfl (ab_c1_ref _)) rfl rfl
theorem sX9_isWord_38n : ab_X rom K cX9_isWord 7 2 38 (v0 :: v1 :: .null :: v3 :: ls) (.int x :: st) hp = ab_X rom K cX9_isWord 7 2 39 (v0 :: v1 :: .null :: .int x :: ls) st hp := ax_istore_n dX9_isWord_38 (ax_lt (v := v3) rfl) (ab_nl_c1 (j := 2) (v := .null) rfl ab_c1_null) rfl rfl
theorem dX9_isWord_39 : decode cX9_isWord 39 = .ok (.iload_n 3, 1) := by decide +kernel
theorem sX9_isWord_39 : ab_X rom K cX9_isWord 7 2 39 (v0 :: v1 :: v2 :: .int x :: ls) st hp = ab_X rom K cX9_isWord 7 2 40 (v0 :: v1 :: v2 :: .int x :: ls) (.int x :: st) hp := ax_iload_n dX9_isWord_39 rfl rfl
theorem dX9_isWord_40 : decode cX9_isWord 40 = .ok (.aload_n 1, 1) := by decide +kernel
theorem sX9_isWord_40 : ab_X rom K cX9_isWord 7 2 40 (v0 :: .ref a :: ls) st hp = ab_X rom K cX9_isWord 7 2 41 (v0 :: .ref a :: ls) (.ref a :: st) hp := ax_aload_n dX9_isWord_40 rfl rfl
theorem dX9_isWord_41 : decode cX9_isWord 41 = .ok (.invokevirtual 137, 3) := by decide +kernel
theorem sX9_isWord_41_0 : ab_X rom K cX9_isWord 7 2 41 ls [.ref a] hp = (K 1000 (.ref a :: []) hp).bind (fun o => ab_X rom K cX9_isWord 7 2 44 ls (o.1.toList ++ []) o.2) := ax_text (as := []) (st := []) dX9_isWord_41 kc_7_137 (by decide) rfl rfl (Nat.le_of_ble_eq_true rfl)
theorem sX9_isWord_41_1 : ab_X rom K cX9_isWord 7 2 41 ls [.ref a, v0] hp = (K 1000 (.ref a :: []) hp).bind (fun o => ab_X rom K cX9_isWord 7 2 44 ls (o.1.toList ++ [v0]) o.2) := ax_text (as := []) (st := [v0]) dX9_isWord_41 kc_7_137 (by decide) rfl rfl (Nat.le_of_ble_eq_true rfl)
theorem sX9_isWord_41_2 : ab_X rom K cX9_isWord 7 2 41 ls [.ref a, v0, v1] hp = (K 1000 (.ref a :: []) hp).bind (fun o => ab_X rom K cX9_isWord 7 2 44 ls (o.1.toList ++ [v0, v1]) o.2) := ax_text (as := []) (st := [v0, v1]) dX9_isWord_41 kc_7_137 (by decide) rfl rfl (Nat.le_of_ble_eq_true rfl)
theorem sX9_isWord_41_3 : ab_X rom K cX9_isWord 7 2 41 ls [.ref a, v0, v1, v2] hp = (K 1000 (.ref a :: []) hp).bind (fun o => ab_X rom K cX9_isWord 7 2 44 ls (o.1.toList ++ [v0, v1, v2]) o.2) := ax_text (as := []) (st := [v0, v1, v2]) dX9_isWord_41 kc_7_137 (by decide) rfl rfl (Nat.le_of_ble_eq_true rfl)
theorem dX9_isWord_44 : decode cX9_isWord 44 = .ok (.if_icmp .ge 38, 3) := by decide +kernel
theorem sX9_isWord_44 : ab_X rom K cX9_isWord 7 2 44 ls (.int y :: .int x :: st) hp = if x < y then ab_X rom K cX9_isWord 7 2 47 ls st hp else ab_X rom K cX9_isWord 7 2 82 ls st hp := ax_icmp_ge dX9_isWord_44 (by decide) rfl
theorem dX9_isWord_47 : decode cX9_isWord 47 = .ok (.iload_n 2, 1) := by decide +kernel
theorem sX9_isWord_47 : ab_X rom K cX9_isWord 7 2 47 (v0 :: v1 :: .int x :: ls) st hp = ab_X rom K cX9_isWord 7 2 48 (v0 :: v1 :: .int x :: ls) (.int x :: st) hp := ax_iload_n dX9_isWord_47 rfl rfl
theorem dX9_isWord_48 : decode cX9_isWord 48 = .ok (.ifCond .eq 34, 3) := by decide +kernel
theorem sX9_isWord_48 : ab_X rom K cX9_isWord 7 2 48 ls (.int x :: st) hp = if x = 0 then ab_X rom K cX9_isWord 7 2 82 ls st hp else ab_X rom K cX9_isWord 7 2 51 ls st hp := ax_if_eq dX9_isWord_48 (by decide) rfl
theorem dX9_isWord_51 : decode cX9_isWord 51 = .ok (.aload_n 0, 1) := by decide +kernel
theorem sX9_isWord_51 : ab_X rom K cX9_isWord 7 2 51 (.ref a :: ls) st hp = ab_X rom K cX9_isWord 7 2 52 (.ref a :: ls) (.ref a :: st) hp := ax_aload_n dX9_isWord_51 rfl rfl
theorem dX9_isWord_52 : decode cX9_isWord 52 = .ok (.getfield 19, 3) := by decide +kernel
theorem sX9_isWord_52 : ab_X rom K cX9_isWord 7 2 52 ls (.ref a :: st) hp = (ab_fld hp a 7 4).bind (fun v => ab_X rom K cX9_isWord 7 2 55 ls (v :: st) hp) := ax_getfield dX9_isWord_52 kf_7_19 rfl
theorem dX9_isWord_55 : decode cX9_isWord 55 = .ok (.aload_n 0, 1) := by decide +kernel
theorem sX9_isWord_55 : ab_X rom K cX9_isWord 7 2 55 (.ref a :: ls) st hp = ab_X rom K cX9_isWord 7 2 56 (.ref a :: ls) (.ref a :: st) hp := ax_aload_n dX9_isWord_55 rfl rfl
theorem dX9_isWord_56 : decode cX9_isWord 56 = .ok (.getfield 106, 3) := by decide +kernel
theorem sX9_isWord_56 : ab_X rom K cX9_isWord 7 2 56 ls (.ref a :: st) hp = (ab_fld hp a 7 9).bind (fun v => ab_X rom K cX9_isWord 7 2 59 ls (v :: st) hp) := ax_getfield dX9_isWord_56 kf_7_106 rfl
theorem dX9_isWord_59 : decode cX9_isWord 59 = .ok (.iload_n 3, 1) := by decide +kernel
theorem sX9_isWord_59 : ab_X rom K cX9_isWord 7 2 59 (v0 :: v1 :: v2 :: .int x :: ls) st hp = ab_X rom K cX9_isWord 7 2 60 (v0 :: v1 :: v2 :: .int x :: ls) (.int x :: st) hp := ax_iload_n dX9_isWord_59 rfl rfl
theorem dX9_isWord_60 : decode cX9_isWord 60 = .ok (.iadd, 1) := by decide +kernel
theorem sX9_isWord_60 : ab_X rom K cX9_isWord 7 2 60 ls (.int y :: .int x :: st) hp = ab_X rom K cX9_isWord 7 2 61 ls (.int (x + y) :: st) hp := ax_iadd dX9_isWord_60 rfl
theorem dX9_isWord_61 : decode cX9_isWord 61 = .ok (.iaload, 1) := by decide +kernel
theorem sX9_isWord_61 : ab_X rom K cX9_isWord 7 2 61 ls (.int x :: .ref a :: st) hp = (ab_ard rom 0 hp a x).bind (fun v => ab_X rom K cX9_isWord 7 2 62 ls (.int v :: st) hp) := ax_iaload dX9_isWord_61 rfl
theorem dX9_isWord_62 : decode cX9_isWord 62 = .ok (.aload_n 1, 1) := by decide +kernel
theorem sX9_isWord_62 : ab_X rom K cX9_isWord 7 2 62 (v0 :: .ref a :: ls) st hp = ab_X rom K cX9_isWord 7 2 63 (v0 :: .ref a :: ls) (.ref a :: st) hp := ax_aload_n dX9_isWord_62 rfl rfl
theorem dX9_isWord_63 : decode cX9_isWord 63 = .ok (.iload_n 3, 1) := by decide +kernel
theorem sX9_isWord_63 : ab_X rom K cX9_isWord 7 2 63 (v0 :: v1 :: v2 :: .int x :: ls) st hp = ab_X rom K cX9_isWord 7 2 64 (v0 :: v1 :: v2 :: .int x :: ls) (.int x :: st) hp := ax_iload_n dX9_isWord_63 rfl rfl
theorem dX9_isWord_64 : decode cX9_isWord 64 = .ok (.invokevirtual 143, 3) := by decide +kernel
theorem sX9_isWord_64_0 : ab_X rom K cX9_isWord 7 2 64 ls [w1, .ref a] hp = (K 1001 (.ref a :: [w1]) hp).bind (fun o => ab_X rom K cX9_isWord 7 2 67 ls (o.1.toList ++ []) o.2) := ax_text (as := [w1]) (st := []) dX9_isWord_64 kc_7_143 (by decide) rfl rfl (Nat.le_of_ble_eq_true rfl)
theorem sX9_isWord_64_1 : ab_X rom K cX9_isWord 7 2 64 ls [w1, .ref a, v0] hp = (K 1001 (.ref a :: [w1]) hp).bind (fun o => ab_X rom K cX9_isWord 7 2 67 ls (o.1.toList ++ [v0]) o.2) := ax_text (as := [w1]) (st := [v0]) dX9_isWord_64 kc_7_143 (by decide) rfl rfl (Nat.le_of_ble_eq_true rfl)
theorem sX9_isWord_64_2 : ab_X rom K cX9_isWord 7 2 64 ls [w1, .ref a, v0, v1] hp = (K 1001 (.ref a :: [w1]) hp).bind (fun o => ab_X rom K cX9_isWord 7 2 67 ls (o.1.toList ++ [v0, v1]) o.2) := ax_text (as := [w1]) (st := [v0, v1]) dX9_isWord_64 kc_7_143 (by decide) rfl rfl (Nat.le_of_ble_eq_true rfl)
theorem sX9_isWord_64_3 : ab_X rom K cX9_isWord 7 2 64 ls [w1, .ref a, v0, v1, v2] hp = (K 1001 (.ref a :: [w1]) hp).bind (fun o => ab_X rom K cX9_isWord 7 2 67 ls (o.1.toList ++ [v0, v1, v2]) o.2) := ax_text (as := [w1]) (st := [v0, v1, v2]) dX9_isWord_64 kc_7_143 (by decide) rfl rfl (Nat.le_of_ble_eq_true rfl)
theorem dX9_isWord_67 : decode cX9_isWord 67 = .ok (.if_icmp .ne 7, 3) := by decide +kernel
theorem sX9_isWord_67 : ab_X rom K cX9_isWord 7 2 67 ls (.int y :: .int x :: st) hp = if x = y then ab_X rom K cX9_isWord 7 2 70 ls st hp else ab_X rom K cX9_isWord 7 2 74 ls st hp := ax_icmp_ne dX9_isWord_67 (by decide) rfl
theorem dX9_isWord_70 : decode cX9_isWord 70 = .ok (.iconst 1, 1) := by decide +kernel
theorem sX9_isWord_70 : ab_X rom K cX9_isWord 7 2 70 ls st hp = ab_X rom K cX9_isWord 7 2 71 ls (.int 1 :: st) hp := ax_iconst dX9_isWord_70 (by decide) rfl
theorem dX9_isWord_71 : decode cX9_isWord 71 = .ok (.goto 4, 3) := by decide +kernel
theorem sX9_isWord_71 : ab_X rom K cX9_isWord 7 2 71 ls st hp = ab_X rom K cX9_isWord 7 2 75 ls st hp := ax_goto dX9_isWord_71 (by decide)
theorem dX9_isWord_74 : decode cX9_isWord 74 = .ok (.iconst 0, 1) := by decide +kernel
theorem sX9_isWord_74 : ab_X rom K cX9_isWord 7 2 74 ls st hp = ab_X rom K cX9_isWord 7 2 75 ls (.int 0 :: st) hp := ax_iconst dX9_isWord_74 (by decide) rfl
theorem dX9_isWord_75 : decode cX9_isWord 75 = .ok (.istore_n 2, 1) := by decide +kernel
theorem sX9_isWord_75i : ab_X rom K cX9_isWord 7 2 75 (v0 :: .int y :: v2 :: ls) (.int x :: st) hp = ab_X rom K cX9_isWord 7 2 76 (v0 :: .int y :: .int x :: ls) st hp := ax_istore_n dX9_isWord_75 (ax_lt (v := v2) rfl) (ab_nl_c1 (j := 1) (v := .int y) rfl (ab_c1_int _)) rfl rfl
theorem sX9_isWord_75r : ab_X rom K cX9_isWord 7 2 75 (v0 :: .ref a2 :: v2 :: ls) (.int x :: st) hp = ab_X rom K cX9_isWord 7 2 76 (v0 :: .ref a2 :: .int x :: ls) st hp := ax_istore_n dX9_isWord_75 (ax_lt (v := v2) rfl) (ab_nl_c1 (j := 1) (v := .ref a2) rfl (ab_c1_ref _)) rfl rfl
theorem sX9_isWord_75n : ab_X rom K cX9_isWord 7 2 75 (v0 :: .null :: v2 :: ls) (.int x :: st) hp = ab_X rom K cX9_isWord 7 2 76 (v0 :: .null :: .int x :: ls) st hp := ax_istore_n dX9_isWord_75 (ax_lt (v := v2) rfl) (ab_nl_c1 (j := 1) (v := .null) rfl ab_c1_null) rfl rfl
theorem dX9_isWord_76 : decode cX9_isWord 76 = .ok (.iinc 3 1, 3) := by decide +kernel
theorem sX9_isWord_76i : ab_X rom K cX9_isWord 7 2 76 (v0 :: v1 :: .int y :: .int x :: ls) st hp = ab_X rom K cX9_isWord 7 2 79 (v0 :: v1 :: .int y :: .int (x + 1) :: ls) st hp := ax_iinc dX9_isWord_76 rfl (ab_nl_c1 (j := 2) (v := .int y) rfl (ab_c1_int _)) (by decide) rfl rfl
theorem sX9_isWord_76r : ab_X rom K cX9_isWord 7 2 76 (v0 :: v1 :: .ref a2 :: .int x :: ls) st hp = ab_X rom K cX9_isWord 7 2 79 (v0 :: v1 :: .ref a2 :: .int (x + 1) :: ls) st hp := ax_iinc dX9_isWord_76 rfl (ab_nl_c1 (j := 2) (v := .ref a2) rfl (ab_c1_ref _)) (by decide) rfl rfl
theorem sX9_isWord_76n : ab_X rom K cX9_isWord 7 2 76 (v0 :: v1 :: .null :: .int x :: ls) st hp = ab_X rom K cX9_isWord 7 2 79 (v0 :: v1 :: .null :: .int (x + 1) :: ls) st hp := ax_iinc dX9_isWord_76 rfl (ab_nl_c1 (j := 2) (v := .null) rfl ab_c1_null) (by decide) rfl rfl
theorem dX9_isWord_79 : decode cX9_isWord 79 = .ok (.goto (-40), 3) := by decide +kernel
theorem sX9_isWord_79 : ab_X rom K cX9_isWord 7 2 79 ls st hp = ab_X rom K cX9_isWord 7 2 39 ls st hp := ax_goto dX9_isWord_79 (by decide)
theorem dX9_isWord_82 : decode cX9_isWord 82 = .ok (.iload_n 2, 1) := by decide +kernel
theorem sX9_isWord_82 : ab_X rom K cX9_isWord 7 2 82 (v0 :: v1 :: .int x :: ls) st hp = ab_X rom K cX9_isWord 7 2 83 (v0 :: v1 :: .int x :: ls) (.int x :: st) hp := ax_iload_n dX9_isWord_82 rfl rfl
theorem dX9_isWord_83 : decode cX9_isWord 83 = .ok (.ireturn, 1) := by decide +kernel
theorem sX9_isWord_83 : ab_X rom K cX9_isWord 7 2 83 ls [.int x] hp = if x = 0 ∨ x = 1 then some (some (.int x), hp) else none := ay_zret dX9_isWord_83 rfl
theorem tX9_joined : ab_mT[179]? = some (yX9_joined, cX9_joined, 3, 1, 7) := by decide +kernel
theorem mX9_joined {d : Nat} {a0 : Nat} {x0 : Int32} {x1 : Int32} : ab_M rom (d + 1) 179 [.ref a0, .int x0, .int x1] hp = ab_X rom (ab_M rom d) cX9_joined 7 1 0 [.ref a0, .int x0, .int x1] [] hp := ab_M_eq tX9_joined (Nat.le_of_ble_eq_true rfl)
theorem dX9_joined_0 : decode cX9_joined 0 = .ok (.aload_n 0, 1) := by decide +kernel
theorem sX9_joined_0 : ab_X rom K cX9_joined 7 1 0 (.ref a :: ls) st hp = ab_X rom K cX9_joined 7 1 1 (.ref a :: ls) (.ref a :: st) hp := ax_aload_n dX9_joined_0 rfl rfl
theorem dX9_joined_1 : decode cX9_joined 1 = .ok (.getfield 7, 3) := by decide +kernel
theorem sX9_joined_1 : ab_X rom K cX9_joined 7 1 1 ls (.ref a :: st) hp = (ab_fld hp a 7 0).bind (fun v => ab_X rom K cX9_joined 7 1 4 ls (v :: st) hp) := ax_getfield dX9_joined_1 kf_7_7 rfl
theorem dX9_joined_4 : decode cX9_joined 4 = .ok (.bipush 15, 2) := by decide +kernel
theorem sX9_joined_4 : ab_X rom K cX9_joined 7 1 4 ls st hp = ab_X rom K cX9_joined 7 1 6 ls (.int 15 :: st) hp := ax_bipush dX9_joined_4 (by decide) rfl
theorem dX9_joined_6 : decode cX9_joined 6 = .ok (.iload_n 1, 1) := by decide +kernel
theorem sX9_joined_6 : ab_X rom K cX9_joined 7 1 6 (v0 :: .int x :: ls) st hp = ab_X rom K cX9_joined 7 1 7 (v0 :: .int x :: ls) (.int x :: st) hp := ax_iload_n dX9_joined_6 rfl rfl
theorem dX9_joined_7 : decode cX9_joined 7 = .ok (.imul, 1) := by decide +kernel
theorem sX9_joined_7 : ab_X rom K cX9_joined 7 1 7 ls (.int y :: .int x :: st) hp = ab_X rom K cX9_joined 7 1 8 ls (.int (x * y) :: st) hp := ax_imul dX9_joined_7 rfl
theorem dX9_joined_8 : decode cX9_joined 8 = .ok (.iconst 1, 1) := by decide +kernel
theorem sX9_joined_8 : ab_X rom K cX9_joined 7 1 8 ls st hp = ab_X rom K cX9_joined 7 1 9 ls (.int 1 :: st) hp := ax_iconst dX9_joined_8 (by decide) rfl
theorem dX9_joined_9 : decode cX9_joined 9 = .ok (.iadd, 1) := by decide +kernel
theorem sX9_joined_9 : ab_X rom K cX9_joined 7 1 9 ls (.int y :: .int x :: st) hp = ab_X rom K cX9_joined 7 1 10 ls (.int (x + y) :: st) hp := ax_iadd dX9_joined_9 rfl
theorem dX9_joined_10 : decode cX9_joined 10 = .ok (.iload_n 2, 1) := by decide +kernel
theorem sX9_joined_10 : ab_X rom K cX9_joined 7 1 10 (v0 :: v1 :: .int x :: ls) st hp = ab_X rom K cX9_joined 7 1 11 (v0 :: v1 :: .int x :: ls) (.int x :: st) hp := ax_iload_n dX9_joined_10 rfl rfl
theorem dX9_joined_11 : decode cX9_joined 11 = .ok (.iadd, 1) := by decide +kernel
theorem sX9_joined_11 : ab_X rom K cX9_joined 7 1 11 ls (.int y :: .int x :: st) hp = ab_X rom K cX9_joined 7 1 12 ls (.int (x + y) :: st) hp := ax_iadd dX9_joined_11 rfl
theorem dX9_joined_12 : decode cX9_joined 12 = .ok (.iaload, 1) := by decide +kernel
theorem sX9_joined_12 : ab_X rom K cX9_joined 7 1 12 ls (.int x :: .ref a :: st) hp = (ab_ard rom 0 hp a x).bind (fun v => ab_X rom K cX9_joined 7 1 13 ls (.int v :: st) hp) := ax_iaload dX9_joined_12 rfl
theorem dX9_joined_13 : decode cX9_joined 13 = .ok (.ireturn, 1) := by decide +kernel
theorem sX9_joined_13 : ab_X rom K cX9_joined 7 1 13 ls [.int x] hp = some (some (.int x), hp) := ax_iret dX9_joined_13 rfl
theorem tX9_joins : ab_mT[180]? = some (yX9_joins, cX9_joins, 4, 0, 7) := by decide +kernel
theorem mX9_joins {d : Nat} {a0 : Nat} {x0 : Int32} {x1 : Int32} {x2 : Int32} : ab_M rom (d + 1) 180 [.ref a0, .int x0, .int x1, .int x2] hp = ab_X rom (ab_M rom d) cX9_joins 7 0 0 [.ref a0, .int x0, .int x1, .int x2] [] hp := ab_M_eq tX9_joins (Nat.le_of_ble_eq_true rfl)
theorem dX9_joins_0 : decode cX9_joins 0 = .ok (.aload_n 0, 1) := by decide +kernel
theorem sX9_joins_0 : ab_X rom K cX9_joins 7 0 0 (.ref a :: ls) st hp = ab_X rom K cX9_joins 7 0 1 (.ref a :: ls) (.ref a :: st) hp := ax_aload_n dX9_joins_0 rfl rfl
theorem dX9_joins_1 : decode cX9_joins 1 = .ok (.getfield 7, 3) := by decide +kernel
theorem sX9_joins_1 : ab_X rom K cX9_joins 7 0 1 ls (.ref a :: st) hp = (ab_fld hp a 7 0).bind (fun v => ab_X rom K cX9_joins 7 0 4 ls (v :: st) hp) := ax_getfield dX9_joins_1 kf_7_7 rfl
theorem dX9_joins_4 : decode cX9_joins 4 = .ok (.bipush 15, 2) := by decide +kernel
theorem sX9_joins_4 : ab_X rom K cX9_joins 7 0 4 ls st hp = ab_X rom K cX9_joins 7 0 6 ls (.int 15 :: st) hp := ax_bipush dX9_joins_4 (by decide) rfl
theorem dX9_joins_6 : decode cX9_joins 6 = .ok (.iload_n 1, 1) := by decide +kernel
theorem sX9_joins_6 : ab_X rom K cX9_joins 7 0 6 (v0 :: .int x :: ls) st hp = ab_X rom K cX9_joins 7 0 7 (v0 :: .int x :: ls) (.int x :: st) hp := ax_iload_n dX9_joins_6 rfl rfl
theorem dX9_joins_7 : decode cX9_joins 7 = .ok (.imul, 1) := by decide +kernel
theorem sX9_joins_7 : ab_X rom K cX9_joins 7 0 7 ls (.int y :: .int x :: st) hp = ab_X rom K cX9_joins 7 0 8 ls (.int (x * y) :: st) hp := ax_imul dX9_joins_7 rfl
theorem dX9_joins_8 : decode cX9_joins 8 = .ok (.iconst 1, 1) := by decide +kernel
theorem sX9_joins_8 : ab_X rom K cX9_joins 7 0 8 ls st hp = ab_X rom K cX9_joins 7 0 9 ls (.int 1 :: st) hp := ax_iconst dX9_joins_8 (by decide) rfl
theorem dX9_joins_9 : decode cX9_joins 9 = .ok (.iadd, 1) := by decide +kernel
theorem sX9_joins_9 : ab_X rom K cX9_joins 7 0 9 ls (.int y :: .int x :: st) hp = ab_X rom K cX9_joins 7 0 10 ls (.int (x + y) :: st) hp := ax_iadd dX9_joins_9 rfl
theorem dX9_joins_10 : decode cX9_joins 10 = .ok (.iload_n 2, 1) := by decide +kernel
theorem sX9_joins_10 : ab_X rom K cX9_joins 7 0 10 (v0 :: v1 :: .int x :: ls) st hp = ab_X rom K cX9_joins 7 0 11 (v0 :: v1 :: .int x :: ls) (.int x :: st) hp := ax_iload_n dX9_joins_10 rfl rfl
theorem dX9_joins_11 : decode cX9_joins 11 = .ok (.iadd, 1) := by decide +kernel
theorem sX9_joins_11 : ab_X rom K cX9_joins 7 0 11 ls (.int y :: .int x :: st) hp = ab_X rom K cX9_joins 7 0 12 ls (.int (x + y) :: st) hp := ax_iadd dX9_joins_11 rfl
theorem dX9_joins_12 : decode cX9_joins 12 = .ok (.dup2, 1) := by decide +kernel
theorem sX9_joins_12 : ab_X rom K cX9_joins 7 0 12 ls (.int x :: .ref a :: st) hp = ab_X rom K cX9_joins 7 0 13 ls (.int x :: .ref a :: .int x :: .ref a :: st) hp := ax_dup2 dX9_joins_12 rfl (ab_c1_int _) (ab_c1_ref _)
theorem dX9_joins_13 : decode cX9_joins 13 = .ok (.iaload, 1) := by decide +kernel
theorem sX9_joins_13 : ab_X rom K cX9_joins 7 0 13 ls (.int x :: .ref a :: st) hp = (ab_ard rom 0 hp a x).bind (fun v => ab_X rom K cX9_joins 7 0 14 ls (.int v :: st) hp) := ax_iaload dX9_joins_13 rfl
theorem dX9_joins_14 : decode cX9_joins 14 = .ok (.iconst 1, 1) := by decide +kernel
theorem sX9_joins_14 : ab_X rom K cX9_joins 7 0 14 ls st hp = ab_X rom K cX9_joins 7 0 15 ls (.int 1 :: st) hp := ax_iconst dX9_joins_14 (by decide) rfl
theorem dX9_joins_15 : decode cX9_joins 15 = .ok (.iload_n 3, 1) := by decide +kernel
theorem sX9_joins_15 : ab_X rom K cX9_joins 7 0 15 (v0 :: v1 :: v2 :: .int x :: ls) st hp = ab_X rom K cX9_joins 7 0 16 (v0 :: v1 :: v2 :: .int x :: ls) (.int x :: st) hp := ax_iload_n dX9_joins_15 rfl rfl
theorem dX9_joins_16 : decode cX9_joins 16 = .ok (.ishl, 1) := by decide +kernel
theorem sX9_joins_16 : ab_X rom K cX9_joins 7 0 16 ls (.int y :: .int x :: st) hp = ab_X rom K cX9_joins 7 0 17 ls (.int (x <<< (y &&& 31)) :: st) hp := ax_ishl dX9_joins_16 rfl
theorem dX9_joins_17 : decode cX9_joins 17 = .ok (.ixor, 1) := by decide +kernel
theorem sX9_joins_17 : ab_X rom K cX9_joins 7 0 17 ls (.int y :: .int x :: st) hp = ab_X rom K cX9_joins 7 0 18 ls (.int (x ^^^ y) :: st) hp := ax_ixor dX9_joins_17 rfl
theorem dX9_joins_18 : decode cX9_joins 18 = .ok (.iastore, 1) := by decide +kernel
theorem sX9_joins_18 : ab_X rom K cX9_joins 7 0 18 ls (.int y :: .int x :: .ref a :: st) hp = (ab_awr 0 hp a x y).bind (fun hp' => ab_X rom K cX9_joins 7 0 19 ls st hp') := ax_iastore dX9_joins_18 rfl
theorem dX9_joins_19 : decode cX9_joins 19 = .ok (.aload_n 0, 1) := by decide +kernel
theorem sX9_joins_19 : ab_X rom K cX9_joins 7 0 19 (.ref a :: ls) st hp = ab_X rom K cX9_joins 7 0 20 (.ref a :: ls) (.ref a :: st) hp := ax_aload_n dX9_joins_19 rfl rfl
theorem dX9_joins_20 : decode cX9_joins 20 = .ok (.getfield 7, 3) := by decide +kernel
theorem sX9_joins_20 : ab_X rom K cX9_joins 7 0 20 ls (.ref a :: st) hp = (ab_fld hp a 7 0).bind (fun v => ab_X rom K cX9_joins 7 0 23 ls (v :: st) hp) := ax_getfield dX9_joins_20 kf_7_7 rfl
theorem dX9_joins_23 : decode cX9_joins 23 = .ok (.bipush 15, 2) := by decide +kernel
theorem sX9_joins_23 : ab_X rom K cX9_joins 7 0 23 ls st hp = ab_X rom K cX9_joins 7 0 25 ls (.int 15 :: st) hp := ax_bipush dX9_joins_23 (by decide) rfl
theorem dX9_joins_25 : decode cX9_joins 25 = .ok (.iload_n 1, 1) := by decide +kernel
theorem sX9_joins_25 : ab_X rom K cX9_joins 7 0 25 (v0 :: .int x :: ls) st hp = ab_X rom K cX9_joins 7 0 26 (v0 :: .int x :: ls) (.int x :: st) hp := ax_iload_n dX9_joins_25 rfl rfl
theorem dX9_joins_26 : decode cX9_joins 26 = .ok (.imul, 1) := by decide +kernel
theorem sX9_joins_26 : ab_X rom K cX9_joins 7 0 26 ls (.int y :: .int x :: st) hp = ab_X rom K cX9_joins 7 0 27 ls (.int (x * y) :: st) hp := ax_imul dX9_joins_26 rfl
theorem dX9_joins_27 : decode cX9_joins 27 = .ok (.iconst 1, 1) := by decide +kernel
theorem sX9_joins_27 : ab_X rom K cX9_joins 7 0 27 ls st hp = ab_X rom K cX9_joins 7 0 28 ls (.int 1 :: st) hp := ax_iconst dX9_joins_27 (by decide) rfl
theorem dX9_joins_28 : decode cX9_joins 28 = .ok (.iadd, 1) := by decide +kernel
theorem sX9_joins_28 : ab_X rom K cX9_joins 7 0 28 ls (.int y :: .int x :: st) hp = ab_X rom K cX9_joins 7 0 29 ls (.int (x + y) :: st) hp := ax_iadd dX9_joins_28 rfl
theorem dX9_joins_29 : decode cX9_joins 29 = .ok (.iload_n 3, 1) := by decide +kernel
theorem sX9_joins_29 : ab_X rom K cX9_joins 7 0 29 (v0 :: v1 :: v2 :: .int x :: ls) st hp = ab_X rom K cX9_joins 7 0 30 (v0 :: v1 :: v2 :: .int x :: ls) (.int x :: st) hp := ax_iload_n dX9_joins_29 rfl rfl
theorem dX9_joins_30 : decode cX9_joins 30 = .ok (.iadd, 1) := by decide +kernel
theorem sX9_joins_30 : ab_X rom K cX9_joins 7 0 30 ls (.int y :: .int x :: st) hp = ab_X rom K cX9_joins 7 0 31 ls (.int (x + y) :: st) hp := ax_iadd dX9_joins_30 rfl
theorem dX9_joins_31 : decode cX9_joins 31 = .ok (.dup2, 1) := by decide +kernel
theorem sX9_joins_31 : ab_X rom K cX9_joins 7 0 31 ls (.int x :: .ref a :: st) hp = ab_X rom K cX9_joins 7 0 32 ls (.int x :: .ref a :: .int x :: .ref a :: st) hp := ax_dup2 dX9_joins_31 rfl (ab_c1_int _) (ab_c1_ref _)
theorem dX9_joins_32 : decode cX9_joins 32 = .ok (.iaload, 1) := by decide +kernel
theorem sX9_joins_32 : ab_X rom K cX9_joins 7 0 32 ls (.int x :: .ref a :: st) hp = (ab_ard rom 0 hp a x).bind (fun v => ab_X rom K cX9_joins 7 0 33 ls (.int v :: st) hp) := ax_iaload dX9_joins_32 rfl
theorem dX9_joins_33 : decode cX9_joins 33 = .ok (.iconst 1, 1) := by decide +kernel
theorem sX9_joins_33 : ab_X rom K cX9_joins 7 0 33 ls st hp = ab_X rom K cX9_joins 7 0 34 ls (.int 1 :: st) hp := ax_iconst dX9_joins_33 (by decide) rfl
theorem dX9_joins_34 : decode cX9_joins 34 = .ok (.iload_n 2, 1) := by decide +kernel
theorem sX9_joins_34 : ab_X rom K cX9_joins 7 0 34 (v0 :: v1 :: .int x :: ls) st hp = ab_X rom K cX9_joins 7 0 35 (v0 :: v1 :: .int x :: ls) (.int x :: st) hp := ax_iload_n dX9_joins_34 rfl rfl
theorem dX9_joins_35 : decode cX9_joins 35 = .ok (.ishl, 1) := by decide +kernel
theorem sX9_joins_35 : ab_X rom K cX9_joins 7 0 35 ls (.int y :: .int x :: st) hp = ab_X rom K cX9_joins 7 0 36 ls (.int (x <<< (y &&& 31)) :: st) hp := ax_ishl dX9_joins_35 rfl
theorem dX9_joins_36 : decode cX9_joins 36 = .ok (.ixor, 1) := by decide +kernel
theorem sX9_joins_36 : ab_X rom K cX9_joins 7 0 36 ls (.int y :: .int x :: st) hp = ab_X rom K cX9_joins 7 0 37 ls (.int (x ^^^ y) :: st) hp := ax_ixor dX9_joins_36 rfl
theorem dX9_joins_37 : decode cX9_joins 37 = .ok (.iastore, 1) := by decide +kernel
theorem sX9_joins_37 : ab_X rom K cX9_joins 7 0 37 ls (.int y :: .int x :: .ref a :: st) hp = (ab_awr 0 hp a x y).bind (fun hp' => ab_X rom K cX9_joins 7 0 38 ls st hp') := ax_iastore dX9_joins_37 rfl
theorem dX9_joins_38 : decode cX9_joins 38 = .ok (.return_, 1) := by decide +kernel
theorem sX9_joins_38 : ab_X rom K cX9_joins 7 0 38 ls [] hp = some (none, hp) := ax_vret dX9_joins_38 (by decide)
theorem tX9_key : ab_mT[181]? = some (yX9_key, cX9_key, 5, 1, 7) := by decide +kernel
theorem mX9_key {d : Nat} {a0 : Nat} {x0 : Int32} {x1 : Int32} : ab_M rom (d + 1) 181 [.ref a0, .int x0, .int x1] hp = ab_X rom (ab_M rom d) cX9_key 7 1 0 [.ref a0, .int x0, .int x1, .null, .null] [] hp := ab_M_eq tX9_key (Nat.le_of_ble_eq_true rfl)
theorem dX9_key_0 : decode cX9_key 0 = .ok (.aload_n 0, 1) := by decide +kernel
theorem sX9_key_0 : ab_X rom K cX9_key 7 1 0 (.ref a :: ls) st hp = ab_X rom K cX9_key 7 1 1 (.ref a :: ls) (.ref a :: st) hp := ax_aload_n dX9_key_0 rfl rfl
theorem dX9_key_1 : decode cX9_key 1 = .ok (.iload_n 1, 1) := by decide +kernel
theorem sX9_key_1 : ab_X rom K cX9_key 7 1 1 (v0 :: .int x :: ls) st hp = ab_X rom K cX9_key 7 1 2 (v0 :: .int x :: ls) (.int x :: st) hp := ax_iload_n dX9_key_1 rfl rfl
theorem dX9_key_2 : decode cX9_key 2 = .ok (.invokevirtual 68, 3) := by decide +kernel
theorem sX9_key_2_0 : ab_X rom K cX9_key 7 1 2 ls [w1, .ref a] hp = if ab_iso hp a 7 = true then (K 171 (.ref a :: [w1]) hp).bind (fun o => ab_X rom K cX9_key 7 1 5 ls (o.1.toList ++ []) o.2) else none := ay_virtual (as := [w1]) (st := []) dX9_key_2 kc_7_68 rfl rfl (Nat.le_of_ble_eq_true rfl)
theorem sX9_key_2_1 : ab_X rom K cX9_key 7 1 2 ls [w1, .ref a, v0] hp = if ab_iso hp a 7 = true then (K 171 (.ref a :: [w1]) hp).bind (fun o => ab_X rom K cX9_key 7 1 5 ls (o.1.toList ++ [v0]) o.2) else none := ay_virtual (as := [w1]) (st := [v0]) dX9_key_2 kc_7_68 rfl rfl (Nat.le_of_ble_eq_true rfl)
theorem sX9_key_2_2 : ab_X rom K cX9_key 7 1 2 ls [w1, .ref a, v0, v1] hp = if ab_iso hp a 7 = true then (K 171 (.ref a :: [w1]) hp).bind (fun o => ab_X rom K cX9_key 7 1 5 ls (o.1.toList ++ [v0, v1]) o.2) else none := ay_virtual (as := [w1]) (st := [v0, v1]) dX9_key_2 kc_7_68 rfl rfl (Nat.le_of_ble_eq_true rfl)
theorem sX9_key_2_3 : ab_X rom K cX9_key 7 1 2 ls [w1, .ref a, v0, v1, v2] hp = if ab_iso hp a 7 = true then (K 171 (.ref a :: [w1]) hp).bind (fun o => ab_X rom K cX9_key 7 1 5 ls (o.1.toList ++ [v0, v1, v2]) o.2) else none := ay_virtual (as := [w1]) (st := [v0, v1, v2]) dX9_key_2 kc_7_68 rfl rfl (Nat.le_of_ble_eq_true rfl)
theorem dX9_key_5 : decode cX9_key 5 = .ok (.ifCond .eq 10, 3) := by decide +kernel
theorem sX9_key_5 : ab_X rom K cX9_key 7 1 5 ls (.int x :: st) hp = if x = 0 then ab_X rom K cX9_key 7 1 15 ls st hp else ab_X rom K cX9_key 7 1 8 ls st hp := ax_if_eq dX9_key_5 (by decide) rfl
theorem dX9_key_8 : decode cX9_key 8 = .ok (.iload_n 2, 1) := by decide +kernel
theorem sX9_key_8 : ab_X rom K cX9_key 7 1 8 (v0 :: v1 :: .int x :: ls) st hp = ab_X rom K cX9_key 7 1 9 (v0 :: v1 :: .int x :: ls) (.int x :: st) hp := ax_iload_n dX9_key_8 rfl rfl
theorem dX9_key_9 : decode cX9_key 9 = .ok (.invokestatic 278, 3) := by decide +kernel
theorem sX9_key_9_0 : ab_X rom K cX9_key 7 1 9 ls [w1] hp = (K 168 [w1] hp).bind (fun o => ab_X rom K cX9_key 7 1 12 ls (o.1.toList ++ []) o.2) := ax_static (as := [w1]) (st := []) dX9_key_9 kc_7_278 rfl rfl (Nat.le_of_ble_eq_true rfl)
theorem sX9_key_9_1 : ab_X rom K cX9_key 7 1 9 ls [w1, v0] hp = (K 168 [w1] hp).bind (fun o => ab_X rom K cX9_key 7 1 12 ls (o.1.toList ++ [v0]) o.2) := ax_static (as := [w1]) (st := [v0]) dX9_key_9 kc_7_278 rfl rfl (Nat.le_of_ble_eq_true rfl)
theorem sX9_key_9_2 : ab_X rom K cX9_key 7 1 9 ls [w1, v0, v1] hp = (K 168 [w1] hp).bind (fun o => ab_X rom K cX9_key 7 1 12 ls (o.1.toList ++ [v0, v1]) o.2) := ax_static (as := [w1]) (st := [v0, v1]) dX9_key_9 kc_7_278 rfl rfl (Nat.le_of_ble_eq_true rfl)
theorem sX9_key_9_3 : ab_X rom K cX9_key 7 1 9 ls [w1, v0, v1, v2] hp = (K 168 [w1] hp).bind (fun o => ab_X rom K cX9_key 7 1 12 ls (o.1.toList ++ [v0, v1, v2]) o.2) := ax_static (as := [w1]) (st := [v0, v1, v2]) dX9_key_9 kc_7_278 rfl rfl (Nat.le_of_ble_eq_true rfl)
theorem dX9_key_12 : decode cX9_key 12 = .ok (.ifCond .ne 6, 3) := by decide +kernel
theorem sX9_key_12 : ab_X rom K cX9_key 7 1 12 ls (.int x :: st) hp = if x = 0 then ab_X rom K cX9_key 7 1 15 ls st hp else ab_X rom K cX9_key 7 1 18 ls st hp := ax_if_ne dX9_key_12 (by decide) rfl
theorem dX9_key_15 : decode cX9_key 15 = .ok (.bipush (-2), 2) := by decide +kernel
theorem sX9_key_15 : ab_X rom K cX9_key 7 1 15 ls st hp = ab_X rom K cX9_key 7 1 17 ls (.int (-2) :: st) hp := ax_bipush dX9_key_15 (by decide) rfl
theorem dX9_key_17 : decode cX9_key 17 = .ok (.ireturn, 1) := by decide +kernel
theorem sX9_key_17 : ab_X rom K cX9_key 7 1 17 ls [.int x] hp = some (some (.int x), hp) := ax_iret dX9_key_17 rfl
theorem dX9_key_18 : decode cX9_key 18 = .ok (.aload_n 0, 1) := by decide +kernel
theorem sX9_key_18 : ab_X rom K cX9_key 7 1 18 (.ref a :: ls) st hp = ab_X rom K cX9_key 7 1 19 (.ref a :: ls) (.ref a :: st) hp := ax_aload_n dX9_key_18 rfl rfl
theorem dX9_key_19 : decode cX9_key 19 = .ok (.iload_n 1, 1) := by decide +kernel
theorem sX9_key_19 : ab_X rom K cX9_key 7 1 19 (v0 :: .int x :: ls) st hp = ab_X rom K cX9_key 7 1 20 (v0 :: .int x :: ls) (.int x :: st) hp := ax_iload_n dX9_key_19 rfl rfl
theorem dX9_key_20 : decode cX9_key 20 = .ok (.iload_n 2, 1) := by decide +kernel
theorem sX9_key_20 : ab_X rom K cX9_key 7 1 20 (v0 :: v1 :: .int x :: ls) st hp = ab_X rom K cX9_key 7 1 21 (v0 :: v1 :: .int x :: ls) (.int x :: st) hp := ax_iload_n dX9_key_20 rfl rfl
theorem dX9_key_21 : decode cX9_key 21 = .ok (.invokevirtual 281, 3) := by decide +kernel
theorem sX9_key_21_0 : ab_X rom K cX9_key 7 1 21 ls [w2, w1, .ref a] hp = if ab_iso hp a 7 = true then (K 237 (.ref a :: [w1, w2]) hp).bind (fun o => ab_X rom K cX9_key 7 1 24 ls (o.1.toList ++ []) o.2) else none := ay_virtual (as := [w1, w2]) (st := []) dX9_key_21 kc_7_281 rfl rfl (Nat.le_of_ble_eq_true rfl)
theorem sX9_key_21_1 : ab_X rom K cX9_key 7 1 21 ls [w2, w1, .ref a, v0] hp = if ab_iso hp a 7 = true then (K 237 (.ref a :: [w1, w2]) hp).bind (fun o => ab_X rom K cX9_key 7 1 24 ls (o.1.toList ++ [v0]) o.2) else none := ay_virtual (as := [w1, w2]) (st := [v0]) dX9_key_21 kc_7_281 rfl rfl (Nat.le_of_ble_eq_true rfl)
theorem sX9_key_21_2 : ab_X rom K cX9_key 7 1 21 ls [w2, w1, .ref a, v0, v1] hp = if ab_iso hp a 7 = true then (K 237 (.ref a :: [w1, w2]) hp).bind (fun o => ab_X rom K cX9_key 7 1 24 ls (o.1.toList ++ [v0, v1]) o.2) else none := ay_virtual (as := [w1, w2]) (st := [v0, v1]) dX9_key_21 kc_7_281 rfl rfl (Nat.le_of_ble_eq_true rfl)
theorem sX9_key_21_3 : ab_X rom K cX9_key 7 1 21 ls [w2, w1, .ref a, v0, v1, v2] hp = if ab_iso hp a 7 = true then (K 237 (.ref a :: [w1, w2]) hp).bind (fun o => ab_X rom K cX9_key 7 1 24 ls (o.1.toList ++ [v0, v1, v2]) o.2) else none := ay_virtual (as := [w1, w2]) (st := [v0, v1, v2]) dX9_key_21 kc_7_281 rfl rfl (Nat.le_of_ble_eq_true rfl)
theorem dX9_key_24 : decode cX9_key 24 = .ok (.ifCond .eq 6, 3) := by decide +kernel
theorem sX9_key_24 : ab_X rom K cX9_key 7 1 24 ls (.int x :: st) hp = if x = 0 then ab_X rom K cX9_key 7 1 30 ls st hp else ab_X rom K cX9_key 7 1 27 ls st hp := ax_if_eq dX9_key_24 (by decide) rfl
theorem dX9_key_27 : decode cX9_key 27 = .ok (.bipush (-6), 2) := by decide +kernel
theorem sX9_key_27 : ab_X rom K cX9_key 7 1 27 ls st hp = ab_X rom K cX9_key 7 1 29 ls (.int (-6) :: st) hp := ax_bipush dX9_key_27 (by decide) rfl
theorem dX9_key_29 : decode cX9_key 29 = .ok (.ireturn, 1) := by decide +kernel
theorem sX9_key_29 : ab_X rom K cX9_key 7 1 29 ls [.int x] hp = some (some (.int x), hp) := ax_iret dX9_key_29 rfl
theorem dX9_key_30 : decode cX9_key 30 = .ok (.iconst 0, 1) := by decide +kernel
theorem sX9_key_30 : ab_X rom K cX9_key 7 1 30 ls st hp = ab_X rom K cX9_key 7 1 31 ls (.int 0 :: st) hp := ax_iconst dX9_key_30 (by decide) rfl
theorem dX9_key_31 : decode cX9_key 31 = .ok (.istore_n 3, 1) := by decide +kernel
theorem sX9_key_31i : ab_X rom K cX9_key 7 1 31 (v0 :: v1 :: .int y :: v3 :: ls) (.int x :: st) hp = ab_X rom K cX9_key 7 1 32 (v0 :: v1 :: .int y :: .int x :: ls) st hp := ax_istore_n dX9_key_31 (ax_lt (v := v3) rfl) (ab_nl_c1 (j := 2) (v := .int y) rfl (ab_c1_int _)) rfl rfl
theorem sX9_key_31r : ab_X rom K cX9_key 7 1 31 (v0 :: v1 :: .ref a2 :: v3 :: ls) (.int x :: st) hp = ab_X rom K cX9_key 7 1 32 (v0 :: v1 :: .ref a2 :: .int x :: ls) st hp := ax_istore_n dX9_key_31 (ax_lt (v := v3) rfl) (ab_nl_c1 (j := 2) (v := .ref a2) rfl (ab_c1_ref _)) rfl rfl
theorem sX9_key_31n : ab_X rom K cX9_key 7 1 31 (v0 :: v1 :: .null :: v3 :: ls) (.int x :: st) hp = ab_X rom K cX9_key 7 1 32 (v0 :: v1 :: .null :: .int x :: ls) st hp := ax_istore_n dX9_key_31 (ax_lt (v := v3) rfl) (ab_nl_c1 (j := 2) (v := .null) rfl ab_c1_null) rfl rfl
theorem dX9_key_32 : decode cX9_key 32 = .ok (.iload_n 3, 1) := by decide +kernel
theorem sX9_key_32 : ab_X rom K cX9_key 7 1 32 (v0 :: v1 :: v2 :: .int x :: ls) st hp = ab_X rom K cX9_key 7 1 33 (v0 :: v1 :: v2 :: .int x :: ls) (.int x :: st) hp := ax_iload_n dX9_key_32 rfl rfl
theorem dX9_key_33 : decode cX9_key 33 = .ok (.aload_n 0, 1) := by decide +kernel
theorem sX9_key_33 : ab_X rom K cX9_key 7 1 33 (.ref a :: ls) st hp = ab_X rom K cX9_key 7 1 34 (.ref a :: ls) (.ref a :: st) hp := ax_aload_n dX9_key_33 rfl rfl
theorem dX9_key_34 : decode cX9_key 34 = .ok (.iload_n 1, 1) := by decide +kernel
theorem sX9_key_34 : ab_X rom K cX9_key 7 1 34 (v0 :: .int x :: ls) st hp = ab_X rom K cX9_key 7 1 35 (v0 :: .int x :: ls) (.int x :: st) hp := ax_iload_n dX9_key_34 rfl rfl
theorem dX9_key_35 : decode cX9_key 35 = .ok (.invokevirtual 64, 3) := by decide +kernel
theorem sX9_key_35_0 : ab_X rom K cX9_key 7 1 35 ls [w1, .ref a] hp = if ab_iso hp a 7 = true then (K 209 (.ref a :: [w1]) hp).bind (fun o => ab_X rom K cX9_key 7 1 38 ls (o.1.toList ++ []) o.2) else none := ay_virtual (as := [w1]) (st := []) dX9_key_35 kc_7_64 rfl rfl (Nat.le_of_ble_eq_true rfl)
theorem sX9_key_35_1 : ab_X rom K cX9_key 7 1 35 ls [w1, .ref a, v0] hp = if ab_iso hp a 7 = true then (K 209 (.ref a :: [w1]) hp).bind (fun o => ab_X rom K cX9_key 7 1 38 ls (o.1.toList ++ [v0]) o.2) else none := ay_virtual (as := [w1]) (st := [v0]) dX9_key_35 kc_7_64 rfl rfl (Nat.le_of_ble_eq_true rfl)
theorem sX9_key_35_2 : ab_X rom K cX9_key 7 1 35 ls [w1, .ref a, v0, v1] hp = if ab_iso hp a 7 = true then (K 209 (.ref a :: [w1]) hp).bind (fun o => ab_X rom K cX9_key 7 1 38 ls (o.1.toList ++ [v0, v1]) o.2) else none := ay_virtual (as := [w1]) (st := [v0, v1]) dX9_key_35 kc_7_64 rfl rfl (Nat.le_of_ble_eq_true rfl)
theorem sX9_key_35_3 : ab_X rom K cX9_key 7 1 35 ls [w1, .ref a, v0, v1, v2] hp = if ab_iso hp a 7 = true then (K 209 (.ref a :: [w1]) hp).bind (fun o => ab_X rom K cX9_key 7 1 38 ls (o.1.toList ++ [v0, v1, v2]) o.2) else none := ay_virtual (as := [w1]) (st := [v0, v1, v2]) dX9_key_35 kc_7_64 rfl rfl (Nat.le_of_ble_eq_true rfl)
theorem dX9_key_38 : decode cX9_key 38 = .ok (.if_icmp .gt 54, 3) := by decide +kernel
theorem sX9_key_38 : ab_X rom K cX9_key 7 1 38 ls (.int y :: .int x :: st) hp = if y < x then ab_X rom K cX9_key 7 1 92 ls st hp else ab_X rom K cX9_key 7 1 41 ls st hp := ax_icmp_gt dX9_key_38 (by decide) rfl
theorem dX9_key_41 : decode cX9_key 41 = .ok (.iconst 0, 1) := by decide +kernel
theorem sX9_key_41 : ab_X rom K cX9_key 7 1 41 ls st hp = ab_X rom K cX9_key 7 1 42 ls (.int 0 :: st) hp := ax_iconst dX9_key_41 (by decide) rfl
theorem dX9_key_42 : decode cX9_key 42 = .ok (.istore 4, 2) := by decide +kernel
theorem sX9_key_42i : ab_X rom K cX9_key 7 1 42 (v0 :: v1 :: v2 :: .int y :: v4 :: ls) (.int x :: st) hp = ab_X rom K cX9_key 7 1 44 (v0 :: v1 :: v2 :: .int y :: .int x :: ls) st hp := ax_istore dX9_key_42 (ax_lt (v := v4) rfl) (ab_nl_c1 (j := 3) (v := .int y) rfl (ab_c1_int _)) rfl rfl
theorem sX9_key_42r : ab_X rom K cX9_key 7 1 42 (v0 :: v1 :: v2 :: .ref a2 :: v4 :: ls) (.int x :: st) hp = ab_X rom K cX9_key 7 1 44 (v0 :: v1 :: v2 :: .ref a2 :: .int x :: ls) st hp := ax_istore dX9_key_42 (ax_lt (v := v4) rfl) (ab_nl_c1 (j := 3) (v := .ref a2) rfl (ab_c1_ref _)) rfl rfl
theorem sX9_key_42n : ab_X rom K cX9_key 7 1 42 (v0 :: v1 :: v2 :: .null :: v4 :: ls) (.int x :: st) hp = ab_X rom K cX9_key 7 1 44 (v0 :: v1 :: v2 :: .null :: .int x :: ls) st hp := ax_istore dX9_key_42 (ax_lt (v := v4) rfl) (ab_nl_c1 (j := 3) (v := .null) rfl ab_c1_null) rfl rfl
theorem dX9_key_44 : decode cX9_key 44 = .ok (.iload 4, 2) := by decide +kernel
theorem sX9_key_44 : ab_X rom K cX9_key 7 1 44 (v0 :: v1 :: v2 :: v3 :: .int x :: ls) st hp = ab_X rom K cX9_key 7 1 46 (v0 :: v1 :: v2 :: v3 :: .int x :: ls) (.int x :: st) hp := ax_iload dX9_key_44 rfl rfl
theorem dX9_key_46 : decode cX9_key 46 = .ok (.iconst 1, 1) := by decide +kernel
theorem sX9_key_46 : ab_X rom K cX9_key 7 1 46 ls st hp = ab_X rom K cX9_key 7 1 47 ls (.int 1 :: st) hp := ax_iconst dX9_key_46 (by decide) rfl
theorem dX9_key_47 : decode cX9_key 47 = .ok (.aload_n 0, 1) := by decide +kernel
theorem sX9_key_47 : ab_X rom K cX9_key 7 1 47 (.ref a :: ls) st hp = ab_X rom K cX9_key 7 1 48 (.ref a :: ls) (.ref a :: st) hp := ax_aload_n dX9_key_47 rfl rfl
theorem dX9_key_48 : decode cX9_key 48 = .ok (.iload_n 1, 1) := by decide +kernel
theorem sX9_key_48 : ab_X rom K cX9_key 7 1 48 (v0 :: .int x :: ls) st hp = ab_X rom K cX9_key 7 1 49 (v0 :: .int x :: ls) (.int x :: st) hp := ax_iload_n dX9_key_48 rfl rfl
theorem dX9_key_49 : decode cX9_key 49 = .ok (.invokevirtual 64, 3) := by decide +kernel
theorem sX9_key_49_0 : ab_X rom K cX9_key 7 1 49 ls [w1, .ref a] hp = if ab_iso hp a 7 = true then (K 209 (.ref a :: [w1]) hp).bind (fun o => ab_X rom K cX9_key 7 1 52 ls (o.1.toList ++ []) o.2) else none := ay_virtual (as := [w1]) (st := []) dX9_key_49 kc_7_64 rfl rfl (Nat.le_of_ble_eq_true rfl)
theorem sX9_key_49_1 : ab_X rom K cX9_key 7 1 49 ls [w1, .ref a, v0] hp = if ab_iso hp a 7 = true then (K 209 (.ref a :: [w1]) hp).bind (fun o => ab_X rom K cX9_key 7 1 52 ls (o.1.toList ++ [v0]) o.2) else none := ay_virtual (as := [w1]) (st := [v0]) dX9_key_49 kc_7_64 rfl rfl (Nat.le_of_ble_eq_true rfl)
theorem sX9_key_49_2 : ab_X rom K cX9_key 7 1 49 ls [w1, .ref a, v0, v1] hp = if ab_iso hp a 7 = true then (K 209 (.ref a :: [w1]) hp).bind (fun o => ab_X rom K cX9_key 7 1 52 ls (o.1.toList ++ [v0, v1]) o.2) else none := ay_virtual (as := [w1]) (st := [v0, v1]) dX9_key_49 kc_7_64 rfl rfl (Nat.le_of_ble_eq_true rfl)
theorem sX9_key_49_3 : ab_X rom K cX9_key 7 1 49 ls [w1, .ref a, v0, v1, v2] hp = if ab_iso hp a 7 = true then (K 209 (.ref a :: [w1]) hp).bind (fun o => ab_X rom K cX9_key 7 1 52 ls (o.1.toList ++ [v0, v1, v2]) o.2) else none := ay_virtual (as := [w1]) (st := [v0, v1, v2]) dX9_key_49 kc_7_64 rfl rfl (Nat.le_of_ble_eq_true rfl)
theorem dX9_key_52 : decode cX9_key 52 = .ok (.ishl, 1) := by decide +kernel
theorem sX9_key_52 : ab_X rom K cX9_key 7 1 52 ls (.int y :: .int x :: st) hp = ab_X rom K cX9_key 7 1 53 ls (.int (x <<< (y &&& 31)) :: st) hp := ax_ishl dX9_key_52 rfl
theorem dX9_key_53 : decode cX9_key 53 = .ok (.if_icmp .ge 33, 3) := by decide +kernel
theorem sX9_key_53 : ab_X rom K cX9_key 7 1 53 ls (.int y :: .int x :: st) hp = if x < y then ab_X rom K cX9_key 7 1 56 ls st hp else ab_X rom K cX9_key 7 1 86 ls st hp := ax_icmp_ge dX9_key_53 (by decide) rfl
theorem dX9_key_56 : decode cX9_key 56 = .ok (.iload 4, 2) := by decide +kernel
theorem sX9_key_56 : ab_X rom K cX9_key 7 1 56 (v0 :: v1 :: v2 :: v3 :: .int x :: ls) st hp = ab_X rom K cX9_key 7 1 58 (v0 :: v1 :: v2 :: v3 :: .int x :: ls) (.int x :: st) hp := ax_iload dX9_key_56 rfl rfl
theorem dX9_key_58 : decode cX9_key 58 = .ok (.invokestatic 81, 3) := by decide +kernel
theorem sX9_key_58_0 : ab_X rom K cX9_key 7 1 58 ls [w1] hp = (K 204 [w1] hp).bind (fun o => ab_X rom K cX9_key 7 1 61 ls (o.1.toList ++ []) o.2) := ax_static (as := [w1]) (st := []) dX9_key_58 kc_7_81 rfl rfl (Nat.le_of_ble_eq_true rfl)
theorem sX9_key_58_1 : ab_X rom K cX9_key 7 1 58 ls [w1, v0] hp = (K 204 [w1] hp).bind (fun o => ab_X rom K cX9_key 7 1 61 ls (o.1.toList ++ [v0]) o.2) := ax_static (as := [w1]) (st := [v0]) dX9_key_58 kc_7_81 rfl rfl (Nat.le_of_ble_eq_true rfl)
theorem sX9_key_58_2 : ab_X rom K cX9_key 7 1 58 ls [w1, v0, v1] hp = (K 204 [w1] hp).bind (fun o => ab_X rom K cX9_key 7 1 61 ls (o.1.toList ++ [v0, v1]) o.2) := ax_static (as := [w1]) (st := [v0, v1]) dX9_key_58 kc_7_81 rfl rfl (Nat.le_of_ble_eq_true rfl)
theorem sX9_key_58_3 : ab_X rom K cX9_key 7 1 58 ls [w1, v0, v1, v2] hp = (K 204 [w1] hp).bind (fun o => ab_X rom K cX9_key 7 1 61 ls (o.1.toList ++ [v0, v1, v2]) o.2) := ax_static (as := [w1]) (st := [v0, v1, v2]) dX9_key_58 kc_7_81 rfl rfl (Nat.le_of_ble_eq_true rfl)
theorem dX9_key_61 : decode cX9_key 61 = .ok (.iload_n 3, 1) := by decide +kernel
theorem sX9_key_61 : ab_X rom K cX9_key 7 1 61 (v0 :: v1 :: v2 :: .int x :: ls) st hp = ab_X rom K cX9_key 7 1 62 (v0 :: v1 :: v2 :: .int x :: ls) (.int x :: st) hp := ax_iload_n dX9_key_61 rfl rfl
theorem dX9_key_62 : decode cX9_key 62 = .ok (.if_icmp .ne 18, 3) := by decide +kernel
theorem sX9_key_62 : ab_X rom K cX9_key 7 1 62 ls (.int y :: .int x :: st) hp = if x = y then ab_X rom K cX9_key 7 1 65 ls st hp else ab_X rom K cX9_key 7 1 80 ls st hp := ax_icmp_ne dX9_key_62 (by decide) rfl
theorem dX9_key_65 : decode cX9_key 65 = .ok (.aload_n 0, 1) := by decide +kernel
theorem sX9_key_65 : ab_X rom K cX9_key 7 1 65 (.ref a :: ls) st hp = ab_X rom K cX9_key 7 1 66 (.ref a :: ls) (.ref a :: st) hp := ax_aload_n dX9_key_65 rfl rfl
theorem dX9_key_66 : decode cX9_key 66 = .ok (.iload_n 1, 1) := by decide +kernel
theorem sX9_key_66 : ab_X rom K cX9_key 7 1 66 (v0 :: .int x :: ls) st hp = ab_X rom K cX9_key 7 1 67 (v0 :: .int x :: ls) (.int x :: st) hp := ax_iload_n dX9_key_66 rfl rfl
theorem dX9_key_67 : decode cX9_key 67 = .ok (.iload_n 2, 1) := by decide +kernel
theorem sX9_key_67 : ab_X rom K cX9_key 7 1 67 (v0 :: v1 :: .int x :: ls) st hp = ab_X rom K cX9_key 7 1 68 (v0 :: v1 :: .int x :: ls) (.int x :: st) hp := ax_iload_n dX9_key_67 rfl rfl
theorem dX9_key_68 : decode cX9_key 68 = .ok (.iload 4, 2) := by decide +kernel
theorem sX9_key_68 : ab_X rom K cX9_key 7 1 68 (v0 :: v1 :: v2 :: v3 :: .int x :: ls) st hp = ab_X rom K cX9_key 7 1 70 (v0 :: v1 :: v2 :: v3 :: .int x :: ls) (.int x :: st) hp := ax_iload dX9_key_68 rfl rfl
theorem dX9_key_70 : decode cX9_key 70 = .ok (.iconst 2, 1) := by decide +kernel
theorem sX9_key_70 : ab_X rom K cX9_key 7 1 70 ls st hp = ab_X rom K cX9_key 7 1 71 ls (.int 2 :: st) hp := ax_iconst dX9_key_70 (by decide) rfl
theorem dX9_key_71 : decode cX9_key 71 = .ok (.invokevirtual 302, 3) := by decide +kernel
theorem sX9_key_71_0 : ab_X rom K cX9_key 7 1 71 ls [w4, w3, w2, w1, .ref a] hp = if ab_iso hp a 7 = true then (K 221 (.ref a :: [w1, w2, w3, w4]) hp).bind (fun o => ab_X rom K cX9_key 7 1 74 ls (o.1.toList ++ []) o.2) else none := ay_virtual (as := [w1, w2, w3, w4]) (st := []) dX9_key_71 kc_7_302 rfl rfl (Nat.le_of_ble_eq_true rfl)
theorem sX9_key_71_1 : ab_X rom K cX9_key 7 1 71 ls [w4, w3, w2, w1, .ref a, v0] hp = if ab_iso hp a 7 = true then (K 221 (.ref a :: [w1, w2, w3, w4]) hp).bind (fun o => ab_X rom K cX9_key 7 1 74 ls (o.1.toList ++ [v0]) o.2) else none := ay_virtual (as := [w1, w2, w3, w4]) (st := [v0]) dX9_key_71 kc_7_302 rfl rfl (Nat.le_of_ble_eq_true rfl)
theorem sX9_key_71_2 : ab_X rom K cX9_key 7 1 71 ls [w4, w3, w2, w1, .ref a, v0, v1] hp = if ab_iso hp a 7 = true then (K 221 (.ref a :: [w1, w2, w3, w4]) hp).bind (fun o => ab_X rom K cX9_key 7 1 74 ls (o.1.toList ++ [v0, v1]) o.2) else none := ay_virtual (as := [w1, w2, w3, w4]) (st := [v0, v1]) dX9_key_71 kc_7_302 rfl rfl (Nat.le_of_ble_eq_true rfl)
theorem sX9_key_71_3 : ab_X rom K cX9_key 7 1 71 ls [w4, w3, w2, w1, .ref a, v0, v1, v2] hp = if ab_iso hp a 7 = true then (K 221 (.ref a :: [w1, w2, w3, w4]) hp).bind (fun o => ab_X rom K cX9_key 7 1 74 ls (o.1.toList ++ [v0, v1, v2]) o.2) else none := ay_virtual (as := [w1, w2, w3, w4]) (st := [v0, v1, v2]) dX9_key_71 kc_7_302 rfl rfl (Nat.le_of_ble_eq_true rfl)
theorem dX9_key_74 : decode cX9_key 74 = .ok (.ifCond .ne 6, 3) := by decide +kernel
theorem sX9_key_74 : ab_X rom K cX9_key 7 1 74 ls (.int x :: st) hp = if x = 0 then ab_X rom K cX9_key 7 1 77 ls st hp else ab_X rom K cX9_key 7 1 80 ls st hp := ax_if_ne dX9_key_74 (by decide) rfl
theorem dX9_key_77 : decode cX9_key 77 = .ok (.iload 4, 2) := by decide +kernel
theorem sX9_key_77 : ab_X rom K cX9_key 7 1 77 (v0 :: v1 :: v2 :: v3 :: .int x :: ls) st hp = ab_X rom K cX9_key 7 1 79 (v0 :: v1 :: v2 :: v3 :: .int x :: ls) (.int x :: st) hp := ax_iload dX9_key_77 rfl rfl
theorem dX9_key_79 : decode cX9_key 79 = .ok (.ireturn, 1) := by decide +kernel
theorem sX9_key_79 : ab_X rom K cX9_key 7 1 79 ls [.int x] hp = some (some (.int x), hp) := ax_iret dX9_key_79 rfl
theorem dX9_key_80 : decode cX9_key 80 = .ok (.iinc 4 1, 3) := by decide +kernel
theorem sX9_key_80i : ab_X rom K cX9_key 7 1 80 (v0 :: v1 :: v2 :: .int y :: .int x :: ls) st hp = ab_X rom K cX9_key 7 1 83 (v0 :: v1 :: v2 :: .int y :: .int (x + 1) :: ls) st hp := ax_iinc dX9_key_80 rfl (ab_nl_c1 (j := 3) (v := .int y) rfl (ab_c1_int _)) (by decide) rfl rfl
theorem sX9_key_80r : ab_X rom K cX9_key 7 1 80 (v0 :: v1 :: v2 :: .ref a2 :: .int x :: ls) st hp = ab_X rom K cX9_key 7 1 83 (v0 :: v1 :: v2 :: .ref a2 :: .int (x + 1) :: ls) st hp := ax_iinc dX9_key_80 rfl (ab_nl_c1 (j := 3) (v := .ref a2) rfl (ab_c1_ref _)) (by decide) rfl rfl
theorem sX9_key_80n : ab_X rom K cX9_key 7 1 80 (v0 :: v1 :: v2 :: .null :: .int x :: ls) st hp = ab_X rom K cX9_key 7 1 83 (v0 :: v1 :: v2 :: .null :: .int (x + 1) :: ls) st hp := ax_iinc dX9_key_80 rfl (ab_nl_c1 (j := 3) (v := .null) rfl ab_c1_null) (by decide) rfl rfl
theorem dX9_key_83 : decode cX9_key 83 = .ok (.goto (-39), 3) := by decide +kernel
theorem sX9_key_83 : ab_X rom K cX9_key 7 1 83 ls st hp = ab_X rom K cX9_key 7 1 44 ls st hp := ax_goto dX9_key_83 (by decide)
theorem dX9_key_86 : decode cX9_key 86 = .ok (.iinc 3 1, 3) := by decide +kernel
theorem sX9_key_86i : ab_X rom K cX9_key 7 1 86 (v0 :: v1 :: .int y :: .int x :: ls) st hp = ab_X rom K cX9_key 7 1 89 (v0 :: v1 :: .int y :: .int (x + 1) :: ls) st hp := ax_iinc dX9_key_86 rfl (ab_nl_c1 (j := 2) (v := .int y) rfl (ab_c1_int _)) (by decide) rfl rfl
theorem sX9_key_86r : ab_X rom K cX9_key 7 1 86 (v0 :: v1 :: .ref a2 :: .int x :: ls) st hp = ab_X rom K cX9_key 7 1 89 (v0 :: v1 :: .ref a2 :: .int (x + 1) :: ls) st hp := ax_iinc dX9_key_86 rfl (ab_nl_c1 (j := 2) (v := .ref a2) rfl (ab_c1_ref _)) (by decide) rfl rfl
theorem sX9_key_86n : ab_X rom K cX9_key 7 1 86 (v0 :: v1 :: .null :: .int x :: ls) st hp = ab_X rom K cX9_key 7 1 89 (v0 :: v1 :: .null :: .int (x + 1) :: ls) st hp := ax_iinc dX9_key_86 rfl (ab_nl_c1 (j := 2) (v := .null) rfl ab_c1_null) (by decide) rfl rfl
theorem dX9_key_89 : decode cX9_key 89 = .ok (.goto (-57), 3) := by decide +kernel
theorem sX9_key_89 : ab_X rom K cX9_key 7 1 89 ls st hp = ab_X rom K cX9_key 7 1 32 ls st hp := ax_goto dX9_key_89 (by decide)
theorem dX9_key_92 : decode cX9_key 92 = .ok (.bipush (-6), 2) := by decide +kernel
theorem sX9_key_92 : ab_X rom K cX9_key 7 1 92 ls st hp = ab_X rom K cX9_key 7 1 94 ls (.int (-6) :: st) hp := ax_bipush dX9_key_92 (by decide) rfl
theorem dX9_key_94 : decode cX9_key 94 = .ok (.ireturn, 1) := by decide +kernel
theorem sX9_key_94 : ab_X rom K cX9_key 7 1 94 ls [.int x] hp = some (some (.int x), hp) := ax_iret dX9_key_94 rfl
theorem tX9_label : ab_mT[182]? = some (yX9_label, cX9_label, 3, 1, 7) := by decide +kernel
theorem mX9_label {d : Nat} {a0 : Nat} {x0 : Int32} {x1 : Int32} : ab_M rom (d + 1) 182 [.ref a0, .int x0, .int x1] hp = ab_X rom (ab_M rom d) cX9_label 7 1 0 [.ref a0, .int x0, .int x1] [] hp := ab_M_eq tX9_label (Nat.le_of_ble_eq_true rfl)
theorem dX9_label_0 : decode cX9_label 0 = .ok (.aload_n 0, 1) := by decide +kernel
theorem sX9_label_0 : ab_X rom K cX9_label 7 1 0 (.ref a :: ls) st hp = ab_X rom K cX9_label 7 1 1 (.ref a :: ls) (.ref a :: st) hp := ax_aload_n dX9_label_0 rfl rfl
theorem dX9_label_1 : decode cX9_label 1 = .ok (.iload_n 1, 1) := by decide +kernel
theorem sX9_label_1 : ab_X rom K cX9_label 7 1 1 (v0 :: .int x :: ls) st hp = ab_X rom K cX9_label 7 1 2 (v0 :: .int x :: ls) (.int x :: st) hp := ax_iload_n dX9_label_1 rfl rfl
theorem dX9_label_2 : decode cX9_label 2 = .ok (.iload_n 2, 1) := by decide +kernel
theorem sX9_label_2 : ab_X rom K cX9_label 7 1 2 (v0 :: v1 :: .int x :: ls) st hp = ab_X rom K cX9_label 7 1 3 (v0 :: v1 :: .int x :: ls) (.int x :: st) hp := ax_iload_n dX9_label_2 rfl rfl
theorem dX9_label_3 : decode cX9_label 3 = .ok (.invokevirtual 216, 3) := by decide +kernel
theorem sX9_label_3_0 : ab_X rom K cX9_label 7 1 3 ls [w2, w1, .ref a] hp = if ab_iso hp a 7 = true then (K 173 (.ref a :: [w1, w2]) hp).bind (fun o => ab_X rom K cX9_label 7 1 6 ls (o.1.toList ++ []) o.2) else none := ay_virtual (as := [w1, w2]) (st := []) dX9_label_3 kc_7_216 rfl rfl (Nat.le_of_ble_eq_true rfl)
theorem sX9_label_3_1 : ab_X rom K cX9_label 7 1 3 ls [w2, w1, .ref a, v0] hp = if ab_iso hp a 7 = true then (K 173 (.ref a :: [w1, w2]) hp).bind (fun o => ab_X rom K cX9_label 7 1 6 ls (o.1.toList ++ [v0]) o.2) else none := ay_virtual (as := [w1, w2]) (st := [v0]) dX9_label_3 kc_7_216 rfl rfl (Nat.le_of_ble_eq_true rfl)
theorem sX9_label_3_2 : ab_X rom K cX9_label 7 1 3 ls [w2, w1, .ref a, v0, v1] hp = if ab_iso hp a 7 = true then (K 173 (.ref a :: [w1, w2]) hp).bind (fun o => ab_X rom K cX9_label 7 1 6 ls (o.1.toList ++ [v0, v1]) o.2) else none := ay_virtual (as := [w1, w2]) (st := [v0, v1]) dX9_label_3 kc_7_216 rfl rfl (Nat.le_of_ble_eq_true rfl)
theorem sX9_label_3_3 : ab_X rom K cX9_label 7 1 3 ls [w2, w1, .ref a, v0, v1, v2] hp = if ab_iso hp a 7 = true then (K 173 (.ref a :: [w1, w2]) hp).bind (fun o => ab_X rom K cX9_label 7 1 6 ls (o.1.toList ++ [v0, v1, v2]) o.2) else none := ay_virtual (as := [w1, w2]) (st := [v0, v1, v2]) dX9_label_3 kc_7_216 rfl rfl (Nat.le_of_ble_eq_true rfl)
theorem dX9_label_6 : decode cX9_label 6 = .ok (.ifCond .eq 12, 3) := by decide +kernel
theorem sX9_label_6 : ab_X rom K cX9_label 7 1 6 ls (.int x :: st) hp = if x = 0 then ab_X rom K cX9_label 7 1 18 ls st hp else ab_X rom K cX9_label 7 1 9 ls st hp := ax_if_eq dX9_label_6 (by decide) rfl
theorem dX9_label_9 : decode cX9_label 9 = .ok (.aload_n 0, 1) := by decide +kernel
theorem sX9_label_9 : ab_X rom K cX9_label 7 1 9 (.ref a :: ls) st hp = ab_X rom K cX9_label 7 1 10 (.ref a :: ls) (.ref a :: st) hp := ax_aload_n dX9_label_9 rfl rfl
theorem dX9_label_10 : decode cX9_label 10 = .ok (.iload_n 1, 1) := by decide +kernel
theorem sX9_label_10 : ab_X rom K cX9_label 7 1 10 (v0 :: .int x :: ls) st hp = ab_X rom K cX9_label 7 1 11 (v0 :: .int x :: ls) (.int x :: st) hp := ax_iload_n dX9_label_10 rfl rfl
theorem dX9_label_11 : decode cX9_label 11 = .ok (.iload_n 2, 1) := by decide +kernel
theorem sX9_label_11 : ab_X rom K cX9_label 7 1 11 (v0 :: v1 :: .int x :: ls) st hp = ab_X rom K cX9_label 7 1 12 (v0 :: v1 :: .int x :: ls) (.int x :: st) hp := ax_iload_n dX9_label_11 rfl rfl
theorem dX9_label_12 : decode cX9_label 12 = .ok (.invokevirtual 168, 3) := by decide +kernel
theorem sX9_label_12_0 : ab_X rom K cX9_label 7 1 12 ls [w2, w1, .ref a] hp = if ab_iso hp a 7 = true then (K 183 (.ref a :: [w1, w2]) hp).bind (fun o => ab_X rom K cX9_label 7 1 15 ls (o.1.toList ++ []) o.2) else none := ay_virtual (as := [w1, w2]) (st := []) dX9_label_12 kc_7_168 rfl rfl (Nat.le_of_ble_eq_true rfl)
theorem sX9_label_12_1 : ab_X rom K cX9_label 7 1 12 ls [w2, w1, .ref a, v0] hp = if ab_iso hp a 7 = true then (K 183 (.ref a :: [w1, w2]) hp).bind (fun o => ab_X rom K cX9_label 7 1 15 ls (o.1.toList ++ [v0]) o.2) else none := ay_virtual (as := [w1, w2]) (st := [v0]) dX9_label_12 kc_7_168 rfl rfl (Nat.le_of_ble_eq_true rfl)
theorem sX9_label_12_2 : ab_X rom K cX9_label 7 1 12 ls [w2, w1, .ref a, v0, v1] hp = if ab_iso hp a 7 = true then (K 183 (.ref a :: [w1, w2]) hp).bind (fun o => ab_X rom K cX9_label 7 1 15 ls (o.1.toList ++ [v0, v1]) o.2) else none := ay_virtual (as := [w1, w2]) (st := [v0, v1]) dX9_label_12 kc_7_168 rfl rfl (Nat.le_of_ble_eq_true rfl)
theorem sX9_label_12_3 : ab_X rom K cX9_label 7 1 12 ls [w2, w1, .ref a, v0, v1, v2] hp = if ab_iso hp a 7 = true then (K 183 (.ref a :: [w1, w2]) hp).bind (fun o => ab_X rom K cX9_label 7 1 15 ls (o.1.toList ++ [v0, v1, v2]) o.2) else none := ay_virtual (as := [w1, w2]) (st := [v0, v1, v2]) dX9_label_12 kc_7_168 rfl rfl (Nat.le_of_ble_eq_true rfl)
theorem dX9_label_15 : decode cX9_label 15 = .ok (.goto 5, 3) := by decide +kernel
theorem sX9_label_15 : ab_X rom K cX9_label 7 1 15 ls st hp = ab_X rom K cX9_label 7 1 20 ls st hp := ax_goto dX9_label_15 (by decide)
theorem dX9_label_18 : decode cX9_label 18 = .ok (.bipush (-2), 2) := by decide +kernel
theorem sX9_label_18 : ab_X rom K cX9_label 7 1 18 ls st hp = ab_X rom K cX9_label 7 1 20 ls (.int (-2) :: st) hp := ax_bipush dX9_label_18 (by decide) rfl
theorem dX9_label_20 : decode cX9_label 20 = .ok (.ireturn, 1) := by decide +kernel
theorem sX9_label_20 : ab_X rom K cX9_label 7 1 20 ls [.int x] hp = some (some (.int x), hp) := ax_iret dX9_label_20 rfl
theorem tX9_labelOf : ab_mT[183]? = some (yX9_labelOf, cX9_labelOf, 3, 1, 7) := by decide +kernel
theorem mX9_labelOf {d : Nat} {a0 : Nat} {x0 : Int32} {x1 : Int32} : ab_M rom (d + 1) 183 [.ref a0, .int x0, .int x1] hp = ab_X rom (ab_M rom d) cX9_labelOf 7 1 0 [.ref a0, .int x0, .int x1] [] hp := ab_M_eq tX9_labelOf (Nat.le_of_ble_eq_true rfl)
theorem dX9_labelOf_0 : decode cX9_labelOf 0 = .ok (.aload_n 0, 1) := by decide +kernel
theorem sX9_labelOf_0 : ab_X rom K cX9_labelOf 7 1 0 (.ref a :: ls) st hp = ab_X rom K cX9_labelOf 7 1 1 (.ref a :: ls) (.ref a :: st) hp := ax_aload_n dX9_labelOf_0 rfl rfl
theorem dX9_labelOf_1 : decode cX9_labelOf 1 = .ok (.getfield 7, 3) := by decide +kernel
theorem sX9_labelOf_1 : ab_X rom K cX9_labelOf 7 1 1 ls (.ref a :: st) hp = (ab_fld hp a 7 0).bind (fun v => ab_X rom K cX9_labelOf 7 1 4 ls (v :: st) hp) := ax_getfield dX9_labelOf_1 kf_7_7 rfl
theorem dX9_labelOf_4 : decode cX9_labelOf 4 = .ok (.bipush 15, 2) := by decide +kernel
theorem sX9_labelOf_4 : ab_X rom K cX9_labelOf 7 1 4 ls st hp = ab_X rom K cX9_labelOf 7 1 6 ls (.int 15 :: st) hp := ax_bipush dX9_labelOf_4 (by decide) rfl
theorem dX9_labelOf_6 : decode cX9_labelOf 6 = .ok (.iload_n 1, 1) := by decide +kernel
theorem sX9_labelOf_6 : ab_X rom K cX9_labelOf 7 1 6 (v0 :: .int x :: ls) st hp = ab_X rom K cX9_labelOf 7 1 7 (v0 :: .int x :: ls) (.int x :: st) hp := ax_iload_n dX9_labelOf_6 rfl rfl
theorem dX9_labelOf_7 : decode cX9_labelOf 7 = .ok (.imul, 1) := by decide +kernel
theorem sX9_labelOf_7 : ab_X rom K cX9_labelOf 7 1 7 ls (.int y :: .int x :: st) hp = ab_X rom K cX9_labelOf 7 1 8 ls (.int (x * y) :: st) hp := ax_imul dX9_labelOf_7 rfl
theorem dX9_labelOf_8 : decode cX9_labelOf 8 = .ok (.bipush 8, 2) := by decide +kernel
theorem sX9_labelOf_8 : ab_X rom K cX9_labelOf 7 1 8 ls st hp = ab_X rom K cX9_labelOf 7 1 10 ls (.int 8 :: st) hp := ax_bipush dX9_labelOf_8 (by decide) rfl
theorem dX9_labelOf_10 : decode cX9_labelOf 10 = .ok (.iadd, 1) := by decide +kernel
theorem sX9_labelOf_10 : ab_X rom K cX9_labelOf 7 1 10 ls (.int y :: .int x :: st) hp = ab_X rom K cX9_labelOf 7 1 11 ls (.int (x + y) :: st) hp := ax_iadd dX9_labelOf_10 rfl
theorem dX9_labelOf_11 : decode cX9_labelOf 11 = .ok (.iload_n 2, 1) := by decide +kernel
theorem sX9_labelOf_11 : ab_X rom K cX9_labelOf 7 1 11 (v0 :: v1 :: .int x :: ls) st hp = ab_X rom K cX9_labelOf 7 1 12 (v0 :: v1 :: .int x :: ls) (.int x :: st) hp := ax_iload_n dX9_labelOf_11 rfl rfl
theorem dX9_labelOf_12 : decode cX9_labelOf 12 = .ok (.iadd, 1) := by decide +kernel
theorem sX9_labelOf_12 : ab_X rom K cX9_labelOf 7 1 12 ls (.int y :: .int x :: st) hp = ab_X rom K cX9_labelOf 7 1 13 ls (.int (x + y) :: st) hp := ax_iadd dX9_labelOf_12 rfl
theorem dX9_labelOf_13 : decode cX9_labelOf 13 = .ok (.iaload, 1) := by decide +kernel
theorem sX9_labelOf_13 : ab_X rom K cX9_labelOf 7 1 13 ls (.int x :: .ref a :: st) hp = (ab_ard rom 0 hp a x).bind (fun v => ab_X rom K cX9_labelOf 7 1 14 ls (.int v :: st) hp) := ax_iaload dX9_labelOf_13 rfl
theorem dX9_labelOf_14 : decode cX9_labelOf 14 = .ok (.ireturn, 1) := by decide +kernel
theorem sX9_labelOf_14 : ab_X rom K cX9_labelOf 7 1 14 ls [.int x] hp = some (some (.int x), hp) := ax_iret dX9_labelOf_14 rfl
theorem tX9_laysLabels : ab_mT[184]? = some (yX9_laysLabels, cX9_laysLabels, 3, 0, 7) := by decide +kernel
theorem mX9_laysLabels {d : Nat} {a0 : Nat} {x0 : Int32} : ab_M rom (d + 1) 184 [.ref a0, .int x0] hp = ab_X rom (ab_M rom d) cX9_laysLabels 7 0 0 [.ref a0, .int x0, .null] [] hp := ab_M_eq tX9_laysLabels (Nat.le_of_ble_eq_true rfl)
theorem dX9_laysLabels_0 : decode cX9_laysLabels 0 = .ok (.aload_n 0, 1) := by decide +kernel
theorem sX9_laysLabels_0 : ab_X rom K cX9_laysLabels 7 0 0 (.ref a :: ls) st hp = ab_X rom K cX9_laysLabels 7 0 1 (.ref a :: ls) (.ref a :: st) hp := ax_aload_n dX9_laysLabels_0 rfl rfl
theorem dX9_laysLabels_1 : decode cX9_laysLabels 1 = .ok (.iload_n 1, 1) := by decide +kernel
theorem sX9_laysLabels_1 : ab_X rom K cX9_laysLabels 7 0 1 (v0 :: .int x :: ls) st hp = ab_X rom K cX9_laysLabels 7 0 2 (v0 :: .int x :: ls) (.int x :: st) hp := ax_iload_n dX9_laysLabels_1 rfl rfl
theorem dX9_laysLabels_2 : decode cX9_laysLabels 2 = .ok (.invokevirtual 269, 3) := by decide +kernel
theorem sX9_laysLabels_2_0 : ab_X rom K cX9_laysLabels 7 0 2 ls [w1, .ref a] hp = if ab_iso hp a 7 = true then (K 186 (.ref a :: [w1]) hp).bind (fun o => ab_X rom K cX9_laysLabels 7 0 5 ls (o.1.toList ++ []) o.2) else none := ay_virtual (as := [w1]) (st := []) dX9_laysLabels_2 kc_7_269 rfl rfl (Nat.le_of_ble_eq_true rfl)
theorem sX9_laysLabels_2_1 : ab_X rom K cX9_laysLabels 7 0 2 ls [w1, .ref a, v0] hp = if ab_iso hp a 7 = true then (K 186 (.ref a :: [w1]) hp).bind (fun o => ab_X rom K cX9_laysLabels 7 0 5 ls (o.1.toList ++ [v0]) o.2) else none := ay_virtual (as := [w1]) (st := [v0]) dX9_laysLabels_2 kc_7_269 rfl rfl (Nat.le_of_ble_eq_true rfl)
theorem sX9_laysLabels_2_2 : ab_X rom K cX9_laysLabels 7 0 2 ls [w1, .ref a, v0, v1] hp = if ab_iso hp a 7 = true then (K 186 (.ref a :: [w1]) hp).bind (fun o => ab_X rom K cX9_laysLabels 7 0 5 ls (o.1.toList ++ [v0, v1]) o.2) else none := ay_virtual (as := [w1]) (st := [v0, v1]) dX9_laysLabels_2 kc_7_269 rfl rfl (Nat.le_of_ble_eq_true rfl)
theorem sX9_laysLabels_2_3 : ab_X rom K cX9_laysLabels 7 0 2 ls [w1, .ref a, v0, v1, v2] hp = if ab_iso hp a 7 = true then (K 186 (.ref a :: [w1]) hp).bind (fun o => ab_X rom K cX9_laysLabels 7 0 5 ls (o.1.toList ++ [v0, v1, v2]) o.2) else none := ay_virtual (as := [w1]) (st := [v0, v1, v2]) dX9_laysLabels_2 kc_7_269 rfl rfl (Nat.le_of_ble_eq_true rfl)
theorem dX9_laysLabels_5 : decode cX9_laysLabels 5 = .ok (.iconst 0, 1) := by decide +kernel
theorem sX9_laysLabels_5 : ab_X rom K cX9_laysLabels 7 0 5 ls st hp = ab_X rom K cX9_laysLabels 7 0 6 ls (.int 0 :: st) hp := ax_iconst dX9_laysLabels_5 (by decide) rfl
theorem dX9_laysLabels_6 : decode cX9_laysLabels 6 = .ok (.istore_n 2, 1) := by decide +kernel
theorem sX9_laysLabels_6i : ab_X rom K cX9_laysLabels 7 0 6 (v0 :: .int y :: v2 :: ls) (.int x :: st) hp = ab_X rom K cX9_laysLabels 7 0 7 (v0 :: .int y :: .int x :: ls) st hp := ax_istore_n dX9_laysLabels_6 (ax_lt (v := v2) rfl) (ab_nl_c1 (j := 1) (v := .int y) rfl (ab_c1_int _)) rfl rfl
theorem sX9_laysLabels_6r : ab_X rom K cX9_laysLabels 7 0 6 (v0 :: .ref a2 :: v2 :: ls) (.int x :: st) hp = ab_X rom K cX9_laysLabels 7 0 7 (v0 :: .ref a2 :: .int x :: ls) st hp := ax_istore_n dX9_laysLabels_6 (ax_lt (v := v2) rfl) (ab_nl_c1 (j := 1) (v := .ref a2) rfl (ab_c1_ref _)) rfl rfl
theorem sX9_laysLabels_6n : ab_X rom K cX9_laysLabels 7 0 6 (v0 :: .null :: v2 :: ls) (.int x :: st) hp = ab_X rom K cX9_laysLabels 7 0 7 (v0 :: .null :: .int x :: ls) st hp := ax_istore_n dX9_laysLabels_6 (ax_lt (v := v2) rfl) (ab_nl_c1 (j := 1) (v := .null) rfl ab_c1_null) rfl rfl
theorem dX9_laysLabels_7 : decode cX9_laysLabels 7 = .ok (.iload_n 2, 1) := by decide +kernel
theorem sX9_laysLabels_7 : ab_X rom K cX9_laysLabels 7 0 7 (v0 :: v1 :: .int x :: ls) st hp = ab_X rom K cX9_laysLabels 7 0 8 (v0 :: v1 :: .int x :: ls) (.int x :: st) hp := ax_iload_n dX9_laysLabels_7 rfl rfl
theorem dX9_laysLabels_8 : decode cX9_laysLabels 8 = .ok (.aload_n 0, 1) := by decide +kernel
theorem sX9_laysLabels_8 : ab_X rom K cX9_laysLabels 7 0 8 (.ref a :: ls) st hp = ab_X rom K cX9_laysLabels 7 0 9 (.ref a :: ls) (.ref a :: st) hp := ax_aload_n dX9_laysLabels_8 rfl rfl
theorem dX9_laysLabels_9 : decode cX9_laysLabels 9 = .ok (.getfield 235, 3) := by decide +kernel
theorem sX9_laysLabels_9 : ab_X rom K cX9_laysLabels 7 0 9 ls (.ref a :: st) hp = (ab_fld hp a 7 17).bind (fun v => ab_X rom K cX9_laysLabels 7 0 12 ls (v :: st) hp) := ax_getfield dX9_laysLabels_9 kf_7_235 rfl
theorem dX9_laysLabels_12 : decode cX9_laysLabels 12 = .ok (.if_icmp .ge 21, 3) := by decide +kernel
theorem sX9_laysLabels_12 : ab_X rom K cX9_laysLabels 7 0 12 ls (.int y :: .int x :: st) hp = if x < y then ab_X rom K cX9_laysLabels 7 0 15 ls st hp else ab_X rom K cX9_laysLabels 7 0 33 ls st hp := ax_icmp_ge dX9_laysLabels_12 (by decide) rfl
theorem dX9_laysLabels_15 : decode cX9_laysLabels 15 = .ok (.aload_n 0, 1) := by decide +kernel
theorem sX9_laysLabels_15 : ab_X rom K cX9_laysLabels 7 0 15 (.ref a :: ls) st hp = ab_X rom K cX9_laysLabels 7 0 16 (.ref a :: ls) (.ref a :: st) hp := ax_aload_n dX9_laysLabels_15 rfl rfl
theorem dX9_laysLabels_16 : decode cX9_laysLabels 16 = .ok (.getfield 32, 3) := by decide +kernel
theorem sX9_laysLabels_16 : ab_X rom K cX9_laysLabels 7 0 16 ls (.ref a :: st) hp = (ab_fld hp a 7 16).bind (fun v => ab_X rom K cX9_laysLabels 7 0 19 ls (v :: st) hp) := ax_getfield dX9_laysLabels_16 kf_7_32 rfl
theorem dX9_laysLabels_19 : decode cX9_laysLabels 19 = .ok (.iload_n 2, 1) := by decide +kernel
theorem sX9_laysLabels_19 : ab_X rom K cX9_laysLabels 7 0 19 (v0 :: v1 :: .int x :: ls) st hp = ab_X rom K cX9_laysLabels 7 0 20 (v0 :: v1 :: .int x :: ls) (.int x :: st) hp := ax_iload_n dX9_laysLabels_19 rfl rfl
theorem dX9_laysLabels_20 : decode cX9_laysLabels 20 = .ok (.aload_n 0, 1) := by decide +kernel
theorem sX9_laysLabels_20 : ab_X rom K cX9_laysLabels 7 0 20 (.ref a :: ls) st hp = ab_X rom K cX9_laysLabels 7 0 21 (.ref a :: ls) (.ref a :: st) hp := ax_aload_n dX9_laysLabels_20 rfl rfl
theorem dX9_laysLabels_21 : decode cX9_laysLabels 21 = .ok (.iload_n 1, 1) := by decide +kernel
theorem sX9_laysLabels_21 : ab_X rom K cX9_laysLabels 7 0 21 (v0 :: .int x :: ls) st hp = ab_X rom K cX9_laysLabels 7 0 22 (v0 :: .int x :: ls) (.int x :: st) hp := ax_iload_n dX9_laysLabels_21 rfl rfl
theorem dX9_laysLabels_22 : decode cX9_laysLabels 22 = .ok (.iload_n 2, 1) := by decide +kernel
theorem sX9_laysLabels_22 : ab_X rom K cX9_laysLabels 7 0 22 (v0 :: v1 :: .int x :: ls) st hp = ab_X rom K cX9_laysLabels 7 0 23 (v0 :: v1 :: .int x :: ls) (.int x :: st) hp := ax_iload_n dX9_laysLabels_22 rfl rfl
theorem dX9_laysLabels_23 : decode cX9_laysLabels 23 = .ok (.invokevirtual 168, 3) := by decide +kernel
theorem sX9_laysLabels_23_0 : ab_X rom K cX9_laysLabels 7 0 23 ls [w2, w1, .ref a] hp = if ab_iso hp a 7 = true then (K 183 (.ref a :: [w1, w2]) hp).bind (fun o => ab_X rom K cX9_laysLabels 7 0 26 ls (o.1.toList ++ []) o.2) else none := ay_virtual (as := [w1, w2]) (st := []) dX9_laysLabels_23 kc_7_168 rfl rfl (Nat.le_of_ble_eq_true rfl)
theorem sX9_laysLabels_23_1 : ab_X rom K cX9_laysLabels 7 0 23 ls [w2, w1, .ref a, v0] hp = if ab_iso hp a 7 = true then (K 183 (.ref a :: [w1, w2]) hp).bind (fun o => ab_X rom K cX9_laysLabels 7 0 26 ls (o.1.toList ++ [v0]) o.2) else none := ay_virtual (as := [w1, w2]) (st := [v0]) dX9_laysLabels_23 kc_7_168 rfl rfl (Nat.le_of_ble_eq_true rfl)
theorem sX9_laysLabels_23_2 : ab_X rom K cX9_laysLabels 7 0 23 ls [w2, w1, .ref a, v0, v1] hp = if ab_iso hp a 7 = true then (K 183 (.ref a :: [w1, w2]) hp).bind (fun o => ab_X rom K cX9_laysLabels 7 0 26 ls (o.1.toList ++ [v0, v1]) o.2) else none := ay_virtual (as := [w1, w2]) (st := [v0, v1]) dX9_laysLabels_23 kc_7_168 rfl rfl (Nat.le_of_ble_eq_true rfl)
theorem sX9_laysLabels_23_3 : ab_X rom K cX9_laysLabels 7 0 23 ls [w2, w1, .ref a, v0, v1, v2] hp = if ab_iso hp a 7 = true then (K 183 (.ref a :: [w1, w2]) hp).bind (fun o => ab_X rom K cX9_laysLabels 7 0 26 ls (o.1.toList ++ [v0, v1, v2]) o.2) else none := ay_virtual (as := [w1, w2]) (st := [v0, v1, v2]) dX9_laysLabels_23 kc_7_168 rfl rfl (Nat.le_of_ble_eq_true rfl)
theorem dX9_laysLabels_26 : decode cX9_laysLabels 26 = .ok (.iastore, 1) := by decide +kernel
theorem sX9_laysLabels_26 : ab_X rom K cX9_laysLabels 7 0 26 ls (.int y :: .int x :: .ref a :: st) hp = (ab_awr 0 hp a x y).bind (fun hp' => ab_X rom K cX9_laysLabels 7 0 27 ls st hp') := ax_iastore dX9_laysLabels_26 rfl
theorem dX9_laysLabels_27 : decode cX9_laysLabels 27 = .ok (.iinc 2 1, 3) := by decide +kernel
theorem sX9_laysLabels_27i : ab_X rom K cX9_laysLabels 7 0 27 (v0 :: .int y :: .int x :: ls) st hp = ab_X rom K cX9_laysLabels 7 0 30 (v0 :: .int y :: .int (x + 1) :: ls) st hp := ax_iinc dX9_laysLabels_27 rfl (ab_nl_c1 (j := 1) (v := .int y) rfl (ab_c1_int _)) (by decide) rfl rfl
theorem sX9_laysLabels_27r : ab_X rom K cX9_laysLabels 7 0 27 (v0 :: .ref a2 :: .int x :: ls) st hp = ab_X rom K cX9_laysLabels 7 0 30 (v0 :: .ref a2 :: .int (x + 1) :: ls) st hp := ax_iinc dX9_laysLabels_27 rfl (ab_nl_c1 (j := 1) (v := .ref a2) rfl (ab_c1_ref _)) (by decide) rfl rfl
theorem sX9_laysLabels_27n : ab_X rom K cX9_laysLabels 7 0 27 (v0 :: .null :: .int x :: ls) st hp = ab_X rom K cX9_laysLabels 7 0 30 (v0 :: .null :: .int (x + 1) :: ls) st hp := ax_iinc dX9_laysLabels_27 rfl (ab_nl_c1 (j := 1) (v := .null) rfl ab_c1_null) (by decide) rfl rfl
theorem dX9_laysLabels_30 : decode cX9_laysLabels 30 = .ok (.goto (-23), 3) := by decide +kernel
theorem sX9_laysLabels_30 : ab_X rom K cX9_laysLabels 7 0 30 ls st hp = ab_X rom K cX9_laysLabels 7 0 7 ls st hp := ax_goto dX9_laysLabels_30 (by decide)
theorem dX9_laysLabels_33 : decode cX9_laysLabels 33 = .ok (.return_, 1) := by decide +kernel
theorem sX9_laysLabels_33 : ab_X rom K cX9_laysLabels 7 0 33 ls [] hp = some (none, hp) := ax_vret dX9_laysLabels_33 (by decide)
theorem tX9_laysLines : ab_mT[185]? = some (yX9_laysLines, cX9_laysLines, 4, 0, 7) := by decide +kernel
theorem mX9_laysLines {d : Nat} {a0 : Nat} {x0 : Int32} : ab_M rom (d + 1) 185 [.ref a0, .int x0] hp = ab_X rom (ab_M rom d) cX9_laysLines 7 0 0 [.ref a0, .int x0, .null, .null] [] hp := ab_M_eq tX9_laysLines (Nat.le_of_ble_eq_true rfl)
theorem dX9_laysLines_0 : decode cX9_laysLines 0 = .ok (.aload_n 0, 1) := by decide +kernel
theorem sX9_laysLines_0 : ab_X rom K cX9_laysLines 7 0 0 (.ref a :: ls) st hp = ab_X rom K cX9_laysLines 7 0 1 (.ref a :: ls) (.ref a :: st) hp := ax_aload_n dX9_laysLines_0 rfl rfl
theorem dX9_laysLines_1 : decode cX9_laysLines 1 = .ok (.iconst 0, 1) := by decide +kernel
theorem sX9_laysLines_1 : ab_X rom K cX9_laysLines 7 0 1 ls st hp = ab_X rom K cX9_laysLines 7 0 2 ls (.int 0 :: st) hp := ax_iconst dX9_laysLines_1 (by decide) rfl
theorem dX9_laysLines_2 : decode cX9_laysLines 2 = .ok (.putfield 210, 3) := by decide +kernel
theorem sX9_laysLines_2 : ab_X rom K cX9_laysLines 7 0 2 ls (.int x :: .ref a :: st) hp = (ab_fpt hp a 7 15 (.int x)).bind (fun hp' => ab_X rom K cX9_laysLines 7 0 5 ls st hp') := ax_putfield dX9_laysLines_2 kf_7_210 rfl (Or.inl rfl) rfl
theorem dX9_laysLines_5 : decode cX9_laysLines 5 = .ok (.iconst 0, 1) := by decide +kernel
theorem sX9_laysLines_5 : ab_X rom K cX9_laysLines 7 0 5 ls st hp = ab_X rom K cX9_laysLines 7 0 6 ls (.int 0 :: st) hp := ax_iconst dX9_laysLines_5 (by decide) rfl
theorem dX9_laysLines_6 : decode cX9_laysLines 6 = .ok (.istore_n 2, 1) := by decide +kernel
theorem sX9_laysLines_6i : ab_X rom K cX9_laysLines 7 0 6 (v0 :: .int y :: v2 :: ls) (.int x :: st) hp = ab_X rom K cX9_laysLines 7 0 7 (v0 :: .int y :: .int x :: ls) st hp := ax_istore_n dX9_laysLines_6 (ax_lt (v := v2) rfl) (ab_nl_c1 (j := 1) (v := .int y) rfl (ab_c1_int _)) rfl rfl
theorem sX9_laysLines_6r : ab_X rom K cX9_laysLines 7 0 6 (v0 :: .ref a2 :: v2 :: ls) (.int x :: st) hp = ab_X rom K cX9_laysLines 7 0 7 (v0 :: .ref a2 :: .int x :: ls) st hp := ax_istore_n dX9_laysLines_6 (ax_lt (v := v2) rfl) (ab_nl_c1 (j := 1) (v := .ref a2) rfl (ab_c1_ref _)) rfl rfl
theorem sX9_laysLines_6n : ab_X rom K cX9_laysLines 7 0 6 (v0 :: .null :: v2 :: ls) (.int x :: st) hp = ab_X rom K cX9_laysLines 7 0 7 (v0 :: .null :: .int x :: ls) st hp := ax_istore_n dX9_laysLines_6 (ax_lt (v := v2) rfl) (ab_nl_c1 (j := 1) (v := .null) rfl ab_c1_null) rfl rfl
theorem dX9_laysLines_7 : decode cX9_laysLines 7 = .ok (.iload_n 2, 1) := by decide +kernel
theorem sX9_laysLines_7 : ab_X rom K cX9_laysLines 7 0 7 (v0 :: v1 :: .int x :: ls) st hp = ab_X rom K cX9_laysLines 7 0 8 (v0 :: v1 :: .int x :: ls) (.int x :: st) hp := ax_iload_n dX9_laysLines_7 rfl rfl
theorem dX9_laysLines_8 : decode cX9_laysLines 8 = .ok (.aload_n 0, 1) := by decide +kernel
theorem sX9_laysLines_8 : ab_X rom K cX9_laysLines 7 0 8 (.ref a :: ls) st hp = ab_X rom K cX9_laysLines 7 0 9 (.ref a :: ls) (.ref a :: st) hp := ax_aload_n dX9_laysLines_8 rfl rfl
theorem dX9_laysLines_9 : decode cX9_laysLines 9 = .ok (.iload_n 1, 1) := by decide +kernel
theorem sX9_laysLines_9 : ab_X rom K cX9_laysLines 7 0 9 (v0 :: .int x :: ls) st hp = ab_X rom K cX9_laysLines 7 0 10 (v0 :: .int x :: ls) (.int x :: st) hp := ax_iload_n dX9_laysLines_9 rfl rfl
theorem dX9_laysLines_10 : decode cX9_laysLines 10 = .ok (.invokevirtual 64, 3) := by decide +kernel
theorem sX9_laysLines_10_0 : ab_X rom K cX9_laysLines 7 0 10 ls [w1, .ref a] hp = if ab_iso hp a 7 = true then (K 209 (.ref a :: [w1]) hp).bind (fun o => ab_X rom K cX9_laysLines 7 0 13 ls (o.1.toList ++ []) o.2) else none := ay_virtual (as := [w1]) (st := []) dX9_laysLines_10 kc_7_64 rfl rfl (Nat.le_of_ble_eq_true rfl)
theorem sX9_laysLines_10_1 : ab_X rom K cX9_laysLines 7 0 10 ls [w1, .ref a, v0] hp = if ab_iso hp a 7 = true then (K 209 (.ref a :: [w1]) hp).bind (fun o => ab_X rom K cX9_laysLines 7 0 13 ls (o.1.toList ++ [v0]) o.2) else none := ay_virtual (as := [w1]) (st := [v0]) dX9_laysLines_10 kc_7_64 rfl rfl (Nat.le_of_ble_eq_true rfl)
theorem sX9_laysLines_10_2 : ab_X rom K cX9_laysLines 7 0 10 ls [w1, .ref a, v0, v1] hp = if ab_iso hp a 7 = true then (K 209 (.ref a :: [w1]) hp).bind (fun o => ab_X rom K cX9_laysLines 7 0 13 ls (o.1.toList ++ [v0, v1]) o.2) else none := ay_virtual (as := [w1]) (st := [v0, v1]) dX9_laysLines_10 kc_7_64 rfl rfl (Nat.le_of_ble_eq_true rfl)
theorem sX9_laysLines_10_3 : ab_X rom K cX9_laysLines 7 0 10 ls [w1, .ref a, v0, v1, v2] hp = if ab_iso hp a 7 = true then (K 209 (.ref a :: [w1]) hp).bind (fun o => ab_X rom K cX9_laysLines 7 0 13 ls (o.1.toList ++ [v0, v1, v2]) o.2) else none := ay_virtual (as := [w1]) (st := [v0, v1, v2]) dX9_laysLines_10 kc_7_64 rfl rfl (Nat.le_of_ble_eq_true rfl)
theorem dX9_laysLines_13 : decode cX9_laysLines 13 = .ok (.if_icmp .ge 68, 3) := by decide +kernel
theorem sX9_laysLines_13 : ab_X rom K cX9_laysLines 7 0 13 ls (.int y :: .int x :: st) hp = if x < y then ab_X rom K cX9_laysLines 7 0 16 ls st hp else ab_X rom K cX9_laysLines 7 0 81 ls st hp := ax_icmp_ge dX9_laysLines_13 (by decide) rfl
theorem dX9_laysLines_16 : decode cX9_laysLines 16 = .ok (.iload_n 2, 1) := by decide +kernel
theorem sX9_laysLines_16 : ab_X rom K cX9_laysLines 7 0 16 (v0 :: v1 :: .int x :: ls) st hp = ab_X rom K cX9_laysLines 7 0 17 (v0 :: v1 :: .int x :: ls) (.int x :: st) hp := ax_iload_n dX9_laysLines_16 rfl rfl
theorem dX9_laysLines_17 : decode cX9_laysLines 17 = .ok (.iconst 1, 1) := by decide +kernel
theorem sX9_laysLines_17 : ab_X rom K cX9_laysLines 7 0 17 ls st hp = ab_X rom K cX9_laysLines 7 0 18 ls (.int 1 :: st) hp := ax_iconst dX9_laysLines_17 (by decide) rfl
theorem dX9_laysLines_18 : decode cX9_laysLines 18 = .ok (.iadd, 1) := by decide +kernel
theorem sX9_laysLines_18 : ab_X rom K cX9_laysLines 7 0 18 ls (.int y :: .int x :: st) hp = ab_X rom K cX9_laysLines 7 0 19 ls (.int (x + y) :: st) hp := ax_iadd dX9_laysLines_18 rfl
theorem dX9_laysLines_19 : decode cX9_laysLines 19 = .ok (.istore_n 3, 1) := by decide +kernel
theorem sX9_laysLines_19i : ab_X rom K cX9_laysLines 7 0 19 (v0 :: v1 :: .int y :: v3 :: ls) (.int x :: st) hp = ab_X rom K cX9_laysLines 7 0 20 (v0 :: v1 :: .int y :: .int x :: ls) st hp := ax_istore_n dX9_laysLines_19 (ax_lt (v := v3) rfl) (ab_nl_c1 (j := 2) (v := .int y) rfl (ab_c1_int _)) rfl rfl
theorem sX9_laysLines_19r : ab_X rom K cX9_laysLines 7 0 19 (v0 :: v1 :: .ref a2 :: v3 :: ls) (.int x :: st) hp = ab_X rom K cX9_laysLines 7 0 20 (v0 :: v1 :: .ref a2 :: .int x :: ls) st hp := ax_istore_n dX9_laysLines_19 (ax_lt (v := v3) rfl) (ab_nl_c1 (j := 2) (v := .ref a2) rfl (ab_c1_ref _)) rfl rfl
theorem sX9_laysLines_19n : ab_X rom K cX9_laysLines 7 0 19 (v0 :: v1 :: .null :: v3 :: ls) (.int x :: st) hp = ab_X rom K cX9_laysLines 7 0 20 (v0 :: v1 :: .null :: .int x :: ls) st hp := ax_istore_n dX9_laysLines_19 (ax_lt (v := v3) rfl) (ab_nl_c1 (j := 2) (v := .null) rfl ab_c1_null) rfl rfl
theorem dX9_laysLines_20 : decode cX9_laysLines 20 = .ok (.iload_n 3, 1) := by decide +kernel
theorem sX9_laysLines_20 : ab_X rom K cX9_laysLines 7 0 20 (v0 :: v1 :: v2 :: .int x :: ls) st hp = ab_X rom K cX9_laysLines 7 0 21 (v0 :: v1 :: v2 :: .int x :: ls) (.int x :: st) hp := ax_iload_n dX9_laysLines_20 rfl rfl
theorem dX9_laysLines_21 : decode cX9_laysLines 21 = .ok (.aload_n 0, 1) := by decide +kernel
theorem sX9_laysLines_21 : ab_X rom K cX9_laysLines 7 0 21 (.ref a :: ls) st hp = ab_X rom K cX9_laysLines 7 0 22 (.ref a :: ls) (.ref a :: st) hp := ax_aload_n dX9_laysLines_21 rfl rfl
theorem dX9_laysLines_22 : decode cX9_laysLines 22 = .ok (.iload_n 1, 1) := by decide +kernel
theorem sX9_laysLines_22 : ab_X rom K cX9_laysLines 7 0 22 (v0 :: .int x :: ls) st hp = ab_X rom K cX9_laysLines 7 0 23 (v0 :: .int x :: ls) (.int x :: st) hp := ax_iload_n dX9_laysLines_22 rfl rfl
theorem dX9_laysLines_23 : decode cX9_laysLines 23 = .ok (.invokevirtual 64, 3) := by decide +kernel
theorem sX9_laysLines_23_0 : ab_X rom K cX9_laysLines 7 0 23 ls [w1, .ref a] hp = if ab_iso hp a 7 = true then (K 209 (.ref a :: [w1]) hp).bind (fun o => ab_X rom K cX9_laysLines 7 0 26 ls (o.1.toList ++ []) o.2) else none := ay_virtual (as := [w1]) (st := []) dX9_laysLines_23 kc_7_64 rfl rfl (Nat.le_of_ble_eq_true rfl)
theorem sX9_laysLines_23_1 : ab_X rom K cX9_laysLines 7 0 23 ls [w1, .ref a, v0] hp = if ab_iso hp a 7 = true then (K 209 (.ref a :: [w1]) hp).bind (fun o => ab_X rom K cX9_laysLines 7 0 26 ls (o.1.toList ++ [v0]) o.2) else none := ay_virtual (as := [w1]) (st := [v0]) dX9_laysLines_23 kc_7_64 rfl rfl (Nat.le_of_ble_eq_true rfl)
theorem sX9_laysLines_23_2 : ab_X rom K cX9_laysLines 7 0 23 ls [w1, .ref a, v0, v1] hp = if ab_iso hp a 7 = true then (K 209 (.ref a :: [w1]) hp).bind (fun o => ab_X rom K cX9_laysLines 7 0 26 ls (o.1.toList ++ [v0, v1]) o.2) else none := ay_virtual (as := [w1]) (st := [v0, v1]) dX9_laysLines_23 kc_7_64 rfl rfl (Nat.le_of_ble_eq_true rfl)
theorem sX9_laysLines_23_3 : ab_X rom K cX9_laysLines 7 0 23 ls [w1, .ref a, v0, v1, v2] hp = if ab_iso hp a 7 = true then (K 209 (.ref a :: [w1]) hp).bind (fun o => ab_X rom K cX9_laysLines 7 0 26 ls (o.1.toList ++ [v0, v1, v2]) o.2) else none := ay_virtual (as := [w1]) (st := [v0, v1, v2]) dX9_laysLines_23 kc_7_64 rfl rfl (Nat.le_of_ble_eq_true rfl)
theorem dX9_laysLines_26 : decode cX9_laysLines 26 = .ok (.if_icmp .ge 49, 3) := by decide +kernel
theorem sX9_laysLines_26 : ab_X rom K cX9_laysLines 7 0 26 ls (.int y :: .int x :: st) hp = if x < y then ab_X rom K cX9_laysLines 7 0 29 ls st hp else ab_X rom K cX9_laysLines 7 0 75 ls st hp := ax_icmp_ge dX9_laysLines_26 (by decide) rfl
theorem dX9_laysLines_29 : decode cX9_laysLines 29 = .ok (.aload_n 0, 1) := by decide +kernel
theorem sX9_laysLines_29 : ab_X rom K cX9_laysLines 7 0 29 (.ref a :: ls) st hp = ab_X rom K cX9_laysLines 7 0 30 (.ref a :: ls) (.ref a :: st) hp := ax_aload_n dX9_laysLines_29 rfl rfl
theorem dX9_laysLines_30 : decode cX9_laysLines 30 = .ok (.iload_n 1, 1) := by decide +kernel
theorem sX9_laysLines_30 : ab_X rom K cX9_laysLines 7 0 30 (v0 :: .int x :: ls) st hp = ab_X rom K cX9_laysLines 7 0 31 (v0 :: .int x :: ls) (.int x :: st) hp := ax_iload_n dX9_laysLines_30 rfl rfl
theorem dX9_laysLines_31 : decode cX9_laysLines 31 = .ok (.iload_n 2, 1) := by decide +kernel
theorem sX9_laysLines_31 : ab_X rom K cX9_laysLines 7 0 31 (v0 :: v1 :: .int x :: ls) st hp = ab_X rom K cX9_laysLines 7 0 32 (v0 :: v1 :: .int x :: ls) (.int x :: st) hp := ax_iload_n dX9_laysLines_31 rfl rfl
theorem dX9_laysLines_32 : decode cX9_laysLines 32 = .ok (.iload_n 3, 1) := by decide +kernel
theorem sX9_laysLines_32 : ab_X rom K cX9_laysLines 7 0 32 (v0 :: v1 :: v2 :: .int x :: ls) st hp = ab_X rom K cX9_laysLines 7 0 33 (v0 :: v1 :: v2 :: .int x :: ls) (.int x :: st) hp := ax_iload_n dX9_laysLines_32 rfl rfl
theorem dX9_laysLines_33 : decode cX9_laysLines 33 = .ok (.invokevirtual 160, 3) := by decide +kernel
theorem sX9_laysLines_33_0 : ab_X rom K cX9_laysLines 7 0 33 ls [w3, w2, w1, .ref a] hp = if ab_iso hp a 7 = true then (K 135 (.ref a :: [w1, w2, w3]) hp).bind (fun o => ab_X rom K cX9_laysLines 7 0 36 ls (o.1.toList ++ []) o.2) else none := ay_virtual (as := [w1, w2, w3]) (st := []) dX9_laysLines_33 kc_7_160 rfl rfl (Nat.le_of_ble_eq_true rfl)
theorem sX9_laysLines_33_1 : ab_X rom K cX9_laysLines 7 0 33 ls [w3, w2, w1, .ref a, v0] hp = if ab_iso hp a 7 = true then (K 135 (.ref a :: [w1, w2, w3]) hp).bind (fun o => ab_X rom K cX9_laysLines 7 0 36 ls (o.1.toList ++ [v0]) o.2) else none := ay_virtual (as := [w1, w2, w3]) (st := [v0]) dX9_laysLines_33 kc_7_160 rfl rfl (Nat.le_of_ble_eq_true rfl)
theorem sX9_laysLines_33_2 : ab_X rom K cX9_laysLines 7 0 33 ls [w3, w2, w1, .ref a, v0, v1] hp = if ab_iso hp a 7 = true then (K 135 (.ref a :: [w1, w2, w3]) hp).bind (fun o => ab_X rom K cX9_laysLines 7 0 36 ls (o.1.toList ++ [v0, v1]) o.2) else none := ay_virtual (as := [w1, w2, w3]) (st := [v0, v1]) dX9_laysLines_33 kc_7_160 rfl rfl (Nat.le_of_ble_eq_true rfl)
theorem sX9_laysLines_33_3 : ab_X rom K cX9_laysLines 7 0 33 ls [w3, w2, w1, .ref a, v0, v1, v2] hp = if ab_iso hp a 7 = true then (K 135 (.ref a :: [w1, w2, w3]) hp).bind (fun o => ab_X rom K cX9_laysLines 7 0 36 ls (o.1.toList ++ [v0, v1, v2]) o.2) else none := ay_virtual (as := [w1, w2, w3]) (st := [v0, v1, v2]) dX9_laysLines_33 kc_7_160 rfl rfl (Nat.le_of_ble_eq_true rfl)
theorem dX9_laysLines_36 : decode cX9_laysLines 36 = .ok (.ifCond .eq 33, 3) := by decide +kernel
theorem sX9_laysLines_36 : ab_X rom K cX9_laysLines 7 0 36 ls (.int x :: st) hp = if x = 0 then ab_X rom K cX9_laysLines 7 0 69 ls st hp else ab_X rom K cX9_laysLines 7 0 39 ls st hp := ax_if_eq dX9_laysLines_36 (by decide) rfl
theorem dX9_laysLines_39 : decode cX9_laysLines 39 = .ok (.aload_n 0, 1) := by decide +kernel
theorem sX9_laysLines_39 : ab_X rom K cX9_laysLines 7 0 39 (.ref a :: ls) st hp = ab_X rom K cX9_laysLines 7 0 40 (.ref a :: ls) (.ref a :: st) hp := ax_aload_n dX9_laysLines_39 rfl rfl
theorem dX9_laysLines_40 : decode cX9_laysLines 40 = .ok (.getfield 26, 3) := by decide +kernel
theorem sX9_laysLines_40 : ab_X rom K cX9_laysLines 7 0 40 ls (.ref a :: st) hp = (ab_fld hp a 7 13).bind (fun v => ab_X rom K cX9_laysLines 7 0 43 ls (v :: st) hp) := ax_getfield dX9_laysLines_40 kf_7_26 rfl
theorem dX9_laysLines_43 : decode cX9_laysLines 43 = .ok (.aload_n 0, 1) := by decide +kernel
theorem sX9_laysLines_43 : ab_X rom K cX9_laysLines 7 0 43 (.ref a :: ls) st hp = ab_X rom K cX9_laysLines 7 0 44 (.ref a :: ls) (.ref a :: st) hp := ax_aload_n dX9_laysLines_43 rfl rfl
theorem dX9_laysLines_44 : decode cX9_laysLines 44 = .ok (.getfield 210, 3) := by decide +kernel
theorem sX9_laysLines_44 : ab_X rom K cX9_laysLines 7 0 44 ls (.ref a :: st) hp = (ab_fld hp a 7 15).bind (fun v => ab_X rom K cX9_laysLines 7 0 47 ls (v :: st) hp) := ax_getfield dX9_laysLines_44 kf_7_210 rfl
theorem dX9_laysLines_47 : decode cX9_laysLines 47 = .ok (.iload_n 2, 1) := by decide +kernel
theorem sX9_laysLines_47 : ab_X rom K cX9_laysLines 7 0 47 (v0 :: v1 :: .int x :: ls) st hp = ab_X rom K cX9_laysLines 7 0 48 (v0 :: v1 :: .int x :: ls) (.int x :: st) hp := ax_iload_n dX9_laysLines_47 rfl rfl
theorem dX9_laysLines_48 : decode cX9_laysLines 48 = .ok (.iastore, 1) := by decide +kernel
theorem sX9_laysLines_48 : ab_X rom K cX9_laysLines 7 0 48 ls (.int y :: .int x :: .ref a :: st) hp = (ab_awr 0 hp a x y).bind (fun hp' => ab_X rom K cX9_laysLines 7 0 49 ls st hp') := ax_iastore dX9_laysLines_48 rfl
theorem dX9_laysLines_49 : decode cX9_laysLines 49 = .ok (.aload_n 0, 1) := by decide +kernel
theorem sX9_laysLines_49 : ab_X rom K cX9_laysLines 7 0 49 (.ref a :: ls) st hp = ab_X rom K cX9_laysLines 7 0 50 (.ref a :: ls) (.ref a :: st) hp := ax_aload_n dX9_laysLines_49 rfl rfl
theorem dX9_laysLines_50 : decode cX9_laysLines 50 = .ok (.getfield 29, 3) := by decide +kernel
theorem sX9_laysLines_50 : ab_X rom K cX9_laysLines 7 0 50 ls (.ref a :: st) hp = (ab_fld hp a 7 14).bind (fun v => ab_X rom K cX9_laysLines 7 0 53 ls (v :: st) hp) := ax_getfield dX9_laysLines_50 kf_7_29 rfl
theorem dX9_laysLines_53 : decode cX9_laysLines 53 = .ok (.aload_n 0, 1) := by decide +kernel
theorem sX9_laysLines_53 : ab_X rom K cX9_laysLines 7 0 53 (.ref a :: ls) st hp = ab_X rom K cX9_laysLines 7 0 54 (.ref a :: ls) (.ref a :: st) hp := ax_aload_n dX9_laysLines_53 rfl rfl
theorem dX9_laysLines_54 : decode cX9_laysLines 54 = .ok (.getfield 210, 3) := by decide +kernel
theorem sX9_laysLines_54 : ab_X rom K cX9_laysLines 7 0 54 ls (.ref a :: st) hp = (ab_fld hp a 7 15).bind (fun v => ab_X rom K cX9_laysLines 7 0 57 ls (v :: st) hp) := ax_getfield dX9_laysLines_54 kf_7_210 rfl
theorem dX9_laysLines_57 : decode cX9_laysLines 57 = .ok (.iload_n 3, 1) := by decide +kernel
theorem sX9_laysLines_57 : ab_X rom K cX9_laysLines 7 0 57 (v0 :: v1 :: v2 :: .int x :: ls) st hp = ab_X rom K cX9_laysLines 7 0 58 (v0 :: v1 :: v2 :: .int x :: ls) (.int x :: st) hp := ax_iload_n dX9_laysLines_57 rfl rfl
theorem dX9_laysLines_58 : decode cX9_laysLines 58 = .ok (.iastore, 1) := by decide +kernel
theorem sX9_laysLines_58 : ab_X rom K cX9_laysLines 7 0 58 ls (.int y :: .int x :: .ref a :: st) hp = (ab_awr 0 hp a x y).bind (fun hp' => ab_X rom K cX9_laysLines 7 0 59 ls st hp') := ax_iastore dX9_laysLines_58 rfl
theorem dX9_laysLines_59 : decode cX9_laysLines 59 = .ok (.aload_n 0, 1) := by decide +kernel
theorem sX9_laysLines_59 : ab_X rom K cX9_laysLines 7 0 59 (.ref a :: ls) st hp = ab_X rom K cX9_laysLines 7 0 60 (.ref a :: ls) (.ref a :: st) hp := ax_aload_n dX9_laysLines_59 rfl rfl
theorem dX9_laysLines_60 : decode cX9_laysLines 60 = .ok (.dup, 1) := by decide +kernel
theorem sX9_laysLines_60i : ab_X rom K cX9_laysLines 7 0 60 ls (.int x :: st) hp = ab_X rom K cX9_laysLines 7 0 61 ls (.int x :: .int x :: st) hp := ax_dup dX9_laysLines_60 rfl (ab_c1_int _)
theorem sX9_laysLines_60r : ab_X rom K cX9_laysLines 7 0 60 ls (.ref a :: st) hp = ab_X rom K cX9_laysLines 7 0 61 ls (.ref a :: .ref a :: st) hp := ax_dup dX9_laysLines_60 rfl (ab_c1_ref _)
theorem dX9_laysLines_61 : decode cX9_laysLines 61 = .ok (.getfield 210, 3) := by decide +kernel
theorem sX9_laysLines_61 : ab_X rom K cX9_laysLines 7 0 61 ls (.ref a :: st) hp = (ab_fld hp a 7 15).bind (fun v => ab_X rom K cX9_laysLines 7 0 64 ls (v :: st) hp) := ax_getfield dX9_laysLines_61 kf_7_210 rfl
theorem dX9_laysLines_64 : decode cX9_laysLines 64 = .ok (.iconst 1, 1) := by decide +kernel
theorem sX9_laysLines_64 : ab_X rom K cX9_laysLines 7 0 64 ls st hp = ab_X rom K cX9_laysLines 7 0 65 ls (.int 1 :: st) hp := ax_iconst dX9_laysLines_64 (by decide) rfl
theorem dX9_laysLines_65 : decode cX9_laysLines 65 = .ok (.iadd, 1) := by decide +kernel
theorem sX9_laysLines_65 : ab_X rom K cX9_laysLines 7 0 65 ls (.int y :: .int x :: st) hp = ab_X rom K cX9_laysLines 7 0 66 ls (.int (x + y) :: st) hp := ax_iadd dX9_laysLines_65 rfl
theorem dX9_laysLines_66 : decode cX9_laysLines 66 = .ok (.putfield 210, 3) := by decide +kernel
theorem sX9_laysLines_66 : ab_X rom K cX9_laysLines 7 0 66 ls (.int x :: .ref a :: st) hp = (ab_fpt hp a 7 15 (.int x)).bind (fun hp' => ab_X rom K cX9_laysLines 7 0 69 ls st hp') := ax_putfield dX9_laysLines_66 kf_7_210 rfl (Or.inl rfl) rfl
theorem dX9_laysLines_69 : decode cX9_laysLines 69 = .ok (.iinc 3 1, 3) := by decide +kernel
theorem sX9_laysLines_69i : ab_X rom K cX9_laysLines 7 0 69 (v0 :: v1 :: .int y :: .int x :: ls) st hp = ab_X rom K cX9_laysLines 7 0 72 (v0 :: v1 :: .int y :: .int (x + 1) :: ls) st hp := ax_iinc dX9_laysLines_69 rfl (ab_nl_c1 (j := 2) (v := .int y) rfl (ab_c1_int _)) (by decide) rfl rfl
theorem sX9_laysLines_69r : ab_X rom K cX9_laysLines 7 0 69 (v0 :: v1 :: .ref a2 :: .int x :: ls) st hp = ab_X rom K cX9_laysLines 7 0 72 (v0 :: v1 :: .ref a2 :: .int (x + 1) :: ls) st hp := ax_iinc dX9_laysLines_69 rfl (ab_nl_c1 (j := 2) (v := .ref a2) rfl (ab_c1_ref _)) (by decide) rfl rfl
theorem sX9_laysLines_69n : ab_X rom K cX9_laysLines 7 0 69 (v0 :: v1 :: .null :: .int x :: ls) st hp = ab_X rom K cX9_laysLines 7 0 72 (v0 :: v1 :: .null :: .int (x + 1) :: ls) st hp := ax_iinc dX9_laysLines_69 rfl (ab_nl_c1 (j := 2) (v := .null) rfl ab_c1_null) (by decide) rfl rfl
theorem dX9_laysLines_72 : decode cX9_laysLines 72 = .ok (.goto (-52), 3) := by decide +kernel
theorem sX9_laysLines_72 : ab_X rom K cX9_laysLines 7 0 72 ls st hp = ab_X rom K cX9_laysLines 7 0 20 ls st hp := ax_goto dX9_laysLines_72 (by decide)
theorem dX9_laysLines_75 : decode cX9_laysLines 75 = .ok (.iinc 2 1, 3) := by decide +kernel
theorem sX9_laysLines_75i : ab_X rom K cX9_laysLines 7 0 75 (v0 :: .int y :: .int x :: ls) st hp = ab_X rom K cX9_laysLines 7 0 78 (v0 :: .int y :: .int (x + 1) :: ls) st hp := ax_iinc dX9_laysLines_75 rfl (ab_nl_c1 (j := 1) (v := .int y) rfl (ab_c1_int _)) (by decide) rfl rfl
theorem sX9_laysLines_75r : ab_X rom K cX9_laysLines 7 0 75 (v0 :: .ref a2 :: .int x :: ls) st hp = ab_X rom K cX9_laysLines 7 0 78 (v0 :: .ref a2 :: .int (x + 1) :: ls) st hp := ax_iinc dX9_laysLines_75 rfl (ab_nl_c1 (j := 1) (v := .ref a2) rfl (ab_c1_ref _)) (by decide) rfl rfl
theorem sX9_laysLines_75n : ab_X rom K cX9_laysLines 7 0 75 (v0 :: .null :: .int x :: ls) st hp = ab_X rom K cX9_laysLines 7 0 78 (v0 :: .null :: .int (x + 1) :: ls) st hp := ax_iinc dX9_laysLines_75 rfl (ab_nl_c1 (j := 1) (v := .null) rfl ab_c1_null) (by decide) rfl rfl
theorem dX9_laysLines_78 : decode cX9_laysLines 78 = .ok (.goto (-71), 3) := by decide +kernel
theorem sX9_laysLines_78 : ab_X rom K cX9_laysLines 7 0 78 ls st hp = ab_X rom K cX9_laysLines 7 0 7 ls st hp := ax_goto dX9_laysLines_78 (by decide)
theorem dX9_laysLines_81 : decode cX9_laysLines 81 = .ok (.return_, 1) := by decide +kernel
theorem sX9_laysLines_81 : ab_X rom K cX9_laysLines 7 0 81 ls [] hp = some (none, hp) := ax_vret dX9_laysLines_81 (by decide)
theorem tX9_laysNet : ab_mT[186]? = some (yX9_laysNet, cX9_laysNet, 2, 0, 7) := by decide +kernel
theorem mX9_laysNet {d : Nat} {a0 : Nat} {x0 : Int32} : ab_M rom (d + 1) 186 [.ref a0, .int x0] hp = ab_X rom (ab_M rom d) cX9_laysNet 7 0 0 [.ref a0, .int x0] [] hp := ab_M_eq tX9_laysNet (Nat.le_of_ble_eq_true rfl)
theorem dX9_laysNet_0 : decode cX9_laysNet 0 = .ok (.aload_n 0, 1) := by decide +kernel
theorem sX9_laysNet_0 : ab_X rom K cX9_laysNet 7 0 0 (.ref a :: ls) st hp = ab_X rom K cX9_laysNet 7 0 1 (.ref a :: ls) (.ref a :: st) hp := ax_aload_n dX9_laysNet_0 rfl rfl
theorem dX9_laysNet_1 : decode cX9_laysNet 1 = .ok (.iload_n 1, 1) := by decide +kernel
theorem sX9_laysNet_1 : ab_X rom K cX9_laysNet 7 0 1 (v0 :: .int x :: ls) st hp = ab_X rom K cX9_laysNet 7 0 2 (v0 :: .int x :: ls) (.int x :: st) hp := ax_iload_n dX9_laysNet_1 rfl rfl
theorem dX9_laysNet_2 : decode cX9_laysNet 2 = .ok (.invokevirtual 213, 3) := by decide +kernel
theorem sX9_laysNet_2_0 : ab_X rom K cX9_laysNet 7 0 2 ls [w1, .ref a] hp = if ab_iso hp a 7 = true then (K 185 (.ref a :: [w1]) hp).bind (fun o => ab_X rom K cX9_laysNet 7 0 5 ls (o.1.toList ++ []) o.2) else none := ay_virtual (as := [w1]) (st := []) dX9_laysNet_2 kc_7_213 rfl rfl (Nat.le_of_ble_eq_true rfl)
theorem sX9_laysNet_2_1 : ab_X rom K cX9_laysNet 7 0 2 ls [w1, .ref a, v0] hp = if ab_iso hp a 7 = true then (K 185 (.ref a :: [w1]) hp).bind (fun o => ab_X rom K cX9_laysNet 7 0 5 ls (o.1.toList ++ [v0]) o.2) else none := ay_virtual (as := [w1]) (st := [v0]) dX9_laysNet_2 kc_7_213 rfl rfl (Nat.le_of_ble_eq_true rfl)
theorem sX9_laysNet_2_2 : ab_X rom K cX9_laysNet 7 0 2 ls [w1, .ref a, v0, v1] hp = if ab_iso hp a 7 = true then (K 185 (.ref a :: [w1]) hp).bind (fun o => ab_X rom K cX9_laysNet 7 0 5 ls (o.1.toList ++ [v0, v1]) o.2) else none := ay_virtual (as := [w1]) (st := [v0, v1]) dX9_laysNet_2 kc_7_213 rfl rfl (Nat.le_of_ble_eq_true rfl)
theorem sX9_laysNet_2_3 : ab_X rom K cX9_laysNet 7 0 2 ls [w1, .ref a, v0, v1, v2] hp = if ab_iso hp a 7 = true then (K 185 (.ref a :: [w1]) hp).bind (fun o => ab_X rom K cX9_laysNet 7 0 5 ls (o.1.toList ++ [v0, v1, v2]) o.2) else none := ay_virtual (as := [w1]) (st := [v0, v1, v2]) dX9_laysNet_2 kc_7_213 rfl rfl (Nat.le_of_ble_eq_true rfl)
theorem dX9_laysNet_5 : decode cX9_laysNet 5 = .ok (.aload_n 0, 1) := by decide +kernel
theorem sX9_laysNet_5 : ab_X rom K cX9_laysNet 7 0 5 (.ref a :: ls) st hp = ab_X rom K cX9_laysNet 7 0 6 (.ref a :: ls) (.ref a :: st) hp := ax_aload_n dX9_laysNet_5 rfl rfl
theorem dX9_laysNet_6 : decode cX9_laysNet 6 = .ok (.aload_n 0, 1) := by decide +kernel
theorem sX9_laysNet_6 : ab_X rom K cX9_laysNet 7 0 6 (.ref a :: ls) st hp = ab_X rom K cX9_laysNet 7 0 7 (.ref a :: ls) (.ref a :: st) hp := ax_aload_n dX9_laysNet_6 rfl rfl
theorem dX9_laysNet_7 : decode cX9_laysNet 7 = .ok (.iload_n 1, 1) := by decide +kernel
theorem sX9_laysNet_7 : ab_X rom K cX9_laysNet 7 0 7 (v0 :: .int x :: ls) st hp = ab_X rom K cX9_laysNet 7 0 8 (v0 :: .int x :: ls) (.int x :: st) hp := ax_iload_n dX9_laysNet_7 rfl rfl
theorem dX9_laysNet_8 : decode cX9_laysNet 8 = .ok (.invokevirtual 64, 3) := by decide +kernel
theorem sX9_laysNet_8_0 : ab_X rom K cX9_laysNet 7 0 8 ls [w1, .ref a] hp = if ab_iso hp a 7 = true then (K 209 (.ref a :: [w1]) hp).bind (fun o => ab_X rom K cX9_laysNet 7 0 11 ls (o.1.toList ++ []) o.2) else none := ay_virtual (as := [w1]) (st := []) dX9_laysNet_8 kc_7_64 rfl rfl (Nat.le_of_ble_eq_true rfl)
theorem sX9_laysNet_8_1 : ab_X rom K cX9_laysNet 7 0 8 ls [w1, .ref a, v0] hp = if ab_iso hp a 7 = true then (K 209 (.ref a :: [w1]) hp).bind (fun o => ab_X rom K cX9_laysNet 7 0 11 ls (o.1.toList ++ [v0]) o.2) else none := ay_virtual (as := [w1]) (st := [v0]) dX9_laysNet_8 kc_7_64 rfl rfl (Nat.le_of_ble_eq_true rfl)
theorem sX9_laysNet_8_2 : ab_X rom K cX9_laysNet 7 0 8 ls [w1, .ref a, v0, v1] hp = if ab_iso hp a 7 = true then (K 209 (.ref a :: [w1]) hp).bind (fun o => ab_X rom K cX9_laysNet 7 0 11 ls (o.1.toList ++ [v0, v1]) o.2) else none := ay_virtual (as := [w1]) (st := [v0, v1]) dX9_laysNet_8 kc_7_64 rfl rfl (Nat.le_of_ble_eq_true rfl)
theorem sX9_laysNet_8_3 : ab_X rom K cX9_laysNet 7 0 8 ls [w1, .ref a, v0, v1, v2] hp = if ab_iso hp a 7 = true then (K 209 (.ref a :: [w1]) hp).bind (fun o => ab_X rom K cX9_laysNet 7 0 11 ls (o.1.toList ++ [v0, v1, v2]) o.2) else none := ay_virtual (as := [w1]) (st := [v0, v1, v2]) dX9_laysNet_8 kc_7_64 rfl rfl (Nat.le_of_ble_eq_true rfl)
theorem dX9_laysNet_11 : decode cX9_laysNet 11 = .ok (.putfield 235, 3) := by decide +kernel
theorem sX9_laysNet_11 : ab_X rom K cX9_laysNet 7 0 11 ls (.int x :: .ref a :: st) hp = (ab_fpt hp a 7 17 (.int x)).bind (fun hp' => ab_X rom K cX9_laysNet 7 0 14 ls st hp') := ax_putfield dX9_laysNet_11 kf_7_235 rfl (Or.inl rfl) rfl
theorem dX9_laysNet_14 : decode cX9_laysNet 14 = .ok (.aload_n 0, 1) := by decide +kernel
theorem sX9_laysNet_14 : ab_X rom K cX9_laysNet 7 0 14 (.ref a :: ls) st hp = ab_X rom K cX9_laysNet 7 0 15 (.ref a :: ls) (.ref a :: st) hp := ax_aload_n dX9_laysNet_14 rfl rfl
theorem dX9_laysNet_15 : decode cX9_laysNet 15 = .ok (.aload_n 0, 1) := by decide +kernel
theorem sX9_laysNet_15 : ab_X rom K cX9_laysNet 7 0 15 (.ref a :: ls) st hp = ab_X rom K cX9_laysNet 7 0 16 (.ref a :: ls) (.ref a :: st) hp := ax_aload_n dX9_laysNet_15 rfl rfl
theorem dX9_laysNet_16 : decode cX9_laysNet 16 = .ok (.iload_n 1, 1) := by decide +kernel
theorem sX9_laysNet_16 : ab_X rom K cX9_laysNet 7 0 16 (v0 :: .int x :: ls) st hp = ab_X rom K cX9_laysNet 7 0 17 (v0 :: .int x :: ls) (.int x :: st) hp := ax_iload_n dX9_laysNet_16 rfl rfl
theorem dX9_laysNet_17 : decode cX9_laysNet 17 = .ok (.invokevirtual 200, 3) := by decide +kernel
theorem sX9_laysNet_17_0 : ab_X rom K cX9_laysNet 7 0 17 ls [w1, .ref a] hp = if ab_iso hp a 7 = true then (K 176 (.ref a :: [w1]) hp).bind (fun o => ab_X rom K cX9_laysNet 7 0 20 ls (o.1.toList ++ []) o.2) else none := ay_virtual (as := [w1]) (st := []) dX9_laysNet_17 kc_7_200 rfl rfl (Nat.le_of_ble_eq_true rfl)
theorem sX9_laysNet_17_1 : ab_X rom K cX9_laysNet 7 0 17 ls [w1, .ref a, v0] hp = if ab_iso hp a 7 = true then (K 176 (.ref a :: [w1]) hp).bind (fun o => ab_X rom K cX9_laysNet 7 0 20 ls (o.1.toList ++ [v0]) o.2) else none := ay_virtual (as := [w1]) (st := [v0]) dX9_laysNet_17 kc_7_200 rfl rfl (Nat.le_of_ble_eq_true rfl)
theorem sX9_laysNet_17_2 : ab_X rom K cX9_laysNet 7 0 17 ls [w1, .ref a, v0, v1] hp = if ab_iso hp a 7 = true then (K 176 (.ref a :: [w1]) hp).bind (fun o => ab_X rom K cX9_laysNet 7 0 20 ls (o.1.toList ++ [v0, v1]) o.2) else none := ay_virtual (as := [w1]) (st := [v0, v1]) dX9_laysNet_17 kc_7_200 rfl rfl (Nat.le_of_ble_eq_true rfl)
theorem sX9_laysNet_17_3 : ab_X rom K cX9_laysNet 7 0 17 ls [w1, .ref a, v0, v1, v2] hp = if ab_iso hp a 7 = true then (K 176 (.ref a :: [w1]) hp).bind (fun o => ab_X rom K cX9_laysNet 7 0 20 ls (o.1.toList ++ [v0, v1, v2]) o.2) else none := ay_virtual (as := [w1]) (st := [v0, v1, v2]) dX9_laysNet_17 kc_7_200 rfl rfl (Nat.le_of_ble_eq_true rfl)
theorem dX9_laysNet_20 : decode cX9_laysNet 20 = .ok (.putfield 238, 3) := by decide +kernel
theorem sX9_laysNet_20 : ab_X rom K cX9_laysNet 7 0 20 ls (.int x :: .ref a :: st) hp = if x = 0 ∨ x = 1 then (ab_fpt hp a 7 18 (.int x)).bind (fun hp' => ab_X rom K cX9_laysNet 7 0 23 ls st hp') else none := ay_putbool dX9_laysNet_20 kf_7_238 rfl
theorem dX9_laysNet_23 : decode cX9_laysNet 23 = .ok (.return_, 1) := by decide +kernel
theorem sX9_laysNet_23 : ab_X rom K cX9_laysNet 7 0 23 ls [] hp = some (none, hp) := ax_vret dX9_laysNet_23 (by decide)
theorem tX9_line : ab_mT[187]? = some (yX9_line, cX9_line, 4, 1, 7) := by decide +kernel
theorem mX9_line {d : Nat} {a0 : Nat} {x0 : Int32} {x1 : Int32} {x2 : Int32} : ab_M rom (d + 1) 187 [.ref a0, .int x0, .int x1, .int x2] hp = ab_X rom (ab_M rom d) cX9_line 7 1 0 [.ref a0, .int x0, .int x1, .int x2] [] hp := ab_M_eq tX9_line (Nat.le_of_ble_eq_true rfl)
theorem dX9_line_0 : decode cX9_line 0 = .ok (.aload_n 0, 1) := by decide +kernel
theorem sX9_line_0 : ab_X rom K cX9_line 7 1 0 (.ref a :: ls) st hp = ab_X rom K cX9_line 7 1 1 (.ref a :: ls) (.ref a :: st) hp := ax_aload_n dX9_line_0 rfl rfl
theorem dX9_line_1 : decode cX9_line 1 = .ok (.iload_n 1, 1) := by decide +kernel
theorem sX9_line_1 : ab_X rom K cX9_line 7 1 1 (v0 :: .int x :: ls) st hp = ab_X rom K cX9_line 7 1 2 (v0 :: .int x :: ls) (.int x :: st) hp := ax_iload_n dX9_line_1 rfl rfl
theorem dX9_line_2 : decode cX9_line 2 = .ok (.invokevirtual 68, 3) := by decide +kernel
theorem sX9_line_2_0 : ab_X rom K cX9_line 7 1 2 ls [w1, .ref a] hp = if ab_iso hp a 7 = true then (K 171 (.ref a :: [w1]) hp).bind (fun o => ab_X rom K cX9_line 7 1 5 ls (o.1.toList ++ []) o.2) else none := ay_virtual (as := [w1]) (st := []) dX9_line_2 kc_7_68 rfl rfl (Nat.le_of_ble_eq_true rfl)
theorem sX9_line_2_1 : ab_X rom K cX9_line 7 1 2 ls [w1, .ref a, v0] hp = if ab_iso hp a 7 = true then (K 171 (.ref a :: [w1]) hp).bind (fun o => ab_X rom K cX9_line 7 1 5 ls (o.1.toList ++ [v0]) o.2) else none := ay_virtual (as := [w1]) (st := [v0]) dX9_line_2 kc_7_68 rfl rfl (Nat.le_of_ble_eq_true rfl)
theorem sX9_line_2_2 : ab_X rom K cX9_line 7 1 2 ls [w1, .ref a, v0, v1] hp = if ab_iso hp a 7 = true then (K 171 (.ref a :: [w1]) hp).bind (fun o => ab_X rom K cX9_line 7 1 5 ls (o.1.toList ++ [v0, v1]) o.2) else none := ay_virtual (as := [w1]) (st := [v0, v1]) dX9_line_2 kc_7_68 rfl rfl (Nat.le_of_ble_eq_true rfl)
theorem sX9_line_2_3 : ab_X rom K cX9_line 7 1 2 ls [w1, .ref a, v0, v1, v2] hp = if ab_iso hp a 7 = true then (K 171 (.ref a :: [w1]) hp).bind (fun o => ab_X rom K cX9_line 7 1 5 ls (o.1.toList ++ [v0, v1, v2]) o.2) else none := ay_virtual (as := [w1]) (st := [v0, v1, v2]) dX9_line_2 kc_7_68 rfl rfl (Nat.le_of_ble_eq_true rfl)
theorem dX9_line_5 : decode cX9_line 5 = .ok (.ifCond .eq 17, 3) := by decide +kernel
theorem sX9_line_5 : ab_X rom K cX9_line 7 1 5 ls (.int x :: st) hp = if x = 0 then ab_X rom K cX9_line 7 1 22 ls st hp else ab_X rom K cX9_line 7 1 8 ls st hp := ax_if_eq dX9_line_5 (by decide) rfl
theorem dX9_line_8 : decode cX9_line 8 = .ok (.iload_n 2, 1) := by decide +kernel
theorem sX9_line_8 : ab_X rom K cX9_line 7 1 8 (v0 :: v1 :: .int x :: ls) st hp = ab_X rom K cX9_line 7 1 9 (v0 :: v1 :: .int x :: ls) (.int x :: st) hp := ax_iload_n dX9_line_8 rfl rfl
theorem dX9_line_9 : decode cX9_line 9 = .ok (.ifCond .lt 13, 3) := by decide +kernel
theorem sX9_line_9 : ab_X rom K cX9_line 7 1 9 ls (.int x :: st) hp = if x < 0 then ab_X rom K cX9_line 7 1 22 ls st hp else ab_X rom K cX9_line 7 1 12 ls st hp := ax_if_lt dX9_line_9 (by decide) rfl
theorem dX9_line_12 : decode cX9_line 12 = .ok (.iload_n 3, 1) := by decide +kernel
theorem sX9_line_12 : ab_X rom K cX9_line 7 1 12 (v0 :: v1 :: v2 :: .int x :: ls) st hp = ab_X rom K cX9_line 7 1 13 (v0 :: v1 :: v2 :: .int x :: ls) (.int x :: st) hp := ax_iload_n dX9_line_12 rfl rfl
theorem dX9_line_13 : decode cX9_line 13 = .ok (.i2l, 1) := by decide +kernel
theorem sX9_line_13 : ab_X rom K cX9_line 7 1 13 ls (.int x :: st) hp = ab_X rom K cX9_line 7 1 14 ls (.long x.toInt64 :: st) hp := ax_i2l dX9_line_13 rfl
theorem dX9_line_14 : decode cX9_line 14 = .ok (.lconst 0, 1) := by decide +kernel
theorem sX9_line_14 : ab_X rom K cX9_line 7 1 14 ls st hp = ab_X rom K cX9_line 7 1 15 ls (.long 0 :: st) hp := ax_lconst dX9_line_14 (by decide) rfl
theorem dX9_line_15 : decode cX9_line 15 = .ok (.lconst 1, 1) := by decide +kernel
theorem sX9_line_15 : ab_X rom K cX9_line 7 1 15 ls st hp = ab_X rom K cX9_line 7 1 16 ls (.long 1 :: st) hp := ax_lconst dX9_line_15 (by decide) rfl
theorem dX9_line_16 : decode cX9_line 16 = .ok (.invokestatic 56, 3) := by decide +kernel
theorem sX9_line_16_0 : ab_X rom K cX9_line 7 1 16 ls [w3, w2, w1] hp = (K 159 [w1, w2, w3] hp).bind (fun o => ab_X rom K cX9_line 7 1 19 ls (o.1.toList ++ []) o.2) := ax_static (as := [w1, w2, w3]) (st := []) dX9_line_16 kc_7_56 rfl rfl (Nat.le_of_ble_eq_true rfl)
theorem sX9_line_16_1 : ab_X rom K cX9_line 7 1 16 ls [w3, w2, w1, v0] hp = (K 159 [w1, w2, w3] hp).bind (fun o => ab_X rom K cX9_line 7 1 19 ls (o.1.toList ++ [v0]) o.2) := ax_static (as := [w1, w2, w3]) (st := [v0]) dX9_line_16 kc_7_56 rfl rfl (Nat.le_of_ble_eq_true rfl)
theorem sX9_line_16_2 : ab_X rom K cX9_line 7 1 16 ls [w3, w2, w1, v0, v1] hp = (K 159 [w1, w2, w3] hp).bind (fun o => ab_X rom K cX9_line 7 1 19 ls (o.1.toList ++ [v0, v1]) o.2) := ax_static (as := [w1, w2, w3]) (st := [v0, v1]) dX9_line_16 kc_7_56 rfl rfl (Nat.le_of_ble_eq_true rfl)
theorem sX9_line_16_3 : ab_X rom K cX9_line 7 1 16 ls [w3, w2, w1, v0, v1, v2] hp = (K 159 [w1, w2, w3] hp).bind (fun o => ab_X rom K cX9_line 7 1 19 ls (o.1.toList ++ [v0, v1, v2]) o.2) := ax_static (as := [w1, w2, w3]) (st := [v0, v1, v2]) dX9_line_16 kc_7_56 rfl rfl (Nat.le_of_ble_eq_true rfl)
theorem dX9_line_19 : decode cX9_line 19 = .ok (.ifCond .ne 6, 3) := by decide +kernel
theorem sX9_line_19 : ab_X rom K cX9_line 7 1 19 ls (.int x :: st) hp = if x = 0 then ab_X rom K cX9_line 7 1 22 ls st hp else ab_X rom K cX9_line 7 1 25 ls st hp := ax_if_ne dX9_line_19 (by decide) rfl
theorem dX9_line_22 : decode cX9_line 22 = .ok (.bipush (-2), 2) := by decide +kernel
theorem sX9_line_22 : ab_X rom K cX9_line 7 1 22 ls st hp = ab_X rom K cX9_line 7 1 24 ls (.int (-2) :: st) hp := ax_bipush dX9_line_22 (by decide) rfl
theorem dX9_line_24 : decode cX9_line 24 = .ok (.ireturn, 1) := by decide +kernel
theorem sX9_line_24 : ab_X rom K cX9_line 7 1 24 ls [.int x] hp = some (some (.int x), hp) := ax_iret dX9_line_24 rfl
theorem dX9_line_25 : decode cX9_line 25 = .ok (.aload_n 0, 1) := by decide +kernel
theorem sX9_line_25 : ab_X rom K cX9_line 7 1 25 (.ref a :: ls) st hp = ab_X rom K cX9_line 7 1 26 (.ref a :: ls) (.ref a :: st) hp := ax_aload_n dX9_line_25 rfl rfl
theorem dX9_line_26 : decode cX9_line 26 = .ok (.iload_n 1, 1) := by decide +kernel
theorem sX9_line_26 : ab_X rom K cX9_line 7 1 26 (v0 :: .int x :: ls) st hp = ab_X rom K cX9_line 7 1 27 (v0 :: .int x :: ls) (.int x :: st) hp := ax_iload_n dX9_line_26 rfl rfl
theorem dX9_line_27 : decode cX9_line 27 = .ok (.invokevirtual 213, 3) := by decide +kernel
theorem sX9_line_27_0 : ab_X rom K cX9_line 7 1 27 ls [w1, .ref a] hp = if ab_iso hp a 7 = true then (K 185 (.ref a :: [w1]) hp).bind (fun o => ab_X rom K cX9_line 7 1 30 ls (o.1.toList ++ []) o.2) else none := ay_virtual (as := [w1]) (st := []) dX9_line_27 kc_7_213 rfl rfl (Nat.le_of_ble_eq_true rfl)
theorem sX9_line_27_1 : ab_X rom K cX9_line 7 1 27 ls [w1, .ref a, v0] hp = if ab_iso hp a 7 = true then (K 185 (.ref a :: [w1]) hp).bind (fun o => ab_X rom K cX9_line 7 1 30 ls (o.1.toList ++ [v0]) o.2) else none := ay_virtual (as := [w1]) (st := [v0]) dX9_line_27 kc_7_213 rfl rfl (Nat.le_of_ble_eq_true rfl)
theorem sX9_line_27_2 : ab_X rom K cX9_line 7 1 27 ls [w1, .ref a, v0, v1] hp = if ab_iso hp a 7 = true then (K 185 (.ref a :: [w1]) hp).bind (fun o => ab_X rom K cX9_line 7 1 30 ls (o.1.toList ++ [v0, v1]) o.2) else none := ay_virtual (as := [w1]) (st := [v0, v1]) dX9_line_27 kc_7_213 rfl rfl (Nat.le_of_ble_eq_true rfl)
theorem sX9_line_27_3 : ab_X rom K cX9_line 7 1 27 ls [w1, .ref a, v0, v1, v2] hp = if ab_iso hp a 7 = true then (K 185 (.ref a :: [w1]) hp).bind (fun o => ab_X rom K cX9_line 7 1 30 ls (o.1.toList ++ [v0, v1, v2]) o.2) else none := ay_virtual (as := [w1]) (st := [v0, v1, v2]) dX9_line_27 kc_7_213 rfl rfl (Nat.le_of_ble_eq_true rfl)
theorem dX9_line_30 : decode cX9_line 30 = .ok (.iload_n 2, 1) := by decide +kernel
theorem sX9_line_30 : ab_X rom K cX9_line 7 1 30 (v0 :: v1 :: .int x :: ls) st hp = ab_X rom K cX9_line 7 1 31 (v0 :: v1 :: .int x :: ls) (.int x :: st) hp := ax_iload_n dX9_line_30 rfl rfl
theorem dX9_line_31 : decode cX9_line 31 = .ok (.aload_n 0, 1) := by decide +kernel
theorem sX9_line_31 : ab_X rom K cX9_line 7 1 31 (.ref a :: ls) st hp = ab_X rom K cX9_line 7 1 32 (.ref a :: ls) (.ref a :: st) hp := ax_aload_n dX9_line_31 rfl rfl
theorem dX9_line_32 : decode cX9_line 32 = .ok (.getfield 210, 3) := by decide +kernel
theorem sX9_line_32 : ab_X rom K cX9_line 7 1 32 ls (.ref a :: st) hp = (ab_fld hp a 7 15).bind (fun v => ab_X rom K cX9_line 7 1 35 ls (v :: st) hp) := ax_getfield dX9_line_32 kf_7_210 rfl
theorem dX9_line_35 : decode cX9_line 35 = .ok (.if_icmp .lt 7, 3) := by decide +kernel
theorem sX9_line_35 : ab_X rom K cX9_line 7 1 35 ls (.int y :: .int x :: st) hp = if x < y then ab_X rom K cX9_line 7 1 42 ls st hp else ab_X rom K cX9_line 7 1 38 ls st hp := ax_icmp_lt dX9_line_35 (by decide) rfl
theorem dX9_line_38 : decode cX9_line 38 = .ok (.iconst (-1), 1) := by decide +kernel
theorem sX9_line_38 : ab_X rom K cX9_line 7 1 38 ls st hp = ab_X rom K cX9_line 7 1 39 ls (.int (-1) :: st) hp := ax_iconst dX9_line_38 (by decide) rfl
theorem dX9_line_39 : decode cX9_line 39 = .ok (.goto 22, 3) := by decide +kernel
theorem sX9_line_39 : ab_X rom K cX9_line 7 1 39 ls st hp = ab_X rom K cX9_line 7 1 61 ls st hp := ax_goto dX9_line_39 (by decide)
theorem dX9_line_42 : decode cX9_line 42 = .ok (.iload_n 3, 1) := by decide +kernel
theorem sX9_line_42 : ab_X rom K cX9_line 7 1 42 (v0 :: v1 :: v2 :: .int x :: ls) st hp = ab_X rom K cX9_line 7 1 43 (v0 :: v1 :: v2 :: .int x :: ls) (.int x :: st) hp := ax_iload_n dX9_line_42 rfl rfl
theorem dX9_line_43 : decode cX9_line 43 = .ok (.ifCond .ne 12, 3) := by decide +kernel
theorem sX9_line_43 : ab_X rom K cX9_line 7 1 43 ls (.int x :: st) hp = if x = 0 then ab_X rom K cX9_line 7 1 46 ls st hp else ab_X rom K cX9_line 7 1 55 ls st hp := ax_if_ne dX9_line_43 (by decide) rfl
theorem dX9_line_46 : decode cX9_line 46 = .ok (.aload_n 0, 1) := by decide +kernel
theorem sX9_line_46 : ab_X rom K cX9_line 7 1 46 (.ref a :: ls) st hp = ab_X rom K cX9_line 7 1 47 (.ref a :: ls) (.ref a :: st) hp := ax_aload_n dX9_line_46 rfl rfl
theorem dX9_line_47 : decode cX9_line 47 = .ok (.getfield 26, 3) := by decide +kernel
theorem sX9_line_47 : ab_X rom K cX9_line 7 1 47 ls (.ref a :: st) hp = (ab_fld hp a 7 13).bind (fun v => ab_X rom K cX9_line 7 1 50 ls (v :: st) hp) := ax_getfield dX9_line_47 kf_7_26 rfl
theorem dX9_line_50 : decode cX9_line 50 = .ok (.iload_n 2, 1) := by decide +kernel
theorem sX9_line_50 : ab_X rom K cX9_line 7 1 50 (v0 :: v1 :: .int x :: ls) st hp = ab_X rom K cX9_line 7 1 51 (v0 :: v1 :: .int x :: ls) (.int x :: st) hp := ax_iload_n dX9_line_50 rfl rfl
theorem dX9_line_51 : decode cX9_line 51 = .ok (.iaload, 1) := by decide +kernel
theorem sX9_line_51 : ab_X rom K cX9_line 7 1 51 ls (.int x :: .ref a :: st) hp = (ab_ard rom 0 hp a x).bind (fun v => ab_X rom K cX9_line 7 1 52 ls (.int v :: st) hp) := ax_iaload dX9_line_51 rfl
theorem dX9_line_52 : decode cX9_line 52 = .ok (.goto 9, 3) := by decide +kernel
theorem sX9_line_52 : ab_X rom K cX9_line 7 1 52 ls st hp = ab_X rom K cX9_line 7 1 61 ls st hp := ax_goto dX9_line_52 (by decide)
theorem dX9_line_55 : decode cX9_line 55 = .ok (.aload_n 0, 1) := by decide +kernel
theorem sX9_line_55 : ab_X rom K cX9_line 7 1 55 (.ref a :: ls) st hp = ab_X rom K cX9_line 7 1 56 (.ref a :: ls) (.ref a :: st) hp := ax_aload_n dX9_line_55 rfl rfl
theorem dX9_line_56 : decode cX9_line 56 = .ok (.getfield 29, 3) := by decide +kernel
theorem sX9_line_56 : ab_X rom K cX9_line 7 1 56 ls (.ref a :: st) hp = (ab_fld hp a 7 14).bind (fun v => ab_X rom K cX9_line 7 1 59 ls (v :: st) hp) := ax_getfield dX9_line_56 kf_7_29 rfl
theorem dX9_line_59 : decode cX9_line 59 = .ok (.iload_n 2, 1) := by decide +kernel
theorem sX9_line_59 : ab_X rom K cX9_line 7 1 59 (v0 :: v1 :: .int x :: ls) st hp = ab_X rom K cX9_line 7 1 60 (v0 :: v1 :: .int x :: ls) (.int x :: st) hp := ax_iload_n dX9_line_59 rfl rfl
theorem dX9_line_60 : decode cX9_line 60 = .ok (.iaload, 1) := by decide +kernel
theorem sX9_line_60 : ab_X rom K cX9_line 7 1 60 ls (.int x :: .ref a :: st) hp = (ab_ard rom 0 hp a x).bind (fun v => ab_X rom K cX9_line 7 1 61 ls (.int v :: st) hp) := ax_iaload dX9_line_60 rfl
theorem dX9_line_61 : decode cX9_line 61 = .ok (.ireturn, 1) := by decide +kernel
theorem sX9_line_61 : ab_X rom K cX9_line 7 1 61 ls [.int x] hp = some (some (.int x), hp) := ax_iret dX9_line_61 rfl
theorem tX9_lines : ab_mT[188]? = some (yX9_lines, cX9_lines, 4, 1, 7) := by decide +kernel
theorem mX9_lines {d : Nat} {a0 : Nat} {x0 : Int32} : ab_M rom (d + 1) 188 [.ref a0, .int x0] hp = ab_X rom (ab_M rom d) cX9_lines 7 1 0 [.ref a0, .int x0, .null, .null] [] hp := ab_M_eq tX9_lines (Nat.le_of_ble_eq_true rfl)
theorem dX9_lines_0 : decode cX9_lines 0 = .ok (.iconst 0, 1) := by decide +kernel
theorem sX9_lines_0 : ab_X rom K cX9_lines 7 1 0 ls st hp = ab_X rom K cX9_lines 7 1 1 ls (.int 0 :: st) hp := ax_iconst dX9_lines_0 (by decide) rfl
theorem dX9_lines_1 : decode cX9_lines 1 = .ok (.istore_n 2, 1) := by decide +kernel
theorem sX9_lines_1i : ab_X rom K cX9_lines 7 1 1 (v0 :: .int y :: v2 :: ls) (.int x :: st) hp = ab_X rom K cX9_lines 7 1 2 (v0 :: .int y :: .int x :: ls) st hp := ax_istore_n dX9_lines_1 (ax_lt (v := v2) rfl) (ab_nl_c1 (j := 1) (v := .int y) rfl (ab_c1_int _)) rfl rfl
theorem sX9_lines_1r : ab_X rom K cX9_lines 7 1 1 (v0 :: .ref a2 :: v2 :: ls) (.int x :: st) hp = ab_X rom K cX9_lines 7 1 2 (v0 :: .ref a2 :: .int x :: ls) st hp := ax_istore_n dX9_lines_1 (ax_lt (v := v2) rfl) (ab_nl_c1 (j := 1) (v := .ref a2) rfl (ab_c1_ref _)) rfl rfl
theorem sX9_lines_1n : ab_X rom K cX9_lines 7 1 1 (v0 :: .null :: v2 :: ls) (.int x :: st) hp = ab_X rom K cX9_lines 7 1 2 (v0 :: .null :: .int x :: ls) st hp := ax_istore_n dX9_lines_1 (ax_lt (v := v2) rfl) (ab_nl_c1 (j := 1) (v := .null) rfl ab_c1_null) rfl rfl
theorem dX9_lines_2 : decode cX9_lines 2 = .ok (.iconst 0, 1) := by decide +kernel
theorem sX9_lines_2 : ab_X rom K cX9_lines 7 1 2 ls st hp = ab_X rom K cX9_lines 7 1 3 ls (.int 0 :: st) hp := ax_iconst dX9_lines_2 (by decide) rfl
theorem dX9_lines_3 : decode cX9_lines 3 = .ok (.istore_n 3, 1) := by decide +kernel
theorem sX9_lines_3i : ab_X rom K cX9_lines 7 1 3 (v0 :: v1 :: .int y :: v3 :: ls) (.int x :: st) hp = ab_X rom K cX9_lines 7 1 4 (v0 :: v1 :: .int y :: .int x :: ls) st hp := ax_istore_n dX9_lines_3 (ax_lt (v := v3) rfl) (ab_nl_c1 (j := 2) (v := .int y) rfl (ab_c1_int _)) rfl rfl
theorem sX9_lines_3r : ab_X rom K cX9_lines 7 1 3 (v0 :: v1 :: .ref a2 :: v3 :: ls) (.int x :: st) hp = ab_X rom K cX9_lines 7 1 4 (v0 :: v1 :: .ref a2 :: .int x :: ls) st hp := ax_istore_n dX9_lines_3 (ax_lt (v := v3) rfl) (ab_nl_c1 (j := 2) (v := .ref a2) rfl (ab_c1_ref _)) rfl rfl
theorem sX9_lines_3n : ab_X rom K cX9_lines 7 1 3 (v0 :: v1 :: .null :: v3 :: ls) (.int x :: st) hp = ab_X rom K cX9_lines 7 1 4 (v0 :: v1 :: .null :: .int x :: ls) st hp := ax_istore_n dX9_lines_3 (ax_lt (v := v3) rfl) (ab_nl_c1 (j := 2) (v := .null) rfl ab_c1_null) rfl rfl
theorem dX9_lines_4 : decode cX9_lines 4 = .ok (.iload_n 3, 1) := by decide +kernel
theorem sX9_lines_4 : ab_X rom K cX9_lines 7 1 4 (v0 :: v1 :: v2 :: .int x :: ls) st hp = ab_X rom K cX9_lines 7 1 5 (v0 :: v1 :: v2 :: .int x :: ls) (.int x :: st) hp := ax_iload_n dX9_lines_4 rfl rfl
theorem dX9_lines_5 : decode cX9_lines 5 = .ok (.aload_n 0, 1) := by decide +kernel
theorem sX9_lines_5 : ab_X rom K cX9_lines 7 1 5 (.ref a :: ls) st hp = ab_X rom K cX9_lines 7 1 6 (.ref a :: ls) (.ref a :: st) hp := ax_aload_n dX9_lines_5 rfl rfl
theorem dX9_lines_6 : decode cX9_lines 6 = .ok (.iload_n 1, 1) := by decide +kernel
theorem sX9_lines_6 : ab_X rom K cX9_lines 7 1 6 (v0 :: .int x :: ls) st hp = ab_X rom K cX9_lines 7 1 7 (v0 :: .int x :: ls) (.int x :: st) hp := ax_iload_n dX9_lines_6 rfl rfl
theorem dX9_lines_7 : decode cX9_lines 7 = .ok (.invokevirtual 64, 3) := by decide +kernel
theorem sX9_lines_7_0 : ab_X rom K cX9_lines 7 1 7 ls [w1, .ref a] hp = if ab_iso hp a 7 = true then (K 209 (.ref a :: [w1]) hp).bind (fun o => ab_X rom K cX9_lines 7 1 10 ls (o.1.toList ++ []) o.2) else none := ay_virtual (as := [w1]) (st := []) dX9_lines_7 kc_7_64 rfl rfl (Nat.le_of_ble_eq_true rfl)
theorem sX9_lines_7_1 : ab_X rom K cX9_lines 7 1 7 ls [w1, .ref a, v0] hp = if ab_iso hp a 7 = true then (K 209 (.ref a :: [w1]) hp).bind (fun o => ab_X rom K cX9_lines 7 1 10 ls (o.1.toList ++ [v0]) o.2) else none := ay_virtual (as := [w1]) (st := [v0]) dX9_lines_7 kc_7_64 rfl rfl (Nat.le_of_ble_eq_true rfl)
theorem sX9_lines_7_2 : ab_X rom K cX9_lines 7 1 7 ls [w1, .ref a, v0, v1] hp = if ab_iso hp a 7 = true then (K 209 (.ref a :: [w1]) hp).bind (fun o => ab_X rom K cX9_lines 7 1 10 ls (o.1.toList ++ [v0, v1]) o.2) else none := ay_virtual (as := [w1]) (st := [v0, v1]) dX9_lines_7 kc_7_64 rfl rfl (Nat.le_of_ble_eq_true rfl)
theorem sX9_lines_7_3 : ab_X rom K cX9_lines 7 1 7 ls [w1, .ref a, v0, v1, v2] hp = if ab_iso hp a 7 = true then (K 209 (.ref a :: [w1]) hp).bind (fun o => ab_X rom K cX9_lines 7 1 10 ls (o.1.toList ++ [v0, v1, v2]) o.2) else none := ay_virtual (as := [w1]) (st := [v0, v1, v2]) dX9_lines_7 kc_7_64 rfl rfl (Nat.le_of_ble_eq_true rfl)
theorem dX9_lines_10 : decode cX9_lines 10 = .ok (.if_icmp .ge 21, 3) := by decide +kernel
theorem sX9_lines_10 : ab_X rom K cX9_lines 7 1 10 ls (.int y :: .int x :: st) hp = if x < y then ab_X rom K cX9_lines 7 1 13 ls st hp else ab_X rom K cX9_lines 7 1 31 ls st hp := ax_icmp_ge dX9_lines_10 (by decide) rfl
theorem dX9_lines_13 : decode cX9_lines 13 = .ok (.iload_n 2, 1) := by decide +kernel
theorem sX9_lines_13 : ab_X rom K cX9_lines 7 1 13 (v0 :: v1 :: .int x :: ls) st hp = ab_X rom K cX9_lines 7 1 14 (v0 :: v1 :: .int x :: ls) (.int x :: st) hp := ax_iload_n dX9_lines_13 rfl rfl
theorem dX9_lines_14 : decode cX9_lines 14 = .ok (.aload_n 0, 1) := by decide +kernel
theorem sX9_lines_14 : ab_X rom K cX9_lines 7 1 14 (.ref a :: ls) st hp = ab_X rom K cX9_lines 7 1 15 (.ref a :: ls) (.ref a :: st) hp := ax_aload_n dX9_lines_14 rfl rfl
theorem dX9_lines_15 : decode cX9_lines 15 = .ok (.iload_n 1, 1) := by decide +kernel
theorem sX9_lines_15 : ab_X rom K cX9_lines 7 1 15 (v0 :: .int x :: ls) st hp = ab_X rom K cX9_lines 7 1 16 (v0 :: .int x :: ls) (.int x :: st) hp := ax_iload_n dX9_lines_15 rfl rfl
theorem dX9_lines_16 : decode cX9_lines 16 = .ok (.iload_n 3, 1) := by decide +kernel
theorem sX9_lines_16 : ab_X rom K cX9_lines 7 1 16 (v0 :: v1 :: v2 :: .int x :: ls) st hp = ab_X rom K cX9_lines 7 1 17 (v0 :: v1 :: v2 :: .int x :: ls) (.int x :: st) hp := ax_iload_n dX9_lines_16 rfl rfl
theorem dX9_lines_17 : decode cX9_lines 17 = .ok (.invokevirtual 73, 3) := by decide +kernel
theorem sX9_lines_17_0 : ab_X rom K cX9_lines 7 1 17 ls [w2, w1, .ref a] hp = if ab_iso hp a 7 = true then (K 179 (.ref a :: [w1, w2]) hp).bind (fun o => ab_X rom K cX9_lines 7 1 20 ls (o.1.toList ++ []) o.2) else none := ay_virtual (as := [w1, w2]) (st := []) dX9_lines_17 kc_7_73 rfl rfl (Nat.le_of_ble_eq_true rfl)
theorem sX9_lines_17_1 : ab_X rom K cX9_lines 7 1 17 ls [w2, w1, .ref a, v0] hp = if ab_iso hp a 7 = true then (K 179 (.ref a :: [w1, w2]) hp).bind (fun o => ab_X rom K cX9_lines 7 1 20 ls (o.1.toList ++ [v0]) o.2) else none := ay_virtual (as := [w1, w2]) (st := [v0]) dX9_lines_17 kc_7_73 rfl rfl (Nat.le_of_ble_eq_true rfl)
theorem sX9_lines_17_2 : ab_X rom K cX9_lines 7 1 17 ls [w2, w1, .ref a, v0, v1] hp = if ab_iso hp a 7 = true then (K 179 (.ref a :: [w1, w2]) hp).bind (fun o => ab_X rom K cX9_lines 7 1 20 ls (o.1.toList ++ [v0, v1]) o.2) else none := ay_virtual (as := [w1, w2]) (st := [v0, v1]) dX9_lines_17 kc_7_73 rfl rfl (Nat.le_of_ble_eq_true rfl)
theorem sX9_lines_17_3 : ab_X rom K cX9_lines 7 1 17 ls [w2, w1, .ref a, v0, v1, v2] hp = if ab_iso hp a 7 = true then (K 179 (.ref a :: [w1, w2]) hp).bind (fun o => ab_X rom K cX9_lines 7 1 20 ls (o.1.toList ++ [v0, v1, v2]) o.2) else none := ay_virtual (as := [w1, w2]) (st := [v0, v1, v2]) dX9_lines_17 kc_7_73 rfl rfl (Nat.le_of_ble_eq_true rfl)
theorem dX9_lines_20 : decode cX9_lines 20 = .ok (.invokestatic 81, 3) := by decide +kernel
theorem sX9_lines_20_0 : ab_X rom K cX9_lines 7 1 20 ls [w1] hp = (K 204 [w1] hp).bind (fun o => ab_X rom K cX9_lines 7 1 23 ls (o.1.toList ++ []) o.2) := ax_static (as := [w1]) (st := []) dX9_lines_20 kc_7_81 rfl rfl (Nat.le_of_ble_eq_true rfl)
theorem sX9_lines_20_1 : ab_X rom K cX9_lines 7 1 20 ls [w1, v0] hp = (K 204 [w1] hp).bind (fun o => ab_X rom K cX9_lines 7 1 23 ls (o.1.toList ++ [v0]) o.2) := ax_static (as := [w1]) (st := [v0]) dX9_lines_20 kc_7_81 rfl rfl (Nat.le_of_ble_eq_true rfl)
theorem sX9_lines_20_2 : ab_X rom K cX9_lines 7 1 20 ls [w1, v0, v1] hp = (K 204 [w1] hp).bind (fun o => ab_X rom K cX9_lines 7 1 23 ls (o.1.toList ++ [v0, v1]) o.2) := ax_static (as := [w1]) (st := [v0, v1]) dX9_lines_20 kc_7_81 rfl rfl (Nat.le_of_ble_eq_true rfl)
theorem sX9_lines_20_3 : ab_X rom K cX9_lines 7 1 20 ls [w1, v0, v1, v2] hp = (K 204 [w1] hp).bind (fun o => ab_X rom K cX9_lines 7 1 23 ls (o.1.toList ++ [v0, v1, v2]) o.2) := ax_static (as := [w1]) (st := [v0, v1, v2]) dX9_lines_20 kc_7_81 rfl rfl (Nat.le_of_ble_eq_true rfl)
theorem dX9_lines_23 : decode cX9_lines 23 = .ok (.iadd, 1) := by decide +kernel
theorem sX9_lines_23 : ab_X rom K cX9_lines 7 1 23 ls (.int y :: .int x :: st) hp = ab_X rom K cX9_lines 7 1 24 ls (.int (x + y) :: st) hp := ax_iadd dX9_lines_23 rfl
theorem dX9_lines_24 : decode cX9_lines 24 = .ok (.istore_n 2, 1) := by decide +kernel
theorem sX9_lines_24i : ab_X rom K cX9_lines 7 1 24 (v0 :: .int y :: v2 :: ls) (.int x :: st) hp = ab_X rom K cX9_lines 7 1 25 (v0 :: .int y :: .int x :: ls) st hp := ax_istore_n dX9_lines_24 (ax_lt (v := v2) rfl) (ab_nl_c1 (j := 1) (v := .int y) rfl (ab_c1_int _)) rfl rfl
theorem sX9_lines_24r : ab_X rom K cX9_lines 7 1 24 (v0 :: .ref a2 :: v2 :: ls) (.int x :: st) hp = ab_X rom K cX9_lines 7 1 25 (v0 :: .ref a2 :: .int x :: ls) st hp := ax_istore_n dX9_lines_24 (ax_lt (v := v2) rfl) (ab_nl_c1 (j := 1) (v := .ref a2) rfl (ab_c1_ref _)) rfl rfl
theorem sX9_lines_24n : ab_X rom K cX9_lines 7 1 24 (v0 :: .null :: v2 :: ls) (.int x :: st) hp = ab_X rom K cX9_lines 7 1 25 (v0 :: .null :: .int x :: ls) st hp := ax_istore_n dX9_lines_24 (ax_lt (v := v2) rfl) (ab_nl_c1 (j := 1) (v := .null) rfl ab_c1_null) rfl rfl
theorem dX9_lines_25 : decode cX9_lines 25 = .ok (.iinc 3 1, 3) := by decide +kernel
theorem sX9_lines_25i : ab_X rom K cX9_lines 7 1 25 (v0 :: v1 :: .int y :: .int x :: ls) st hp = ab_X rom K cX9_lines 7 1 28 (v0 :: v1 :: .int y :: .int (x + 1) :: ls) st hp := ax_iinc dX9_lines_25 rfl (ab_nl_c1 (j := 2) (v := .int y) rfl (ab_c1_int _)) (by decide) rfl rfl
theorem sX9_lines_25r : ab_X rom K cX9_lines 7 1 25 (v0 :: v1 :: .ref a2 :: .int x :: ls) st hp = ab_X rom K cX9_lines 7 1 28 (v0 :: v1 :: .ref a2 :: .int (x + 1) :: ls) st hp := ax_iinc dX9_lines_25 rfl (ab_nl_c1 (j := 2) (v := .ref a2) rfl (ab_c1_ref _)) (by decide) rfl rfl
theorem sX9_lines_25n : ab_X rom K cX9_lines 7 1 25 (v0 :: v1 :: .null :: .int x :: ls) st hp = ab_X rom K cX9_lines 7 1 28 (v0 :: v1 :: .null :: .int (x + 1) :: ls) st hp := ax_iinc dX9_lines_25 rfl (ab_nl_c1 (j := 2) (v := .null) rfl ab_c1_null) (by decide) rfl rfl
theorem dX9_lines_28 : decode cX9_lines 28 = .ok (.goto (-24), 3) := by decide +kernel
theorem sX9_lines_28 : ab_X rom K cX9_lines 7 1 28 ls st hp = ab_X rom K cX9_lines 7 1 4 ls st hp := ax_goto dX9_lines_28 (by decide)
theorem dX9_lines_31 : decode cX9_lines 31 = .ok (.iload_n 2, 1) := by decide +kernel
theorem sX9_lines_31 : ab_X rom K cX9_lines 7 1 31 (v0 :: v1 :: .int x :: ls) st hp = ab_X rom K cX9_lines 7 1 32 (v0 :: v1 :: .int x :: ls) (.int x :: st) hp := ax_iload_n dX9_lines_31 rfl rfl
theorem dX9_lines_32 : decode cX9_lines 32 = .ok (.iconst 2, 1) := by decide +kernel
theorem sX9_lines_32 : ab_X rom K cX9_lines 7 1 32 ls st hp = ab_X rom K cX9_lines 7 1 33 ls (.int 2 :: st) hp := ax_iconst dX9_lines_32 (by decide) rfl
theorem dX9_lines_33 : decode cX9_lines 33 = .ok (.idiv, 1) := by decide +kernel
theorem sX9_lines_33 : ab_X rom K cX9_lines 7 1 33 ls (.int y :: .int x :: st) hp = if y = 0 then none else ab_X rom K cX9_lines 7 1 34 ls (.int (x / y) :: st) hp := ay_idiv dX9_lines_33 rfl
theorem dX9_lines_34 : decode cX9_lines 34 = .ok (.ireturn, 1) := by decide +kernel
theorem sX9_lines_34 : ab_X rom K cX9_lines 7 1 34 ls [.int x] hp = some (some (.int x), hp) := ax_iret dX9_lines_34 rfl
end
