/-! the law, step by step (printed by wip/whole/gen_law.py) -/
section
variable {rom : List (List Int32)} {K : Nat → List Value → ab_H → Option ab_O} {ls st : List Value} {hp : ab_H} {x y z : Int32} {a a2 : Nat} {sp dp : Int32} {u w : Int64} {v0 v1 v2 v3 v4 v5 v6 v7 v8 v9 v10 v11 v12 v13 v14 v15 w1 w2 w3 w4 w5 w6 : Value}
theorem dL_law_1042 : decode cL_law 1042 = .ok (.iconst 1, 1) := by decide +kernel
theorem sL_law_1042 : ab_X rom K cL_law 12 2 1042 ls st hp = ab_X rom K cL_law 12 2 1043 ls (.int 1 :: st) hp := ax_iconst dL_law_1042 (by decide) rfl
theorem dL_law_1043 : decode cL_law 1043 = .ok (.iadd, 1) := by decide +kernel
theorem sL_law_1043 : ab_X rom K cL_law 12 2 1043 ls (.int y :: .int x :: st) hp = ab_X rom K cL_law 12 2 1044 ls (.int (x + y) :: st) hp := ax_iadd dL_law_1043 rfl
theorem dL_law_1044 : decode cL_law 1044 = .ok (.iaload, 1) := by decide +kernel
theorem sL_law_1044 : ab_X rom K cL_law 12 2 1044 ls (.int x :: .ref a :: st) hp = (ab_ard rom 0 hp a x).bind (fun v => ab_X rom K cL_law 12 2 1045 ls (.int v :: st) hp) := ax_iaload dL_law_1044 rfl
theorem dL_law_1045 : decode cL_law 1045 = .ok (.aload_n 0, 1) := by decide +kernel
theorem sL_law_1045 : ab_X rom K cL_law 12 2 1045 (.ref a :: ls) st hp = ab_X rom K cL_law 12 2 1046 (.ref a :: ls) (.ref a :: st) hp := ax_aload_n dL_law_1045 rfl rfl
theorem dL_law_1046 : decode cL_law 1046 = .ok (.iload_n 3, 1) := by decide +kernel
theorem sL_law_1046 : ab_X rom K cL_law 12 2 1046 (v0 :: v1 :: v2 :: .int x :: ls) st hp = ab_X rom K cL_law 12 2 1047 (v0 :: v1 :: v2 :: .int x :: ls) (.int x :: st) hp := ax_iload_n dL_law_1046 rfl rfl
theorem dL_law_1047 : decode cL_law 1047 = .ok (.iconst 2, 1) := by decide +kernel
theorem sL_law_1047 : ab_X rom K cL_law 12 2 1047 ls st hp = ab_X rom K cL_law 12 2 1048 ls (.int 2 :: st) hp := ax_iconst dL_law_1047 (by decide) rfl
theorem dL_law_1048 : decode cL_law 1048 = .ok (.iadd, 1) := by decide +kernel
theorem sL_law_1048 : ab_X rom K cL_law 12 2 1048 ls (.int y :: .int x :: st) hp = ab_X rom K cL_law 12 2 1049 ls (.int (x + y) :: st) hp := ax_iadd dL_law_1048 rfl
theorem dL_law_1049 : decode cL_law 1049 = .ok (.iaload, 1) := by decide +kernel
theorem sL_law_1049 : ab_X rom K cL_law 12 2 1049 ls (.int x :: .ref a :: st) hp = (ab_ard rom 0 hp a x).bind (fun v => ab_X rom K cL_law 12 2 1050 ls (.int v :: st) hp) := ax_iaload dL_law_1049 rfl
theorem dL_law_1050 : decode cL_law 1050 = .ok (.invokevirtual 110, 3) := by decide +kernel
theorem sL_law_1050_0 : ab_X rom K cL_law 12 2 1050 ls [w2, w1, .ref a] hp = if ab_iso hp a 6 = true then (K 103 (.ref a :: [w1, w2]) hp).bind (fun o => ab_X rom K cL_law 12 2 1053 ls (o.1.toList ++ []) o.2) else none := ay_virtual (as := [w1, w2]) (st := []) dL_law_1050 kc_12_110 rfl rfl (Nat.le_of_ble_eq_true rfl)
theorem sL_law_1050_1 : ab_X rom K cL_law 12 2 1050 ls [w2, w1, .ref a, v0] hp = if ab_iso hp a 6 = true then (K 103 (.ref a :: [w1, w2]) hp).bind (fun o => ab_X rom K cL_law 12 2 1053 ls (o.1.toList ++ [v0]) o.2) else none := ay_virtual (as := [w1, w2]) (st := [v0]) dL_law_1050 kc_12_110 rfl rfl (Nat.le_of_ble_eq_true rfl)
theorem sL_law_1050_2 : ab_X rom K cL_law 12 2 1050 ls [w2, w1, .ref a, v0, v1] hp = if ab_iso hp a 6 = true then (K 103 (.ref a :: [w1, w2]) hp).bind (fun o => ab_X rom K cL_law 12 2 1053 ls (o.1.toList ++ [v0, v1]) o.2) else none := ay_virtual (as := [w1, w2]) (st := [v0, v1]) dL_law_1050 kc_12_110 rfl rfl (Nat.le_of_ble_eq_true rfl)
theorem sL_law_1050_3 : ab_X rom K cL_law 12 2 1050 ls [w2, w1, .ref a, v0, v1, v2] hp = if ab_iso hp a 6 = true then (K 103 (.ref a :: [w1, w2]) hp).bind (fun o => ab_X rom K cL_law 12 2 1053 ls (o.1.toList ++ [v0, v1, v2]) o.2) else none := ay_virtual (as := [w1, w2]) (st := [v0, v1, v2]) dL_law_1050 kc_12_110 rfl rfl (Nat.le_of_ble_eq_true rfl)
theorem dL_law_1053 : decode cL_law 1053 = .ok (.aload_n 2, 1) := by decide +kernel
theorem sL_law_1053 : ab_X rom K cL_law 12 2 1053 (v0 :: v1 :: .ref a :: ls) st hp = ab_X rom K cL_law 12 2 1054 (v0 :: v1 :: .ref a :: ls) (.ref a :: st) hp := ax_aload_n dL_law_1053 rfl rfl
theorem dL_law_1054 : decode cL_law 1054 = .ok (.aload_n 0, 1) := by decide +kernel
theorem sL_law_1054 : ab_X rom K cL_law 12 2 1054 (.ref a :: ls) st hp = ab_X rom K cL_law 12 2 1055 (.ref a :: ls) (.ref a :: st) hp := ax_aload_n dL_law_1054 rfl rfl
theorem dL_law_1055 : decode cL_law 1055 = .ok (.iload_n 3, 1) := by decide +kernel
theorem sL_law_1055 : ab_X rom K cL_law 12 2 1055 (v0 :: v1 :: v2 :: .int x :: ls) st hp = ab_X rom K cL_law 12 2 1056 (v0 :: v1 :: v2 :: .int x :: ls) (.int x :: st) hp := ax_iload_n dL_law_1055 rfl rfl
theorem dL_law_1056 : decode cL_law 1056 = .ok (.iconst 1, 1) := by decide +kernel
theorem sL_law_1056 : ab_X rom K cL_law 12 2 1056 ls st hp = ab_X rom K cL_law 12 2 1057 ls (.int 1 :: st) hp := ax_iconst dL_law_1056 (by decide) rfl
theorem dL_law_1057 : decode cL_law 1057 = .ok (.iadd, 1) := by decide +kernel
theorem sL_law_1057 : ab_X rom K cL_law 12 2 1057 ls (.int y :: .int x :: st) hp = ab_X rom K cL_law 12 2 1058 ls (.int (x + y) :: st) hp := ax_iadd dL_law_1057 rfl
theorem dL_law_1058 : decode cL_law 1058 = .ok (.iaload, 1) := by decide +kernel
theorem sL_law_1058 : ab_X rom K cL_law 12 2 1058 ls (.int x :: .ref a :: st) hp = (ab_ard rom 0 hp a x).bind (fun v => ab_X rom K cL_law 12 2 1059 ls (.int v :: st) hp) := ax_iaload dL_law_1058 rfl
theorem dL_law_1059 : decode cL_law 1059 = .ok (.aload_n 0, 1) := by decide +kernel
theorem sL_law_1059 : ab_X rom K cL_law 12 2 1059 (.ref a :: ls) st hp = ab_X rom K cL_law 12 2 1060 (.ref a :: ls) (.ref a :: st) hp := ax_aload_n dL_law_1059 rfl rfl
theorem dL_law_1060 : decode cL_law 1060 = .ok (.iload_n 3, 1) := by decide +kernel
theorem sL_law_1060 : ab_X rom K cL_law 12 2 1060 (v0 :: v1 :: v2 :: .int x :: ls) st hp = ab_X rom K cL_law 12 2 1061 (v0 :: v1 :: v2 :: .int x :: ls) (.int x :: st) hp := ax_iload_n dL_law_1060 rfl rfl
theorem dL_law_1061 : decode cL_law 1061 = .ok (.iconst 2, 1) := by decide +kernel
theorem sL_law_1061 : ab_X rom K cL_law 12 2 1061 ls st hp = ab_X rom K cL_law 12 2 1062 ls (.int 2 :: st) hp := ax_iconst dL_law_1061 (by decide) rfl
theorem dL_law_1062 : decode cL_law 1062 = .ok (.iadd, 1) := by decide +kernel
theorem sL_law_1062 : ab_X rom K cL_law 12 2 1062 ls (.int y :: .int x :: st) hp = ab_X rom K cL_law 12 2 1063 ls (.int (x + y) :: st) hp := ax_iadd dL_law_1062 rfl
theorem dL_law_1063 : decode cL_law 1063 = .ok (.iaload, 1) := by decide +kernel
theorem sL_law_1063 : ab_X rom K cL_law 12 2 1063 ls (.int x :: .ref a :: st) hp = (ab_ard rom 0 hp a x).bind (fun v => ab_X rom K cL_law 12 2 1064 ls (.int v :: st) hp) := ax_iaload dL_law_1063 rfl
theorem dL_law_1064 : decode cL_law 1064 = .ok (.invokevirtual 113, 3) := by decide +kernel
theorem sL_law_1064_0 : ab_X rom K cL_law 12 2 1064 ls [w2, w1, .ref a] hp = if ab_iso hp a 7 = true then (K 181 (.ref a :: [w1, w2]) hp).bind (fun o => ab_X rom K cL_law 12 2 1067 ls (o.1.toList ++ []) o.2) else none := ay_virtual (as := [w1, w2]) (st := []) dL_law_1064 kc_12_113 rfl rfl (Nat.le_of_ble_eq_true rfl)
theorem sL_law_1064_1 : ab_X rom K cL_law 12 2 1064 ls [w2, w1, .ref a, v0] hp = if ab_iso hp a 7 = true then (K 181 (.ref a :: [w1, w2]) hp).bind (fun o => ab_X rom K cL_law 12 2 1067 ls (o.1.toList ++ [v0]) o.2) else none := ay_virtual (as := [w1, w2]) (st := [v0]) dL_law_1064 kc_12_113 rfl rfl (Nat.le_of_ble_eq_true rfl)
theorem sL_law_1064_2 : ab_X rom K cL_law 12 2 1064 ls [w2, w1, .ref a, v0, v1] hp = if ab_iso hp a 7 = true then (K 181 (.ref a :: [w1, w2]) hp).bind (fun o => ab_X rom K cL_law 12 2 1067 ls (o.1.toList ++ [v0, v1]) o.2) else none := ay_virtual (as := [w1, w2]) (st := [v0, v1]) dL_law_1064 kc_12_113 rfl rfl (Nat.le_of_ble_eq_true rfl)
theorem sL_law_1064_3 : ab_X rom K cL_law 12 2 1064 ls [w2, w1, .ref a, v0, v1, v2] hp = if ab_iso hp a 7 = true then (K 181 (.ref a :: [w1, w2]) hp).bind (fun o => ab_X rom K cL_law 12 2 1067 ls (o.1.toList ++ [v0, v1, v2]) o.2) else none := ay_virtual (as := [w1, w2]) (st := [v0, v1, v2]) dL_law_1064 kc_12_113 rfl rfl (Nat.le_of_ble_eq_true rfl)
theorem dL_law_1067 : decode cL_law 1067 = .ok (.if_icmp .eq 417, 3) := by decide +kernel
theorem sL_law_1067 : ab_X rom K cL_law 12 2 1067 ls (.int y :: .int x :: st) hp = if x = y then ab_X rom K cL_law 12 2 1484 ls st hp else ab_X rom K cL_law 12 2 1070 ls st hp := ax_icmp_eq dL_law_1067 (by decide) rfl
theorem dL_law_1072 : decode cL_law 1072 = .ok (.aload_n 1, 1) := by decide +kernel
theorem sL_law_1072 : ab_X rom K cL_law 12 2 1072 (v0 :: .ref a :: ls) st hp = ab_X rom K cL_law 12 2 1073 (v0 :: .ref a :: ls) (.ref a :: st) hp := ax_aload_n dL_law_1072 rfl rfl
theorem dL_law_1073 : decode cL_law 1073 = .ok (.aload_n 0, 1) := by decide +kernel
theorem sL_law_1073 : ab_X rom K cL_law 12 2 1073 (.ref a :: ls) st hp = ab_X rom K cL_law 12 2 1074 (.ref a :: ls) (.ref a :: st) hp := ax_aload_n dL_law_1073 rfl rfl
theorem dL_law_1074 : decode cL_law 1074 = .ok (.iload_n 3, 1) := by decide +kernel
theorem sL_law_1074 : ab_X rom K cL_law 12 2 1074 (v0 :: v1 :: v2 :: .int x :: ls) st hp = ab_X rom K cL_law 12 2 1075 (v0 :: v1 :: v2 :: .int x :: ls) (.int x :: st) hp := ax_iload_n dL_law_1074 rfl rfl
theorem dL_law_1075 : decode cL_law 1075 = .ok (.iconst 1, 1) := by decide +kernel
theorem sL_law_1075 : ab_X rom K cL_law 12 2 1075 ls st hp = ab_X rom K cL_law 12 2 1076 ls (.int 1 :: st) hp := ax_iconst dL_law_1075 (by decide) rfl
theorem dL_law_1076 : decode cL_law 1076 = .ok (.iadd, 1) := by decide +kernel
theorem sL_law_1076 : ab_X rom K cL_law 12 2 1076 ls (.int y :: .int x :: st) hp = ab_X rom K cL_law 12 2 1077 ls (.int (x + y) :: st) hp := ax_iadd dL_law_1076 rfl
theorem dL_law_1077 : decode cL_law 1077 = .ok (.iaload, 1) := by decide +kernel
theorem sL_law_1077 : ab_X rom K cL_law 12 2 1077 ls (.int x :: .ref a :: st) hp = (ab_ard rom 0 hp a x).bind (fun v => ab_X rom K cL_law 12 2 1078 ls (.int v :: st) hp) := ax_iaload dL_law_1077 rfl
theorem dL_law_1078 : decode cL_law 1078 = .ok (.aload_n 0, 1) := by decide +kernel
theorem sL_law_1078 : ab_X rom K cL_law 12 2 1078 (.ref a :: ls) st hp = ab_X rom K cL_law 12 2 1079 (.ref a :: ls) (.ref a :: st) hp := ax_aload_n dL_law_1078 rfl rfl
theorem dL_law_1079 : decode cL_law 1079 = .ok (.iload_n 3, 1) := by decide +kernel
theorem sL_law_1079 : ab_X rom K cL_law 12 2 1079 (v0 :: v1 :: v2 :: .int x :: ls) st hp = ab_X rom K cL_law 12 2 1080 (v0 :: v1 :: v2 :: .int x :: ls) (.int x :: st) hp := ax_iload_n dL_law_1079 rfl rfl
theorem dL_law_1080 : decode cL_law 1080 = .ok (.iconst 2, 1) := by decide +kernel
theorem sL_law_1080 : ab_X rom K cL_law 12 2 1080 ls st hp = ab_X rom K cL_law 12 2 1081 ls (.int 2 :: st) hp := ax_iconst dL_law_1080 (by decide) rfl
theorem dL_law_1081 : decode cL_law 1081 = .ok (.iadd, 1) := by decide +kernel
theorem sL_law_1081 : ab_X rom K cL_law 12 2 1081 ls (.int y :: .int x :: st) hp = ab_X rom K cL_law 12 2 1082 ls (.int (x + y) :: st) hp := ax_iadd dL_law_1081 rfl
theorem dL_law_1082 : decode cL_law 1082 = .ok (.iaload, 1) := by decide +kernel
theorem sL_law_1082 : ab_X rom K cL_law 12 2 1082 ls (.int x :: .ref a :: st) hp = (ab_ard rom 0 hp a x).bind (fun v => ab_X rom K cL_law 12 2 1083 ls (.int v :: st) hp) := ax_iaload dL_law_1082 rfl
theorem dL_law_1083 : decode cL_law 1083 = .ok (.invokevirtual 114, 3) := by decide +kernel
theorem sL_law_1083_0 : ab_X rom K cL_law 12 2 1083 ls [w2, w1, .ref a] hp = if ab_iso hp a 6 = true then (K 116 (.ref a :: [w1, w2]) hp).bind (fun o => ab_X rom K cL_law 12 2 1086 ls (o.1.toList ++ []) o.2) else none := ay_virtual (as := [w1, w2]) (st := []) dL_law_1083 kc_12_114 rfl rfl (Nat.le_of_ble_eq_true rfl)
theorem sL_law_1083_1 : ab_X rom K cL_law 12 2 1083 ls [w2, w1, .ref a, v0] hp = if ab_iso hp a 6 = true then (K 116 (.ref a :: [w1, w2]) hp).bind (fun o => ab_X rom K cL_law 12 2 1086 ls (o.1.toList ++ [v0]) o.2) else none := ay_virtual (as := [w1, w2]) (st := [v0]) dL_law_1083 kc_12_114 rfl rfl (Nat.le_of_ble_eq_true rfl)
theorem sL_law_1083_2 : ab_X rom K cL_law 12 2 1083 ls [w2, w1, .ref a, v0, v1] hp = if ab_iso hp a 6 = true then (K 116 (.ref a :: [w1, w2]) hp).bind (fun o => ab_X rom K cL_law 12 2 1086 ls (o.1.toList ++ [v0, v1]) o.2) else none := ay_virtual (as := [w1, w2]) (st := [v0, v1]) dL_law_1083 kc_12_114 rfl rfl (Nat.le_of_ble_eq_true rfl)
theorem sL_law_1083_3 : ab_X rom K cL_law 12 2 1083 ls [w2, w1, .ref a, v0, v1, v2] hp = if ab_iso hp a 6 = true then (K 116 (.ref a :: [w1, w2]) hp).bind (fun o => ab_X rom K cL_law 12 2 1086 ls (o.1.toList ++ [v0, v1, v2]) o.2) else none := ay_virtual (as := [w1, w2]) (st := [v0, v1, v2]) dL_law_1083 kc_12_114 rfl rfl (Nat.le_of_ble_eq_true rfl)
theorem dL_law_1086 : decode cL_law 1086 = .ok (.aload_n 2, 1) := by decide +kernel
theorem sL_law_1086 : ab_X rom K cL_law 12 2 1086 (v0 :: v1 :: .ref a :: ls) st hp = ab_X rom K cL_law 12 2 1087 (v0 :: v1 :: .ref a :: ls) (.ref a :: st) hp := ax_aload_n dL_law_1086 rfl rfl
theorem dL_law_1087 : decode cL_law 1087 = .ok (.aload_n 0, 1) := by decide +kernel
theorem sL_law_1087 : ab_X rom K cL_law 12 2 1087 (.ref a :: ls) st hp = ab_X rom K cL_law 12 2 1088 (.ref a :: ls) (.ref a :: st) hp := ax_aload_n dL_law_1087 rfl rfl
theorem dL_law_1088 : decode cL_law 1088 = .ok (.iload_n 3, 1) := by decide +kernel
theorem sL_law_1088 : ab_X rom K cL_law 12 2 1088 (v0 :: v1 :: v2 :: .int x :: ls) st hp = ab_X rom K cL_law 12 2 1089 (v0 :: v1 :: v2 :: .int x :: ls) (.int x :: st) hp := ax_iload_n dL_law_1088 rfl rfl
theorem dL_law_1089 : decode cL_law 1089 = .ok (.iconst 1, 1) := by decide +kernel
theorem sL_law_1089 : ab_X rom K cL_law 12 2 1089 ls st hp = ab_X rom K cL_law 12 2 1090 ls (.int 1 :: st) hp := ax_iconst dL_law_1089 (by decide) rfl
theorem dL_law_1090 : decode cL_law 1090 = .ok (.iadd, 1) := by decide +kernel
theorem sL_law_1090 : ab_X rom K cL_law 12 2 1090 ls (.int y :: .int x :: st) hp = ab_X rom K cL_law 12 2 1091 ls (.int (x + y) :: st) hp := ax_iadd dL_law_1090 rfl
theorem dL_law_1091 : decode cL_law 1091 = .ok (.iaload, 1) := by decide +kernel
theorem sL_law_1091 : ab_X rom K cL_law 12 2 1091 ls (.int x :: .ref a :: st) hp = (ab_ard rom 0 hp a x).bind (fun v => ab_X rom K cL_law 12 2 1092 ls (.int v :: st) hp) := ax_iaload dL_law_1091 rfl
theorem dL_law_1092 : decode cL_law 1092 = .ok (.aload_n 0, 1) := by decide +kernel
theorem sL_law_1092 : ab_X rom K cL_law 12 2 1092 (.ref a :: ls) st hp = ab_X rom K cL_law 12 2 1093 (.ref a :: ls) (.ref a :: st) hp := ax_aload_n dL_law_1092 rfl rfl
theorem dL_law_1093 : decode cL_law 1093 = .ok (.iload_n 3, 1) := by decide +kernel
theorem sL_law_1093 : ab_X rom K cL_law 12 2 1093 (v0 :: v1 :: v2 :: .int x :: ls) st hp = ab_X rom K cL_law 12 2 1094 (v0 :: v1 :: v2 :: .int x :: ls) (.int x :: st) hp := ax_iload_n dL_law_1093 rfl rfl
theorem dL_law_1094 : decode cL_law 1094 = .ok (.iconst 2, 1) := by decide +kernel
theorem sL_law_1094 : ab_X rom K cL_law 12 2 1094 ls st hp = ab_X rom K cL_law 12 2 1095 ls (.int 2 :: st) hp := ax_iconst dL_law_1094 (by decide) rfl
theorem dL_law_1095 : decode cL_law 1095 = .ok (.iadd, 1) := by decide +kernel
theorem sL_law_1095 : ab_X rom K cL_law 12 2 1095 ls (.int y :: .int x :: st) hp = ab_X rom K cL_law 12 2 1096 ls (.int (x + y) :: st) hp := ax_iadd dL_law_1095 rfl
theorem dL_law_1096 : decode cL_law 1096 = .ok (.iaload, 1) := by decide +kernel
theorem sL_law_1096 : ab_X rom K cL_law 12 2 1096 ls (.int x :: .ref a :: st) hp = (ab_ard rom 0 hp a x).bind (fun v => ab_X rom K cL_law 12 2 1097 ls (.int v :: st) hp) := ax_iaload dL_law_1096 rfl
theorem dL_law_1097 : decode cL_law 1097 = .ok (.invokevirtual 117, 3) := by decide +kernel
theorem sL_law_1097_0 : ab_X rom K cL_law 12 2 1097 ls [w2, w1, .ref a] hp = if ab_iso hp a 7 = true then (K 226 (.ref a :: [w1, w2]) hp).bind (fun o => ab_X rom K cL_law 12 2 1100 ls (o.1.toList ++ []) o.2) else none := ay_virtual (as := [w1, w2]) (st := []) dL_law_1097 kc_12_117 rfl rfl (Nat.le_of_ble_eq_true rfl)
theorem sL_law_1097_1 : ab_X rom K cL_law 12 2 1097 ls [w2, w1, .ref a, v0] hp = if ab_iso hp a 7 = true then (K 226 (.ref a :: [w1, w2]) hp).bind (fun o => ab_X rom K cL_law 12 2 1100 ls (o.1.toList ++ [v0]) o.2) else none := ay_virtual (as := [w1, w2]) (st := [v0]) dL_law_1097 kc_12_117 rfl rfl (Nat.le_of_ble_eq_true rfl)
theorem sL_law_1097_2 : ab_X rom K cL_law 12 2 1097 ls [w2, w1, .ref a, v0, v1] hp = if ab_iso hp a 7 = true then (K 226 (.ref a :: [w1, w2]) hp).bind (fun o => ab_X rom K cL_law 12 2 1100 ls (o.1.toList ++ [v0, v1]) o.2) else none := ay_virtual (as := [w1, w2]) (st := [v0, v1]) dL_law_1097 kc_12_117 rfl rfl (Nat.le_of_ble_eq_true rfl)
theorem sL_law_1097_3 : ab_X rom K cL_law 12 2 1097 ls [w2, w1, .ref a, v0, v1, v2] hp = if ab_iso hp a 7 = true then (K 226 (.ref a :: [w1, w2]) hp).bind (fun o => ab_X rom K cL_law 12 2 1100 ls (o.1.toList ++ [v0, v1, v2]) o.2) else none := ay_virtual (as := [w1, w2]) (st := [v0, v1, v2]) dL_law_1097 kc_12_117 rfl rfl (Nat.le_of_ble_eq_true rfl)
theorem dL_law_1100 : decode cL_law 1100 = .ok (.if_icmp .eq 384, 3) := by decide +kernel
theorem sL_law_1100 : ab_X rom K cL_law 12 2 1100 ls (.int y :: .int x :: st) hp = if x = y then ab_X rom K cL_law 12 2 1484 ls st hp else ab_X rom K cL_law 12 2 1103 ls st hp := ax_icmp_eq dL_law_1100 (by decide) rfl
theorem dL_law_1105 : decode cL_law 1105 = .ok (.aload_n 1, 1) := by decide +kernel
theorem sL_law_1105 : ab_X rom K cL_law 12 2 1105 (v0 :: .ref a :: ls) st hp = ab_X rom K cL_law 12 2 1106 (v0 :: .ref a :: ls) (.ref a :: st) hp := ax_aload_n dL_law_1105 rfl rfl
theorem dL_law_1106 : decode cL_law 1106 = .ok (.aload_n 0, 1) := by decide +kernel
theorem sL_law_1106 : ab_X rom K cL_law 12 2 1106 (.ref a :: ls) st hp = ab_X rom K cL_law 12 2 1107 (.ref a :: ls) (.ref a :: st) hp := ax_aload_n dL_law_1106 rfl rfl
theorem dL_law_1107 : decode cL_law 1107 = .ok (.iload_n 3, 1) := by decide +kernel
theorem sL_law_1107 : ab_X rom K cL_law 12 2 1107 (v0 :: v1 :: v2 :: .int x :: ls) st hp = ab_X rom K cL_law 12 2 1108 (v0 :: v1 :: v2 :: .int x :: ls) (.int x :: st) hp := ax_iload_n dL_law_1107 rfl rfl
theorem dL_law_1108 : decode cL_law 1108 = .ok (.iconst 1, 1) := by decide +kernel
theorem sL_law_1108 : ab_X rom K cL_law 12 2 1108 ls st hp = ab_X rom K cL_law 12 2 1109 ls (.int 1 :: st) hp := ax_iconst dL_law_1108 (by decide) rfl
theorem dL_law_1109 : decode cL_law 1109 = .ok (.iadd, 1) := by decide +kernel
theorem sL_law_1109 : ab_X rom K cL_law 12 2 1109 ls (.int y :: .int x :: st) hp = ab_X rom K cL_law 12 2 1110 ls (.int (x + y) :: st) hp := ax_iadd dL_law_1109 rfl
theorem dL_law_1110 : decode cL_law 1110 = .ok (.iaload, 1) := by decide +kernel
theorem sL_law_1110 : ab_X rom K cL_law 12 2 1110 ls (.int x :: .ref a :: st) hp = (ab_ard rom 0 hp a x).bind (fun v => ab_X rom K cL_law 12 2 1111 ls (.int v :: st) hp) := ax_iaload dL_law_1110 rfl
theorem dL_law_1111 : decode cL_law 1111 = .ok (.aload_n 0, 1) := by decide +kernel
theorem sL_law_1111 : ab_X rom K cL_law 12 2 1111 (.ref a :: ls) st hp = ab_X rom K cL_law 12 2 1112 (.ref a :: ls) (.ref a :: st) hp := ax_aload_n dL_law_1111 rfl rfl
theorem dL_law_1112 : decode cL_law 1112 = .ok (.iload_n 3, 1) := by decide +kernel
theorem sL_law_1112 : ab_X rom K cL_law 12 2 1112 (v0 :: v1 :: v2 :: .int x :: ls) st hp = ab_X rom K cL_law 12 2 1113 (v0 :: v1 :: v2 :: .int x :: ls) (.int x :: st) hp := ax_iload_n dL_law_1112 rfl rfl
theorem dL_law_1113 : decode cL_law 1113 = .ok (.iconst 2, 1) := by decide +kernel
theorem sL_law_1113 : ab_X rom K cL_law 12 2 1113 ls st hp = ab_X rom K cL_law 12 2 1114 ls (.int 2 :: st) hp := ax_iconst dL_law_1113 (by decide) rfl
theorem dL_law_1114 : decode cL_law 1114 = .ok (.iadd, 1) := by decide +kernel
theorem sL_law_1114 : ab_X rom K cL_law 12 2 1114 ls (.int y :: .int x :: st) hp = ab_X rom K cL_law 12 2 1115 ls (.int (x + y) :: st) hp := ax_iadd dL_law_1114 rfl
theorem dL_law_1115 : decode cL_law 1115 = .ok (.iaload, 1) := by decide +kernel
theorem sL_law_1115 : ab_X rom K cL_law 12 2 1115 ls (.int x :: .ref a :: st) hp = (ab_ard rom 0 hp a x).bind (fun v => ab_X rom K cL_law 12 2 1116 ls (.int v :: st) hp) := ax_iaload dL_law_1115 rfl
theorem dL_law_1116 : decode cL_law 1116 = .ok (.invokevirtual 118, 3) := by decide +kernel
theorem sL_law_1116_0 : ab_X rom K cL_law 12 2 1116 ls [w2, w1, .ref a] hp = if ab_iso hp a 6 = true then (K 81 (.ref a :: [w1, w2]) hp).bind (fun o => ab_X rom K cL_law 12 2 1119 ls (o.1.toList ++ []) o.2) else none := ay_virtual (as := [w1, w2]) (st := []) dL_law_1116 kc_12_118 rfl rfl (Nat.le_of_ble_eq_true rfl)
theorem sL_law_1116_1 : ab_X rom K cL_law 12 2 1116 ls [w2, w1, .ref a, v0] hp = if ab_iso hp a 6 = true then (K 81 (.ref a :: [w1, w2]) hp).bind (fun o => ab_X rom K cL_law 12 2 1119 ls (o.1.toList ++ [v0]) o.2) else none := ay_virtual (as := [w1, w2]) (st := [v0]) dL_law_1116 kc_12_118 rfl rfl (Nat.le_of_ble_eq_true rfl)
theorem sL_law_1116_2 : ab_X rom K cL_law 12 2 1116 ls [w2, w1, .ref a, v0, v1] hp = if ab_iso hp a 6 = true then (K 81 (.ref a :: [w1, w2]) hp).bind (fun o => ab_X rom K cL_law 12 2 1119 ls (o.1.toList ++ [v0, v1]) o.2) else none := ay_virtual (as := [w1, w2]) (st := [v0, v1]) dL_law_1116 kc_12_118 rfl rfl (Nat.le_of_ble_eq_true rfl)
theorem sL_law_1116_3 : ab_X rom K cL_law 12 2 1116 ls [w2, w1, .ref a, v0, v1, v2] hp = if ab_iso hp a 6 = true then (K 81 (.ref a :: [w1, w2]) hp).bind (fun o => ab_X rom K cL_law 12 2 1119 ls (o.1.toList ++ [v0, v1, v2]) o.2) else none := ay_virtual (as := [w1, w2]) (st := [v0, v1, v2]) dL_law_1116 kc_12_118 rfl rfl (Nat.le_of_ble_eq_true rfl)
theorem dL_law_1119 : decode cL_law 1119 = .ok (.aload_n 2, 1) := by decide +kernel
theorem sL_law_1119 : ab_X rom K cL_law 12 2 1119 (v0 :: v1 :: .ref a :: ls) st hp = ab_X rom K cL_law 12 2 1120 (v0 :: v1 :: .ref a :: ls) (.ref a :: st) hp := ax_aload_n dL_law_1119 rfl rfl
theorem dL_law_1120 : decode cL_law 1120 = .ok (.aload_n 0, 1) := by decide +kernel
theorem sL_law_1120 : ab_X rom K cL_law 12 2 1120 (.ref a :: ls) st hp = ab_X rom K cL_law 12 2 1121 (.ref a :: ls) (.ref a :: st) hp := ax_aload_n dL_law_1120 rfl rfl
theorem dL_law_1121 : decode cL_law 1121 = .ok (.iload_n 3, 1) := by decide +kernel
theorem sL_law_1121 : ab_X rom K cL_law 12 2 1121 (v0 :: v1 :: v2 :: .int x :: ls) st hp = ab_X rom K cL_law 12 2 1122 (v0 :: v1 :: v2 :: .int x :: ls) (.int x :: st) hp := ax_iload_n dL_law_1121 rfl rfl
theorem dL_law_1122 : decode cL_law 1122 = .ok (.iconst 1, 1) := by decide +kernel
theorem sL_law_1122 : ab_X rom K cL_law 12 2 1122 ls st hp = ab_X rom K cL_law 12 2 1123 ls (.int 1 :: st) hp := ax_iconst dL_law_1122 (by decide) rfl
theorem dL_law_1123 : decode cL_law 1123 = .ok (.iadd, 1) := by decide +kernel
theorem sL_law_1123 : ab_X rom K cL_law 12 2 1123 ls (.int y :: .int x :: st) hp = ab_X rom K cL_law 12 2 1124 ls (.int (x + y) :: st) hp := ax_iadd dL_law_1123 rfl
theorem dL_law_1124 : decode cL_law 1124 = .ok (.iaload, 1) := by decide +kernel
theorem sL_law_1124 : ab_X rom K cL_law 12 2 1124 ls (.int x :: .ref a :: st) hp = (ab_ard rom 0 hp a x).bind (fun v => ab_X rom K cL_law 12 2 1125 ls (.int v :: st) hp) := ax_iaload dL_law_1124 rfl
theorem dL_law_1125 : decode cL_law 1125 = .ok (.aload_n 0, 1) := by decide +kernel
theorem sL_law_1125 : ab_X rom K cL_law 12 2 1125 (.ref a :: ls) st hp = ab_X rom K cL_law 12 2 1126 (.ref a :: ls) (.ref a :: st) hp := ax_aload_n dL_law_1125 rfl rfl
theorem dL_law_1126 : decode cL_law 1126 = .ok (.iload_n 3, 1) := by decide +kernel
theorem sL_law_1126 : ab_X rom K cL_law 12 2 1126 (v0 :: v1 :: v2 :: .int x :: ls) st hp = ab_X rom K cL_law 12 2 1127 (v0 :: v1 :: v2 :: .int x :: ls) (.int x :: st) hp := ax_iload_n dL_law_1126 rfl rfl
theorem dL_law_1127 : decode cL_law 1127 = .ok (.iconst 2, 1) := by decide +kernel
theorem sL_law_1127 : ab_X rom K cL_law 12 2 1127 ls st hp = ab_X rom K cL_law 12 2 1128 ls (.int 2 :: st) hp := ax_iconst dL_law_1127 (by decide) rfl
theorem dL_law_1128 : decode cL_law 1128 = .ok (.iadd, 1) := by decide +kernel
theorem sL_law_1128 : ab_X rom K cL_law 12 2 1128 ls (.int y :: .int x :: st) hp = ab_X rom K cL_law 12 2 1129 ls (.int (x + y) :: st) hp := ax_iadd dL_law_1128 rfl
theorem dL_law_1129 : decode cL_law 1129 = .ok (.iaload, 1) := by decide +kernel
theorem sL_law_1129 : ab_X rom K cL_law 12 2 1129 ls (.int x :: .ref a :: st) hp = (ab_ard rom 0 hp a x).bind (fun v => ab_X rom K cL_law 12 2 1130 ls (.int v :: st) hp) := ax_iaload dL_law_1129 rfl
theorem dL_law_1130 : decode cL_law 1130 = .ok (.invokevirtual 121, 3) := by decide +kernel
theorem sL_law_1130_0 : ab_X rom K cL_law 12 2 1130 ls [w2, w1, .ref a] hp = if ab_iso hp a 7 = true then (K 137 (.ref a :: [w1, w2]) hp).bind (fun o => ab_X rom K cL_law 12 2 1133 ls (o.1.toList ++ []) o.2) else none := ay_virtual (as := [w1, w2]) (st := []) dL_law_1130 kc_12_121 rfl rfl (Nat.le_of_ble_eq_true rfl)
theorem sL_law_1130_1 : ab_X rom K cL_law 12 2 1130 ls [w2, w1, .ref a, v0] hp = if ab_iso hp a 7 = true then (K 137 (.ref a :: [w1, w2]) hp).bind (fun o => ab_X rom K cL_law 12 2 1133 ls (o.1.toList ++ [v0]) o.2) else none := ay_virtual (as := [w1, w2]) (st := [v0]) dL_law_1130 kc_12_121 rfl rfl (Nat.le_of_ble_eq_true rfl)
theorem sL_law_1130_2 : ab_X rom K cL_law 12 2 1130 ls [w2, w1, .ref a, v0, v1] hp = if ab_iso hp a 7 = true then (K 137 (.ref a :: [w1, w2]) hp).bind (fun o => ab_X rom K cL_law 12 2 1133 ls (o.1.toList ++ [v0, v1]) o.2) else none := ay_virtual (as := [w1, w2]) (st := [v0, v1]) dL_law_1130 kc_12_121 rfl rfl (Nat.le_of_ble_eq_true rfl)
theorem sL_law_1130_3 : ab_X rom K cL_law 12 2 1130 ls [w2, w1, .ref a, v0, v1, v2] hp = if ab_iso hp a 7 = true then (K 137 (.ref a :: [w1, w2]) hp).bind (fun o => ab_X rom K cL_law 12 2 1133 ls (o.1.toList ++ [v0, v1, v2]) o.2) else none := ay_virtual (as := [w1, w2]) (st := [v0, v1, v2]) dL_law_1130 kc_12_121 rfl rfl (Nat.le_of_ble_eq_true rfl)
theorem dL_law_1133 : decode cL_law 1133 = .ok (.if_icmp .eq 351, 3) := by decide +kernel
theorem sL_law_1133 : ab_X rom K cL_law 12 2 1133 ls (.int y :: .int x :: st) hp = if x = y then ab_X rom K cL_law 12 2 1484 ls st hp else ab_X rom K cL_law 12 2 1136 ls st hp := ax_icmp_eq dL_law_1133 (by decide) rfl
theorem dL_law_1138 : decode cL_law 1138 = .ok (.aload_n 1, 1) := by decide +kernel
theorem sL_law_1138 : ab_X rom K cL_law 12 2 1138 (v0 :: .ref a :: ls) st hp = ab_X rom K cL_law 12 2 1139 (v0 :: .ref a :: ls) (.ref a :: st) hp := ax_aload_n dL_law_1138 rfl rfl
theorem dL_law_1139 : decode cL_law 1139 = .ok (.aload_n 0, 1) := by decide +kernel
theorem sL_law_1139 : ab_X rom K cL_law 12 2 1139 (.ref a :: ls) st hp = ab_X rom K cL_law 12 2 1140 (.ref a :: ls) (.ref a :: st) hp := ax_aload_n dL_law_1139 rfl rfl
theorem dL_law_1140 : decode cL_law 1140 = .ok (.iload_n 3, 1) := by decide +kernel
theorem sL_law_1140 : ab_X rom K cL_law 12 2 1140 (v0 :: v1 :: v2 :: .int x :: ls) st hp = ab_X rom K cL_law 12 2 1141 (v0 :: v1 :: v2 :: .int x :: ls) (.int x :: st) hp := ax_iload_n dL_law_1140 rfl rfl
theorem dL_law_1141 : decode cL_law 1141 = .ok (.iconst 1, 1) := by decide +kernel
theorem sL_law_1141 : ab_X rom K cL_law 12 2 1141 ls st hp = ab_X rom K cL_law 12 2 1142 ls (.int 1 :: st) hp := ax_iconst dL_law_1141 (by decide) rfl
theorem dL_law_1142 : decode cL_law 1142 = .ok (.iadd, 1) := by decide +kernel
theorem sL_law_1142 : ab_X rom K cL_law 12 2 1142 ls (.int y :: .int x :: st) hp = ab_X rom K cL_law 12 2 1143 ls (.int (x + y) :: st) hp := ax_iadd dL_law_1142 rfl
theorem dL_law_1143 : decode cL_law 1143 = .ok (.iaload, 1) := by decide +kernel
theorem sL_law_1143 : ab_X rom K cL_law 12 2 1143 ls (.int x :: .ref a :: st) hp = (ab_ard rom 0 hp a x).bind (fun v => ab_X rom K cL_law 12 2 1144 ls (.int v :: st) hp) := ax_iaload dL_law_1143 rfl
theorem dL_law_1144 : decode cL_law 1144 = .ok (.invokevirtual 122, 3) := by decide +kernel
theorem sL_law_1144_0 : ab_X rom K cL_law 12 2 1144 ls [w1, .ref a] hp = if ab_iso hp a 6 = true then (K 115 (.ref a :: [w1]) hp).bind (fun o => ab_X rom K cL_law 12 2 1147 ls (o.1.toList ++ []) o.2) else none := ay_virtual (as := [w1]) (st := []) dL_law_1144 kc_12_122 rfl rfl (Nat.le_of_ble_eq_true rfl)
theorem sL_law_1144_1 : ab_X rom K cL_law 12 2 1144 ls [w1, .ref a, v0] hp = if ab_iso hp a 6 = true then (K 115 (.ref a :: [w1]) hp).bind (fun o => ab_X rom K cL_law 12 2 1147 ls (o.1.toList ++ [v0]) o.2) else none := ay_virtual (as := [w1]) (st := [v0]) dL_law_1144 kc_12_122 rfl rfl (Nat.le_of_ble_eq_true rfl)
theorem sL_law_1144_2 : ab_X rom K cL_law 12 2 1144 ls [w1, .ref a, v0, v1] hp = if ab_iso hp a 6 = true then (K 115 (.ref a :: [w1]) hp).bind (fun o => ab_X rom K cL_law 12 2 1147 ls (o.1.toList ++ [v0, v1]) o.2) else none := ay_virtual (as := [w1]) (st := [v0, v1]) dL_law_1144 kc_12_122 rfl rfl (Nat.le_of_ble_eq_true rfl)
theorem sL_law_1144_3 : ab_X rom K cL_law 12 2 1144 ls [w1, .ref a, v0, v1, v2] hp = if ab_iso hp a 6 = true then (K 115 (.ref a :: [w1]) hp).bind (fun o => ab_X rom K cL_law 12 2 1147 ls (o.1.toList ++ [v0, v1, v2]) o.2) else none := ay_virtual (as := [w1]) (st := [v0, v1, v2]) dL_law_1144 kc_12_122 rfl rfl (Nat.le_of_ble_eq_true rfl)
theorem dL_law_1147 : decode cL_law 1147 = .ok (.aload_n 2, 1) := by decide +kernel
theorem sL_law_1147 : ab_X rom K cL_law 12 2 1147 (v0 :: v1 :: .ref a :: ls) st hp = ab_X rom K cL_law 12 2 1148 (v0 :: v1 :: .ref a :: ls) (.ref a :: st) hp := ax_aload_n dL_law_1147 rfl rfl
theorem dL_law_1148 : decode cL_law 1148 = .ok (.aload_n 0, 1) := by decide +kernel
theorem sL_law_1148 : ab_X rom K cL_law 12 2 1148 (.ref a :: ls) st hp = ab_X rom K cL_law 12 2 1149 (.ref a :: ls) (.ref a :: st) hp := ax_aload_n dL_law_1148 rfl rfl
theorem dL_law_1149 : decode cL_law 1149 = .ok (.iload_n 3, 1) := by decide +kernel
theorem sL_law_1149 : ab_X rom K cL_law 12 2 1149 (v0 :: v1 :: v2 :: .int x :: ls) st hp = ab_X rom K cL_law 12 2 1150 (v0 :: v1 :: v2 :: .int x :: ls) (.int x :: st) hp := ax_iload_n dL_law_1149 rfl rfl
theorem dL_law_1150 : decode cL_law 1150 = .ok (.iconst 1, 1) := by decide +kernel
theorem sL_law_1150 : ab_X rom K cL_law 12 2 1150 ls st hp = ab_X rom K cL_law 12 2 1151 ls (.int 1 :: st) hp := ax_iconst dL_law_1150 (by decide) rfl
theorem dL_law_1151 : decode cL_law 1151 = .ok (.iadd, 1) := by decide +kernel
theorem sL_law_1151 : ab_X rom K cL_law 12 2 1151 ls (.int y :: .int x :: st) hp = ab_X rom K cL_law 12 2 1152 ls (.int (x + y) :: st) hp := ax_iadd dL_law_1151 rfl
theorem dL_law_1152 : decode cL_law 1152 = .ok (.iaload, 1) := by decide +kernel
theorem sL_law_1152 : ab_X rom K cL_law 12 2 1152 ls (.int x :: .ref a :: st) hp = (ab_ard rom 0 hp a x).bind (fun v => ab_X rom K cL_law 12 2 1153 ls (.int v :: st) hp) := ax_iaload dL_law_1152 rfl
theorem dL_law_1153 : decode cL_law 1153 = .ok (.invokevirtual 125, 3) := by decide +kernel
theorem sL_law_1153_0 : ab_X rom K cL_law 12 2 1153 ls [w1, .ref a] hp = if ab_iso hp a 7 = true then (K 224 (.ref a :: [w1]) hp).bind (fun o => ab_X rom K cL_law 12 2 1156 ls (o.1.toList ++ []) o.2) else none := ay_virtual (as := [w1]) (st := []) dL_law_1153 kc_12_125 rfl rfl (Nat.le_of_ble_eq_true rfl)
theorem sL_law_1153_1 : ab_X rom K cL_law 12 2 1153 ls [w1, .ref a, v0] hp = if ab_iso hp a 7 = true then (K 224 (.ref a :: [w1]) hp).bind (fun o => ab_X rom K cL_law 12 2 1156 ls (o.1.toList ++ [v0]) o.2) else none := ay_virtual (as := [w1]) (st := [v0]) dL_law_1153 kc_12_125 rfl rfl (Nat.le_of_ble_eq_true rfl)
theorem sL_law_1153_2 : ab_X rom K cL_law 12 2 1153 ls [w1, .ref a, v0, v1] hp = if ab_iso hp a 7 = true then (K 224 (.ref a :: [w1]) hp).bind (fun o => ab_X rom K cL_law 12 2 1156 ls (o.1.toList ++ [v0, v1]) o.2) else none := ay_virtual (as := [w1]) (st := [v0, v1]) dL_law_1153 kc_12_125 rfl rfl (Nat.le_of_ble_eq_true rfl)
theorem sL_law_1153_3 : ab_X rom K cL_law 12 2 1153 ls [w1, .ref a, v0, v1, v2] hp = if ab_iso hp a 7 = true then (K 224 (.ref a :: [w1]) hp).bind (fun o => ab_X rom K cL_law 12 2 1156 ls (o.1.toList ++ [v0, v1, v2]) o.2) else none := ay_virtual (as := [w1]) (st := [v0, v1, v2]) dL_law_1153 kc_12_125 rfl rfl (Nat.le_of_ble_eq_true rfl)
theorem dL_law_1156 : decode cL_law 1156 = .ok (.if_icmp .eq 328, 3) := by decide +kernel
theorem sL_law_1156 : ab_X rom K cL_law 12 2 1156 ls (.int y :: .int x :: st) hp = if x = y then ab_X rom K cL_law 12 2 1484 ls st hp else ab_X rom K cL_law 12 2 1159 ls st hp := ax_icmp_eq dL_law_1156 (by decide) rfl
theorem dL_law_1161 : decode cL_law 1161 = .ok (.aload_n 1, 1) := by decide +kernel
theorem sL_law_1161 : ab_X rom K cL_law 12 2 1161 (v0 :: .ref a :: ls) st hp = ab_X rom K cL_law 12 2 1162 (v0 :: .ref a :: ls) (.ref a :: st) hp := ax_aload_n dL_law_1161 rfl rfl
theorem dL_law_1162 : decode cL_law 1162 = .ok (.aload_n 0, 1) := by decide +kernel
theorem sL_law_1162 : ab_X rom K cL_law 12 2 1162 (.ref a :: ls) st hp = ab_X rom K cL_law 12 2 1163 (.ref a :: ls) (.ref a :: st) hp := ax_aload_n dL_law_1162 rfl rfl
theorem dL_law_1163 : decode cL_law 1163 = .ok (.iload_n 3, 1) := by decide +kernel
theorem sL_law_1163 : ab_X rom K cL_law 12 2 1163 (v0 :: v1 :: v2 :: .int x :: ls) st hp = ab_X rom K cL_law 12 2 1164 (v0 :: v1 :: v2 :: .int x :: ls) (.int x :: st) hp := ax_iload_n dL_law_1163 rfl rfl
theorem dL_law_1164 : decode cL_law 1164 = .ok (.iconst 1, 1) := by decide +kernel
theorem sL_law_1164 : ab_X rom K cL_law 12 2 1164 ls st hp = ab_X rom K cL_law 12 2 1165 ls (.int 1 :: st) hp := ax_iconst dL_law_1164 (by decide) rfl
theorem dL_law_1165 : decode cL_law 1165 = .ok (.iadd, 1) := by decide +kernel
theorem sL_law_1165 : ab_X rom K cL_law 12 2 1165 ls (.int y :: .int x :: st) hp = ab_X rom K cL_law 12 2 1166 ls (.int (x + y) :: st) hp := ax_iadd dL_law_1165 rfl
theorem dL_law_1166 : decode cL_law 1166 = .ok (.iaload, 1) := by decide +kernel
theorem sL_law_1166 : ab_X rom K cL_law 12 2 1166 ls (.int x :: .ref a :: st) hp = (ab_ard rom 0 hp a x).bind (fun v => ab_X rom K cL_law 12 2 1167 ls (.int v :: st) hp) := ax_iaload dL_law_1166 rfl
theorem dL_law_1167 : decode cL_law 1167 = .ok (.invokevirtual 126, 3) := by decide +kernel
theorem sL_law_1167_0 : ab_X rom K cL_law 12 2 1167 ls [w1, .ref a] hp = if ab_iso hp a 6 = true then (K 110 (.ref a :: [w1]) hp).bind (fun o => ab_X rom K cL_law 12 2 1170 ls (o.1.toList ++ []) o.2) else none := ay_virtual (as := [w1]) (st := []) dL_law_1167 kc_12_126 rfl rfl (Nat.le_of_ble_eq_true rfl)
theorem sL_law_1167_1 : ab_X rom K cL_law 12 2 1167 ls [w1, .ref a, v0] hp = if ab_iso hp a 6 = true then (K 110 (.ref a :: [w1]) hp).bind (fun o => ab_X rom K cL_law 12 2 1170 ls (o.1.toList ++ [v0]) o.2) else none := ay_virtual (as := [w1]) (st := [v0]) dL_law_1167 kc_12_126 rfl rfl (Nat.le_of_ble_eq_true rfl)
theorem sL_law_1167_2 : ab_X rom K cL_law 12 2 1167 ls [w1, .ref a, v0, v1] hp = if ab_iso hp a 6 = true then (K 110 (.ref a :: [w1]) hp).bind (fun o => ab_X rom K cL_law 12 2 1170 ls (o.1.toList ++ [v0, v1]) o.2) else none := ay_virtual (as := [w1]) (st := [v0, v1]) dL_law_1167 kc_12_126 rfl rfl (Nat.le_of_ble_eq_true rfl)
theorem sL_law_1167_3 : ab_X rom K cL_law 12 2 1167 ls [w1, .ref a, v0, v1, v2] hp = if ab_iso hp a 6 = true then (K 110 (.ref a :: [w1]) hp).bind (fun o => ab_X rom K cL_law 12 2 1170 ls (o.1.toList ++ [v0, v1, v2]) o.2) else none := ay_virtual (as := [w1]) (st := [v0, v1, v2]) dL_law_1167 kc_12_126 rfl rfl (Nat.le_of_ble_eq_true rfl)
theorem dL_law_1170 : decode cL_law 1170 = .ok (.aload_n 2, 1) := by decide +kernel
theorem sL_law_1170 : ab_X rom K cL_law 12 2 1170 (v0 :: v1 :: .ref a :: ls) st hp = ab_X rom K cL_law 12 2 1171 (v0 :: v1 :: .ref a :: ls) (.ref a :: st) hp := ax_aload_n dL_law_1170 rfl rfl
theorem dL_law_1171 : decode cL_law 1171 = .ok (.aload_n 0, 1) := by decide +kernel
theorem sL_law_1171 : ab_X rom K cL_law 12 2 1171 (.ref a :: ls) st hp = ab_X rom K cL_law 12 2 1172 (.ref a :: ls) (.ref a :: st) hp := ax_aload_n dL_law_1171 rfl rfl
theorem dL_law_1172 : decode cL_law 1172 = .ok (.iload_n 3, 1) := by decide +kernel
theorem sL_law_1172 : ab_X rom K cL_law 12 2 1172 (v0 :: v1 :: v2 :: .int x :: ls) st hp = ab_X rom K cL_law 12 2 1173 (v0 :: v1 :: v2 :: .int x :: ls) (.int x :: st) hp := ax_iload_n dL_law_1172 rfl rfl
theorem dL_law_1173 : decode cL_law 1173 = .ok (.iconst 1, 1) := by decide +kernel
theorem sL_law_1173 : ab_X rom K cL_law 12 2 1173 ls st hp = ab_X rom K cL_law 12 2 1174 ls (.int 1 :: st) hp := ax_iconst dL_law_1173 (by decide) rfl
theorem dL_law_1174 : decode cL_law 1174 = .ok (.iadd, 1) := by decide +kernel
theorem sL_law_1174 : ab_X rom K cL_law 12 2 1174 ls (.int y :: .int x :: st) hp = ab_X rom K cL_law 12 2 1175 ls (.int (x + y) :: st) hp := ax_iadd dL_law_1174 rfl
theorem dL_law_1175 : decode cL_law 1175 = .ok (.iaload, 1) := by decide +kernel
theorem sL_law_1175 : ab_X rom K cL_law 12 2 1175 ls (.int x :: .ref a :: st) hp = (ab_ard rom 0 hp a x).bind (fun v => ab_X rom K cL_law 12 2 1176 ls (.int v :: st) hp) := ax_iaload dL_law_1175 rfl
theorem dL_law_1176 : decode cL_law 1176 = .ok (.invokevirtual 129, 3) := by decide +kernel
theorem sL_law_1176_0 : ab_X rom K cL_law 12 2 1176 ls [w1, .ref a] hp = if ab_iso hp a 7 = true then (K 215 (.ref a :: [w1]) hp).bind (fun o => ab_X rom K cL_law 12 2 1179 ls (o.1.toList ++ []) o.2) else none := ay_virtual (as := [w1]) (st := []) dL_law_1176 kc_12_129 rfl rfl (Nat.le_of_ble_eq_true rfl)
theorem sL_law_1176_1 : ab_X rom K cL_law 12 2 1176 ls [w1, .ref a, v0] hp = if ab_iso hp a 7 = true then (K 215 (.ref a :: [w1]) hp).bind (fun o => ab_X rom K cL_law 12 2 1179 ls (o.1.toList ++ [v0]) o.2) else none := ay_virtual (as := [w1]) (st := [v0]) dL_law_1176 kc_12_129 rfl rfl (Nat.le_of_ble_eq_true rfl)
theorem sL_law_1176_2 : ab_X rom K cL_law 12 2 1176 ls [w1, .ref a, v0, v1] hp = if ab_iso hp a 7 = true then (K 215 (.ref a :: [w1]) hp).bind (fun o => ab_X rom K cL_law 12 2 1179 ls (o.1.toList ++ [v0, v1]) o.2) else none := ay_virtual (as := [w1]) (st := [v0, v1]) dL_law_1176 kc_12_129 rfl rfl (Nat.le_of_ble_eq_true rfl)
theorem sL_law_1176_3 : ab_X rom K cL_law 12 2 1176 ls [w1, .ref a, v0, v1, v2] hp = if ab_iso hp a 7 = true then (K 215 (.ref a :: [w1]) hp).bind (fun o => ab_X rom K cL_law 12 2 1179 ls (o.1.toList ++ [v0, v1, v2]) o.2) else none := ay_virtual (as := [w1]) (st := [v0, v1, v2]) dL_law_1176 kc_12_129 rfl rfl (Nat.le_of_ble_eq_true rfl)
theorem dL_law_1179 : decode cL_law 1179 = .ok (.if_icmp .eq 305, 3) := by decide +kernel
theorem sL_law_1179 : ab_X rom K cL_law 12 2 1179 ls (.int y :: .int x :: st) hp = if x = y then ab_X rom K cL_law 12 2 1484 ls st hp else ab_X rom K cL_law 12 2 1182 ls st hp := ax_icmp_eq dL_law_1179 (by decide) rfl
theorem dL_law_1184 : decode cL_law 1184 = .ok (.aload_n 1, 1) := by decide +kernel
theorem sL_law_1184 : ab_X rom K cL_law 12 2 1184 (v0 :: .ref a :: ls) st hp = ab_X rom K cL_law 12 2 1185 (v0 :: .ref a :: ls) (.ref a :: st) hp := ax_aload_n dL_law_1184 rfl rfl
theorem dL_law_1185 : decode cL_law 1185 = .ok (.aload_n 0, 1) := by decide +kernel
theorem sL_law_1185 : ab_X rom K cL_law 12 2 1185 (.ref a :: ls) st hp = ab_X rom K cL_law 12 2 1186 (.ref a :: ls) (.ref a :: st) hp := ax_aload_n dL_law_1185 rfl rfl
theorem dL_law_1186 : decode cL_law 1186 = .ok (.iload_n 3, 1) := by decide +kernel
theorem sL_law_1186 : ab_X rom K cL_law 12 2 1186 (v0 :: v1 :: v2 :: .int x :: ls) st hp = ab_X rom K cL_law 12 2 1187 (v0 :: v1 :: v2 :: .int x :: ls) (.int x :: st) hp := ax_iload_n dL_law_1186 rfl rfl
theorem dL_law_1187 : decode cL_law 1187 = .ok (.iconst 1, 1) := by decide +kernel
theorem sL_law_1187 : ab_X rom K cL_law 12 2 1187 ls st hp = ab_X rom K cL_law 12 2 1188 ls (.int 1 :: st) hp := ax_iconst dL_law_1187 (by decide) rfl
theorem dL_law_1188 : decode cL_law 1188 = .ok (.iadd, 1) := by decide +kernel
theorem sL_law_1188 : ab_X rom K cL_law 12 2 1188 ls (.int y :: .int x :: st) hp = ab_X rom K cL_law 12 2 1189 ls (.int (x + y) :: st) hp := ax_iadd dL_law_1188 rfl
theorem dL_law_1189 : decode cL_law 1189 = .ok (.iaload, 1) := by decide +kernel
theorem sL_law_1189 : ab_X rom K cL_law 12 2 1189 ls (.int x :: .ref a :: st) hp = (ab_ard rom 0 hp a x).bind (fun v => ab_X rom K cL_law 12 2 1190 ls (.int v :: st) hp) := ax_iaload dL_law_1189 rfl
theorem dL_law_1190 : decode cL_law 1190 = .ok (.invokevirtual 130, 3) := by decide +kernel
theorem sL_law_1190_0 : ab_X rom K cL_law 12 2 1190 ls [w1, .ref a] hp = if ab_iso hp a 6 = true then (K 108 (.ref a :: [w1]) hp).bind (fun o => ab_X rom K cL_law 12 2 1193 ls (o.1.toList ++ []) o.2) else none := ay_virtual (as := [w1]) (st := []) dL_law_1190 kc_12_130 rfl rfl (Nat.le_of_ble_eq_true rfl)
theorem sL_law_1190_1 : ab_X rom K cL_law 12 2 1190 ls [w1, .ref a, v0] hp = if ab_iso hp a 6 = true then (K 108 (.ref a :: [w1]) hp).bind (fun o => ab_X rom K cL_law 12 2 1193 ls (o.1.toList ++ [v0]) o.2) else none := ay_virtual (as := [w1]) (st := [v0]) dL_law_1190 kc_12_130 rfl rfl (Nat.le_of_ble_eq_true rfl)
theorem sL_law_1190_2 : ab_X rom K cL_law 12 2 1190 ls [w1, .ref a, v0, v1] hp = if ab_iso hp a 6 = true then (K 108 (.ref a :: [w1]) hp).bind (fun o => ab_X rom K cL_law 12 2 1193 ls (o.1.toList ++ [v0, v1]) o.2) else none := ay_virtual (as := [w1]) (st := [v0, v1]) dL_law_1190 kc_12_130 rfl rfl (Nat.le_of_ble_eq_true rfl)
theorem sL_law_1190_3 : ab_X rom K cL_law 12 2 1190 ls [w1, .ref a, v0, v1, v2] hp = if ab_iso hp a 6 = true then (K 108 (.ref a :: [w1]) hp).bind (fun o => ab_X rom K cL_law 12 2 1193 ls (o.1.toList ++ [v0, v1, v2]) o.2) else none := ay_virtual (as := [w1]) (st := [v0, v1, v2]) dL_law_1190 kc_12_130 rfl rfl (Nat.le_of_ble_eq_true rfl)
theorem dL_law_1193 : decode cL_law 1193 = .ok (.aload_n 2, 1) := by decide +kernel
theorem sL_law_1193 : ab_X rom K cL_law 12 2 1193 (v0 :: v1 :: .ref a :: ls) st hp = ab_X rom K cL_law 12 2 1194 (v0 :: v1 :: .ref a :: ls) (.ref a :: st) hp := ax_aload_n dL_law_1193 rfl rfl
theorem dL_law_1194 : decode cL_law 1194 = .ok (.aload_n 0, 1) := by decide +kernel
theorem sL_law_1194 : ab_X rom K cL_law 12 2 1194 (.ref a :: ls) st hp = ab_X rom K cL_law 12 2 1195 (.ref a :: ls) (.ref a :: st) hp := ax_aload_n dL_law_1194 rfl rfl
theorem dL_law_1195 : decode cL_law 1195 = .ok (.iload_n 3, 1) := by decide +kernel
theorem sL_law_1195 : ab_X rom K cL_law 12 2 1195 (v0 :: v1 :: v2 :: .int x :: ls) st hp = ab_X rom K cL_law 12 2 1196 (v0 :: v1 :: v2 :: .int x :: ls) (.int x :: st) hp := ax_iload_n dL_law_1195 rfl rfl
theorem dL_law_1196 : decode cL_law 1196 = .ok (.iconst 1, 1) := by decide +kernel
theorem sL_law_1196 : ab_X rom K cL_law 12 2 1196 ls st hp = ab_X rom K cL_law 12 2 1197 ls (.int 1 :: st) hp := ax_iconst dL_law_1196 (by decide) rfl
theorem dL_law_1197 : decode cL_law 1197 = .ok (.iadd, 1) := by decide +kernel
theorem sL_law_1197 : ab_X rom K cL_law 12 2 1197 ls (.int y :: .int x :: st) hp = ab_X rom K cL_law 12 2 1198 ls (.int (x + y) :: st) hp := ax_iadd dL_law_1197 rfl
theorem dL_law_1198 : decode cL_law 1198 = .ok (.iaload, 1) := by decide +kernel
theorem sL_law_1198 : ab_X rom K cL_law 12 2 1198 ls (.int x :: .ref a :: st) hp = (ab_ard rom 0 hp a x).bind (fun v => ab_X rom K cL_law 12 2 1199 ls (.int v :: st) hp) := ax_iaload dL_law_1198 rfl
theorem dL_law_1199 : decode cL_law 1199 = .ok (.invokevirtual 133, 3) := by decide +kernel
theorem sL_law_1199_0 : ab_X rom K cL_law 12 2 1199 ls [w1, .ref a] hp = if ab_iso hp a 7 = true then (K 199 (.ref a :: [w1]) hp).bind (fun o => ab_X rom K cL_law 12 2 1202 ls (o.1.toList ++ []) o.2) else none := ay_virtual (as := [w1]) (st := []) dL_law_1199 kc_12_133 rfl rfl (Nat.le_of_ble_eq_true rfl)
theorem sL_law_1199_1 : ab_X rom K cL_law 12 2 1199 ls [w1, .ref a, v0] hp = if ab_iso hp a 7 = true then (K 199 (.ref a :: [w1]) hp).bind (fun o => ab_X rom K cL_law 12 2 1202 ls (o.1.toList ++ [v0]) o.2) else none := ay_virtual (as := [w1]) (st := [v0]) dL_law_1199 kc_12_133 rfl rfl (Nat.le_of_ble_eq_true rfl)
theorem sL_law_1199_2 : ab_X rom K cL_law 12 2 1199 ls [w1, .ref a, v0, v1] hp = if ab_iso hp a 7 = true then (K 199 (.ref a :: [w1]) hp).bind (fun o => ab_X rom K cL_law 12 2 1202 ls (o.1.toList ++ [v0, v1]) o.2) else none := ay_virtual (as := [w1]) (st := [v0, v1]) dL_law_1199 kc_12_133 rfl rfl (Nat.le_of_ble_eq_true rfl)
theorem sL_law_1199_3 : ab_X rom K cL_law 12 2 1199 ls [w1, .ref a, v0, v1, v2] hp = if ab_iso hp a 7 = true then (K 199 (.ref a :: [w1]) hp).bind (fun o => ab_X rom K cL_law 12 2 1202 ls (o.1.toList ++ [v0, v1, v2]) o.2) else none := ay_virtual (as := [w1]) (st := [v0, v1, v2]) dL_law_1199 kc_12_133 rfl rfl (Nat.le_of_ble_eq_true rfl)
theorem dL_law_1202 : decode cL_law 1202 = .ok (.if_icmp .eq 282, 3) := by decide +kernel
theorem sL_law_1202 : ab_X rom K cL_law 12 2 1202 ls (.int y :: .int x :: st) hp = if x = y then ab_X rom K cL_law 12 2 1484 ls st hp else ab_X rom K cL_law 12 2 1205 ls st hp := ax_icmp_eq dL_law_1202 (by decide) rfl
theorem dL_law_1207 : decode cL_law 1207 = .ok (.aload_n 1, 1) := by decide +kernel
theorem sL_law_1207 : ab_X rom K cL_law 12 2 1207 (v0 :: .ref a :: ls) st hp = ab_X rom K cL_law 12 2 1208 (v0 :: .ref a :: ls) (.ref a :: st) hp := ax_aload_n dL_law_1207 rfl rfl
theorem dL_law_1208 : decode cL_law 1208 = .ok (.aload_n 0, 1) := by decide +kernel
theorem sL_law_1208 : ab_X rom K cL_law 12 2 1208 (.ref a :: ls) st hp = ab_X rom K cL_law 12 2 1209 (.ref a :: ls) (.ref a :: st) hp := ax_aload_n dL_law_1208 rfl rfl
theorem dL_law_1209 : decode cL_law 1209 = .ok (.iload_n 3, 1) := by decide +kernel
theorem sL_law_1209 : ab_X rom K cL_law 12 2 1209 (v0 :: v1 :: v2 :: .int x :: ls) st hp = ab_X rom K cL_law 12 2 1210 (v0 :: v1 :: v2 :: .int x :: ls) (.int x :: st) hp := ax_iload_n dL_law_1209 rfl rfl
theorem dL_law_1210 : decode cL_law 1210 = .ok (.iconst 1, 1) := by decide +kernel
theorem sL_law_1210 : ab_X rom K cL_law 12 2 1210 ls st hp = ab_X rom K cL_law 12 2 1211 ls (.int 1 :: st) hp := ax_iconst dL_law_1210 (by decide) rfl
theorem dL_law_1211 : decode cL_law 1211 = .ok (.iadd, 1) := by decide +kernel
theorem sL_law_1211 : ab_X rom K cL_law 12 2 1211 ls (.int y :: .int x :: st) hp = ab_X rom K cL_law 12 2 1212 ls (.int (x + y) :: st) hp := ax_iadd dL_law_1211 rfl
theorem dL_law_1212 : decode cL_law 1212 = .ok (.iaload, 1) := by decide +kernel
theorem sL_law_1212 : ab_X rom K cL_law 12 2 1212 ls (.int x :: .ref a :: st) hp = (ab_ard rom 0 hp a x).bind (fun v => ab_X rom K cL_law 12 2 1213 ls (.int v :: st) hp) := ax_iaload dL_law_1212 rfl
theorem dL_law_1213 : decode cL_law 1213 = .ok (.invokevirtual 134, 3) := by decide +kernel
theorem sL_law_1213_0 : ab_X rom K cL_law 12 2 1213 ls [w1, .ref a] hp = if ab_iso hp a 6 = true then (K 117 (.ref a :: [w1]) hp).bind (fun o => ab_X rom K cL_law 12 2 1216 ls (o.1.toList ++ []) o.2) else none := ay_virtual (as := [w1]) (st := []) dL_law_1213 kc_12_134 rfl rfl (Nat.le_of_ble_eq_true rfl)
theorem sL_law_1213_1 : ab_X rom K cL_law 12 2 1213 ls [w1, .ref a, v0] hp = if ab_iso hp a 6 = true then (K 117 (.ref a :: [w1]) hp).bind (fun o => ab_X rom K cL_law 12 2 1216 ls (o.1.toList ++ [v0]) o.2) else none := ay_virtual (as := [w1]) (st := [v0]) dL_law_1213 kc_12_134 rfl rfl (Nat.le_of_ble_eq_true rfl)
theorem sL_law_1213_2 : ab_X rom K cL_law 12 2 1213 ls [w1, .ref a, v0, v1] hp = if ab_iso hp a 6 = true then (K 117 (.ref a :: [w1]) hp).bind (fun o => ab_X rom K cL_law 12 2 1216 ls (o.1.toList ++ [v0, v1]) o.2) else none := ay_virtual (as := [w1]) (st := [v0, v1]) dL_law_1213 kc_12_134 rfl rfl (Nat.le_of_ble_eq_true rfl)
theorem sL_law_1213_3 : ab_X rom K cL_law 12 2 1213 ls [w1, .ref a, v0, v1, v2] hp = if ab_iso hp a 6 = true then (K 117 (.ref a :: [w1]) hp).bind (fun o => ab_X rom K cL_law 12 2 1216 ls (o.1.toList ++ [v0, v1, v2]) o.2) else none := ay_virtual (as := [w1]) (st := [v0, v1, v2]) dL_law_1213 kc_12_134 rfl rfl (Nat.le_of_ble_eq_true rfl)
theorem dL_law_1216 : decode cL_law 1216 = .ok (.aload_n 2, 1) := by decide +kernel
theorem sL_law_1216 : ab_X rom K cL_law 12 2 1216 (v0 :: v1 :: .ref a :: ls) st hp = ab_X rom K cL_law 12 2 1217 (v0 :: v1 :: .ref a :: ls) (.ref a :: st) hp := ax_aload_n dL_law_1216 rfl rfl
theorem dL_law_1217 : decode cL_law 1217 = .ok (.aload_n 0, 1) := by decide +kernel
theorem sL_law_1217 : ab_X rom K cL_law 12 2 1217 (.ref a :: ls) st hp = ab_X rom K cL_law 12 2 1218 (.ref a :: ls) (.ref a :: st) hp := ax_aload_n dL_law_1217 rfl rfl
theorem dL_law_1218 : decode cL_law 1218 = .ok (.iload_n 3, 1) := by decide +kernel
theorem sL_law_1218 : ab_X rom K cL_law 12 2 1218 (v0 :: v1 :: v2 :: .int x :: ls) st hp = ab_X rom K cL_law 12 2 1219 (v0 :: v1 :: v2 :: .int x :: ls) (.int x :: st) hp := ax_iload_n dL_law_1218 rfl rfl
theorem dL_law_1219 : decode cL_law 1219 = .ok (.iconst 1, 1) := by decide +kernel
theorem sL_law_1219 : ab_X rom K cL_law 12 2 1219 ls st hp = ab_X rom K cL_law 12 2 1220 ls (.int 1 :: st) hp := ax_iconst dL_law_1219 (by decide) rfl
theorem dL_law_1220 : decode cL_law 1220 = .ok (.iadd, 1) := by decide +kernel
theorem sL_law_1220 : ab_X rom K cL_law 12 2 1220 ls (.int y :: .int x :: st) hp = ab_X rom K cL_law 12 2 1221 ls (.int (x + y) :: st) hp := ax_iadd dL_law_1220 rfl
theorem dL_law_1221 : decode cL_law 1221 = .ok (.iaload, 1) := by decide +kernel
theorem sL_law_1221 : ab_X rom K cL_law 12 2 1221 ls (.int x :: .ref a :: st) hp = (ab_ard rom 0 hp a x).bind (fun v => ab_X rom K cL_law 12 2 1222 ls (.int v :: st) hp) := ax_iaload dL_law_1221 rfl
theorem dL_law_1222 : decode cL_law 1222 = .ok (.invokevirtual 137, 3) := by decide +kernel
theorem sL_law_1222_0 : ab_X rom K cL_law 12 2 1222 ls [w1, .ref a] hp = if ab_iso hp a 7 = true then (K 227 (.ref a :: [w1]) hp).bind (fun o => ab_X rom K cL_law 12 2 1225 ls (o.1.toList ++ []) o.2) else none := ay_virtual (as := [w1]) (st := []) dL_law_1222 kc_12_137 rfl rfl (Nat.le_of_ble_eq_true rfl)
theorem sL_law_1222_1 : ab_X rom K cL_law 12 2 1222 ls [w1, .ref a, v0] hp = if ab_iso hp a 7 = true then (K 227 (.ref a :: [w1]) hp).bind (fun o => ab_X rom K cL_law 12 2 1225 ls (o.1.toList ++ [v0]) o.2) else none := ay_virtual (as := [w1]) (st := [v0]) dL_law_1222 kc_12_137 rfl rfl (Nat.le_of_ble_eq_true rfl)
theorem sL_law_1222_2 : ab_X rom K cL_law 12 2 1222 ls [w1, .ref a, v0, v1] hp = if ab_iso hp a 7 = true then (K 227 (.ref a :: [w1]) hp).bind (fun o => ab_X rom K cL_law 12 2 1225 ls (o.1.toList ++ [v0, v1]) o.2) else none := ay_virtual (as := [w1]) (st := [v0, v1]) dL_law_1222 kc_12_137 rfl rfl (Nat.le_of_ble_eq_true rfl)
theorem sL_law_1222_3 : ab_X rom K cL_law 12 2 1222 ls [w1, .ref a, v0, v1, v2] hp = if ab_iso hp a 7 = true then (K 227 (.ref a :: [w1]) hp).bind (fun o => ab_X rom K cL_law 12 2 1225 ls (o.1.toList ++ [v0, v1, v2]) o.2) else none := ay_virtual (as := [w1]) (st := [v0, v1, v2]) dL_law_1222 kc_12_137 rfl rfl (Nat.le_of_ble_eq_true rfl)
theorem dL_law_1225 : decode cL_law 1225 = .ok (.if_icmp .eq 259, 3) := by decide +kernel
theorem sL_law_1225 : ab_X rom K cL_law 12 2 1225 ls (.int y :: .int x :: st) hp = if x = y then ab_X rom K cL_law 12 2 1484 ls st hp else ab_X rom K cL_law 12 2 1228 ls st hp := ax_icmp_eq dL_law_1225 (by decide) rfl
theorem dL_law_1230 : decode cL_law 1230 = .ok (.aload_n 1, 1) := by decide +kernel
theorem sL_law_1230 : ab_X rom K cL_law 12 2 1230 (v0 :: .ref a :: ls) st hp = ab_X rom K cL_law 12 2 1231 (v0 :: .ref a :: ls) (.ref a :: st) hp := ax_aload_n dL_law_1230 rfl rfl
theorem dL_law_1231 : decode cL_law 1231 = .ok (.aload_n 0, 1) := by decide +kernel
theorem sL_law_1231 : ab_X rom K cL_law 12 2 1231 (.ref a :: ls) st hp = ab_X rom K cL_law 12 2 1232 (.ref a :: ls) (.ref a :: st) hp := ax_aload_n dL_law_1231 rfl rfl
theorem dL_law_1232 : decode cL_law 1232 = .ok (.iload_n 3, 1) := by decide +kernel
theorem sL_law_1232 : ab_X rom K cL_law 12 2 1232 (v0 :: v1 :: v2 :: .int x :: ls) st hp = ab_X rom K cL_law 12 2 1233 (v0 :: v1 :: v2 :: .int x :: ls) (.int x :: st) hp := ax_iload_n dL_law_1232 rfl rfl
theorem dL_law_1233 : decode cL_law 1233 = .ok (.iconst 1, 1) := by decide +kernel
theorem sL_law_1233 : ab_X rom K cL_law 12 2 1233 ls st hp = ab_X rom K cL_law 12 2 1234 ls (.int 1 :: st) hp := ax_iconst dL_law_1233 (by decide) rfl
theorem dL_law_1234 : decode cL_law 1234 = .ok (.iadd, 1) := by decide +kernel
theorem sL_law_1234 : ab_X rom K cL_law 12 2 1234 ls (.int y :: .int x :: st) hp = ab_X rom K cL_law 12 2 1235 ls (.int (x + y) :: st) hp := ax_iadd dL_law_1234 rfl
theorem dL_law_1235 : decode cL_law 1235 = .ok (.iaload, 1) := by decide +kernel
theorem sL_law_1235 : ab_X rom K cL_law 12 2 1235 ls (.int x :: .ref a :: st) hp = (ab_ard rom 0 hp a x).bind (fun v => ab_X rom K cL_law 12 2 1236 ls (.int v :: st) hp) := ax_iaload dL_law_1235 rfl
theorem dL_law_1236 : decode cL_law 1236 = .ok (.invokevirtual 138, 3) := by decide +kernel
theorem sL_law_1236_0 : ab_X rom K cL_law 12 2 1236 ls [w1, .ref a] hp = if ab_iso hp a 6 = true then (K 88 (.ref a :: [w1]) hp).bind (fun o => ab_X rom K cL_law 12 2 1239 ls (o.1.toList ++ []) o.2) else none := ay_virtual (as := [w1]) (st := []) dL_law_1236 kc_12_138 rfl rfl (Nat.le_of_ble_eq_true rfl)
theorem sL_law_1236_1 : ab_X rom K cL_law 12 2 1236 ls [w1, .ref a, v0] hp = if ab_iso hp a 6 = true then (K 88 (.ref a :: [w1]) hp).bind (fun o => ab_X rom K cL_law 12 2 1239 ls (o.1.toList ++ [v0]) o.2) else none := ay_virtual (as := [w1]) (st := [v0]) dL_law_1236 kc_12_138 rfl rfl (Nat.le_of_ble_eq_true rfl)
theorem sL_law_1236_2 : ab_X rom K cL_law 12 2 1236 ls [w1, .ref a, v0, v1] hp = if ab_iso hp a 6 = true then (K 88 (.ref a :: [w1]) hp).bind (fun o => ab_X rom K cL_law 12 2 1239 ls (o.1.toList ++ [v0, v1]) o.2) else none := ay_virtual (as := [w1]) (st := [v0, v1]) dL_law_1236 kc_12_138 rfl rfl (Nat.le_of_ble_eq_true rfl)
theorem sL_law_1236_3 : ab_X rom K cL_law 12 2 1236 ls [w1, .ref a, v0, v1, v2] hp = if ab_iso hp a 6 = true then (K 88 (.ref a :: [w1]) hp).bind (fun o => ab_X rom K cL_law 12 2 1239 ls (o.1.toList ++ [v0, v1, v2]) o.2) else none := ay_virtual (as := [w1]) (st := [v0, v1, v2]) dL_law_1236 kc_12_138 rfl rfl (Nat.le_of_ble_eq_true rfl)
theorem dL_law_1239 : decode cL_law 1239 = .ok (.aload_n 2, 1) := by decide +kernel
theorem sL_law_1239 : ab_X rom K cL_law 12 2 1239 (v0 :: v1 :: .ref a :: ls) st hp = ab_X rom K cL_law 12 2 1240 (v0 :: v1 :: .ref a :: ls) (.ref a :: st) hp := ax_aload_n dL_law_1239 rfl rfl
theorem dL_law_1240 : decode cL_law 1240 = .ok (.aload_n 0, 1) := by decide +kernel
theorem sL_law_1240 : ab_X rom K cL_law 12 2 1240 (.ref a :: ls) st hp = ab_X rom K cL_law 12 2 1241 (.ref a :: ls) (.ref a :: st) hp := ax_aload_n dL_law_1240 rfl rfl
theorem dL_law_1241 : decode cL_law 1241 = .ok (.iload_n 3, 1) := by decide +kernel
theorem sL_law_1241 : ab_X rom K cL_law 12 2 1241 (v0 :: v1 :: v2 :: .int x :: ls) st hp = ab_X rom K cL_law 12 2 1242 (v0 :: v1 :: v2 :: .int x :: ls) (.int x :: st) hp := ax_iload_n dL_law_1241 rfl rfl
theorem dL_law_1242 : decode cL_law 1242 = .ok (.iconst 1, 1) := by decide +kernel
theorem sL_law_1242 : ab_X rom K cL_law 12 2 1242 ls st hp = ab_X rom K cL_law 12 2 1243 ls (.int 1 :: st) hp := ax_iconst dL_law_1242 (by decide) rfl
theorem dL_law_1243 : decode cL_law 1243 = .ok (.iadd, 1) := by decide +kernel
theorem sL_law_1243 : ab_X rom K cL_law 12 2 1243 ls (.int y :: .int x :: st) hp = ab_X rom K cL_law 12 2 1244 ls (.int (x + y) :: st) hp := ax_iadd dL_law_1243 rfl
theorem dL_law_1244 : decode cL_law 1244 = .ok (.iaload, 1) := by decide +kernel
theorem sL_law_1244 : ab_X rom K cL_law 12 2 1244 ls (.int x :: .ref a :: st) hp = (ab_ard rom 0 hp a x).bind (fun v => ab_X rom K cL_law 12 2 1245 ls (.int v :: st) hp) := ax_iaload dL_law_1244 rfl
theorem dL_law_1245 : decode cL_law 1245 = .ok (.invokevirtual 141, 3) := by decide +kernel
theorem sL_law_1245_0 : ab_X rom K cL_law 12 2 1245 ls [w1, .ref a] hp = if ab_iso hp a 7 = true then (K 147 (.ref a :: [w1]) hp).bind (fun o => ab_X rom K cL_law 12 2 1248 ls (o.1.toList ++ []) o.2) else none := ay_virtual (as := [w1]) (st := []) dL_law_1245 kc_12_141 rfl rfl (Nat.le_of_ble_eq_true rfl)
theorem sL_law_1245_1 : ab_X rom K cL_law 12 2 1245 ls [w1, .ref a, v0] hp = if ab_iso hp a 7 = true then (K 147 (.ref a :: [w1]) hp).bind (fun o => ab_X rom K cL_law 12 2 1248 ls (o.1.toList ++ [v0]) o.2) else none := ay_virtual (as := [w1]) (st := [v0]) dL_law_1245 kc_12_141 rfl rfl (Nat.le_of_ble_eq_true rfl)
theorem sL_law_1245_2 : ab_X rom K cL_law 12 2 1245 ls [w1, .ref a, v0, v1] hp = if ab_iso hp a 7 = true then (K 147 (.ref a :: [w1]) hp).bind (fun o => ab_X rom K cL_law 12 2 1248 ls (o.1.toList ++ [v0, v1]) o.2) else none := ay_virtual (as := [w1]) (st := [v0, v1]) dL_law_1245 kc_12_141 rfl rfl (Nat.le_of_ble_eq_true rfl)
theorem sL_law_1245_3 : ab_X rom K cL_law 12 2 1245 ls [w1, .ref a, v0, v1, v2] hp = if ab_iso hp a 7 = true then (K 147 (.ref a :: [w1]) hp).bind (fun o => ab_X rom K cL_law 12 2 1248 ls (o.1.toList ++ [v0, v1, v2]) o.2) else none := ay_virtual (as := [w1]) (st := [v0, v1, v2]) dL_law_1245 kc_12_141 rfl rfl (Nat.le_of_ble_eq_true rfl)
theorem dL_law_1248 : decode cL_law 1248 = .ok (.if_icmp .eq 236, 3) := by decide +kernel
theorem sL_law_1248 : ab_X rom K cL_law 12 2 1248 ls (.int y :: .int x :: st) hp = if x = y then ab_X rom K cL_law 12 2 1484 ls st hp else ab_X rom K cL_law 12 2 1251 ls st hp := ax_icmp_eq dL_law_1248 (by decide) rfl
theorem dL_law_1253 : decode cL_law 1253 = .ok (.aload_n 1, 1) := by decide +kernel
theorem sL_law_1253 : ab_X rom K cL_law 12 2 1253 (v0 :: .ref a :: ls) st hp = ab_X rom K cL_law 12 2 1254 (v0 :: .ref a :: ls) (.ref a :: st) hp := ax_aload_n dL_law_1253 rfl rfl
theorem dL_law_1254 : decode cL_law 1254 = .ok (.aload_n 0, 1) := by decide +kernel
theorem sL_law_1254 : ab_X rom K cL_law 12 2 1254 (.ref a :: ls) st hp = ab_X rom K cL_law 12 2 1255 (.ref a :: ls) (.ref a :: st) hp := ax_aload_n dL_law_1254 rfl rfl
theorem dL_law_1255 : decode cL_law 1255 = .ok (.iload_n 3, 1) := by decide +kernel
theorem sL_law_1255 : ab_X rom K cL_law 12 2 1255 (v0 :: v1 :: v2 :: .int x :: ls) st hp = ab_X rom K cL_law 12 2 1256 (v0 :: v1 :: v2 :: .int x :: ls) (.int x :: st) hp := ax_iload_n dL_law_1255 rfl rfl
theorem dL_law_1256 : decode cL_law 1256 = .ok (.iconst 1, 1) := by decide +kernel
theorem sL_law_1256 : ab_X rom K cL_law 12 2 1256 ls st hp = ab_X rom K cL_law 12 2 1257 ls (.int 1 :: st) hp := ax_iconst dL_law_1256 (by decide) rfl
theorem dL_law_1257 : decode cL_law 1257 = .ok (.iadd, 1) := by decide +kernel
theorem sL_law_1257 : ab_X rom K cL_law 12 2 1257 ls (.int y :: .int x :: st) hp = ab_X rom K cL_law 12 2 1258 ls (.int (x + y) :: st) hp := ax_iadd dL_law_1257 rfl
theorem dL_law_1258 : decode cL_law 1258 = .ok (.iaload, 1) := by decide +kernel
theorem sL_law_1258 : ab_X rom K cL_law 12 2 1258 ls (.int x :: .ref a :: st) hp = (ab_ard rom 0 hp a x).bind (fun v => ab_X rom K cL_law 12 2 1259 ls (.int v :: st) hp) := ax_iaload dL_law_1258 rfl
theorem dL_law_1259 : decode cL_law 1259 = .ok (.aload_n 0, 1) := by decide +kernel
theorem sL_law_1259 : ab_X rom K cL_law 12 2 1259 (.ref a :: ls) st hp = ab_X rom K cL_law 12 2 1260 (.ref a :: ls) (.ref a :: st) hp := ax_aload_n dL_law_1259 rfl rfl
theorem dL_law_1260 : decode cL_law 1260 = .ok (.iload_n 3, 1) := by decide +kernel
theorem sL_law_1260 : ab_X rom K cL_law 12 2 1260 (v0 :: v1 :: v2 :: .int x :: ls) st hp = ab_X rom K cL_law 12 2 1261 (v0 :: v1 :: v2 :: .int x :: ls) (.int x :: st) hp := ax_iload_n dL_law_1260 rfl rfl
theorem dL_law_1261 : decode cL_law 1261 = .ok (.iconst 2, 1) := by decide +kernel
theorem sL_law_1261 : ab_X rom K cL_law 12 2 1261 ls st hp = ab_X rom K cL_law 12 2 1262 ls (.int 2 :: st) hp := ax_iconst dL_law_1261 (by decide) rfl
theorem dL_law_1262 : decode cL_law 1262 = .ok (.iadd, 1) := by decide +kernel
theorem sL_law_1262 : ab_X rom K cL_law 12 2 1262 ls (.int y :: .int x :: st) hp = ab_X rom K cL_law 12 2 1263 ls (.int (x + y) :: st) hp := ax_iadd dL_law_1262 rfl
theorem dL_law_1263 : decode cL_law 1263 = .ok (.iaload, 1) := by decide +kernel
theorem sL_law_1263 : ab_X rom K cL_law 12 2 1263 ls (.int x :: .ref a :: st) hp = (ab_ard rom 0 hp a x).bind (fun v => ab_X rom K cL_law 12 2 1264 ls (.int v :: st) hp) := ax_iaload dL_law_1263 rfl
theorem dL_law_1264 : decode cL_law 1264 = .ok (.aload_n 0, 1) := by decide +kernel
theorem sL_law_1264 : ab_X rom K cL_law 12 2 1264 (.ref a :: ls) st hp = ab_X rom K cL_law 12 2 1265 (.ref a :: ls) (.ref a :: st) hp := ax_aload_n dL_law_1264 rfl rfl
theorem dL_law_1265 : decode cL_law 1265 = .ok (.iload_n 3, 1) := by decide +kernel
theorem sL_law_1265 : ab_X rom K cL_law 12 2 1265 (v0 :: v1 :: v2 :: .int x :: ls) st hp = ab_X rom K cL_law 12 2 1266 (v0 :: v1 :: v2 :: .int x :: ls) (.int x :: st) hp := ax_iload_n dL_law_1265 rfl rfl
theorem dL_law_1266 : decode cL_law 1266 = .ok (.iconst 3, 1) := by decide +kernel
theorem sL_law_1266 : ab_X rom K cL_law 12 2 1266 ls st hp = ab_X rom K cL_law 12 2 1267 ls (.int 3 :: st) hp := ax_iconst dL_law_1266 (by decide) rfl
theorem dL_law_1267 : decode cL_law 1267 = .ok (.iadd, 1) := by decide +kernel
theorem sL_law_1267 : ab_X rom K cL_law 12 2 1267 ls (.int y :: .int x :: st) hp = ab_X rom K cL_law 12 2 1268 ls (.int (x + y) :: st) hp := ax_iadd dL_law_1267 rfl
theorem dL_law_1268 : decode cL_law 1268 = .ok (.iaload, 1) := by decide +kernel
theorem sL_law_1268 : ab_X rom K cL_law 12 2 1268 ls (.int x :: .ref a :: st) hp = (ab_ard rom 0 hp a x).bind (fun v => ab_X rom K cL_law 12 2 1269 ls (.int v :: st) hp) := ax_iaload dL_law_1268 rfl
theorem dL_law_1269 : decode cL_law 1269 = .ok (.invokevirtual 142, 3) := by decide +kernel
theorem sL_law_1269_0 : ab_X rom K cL_law 12 2 1269 ls [w3, w2, w1, .ref a] hp = if ab_iso hp a 6 = true then (K 94 (.ref a :: [w1, w2, w3]) hp).bind (fun o => ab_X rom K cL_law 12 2 1272 ls (o.1.toList ++ []) o.2) else none := ay_virtual (as := [w1, w2, w3]) (st := []) dL_law_1269 kc_12_142 rfl rfl (Nat.le_of_ble_eq_true rfl)
theorem sL_law_1269_1 : ab_X rom K cL_law 12 2 1269 ls [w3, w2, w1, .ref a, v0] hp = if ab_iso hp a 6 = true then (K 94 (.ref a :: [w1, w2, w3]) hp).bind (fun o => ab_X rom K cL_law 12 2 1272 ls (o.1.toList ++ [v0]) o.2) else none := ay_virtual (as := [w1, w2, w3]) (st := [v0]) dL_law_1269 kc_12_142 rfl rfl (Nat.le_of_ble_eq_true rfl)
theorem sL_law_1269_2 : ab_X rom K cL_law 12 2 1269 ls [w3, w2, w1, .ref a, v0, v1] hp = if ab_iso hp a 6 = true then (K 94 (.ref a :: [w1, w2, w3]) hp).bind (fun o => ab_X rom K cL_law 12 2 1272 ls (o.1.toList ++ [v0, v1]) o.2) else none := ay_virtual (as := [w1, w2, w3]) (st := [v0, v1]) dL_law_1269 kc_12_142 rfl rfl (Nat.le_of_ble_eq_true rfl)
theorem sL_law_1269_3 : ab_X rom K cL_law 12 2 1269 ls [w3, w2, w1, .ref a, v0, v1, v2] hp = if ab_iso hp a 6 = true then (K 94 (.ref a :: [w1, w2, w3]) hp).bind (fun o => ab_X rom K cL_law 12 2 1272 ls (o.1.toList ++ [v0, v1, v2]) o.2) else none := ay_virtual (as := [w1, w2, w3]) (st := [v0, v1, v2]) dL_law_1269 kc_12_142 rfl rfl (Nat.le_of_ble_eq_true rfl)
theorem dL_law_1272 : decode cL_law 1272 = .ok (.aload_n 2, 1) := by decide +kernel
theorem sL_law_1272 : ab_X rom K cL_law 12 2 1272 (v0 :: v1 :: .ref a :: ls) st hp = ab_X rom K cL_law 12 2 1273 (v0 :: v1 :: .ref a :: ls) (.ref a :: st) hp := ax_aload_n dL_law_1272 rfl rfl
theorem dL_law_1273 : decode cL_law 1273 = .ok (.aload_n 0, 1) := by decide +kernel
theorem sL_law_1273 : ab_X rom K cL_law 12 2 1273 (.ref a :: ls) st hp = ab_X rom K cL_law 12 2 1274 (.ref a :: ls) (.ref a :: st) hp := ax_aload_n dL_law_1273 rfl rfl
theorem dL_law_1274 : decode cL_law 1274 = .ok (.iload_n 3, 1) := by decide +kernel
theorem sL_law_1274 : ab_X rom K cL_law 12 2 1274 (v0 :: v1 :: v2 :: .int x :: ls) st hp = ab_X rom K cL_law 12 2 1275 (v0 :: v1 :: v2 :: .int x :: ls) (.int x :: st) hp := ax_iload_n dL_law_1274 rfl rfl
theorem dL_law_1275 : decode cL_law 1275 = .ok (.iconst 1, 1) := by decide +kernel
theorem sL_law_1275 : ab_X rom K cL_law 12 2 1275 ls st hp = ab_X rom K cL_law 12 2 1276 ls (.int 1 :: st) hp := ax_iconst dL_law_1275 (by decide) rfl
theorem dL_law_1276 : decode cL_law 1276 = .ok (.iadd, 1) := by decide +kernel
theorem sL_law_1276 : ab_X rom K cL_law 12 2 1276 ls (.int y :: .int x :: st) hp = ab_X rom K cL_law 12 2 1277 ls (.int (x + y) :: st) hp := ax_iadd dL_law_1276 rfl
theorem dL_law_1277 : decode cL_law 1277 = .ok (.iaload, 1) := by decide +kernel
theorem sL_law_1277 : ab_X rom K cL_law 12 2 1277 ls (.int x :: .ref a :: st) hp = (ab_ard rom 0 hp a x).bind (fun v => ab_X rom K cL_law 12 2 1278 ls (.int v :: st) hp) := ax_iaload dL_law_1277 rfl
end
