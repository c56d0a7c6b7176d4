/-! FairLabels$Tape: its methods step by step (printed by wip/whole/gen_steps.py) -/
section
variable {rom : List (List Int32)} {K : Nat → List Value → ab_H → Option ab_O} {ls st : List Value} {hp : ab_H} {x y z : Int32} {a a2 : Nat} {sp dp : Int32} {u w : Int64} {v0 v1 v2 v3 v4 v5 v6 v7 v8 v9 v10 v11 v12 v13 v14 v15 w1 w2 w3 w4 w5 w6 : Value}
theorem tX7_init : ab_mT[75]? = some (yX7_init, cX7_init, 1, 3, 5) := by decide +kernel
theorem mX7_init {d : Nat} {a0 : Nat} : ab_M rom (d + 1) 75 [.ref a0] hp = ab_X rom (ab_M rom d) cX7_init 5 3 0 [.ref a0] [] hp := ab_M_eq tX7_init (Nat.le_of_ble_eq_true rfl)
theorem dX7_init_0 : decode cX7_init 0 = .ok (.aload_n 0, 1) := by decide +kernel
theorem sX7_init_0 : ab_X rom K cX7_init 5 3 0 (.ref a :: ls) st hp = ab_X rom K cX7_init 5 3 1 (.ref a :: ls) (.ref a :: st) hp := ax_aload_n dX7_init_0 rfl rfl
theorem dX7_init_1 : decode cX7_init 1 = .ok (.invokespecial 3, 3) := by decide +kernel
theorem sX7_init_1_0 : ab_X rom K cX7_init 5 3 1 ls [.ref a] hp = ab_X rom K cX7_init 5 3 4 ls [] hp := ax_obj dX7_init_1 kc_5_3 rfl (Nat.le_of_ble_eq_true rfl)
theorem sX7_init_1_1 : ab_X rom K cX7_init 5 3 1 ls [.ref a, v0] hp = ab_X rom K cX7_init 5 3 4 ls [v0] hp := ax_obj dX7_init_1 kc_5_3 rfl (Nat.le_of_ble_eq_true rfl)
theorem sX7_init_1_2 : ab_X rom K cX7_init 5 3 1 ls [.ref a, v0, v1] hp = ab_X rom K cX7_init 5 3 4 ls [v0, v1] hp := ax_obj dX7_init_1 kc_5_3 rfl (Nat.le_of_ble_eq_true rfl)
theorem sX7_init_1_3 : ab_X rom K cX7_init 5 3 1 ls [.ref a, v0, v1, v2] hp = ab_X rom K cX7_init 5 3 4 ls [v0, v1, v2] hp := ax_obj dX7_init_1 kc_5_3 rfl (Nat.le_of_ble_eq_true rfl)
theorem dX7_init_4 : decode cX7_init 4 = .ok (.aload_n 0, 1) := by decide +kernel
theorem sX7_init_4 : ab_X rom K cX7_init 5 3 4 (.ref a :: ls) st hp = ab_X rom K cX7_init 5 3 5 (.ref a :: ls) (.ref a :: st) hp := ax_aload_n dX7_init_4 rfl rfl
theorem dX7_init_5 : decode cX7_init 5 = .ok (.sipush 400, 3) := by decide +kernel
theorem sX7_init_5 : ab_X rom K cX7_init 5 3 5 ls st hp = ab_X rom K cX7_init 5 3 8 ls (.int 400 :: st) hp := ax_sipush dX7_init_5 (by decide) rfl
theorem dX7_init_8 : decode cX7_init 8 = .ok (.newarray .int, 2) := by decide +kernel
theorem sX7_init_8 : ab_X rom K cX7_init 5 3 8 ls (.int x :: st) hp = if ¬ x < 0 ∧ x.toNatClampNeg ≤ 1000 ∧ hp.length < ab_RO then ab_X rom K cX7_init 5 3 10 ls (.ref hp.length :: st) (hp ++ [.inl (0, List.replicate x.toNatClampNeg 0)]) else none := ay_newint dX7_init_8 rfl
theorem dX7_init_10 : decode cX7_init 10 = .ok (.putfield 9, 3) := by decide +kernel
theorem sX7_init_10 : ab_X rom K cX7_init 5 3 10 ls (.ref a2 :: .ref a :: st) hp = (ab_fpt hp a 5 0 (.ref a2)).bind (fun hp' => ab_X rom K cX7_init 5 3 13 ls st hp') := ax_putfield dX7_init_10 kf_5_9 rfl (Or.inr ⟨rfl, rfl⟩) rfl
theorem dX7_init_13 : decode cX7_init 13 = .ok (.aload_n 0, 1) := by decide +kernel
theorem sX7_init_13 : ab_X rom K cX7_init 5 3 13 (.ref a :: ls) st hp = ab_X rom K cX7_init 5 3 14 (.ref a :: ls) (.ref a :: st) hp := ax_aload_n dX7_init_13 rfl rfl
theorem dX7_init_14 : decode cX7_init 14 = .ok (.iconst 0, 1) := by decide +kernel
theorem sX7_init_14 : ab_X rom K cX7_init 5 3 14 ls st hp = ab_X rom K cX7_init 5 3 15 ls (.int 0 :: st) hp := ax_iconst dX7_init_14 (by decide) rfl
theorem dX7_init_15 : decode cX7_init 15 = .ok (.putfield 15, 3) := by decide +kernel
theorem sX7_init_15 : ab_X rom K cX7_init 5 3 15 ls (.int x :: .ref a :: st) hp = (ab_fpt hp a 5 1 (.int x)).bind (fun hp' => ab_X rom K cX7_init 5 3 18 ls st hp') := ax_putfield dX7_init_15 kf_5_15 rfl (Or.inl rfl) rfl
theorem dX7_init_18 : decode cX7_init 18 = .ok (.return_, 1) := by decide +kernel
theorem sX7_init_18 : ab_X rom K cX7_init 5 3 18 ls [] hp = some (none, hp) := ax_vret dX7_init_18 (by decide)
theorem tX7_putByte : ab_mT[76]? = some (yX7_putByte, cX7_putByte, 2, 0, 5) := by decide +kernel
theorem mX7_putByte {d : Nat} {a0 : Nat} {x0 : Int32} : ab_M rom (d + 1) 76 [.ref a0, .int x0] hp = ab_X rom (ab_M rom d) cX7_putByte 5 0 0 [.ref a0, .int x0] [] hp := ab_M_eq tX7_putByte (Nat.le_of_ble_eq_true rfl)
theorem dX7_putByte_0 : decode cX7_putByte 0 = .ok (.aload_n 0, 1) := by decide +kernel
theorem sX7_putByte_0 : ab_X rom K cX7_putByte 5 0 0 (.ref a :: ls) st hp = ab_X rom K cX7_putByte 5 0 1 (.ref a :: ls) (.ref a :: st) hp := ax_aload_n dX7_putByte_0 rfl rfl
theorem dX7_putByte_1 : decode cX7_putByte 1 = .ok (.getfield 15, 3) := by decide +kernel
theorem sX7_putByte_1 : ab_X rom K cX7_putByte 5 0 1 ls (.ref a :: st) hp = (ab_fld hp a 5 1).bind (fun v => ab_X rom K cX7_putByte 5 0 4 ls (v :: st) hp) := ax_getfield dX7_putByte_1 kf_5_15 rfl
theorem dX7_putByte_4 : decode cX7_putByte 4 = .ok (.sipush 400, 3) := by decide +kernel
theorem sX7_putByte_4 : ab_X rom K cX7_putByte 5 0 4 ls st hp = ab_X rom K cX7_putByte 5 0 7 ls (.int 400 :: st) hp := ax_sipush dX7_putByte_4 (by decide) rfl
theorem dX7_putByte_7 : decode cX7_putByte 7 = .ok (.if_icmp .ge 27, 3) := by decide +kernel
theorem sX7_putByte_7 : ab_X rom K cX7_putByte 5 0 7 ls (.int y :: .int x :: st) hp = if x < y then ab_X rom K cX7_putByte 5 0 10 ls st hp else ab_X rom K cX7_putByte 5 0 34 ls st hp := ax_icmp_ge dX7_putByte_7 (by decide) rfl
theorem dX7_putByte_10 : decode cX7_putByte 10 = .ok (.aload_n 0, 1) := by decide +kernel
theorem sX7_putByte_10 : ab_X rom K cX7_putByte 5 0 10 (.ref a :: ls) st hp = ab_X rom K cX7_putByte 5 0 11 (.ref a :: ls) (.ref a :: st) hp := ax_aload_n dX7_putByte_10 rfl rfl
theorem dX7_putByte_11 : decode cX7_putByte 11 = .ok (.getfield 9, 3) := by decide +kernel
theorem sX7_putByte_11 : ab_X rom K cX7_putByte 5 0 11 ls (.ref a :: st) hp = (ab_fld hp a 5 0).bind (fun v => ab_X rom K cX7_putByte 5 0 14 ls (v :: st) hp) := ax_getfield dX7_putByte_11 kf_5_9 rfl
theorem dX7_putByte_14 : decode cX7_putByte 14 = .ok (.aload_n 0, 1) := by decide +kernel
theorem sX7_putByte_14 : ab_X rom K cX7_putByte 5 0 14 (.ref a :: ls) st hp = ab_X rom K cX7_putByte 5 0 15 (.ref a :: ls) (.ref a :: st) hp := ax_aload_n dX7_putByte_14 rfl rfl
theorem dX7_putByte_15 : decode cX7_putByte 15 = .ok (.getfield 15, 3) := by decide +kernel
theorem sX7_putByte_15 : ab_X rom K cX7_putByte 5 0 15 ls (.ref a :: st) hp = (ab_fld hp a 5 1).bind (fun v => ab_X rom K cX7_putByte 5 0 18 ls (v :: st) hp) := ax_getfield dX7_putByte_15 kf_5_15 rfl
theorem dX7_putByte_18 : decode cX7_putByte 18 = .ok (.iload_n 1, 1) := by decide +kernel
theorem sX7_putByte_18 : ab_X rom K cX7_putByte 5 0 18 (v0 :: .int x :: ls) st hp = ab_X rom K cX7_putByte 5 0 19 (v0 :: .int x :: ls) (.int x :: st) hp := ax_iload_n dX7_putByte_18 rfl rfl
theorem dX7_putByte_19 : decode cX7_putByte 19 = .ok (.sipush 255, 3) := by decide +kernel
theorem sX7_putByte_19 : ab_X rom K cX7_putByte 5 0 19 ls st hp = ab_X rom K cX7_putByte 5 0 22 ls (.int 255 :: st) hp := ax_sipush dX7_putByte_19 (by decide) rfl
theorem dX7_putByte_22 : decode cX7_putByte 22 = .ok (.iand, 1) := by decide +kernel
theorem sX7_putByte_22 : ab_X rom K cX7_putByte 5 0 22 ls (.int y :: .int x :: st) hp = ab_X rom K cX7_putByte 5 0 23 ls (.int (x &&& y) :: st) hp := ax_iand dX7_putByte_22 rfl
theorem dX7_putByte_23 : decode cX7_putByte 23 = .ok (.iastore, 1) := by decide +kernel
theorem sX7_putByte_23 : ab_X rom K cX7_putByte 5 0 23 ls (.int y :: .int x :: .ref a :: st) hp = (ab_awr 0 hp a x y).bind (fun hp' => ab_X rom K cX7_putByte 5 0 24 ls st hp') := ax_iastore dX7_putByte_23 rfl
theorem dX7_putByte_24 : decode cX7_putByte 24 = .ok (.aload_n 0, 1) := by decide +kernel
theorem sX7_putByte_24 : ab_X rom K cX7_putByte 5 0 24 (.ref a :: ls) st hp = ab_X rom K cX7_putByte 5 0 25 (.ref a :: ls) (.ref a :: st) hp := ax_aload_n dX7_putByte_24 rfl rfl
theorem dX7_putByte_25 : decode cX7_putByte 25 = .ok (.dup, 1) := by decide +kernel
theorem sX7_putByte_25i : ab_X rom K cX7_putByte 5 0 25 ls (.int x :: st) hp = ab_X rom K cX7_putByte 5 0 26 ls (.int x :: .int x :: st) hp := ax_dup dX7_putByte_25 rfl (ab_c1_int _)
theorem sX7_putByte_25r : ab_X rom K cX7_putByte 5 0 25 ls (.ref a :: st) hp = ab_X rom K cX7_putByte 5 0 26 ls (.ref a :: .ref a :: st) hp := ax_dup dX7_putByte_25 rfl (ab_c1_ref _)
theorem dX7_putByte_26 : decode cX7_putByte 26 = .ok (.getfield 15, 3) := by decide +kernel
theorem sX7_putByte_26 : ab_X rom K cX7_putByte 5 0 26 ls (.ref a :: st) hp = (ab_fld hp a 5 1).bind (fun v => ab_X rom K cX7_putByte 5 0 29 ls (v :: st) hp) := ax_getfield dX7_putByte_26 kf_5_15 rfl
theorem dX7_putByte_29 : decode cX7_putByte 29 = .ok (.iconst 1, 1) := by decide +kernel
theorem sX7_putByte_29 : ab_X rom K cX7_putByte 5 0 29 ls st hp = ab_X rom K cX7_putByte 5 0 30 ls (.int 1 :: st) hp := ax_iconst dX7_putByte_29 (by decide) rfl
theorem dX7_putByte_30 : decode cX7_putByte 30 = .ok (.iadd, 1) := by decide +kernel
theorem sX7_putByte_30 : ab_X rom K cX7_putByte 5 0 30 ls (.int y :: .int x :: st) hp = ab_X rom K cX7_putByte 5 0 31 ls (.int (x + y) :: st) hp := ax_iadd dX7_putByte_30 rfl
theorem dX7_putByte_31 : decode cX7_putByte 31 = .ok (.putfield 15, 3) := by decide +kernel
theorem sX7_putByte_31 : ab_X rom K cX7_putByte 5 0 31 ls (.int x :: .ref a :: st) hp = (ab_fpt hp a 5 1 (.int x)).bind (fun hp' => ab_X rom K cX7_putByte 5 0 34 ls st hp') := ax_putfield dX7_putByte_31 kf_5_15 rfl (Or.inl rfl) rfl
theorem dX7_putByte_34 : decode cX7_putByte 34 = .ok (.return_, 1) := by decide +kernel
theorem sX7_putByte_34 : ab_X rom K cX7_putByte 5 0 34 ls [] hp = some (none, hp) := ax_vret dX7_putByte_34 (by decide)
theorem tX7_putFour : ab_mT[77]? = some (yX7_putFour, cX7_putFour, 2, 0, 5) := by decide +kernel
theorem mX7_putFour {d : Nat} {a0 : Nat} {x0 : Int32} : ab_M rom (d + 1) 77 [.ref a0, .int x0] hp = ab_X rom (ab_M rom d) cX7_putFour 5 0 0 [.ref a0, .int x0] [] hp := ab_M_eq tX7_putFour (Nat.le_of_ble_eq_true rfl)
theorem dX7_putFour_0 : decode cX7_putFour 0 = .ok (.aload_n 0, 1) := by decide +kernel
theorem sX7_putFour_0 : ab_X rom K cX7_putFour 5 0 0 (.ref a :: ls) st hp = ab_X rom K cX7_putFour 5 0 1 (.ref a :: ls) (.ref a :: st) hp := ax_aload_n dX7_putFour_0 rfl rfl
theorem dX7_putFour_1 : decode cX7_putFour 1 = .ok (.iload_n 1, 1) := by decide +kernel
theorem sX7_putFour_1 : ab_X rom K cX7_putFour 5 0 1 (v0 :: .int x :: ls) st hp = ab_X rom K cX7_putFour 5 0 2 (v0 :: .int x :: ls) (.int x :: st) hp := ax_iload_n dX7_putFour_1 rfl rfl
theorem dX7_putFour_2 : decode cX7_putFour 2 = .ok (.bipush 24, 2) := by decide +kernel
theorem sX7_putFour_2 : ab_X rom K cX7_putFour 5 0 2 ls st hp = ab_X rom K cX7_putFour 5 0 4 ls (.int 24 :: st) hp := ax_bipush dX7_putFour_2 (by decide) rfl
theorem dX7_putFour_4 : decode cX7_putFour 4 = .ok (.iushr, 1) := by decide +kernel
theorem sX7_putFour_4 : ab_X rom K cX7_putFour 5 0 4 ls (.int y :: .int x :: st) hp = ab_X rom K cX7_putFour 5 0 5 ls (.int (x.toUInt32 >>> (y.toUInt32 &&& Int32.toUInt32 31)).toInt32 :: st) hp := ax_iushr dX7_putFour_4 rfl
theorem dX7_putFour_5 : decode cX7_putFour 5 = .ok (.invokevirtual 19, 3) := by decide +kernel
theorem sX7_putFour_5_0 : ab_X rom K cX7_putFour 5 0 5 ls [w1, .ref a] hp = if ab_iso hp a 5 = true then (K 76 (.ref a :: [w1]) hp).bind (fun o => ab_X rom K cX7_putFour 5 0 8 ls (o.1.toList ++ []) o.2) else none := ay_virtual (as := [w1]) (st := []) dX7_putFour_5 kc_5_19 rfl rfl (Nat.le_of_ble_eq_true rfl)
theorem sX7_putFour_5_1 : ab_X rom K cX7_putFour 5 0 5 ls [w1, .ref a, v0] hp = if ab_iso hp a 5 = true then (K 76 (.ref a :: [w1]) hp).bind (fun o => ab_X rom K cX7_putFour 5 0 8 ls (o.1.toList ++ [v0]) o.2) else none := ay_virtual (as := [w1]) (st := [v0]) dX7_putFour_5 kc_5_19 rfl rfl (Nat.le_of_ble_eq_true rfl)
theorem sX7_putFour_5_2 : ab_X rom K cX7_putFour 5 0 5 ls [w1, .ref a, v0, v1] hp = if ab_iso hp a 5 = true then (K 76 (.ref a :: [w1]) hp).bind (fun o => ab_X rom K cX7_putFour 5 0 8 ls (o.1.toList ++ [v0, v1]) o.2) else none := ay_virtual (as := [w1]) (st := [v0, v1]) dX7_putFour_5 kc_5_19 rfl rfl (Nat.le_of_ble_eq_true rfl)
theorem sX7_putFour_5_3 : ab_X rom K cX7_putFour 5 0 5 ls [w1, .ref a, v0, v1, v2] hp = if ab_iso hp a 5 = true then (K 76 (.ref a :: [w1]) hp).bind (fun o => ab_X rom K cX7_putFour 5 0 8 ls (o.1.toList ++ [v0, v1, v2]) o.2) else none := ay_virtual (as := [w1]) (st := [v0, v1, v2]) dX7_putFour_5 kc_5_19 rfl rfl (Nat.le_of_ble_eq_true rfl)
theorem dX7_putFour_8 : decode cX7_putFour 8 = .ok (.aload_n 0, 1) := by decide +kernel
theorem sX7_putFour_8 : ab_X rom K cX7_putFour 5 0 8 (.ref a :: ls) st hp = ab_X rom K cX7_putFour 5 0 9 (.ref a :: ls) (.ref a :: st) hp := ax_aload_n dX7_putFour_8 rfl rfl
theorem dX7_putFour_9 : decode cX7_putFour 9 = .ok (.iload_n 1, 1) := by decide +kernel
theorem sX7_putFour_9 : ab_X rom K cX7_putFour 5 0 9 (v0 :: .int x :: ls) st hp = ab_X rom K cX7_putFour 5 0 10 (v0 :: .int x :: ls) (.int x :: st) hp := ax_iload_n dX7_putFour_9 rfl rfl
theorem dX7_putFour_10 : decode cX7_putFour 10 = .ok (.bipush 16, 2) := by decide +kernel
theorem sX7_putFour_10 : ab_X rom K cX7_putFour 5 0 10 ls st hp = ab_X rom K cX7_putFour 5 0 12 ls (.int 16 :: st) hp := ax_bipush dX7_putFour_10 (by decide) rfl
theorem dX7_putFour_12 : decode cX7_putFour 12 = .ok (.iushr, 1) := by decide +kernel
theorem sX7_putFour_12 : ab_X rom K cX7_putFour 5 0 12 ls (.int y :: .int x :: st) hp = ab_X rom K cX7_putFour 5 0 13 ls (.int (x.toUInt32 >>> (y.toUInt32 &&& Int32.toUInt32 31)).toInt32 :: st) hp := ax_iushr dX7_putFour_12 rfl
theorem dX7_putFour_13 : decode cX7_putFour 13 = .ok (.invokevirtual 19, 3) := by decide +kernel
theorem sX7_putFour_13_0 : ab_X rom K cX7_putFour 5 0 13 ls [w1, .ref a] hp = if ab_iso hp a 5 = true then (K 76 (.ref a :: [w1]) hp).bind (fun o => ab_X rom K cX7_putFour 5 0 16 ls (o.1.toList ++ []) o.2) else none := ay_virtual (as := [w1]) (st := []) dX7_putFour_13 kc_5_19 rfl rfl (Nat.le_of_ble_eq_true rfl)
theorem sX7_putFour_13_1 : ab_X rom K cX7_putFour 5 0 13 ls [w1, .ref a, v0] hp = if ab_iso hp a 5 = true then (K 76 (.ref a :: [w1]) hp).bind (fun o => ab_X rom K cX7_putFour 5 0 16 ls (o.1.toList ++ [v0]) o.2) else none := ay_virtual (as := [w1]) (st := [v0]) dX7_putFour_13 kc_5_19 rfl rfl (Nat.le_of_ble_eq_true rfl)
theorem sX7_putFour_13_2 : ab_X rom K cX7_putFour 5 0 13 ls [w1, .ref a, v0, v1] hp = if ab_iso hp a 5 = true then (K 76 (.ref a :: [w1]) hp).bind (fun o => ab_X rom K cX7_putFour 5 0 16 ls (o.1.toList ++ [v0, v1]) o.2) else none := ay_virtual (as := [w1]) (st := [v0, v1]) dX7_putFour_13 kc_5_19 rfl rfl (Nat.le_of_ble_eq_true rfl)
theorem sX7_putFour_13_3 : ab_X rom K cX7_putFour 5 0 13 ls [w1, .ref a, v0, v1, v2] hp = if ab_iso hp a 5 = true then (K 76 (.ref a :: [w1]) hp).bind (fun o => ab_X rom K cX7_putFour 5 0 16 ls (o.1.toList ++ [v0, v1, v2]) o.2) else none := ay_virtual (as := [w1]) (st := [v0, v1, v2]) dX7_putFour_13 kc_5_19 rfl rfl (Nat.le_of_ble_eq_true rfl)
theorem dX7_putFour_16 : decode cX7_putFour 16 = .ok (.aload_n 0, 1) := by decide +kernel
theorem sX7_putFour_16 : ab_X rom K cX7_putFour 5 0 16 (.ref a :: ls) st hp = ab_X rom K cX7_putFour 5 0 17 (.ref a :: ls) (.ref a :: st) hp := ax_aload_n dX7_putFour_16 rfl rfl
theorem dX7_putFour_17 : decode cX7_putFour 17 = .ok (.iload_n 1, 1) := by decide +kernel
theorem sX7_putFour_17 : ab_X rom K cX7_putFour 5 0 17 (v0 :: .int x :: ls) st hp = ab_X rom K cX7_putFour 5 0 18 (v0 :: .int x :: ls) (.int x :: st) hp := ax_iload_n dX7_putFour_17 rfl rfl
theorem dX7_putFour_18 : decode cX7_putFour 18 = .ok (.bipush 8, 2) := by decide +kernel
theorem sX7_putFour_18 : ab_X rom K cX7_putFour 5 0 18 ls st hp = ab_X rom K cX7_putFour 5 0 20 ls (.int 8 :: st) hp := ax_bipush dX7_putFour_18 (by decide) rfl
theorem dX7_putFour_20 : decode cX7_putFour 20 = .ok (.iushr, 1) := by decide +kernel
theorem sX7_putFour_20 : ab_X rom K cX7_putFour 5 0 20 ls (.int y :: .int x :: st) hp = ab_X rom K cX7_putFour 5 0 21 ls (.int (x.toUInt32 >>> (y.toUInt32 &&& Int32.toUInt32 31)).toInt32 :: st) hp := ax_iushr dX7_putFour_20 rfl
theorem dX7_putFour_21 : decode cX7_putFour 21 = .ok (.invokevirtual 19, 3) := by decide +kernel
theorem sX7_putFour_21_0 : ab_X rom K cX7_putFour 5 0 21 ls [w1, .ref a] hp = if ab_iso hp a 5 = true then (K 76 (.ref a :: [w1]) hp).bind (fun o => ab_X rom K cX7_putFour 5 0 24 ls (o.1.toList ++ []) o.2) else none := ay_virtual (as := [w1]) (st := []) dX7_putFour_21 kc_5_19 rfl rfl (Nat.le_of_ble_eq_true rfl)
theorem sX7_putFour_21_1 : ab_X rom K cX7_putFour 5 0 21 ls [w1, .ref a, v0] hp = if ab_iso hp a 5 = true then (K 76 (.ref a :: [w1]) hp).bind (fun o => ab_X rom K cX7_putFour 5 0 24 ls (o.1.toList ++ [v0]) o.2) else none := ay_virtual (as := [w1]) (st := [v0]) dX7_putFour_21 kc_5_19 rfl rfl (Nat.le_of_ble_eq_true rfl)
theorem sX7_putFour_21_2 : ab_X rom K cX7_putFour 5 0 21 ls [w1, .ref a, v0, v1] hp = if ab_iso hp a 5 = true then (K 76 (.ref a :: [w1]) hp).bind (fun o => ab_X rom K cX7_putFour 5 0 24 ls (o.1.toList ++ [v0, v1]) o.2) else none := ay_virtual (as := [w1]) (st := [v0, v1]) dX7_putFour_21 kc_5_19 rfl rfl (Nat.le_of_ble_eq_true rfl)
theorem sX7_putFour_21_3 : ab_X rom K cX7_putFour 5 0 21 ls [w1, .ref a, v0, v1, v2] hp = if ab_iso hp a 5 = true then (K 76 (.ref a :: [w1]) hp).bind (fun o => ab_X rom K cX7_putFour 5 0 24 ls (o.1.toList ++ [v0, v1, v2]) o.2) else none := ay_virtual (as := [w1]) (st := [v0, v1, v2]) dX7_putFour_21 kc_5_19 rfl rfl (Nat.le_of_ble_eq_true rfl)
theorem dX7_putFour_24 : decode cX7_putFour 24 = .ok (.aload_n 0, 1) := by decide +kernel
theorem sX7_putFour_24 : ab_X rom K cX7_putFour 5 0 24 (.ref a :: ls) st hp = ab_X rom K cX7_putFour 5 0 25 (.ref a :: ls) (.ref a :: st) hp := ax_aload_n dX7_putFour_24 rfl rfl
theorem dX7_putFour_25 : decode cX7_putFour 25 = .ok (.iload_n 1, 1) := by decide +kernel
theorem sX7_putFour_25 : ab_X rom K cX7_putFour 5 0 25 (v0 :: .int x :: ls) st hp = ab_X rom K cX7_putFour 5 0 26 (v0 :: .int x :: ls) (.int x :: st) hp := ax_iload_n dX7_putFour_25 rfl rfl
theorem dX7_putFour_26 : decode cX7_putFour 26 = .ok (.invokevirtual 19, 3) := by decide +kernel
theorem sX7_putFour_26_0 : ab_X rom K cX7_putFour 5 0 26 ls [w1, .ref a] hp = if ab_iso hp a 5 = true then (K 76 (.ref a :: [w1]) hp).bind (fun o => ab_X rom K cX7_putFour 5 0 29 ls (o.1.toList ++ []) o.2) else none := ay_virtual (as := [w1]) (st := []) dX7_putFour_26 kc_5_19 rfl rfl (Nat.le_of_ble_eq_true rfl)
theorem sX7_putFour_26_1 : ab_X rom K cX7_putFour 5 0 26 ls [w1, .ref a, v0] hp = if ab_iso hp a 5 = true then (K 76 (.ref a :: [w1]) hp).bind (fun o => ab_X rom K cX7_putFour 5 0 29 ls (o.1.toList ++ [v0]) o.2) else none := ay_virtual (as := [w1]) (st := [v0]) dX7_putFour_26 kc_5_19 rfl rfl (Nat.le_of_ble_eq_true rfl)
theorem sX7_putFour_26_2 : ab_X rom K cX7_putFour 5 0 26 ls [w1, .ref a, v0, v1] hp = if ab_iso hp a 5 = true then (K 76 (.ref a :: [w1]) hp).bind (fun o => ab_X rom K cX7_putFour 5 0 29 ls (o.1.toList ++ [v0, v1]) o.2) else none := ay_virtual (as := [w1]) (st := [v0, v1]) dX7_putFour_26 kc_5_19 rfl rfl (Nat.le_of_ble_eq_true rfl)
theorem sX7_putFour_26_3 : ab_X rom K cX7_putFour 5 0 26 ls [w1, .ref a, v0, v1, v2] hp = if ab_iso hp a 5 = true then (K 76 (.ref a :: [w1]) hp).bind (fun o => ab_X rom K cX7_putFour 5 0 29 ls (o.1.toList ++ [v0, v1, v2]) o.2) else none := ay_virtual (as := [w1]) (st := [v0, v1, v2]) dX7_putFour_26 kc_5_19 rfl rfl (Nat.le_of_ble_eq_true rfl)
theorem dX7_putFour_29 : decode cX7_putFour 29 = .ok (.return_, 1) := by decide +kernel
theorem sX7_putFour_29 : ab_X rom K cX7_putFour 5 0 29 ls [] hp = some (none, hp) := ax_vret dX7_putFour_29 (by decide)
theorem tX7_putNumber : ab_mT[78]? = some (yX7_putNumber, cX7_putNumber, 2, 0, 5) := by decide +kernel
theorem mX7_putNumber {d : Nat} {a0 : Nat} {x0 : Int32} : ab_M rom (d + 1) 78 [.ref a0, .int x0] hp = ab_X rom (ab_M rom d) cX7_putNumber 5 0 0 [.ref a0, .int x0] [] hp := ab_M_eq tX7_putNumber (Nat.le_of_ble_eq_true rfl)
theorem dX7_putNumber_0 : decode cX7_putNumber 0 = .ok (.iload_n 1, 1) := by decide +kernel
theorem sX7_putNumber_0 : ab_X rom K cX7_putNumber 5 0 0 (v0 :: .int x :: ls) st hp = ab_X rom K cX7_putNumber 5 0 1 (v0 :: .int x :: ls) (.int x :: st) hp := ax_iload_n dX7_putNumber_0 rfl rfl
theorem dX7_putNumber_1 : decode cX7_putNumber 1 = .ok (.bipush 10, 2) := by decide +kernel
theorem sX7_putNumber_1 : ab_X rom K cX7_putNumber 5 0 1 ls st hp = ab_X rom K cX7_putNumber 5 0 3 ls (.int 10 :: st) hp := ax_bipush dX7_putNumber_1 (by decide) rfl
theorem dX7_putNumber_3 : decode cX7_putNumber 3 = .ok (.if_icmp .lt 14, 3) := by decide +kernel
theorem sX7_putNumber_3 : ab_X rom K cX7_putNumber 5 0 3 ls (.int y :: .int x :: st) hp = if x < y then ab_X rom K cX7_putNumber 5 0 17 ls st hp else ab_X rom K cX7_putNumber 5 0 6 ls st hp := ax_icmp_lt dX7_putNumber_3 (by decide) rfl
theorem dX7_putNumber_6 : decode cX7_putNumber 6 = .ok (.aload_n 0, 1) := by decide +kernel
theorem sX7_putNumber_6 : ab_X rom K cX7_putNumber 5 0 6 (.ref a :: ls) st hp = ab_X rom K cX7_putNumber 5 0 7 (.ref a :: ls) (.ref a :: st) hp := ax_aload_n dX7_putNumber_6 rfl rfl
theorem dX7_putNumber_7 : decode cX7_putNumber 7 = .ok (.bipush 48, 2) := by decide +kernel
theorem sX7_putNumber_7 : ab_X rom K cX7_putNumber 5 0 7 ls st hp = ab_X rom K cX7_putNumber 5 0 9 ls (.int 48 :: st) hp := ax_bipush dX7_putNumber_7 (by decide) rfl
theorem dX7_putNumber_9 : decode cX7_putNumber 9 = .ok (.iload_n 1, 1) := by decide +kernel
theorem sX7_putNumber_9 : ab_X rom K cX7_putNumber 5 0 9 (v0 :: .int x :: ls) st hp = ab_X rom K cX7_putNumber 5 0 10 (v0 :: .int x :: ls) (.int x :: st) hp := ax_iload_n dX7_putNumber_9 rfl rfl
theorem dX7_putNumber_10 : decode cX7_putNumber 10 = .ok (.bipush 10, 2) := by decide +kernel
theorem sX7_putNumber_10 : ab_X rom K cX7_putNumber 5 0 10 ls st hp = ab_X rom K cX7_putNumber 5 0 12 ls (.int 10 :: st) hp := ax_bipush dX7_putNumber_10 (by decide) rfl
theorem dX7_putNumber_12 : decode cX7_putNumber 12 = .ok (.idiv, 1) := by decide +kernel
theorem sX7_putNumber_12 : ab_X rom K cX7_putNumber 5 0 12 ls (.int y :: .int x :: st) hp = if y = 0 then none else ab_X rom K cX7_putNumber 5 0 13 ls (.int (x / y) :: st) hp := ay_idiv dX7_putNumber_12 rfl
theorem dX7_putNumber_13 : decode cX7_putNumber 13 = .ok (.iadd, 1) := by decide +kernel
theorem sX7_putNumber_13 : ab_X rom K cX7_putNumber 5 0 13 ls (.int y :: .int x :: st) hp = ab_X rom K cX7_putNumber 5 0 14 ls (.int (x + y) :: st) hp := ax_iadd dX7_putNumber_13 rfl
theorem dX7_putNumber_14 : decode cX7_putNumber 14 = .ok (.invokevirtual 19, 3) := by decide +kernel
theorem sX7_putNumber_14_0 : ab_X rom K cX7_putNumber 5 0 14 ls [w1, .ref a] hp = if ab_iso hp a 5 = true then (K 76 (.ref a :: [w1]) hp).bind (fun o => ab_X rom K cX7_putNumber 5 0 17 ls (o.1.toList ++ []) o.2) else none := ay_virtual (as := [w1]) (st := []) dX7_putNumber_14 kc_5_19 rfl rfl (Nat.le_of_ble_eq_true rfl)
theorem sX7_putNumber_14_1 : ab_X rom K cX7_putNumber 5 0 14 ls [w1, .ref a, v0] hp = if ab_iso hp a 5 = true then (K 76 (.ref a :: [w1]) hp).bind (fun o => ab_X rom K cX7_putNumber 5 0 17 ls (o.1.toList ++ [v0]) o.2) else none := ay_virtual (as := [w1]) (st := [v0]) dX7_putNumber_14 kc_5_19 rfl rfl (Nat.le_of_ble_eq_true rfl)
theorem sX7_putNumber_14_2 : ab_X rom K cX7_putNumber 5 0 14 ls [w1, .ref a, v0, v1] hp = if ab_iso hp a 5 = true then (K 76 (.ref a :: [w1]) hp).bind (fun o => ab_X rom K cX7_putNumber 5 0 17 ls (o.1.toList ++ [v0, v1]) o.2) else none := ay_virtual (as := [w1]) (st := [v0, v1]) dX7_putNumber_14 kc_5_19 rfl rfl (Nat.le_of_ble_eq_true rfl)
theorem sX7_putNumber_14_3 : ab_X rom K cX7_putNumber 5 0 14 ls [w1, .ref a, v0, v1, v2] hp = if ab_iso hp a 5 = true then (K 76 (.ref a :: [w1]) hp).bind (fun o => ab_X rom K cX7_putNumber 5 0 17 ls (o.1.toList ++ [v0, v1, v2]) o.2) else none := ay_virtual (as := [w1]) (st := [v0, v1, v2]) dX7_putNumber_14 kc_5_19 rfl rfl (Nat.le_of_ble_eq_true rfl)
theorem dX7_putNumber_17 : decode cX7_putNumber 17 = .ok (.aload_n 0, 1) := by decide +kernel
theorem sX7_putNumber_17 : ab_X rom K cX7_putNumber 5 0 17 (.ref a :: ls) st hp = ab_X rom K cX7_putNumber 5 0 18 (.ref a :: ls) (.ref a :: st) hp := ax_aload_n dX7_putNumber_17 rfl rfl
theorem dX7_putNumber_18 : decode cX7_putNumber 18 = .ok (.bipush 48, 2) := by decide +kernel
theorem sX7_putNumber_18 : ab_X rom K cX7_putNumber 5 0 18 ls st hp = ab_X rom K cX7_putNumber 5 0 20 ls (.int 48 :: st) hp := ax_bipush dX7_putNumber_18 (by decide) rfl
theorem dX7_putNumber_20 : decode cX7_putNumber 20 = .ok (.iload_n 1, 1) := by decide +kernel
theorem sX7_putNumber_20 : ab_X rom K cX7_putNumber 5 0 20 (v0 :: .int x :: ls) st hp = ab_X rom K cX7_putNumber 5 0 21 (v0 :: .int x :: ls) (.int x :: st) hp := ax_iload_n dX7_putNumber_20 rfl rfl
theorem dX7_putNumber_21 : decode cX7_putNumber 21 = .ok (.bipush 10, 2) := by decide +kernel
theorem sX7_putNumber_21 : ab_X rom K cX7_putNumber 5 0 21 ls st hp = ab_X rom K cX7_putNumber 5 0 23 ls (.int 10 :: st) hp := ax_bipush dX7_putNumber_21 (by decide) rfl
theorem dX7_putNumber_23 : decode cX7_putNumber 23 = .ok (.irem, 1) := by decide +kernel
theorem sX7_putNumber_23 : ab_X rom K cX7_putNumber 5 0 23 ls (.int y :: .int x :: st) hp = if y = 0 then none else ab_X rom K cX7_putNumber 5 0 24 ls (.int (ab_rem x y) :: st) hp := ay_irem dX7_putNumber_23 rfl
theorem dX7_putNumber_24 : decode cX7_putNumber 24 = .ok (.iadd, 1) := by decide +kernel
theorem sX7_putNumber_24 : ab_X rom K cX7_putNumber 5 0 24 ls (.int y :: .int x :: st) hp = ab_X rom K cX7_putNumber 5 0 25 ls (.int (x + y) :: st) hp := ax_iadd dX7_putNumber_24 rfl
theorem dX7_putNumber_25 : decode cX7_putNumber 25 = .ok (.invokevirtual 19, 3) := by decide +kernel
theorem sX7_putNumber_25_0 : ab_X rom K cX7_putNumber 5 0 25 ls [w1, .ref a] hp = if ab_iso hp a 5 = true then (K 76 (.ref a :: [w1]) hp).bind (fun o => ab_X rom K cX7_putNumber 5 0 28 ls (o.1.toList ++ []) o.2) else none := ay_virtual (as := [w1]) (st := []) dX7_putNumber_25 kc_5_19 rfl rfl (Nat.le_of_ble_eq_true rfl)
theorem sX7_putNumber_25_1 : ab_X rom K cX7_putNumber 5 0 25 ls [w1, .ref a, v0] hp = if ab_iso hp a 5 = true then (K 76 (.ref a :: [w1]) hp).bind (fun o => ab_X rom K cX7_putNumber 5 0 28 ls (o.1.toList ++ [v0]) o.2) else none := ay_virtual (as := [w1]) (st := [v0]) dX7_putNumber_25 kc_5_19 rfl rfl (Nat.le_of_ble_eq_true rfl)
theorem sX7_putNumber_25_2 : ab_X rom K cX7_putNumber 5 0 25 ls [w1, .ref a, v0, v1] hp = if ab_iso hp a 5 = true then (K 76 (.ref a :: [w1]) hp).bind (fun o => ab_X rom K cX7_putNumber 5 0 28 ls (o.1.toList ++ [v0, v1]) o.2) else none := ay_virtual (as := [w1]) (st := [v0, v1]) dX7_putNumber_25 kc_5_19 rfl rfl (Nat.le_of_ble_eq_true rfl)
theorem sX7_putNumber_25_3 : ab_X rom K cX7_putNumber 5 0 25 ls [w1, .ref a, v0, v1, v2] hp = if ab_iso hp a 5 = true then (K 76 (.ref a :: [w1]) hp).bind (fun o => ab_X rom K cX7_putNumber 5 0 28 ls (o.1.toList ++ [v0, v1, v2]) o.2) else none := ay_virtual (as := [w1]) (st := [v0, v1, v2]) dX7_putNumber_25 kc_5_19 rfl rfl (Nat.le_of_ble_eq_true rfl)
theorem dX7_putNumber_28 : decode cX7_putNumber 28 = .ok (.return_, 1) := by decide +kernel
theorem sX7_putNumber_28 : ab_X rom K cX7_putNumber 5 0 28 ls [] hp = some (none, hp) := ax_vret dX7_putNumber_28 (by decide)
end
