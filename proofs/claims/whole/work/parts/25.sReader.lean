/-! FairLabels$Reader: its methods step by step (printed by wip/whole/gen_steps.py) -/
section
variable {rom : List (List Int32)} {K : Nat → List Value → ab_H → Option ab_O} {ls st : List Value} {hp : ab_H} {x y z : Int32} {a a2 : Nat} {sp dp : Int32} {u w : Int64} {v0 v1 v2 v3 v4 v5 v6 v7 v8 v9 v10 v11 v12 v13 v14 v15 w1 w2 w3 w4 w5 w6 : Value}
theorem tX5_init : ab_mT[38]? = some (yX5_init, cX5_init, 3, 3, 3) := by decide +kernel
theorem mX5_init {d : Nat} {a0 : Nat} {r0 : Nat} {r1 : Nat} : ab_M rom (d + 1) 38 [.ref a0, .ref r0, .ref r1] hp = ab_X rom (ab_M rom d) cX5_init 3 3 0 [.ref a0, .ref r0, .ref r1] [] hp := ab_M_eq tX5_init (Nat.le_of_ble_eq_true rfl)
theorem dX5_init_0 : decode cX5_init 0 = .ok (.aload_n 0, 1) := by decide +kernel
theorem sX5_init_0 : ab_X rom K cX5_init 3 3 0 (.ref a :: ls) st hp = ab_X rom K cX5_init 3 3 1 (.ref a :: ls) (.ref a :: st) hp := ax_aload_n dX5_init_0 rfl rfl
theorem dX5_init_1 : decode cX5_init 1 = .ok (.invokespecial 3, 3) := by decide +kernel
theorem sX5_init_1_0 : ab_X rom K cX5_init 3 3 1 ls [.ref a] hp = ab_X rom K cX5_init 3 3 4 ls [] hp := ax_obj dX5_init_1 kc_3_3 rfl (Nat.le_of_ble_eq_true rfl)
theorem sX5_init_1_1 : ab_X rom K cX5_init 3 3 1 ls [.ref a, v0] hp = ab_X rom K cX5_init 3 3 4 ls [v0] hp := ax_obj dX5_init_1 kc_3_3 rfl (Nat.le_of_ble_eq_true rfl)
theorem sX5_init_1_2 : ab_X rom K cX5_init 3 3 1 ls [.ref a, v0, v1] hp = ab_X rom K cX5_init 3 3 4 ls [v0, v1] hp := ax_obj dX5_init_1 kc_3_3 rfl (Nat.le_of_ble_eq_true rfl)
theorem sX5_init_1_3 : ab_X rom K cX5_init 3 3 1 ls [.ref a, v0, v1, v2] hp = ab_X rom K cX5_init 3 3 4 ls [v0, v1, v2] hp := ax_obj dX5_init_1 kc_3_3 rfl (Nat.le_of_ble_eq_true rfl)
theorem dX5_init_4 : decode cX5_init 4 = .ok (.aload_n 0, 1) := by decide +kernel
theorem sX5_init_4 : ab_X rom K cX5_init 3 3 4 (.ref a :: ls) st hp = ab_X rom K cX5_init 3 3 5 (.ref a :: ls) (.ref a :: st) hp := ax_aload_n dX5_init_4 rfl rfl
theorem dX5_init_5 : decode cX5_init 5 = .ok (.iconst 0, 1) := by decide +kernel
theorem sX5_init_5 : ab_X rom K cX5_init 3 3 5 ls st hp = ab_X rom K cX5_init 3 3 6 ls (.int 0 :: st) hp := ax_iconst dX5_init_5 (by decide) rfl
theorem dX5_init_6 : decode cX5_init 6 = .ok (.putfield 9, 3) := by decide +kernel
theorem sX5_init_6 : ab_X rom K cX5_init 3 3 6 ls (.int x :: .ref a :: st) hp = (ab_fpt hp a 3 0 (.int x)).bind (fun hp' => ab_X rom K cX5_init 3 3 9 ls st hp') := ax_putfield dX5_init_6 kf_3_9 rfl (Or.inl rfl) rfl
theorem dX5_init_9 : decode cX5_init 9 = .ok (.aload_n 0, 1) := by decide +kernel
theorem sX5_init_9 : ab_X rom K cX5_init 3 3 9 (.ref a :: ls) st hp = ab_X rom K cX5_init 3 3 10 (.ref a :: ls) (.ref a :: st) hp := ax_aload_n dX5_init_9 rfl rfl
theorem dX5_init_10 : decode cX5_init 10 = .ok (.iconst (-1), 1) := by decide +kernel
theorem sX5_init_10 : ab_X rom K cX5_init 3 3 10 ls st hp = ab_X rom K cX5_init 3 3 11 ls (.int (-1) :: st) hp := ax_iconst dX5_init_10 (by decide) rfl
theorem dX5_init_11 : decode cX5_init 11 = .ok (.putfield 15, 3) := by decide +kernel
theorem sX5_init_11 : ab_X rom K cX5_init 3 3 11 ls (.int x :: .ref a :: st) hp = (ab_fpt hp a 3 1 (.int x)).bind (fun hp' => ab_X rom K cX5_init 3 3 14 ls st hp') := ax_putfield dX5_init_11 kf_3_15 rfl (Or.inl rfl) rfl
theorem dX5_init_14 : decode cX5_init 14 = .ok (.aload_n 0, 1) := by decide +kernel
theorem sX5_init_14 : ab_X rom K cX5_init 3 3 14 (.ref a :: ls) st hp = ab_X rom K cX5_init 3 3 15 (.ref a :: ls) (.ref a :: st) hp := ax_aload_n dX5_init_14 rfl rfl
theorem dX5_init_15 : decode cX5_init 15 = .ok (.iconst 0, 1) := by decide +kernel
theorem sX5_init_15 : ab_X rom K cX5_init 3 3 15 ls st hp = ab_X rom K cX5_init 3 3 16 ls (.int 0 :: st) hp := ax_iconst dX5_init_15 (by decide) rfl
theorem dX5_init_16 : decode cX5_init 16 = .ok (.putfield 18, 3) := by decide +kernel
theorem sX5_init_16 : ab_X rom K cX5_init 3 3 16 ls (.int x :: .ref a :: st) hp = (ab_fpt hp a 3 4 (.int x)).bind (fun hp' => ab_X rom K cX5_init 3 3 19 ls st hp') := ax_putfield dX5_init_16 kf_3_18 rfl (Or.inl rfl) rfl
theorem dX5_init_19 : decode cX5_init 19 = .ok (.aload_n 0, 1) := by decide +kernel
theorem sX5_init_19 : ab_X rom K cX5_init 3 3 19 (.ref a :: ls) st hp = ab_X rom K cX5_init 3 3 20 (.ref a :: ls) (.ref a :: st) hp := ax_aload_n dX5_init_19 rfl rfl
theorem dX5_init_20 : decode cX5_init 20 = .ok (.iconst 0, 1) := by decide +kernel
theorem sX5_init_20 : ab_X rom K cX5_init 3 3 20 ls st hp = ab_X rom K cX5_init 3 3 21 ls (.int 0 :: st) hp := ax_iconst dX5_init_20 (by decide) rfl
theorem dX5_init_21 : decode cX5_init 21 = .ok (.putfield 21, 3) := by decide +kernel
theorem sX5_init_21 : ab_X rom K cX5_init 3 3 21 ls (.int x :: .ref a :: st) hp = (ab_fpt hp a 3 5 (.int x)).bind (fun hp' => ab_X rom K cX5_init 3 3 24 ls st hp') := ax_putfield dX5_init_21 kf_3_21 rfl (Or.inl rfl) rfl
theorem dX5_init_24 : decode cX5_init 24 = .ok (.aload_n 0, 1) := by decide +kernel
theorem sX5_init_24 : ab_X rom K cX5_init 3 3 24 (.ref a :: ls) st hp = ab_X rom K cX5_init 3 3 25 (.ref a :: ls) (.ref a :: st) hp := ax_aload_n dX5_init_24 rfl rfl
theorem dX5_init_25 : decode cX5_init 25 = .ok (.iconst 0, 1) := by decide +kernel
theorem sX5_init_25 : ab_X rom K cX5_init 3 3 25 ls st hp = ab_X rom K cX5_init 3 3 26 ls (.int 0 :: st) hp := ax_iconst dX5_init_25 (by decide) rfl
theorem dX5_init_26 : decode cX5_init 26 = .ok (.putfield 24, 3) := by decide +kernel
theorem sX5_init_26 : ab_X rom K cX5_init 3 3 26 ls (.int x :: .ref a :: st) hp = (ab_fpt hp a 3 6 (.int x)).bind (fun hp' => ab_X rom K cX5_init 3 3 29 ls st hp') := ax_putfield dX5_init_26 kf_3_24 rfl (Or.inl rfl) rfl
theorem dX5_init_29 : decode cX5_init 29 = .ok (.aload_n 0, 1) := by decide +kernel
theorem sX5_init_29 : ab_X rom K cX5_init 3 3 29 (.ref a :: ls) st hp = ab_X rom K cX5_init 3 3 30 (.ref a :: ls) (.ref a :: st) hp := ax_aload_n dX5_init_29 rfl rfl
theorem dX5_init_30 : decode cX5_init 30 = .ok (.iconst 0, 1) := by decide +kernel
theorem sX5_init_30 : ab_X rom K cX5_init 3 3 30 ls st hp = ab_X rom K cX5_init 3 3 31 ls (.int 0 :: st) hp := ax_iconst dX5_init_30 (by decide) rfl
theorem dX5_init_31 : decode cX5_init 31 = .ok (.putfield 27, 3) := by decide +kernel
theorem sX5_init_31 : ab_X rom K cX5_init 3 3 31 ls (.int x :: .ref a :: st) hp = (ab_fpt hp a 3 7 (.int x)).bind (fun hp' => ab_X rom K cX5_init 3 3 34 ls st hp') := ax_putfield dX5_init_31 kf_3_27 rfl (Or.inl rfl) rfl
theorem dX5_init_34 : decode cX5_init 34 = .ok (.aload_n 0, 1) := by decide +kernel
theorem sX5_init_34 : ab_X rom K cX5_init 3 3 34 (.ref a :: ls) st hp = ab_X rom K cX5_init 3 3 35 (.ref a :: ls) (.ref a :: st) hp := ax_aload_n dX5_init_34 rfl rfl
theorem dX5_init_35 : decode cX5_init 35 = .ok (.aload_n 1, 1) := by decide +kernel
theorem sX5_init_35 : ab_X rom K cX5_init 3 3 35 (v0 :: .ref a :: ls) st hp = ab_X rom K cX5_init 3 3 36 (v0 :: .ref a :: ls) (.ref a :: st) hp := ax_aload_n dX5_init_35 rfl rfl
theorem dX5_init_36 : decode cX5_init 36 = .ok (.putfield 30, 3) := by decide +kernel
theorem sX5_init_36 : ab_X rom K cX5_init 3 3 36 ls (.ref a2 :: .ref a :: st) hp = (ab_fpt hp a 3 2 (.ref a2)).bind (fun hp' => ab_X rom K cX5_init 3 3 39 ls st hp') := ax_putfield dX5_init_36 kf_3_30 rfl (Or.inr ⟨rfl, rfl⟩) rfl
theorem dX5_init_39 : decode cX5_init 39 = .ok (.aload_n 0, 1) := by decide +kernel
theorem sX5_init_39 : ab_X rom K cX5_init 3 3 39 (.ref a :: ls) st hp = ab_X rom K cX5_init 3 3 40 (.ref a :: ls) (.ref a :: st) hp := ax_aload_n dX5_init_39 rfl rfl
theorem dX5_init_40 : decode cX5_init 40 = .ok (.aload_n 2, 1) := by decide +kernel
theorem sX5_init_40 : ab_X rom K cX5_init 3 3 40 (v0 :: v1 :: .ref a :: ls) st hp = ab_X rom K cX5_init 3 3 41 (v0 :: v1 :: .ref a :: ls) (.ref a :: st) hp := ax_aload_n dX5_init_40 rfl rfl
theorem dX5_init_41 : decode cX5_init 41 = .ok (.putfield 34, 3) := by decide +kernel
theorem sX5_init_41 : ab_X rom K cX5_init 3 3 41 ls (.ref a2 :: .ref a :: st) hp = (ab_fpt hp a 3 3 (.ref a2)).bind (fun hp' => ab_X rom K cX5_init 3 3 44 ls st hp') := ax_putfield dX5_init_41 kf_3_34 rfl (Or.inr ⟨rfl, rfl⟩) rfl
theorem dX5_init_44 : decode cX5_init 44 = .ok (.return_, 1) := by decide +kernel
theorem sX5_init_44 : ab_X rom K cX5_init 3 3 44 ls [] hp = some (none, hp) := ax_vret dX5_init_44 (by decide)
theorem tX5_advance : ab_mT[39]? = some (yX5_advance, cX5_advance, 2, 0, 3) := by decide +kernel
theorem mX5_advance {d : Nat} {a0 : Nat} : ab_M rom (d + 1) 39 [.ref a0] hp = ab_X rom (ab_M rom d) cX5_advance 3 0 0 [.ref a0, .null] [] hp := ab_M_eq tX5_advance (Nat.le_of_ble_eq_true rfl)
theorem dX5_advance_0 : decode cX5_advance 0 = .ok (.aload_n 0, 1) := by decide +kernel
theorem sX5_advance_0 : ab_X rom K cX5_advance 3 0 0 (.ref a :: ls) st hp = ab_X rom K cX5_advance 3 0 1 (.ref a :: ls) (.ref a :: st) hp := ax_aload_n dX5_advance_0 rfl rfl
theorem dX5_advance_1 : decode cX5_advance 1 = .ok (.invokevirtual 103, 3) := by decide +kernel
theorem sX5_advance_1_0 : ab_X rom K cX5_advance 3 0 1 ls [.ref a] hp = if ab_iso hp a 3 = true then (K 53 (.ref a :: []) hp).bind (fun o => ab_X rom K cX5_advance 3 0 4 ls (o.1.toList ++ []) o.2) else none := ay_virtual (as := []) (st := []) dX5_advance_1 kc_3_103 rfl rfl (Nat.le_of_ble_eq_true rfl)
theorem sX5_advance_1_1 : ab_X rom K cX5_advance 3 0 1 ls [.ref a, v0] hp = if ab_iso hp a 3 = true then (K 53 (.ref a :: []) hp).bind (fun o => ab_X rom K cX5_advance 3 0 4 ls (o.1.toList ++ [v0]) o.2) else none := ay_virtual (as := []) (st := [v0]) dX5_advance_1 kc_3_103 rfl rfl (Nat.le_of_ble_eq_true rfl)
theorem sX5_advance_1_2 : ab_X rom K cX5_advance 3 0 1 ls [.ref a, v0, v1] hp = if ab_iso hp a 3 = true then (K 53 (.ref a :: []) hp).bind (fun o => ab_X rom K cX5_advance 3 0 4 ls (o.1.toList ++ [v0, v1]) o.2) else none := ay_virtual (as := []) (st := [v0, v1]) dX5_advance_1 kc_3_103 rfl rfl (Nat.le_of_ble_eq_true rfl)
theorem sX5_advance_1_3 : ab_X rom K cX5_advance 3 0 1 ls [.ref a, v0, v1, v2] hp = if ab_iso hp a 3 = true then (K 53 (.ref a :: []) hp).bind (fun o => ab_X rom K cX5_advance 3 0 4 ls (o.1.toList ++ [v0, v1, v2]) o.2) else none := ay_virtual (as := []) (st := [v0, v1, v2]) dX5_advance_1 kc_3_103 rfl rfl (Nat.le_of_ble_eq_true rfl)
theorem dX5_advance_4 : decode cX5_advance 4 = .ok (.aload_n 0, 1) := by decide +kernel
theorem sX5_advance_4 : ab_X rom K cX5_advance 3 0 4 (.ref a :: ls) st hp = ab_X rom K cX5_advance 3 0 5 (.ref a :: ls) (.ref a :: st) hp := ax_aload_n dX5_advance_4 rfl rfl
theorem dX5_advance_5 : decode cX5_advance 5 = .ok (.aload_n 0, 1) := by decide +kernel
theorem sX5_advance_5 : ab_X rom K cX5_advance 3 0 5 (.ref a :: ls) st hp = ab_X rom K cX5_advance 3 0 6 (.ref a :: ls) (.ref a :: st) hp := ax_aload_n dX5_advance_5 rfl rfl
theorem dX5_advance_6 : decode cX5_advance 6 = .ok (.getfield 18, 3) := by decide +kernel
theorem sX5_advance_6 : ab_X rom K cX5_advance 3 0 6 ls (.ref a :: st) hp = (ab_fld hp a 3 4).bind (fun v => ab_X rom K cX5_advance 3 0 9 ls (v :: st) hp) := ax_getfield dX5_advance_6 kf_3_18 rfl
theorem dX5_advance_9 : decode cX5_advance 9 = .ok (.putfield 21, 3) := by decide +kernel
theorem sX5_advance_9 : ab_X rom K cX5_advance 3 0 9 ls (.int x :: .ref a :: st) hp = (ab_fpt hp a 3 5 (.int x)).bind (fun hp' => ab_X rom K cX5_advance 3 0 12 ls st hp') := ax_putfield dX5_advance_9 kf_3_21 rfl (Or.inl rfl) rfl
theorem dX5_advance_12 : decode cX5_advance 12 = .ok (.aload_n 0, 1) := by decide +kernel
theorem sX5_advance_12 : ab_X rom K cX5_advance 3 0 12 (.ref a :: ls) st hp = ab_X rom K cX5_advance 3 0 13 (.ref a :: ls) (.ref a :: st) hp := ax_aload_n dX5_advance_12 rfl rfl
theorem dX5_advance_13 : decode cX5_advance 13 = .ok (.getfield 18, 3) := by decide +kernel
theorem sX5_advance_13 : ab_X rom K cX5_advance 3 0 13 ls (.ref a :: st) hp = (ab_fld hp a 3 4).bind (fun v => ab_X rom K cX5_advance 3 0 16 ls (v :: st) hp) := ax_getfield dX5_advance_13 kf_3_18 rfl
theorem dX5_advance_16 : decode cX5_advance 16 = .ok (.aload_n 0, 1) := by decide +kernel
theorem sX5_advance_16 : ab_X rom K cX5_advance 3 0 16 (.ref a :: ls) st hp = ab_X rom K cX5_advance 3 0 17 (.ref a :: ls) (.ref a :: st) hp := ax_aload_n dX5_advance_16 rfl rfl
theorem dX5_advance_17 : decode cX5_advance 17 = .ok (.getfield 30, 3) := by decide +kernel
theorem sX5_advance_17 : ab_X rom K cX5_advance 3 0 17 ls (.ref a :: st) hp = (ab_fld hp a 3 2).bind (fun v => ab_X rom K cX5_advance 3 0 20 ls (v :: st) hp) := ax_getfield dX5_advance_17 kf_3_30 rfl
theorem dX5_advance_20 : decode cX5_advance 20 = .ok (.getfield 106, 3) := by decide +kernel
theorem sX5_advance_20 : ab_X rom K cX5_advance 3 0 20 ls (.ref a :: st) hp = (ab_fld hp a 5 1).bind (fun v => ab_X rom K cX5_advance 3 0 23 ls (v :: st) hp) := ax_getfield dX5_advance_20 kf_3_106 rfl
theorem dX5_advance_23 : decode cX5_advance 23 = .ok (.if_icmp .lt 14, 3) := by decide +kernel
theorem sX5_advance_23 : ab_X rom K cX5_advance 3 0 23 ls (.int y :: .int x :: st) hp = if x < y then ab_X rom K cX5_advance 3 0 37 ls st hp else ab_X rom K cX5_advance 3 0 26 ls st hp := ax_icmp_lt dX5_advance_23 (by decide) rfl
theorem dX5_advance_26 : decode cX5_advance 26 = .ok (.aload_n 0, 1) := by decide +kernel
theorem sX5_advance_26 : ab_X rom K cX5_advance 3 0 26 (.ref a :: ls) st hp = ab_X rom K cX5_advance 3 0 27 (.ref a :: ls) (.ref a :: st) hp := ax_aload_n dX5_advance_26 rfl rfl
theorem dX5_advance_27 : decode cX5_advance 27 = .ok (.iconst 0, 1) := by decide +kernel
theorem sX5_advance_27 : ab_X rom K cX5_advance 3 0 27 ls st hp = ab_X rom K cX5_advance 3 0 28 ls (.int 0 :: st) hp := ax_iconst dX5_advance_27 (by decide) rfl
theorem dX5_advance_28 : decode cX5_advance 28 = .ok (.putfield 24, 3) := by decide +kernel
theorem sX5_advance_28 : ab_X rom K cX5_advance 3 0 28 ls (.int x :: .ref a :: st) hp = (ab_fpt hp a 3 6 (.int x)).bind (fun hp' => ab_X rom K cX5_advance 3 0 31 ls st hp') := ax_putfield dX5_advance_28 kf_3_24 rfl (Or.inl rfl) rfl
theorem dX5_advance_31 : decode cX5_advance 31 = .ok (.aload_n 0, 1) := by decide +kernel
theorem sX5_advance_31 : ab_X rom K cX5_advance 3 0 31 (.ref a :: ls) st hp = ab_X rom K cX5_advance 3 0 32 (.ref a :: ls) (.ref a :: st) hp := ax_aload_n dX5_advance_31 rfl rfl
theorem dX5_advance_32 : decode cX5_advance 32 = .ok (.iconst 0, 1) := by decide +kernel
theorem sX5_advance_32 : ab_X rom K cX5_advance 3 0 32 ls st hp = ab_X rom K cX5_advance 3 0 33 ls (.int 0 :: st) hp := ax_iconst dX5_advance_32 (by decide) rfl
theorem dX5_advance_33 : decode cX5_advance 33 = .ok (.putfield 27, 3) := by decide +kernel
theorem sX5_advance_33 : ab_X rom K cX5_advance 3 0 33 ls (.int x :: .ref a :: st) hp = (ab_fpt hp a 3 7 (.int x)).bind (fun hp' => ab_X rom K cX5_advance 3 0 36 ls st hp') := ax_putfield dX5_advance_33 kf_3_27 rfl (Or.inl rfl) rfl
theorem dX5_advance_36 : decode cX5_advance 36 = .ok (.return_, 1) := by decide +kernel
theorem sX5_advance_36 : ab_X rom K cX5_advance 3 0 36 ls [] hp = some (none, hp) := ax_vret dX5_advance_36 (by decide)
theorem dX5_advance_37 : decode cX5_advance 37 = .ok (.aload_n 0, 1) := by decide +kernel
theorem sX5_advance_37 : ab_X rom K cX5_advance 3 0 37 (.ref a :: ls) st hp = ab_X rom K cX5_advance 3 0 38 (.ref a :: ls) (.ref a :: st) hp := ax_aload_n dX5_advance_37 rfl rfl
theorem dX5_advance_38 : decode cX5_advance 38 = .ok (.getfield 30, 3) := by decide +kernel
theorem sX5_advance_38 : ab_X rom K cX5_advance 3 0 38 ls (.ref a :: st) hp = (ab_fld hp a 3 2).bind (fun v => ab_X rom K cX5_advance 3 0 41 ls (v :: st) hp) := ax_getfield dX5_advance_38 kf_3_30 rfl
theorem dX5_advance_41 : decode cX5_advance 41 = .ok (.getfield 111, 3) := by decide +kernel
theorem sX5_advance_41 : ab_X rom K cX5_advance 3 0 41 ls (.ref a :: st) hp = (ab_fld hp a 5 0).bind (fun v => ab_X rom K cX5_advance 3 0 44 ls (v :: st) hp) := ax_getfield dX5_advance_41 kf_3_111 rfl
theorem dX5_advance_44 : decode cX5_advance 44 = .ok (.aload_n 0, 1) := by decide +kernel
theorem sX5_advance_44 : ab_X rom K cX5_advance 3 0 44 (.ref a :: ls) st hp = ab_X rom K cX5_advance 3 0 45 (.ref a :: ls) (.ref a :: st) hp := ax_aload_n dX5_advance_44 rfl rfl
theorem dX5_advance_45 : decode cX5_advance 45 = .ok (.getfield 18, 3) := by decide +kernel
theorem sX5_advance_45 : ab_X rom K cX5_advance 3 0 45 ls (.ref a :: st) hp = (ab_fld hp a 3 4).bind (fun v => ab_X rom K cX5_advance 3 0 48 ls (v :: st) hp) := ax_getfield dX5_advance_45 kf_3_18 rfl
theorem dX5_advance_48 : decode cX5_advance 48 = .ok (.iaload, 1) := by decide +kernel
theorem sX5_advance_48 : ab_X rom K cX5_advance 3 0 48 ls (.int x :: .ref a :: st) hp = (ab_ard rom 0 hp a x).bind (fun v => ab_X rom K cX5_advance 3 0 49 ls (.int v :: st) hp) := ax_iaload dX5_advance_48 rfl
theorem dX5_advance_49 : decode cX5_advance 49 = .ok (.istore_n 1, 1) := by decide +kernel
theorem sX5_advance_49i : ab_X rom K cX5_advance 3 0 49 (.int y :: v1 :: ls) (.int x :: st) hp = ab_X rom K cX5_advance 3 0 50 (.int y :: .int x :: ls) st hp := ax_istore_n dX5_advance_49 (ax_lt (v := v1) rfl) (ab_nl_c1 (j := 0) (v := .int y) rfl (ab_c1_int _)) rfl rfl
theorem sX5_advance_49r : ab_X rom K cX5_advance 3 0 49 (.ref a2 :: v1 :: ls) (.int x :: st) hp = ab_X rom K cX5_advance 3 0 50 (.ref a2 :: .int x :: ls) st hp := ax_istore_n dX5_advance_49 (ax_lt (v := v1) rfl) (ab_nl_c1 (j := 0) (v := .ref a2) rfl (ab_c1_ref _)) rfl rfl
theorem sX5_advance_49n : ab_X rom K cX5_advance 3 0 49 (.null :: v1 :: ls) (.int x :: st) hp = ab_X rom K cX5_advance 3 0 50 (.null :: .int x :: ls) st hp := ax_istore_n dX5_advance_49 (ax_lt (v := v1) rfl) (ab_nl_c1 (j := 0) (v := .null) rfl ab_c1_null) rfl rfl
theorem dX5_advance_50 : decode cX5_advance 50 = .ok (.iload_n 1, 1) := by decide +kernel
theorem sX5_advance_50 : ab_X rom K cX5_advance 3 0 50 (v0 :: .int x :: ls) st hp = ab_X rom K cX5_advance 3 0 51 (v0 :: .int x :: ls) (.int x :: st) hp := ax_iload_n dX5_advance_50 rfl rfl
theorem dX5_advance_51 : decode cX5_advance 51 = .ok (.invokestatic 114, 3) := by decide +kernel
theorem sX5_advance_51_0 : ab_X rom K cX5_advance 3 0 51 ls [w1] hp = (K 42 [w1] hp).bind (fun o => ab_X rom K cX5_advance 3 0 54 ls (o.1.toList ++ []) o.2) := ax_static (as := [w1]) (st := []) dX5_advance_51 kc_3_114 rfl rfl (Nat.le_of_ble_eq_true rfl)
theorem sX5_advance_51_1 : ab_X rom K cX5_advance 3 0 51 ls [w1, v0] hp = (K 42 [w1] hp).bind (fun o => ab_X rom K cX5_advance 3 0 54 ls (o.1.toList ++ [v0]) o.2) := ax_static (as := [w1]) (st := [v0]) dX5_advance_51 kc_3_114 rfl rfl (Nat.le_of_ble_eq_true rfl)
theorem sX5_advance_51_2 : ab_X rom K cX5_advance 3 0 51 ls [w1, v0, v1] hp = (K 42 [w1] hp).bind (fun o => ab_X rom K cX5_advance 3 0 54 ls (o.1.toList ++ [v0, v1]) o.2) := ax_static (as := [w1]) (st := [v0, v1]) dX5_advance_51 kc_3_114 rfl rfl (Nat.le_of_ble_eq_true rfl)
theorem sX5_advance_51_3 : ab_X rom K cX5_advance 3 0 51 ls [w1, v0, v1, v2] hp = (K 42 [w1] hp).bind (fun o => ab_X rom K cX5_advance 3 0 54 ls (o.1.toList ++ [v0, v1, v2]) o.2) := ax_static (as := [w1]) (st := [v0, v1, v2]) dX5_advance_51 kc_3_114 rfl rfl (Nat.le_of_ble_eq_true rfl)
theorem dX5_advance_54 : decode cX5_advance 54 = .ok (.ifCond .eq 10, 3) := by decide +kernel
theorem sX5_advance_54 : ab_X rom K cX5_advance 3 0 54 ls (.int x :: st) hp = if x = 0 then ab_X rom K cX5_advance 3 0 64 ls st hp else ab_X rom K cX5_advance 3 0 57 ls st hp := ax_if_eq dX5_advance_54 (by decide) rfl
theorem dX5_advance_57 : decode cX5_advance 57 = .ok (.aload_n 0, 1) := by decide +kernel
theorem sX5_advance_57 : ab_X rom K cX5_advance 3 0 57 (.ref a :: ls) st hp = ab_X rom K cX5_advance 3 0 58 (.ref a :: ls) (.ref a :: st) hp := ax_aload_n dX5_advance_57 rfl rfl
theorem dX5_advance_58 : decode cX5_advance 58 = .ok (.invokevirtual 117, 3) := by decide +kernel
theorem sX5_advance_58_0 : ab_X rom K cX5_advance 3 0 58 ls [.ref a] hp = if ab_iso hp a 3 = true then (K 55 (.ref a :: []) hp).bind (fun o => ab_X rom K cX5_advance 3 0 61 ls (o.1.toList ++ []) o.2) else none := ay_virtual (as := []) (st := []) dX5_advance_58 kc_3_117 rfl rfl (Nat.le_of_ble_eq_true rfl)
theorem sX5_advance_58_1 : ab_X rom K cX5_advance 3 0 58 ls [.ref a, v0] hp = if ab_iso hp a 3 = true then (K 55 (.ref a :: []) hp).bind (fun o => ab_X rom K cX5_advance 3 0 61 ls (o.1.toList ++ [v0]) o.2) else none := ay_virtual (as := []) (st := [v0]) dX5_advance_58 kc_3_117 rfl rfl (Nat.le_of_ble_eq_true rfl)
theorem sX5_advance_58_2 : ab_X rom K cX5_advance 3 0 58 ls [.ref a, v0, v1] hp = if ab_iso hp a 3 = true then (K 55 (.ref a :: []) hp).bind (fun o => ab_X rom K cX5_advance 3 0 61 ls (o.1.toList ++ [v0, v1]) o.2) else none := ay_virtual (as := []) (st := [v0, v1]) dX5_advance_58 kc_3_117 rfl rfl (Nat.le_of_ble_eq_true rfl)
theorem sX5_advance_58_3 : ab_X rom K cX5_advance 3 0 58 ls [.ref a, v0, v1, v2] hp = if ab_iso hp a 3 = true then (K 55 (.ref a :: []) hp).bind (fun o => ab_X rom K cX5_advance 3 0 61 ls (o.1.toList ++ [v0, v1, v2]) o.2) else none := ay_virtual (as := []) (st := [v0, v1, v2]) dX5_advance_58 kc_3_117 rfl rfl (Nat.le_of_ble_eq_true rfl)
theorem dX5_advance_61 : decode cX5_advance 61 = .ok (.goto 37, 3) := by decide +kernel
theorem sX5_advance_61 : ab_X rom K cX5_advance 3 0 61 ls st hp = ab_X rom K cX5_advance 3 0 98 ls st hp := ax_goto dX5_advance_61 (by decide)
theorem dX5_advance_64 : decode cX5_advance 64 = .ok (.iload_n 1, 1) := by decide +kernel
theorem sX5_advance_64 : ab_X rom K cX5_advance 3 0 64 (v0 :: .int x :: ls) st hp = ab_X rom K cX5_advance 3 0 65 (v0 :: .int x :: ls) (.int x :: st) hp := ax_iload_n dX5_advance_64 rfl rfl
theorem dX5_advance_65 : decode cX5_advance 65 = .ok (.invokestatic 120, 3) := by decide +kernel
theorem sX5_advance_65_0 : ab_X rom K cX5_advance 3 0 65 ls [w1] hp = (K 43 [w1] hp).bind (fun o => ab_X rom K cX5_advance 3 0 68 ls (o.1.toList ++ []) o.2) := ax_static (as := [w1]) (st := []) dX5_advance_65 kc_3_120 rfl rfl (Nat.le_of_ble_eq_true rfl)
theorem sX5_advance_65_1 : ab_X rom K cX5_advance 3 0 65 ls [w1, v0] hp = (K 43 [w1] hp).bind (fun o => ab_X rom K cX5_advance 3 0 68 ls (o.1.toList ++ [v0]) o.2) := ax_static (as := [w1]) (st := [v0]) dX5_advance_65 kc_3_120 rfl rfl (Nat.le_of_ble_eq_true rfl)
theorem sX5_advance_65_2 : ab_X rom K cX5_advance 3 0 65 ls [w1, v0, v1] hp = (K 43 [w1] hp).bind (fun o => ab_X rom K cX5_advance 3 0 68 ls (o.1.toList ++ [v0, v1]) o.2) := ax_static (as := [w1]) (st := [v0, v1]) dX5_advance_65 kc_3_120 rfl rfl (Nat.le_of_ble_eq_true rfl)
theorem sX5_advance_65_3 : ab_X rom K cX5_advance 3 0 65 ls [w1, v0, v1, v2] hp = (K 43 [w1] hp).bind (fun o => ab_X rom K cX5_advance 3 0 68 ls (o.1.toList ++ [v0, v1, v2]) o.2) := ax_static (as := [w1]) (st := [v0, v1, v2]) dX5_advance_65 kc_3_120 rfl rfl (Nat.le_of_ble_eq_true rfl)
theorem dX5_advance_68 : decode cX5_advance 68 = .ok (.ifCond .eq 10, 3) := by decide +kernel
theorem sX5_advance_68 : ab_X rom K cX5_advance 3 0 68 ls (.int x :: st) hp = if x = 0 then ab_X rom K cX5_advance 3 0 78 ls st hp else ab_X rom K cX5_advance 3 0 71 ls st hp := ax_if_eq dX5_advance_68 (by decide) rfl
theorem dX5_advance_71 : decode cX5_advance 71 = .ok (.aload_n 0, 1) := by decide +kernel
theorem sX5_advance_71 : ab_X rom K cX5_advance 3 0 71 (.ref a :: ls) st hp = ab_X rom K cX5_advance 3 0 72 (.ref a :: ls) (.ref a :: st) hp := ax_aload_n dX5_advance_71 rfl rfl
theorem dX5_advance_72 : decode cX5_advance 72 = .ok (.invokevirtual 123, 3) := by decide +kernel
theorem sX5_advance_72_0 : ab_X rom K cX5_advance 3 0 72 ls [.ref a] hp = if ab_iso hp a 3 = true then (K 56 (.ref a :: []) hp).bind (fun o => ab_X rom K cX5_advance 3 0 75 ls (o.1.toList ++ []) o.2) else none := ay_virtual (as := []) (st := []) dX5_advance_72 kc_3_123 rfl rfl (Nat.le_of_ble_eq_true rfl)
theorem sX5_advance_72_1 : ab_X rom K cX5_advance 3 0 72 ls [.ref a, v0] hp = if ab_iso hp a 3 = true then (K 56 (.ref a :: []) hp).bind (fun o => ab_X rom K cX5_advance 3 0 75 ls (o.1.toList ++ [v0]) o.2) else none := ay_virtual (as := []) (st := [v0]) dX5_advance_72 kc_3_123 rfl rfl (Nat.le_of_ble_eq_true rfl)
theorem sX5_advance_72_2 : ab_X rom K cX5_advance 3 0 72 ls [.ref a, v0, v1] hp = if ab_iso hp a 3 = true then (K 56 (.ref a :: []) hp).bind (fun o => ab_X rom K cX5_advance 3 0 75 ls (o.1.toList ++ [v0, v1]) o.2) else none := ay_virtual (as := []) (st := [v0, v1]) dX5_advance_72 kc_3_123 rfl rfl (Nat.le_of_ble_eq_true rfl)
theorem sX5_advance_72_3 : ab_X rom K cX5_advance 3 0 72 ls [.ref a, v0, v1, v2] hp = if ab_iso hp a 3 = true then (K 56 (.ref a :: []) hp).bind (fun o => ab_X rom K cX5_advance 3 0 75 ls (o.1.toList ++ [v0, v1, v2]) o.2) else none := ay_virtual (as := []) (st := [v0, v1, v2]) dX5_advance_72 kc_3_123 rfl rfl (Nat.le_of_ble_eq_true rfl)
theorem dX5_advance_75 : decode cX5_advance 75 = .ok (.goto 23, 3) := by decide +kernel
theorem sX5_advance_75 : ab_X rom K cX5_advance 3 0 75 ls st hp = ab_X rom K cX5_advance 3 0 98 ls st hp := ax_goto dX5_advance_75 (by decide)
theorem dX5_advance_78 : decode cX5_advance 78 = .ok (.aload_n 0, 1) := by decide +kernel
theorem sX5_advance_78 : ab_X rom K cX5_advance 3 0 78 (.ref a :: ls) st hp = ab_X rom K cX5_advance 3 0 79 (.ref a :: ls) (.ref a :: st) hp := ax_aload_n dX5_advance_78 rfl rfl
theorem dX5_advance_79 : decode cX5_advance 79 = .ok (.iconst 3, 1) := by decide +kernel
theorem sX5_advance_79 : ab_X rom K cX5_advance 3 0 79 ls st hp = ab_X rom K cX5_advance 3 0 80 ls (.int 3 :: st) hp := ax_iconst dX5_advance_79 (by decide) rfl
theorem dX5_advance_80 : decode cX5_advance 80 = .ok (.putfield 24, 3) := by decide +kernel
theorem sX5_advance_80 : ab_X rom K cX5_advance 3 0 80 ls (.int x :: .ref a :: st) hp = (ab_fpt hp a 3 6 (.int x)).bind (fun hp' => ab_X rom K cX5_advance 3 0 83 ls st hp') := ax_putfield dX5_advance_80 kf_3_24 rfl (Or.inl rfl) rfl
theorem dX5_advance_83 : decode cX5_advance 83 = .ok (.aload_n 0, 1) := by decide +kernel
theorem sX5_advance_83 : ab_X rom K cX5_advance 3 0 83 (.ref a :: ls) st hp = ab_X rom K cX5_advance 3 0 84 (.ref a :: ls) (.ref a :: st) hp := ax_aload_n dX5_advance_83 rfl rfl
theorem dX5_advance_84 : decode cX5_advance 84 = .ok (.iload_n 1, 1) := by decide +kernel
theorem sX5_advance_84 : ab_X rom K cX5_advance 3 0 84 (v0 :: .int x :: ls) st hp = ab_X rom K cX5_advance 3 0 85 (v0 :: .int x :: ls) (.int x :: st) hp := ax_iload_n dX5_advance_84 rfl rfl
theorem dX5_advance_85 : decode cX5_advance 85 = .ok (.putfield 27, 3) := by decide +kernel
theorem sX5_advance_85 : ab_X rom K cX5_advance 3 0 85 ls (.int x :: .ref a :: st) hp = (ab_fpt hp a 3 7 (.int x)).bind (fun hp' => ab_X rom K cX5_advance 3 0 88 ls st hp') := ax_putfield dX5_advance_85 kf_3_27 rfl (Or.inl rfl) rfl
theorem dX5_advance_88 : decode cX5_advance 88 = .ok (.aload_n 0, 1) := by decide +kernel
theorem sX5_advance_88 : ab_X rom K cX5_advance 3 0 88 (.ref a :: ls) st hp = ab_X rom K cX5_advance 3 0 89 (.ref a :: ls) (.ref a :: st) hp := ax_aload_n dX5_advance_88 rfl rfl
theorem dX5_advance_89 : decode cX5_advance 89 = .ok (.dup, 1) := by decide +kernel
theorem sX5_advance_89i : ab_X rom K cX5_advance 3 0 89 ls (.int x :: st) hp = ab_X rom K cX5_advance 3 0 90 ls (.int x :: .int x :: st) hp := ax_dup dX5_advance_89 rfl (ab_c1_int _)
theorem sX5_advance_89r : ab_X rom K cX5_advance 3 0 89 ls (.ref a :: st) hp = ab_X rom K cX5_advance 3 0 90 ls (.ref a :: .ref a :: st) hp := ax_dup dX5_advance_89 rfl (ab_c1_ref _)
theorem dX5_advance_90 : decode cX5_advance 90 = .ok (.getfield 18, 3) := by decide +kernel
theorem sX5_advance_90 : ab_X rom K cX5_advance 3 0 90 ls (.ref a :: st) hp = (ab_fld hp a 3 4).bind (fun v => ab_X rom K cX5_advance 3 0 93 ls (v :: st) hp) := ax_getfield dX5_advance_90 kf_3_18 rfl
theorem dX5_advance_93 : decode cX5_advance 93 = .ok (.iconst 1, 1) := by decide +kernel
theorem sX5_advance_93 : ab_X rom K cX5_advance 3 0 93 ls st hp = ab_X rom K cX5_advance 3 0 94 ls (.int 1 :: st) hp := ax_iconst dX5_advance_93 (by decide) rfl
theorem dX5_advance_94 : decode cX5_advance 94 = .ok (.iadd, 1) := by decide +kernel
theorem sX5_advance_94 : ab_X rom K cX5_advance 3 0 94 ls (.int y :: .int x :: st) hp = ab_X rom K cX5_advance 3 0 95 ls (.int (x + y) :: st) hp := ax_iadd dX5_advance_94 rfl
theorem dX5_advance_95 : decode cX5_advance 95 = .ok (.putfield 18, 3) := by decide +kernel
theorem sX5_advance_95 : ab_X rom K cX5_advance 3 0 95 ls (.int x :: .ref a :: st) hp = (ab_fpt hp a 3 4 (.int x)).bind (fun hp' => ab_X rom K cX5_advance 3 0 98 ls st hp') := ax_putfield dX5_advance_95 kf_3_18 rfl (Or.inl rfl) rfl
theorem dX5_advance_98 : decode cX5_advance 98 = .ok (.return_, 1) := by decide +kernel
theorem sX5_advance_98 : ab_X rom K cX5_advance 3 0 98 ls [] hp = some (none, hp) := ax_vret dX5_advance_98 (by decide)
theorem tX5_atPoint : ab_mT[40]? = some (yX5_atPoint, cX5_atPoint, 1, 2, 3) := by decide +kernel
theorem mX5_atPoint {d : Nat} {a0 : Nat} : ab_M rom (d + 1) 40 [.ref a0] hp = ab_X rom (ab_M rom d) cX5_atPoint 3 2 0 [.ref a0] [] hp := ab_M_eq tX5_atPoint (Nat.le_of_ble_eq_true rfl)
theorem dX5_atPoint_0 : decode cX5_atPoint 0 = .ok (.aload_n 0, 1) := by decide +kernel
theorem sX5_atPoint_0 : ab_X rom K cX5_atPoint 3 2 0 (.ref a :: ls) st hp = ab_X rom K cX5_atPoint 3 2 1 (.ref a :: ls) (.ref a :: st) hp := ax_aload_n dX5_atPoint_0 rfl rfl
theorem dX5_atPoint_1 : decode cX5_atPoint 1 = .ok (.getfield 24, 3) := by decide +kernel
theorem sX5_atPoint_1 : ab_X rom K cX5_atPoint 3 2 1 ls (.ref a :: st) hp = (ab_fld hp a 3 6).bind (fun v => ab_X rom K cX5_atPoint 3 2 4 ls (v :: st) hp) := ax_getfield dX5_atPoint_1 kf_3_24 rfl
theorem dX5_atPoint_4 : decode cX5_atPoint 4 = .ok (.iconst 2, 1) := by decide +kernel
theorem sX5_atPoint_4 : ab_X rom K cX5_atPoint 3 2 4 ls st hp = ab_X rom K cX5_atPoint 3 2 5 ls (.int 2 :: st) hp := ax_iconst dX5_atPoint_4 (by decide) rfl
theorem dX5_atPoint_5 : decode cX5_atPoint 5 = .ok (.if_icmp .eq 9, 3) := by decide +kernel
theorem sX5_atPoint_5 : ab_X rom K cX5_atPoint 3 2 5 ls (.int y :: .int x :: st) hp = if x = y then ab_X rom K cX5_atPoint 3 2 14 ls st hp else ab_X rom K cX5_atPoint 3 2 8 ls st hp := ax_icmp_eq dX5_atPoint_5 (by decide) rfl
theorem dX5_atPoint_8 : decode cX5_atPoint 8 = .ok (.aload_n 0, 1) := by decide +kernel
theorem sX5_atPoint_8 : ab_X rom K cX5_atPoint 3 2 8 (.ref a :: ls) st hp = ab_X rom K cX5_atPoint 3 2 9 (.ref a :: ls) (.ref a :: st) hp := ax_aload_n dX5_atPoint_8 rfl rfl
theorem dX5_atPoint_9 : decode cX5_atPoint 9 = .ok (.iconst 1, 1) := by decide +kernel
theorem sX5_atPoint_9 : ab_X rom K cX5_atPoint 3 2 9 ls st hp = ab_X rom K cX5_atPoint 3 2 10 ls (.int 1 :: st) hp := ax_iconst dX5_atPoint_9 (by decide) rfl
theorem dX5_atPoint_10 : decode cX5_atPoint 10 = .ok (.invokevirtual 61, 3) := by decide +kernel
theorem sX5_atPoint_10_0 : ab_X rom K cX5_atPoint 3 2 10 ls [w1, .ref a] hp = if ab_iso hp a 3 = true then (K 52 (.ref a :: [w1]) hp).bind (fun o => ab_X rom K cX5_atPoint 3 2 13 ls (o.1.toList ++ []) o.2) else none := ay_virtual (as := [w1]) (st := []) dX5_atPoint_10 kc_3_61 rfl rfl (Nat.le_of_ble_eq_true rfl)
theorem sX5_atPoint_10_1 : ab_X rom K cX5_atPoint 3 2 10 ls [w1, .ref a, v0] hp = if ab_iso hp a 3 = true then (K 52 (.ref a :: [w1]) hp).bind (fun o => ab_X rom K cX5_atPoint 3 2 13 ls (o.1.toList ++ [v0]) o.2) else none := ay_virtual (as := [w1]) (st := [v0]) dX5_atPoint_10 kc_3_61 rfl rfl (Nat.le_of_ble_eq_true rfl)
theorem sX5_atPoint_10_2 : ab_X rom K cX5_atPoint 3 2 10 ls [w1, .ref a, v0, v1] hp = if ab_iso hp a 3 = true then (K 52 (.ref a :: [w1]) hp).bind (fun o => ab_X rom K cX5_atPoint 3 2 13 ls (o.1.toList ++ [v0, v1]) o.2) else none := ay_virtual (as := [w1]) (st := [v0, v1]) dX5_atPoint_10 kc_3_61 rfl rfl (Nat.le_of_ble_eq_true rfl)
theorem sX5_atPoint_10_3 : ab_X rom K cX5_atPoint 3 2 10 ls [w1, .ref a, v0, v1, v2] hp = if ab_iso hp a 3 = true then (K 52 (.ref a :: [w1]) hp).bind (fun o => ab_X rom K cX5_atPoint 3 2 13 ls (o.1.toList ++ [v0, v1, v2]) o.2) else none := ay_virtual (as := [w1]) (st := [v0, v1, v2]) dX5_atPoint_10 kc_3_61 rfl rfl (Nat.le_of_ble_eq_true rfl)
theorem dX5_atPoint_13 : decode cX5_atPoint 13 = .ok (.ireturn, 1) := by decide +kernel
theorem sX5_atPoint_13 : ab_X rom K cX5_atPoint 3 2 13 ls [.int x] hp = if x = 0 ∨ x = 1 then some (some (.int x), hp) else none := ay_zret dX5_atPoint_13 rfl
theorem dX5_atPoint_14 : decode cX5_atPoint 14 = .ok (.aload_n 0, 1) := by decide +kernel
theorem sX5_atPoint_14 : ab_X rom K cX5_atPoint 3 2 14 (.ref a :: ls) st hp = ab_X rom K cX5_atPoint 3 2 15 (.ref a :: ls) (.ref a :: st) hp := ax_aload_n dX5_atPoint_14 rfl rfl
theorem dX5_atPoint_15 : decode cX5_atPoint 15 = .ok (.getfield 27, 3) := by decide +kernel
theorem sX5_atPoint_15 : ab_X rom K cX5_atPoint 3 2 15 ls (.ref a :: st) hp = (ab_fld hp a 3 7).bind (fun v => ab_X rom K cX5_atPoint 3 2 18 ls (v :: st) hp) := ax_getfield dX5_atPoint_15 kf_3_27 rfl
theorem dX5_atPoint_18 : decode cX5_atPoint 18 = .ok (.aload_n 0, 1) := by decide +kernel
theorem sX5_atPoint_18 : ab_X rom K cX5_atPoint 3 2 18 (.ref a :: ls) st hp = ab_X rom K cX5_atPoint 3 2 19 (.ref a :: ls) (.ref a :: st) hp := ax_aload_n dX5_atPoint_18 rfl rfl
theorem dX5_atPoint_19 : decode cX5_atPoint 19 = .ok (.getfield 34, 3) := by decide +kernel
theorem sX5_atPoint_19 : ab_X rom K cX5_atPoint 3 2 19 ls (.ref a :: st) hp = (ab_fld hp a 3 3).bind (fun v => ab_X rom K cX5_atPoint 3 2 22 ls (v :: st) hp) := ax_getfield dX5_atPoint_19 kf_3_34 rfl
theorem dX5_atPoint_22 : decode cX5_atPoint 22 = .ok (.getfield 100, 3) := by decide +kernel
theorem sX5_atPoint_22 : ab_X rom K cX5_atPoint 3 2 22 ls (.ref a :: st) hp = (ab_fld hp a 1 0).bind (fun v => ab_X rom K cX5_atPoint 3 2 25 ls (v :: st) hp) := ax_getfield dX5_atPoint_22 kf_3_100 rfl
theorem dX5_atPoint_25 : decode cX5_atPoint 25 = .ok (.if_icmp .lt 11, 3) := by decide +kernel
theorem sX5_atPoint_25 : ab_X rom K cX5_atPoint 3 2 25 ls (.int y :: .int x :: st) hp = if x < y then ab_X rom K cX5_atPoint 3 2 36 ls st hp else ab_X rom K cX5_atPoint 3 2 28 ls st hp := ax_icmp_lt dX5_atPoint_25 (by decide) rfl
theorem dX5_atPoint_28 : decode cX5_atPoint 28 = .ok (.aload_n 0, 1) := by decide +kernel
theorem sX5_atPoint_28 : ab_X rom K cX5_atPoint 3 2 28 (.ref a :: ls) st hp = ab_X rom K cX5_atPoint 3 2 29 (.ref a :: ls) (.ref a :: st) hp := ax_aload_n dX5_atPoint_28 rfl rfl
theorem dX5_atPoint_29 : decode cX5_atPoint 29 = .ok (.iconst 2, 1) := by decide +kernel
theorem sX5_atPoint_29 : ab_X rom K cX5_atPoint 3 2 29 ls st hp = ab_X rom K cX5_atPoint 3 2 30 ls (.int 2 :: st) hp := ax_iconst dX5_atPoint_29 (by decide) rfl
theorem dX5_atPoint_30 : decode cX5_atPoint 30 = .ok (.invokevirtual 61, 3) := by decide +kernel
theorem sX5_atPoint_30_0 : ab_X rom K cX5_atPoint 3 2 30 ls [w1, .ref a] hp = if ab_iso hp a 3 = true then (K 52 (.ref a :: [w1]) hp).bind (fun o => ab_X rom K cX5_atPoint 3 2 33 ls (o.1.toList ++ []) o.2) else none := ay_virtual (as := [w1]) (st := []) dX5_atPoint_30 kc_3_61 rfl rfl (Nat.le_of_ble_eq_true rfl)
theorem sX5_atPoint_30_1 : ab_X rom K cX5_atPoint 3 2 30 ls [w1, .ref a, v0] hp = if ab_iso hp a 3 = true then (K 52 (.ref a :: [w1]) hp).bind (fun o => ab_X rom K cX5_atPoint 3 2 33 ls (o.1.toList ++ [v0]) o.2) else none := ay_virtual (as := [w1]) (st := [v0]) dX5_atPoint_30 kc_3_61 rfl rfl (Nat.le_of_ble_eq_true rfl)
theorem sX5_atPoint_30_2 : ab_X rom K cX5_atPoint 3 2 30 ls [w1, .ref a, v0, v1] hp = if ab_iso hp a 3 = true then (K 52 (.ref a :: [w1]) hp).bind (fun o => ab_X rom K cX5_atPoint 3 2 33 ls (o.1.toList ++ [v0, v1]) o.2) else none := ay_virtual (as := [w1]) (st := [v0, v1]) dX5_atPoint_30 kc_3_61 rfl rfl (Nat.le_of_ble_eq_true rfl)
theorem sX5_atPoint_30_3 : ab_X rom K cX5_atPoint 3 2 30 ls [w1, .ref a, v0, v1, v2] hp = if ab_iso hp a 3 = true then (K 52 (.ref a :: [w1]) hp).bind (fun o => ab_X rom K cX5_atPoint 3 2 33 ls (o.1.toList ++ [v0, v1, v2]) o.2) else none := ay_virtual (as := [w1]) (st := [v0, v1, v2]) dX5_atPoint_30 kc_3_61 rfl rfl (Nat.le_of_ble_eq_true rfl)
theorem dX5_atPoint_33 : decode cX5_atPoint 33 = .ok (.ifCond .eq 7, 3) := by decide +kernel
theorem sX5_atPoint_33 : ab_X rom K cX5_atPoint 3 2 33 ls (.int x :: st) hp = if x = 0 then ab_X rom K cX5_atPoint 3 2 40 ls st hp else ab_X rom K cX5_atPoint 3 2 36 ls st hp := ax_if_eq dX5_atPoint_33 (by decide) rfl
theorem dX5_atPoint_36 : decode cX5_atPoint 36 = .ok (.iconst 1, 1) := by decide +kernel
theorem sX5_atPoint_36 : ab_X rom K cX5_atPoint 3 2 36 ls st hp = ab_X rom K cX5_atPoint 3 2 37 ls (.int 1 :: st) hp := ax_iconst dX5_atPoint_36 (by decide) rfl
theorem dX5_atPoint_37 : decode cX5_atPoint 37 = .ok (.goto 4, 3) := by decide +kernel
theorem sX5_atPoint_37 : ab_X rom K cX5_atPoint 3 2 37 ls st hp = ab_X rom K cX5_atPoint 3 2 41 ls st hp := ax_goto dX5_atPoint_37 (by decide)
theorem dX5_atPoint_40 : decode cX5_atPoint 40 = .ok (.iconst 0, 1) := by decide +kernel
theorem sX5_atPoint_40 : ab_X rom K cX5_atPoint 3 2 40 ls st hp = ab_X rom K cX5_atPoint 3 2 41 ls (.int 0 :: st) hp := ax_iconst dX5_atPoint_40 (by decide) rfl
theorem dX5_atPoint_41 : decode cX5_atPoint 41 = .ok (.ireturn, 1) := by decide +kernel
theorem sX5_atPoint_41 : ab_X rom K cX5_atPoint 3 2 41 ls [.int x] hp = if x = 0 ∨ x = 1 then some (some (.int x), hp) else none := ay_zret dX5_atPoint_41 rfl
theorem tX5_atSign : ab_mT[41]? = some (yX5_atSign, cX5_atSign, 2, 2, 3) := by decide +kernel
theorem mX5_atSign {d : Nat} {a0 : Nat} {x0 : Int32} : ab_M rom (d + 1) 41 [.ref a0, .int x0] hp = ab_X rom (ab_M rom d) cX5_atSign 3 2 0 [.ref a0, .int x0] [] hp := ab_M_eq tX5_atSign (Nat.le_of_ble_eq_true rfl)
theorem dX5_atSign_0 : decode cX5_atSign 0 = .ok (.aload_n 0, 1) := by decide +kernel
theorem sX5_atSign_0 : ab_X rom K cX5_atSign 3 2 0 (.ref a :: ls) st hp = ab_X rom K cX5_atSign 3 2 1 (.ref a :: ls) (.ref a :: st) hp := ax_aload_n dX5_atSign_0 rfl rfl
theorem dX5_atSign_1 : decode cX5_atSign 1 = .ok (.getfield 24, 3) := by decide +kernel
theorem sX5_atSign_1 : ab_X rom K cX5_atSign 3 2 1 ls (.ref a :: st) hp = (ab_fld hp a 3 6).bind (fun v => ab_X rom K cX5_atSign 3 2 4 ls (v :: st) hp) := ax_getfield dX5_atSign_1 kf_3_24 rfl
theorem dX5_atSign_4 : decode cX5_atSign 4 = .ok (.iconst 3, 1) := by decide +kernel
theorem sX5_atSign_4 : ab_X rom K cX5_atSign 3 2 4 ls st hp = ab_X rom K cX5_atSign 3 2 5 ls (.int 3 :: st) hp := ax_iconst dX5_atSign_4 (by decide) rfl
theorem dX5_atSign_5 : decode cX5_atSign 5 = .ok (.if_icmp .ne 15, 3) := by decide +kernel
theorem sX5_atSign_5 : ab_X rom K cX5_atSign 3 2 5 ls (.int y :: .int x :: st) hp = if x = y then ab_X rom K cX5_atSign 3 2 8 ls st hp else ab_X rom K cX5_atSign 3 2 20 ls st hp := ax_icmp_ne dX5_atSign_5 (by decide) rfl
theorem dX5_atSign_8 : decode cX5_atSign 8 = .ok (.aload_n 0, 1) := by decide +kernel
theorem sX5_atSign_8 : ab_X rom K cX5_atSign 3 2 8 (.ref a :: ls) st hp = ab_X rom K cX5_atSign 3 2 9 (.ref a :: ls) (.ref a :: st) hp := ax_aload_n dX5_atSign_8 rfl rfl
theorem dX5_atSign_9 : decode cX5_atSign 9 = .ok (.getfield 27, 3) := by decide +kernel
theorem sX5_atSign_9 : ab_X rom K cX5_atSign 3 2 9 ls (.ref a :: st) hp = (ab_fld hp a 3 7).bind (fun v => ab_X rom K cX5_atSign 3 2 12 ls (v :: st) hp) := ax_getfield dX5_atSign_9 kf_3_27 rfl
theorem dX5_atSign_12 : decode cX5_atSign 12 = .ok (.iload_n 1, 1) := by decide +kernel
theorem sX5_atSign_12 : ab_X rom K cX5_atSign 3 2 12 (v0 :: .int x :: ls) st hp = ab_X rom K cX5_atSign 3 2 13 (v0 :: .int x :: ls) (.int x :: st) hp := ax_iload_n dX5_atSign_12 rfl rfl
theorem dX5_atSign_13 : decode cX5_atSign 13 = .ok (.if_icmp .ne 7, 3) := by decide +kernel
theorem sX5_atSign_13 : ab_X rom K cX5_atSign 3 2 13 ls (.int y :: .int x :: st) hp = if x = y then ab_X rom K cX5_atSign 3 2 16 ls st hp else ab_X rom K cX5_atSign 3 2 20 ls st hp := ax_icmp_ne dX5_atSign_13 (by decide) rfl
theorem dX5_atSign_16 : decode cX5_atSign 16 = .ok (.iconst 1, 1) := by decide +kernel
theorem sX5_atSign_16 : ab_X rom K cX5_atSign 3 2 16 ls st hp = ab_X rom K cX5_atSign 3 2 17 ls (.int 1 :: st) hp := ax_iconst dX5_atSign_16 (by decide) rfl
theorem dX5_atSign_17 : decode cX5_atSign 17 = .ok (.goto 4, 3) := by decide +kernel
theorem sX5_atSign_17 : ab_X rom K cX5_atSign 3 2 17 ls st hp = ab_X rom K cX5_atSign 3 2 21 ls st hp := ax_goto dX5_atSign_17 (by decide)
theorem dX5_atSign_20 : decode cX5_atSign 20 = .ok (.iconst 0, 1) := by decide +kernel
theorem sX5_atSign_20 : ab_X rom K cX5_atSign 3 2 20 ls st hp = ab_X rom K cX5_atSign 3 2 21 ls (.int 0 :: st) hp := ax_iconst dX5_atSign_20 (by decide) rfl
theorem dX5_atSign_21 : decode cX5_atSign 21 = .ok (.ireturn, 1) := by decide +kernel
theorem sX5_atSign_21 : ab_X rom K cX5_atSign 3 2 21 ls [.int x] hp = if x = 0 ∨ x = 1 then some (some (.int x), hp) else none := ay_zret dX5_atSign_21 rfl
theorem tX5_isDigit : ab_mT[42]? = some (yX5_isDigit, cX5_isDigit, 1, 2, 3) := by decide +kernel
theorem mX5_isDigit {d : Nat} {x0 : Int32} : ab_M rom (d + 1) 42 [.int x0] hp = ab_X rom (ab_M rom d) cX5_isDigit 3 2 0 [.int x0] [] hp := ab_M_eq tX5_isDigit (Nat.le_of_ble_eq_true rfl)
theorem dX5_isDigit_0 : decode cX5_isDigit 0 = .ok (.iload_n 0, 1) := by decide +kernel
theorem sX5_isDigit_0 : ab_X rom K cX5_isDigit 3 2 0 (.int x :: ls) st hp = ab_X rom K cX5_isDigit 3 2 1 (.int x :: ls) (.int x :: st) hp := ax_iload_n dX5_isDigit_0 rfl rfl
theorem dX5_isDigit_1 : decode cX5_isDigit 1 = .ok (.bipush 48, 2) := by decide +kernel
theorem sX5_isDigit_1 : ab_X rom K cX5_isDigit 3 2 1 ls st hp = ab_X rom K cX5_isDigit 3 2 3 ls (.int 48 :: st) hp := ax_bipush dX5_isDigit_1 (by decide) rfl
theorem dX5_isDigit_3 : decode cX5_isDigit 3 = .ok (.if_icmp .lt 13, 3) := by decide +kernel
theorem sX5_isDigit_3 : ab_X rom K cX5_isDigit 3 2 3 ls (.int y :: .int x :: st) hp = if x < y then ab_X rom K cX5_isDigit 3 2 16 ls st hp else ab_X rom K cX5_isDigit 3 2 6 ls st hp := ax_icmp_lt dX5_isDigit_3 (by decide) rfl
theorem dX5_isDigit_6 : decode cX5_isDigit 6 = .ok (.iload_n 0, 1) := by decide +kernel
theorem sX5_isDigit_6 : ab_X rom K cX5_isDigit 3 2 6 (.int x :: ls) st hp = ab_X rom K cX5_isDigit 3 2 7 (.int x :: ls) (.int x :: st) hp := ax_iload_n dX5_isDigit_6 rfl rfl
theorem dX5_isDigit_7 : decode cX5_isDigit 7 = .ok (.bipush 57, 2) := by decide +kernel
theorem sX5_isDigit_7 : ab_X rom K cX5_isDigit 3 2 7 ls st hp = ab_X rom K cX5_isDigit 3 2 9 ls (.int 57 :: st) hp := ax_bipush dX5_isDigit_7 (by decide) rfl
theorem dX5_isDigit_9 : decode cX5_isDigit 9 = .ok (.if_icmp .gt 7, 3) := by decide +kernel
theorem sX5_isDigit_9 : ab_X rom K cX5_isDigit 3 2 9 ls (.int y :: .int x :: st) hp = if y < x then ab_X rom K cX5_isDigit 3 2 16 ls st hp else ab_X rom K cX5_isDigit 3 2 12 ls st hp := ax_icmp_gt dX5_isDigit_9 (by decide) rfl
theorem dX5_isDigit_12 : decode cX5_isDigit 12 = .ok (.iconst 1, 1) := by decide +kernel
theorem sX5_isDigit_12 : ab_X rom K cX5_isDigit 3 2 12 ls st hp = ab_X rom K cX5_isDigit 3 2 13 ls (.int 1 :: st) hp := ax_iconst dX5_isDigit_12 (by decide) rfl
theorem dX5_isDigit_13 : decode cX5_isDigit 13 = .ok (.goto 4, 3) := by decide +kernel
theorem sX5_isDigit_13 : ab_X rom K cX5_isDigit 3 2 13 ls st hp = ab_X rom K cX5_isDigit 3 2 17 ls st hp := ax_goto dX5_isDigit_13 (by decide)
theorem dX5_isDigit_16 : decode cX5_isDigit 16 = .ok (.iconst 0, 1) := by decide +kernel
theorem sX5_isDigit_16 : ab_X rom K cX5_isDigit 3 2 16 ls st hp = ab_X rom K cX5_isDigit 3 2 17 ls (.int 0 :: st) hp := ax_iconst dX5_isDigit_16 (by decide) rfl
theorem dX5_isDigit_17 : decode cX5_isDigit 17 = .ok (.ireturn, 1) := by decide +kernel
theorem sX5_isDigit_17 : ab_X rom K cX5_isDigit 3 2 17 ls [.int x] hp = if x = 0 ∨ x = 1 then some (some (.int x), hp) else none := ay_zret dX5_isDigit_17 rfl
theorem tX5_isLetter : ab_mT[43]? = some (yX5_isLetter, cX5_isLetter, 1, 2, 3) := by decide +kernel
theorem mX5_isLetter {d : Nat} {x0 : Int32} : ab_M rom (d + 1) 43 [.int x0] hp = ab_X rom (ab_M rom d) cX5_isLetter 3 2 0 [.int x0] [] hp := ab_M_eq tX5_isLetter (Nat.le_of_ble_eq_true rfl)
theorem dX5_isLetter_0 : decode cX5_isLetter 0 = .ok (.iload_n 0, 1) := by decide +kernel
theorem sX5_isLetter_0 : ab_X rom K cX5_isLetter 3 2 0 (.int x :: ls) st hp = ab_X rom K cX5_isLetter 3 2 1 (.int x :: ls) (.int x :: st) hp := ax_iload_n dX5_isLetter_0 rfl rfl
theorem dX5_isLetter_1 : decode cX5_isLetter 1 = .ok (.bipush 97, 2) := by decide +kernel
theorem sX5_isLetter_1 : ab_X rom K cX5_isLetter 3 2 1 ls st hp = ab_X rom K cX5_isLetter 3 2 3 ls (.int 97 :: st) hp := ax_bipush dX5_isLetter_1 (by decide) rfl
theorem dX5_isLetter_3 : decode cX5_isLetter 3 = .ok (.if_icmp .lt 13, 3) := by decide +kernel
theorem sX5_isLetter_3 : ab_X rom K cX5_isLetter 3 2 3 ls (.int y :: .int x :: st) hp = if x < y then ab_X rom K cX5_isLetter 3 2 16 ls st hp else ab_X rom K cX5_isLetter 3 2 6 ls st hp := ax_icmp_lt dX5_isLetter_3 (by decide) rfl
theorem dX5_isLetter_6 : decode cX5_isLetter 6 = .ok (.iload_n 0, 1) := by decide +kernel
theorem sX5_isLetter_6 : ab_X rom K cX5_isLetter 3 2 6 (.int x :: ls) st hp = ab_X rom K cX5_isLetter 3 2 7 (.int x :: ls) (.int x :: st) hp := ax_iload_n dX5_isLetter_6 rfl rfl
theorem dX5_isLetter_7 : decode cX5_isLetter 7 = .ok (.bipush 122, 2) := by decide +kernel
theorem sX5_isLetter_7 : ab_X rom K cX5_isLetter 3 2 7 ls st hp = ab_X rom K cX5_isLetter 3 2 9 ls (.int 122 :: st) hp := ax_bipush dX5_isLetter_7 (by decide) rfl
theorem dX5_isLetter_9 : decode cX5_isLetter 9 = .ok (.if_icmp .gt 7, 3) := by decide +kernel
theorem sX5_isLetter_9 : ab_X rom K cX5_isLetter 3 2 9 ls (.int y :: .int x :: st) hp = if y < x then ab_X rom K cX5_isLetter 3 2 16 ls st hp else ab_X rom K cX5_isLetter 3 2 12 ls st hp := ax_icmp_gt dX5_isLetter_9 (by decide) rfl
theorem dX5_isLetter_12 : decode cX5_isLetter 12 = .ok (.iconst 1, 1) := by decide +kernel
theorem sX5_isLetter_12 : ab_X rom K cX5_isLetter 3 2 12 ls st hp = ab_X rom K cX5_isLetter 3 2 13 ls (.int 1 :: st) hp := ax_iconst dX5_isLetter_12 (by decide) rfl
theorem dX5_isLetter_13 : decode cX5_isLetter 13 = .ok (.goto 4, 3) := by decide +kernel
theorem sX5_isLetter_13 : ab_X rom K cX5_isLetter 3 2 13 ls st hp = ab_X rom K cX5_isLetter 3 2 17 ls st hp := ax_goto dX5_isLetter_13 (by decide)
theorem dX5_isLetter_16 : decode cX5_isLetter 16 = .ok (.iconst 0, 1) := by decide +kernel
theorem sX5_isLetter_16 : ab_X rom K cX5_isLetter 3 2 16 ls st hp = ab_X rom K cX5_isLetter 3 2 17 ls (.int 0 :: st) hp := ax_iconst dX5_isLetter_16 (by decide) rfl
theorem dX5_isLetter_17 : decode cX5_isLetter 17 = .ok (.ireturn, 1) := by decide +kernel
theorem sX5_isLetter_17 : ab_X rom K cX5_isLetter 3 2 17 ls [.int x] hp = if x = 0 ∨ x = 1 then some (some (.int x), hp) else none := ay_zret dX5_isLetter_17 rfl
theorem tX5_passSign : ab_mT[44]? = some (yX5_passSign, cX5_passSign, 2, 2, 3) := by decide +kernel
theorem mX5_passSign {d : Nat} {a0 : Nat} {x0 : Int32} : ab_M rom (d + 1) 44 [.ref a0, .int x0] hp = ab_X rom (ab_M rom d) cX5_passSign 3 2 0 [.ref a0, .int x0] [] hp := ab_M_eq tX5_passSign (Nat.le_of_ble_eq_true rfl)
theorem dX5_passSign_0 : decode cX5_passSign 0 = .ok (.aload_n 0, 1) := by decide +kernel
theorem sX5_passSign_0 : ab_X rom K cX5_passSign 3 2 0 (.ref a :: ls) st hp = ab_X rom K cX5_passSign 3 2 1 (.ref a :: ls) (.ref a :: st) hp := ax_aload_n dX5_passSign_0 rfl rfl
theorem dX5_passSign_1 : decode cX5_passSign 1 = .ok (.iload_n 1, 1) := by decide +kernel
theorem sX5_passSign_1 : ab_X rom K cX5_passSign 3 2 1 (v0 :: .int x :: ls) st hp = ab_X rom K cX5_passSign 3 2 2 (v0 :: .int x :: ls) (.int x :: st) hp := ax_iload_n dX5_passSign_1 rfl rfl
theorem dX5_passSign_2 : decode cX5_passSign 2 = .ok (.invokevirtual 57, 3) := by decide +kernel
theorem sX5_passSign_2_0 : ab_X rom K cX5_passSign 3 2 2 ls [w1, .ref a] hp = if ab_iso hp a 3 = true then (K 41 (.ref a :: [w1]) hp).bind (fun o => ab_X rom K cX5_passSign 3 2 5 ls (o.1.toList ++ []) o.2) else none := ay_virtual (as := [w1]) (st := []) dX5_passSign_2 kc_3_57 rfl rfl (Nat.le_of_ble_eq_true rfl)
theorem sX5_passSign_2_1 : ab_X rom K cX5_passSign 3 2 2 ls [w1, .ref a, v0] hp = if ab_iso hp a 3 = true then (K 41 (.ref a :: [w1]) hp).bind (fun o => ab_X rom K cX5_passSign 3 2 5 ls (o.1.toList ++ [v0]) o.2) else none := ay_virtual (as := [w1]) (st := [v0]) dX5_passSign_2 kc_3_57 rfl rfl (Nat.le_of_ble_eq_true rfl)
theorem sX5_passSign_2_2 : ab_X rom K cX5_passSign 3 2 2 ls [w1, .ref a, v0, v1] hp = if ab_iso hp a 3 = true then (K 41 (.ref a :: [w1]) hp).bind (fun o => ab_X rom K cX5_passSign 3 2 5 ls (o.1.toList ++ [v0, v1]) o.2) else none := ay_virtual (as := [w1]) (st := [v0, v1]) dX5_passSign_2 kc_3_57 rfl rfl (Nat.le_of_ble_eq_true rfl)
theorem sX5_passSign_2_3 : ab_X rom K cX5_passSign 3 2 2 ls [w1, .ref a, v0, v1, v2] hp = if ab_iso hp a 3 = true then (K 41 (.ref a :: [w1]) hp).bind (fun o => ab_X rom K cX5_passSign 3 2 5 ls (o.1.toList ++ [v0, v1, v2]) o.2) else none := ay_virtual (as := [w1]) (st := [v0, v1, v2]) dX5_passSign_2 kc_3_57 rfl rfl (Nat.le_of_ble_eq_true rfl)
theorem dX5_passSign_5 : decode cX5_passSign 5 = .ok (.ifCond .ne 9, 3) := by decide +kernel
theorem sX5_passSign_5 : ab_X rom K cX5_passSign 3 2 5 ls (.int x :: st) hp = if x = 0 then ab_X rom K cX5_passSign 3 2 8 ls st hp else ab_X rom K cX5_passSign 3 2 14 ls st hp := ax_if_ne dX5_passSign_5 (by decide) rfl
theorem dX5_passSign_8 : decode cX5_passSign 8 = .ok (.aload_n 0, 1) := by decide +kernel
theorem sX5_passSign_8 : ab_X rom K cX5_passSign 3 2 8 (.ref a :: ls) st hp = ab_X rom K cX5_passSign 3 2 9 (.ref a :: ls) (.ref a :: st) hp := ax_aload_n dX5_passSign_8 rfl rfl
theorem dX5_passSign_9 : decode cX5_passSign 9 = .ok (.iconst 1, 1) := by decide +kernel
theorem sX5_passSign_9 : ab_X rom K cX5_passSign 3 2 9 ls st hp = ab_X rom K cX5_passSign 3 2 10 ls (.int 1 :: st) hp := ax_iconst dX5_passSign_9 (by decide) rfl
theorem dX5_passSign_10 : decode cX5_passSign 10 = .ok (.invokevirtual 61, 3) := by decide +kernel
theorem sX5_passSign_10_0 : ab_X rom K cX5_passSign 3 2 10 ls [w1, .ref a] hp = if ab_iso hp a 3 = true then (K 52 (.ref a :: [w1]) hp).bind (fun o => ab_X rom K cX5_passSign 3 2 13 ls (o.1.toList ++ []) o.2) else none := ay_virtual (as := [w1]) (st := []) dX5_passSign_10 kc_3_61 rfl rfl (Nat.le_of_ble_eq_true rfl)
theorem sX5_passSign_10_1 : ab_X rom K cX5_passSign 3 2 10 ls [w1, .ref a, v0] hp = if ab_iso hp a 3 = true then (K 52 (.ref a :: [w1]) hp).bind (fun o => ab_X rom K cX5_passSign 3 2 13 ls (o.1.toList ++ [v0]) o.2) else none := ay_virtual (as := [w1]) (st := [v0]) dX5_passSign_10 kc_3_61 rfl rfl (Nat.le_of_ble_eq_true rfl)
theorem sX5_passSign_10_2 : ab_X rom K cX5_passSign 3 2 10 ls [w1, .ref a, v0, v1] hp = if ab_iso hp a 3 = true then (K 52 (.ref a :: [w1]) hp).bind (fun o => ab_X rom K cX5_passSign 3 2 13 ls (o.1.toList ++ [v0, v1]) o.2) else none := ay_virtual (as := [w1]) (st := [v0, v1]) dX5_passSign_10 kc_3_61 rfl rfl (Nat.le_of_ble_eq_true rfl)
theorem sX5_passSign_10_3 : ab_X rom K cX5_passSign 3 2 10 ls [w1, .ref a, v0, v1, v2] hp = if ab_iso hp a 3 = true then (K 52 (.ref a :: [w1]) hp).bind (fun o => ab_X rom K cX5_passSign 3 2 13 ls (o.1.toList ++ [v0, v1, v2]) o.2) else none := ay_virtual (as := [w1]) (st := [v0, v1, v2]) dX5_passSign_10 kc_3_61 rfl rfl (Nat.le_of_ble_eq_true rfl)
theorem dX5_passSign_13 : decode cX5_passSign 13 = .ok (.ireturn, 1) := by decide +kernel
theorem sX5_passSign_13 : ab_X rom K cX5_passSign 3 2 13 ls [.int x] hp = if x = 0 ∨ x = 1 then some (some (.int x), hp) else none := ay_zret dX5_passSign_13 rfl
theorem dX5_passSign_14 : decode cX5_passSign 14 = .ok (.aload_n 0, 1) := by decide +kernel
theorem sX5_passSign_14 : ab_X rom K cX5_passSign 3 2 14 (.ref a :: ls) st hp = ab_X rom K cX5_passSign 3 2 15 (.ref a :: ls) (.ref a :: st) hp := ax_aload_n dX5_passSign_14 rfl rfl
theorem dX5_passSign_15 : decode cX5_passSign 15 = .ok (.invokevirtual 44, 3) := by decide +kernel
theorem sX5_passSign_15_0 : ab_X rom K cX5_passSign 3 2 15 ls [.ref a] hp = if ab_iso hp a 3 = true then (K 39 (.ref a :: []) hp).bind (fun o => ab_X rom K cX5_passSign 3 2 18 ls (o.1.toList ++ []) o.2) else none := ay_virtual (as := []) (st := []) dX5_passSign_15 kc_3_44 rfl rfl (Nat.le_of_ble_eq_true rfl)
theorem sX5_passSign_15_1 : ab_X rom K cX5_passSign 3 2 15 ls [.ref a, v0] hp = if ab_iso hp a 3 = true then (K 39 (.ref a :: []) hp).bind (fun o => ab_X rom K cX5_passSign 3 2 18 ls (o.1.toList ++ [v0]) o.2) else none := ay_virtual (as := []) (st := [v0]) dX5_passSign_15 kc_3_44 rfl rfl (Nat.le_of_ble_eq_true rfl)
theorem sX5_passSign_15_2 : ab_X rom K cX5_passSign 3 2 15 ls [.ref a, v0, v1] hp = if ab_iso hp a 3 = true then (K 39 (.ref a :: []) hp).bind (fun o => ab_X rom K cX5_passSign 3 2 18 ls (o.1.toList ++ [v0, v1]) o.2) else none := ay_virtual (as := []) (st := [v0, v1]) dX5_passSign_15 kc_3_44 rfl rfl (Nat.le_of_ble_eq_true rfl)
theorem sX5_passSign_15_3 : ab_X rom K cX5_passSign 3 2 15 ls [.ref a, v0, v1, v2] hp = if ab_iso hp a 3 = true then (K 39 (.ref a :: []) hp).bind (fun o => ab_X rom K cX5_passSign 3 2 18 ls (o.1.toList ++ [v0, v1, v2]) o.2) else none := ay_virtual (as := []) (st := [v0, v1, v2]) dX5_passSign_15 kc_3_44 rfl rfl (Nat.le_of_ble_eq_true rfl)
theorem dX5_passSign_18 : decode cX5_passSign 18 = .ok (.iconst 1, 1) := by decide +kernel
theorem sX5_passSign_18 : ab_X rom K cX5_passSign 3 2 18 ls st hp = ab_X rom K cX5_passSign 3 2 19 ls (.int 1 :: st) hp := ax_iconst dX5_passSign_18 (by decide) rfl
theorem dX5_passSign_19 : decode cX5_passSign 19 = .ok (.ireturn, 1) := by decide +kernel
theorem sX5_passSign_19 : ab_X rom K cX5_passSign 3 2 19 ls [.int x] hp = if x = 0 ∨ x = 1 then some (some (.int x), hp) else none := ay_zret dX5_passSign_19 rfl
theorem tX5_passWord : ab_mT[45]? = some (yX5_passWord, cX5_passWord, 2, 2, 3) := by decide +kernel
theorem mX5_passWord {d : Nat} {a0 : Nat} {r0 : Nat} : ab_M rom (d + 1) 45 [.ref a0, .ref r0] hp = ab_X rom (ab_M rom d) cX5_passWord 3 2 0 [.ref a0, .ref r0] [] hp := ab_M_eq tX5_passWord (Nat.le_of_ble_eq_true rfl)
theorem dX5_passWord_0 : decode cX5_passWord 0 = .ok (.aload_n 0, 1) := by decide +kernel
theorem sX5_passWord_0 : ab_X rom K cX5_passWord 3 2 0 (.ref a :: ls) st hp = ab_X rom K cX5_passWord 3 2 1 (.ref a :: ls) (.ref a :: st) hp := ax_aload_n dX5_passWord_0 rfl rfl
theorem dX5_passWord_1 : decode cX5_passWord 1 = .ok (.getfield 24, 3) := by decide +kernel
theorem sX5_passWord_1 : ab_X rom K cX5_passWord 3 2 1 ls (.ref a :: st) hp = (ab_fld hp a 3 6).bind (fun v => ab_X rom K cX5_passWord 3 2 4 ls (v :: st) hp) := ax_getfield dX5_passWord_1 kf_3_24 rfl
theorem dX5_passWord_4 : decode cX5_passWord 4 = .ok (.iconst 1, 1) := by decide +kernel
theorem sX5_passWord_4 : ab_X rom K cX5_passWord 3 2 4 ls st hp = ab_X rom K cX5_passWord 3 2 5 ls (.int 1 :: st) hp := ax_iconst dX5_passWord_4 (by decide) rfl
theorem dX5_passWord_5 : decode cX5_passWord 5 = .ok (.if_icmp .ne 11, 3) := by decide +kernel
theorem sX5_passWord_5 : ab_X rom K cX5_passWord 3 2 5 ls (.int y :: .int x :: st) hp = if x = y then ab_X rom K cX5_passWord 3 2 8 ls st hp else ab_X rom K cX5_passWord 3 2 16 ls st hp := ax_icmp_ne dX5_passWord_5 (by decide) rfl
theorem dX5_passWord_8 : decode cX5_passWord 8 = .ok (.aload_n 0, 1) := by decide +kernel
theorem sX5_passWord_8 : ab_X rom K cX5_passWord 3 2 8 (.ref a :: ls) st hp = ab_X rom K cX5_passWord 3 2 9 (.ref a :: ls) (.ref a :: st) hp := ax_aload_n dX5_passWord_8 rfl rfl
theorem dX5_passWord_9 : decode cX5_passWord 9 = .ok (.aload_n 1, 1) := by decide +kernel
theorem sX5_passWord_9 : ab_X rom K cX5_passWord 3 2 9 (v0 :: .ref a :: ls) st hp = ab_X rom K cX5_passWord 3 2 10 (v0 :: .ref a :: ls) (.ref a :: st) hp := ax_aload_n dX5_passWord_9 rfl rfl
theorem dX5_passWord_10 : decode cX5_passWord 10 = .ok (.invokevirtual 64, 3) := by decide +kernel
theorem sX5_passWord_10_0 : ab_X rom K cX5_passWord 3 2 10 ls [w1, .ref a] hp = if ab_iso hp a 3 = true then (K 54 (.ref a :: [w1]) hp).bind (fun o => ab_X rom K cX5_passWord 3 2 13 ls (o.1.toList ++ []) o.2) else none := ay_virtual (as := [w1]) (st := []) dX5_passWord_10 kc_3_64 rfl rfl (Nat.le_of_ble_eq_true rfl)
theorem sX5_passWord_10_1 : ab_X rom K cX5_passWord 3 2 10 ls [w1, .ref a, v0] hp = if ab_iso hp a 3 = true then (K 54 (.ref a :: [w1]) hp).bind (fun o => ab_X rom K cX5_passWord 3 2 13 ls (o.1.toList ++ [v0]) o.2) else none := ay_virtual (as := [w1]) (st := [v0]) dX5_passWord_10 kc_3_64 rfl rfl (Nat.le_of_ble_eq_true rfl)
theorem sX5_passWord_10_2 : ab_X rom K cX5_passWord 3 2 10 ls [w1, .ref a, v0, v1] hp = if ab_iso hp a 3 = true then (K 54 (.ref a :: [w1]) hp).bind (fun o => ab_X rom K cX5_passWord 3 2 13 ls (o.1.toList ++ [v0, v1]) o.2) else none := ay_virtual (as := [w1]) (st := [v0, v1]) dX5_passWord_10 kc_3_64 rfl rfl (Nat.le_of_ble_eq_true rfl)
theorem sX5_passWord_10_3 : ab_X rom K cX5_passWord 3 2 10 ls [w1, .ref a, v0, v1, v2] hp = if ab_iso hp a 3 = true then (K 54 (.ref a :: [w1]) hp).bind (fun o => ab_X rom K cX5_passWord 3 2 13 ls (o.1.toList ++ [v0, v1, v2]) o.2) else none := ay_virtual (as := [w1]) (st := [v0, v1, v2]) dX5_passWord_10 kc_3_64 rfl rfl (Nat.le_of_ble_eq_true rfl)
theorem dX5_passWord_13 : decode cX5_passWord 13 = .ok (.ifCond .ne 9, 3) := by decide +kernel
theorem sX5_passWord_13 : ab_X rom K cX5_passWord 3 2 13 ls (.int x :: st) hp = if x = 0 then ab_X rom K cX5_passWord 3 2 16 ls st hp else ab_X rom K cX5_passWord 3 2 22 ls st hp := ax_if_ne dX5_passWord_13 (by decide) rfl
theorem dX5_passWord_16 : decode cX5_passWord 16 = .ok (.aload_n 0, 1) := by decide +kernel
theorem sX5_passWord_16 : ab_X rom K cX5_passWord 3 2 16 (.ref a :: ls) st hp = ab_X rom K cX5_passWord 3 2 17 (.ref a :: ls) (.ref a :: st) hp := ax_aload_n dX5_passWord_16 rfl rfl
theorem dX5_passWord_17 : decode cX5_passWord 17 = .ok (.iconst 1, 1) := by decide +kernel
theorem sX5_passWord_17 : ab_X rom K cX5_passWord 3 2 17 ls st hp = ab_X rom K cX5_passWord 3 2 18 ls (.int 1 :: st) hp := ax_iconst dX5_passWord_17 (by decide) rfl
theorem dX5_passWord_18 : decode cX5_passWord 18 = .ok (.invokevirtual 61, 3) := by decide +kernel
theorem sX5_passWord_18_0 : ab_X rom K cX5_passWord 3 2 18 ls [w1, .ref a] hp = if ab_iso hp a 3 = true then (K 52 (.ref a :: [w1]) hp).bind (fun o => ab_X rom K cX5_passWord 3 2 21 ls (o.1.toList ++ []) o.2) else none := ay_virtual (as := [w1]) (st := []) dX5_passWord_18 kc_3_61 rfl rfl (Nat.le_of_ble_eq_true rfl)
theorem sX5_passWord_18_1 : ab_X rom K cX5_passWord 3 2 18 ls [w1, .ref a, v0] hp = if ab_iso hp a 3 = true then (K 52 (.ref a :: [w1]) hp).bind (fun o => ab_X rom K cX5_passWord 3 2 21 ls (o.1.toList ++ [v0]) o.2) else none := ay_virtual (as := [w1]) (st := [v0]) dX5_passWord_18 kc_3_61 rfl rfl (Nat.le_of_ble_eq_true rfl)
theorem sX5_passWord_18_2 : ab_X rom K cX5_passWord 3 2 18 ls [w1, .ref a, v0, v1] hp = if ab_iso hp a 3 = true then (K 52 (.ref a :: [w1]) hp).bind (fun o => ab_X rom K cX5_passWord 3 2 21 ls (o.1.toList ++ [v0, v1]) o.2) else none := ay_virtual (as := [w1]) (st := [v0, v1]) dX5_passWord_18 kc_3_61 rfl rfl (Nat.le_of_ble_eq_true rfl)
theorem sX5_passWord_18_3 : ab_X rom K cX5_passWord 3 2 18 ls [w1, .ref a, v0, v1, v2] hp = if ab_iso hp a 3 = true then (K 52 (.ref a :: [w1]) hp).bind (fun o => ab_X rom K cX5_passWord 3 2 21 ls (o.1.toList ++ [v0, v1, v2]) o.2) else none := ay_virtual (as := [w1]) (st := [v0, v1, v2]) dX5_passWord_18 kc_3_61 rfl rfl (Nat.le_of_ble_eq_true rfl)
theorem dX5_passWord_21 : decode cX5_passWord 21 = .ok (.ireturn, 1) := by decide +kernel
theorem sX5_passWord_21 : ab_X rom K cX5_passWord 3 2 21 ls [.int x] hp = if x = 0 ∨ x = 1 then some (some (.int x), hp) else none := ay_zret dX5_passWord_21 rfl
theorem dX5_passWord_22 : decode cX5_passWord 22 = .ok (.aload_n 0, 1) := by decide +kernel
theorem sX5_passWord_22 : ab_X rom K cX5_passWord 3 2 22 (.ref a :: ls) st hp = ab_X rom K cX5_passWord 3 2 23 (.ref a :: ls) (.ref a :: st) hp := ax_aload_n dX5_passWord_22 rfl rfl
theorem dX5_passWord_23 : decode cX5_passWord 23 = .ok (.invokevirtual 44, 3) := by decide +kernel
theorem sX5_passWord_23_0 : ab_X rom K cX5_passWord 3 2 23 ls [.ref a] hp = if ab_iso hp a 3 = true then (K 39 (.ref a :: []) hp).bind (fun o => ab_X rom K cX5_passWord 3 2 26 ls (o.1.toList ++ []) o.2) else none := ay_virtual (as := []) (st := []) dX5_passWord_23 kc_3_44 rfl rfl (Nat.le_of_ble_eq_true rfl)
theorem sX5_passWord_23_1 : ab_X rom K cX5_passWord 3 2 23 ls [.ref a, v0] hp = if ab_iso hp a 3 = true then (K 39 (.ref a :: []) hp).bind (fun o => ab_X rom K cX5_passWord 3 2 26 ls (o.1.toList ++ [v0]) o.2) else none := ay_virtual (as := []) (st := [v0]) dX5_passWord_23 kc_3_44 rfl rfl (Nat.le_of_ble_eq_true rfl)
theorem sX5_passWord_23_2 : ab_X rom K cX5_passWord 3 2 23 ls [.ref a, v0, v1] hp = if ab_iso hp a 3 = true then (K 39 (.ref a :: []) hp).bind (fun o => ab_X rom K cX5_passWord 3 2 26 ls (o.1.toList ++ [v0, v1]) o.2) else none := ay_virtual (as := []) (st := [v0, v1]) dX5_passWord_23 kc_3_44 rfl rfl (Nat.le_of_ble_eq_true rfl)
theorem sX5_passWord_23_3 : ab_X rom K cX5_passWord 3 2 23 ls [.ref a, v0, v1, v2] hp = if ab_iso hp a 3 = true then (K 39 (.ref a :: []) hp).bind (fun o => ab_X rom K cX5_passWord 3 2 26 ls (o.1.toList ++ [v0, v1, v2]) o.2) else none := ay_virtual (as := []) (st := [v0, v1, v2]) dX5_passWord_23 kc_3_44 rfl rfl (Nat.le_of_ble_eq_true rfl)
theorem dX5_passWord_26 : decode cX5_passWord 26 = .ok (.iconst 1, 1) := by decide +kernel
theorem sX5_passWord_26 : ab_X rom K cX5_passWord 3 2 26 ls st hp = ab_X rom K cX5_passWord 3 2 27 ls (.int 1 :: st) hp := ax_iconst dX5_passWord_26 (by decide) rfl
theorem dX5_passWord_27 : decode cX5_passWord 27 = .ok (.ireturn, 1) := by decide +kernel
theorem sX5_passWord_27 : ab_X rom K cX5_passWord 3 2 27 ls [.int x] hp = if x = 0 ∨ x = 1 then some (some (.int x), hp) else none := ay_zret dX5_passWord_27 rfl
theorem tX5_readHead : ab_mT[46]? = some (yX5_readHead, cX5_readHead, 1, 2, 3) := by decide +kernel
theorem mX5_readHead {d : Nat} {a0 : Nat} : ab_M rom (d + 1) 46 [.ref a0] hp = ab_X rom (ab_M rom d) cX5_readHead 3 2 0 [.ref a0] [] hp := ab_M_eq tX5_readHead (Nat.le_of_ble_eq_true rfl)
theorem dX5_readHead_0 : decode cX5_readHead 0 = .ok (.aload_n 0, 1) := by decide +kernel
theorem sX5_readHead_0 : ab_X rom K cX5_readHead 3 2 0 (.ref a :: ls) st hp = ab_X rom K cX5_readHead 3 2 1 (.ref a :: ls) (.ref a :: st) hp := ax_aload_n dX5_readHead_0 rfl rfl
theorem dX5_readHead_1 : decode cX5_readHead 1 = .ok (.ldc 68, 2) := by decide +kernel
theorem sX5_readHead_1 : ab_X rom K cX5_readHead 3 2 1 ls st hp = ab_X rom K cX5_readHead 3 2 3 ls (.ref (ab_RO + 6) :: st) hp := ax_ldcs dX5_readHead_1 kz_3_68 kr_3_68 rfl
theorem dX5_readHead_3 : decode cX5_readHead 3 = .ok (.invokevirtual 69, 3) := by decide +kernel
theorem sX5_readHead_3_0 : ab_X rom K cX5_readHead 3 2 3 ls [w1, .ref a] hp = if ab_iso hp a 3 = true then (K 45 (.ref a :: [w1]) hp).bind (fun o => ab_X rom K cX5_readHead 3 2 6 ls (o.1.toList ++ []) o.2) else none := ay_virtual (as := [w1]) (st := []) dX5_readHead_3 kc_3_69 rfl rfl (Nat.le_of_ble_eq_true rfl)
theorem sX5_readHead_3_1 : ab_X rom K cX5_readHead 3 2 3 ls [w1, .ref a, v0] hp = if ab_iso hp a 3 = true then (K 45 (.ref a :: [w1]) hp).bind (fun o => ab_X rom K cX5_readHead 3 2 6 ls (o.1.toList ++ [v0]) o.2) else none := ay_virtual (as := [w1]) (st := [v0]) dX5_readHead_3 kc_3_69 rfl rfl (Nat.le_of_ble_eq_true rfl)
theorem sX5_readHead_3_2 : ab_X rom K cX5_readHead 3 2 3 ls [w1, .ref a, v0, v1] hp = if ab_iso hp a 3 = true then (K 45 (.ref a :: [w1]) hp).bind (fun o => ab_X rom K cX5_readHead 3 2 6 ls (o.1.toList ++ [v0, v1]) o.2) else none := ay_virtual (as := [w1]) (st := [v0, v1]) dX5_readHead_3 kc_3_69 rfl rfl (Nat.le_of_ble_eq_true rfl)
theorem sX5_readHead_3_3 : ab_X rom K cX5_readHead 3 2 3 ls [w1, .ref a, v0, v1, v2] hp = if ab_iso hp a 3 = true then (K 45 (.ref a :: [w1]) hp).bind (fun o => ab_X rom K cX5_readHead 3 2 6 ls (o.1.toList ++ [v0, v1, v2]) o.2) else none := ay_virtual (as := [w1]) (st := [v0, v1, v2]) dX5_readHead_3 kc_3_69 rfl rfl (Nat.le_of_ble_eq_true rfl)
theorem dX5_readHead_6 : decode cX5_readHead 6 = .ok (.ifCond .ne 5, 3) := by decide +kernel
theorem sX5_readHead_6 : ab_X rom K cX5_readHead 3 2 6 ls (.int x :: st) hp = if x = 0 then ab_X rom K cX5_readHead 3 2 9 ls st hp else ab_X rom K cX5_readHead 3 2 11 ls st hp := ax_if_ne dX5_readHead_6 (by decide) rfl
theorem dX5_readHead_9 : decode cX5_readHead 9 = .ok (.iconst 0, 1) := by decide +kernel
theorem sX5_readHead_9 : ab_X rom K cX5_readHead 3 2 9 ls st hp = ab_X rom K cX5_readHead 3 2 10 ls (.int 0 :: st) hp := ax_iconst dX5_readHead_9 (by decide) rfl
theorem dX5_readHead_10 : decode cX5_readHead 10 = .ok (.ireturn, 1) := by decide +kernel
theorem sX5_readHead_10 : ab_X rom K cX5_readHead 3 2 10 ls [.int x] hp = if x = 0 ∨ x = 1 then some (some (.int x), hp) else none := ay_zret dX5_readHead_10 rfl
theorem dX5_readHead_11 : decode cX5_readHead 11 = .ok (.aload_n 0, 1) := by decide +kernel
theorem sX5_readHead_11 : ab_X rom K cX5_readHead 3 2 11 (.ref a :: ls) st hp = ab_X rom K cX5_readHead 3 2 12 (.ref a :: ls) (.ref a :: st) hp := ax_aload_n dX5_readHead_11 rfl rfl
theorem dX5_readHead_12 : decode cX5_readHead 12 = .ok (.getfield 24, 3) := by decide +kernel
theorem sX5_readHead_12 : ab_X rom K cX5_readHead 3 2 12 ls (.ref a :: st) hp = (ab_fld hp a 3 6).bind (fun v => ab_X rom K cX5_readHead 3 2 15 ls (v :: st) hp) := ax_getfield dX5_readHead_12 kf_3_24 rfl
theorem dX5_readHead_15 : decode cX5_readHead 15 = .ok (.iconst 2, 1) := by decide +kernel
theorem sX5_readHead_15 : ab_X rom K cX5_readHead 3 2 15 ls st hp = ab_X rom K cX5_readHead 3 2 16 ls (.int 2 :: st) hp := ax_iconst dX5_readHead_15 (by decide) rfl
theorem dX5_readHead_16 : decode cX5_readHead 16 = .ok (.if_icmp .eq 9, 3) := by decide +kernel
theorem sX5_readHead_16 : ab_X rom K cX5_readHead 3 2 16 ls (.int y :: .int x :: st) hp = if x = y then ab_X rom K cX5_readHead 3 2 25 ls st hp else ab_X rom K cX5_readHead 3 2 19 ls st hp := ax_icmp_eq dX5_readHead_16 (by decide) rfl
theorem dX5_readHead_19 : decode cX5_readHead 19 = .ok (.aload_n 0, 1) := by decide +kernel
theorem sX5_readHead_19 : ab_X rom K cX5_readHead 3 2 19 (.ref a :: ls) st hp = ab_X rom K cX5_readHead 3 2 20 (.ref a :: ls) (.ref a :: st) hp := ax_aload_n dX5_readHead_19 rfl rfl
theorem dX5_readHead_20 : decode cX5_readHead 20 = .ok (.iconst 1, 1) := by decide +kernel
theorem sX5_readHead_20 : ab_X rom K cX5_readHead 3 2 20 ls st hp = ab_X rom K cX5_readHead 3 2 21 ls (.int 1 :: st) hp := ax_iconst dX5_readHead_20 (by decide) rfl
theorem dX5_readHead_21 : decode cX5_readHead 21 = .ok (.invokevirtual 61, 3) := by decide +kernel
theorem sX5_readHead_21_0 : ab_X rom K cX5_readHead 3 2 21 ls [w1, .ref a] hp = if ab_iso hp a 3 = true then (K 52 (.ref a :: [w1]) hp).bind (fun o => ab_X rom K cX5_readHead 3 2 24 ls (o.1.toList ++ []) o.2) else none := ay_virtual (as := [w1]) (st := []) dX5_readHead_21 kc_3_61 rfl rfl (Nat.le_of_ble_eq_true rfl)
theorem sX5_readHead_21_1 : ab_X rom K cX5_readHead 3 2 21 ls [w1, .ref a, v0] hp = if ab_iso hp a 3 = true then (K 52 (.ref a :: [w1]) hp).bind (fun o => ab_X rom K cX5_readHead 3 2 24 ls (o.1.toList ++ [v0]) o.2) else none := ay_virtual (as := [w1]) (st := [v0]) dX5_readHead_21 kc_3_61 rfl rfl (Nat.le_of_ble_eq_true rfl)
theorem sX5_readHead_21_2 : ab_X rom K cX5_readHead 3 2 21 ls [w1, .ref a, v0, v1] hp = if ab_iso hp a 3 = true then (K 52 (.ref a :: [w1]) hp).bind (fun o => ab_X rom K cX5_readHead 3 2 24 ls (o.1.toList ++ [v0, v1]) o.2) else none := ay_virtual (as := [w1]) (st := [v0, v1]) dX5_readHead_21 kc_3_61 rfl rfl (Nat.le_of_ble_eq_true rfl)
theorem sX5_readHead_21_3 : ab_X rom K cX5_readHead 3 2 21 ls [w1, .ref a, v0, v1, v2] hp = if ab_iso hp a 3 = true then (K 52 (.ref a :: [w1]) hp).bind (fun o => ab_X rom K cX5_readHead 3 2 24 ls (o.1.toList ++ [v0, v1, v2]) o.2) else none := ay_virtual (as := [w1]) (st := [v0, v1, v2]) dX5_readHead_21 kc_3_61 rfl rfl (Nat.le_of_ble_eq_true rfl)
theorem dX5_readHead_24 : decode cX5_readHead 24 = .ok (.ireturn, 1) := by decide +kernel
theorem sX5_readHead_24 : ab_X rom K cX5_readHead 3 2 24 ls [.int x] hp = if x = 0 ∨ x = 1 then some (some (.int x), hp) else none := ay_zret dX5_readHead_24 rfl
theorem dX5_readHead_25 : decode cX5_readHead 25 = .ok (.aload_n 0, 1) := by decide +kernel
theorem sX5_readHead_25 : ab_X rom K cX5_readHead 3 2 25 (.ref a :: ls) st hp = ab_X rom K cX5_readHead 3 2 26 (.ref a :: ls) (.ref a :: st) hp := ax_aload_n dX5_readHead_25 rfl rfl
theorem dX5_readHead_26 : decode cX5_readHead 26 = .ok (.getfield 27, 3) := by decide +kernel
theorem sX5_readHead_26 : ab_X rom K cX5_readHead 3 2 26 ls (.ref a :: st) hp = (ab_fld hp a 3 7).bind (fun v => ab_X rom K cX5_readHead 3 2 29 ls (v :: st) hp) := ax_getfield dX5_readHead_26 kf_3_27 rfl
theorem dX5_readHead_29 : decode cX5_readHead 29 = .ok (.iconst 1, 1) := by decide +kernel
theorem sX5_readHead_29 : ab_X rom K cX5_readHead 3 2 29 ls st hp = ab_X rom K cX5_readHead 3 2 30 ls (.int 1 :: st) hp := ax_iconst dX5_readHead_29 (by decide) rfl
theorem dX5_readHead_30 : decode cX5_readHead 30 = .ok (.if_icmp .lt 12, 3) := by decide +kernel
theorem sX5_readHead_30 : ab_X rom K cX5_readHead 3 2 30 ls (.int y :: .int x :: st) hp = if x < y then ab_X rom K cX5_readHead 3 2 42 ls st hp else ab_X rom K cX5_readHead 3 2 33 ls st hp := ax_icmp_lt dX5_readHead_30 (by decide) rfl
theorem dX5_readHead_33 : decode cX5_readHead 33 = .ok (.aload_n 0, 1) := by decide +kernel
theorem sX5_readHead_33 : ab_X rom K cX5_readHead 3 2 33 (.ref a :: ls) st hp = ab_X rom K cX5_readHead 3 2 34 (.ref a :: ls) (.ref a :: st) hp := ax_aload_n dX5_readHead_33 rfl rfl
theorem dX5_readHead_34 : decode cX5_readHead 34 = .ok (.getfield 27, 3) := by decide +kernel
theorem sX5_readHead_34 : ab_X rom K cX5_readHead 3 2 34 ls (.ref a :: st) hp = (ab_fld hp a 3 7).bind (fun v => ab_X rom K cX5_readHead 3 2 37 ls (v :: st) hp) := ax_getfield dX5_readHead_34 kf_3_27 rfl
theorem dX5_readHead_37 : decode cX5_readHead 37 = .ok (.bipush 7, 2) := by decide +kernel
theorem sX5_readHead_37 : ab_X rom K cX5_readHead 3 2 37 ls st hp = ab_X rom K cX5_readHead 3 2 39 ls (.int 7 :: st) hp := ax_bipush dX5_readHead_37 (by decide) rfl
theorem dX5_readHead_39 : decode cX5_readHead 39 = .ok (.if_icmp .le 9, 3) := by decide +kernel
theorem sX5_readHead_39 : ab_X rom K cX5_readHead 3 2 39 ls (.int y :: .int x :: st) hp = if y < x then ab_X rom K cX5_readHead 3 2 42 ls st hp else ab_X rom K cX5_readHead 3 2 48 ls st hp := ax_icmp_le dX5_readHead_39 (by decide) rfl
theorem dX5_readHead_42 : decode cX5_readHead 42 = .ok (.aload_n 0, 1) := by decide +kernel
theorem sX5_readHead_42 : ab_X rom K cX5_readHead 3 2 42 (.ref a :: ls) st hp = ab_X rom K cX5_readHead 3 2 43 (.ref a :: ls) (.ref a :: st) hp := ax_aload_n dX5_readHead_42 rfl rfl
theorem dX5_readHead_43 : decode cX5_readHead 43 = .ok (.iconst 2, 1) := by decide +kernel
theorem sX5_readHead_43 : ab_X rom K cX5_readHead 3 2 43 ls st hp = ab_X rom K cX5_readHead 3 2 44 ls (.int 2 :: st) hp := ax_iconst dX5_readHead_43 (by decide) rfl
theorem dX5_readHead_44 : decode cX5_readHead 44 = .ok (.invokevirtual 61, 3) := by decide +kernel
theorem sX5_readHead_44_0 : ab_X rom K cX5_readHead 3 2 44 ls [w1, .ref a] hp = if ab_iso hp a 3 = true then (K 52 (.ref a :: [w1]) hp).bind (fun o => ab_X rom K cX5_readHead 3 2 47 ls (o.1.toList ++ []) o.2) else none := ay_virtual (as := [w1]) (st := []) dX5_readHead_44 kc_3_61 rfl rfl (Nat.le_of_ble_eq_true rfl)
theorem sX5_readHead_44_1 : ab_X rom K cX5_readHead 3 2 44 ls [w1, .ref a, v0] hp = if ab_iso hp a 3 = true then (K 52 (.ref a :: [w1]) hp).bind (fun o => ab_X rom K cX5_readHead 3 2 47 ls (o.1.toList ++ [v0]) o.2) else none := ay_virtual (as := [w1]) (st := [v0]) dX5_readHead_44 kc_3_61 rfl rfl (Nat.le_of_ble_eq_true rfl)
theorem sX5_readHead_44_2 : ab_X rom K cX5_readHead 3 2 44 ls [w1, .ref a, v0, v1] hp = if ab_iso hp a 3 = true then (K 52 (.ref a :: [w1]) hp).bind (fun o => ab_X rom K cX5_readHead 3 2 47 ls (o.1.toList ++ [v0, v1]) o.2) else none := ay_virtual (as := [w1]) (st := [v0, v1]) dX5_readHead_44 kc_3_61 rfl rfl (Nat.le_of_ble_eq_true rfl)
theorem sX5_readHead_44_3 : ab_X rom K cX5_readHead 3 2 44 ls [w1, .ref a, v0, v1, v2] hp = if ab_iso hp a 3 = true then (K 52 (.ref a :: [w1]) hp).bind (fun o => ab_X rom K cX5_readHead 3 2 47 ls (o.1.toList ++ [v0, v1, v2]) o.2) else none := ay_virtual (as := [w1]) (st := [v0, v1, v2]) dX5_readHead_44 kc_3_61 rfl rfl (Nat.le_of_ble_eq_true rfl)
theorem dX5_readHead_47 : decode cX5_readHead 47 = .ok (.ireturn, 1) := by decide +kernel
theorem sX5_readHead_47 : ab_X rom K cX5_readHead 3 2 47 ls [.int x] hp = if x = 0 ∨ x = 1 then some (some (.int x), hp) else none := ay_zret dX5_readHead_47 rfl
theorem dX5_readHead_48 : decode cX5_readHead 48 = .ok (.aload_n 0, 1) := by decide +kernel
theorem sX5_readHead_48 : ab_X rom K cX5_readHead 3 2 48 (.ref a :: ls) st hp = ab_X rom K cX5_readHead 3 2 49 (.ref a :: ls) (.ref a :: st) hp := ax_aload_n dX5_readHead_48 rfl rfl
theorem dX5_readHead_49 : decode cX5_readHead 49 = .ok (.getfield 34, 3) := by decide +kernel
theorem sX5_readHead_49 : ab_X rom K cX5_readHead 3 2 49 ls (.ref a :: st) hp = (ab_fld hp a 3 3).bind (fun v => ab_X rom K cX5_readHead 3 2 52 ls (v :: st) hp) := ax_getfield dX5_readHead_49 kf_3_34 rfl
theorem dX5_readHead_52 : decode cX5_readHead 52 = .ok (.aload_n 0, 1) := by decide +kernel
theorem sX5_readHead_52 : ab_X rom K cX5_readHead 3 2 52 (.ref a :: ls) st hp = ab_X rom K cX5_readHead 3 2 53 (.ref a :: ls) (.ref a :: st) hp := ax_aload_n dX5_readHead_52 rfl rfl
theorem dX5_readHead_53 : decode cX5_readHead 53 = .ok (.getfield 27, 3) := by decide +kernel
theorem sX5_readHead_53 : ab_X rom K cX5_readHead 3 2 53 ls (.ref a :: st) hp = (ab_fld hp a 3 7).bind (fun v => ab_X rom K cX5_readHead 3 2 56 ls (v :: st) hp) := ax_getfield dX5_readHead_53 kf_3_27 rfl
theorem dX5_readHead_56 : decode cX5_readHead 56 = .ok (.invokevirtual 38, 3) := by decide +kernel
theorem sX5_readHead_56_0 : ab_X rom K cX5_readHead 3 2 56 ls [w1, .ref a] hp = if ab_iso hp a 1 = true then (K 15 (.ref a :: [w1]) hp).bind (fun o => ab_X rom K cX5_readHead 3 2 59 ls (o.1.toList ++ []) o.2) else none := ay_virtual (as := [w1]) (st := []) dX5_readHead_56 kc_3_38 rfl rfl (Nat.le_of_ble_eq_true rfl)
theorem sX5_readHead_56_1 : ab_X rom K cX5_readHead 3 2 56 ls [w1, .ref a, v0] hp = if ab_iso hp a 1 = true then (K 15 (.ref a :: [w1]) hp).bind (fun o => ab_X rom K cX5_readHead 3 2 59 ls (o.1.toList ++ [v0]) o.2) else none := ay_virtual (as := [w1]) (st := [v0]) dX5_readHead_56 kc_3_38 rfl rfl (Nat.le_of_ble_eq_true rfl)
theorem sX5_readHead_56_2 : ab_X rom K cX5_readHead 3 2 56 ls [w1, .ref a, v0, v1] hp = if ab_iso hp a 1 = true then (K 15 (.ref a :: [w1]) hp).bind (fun o => ab_X rom K cX5_readHead 3 2 59 ls (o.1.toList ++ [v0, v1]) o.2) else none := ay_virtual (as := [w1]) (st := [v0, v1]) dX5_readHead_56 kc_3_38 rfl rfl (Nat.le_of_ble_eq_true rfl)
theorem sX5_readHead_56_3 : ab_X rom K cX5_readHead 3 2 56 ls [w1, .ref a, v0, v1, v2] hp = if ab_iso hp a 1 = true then (K 15 (.ref a :: [w1]) hp).bind (fun o => ab_X rom K cX5_readHead 3 2 59 ls (o.1.toList ++ [v0, v1, v2]) o.2) else none := ay_virtual (as := [w1]) (st := [v0, v1, v2]) dX5_readHead_56 kc_3_38 rfl rfl (Nat.le_of_ble_eq_true rfl)
theorem dX5_readHead_59 : decode cX5_readHead 59 = .ok (.aload_n 0, 1) := by decide +kernel
theorem sX5_readHead_59 : ab_X rom K cX5_readHead 3 2 59 (.ref a :: ls) st hp = ab_X rom K cX5_readHead 3 2 60 (.ref a :: ls) (.ref a :: st) hp := ax_aload_n dX5_readHead_59 rfl rfl
theorem dX5_readHead_60 : decode cX5_readHead 60 = .ok (.invokevirtual 44, 3) := by decide +kernel
theorem sX5_readHead_60_0 : ab_X rom K cX5_readHead 3 2 60 ls [.ref a] hp = if ab_iso hp a 3 = true then (K 39 (.ref a :: []) hp).bind (fun o => ab_X rom K cX5_readHead 3 2 63 ls (o.1.toList ++ []) o.2) else none := ay_virtual (as := []) (st := []) dX5_readHead_60 kc_3_44 rfl rfl (Nat.le_of_ble_eq_true rfl)
theorem sX5_readHead_60_1 : ab_X rom K cX5_readHead 3 2 60 ls [.ref a, v0] hp = if ab_iso hp a 3 = true then (K 39 (.ref a :: []) hp).bind (fun o => ab_X rom K cX5_readHead 3 2 63 ls (o.1.toList ++ [v0]) o.2) else none := ay_virtual (as := []) (st := [v0]) dX5_readHead_60 kc_3_44 rfl rfl (Nat.le_of_ble_eq_true rfl)
theorem sX5_readHead_60_2 : ab_X rom K cX5_readHead 3 2 60 ls [.ref a, v0, v1] hp = if ab_iso hp a 3 = true then (K 39 (.ref a :: []) hp).bind (fun o => ab_X rom K cX5_readHead 3 2 63 ls (o.1.toList ++ [v0, v1]) o.2) else none := ay_virtual (as := []) (st := [v0, v1]) dX5_readHead_60 kc_3_44 rfl rfl (Nat.le_of_ble_eq_true rfl)
theorem sX5_readHead_60_3 : ab_X rom K cX5_readHead 3 2 60 ls [.ref a, v0, v1, v2] hp = if ab_iso hp a 3 = true then (K 39 (.ref a :: []) hp).bind (fun o => ab_X rom K cX5_readHead 3 2 63 ls (o.1.toList ++ [v0, v1, v2]) o.2) else none := ay_virtual (as := []) (st := [v0, v1, v2]) dX5_readHead_60 kc_3_44 rfl rfl (Nat.le_of_ble_eq_true rfl)
theorem dX5_readHead_63 : decode cX5_readHead 63 = .ok (.iconst 1, 1) := by decide +kernel
theorem sX5_readHead_63 : ab_X rom K cX5_readHead 3 2 63 ls st hp = ab_X rom K cX5_readHead 3 2 64 ls (.int 1 :: st) hp := ax_iconst dX5_readHead_63 (by decide) rfl
theorem dX5_readHead_64 : decode cX5_readHead 64 = .ok (.ireturn, 1) := by decide +kernel
theorem sX5_readHead_64 : ab_X rom K cX5_readHead 3 2 64 ls [.int x] hp = if x = 0 ∨ x = 1 then some (some (.int x), hp) else none := ay_zret dX5_readHead_64 rfl
theorem tX5_readLabel : ab_mT[47]? = some (yX5_readLabel, cX5_readLabel, 2, 2, 3) := by decide +kernel
theorem mX5_readLabel {d : Nat} {a0 : Nat} : ab_M rom (d + 1) 47 [.ref a0] hp = ab_X rom (ab_M rom d) cX5_readLabel 3 2 0 [.ref a0, .null] [] hp := ab_M_eq tX5_readLabel (Nat.le_of_ble_eq_true rfl)
theorem dX5_readLabel_0 : decode cX5_readLabel 0 = .ok (.aload_n 0, 1) := by decide +kernel
theorem sX5_readLabel_0 : ab_X rom K cX5_readLabel 3 2 0 (.ref a :: ls) st hp = ab_X rom K cX5_readLabel 3 2 1 (.ref a :: ls) (.ref a :: st) hp := ax_aload_n dX5_readLabel_0 rfl rfl
theorem dX5_readLabel_1 : decode cX5_readLabel 1 = .ok (.invokevirtual 78, 3) := by decide +kernel
theorem sX5_readLabel_1_0 : ab_X rom K cX5_readLabel 3 2 1 ls [.ref a] hp = if ab_iso hp a 3 = true then (K 40 (.ref a :: []) hp).bind (fun o => ab_X rom K cX5_readLabel 3 2 4 ls (o.1.toList ++ []) o.2) else none := ay_virtual (as := []) (st := []) dX5_readLabel_1 kc_3_78 rfl rfl (Nat.le_of_ble_eq_true rfl)
theorem sX5_readLabel_1_1 : ab_X rom K cX5_readLabel 3 2 1 ls [.ref a, v0] hp = if ab_iso hp a 3 = true then (K 40 (.ref a :: []) hp).bind (fun o => ab_X rom K cX5_readLabel 3 2 4 ls (o.1.toList ++ [v0]) o.2) else none := ay_virtual (as := []) (st := [v0]) dX5_readLabel_1 kc_3_78 rfl rfl (Nat.le_of_ble_eq_true rfl)
theorem sX5_readLabel_1_2 : ab_X rom K cX5_readLabel 3 2 1 ls [.ref a, v0, v1] hp = if ab_iso hp a 3 = true then (K 40 (.ref a :: []) hp).bind (fun o => ab_X rom K cX5_readLabel 3 2 4 ls (o.1.toList ++ [v0, v1]) o.2) else none := ay_virtual (as := []) (st := [v0, v1]) dX5_readLabel_1 kc_3_78 rfl rfl (Nat.le_of_ble_eq_true rfl)
theorem sX5_readLabel_1_3 : ab_X rom K cX5_readLabel 3 2 1 ls [.ref a, v0, v1, v2] hp = if ab_iso hp a 3 = true then (K 40 (.ref a :: []) hp).bind (fun o => ab_X rom K cX5_readLabel 3 2 4 ls (o.1.toList ++ [v0, v1, v2]) o.2) else none := ay_virtual (as := []) (st := [v0, v1, v2]) dX5_readLabel_1 kc_3_78 rfl rfl (Nat.le_of_ble_eq_true rfl)
theorem dX5_readLabel_4 : decode cX5_readLabel 4 = .ok (.ifCond .ne 5, 3) := by decide +kernel
theorem sX5_readLabel_4 : ab_X rom K cX5_readLabel 3 2 4 ls (.int x :: st) hp = if x = 0 then ab_X rom K cX5_readLabel 3 2 7 ls st hp else ab_X rom K cX5_readLabel 3 2 9 ls st hp := ax_if_ne dX5_readLabel_4 (by decide) rfl
theorem dX5_readLabel_7 : decode cX5_readLabel 7 = .ok (.iconst 0, 1) := by decide +kernel
theorem sX5_readLabel_7 : ab_X rom K cX5_readLabel 3 2 7 ls st hp = ab_X rom K cX5_readLabel 3 2 8 ls (.int 0 :: st) hp := ax_iconst dX5_readLabel_7 (by decide) rfl
theorem dX5_readLabel_8 : decode cX5_readLabel 8 = .ok (.ireturn, 1) := by decide +kernel
theorem sX5_readLabel_8 : ab_X rom K cX5_readLabel 3 2 8 ls [.int x] hp = if x = 0 ∨ x = 1 then some (some (.int x), hp) else none := ay_zret dX5_readLabel_8 rfl
theorem dX5_readLabel_9 : decode cX5_readLabel 9 = .ok (.aload_n 0, 1) := by decide +kernel
theorem sX5_readLabel_9 : ab_X rom K cX5_readLabel 3 2 9 (.ref a :: ls) st hp = ab_X rom K cX5_readLabel 3 2 10 (.ref a :: ls) (.ref a :: st) hp := ax_aload_n dX5_readLabel_9 rfl rfl
theorem dX5_readLabel_10 : decode cX5_readLabel 10 = .ok (.getfield 27, 3) := by decide +kernel
theorem sX5_readLabel_10 : ab_X rom K cX5_readLabel 3 2 10 ls (.ref a :: st) hp = (ab_fld hp a 3 7).bind (fun v => ab_X rom K cX5_readLabel 3 2 13 ls (v :: st) hp) := ax_getfield dX5_readLabel_10 kf_3_27 rfl
theorem dX5_readLabel_13 : decode cX5_readLabel 13 = .ok (.istore_n 1, 1) := by decide +kernel
theorem sX5_readLabel_13i : ab_X rom K cX5_readLabel 3 2 13 (.int y :: v1 :: ls) (.int x :: st) hp = ab_X rom K cX5_readLabel 3 2 14 (.int y :: .int x :: ls) st hp := ax_istore_n dX5_readLabel_13 (ax_lt (v := v1) rfl) (ab_nl_c1 (j := 0) (v := .int y) rfl (ab_c1_int _)) rfl rfl
theorem sX5_readLabel_13r : ab_X rom K cX5_readLabel 3 2 13 (.ref a2 :: v1 :: ls) (.int x :: st) hp = ab_X rom K cX5_readLabel 3 2 14 (.ref a2 :: .int x :: ls) st hp := ax_istore_n dX5_readLabel_13 (ax_lt (v := v1) rfl) (ab_nl_c1 (j := 0) (v := .ref a2) rfl (ab_c1_ref _)) rfl rfl
theorem sX5_readLabel_13n : ab_X rom K cX5_readLabel 3 2 13 (.null :: v1 :: ls) (.int x :: st) hp = ab_X rom K cX5_readLabel 3 2 14 (.null :: .int x :: ls) st hp := ax_istore_n dX5_readLabel_13 (ax_lt (v := v1) rfl) (ab_nl_c1 (j := 0) (v := .null) rfl ab_c1_null) rfl rfl
theorem dX5_readLabel_14 : decode cX5_readLabel 14 = .ok (.aload_n 0, 1) := by decide +kernel
theorem sX5_readLabel_14 : ab_X rom K cX5_readLabel 3 2 14 (.ref a :: ls) st hp = ab_X rom K cX5_readLabel 3 2 15 (.ref a :: ls) (.ref a :: st) hp := ax_aload_n dX5_readLabel_14 rfl rfl
theorem dX5_readLabel_15 : decode cX5_readLabel 15 = .ok (.getfield 34, 3) := by decide +kernel
theorem sX5_readLabel_15 : ab_X rom K cX5_readLabel 3 2 15 ls (.ref a :: st) hp = (ab_fld hp a 3 3).bind (fun v => ab_X rom K cX5_readLabel 3 2 18 ls (v :: st) hp) := ax_getfield dX5_readLabel_15 kf_3_34 rfl
theorem dX5_readLabel_18 : decode cX5_readLabel 18 = .ok (.getfield 97, 3) := by decide +kernel
theorem sX5_readLabel_18 : ab_X rom K cX5_readLabel 3 2 18 ls (.ref a :: st) hp = (ab_fld hp a 1 4).bind (fun v => ab_X rom K cX5_readLabel 3 2 21 ls (v :: st) hp) := ax_getfield dX5_readLabel_18 kf_3_97 rfl
theorem dX5_readLabel_21 : decode cX5_readLabel 21 = .ok (.iload_n 1, 1) := by decide +kernel
theorem sX5_readLabel_21 : ab_X rom K cX5_readLabel 3 2 21 (v0 :: .int x :: ls) st hp = ab_X rom K cX5_readLabel 3 2 22 (v0 :: .int x :: ls) (.int x :: st) hp := ax_iload_n dX5_readLabel_21 rfl rfl
theorem dX5_readLabel_22 : decode cX5_readLabel 22 = .ok (.iaload, 1) := by decide +kernel
theorem sX5_readLabel_22 : ab_X rom K cX5_readLabel 3 2 22 ls (.int x :: .ref a :: st) hp = (ab_ard rom 0 hp a x).bind (fun v => ab_X rom K cX5_readLabel 3 2 23 ls (.int v :: st) hp) := ax_iaload dX5_readLabel_22 rfl
theorem dX5_readLabel_23 : decode cX5_readLabel 23 = .ok (.iconst (-1), 1) := by decide +kernel
theorem sX5_readLabel_23 : ab_X rom K cX5_readLabel 3 2 23 ls st hp = ab_X rom K cX5_readLabel 3 2 24 ls (.int (-1) :: st) hp := ax_iconst dX5_readLabel_23 (by decide) rfl
theorem dX5_readLabel_24 : decode cX5_readLabel 24 = .ok (.if_icmp .eq 9, 3) := by decide +kernel
theorem sX5_readLabel_24 : ab_X rom K cX5_readLabel 3 2 24 ls (.int y :: .int x :: st) hp = if x = y then ab_X rom K cX5_readLabel 3 2 33 ls st hp else ab_X rom K cX5_readLabel 3 2 27 ls st hp := ax_icmp_eq dX5_readLabel_24 (by decide) rfl
theorem dX5_readLabel_27 : decode cX5_readLabel 27 = .ok (.aload_n 0, 1) := by decide +kernel
theorem sX5_readLabel_27 : ab_X rom K cX5_readLabel 3 2 27 (.ref a :: ls) st hp = ab_X rom K cX5_readLabel 3 2 28 (.ref a :: ls) (.ref a :: st) hp := ax_aload_n dX5_readLabel_27 rfl rfl
theorem dX5_readLabel_28 : decode cX5_readLabel 28 = .ok (.iconst 3, 1) := by decide +kernel
theorem sX5_readLabel_28 : ab_X rom K cX5_readLabel 3 2 28 ls st hp = ab_X rom K cX5_readLabel 3 2 29 ls (.int 3 :: st) hp := ax_iconst dX5_readLabel_28 (by decide) rfl
theorem dX5_readLabel_29 : decode cX5_readLabel 29 = .ok (.invokevirtual 61, 3) := by decide +kernel
theorem sX5_readLabel_29_0 : ab_X rom K cX5_readLabel 3 2 29 ls [w1, .ref a] hp = if ab_iso hp a 3 = true then (K 52 (.ref a :: [w1]) hp).bind (fun o => ab_X rom K cX5_readLabel 3 2 32 ls (o.1.toList ++ []) o.2) else none := ay_virtual (as := [w1]) (st := []) dX5_readLabel_29 kc_3_61 rfl rfl (Nat.le_of_ble_eq_true rfl)
theorem sX5_readLabel_29_1 : ab_X rom K cX5_readLabel 3 2 29 ls [w1, .ref a, v0] hp = if ab_iso hp a 3 = true then (K 52 (.ref a :: [w1]) hp).bind (fun o => ab_X rom K cX5_readLabel 3 2 32 ls (o.1.toList ++ [v0]) o.2) else none := ay_virtual (as := [w1]) (st := [v0]) dX5_readLabel_29 kc_3_61 rfl rfl (Nat.le_of_ble_eq_true rfl)
theorem sX5_readLabel_29_2 : ab_X rom K cX5_readLabel 3 2 29 ls [w1, .ref a, v0, v1] hp = if ab_iso hp a 3 = true then (K 52 (.ref a :: [w1]) hp).bind (fun o => ab_X rom K cX5_readLabel 3 2 32 ls (o.1.toList ++ [v0, v1]) o.2) else none := ay_virtual (as := [w1]) (st := [v0, v1]) dX5_readLabel_29 kc_3_61 rfl rfl (Nat.le_of_ble_eq_true rfl)
theorem sX5_readLabel_29_3 : ab_X rom K cX5_readLabel 3 2 29 ls [w1, .ref a, v0, v1, v2] hp = if ab_iso hp a 3 = true then (K 52 (.ref a :: [w1]) hp).bind (fun o => ab_X rom K cX5_readLabel 3 2 32 ls (o.1.toList ++ [v0, v1, v2]) o.2) else none := ay_virtual (as := [w1]) (st := [v0, v1, v2]) dX5_readLabel_29 kc_3_61 rfl rfl (Nat.le_of_ble_eq_true rfl)
theorem dX5_readLabel_32 : decode cX5_readLabel 32 = .ok (.ireturn, 1) := by decide +kernel
theorem sX5_readLabel_32 : ab_X rom K cX5_readLabel 3 2 32 ls [.int x] hp = if x = 0 ∨ x = 1 then some (some (.int x), hp) else none := ay_zret dX5_readLabel_32 rfl
theorem dX5_readLabel_33 : decode cX5_readLabel 33 = .ok (.aload_n 0, 1) := by decide +kernel
theorem sX5_readLabel_33 : ab_X rom K cX5_readLabel 3 2 33 (.ref a :: ls) st hp = ab_X rom K cX5_readLabel 3 2 34 (.ref a :: ls) (.ref a :: st) hp := ax_aload_n dX5_readLabel_33 rfl rfl
theorem dX5_readLabel_34 : decode cX5_readLabel 34 = .ok (.invokevirtual 44, 3) := by decide +kernel
theorem sX5_readLabel_34_0 : ab_X rom K cX5_readLabel 3 2 34 ls [.ref a] hp = if ab_iso hp a 3 = true then (K 39 (.ref a :: []) hp).bind (fun o => ab_X rom K cX5_readLabel 3 2 37 ls (o.1.toList ++ []) o.2) else none := ay_virtual (as := []) (st := []) dX5_readLabel_34 kc_3_44 rfl rfl (Nat.le_of_ble_eq_true rfl)
theorem sX5_readLabel_34_1 : ab_X rom K cX5_readLabel 3 2 34 ls [.ref a, v0] hp = if ab_iso hp a 3 = true then (K 39 (.ref a :: []) hp).bind (fun o => ab_X rom K cX5_readLabel 3 2 37 ls (o.1.toList ++ [v0]) o.2) else none := ay_virtual (as := []) (st := [v0]) dX5_readLabel_34 kc_3_44 rfl rfl (Nat.le_of_ble_eq_true rfl)
theorem sX5_readLabel_34_2 : ab_X rom K cX5_readLabel 3 2 34 ls [.ref a, v0, v1] hp = if ab_iso hp a 3 = true then (K 39 (.ref a :: []) hp).bind (fun o => ab_X rom K cX5_readLabel 3 2 37 ls (o.1.toList ++ [v0, v1]) o.2) else none := ay_virtual (as := []) (st := [v0, v1]) dX5_readLabel_34 kc_3_44 rfl rfl (Nat.le_of_ble_eq_true rfl)
theorem sX5_readLabel_34_3 : ab_X rom K cX5_readLabel 3 2 34 ls [.ref a, v0, v1, v2] hp = if ab_iso hp a 3 = true then (K 39 (.ref a :: []) hp).bind (fun o => ab_X rom K cX5_readLabel 3 2 37 ls (o.1.toList ++ [v0, v1, v2]) o.2) else none := ay_virtual (as := []) (st := [v0, v1, v2]) dX5_readLabel_34 kc_3_44 rfl rfl (Nat.le_of_ble_eq_true rfl)
theorem dX5_readLabel_37 : decode cX5_readLabel 37 = .ok (.aload_n 0, 1) := by decide +kernel
theorem sX5_readLabel_37 : ab_X rom K cX5_readLabel 3 2 37 (.ref a :: ls) st hp = ab_X rom K cX5_readLabel 3 2 38 (.ref a :: ls) (.ref a :: st) hp := ax_aload_n dX5_readLabel_37 rfl rfl
theorem dX5_readLabel_38 : decode cX5_readLabel 38 = .ok (.bipush 61, 2) := by decide +kernel
theorem sX5_readLabel_38 : ab_X rom K cX5_readLabel 3 2 38 ls st hp = ab_X rom K cX5_readLabel 3 2 40 ls (.int 61 :: st) hp := ax_bipush dX5_readLabel_38 (by decide) rfl
theorem dX5_readLabel_40 : decode cX5_readLabel 40 = .ok (.invokevirtual 75, 3) := by decide +kernel
theorem sX5_readLabel_40_0 : ab_X rom K cX5_readLabel 3 2 40 ls [w1, .ref a] hp = if ab_iso hp a 3 = true then (K 44 (.ref a :: [w1]) hp).bind (fun o => ab_X rom K cX5_readLabel 3 2 43 ls (o.1.toList ++ []) o.2) else none := ay_virtual (as := [w1]) (st := []) dX5_readLabel_40 kc_3_75 rfl rfl (Nat.le_of_ble_eq_true rfl)
theorem sX5_readLabel_40_1 : ab_X rom K cX5_readLabel 3 2 40 ls [w1, .ref a, v0] hp = if ab_iso hp a 3 = true then (K 44 (.ref a :: [w1]) hp).bind (fun o => ab_X rom K cX5_readLabel 3 2 43 ls (o.1.toList ++ [v0]) o.2) else none := ay_virtual (as := [w1]) (st := [v0]) dX5_readLabel_40 kc_3_75 rfl rfl (Nat.le_of_ble_eq_true rfl)
theorem sX5_readLabel_40_2 : ab_X rom K cX5_readLabel 3 2 40 ls [w1, .ref a, v0, v1] hp = if ab_iso hp a 3 = true then (K 44 (.ref a :: [w1]) hp).bind (fun o => ab_X rom K cX5_readLabel 3 2 43 ls (o.1.toList ++ [v0, v1]) o.2) else none := ay_virtual (as := [w1]) (st := [v0, v1]) dX5_readLabel_40 kc_3_75 rfl rfl (Nat.le_of_ble_eq_true rfl)
theorem sX5_readLabel_40_3 : ab_X rom K cX5_readLabel 3 2 40 ls [w1, .ref a, v0, v1, v2] hp = if ab_iso hp a 3 = true then (K 44 (.ref a :: [w1]) hp).bind (fun o => ab_X rom K cX5_readLabel 3 2 43 ls (o.1.toList ++ [v0, v1, v2]) o.2) else none := ay_virtual (as := [w1]) (st := [v0, v1, v2]) dX5_readLabel_40 kc_3_75 rfl rfl (Nat.le_of_ble_eq_true rfl)
theorem dX5_readLabel_43 : decode cX5_readLabel 43 = .ok (.ifCond .ne 5, 3) := by decide +kernel
theorem sX5_readLabel_43 : ab_X rom K cX5_readLabel 3 2 43 ls (.int x :: st) hp = if x = 0 then ab_X rom K cX5_readLabel 3 2 46 ls st hp else ab_X rom K cX5_readLabel 3 2 48 ls st hp := ax_if_ne dX5_readLabel_43 (by decide) rfl
theorem dX5_readLabel_46 : decode cX5_readLabel 46 = .ok (.iconst 0, 1) := by decide +kernel
theorem sX5_readLabel_46 : ab_X rom K cX5_readLabel 3 2 46 ls st hp = ab_X rom K cX5_readLabel 3 2 47 ls (.int 0 :: st) hp := ax_iconst dX5_readLabel_46 (by decide) rfl
theorem dX5_readLabel_47 : decode cX5_readLabel 47 = .ok (.ireturn, 1) := by decide +kernel
theorem sX5_readLabel_47 : ab_X rom K cX5_readLabel 3 2 47 ls [.int x] hp = if x = 0 ∨ x = 1 then some (some (.int x), hp) else none := ay_zret dX5_readLabel_47 rfl
theorem dX5_readLabel_48 : decode cX5_readLabel 48 = .ok (.aload_n 0, 1) := by decide +kernel
theorem sX5_readLabel_48 : ab_X rom K cX5_readLabel 3 2 48 (.ref a :: ls) st hp = ab_X rom K cX5_readLabel 3 2 49 (.ref a :: ls) (.ref a :: st) hp := ax_aload_n dX5_readLabel_48 rfl rfl
theorem dX5_readLabel_49 : decode cX5_readLabel 49 = .ok (.getfield 24, 3) := by decide +kernel
theorem sX5_readLabel_49 : ab_X rom K cX5_readLabel 3 2 49 ls (.ref a :: st) hp = (ab_fld hp a 3 6).bind (fun v => ab_X rom K cX5_readLabel 3 2 52 ls (v :: st) hp) := ax_getfield dX5_readLabel_49 kf_3_24 rfl
theorem dX5_readLabel_52 : decode cX5_readLabel 52 = .ok (.iconst 2, 1) := by decide +kernel
theorem sX5_readLabel_52 : ab_X rom K cX5_readLabel 3 2 52 ls st hp = ab_X rom K cX5_readLabel 3 2 53 ls (.int 2 :: st) hp := ax_iconst dX5_readLabel_52 (by decide) rfl
theorem dX5_readLabel_53 : decode cX5_readLabel 53 = .ok (.if_icmp .eq 9, 3) := by decide +kernel
theorem sX5_readLabel_53 : ab_X rom K cX5_readLabel 3 2 53 ls (.int y :: .int x :: st) hp = if x = y then ab_X rom K cX5_readLabel 3 2 62 ls st hp else ab_X rom K cX5_readLabel 3 2 56 ls st hp := ax_icmp_eq dX5_readLabel_53 (by decide) rfl
theorem dX5_readLabel_56 : decode cX5_readLabel 56 = .ok (.aload_n 0, 1) := by decide +kernel
theorem sX5_readLabel_56 : ab_X rom K cX5_readLabel 3 2 56 (.ref a :: ls) st hp = ab_X rom K cX5_readLabel 3 2 57 (.ref a :: ls) (.ref a :: st) hp := ax_aload_n dX5_readLabel_56 rfl rfl
theorem dX5_readLabel_57 : decode cX5_readLabel 57 = .ok (.iconst 1, 1) := by decide +kernel
theorem sX5_readLabel_57 : ab_X rom K cX5_readLabel 3 2 57 ls st hp = ab_X rom K cX5_readLabel 3 2 58 ls (.int 1 :: st) hp := ax_iconst dX5_readLabel_57 (by decide) rfl
theorem dX5_readLabel_58 : decode cX5_readLabel 58 = .ok (.invokevirtual 61, 3) := by decide +kernel
theorem sX5_readLabel_58_0 : ab_X rom K cX5_readLabel 3 2 58 ls [w1, .ref a] hp = if ab_iso hp a 3 = true then (K 52 (.ref a :: [w1]) hp).bind (fun o => ab_X rom K cX5_readLabel 3 2 61 ls (o.1.toList ++ []) o.2) else none := ay_virtual (as := [w1]) (st := []) dX5_readLabel_58 kc_3_61 rfl rfl (Nat.le_of_ble_eq_true rfl)
theorem sX5_readLabel_58_1 : ab_X rom K cX5_readLabel 3 2 58 ls [w1, .ref a, v0] hp = if ab_iso hp a 3 = true then (K 52 (.ref a :: [w1]) hp).bind (fun o => ab_X rom K cX5_readLabel 3 2 61 ls (o.1.toList ++ [v0]) o.2) else none := ay_virtual (as := [w1]) (st := [v0]) dX5_readLabel_58 kc_3_61 rfl rfl (Nat.le_of_ble_eq_true rfl)
theorem sX5_readLabel_58_2 : ab_X rom K cX5_readLabel 3 2 58 ls [w1, .ref a, v0, v1] hp = if ab_iso hp a 3 = true then (K 52 (.ref a :: [w1]) hp).bind (fun o => ab_X rom K cX5_readLabel 3 2 61 ls (o.1.toList ++ [v0, v1]) o.2) else none := ay_virtual (as := [w1]) (st := [v0, v1]) dX5_readLabel_58 kc_3_61 rfl rfl (Nat.le_of_ble_eq_true rfl)
theorem sX5_readLabel_58_3 : ab_X rom K cX5_readLabel 3 2 58 ls [w1, .ref a, v0, v1, v2] hp = if ab_iso hp a 3 = true then (K 52 (.ref a :: [w1]) hp).bind (fun o => ab_X rom K cX5_readLabel 3 2 61 ls (o.1.toList ++ [v0, v1, v2]) o.2) else none := ay_virtual (as := [w1]) (st := [v0, v1, v2]) dX5_readLabel_58 kc_3_61 rfl rfl (Nat.le_of_ble_eq_true rfl)
theorem dX5_readLabel_61 : decode cX5_readLabel 61 = .ok (.ireturn, 1) := by decide +kernel
theorem sX5_readLabel_61 : ab_X rom K cX5_readLabel 3 2 61 ls [.int x] hp = if x = 0 ∨ x = 1 then some (some (.int x), hp) else none := ay_zret dX5_readLabel_61 rfl
theorem dX5_readLabel_62 : decode cX5_readLabel 62 = .ok (.aload_n 0, 1) := by decide +kernel
theorem sX5_readLabel_62 : ab_X rom K cX5_readLabel 3 2 62 (.ref a :: ls) st hp = ab_X rom K cX5_readLabel 3 2 63 (.ref a :: ls) (.ref a :: st) hp := ax_aload_n dX5_readLabel_62 rfl rfl
theorem dX5_readLabel_63 : decode cX5_readLabel 63 = .ok (.getfield 27, 3) := by decide +kernel
theorem sX5_readLabel_63 : ab_X rom K cX5_readLabel 3 2 63 ls (.ref a :: st) hp = (ab_fld hp a 3 7).bind (fun v => ab_X rom K cX5_readLabel 3 2 66 ls (v :: st) hp) := ax_getfield dX5_readLabel_63 kf_3_27 rfl
theorem dX5_readLabel_66 : decode cX5_readLabel 66 = .ok (.bipush 99, 2) := by decide +kernel
theorem sX5_readLabel_66 : ab_X rom K cX5_readLabel 3 2 66 ls st hp = ab_X rom K cX5_readLabel 3 2 68 ls (.int 99 :: st) hp := ax_bipush dX5_readLabel_66 (by decide) rfl
theorem dX5_readLabel_68 : decode cX5_readLabel 68 = .ok (.if_icmp .le 9, 3) := by decide +kernel
theorem sX5_readLabel_68 : ab_X rom K cX5_readLabel 3 2 68 ls (.int y :: .int x :: st) hp = if y < x then ab_X rom K cX5_readLabel 3 2 71 ls st hp else ab_X rom K cX5_readLabel 3 2 77 ls st hp := ax_icmp_le dX5_readLabel_68 (by decide) rfl
theorem dX5_readLabel_71 : decode cX5_readLabel 71 = .ok (.aload_n 0, 1) := by decide +kernel
theorem sX5_readLabel_71 : ab_X rom K cX5_readLabel 3 2 71 (.ref a :: ls) st hp = ab_X rom K cX5_readLabel 3 2 72 (.ref a :: ls) (.ref a :: st) hp := ax_aload_n dX5_readLabel_71 rfl rfl
theorem dX5_readLabel_72 : decode cX5_readLabel 72 = .ok (.iconst 2, 1) := by decide +kernel
theorem sX5_readLabel_72 : ab_X rom K cX5_readLabel 3 2 72 ls st hp = ab_X rom K cX5_readLabel 3 2 73 ls (.int 2 :: st) hp := ax_iconst dX5_readLabel_72 (by decide) rfl
theorem dX5_readLabel_73 : decode cX5_readLabel 73 = .ok (.invokevirtual 61, 3) := by decide +kernel
theorem sX5_readLabel_73_0 : ab_X rom K cX5_readLabel 3 2 73 ls [w1, .ref a] hp = if ab_iso hp a 3 = true then (K 52 (.ref a :: [w1]) hp).bind (fun o => ab_X rom K cX5_readLabel 3 2 76 ls (o.1.toList ++ []) o.2) else none := ay_virtual (as := [w1]) (st := []) dX5_readLabel_73 kc_3_61 rfl rfl (Nat.le_of_ble_eq_true rfl)
theorem sX5_readLabel_73_1 : ab_X rom K cX5_readLabel 3 2 73 ls [w1, .ref a, v0] hp = if ab_iso hp a 3 = true then (K 52 (.ref a :: [w1]) hp).bind (fun o => ab_X rom K cX5_readLabel 3 2 76 ls (o.1.toList ++ [v0]) o.2) else none := ay_virtual (as := [w1]) (st := [v0]) dX5_readLabel_73 kc_3_61 rfl rfl (Nat.le_of_ble_eq_true rfl)
theorem sX5_readLabel_73_2 : ab_X rom K cX5_readLabel 3 2 73 ls [w1, .ref a, v0, v1] hp = if ab_iso hp a 3 = true then (K 52 (.ref a :: [w1]) hp).bind (fun o => ab_X rom K cX5_readLabel 3 2 76 ls (o.1.toList ++ [v0, v1]) o.2) else none := ay_virtual (as := [w1]) (st := [v0, v1]) dX5_readLabel_73 kc_3_61 rfl rfl (Nat.le_of_ble_eq_true rfl)
theorem sX5_readLabel_73_3 : ab_X rom K cX5_readLabel 3 2 73 ls [w1, .ref a, v0, v1, v2] hp = if ab_iso hp a 3 = true then (K 52 (.ref a :: [w1]) hp).bind (fun o => ab_X rom K cX5_readLabel 3 2 76 ls (o.1.toList ++ [v0, v1, v2]) o.2) else none := ay_virtual (as := [w1]) (st := [v0, v1, v2]) dX5_readLabel_73 kc_3_61 rfl rfl (Nat.le_of_ble_eq_true rfl)
theorem dX5_readLabel_76 : decode cX5_readLabel 76 = .ok (.ireturn, 1) := by decide +kernel
theorem sX5_readLabel_76 : ab_X rom K cX5_readLabel 3 2 76 ls [.int x] hp = if x = 0 ∨ x = 1 then some (some (.int x), hp) else none := ay_zret dX5_readLabel_76 rfl
theorem dX5_readLabel_77 : decode cX5_readLabel 77 = .ok (.aload_n 0, 1) := by decide +kernel
theorem sX5_readLabel_77 : ab_X rom K cX5_readLabel 3 2 77 (.ref a :: ls) st hp = ab_X rom K cX5_readLabel 3 2 78 (.ref a :: ls) (.ref a :: st) hp := ax_aload_n dX5_readLabel_77 rfl rfl
theorem dX5_readLabel_78 : decode cX5_readLabel 78 = .ok (.getfield 34, 3) := by decide +kernel
theorem sX5_readLabel_78 : ab_X rom K cX5_readLabel 3 2 78 ls (.ref a :: st) hp = (ab_fld hp a 3 3).bind (fun v => ab_X rom K cX5_readLabel 3 2 81 ls (v :: st) hp) := ax_getfield dX5_readLabel_78 kf_3_34 rfl
theorem dX5_readLabel_81 : decode cX5_readLabel 81 = .ok (.getfield 97, 3) := by decide +kernel
theorem sX5_readLabel_81 : ab_X rom K cX5_readLabel 3 2 81 ls (.ref a :: st) hp = (ab_fld hp a 1 4).bind (fun v => ab_X rom K cX5_readLabel 3 2 84 ls (v :: st) hp) := ax_getfield dX5_readLabel_81 kf_3_97 rfl
theorem dX5_readLabel_84 : decode cX5_readLabel 84 = .ok (.iload_n 1, 1) := by decide +kernel
theorem sX5_readLabel_84 : ab_X rom K cX5_readLabel 3 2 84 (v0 :: .int x :: ls) st hp = ab_X rom K cX5_readLabel 3 2 85 (v0 :: .int x :: ls) (.int x :: st) hp := ax_iload_n dX5_readLabel_84 rfl rfl
theorem dX5_readLabel_85 : decode cX5_readLabel 85 = .ok (.aload_n 0, 1) := by decide +kernel
theorem sX5_readLabel_85 : ab_X rom K cX5_readLabel 3 2 85 (.ref a :: ls) st hp = ab_X rom K cX5_readLabel 3 2 86 (.ref a :: ls) (.ref a :: st) hp := ax_aload_n dX5_readLabel_85 rfl rfl
theorem dX5_readLabel_86 : decode cX5_readLabel 86 = .ok (.getfield 27, 3) := by decide +kernel
theorem sX5_readLabel_86 : ab_X rom K cX5_readLabel 3 2 86 ls (.ref a :: st) hp = (ab_fld hp a 3 7).bind (fun v => ab_X rom K cX5_readLabel 3 2 89 ls (v :: st) hp) := ax_getfield dX5_readLabel_86 kf_3_27 rfl
theorem dX5_readLabel_89 : decode cX5_readLabel 89 = .ok (.iastore, 1) := by decide +kernel
theorem sX5_readLabel_89 : ab_X rom K cX5_readLabel 3 2 89 ls (.int y :: .int x :: .ref a :: st) hp = (ab_awr 0 hp a x y).bind (fun hp' => ab_X rom K cX5_readLabel 3 2 90 ls st hp') := ax_iastore dX5_readLabel_89 rfl
theorem dX5_readLabel_90 : decode cX5_readLabel 90 = .ok (.aload_n 0, 1) := by decide +kernel
theorem sX5_readLabel_90 : ab_X rom K cX5_readLabel 3 2 90 (.ref a :: ls) st hp = ab_X rom K cX5_readLabel 3 2 91 (.ref a :: ls) (.ref a :: st) hp := ax_aload_n dX5_readLabel_90 rfl rfl
theorem dX5_readLabel_91 : decode cX5_readLabel 91 = .ok (.invokevirtual 44, 3) := by decide +kernel
theorem sX5_readLabel_91_0 : ab_X rom K cX5_readLabel 3 2 91 ls [.ref a] hp = if ab_iso hp a 3 = true then (K 39 (.ref a :: []) hp).bind (fun o => ab_X rom K cX5_readLabel 3 2 94 ls (o.1.toList ++ []) o.2) else none := ay_virtual (as := []) (st := []) dX5_readLabel_91 kc_3_44 rfl rfl (Nat.le_of_ble_eq_true rfl)
theorem sX5_readLabel_91_1 : ab_X rom K cX5_readLabel 3 2 91 ls [.ref a, v0] hp = if ab_iso hp a 3 = true then (K 39 (.ref a :: []) hp).bind (fun o => ab_X rom K cX5_readLabel 3 2 94 ls (o.1.toList ++ [v0]) o.2) else none := ay_virtual (as := []) (st := [v0]) dX5_readLabel_91 kc_3_44 rfl rfl (Nat.le_of_ble_eq_true rfl)
theorem sX5_readLabel_91_2 : ab_X rom K cX5_readLabel 3 2 91 ls [.ref a, v0, v1] hp = if ab_iso hp a 3 = true then (K 39 (.ref a :: []) hp).bind (fun o => ab_X rom K cX5_readLabel 3 2 94 ls (o.1.toList ++ [v0, v1]) o.2) else none := ay_virtual (as := []) (st := [v0, v1]) dX5_readLabel_91 kc_3_44 rfl rfl (Nat.le_of_ble_eq_true rfl)
theorem sX5_readLabel_91_3 : ab_X rom K cX5_readLabel 3 2 91 ls [.ref a, v0, v1, v2] hp = if ab_iso hp a 3 = true then (K 39 (.ref a :: []) hp).bind (fun o => ab_X rom K cX5_readLabel 3 2 94 ls (o.1.toList ++ [v0, v1, v2]) o.2) else none := ay_virtual (as := []) (st := [v0, v1, v2]) dX5_readLabel_91 kc_3_44 rfl rfl (Nat.le_of_ble_eq_true rfl)
theorem dX5_readLabel_94 : decode cX5_readLabel 94 = .ok (.iconst 1, 1) := by decide +kernel
theorem sX5_readLabel_94 : ab_X rom K cX5_readLabel 3 2 94 ls st hp = ab_X rom K cX5_readLabel 3 2 95 ls (.int 1 :: st) hp := ax_iconst dX5_readLabel_94 (by decide) rfl
theorem dX5_readLabel_95 : decode cX5_readLabel 95 = .ok (.ireturn, 1) := by decide +kernel
theorem sX5_readLabel_95 : ab_X rom K cX5_readLabel 3 2 95 ls [.int x] hp = if x = 0 ∨ x = 1 then some (some (.int x), hp) else none := ay_zret dX5_readLabel_95 rfl
theorem tX5_readLabels : ab_mT[48]? = some (yX5_readLabels, cX5_readLabels, 3, 2, 3) := by decide +kernel
theorem mX5_readLabels {d : Nat} {a0 : Nat} : ab_M rom (d + 1) 48 [.ref a0] hp = ab_X rom (ab_M rom d) cX5_readLabels 3 2 0 [.ref a0, .null, .null] [] hp := ab_M_eq tX5_readLabels (Nat.le_of_ble_eq_true rfl)
theorem dX5_readLabels_0 : decode cX5_readLabels 0 = .ok (.iconst 0, 1) := by decide +kernel
theorem sX5_readLabels_0 : ab_X rom K cX5_readLabels 3 2 0 ls st hp = ab_X rom K cX5_readLabels 3 2 1 ls (.int 0 :: st) hp := ax_iconst dX5_readLabels_0 (by decide) rfl
theorem dX5_readLabels_1 : decode cX5_readLabels 1 = .ok (.istore_n 1, 1) := by decide +kernel
theorem sX5_readLabels_1i : ab_X rom K cX5_readLabels 3 2 1 (.int y :: v1 :: ls) (.int x :: st) hp = ab_X rom K cX5_readLabels 3 2 2 (.int y :: .int x :: ls) st hp := ax_istore_n dX5_readLabels_1 (ax_lt (v := v1) rfl) (ab_nl_c1 (j := 0) (v := .int y) rfl (ab_c1_int _)) rfl rfl
theorem sX5_readLabels_1r : ab_X rom K cX5_readLabels 3 2 1 (.ref a2 :: v1 :: ls) (.int x :: st) hp = ab_X rom K cX5_readLabels 3 2 2 (.ref a2 :: .int x :: ls) st hp := ax_istore_n dX5_readLabels_1 (ax_lt (v := v1) rfl) (ab_nl_c1 (j := 0) (v := .ref a2) rfl (ab_c1_ref _)) rfl rfl
theorem sX5_readLabels_1n : ab_X rom K cX5_readLabels 3 2 1 (.null :: v1 :: ls) (.int x :: st) hp = ab_X rom K cX5_readLabels 3 2 2 (.null :: .int x :: ls) st hp := ax_istore_n dX5_readLabels_1 (ax_lt (v := v1) rfl) (ab_nl_c1 (j := 0) (v := .null) rfl ab_c1_null) rfl rfl
theorem dX5_readLabels_2 : decode cX5_readLabels 2 = .ok (.iload_n 1, 1) := by decide +kernel
theorem sX5_readLabels_2 : ab_X rom K cX5_readLabels 3 2 2 (v0 :: .int x :: ls) st hp = ab_X rom K cX5_readLabels 3 2 3 (v0 :: .int x :: ls) (.int x :: st) hp := ax_iload_n dX5_readLabels_2 rfl rfl
theorem dX5_readLabels_3 : decode cX5_readLabels 3 = .ok (.sipush 400, 3) := by decide +kernel
theorem sX5_readLabels_3 : ab_X rom K cX5_readLabels 3 2 3 ls st hp = ab_X rom K cX5_readLabels 3 2 6 ls (.int 400 :: st) hp := ax_sipush dX5_readLabels_3 (by decide) rfl
theorem dX5_readLabels_6 : decode cX5_readLabels 6 = .ok (.if_icmp .ge 81, 3) := by decide +kernel
theorem sX5_readLabels_6 : ab_X rom K cX5_readLabels 3 2 6 ls (.int y :: .int x :: st) hp = if x < y then ab_X rom K cX5_readLabels 3 2 9 ls st hp else ab_X rom K cX5_readLabels 3 2 87 ls st hp := ax_icmp_ge dX5_readLabels_6 (by decide) rfl
theorem dX5_readLabels_9 : decode cX5_readLabels 9 = .ok (.aload_n 0, 1) := by decide +kernel
theorem sX5_readLabels_9 : ab_X rom K cX5_readLabels 3 2 9 (.ref a :: ls) st hp = ab_X rom K cX5_readLabels 3 2 10 (.ref a :: ls) (.ref a :: st) hp := ax_aload_n dX5_readLabels_9 rfl rfl
theorem dX5_readLabels_10 : decode cX5_readLabels 10 = .ok (.getfield 24, 3) := by decide +kernel
theorem sX5_readLabels_10 : ab_X rom K cX5_readLabels 3 2 10 ls (.ref a :: st) hp = (ab_fld hp a 3 6).bind (fun v => ab_X rom K cX5_readLabels 3 2 13 ls (v :: st) hp) := ax_getfield dX5_readLabels_10 kf_3_24 rfl
theorem dX5_readLabels_13 : decode cX5_readLabels 13 = .ok (.ifCond .eq 74, 3) := by decide +kernel
theorem sX5_readLabels_13 : ab_X rom K cX5_readLabels 3 2 13 ls (.int x :: st) hp = if x = 0 then ab_X rom K cX5_readLabels 3 2 87 ls st hp else ab_X rom K cX5_readLabels 3 2 16 ls st hp := ax_if_eq dX5_readLabels_13 (by decide) rfl
theorem dX5_readLabels_16 : decode cX5_readLabels 16 = .ok (.aload_n 0, 1) := by decide +kernel
theorem sX5_readLabels_16 : ab_X rom K cX5_readLabels 3 2 16 (.ref a :: ls) st hp = ab_X rom K cX5_readLabels 3 2 17 (.ref a :: ls) (.ref a :: st) hp := ax_aload_n dX5_readLabels_16 rfl rfl
theorem dX5_readLabels_17 : decode cX5_readLabels 17 = .ok (.ldc 92, 2) := by decide +kernel
theorem sX5_readLabels_17 : ab_X rom K cX5_readLabels 3 2 17 ls st hp = ab_X rom K cX5_readLabels 3 2 19 ls (.ref (ab_RO + 7) :: st) hp := ax_ldcs dX5_readLabels_17 kz_3_92 kr_3_92 rfl
theorem dX5_readLabels_19 : decode cX5_readLabels 19 = .ok (.invokevirtual 69, 3) := by decide +kernel
theorem sX5_readLabels_19_0 : ab_X rom K cX5_readLabels 3 2 19 ls [w1, .ref a] hp = if ab_iso hp a 3 = true then (K 45 (.ref a :: [w1]) hp).bind (fun o => ab_X rom K cX5_readLabels 3 2 22 ls (o.1.toList ++ []) o.2) else none := ay_virtual (as := [w1]) (st := []) dX5_readLabels_19 kc_3_69 rfl rfl (Nat.le_of_ble_eq_true rfl)
theorem sX5_readLabels_19_1 : ab_X rom K cX5_readLabels 3 2 19 ls [w1, .ref a, v0] hp = if ab_iso hp a 3 = true then (K 45 (.ref a :: [w1]) hp).bind (fun o => ab_X rom K cX5_readLabels 3 2 22 ls (o.1.toList ++ [v0]) o.2) else none := ay_virtual (as := [w1]) (st := [v0]) dX5_readLabels_19 kc_3_69 rfl rfl (Nat.le_of_ble_eq_true rfl)
theorem sX5_readLabels_19_2 : ab_X rom K cX5_readLabels 3 2 19 ls [w1, .ref a, v0, v1] hp = if ab_iso hp a 3 = true then (K 45 (.ref a :: [w1]) hp).bind (fun o => ab_X rom K cX5_readLabels 3 2 22 ls (o.1.toList ++ [v0, v1]) o.2) else none := ay_virtual (as := [w1]) (st := [v0, v1]) dX5_readLabels_19 kc_3_69 rfl rfl (Nat.le_of_ble_eq_true rfl)
theorem sX5_readLabels_19_3 : ab_X rom K cX5_readLabels 3 2 19 ls [w1, .ref a, v0, v1, v2] hp = if ab_iso hp a 3 = true then (K 45 (.ref a :: [w1]) hp).bind (fun o => ab_X rom K cX5_readLabels 3 2 22 ls (o.1.toList ++ [v0, v1, v2]) o.2) else none := ay_virtual (as := [w1]) (st := [v0, v1, v2]) dX5_readLabels_19 kc_3_69 rfl rfl (Nat.le_of_ble_eq_true rfl)
theorem dX5_readLabels_22 : decode cX5_readLabels 22 = .ok (.ifCond .eq 10, 3) := by decide +kernel
theorem sX5_readLabels_22 : ab_X rom K cX5_readLabels 3 2 22 ls (.int x :: st) hp = if x = 0 then ab_X rom K cX5_readLabels 3 2 32 ls st hp else ab_X rom K cX5_readLabels 3 2 25 ls st hp := ax_if_eq dX5_readLabels_22 (by decide) rfl
theorem dX5_readLabels_25 : decode cX5_readLabels 25 = .ok (.aload_n 0, 1) := by decide +kernel
theorem sX5_readLabels_25 : ab_X rom K cX5_readLabels 3 2 25 (.ref a :: ls) st hp = ab_X rom K cX5_readLabels 3 2 26 (.ref a :: ls) (.ref a :: st) hp := ax_aload_n dX5_readLabels_25 rfl rfl
theorem dX5_readLabels_26 : decode cX5_readLabels 26 = .ok (.invokevirtual 94, 3) := by decide +kernel
theorem sX5_readLabels_26_0 : ab_X rom K cX5_readLabels 3 2 26 ls [.ref a] hp = if ab_iso hp a 3 = true then (K 47 (.ref a :: []) hp).bind (fun o => ab_X rom K cX5_readLabels 3 2 29 ls (o.1.toList ++ []) o.2) else none := ay_virtual (as := []) (st := []) dX5_readLabels_26 kc_3_94 rfl rfl (Nat.le_of_ble_eq_true rfl)
theorem sX5_readLabels_26_1 : ab_X rom K cX5_readLabels 3 2 26 ls [.ref a, v0] hp = if ab_iso hp a 3 = true then (K 47 (.ref a :: []) hp).bind (fun o => ab_X rom K cX5_readLabels 3 2 29 ls (o.1.toList ++ [v0]) o.2) else none := ay_virtual (as := []) (st := [v0]) dX5_readLabels_26 kc_3_94 rfl rfl (Nat.le_of_ble_eq_true rfl)
theorem sX5_readLabels_26_2 : ab_X rom K cX5_readLabels 3 2 26 ls [.ref a, v0, v1] hp = if ab_iso hp a 3 = true then (K 47 (.ref a :: []) hp).bind (fun o => ab_X rom K cX5_readLabels 3 2 29 ls (o.1.toList ++ [v0, v1]) o.2) else none := ay_virtual (as := []) (st := [v0, v1]) dX5_readLabels_26 kc_3_94 rfl rfl (Nat.le_of_ble_eq_true rfl)
theorem sX5_readLabels_26_3 : ab_X rom K cX5_readLabels 3 2 26 ls [.ref a, v0, v1, v2] hp = if ab_iso hp a 3 = true then (K 47 (.ref a :: []) hp).bind (fun o => ab_X rom K cX5_readLabels 3 2 29 ls (o.1.toList ++ [v0, v1, v2]) o.2) else none := ay_virtual (as := []) (st := [v0, v1, v2]) dX5_readLabels_26 kc_3_94 rfl rfl (Nat.le_of_ble_eq_true rfl)
theorem dX5_readLabels_29 : decode cX5_readLabels 29 = .ok (.ifCond .ne 5, 3) := by decide +kernel
theorem sX5_readLabels_29 : ab_X rom K cX5_readLabels 3 2 29 ls (.int x :: st) hp = if x = 0 then ab_X rom K cX5_readLabels 3 2 32 ls st hp else ab_X rom K cX5_readLabels 3 2 34 ls st hp := ax_if_ne dX5_readLabels_29 (by decide) rfl
theorem dX5_readLabels_32 : decode cX5_readLabels 32 = .ok (.iconst 0, 1) := by decide +kernel
theorem sX5_readLabels_32 : ab_X rom K cX5_readLabels 3 2 32 ls st hp = ab_X rom K cX5_readLabels 3 2 33 ls (.int 0 :: st) hp := ax_iconst dX5_readLabels_32 (by decide) rfl
theorem dX5_readLabels_33 : decode cX5_readLabels 33 = .ok (.ireturn, 1) := by decide +kernel
theorem sX5_readLabels_33 : ab_X rom K cX5_readLabels 3 2 33 ls [.int x] hp = if x = 0 ∨ x = 1 then some (some (.int x), hp) else none := ay_zret dX5_readLabels_33 rfl
theorem dX5_readLabels_34 : decode cX5_readLabels 34 = .ok (.iconst 0, 1) := by decide +kernel
theorem sX5_readLabels_34 : ab_X rom K cX5_readLabels 3 2 34 ls st hp = ab_X rom K cX5_readLabels 3 2 35 ls (.int 0 :: st) hp := ax_iconst dX5_readLabels_34 (by decide) rfl
theorem dX5_readLabels_35 : decode cX5_readLabels 35 = .ok (.istore_n 2, 1) := by decide +kernel
theorem sX5_readLabels_35i : ab_X rom K cX5_readLabels 3 2 35 (v0 :: .int y :: v2 :: ls) (.int x :: st) hp = ab_X rom K cX5_readLabels 3 2 36 (v0 :: .int y :: .int x :: ls) st hp := ax_istore_n dX5_readLabels_35 (ax_lt (v := v2) rfl) (ab_nl_c1 (j := 1) (v := .int y) rfl (ab_c1_int _)) rfl rfl
theorem sX5_readLabels_35r : ab_X rom K cX5_readLabels 3 2 35 (v0 :: .ref a2 :: v2 :: ls) (.int x :: st) hp = ab_X rom K cX5_readLabels 3 2 36 (v0 :: .ref a2 :: .int x :: ls) st hp := ax_istore_n dX5_readLabels_35 (ax_lt (v := v2) rfl) (ab_nl_c1 (j := 1) (v := .ref a2) rfl (ab_c1_ref _)) rfl rfl
theorem sX5_readLabels_35n : ab_X rom K cX5_readLabels 3 2 35 (v0 :: .null :: v2 :: ls) (.int x :: st) hp = ab_X rom K cX5_readLabels 3 2 36 (v0 :: .null :: .int x :: ls) st hp := ax_istore_n dX5_readLabels_35 (ax_lt (v := v2) rfl) (ab_nl_c1 (j := 1) (v := .null) rfl ab_c1_null) rfl rfl
theorem dX5_readLabels_36 : decode cX5_readLabels 36 = .ok (.iload_n 2, 1) := by decide +kernel
theorem sX5_readLabels_36 : ab_X rom K cX5_readLabels 3 2 36 (v0 :: v1 :: .int x :: ls) st hp = ab_X rom K cX5_readLabels 3 2 37 (v0 :: v1 :: .int x :: ls) (.int x :: st) hp := ax_iload_n dX5_readLabels_36 rfl rfl
theorem dX5_readLabels_37 : decode cX5_readLabels 37 = .ok (.bipush 7, 2) := by decide +kernel
theorem sX5_readLabels_37 : ab_X rom K cX5_readLabels 3 2 37 ls st hp = ab_X rom K cX5_readLabels 3 2 39 ls (.int 7 :: st) hp := ax_bipush dX5_readLabels_37 (by decide) rfl
theorem dX5_readLabels_39 : decode cX5_readLabels 39 = .ok (.if_icmp .ge 31, 3) := by decide +kernel
theorem sX5_readLabels_39 : ab_X rom K cX5_readLabels 3 2 39 ls (.int y :: .int x :: st) hp = if x < y then ab_X rom K cX5_readLabels 3 2 42 ls st hp else ab_X rom K cX5_readLabels 3 2 70 ls st hp := ax_icmp_ge dX5_readLabels_39 (by decide) rfl
theorem dX5_readLabels_42 : decode cX5_readLabels 42 = .ok (.aload_n 0, 1) := by decide +kernel
theorem sX5_readLabels_42 : ab_X rom K cX5_readLabels 3 2 42 (.ref a :: ls) st hp = ab_X rom K cX5_readLabels 3 2 43 (.ref a :: ls) (.ref a :: st) hp := ax_aload_n dX5_readLabels_42 rfl rfl
theorem dX5_readLabels_43 : decode cX5_readLabels 43 = .ok (.bipush 44, 2) := by decide +kernel
theorem sX5_readLabels_43 : ab_X rom K cX5_readLabels 3 2 43 ls st hp = ab_X rom K cX5_readLabels 3 2 45 ls (.int 44 :: st) hp := ax_bipush dX5_readLabels_43 (by decide) rfl
theorem dX5_readLabels_45 : decode cX5_readLabels 45 = .ok (.invokevirtual 57, 3) := by decide +kernel
theorem sX5_readLabels_45_0 : ab_X rom K cX5_readLabels 3 2 45 ls [w1, .ref a] hp = if ab_iso hp a 3 = true then (K 41 (.ref a :: [w1]) hp).bind (fun o => ab_X rom K cX5_readLabels 3 2 48 ls (o.1.toList ++ []) o.2) else none := ay_virtual (as := [w1]) (st := []) dX5_readLabels_45 kc_3_57 rfl rfl (Nat.le_of_ble_eq_true rfl)
theorem sX5_readLabels_45_1 : ab_X rom K cX5_readLabels 3 2 45 ls [w1, .ref a, v0] hp = if ab_iso hp a 3 = true then (K 41 (.ref a :: [w1]) hp).bind (fun o => ab_X rom K cX5_readLabels 3 2 48 ls (o.1.toList ++ [v0]) o.2) else none := ay_virtual (as := [w1]) (st := [v0]) dX5_readLabels_45 kc_3_57 rfl rfl (Nat.le_of_ble_eq_true rfl)
theorem sX5_readLabels_45_2 : ab_X rom K cX5_readLabels 3 2 45 ls [w1, .ref a, v0, v1] hp = if ab_iso hp a 3 = true then (K 41 (.ref a :: [w1]) hp).bind (fun o => ab_X rom K cX5_readLabels 3 2 48 ls (o.1.toList ++ [v0, v1]) o.2) else none := ay_virtual (as := [w1]) (st := [v0, v1]) dX5_readLabels_45 kc_3_57 rfl rfl (Nat.le_of_ble_eq_true rfl)
theorem sX5_readLabels_45_3 : ab_X rom K cX5_readLabels 3 2 45 ls [w1, .ref a, v0, v1, v2] hp = if ab_iso hp a 3 = true then (K 41 (.ref a :: [w1]) hp).bind (fun o => ab_X rom K cX5_readLabels 3 2 48 ls (o.1.toList ++ [v0, v1, v2]) o.2) else none := ay_virtual (as := [w1]) (st := [v0, v1, v2]) dX5_readLabels_45 kc_3_57 rfl rfl (Nat.le_of_ble_eq_true rfl)
theorem dX5_readLabels_48 : decode cX5_readLabels 48 = .ok (.ifCond .eq 22, 3) := by decide +kernel
theorem sX5_readLabels_48 : ab_X rom K cX5_readLabels 3 2 48 ls (.int x :: st) hp = if x = 0 then ab_X rom K cX5_readLabels 3 2 70 ls st hp else ab_X rom K cX5_readLabels 3 2 51 ls st hp := ax_if_eq dX5_readLabels_48 (by decide) rfl
theorem dX5_readLabels_51 : decode cX5_readLabels 51 = .ok (.aload_n 0, 1) := by decide +kernel
theorem sX5_readLabels_51 : ab_X rom K cX5_readLabels 3 2 51 (.ref a :: ls) st hp = ab_X rom K cX5_readLabels 3 2 52 (.ref a :: ls) (.ref a :: st) hp := ax_aload_n dX5_readLabels_51 rfl rfl
theorem dX5_readLabels_52 : decode cX5_readLabels 52 = .ok (.invokevirtual 44, 3) := by decide +kernel
theorem sX5_readLabels_52_0 : ab_X rom K cX5_readLabels 3 2 52 ls [.ref a] hp = if ab_iso hp a 3 = true then (K 39 (.ref a :: []) hp).bind (fun o => ab_X rom K cX5_readLabels 3 2 55 ls (o.1.toList ++ []) o.2) else none := ay_virtual (as := []) (st := []) dX5_readLabels_52 kc_3_44 rfl rfl (Nat.le_of_ble_eq_true rfl)
theorem sX5_readLabels_52_1 : ab_X rom K cX5_readLabels 3 2 52 ls [.ref a, v0] hp = if ab_iso hp a 3 = true then (K 39 (.ref a :: []) hp).bind (fun o => ab_X rom K cX5_readLabels 3 2 55 ls (o.1.toList ++ [v0]) o.2) else none := ay_virtual (as := []) (st := [v0]) dX5_readLabels_52 kc_3_44 rfl rfl (Nat.le_of_ble_eq_true rfl)
theorem sX5_readLabels_52_2 : ab_X rom K cX5_readLabels 3 2 52 ls [.ref a, v0, v1] hp = if ab_iso hp a 3 = true then (K 39 (.ref a :: []) hp).bind (fun o => ab_X rom K cX5_readLabels 3 2 55 ls (o.1.toList ++ [v0, v1]) o.2) else none := ay_virtual (as := []) (st := [v0, v1]) dX5_readLabels_52 kc_3_44 rfl rfl (Nat.le_of_ble_eq_true rfl)
theorem sX5_readLabels_52_3 : ab_X rom K cX5_readLabels 3 2 52 ls [.ref a, v0, v1, v2] hp = if ab_iso hp a 3 = true then (K 39 (.ref a :: []) hp).bind (fun o => ab_X rom K cX5_readLabels 3 2 55 ls (o.1.toList ++ [v0, v1, v2]) o.2) else none := ay_virtual (as := []) (st := [v0, v1, v2]) dX5_readLabels_52 kc_3_44 rfl rfl (Nat.le_of_ble_eq_true rfl)
theorem dX5_readLabels_55 : decode cX5_readLabels 55 = .ok (.aload_n 0, 1) := by decide +kernel
theorem sX5_readLabels_55 : ab_X rom K cX5_readLabels 3 2 55 (.ref a :: ls) st hp = ab_X rom K cX5_readLabels 3 2 56 (.ref a :: ls) (.ref a :: st) hp := ax_aload_n dX5_readLabels_55 rfl rfl
theorem dX5_readLabels_56 : decode cX5_readLabels 56 = .ok (.invokevirtual 94, 3) := by decide +kernel
theorem sX5_readLabels_56_0 : ab_X rom K cX5_readLabels 3 2 56 ls [.ref a] hp = if ab_iso hp a 3 = true then (K 47 (.ref a :: []) hp).bind (fun o => ab_X rom K cX5_readLabels 3 2 59 ls (o.1.toList ++ []) o.2) else none := ay_virtual (as := []) (st := []) dX5_readLabels_56 kc_3_94 rfl rfl (Nat.le_of_ble_eq_true rfl)
theorem sX5_readLabels_56_1 : ab_X rom K cX5_readLabels 3 2 56 ls [.ref a, v0] hp = if ab_iso hp a 3 = true then (K 47 (.ref a :: []) hp).bind (fun o => ab_X rom K cX5_readLabels 3 2 59 ls (o.1.toList ++ [v0]) o.2) else none := ay_virtual (as := []) (st := [v0]) dX5_readLabels_56 kc_3_94 rfl rfl (Nat.le_of_ble_eq_true rfl)
theorem sX5_readLabels_56_2 : ab_X rom K cX5_readLabels 3 2 56 ls [.ref a, v0, v1] hp = if ab_iso hp a 3 = true then (K 47 (.ref a :: []) hp).bind (fun o => ab_X rom K cX5_readLabels 3 2 59 ls (o.1.toList ++ [v0, v1]) o.2) else none := ay_virtual (as := []) (st := [v0, v1]) dX5_readLabels_56 kc_3_94 rfl rfl (Nat.le_of_ble_eq_true rfl)
theorem sX5_readLabels_56_3 : ab_X rom K cX5_readLabels 3 2 56 ls [.ref a, v0, v1, v2] hp = if ab_iso hp a 3 = true then (K 47 (.ref a :: []) hp).bind (fun o => ab_X rom K cX5_readLabels 3 2 59 ls (o.1.toList ++ [v0, v1, v2]) o.2) else none := ay_virtual (as := []) (st := [v0, v1, v2]) dX5_readLabels_56 kc_3_94 rfl rfl (Nat.le_of_ble_eq_true rfl)
theorem dX5_readLabels_59 : decode cX5_readLabels 59 = .ok (.ifCond .ne 5, 3) := by decide +kernel
theorem sX5_readLabels_59 : ab_X rom K cX5_readLabels 3 2 59 ls (.int x :: st) hp = if x = 0 then ab_X rom K cX5_readLabels 3 2 62 ls st hp else ab_X rom K cX5_readLabels 3 2 64 ls st hp := ax_if_ne dX5_readLabels_59 (by decide) rfl
theorem dX5_readLabels_62 : decode cX5_readLabels 62 = .ok (.iconst 0, 1) := by decide +kernel
theorem sX5_readLabels_62 : ab_X rom K cX5_readLabels 3 2 62 ls st hp = ab_X rom K cX5_readLabels 3 2 63 ls (.int 0 :: st) hp := ax_iconst dX5_readLabels_62 (by decide) rfl
theorem dX5_readLabels_63 : decode cX5_readLabels 63 = .ok (.ireturn, 1) := by decide +kernel
theorem sX5_readLabels_63 : ab_X rom K cX5_readLabels 3 2 63 ls [.int x] hp = if x = 0 ∨ x = 1 then some (some (.int x), hp) else none := ay_zret dX5_readLabels_63 rfl
theorem dX5_readLabels_64 : decode cX5_readLabels 64 = .ok (.iinc 2 1, 3) := by decide +kernel
theorem sX5_readLabels_64i : ab_X rom K cX5_readLabels 3 2 64 (v0 :: .int y :: .int x :: ls) st hp = ab_X rom K cX5_readLabels 3 2 67 (v0 :: .int y :: .int (x + 1) :: ls) st hp := ax_iinc dX5_readLabels_64 rfl (ab_nl_c1 (j := 1) (v := .int y) rfl (ab_c1_int _)) (by decide) rfl rfl
theorem sX5_readLabels_64r : ab_X rom K cX5_readLabels 3 2 64 (v0 :: .ref a2 :: .int x :: ls) st hp = ab_X rom K cX5_readLabels 3 2 67 (v0 :: .ref a2 :: .int (x + 1) :: ls) st hp := ax_iinc dX5_readLabels_64 rfl (ab_nl_c1 (j := 1) (v := .ref a2) rfl (ab_c1_ref _)) (by decide) rfl rfl
theorem sX5_readLabels_64n : ab_X rom K cX5_readLabels 3 2 64 (v0 :: .null :: .int x :: ls) st hp = ab_X rom K cX5_readLabels 3 2 67 (v0 :: .null :: .int (x + 1) :: ls) st hp := ax_iinc dX5_readLabels_64 rfl (ab_nl_c1 (j := 1) (v := .null) rfl ab_c1_null) (by decide) rfl rfl
theorem dX5_readLabels_67 : decode cX5_readLabels 67 = .ok (.goto (-31), 3) := by decide +kernel
theorem sX5_readLabels_67 : ab_X rom K cX5_readLabels 3 2 67 ls st hp = ab_X rom K cX5_readLabels 3 2 36 ls st hp := ax_goto dX5_readLabels_67 (by decide)
theorem dX5_readLabels_70 : decode cX5_readLabels 70 = .ok (.aload_n 0, 1) := by decide +kernel
theorem sX5_readLabels_70 : ab_X rom K cX5_readLabels 3 2 70 (.ref a :: ls) st hp = ab_X rom K cX5_readLabels 3 2 71 (.ref a :: ls) (.ref a :: st) hp := ax_aload_n dX5_readLabels_70 rfl rfl
theorem dX5_readLabels_71 : decode cX5_readLabels 71 = .ok (.bipush 59, 2) := by decide +kernel
theorem sX5_readLabels_71 : ab_X rom K cX5_readLabels 3 2 71 ls st hp = ab_X rom K cX5_readLabels 3 2 73 ls (.int 59 :: st) hp := ax_bipush dX5_readLabels_71 (by decide) rfl
theorem dX5_readLabels_73 : decode cX5_readLabels 73 = .ok (.invokevirtual 75, 3) := by decide +kernel
theorem sX5_readLabels_73_0 : ab_X rom K cX5_readLabels 3 2 73 ls [w1, .ref a] hp = if ab_iso hp a 3 = true then (K 44 (.ref a :: [w1]) hp).bind (fun o => ab_X rom K cX5_readLabels 3 2 76 ls (o.1.toList ++ []) o.2) else none := ay_virtual (as := [w1]) (st := []) dX5_readLabels_73 kc_3_75 rfl rfl (Nat.le_of_ble_eq_true rfl)
theorem sX5_readLabels_73_1 : ab_X rom K cX5_readLabels 3 2 73 ls [w1, .ref a, v0] hp = if ab_iso hp a 3 = true then (K 44 (.ref a :: [w1]) hp).bind (fun o => ab_X rom K cX5_readLabels 3 2 76 ls (o.1.toList ++ [v0]) o.2) else none := ay_virtual (as := [w1]) (st := [v0]) dX5_readLabels_73 kc_3_75 rfl rfl (Nat.le_of_ble_eq_true rfl)
theorem sX5_readLabels_73_2 : ab_X rom K cX5_readLabels 3 2 73 ls [w1, .ref a, v0, v1] hp = if ab_iso hp a 3 = true then (K 44 (.ref a :: [w1]) hp).bind (fun o => ab_X rom K cX5_readLabels 3 2 76 ls (o.1.toList ++ [v0, v1]) o.2) else none := ay_virtual (as := [w1]) (st := [v0, v1]) dX5_readLabels_73 kc_3_75 rfl rfl (Nat.le_of_ble_eq_true rfl)
theorem sX5_readLabels_73_3 : ab_X rom K cX5_readLabels 3 2 73 ls [w1, .ref a, v0, v1, v2] hp = if ab_iso hp a 3 = true then (K 44 (.ref a :: [w1]) hp).bind (fun o => ab_X rom K cX5_readLabels 3 2 76 ls (o.1.toList ++ [v0, v1, v2]) o.2) else none := ay_virtual (as := [w1]) (st := [v0, v1, v2]) dX5_readLabels_73 kc_3_75 rfl rfl (Nat.le_of_ble_eq_true rfl)
theorem dX5_readLabels_76 : decode cX5_readLabels 76 = .ok (.ifCond .ne 5, 3) := by decide +kernel
theorem sX5_readLabels_76 : ab_X rom K cX5_readLabels 3 2 76 ls (.int x :: st) hp = if x = 0 then ab_X rom K cX5_readLabels 3 2 79 ls st hp else ab_X rom K cX5_readLabels 3 2 81 ls st hp := ax_if_ne dX5_readLabels_76 (by decide) rfl
theorem dX5_readLabels_79 : decode cX5_readLabels 79 = .ok (.iconst 0, 1) := by decide +kernel
theorem sX5_readLabels_79 : ab_X rom K cX5_readLabels 3 2 79 ls st hp = ab_X rom K cX5_readLabels 3 2 80 ls (.int 0 :: st) hp := ax_iconst dX5_readLabels_79 (by decide) rfl
theorem dX5_readLabels_80 : decode cX5_readLabels 80 = .ok (.ireturn, 1) := by decide +kernel
theorem sX5_readLabels_80 : ab_X rom K cX5_readLabels 3 2 80 ls [.int x] hp = if x = 0 ∨ x = 1 then some (some (.int x), hp) else none := ay_zret dX5_readLabels_80 rfl
theorem dX5_readLabels_81 : decode cX5_readLabels 81 = .ok (.iinc 1 1, 3) := by decide +kernel
theorem sX5_readLabels_81i : ab_X rom K cX5_readLabels 3 2 81 (.int y :: .int x :: ls) st hp = ab_X rom K cX5_readLabels 3 2 84 (.int y :: .int (x + 1) :: ls) st hp := ax_iinc dX5_readLabels_81 rfl (ab_nl_c1 (j := 0) (v := .int y) rfl (ab_c1_int _)) (by decide) rfl rfl
theorem sX5_readLabels_81r : ab_X rom K cX5_readLabels 3 2 81 (.ref a2 :: .int x :: ls) st hp = ab_X rom K cX5_readLabels 3 2 84 (.ref a2 :: .int (x + 1) :: ls) st hp := ax_iinc dX5_readLabels_81 rfl (ab_nl_c1 (j := 0) (v := .ref a2) rfl (ab_c1_ref _)) (by decide) rfl rfl
theorem sX5_readLabels_81n : ab_X rom K cX5_readLabels 3 2 81 (.null :: .int x :: ls) st hp = ab_X rom K cX5_readLabels 3 2 84 (.null :: .int (x + 1) :: ls) st hp := ax_iinc dX5_readLabels_81 rfl (ab_nl_c1 (j := 0) (v := .null) rfl ab_c1_null) (by decide) rfl rfl
theorem dX5_readLabels_84 : decode cX5_readLabels 84 = .ok (.goto (-82), 3) := by decide +kernel
theorem sX5_readLabels_84 : ab_X rom K cX5_readLabels 3 2 84 ls st hp = ab_X rom K cX5_readLabels 3 2 2 ls st hp := ax_goto dX5_readLabels_84 (by decide)
theorem dX5_readLabels_87 : decode cX5_readLabels 87 = .ok (.iconst 1, 1) := by decide +kernel
theorem sX5_readLabels_87 : ab_X rom K cX5_readLabels 3 2 87 ls st hp = ab_X rom K cX5_readLabels 3 2 88 ls (.int 1 :: st) hp := ax_iconst dX5_readLabels_87 (by decide) rfl
theorem dX5_readLabels_88 : decode cX5_readLabels 88 = .ok (.ireturn, 1) := by decide +kernel
theorem sX5_readLabels_88 : ab_X rom K cX5_readLabels 3 2 88 ls [.int x] hp = if x = 0 ∨ x = 1 then some (some (.int x), hp) else none := ay_zret dX5_readLabels_88 rfl
theorem tX5_readLine : ab_mT[49]? = some (yX5_readLine, cX5_readLine, 2, 2, 3) := by decide +kernel
theorem mX5_readLine {d : Nat} {a0 : Nat} : ab_M rom (d + 1) 49 [.ref a0] hp = ab_X rom (ab_M rom d) cX5_readLine 3 2 0 [.ref a0, .null] [] hp := ab_M_eq tX5_readLine (Nat.le_of_ble_eq_true rfl)
theorem dX5_readLine_0 : decode cX5_readLine 0 = .ok (.aload_n 0, 1) := by decide +kernel
theorem sX5_readLine_0 : ab_X rom K cX5_readLine 3 2 0 (.ref a :: ls) st hp = ab_X rom K cX5_readLine 3 2 1 (.ref a :: ls) (.ref a :: st) hp := ax_aload_n dX5_readLine_0 rfl rfl
theorem dX5_readLine_1 : decode cX5_readLine 1 = .ok (.invokevirtual 78, 3) := by decide +kernel
theorem sX5_readLine_1_0 : ab_X rom K cX5_readLine 3 2 1 ls [.ref a] hp = if ab_iso hp a 3 = true then (K 40 (.ref a :: []) hp).bind (fun o => ab_X rom K cX5_readLine 3 2 4 ls (o.1.toList ++ []) o.2) else none := ay_virtual (as := []) (st := []) dX5_readLine_1 kc_3_78 rfl rfl (Nat.le_of_ble_eq_true rfl)
theorem sX5_readLine_1_1 : ab_X rom K cX5_readLine 3 2 1 ls [.ref a, v0] hp = if ab_iso hp a 3 = true then (K 40 (.ref a :: []) hp).bind (fun o => ab_X rom K cX5_readLine 3 2 4 ls (o.1.toList ++ [v0]) o.2) else none := ay_virtual (as := []) (st := [v0]) dX5_readLine_1 kc_3_78 rfl rfl (Nat.le_of_ble_eq_true rfl)
theorem sX5_readLine_1_2 : ab_X rom K cX5_readLine 3 2 1 ls [.ref a, v0, v1] hp = if ab_iso hp a 3 = true then (K 40 (.ref a :: []) hp).bind (fun o => ab_X rom K cX5_readLine 3 2 4 ls (o.1.toList ++ [v0, v1]) o.2) else none := ay_virtual (as := []) (st := [v0, v1]) dX5_readLine_1 kc_3_78 rfl rfl (Nat.le_of_ble_eq_true rfl)
theorem sX5_readLine_1_3 : ab_X rom K cX5_readLine 3 2 1 ls [.ref a, v0, v1, v2] hp = if ab_iso hp a 3 = true then (K 40 (.ref a :: []) hp).bind (fun o => ab_X rom K cX5_readLine 3 2 4 ls (o.1.toList ++ [v0, v1, v2]) o.2) else none := ay_virtual (as := []) (st := [v0, v1, v2]) dX5_readLine_1 kc_3_78 rfl rfl (Nat.le_of_ble_eq_true rfl)
theorem dX5_readLine_4 : decode cX5_readLine 4 = .ok (.ifCond .ne 5, 3) := by decide +kernel
theorem sX5_readLine_4 : ab_X rom K cX5_readLine 3 2 4 ls (.int x :: st) hp = if x = 0 then ab_X rom K cX5_readLine 3 2 7 ls st hp else ab_X rom K cX5_readLine 3 2 9 ls st hp := ax_if_ne dX5_readLine_4 (by decide) rfl
theorem dX5_readLine_7 : decode cX5_readLine 7 = .ok (.iconst 0, 1) := by decide +kernel
theorem sX5_readLine_7 : ab_X rom K cX5_readLine 3 2 7 ls st hp = ab_X rom K cX5_readLine 3 2 8 ls (.int 0 :: st) hp := ax_iconst dX5_readLine_7 (by decide) rfl
theorem dX5_readLine_8 : decode cX5_readLine 8 = .ok (.ireturn, 1) := by decide +kernel
theorem sX5_readLine_8 : ab_X rom K cX5_readLine 3 2 8 ls [.int x] hp = if x = 0 ∨ x = 1 then some (some (.int x), hp) else none := ay_zret dX5_readLine_8 rfl
theorem dX5_readLine_9 : decode cX5_readLine 9 = .ok (.aload_n 0, 1) := by decide +kernel
theorem sX5_readLine_9 : ab_X rom K cX5_readLine 3 2 9 (.ref a :: ls) st hp = ab_X rom K cX5_readLine 3 2 10 (.ref a :: ls) (.ref a :: st) hp := ax_aload_n dX5_readLine_9 rfl rfl
theorem dX5_readLine_10 : decode cX5_readLine 10 = .ok (.getfield 34, 3) := by decide +kernel
theorem sX5_readLine_10 : ab_X rom K cX5_readLine 3 2 10 ls (.ref a :: st) hp = (ab_fld hp a 3 3).bind (fun v => ab_X rom K cX5_readLine 3 2 13 ls (v :: st) hp) := ax_getfield dX5_readLine_10 kf_3_34 rfl
theorem dX5_readLine_13 : decode cX5_readLine 13 = .ok (.getfield 81, 3) := by decide +kernel
theorem sX5_readLine_13 : ab_X rom K cX5_readLine 3 2 13 ls (.ref a :: st) hp = (ab_fld hp a 1 1).bind (fun v => ab_X rom K cX5_readLine 3 2 16 ls (v :: st) hp) := ax_getfield dX5_readLine_13 kf_3_81 rfl
theorem dX5_readLine_16 : decode cX5_readLine 16 = .ok (.bipush 10, 2) := by decide +kernel
theorem sX5_readLine_16 : ab_X rom K cX5_readLine 3 2 16 ls st hp = ab_X rom K cX5_readLine 3 2 18 ls (.int 10 :: st) hp := ax_bipush dX5_readLine_16 (by decide) rfl
theorem dX5_readLine_18 : decode cX5_readLine 18 = .ok (.if_icmp .lt 9, 3) := by decide +kernel
theorem sX5_readLine_18 : ab_X rom K cX5_readLine 3 2 18 ls (.int y :: .int x :: st) hp = if x < y then ab_X rom K cX5_readLine 3 2 27 ls st hp else ab_X rom K cX5_readLine 3 2 21 ls st hp := ax_icmp_lt dX5_readLine_18 (by decide) rfl
theorem dX5_readLine_21 : decode cX5_readLine 21 = .ok (.aload_n 0, 1) := by decide +kernel
theorem sX5_readLine_21 : ab_X rom K cX5_readLine 3 2 21 (.ref a :: ls) st hp = ab_X rom K cX5_readLine 3 2 22 (.ref a :: ls) (.ref a :: st) hp := ax_aload_n dX5_readLine_21 rfl rfl
theorem dX5_readLine_22 : decode cX5_readLine 22 = .ok (.iconst 4, 1) := by decide +kernel
theorem sX5_readLine_22 : ab_X rom K cX5_readLine 3 2 22 ls st hp = ab_X rom K cX5_readLine 3 2 23 ls (.int 4 :: st) hp := ax_iconst dX5_readLine_22 (by decide) rfl
theorem dX5_readLine_23 : decode cX5_readLine 23 = .ok (.invokevirtual 61, 3) := by decide +kernel
theorem sX5_readLine_23_0 : ab_X rom K cX5_readLine 3 2 23 ls [w1, .ref a] hp = if ab_iso hp a 3 = true then (K 52 (.ref a :: [w1]) hp).bind (fun o => ab_X rom K cX5_readLine 3 2 26 ls (o.1.toList ++ []) o.2) else none := ay_virtual (as := [w1]) (st := []) dX5_readLine_23 kc_3_61 rfl rfl (Nat.le_of_ble_eq_true rfl)
theorem sX5_readLine_23_1 : ab_X rom K cX5_readLine 3 2 23 ls [w1, .ref a, v0] hp = if ab_iso hp a 3 = true then (K 52 (.ref a :: [w1]) hp).bind (fun o => ab_X rom K cX5_readLine 3 2 26 ls (o.1.toList ++ [v0]) o.2) else none := ay_virtual (as := [w1]) (st := [v0]) dX5_readLine_23 kc_3_61 rfl rfl (Nat.le_of_ble_eq_true rfl)
theorem sX5_readLine_23_2 : ab_X rom K cX5_readLine 3 2 23 ls [w1, .ref a, v0, v1] hp = if ab_iso hp a 3 = true then (K 52 (.ref a :: [w1]) hp).bind (fun o => ab_X rom K cX5_readLine 3 2 26 ls (o.1.toList ++ [v0, v1]) o.2) else none := ay_virtual (as := [w1]) (st := [v0, v1]) dX5_readLine_23 kc_3_61 rfl rfl (Nat.le_of_ble_eq_true rfl)
theorem sX5_readLine_23_3 : ab_X rom K cX5_readLine 3 2 23 ls [w1, .ref a, v0, v1, v2] hp = if ab_iso hp a 3 = true then (K 52 (.ref a :: [w1]) hp).bind (fun o => ab_X rom K cX5_readLine 3 2 26 ls (o.1.toList ++ [v0, v1, v2]) o.2) else none := ay_virtual (as := [w1]) (st := [v0, v1, v2]) dX5_readLine_23 kc_3_61 rfl rfl (Nat.le_of_ble_eq_true rfl)
theorem dX5_readLine_26 : decode cX5_readLine 26 = .ok (.ireturn, 1) := by decide +kernel
theorem sX5_readLine_26 : ab_X rom K cX5_readLine 3 2 26 ls [.int x] hp = if x = 0 ∨ x = 1 then some (some (.int x), hp) else none := ay_zret dX5_readLine_26 rfl
theorem dX5_readLine_27 : decode cX5_readLine 27 = .ok (.aload_n 0, 1) := by decide +kernel
theorem sX5_readLine_27 : ab_X rom K cX5_readLine 3 2 27 (.ref a :: ls) st hp = ab_X rom K cX5_readLine 3 2 28 (.ref a :: ls) (.ref a :: st) hp := ax_aload_n dX5_readLine_27 rfl rfl
theorem dX5_readLine_28 : decode cX5_readLine 28 = .ok (.getfield 27, 3) := by decide +kernel
theorem sX5_readLine_28 : ab_X rom K cX5_readLine 3 2 28 ls (.ref a :: st) hp = (ab_fld hp a 3 7).bind (fun v => ab_X rom K cX5_readLine 3 2 31 ls (v :: st) hp) := ax_getfield dX5_readLine_28 kf_3_27 rfl
theorem dX5_readLine_31 : decode cX5_readLine 31 = .ok (.istore_n 1, 1) := by decide +kernel
theorem sX5_readLine_31i : ab_X rom K cX5_readLine 3 2 31 (.int y :: v1 :: ls) (.int x :: st) hp = ab_X rom K cX5_readLine 3 2 32 (.int y :: .int x :: ls) st hp := ax_istore_n dX5_readLine_31 (ax_lt (v := v1) rfl) (ab_nl_c1 (j := 0) (v := .int y) rfl (ab_c1_int _)) rfl rfl
theorem sX5_readLine_31r : ab_X rom K cX5_readLine 3 2 31 (.ref a2 :: v1 :: ls) (.int x :: st) hp = ab_X rom K cX5_readLine 3 2 32 (.ref a2 :: .int x :: ls) st hp := ax_istore_n dX5_readLine_31 (ax_lt (v := v1) rfl) (ab_nl_c1 (j := 0) (v := .ref a2) rfl (ab_c1_ref _)) rfl rfl
theorem sX5_readLine_31n : ab_X rom K cX5_readLine 3 2 31 (.null :: v1 :: ls) (.int x :: st) hp = ab_X rom K cX5_readLine 3 2 32 (.null :: .int x :: ls) st hp := ax_istore_n dX5_readLine_31 (ax_lt (v := v1) rfl) (ab_nl_c1 (j := 0) (v := .null) rfl ab_c1_null) rfl rfl
theorem dX5_readLine_32 : decode cX5_readLine 32 = .ok (.aload_n 0, 1) := by decide +kernel
theorem sX5_readLine_32 : ab_X rom K cX5_readLine 3 2 32 (.ref a :: ls) st hp = ab_X rom K cX5_readLine 3 2 33 (.ref a :: ls) (.ref a :: st) hp := ax_aload_n dX5_readLine_32 rfl rfl
theorem dX5_readLine_33 : decode cX5_readLine 33 = .ok (.invokevirtual 44, 3) := by decide +kernel
theorem sX5_readLine_33_0 : ab_X rom K cX5_readLine 3 2 33 ls [.ref a] hp = if ab_iso hp a 3 = true then (K 39 (.ref a :: []) hp).bind (fun o => ab_X rom K cX5_readLine 3 2 36 ls (o.1.toList ++ []) o.2) else none := ay_virtual (as := []) (st := []) dX5_readLine_33 kc_3_44 rfl rfl (Nat.le_of_ble_eq_true rfl)
theorem sX5_readLine_33_1 : ab_X rom K cX5_readLine 3 2 33 ls [.ref a, v0] hp = if ab_iso hp a 3 = true then (K 39 (.ref a :: []) hp).bind (fun o => ab_X rom K cX5_readLine 3 2 36 ls (o.1.toList ++ [v0]) o.2) else none := ay_virtual (as := []) (st := [v0]) dX5_readLine_33 kc_3_44 rfl rfl (Nat.le_of_ble_eq_true rfl)
theorem sX5_readLine_33_2 : ab_X rom K cX5_readLine 3 2 33 ls [.ref a, v0, v1] hp = if ab_iso hp a 3 = true then (K 39 (.ref a :: []) hp).bind (fun o => ab_X rom K cX5_readLine 3 2 36 ls (o.1.toList ++ [v0, v1]) o.2) else none := ay_virtual (as := []) (st := [v0, v1]) dX5_readLine_33 kc_3_44 rfl rfl (Nat.le_of_ble_eq_true rfl)
theorem sX5_readLine_33_3 : ab_X rom K cX5_readLine 3 2 33 ls [.ref a, v0, v1, v2] hp = if ab_iso hp a 3 = true then (K 39 (.ref a :: []) hp).bind (fun o => ab_X rom K cX5_readLine 3 2 36 ls (o.1.toList ++ [v0, v1, v2]) o.2) else none := ay_virtual (as := []) (st := [v0, v1, v2]) dX5_readLine_33 kc_3_44 rfl rfl (Nat.le_of_ble_eq_true rfl)
theorem dX5_readLine_36 : decode cX5_readLine 36 = .ok (.aload_n 0, 1) := by decide +kernel
theorem sX5_readLine_36 : ab_X rom K cX5_readLine 3 2 36 (.ref a :: ls) st hp = ab_X rom K cX5_readLine 3 2 37 (.ref a :: ls) (.ref a :: st) hp := ax_aload_n dX5_readLine_36 rfl rfl
theorem dX5_readLine_37 : decode cX5_readLine 37 = .ok (.bipush 45, 2) := by decide +kernel
theorem sX5_readLine_37 : ab_X rom K cX5_readLine 3 2 37 ls st hp = ab_X rom K cX5_readLine 3 2 39 ls (.int 45 :: st) hp := ax_bipush dX5_readLine_37 (by decide) rfl
theorem dX5_readLine_39 : decode cX5_readLine 39 = .ok (.invokevirtual 75, 3) := by decide +kernel
theorem sX5_readLine_39_0 : ab_X rom K cX5_readLine 3 2 39 ls [w1, .ref a] hp = if ab_iso hp a 3 = true then (K 44 (.ref a :: [w1]) hp).bind (fun o => ab_X rom K cX5_readLine 3 2 42 ls (o.1.toList ++ []) o.2) else none := ay_virtual (as := [w1]) (st := []) dX5_readLine_39 kc_3_75 rfl rfl (Nat.le_of_ble_eq_true rfl)
theorem sX5_readLine_39_1 : ab_X rom K cX5_readLine 3 2 39 ls [w1, .ref a, v0] hp = if ab_iso hp a 3 = true then (K 44 (.ref a :: [w1]) hp).bind (fun o => ab_X rom K cX5_readLine 3 2 42 ls (o.1.toList ++ [v0]) o.2) else none := ay_virtual (as := [w1]) (st := [v0]) dX5_readLine_39 kc_3_75 rfl rfl (Nat.le_of_ble_eq_true rfl)
theorem sX5_readLine_39_2 : ab_X rom K cX5_readLine 3 2 39 ls [w1, .ref a, v0, v1] hp = if ab_iso hp a 3 = true then (K 44 (.ref a :: [w1]) hp).bind (fun o => ab_X rom K cX5_readLine 3 2 42 ls (o.1.toList ++ [v0, v1]) o.2) else none := ay_virtual (as := [w1]) (st := [v0, v1]) dX5_readLine_39 kc_3_75 rfl rfl (Nat.le_of_ble_eq_true rfl)
theorem sX5_readLine_39_3 : ab_X rom K cX5_readLine 3 2 39 ls [w1, .ref a, v0, v1, v2] hp = if ab_iso hp a 3 = true then (K 44 (.ref a :: [w1]) hp).bind (fun o => ab_X rom K cX5_readLine 3 2 42 ls (o.1.toList ++ [v0, v1, v2]) o.2) else none := ay_virtual (as := [w1]) (st := [v0, v1, v2]) dX5_readLine_39 kc_3_75 rfl rfl (Nat.le_of_ble_eq_true rfl)
theorem dX5_readLine_42 : decode cX5_readLine 42 = .ok (.ifCond .eq 10, 3) := by decide +kernel
theorem sX5_readLine_42 : ab_X rom K cX5_readLine 3 2 42 ls (.int x :: st) hp = if x = 0 then ab_X rom K cX5_readLine 3 2 52 ls st hp else ab_X rom K cX5_readLine 3 2 45 ls st hp := ax_if_eq dX5_readLine_42 (by decide) rfl
theorem dX5_readLine_45 : decode cX5_readLine 45 = .ok (.aload_n 0, 1) := by decide +kernel
theorem sX5_readLine_45 : ab_X rom K cX5_readLine 3 2 45 (.ref a :: ls) st hp = ab_X rom K cX5_readLine 3 2 46 (.ref a :: ls) (.ref a :: st) hp := ax_aload_n dX5_readLine_45 rfl rfl
theorem dX5_readLine_46 : decode cX5_readLine 46 = .ok (.invokevirtual 78, 3) := by decide +kernel
theorem sX5_readLine_46_0 : ab_X rom K cX5_readLine 3 2 46 ls [.ref a] hp = if ab_iso hp a 3 = true then (K 40 (.ref a :: []) hp).bind (fun o => ab_X rom K cX5_readLine 3 2 49 ls (o.1.toList ++ []) o.2) else none := ay_virtual (as := []) (st := []) dX5_readLine_46 kc_3_78 rfl rfl (Nat.le_of_ble_eq_true rfl)
theorem sX5_readLine_46_1 : ab_X rom K cX5_readLine 3 2 46 ls [.ref a, v0] hp = if ab_iso hp a 3 = true then (K 40 (.ref a :: []) hp).bind (fun o => ab_X rom K cX5_readLine 3 2 49 ls (o.1.toList ++ [v0]) o.2) else none := ay_virtual (as := []) (st := [v0]) dX5_readLine_46 kc_3_78 rfl rfl (Nat.le_of_ble_eq_true rfl)
theorem sX5_readLine_46_2 : ab_X rom K cX5_readLine 3 2 46 ls [.ref a, v0, v1] hp = if ab_iso hp a 3 = true then (K 40 (.ref a :: []) hp).bind (fun o => ab_X rom K cX5_readLine 3 2 49 ls (o.1.toList ++ [v0, v1]) o.2) else none := ay_virtual (as := []) (st := [v0, v1]) dX5_readLine_46 kc_3_78 rfl rfl (Nat.le_of_ble_eq_true rfl)
theorem sX5_readLine_46_3 : ab_X rom K cX5_readLine 3 2 46 ls [.ref a, v0, v1, v2] hp = if ab_iso hp a 3 = true then (K 40 (.ref a :: []) hp).bind (fun o => ab_X rom K cX5_readLine 3 2 49 ls (o.1.toList ++ [v0, v1, v2]) o.2) else none := ay_virtual (as := []) (st := [v0, v1, v2]) dX5_readLine_46 kc_3_78 rfl rfl (Nat.le_of_ble_eq_true rfl)
theorem dX5_readLine_49 : decode cX5_readLine 49 = .ok (.ifCond .ne 5, 3) := by decide +kernel
theorem sX5_readLine_49 : ab_X rom K cX5_readLine 3 2 49 ls (.int x :: st) hp = if x = 0 then ab_X rom K cX5_readLine 3 2 52 ls st hp else ab_X rom K cX5_readLine 3 2 54 ls st hp := ax_if_ne dX5_readLine_49 (by decide) rfl
theorem dX5_readLine_52 : decode cX5_readLine 52 = .ok (.iconst 0, 1) := by decide +kernel
theorem sX5_readLine_52 : ab_X rom K cX5_readLine 3 2 52 ls st hp = ab_X rom K cX5_readLine 3 2 53 ls (.int 0 :: st) hp := ax_iconst dX5_readLine_52 (by decide) rfl
theorem dX5_readLine_53 : decode cX5_readLine 53 = .ok (.ireturn, 1) := by decide +kernel
theorem sX5_readLine_53 : ab_X rom K cX5_readLine 3 2 53 ls [.int x] hp = if x = 0 ∨ x = 1 then some (some (.int x), hp) else none := ay_zret dX5_readLine_53 rfl
theorem dX5_readLine_54 : decode cX5_readLine 54 = .ok (.aload_n 0, 1) := by decide +kernel
theorem sX5_readLine_54 : ab_X rom K cX5_readLine 3 2 54 (.ref a :: ls) st hp = ab_X rom K cX5_readLine 3 2 55 (.ref a :: ls) (.ref a :: st) hp := ax_aload_n dX5_readLine_54 rfl rfl
theorem dX5_readLine_55 : decode cX5_readLine 55 = .ok (.getfield 27, 3) := by decide +kernel
theorem sX5_readLine_55 : ab_X rom K cX5_readLine 3 2 55 ls (.ref a :: st) hp = (ab_fld hp a 3 7).bind (fun v => ab_X rom K cX5_readLine 3 2 58 ls (v :: st) hp) := ax_getfield dX5_readLine_55 kf_3_27 rfl
theorem dX5_readLine_58 : decode cX5_readLine 58 = .ok (.iload_n 1, 1) := by decide +kernel
theorem sX5_readLine_58 : ab_X rom K cX5_readLine 3 2 58 (v0 :: .int x :: ls) st hp = ab_X rom K cX5_readLine 3 2 59 (v0 :: .int x :: ls) (.int x :: st) hp := ax_iload_n dX5_readLine_58 rfl rfl
theorem dX5_readLine_59 : decode cX5_readLine 59 = .ok (.if_icmp .ne 9, 3) := by decide +kernel
theorem sX5_readLine_59 : ab_X rom K cX5_readLine 3 2 59 ls (.int y :: .int x :: st) hp = if x = y then ab_X rom K cX5_readLine 3 2 62 ls st hp else ab_X rom K cX5_readLine 3 2 68 ls st hp := ax_icmp_ne dX5_readLine_59 (by decide) rfl
theorem dX5_readLine_62 : decode cX5_readLine 62 = .ok (.aload_n 0, 1) := by decide +kernel
theorem sX5_readLine_62 : ab_X rom K cX5_readLine 3 2 62 (.ref a :: ls) st hp = ab_X rom K cX5_readLine 3 2 63 (.ref a :: ls) (.ref a :: st) hp := ax_aload_n dX5_readLine_62 rfl rfl
theorem dX5_readLine_63 : decode cX5_readLine 63 = .ok (.iconst 2, 1) := by decide +kernel
theorem sX5_readLine_63 : ab_X rom K cX5_readLine 3 2 63 ls st hp = ab_X rom K cX5_readLine 3 2 64 ls (.int 2 :: st) hp := ax_iconst dX5_readLine_63 (by decide) rfl
theorem dX5_readLine_64 : decode cX5_readLine 64 = .ok (.invokevirtual 61, 3) := by decide +kernel
theorem sX5_readLine_64_0 : ab_X rom K cX5_readLine 3 2 64 ls [w1, .ref a] hp = if ab_iso hp a 3 = true then (K 52 (.ref a :: [w1]) hp).bind (fun o => ab_X rom K cX5_readLine 3 2 67 ls (o.1.toList ++ []) o.2) else none := ay_virtual (as := [w1]) (st := []) dX5_readLine_64 kc_3_61 rfl rfl (Nat.le_of_ble_eq_true rfl)
theorem sX5_readLine_64_1 : ab_X rom K cX5_readLine 3 2 64 ls [w1, .ref a, v0] hp = if ab_iso hp a 3 = true then (K 52 (.ref a :: [w1]) hp).bind (fun o => ab_X rom K cX5_readLine 3 2 67 ls (o.1.toList ++ [v0]) o.2) else none := ay_virtual (as := [w1]) (st := [v0]) dX5_readLine_64 kc_3_61 rfl rfl (Nat.le_of_ble_eq_true rfl)
theorem sX5_readLine_64_2 : ab_X rom K cX5_readLine 3 2 64 ls [w1, .ref a, v0, v1] hp = if ab_iso hp a 3 = true then (K 52 (.ref a :: [w1]) hp).bind (fun o => ab_X rom K cX5_readLine 3 2 67 ls (o.1.toList ++ [v0, v1]) o.2) else none := ay_virtual (as := [w1]) (st := [v0, v1]) dX5_readLine_64 kc_3_61 rfl rfl (Nat.le_of_ble_eq_true rfl)
theorem sX5_readLine_64_3 : ab_X rom K cX5_readLine 3 2 64 ls [w1, .ref a, v0, v1, v2] hp = if ab_iso hp a 3 = true then (K 52 (.ref a :: [w1]) hp).bind (fun o => ab_X rom K cX5_readLine 3 2 67 ls (o.1.toList ++ [v0, v1, v2]) o.2) else none := ay_virtual (as := [w1]) (st := [v0, v1, v2]) dX5_readLine_64 kc_3_61 rfl rfl (Nat.le_of_ble_eq_true rfl)
theorem dX5_readLine_67 : decode cX5_readLine 67 = .ok (.ireturn, 1) := by decide +kernel
theorem sX5_readLine_67 : ab_X rom K cX5_readLine 3 2 67 ls [.int x] hp = if x = 0 ∨ x = 1 then some (some (.int x), hp) else none := ay_zret dX5_readLine_67 rfl
theorem dX5_readLine_68 : decode cX5_readLine 68 = .ok (.aload_n 0, 1) := by decide +kernel
theorem sX5_readLine_68 : ab_X rom K cX5_readLine 3 2 68 (.ref a :: ls) st hp = ab_X rom K cX5_readLine 3 2 69 (.ref a :: ls) (.ref a :: st) hp := ax_aload_n dX5_readLine_68 rfl rfl
theorem dX5_readLine_69 : decode cX5_readLine 69 = .ok (.getfield 34, 3) := by decide +kernel
theorem sX5_readLine_69 : ab_X rom K cX5_readLine 3 2 69 ls (.ref a :: st) hp = (ab_fld hp a 3 3).bind (fun v => ab_X rom K cX5_readLine 3 2 72 ls (v :: st) hp) := ax_getfield dX5_readLine_69 kf_3_34 rfl
theorem dX5_readLine_72 : decode cX5_readLine 72 = .ok (.iload_n 1, 1) := by decide +kernel
theorem sX5_readLine_72 : ab_X rom K cX5_readLine 3 2 72 (v0 :: .int x :: ls) st hp = ab_X rom K cX5_readLine 3 2 73 (v0 :: .int x :: ls) (.int x :: st) hp := ax_iload_n dX5_readLine_72 rfl rfl
theorem dX5_readLine_73 : decode cX5_readLine 73 = .ok (.aload_n 0, 1) := by decide +kernel
theorem sX5_readLine_73 : ab_X rom K cX5_readLine 3 2 73 (.ref a :: ls) st hp = ab_X rom K cX5_readLine 3 2 74 (.ref a :: ls) (.ref a :: st) hp := ax_aload_n dX5_readLine_73 rfl rfl
theorem dX5_readLine_74 : decode cX5_readLine 74 = .ok (.getfield 27, 3) := by decide +kernel
theorem sX5_readLine_74 : ab_X rom K cX5_readLine 3 2 74 ls (.ref a :: st) hp = (ab_fld hp a 3 7).bind (fun v => ab_X rom K cX5_readLine 3 2 77 ls (v :: st) hp) := ax_getfield dX5_readLine_74 kf_3_27 rfl
theorem dX5_readLine_77 : decode cX5_readLine 77 = .ok (.invokevirtual 84, 3) := by decide +kernel
theorem sX5_readLine_77_0 : ab_X rom K cX5_readLine 3 2 77 ls [w2, w1, .ref a] hp = if ab_iso hp a 1 = true then (K 20 (.ref a :: [w1, w2]) hp).bind (fun o => ab_X rom K cX5_readLine 3 2 80 ls (o.1.toList ++ []) o.2) else none := ay_virtual (as := [w1, w2]) (st := []) dX5_readLine_77 kc_3_84 rfl rfl (Nat.le_of_ble_eq_true rfl)
theorem sX5_readLine_77_1 : ab_X rom K cX5_readLine 3 2 77 ls [w2, w1, .ref a, v0] hp = if ab_iso hp a 1 = true then (K 20 (.ref a :: [w1, w2]) hp).bind (fun o => ab_X rom K cX5_readLine 3 2 80 ls (o.1.toList ++ [v0]) o.2) else none := ay_virtual (as := [w1, w2]) (st := [v0]) dX5_readLine_77 kc_3_84 rfl rfl (Nat.le_of_ble_eq_true rfl)
theorem sX5_readLine_77_2 : ab_X rom K cX5_readLine 3 2 77 ls [w2, w1, .ref a, v0, v1] hp = if ab_iso hp a 1 = true then (K 20 (.ref a :: [w1, w2]) hp).bind (fun o => ab_X rom K cX5_readLine 3 2 80 ls (o.1.toList ++ [v0, v1]) o.2) else none := ay_virtual (as := [w1, w2]) (st := [v0, v1]) dX5_readLine_77 kc_3_84 rfl rfl (Nat.le_of_ble_eq_true rfl)
theorem sX5_readLine_77_3 : ab_X rom K cX5_readLine 3 2 77 ls [w2, w1, .ref a, v0, v1, v2] hp = if ab_iso hp a 1 = true then (K 20 (.ref a :: [w1, w2]) hp).bind (fun o => ab_X rom K cX5_readLine 3 2 80 ls (o.1.toList ++ [v0, v1, v2]) o.2) else none := ay_virtual (as := [w1, w2]) (st := [v0, v1, v2]) dX5_readLine_77 kc_3_84 rfl rfl (Nat.le_of_ble_eq_true rfl)
theorem dX5_readLine_80 : decode cX5_readLine 80 = .ok (.iconst (-1), 1) := by decide +kernel
theorem sX5_readLine_80 : ab_X rom K cX5_readLine 3 2 80 ls st hp = ab_X rom K cX5_readLine 3 2 81 ls (.int (-1) :: st) hp := ax_iconst dX5_readLine_80 (by decide) rfl
theorem dX5_readLine_81 : decode cX5_readLine 81 = .ok (.if_icmp .eq 9, 3) := by decide +kernel
theorem sX5_readLine_81 : ab_X rom K cX5_readLine 3 2 81 ls (.int y :: .int x :: st) hp = if x = y then ab_X rom K cX5_readLine 3 2 90 ls st hp else ab_X rom K cX5_readLine 3 2 84 ls st hp := ax_icmp_eq dX5_readLine_81 (by decide) rfl
theorem dX5_readLine_84 : decode cX5_readLine 84 = .ok (.aload_n 0, 1) := by decide +kernel
theorem sX5_readLine_84 : ab_X rom K cX5_readLine 3 2 84 (.ref a :: ls) st hp = ab_X rom K cX5_readLine 3 2 85 (.ref a :: ls) (.ref a :: st) hp := ax_aload_n dX5_readLine_84 rfl rfl
theorem dX5_readLine_85 : decode cX5_readLine 85 = .ok (.iconst 3, 1) := by decide +kernel
theorem sX5_readLine_85 : ab_X rom K cX5_readLine 3 2 85 ls st hp = ab_X rom K cX5_readLine 3 2 86 ls (.int 3 :: st) hp := ax_iconst dX5_readLine_85 (by decide) rfl
theorem dX5_readLine_86 : decode cX5_readLine 86 = .ok (.invokevirtual 61, 3) := by decide +kernel
theorem sX5_readLine_86_0 : ab_X rom K cX5_readLine 3 2 86 ls [w1, .ref a] hp = if ab_iso hp a 3 = true then (K 52 (.ref a :: [w1]) hp).bind (fun o => ab_X rom K cX5_readLine 3 2 89 ls (o.1.toList ++ []) o.2) else none := ay_virtual (as := [w1]) (st := []) dX5_readLine_86 kc_3_61 rfl rfl (Nat.le_of_ble_eq_true rfl)
theorem sX5_readLine_86_1 : ab_X rom K cX5_readLine 3 2 86 ls [w1, .ref a, v0] hp = if ab_iso hp a 3 = true then (K 52 (.ref a :: [w1]) hp).bind (fun o => ab_X rom K cX5_readLine 3 2 89 ls (o.1.toList ++ [v0]) o.2) else none := ay_virtual (as := [w1]) (st := [v0]) dX5_readLine_86 kc_3_61 rfl rfl (Nat.le_of_ble_eq_true rfl)
theorem sX5_readLine_86_2 : ab_X rom K cX5_readLine 3 2 86 ls [w1, .ref a, v0, v1] hp = if ab_iso hp a 3 = true then (K 52 (.ref a :: [w1]) hp).bind (fun o => ab_X rom K cX5_readLine 3 2 89 ls (o.1.toList ++ [v0, v1]) o.2) else none := ay_virtual (as := [w1]) (st := [v0, v1]) dX5_readLine_86 kc_3_61 rfl rfl (Nat.le_of_ble_eq_true rfl)
theorem sX5_readLine_86_3 : ab_X rom K cX5_readLine 3 2 86 ls [w1, .ref a, v0, v1, v2] hp = if ab_iso hp a 3 = true then (K 52 (.ref a :: [w1]) hp).bind (fun o => ab_X rom K cX5_readLine 3 2 89 ls (o.1.toList ++ [v0, v1, v2]) o.2) else none := ay_virtual (as := [w1]) (st := [v0, v1, v2]) dX5_readLine_86 kc_3_61 rfl rfl (Nat.le_of_ble_eq_true rfl)
theorem dX5_readLine_89 : decode cX5_readLine 89 = .ok (.ireturn, 1) := by decide +kernel
theorem sX5_readLine_89 : ab_X rom K cX5_readLine 3 2 89 ls [.int x] hp = if x = 0 ∨ x = 1 then some (some (.int x), hp) else none := ay_zret dX5_readLine_89 rfl
theorem dX5_readLine_90 : decode cX5_readLine 90 = .ok (.aload_n 0, 1) := by decide +kernel
theorem sX5_readLine_90 : ab_X rom K cX5_readLine 3 2 90 (.ref a :: ls) st hp = ab_X rom K cX5_readLine 3 2 91 (.ref a :: ls) (.ref a :: st) hp := ax_aload_n dX5_readLine_90 rfl rfl
theorem dX5_readLine_91 : decode cX5_readLine 91 = .ok (.getfield 34, 3) := by decide +kernel
theorem sX5_readLine_91 : ab_X rom K cX5_readLine 3 2 91 ls (.ref a :: st) hp = (ab_fld hp a 3 3).bind (fun v => ab_X rom K cX5_readLine 3 2 94 ls (v :: st) hp) := ax_getfield dX5_readLine_91 kf_3_34 rfl
theorem dX5_readLine_94 : decode cX5_readLine 94 = .ok (.iload_n 1, 1) := by decide +kernel
theorem sX5_readLine_94 : ab_X rom K cX5_readLine 3 2 94 (v0 :: .int x :: ls) st hp = ab_X rom K cX5_readLine 3 2 95 (v0 :: .int x :: ls) (.int x :: st) hp := ax_iload_n dX5_readLine_94 rfl rfl
theorem dX5_readLine_95 : decode cX5_readLine 95 = .ok (.aload_n 0, 1) := by decide +kernel
theorem sX5_readLine_95 : ab_X rom K cX5_readLine 3 2 95 (.ref a :: ls) st hp = ab_X rom K cX5_readLine 3 2 96 (.ref a :: ls) (.ref a :: st) hp := ax_aload_n dX5_readLine_95 rfl rfl
theorem dX5_readLine_96 : decode cX5_readLine 96 = .ok (.getfield 27, 3) := by decide +kernel
theorem sX5_readLine_96 : ab_X rom K cX5_readLine 3 2 96 ls (.ref a :: st) hp = (ab_fld hp a 3 7).bind (fun v => ab_X rom K cX5_readLine 3 2 99 ls (v :: st) hp) := ax_getfield dX5_readLine_96 kf_3_27 rfl
theorem dX5_readLine_99 : decode cX5_readLine 99 = .ok (.invokevirtual 88, 3) := by decide +kernel
theorem sX5_readLine_99_0 : ab_X rom K cX5_readLine 3 2 99 ls [w2, w1, .ref a] hp = if ab_iso hp a 1 = true then (K 22 (.ref a :: [w1, w2]) hp).bind (fun o => ab_X rom K cX5_readLine 3 2 102 ls (o.1.toList ++ []) o.2) else none := ay_virtual (as := [w1, w2]) (st := []) dX5_readLine_99 kc_3_88 rfl rfl (Nat.le_of_ble_eq_true rfl)
theorem sX5_readLine_99_1 : ab_X rom K cX5_readLine 3 2 99 ls [w2, w1, .ref a, v0] hp = if ab_iso hp a 1 = true then (K 22 (.ref a :: [w1, w2]) hp).bind (fun o => ab_X rom K cX5_readLine 3 2 102 ls (o.1.toList ++ [v0]) o.2) else none := ay_virtual (as := [w1, w2]) (st := [v0]) dX5_readLine_99 kc_3_88 rfl rfl (Nat.le_of_ble_eq_true rfl)
theorem sX5_readLine_99_2 : ab_X rom K cX5_readLine 3 2 99 ls [w2, w1, .ref a, v0, v1] hp = if ab_iso hp a 1 = true then (K 22 (.ref a :: [w1, w2]) hp).bind (fun o => ab_X rom K cX5_readLine 3 2 102 ls (o.1.toList ++ [v0, v1]) o.2) else none := ay_virtual (as := [w1, w2]) (st := [v0, v1]) dX5_readLine_99 kc_3_88 rfl rfl (Nat.le_of_ble_eq_true rfl)
theorem sX5_readLine_99_3 : ab_X rom K cX5_readLine 3 2 99 ls [w2, w1, .ref a, v0, v1, v2] hp = if ab_iso hp a 1 = true then (K 22 (.ref a :: [w1, w2]) hp).bind (fun o => ab_X rom K cX5_readLine 3 2 102 ls (o.1.toList ++ [v0, v1, v2]) o.2) else none := ay_virtual (as := [w1, w2]) (st := [v0, v1, v2]) dX5_readLine_99 kc_3_88 rfl rfl (Nat.le_of_ble_eq_true rfl)
theorem dX5_readLine_102 : decode cX5_readLine 102 = .ok (.aload_n 0, 1) := by decide +kernel
theorem sX5_readLine_102 : ab_X rom K cX5_readLine 3 2 102 (.ref a :: ls) st hp = ab_X rom K cX5_readLine 3 2 103 (.ref a :: ls) (.ref a :: st) hp := ax_aload_n dX5_readLine_102 rfl rfl
theorem dX5_readLine_103 : decode cX5_readLine 103 = .ok (.invokevirtual 44, 3) := by decide +kernel
theorem sX5_readLine_103_0 : ab_X rom K cX5_readLine 3 2 103 ls [.ref a] hp = if ab_iso hp a 3 = true then (K 39 (.ref a :: []) hp).bind (fun o => ab_X rom K cX5_readLine 3 2 106 ls (o.1.toList ++ []) o.2) else none := ay_virtual (as := []) (st := []) dX5_readLine_103 kc_3_44 rfl rfl (Nat.le_of_ble_eq_true rfl)
theorem sX5_readLine_103_1 : ab_X rom K cX5_readLine 3 2 103 ls [.ref a, v0] hp = if ab_iso hp a 3 = true then (K 39 (.ref a :: []) hp).bind (fun o => ab_X rom K cX5_readLine 3 2 106 ls (o.1.toList ++ [v0]) o.2) else none := ay_virtual (as := []) (st := [v0]) dX5_readLine_103 kc_3_44 rfl rfl (Nat.le_of_ble_eq_true rfl)
theorem sX5_readLine_103_2 : ab_X rom K cX5_readLine 3 2 103 ls [.ref a, v0, v1] hp = if ab_iso hp a 3 = true then (K 39 (.ref a :: []) hp).bind (fun o => ab_X rom K cX5_readLine 3 2 106 ls (o.1.toList ++ [v0, v1]) o.2) else none := ay_virtual (as := []) (st := [v0, v1]) dX5_readLine_103 kc_3_44 rfl rfl (Nat.le_of_ble_eq_true rfl)
theorem sX5_readLine_103_3 : ab_X rom K cX5_readLine 3 2 103 ls [.ref a, v0, v1, v2] hp = if ab_iso hp a 3 = true then (K 39 (.ref a :: []) hp).bind (fun o => ab_X rom K cX5_readLine 3 2 106 ls (o.1.toList ++ [v0, v1, v2]) o.2) else none := ay_virtual (as := []) (st := [v0, v1, v2]) dX5_readLine_103 kc_3_44 rfl rfl (Nat.le_of_ble_eq_true rfl)
theorem dX5_readLine_106 : decode cX5_readLine 106 = .ok (.iconst 1, 1) := by decide +kernel
theorem sX5_readLine_106 : ab_X rom K cX5_readLine 3 2 106 ls st hp = ab_X rom K cX5_readLine 3 2 107 ls (.int 1 :: st) hp := ax_iconst dX5_readLine_106 (by decide) rfl
theorem dX5_readLine_107 : decode cX5_readLine 107 = .ok (.ireturn, 1) := by decide +kernel
theorem sX5_readLine_107 : ab_X rom K cX5_readLine 3 2 107 ls [.int x] hp = if x = 0 ∨ x = 1 then some (some (.int x), hp) else none := ay_zret dX5_readLine_107 rfl
theorem tX5_readLines : ab_mT[50]? = some (yX5_readLines, cX5_readLines, 2, 2, 3) := by decide +kernel
theorem mX5_readLines {d : Nat} {a0 : Nat} : ab_M rom (d + 1) 50 [.ref a0] hp = ab_X rom (ab_M rom d) cX5_readLines 3 2 0 [.ref a0, .null] [] hp := ab_M_eq tX5_readLines (Nat.le_of_ble_eq_true rfl)
theorem dX5_readLines_0 : decode cX5_readLines 0 = .ok (.iconst 0, 1) := by decide +kernel
theorem sX5_readLines_0 : ab_X rom K cX5_readLines 3 2 0 ls st hp = ab_X rom K cX5_readLines 3 2 1 ls (.int 0 :: st) hp := ax_iconst dX5_readLines_0 (by decide) rfl
theorem dX5_readLines_1 : decode cX5_readLines 1 = .ok (.istore_n 1, 1) := by decide +kernel
theorem sX5_readLines_1i : ab_X rom K cX5_readLines 3 2 1 (.int y :: v1 :: ls) (.int x :: st) hp = ab_X rom K cX5_readLines 3 2 2 (.int y :: .int x :: ls) st hp := ax_istore_n dX5_readLines_1 (ax_lt (v := v1) rfl) (ab_nl_c1 (j := 0) (v := .int y) rfl (ab_c1_int _)) rfl rfl
theorem sX5_readLines_1r : ab_X rom K cX5_readLines 3 2 1 (.ref a2 :: v1 :: ls) (.int x :: st) hp = ab_X rom K cX5_readLines 3 2 2 (.ref a2 :: .int x :: ls) st hp := ax_istore_n dX5_readLines_1 (ax_lt (v := v1) rfl) (ab_nl_c1 (j := 0) (v := .ref a2) rfl (ab_c1_ref _)) rfl rfl
theorem sX5_readLines_1n : ab_X rom K cX5_readLines 3 2 1 (.null :: v1 :: ls) (.int x :: st) hp = ab_X rom K cX5_readLines 3 2 2 (.null :: .int x :: ls) st hp := ax_istore_n dX5_readLines_1 (ax_lt (v := v1) rfl) (ab_nl_c1 (j := 0) (v := .null) rfl ab_c1_null) rfl rfl
theorem dX5_readLines_2 : decode cX5_readLines 2 = .ok (.iload_n 1, 1) := by decide +kernel
theorem sX5_readLines_2 : ab_X rom K cX5_readLines 3 2 2 (v0 :: .int x :: ls) st hp = ab_X rom K cX5_readLines 3 2 3 (v0 :: .int x :: ls) (.int x :: st) hp := ax_iload_n dX5_readLines_2 rfl rfl
theorem dX5_readLines_3 : decode cX5_readLines 3 = .ok (.bipush 10, 2) := by decide +kernel
theorem sX5_readLines_3 : ab_X rom K cX5_readLines 3 2 3 ls st hp = ab_X rom K cX5_readLines 3 2 5 ls (.int 10 :: st) hp := ax_bipush dX5_readLines_3 (by decide) rfl
theorem dX5_readLines_5 : decode cX5_readLines 5 = .ok (.if_icmp .gt 40, 3) := by decide +kernel
theorem sX5_readLines_5 : ab_X rom K cX5_readLines 3 2 5 ls (.int y :: .int x :: st) hp = if y < x then ab_X rom K cX5_readLines 3 2 45 ls st hp else ab_X rom K cX5_readLines 3 2 8 ls st hp := ax_icmp_gt dX5_readLines_5 (by decide) rfl
theorem dX5_readLines_8 : decode cX5_readLines 8 = .ok (.aload_n 0, 1) := by decide +kernel
theorem sX5_readLines_8 : ab_X rom K cX5_readLines 3 2 8 (.ref a :: ls) st hp = ab_X rom K cX5_readLines 3 2 9 (.ref a :: ls) (.ref a :: st) hp := ax_aload_n dX5_readLines_8 rfl rfl
theorem dX5_readLines_9 : decode cX5_readLines 9 = .ok (.iload_n 1, 1) := by decide +kernel
theorem sX5_readLines_9 : ab_X rom K cX5_readLines 3 2 9 (v0 :: .int x :: ls) st hp = ab_X rom K cX5_readLines 3 2 10 (v0 :: .int x :: ls) (.int x :: st) hp := ax_iload_n dX5_readLines_9 rfl rfl
theorem dX5_readLines_10 : decode cX5_readLines 10 = .ok (.ifCond .ne 8, 3) := by decide +kernel
theorem sX5_readLines_10 : ab_X rom K cX5_readLines 3 2 10 ls (.int x :: st) hp = if x = 0 then ab_X rom K cX5_readLines 3 2 13 ls st hp else ab_X rom K cX5_readLines 3 2 18 ls st hp := ax_if_ne dX5_readLines_10 (by decide) rfl
theorem dX5_readLines_13 : decode cX5_readLines 13 = .ok (.bipush 58, 2) := by decide +kernel
theorem sX5_readLines_13 : ab_X rom K cX5_readLines 3 2 13 ls st hp = ab_X rom K cX5_readLines 3 2 15 ls (.int 58 :: st) hp := ax_bipush dX5_readLines_13 (by decide) rfl
theorem dX5_readLines_15 : decode cX5_readLines 15 = .ok (.goto 5, 3) := by decide +kernel
theorem sX5_readLines_15 : ab_X rom K cX5_readLines 3 2 15 ls st hp = ab_X rom K cX5_readLines 3 2 20 ls st hp := ax_goto dX5_readLines_15 (by decide)
theorem dX5_readLines_18 : decode cX5_readLines 18 = .ok (.bipush 44, 2) := by decide +kernel
theorem sX5_readLines_18 : ab_X rom K cX5_readLines 3 2 18 ls st hp = ab_X rom K cX5_readLines 3 2 20 ls (.int 44 :: st) hp := ax_bipush dX5_readLines_18 (by decide) rfl
theorem dX5_readLines_20 : decode cX5_readLines 20 = .ok (.invokevirtual 57, 3) := by decide +kernel
theorem sX5_readLines_20_0 : ab_X rom K cX5_readLines 3 2 20 ls [w1, .ref a] hp = if ab_iso hp a 3 = true then (K 41 (.ref a :: [w1]) hp).bind (fun o => ab_X rom K cX5_readLines 3 2 23 ls (o.1.toList ++ []) o.2) else none := ay_virtual (as := [w1]) (st := []) dX5_readLines_20 kc_3_57 rfl rfl (Nat.le_of_ble_eq_true rfl)
theorem sX5_readLines_20_1 : ab_X rom K cX5_readLines 3 2 20 ls [w1, .ref a, v0] hp = if ab_iso hp a 3 = true then (K 41 (.ref a :: [w1]) hp).bind (fun o => ab_X rom K cX5_readLines 3 2 23 ls (o.1.toList ++ [v0]) o.2) else none := ay_virtual (as := [w1]) (st := [v0]) dX5_readLines_20 kc_3_57 rfl rfl (Nat.le_of_ble_eq_true rfl)
theorem sX5_readLines_20_2 : ab_X rom K cX5_readLines 3 2 20 ls [w1, .ref a, v0, v1] hp = if ab_iso hp a 3 = true then (K 41 (.ref a :: [w1]) hp).bind (fun o => ab_X rom K cX5_readLines 3 2 23 ls (o.1.toList ++ [v0, v1]) o.2) else none := ay_virtual (as := [w1]) (st := [v0, v1]) dX5_readLines_20 kc_3_57 rfl rfl (Nat.le_of_ble_eq_true rfl)
theorem sX5_readLines_20_3 : ab_X rom K cX5_readLines 3 2 20 ls [w1, .ref a, v0, v1, v2] hp = if ab_iso hp a 3 = true then (K 41 (.ref a :: [w1]) hp).bind (fun o => ab_X rom K cX5_readLines 3 2 23 ls (o.1.toList ++ [v0, v1, v2]) o.2) else none := ay_virtual (as := [w1]) (st := [v0, v1, v2]) dX5_readLines_20 kc_3_57 rfl rfl (Nat.le_of_ble_eq_true rfl)
theorem dX5_readLines_23 : decode cX5_readLines 23 = .ok (.ifCond .eq 22, 3) := by decide +kernel
theorem sX5_readLines_23 : ab_X rom K cX5_readLines 3 2 23 ls (.int x :: st) hp = if x = 0 then ab_X rom K cX5_readLines 3 2 45 ls st hp else ab_X rom K cX5_readLines 3 2 26 ls st hp := ax_if_eq dX5_readLines_23 (by decide) rfl
theorem dX5_readLines_26 : decode cX5_readLines 26 = .ok (.aload_n 0, 1) := by decide +kernel
theorem sX5_readLines_26 : ab_X rom K cX5_readLines 3 2 26 (.ref a :: ls) st hp = ab_X rom K cX5_readLines 3 2 27 (.ref a :: ls) (.ref a :: st) hp := ax_aload_n dX5_readLines_26 rfl rfl
theorem dX5_readLines_27 : decode cX5_readLines 27 = .ok (.invokevirtual 44, 3) := by decide +kernel
theorem sX5_readLines_27_0 : ab_X rom K cX5_readLines 3 2 27 ls [.ref a] hp = if ab_iso hp a 3 = true then (K 39 (.ref a :: []) hp).bind (fun o => ab_X rom K cX5_readLines 3 2 30 ls (o.1.toList ++ []) o.2) else none := ay_virtual (as := []) (st := []) dX5_readLines_27 kc_3_44 rfl rfl (Nat.le_of_ble_eq_true rfl)
theorem sX5_readLines_27_1 : ab_X rom K cX5_readLines 3 2 27 ls [.ref a, v0] hp = if ab_iso hp a 3 = true then (K 39 (.ref a :: []) hp).bind (fun o => ab_X rom K cX5_readLines 3 2 30 ls (o.1.toList ++ [v0]) o.2) else none := ay_virtual (as := []) (st := [v0]) dX5_readLines_27 kc_3_44 rfl rfl (Nat.le_of_ble_eq_true rfl)
theorem sX5_readLines_27_2 : ab_X rom K cX5_readLines 3 2 27 ls [.ref a, v0, v1] hp = if ab_iso hp a 3 = true then (K 39 (.ref a :: []) hp).bind (fun o => ab_X rom K cX5_readLines 3 2 30 ls (o.1.toList ++ [v0, v1]) o.2) else none := ay_virtual (as := []) (st := [v0, v1]) dX5_readLines_27 kc_3_44 rfl rfl (Nat.le_of_ble_eq_true rfl)
theorem sX5_readLines_27_3 : ab_X rom K cX5_readLines 3 2 27 ls [.ref a, v0, v1, v2] hp = if ab_iso hp a 3 = true then (K 39 (.ref a :: []) hp).bind (fun o => ab_X rom K cX5_readLines 3 2 30 ls (o.1.toList ++ [v0, v1, v2]) o.2) else none := ay_virtual (as := []) (st := [v0, v1, v2]) dX5_readLines_27 kc_3_44 rfl rfl (Nat.le_of_ble_eq_true rfl)
theorem dX5_readLines_30 : decode cX5_readLines 30 = .ok (.aload_n 0, 1) := by decide +kernel
theorem sX5_readLines_30 : ab_X rom K cX5_readLines 3 2 30 (.ref a :: ls) st hp = ab_X rom K cX5_readLines 3 2 31 (.ref a :: ls) (.ref a :: st) hp := ax_aload_n dX5_readLines_30 rfl rfl
theorem dX5_readLines_31 : decode cX5_readLines 31 = .ok (.invokevirtual 72, 3) := by decide +kernel
theorem sX5_readLines_31_0 : ab_X rom K cX5_readLines 3 2 31 ls [.ref a] hp = if ab_iso hp a 3 = true then (K 49 (.ref a :: []) hp).bind (fun o => ab_X rom K cX5_readLines 3 2 34 ls (o.1.toList ++ []) o.2) else none := ay_virtual (as := []) (st := []) dX5_readLines_31 kc_3_72 rfl rfl (Nat.le_of_ble_eq_true rfl)
theorem sX5_readLines_31_1 : ab_X rom K cX5_readLines 3 2 31 ls [.ref a, v0] hp = if ab_iso hp a 3 = true then (K 49 (.ref a :: []) hp).bind (fun o => ab_X rom K cX5_readLines 3 2 34 ls (o.1.toList ++ [v0]) o.2) else none := ay_virtual (as := []) (st := [v0]) dX5_readLines_31 kc_3_72 rfl rfl (Nat.le_of_ble_eq_true rfl)
theorem sX5_readLines_31_2 : ab_X rom K cX5_readLines 3 2 31 ls [.ref a, v0, v1] hp = if ab_iso hp a 3 = true then (K 49 (.ref a :: []) hp).bind (fun o => ab_X rom K cX5_readLines 3 2 34 ls (o.1.toList ++ [v0, v1]) o.2) else none := ay_virtual (as := []) (st := [v0, v1]) dX5_readLines_31 kc_3_72 rfl rfl (Nat.le_of_ble_eq_true rfl)
theorem sX5_readLines_31_3 : ab_X rom K cX5_readLines 3 2 31 ls [.ref a, v0, v1, v2] hp = if ab_iso hp a 3 = true then (K 49 (.ref a :: []) hp).bind (fun o => ab_X rom K cX5_readLines 3 2 34 ls (o.1.toList ++ [v0, v1, v2]) o.2) else none := ay_virtual (as := []) (st := [v0, v1, v2]) dX5_readLines_31 kc_3_72 rfl rfl (Nat.le_of_ble_eq_true rfl)
theorem dX5_readLines_34 : decode cX5_readLines 34 = .ok (.ifCond .ne 5, 3) := by decide +kernel
theorem sX5_readLines_34 : ab_X rom K cX5_readLines 3 2 34 ls (.int x :: st) hp = if x = 0 then ab_X rom K cX5_readLines 3 2 37 ls st hp else ab_X rom K cX5_readLines 3 2 39 ls st hp := ax_if_ne dX5_readLines_34 (by decide) rfl
theorem dX5_readLines_37 : decode cX5_readLines 37 = .ok (.iconst 0, 1) := by decide +kernel
theorem sX5_readLines_37 : ab_X rom K cX5_readLines 3 2 37 ls st hp = ab_X rom K cX5_readLines 3 2 38 ls (.int 0 :: st) hp := ax_iconst dX5_readLines_37 (by decide) rfl
theorem dX5_readLines_38 : decode cX5_readLines 38 = .ok (.ireturn, 1) := by decide +kernel
theorem sX5_readLines_38 : ab_X rom K cX5_readLines 3 2 38 ls [.int x] hp = if x = 0 ∨ x = 1 then some (some (.int x), hp) else none := ay_zret dX5_readLines_38 rfl
theorem dX5_readLines_39 : decode cX5_readLines 39 = .ok (.iinc 1 1, 3) := by decide +kernel
theorem sX5_readLines_39i : ab_X rom K cX5_readLines 3 2 39 (.int y :: .int x :: ls) st hp = ab_X rom K cX5_readLines 3 2 42 (.int y :: .int (x + 1) :: ls) st hp := ax_iinc dX5_readLines_39 rfl (ab_nl_c1 (j := 0) (v := .int y) rfl (ab_c1_int _)) (by decide) rfl rfl
theorem sX5_readLines_39r : ab_X rom K cX5_readLines 3 2 39 (.ref a2 :: .int x :: ls) st hp = ab_X rom K cX5_readLines 3 2 42 (.ref a2 :: .int (x + 1) :: ls) st hp := ax_iinc dX5_readLines_39 rfl (ab_nl_c1 (j := 0) (v := .ref a2) rfl (ab_c1_ref _)) (by decide) rfl rfl
theorem sX5_readLines_39n : ab_X rom K cX5_readLines 3 2 39 (.null :: .int x :: ls) st hp = ab_X rom K cX5_readLines 3 2 42 (.null :: .int (x + 1) :: ls) st hp := ax_iinc dX5_readLines_39 rfl (ab_nl_c1 (j := 0) (v := .null) rfl ab_c1_null) (by decide) rfl rfl
theorem dX5_readLines_42 : decode cX5_readLines 42 = .ok (.goto (-40), 3) := by decide +kernel
theorem sX5_readLines_42 : ab_X rom K cX5_readLines 3 2 42 ls st hp = ab_X rom K cX5_readLines 3 2 2 ls st hp := ax_goto dX5_readLines_42 (by decide)
theorem dX5_readLines_45 : decode cX5_readLines 45 = .ok (.aload_n 0, 1) := by decide +kernel
theorem sX5_readLines_45 : ab_X rom K cX5_readLines 3 2 45 (.ref a :: ls) st hp = ab_X rom K cX5_readLines 3 2 46 (.ref a :: ls) (.ref a :: st) hp := ax_aload_n dX5_readLines_45 rfl rfl
theorem dX5_readLines_46 : decode cX5_readLines 46 = .ok (.bipush 59, 2) := by decide +kernel
theorem sX5_readLines_46 : ab_X rom K cX5_readLines 3 2 46 ls st hp = ab_X rom K cX5_readLines 3 2 48 ls (.int 59 :: st) hp := ax_bipush dX5_readLines_46 (by decide) rfl
theorem dX5_readLines_48 : decode cX5_readLines 48 = .ok (.invokevirtual 75, 3) := by decide +kernel
theorem sX5_readLines_48_0 : ab_X rom K cX5_readLines 3 2 48 ls [w1, .ref a] hp = if ab_iso hp a 3 = true then (K 44 (.ref a :: [w1]) hp).bind (fun o => ab_X rom K cX5_readLines 3 2 51 ls (o.1.toList ++ []) o.2) else none := ay_virtual (as := [w1]) (st := []) dX5_readLines_48 kc_3_75 rfl rfl (Nat.le_of_ble_eq_true rfl)
theorem sX5_readLines_48_1 : ab_X rom K cX5_readLines 3 2 48 ls [w1, .ref a, v0] hp = if ab_iso hp a 3 = true then (K 44 (.ref a :: [w1]) hp).bind (fun o => ab_X rom K cX5_readLines 3 2 51 ls (o.1.toList ++ [v0]) o.2) else none := ay_virtual (as := [w1]) (st := [v0]) dX5_readLines_48 kc_3_75 rfl rfl (Nat.le_of_ble_eq_true rfl)
theorem sX5_readLines_48_2 : ab_X rom K cX5_readLines 3 2 48 ls [w1, .ref a, v0, v1] hp = if ab_iso hp a 3 = true then (K 44 (.ref a :: [w1]) hp).bind (fun o => ab_X rom K cX5_readLines 3 2 51 ls (o.1.toList ++ [v0, v1]) o.2) else none := ay_virtual (as := [w1]) (st := [v0, v1]) dX5_readLines_48 kc_3_75 rfl rfl (Nat.le_of_ble_eq_true rfl)
theorem sX5_readLines_48_3 : ab_X rom K cX5_readLines 3 2 48 ls [w1, .ref a, v0, v1, v2] hp = if ab_iso hp a 3 = true then (K 44 (.ref a :: [w1]) hp).bind (fun o => ab_X rom K cX5_readLines 3 2 51 ls (o.1.toList ++ [v0, v1, v2]) o.2) else none := ay_virtual (as := [w1]) (st := [v0, v1, v2]) dX5_readLines_48 kc_3_75 rfl rfl (Nat.le_of_ble_eq_true rfl)
theorem dX5_readLines_51 : decode cX5_readLines 51 = .ok (.ireturn, 1) := by decide +kernel
theorem sX5_readLines_51 : ab_X rom K cX5_readLines 3 2 51 ls [.int x] hp = if x = 0 ∨ x = 1 then some (some (.int x), hp) else none := ay_zret dX5_readLines_51 rfl
theorem tX5_readText : ab_mT[51]? = some (yX5_readText, cX5_readText, 1, 2, 3) := by decide +kernel
theorem mX5_readText {d : Nat} {a0 : Nat} : ab_M rom (d + 1) 51 [.ref a0] hp = ab_X rom (ab_M rom d) cX5_readText 3 2 0 [.ref a0] [] hp := ab_M_eq tX5_readText (Nat.le_of_ble_eq_true rfl)
theorem dX5_readText_0 : decode cX5_readText 0 = .ok (.aload_n 0, 1) := by decide +kernel
theorem sX5_readText_0 : ab_X rom K cX5_readText 3 2 0 (.ref a :: ls) st hp = ab_X rom K cX5_readText 3 2 1 (.ref a :: ls) (.ref a :: st) hp := ax_aload_n dX5_readText_0 rfl rfl
theorem dX5_readText_1 : decode cX5_readText 1 = .ok (.getfield 34, 3) := by decide +kernel
theorem sX5_readText_1 : ab_X rom K cX5_readText 3 2 1 ls (.ref a :: st) hp = (ab_fld hp a 3 3).bind (fun v => ab_X rom K cX5_readText 3 2 4 ls (v :: st) hp) := ax_getfield dX5_readText_1 kf_3_34 rfl
theorem dX5_readText_4 : decode cX5_readText 4 = .ok (.iconst 0, 1) := by decide +kernel
theorem sX5_readText_4 : ab_X rom K cX5_readText 3 2 4 ls st hp = ab_X rom K cX5_readText 3 2 5 ls (.int 0 :: st) hp := ax_iconst dX5_readText_4 (by decide) rfl
theorem dX5_readText_5 : decode cX5_readText 5 = .ok (.invokevirtual 38, 3) := by decide +kernel
theorem sX5_readText_5_0 : ab_X rom K cX5_readText 3 2 5 ls [w1, .ref a] hp = if ab_iso hp a 1 = true then (K 15 (.ref a :: [w1]) hp).bind (fun o => ab_X rom K cX5_readText 3 2 8 ls (o.1.toList ++ []) o.2) else none := ay_virtual (as := [w1]) (st := []) dX5_readText_5 kc_3_38 rfl rfl (Nat.le_of_ble_eq_true rfl)
theorem sX5_readText_5_1 : ab_X rom K cX5_readText 3 2 5 ls [w1, .ref a, v0] hp = if ab_iso hp a 1 = true then (K 15 (.ref a :: [w1]) hp).bind (fun o => ab_X rom K cX5_readText 3 2 8 ls (o.1.toList ++ [v0]) o.2) else none := ay_virtual (as := [w1]) (st := [v0]) dX5_readText_5 kc_3_38 rfl rfl (Nat.le_of_ble_eq_true rfl)
theorem sX5_readText_5_2 : ab_X rom K cX5_readText 3 2 5 ls [w1, .ref a, v0, v1] hp = if ab_iso hp a 1 = true then (K 15 (.ref a :: [w1]) hp).bind (fun o => ab_X rom K cX5_readText 3 2 8 ls (o.1.toList ++ [v0, v1]) o.2) else none := ay_virtual (as := [w1]) (st := [v0, v1]) dX5_readText_5 kc_3_38 rfl rfl (Nat.le_of_ble_eq_true rfl)
theorem sX5_readText_5_3 : ab_X rom K cX5_readText 3 2 5 ls [w1, .ref a, v0, v1, v2] hp = if ab_iso hp a 1 = true then (K 15 (.ref a :: [w1]) hp).bind (fun o => ab_X rom K cX5_readText 3 2 8 ls (o.1.toList ++ [v0, v1, v2]) o.2) else none := ay_virtual (as := [w1]) (st := [v0, v1, v2]) dX5_readText_5 kc_3_38 rfl rfl (Nat.le_of_ble_eq_true rfl)
theorem dX5_readText_8 : decode cX5_readText 8 = .ok (.aload_n 0, 1) := by decide +kernel
theorem sX5_readText_8 : ab_X rom K cX5_readText 3 2 8 (.ref a :: ls) st hp = ab_X rom K cX5_readText 3 2 9 (.ref a :: ls) (.ref a :: st) hp := ax_aload_n dX5_readText_8 rfl rfl
theorem dX5_readText_9 : decode cX5_readText 9 = .ok (.iconst 0, 1) := by decide +kernel
theorem sX5_readText_9 : ab_X rom K cX5_readText 3 2 9 ls st hp = ab_X rom K cX5_readText 3 2 10 ls (.int 0 :: st) hp := ax_iconst dX5_readText_9 (by decide) rfl
theorem dX5_readText_10 : decode cX5_readText 10 = .ok (.putfield 9, 3) := by decide +kernel
theorem sX5_readText_10 : ab_X rom K cX5_readText 3 2 10 ls (.int x :: .ref a :: st) hp = (ab_fpt hp a 3 0 (.int x)).bind (fun hp' => ab_X rom K cX5_readText 3 2 13 ls st hp') := ax_putfield dX5_readText_10 kf_3_9 rfl (Or.inl rfl) rfl
theorem dX5_readText_13 : decode cX5_readText 13 = .ok (.aload_n 0, 1) := by decide +kernel
theorem sX5_readText_13 : ab_X rom K cX5_readText 3 2 13 (.ref a :: ls) st hp = ab_X rom K cX5_readText 3 2 14 (.ref a :: ls) (.ref a :: st) hp := ax_aload_n dX5_readText_13 rfl rfl
theorem dX5_readText_14 : decode cX5_readText 14 = .ok (.iconst (-1), 1) := by decide +kernel
theorem sX5_readText_14 : ab_X rom K cX5_readText 3 2 14 ls st hp = ab_X rom K cX5_readText 3 2 15 ls (.int (-1) :: st) hp := ax_iconst dX5_readText_14 (by decide) rfl
theorem dX5_readText_15 : decode cX5_readText 15 = .ok (.putfield 15, 3) := by decide +kernel
theorem sX5_readText_15 : ab_X rom K cX5_readText 3 2 15 ls (.int x :: .ref a :: st) hp = (ab_fpt hp a 3 1 (.int x)).bind (fun hp' => ab_X rom K cX5_readText 3 2 18 ls st hp') := ax_putfield dX5_readText_15 kf_3_15 rfl (Or.inl rfl) rfl
theorem dX5_readText_18 : decode cX5_readText 18 = .ok (.aload_n 0, 1) := by decide +kernel
theorem sX5_readText_18 : ab_X rom K cX5_readText 3 2 18 (.ref a :: ls) st hp = ab_X rom K cX5_readText 3 2 19 (.ref a :: ls) (.ref a :: st) hp := ax_aload_n dX5_readText_18 rfl rfl
theorem dX5_readText_19 : decode cX5_readText 19 = .ok (.iconst 0, 1) := by decide +kernel
theorem sX5_readText_19 : ab_X rom K cX5_readText 3 2 19 ls st hp = ab_X rom K cX5_readText 3 2 20 ls (.int 0 :: st) hp := ax_iconst dX5_readText_19 (by decide) rfl
theorem dX5_readText_20 : decode cX5_readText 20 = .ok (.putfield 18, 3) := by decide +kernel
theorem sX5_readText_20 : ab_X rom K cX5_readText 3 2 20 ls (.int x :: .ref a :: st) hp = (ab_fpt hp a 3 4 (.int x)).bind (fun hp' => ab_X rom K cX5_readText 3 2 23 ls st hp') := ax_putfield dX5_readText_20 kf_3_18 rfl (Or.inl rfl) rfl
theorem dX5_readText_23 : decode cX5_readText 23 = .ok (.aload_n 0, 1) := by decide +kernel
theorem sX5_readText_23 : ab_X rom K cX5_readText 3 2 23 (.ref a :: ls) st hp = ab_X rom K cX5_readText 3 2 24 (.ref a :: ls) (.ref a :: st) hp := ax_aload_n dX5_readText_23 rfl rfl
theorem dX5_readText_24 : decode cX5_readText 24 = .ok (.invokevirtual 44, 3) := by decide +kernel
theorem sX5_readText_24_0 : ab_X rom K cX5_readText 3 2 24 ls [.ref a] hp = if ab_iso hp a 3 = true then (K 39 (.ref a :: []) hp).bind (fun o => ab_X rom K cX5_readText 3 2 27 ls (o.1.toList ++ []) o.2) else none := ay_virtual (as := []) (st := []) dX5_readText_24 kc_3_44 rfl rfl (Nat.le_of_ble_eq_true rfl)
theorem sX5_readText_24_1 : ab_X rom K cX5_readText 3 2 24 ls [.ref a, v0] hp = if ab_iso hp a 3 = true then (K 39 (.ref a :: []) hp).bind (fun o => ab_X rom K cX5_readText 3 2 27 ls (o.1.toList ++ [v0]) o.2) else none := ay_virtual (as := []) (st := [v0]) dX5_readText_24 kc_3_44 rfl rfl (Nat.le_of_ble_eq_true rfl)
theorem sX5_readText_24_2 : ab_X rom K cX5_readText 3 2 24 ls [.ref a, v0, v1] hp = if ab_iso hp a 3 = true then (K 39 (.ref a :: []) hp).bind (fun o => ab_X rom K cX5_readText 3 2 27 ls (o.1.toList ++ [v0, v1]) o.2) else none := ay_virtual (as := []) (st := [v0, v1]) dX5_readText_24 kc_3_44 rfl rfl (Nat.le_of_ble_eq_true rfl)
theorem sX5_readText_24_3 : ab_X rom K cX5_readText 3 2 24 ls [.ref a, v0, v1, v2] hp = if ab_iso hp a 3 = true then (K 39 (.ref a :: []) hp).bind (fun o => ab_X rom K cX5_readText 3 2 27 ls (o.1.toList ++ [v0, v1, v2]) o.2) else none := ay_virtual (as := []) (st := [v0, v1, v2]) dX5_readText_24 kc_3_44 rfl rfl (Nat.le_of_ble_eq_true rfl)
theorem dX5_readText_27 : decode cX5_readText 27 = .ok (.aload_n 0, 1) := by decide +kernel
theorem sX5_readText_27 : ab_X rom K cX5_readText 3 2 27 (.ref a :: ls) st hp = ab_X rom K cX5_readText 3 2 28 (.ref a :: ls) (.ref a :: st) hp := ax_aload_n dX5_readText_27 rfl rfl
theorem dX5_readText_28 : decode cX5_readText 28 = .ok (.invokevirtual 47, 3) := by decide +kernel
theorem sX5_readText_28_0 : ab_X rom K cX5_readText 3 2 28 ls [.ref a] hp = if ab_iso hp a 3 = true then (K 46 (.ref a :: []) hp).bind (fun o => ab_X rom K cX5_readText 3 2 31 ls (o.1.toList ++ []) o.2) else none := ay_virtual (as := []) (st := []) dX5_readText_28 kc_3_47 rfl rfl (Nat.le_of_ble_eq_true rfl)
theorem sX5_readText_28_1 : ab_X rom K cX5_readText 3 2 28 ls [.ref a, v0] hp = if ab_iso hp a 3 = true then (K 46 (.ref a :: []) hp).bind (fun o => ab_X rom K cX5_readText 3 2 31 ls (o.1.toList ++ [v0]) o.2) else none := ay_virtual (as := []) (st := [v0]) dX5_readText_28 kc_3_47 rfl rfl (Nat.le_of_ble_eq_true rfl)
theorem sX5_readText_28_2 : ab_X rom K cX5_readText 3 2 28 ls [.ref a, v0, v1] hp = if ab_iso hp a 3 = true then (K 46 (.ref a :: []) hp).bind (fun o => ab_X rom K cX5_readText 3 2 31 ls (o.1.toList ++ [v0, v1]) o.2) else none := ay_virtual (as := []) (st := [v0, v1]) dX5_readText_28 kc_3_47 rfl rfl (Nat.le_of_ble_eq_true rfl)
theorem sX5_readText_28_3 : ab_X rom K cX5_readText 3 2 28 ls [.ref a, v0, v1, v2] hp = if ab_iso hp a 3 = true then (K 46 (.ref a :: []) hp).bind (fun o => ab_X rom K cX5_readText 3 2 31 ls (o.1.toList ++ [v0, v1, v2]) o.2) else none := ay_virtual (as := []) (st := [v0, v1, v2]) dX5_readText_28 kc_3_47 rfl rfl (Nat.le_of_ble_eq_true rfl)
theorem dX5_readText_31 : decode cX5_readText 31 = .ok (.ifCond .eq 21, 3) := by decide +kernel
theorem sX5_readText_31 : ab_X rom K cX5_readText 3 2 31 ls (.int x :: st) hp = if x = 0 then ab_X rom K cX5_readText 3 2 52 ls st hp else ab_X rom K cX5_readText 3 2 34 ls st hp := ax_if_eq dX5_readText_31 (by decide) rfl
theorem dX5_readText_34 : decode cX5_readText 34 = .ok (.aload_n 0, 1) := by decide +kernel
theorem sX5_readText_34 : ab_X rom K cX5_readText 3 2 34 (.ref a :: ls) st hp = ab_X rom K cX5_readText 3 2 35 (.ref a :: ls) (.ref a :: st) hp := ax_aload_n dX5_readText_34 rfl rfl
theorem dX5_readText_35 : decode cX5_readText 35 = .ok (.invokevirtual 51, 3) := by decide +kernel
theorem sX5_readText_35_0 : ab_X rom K cX5_readText 3 2 35 ls [.ref a] hp = if ab_iso hp a 3 = true then (K 50 (.ref a :: []) hp).bind (fun o => ab_X rom K cX5_readText 3 2 38 ls (o.1.toList ++ []) o.2) else none := ay_virtual (as := []) (st := []) dX5_readText_35 kc_3_51 rfl rfl (Nat.le_of_ble_eq_true rfl)
theorem sX5_readText_35_1 : ab_X rom K cX5_readText 3 2 35 ls [.ref a, v0] hp = if ab_iso hp a 3 = true then (K 50 (.ref a :: []) hp).bind (fun o => ab_X rom K cX5_readText 3 2 38 ls (o.1.toList ++ [v0]) o.2) else none := ay_virtual (as := []) (st := [v0]) dX5_readText_35 kc_3_51 rfl rfl (Nat.le_of_ble_eq_true rfl)
theorem sX5_readText_35_2 : ab_X rom K cX5_readText 3 2 35 ls [.ref a, v0, v1] hp = if ab_iso hp a 3 = true then (K 50 (.ref a :: []) hp).bind (fun o => ab_X rom K cX5_readText 3 2 38 ls (o.1.toList ++ [v0, v1]) o.2) else none := ay_virtual (as := []) (st := [v0, v1]) dX5_readText_35 kc_3_51 rfl rfl (Nat.le_of_ble_eq_true rfl)
theorem sX5_readText_35_3 : ab_X rom K cX5_readText 3 2 35 ls [.ref a, v0, v1, v2] hp = if ab_iso hp a 3 = true then (K 50 (.ref a :: []) hp).bind (fun o => ab_X rom K cX5_readText 3 2 38 ls (o.1.toList ++ [v0, v1, v2]) o.2) else none := ay_virtual (as := []) (st := [v0, v1, v2]) dX5_readText_35 kc_3_51 rfl rfl (Nat.le_of_ble_eq_true rfl)
theorem dX5_readText_38 : decode cX5_readText 38 = .ok (.ifCond .eq 14, 3) := by decide +kernel
theorem sX5_readText_38 : ab_X rom K cX5_readText 3 2 38 ls (.int x :: st) hp = if x = 0 then ab_X rom K cX5_readText 3 2 52 ls st hp else ab_X rom K cX5_readText 3 2 41 ls st hp := ax_if_eq dX5_readText_38 (by decide) rfl
theorem dX5_readText_41 : decode cX5_readText 41 = .ok (.aload_n 0, 1) := by decide +kernel
theorem sX5_readText_41 : ab_X rom K cX5_readText 3 2 41 (.ref a :: ls) st hp = ab_X rom K cX5_readText 3 2 42 (.ref a :: ls) (.ref a :: st) hp := ax_aload_n dX5_readText_41 rfl rfl
theorem dX5_readText_42 : decode cX5_readText 42 = .ok (.invokevirtual 54, 3) := by decide +kernel
theorem sX5_readText_42_0 : ab_X rom K cX5_readText 3 2 42 ls [.ref a] hp = if ab_iso hp a 3 = true then (K 48 (.ref a :: []) hp).bind (fun o => ab_X rom K cX5_readText 3 2 45 ls (o.1.toList ++ []) o.2) else none := ay_virtual (as := []) (st := []) dX5_readText_42 kc_3_54 rfl rfl (Nat.le_of_ble_eq_true rfl)
theorem sX5_readText_42_1 : ab_X rom K cX5_readText 3 2 42 ls [.ref a, v0] hp = if ab_iso hp a 3 = true then (K 48 (.ref a :: []) hp).bind (fun o => ab_X rom K cX5_readText 3 2 45 ls (o.1.toList ++ [v0]) o.2) else none := ay_virtual (as := []) (st := [v0]) dX5_readText_42 kc_3_54 rfl rfl (Nat.le_of_ble_eq_true rfl)
theorem sX5_readText_42_2 : ab_X rom K cX5_readText 3 2 42 ls [.ref a, v0, v1] hp = if ab_iso hp a 3 = true then (K 48 (.ref a :: []) hp).bind (fun o => ab_X rom K cX5_readText 3 2 45 ls (o.1.toList ++ [v0, v1]) o.2) else none := ay_virtual (as := []) (st := [v0, v1]) dX5_readText_42 kc_3_54 rfl rfl (Nat.le_of_ble_eq_true rfl)
theorem sX5_readText_42_3 : ab_X rom K cX5_readText 3 2 42 ls [.ref a, v0, v1, v2] hp = if ab_iso hp a 3 = true then (K 48 (.ref a :: []) hp).bind (fun o => ab_X rom K cX5_readText 3 2 45 ls (o.1.toList ++ [v0, v1, v2]) o.2) else none := ay_virtual (as := []) (st := [v0, v1, v2]) dX5_readText_42 kc_3_54 rfl rfl (Nat.le_of_ble_eq_true rfl)
theorem dX5_readText_45 : decode cX5_readText 45 = .ok (.ifCond .eq 7, 3) := by decide +kernel
theorem sX5_readText_45 : ab_X rom K cX5_readText 3 2 45 ls (.int x :: st) hp = if x = 0 then ab_X rom K cX5_readText 3 2 52 ls st hp else ab_X rom K cX5_readText 3 2 48 ls st hp := ax_if_eq dX5_readText_45 (by decide) rfl
theorem dX5_readText_48 : decode cX5_readText 48 = .ok (.iconst 1, 1) := by decide +kernel
theorem sX5_readText_48 : ab_X rom K cX5_readText 3 2 48 ls st hp = ab_X rom K cX5_readText 3 2 49 ls (.int 1 :: st) hp := ax_iconst dX5_readText_48 (by decide) rfl
theorem dX5_readText_49 : decode cX5_readText 49 = .ok (.goto 4, 3) := by decide +kernel
theorem sX5_readText_49 : ab_X rom K cX5_readText 3 2 49 ls st hp = ab_X rom K cX5_readText 3 2 53 ls st hp := ax_goto dX5_readText_49 (by decide)
theorem dX5_readText_52 : decode cX5_readText 52 = .ok (.iconst 0, 1) := by decide +kernel
theorem sX5_readText_52 : ab_X rom K cX5_readText 3 2 52 ls st hp = ab_X rom K cX5_readText 3 2 53 ls (.int 0 :: st) hp := ax_iconst dX5_readText_52 (by decide) rfl
theorem dX5_readText_53 : decode cX5_readText 53 = .ok (.ireturn, 1) := by decide +kernel
theorem sX5_readText_53 : ab_X rom K cX5_readText 3 2 53 ls [.int x] hp = if x = 0 ∨ x = 1 then some (some (.int x), hp) else none := ay_zret dX5_readText_53 rfl
theorem tX5_refuse : ab_mT[52]? = some (yX5_refuse, cX5_refuse, 2, 2, 3) := by decide +kernel
theorem mX5_refuse {d : Nat} {a0 : Nat} {x0 : Int32} : ab_M rom (d + 1) 52 [.ref a0, .int x0] hp = ab_X rom (ab_M rom d) cX5_refuse 3 2 0 [.ref a0, .int x0] [] hp := ab_M_eq tX5_refuse (Nat.le_of_ble_eq_true rfl)
theorem dX5_refuse_0 : decode cX5_refuse 0 = .ok (.aload_n 0, 1) := by decide +kernel
theorem sX5_refuse_0 : ab_X rom K cX5_refuse 3 2 0 (.ref a :: ls) st hp = ab_X rom K cX5_refuse 3 2 1 (.ref a :: ls) (.ref a :: st) hp := ax_aload_n dX5_refuse_0 rfl rfl
theorem dX5_refuse_1 : decode cX5_refuse 1 = .ok (.iload_n 1, 1) := by decide +kernel
theorem sX5_refuse_1 : ab_X rom K cX5_refuse 3 2 1 (v0 :: .int x :: ls) st hp = ab_X rom K cX5_refuse 3 2 2 (v0 :: .int x :: ls) (.int x :: st) hp := ax_iload_n dX5_refuse_1 rfl rfl
theorem dX5_refuse_2 : decode cX5_refuse 2 = .ok (.putfield 9, 3) := by decide +kernel
theorem sX5_refuse_2 : ab_X rom K cX5_refuse 3 2 2 ls (.int x :: .ref a :: st) hp = (ab_fpt hp a 3 0 (.int x)).bind (fun hp' => ab_X rom K cX5_refuse 3 2 5 ls st hp') := ax_putfield dX5_refuse_2 kf_3_9 rfl (Or.inl rfl) rfl
theorem dX5_refuse_5 : decode cX5_refuse 5 = .ok (.aload_n 0, 1) := by decide +kernel
theorem sX5_refuse_5 : ab_X rom K cX5_refuse 3 2 5 (.ref a :: ls) st hp = ab_X rom K cX5_refuse 3 2 6 (.ref a :: ls) (.ref a :: st) hp := ax_aload_n dX5_refuse_5 rfl rfl
theorem dX5_refuse_6 : decode cX5_refuse 6 = .ok (.aload_n 0, 1) := by decide +kernel
theorem sX5_refuse_6 : ab_X rom K cX5_refuse 3 2 6 (.ref a :: ls) st hp = ab_X rom K cX5_refuse 3 2 7 (.ref a :: ls) (.ref a :: st) hp := ax_aload_n dX5_refuse_6 rfl rfl
theorem dX5_refuse_7 : decode cX5_refuse 7 = .ok (.getfield 21, 3) := by decide +kernel
theorem sX5_refuse_7 : ab_X rom K cX5_refuse 3 2 7 ls (.ref a :: st) hp = (ab_fld hp a 3 5).bind (fun v => ab_X rom K cX5_refuse 3 2 10 ls (v :: st) hp) := ax_getfield dX5_refuse_7 kf_3_21 rfl
theorem dX5_refuse_10 : decode cX5_refuse 10 = .ok (.putfield 15, 3) := by decide +kernel
theorem sX5_refuse_10 : ab_X rom K cX5_refuse 3 2 10 ls (.int x :: .ref a :: st) hp = (ab_fpt hp a 3 1 (.int x)).bind (fun hp' => ab_X rom K cX5_refuse 3 2 13 ls st hp') := ax_putfield dX5_refuse_10 kf_3_15 rfl (Or.inl rfl) rfl
theorem dX5_refuse_13 : decode cX5_refuse 13 = .ok (.iconst 0, 1) := by decide +kernel
theorem sX5_refuse_13 : ab_X rom K cX5_refuse 3 2 13 ls st hp = ab_X rom K cX5_refuse 3 2 14 ls (.int 0 :: st) hp := ax_iconst dX5_refuse_13 (by decide) rfl
theorem dX5_refuse_14 : decode cX5_refuse 14 = .ok (.ireturn, 1) := by decide +kernel
theorem sX5_refuse_14 : ab_X rom K cX5_refuse 3 2 14 ls [.int x] hp = if x = 0 ∨ x = 1 then some (some (.int x), hp) else none := ay_zret dX5_refuse_14 rfl
theorem tX5_skipBlanks : ab_mT[53]? = some (yX5_skipBlanks, cX5_skipBlanks, 2, 0, 3) := by decide +kernel
theorem mX5_skipBlanks {d : Nat} {a0 : Nat} : ab_M rom (d + 1) 53 [.ref a0] hp = ab_X rom (ab_M rom d) cX5_skipBlanks 3 0 0 [.ref a0, .null] [] hp := ab_M_eq tX5_skipBlanks (Nat.le_of_ble_eq_true rfl)
theorem dX5_skipBlanks_0 : decode cX5_skipBlanks 0 = .ok (.aload_n 0, 1) := by decide +kernel
theorem sX5_skipBlanks_0 : ab_X rom K cX5_skipBlanks 3 0 0 (.ref a :: ls) st hp = ab_X rom K cX5_skipBlanks 3 0 1 (.ref a :: ls) (.ref a :: st) hp := ax_aload_n dX5_skipBlanks_0 rfl rfl
theorem dX5_skipBlanks_1 : decode cX5_skipBlanks 1 = .ok (.getfield 18, 3) := by decide +kernel
theorem sX5_skipBlanks_1 : ab_X rom K cX5_skipBlanks 3 0 1 ls (.ref a :: st) hp = (ab_fld hp a 3 4).bind (fun v => ab_X rom K cX5_skipBlanks 3 0 4 ls (v :: st) hp) := ax_getfield dX5_skipBlanks_1 kf_3_18 rfl
theorem dX5_skipBlanks_4 : decode cX5_skipBlanks 4 = .ok (.aload_n 0, 1) := by decide +kernel
theorem sX5_skipBlanks_4 : ab_X rom K cX5_skipBlanks 3 0 4 (.ref a :: ls) st hp = ab_X rom K cX5_skipBlanks 3 0 5 (.ref a :: ls) (.ref a :: st) hp := ax_aload_n dX5_skipBlanks_4 rfl rfl
theorem dX5_skipBlanks_5 : decode cX5_skipBlanks 5 = .ok (.getfield 30, 3) := by decide +kernel
theorem sX5_skipBlanks_5 : ab_X rom K cX5_skipBlanks 3 0 5 ls (.ref a :: st) hp = (ab_fld hp a 3 2).bind (fun v => ab_X rom K cX5_skipBlanks 3 0 8 ls (v :: st) hp) := ax_getfield dX5_skipBlanks_5 kf_3_30 rfl
theorem dX5_skipBlanks_8 : decode cX5_skipBlanks 8 = .ok (.getfield 106, 3) := by decide +kernel
theorem sX5_skipBlanks_8 : ab_X rom K cX5_skipBlanks 3 0 8 ls (.ref a :: st) hp = (ab_fld hp a 5 1).bind (fun v => ab_X rom K cX5_skipBlanks 3 0 11 ls (v :: st) hp) := ax_getfield dX5_skipBlanks_8 kf_3_106 rfl
theorem dX5_skipBlanks_11 : decode cX5_skipBlanks 11 = .ok (.if_icmp .ge 42, 3) := by decide +kernel
theorem sX5_skipBlanks_11 : ab_X rom K cX5_skipBlanks 3 0 11 ls (.int y :: .int x :: st) hp = if x < y then ab_X rom K cX5_skipBlanks 3 0 14 ls st hp else ab_X rom K cX5_skipBlanks 3 0 53 ls st hp := ax_icmp_ge dX5_skipBlanks_11 (by decide) rfl
theorem dX5_skipBlanks_14 : decode cX5_skipBlanks 14 = .ok (.aload_n 0, 1) := by decide +kernel
theorem sX5_skipBlanks_14 : ab_X rom K cX5_skipBlanks 3 0 14 (.ref a :: ls) st hp = ab_X rom K cX5_skipBlanks 3 0 15 (.ref a :: ls) (.ref a :: st) hp := ax_aload_n dX5_skipBlanks_14 rfl rfl
theorem dX5_skipBlanks_15 : decode cX5_skipBlanks 15 = .ok (.getfield 30, 3) := by decide +kernel
theorem sX5_skipBlanks_15 : ab_X rom K cX5_skipBlanks 3 0 15 ls (.ref a :: st) hp = (ab_fld hp a 3 2).bind (fun v => ab_X rom K cX5_skipBlanks 3 0 18 ls (v :: st) hp) := ax_getfield dX5_skipBlanks_15 kf_3_30 rfl
theorem dX5_skipBlanks_18 : decode cX5_skipBlanks 18 = .ok (.getfield 111, 3) := by decide +kernel
theorem sX5_skipBlanks_18 : ab_X rom K cX5_skipBlanks 3 0 18 ls (.ref a :: st) hp = (ab_fld hp a 5 0).bind (fun v => ab_X rom K cX5_skipBlanks 3 0 21 ls (v :: st) hp) := ax_getfield dX5_skipBlanks_18 kf_3_111 rfl
theorem dX5_skipBlanks_21 : decode cX5_skipBlanks 21 = .ok (.aload_n 0, 1) := by decide +kernel
theorem sX5_skipBlanks_21 : ab_X rom K cX5_skipBlanks 3 0 21 (.ref a :: ls) st hp = ab_X rom K cX5_skipBlanks 3 0 22 (.ref a :: ls) (.ref a :: st) hp := ax_aload_n dX5_skipBlanks_21 rfl rfl
theorem dX5_skipBlanks_22 : decode cX5_skipBlanks 22 = .ok (.getfield 18, 3) := by decide +kernel
theorem sX5_skipBlanks_22 : ab_X rom K cX5_skipBlanks 3 0 22 ls (.ref a :: st) hp = (ab_fld hp a 3 4).bind (fun v => ab_X rom K cX5_skipBlanks 3 0 25 ls (v :: st) hp) := ax_getfield dX5_skipBlanks_22 kf_3_18 rfl
theorem dX5_skipBlanks_25 : decode cX5_skipBlanks 25 = .ok (.iaload, 1) := by decide +kernel
theorem sX5_skipBlanks_25 : ab_X rom K cX5_skipBlanks 3 0 25 ls (.int x :: .ref a :: st) hp = (ab_ard rom 0 hp a x).bind (fun v => ab_X rom K cX5_skipBlanks 3 0 26 ls (.int v :: st) hp) := ax_iaload dX5_skipBlanks_25 rfl
theorem dX5_skipBlanks_26 : decode cX5_skipBlanks 26 = .ok (.istore_n 1, 1) := by decide +kernel
theorem sX5_skipBlanks_26i : ab_X rom K cX5_skipBlanks 3 0 26 (.int y :: v1 :: ls) (.int x :: st) hp = ab_X rom K cX5_skipBlanks 3 0 27 (.int y :: .int x :: ls) st hp := ax_istore_n dX5_skipBlanks_26 (ax_lt (v := v1) rfl) (ab_nl_c1 (j := 0) (v := .int y) rfl (ab_c1_int _)) rfl rfl
theorem sX5_skipBlanks_26r : ab_X rom K cX5_skipBlanks 3 0 26 (.ref a2 :: v1 :: ls) (.int x :: st) hp = ab_X rom K cX5_skipBlanks 3 0 27 (.ref a2 :: .int x :: ls) st hp := ax_istore_n dX5_skipBlanks_26 (ax_lt (v := v1) rfl) (ab_nl_c1 (j := 0) (v := .ref a2) rfl (ab_c1_ref _)) rfl rfl
theorem sX5_skipBlanks_26n : ab_X rom K cX5_skipBlanks 3 0 26 (.null :: v1 :: ls) (.int x :: st) hp = ab_X rom K cX5_skipBlanks 3 0 27 (.null :: .int x :: ls) st hp := ax_istore_n dX5_skipBlanks_26 (ax_lt (v := v1) rfl) (ab_nl_c1 (j := 0) (v := .null) rfl ab_c1_null) rfl rfl
theorem dX5_skipBlanks_27 : decode cX5_skipBlanks 27 = .ok (.iload_n 1, 1) := by decide +kernel
theorem sX5_skipBlanks_27 : ab_X rom K cX5_skipBlanks 3 0 27 (v0 :: .int x :: ls) st hp = ab_X rom K cX5_skipBlanks 3 0 28 (v0 :: .int x :: ls) (.int x :: st) hp := ax_iload_n dX5_skipBlanks_27 rfl rfl
theorem dX5_skipBlanks_28 : decode cX5_skipBlanks 28 = .ok (.bipush 32, 2) := by decide +kernel
theorem sX5_skipBlanks_28 : ab_X rom K cX5_skipBlanks 3 0 28 ls st hp = ab_X rom K cX5_skipBlanks 3 0 30 ls (.int 32 :: st) hp := ax_bipush dX5_skipBlanks_28 (by decide) rfl
theorem dX5_skipBlanks_30 : decode cX5_skipBlanks 30 = .ok (.if_icmp .eq 10, 3) := by decide +kernel
theorem sX5_skipBlanks_30 : ab_X rom K cX5_skipBlanks 3 0 30 ls (.int y :: .int x :: st) hp = if x = y then ab_X rom K cX5_skipBlanks 3 0 40 ls st hp else ab_X rom K cX5_skipBlanks 3 0 33 ls st hp := ax_icmp_eq dX5_skipBlanks_30 (by decide) rfl
theorem dX5_skipBlanks_33 : decode cX5_skipBlanks 33 = .ok (.iload_n 1, 1) := by decide +kernel
theorem sX5_skipBlanks_33 : ab_X rom K cX5_skipBlanks 3 0 33 (v0 :: .int x :: ls) st hp = ab_X rom K cX5_skipBlanks 3 0 34 (v0 :: .int x :: ls) (.int x :: st) hp := ax_iload_n dX5_skipBlanks_33 rfl rfl
theorem dX5_skipBlanks_34 : decode cX5_skipBlanks 34 = .ok (.bipush 10, 2) := by decide +kernel
theorem sX5_skipBlanks_34 : ab_X rom K cX5_skipBlanks 3 0 34 ls st hp = ab_X rom K cX5_skipBlanks 3 0 36 ls (.int 10 :: st) hp := ax_bipush dX5_skipBlanks_34 (by decide) rfl
theorem dX5_skipBlanks_36 : decode cX5_skipBlanks 36 = .ok (.if_icmp .eq 4, 3) := by decide +kernel
theorem sX5_skipBlanks_36 : ab_X rom K cX5_skipBlanks 3 0 36 ls (.int y :: .int x :: st) hp = if x = y then ab_X rom K cX5_skipBlanks 3 0 40 ls st hp else ab_X rom K cX5_skipBlanks 3 0 39 ls st hp := ax_icmp_eq dX5_skipBlanks_36 (by decide) rfl
theorem dX5_skipBlanks_39 : decode cX5_skipBlanks 39 = .ok (.return_, 1) := by decide +kernel
theorem sX5_skipBlanks_39 : ab_X rom K cX5_skipBlanks 3 0 39 ls [] hp = some (none, hp) := ax_vret dX5_skipBlanks_39 (by decide)
theorem dX5_skipBlanks_40 : decode cX5_skipBlanks 40 = .ok (.aload_n 0, 1) := by decide +kernel
theorem sX5_skipBlanks_40 : ab_X rom K cX5_skipBlanks 3 0 40 (.ref a :: ls) st hp = ab_X rom K cX5_skipBlanks 3 0 41 (.ref a :: ls) (.ref a :: st) hp := ax_aload_n dX5_skipBlanks_40 rfl rfl
theorem dX5_skipBlanks_41 : decode cX5_skipBlanks 41 = .ok (.dup, 1) := by decide +kernel
theorem sX5_skipBlanks_41i : ab_X rom K cX5_skipBlanks 3 0 41 ls (.int x :: st) hp = ab_X rom K cX5_skipBlanks 3 0 42 ls (.int x :: .int x :: st) hp := ax_dup dX5_skipBlanks_41 rfl (ab_c1_int _)
theorem sX5_skipBlanks_41r : ab_X rom K cX5_skipBlanks 3 0 41 ls (.ref a :: st) hp = ab_X rom K cX5_skipBlanks 3 0 42 ls (.ref a :: .ref a :: st) hp := ax_dup dX5_skipBlanks_41 rfl (ab_c1_ref _)
theorem dX5_skipBlanks_42 : decode cX5_skipBlanks 42 = .ok (.getfield 18, 3) := by decide +kernel
theorem sX5_skipBlanks_42 : ab_X rom K cX5_skipBlanks 3 0 42 ls (.ref a :: st) hp = (ab_fld hp a 3 4).bind (fun v => ab_X rom K cX5_skipBlanks 3 0 45 ls (v :: st) hp) := ax_getfield dX5_skipBlanks_42 kf_3_18 rfl
theorem dX5_skipBlanks_45 : decode cX5_skipBlanks 45 = .ok (.iconst 1, 1) := by decide +kernel
theorem sX5_skipBlanks_45 : ab_X rom K cX5_skipBlanks 3 0 45 ls st hp = ab_X rom K cX5_skipBlanks 3 0 46 ls (.int 1 :: st) hp := ax_iconst dX5_skipBlanks_45 (by decide) rfl
theorem dX5_skipBlanks_46 : decode cX5_skipBlanks 46 = .ok (.iadd, 1) := by decide +kernel
theorem sX5_skipBlanks_46 : ab_X rom K cX5_skipBlanks 3 0 46 ls (.int y :: .int x :: st) hp = ab_X rom K cX5_skipBlanks 3 0 47 ls (.int (x + y) :: st) hp := ax_iadd dX5_skipBlanks_46 rfl
theorem dX5_skipBlanks_47 : decode cX5_skipBlanks 47 = .ok (.putfield 18, 3) := by decide +kernel
theorem sX5_skipBlanks_47 : ab_X rom K cX5_skipBlanks 3 0 47 ls (.int x :: .ref a :: st) hp = (ab_fpt hp a 3 4 (.int x)).bind (fun hp' => ab_X rom K cX5_skipBlanks 3 0 50 ls st hp') := ax_putfield dX5_skipBlanks_47 kf_3_18 rfl (Or.inl rfl) rfl
theorem dX5_skipBlanks_50 : decode cX5_skipBlanks 50 = .ok (.goto (-50), 3) := by decide +kernel
theorem sX5_skipBlanks_50 : ab_X rom K cX5_skipBlanks 3 0 50 ls st hp = ab_X rom K cX5_skipBlanks 3 0 0 ls st hp := ax_goto dX5_skipBlanks_50 (by decide)
theorem dX5_skipBlanks_53 : decode cX5_skipBlanks 53 = .ok (.return_, 1) := by decide +kernel
theorem sX5_skipBlanks_53 : ab_X rom K cX5_skipBlanks 3 0 53 ls [] hp = some (none, hp) := ax_vret dX5_skipBlanks_53 (by decide)
theorem tX5_spells : ab_mT[54]? = some (yX5_spells, cX5_spells, 3, 2, 3) := by decide +kernel
theorem mX5_spells {d : Nat} {a0 : Nat} {r0 : Nat} : ab_M rom (d + 1) 54 [.ref a0, .ref r0] hp = ab_X rom (ab_M rom d) cX5_spells 3 2 0 [.ref a0, .ref r0, .null] [] hp := ab_M_eq tX5_spells (Nat.le_of_ble_eq_true rfl)
theorem dX5_spells_0 : decode cX5_spells 0 = .ok (.aload_n 0, 1) := by decide +kernel
theorem sX5_spells_0 : ab_X rom K cX5_spells 3 2 0 (.ref a :: ls) st hp = ab_X rom K cX5_spells 3 2 1 (.ref a :: ls) (.ref a :: st) hp := ax_aload_n dX5_spells_0 rfl rfl
theorem dX5_spells_1 : decode cX5_spells 1 = .ok (.getfield 18, 3) := by decide +kernel
theorem sX5_spells_1 : ab_X rom K cX5_spells 3 2 1 ls (.ref a :: st) hp = (ab_fld hp a 3 4).bind (fun v => ab_X rom K cX5_spells 3 2 4 ls (v :: st) hp) := ax_getfield dX5_spells_1 kf_3_18 rfl
theorem dX5_spells_4 : decode cX5_spells 4 = .ok (.aload_n 0, 1) := by decide +kernel
theorem sX5_spells_4 : ab_X rom K cX5_spells 3 2 4 (.ref a :: ls) st hp = ab_X rom K cX5_spells 3 2 5 (.ref a :: ls) (.ref a :: st) hp := ax_aload_n dX5_spells_4 rfl rfl
theorem dX5_spells_5 : decode cX5_spells 5 = .ok (.getfield 21, 3) := by decide +kernel
theorem sX5_spells_5 : ab_X rom K cX5_spells 3 2 5 ls (.ref a :: st) hp = (ab_fld hp a 3 5).bind (fun v => ab_X rom K cX5_spells 3 2 8 ls (v :: st) hp) := ax_getfield dX5_spells_5 kf_3_21 rfl
theorem dX5_spells_8 : decode cX5_spells 8 = .ok (.isub, 1) := by decide +kernel
theorem sX5_spells_8 : ab_X rom K cX5_spells 3 2 8 ls (.int y :: .int x :: st) hp = ab_X rom K cX5_spells 3 2 9 ls (.int (x - y) :: st) hp := ax_isub dX5_spells_8 rfl
theorem dX5_spells_9 : decode cX5_spells 9 = .ok (.aload_n 1, 1) := by decide +kernel
theorem sX5_spells_9 : ab_X rom K cX5_spells 3 2 9 (v0 :: .ref a :: ls) st hp = ab_X rom K cX5_spells 3 2 10 (v0 :: .ref a :: ls) (.ref a :: st) hp := ax_aload_n dX5_spells_9 rfl rfl
theorem dX5_spells_10 : decode cX5_spells 10 = .ok (.invokevirtual 131, 3) := by decide +kernel
theorem sX5_spells_10_0 : ab_X rom K cX5_spells 3 2 10 ls [.ref a] hp = (K 1000 (.ref a :: []) hp).bind (fun o => ab_X rom K cX5_spells 3 2 13 ls (o.1.toList ++ []) o.2) := ax_text (as := []) (st := []) dX5_spells_10 kc_3_131 (by decide) rfl rfl (Nat.le_of_ble_eq_true rfl)
theorem sX5_spells_10_1 : ab_X rom K cX5_spells 3 2 10 ls [.ref a, v0] hp = (K 1000 (.ref a :: []) hp).bind (fun o => ab_X rom K cX5_spells 3 2 13 ls (o.1.toList ++ [v0]) o.2) := ax_text (as := []) (st := [v0]) dX5_spells_10 kc_3_131 (by decide) rfl rfl (Nat.le_of_ble_eq_true rfl)
theorem sX5_spells_10_2 : ab_X rom K cX5_spells 3 2 10 ls [.ref a, v0, v1] hp = (K 1000 (.ref a :: []) hp).bind (fun o => ab_X rom K cX5_spells 3 2 13 ls (o.1.toList ++ [v0, v1]) o.2) := ax_text (as := []) (st := [v0, v1]) dX5_spells_10 kc_3_131 (by decide) rfl rfl (Nat.le_of_ble_eq_true rfl)
theorem sX5_spells_10_3 : ab_X rom K cX5_spells 3 2 10 ls [.ref a, v0, v1, v2] hp = (K 1000 (.ref a :: []) hp).bind (fun o => ab_X rom K cX5_spells 3 2 13 ls (o.1.toList ++ [v0, v1, v2]) o.2) := ax_text (as := []) (st := [v0, v1, v2]) dX5_spells_10 kc_3_131 (by decide) rfl rfl (Nat.le_of_ble_eq_true rfl)
theorem dX5_spells_13 : decode cX5_spells 13 = .ok (.if_icmp .eq 5, 3) := by decide +kernel
theorem sX5_spells_13 : ab_X rom K cX5_spells 3 2 13 ls (.int y :: .int x :: st) hp = if x = y then ab_X rom K cX5_spells 3 2 18 ls st hp else ab_X rom K cX5_spells 3 2 16 ls st hp := ax_icmp_eq dX5_spells_13 (by decide) rfl
theorem dX5_spells_16 : decode cX5_spells 16 = .ok (.iconst 0, 1) := by decide +kernel
theorem sX5_spells_16 : ab_X rom K cX5_spells 3 2 16 ls st hp = ab_X rom K cX5_spells 3 2 17 ls (.int 0 :: st) hp := ax_iconst dX5_spells_16 (by decide) rfl
theorem dX5_spells_17 : decode cX5_spells 17 = .ok (.ireturn, 1) := by decide +kernel
theorem sX5_spells_17 : ab_X rom K cX5_spells 3 2 17 ls [.int x] hp = if x = 0 ∨ x = 1 then some (some (.int x), hp) else none := ay_zret dX5_spells_17 rfl
theorem dX5_spells_18 : decode cX5_spells 18 = .ok (.iconst 0, 1) := by decide +kernel
theorem sX5_spells_18 : ab_X rom K cX5_spells 3 2 18 ls st hp = ab_X rom K cX5_spells 3 2 19 ls (.int 0 :: st) hp := ax_iconst dX5_spells_18 (by decide) rfl
theorem dX5_spells_19 : decode cX5_spells 19 = .ok (.istore_n 2, 1) := by decide +kernel
theorem sX5_spells_19i : ab_X rom K cX5_spells 3 2 19 (v0 :: .int y :: v2 :: ls) (.int x :: st) hp = ab_X rom K cX5_spells 3 2 20 (v0 :: .int y :: .int x :: ls) st hp := ax_istore_n dX5_spells_19 (ax_lt (v := v2) rfl) (ab_nl_c1 (j := 1) (v := .int y) rfl (ab_c1_int _)) rfl rfl
theorem sX5_spells_19r : ab_X rom K cX5_spells 3 2 19 (v0 :: .ref a2 :: v2 :: ls) (.int x :: st) hp = ab_X rom K cX5_spells 3 2 20 (v0 :: .ref a2 :: .int x :: ls) st hp := ax_istore_n dX5_spells_19 (ax_lt (v := v2) rfl) (ab_nl_c1 (j := 1) (v := .ref a2) rfl (ab_c1_ref _)) rfl rfl
theorem sX5_spells_19n : ab_X rom K cX5_spells 3 2 19 (v0 :: .null :: v2 :: ls) (.int x :: st) hp = ab_X rom K cX5_spells 3 2 20 (v0 :: .null :: .int x :: ls) st hp := ax_istore_n dX5_spells_19 (ax_lt (v := v2) rfl) (ab_nl_c1 (j := 1) (v := .null) rfl ab_c1_null) rfl rfl
theorem dX5_spells_20 : decode cX5_spells 20 = .ok (.iload_n 2, 1) := by decide +kernel
theorem sX5_spells_20 : ab_X rom K cX5_spells 3 2 20 (v0 :: v1 :: .int x :: ls) st hp = ab_X rom K cX5_spells 3 2 21 (v0 :: v1 :: .int x :: ls) (.int x :: st) hp := ax_iload_n dX5_spells_20 rfl rfl
theorem dX5_spells_21 : decode cX5_spells 21 = .ok (.aload_n 1, 1) := by decide +kernel
theorem sX5_spells_21 : ab_X rom K cX5_spells 3 2 21 (v0 :: .ref a :: ls) st hp = ab_X rom K cX5_spells 3 2 22 (v0 :: .ref a :: ls) (.ref a :: st) hp := ax_aload_n dX5_spells_21 rfl rfl
theorem dX5_spells_22 : decode cX5_spells 22 = .ok (.invokevirtual 131, 3) := by decide +kernel
theorem sX5_spells_22_0 : ab_X rom K cX5_spells 3 2 22 ls [.ref a] hp = (K 1000 (.ref a :: []) hp).bind (fun o => ab_X rom K cX5_spells 3 2 25 ls (o.1.toList ++ []) o.2) := ax_text (as := []) (st := []) dX5_spells_22 kc_3_131 (by decide) rfl rfl (Nat.le_of_ble_eq_true rfl)
theorem sX5_spells_22_1 : ab_X rom K cX5_spells 3 2 22 ls [.ref a, v0] hp = (K 1000 (.ref a :: []) hp).bind (fun o => ab_X rom K cX5_spells 3 2 25 ls (o.1.toList ++ [v0]) o.2) := ax_text (as := []) (st := [v0]) dX5_spells_22 kc_3_131 (by decide) rfl rfl (Nat.le_of_ble_eq_true rfl)
theorem sX5_spells_22_2 : ab_X rom K cX5_spells 3 2 22 ls [.ref a, v0, v1] hp = (K 1000 (.ref a :: []) hp).bind (fun o => ab_X rom K cX5_spells 3 2 25 ls (o.1.toList ++ [v0, v1]) o.2) := ax_text (as := []) (st := [v0, v1]) dX5_spells_22 kc_3_131 (by decide) rfl rfl (Nat.le_of_ble_eq_true rfl)
theorem sX5_spells_22_3 : ab_X rom K cX5_spells 3 2 22 ls [.ref a, v0, v1, v2] hp = (K 1000 (.ref a :: []) hp).bind (fun o => ab_X rom K cX5_spells 3 2 25 ls (o.1.toList ++ [v0, v1, v2]) o.2) := ax_text (as := []) (st := [v0, v1, v2]) dX5_spells_22 kc_3_131 (by decide) rfl rfl (Nat.le_of_ble_eq_true rfl)
theorem dX5_spells_25 : decode cX5_spells 25 = .ok (.if_icmp .ge 33, 3) := by decide +kernel
theorem sX5_spells_25 : ab_X rom K cX5_spells 3 2 25 ls (.int y :: .int x :: st) hp = if x < y then ab_X rom K cX5_spells 3 2 28 ls st hp else ab_X rom K cX5_spells 3 2 58 ls st hp := ax_icmp_ge dX5_spells_25 (by decide) rfl
theorem dX5_spells_28 : decode cX5_spells 28 = .ok (.aload_n 0, 1) := by decide +kernel
theorem sX5_spells_28 : ab_X rom K cX5_spells 3 2 28 (.ref a :: ls) st hp = ab_X rom K cX5_spells 3 2 29 (.ref a :: ls) (.ref a :: st) hp := ax_aload_n dX5_spells_28 rfl rfl
theorem dX5_spells_29 : decode cX5_spells 29 = .ok (.getfield 30, 3) := by decide +kernel
theorem sX5_spells_29 : ab_X rom K cX5_spells 3 2 29 ls (.ref a :: st) hp = (ab_fld hp a 3 2).bind (fun v => ab_X rom K cX5_spells 3 2 32 ls (v :: st) hp) := ax_getfield dX5_spells_29 kf_3_30 rfl
theorem dX5_spells_32 : decode cX5_spells 32 = .ok (.getfield 111, 3) := by decide +kernel
theorem sX5_spells_32 : ab_X rom K cX5_spells 3 2 32 ls (.ref a :: st) hp = (ab_fld hp a 5 0).bind (fun v => ab_X rom K cX5_spells 3 2 35 ls (v :: st) hp) := ax_getfield dX5_spells_32 kf_3_111 rfl
theorem dX5_spells_35 : decode cX5_spells 35 = .ok (.aload_n 0, 1) := by decide +kernel
theorem sX5_spells_35 : ab_X rom K cX5_spells 3 2 35 (.ref a :: ls) st hp = ab_X rom K cX5_spells 3 2 36 (.ref a :: ls) (.ref a :: st) hp := ax_aload_n dX5_spells_35 rfl rfl
theorem dX5_spells_36 : decode cX5_spells 36 = .ok (.getfield 21, 3) := by decide +kernel
theorem sX5_spells_36 : ab_X rom K cX5_spells 3 2 36 ls (.ref a :: st) hp = (ab_fld hp a 3 5).bind (fun v => ab_X rom K cX5_spells 3 2 39 ls (v :: st) hp) := ax_getfield dX5_spells_36 kf_3_21 rfl
theorem dX5_spells_39 : decode cX5_spells 39 = .ok (.iload_n 2, 1) := by decide +kernel
theorem sX5_spells_39 : ab_X rom K cX5_spells 3 2 39 (v0 :: v1 :: .int x :: ls) st hp = ab_X rom K cX5_spells 3 2 40 (v0 :: v1 :: .int x :: ls) (.int x :: st) hp := ax_iload_n dX5_spells_39 rfl rfl
theorem dX5_spells_40 : decode cX5_spells 40 = .ok (.iadd, 1) := by decide +kernel
theorem sX5_spells_40 : ab_X rom K cX5_spells 3 2 40 ls (.int y :: .int x :: st) hp = ab_X rom K cX5_spells 3 2 41 ls (.int (x + y) :: st) hp := ax_iadd dX5_spells_40 rfl
theorem dX5_spells_41 : decode cX5_spells 41 = .ok (.iaload, 1) := by decide +kernel
theorem sX5_spells_41 : ab_X rom K cX5_spells 3 2 41 ls (.int x :: .ref a :: st) hp = (ab_ard rom 0 hp a x).bind (fun v => ab_X rom K cX5_spells 3 2 42 ls (.int v :: st) hp) := ax_iaload dX5_spells_41 rfl
theorem dX5_spells_42 : decode cX5_spells 42 = .ok (.aload_n 1, 1) := by decide +kernel
theorem sX5_spells_42 : ab_X rom K cX5_spells 3 2 42 (v0 :: .ref a :: ls) st hp = ab_X rom K cX5_spells 3 2 43 (v0 :: .ref a :: ls) (.ref a :: st) hp := ax_aload_n dX5_spells_42 rfl rfl
theorem dX5_spells_43 : decode cX5_spells 43 = .ok (.iload_n 2, 1) := by decide +kernel
theorem sX5_spells_43 : ab_X rom K cX5_spells 3 2 43 (v0 :: v1 :: .int x :: ls) st hp = ab_X rom K cX5_spells 3 2 44 (v0 :: v1 :: .int x :: ls) (.int x :: st) hp := ax_iload_n dX5_spells_43 rfl rfl
theorem dX5_spells_44 : decode cX5_spells 44 = .ok (.invokevirtual 136, 3) := by decide +kernel
theorem sX5_spells_44_0 : ab_X rom K cX5_spells 3 2 44 ls [w1, .ref a] hp = (K 1001 (.ref a :: [w1]) hp).bind (fun o => ab_X rom K cX5_spells 3 2 47 ls (o.1.toList ++ []) o.2) := ax_text (as := [w1]) (st := []) dX5_spells_44 kc_3_136 (by decide) rfl rfl (Nat.le_of_ble_eq_true rfl)
theorem sX5_spells_44_1 : ab_X rom K cX5_spells 3 2 44 ls [w1, .ref a, v0] hp = (K 1001 (.ref a :: [w1]) hp).bind (fun o => ab_X rom K cX5_spells 3 2 47 ls (o.1.toList ++ [v0]) o.2) := ax_text (as := [w1]) (st := [v0]) dX5_spells_44 kc_3_136 (by decide) rfl rfl (Nat.le_of_ble_eq_true rfl)
theorem sX5_spells_44_2 : ab_X rom K cX5_spells 3 2 44 ls [w1, .ref a, v0, v1] hp = (K 1001 (.ref a :: [w1]) hp).bind (fun o => ab_X rom K cX5_spells 3 2 47 ls (o.1.toList ++ [v0, v1]) o.2) := ax_text (as := [w1]) (st := [v0, v1]) dX5_spells_44 kc_3_136 (by decide) rfl rfl (Nat.le_of_ble_eq_true rfl)
theorem sX5_spells_44_3 : ab_X rom K cX5_spells 3 2 44 ls [w1, .ref a, v0, v1, v2] hp = (K 1001 (.ref a :: [w1]) hp).bind (fun o => ab_X rom K cX5_spells 3 2 47 ls (o.1.toList ++ [v0, v1, v2]) o.2) := ax_text (as := [w1]) (st := [v0, v1, v2]) dX5_spells_44 kc_3_136 (by decide) rfl rfl (Nat.le_of_ble_eq_true rfl)
theorem dX5_spells_47 : decode cX5_spells 47 = .ok (.if_icmp .eq 5, 3) := by decide +kernel
theorem sX5_spells_47 : ab_X rom K cX5_spells 3 2 47 ls (.int y :: .int x :: st) hp = if x = y then ab_X rom K cX5_spells 3 2 52 ls st hp else ab_X rom K cX5_spells 3 2 50 ls st hp := ax_icmp_eq dX5_spells_47 (by decide) rfl
theorem dX5_spells_50 : decode cX5_spells 50 = .ok (.iconst 0, 1) := by decide +kernel
theorem sX5_spells_50 : ab_X rom K cX5_spells 3 2 50 ls st hp = ab_X rom K cX5_spells 3 2 51 ls (.int 0 :: st) hp := ax_iconst dX5_spells_50 (by decide) rfl
theorem dX5_spells_51 : decode cX5_spells 51 = .ok (.ireturn, 1) := by decide +kernel
theorem sX5_spells_51 : ab_X rom K cX5_spells 3 2 51 ls [.int x] hp = if x = 0 ∨ x = 1 then some (some (.int x), hp) else none := ay_zret dX5_spells_51 rfl
theorem dX5_spells_52 : decode cX5_spells 52 = .ok (.iinc 2 1, 3) := by decide +kernel
theorem sX5_spells_52i : ab_X rom K cX5_spells 3 2 52 (v0 :: .int y :: .int x :: ls) st hp = ab_X rom K cX5_spells 3 2 55 (v0 :: .int y :: .int (x + 1) :: ls) st hp := ax_iinc dX5_spells_52 rfl (ab_nl_c1 (j := 1) (v := .int y) rfl (ab_c1_int _)) (by decide) rfl rfl
theorem sX5_spells_52r : ab_X rom K cX5_spells 3 2 52 (v0 :: .ref a2 :: .int x :: ls) st hp = ab_X rom K cX5_spells 3 2 55 (v0 :: .ref a2 :: .int (x + 1) :: ls) st hp := ax_iinc dX5_spells_52 rfl (ab_nl_c1 (j := 1) (v := .ref a2) rfl (ab_c1_ref _)) (by decide) rfl rfl
theorem sX5_spells_52n : ab_X rom K cX5_spells 3 2 52 (v0 :: .null :: .int x :: ls) st hp = ab_X rom K cX5_spells 3 2 55 (v0 :: .null :: .int (x + 1) :: ls) st hp := ax_iinc dX5_spells_52 rfl (ab_nl_c1 (j := 1) (v := .null) rfl ab_c1_null) (by decide) rfl rfl
theorem dX5_spells_55 : decode cX5_spells 55 = .ok (.goto (-35), 3) := by decide +kernel
theorem sX5_spells_55 : ab_X rom K cX5_spells 3 2 55 ls st hp = ab_X rom K cX5_spells 3 2 20 ls st hp := ax_goto dX5_spells_55 (by decide)
theorem dX5_spells_58 : decode cX5_spells 58 = .ok (.iconst 1, 1) := by decide +kernel
theorem sX5_spells_58 : ab_X rom K cX5_spells 3 2 58 ls st hp = ab_X rom K cX5_spells 3 2 59 ls (.int 1 :: st) hp := ax_iconst dX5_spells_58 (by decide) rfl
theorem dX5_spells_59 : decode cX5_spells 59 = .ok (.ireturn, 1) := by decide +kernel
theorem sX5_spells_59 : ab_X rom K cX5_spells 3 2 59 ls [.int x] hp = if x = 0 ∨ x = 1 then some (some (.int x), hp) else none := ay_zret dX5_spells_59 rfl
theorem tX5_takeNumber : ab_mT[55]? = some (yX5_takeNumber, cX5_takeNumber, 1, 0, 3) := by decide +kernel
theorem mX5_takeNumber {d : Nat} {a0 : Nat} : ab_M rom (d + 1) 55 [.ref a0] hp = ab_X rom (ab_M rom d) cX5_takeNumber 3 0 0 [.ref a0] [] hp := ab_M_eq tX5_takeNumber (Nat.le_of_ble_eq_true rfl)
theorem dX5_takeNumber_0 : decode cX5_takeNumber 0 = .ok (.aload_n 0, 1) := by decide +kernel
theorem sX5_takeNumber_0 : ab_X rom K cX5_takeNumber 3 0 0 (.ref a :: ls) st hp = ab_X rom K cX5_takeNumber 3 0 1 (.ref a :: ls) (.ref a :: st) hp := ax_aload_n dX5_takeNumber_0 rfl rfl
theorem dX5_takeNumber_1 : decode cX5_takeNumber 1 = .ok (.iconst 2, 1) := by decide +kernel
theorem sX5_takeNumber_1 : ab_X rom K cX5_takeNumber 3 0 1 ls st hp = ab_X rom K cX5_takeNumber 3 0 2 ls (.int 2 :: st) hp := ax_iconst dX5_takeNumber_1 (by decide) rfl
theorem dX5_takeNumber_2 : decode cX5_takeNumber 2 = .ok (.putfield 24, 3) := by decide +kernel
theorem sX5_takeNumber_2 : ab_X rom K cX5_takeNumber 3 0 2 ls (.int x :: .ref a :: st) hp = (ab_fpt hp a 3 6 (.int x)).bind (fun hp' => ab_X rom K cX5_takeNumber 3 0 5 ls st hp') := ax_putfield dX5_takeNumber_2 kf_3_24 rfl (Or.inl rfl) rfl
theorem dX5_takeNumber_5 : decode cX5_takeNumber 5 = .ok (.aload_n 0, 1) := by decide +kernel
theorem sX5_takeNumber_5 : ab_X rom K cX5_takeNumber 3 0 5 (.ref a :: ls) st hp = ab_X rom K cX5_takeNumber 3 0 6 (.ref a :: ls) (.ref a :: st) hp := ax_aload_n dX5_takeNumber_5 rfl rfl
theorem dX5_takeNumber_6 : decode cX5_takeNumber 6 = .ok (.iconst 0, 1) := by decide +kernel
theorem sX5_takeNumber_6 : ab_X rom K cX5_takeNumber 3 0 6 ls st hp = ab_X rom K cX5_takeNumber 3 0 7 ls (.int 0 :: st) hp := ax_iconst dX5_takeNumber_6 (by decide) rfl
theorem dX5_takeNumber_7 : decode cX5_takeNumber 7 = .ok (.putfield 27, 3) := by decide +kernel
theorem sX5_takeNumber_7 : ab_X rom K cX5_takeNumber 3 0 7 ls (.int x :: .ref a :: st) hp = (ab_fpt hp a 3 7 (.int x)).bind (fun hp' => ab_X rom K cX5_takeNumber 3 0 10 ls st hp') := ax_putfield dX5_takeNumber_7 kf_3_27 rfl (Or.inl rfl) rfl
theorem dX5_takeNumber_10 : decode cX5_takeNumber 10 = .ok (.aload_n 0, 1) := by decide +kernel
theorem sX5_takeNumber_10 : ab_X rom K cX5_takeNumber 3 0 10 (.ref a :: ls) st hp = ab_X rom K cX5_takeNumber 3 0 11 (.ref a :: ls) (.ref a :: st) hp := ax_aload_n dX5_takeNumber_10 rfl rfl
theorem dX5_takeNumber_11 : decode cX5_takeNumber 11 = .ok (.getfield 18, 3) := by decide +kernel
theorem sX5_takeNumber_11 : ab_X rom K cX5_takeNumber 3 0 11 ls (.ref a :: st) hp = (ab_fld hp a 3 4).bind (fun v => ab_X rom K cX5_takeNumber 3 0 14 ls (v :: st) hp) := ax_getfield dX5_takeNumber_11 kf_3_18 rfl
theorem dX5_takeNumber_14 : decode cX5_takeNumber 14 = .ok (.aload_n 0, 1) := by decide +kernel
theorem sX5_takeNumber_14 : ab_X rom K cX5_takeNumber 3 0 14 (.ref a :: ls) st hp = ab_X rom K cX5_takeNumber 3 0 15 (.ref a :: ls) (.ref a :: st) hp := ax_aload_n dX5_takeNumber_14 rfl rfl
theorem dX5_takeNumber_15 : decode cX5_takeNumber 15 = .ok (.getfield 30, 3) := by decide +kernel
theorem sX5_takeNumber_15 : ab_X rom K cX5_takeNumber 3 0 15 ls (.ref a :: st) hp = (ab_fld hp a 3 2).bind (fun v => ab_X rom K cX5_takeNumber 3 0 18 ls (v :: st) hp) := ax_getfield dX5_takeNumber_15 kf_3_30 rfl
theorem dX5_takeNumber_18 : decode cX5_takeNumber 18 = .ok (.getfield 106, 3) := by decide +kernel
theorem sX5_takeNumber_18 : ab_X rom K cX5_takeNumber 3 0 18 ls (.ref a :: st) hp = (ab_fld hp a 5 1).bind (fun v => ab_X rom K cX5_takeNumber 3 0 21 ls (v :: st) hp) := ax_getfield dX5_takeNumber_18 kf_3_106 rfl
theorem dX5_takeNumber_21 : decode cX5_takeNumber 21 = .ok (.if_icmp .ge 67, 3) := by decide +kernel
theorem sX5_takeNumber_21 : ab_X rom K cX5_takeNumber 3 0 21 ls (.int y :: .int x :: st) hp = if x < y then ab_X rom K cX5_takeNumber 3 0 24 ls st hp else ab_X rom K cX5_takeNumber 3 0 88 ls st hp := ax_icmp_ge dX5_takeNumber_21 (by decide) rfl
theorem dX5_takeNumber_24 : decode cX5_takeNumber 24 = .ok (.aload_n 0, 1) := by decide +kernel
theorem sX5_takeNumber_24 : ab_X rom K cX5_takeNumber 3 0 24 (.ref a :: ls) st hp = ab_X rom K cX5_takeNumber 3 0 25 (.ref a :: ls) (.ref a :: st) hp := ax_aload_n dX5_takeNumber_24 rfl rfl
theorem dX5_takeNumber_25 : decode cX5_takeNumber 25 = .ok (.getfield 30, 3) := by decide +kernel
theorem sX5_takeNumber_25 : ab_X rom K cX5_takeNumber 3 0 25 ls (.ref a :: st) hp = (ab_fld hp a 3 2).bind (fun v => ab_X rom K cX5_takeNumber 3 0 28 ls (v :: st) hp) := ax_getfield dX5_takeNumber_25 kf_3_30 rfl
theorem dX5_takeNumber_28 : decode cX5_takeNumber 28 = .ok (.getfield 111, 3) := by decide +kernel
theorem sX5_takeNumber_28 : ab_X rom K cX5_takeNumber 3 0 28 ls (.ref a :: st) hp = (ab_fld hp a 5 0).bind (fun v => ab_X rom K cX5_takeNumber 3 0 31 ls (v :: st) hp) := ax_getfield dX5_takeNumber_28 kf_3_111 rfl
theorem dX5_takeNumber_31 : decode cX5_takeNumber 31 = .ok (.aload_n 0, 1) := by decide +kernel
theorem sX5_takeNumber_31 : ab_X rom K cX5_takeNumber 3 0 31 (.ref a :: ls) st hp = ab_X rom K cX5_takeNumber 3 0 32 (.ref a :: ls) (.ref a :: st) hp := ax_aload_n dX5_takeNumber_31 rfl rfl
theorem dX5_takeNumber_32 : decode cX5_takeNumber 32 = .ok (.getfield 18, 3) := by decide +kernel
theorem sX5_takeNumber_32 : ab_X rom K cX5_takeNumber 3 0 32 ls (.ref a :: st) hp = (ab_fld hp a 3 4).bind (fun v => ab_X rom K cX5_takeNumber 3 0 35 ls (v :: st) hp) := ax_getfield dX5_takeNumber_32 kf_3_18 rfl
theorem dX5_takeNumber_35 : decode cX5_takeNumber 35 = .ok (.iaload, 1) := by decide +kernel
theorem sX5_takeNumber_35 : ab_X rom K cX5_takeNumber 3 0 35 ls (.int x :: .ref a :: st) hp = (ab_ard rom 0 hp a x).bind (fun v => ab_X rom K cX5_takeNumber 3 0 36 ls (.int v :: st) hp) := ax_iaload dX5_takeNumber_35 rfl
theorem dX5_takeNumber_36 : decode cX5_takeNumber 36 = .ok (.invokestatic 114, 3) := by decide +kernel
theorem sX5_takeNumber_36_0 : ab_X rom K cX5_takeNumber 3 0 36 ls [w1] hp = (K 42 [w1] hp).bind (fun o => ab_X rom K cX5_takeNumber 3 0 39 ls (o.1.toList ++ []) o.2) := ax_static (as := [w1]) (st := []) dX5_takeNumber_36 kc_3_114 rfl rfl (Nat.le_of_ble_eq_true rfl)
theorem sX5_takeNumber_36_1 : ab_X rom K cX5_takeNumber 3 0 36 ls [w1, v0] hp = (K 42 [w1] hp).bind (fun o => ab_X rom K cX5_takeNumber 3 0 39 ls (o.1.toList ++ [v0]) o.2) := ax_static (as := [w1]) (st := [v0]) dX5_takeNumber_36 kc_3_114 rfl rfl (Nat.le_of_ble_eq_true rfl)
theorem sX5_takeNumber_36_2 : ab_X rom K cX5_takeNumber 3 0 36 ls [w1, v0, v1] hp = (K 42 [w1] hp).bind (fun o => ab_X rom K cX5_takeNumber 3 0 39 ls (o.1.toList ++ [v0, v1]) o.2) := ax_static (as := [w1]) (st := [v0, v1]) dX5_takeNumber_36 kc_3_114 rfl rfl (Nat.le_of_ble_eq_true rfl)
theorem sX5_takeNumber_36_3 : ab_X rom K cX5_takeNumber 3 0 36 ls [w1, v0, v1, v2] hp = (K 42 [w1] hp).bind (fun o => ab_X rom K cX5_takeNumber 3 0 39 ls (o.1.toList ++ [v0, v1, v2]) o.2) := ax_static (as := [w1]) (st := [v0, v1, v2]) dX5_takeNumber_36 kc_3_114 rfl rfl (Nat.le_of_ble_eq_true rfl)
theorem dX5_takeNumber_39 : decode cX5_takeNumber 39 = .ok (.ifCond .eq 49, 3) := by decide +kernel
theorem sX5_takeNumber_39 : ab_X rom K cX5_takeNumber 3 0 39 ls (.int x :: st) hp = if x = 0 then ab_X rom K cX5_takeNumber 3 0 88 ls st hp else ab_X rom K cX5_takeNumber 3 0 42 ls st hp := ax_if_eq dX5_takeNumber_39 (by decide) rfl
theorem dX5_takeNumber_42 : decode cX5_takeNumber 42 = .ok (.aload_n 0, 1) := by decide +kernel
theorem sX5_takeNumber_42 : ab_X rom K cX5_takeNumber 3 0 42 (.ref a :: ls) st hp = ab_X rom K cX5_takeNumber 3 0 43 (.ref a :: ls) (.ref a :: st) hp := ax_aload_n dX5_takeNumber_42 rfl rfl
theorem dX5_takeNumber_43 : decode cX5_takeNumber 43 = .ok (.sipush 1000, 3) := by decide +kernel
theorem sX5_takeNumber_43 : ab_X rom K cX5_takeNumber 3 0 43 ls st hp = ab_X rom K cX5_takeNumber 3 0 46 ls (.int 1000 :: st) hp := ax_sipush dX5_takeNumber_43 (by decide) rfl
theorem dX5_takeNumber_46 : decode cX5_takeNumber 46 = .ok (.aload_n 0, 1) := by decide +kernel
theorem sX5_takeNumber_46 : ab_X rom K cX5_takeNumber 3 0 46 (.ref a :: ls) st hp = ab_X rom K cX5_takeNumber 3 0 47 (.ref a :: ls) (.ref a :: st) hp := ax_aload_n dX5_takeNumber_46 rfl rfl
theorem dX5_takeNumber_47 : decode cX5_takeNumber 47 = .ok (.getfield 27, 3) := by decide +kernel
theorem sX5_takeNumber_47 : ab_X rom K cX5_takeNumber 3 0 47 ls (.ref a :: st) hp = (ab_fld hp a 3 7).bind (fun v => ab_X rom K cX5_takeNumber 3 0 50 ls (v :: st) hp) := ax_getfield dX5_takeNumber_47 kf_3_27 rfl
theorem dX5_takeNumber_50 : decode cX5_takeNumber 50 = .ok (.bipush 10, 2) := by decide +kernel
theorem sX5_takeNumber_50 : ab_X rom K cX5_takeNumber 3 0 50 ls st hp = ab_X rom K cX5_takeNumber 3 0 52 ls (.int 10 :: st) hp := ax_bipush dX5_takeNumber_50 (by decide) rfl
theorem dX5_takeNumber_52 : decode cX5_takeNumber 52 = .ok (.imul, 1) := by decide +kernel
theorem sX5_takeNumber_52 : ab_X rom K cX5_takeNumber 3 0 52 ls (.int y :: .int x :: st) hp = ab_X rom K cX5_takeNumber 3 0 53 ls (.int (x * y) :: st) hp := ax_imul dX5_takeNumber_52 rfl
theorem dX5_takeNumber_53 : decode cX5_takeNumber 53 = .ok (.aload_n 0, 1) := by decide +kernel
theorem sX5_takeNumber_53 : ab_X rom K cX5_takeNumber 3 0 53 (.ref a :: ls) st hp = ab_X rom K cX5_takeNumber 3 0 54 (.ref a :: ls) (.ref a :: st) hp := ax_aload_n dX5_takeNumber_53 rfl rfl
theorem dX5_takeNumber_54 : decode cX5_takeNumber 54 = .ok (.getfield 30, 3) := by decide +kernel
theorem sX5_takeNumber_54 : ab_X rom K cX5_takeNumber 3 0 54 ls (.ref a :: st) hp = (ab_fld hp a 3 2).bind (fun v => ab_X rom K cX5_takeNumber 3 0 57 ls (v :: st) hp) := ax_getfield dX5_takeNumber_54 kf_3_30 rfl
theorem dX5_takeNumber_57 : decode cX5_takeNumber 57 = .ok (.getfield 111, 3) := by decide +kernel
theorem sX5_takeNumber_57 : ab_X rom K cX5_takeNumber 3 0 57 ls (.ref a :: st) hp = (ab_fld hp a 5 0).bind (fun v => ab_X rom K cX5_takeNumber 3 0 60 ls (v :: st) hp) := ax_getfield dX5_takeNumber_57 kf_3_111 rfl
theorem dX5_takeNumber_60 : decode cX5_takeNumber 60 = .ok (.aload_n 0, 1) := by decide +kernel
theorem sX5_takeNumber_60 : ab_X rom K cX5_takeNumber 3 0 60 (.ref a :: ls) st hp = ab_X rom K cX5_takeNumber 3 0 61 (.ref a :: ls) (.ref a :: st) hp := ax_aload_n dX5_takeNumber_60 rfl rfl
theorem dX5_takeNumber_61 : decode cX5_takeNumber 61 = .ok (.getfield 18, 3) := by decide +kernel
theorem sX5_takeNumber_61 : ab_X rom K cX5_takeNumber 3 0 61 ls (.ref a :: st) hp = (ab_fld hp a 3 4).bind (fun v => ab_X rom K cX5_takeNumber 3 0 64 ls (v :: st) hp) := ax_getfield dX5_takeNumber_61 kf_3_18 rfl
theorem dX5_takeNumber_64 : decode cX5_takeNumber 64 = .ok (.iaload, 1) := by decide +kernel
theorem sX5_takeNumber_64 : ab_X rom K cX5_takeNumber 3 0 64 ls (.int x :: .ref a :: st) hp = (ab_ard rom 0 hp a x).bind (fun v => ab_X rom K cX5_takeNumber 3 0 65 ls (.int v :: st) hp) := ax_iaload dX5_takeNumber_64 rfl
theorem dX5_takeNumber_65 : decode cX5_takeNumber 65 = .ok (.iadd, 1) := by decide +kernel
theorem sX5_takeNumber_65 : ab_X rom K cX5_takeNumber 3 0 65 ls (.int y :: .int x :: st) hp = ab_X rom K cX5_takeNumber 3 0 66 ls (.int (x + y) :: st) hp := ax_iadd dX5_takeNumber_65 rfl
theorem dX5_takeNumber_66 : decode cX5_takeNumber 66 = .ok (.bipush 48, 2) := by decide +kernel
theorem sX5_takeNumber_66 : ab_X rom K cX5_takeNumber 3 0 66 ls st hp = ab_X rom K cX5_takeNumber 3 0 68 ls (.int 48 :: st) hp := ax_bipush dX5_takeNumber_66 (by decide) rfl
theorem dX5_takeNumber_68 : decode cX5_takeNumber 68 = .ok (.isub, 1) := by decide +kernel
theorem sX5_takeNumber_68 : ab_X rom K cX5_takeNumber 3 0 68 ls (.int y :: .int x :: st) hp = ab_X rom K cX5_takeNumber 3 0 69 ls (.int (x - y) :: st) hp := ax_isub dX5_takeNumber_68 rfl
theorem dX5_takeNumber_69 : decode cX5_takeNumber 69 = .ok (.invokestatic 126, 3) := by decide +kernel
theorem sX5_takeNumber_69_0 : ab_X rom K cX5_takeNumber 3 0 69 ls [.int y, .int x] hp = ab_X rom K cX5_takeNumber 3 0 72 ls [.int (ab_min x y)] hp := ax_min dX5_takeNumber_69 kc_3_126 rfl (Nat.le_of_ble_eq_true rfl)
theorem sX5_takeNumber_69_1 : ab_X rom K cX5_takeNumber 3 0 69 ls [.int y, .int x, v0] hp = ab_X rom K cX5_takeNumber 3 0 72 ls [.int (ab_min x y), v0] hp := ax_min dX5_takeNumber_69 kc_3_126 rfl (Nat.le_of_ble_eq_true rfl)
theorem sX5_takeNumber_69_2 : ab_X rom K cX5_takeNumber 3 0 69 ls [.int y, .int x, v0, v1] hp = ab_X rom K cX5_takeNumber 3 0 72 ls [.int (ab_min x y), v0, v1] hp := ax_min dX5_takeNumber_69 kc_3_126 rfl (Nat.le_of_ble_eq_true rfl)
theorem sX5_takeNumber_69_3 : ab_X rom K cX5_takeNumber 3 0 69 ls [.int y, .int x, v0, v1, v2] hp = ab_X rom K cX5_takeNumber 3 0 72 ls [.int (ab_min x y), v0, v1, v2] hp := ax_min dX5_takeNumber_69 kc_3_126 rfl (Nat.le_of_ble_eq_true rfl)
theorem dX5_takeNumber_72 : decode cX5_takeNumber 72 = .ok (.putfield 27, 3) := by decide +kernel
theorem sX5_takeNumber_72 : ab_X rom K cX5_takeNumber 3 0 72 ls (.int x :: .ref a :: st) hp = (ab_fpt hp a 3 7 (.int x)).bind (fun hp' => ab_X rom K cX5_takeNumber 3 0 75 ls st hp') := ax_putfield dX5_takeNumber_72 kf_3_27 rfl (Or.inl rfl) rfl
theorem dX5_takeNumber_75 : decode cX5_takeNumber 75 = .ok (.aload_n 0, 1) := by decide +kernel
theorem sX5_takeNumber_75 : ab_X rom K cX5_takeNumber 3 0 75 (.ref a :: ls) st hp = ab_X rom K cX5_takeNumber 3 0 76 (.ref a :: ls) (.ref a :: st) hp := ax_aload_n dX5_takeNumber_75 rfl rfl
theorem dX5_takeNumber_76 : decode cX5_takeNumber 76 = .ok (.dup, 1) := by decide +kernel
theorem sX5_takeNumber_76i : ab_X rom K cX5_takeNumber 3 0 76 ls (.int x :: st) hp = ab_X rom K cX5_takeNumber 3 0 77 ls (.int x :: .int x :: st) hp := ax_dup dX5_takeNumber_76 rfl (ab_c1_int _)
theorem sX5_takeNumber_76r : ab_X rom K cX5_takeNumber 3 0 76 ls (.ref a :: st) hp = ab_X rom K cX5_takeNumber 3 0 77 ls (.ref a :: .ref a :: st) hp := ax_dup dX5_takeNumber_76 rfl (ab_c1_ref _)
theorem dX5_takeNumber_77 : decode cX5_takeNumber 77 = .ok (.getfield 18, 3) := by decide +kernel
theorem sX5_takeNumber_77 : ab_X rom K cX5_takeNumber 3 0 77 ls (.ref a :: st) hp = (ab_fld hp a 3 4).bind (fun v => ab_X rom K cX5_takeNumber 3 0 80 ls (v :: st) hp) := ax_getfield dX5_takeNumber_77 kf_3_18 rfl
theorem dX5_takeNumber_80 : decode cX5_takeNumber 80 = .ok (.iconst 1, 1) := by decide +kernel
theorem sX5_takeNumber_80 : ab_X rom K cX5_takeNumber 3 0 80 ls st hp = ab_X rom K cX5_takeNumber 3 0 81 ls (.int 1 :: st) hp := ax_iconst dX5_takeNumber_80 (by decide) rfl
theorem dX5_takeNumber_81 : decode cX5_takeNumber 81 = .ok (.iadd, 1) := by decide +kernel
theorem sX5_takeNumber_81 : ab_X rom K cX5_takeNumber 3 0 81 ls (.int y :: .int x :: st) hp = ab_X rom K cX5_takeNumber 3 0 82 ls (.int (x + y) :: st) hp := ax_iadd dX5_takeNumber_81 rfl
theorem dX5_takeNumber_82 : decode cX5_takeNumber 82 = .ok (.putfield 18, 3) := by decide +kernel
theorem sX5_takeNumber_82 : ab_X rom K cX5_takeNumber 3 0 82 ls (.int x :: .ref a :: st) hp = (ab_fpt hp a 3 4 (.int x)).bind (fun hp' => ab_X rom K cX5_takeNumber 3 0 85 ls st hp') := ax_putfield dX5_takeNumber_82 kf_3_18 rfl (Or.inl rfl) rfl
theorem dX5_takeNumber_85 : decode cX5_takeNumber 85 = .ok (.goto (-75), 3) := by decide +kernel
theorem sX5_takeNumber_85 : ab_X rom K cX5_takeNumber 3 0 85 ls st hp = ab_X rom K cX5_takeNumber 3 0 10 ls st hp := ax_goto dX5_takeNumber_85 (by decide)
theorem dX5_takeNumber_88 : decode cX5_takeNumber 88 = .ok (.return_, 1) := by decide +kernel
theorem sX5_takeNumber_88 : ab_X rom K cX5_takeNumber 3 0 88 ls [] hp = some (none, hp) := ax_vret dX5_takeNumber_88 (by decide)
theorem tX5_takeWord : ab_mT[56]? = some (yX5_takeWord, cX5_takeWord, 1, 0, 3) := by decide +kernel
theorem mX5_takeWord {d : Nat} {a0 : Nat} : ab_M rom (d + 1) 56 [.ref a0] hp = ab_X rom (ab_M rom d) cX5_takeWord 3 0 0 [.ref a0] [] hp := ab_M_eq tX5_takeWord (Nat.le_of_ble_eq_true rfl)
theorem dX5_takeWord_0 : decode cX5_takeWord 0 = .ok (.aload_n 0, 1) := by decide +kernel
theorem sX5_takeWord_0 : ab_X rom K cX5_takeWord 3 0 0 (.ref a :: ls) st hp = ab_X rom K cX5_takeWord 3 0 1 (.ref a :: ls) (.ref a :: st) hp := ax_aload_n dX5_takeWord_0 rfl rfl
theorem dX5_takeWord_1 : decode cX5_takeWord 1 = .ok (.iconst 1, 1) := by decide +kernel
theorem sX5_takeWord_1 : ab_X rom K cX5_takeWord 3 0 1 ls st hp = ab_X rom K cX5_takeWord 3 0 2 ls (.int 1 :: st) hp := ax_iconst dX5_takeWord_1 (by decide) rfl
theorem dX5_takeWord_2 : decode cX5_takeWord 2 = .ok (.putfield 24, 3) := by decide +kernel
theorem sX5_takeWord_2 : ab_X rom K cX5_takeWord 3 0 2 ls (.int x :: .ref a :: st) hp = (ab_fpt hp a 3 6 (.int x)).bind (fun hp' => ab_X rom K cX5_takeWord 3 0 5 ls st hp') := ax_putfield dX5_takeWord_2 kf_3_24 rfl (Or.inl rfl) rfl
theorem dX5_takeWord_5 : decode cX5_takeWord 5 = .ok (.aload_n 0, 1) := by decide +kernel
theorem sX5_takeWord_5 : ab_X rom K cX5_takeWord 3 0 5 (.ref a :: ls) st hp = ab_X rom K cX5_takeWord 3 0 6 (.ref a :: ls) (.ref a :: st) hp := ax_aload_n dX5_takeWord_5 rfl rfl
theorem dX5_takeWord_6 : decode cX5_takeWord 6 = .ok (.iconst 0, 1) := by decide +kernel
theorem sX5_takeWord_6 : ab_X rom K cX5_takeWord 3 0 6 ls st hp = ab_X rom K cX5_takeWord 3 0 7 ls (.int 0 :: st) hp := ax_iconst dX5_takeWord_6 (by decide) rfl
theorem dX5_takeWord_7 : decode cX5_takeWord 7 = .ok (.putfield 27, 3) := by decide +kernel
theorem sX5_takeWord_7 : ab_X rom K cX5_takeWord 3 0 7 ls (.int x :: .ref a :: st) hp = (ab_fpt hp a 3 7 (.int x)).bind (fun hp' => ab_X rom K cX5_takeWord 3 0 10 ls st hp') := ax_putfield dX5_takeWord_7 kf_3_27 rfl (Or.inl rfl) rfl
theorem dX5_takeWord_10 : decode cX5_takeWord 10 = .ok (.aload_n 0, 1) := by decide +kernel
theorem sX5_takeWord_10 : ab_X rom K cX5_takeWord 3 0 10 (.ref a :: ls) st hp = ab_X rom K cX5_takeWord 3 0 11 (.ref a :: ls) (.ref a :: st) hp := ax_aload_n dX5_takeWord_10 rfl rfl
theorem dX5_takeWord_11 : decode cX5_takeWord 11 = .ok (.getfield 18, 3) := by decide +kernel
theorem sX5_takeWord_11 : ab_X rom K cX5_takeWord 3 0 11 ls (.ref a :: st) hp = (ab_fld hp a 3 4).bind (fun v => ab_X rom K cX5_takeWord 3 0 14 ls (v :: st) hp) := ax_getfield dX5_takeWord_11 kf_3_18 rfl
theorem dX5_takeWord_14 : decode cX5_takeWord 14 = .ok (.aload_n 0, 1) := by decide +kernel
theorem sX5_takeWord_14 : ab_X rom K cX5_takeWord 3 0 14 (.ref a :: ls) st hp = ab_X rom K cX5_takeWord 3 0 15 (.ref a :: ls) (.ref a :: st) hp := ax_aload_n dX5_takeWord_14 rfl rfl
theorem dX5_takeWord_15 : decode cX5_takeWord 15 = .ok (.getfield 30, 3) := by decide +kernel
theorem sX5_takeWord_15 : ab_X rom K cX5_takeWord 3 0 15 ls (.ref a :: st) hp = (ab_fld hp a 3 2).bind (fun v => ab_X rom K cX5_takeWord 3 0 18 ls (v :: st) hp) := ax_getfield dX5_takeWord_15 kf_3_30 rfl
theorem dX5_takeWord_18 : decode cX5_takeWord 18 = .ok (.getfield 106, 3) := by decide +kernel
theorem sX5_takeWord_18 : ab_X rom K cX5_takeWord 3 0 18 ls (.ref a :: st) hp = (ab_fld hp a 5 1).bind (fun v => ab_X rom K cX5_takeWord 3 0 21 ls (v :: st) hp) := ax_getfield dX5_takeWord_18 kf_3_106 rfl
theorem dX5_takeWord_21 : decode cX5_takeWord 21 = .ok (.if_icmp .ge 34, 3) := by decide +kernel
theorem sX5_takeWord_21 : ab_X rom K cX5_takeWord 3 0 21 ls (.int y :: .int x :: st) hp = if x < y then ab_X rom K cX5_takeWord 3 0 24 ls st hp else ab_X rom K cX5_takeWord 3 0 55 ls st hp := ax_icmp_ge dX5_takeWord_21 (by decide) rfl
theorem dX5_takeWord_24 : decode cX5_takeWord 24 = .ok (.aload_n 0, 1) := by decide +kernel
theorem sX5_takeWord_24 : ab_X rom K cX5_takeWord 3 0 24 (.ref a :: ls) st hp = ab_X rom K cX5_takeWord 3 0 25 (.ref a :: ls) (.ref a :: st) hp := ax_aload_n dX5_takeWord_24 rfl rfl
theorem dX5_takeWord_25 : decode cX5_takeWord 25 = .ok (.getfield 30, 3) := by decide +kernel
theorem sX5_takeWord_25 : ab_X rom K cX5_takeWord 3 0 25 ls (.ref a :: st) hp = (ab_fld hp a 3 2).bind (fun v => ab_X rom K cX5_takeWord 3 0 28 ls (v :: st) hp) := ax_getfield dX5_takeWord_25 kf_3_30 rfl
theorem dX5_takeWord_28 : decode cX5_takeWord 28 = .ok (.getfield 111, 3) := by decide +kernel
theorem sX5_takeWord_28 : ab_X rom K cX5_takeWord 3 0 28 ls (.ref a :: st) hp = (ab_fld hp a 5 0).bind (fun v => ab_X rom K cX5_takeWord 3 0 31 ls (v :: st) hp) := ax_getfield dX5_takeWord_28 kf_3_111 rfl
theorem dX5_takeWord_31 : decode cX5_takeWord 31 = .ok (.aload_n 0, 1) := by decide +kernel
theorem sX5_takeWord_31 : ab_X rom K cX5_takeWord 3 0 31 (.ref a :: ls) st hp = ab_X rom K cX5_takeWord 3 0 32 (.ref a :: ls) (.ref a :: st) hp := ax_aload_n dX5_takeWord_31 rfl rfl
theorem dX5_takeWord_32 : decode cX5_takeWord 32 = .ok (.getfield 18, 3) := by decide +kernel
theorem sX5_takeWord_32 : ab_X rom K cX5_takeWord 3 0 32 ls (.ref a :: st) hp = (ab_fld hp a 3 4).bind (fun v => ab_X rom K cX5_takeWord 3 0 35 ls (v :: st) hp) := ax_getfield dX5_takeWord_32 kf_3_18 rfl
theorem dX5_takeWord_35 : decode cX5_takeWord 35 = .ok (.iaload, 1) := by decide +kernel
theorem sX5_takeWord_35 : ab_X rom K cX5_takeWord 3 0 35 ls (.int x :: .ref a :: st) hp = (ab_ard rom 0 hp a x).bind (fun v => ab_X rom K cX5_takeWord 3 0 36 ls (.int v :: st) hp) := ax_iaload dX5_takeWord_35 rfl
theorem dX5_takeWord_36 : decode cX5_takeWord 36 = .ok (.invokestatic 120, 3) := by decide +kernel
theorem sX5_takeWord_36_0 : ab_X rom K cX5_takeWord 3 0 36 ls [w1] hp = (K 43 [w1] hp).bind (fun o => ab_X rom K cX5_takeWord 3 0 39 ls (o.1.toList ++ []) o.2) := ax_static (as := [w1]) (st := []) dX5_takeWord_36 kc_3_120 rfl rfl (Nat.le_of_ble_eq_true rfl)
theorem sX5_takeWord_36_1 : ab_X rom K cX5_takeWord 3 0 36 ls [w1, v0] hp = (K 43 [w1] hp).bind (fun o => ab_X rom K cX5_takeWord 3 0 39 ls (o.1.toList ++ [v0]) o.2) := ax_static (as := [w1]) (st := [v0]) dX5_takeWord_36 kc_3_120 rfl rfl (Nat.le_of_ble_eq_true rfl)
theorem sX5_takeWord_36_2 : ab_X rom K cX5_takeWord 3 0 36 ls [w1, v0, v1] hp = (K 43 [w1] hp).bind (fun o => ab_X rom K cX5_takeWord 3 0 39 ls (o.1.toList ++ [v0, v1]) o.2) := ax_static (as := [w1]) (st := [v0, v1]) dX5_takeWord_36 kc_3_120 rfl rfl (Nat.le_of_ble_eq_true rfl)
theorem sX5_takeWord_36_3 : ab_X rom K cX5_takeWord 3 0 36 ls [w1, v0, v1, v2] hp = (K 43 [w1] hp).bind (fun o => ab_X rom K cX5_takeWord 3 0 39 ls (o.1.toList ++ [v0, v1, v2]) o.2) := ax_static (as := [w1]) (st := [v0, v1, v2]) dX5_takeWord_36 kc_3_120 rfl rfl (Nat.le_of_ble_eq_true rfl)
theorem dX5_takeWord_39 : decode cX5_takeWord 39 = .ok (.ifCond .eq 16, 3) := by decide +kernel
theorem sX5_takeWord_39 : ab_X rom K cX5_takeWord 3 0 39 ls (.int x :: st) hp = if x = 0 then ab_X rom K cX5_takeWord 3 0 55 ls st hp else ab_X rom K cX5_takeWord 3 0 42 ls st hp := ax_if_eq dX5_takeWord_39 (by decide) rfl
theorem dX5_takeWord_42 : decode cX5_takeWord 42 = .ok (.aload_n 0, 1) := by decide +kernel
theorem sX5_takeWord_42 : ab_X rom K cX5_takeWord 3 0 42 (.ref a :: ls) st hp = ab_X rom K cX5_takeWord 3 0 43 (.ref a :: ls) (.ref a :: st) hp := ax_aload_n dX5_takeWord_42 rfl rfl
theorem dX5_takeWord_43 : decode cX5_takeWord 43 = .ok (.dup, 1) := by decide +kernel
theorem sX5_takeWord_43i : ab_X rom K cX5_takeWord 3 0 43 ls (.int x :: st) hp = ab_X rom K cX5_takeWord 3 0 44 ls (.int x :: .int x :: st) hp := ax_dup dX5_takeWord_43 rfl (ab_c1_int _)
theorem sX5_takeWord_43r : ab_X rom K cX5_takeWord 3 0 43 ls (.ref a :: st) hp = ab_X rom K cX5_takeWord 3 0 44 ls (.ref a :: .ref a :: st) hp := ax_dup dX5_takeWord_43 rfl (ab_c1_ref _)
theorem dX5_takeWord_44 : decode cX5_takeWord 44 = .ok (.getfield 18, 3) := by decide +kernel
theorem sX5_takeWord_44 : ab_X rom K cX5_takeWord 3 0 44 ls (.ref a :: st) hp = (ab_fld hp a 3 4).bind (fun v => ab_X rom K cX5_takeWord 3 0 47 ls (v :: st) hp) := ax_getfield dX5_takeWord_44 kf_3_18 rfl
theorem dX5_takeWord_47 : decode cX5_takeWord 47 = .ok (.iconst 1, 1) := by decide +kernel
theorem sX5_takeWord_47 : ab_X rom K cX5_takeWord 3 0 47 ls st hp = ab_X rom K cX5_takeWord 3 0 48 ls (.int 1 :: st) hp := ax_iconst dX5_takeWord_47 (by decide) rfl
theorem dX5_takeWord_48 : decode cX5_takeWord 48 = .ok (.iadd, 1) := by decide +kernel
theorem sX5_takeWord_48 : ab_X rom K cX5_takeWord 3 0 48 ls (.int y :: .int x :: st) hp = ab_X rom K cX5_takeWord 3 0 49 ls (.int (x + y) :: st) hp := ax_iadd dX5_takeWord_48 rfl
theorem dX5_takeWord_49 : decode cX5_takeWord 49 = .ok (.putfield 18, 3) := by decide +kernel
theorem sX5_takeWord_49 : ab_X rom K cX5_takeWord 3 0 49 ls (.int x :: .ref a :: st) hp = (ab_fpt hp a 3 4 (.int x)).bind (fun hp' => ab_X rom K cX5_takeWord 3 0 52 ls st hp') := ax_putfield dX5_takeWord_49 kf_3_18 rfl (Or.inl rfl) rfl
theorem dX5_takeWord_52 : decode cX5_takeWord 52 = .ok (.goto (-42), 3) := by decide +kernel
theorem sX5_takeWord_52 : ab_X rom K cX5_takeWord 3 0 52 ls st hp = ab_X rom K cX5_takeWord 3 0 10 ls st hp := ax_goto dX5_takeWord_52 (by decide)
theorem dX5_takeWord_55 : decode cX5_takeWord 55 = .ok (.return_, 1) := by decide +kernel
theorem sX5_takeWord_55 : ab_X rom K cX5_takeWord 3 0 55 ls [] hp = some (none, hp) := ax_vret dX5_takeWord_55 (by decide)
end
