/-! FairLabels$Past: its methods step by step (printed by wip/whole/gen_steps.py) -/
section
variable {rom : List (List Int32)} {K : Nat → List Value → ab_H → Option ab_O} {ls st : List Value} {hp : ab_H} {x y z : Int32} {a a2 : Nat} {sp dp : Int32} {u w : Int64} {v0 v1 v2 v3 v4 v5 v6 v7 v8 v9 v10 v11 v12 v13 v14 v15 w1 w2 w3 w4 w5 w6 : Value}
theorem tX4_init : ab_mT[35]? = some (yX4_init, cX4_init, 2, 3, 2) := by decide +kernel
theorem mX4_init {d : Nat} {a0 : Nat} : ab_M rom (d + 1) 35 [.ref a0] hp = ab_X rom (ab_M rom d) cX4_init 2 3 0 [.ref a0, .null] [] hp := ab_M_eq tX4_init (Nat.le_of_ble_eq_true rfl)
theorem dX4_init_0 : decode cX4_init 0 = .ok (.aload_n 0, 1) := by decide +kernel
theorem sX4_init_0 : ab_X rom K cX4_init 2 3 0 (.ref a :: ls) st hp = ab_X rom K cX4_init 2 3 1 (.ref a :: ls) (.ref a :: st) hp := ax_aload_n dX4_init_0 rfl rfl
theorem dX4_init_1 : decode cX4_init 1 = .ok (.invokespecial 3, 3) := by decide +kernel
theorem sX4_init_1_0 : ab_X rom K cX4_init 2 3 1 ls [.ref a] hp = ab_X rom K cX4_init 2 3 4 ls [] hp := ax_obj dX4_init_1 kc_2_3 rfl (Nat.le_of_ble_eq_true rfl)
theorem sX4_init_1_1 : ab_X rom K cX4_init 2 3 1 ls [.ref a, v0] hp = ab_X rom K cX4_init 2 3 4 ls [v0] hp := ax_obj dX4_init_1 kc_2_3 rfl (Nat.le_of_ble_eq_true rfl)
theorem sX4_init_1_2 : ab_X rom K cX4_init 2 3 1 ls [.ref a, v0, v1] hp = ab_X rom K cX4_init 2 3 4 ls [v0, v1] hp := ax_obj dX4_init_1 kc_2_3 rfl (Nat.le_of_ble_eq_true rfl)
theorem sX4_init_1_3 : ab_X rom K cX4_init 2 3 1 ls [.ref a, v0, v1, v2] hp = ab_X rom K cX4_init 2 3 4 ls [v0, v1, v2] hp := ax_obj dX4_init_1 kc_2_3 rfl (Nat.le_of_ble_eq_true rfl)
theorem dX4_init_4 : decode cX4_init 4 = .ok (.aload_n 0, 1) := by decide +kernel
theorem sX4_init_4 : ab_X rom K cX4_init 2 3 4 (.ref a :: ls) st hp = ab_X rom K cX4_init 2 3 5 (.ref a :: ls) (.ref a :: st) hp := ax_aload_n dX4_init_4 rfl rfl
theorem dX4_init_5 : decode cX4_init 5 = .ok (.iconst 0, 1) := by decide +kernel
theorem sX4_init_5 : ab_X rom K cX4_init 2 3 5 ls st hp = ab_X rom K cX4_init 2 3 6 ls (.int 0 :: st) hp := ax_iconst dX4_init_5 (by decide) rfl
theorem dX4_init_6 : decode cX4_init 6 = .ok (.putfield 9, 3) := by decide +kernel
theorem sX4_init_6 : ab_X rom K cX4_init 2 3 6 ls (.int x :: .ref a :: st) hp = (ab_fpt hp a 2 0 (.int x)).bind (fun hp' => ab_X rom K cX4_init 2 3 9 ls st hp') := ax_putfield dX4_init_6 kf_2_9 rfl (Or.inl rfl) rfl
theorem dX4_init_9 : decode cX4_init 9 = .ok (.aload_n 0, 1) := by decide +kernel
theorem sX4_init_9 : ab_X rom K cX4_init 2 3 9 (.ref a :: ls) st hp = ab_X rom K cX4_init 2 3 10 (.ref a :: ls) (.ref a :: st) hp := ax_aload_n dX4_init_9 rfl rfl
theorem dX4_init_10 : decode cX4_init 10 = .ok (.iconst 0, 1) := by decide +kernel
theorem sX4_init_10 : ab_X rom K cX4_init 2 3 10 ls st hp = ab_X rom K cX4_init 2 3 11 ls (.int 0 :: st) hp := ax_iconst dX4_init_10 (by decide) rfl
theorem dX4_init_11 : decode cX4_init 11 = .ok (.putfield 15, 3) := by decide +kernel
theorem sX4_init_11 : ab_X rom K cX4_init 2 3 11 ls (.int x :: .ref a :: st) hp = (ab_fpt hp a 2 1 (.int x)).bind (fun hp' => ab_X rom K cX4_init 2 3 14 ls st hp') := ax_putfield dX4_init_11 kf_2_15 rfl (Or.inl rfl) rfl
theorem dX4_init_14 : decode cX4_init 14 = .ok (.aload_n 0, 1) := by decide +kernel
theorem sX4_init_14 : ab_X rom K cX4_init 2 3 14 (.ref a :: ls) st hp = ab_X rom K cX4_init 2 3 15 (.ref a :: ls) (.ref a :: st) hp := ax_aload_n dX4_init_14 rfl rfl
theorem dX4_init_15 : decode cX4_init 15 = .ok (.bipush 10, 2) := by decide +kernel
theorem sX4_init_15 : ab_X rom K cX4_init 2 3 15 ls st hp = ab_X rom K cX4_init 2 3 17 ls (.int 10 :: st) hp := ax_bipush dX4_init_15 (by decide) rfl
theorem dX4_init_17 : decode cX4_init 17 = .ok (.anewarray 18, 3) := by decide +kernel
theorem sX4_init_17 (h0 : ¬ x < 0) (h1 : x.toNatClampNeg ≤ 1000) (h2 : hp.length < ab_RO) : ab_X rom K cX4_init 2 3 17 ls (.int x :: st) hp = ab_X rom K cX4_init 2 3 20 ls (.ref hp.length :: st) (hp ++ [.inr (.inl (List.replicate x.toNatClampNeg none))]) := ax_newref dX4_init_17 (by decide +kernel) rfl h0 h1 h2
theorem dX4_init_20 : decode cX4_init 20 = .ok (.putfield 20, 3) := by decide +kernel
theorem sX4_init_20 : ab_X rom K cX4_init 2 3 20 ls (.ref a2 :: .ref a :: st) hp = (ab_fpt hp a 2 2 (.ref a2)).bind (fun hp' => ab_X rom K cX4_init 2 3 23 ls st hp') := ax_putfield dX4_init_20 kf_2_20 rfl (Or.inr ⟨rfl, rfl⟩) rfl
theorem dX4_init_23 : decode cX4_init 23 = .ok (.aload_n 0, 1) := by decide +kernel
theorem sX4_init_23 : ab_X rom K cX4_init 2 3 23 (.ref a :: ls) st hp = ab_X rom K cX4_init 2 3 24 (.ref a :: ls) (.ref a :: st) hp := ax_aload_n dX4_init_23 rfl rfl
theorem dX4_init_24 : decode cX4_init 24 = .ok (.bipush 10, 2) := by decide +kernel
theorem sX4_init_24 : ab_X rom K cX4_init 2 3 24 ls st hp = ab_X rom K cX4_init 2 3 26 ls (.int 10 :: st) hp := ax_bipush dX4_init_24 (by decide) rfl
theorem dX4_init_26 : decode cX4_init 26 = .ok (.newarray .int, 2) := by decide +kernel
theorem sX4_init_26 : ab_X rom K cX4_init 2 3 26 ls (.int x :: st) hp = if ¬ x < 0 ∧ x.toNatClampNeg ≤ 1000 ∧ hp.length < ab_RO then ab_X rom K cX4_init 2 3 28 ls (.ref hp.length :: st) (hp ++ [.inl (0, List.replicate x.toNatClampNeg 0)]) else none := ay_newint dX4_init_26 rfl
theorem dX4_init_28 : decode cX4_init 28 = .ok (.putfield 24, 3) := by decide +kernel
theorem sX4_init_28 : ab_X rom K cX4_init 2 3 28 ls (.ref a2 :: .ref a :: st) hp = (ab_fpt hp a 2 3 (.ref a2)).bind (fun hp' => ab_X rom K cX4_init 2 3 31 ls st hp') := ax_putfield dX4_init_28 kf_2_24 rfl (Or.inr ⟨rfl, rfl⟩) rfl
theorem dX4_init_31 : decode cX4_init 31 = .ok (.iconst 0, 1) := by decide +kernel
theorem sX4_init_31 : ab_X rom K cX4_init 2 3 31 ls st hp = ab_X rom K cX4_init 2 3 32 ls (.int 0 :: st) hp := ax_iconst dX4_init_31 (by decide) rfl
theorem dX4_init_32 : decode cX4_init 32 = .ok (.istore_n 1, 1) := by decide +kernel
theorem sX4_init_32i : ab_X rom K cX4_init 2 3 32 (.int y :: v1 :: ls) (.int x :: st) hp = ab_X rom K cX4_init 2 3 33 (.int y :: .int x :: ls) st hp := ax_istore_n dX4_init_32 (ax_lt (v := v1) rfl) (ab_nl_c1 (j := 0) (v := .int y) rfl (ab_c1_int _)) rfl rfl
theorem sX4_init_32r : ab_X rom K cX4_init 2 3 32 (.ref a2 :: v1 :: ls) (.int x :: st) hp = ab_X rom K cX4_init 2 3 33 (.ref a2 :: .int x :: ls) st hp := ax_istore_n dX4_init_32 (ax_lt (v := v1) rfl) (ab_nl_c1 (j := 0) (v := .ref a2) rfl (ab_c1_ref _)) rfl rfl
theorem sX4_init_32n : ab_X rom K cX4_init 2 3 32 (.null :: v1 :: ls) (.int x :: st) hp = ab_X rom K cX4_init 2 3 33 (.null :: .int x :: ls) st hp := ax_istore_n dX4_init_32 (ax_lt (v := v1) rfl) (ab_nl_c1 (j := 0) (v := .null) rfl ab_c1_null) rfl rfl
theorem dX4_init_33 : decode cX4_init 33 = .ok (.iload_n 1, 1) := by decide +kernel
theorem sX4_init_33 : ab_X rom K cX4_init 2 3 33 (v0 :: .int x :: ls) st hp = ab_X rom K cX4_init 2 3 34 (v0 :: .int x :: ls) (.int x :: st) hp := ax_iload_n dX4_init_33 rfl rfl
theorem dX4_init_34 : decode cX4_init 34 = .ok (.bipush 10, 2) := by decide +kernel
theorem sX4_init_34 : ab_X rom K cX4_init 2 3 34 ls st hp = ab_X rom K cX4_init 2 3 36 ls (.int 10 :: st) hp := ax_bipush dX4_init_34 (by decide) rfl
theorem dX4_init_36 : decode cX4_init 36 = .ok (.if_icmp .ge 22, 3) := by decide +kernel
theorem sX4_init_36 : ab_X rom K cX4_init 2 3 36 ls (.int y :: .int x :: st) hp = if x < y then ab_X rom K cX4_init 2 3 39 ls st hp else ab_X rom K cX4_init 2 3 58 ls st hp := ax_icmp_ge dX4_init_36 (by decide) rfl
theorem dX4_init_39 : decode cX4_init 39 = .ok (.aload_n 0, 1) := by decide +kernel
theorem sX4_init_39 : ab_X rom K cX4_init 2 3 39 (.ref a :: ls) st hp = ab_X rom K cX4_init 2 3 40 (.ref a :: ls) (.ref a :: st) hp := ax_aload_n dX4_init_39 rfl rfl
theorem dX4_init_40 : decode cX4_init 40 = .ok (.getfield 20, 3) := by decide +kernel
theorem sX4_init_40 : ab_X rom K cX4_init 2 3 40 ls (.ref a :: st) hp = (ab_fld hp a 2 2).bind (fun v => ab_X rom K cX4_init 2 3 43 ls (v :: st) hp) := ax_getfield dX4_init_40 kf_2_20 rfl
theorem dX4_init_43 : decode cX4_init 43 = .ok (.iload_n 1, 1) := by decide +kernel
theorem sX4_init_43 : ab_X rom K cX4_init 2 3 43 (v0 :: .int x :: ls) st hp = ab_X rom K cX4_init 2 3 44 (v0 :: .int x :: ls) (.int x :: st) hp := ax_iload_n dX4_init_43 rfl rfl
theorem dX4_init_44 : decode cX4_init 44 = .ok (.new 18, 3) := by decide +kernel
theorem sX4_init_44 (h2 : hp.length < ab_RO) : ab_X rom K cX4_init 2 3 44 ls st hp = ab_X rom K cX4_init 2 3 47 ls (.ref hp.length :: st) (hp ++ [.inr (.inr (1, [.int 0, .int 0, .null, .null, .null, .null]))]) := ax_new dX4_init_44 kn_2_18 rfl rfl h2
theorem dX4_init_47 : decode cX4_init 47 = .ok (.dup, 1) := by decide +kernel
theorem sX4_init_47i : ab_X rom K cX4_init 2 3 47 ls (.int x :: st) hp = ab_X rom K cX4_init 2 3 48 ls (.int x :: .int x :: st) hp := ax_dup dX4_init_47 rfl (ab_c1_int _)
theorem sX4_init_47r : ab_X rom K cX4_init 2 3 47 ls (.ref a :: st) hp = ab_X rom K cX4_init 2 3 48 ls (.ref a :: .ref a :: st) hp := ax_dup dX4_init_47 rfl (ab_c1_ref _)
theorem dX4_init_48 : decode cX4_init 48 = .ok (.invokespecial 28, 3) := by decide +kernel
theorem sX4_init_48_0 (ho : ab_iso hp a 1 = true) : ab_X rom K cX4_init 2 3 48 ls [.ref a] hp = (K 11 (.ref a :: []) hp).bind (fun o => ab_X rom K cX4_init 2 3 51 ls (o.1.toList ++ []) o.2) := ax_init (as := []) (st := []) dX4_init_48 kc_2_28 (by decide) rfl rfl (Nat.le_of_ble_eq_true rfl) ho
theorem sX4_init_48_1 (ho : ab_iso hp a 1 = true) : ab_X rom K cX4_init 2 3 48 ls [.ref a,v0] hp = (K 11 (.ref a :: []) hp).bind (fun o => ab_X rom K cX4_init 2 3 51 ls (o.1.toList ++ [v0]) o.2) := ax_init (as := []) (st := [v0]) dX4_init_48 kc_2_28 (by decide) rfl rfl (Nat.le_of_ble_eq_true rfl) ho
theorem sX4_init_48_2 (ho : ab_iso hp a 1 = true) : ab_X rom K cX4_init 2 3 48 ls [.ref a,v0,v1] hp = (K 11 (.ref a :: []) hp).bind (fun o => ab_X rom K cX4_init 2 3 51 ls (o.1.toList ++ [v0, v1]) o.2) := ax_init (as := []) (st := [v0, v1]) dX4_init_48 kc_2_28 (by decide) rfl rfl (Nat.le_of_ble_eq_true rfl) ho
theorem dX4_init_51 : decode cX4_init 51 = .ok (.aastore, 1) := by decide +kernel
theorem sX4_init_51 : ab_X rom K cX4_init 2 3 51 ls (.ref a2 :: .int x :: .ref a :: st) hp = (ab_rwr hp a x a2).bind (fun hp' => ab_X rom K cX4_init 2 3 52 ls st hp') := ax_aastore dX4_init_51 rfl
theorem dX4_init_52 : decode cX4_init 52 = .ok (.iinc 1 1, 3) := by decide +kernel
theorem sX4_init_52i : ab_X rom K cX4_init 2 3 52 (.int y :: .int x :: ls) st hp = ab_X rom K cX4_init 2 3 55 (.int y :: .int (x + 1) :: ls) st hp := ax_iinc dX4_init_52 rfl (ab_nl_c1 (j := 0) (v := .int y) rfl (ab_c1_int _)) (by decide) rfl rfl
theorem sX4_init_52r : ab_X rom K cX4_init 2 3 52 (.ref a2 :: .int x :: ls) st hp = ab_X rom K cX4_init 2 3 55 (.ref a2 :: .int (x + 1) :: ls) st hp := ax_iinc dX4_init_52 rfl (ab_nl_c1 (j := 0) (v := .ref a2) rfl (ab_c1_ref _)) (by decide) rfl rfl
theorem sX4_init_52n : ab_X rom K cX4_init 2 3 52 (.null :: .int x :: ls) st hp = ab_X rom K cX4_init 2 3 55 (.null :: .int (x + 1) :: ls) st hp := ax_iinc dX4_init_52 rfl (ab_nl_c1 (j := 0) (v := .null) rfl ab_c1_null) (by decide) rfl rfl
theorem dX4_init_55 : decode cX4_init 55 = .ok (.goto (-22), 3) := by decide +kernel
theorem sX4_init_55 : ab_X rom K cX4_init 2 3 55 ls st hp = ab_X rom K cX4_init 2 3 33 ls st hp := ax_goto dX4_init_55 (by decide)
theorem dX4_init_58 : decode cX4_init 58 = .ok (.return_, 1) := by decide +kernel
theorem sX4_init_58 : ab_X rom K cX4_init 2 3 58 ls [] hp = some (none, hp) := ax_vret dX4_init_58 (by decide)
theorem tX4_bringBack : ab_mT[36]? = some (yX4_bringBack, cX4_bringBack, 2, 0, 2) := by decide +kernel
theorem mX4_bringBack {d : Nat} {a0 : Nat} {r0 : Nat} : ab_M rom (d + 1) 36 [.ref a0, .ref r0] hp = ab_X rom (ab_M rom d) cX4_bringBack 2 0 0 [.ref a0, .ref r0] [] hp := ab_M_eq tX4_bringBack (Nat.le_of_ble_eq_true rfl)
theorem dX4_bringBack_0 : decode cX4_bringBack 0 = .ok (.aload_n 0, 1) := by decide +kernel
theorem sX4_bringBack_0 : ab_X rom K cX4_bringBack 2 0 0 (.ref a :: ls) st hp = ab_X rom K cX4_bringBack 2 0 1 (.ref a :: ls) (.ref a :: st) hp := ax_aload_n dX4_bringBack_0 rfl rfl
theorem dX4_bringBack_1 : decode cX4_bringBack 1 = .ok (.getfield 9, 3) := by decide +kernel
theorem sX4_bringBack_1 : ab_X rom K cX4_bringBack 2 0 1 ls (.ref a :: st) hp = (ab_fld hp a 2 0).bind (fun v => ab_X rom K cX4_bringBack 2 0 4 ls (v :: st) hp) := ax_getfield dX4_bringBack_1 kf_2_9 rfl
theorem dX4_bringBack_4 : decode cX4_bringBack 4 = .ok (.ifCond .ne 4, 3) := by decide +kernel
theorem sX4_bringBack_4 : ab_X rom K cX4_bringBack 2 0 4 ls (.int x :: st) hp = if x = 0 then ab_X rom K cX4_bringBack 2 0 7 ls st hp else ab_X rom K cX4_bringBack 2 0 8 ls st hp := ax_if_ne dX4_bringBack_4 (by decide) rfl
theorem dX4_bringBack_7 : decode cX4_bringBack 7 = .ok (.return_, 1) := by decide +kernel
theorem sX4_bringBack_7 : ab_X rom K cX4_bringBack 2 0 7 ls [] hp = some (none, hp) := ax_vret dX4_bringBack_7 (by decide)
theorem dX4_bringBack_8 : decode cX4_bringBack 8 = .ok (.aload_n 1, 1) := by decide +kernel
theorem sX4_bringBack_8 : ab_X rom K cX4_bringBack 2 0 8 (v0 :: .ref a :: ls) st hp = ab_X rom K cX4_bringBack 2 0 9 (v0 :: .ref a :: ls) (.ref a :: st) hp := ax_aload_n dX4_bringBack_8 rfl rfl
theorem dX4_bringBack_9 : decode cX4_bringBack 9 = .ok (.aload_n 0, 1) := by decide +kernel
theorem sX4_bringBack_9 : ab_X rom K cX4_bringBack 2 0 9 (.ref a :: ls) st hp = ab_X rom K cX4_bringBack 2 0 10 (.ref a :: ls) (.ref a :: st) hp := ax_aload_n dX4_bringBack_9 rfl rfl
theorem dX4_bringBack_10 : decode cX4_bringBack 10 = .ok (.getfield 24, 3) := by decide +kernel
theorem sX4_bringBack_10 : ab_X rom K cX4_bringBack 2 0 10 ls (.ref a :: st) hp = (ab_fld hp a 2 3).bind (fun v => ab_X rom K cX4_bringBack 2 0 13 ls (v :: st) hp) := ax_getfield dX4_bringBack_10 kf_2_24 rfl
theorem dX4_bringBack_13 : decode cX4_bringBack 13 = .ok (.aload_n 0, 1) := by decide +kernel
theorem sX4_bringBack_13 : ab_X rom K cX4_bringBack 2 0 13 (.ref a :: ls) st hp = ab_X rom K cX4_bringBack 2 0 14 (.ref a :: ls) (.ref a :: st) hp := ax_aload_n dX4_bringBack_13 rfl rfl
theorem dX4_bringBack_14 : decode cX4_bringBack 14 = .ok (.getfield 15, 3) := by decide +kernel
theorem sX4_bringBack_14 : ab_X rom K cX4_bringBack 2 0 14 ls (.ref a :: st) hp = (ab_fld hp a 2 1).bind (fun v => ab_X rom K cX4_bringBack 2 0 17 ls (v :: st) hp) := ax_getfield dX4_bringBack_14 kf_2_15 rfl
theorem dX4_bringBack_17 : decode cX4_bringBack 17 = .ok (.iaload, 1) := by decide +kernel
theorem sX4_bringBack_17 : ab_X rom K cX4_bringBack 2 0 17 ls (.int x :: .ref a :: st) hp = (ab_ard rom 0 hp a x).bind (fun v => ab_X rom K cX4_bringBack 2 0 18 ls (.int v :: st) hp) := ax_iaload dX4_bringBack_17 rfl
theorem dX4_bringBack_18 : decode cX4_bringBack 18 = .ok (.aaload, 1) := by decide +kernel
theorem sX4_bringBack_18 : ab_X rom K cX4_bringBack 2 0 18 ls (.int x :: .ref a :: st) hp = (ab_rrd hp a x).bind (fun v => ab_X rom K cX4_bringBack 2 0 19 ls (.ref v :: st) hp) := ax_aaload dX4_bringBack_18 rfl
theorem dX4_bringBack_19 : decode cX4_bringBack 19 = .ok (.aload_n 0, 1) := by decide +kernel
theorem sX4_bringBack_19 : ab_X rom K cX4_bringBack 2 0 19 (.ref a :: ls) st hp = ab_X rom K cX4_bringBack 2 0 20 (.ref a :: ls) (.ref a :: st) hp := ax_aload_n dX4_bringBack_19 rfl rfl
theorem dX4_bringBack_20 : decode cX4_bringBack 20 = .ok (.getfield 20, 3) := by decide +kernel
theorem sX4_bringBack_20 : ab_X rom K cX4_bringBack 2 0 20 ls (.ref a :: st) hp = (ab_fld hp a 2 2).bind (fun v => ab_X rom K cX4_bringBack 2 0 23 ls (v :: st) hp) := ax_getfield dX4_bringBack_20 kf_2_20 rfl
theorem dX4_bringBack_23 : decode cX4_bringBack 23 = .ok (.aload_n 0, 1) := by decide +kernel
theorem sX4_bringBack_23 : ab_X rom K cX4_bringBack 2 0 23 (.ref a :: ls) st hp = ab_X rom K cX4_bringBack 2 0 24 (.ref a :: ls) (.ref a :: st) hp := ax_aload_n dX4_bringBack_23 rfl rfl
theorem dX4_bringBack_24 : decode cX4_bringBack 24 = .ok (.getfield 15, 3) := by decide +kernel
theorem sX4_bringBack_24 : ab_X rom K cX4_bringBack 2 0 24 ls (.ref a :: st) hp = (ab_fld hp a 2 1).bind (fun v => ab_X rom K cX4_bringBack 2 0 27 ls (v :: st) hp) := ax_getfield dX4_bringBack_24 kf_2_15 rfl
theorem dX4_bringBack_27 : decode cX4_bringBack 27 = .ok (.aaload, 1) := by decide +kernel
theorem sX4_bringBack_27 : ab_X rom K cX4_bringBack 2 0 27 ls (.int x :: .ref a :: st) hp = (ab_rrd hp a x).bind (fun v => ab_X rom K cX4_bringBack 2 0 28 ls (.ref v :: st) hp) := ax_aaload dX4_bringBack_27 rfl
theorem dX4_bringBack_28 : decode cX4_bringBack 28 = .ok (.invokevirtual 29, 3) := by decide +kernel
theorem sX4_bringBack_28_0 : ab_X rom K cX4_bringBack 2 0 28 ls [w1, .ref a] hp = if ab_iso hp a 1 = true then (K 17 (.ref a :: [w1]) hp).bind (fun o => ab_X rom K cX4_bringBack 2 0 31 ls (o.1.toList ++ []) o.2) else none := ay_virtual (as := [w1]) (st := []) dX4_bringBack_28 kc_2_29 rfl rfl (Nat.le_of_ble_eq_true rfl)
theorem sX4_bringBack_28_1 : ab_X rom K cX4_bringBack 2 0 28 ls [w1, .ref a, v0] hp = if ab_iso hp a 1 = true then (K 17 (.ref a :: [w1]) hp).bind (fun o => ab_X rom K cX4_bringBack 2 0 31 ls (o.1.toList ++ [v0]) o.2) else none := ay_virtual (as := [w1]) (st := [v0]) dX4_bringBack_28 kc_2_29 rfl rfl (Nat.le_of_ble_eq_true rfl)
theorem sX4_bringBack_28_2 : ab_X rom K cX4_bringBack 2 0 28 ls [w1, .ref a, v0, v1] hp = if ab_iso hp a 1 = true then (K 17 (.ref a :: [w1]) hp).bind (fun o => ab_X rom K cX4_bringBack 2 0 31 ls (o.1.toList ++ [v0, v1]) o.2) else none := ay_virtual (as := [w1]) (st := [v0, v1]) dX4_bringBack_28 kc_2_29 rfl rfl (Nat.le_of_ble_eq_true rfl)
theorem sX4_bringBack_28_3 : ab_X rom K cX4_bringBack 2 0 28 ls [w1, .ref a, v0, v1, v2] hp = if ab_iso hp a 1 = true then (K 17 (.ref a :: [w1]) hp).bind (fun o => ab_X rom K cX4_bringBack 2 0 31 ls (o.1.toList ++ [v0, v1, v2]) o.2) else none := ay_virtual (as := [w1]) (st := [v0, v1, v2]) dX4_bringBack_28 kc_2_29 rfl rfl (Nat.le_of_ble_eq_true rfl)
theorem dX4_bringBack_31 : decode cX4_bringBack 31 = .ok (.aload_n 0, 1) := by decide +kernel
theorem sX4_bringBack_31 : ab_X rom K cX4_bringBack 2 0 31 (.ref a :: ls) st hp = ab_X rom K cX4_bringBack 2 0 32 (.ref a :: ls) (.ref a :: st) hp := ax_aload_n dX4_bringBack_31 rfl rfl
theorem dX4_bringBack_32 : decode cX4_bringBack 32 = .ok (.aload_n 0, 1) := by decide +kernel
theorem sX4_bringBack_32 : ab_X rom K cX4_bringBack 2 0 32 (.ref a :: ls) st hp = ab_X rom K cX4_bringBack 2 0 33 (.ref a :: ls) (.ref a :: st) hp := ax_aload_n dX4_bringBack_32 rfl rfl
theorem dX4_bringBack_33 : decode cX4_bringBack 33 = .ok (.getfield 15, 3) := by decide +kernel
theorem sX4_bringBack_33 : ab_X rom K cX4_bringBack 2 0 33 ls (.ref a :: st) hp = (ab_fld hp a 2 1).bind (fun v => ab_X rom K cX4_bringBack 2 0 36 ls (v :: st) hp) := ax_getfield dX4_bringBack_33 kf_2_15 rfl
theorem dX4_bringBack_36 : decode cX4_bringBack 36 = .ok (.bipush 10, 2) := by decide +kernel
theorem sX4_bringBack_36 : ab_X rom K cX4_bringBack 2 0 36 ls st hp = ab_X rom K cX4_bringBack 2 0 38 ls (.int 10 :: st) hp := ax_bipush dX4_bringBack_36 (by decide) rfl
theorem dX4_bringBack_38 : decode cX4_bringBack 38 = .ok (.iadd, 1) := by decide +kernel
theorem sX4_bringBack_38 : ab_X rom K cX4_bringBack 2 0 38 ls (.int y :: .int x :: st) hp = ab_X rom K cX4_bringBack 2 0 39 ls (.int (x + y) :: st) hp := ax_iadd dX4_bringBack_38 rfl
theorem dX4_bringBack_39 : decode cX4_bringBack 39 = .ok (.iconst 1, 1) := by decide +kernel
theorem sX4_bringBack_39 : ab_X rom K cX4_bringBack 2 0 39 ls st hp = ab_X rom K cX4_bringBack 2 0 40 ls (.int 1 :: st) hp := ax_iconst dX4_bringBack_39 (by decide) rfl
theorem dX4_bringBack_40 : decode cX4_bringBack 40 = .ok (.isub, 1) := by decide +kernel
theorem sX4_bringBack_40 : ab_X rom K cX4_bringBack 2 0 40 ls (.int y :: .int x :: st) hp = ab_X rom K cX4_bringBack 2 0 41 ls (.int (x - y) :: st) hp := ax_isub dX4_bringBack_40 rfl
theorem dX4_bringBack_41 : decode cX4_bringBack 41 = .ok (.bipush 10, 2) := by decide +kernel
theorem sX4_bringBack_41 : ab_X rom K cX4_bringBack 2 0 41 ls st hp = ab_X rom K cX4_bringBack 2 0 43 ls (.int 10 :: st) hp := ax_bipush dX4_bringBack_41 (by decide) rfl
theorem dX4_bringBack_43 : decode cX4_bringBack 43 = .ok (.irem, 1) := by decide +kernel
theorem sX4_bringBack_43 : ab_X rom K cX4_bringBack 2 0 43 ls (.int y :: .int x :: st) hp = if y = 0 then none else ab_X rom K cX4_bringBack 2 0 44 ls (.int (ab_rem x y) :: st) hp := ay_irem dX4_bringBack_43 rfl
theorem dX4_bringBack_44 : decode cX4_bringBack 44 = .ok (.putfield 15, 3) := by decide +kernel
theorem sX4_bringBack_44 : ab_X rom K cX4_bringBack 2 0 44 ls (.int x :: .ref a :: st) hp = (ab_fpt hp a 2 1 (.int x)).bind (fun hp' => ab_X rom K cX4_bringBack 2 0 47 ls st hp') := ax_putfield dX4_bringBack_44 kf_2_15 rfl (Or.inl rfl) rfl
theorem dX4_bringBack_47 : decode cX4_bringBack 47 = .ok (.aload_n 0, 1) := by decide +kernel
theorem sX4_bringBack_47 : ab_X rom K cX4_bringBack 2 0 47 (.ref a :: ls) st hp = ab_X rom K cX4_bringBack 2 0 48 (.ref a :: ls) (.ref a :: st) hp := ax_aload_n dX4_bringBack_47 rfl rfl
theorem dX4_bringBack_48 : decode cX4_bringBack 48 = .ok (.dup, 1) := by decide +kernel
theorem sX4_bringBack_48i : ab_X rom K cX4_bringBack 2 0 48 ls (.int x :: st) hp = ab_X rom K cX4_bringBack 2 0 49 ls (.int x :: .int x :: st) hp := ax_dup dX4_bringBack_48 rfl (ab_c1_int _)
theorem sX4_bringBack_48r : ab_X rom K cX4_bringBack 2 0 48 ls (.ref a :: st) hp = ab_X rom K cX4_bringBack 2 0 49 ls (.ref a :: .ref a :: st) hp := ax_dup dX4_bringBack_48 rfl (ab_c1_ref _)
theorem dX4_bringBack_49 : decode cX4_bringBack 49 = .ok (.getfield 9, 3) := by decide +kernel
theorem sX4_bringBack_49 : ab_X rom K cX4_bringBack 2 0 49 ls (.ref a :: st) hp = (ab_fld hp a 2 0).bind (fun v => ab_X rom K cX4_bringBack 2 0 52 ls (v :: st) hp) := ax_getfield dX4_bringBack_49 kf_2_9 rfl
theorem dX4_bringBack_52 : decode cX4_bringBack 52 = .ok (.iconst 1, 1) := by decide +kernel
theorem sX4_bringBack_52 : ab_X rom K cX4_bringBack 2 0 52 ls st hp = ab_X rom K cX4_bringBack 2 0 53 ls (.int 1 :: st) hp := ax_iconst dX4_bringBack_52 (by decide) rfl
theorem dX4_bringBack_53 : decode cX4_bringBack 53 = .ok (.isub, 1) := by decide +kernel
theorem sX4_bringBack_53 : ab_X rom K cX4_bringBack 2 0 53 ls (.int y :: .int x :: st) hp = ab_X rom K cX4_bringBack 2 0 54 ls (.int (x - y) :: st) hp := ax_isub dX4_bringBack_53 rfl
theorem dX4_bringBack_54 : decode cX4_bringBack 54 = .ok (.putfield 9, 3) := by decide +kernel
theorem sX4_bringBack_54 : ab_X rom K cX4_bringBack 2 0 54 ls (.int x :: .ref a :: st) hp = (ab_fpt hp a 2 0 (.int x)).bind (fun hp' => ab_X rom K cX4_bringBack 2 0 57 ls st hp') := ax_putfield dX4_bringBack_54 kf_2_9 rfl (Or.inl rfl) rfl
theorem dX4_bringBack_57 : decode cX4_bringBack 57 = .ok (.return_, 1) := by decide +kernel
theorem sX4_bringBack_57 : ab_X rom K cX4_bringBack 2 0 57 ls [] hp = some (none, hp) := ax_vret dX4_bringBack_57 (by decide)
theorem tX4_remember : ab_mT[37]? = some (yX4_remember, cX4_remember, 3, 0, 2) := by decide +kernel
theorem mX4_remember {d : Nat} {a0 : Nat} {x0 : Int32} {r1 : Nat} : ab_M rom (d + 1) 37 [.ref a0, .int x0, .ref r1] hp = ab_X rom (ab_M rom d) cX4_remember 2 0 0 [.ref a0, .int x0, .ref r1] [] hp := ab_M_eq tX4_remember (Nat.le_of_ble_eq_true rfl)
theorem dX4_remember_0 : decode cX4_remember 0 = .ok (.aload_n 0, 1) := by decide +kernel
theorem sX4_remember_0 : ab_X rom K cX4_remember 2 0 0 (.ref a :: ls) st hp = ab_X rom K cX4_remember 2 0 1 (.ref a :: ls) (.ref a :: st) hp := ax_aload_n dX4_remember_0 rfl rfl
theorem dX4_remember_1 : decode cX4_remember 1 = .ok (.aload_n 0, 1) := by decide +kernel
theorem sX4_remember_1 : ab_X rom K cX4_remember 2 0 1 (.ref a :: ls) st hp = ab_X rom K cX4_remember 2 0 2 (.ref a :: ls) (.ref a :: st) hp := ax_aload_n dX4_remember_1 rfl rfl
theorem dX4_remember_2 : decode cX4_remember 2 = .ok (.getfield 15, 3) := by decide +kernel
theorem sX4_remember_2 : ab_X rom K cX4_remember 2 0 2 ls (.ref a :: st) hp = (ab_fld hp a 2 1).bind (fun v => ab_X rom K cX4_remember 2 0 5 ls (v :: st) hp) := ax_getfield dX4_remember_2 kf_2_15 rfl
theorem dX4_remember_5 : decode cX4_remember 5 = .ok (.iconst 1, 1) := by decide +kernel
theorem sX4_remember_5 : ab_X rom K cX4_remember 2 0 5 ls st hp = ab_X rom K cX4_remember 2 0 6 ls (.int 1 :: st) hp := ax_iconst dX4_remember_5 (by decide) rfl
theorem dX4_remember_6 : decode cX4_remember 6 = .ok (.iadd, 1) := by decide +kernel
theorem sX4_remember_6 : ab_X rom K cX4_remember 2 0 6 ls (.int y :: .int x :: st) hp = ab_X rom K cX4_remember 2 0 7 ls (.int (x + y) :: st) hp := ax_iadd dX4_remember_6 rfl
theorem dX4_remember_7 : decode cX4_remember 7 = .ok (.bipush 10, 2) := by decide +kernel
theorem sX4_remember_7 : ab_X rom K cX4_remember 2 0 7 ls st hp = ab_X rom K cX4_remember 2 0 9 ls (.int 10 :: st) hp := ax_bipush dX4_remember_7 (by decide) rfl
theorem dX4_remember_9 : decode cX4_remember 9 = .ok (.irem, 1) := by decide +kernel
theorem sX4_remember_9 : ab_X rom K cX4_remember 2 0 9 ls (.int y :: .int x :: st) hp = if y = 0 then none else ab_X rom K cX4_remember 2 0 10 ls (.int (ab_rem x y) :: st) hp := ay_irem dX4_remember_9 rfl
theorem dX4_remember_10 : decode cX4_remember 10 = .ok (.putfield 15, 3) := by decide +kernel
theorem sX4_remember_10 : ab_X rom K cX4_remember 2 0 10 ls (.int x :: .ref a :: st) hp = (ab_fpt hp a 2 1 (.int x)).bind (fun hp' => ab_X rom K cX4_remember 2 0 13 ls st hp') := ax_putfield dX4_remember_10 kf_2_15 rfl (Or.inl rfl) rfl
theorem dX4_remember_13 : decode cX4_remember 13 = .ok (.aload_n 0, 1) := by decide +kernel
theorem sX4_remember_13 : ab_X rom K cX4_remember 2 0 13 (.ref a :: ls) st hp = ab_X rom K cX4_remember 2 0 14 (.ref a :: ls) (.ref a :: st) hp := ax_aload_n dX4_remember_13 rfl rfl
theorem dX4_remember_14 : decode cX4_remember 14 = .ok (.getfield 20, 3) := by decide +kernel
theorem sX4_remember_14 : ab_X rom K cX4_remember 2 0 14 ls (.ref a :: st) hp = (ab_fld hp a 2 2).bind (fun v => ab_X rom K cX4_remember 2 0 17 ls (v :: st) hp) := ax_getfield dX4_remember_14 kf_2_20 rfl
theorem dX4_remember_17 : decode cX4_remember 17 = .ok (.aload_n 0, 1) := by decide +kernel
theorem sX4_remember_17 : ab_X rom K cX4_remember 2 0 17 (.ref a :: ls) st hp = ab_X rom K cX4_remember 2 0 18 (.ref a :: ls) (.ref a :: st) hp := ax_aload_n dX4_remember_17 rfl rfl
theorem dX4_remember_18 : decode cX4_remember 18 = .ok (.getfield 15, 3) := by decide +kernel
theorem sX4_remember_18 : ab_X rom K cX4_remember 2 0 18 ls (.ref a :: st) hp = (ab_fld hp a 2 1).bind (fun v => ab_X rom K cX4_remember 2 0 21 ls (v :: st) hp) := ax_getfield dX4_remember_18 kf_2_15 rfl
theorem dX4_remember_21 : decode cX4_remember 21 = .ok (.aaload, 1) := by decide +kernel
theorem sX4_remember_21 : ab_X rom K cX4_remember 2 0 21 ls (.int x :: .ref a :: st) hp = (ab_rrd hp a x).bind (fun v => ab_X rom K cX4_remember 2 0 22 ls (.ref v :: st) hp) := ax_aaload dX4_remember_21 rfl
theorem dX4_remember_22 : decode cX4_remember 22 = .ok (.aload_n 2, 1) := by decide +kernel
theorem sX4_remember_22 : ab_X rom K cX4_remember 2 0 22 (v0 :: v1 :: .ref a :: ls) st hp = ab_X rom K cX4_remember 2 0 23 (v0 :: v1 :: .ref a :: ls) (.ref a :: st) hp := ax_aload_n dX4_remember_22 rfl rfl
theorem dX4_remember_23 : decode cX4_remember 23 = .ok (.invokevirtual 29, 3) := by decide +kernel
theorem sX4_remember_23_0 : ab_X rom K cX4_remember 2 0 23 ls [w1, .ref a] hp = if ab_iso hp a 1 = true then (K 17 (.ref a :: [w1]) hp).bind (fun o => ab_X rom K cX4_remember 2 0 26 ls (o.1.toList ++ []) o.2) else none := ay_virtual (as := [w1]) (st := []) dX4_remember_23 kc_2_29 rfl rfl (Nat.le_of_ble_eq_true rfl)
theorem sX4_remember_23_1 : ab_X rom K cX4_remember 2 0 23 ls [w1, .ref a, v0] hp = if ab_iso hp a 1 = true then (K 17 (.ref a :: [w1]) hp).bind (fun o => ab_X rom K cX4_remember 2 0 26 ls (o.1.toList ++ [v0]) o.2) else none := ay_virtual (as := [w1]) (st := [v0]) dX4_remember_23 kc_2_29 rfl rfl (Nat.le_of_ble_eq_true rfl)
theorem sX4_remember_23_2 : ab_X rom K cX4_remember 2 0 23 ls [w1, .ref a, v0, v1] hp = if ab_iso hp a 1 = true then (K 17 (.ref a :: [w1]) hp).bind (fun o => ab_X rom K cX4_remember 2 0 26 ls (o.1.toList ++ [v0, v1]) o.2) else none := ay_virtual (as := [w1]) (st := [v0, v1]) dX4_remember_23 kc_2_29 rfl rfl (Nat.le_of_ble_eq_true rfl)
theorem sX4_remember_23_3 : ab_X rom K cX4_remember 2 0 23 ls [w1, .ref a, v0, v1, v2] hp = if ab_iso hp a 1 = true then (K 17 (.ref a :: [w1]) hp).bind (fun o => ab_X rom K cX4_remember 2 0 26 ls (o.1.toList ++ [v0, v1, v2]) o.2) else none := ay_virtual (as := [w1]) (st := [v0, v1, v2]) dX4_remember_23 kc_2_29 rfl rfl (Nat.le_of_ble_eq_true rfl)
theorem dX4_remember_26 : decode cX4_remember 26 = .ok (.aload_n 0, 1) := by decide +kernel
theorem sX4_remember_26 : ab_X rom K cX4_remember 2 0 26 (.ref a :: ls) st hp = ab_X rom K cX4_remember 2 0 27 (.ref a :: ls) (.ref a :: st) hp := ax_aload_n dX4_remember_26 rfl rfl
theorem dX4_remember_27 : decode cX4_remember 27 = .ok (.getfield 24, 3) := by decide +kernel
theorem sX4_remember_27 : ab_X rom K cX4_remember 2 0 27 ls (.ref a :: st) hp = (ab_fld hp a 2 3).bind (fun v => ab_X rom K cX4_remember 2 0 30 ls (v :: st) hp) := ax_getfield dX4_remember_27 kf_2_24 rfl
theorem dX4_remember_30 : decode cX4_remember 30 = .ok (.aload_n 0, 1) := by decide +kernel
theorem sX4_remember_30 : ab_X rom K cX4_remember 2 0 30 (.ref a :: ls) st hp = ab_X rom K cX4_remember 2 0 31 (.ref a :: ls) (.ref a :: st) hp := ax_aload_n dX4_remember_30 rfl rfl
theorem dX4_remember_31 : decode cX4_remember 31 = .ok (.getfield 15, 3) := by decide +kernel
theorem sX4_remember_31 : ab_X rom K cX4_remember 2 0 31 ls (.ref a :: st) hp = (ab_fld hp a 2 1).bind (fun v => ab_X rom K cX4_remember 2 0 34 ls (v :: st) hp) := ax_getfield dX4_remember_31 kf_2_15 rfl
theorem dX4_remember_34 : decode cX4_remember 34 = .ok (.iload_n 1, 1) := by decide +kernel
theorem sX4_remember_34 : ab_X rom K cX4_remember 2 0 34 (v0 :: .int x :: ls) st hp = ab_X rom K cX4_remember 2 0 35 (v0 :: .int x :: ls) (.int x :: st) hp := ax_iload_n dX4_remember_34 rfl rfl
theorem dX4_remember_35 : decode cX4_remember 35 = .ok (.iastore, 1) := by decide +kernel
theorem sX4_remember_35 : ab_X rom K cX4_remember 2 0 35 ls (.int y :: .int x :: .ref a :: st) hp = (ab_awr 0 hp a x y).bind (fun hp' => ab_X rom K cX4_remember 2 0 36 ls st hp') := ax_iastore dX4_remember_35 rfl
theorem dX4_remember_36 : decode cX4_remember 36 = .ok (.aload_n 0, 1) := by decide +kernel
theorem sX4_remember_36 : ab_X rom K cX4_remember 2 0 36 (.ref a :: ls) st hp = ab_X rom K cX4_remember 2 0 37 (.ref a :: ls) (.ref a :: st) hp := ax_aload_n dX4_remember_36 rfl rfl
theorem dX4_remember_37 : decode cX4_remember 37 = .ok (.bipush 10, 2) := by decide +kernel
theorem sX4_remember_37 : ab_X rom K cX4_remember 2 0 37 ls st hp = ab_X rom K cX4_remember 2 0 39 ls (.int 10 :: st) hp := ax_bipush dX4_remember_37 (by decide) rfl
theorem dX4_remember_39 : decode cX4_remember 39 = .ok (.aload_n 0, 1) := by decide +kernel
theorem sX4_remember_39 : ab_X rom K cX4_remember 2 0 39 (.ref a :: ls) st hp = ab_X rom K cX4_remember 2 0 40 (.ref a :: ls) (.ref a :: st) hp := ax_aload_n dX4_remember_39 rfl rfl
theorem dX4_remember_40 : decode cX4_remember 40 = .ok (.getfield 9, 3) := by decide +kernel
theorem sX4_remember_40 : ab_X rom K cX4_remember 2 0 40 ls (.ref a :: st) hp = (ab_fld hp a 2 0).bind (fun v => ab_X rom K cX4_remember 2 0 43 ls (v :: st) hp) := ax_getfield dX4_remember_40 kf_2_9 rfl
theorem dX4_remember_43 : decode cX4_remember 43 = .ok (.iconst 1, 1) := by decide +kernel
theorem sX4_remember_43 : ab_X rom K cX4_remember 2 0 43 ls st hp = ab_X rom K cX4_remember 2 0 44 ls (.int 1 :: st) hp := ax_iconst dX4_remember_43 (by decide) rfl
theorem dX4_remember_44 : decode cX4_remember 44 = .ok (.iadd, 1) := by decide +kernel
theorem sX4_remember_44 : ab_X rom K cX4_remember 2 0 44 ls (.int y :: .int x :: st) hp = ab_X rom K cX4_remember 2 0 45 ls (.int (x + y) :: st) hp := ax_iadd dX4_remember_44 rfl
theorem dX4_remember_45 : decode cX4_remember 45 = .ok (.invokestatic 33, 3) := by decide +kernel
theorem sX4_remember_45_0 : ab_X rom K cX4_remember 2 0 45 ls [.int y, .int x] hp = ab_X rom K cX4_remember 2 0 48 ls [.int (ab_min x y)] hp := ax_min dX4_remember_45 kc_2_33 rfl (Nat.le_of_ble_eq_true rfl)
theorem sX4_remember_45_1 : ab_X rom K cX4_remember 2 0 45 ls [.int y, .int x, v0] hp = ab_X rom K cX4_remember 2 0 48 ls [.int (ab_min x y), v0] hp := ax_min dX4_remember_45 kc_2_33 rfl (Nat.le_of_ble_eq_true rfl)
theorem sX4_remember_45_2 : ab_X rom K cX4_remember 2 0 45 ls [.int y, .int x, v0, v1] hp = ab_X rom K cX4_remember 2 0 48 ls [.int (ab_min x y), v0, v1] hp := ax_min dX4_remember_45 kc_2_33 rfl (Nat.le_of_ble_eq_true rfl)
theorem sX4_remember_45_3 : ab_X rom K cX4_remember 2 0 45 ls [.int y, .int x, v0, v1, v2] hp = ab_X rom K cX4_remember 2 0 48 ls [.int (ab_min x y), v0, v1, v2] hp := ax_min dX4_remember_45 kc_2_33 rfl (Nat.le_of_ble_eq_true rfl)
theorem dX4_remember_48 : decode cX4_remember 48 = .ok (.putfield 9, 3) := by decide +kernel
theorem sX4_remember_48 : ab_X rom K cX4_remember 2 0 48 ls (.int x :: .ref a :: st) hp = (ab_fpt hp a 2 0 (.int x)).bind (fun hp' => ab_X rom K cX4_remember 2 0 51 ls st hp') := ax_putfield dX4_remember_48 kf_2_9 rfl (Or.inl rfl) rfl
theorem dX4_remember_51 : decode cX4_remember 51 = .ok (.return_, 1) := by decide +kernel
theorem sX4_remember_51 : ab_X rom K cX4_remember 2 0 51 ls [] hp = some (none, hp) := ax_vret dX4_remember_51 (by decide)
end
