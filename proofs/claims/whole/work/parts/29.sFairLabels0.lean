/-! FairLabels: its methods step by step (printed by wip/whole/gen_steps.py) -/
section
variable {rom : List (List Int32)} {K : Nat → List Value → ab_H → Option ab_O} {ls st : List Value} {hp : ab_H} {x y z : Int32} {a a2 : Nat} {sp dp : Int32} {u w : Int64} {v0 v1 v2 v3 v4 v5 v6 v7 v8 v9 v10 v11 v12 v13 v14 v15 w1 w2 w3 w4 w5 w6 : Value}
theorem tX8_init : ab_mT[79]? = some (yX8_init, cX8_init, 2, 3, 6) := by decide +kernel
theorem mX8_init {d : Nat} {a0 : Nat} : ab_M rom (d + 1) 79 [.ref a0] hp = ab_X rom (ab_M rom d) cX8_init 6 3 0 [.ref a0, .null] [] hp := ab_M_eq tX8_init (Nat.le_of_ble_eq_true rfl)
theorem dX8_init_0 : decode cX8_init 0 = .ok (.aload_n 0, 1) := by decide +kernel
theorem sX8_init_0 : ab_X rom K cX8_init 6 3 0 (.ref a :: ls) st hp = ab_X rom K cX8_init 6 3 1 (.ref a :: ls) (.ref a :: st) hp := ax_aload_n dX8_init_0 rfl rfl
theorem dX8_init_1 : decode cX8_init 1 = .ok (.invokespecial 1, 3) := by decide +kernel
theorem sX8_init_1_0 : ab_X rom K cX8_init 6 3 1 ls [.ref a] hp = ab_X rom K cX8_init 6 3 4 ls [] hp := ax_obj dX8_init_1 kc_6_1 rfl (Nat.le_of_ble_eq_true rfl)
theorem sX8_init_1_1 : ab_X rom K cX8_init 6 3 1 ls [.ref a, v0] hp = ab_X rom K cX8_init 6 3 4 ls [v0] hp := ax_obj dX8_init_1 kc_6_1 rfl (Nat.le_of_ble_eq_true rfl)
theorem sX8_init_1_2 : ab_X rom K cX8_init 6 3 1 ls [.ref a, v0, v1] hp = ab_X rom K cX8_init 6 3 4 ls [v0, v1] hp := ax_obj dX8_init_1 kc_6_1 rfl (Nat.le_of_ble_eq_true rfl)
theorem sX8_init_1_3 : ab_X rom K cX8_init 6 3 1 ls [.ref a, v0, v1, v2] hp = ab_X rom K cX8_init 6 3 4 ls [v0, v1, v2] hp := ax_obj dX8_init_1 kc_6_1 rfl (Nat.le_of_ble_eq_true rfl)
theorem dX8_init_4 : decode cX8_init 4 = .ok (.aload_n 0, 1) := by decide +kernel
theorem sX8_init_4 : ab_X rom K cX8_init 6 3 4 (.ref a :: ls) st hp = ab_X rom K cX8_init 6 3 5 (.ref a :: ls) (.ref a :: st) hp := ax_aload_n dX8_init_4 rfl rfl
theorem dX8_init_5 : decode cX8_init 5 = .ok (.new 7, 3) := by decide +kernel
theorem sX8_init_5 (h2 : hp.length < ab_RO) : ab_X rom K cX8_init 6 3 5 ls st hp = ab_X rom K cX8_init 6 3 8 ls (.ref hp.length :: st) (hp ++ [.inr (.inr (5, [.null, .int 0]))]) := ax_new dX8_init_5 kn_6_7 rfl rfl h2
theorem dX8_init_8 : decode cX8_init 8 = .ok (.dup, 1) := by decide +kernel
theorem sX8_init_8i : ab_X rom K cX8_init 6 3 8 ls (.int x :: st) hp = ab_X rom K cX8_init 6 3 9 ls (.int x :: .int x :: st) hp := ax_dup dX8_init_8 rfl (ab_c1_int _)
theorem sX8_init_8r : ab_X rom K cX8_init 6 3 8 ls (.ref a :: st) hp = ab_X rom K cX8_init 6 3 9 ls (.ref a :: .ref a :: st) hp := ax_dup dX8_init_8 rfl (ab_c1_ref _)
theorem dX8_init_9 : decode cX8_init 9 = .ok (.invokespecial 9, 3) := by decide +kernel
theorem sX8_init_9_0 (ho : ab_iso hp a 5 = true) : ab_X rom K cX8_init 6 3 9 ls [.ref a] hp = (K 75 (.ref a :: []) hp).bind (fun o => ab_X rom K cX8_init 6 3 12 ls (o.1.toList ++ []) o.2) := ax_init (as := []) (st := []) dX8_init_9 kc_6_9 (by decide) rfl rfl (Nat.le_of_ble_eq_true rfl) ho
theorem sX8_init_9_1 (ho : ab_iso hp a 5 = true) : ab_X rom K cX8_init 6 3 9 ls [.ref a,v0] hp = (K 75 (.ref a :: []) hp).bind (fun o => ab_X rom K cX8_init 6 3 12 ls (o.1.toList ++ [v0]) o.2) := ax_init (as := []) (st := [v0]) dX8_init_9 kc_6_9 (by decide) rfl rfl (Nat.le_of_ble_eq_true rfl) ho
theorem sX8_init_9_2 (ho : ab_iso hp a 5 = true) : ab_X rom K cX8_init 6 3 9 ls [.ref a,v0,v1] hp = (K 75 (.ref a :: []) hp).bind (fun o => ab_X rom K cX8_init 6 3 12 ls (o.1.toList ++ [v0, v1]) o.2) := ax_init (as := []) (st := [v0, v1]) dX8_init_9 kc_6_9 (by decide) rfl rfl (Nat.le_of_ble_eq_true rfl) ho
theorem dX8_init_12 : decode cX8_init 12 = .ok (.putfield 10, 3) := by decide +kernel
theorem sX8_init_12 : ab_X rom K cX8_init 6 3 12 ls (.ref a2 :: .ref a :: st) hp = (ab_fpt hp a 6 0 (.ref a2)).bind (fun hp' => ab_X rom K cX8_init 6 3 15 ls st hp') := ax_putfield dX8_init_12 kf_6_10 rfl (Or.inr ⟨rfl, rfl⟩) rfl
theorem dX8_init_15 : decode cX8_init 15 = .ok (.aload_n 0, 1) := by decide +kernel
theorem sX8_init_15 : ab_X rom K cX8_init 6 3 15 (.ref a :: ls) st hp = ab_X rom K cX8_init 6 3 16 (.ref a :: ls) (.ref a :: st) hp := ax_aload_n dX8_init_15 rfl rfl
theorem dX8_init_16 : decode cX8_init 16 = .ok (.new 7, 3) := by decide +kernel
theorem sX8_init_16 (h2 : hp.length < ab_RO) : ab_X rom K cX8_init 6 3 16 ls st hp = ab_X rom K cX8_init 6 3 19 ls (.ref hp.length :: st) (hp ++ [.inr (.inr (5, [.null, .int 0]))]) := ax_new dX8_init_16 kn_6_7 rfl rfl h2
theorem dX8_init_19 : decode cX8_init 19 = .ok (.dup, 1) := by decide +kernel
theorem sX8_init_19i : ab_X rom K cX8_init 6 3 19 ls (.int x :: st) hp = ab_X rom K cX8_init 6 3 20 ls (.int x :: .int x :: st) hp := ax_dup dX8_init_19 rfl (ab_c1_int _)
theorem sX8_init_19r : ab_X rom K cX8_init 6 3 19 ls (.ref a :: st) hp = ab_X rom K cX8_init 6 3 20 ls (.ref a :: .ref a :: st) hp := ax_dup dX8_init_19 rfl (ab_c1_ref _)
theorem dX8_init_20 : decode cX8_init 20 = .ok (.invokespecial 9, 3) := by decide +kernel
theorem sX8_init_20_0 (ho : ab_iso hp a 5 = true) : ab_X rom K cX8_init 6 3 20 ls [.ref a] hp = (K 75 (.ref a :: []) hp).bind (fun o => ab_X rom K cX8_init 6 3 23 ls (o.1.toList ++ []) o.2) := ax_init (as := []) (st := []) dX8_init_20 kc_6_9 (by decide) rfl rfl (Nat.le_of_ble_eq_true rfl) ho
theorem sX8_init_20_1 (ho : ab_iso hp a 5 = true) : ab_X rom K cX8_init 6 3 20 ls [.ref a,v0] hp = (K 75 (.ref a :: []) hp).bind (fun o => ab_X rom K cX8_init 6 3 23 ls (o.1.toList ++ [v0]) o.2) := ax_init (as := []) (st := [v0]) dX8_init_20 kc_6_9 (by decide) rfl rfl (Nat.le_of_ble_eq_true rfl) ho
theorem sX8_init_20_2 (ho : ab_iso hp a 5 = true) : ab_X rom K cX8_init 6 3 20 ls [.ref a,v0,v1] hp = (K 75 (.ref a :: []) hp).bind (fun o => ab_X rom K cX8_init 6 3 23 ls (o.1.toList ++ [v0, v1]) o.2) := ax_init (as := []) (st := [v0, v1]) dX8_init_20 kc_6_9 (by decide) rfl rfl (Nat.le_of_ble_eq_true rfl) ho
theorem dX8_init_23 : decode cX8_init 23 = .ok (.putfield 16, 3) := by decide +kernel
theorem sX8_init_23 : ab_X rom K cX8_init 6 3 23 ls (.ref a2 :: .ref a :: st) hp = (ab_fpt hp a 6 2 (.ref a2)).bind (fun hp' => ab_X rom K cX8_init 6 3 26 ls st hp') := ax_putfield dX8_init_23 kf_6_16 rfl (Or.inr ⟨rfl, rfl⟩) rfl
theorem dX8_init_26 : decode cX8_init 26 = .ok (.aload_n 0, 1) := by decide +kernel
theorem sX8_init_26 : ab_X rom K cX8_init 6 3 26 (.ref a :: ls) st hp = ab_X rom K cX8_init 6 3 27 (.ref a :: ls) (.ref a :: st) hp := ax_aload_n dX8_init_26 rfl rfl
theorem dX8_init_27 : decode cX8_init 27 = .ok (.iconst 3, 1) := by decide +kernel
theorem sX8_init_27 : ab_X rom K cX8_init 6 3 27 ls st hp = ab_X rom K cX8_init 6 3 28 ls (.int 3 :: st) hp := ax_iconst dX8_init_27 (by decide) rfl
theorem dX8_init_28 : decode cX8_init 28 = .ok (.anewarray 19, 3) := by decide +kernel
theorem sX8_init_28 (h0 : ¬ x < 0) (h1 : x.toNatClampNeg ≤ 1000) (h2 : hp.length < ab_RO) : ab_X rom K cX8_init 6 3 28 ls (.int x :: st) hp = ab_X rom K cX8_init 6 3 31 ls (.ref hp.length :: st) (hp ++ [.inr (.inl (List.replicate x.toNatClampNeg none))]) := ax_newref dX8_init_28 (by decide +kernel) rfl h0 h1 h2
theorem dX8_init_31 : decode cX8_init 31 = .ok (.putfield 21, 3) := by decide +kernel
theorem sX8_init_31 : ab_X rom K cX8_init 6 3 31 ls (.ref a2 :: .ref a :: st) hp = (ab_fpt hp a 6 3 (.ref a2)).bind (fun hp' => ab_X rom K cX8_init 6 3 34 ls st hp') := ax_putfield dX8_init_31 kf_6_21 rfl (Or.inr ⟨rfl, rfl⟩) rfl
theorem dX8_init_34 : decode cX8_init 34 = .ok (.iconst 0, 1) := by decide +kernel
theorem sX8_init_34 : ab_X rom K cX8_init 6 3 34 ls st hp = ab_X rom K cX8_init 6 3 35 ls (.int 0 :: st) hp := ax_iconst dX8_init_34 (by decide) rfl
theorem dX8_init_35 : decode cX8_init 35 = .ok (.istore_n 1, 1) := by decide +kernel
theorem sX8_init_35i : ab_X rom K cX8_init 6 3 35 (.int y :: v1 :: ls) (.int x :: st) hp = ab_X rom K cX8_init 6 3 36 (.int y :: .int x :: ls) st hp := ax_istore_n dX8_init_35 (ax_lt (v := v1) rfl) (ab_nl_c1 (j := 0) (v := .int y) rfl (ab_c1_int _)) rfl rfl
theorem sX8_init_35r : ab_X rom K cX8_init 6 3 35 (.ref a2 :: v1 :: ls) (.int x :: st) hp = ab_X rom K cX8_init 6 3 36 (.ref a2 :: .int x :: ls) st hp := ax_istore_n dX8_init_35 (ax_lt (v := v1) rfl) (ab_nl_c1 (j := 0) (v := .ref a2) rfl (ab_c1_ref _)) rfl rfl
theorem sX8_init_35n : ab_X rom K cX8_init 6 3 35 (.null :: v1 :: ls) (.int x :: st) hp = ab_X rom K cX8_init 6 3 36 (.null :: .int x :: ls) st hp := ax_istore_n dX8_init_35 (ax_lt (v := v1) rfl) (ab_nl_c1 (j := 0) (v := .null) rfl ab_c1_null) rfl rfl
theorem dX8_init_36 : decode cX8_init 36 = .ok (.iload_n 1, 1) := by decide +kernel
theorem sX8_init_36 : ab_X rom K cX8_init 6 3 36 (v0 :: .int x :: ls) st hp = ab_X rom K cX8_init 6 3 37 (v0 :: .int x :: ls) (.int x :: st) hp := ax_iload_n dX8_init_36 rfl rfl
theorem dX8_init_37 : decode cX8_init 37 = .ok (.iconst 3, 1) := by decide +kernel
theorem sX8_init_37 : ab_X rom K cX8_init 6 3 37 ls st hp = ab_X rom K cX8_init 6 3 38 ls (.int 3 :: st) hp := ax_iconst dX8_init_37 (by decide) rfl
theorem dX8_init_38 : decode cX8_init 38 = .ok (.if_icmp .ge 22, 3) := by decide +kernel
theorem sX8_init_38 : ab_X rom K cX8_init 6 3 38 ls (.int y :: .int x :: st) hp = if x < y then ab_X rom K cX8_init 6 3 41 ls st hp else ab_X rom K cX8_init 6 3 60 ls st hp := ax_icmp_ge dX8_init_38 (by decide) rfl
theorem dX8_init_41 : decode cX8_init 41 = .ok (.aload_n 0, 1) := by decide +kernel
theorem sX8_init_41 : ab_X rom K cX8_init 6 3 41 (.ref a :: ls) st hp = ab_X rom K cX8_init 6 3 42 (.ref a :: ls) (.ref a :: st) hp := ax_aload_n dX8_init_41 rfl rfl
theorem dX8_init_42 : decode cX8_init 42 = .ok (.getfield 21, 3) := by decide +kernel
theorem sX8_init_42 : ab_X rom K cX8_init 6 3 42 ls (.ref a :: st) hp = (ab_fld hp a 6 3).bind (fun v => ab_X rom K cX8_init 6 3 45 ls (v :: st) hp) := ax_getfield dX8_init_42 kf_6_21 rfl
theorem dX8_init_45 : decode cX8_init 45 = .ok (.iload_n 1, 1) := by decide +kernel
theorem sX8_init_45 : ab_X rom K cX8_init 6 3 45 (v0 :: .int x :: ls) st hp = ab_X rom K cX8_init 6 3 46 (v0 :: .int x :: ls) (.int x :: st) hp := ax_iload_n dX8_init_45 rfl rfl
theorem dX8_init_46 : decode cX8_init 46 = .ok (.new 19, 3) := by decide +kernel
theorem sX8_init_46 (h2 : hp.length < ab_RO) : ab_X rom K cX8_init 6 3 46 ls st hp = ab_X rom K cX8_init 6 3 49 ls (.ref hp.length :: st) (hp ++ [.inr (.inr (1, [.int 0, .int 0, .null, .null, .null, .null]))]) := ax_new dX8_init_46 kn_6_19 rfl rfl h2
theorem dX8_init_49 : decode cX8_init 49 = .ok (.dup, 1) := by decide +kernel
theorem sX8_init_49i : ab_X rom K cX8_init 6 3 49 ls (.int x :: st) hp = ab_X rom K cX8_init 6 3 50 ls (.int x :: .int x :: st) hp := ax_dup dX8_init_49 rfl (ab_c1_int _)
theorem sX8_init_49r : ab_X rom K cX8_init 6 3 49 ls (.ref a :: st) hp = ab_X rom K cX8_init 6 3 50 ls (.ref a :: .ref a :: st) hp := ax_dup dX8_init_49 rfl (ab_c1_ref _)
theorem dX8_init_50 : decode cX8_init 50 = .ok (.invokespecial 25, 3) := by decide +kernel
theorem sX8_init_50_0 (ho : ab_iso hp a 1 = true) : ab_X rom K cX8_init 6 3 50 ls [.ref a] hp = (K 11 (.ref a :: []) hp).bind (fun o => ab_X rom K cX8_init 6 3 53 ls (o.1.toList ++ []) o.2) := ax_init (as := []) (st := []) dX8_init_50 kc_6_25 (by decide) rfl rfl (Nat.le_of_ble_eq_true rfl) ho
theorem sX8_init_50_1 (ho : ab_iso hp a 1 = true) : ab_X rom K cX8_init 6 3 50 ls [.ref a,v0] hp = (K 11 (.ref a :: []) hp).bind (fun o => ab_X rom K cX8_init 6 3 53 ls (o.1.toList ++ [v0]) o.2) := ax_init (as := []) (st := [v0]) dX8_init_50 kc_6_25 (by decide) rfl rfl (Nat.le_of_ble_eq_true rfl) ho
theorem sX8_init_50_2 (ho : ab_iso hp a 1 = true) : ab_X rom K cX8_init 6 3 50 ls [.ref a,v0,v1] hp = (K 11 (.ref a :: []) hp).bind (fun o => ab_X rom K cX8_init 6 3 53 ls (o.1.toList ++ [v0, v1]) o.2) := ax_init (as := []) (st := [v0, v1]) dX8_init_50 kc_6_25 (by decide) rfl rfl (Nat.le_of_ble_eq_true rfl) ho
theorem dX8_init_53 : decode cX8_init 53 = .ok (.aastore, 1) := by decide +kernel
theorem sX8_init_53 : ab_X rom K cX8_init 6 3 53 ls (.ref a2 :: .int x :: .ref a :: st) hp = (ab_rwr hp a x a2).bind (fun hp' => ab_X rom K cX8_init 6 3 54 ls st hp') := ax_aastore dX8_init_53 rfl
theorem dX8_init_54 : decode cX8_init 54 = .ok (.iinc 1 1, 3) := by decide +kernel
theorem sX8_init_54i : ab_X rom K cX8_init 6 3 54 (.int y :: .int x :: ls) st hp = ab_X rom K cX8_init 6 3 57 (.int y :: .int (x + 1) :: ls) st hp := ax_iinc dX8_init_54 rfl (ab_nl_c1 (j := 0) (v := .int y) rfl (ab_c1_int _)) (by decide) rfl rfl
theorem sX8_init_54r : ab_X rom K cX8_init 6 3 54 (.ref a2 :: .int x :: ls) st hp = ab_X rom K cX8_init 6 3 57 (.ref a2 :: .int (x + 1) :: ls) st hp := ax_iinc dX8_init_54 rfl (ab_nl_c1 (j := 0) (v := .ref a2) rfl (ab_c1_ref _)) (by decide) rfl rfl
theorem sX8_init_54n : ab_X rom K cX8_init 6 3 54 (.null :: .int x :: ls) st hp = ab_X rom K cX8_init 6 3 57 (.null :: .int (x + 1) :: ls) st hp := ax_iinc dX8_init_54 rfl (ab_nl_c1 (j := 0) (v := .null) rfl ab_c1_null) (by decide) rfl rfl
theorem dX8_init_57 : decode cX8_init 57 = .ok (.goto (-21), 3) := by decide +kernel
theorem sX8_init_57 : ab_X rom K cX8_init 6 3 57 ls st hp = ab_X rom K cX8_init 6 3 36 ls st hp := ax_goto dX8_init_57 (by decide)
theorem dX8_init_60 : decode cX8_init 60 = .ok (.aload_n 0, 1) := by decide +kernel
theorem sX8_init_60 : ab_X rom K cX8_init 6 3 60 (.ref a :: ls) st hp = ab_X rom K cX8_init 6 3 61 (.ref a :: ls) (.ref a :: st) hp := ax_aload_n dX8_init_60 rfl rfl
theorem dX8_init_61 : decode cX8_init 61 = .ok (.new 19, 3) := by decide +kernel
theorem sX8_init_61 (h2 : hp.length < ab_RO) : ab_X rom K cX8_init 6 3 61 ls st hp = ab_X rom K cX8_init 6 3 64 ls (.ref hp.length :: st) (hp ++ [.inr (.inr (1, [.int 0, .int 0, .null, .null, .null, .null]))]) := ax_new dX8_init_61 kn_6_19 rfl rfl h2
theorem dX8_init_64 : decode cX8_init 64 = .ok (.dup, 1) := by decide +kernel
theorem sX8_init_64i : ab_X rom K cX8_init 6 3 64 ls (.int x :: st) hp = ab_X rom K cX8_init 6 3 65 ls (.int x :: .int x :: st) hp := ax_dup dX8_init_64 rfl (ab_c1_int _)
theorem sX8_init_64r : ab_X rom K cX8_init 6 3 64 ls (.ref a :: st) hp = ab_X rom K cX8_init 6 3 65 ls (.ref a :: .ref a :: st) hp := ax_dup dX8_init_64 rfl (ab_c1_ref _)
theorem dX8_init_65 : decode cX8_init 65 = .ok (.invokespecial 25, 3) := by decide +kernel
theorem sX8_init_65_0 (ho : ab_iso hp a 1 = true) : ab_X rom K cX8_init 6 3 65 ls [.ref a] hp = (K 11 (.ref a :: []) hp).bind (fun o => ab_X rom K cX8_init 6 3 68 ls (o.1.toList ++ []) o.2) := ax_init (as := []) (st := []) dX8_init_65 kc_6_25 (by decide) rfl rfl (Nat.le_of_ble_eq_true rfl) ho
theorem sX8_init_65_1 (ho : ab_iso hp a 1 = true) : ab_X rom K cX8_init 6 3 65 ls [.ref a,v0] hp = (K 11 (.ref a :: []) hp).bind (fun o => ab_X rom K cX8_init 6 3 68 ls (o.1.toList ++ [v0]) o.2) := ax_init (as := []) (st := [v0]) dX8_init_65 kc_6_25 (by decide) rfl rfl (Nat.le_of_ble_eq_true rfl) ho
theorem sX8_init_65_2 (ho : ab_iso hp a 1 = true) : ab_X rom K cX8_init 6 3 65 ls [.ref a,v0,v1] hp = (K 11 (.ref a :: []) hp).bind (fun o => ab_X rom K cX8_init 6 3 68 ls (o.1.toList ++ [v0, v1]) o.2) := ax_init (as := []) (st := [v0, v1]) dX8_init_65 kc_6_25 (by decide) rfl rfl (Nat.le_of_ble_eq_true rfl) ho
theorem dX8_init_68 : decode cX8_init 68 = .ok (.putfield 26, 3) := by decide +kernel
theorem sX8_init_68 : ab_X rom K cX8_init 6 3 68 ls (.ref a2 :: .ref a :: st) hp = (ab_fpt hp a 6 4 (.ref a2)).bind (fun hp' => ab_X rom K cX8_init 6 3 71 ls st hp') := ax_putfield dX8_init_68 kf_6_26 rfl (Or.inr ⟨rfl, rfl⟩) rfl
theorem dX8_init_71 : decode cX8_init 71 = .ok (.aload_n 0, 1) := by decide +kernel
theorem sX8_init_71 : ab_X rom K cX8_init 6 3 71 (.ref a :: ls) st hp = ab_X rom K cX8_init 6 3 72 (.ref a :: ls) (.ref a :: st) hp := ax_aload_n dX8_init_71 rfl rfl
theorem dX8_init_72 : decode cX8_init 72 = .ok (.new 30, 3) := by decide +kernel
theorem sX8_init_72 (h2 : hp.length < ab_RO) : ab_X rom K cX8_init 6 3 72 ls st hp = ab_X rom K cX8_init 6 3 75 ls (.ref hp.length :: st) (hp ++ [.inr (.inr (3, [.int 0, .int 0, .null, .null, .int 0, .int 0, .int 0, .int 0]))]) := ax_new dX8_init_72 kn_6_30 rfl rfl h2
theorem dX8_init_75 : decode cX8_init 75 = .ok (.dup, 1) := by decide +kernel
theorem sX8_init_75i : ab_X rom K cX8_init 6 3 75 ls (.int x :: st) hp = ab_X rom K cX8_init 6 3 76 ls (.int x :: .int x :: st) hp := ax_dup dX8_init_75 rfl (ab_c1_int _)
theorem sX8_init_75r : ab_X rom K cX8_init 6 3 75 ls (.ref a :: st) hp = ab_X rom K cX8_init 6 3 76 ls (.ref a :: .ref a :: st) hp := ax_dup dX8_init_75 rfl (ab_c1_ref _)
theorem dX8_init_76 : decode cX8_init 76 = .ok (.aload_n 0, 1) := by decide +kernel
theorem sX8_init_76 : ab_X rom K cX8_init 6 3 76 (.ref a :: ls) st hp = ab_X rom K cX8_init 6 3 77 (.ref a :: ls) (.ref a :: st) hp := ax_aload_n dX8_init_76 rfl rfl
theorem dX8_init_77 : decode cX8_init 77 = .ok (.getfield 10, 3) := by decide +kernel
theorem sX8_init_77 : ab_X rom K cX8_init 6 3 77 ls (.ref a :: st) hp = (ab_fld hp a 6 0).bind (fun v => ab_X rom K cX8_init 6 3 80 ls (v :: st) hp) := ax_getfield dX8_init_77 kf_6_10 rfl
theorem dX8_init_80 : decode cX8_init 80 = .ok (.aload_n 0, 1) := by decide +kernel
theorem sX8_init_80 : ab_X rom K cX8_init 6 3 80 (.ref a :: ls) st hp = ab_X rom K cX8_init 6 3 81 (.ref a :: ls) (.ref a :: st) hp := ax_aload_n dX8_init_80 rfl rfl
theorem dX8_init_81 : decode cX8_init 81 = .ok (.getfield 26, 3) := by decide +kernel
theorem sX8_init_81 : ab_X rom K cX8_init 6 3 81 ls (.ref a :: st) hp = (ab_fld hp a 6 4).bind (fun v => ab_X rom K cX8_init 6 3 84 ls (v :: st) hp) := ax_getfield dX8_init_81 kf_6_26 rfl
theorem dX8_init_84 : decode cX8_init 84 = .ok (.invokespecial 32, 3) := by decide +kernel
theorem sX8_init_84_0 (ho : ab_iso hp a 3 = true) : ab_X rom K cX8_init 6 3 84 ls [w2,w1,.ref a] hp = (K 38 (.ref a :: [w1, w2]) hp).bind (fun o => ab_X rom K cX8_init 6 3 87 ls (o.1.toList ++ []) o.2) := ax_init (as := [w1, w2]) (st := []) dX8_init_84 kc_6_32 (by decide) rfl rfl (Nat.le_of_ble_eq_true rfl) ho
theorem sX8_init_84_1 (ho : ab_iso hp a 3 = true) : ab_X rom K cX8_init 6 3 84 ls [w2,w1,.ref a,v0] hp = (K 38 (.ref a :: [w1, w2]) hp).bind (fun o => ab_X rom K cX8_init 6 3 87 ls (o.1.toList ++ [v0]) o.2) := ax_init (as := [w1, w2]) (st := [v0]) dX8_init_84 kc_6_32 (by decide) rfl rfl (Nat.le_of_ble_eq_true rfl) ho
theorem sX8_init_84_2 (ho : ab_iso hp a 3 = true) : ab_X rom K cX8_init 6 3 84 ls [w2,w1,.ref a,v0,v1] hp = (K 38 (.ref a :: [w1, w2]) hp).bind (fun o => ab_X rom K cX8_init 6 3 87 ls (o.1.toList ++ [v0, v1]) o.2) := ax_init (as := [w1, w2]) (st := [v0, v1]) dX8_init_84 kc_6_32 (by decide) rfl rfl (Nat.le_of_ble_eq_true rfl) ho
theorem dX8_init_87 : decode cX8_init 87 = .ok (.putfield 35, 3) := by decide +kernel
theorem sX8_init_87 : ab_X rom K cX8_init 6 3 87 ls (.ref a2 :: .ref a :: st) hp = (ab_fpt hp a 6 1 (.ref a2)).bind (fun hp' => ab_X rom K cX8_init 6 3 90 ls st hp') := ax_putfield dX8_init_87 kf_6_35 rfl (Or.inr ⟨rfl, rfl⟩) rfl
theorem dX8_init_90 : decode cX8_init 90 = .ok (.aload_n 0, 1) := by decide +kernel
theorem sX8_init_90 : ab_X rom K cX8_init 6 3 90 (.ref a :: ls) st hp = ab_X rom K cX8_init 6 3 91 (.ref a :: ls) (.ref a :: st) hp := ax_aload_n dX8_init_90 rfl rfl
theorem dX8_init_91 : decode cX8_init 91 = .ok (.new 39, 3) := by decide +kernel
theorem sX8_init_91 (h2 : hp.length < ab_RO) : ab_X rom K cX8_init 6 3 91 ls st hp = ab_X rom K cX8_init 6 3 94 ls (.ref hp.length :: st) (hp ++ [.inr (.inr (2, [.int 0, .int 0, .null, .null]))]) := ax_new dX8_init_91 kn_6_39 rfl rfl h2
theorem dX8_init_94 : decode cX8_init 94 = .ok (.dup, 1) := by decide +kernel
theorem sX8_init_94i : ab_X rom K cX8_init 6 3 94 ls (.int x :: st) hp = ab_X rom K cX8_init 6 3 95 ls (.int x :: .int x :: st) hp := ax_dup dX8_init_94 rfl (ab_c1_int _)
theorem sX8_init_94r : ab_X rom K cX8_init 6 3 94 ls (.ref a :: st) hp = ab_X rom K cX8_init 6 3 95 ls (.ref a :: .ref a :: st) hp := ax_dup dX8_init_94 rfl (ab_c1_ref _)
theorem dX8_init_95 : decode cX8_init 95 = .ok (.invokespecial 41, 3) := by decide +kernel
theorem sX8_init_95_0 (ho : ab_iso hp a 2 = true) : ab_X rom K cX8_init 6 3 95 ls [.ref a] hp = (K 35 (.ref a :: []) hp).bind (fun o => ab_X rom K cX8_init 6 3 98 ls (o.1.toList ++ []) o.2) := ax_init (as := []) (st := []) dX8_init_95 kc_6_41 (by decide) rfl rfl (Nat.le_of_ble_eq_true rfl) ho
theorem sX8_init_95_1 (ho : ab_iso hp a 2 = true) : ab_X rom K cX8_init 6 3 95 ls [.ref a,v0] hp = (K 35 (.ref a :: []) hp).bind (fun o => ab_X rom K cX8_init 6 3 98 ls (o.1.toList ++ [v0]) o.2) := ax_init (as := []) (st := [v0]) dX8_init_95 kc_6_41 (by decide) rfl rfl (Nat.le_of_ble_eq_true rfl) ho
theorem sX8_init_95_2 (ho : ab_iso hp a 2 = true) : ab_X rom K cX8_init 6 3 95 ls [.ref a,v0,v1] hp = (K 35 (.ref a :: []) hp).bind (fun o => ab_X rom K cX8_init 6 3 98 ls (o.1.toList ++ [v0, v1]) o.2) := ax_init (as := []) (st := [v0, v1]) dX8_init_95 kc_6_41 (by decide) rfl rfl (Nat.le_of_ble_eq_true rfl) ho
theorem dX8_init_98 : decode cX8_init 98 = .ok (.putfield 42, 3) := by decide +kernel
theorem sX8_init_98 : ab_X rom K cX8_init 6 3 98 ls (.ref a2 :: .ref a :: st) hp = (ab_fpt hp a 6 5 (.ref a2)).bind (fun hp' => ab_X rom K cX8_init 6 3 101 ls st hp') := ax_putfield dX8_init_98 kf_6_42 rfl (Or.inr ⟨rfl, rfl⟩) rfl
theorem dX8_init_101 : decode cX8_init 101 = .ok (.aload_n 0, 1) := by decide +kernel
theorem sX8_init_101 : ab_X rom K cX8_init 6 3 101 (.ref a :: ls) st hp = ab_X rom K cX8_init 6 3 102 (.ref a :: ls) (.ref a :: st) hp := ax_aload_n dX8_init_101 rfl rfl
theorem dX8_init_102 : decode cX8_init 102 = .ok (.new 46, 3) := by decide +kernel
theorem sX8_init_102 (h2 : hp.length < ab_RO) : ab_X rom K cX8_init 6 3 102 ls st hp = ab_X rom K cX8_init 6 3 105 ls (.ref hp.length :: st) (hp ++ [.inr (.inr (4, [.null, .null, .null, .null, .null, .null, .int 0, .int 0, .int 0, .int 0, .int 0, .int 0, .int 0, .int 0, .int 0]))]) := ax_new dX8_init_102 kn_6_46 rfl rfl h2
theorem dX8_init_105 : decode cX8_init 105 = .ok (.dup, 1) := by decide +kernel
theorem sX8_init_105i : ab_X rom K cX8_init 6 3 105 ls (.int x :: st) hp = ab_X rom K cX8_init 6 3 106 ls (.int x :: .int x :: st) hp := ax_dup dX8_init_105 rfl (ab_c1_int _)
theorem sX8_init_105r : ab_X rom K cX8_init 6 3 105 ls (.ref a :: st) hp = ab_X rom K cX8_init 6 3 106 ls (.ref a :: .ref a :: st) hp := ax_dup dX8_init_105 rfl (ab_c1_ref _)
theorem dX8_init_106 : decode cX8_init 106 = .ok (.aload_n 0, 1) := by decide +kernel
theorem sX8_init_106 : ab_X rom K cX8_init 6 3 106 (.ref a :: ls) st hp = ab_X rom K cX8_init 6 3 107 (.ref a :: ls) (.ref a :: st) hp := ax_aload_n dX8_init_106 rfl rfl
theorem dX8_init_107 : decode cX8_init 107 = .ok (.getfield 26, 3) := by decide +kernel
theorem sX8_init_107 : ab_X rom K cX8_init 6 3 107 ls (.ref a :: st) hp = (ab_fld hp a 6 4).bind (fun v => ab_X rom K cX8_init 6 3 110 ls (v :: st) hp) := ax_getfield dX8_init_107 kf_6_26 rfl
theorem dX8_init_110 : decode cX8_init 110 = .ok (.invokespecial 48, 3) := by decide +kernel
theorem sX8_init_110_0 (ho : ab_iso hp a 4 = true) : ab_X rom K cX8_init 6 3 110 ls [w1,.ref a] hp = (K 57 (.ref a :: [w1]) hp).bind (fun o => ab_X rom K cX8_init 6 3 113 ls (o.1.toList ++ []) o.2) := ax_init (as := [w1]) (st := []) dX8_init_110 kc_6_48 (by decide) rfl rfl (Nat.le_of_ble_eq_true rfl) ho
theorem sX8_init_110_1 (ho : ab_iso hp a 4 = true) : ab_X rom K cX8_init 6 3 110 ls [w1,.ref a,v0] hp = (K 57 (.ref a :: [w1]) hp).bind (fun o => ab_X rom K cX8_init 6 3 113 ls (o.1.toList ++ [v0]) o.2) := ax_init (as := [w1]) (st := [v0]) dX8_init_110 kc_6_48 (by decide) rfl rfl (Nat.le_of_ble_eq_true rfl) ho
theorem sX8_init_110_2 (ho : ab_iso hp a 4 = true) : ab_X rom K cX8_init 6 3 110 ls [w1,.ref a,v0,v1] hp = (K 57 (.ref a :: [w1]) hp).bind (fun o => ab_X rom K cX8_init 6 3 113 ls (o.1.toList ++ [v0, v1]) o.2) := ax_init (as := [w1]) (st := [v0, v1]) dX8_init_110 kc_6_48 (by decide) rfl rfl (Nat.le_of_ble_eq_true rfl) ho
theorem dX8_init_113 : decode cX8_init 113 = .ok (.putfield 51, 3) := by decide +kernel
theorem sX8_init_113 : ab_X rom K cX8_init 6 3 113 ls (.ref a2 :: .ref a :: st) hp = (ab_fpt hp a 6 6 (.ref a2)).bind (fun hp' => ab_X rom K cX8_init 6 3 116 ls st hp') := ax_putfield dX8_init_113 kf_6_51 rfl (Or.inr ⟨rfl, rfl⟩) rfl
theorem dX8_init_116 : decode cX8_init 116 = .ok (.aload_n 0, 1) := by decide +kernel
theorem sX8_init_116 : ab_X rom K cX8_init 6 3 116 (.ref a :: ls) st hp = ab_X rom K cX8_init 6 3 117 (.ref a :: ls) (.ref a :: st) hp := ax_aload_n dX8_init_116 rfl rfl
theorem dX8_init_117 : decode cX8_init 117 = .ok (.bipush 12, 2) := by decide +kernel
theorem sX8_init_117 : ab_X rom K cX8_init 6 3 117 ls st hp = ab_X rom K cX8_init 6 3 119 ls (.int 12 :: st) hp := ax_bipush dX8_init_117 (by decide) rfl
theorem dX8_init_119 : decode cX8_init 119 = .ok (.newarray .int, 2) := by decide +kernel
theorem sX8_init_119 : ab_X rom K cX8_init 6 3 119 ls (.int x :: st) hp = if ¬ x < 0 ∧ x.toNatClampNeg ≤ 1000 ∧ hp.length < ab_RO then ab_X rom K cX8_init 6 3 121 ls (.ref hp.length :: st) (hp ++ [.inl (0, List.replicate x.toNatClampNeg 0)]) else none := ay_newint dX8_init_119 rfl
theorem dX8_init_121 : decode cX8_init 121 = .ok (.putfield 55, 3) := by decide +kernel
theorem sX8_init_121 : ab_X rom K cX8_init 6 3 121 ls (.ref a2 :: .ref a :: st) hp = (ab_fpt hp a 6 7 (.ref a2)).bind (fun hp' => ab_X rom K cX8_init 6 3 124 ls st hp') := ax_putfield dX8_init_121 kf_6_55 rfl (Or.inr ⟨rfl, rfl⟩) rfl
theorem dX8_init_124 : decode cX8_init 124 = .ok (.aload_n 0, 1) := by decide +kernel
theorem sX8_init_124 : ab_X rom K cX8_init 6 3 124 (.ref a :: ls) st hp = ab_X rom K cX8_init 6 3 125 (.ref a :: ls) (.ref a :: st) hp := ax_aload_n dX8_init_124 rfl rfl
theorem dX8_init_125 : decode cX8_init 125 = .ok (.bipush 66, 2) := by decide +kernel
theorem sX8_init_125 : ab_X rom K cX8_init 6 3 125 ls st hp = ab_X rom K cX8_init 6 3 127 ls (.int 66 :: st) hp := ax_bipush dX8_init_125 (by decide) rfl
theorem dX8_init_127 : decode cX8_init 127 = .ok (.newarray .int, 2) := by decide +kernel
theorem sX8_init_127 : ab_X rom K cX8_init 6 3 127 ls (.int x :: st) hp = if ¬ x < 0 ∧ x.toNatClampNeg ≤ 1000 ∧ hp.length < ab_RO then ab_X rom K cX8_init 6 3 129 ls (.ref hp.length :: st) (hp ++ [.inl (0, List.replicate x.toNatClampNeg 0)]) else none := ay_newint dX8_init_127 rfl
theorem dX8_init_129 : decode cX8_init 129 = .ok (.putfield 59, 3) := by decide +kernel
theorem sX8_init_129 : ab_X rom K cX8_init 6 3 129 ls (.ref a2 :: .ref a :: st) hp = (ab_fpt hp a 6 8 (.ref a2)).bind (fun hp' => ab_X rom K cX8_init 6 3 132 ls st hp') := ax_putfield dX8_init_129 kf_6_59 rfl (Or.inr ⟨rfl, rfl⟩) rfl
theorem dX8_init_132 : decode cX8_init 132 = .ok (.aload_n 0, 1) := by decide +kernel
theorem sX8_init_132 : ab_X rom K cX8_init 6 3 132 (.ref a :: ls) st hp = ab_X rom K cX8_init 6 3 133 (.ref a :: ls) (.ref a :: st) hp := ax_aload_n dX8_init_132 rfl rfl
theorem dX8_init_133 : decode cX8_init 133 = .ok (.iconst 0, 1) := by decide +kernel
theorem sX8_init_133 : ab_X rom K cX8_init 6 3 133 ls st hp = ab_X rom K cX8_init 6 3 134 ls (.int 0 :: st) hp := ax_iconst dX8_init_133 (by decide) rfl
theorem dX8_init_134 : decode cX8_init 134 = .ok (.putfield 62, 3) := by decide +kernel
theorem sX8_init_134 : ab_X rom K cX8_init 6 3 134 ls (.int x :: .ref a :: st) hp = (ab_fpt hp a 6 9 (.int x)).bind (fun hp' => ab_X rom K cX8_init 6 3 137 ls st hp') := ax_putfield dX8_init_134 kf_6_62 rfl (Or.inl rfl) rfl
theorem dX8_init_137 : decode cX8_init 137 = .ok (.aload_n 0, 1) := by decide +kernel
theorem sX8_init_137 : ab_X rom K cX8_init 6 3 137 (.ref a :: ls) st hp = ab_X rom K cX8_init 6 3 138 (.ref a :: ls) (.ref a :: st) hp := ax_aload_n dX8_init_137 rfl rfl
theorem dX8_init_138 : decode cX8_init 138 = .ok (.iconst (-1), 1) := by decide +kernel
theorem sX8_init_138 : ab_X rom K cX8_init 6 3 138 ls st hp = ab_X rom K cX8_init 6 3 139 ls (.int (-1) :: st) hp := ax_iconst dX8_init_138 (by decide) rfl
theorem dX8_init_139 : decode cX8_init 139 = .ok (.putfield 66, 3) := by decide +kernel
theorem sX8_init_139 : ab_X rom K cX8_init 6 3 139 ls (.int x :: .ref a :: st) hp = (ab_fpt hp a 6 10 (.int x)).bind (fun hp' => ab_X rom K cX8_init 6 3 142 ls st hp') := ax_putfield dX8_init_139 kf_6_66 rfl (Or.inl rfl) rfl
theorem dX8_init_142 : decode cX8_init 142 = .ok (.return_, 1) := by decide +kernel
theorem sX8_init_142 : ab_X rom K cX8_init 6 3 142 ls [] hp = some (none, hp) := ax_vret dX8_init_142 (by decide)
theorem tX8_adds : ab_mT[80]? = some (yX8_adds, cX8_adds, 5, 1, 6) := by decide +kernel
theorem mX8_adds {d : Nat} {a0 : Nat} {x0 : Int32} {x1 : Int32} {x2 : Int32} : ab_M rom (d + 1) 80 [.ref a0, .int x0, .int x1, .int x2] hp = ab_X rom (ab_M rom d) cX8_adds 6 1 0 [.ref a0, .int x0, .int x1, .int x2, .null] [] hp := ab_M_eq tX8_adds (Nat.le_of_ble_eq_true rfl)
theorem dX8_adds_0 : decode cX8_adds 0 = .ok (.aload_n 0, 1) := by decide +kernel
theorem sX8_adds_0 : ab_X rom K cX8_adds 6 1 0 (.ref a :: ls) st hp = ab_X rom K cX8_adds 6 1 1 (.ref a :: ls) (.ref a :: st) hp := ax_aload_n dX8_adds_0 rfl rfl
theorem dX8_adds_1 : decode cX8_adds 1 = .ok (.iload_n 1, 1) := by decide +kernel
theorem sX8_adds_1 : ab_X rom K cX8_adds 6 1 1 (v0 :: .int x :: ls) st hp = ab_X rom K cX8_adds 6 1 2 (v0 :: .int x :: ls) (.int x :: st) hp := ax_iload_n dX8_adds_1 rfl rfl
theorem dX8_adds_2 : decode cX8_adds 2 = .ok (.iload_n 2, 1) := by decide +kernel
theorem sX8_adds_2 : ab_X rom K cX8_adds 6 1 2 (v0 :: v1 :: .int x :: ls) st hp = ab_X rom K cX8_adds 6 1 3 (v0 :: v1 :: .int x :: ls) (.int x :: st) hp := ax_iload_n dX8_adds_2 rfl rfl
theorem dX8_adds_3 : decode cX8_adds 3 = .ok (.iload_n 3, 1) := by decide +kernel
theorem sX8_adds_3 : ab_X rom K cX8_adds 6 1 3 (v0 :: v1 :: v2 :: .int x :: ls) st hp = ab_X rom K cX8_adds 6 1 4 (v0 :: v1 :: v2 :: .int x :: ls) (.int x :: st) hp := ax_iload_n dX8_adds_3 rfl rfl
theorem dX8_adds_4 : decode cX8_adds 4 = .ok (.invokevirtual 129, 3) := by decide +kernel
theorem sX8_adds_4_0 : ab_X rom K cX8_adds 6 1 4 ls [w3, w2, w1, .ref a] hp = if ab_iso hp a 6 = true then (K 97 (.ref a :: [w1, w2, w3]) hp).bind (fun o => ab_X rom K cX8_adds 6 1 7 ls (o.1.toList ++ []) o.2) else none := ay_virtual (as := [w1, w2, w3]) (st := []) dX8_adds_4 kc_6_129 rfl rfl (Nat.le_of_ble_eq_true rfl)
theorem sX8_adds_4_1 : ab_X rom K cX8_adds 6 1 4 ls [w3, w2, w1, .ref a, v0] hp = if ab_iso hp a 6 = true then (K 97 (.ref a :: [w1, w2, w3]) hp).bind (fun o => ab_X rom K cX8_adds 6 1 7 ls (o.1.toList ++ [v0]) o.2) else none := ay_virtual (as := [w1, w2, w3]) (st := [v0]) dX8_adds_4 kc_6_129 rfl rfl (Nat.le_of_ble_eq_true rfl)
theorem sX8_adds_4_2 : ab_X rom K cX8_adds 6 1 4 ls [w3, w2, w1, .ref a, v0, v1] hp = if ab_iso hp a 6 = true then (K 97 (.ref a :: [w1, w2, w3]) hp).bind (fun o => ab_X rom K cX8_adds 6 1 7 ls (o.1.toList ++ [v0, v1]) o.2) else none := ay_virtual (as := [w1, w2, w3]) (st := [v0, v1]) dX8_adds_4 kc_6_129 rfl rfl (Nat.le_of_ble_eq_true rfl)
theorem sX8_adds_4_3 : ab_X rom K cX8_adds 6 1 4 ls [w3, w2, w1, .ref a, v0, v1, v2] hp = if ab_iso hp a 6 = true then (K 97 (.ref a :: [w1, w2, w3]) hp).bind (fun o => ab_X rom K cX8_adds 6 1 7 ls (o.1.toList ++ [v0, v1, v2]) o.2) else none := ay_virtual (as := [w1, w2, w3]) (st := [v0, v1, v2]) dX8_adds_4 kc_6_129 rfl rfl (Nat.le_of_ble_eq_true rfl)
theorem dX8_adds_7 : decode cX8_adds 7 = .ok (.ifCond .ne 6, 3) := by decide +kernel
theorem sX8_adds_7 : ab_X rom K cX8_adds 6 1 7 ls (.int x :: st) hp = if x = 0 then ab_X rom K cX8_adds 6 1 10 ls st hp else ab_X rom K cX8_adds 6 1 13 ls st hp := ax_if_ne dX8_adds_7 (by decide) rfl
theorem dX8_adds_10 : decode cX8_adds 10 = .ok (.bipush (-2), 2) := by decide +kernel
theorem sX8_adds_10 : ab_X rom K cX8_adds 6 1 10 ls st hp = ab_X rom K cX8_adds 6 1 12 ls (.int (-2) :: st) hp := ax_bipush dX8_adds_10 (by decide) rfl
theorem dX8_adds_12 : decode cX8_adds 12 = .ok (.ireturn, 1) := by decide +kernel
theorem sX8_adds_12 : ab_X rom K cX8_adds 6 1 12 ls [.int x] hp = some (some (.int x), hp) := ax_iret dX8_adds_12 rfl
theorem dX8_adds_13 : decode cX8_adds 13 = .ok (.aload_n 0, 1) := by decide +kernel
theorem sX8_adds_13 : ab_X rom K cX8_adds 6 1 13 (.ref a :: ls) st hp = ab_X rom K cX8_adds 6 1 14 (.ref a :: ls) (.ref a :: st) hp := ax_aload_n dX8_adds_13 rfl rfl
theorem dX8_adds_14 : decode cX8_adds 14 = .ok (.getfield 21, 3) := by decide +kernel
theorem sX8_adds_14 : ab_X rom K cX8_adds 6 1 14 ls (.ref a :: st) hp = (ab_fld hp a 6 3).bind (fun v => ab_X rom K cX8_adds 6 1 17 ls (v :: st) hp) := ax_getfield dX8_adds_14 kf_6_21 rfl
theorem dX8_adds_17 : decode cX8_adds 17 = .ok (.iload_n 1, 1) := by decide +kernel
theorem sX8_adds_17 : ab_X rom K cX8_adds 6 1 17 (v0 :: .int x :: ls) st hp = ab_X rom K cX8_adds 6 1 18 (v0 :: .int x :: ls) (.int x :: st) hp := ax_iload_n dX8_adds_17 rfl rfl
theorem dX8_adds_18 : decode cX8_adds 18 = .ok (.aaload, 1) := by decide +kernel
theorem sX8_adds_18 : ab_X rom K cX8_adds 6 1 18 ls (.int x :: .ref a :: st) hp = (ab_rrd hp a x).bind (fun v => ab_X rom K cX8_adds 6 1 19 ls (.ref v :: st) hp) := ax_aaload dX8_adds_18 rfl
theorem dX8_adds_19 : decode cX8_adds 19 = .ok (.astore 4, 2) := by decide +kernel
theorem sX8_adds_19i : ab_X rom K cX8_adds 6 1 19 (v0 :: v1 :: v2 :: .int y :: v4 :: ls) (.ref a :: st) hp = ab_X rom K cX8_adds 6 1 21 (v0 :: v1 :: v2 :: .int y :: .ref a :: ls) st hp := ax_astore dX8_adds_19 (ax_lt (v := v4) rfl) (ab_nl_c1 (j := 3) (v := .int y) rfl (ab_c1_int _)) rfl rfl
theorem sX8_adds_19r : ab_X rom K cX8_adds 6 1 19 (v0 :: v1 :: v2 :: .ref a2 :: v4 :: ls) (.ref a :: st) hp = ab_X rom K cX8_adds 6 1 21 (v0 :: v1 :: v2 :: .ref a2 :: .ref a :: ls) st hp := ax_astore dX8_adds_19 (ax_lt (v := v4) rfl) (ab_nl_c1 (j := 3) (v := .ref a2) rfl (ab_c1_ref _)) rfl rfl
theorem sX8_adds_19n : ab_X rom K cX8_adds 6 1 19 (v0 :: v1 :: v2 :: .null :: v4 :: ls) (.ref a :: st) hp = ab_X rom K cX8_adds 6 1 21 (v0 :: v1 :: v2 :: .null :: .ref a :: ls) st hp := ax_astore dX8_adds_19 (ax_lt (v := v4) rfl) (ab_nl_c1 (j := 3) (v := .null) rfl ab_c1_null) rfl rfl
theorem dX8_adds_21 : decode cX8_adds 21 = .ok (.aload 4, 2) := by decide +kernel
theorem sX8_adds_21 : ab_X rom K cX8_adds 6 1 21 (v0 :: v1 :: v2 :: v3 :: .ref a :: ls) st hp = ab_X rom K cX8_adds 6 1 23 (v0 :: v1 :: v2 :: v3 :: .ref a :: ls) (.ref a :: st) hp := ax_aload dX8_adds_21 rfl rfl
theorem dX8_adds_23 : decode cX8_adds 23 = .ok (.iload_n 2, 1) := by decide +kernel
theorem sX8_adds_23 : ab_X rom K cX8_adds 6 1 23 (v0 :: v1 :: .int x :: ls) st hp = ab_X rom K cX8_adds 6 1 24 (v0 :: v1 :: .int x :: ls) (.int x :: st) hp := ax_iload_n dX8_adds_23 rfl rfl
theorem dX8_adds_24 : decode cX8_adds 24 = .ok (.iload_n 3, 1) := by decide +kernel
theorem sX8_adds_24 : ab_X rom K cX8_adds 6 1 24 (v0 :: v1 :: v2 :: .int x :: ls) st hp = ab_X rom K cX8_adds 6 1 25 (v0 :: v1 :: v2 :: .int x :: ls) (.int x :: st) hp := ax_iload_n dX8_adds_24 rfl rfl
theorem dX8_adds_25 : decode cX8_adds 25 = .ok (.invokevirtual 133, 3) := by decide +kernel
theorem sX8_adds_25_0 : ab_X rom K cX8_adds 6 1 25 ls [w2, w1, .ref a] hp = if ab_iso hp a 1 = true then (K 20 (.ref a :: [w1, w2]) hp).bind (fun o => ab_X rom K cX8_adds 6 1 28 ls (o.1.toList ++ []) o.2) else none := ay_virtual (as := [w1, w2]) (st := []) dX8_adds_25 kc_6_133 rfl rfl (Nat.le_of_ble_eq_true rfl)
theorem sX8_adds_25_1 : ab_X rom K cX8_adds 6 1 25 ls [w2, w1, .ref a, v0] hp = if ab_iso hp a 1 = true then (K 20 (.ref a :: [w1, w2]) hp).bind (fun o => ab_X rom K cX8_adds 6 1 28 ls (o.1.toList ++ [v0]) o.2) else none := ay_virtual (as := [w1, w2]) (st := [v0]) dX8_adds_25 kc_6_133 rfl rfl (Nat.le_of_ble_eq_true rfl)
theorem sX8_adds_25_2 : ab_X rom K cX8_adds 6 1 25 ls [w2, w1, .ref a, v0, v1] hp = if ab_iso hp a 1 = true then (K 20 (.ref a :: [w1, w2]) hp).bind (fun o => ab_X rom K cX8_adds 6 1 28 ls (o.1.toList ++ [v0, v1]) o.2) else none := ay_virtual (as := [w1, w2]) (st := [v0, v1]) dX8_adds_25 kc_6_133 rfl rfl (Nat.le_of_ble_eq_true rfl)
theorem sX8_adds_25_3 : ab_X rom K cX8_adds 6 1 25 ls [w2, w1, .ref a, v0, v1, v2] hp = if ab_iso hp a 1 = true then (K 20 (.ref a :: [w1, w2]) hp).bind (fun o => ab_X rom K cX8_adds 6 1 28 ls (o.1.toList ++ [v0, v1, v2]) o.2) else none := ay_virtual (as := [w1, w2]) (st := [v0, v1, v2]) dX8_adds_25 kc_6_133 rfl rfl (Nat.le_of_ble_eq_true rfl)
theorem dX8_adds_28 : decode cX8_adds 28 = .ok (.iconst (-1), 1) := by decide +kernel
theorem sX8_adds_28 : ab_X rom K cX8_adds 6 1 28 ls st hp = ab_X rom K cX8_adds 6 1 29 ls (.int (-1) :: st) hp := ax_iconst dX8_adds_28 (by decide) rfl
theorem dX8_adds_29 : decode cX8_adds 29 = .ok (.if_icmp .ne 13, 3) := by decide +kernel
theorem sX8_adds_29 : ab_X rom K cX8_adds 6 1 29 ls (.int y :: .int x :: st) hp = if x = y then ab_X rom K cX8_adds 6 1 32 ls st hp else ab_X rom K cX8_adds 6 1 42 ls st hp := ax_icmp_ne dX8_adds_29 (by decide) rfl
theorem dX8_adds_32 : decode cX8_adds 32 = .ok (.aload 4, 2) := by decide +kernel
theorem sX8_adds_32 : ab_X rom K cX8_adds 6 1 32 (v0 :: v1 :: v2 :: v3 :: .ref a :: ls) st hp = ab_X rom K cX8_adds 6 1 34 (v0 :: v1 :: v2 :: v3 :: .ref a :: ls) (.ref a :: st) hp := ax_aload dX8_adds_32 rfl rfl
theorem dX8_adds_34 : decode cX8_adds 34 = .ok (.getfield 89, 3) := by decide +kernel
theorem sX8_adds_34 : ab_X rom K cX8_adds 6 1 34 ls (.ref a :: st) hp = (ab_fld hp a 1 1).bind (fun v => ab_X rom K cX8_adds 6 1 37 ls (v :: st) hp) := ax_getfield dX8_adds_34 kf_6_89 rfl
theorem dX8_adds_37 : decode cX8_adds 37 = .ok (.bipush 10, 2) := by decide +kernel
theorem sX8_adds_37 : ab_X rom K cX8_adds 6 1 37 ls st hp = ab_X rom K cX8_adds 6 1 39 ls (.int 10 :: st) hp := ax_bipush dX8_adds_37 (by decide) rfl
theorem dX8_adds_39 : decode cX8_adds 39 = .ok (.if_icmp .lt 6, 3) := by decide +kernel
theorem sX8_adds_39 : ab_X rom K cX8_adds 6 1 39 ls (.int y :: .int x :: st) hp = if x < y then ab_X rom K cX8_adds 6 1 45 ls st hp else ab_X rom K cX8_adds 6 1 42 ls st hp := ax_icmp_lt dX8_adds_39 (by decide) rfl
theorem dX8_adds_42 : decode cX8_adds 42 = .ok (.bipush (-5), 2) := by decide +kernel
theorem sX8_adds_42 : ab_X rom K cX8_adds 6 1 42 ls st hp = ab_X rom K cX8_adds 6 1 44 ls (.int (-5) :: st) hp := ax_bipush dX8_adds_42 (by decide) rfl
theorem dX8_adds_44 : decode cX8_adds 44 = .ok (.ireturn, 1) := by decide +kernel
theorem sX8_adds_44 : ab_X rom K cX8_adds 6 1 44 ls [.int x] hp = some (some (.int x), hp) := ax_iret dX8_adds_44 rfl
theorem dX8_adds_45 : decode cX8_adds 45 = .ok (.aload_n 0, 1) := by decide +kernel
theorem sX8_adds_45 : ab_X rom K cX8_adds 6 1 45 (.ref a :: ls) st hp = ab_X rom K cX8_adds 6 1 46 (.ref a :: ls) (.ref a :: st) hp := ax_aload_n dX8_adds_45 rfl rfl
theorem dX8_adds_46 : decode cX8_adds 46 = .ok (.getfield 42, 3) := by decide +kernel
theorem sX8_adds_46 : ab_X rom K cX8_adds 6 1 46 ls (.ref a :: st) hp = (ab_fld hp a 6 5).bind (fun v => ab_X rom K cX8_adds 6 1 49 ls (v :: st) hp) := ax_getfield dX8_adds_46 kf_6_42 rfl
theorem dX8_adds_49 : decode cX8_adds 49 = .ok (.iload_n 1, 1) := by decide +kernel
theorem sX8_adds_49 : ab_X rom K cX8_adds 6 1 49 (v0 :: .int x :: ls) st hp = ab_X rom K cX8_adds 6 1 50 (v0 :: .int x :: ls) (.int x :: st) hp := ax_iload_n dX8_adds_49 rfl rfl
theorem dX8_adds_50 : decode cX8_adds 50 = .ok (.aload 4, 2) := by decide +kernel
theorem sX8_adds_50 : ab_X rom K cX8_adds 6 1 50 (v0 :: v1 :: v2 :: v3 :: .ref a :: ls) st hp = ab_X rom K cX8_adds 6 1 52 (v0 :: v1 :: v2 :: v3 :: .ref a :: ls) (.ref a :: st) hp := ax_aload dX8_adds_50 rfl rfl
theorem dX8_adds_52 : decode cX8_adds 52 = .ok (.invokevirtual 137, 3) := by decide +kernel
theorem sX8_adds_52_0 : ab_X rom K cX8_adds 6 1 52 ls [w2, w1, .ref a] hp = if ab_iso hp a 2 = true then (K 37 (.ref a :: [w1, w2]) hp).bind (fun o => ab_X rom K cX8_adds 6 1 55 ls (o.1.toList ++ []) o.2) else none := ay_virtual (as := [w1, w2]) (st := []) dX8_adds_52 kc_6_137 rfl rfl (Nat.le_of_ble_eq_true rfl)
theorem sX8_adds_52_1 : ab_X rom K cX8_adds 6 1 52 ls [w2, w1, .ref a, v0] hp = if ab_iso hp a 2 = true then (K 37 (.ref a :: [w1, w2]) hp).bind (fun o => ab_X rom K cX8_adds 6 1 55 ls (o.1.toList ++ [v0]) o.2) else none := ay_virtual (as := [w1, w2]) (st := [v0]) dX8_adds_52 kc_6_137 rfl rfl (Nat.le_of_ble_eq_true rfl)
theorem sX8_adds_52_2 : ab_X rom K cX8_adds 6 1 52 ls [w2, w1, .ref a, v0, v1] hp = if ab_iso hp a 2 = true then (K 37 (.ref a :: [w1, w2]) hp).bind (fun o => ab_X rom K cX8_adds 6 1 55 ls (o.1.toList ++ [v0, v1]) o.2) else none := ay_virtual (as := [w1, w2]) (st := [v0, v1]) dX8_adds_52 kc_6_137 rfl rfl (Nat.le_of_ble_eq_true rfl)
theorem sX8_adds_52_3 : ab_X rom K cX8_adds 6 1 52 ls [w2, w1, .ref a, v0, v1, v2] hp = if ab_iso hp a 2 = true then (K 37 (.ref a :: [w1, w2]) hp).bind (fun o => ab_X rom K cX8_adds 6 1 55 ls (o.1.toList ++ [v0, v1, v2]) o.2) else none := ay_virtual (as := [w1, w2]) (st := [v0, v1, v2]) dX8_adds_52 kc_6_137 rfl rfl (Nat.le_of_ble_eq_true rfl)
theorem dX8_adds_55 : decode cX8_adds 55 = .ok (.aload 4, 2) := by decide +kernel
theorem sX8_adds_55 : ab_X rom K cX8_adds 6 1 55 (v0 :: v1 :: v2 :: v3 :: .ref a :: ls) st hp = ab_X rom K cX8_adds 6 1 57 (v0 :: v1 :: v2 :: v3 :: .ref a :: ls) (.ref a :: st) hp := ax_aload dX8_adds_55 rfl rfl
theorem dX8_adds_57 : decode cX8_adds 57 = .ok (.iload_n 2, 1) := by decide +kernel
theorem sX8_adds_57 : ab_X rom K cX8_adds 6 1 57 (v0 :: v1 :: .int x :: ls) st hp = ab_X rom K cX8_adds 6 1 58 (v0 :: v1 :: .int x :: ls) (.int x :: st) hp := ax_iload_n dX8_adds_57 rfl rfl
theorem dX8_adds_58 : decode cX8_adds 58 = .ok (.iload_n 3, 1) := by decide +kernel
theorem sX8_adds_58 : ab_X rom K cX8_adds 6 1 58 (v0 :: v1 :: v2 :: .int x :: ls) st hp = ab_X rom K cX8_adds 6 1 59 (v0 :: v1 :: v2 :: .int x :: ls) (.int x :: st) hp := ax_iload_n dX8_adds_58 rfl rfl
theorem dX8_adds_59 : decode cX8_adds 59 = .ok (.invokevirtual 141, 3) := by decide +kernel
theorem sX8_adds_59_0 : ab_X rom K cX8_adds 6 1 59 ls [w2, w1, .ref a] hp = if ab_iso hp a 1 = true then (K 22 (.ref a :: [w1, w2]) hp).bind (fun o => ab_X rom K cX8_adds 6 1 62 ls (o.1.toList ++ []) o.2) else none := ay_virtual (as := [w1, w2]) (st := []) dX8_adds_59 kc_6_141 rfl rfl (Nat.le_of_ble_eq_true rfl)
theorem sX8_adds_59_1 : ab_X rom K cX8_adds 6 1 59 ls [w2, w1, .ref a, v0] hp = if ab_iso hp a 1 = true then (K 22 (.ref a :: [w1, w2]) hp).bind (fun o => ab_X rom K cX8_adds 6 1 62 ls (o.1.toList ++ [v0]) o.2) else none := ay_virtual (as := [w1, w2]) (st := [v0]) dX8_adds_59 kc_6_141 rfl rfl (Nat.le_of_ble_eq_true rfl)
theorem sX8_adds_59_2 : ab_X rom K cX8_adds 6 1 59 ls [w2, w1, .ref a, v0, v1] hp = if ab_iso hp a 1 = true then (K 22 (.ref a :: [w1, w2]) hp).bind (fun o => ab_X rom K cX8_adds 6 1 62 ls (o.1.toList ++ [v0, v1]) o.2) else none := ay_virtual (as := [w1, w2]) (st := [v0, v1]) dX8_adds_59 kc_6_141 rfl rfl (Nat.le_of_ble_eq_true rfl)
theorem sX8_adds_59_3 : ab_X rom K cX8_adds 6 1 59 ls [w2, w1, .ref a, v0, v1, v2] hp = if ab_iso hp a 1 = true then (K 22 (.ref a :: [w1, w2]) hp).bind (fun o => ab_X rom K cX8_adds 6 1 62 ls (o.1.toList ++ [v0, v1, v2]) o.2) else none := ay_virtual (as := [w1, w2]) (st := [v0, v1, v2]) dX8_adds_59 kc_6_141 rfl rfl (Nat.le_of_ble_eq_true rfl)
theorem dX8_adds_62 : decode cX8_adds 62 = .ok (.aload 4, 2) := by decide +kernel
theorem sX8_adds_62 : ab_X rom K cX8_adds 6 1 62 (v0 :: v1 :: v2 :: v3 :: .ref a :: ls) st hp = ab_X rom K cX8_adds 6 1 64 (v0 :: v1 :: v2 :: v3 :: .ref a :: ls) (.ref a :: st) hp := ax_aload dX8_adds_62 rfl rfl
theorem dX8_adds_64 : decode cX8_adds 64 = .ok (.getfield 89, 3) := by decide +kernel
theorem sX8_adds_64 : ab_X rom K cX8_adds 6 1 64 ls (.ref a :: st) hp = (ab_fld hp a 1 1).bind (fun v => ab_X rom K cX8_adds 6 1 67 ls (v :: st) hp) := ax_getfield dX8_adds_64 kf_6_89 rfl
theorem dX8_adds_67 : decode cX8_adds 67 = .ok (.ireturn, 1) := by decide +kernel
theorem sX8_adds_67 : ab_X rom K cX8_adds 6 1 67 ls [.int x] hp = some (some (.int x), hp) := ax_iret dX8_adds_67 rfl
theorem tX8_bars : ab_mT[81]? = some (yX8_bars, cX8_bars, 3, 1, 6) := by decide +kernel
theorem mX8_bars {d : Nat} {a0 : Nat} {x0 : Int32} {x1 : Int32} : ab_M rom (d + 1) 81 [.ref a0, .int x0, .int x1] hp = ab_X rom (ab_M rom d) cX8_bars 6 1 0 [.ref a0, .int x0, .int x1] [] hp := ab_M_eq tX8_bars (Nat.le_of_ble_eq_true rfl)
theorem dX8_bars_0 : decode cX8_bars 0 = .ok (.aload_n 0, 1) := by decide +kernel
theorem sX8_bars_0 : ab_X rom K cX8_bars 6 1 0 (.ref a :: ls) st hp = ab_X rom K cX8_bars 6 1 1 (.ref a :: ls) (.ref a :: st) hp := ax_aload_n dX8_bars_0 rfl rfl
theorem dX8_bars_1 : decode cX8_bars 1 = .ok (.iload_n 1, 1) := by decide +kernel
theorem sX8_bars_1 : ab_X rom K cX8_bars 6 1 1 (v0 :: .int x :: ls) st hp = ab_X rom K cX8_bars 6 1 2 (v0 :: .int x :: ls) (.int x :: st) hp := ax_iload_n dX8_bars_1 rfl rfl
theorem dX8_bars_2 : decode cX8_bars 2 = .ok (.invokevirtual 99, 3) := by decide +kernel
theorem sX8_bars_2_0 : ab_X rom K cX8_bars 6 1 2 ls [w1, .ref a] hp = if ab_iso hp a 6 = true then (K 95 (.ref a :: [w1]) hp).bind (fun o => ab_X rom K cX8_bars 6 1 5 ls (o.1.toList ++ []) o.2) else none := ay_virtual (as := [w1]) (st := []) dX8_bars_2 kc_6_99 rfl rfl (Nat.le_of_ble_eq_true rfl)
theorem sX8_bars_2_1 : ab_X rom K cX8_bars 6 1 2 ls [w1, .ref a, v0] hp = if ab_iso hp a 6 = true then (K 95 (.ref a :: [w1]) hp).bind (fun o => ab_X rom K cX8_bars 6 1 5 ls (o.1.toList ++ [v0]) o.2) else none := ay_virtual (as := [w1]) (st := [v0]) dX8_bars_2 kc_6_99 rfl rfl (Nat.le_of_ble_eq_true rfl)
theorem sX8_bars_2_2 : ab_X rom K cX8_bars 6 1 2 ls [w1, .ref a, v0, v1] hp = if ab_iso hp a 6 = true then (K 95 (.ref a :: [w1]) hp).bind (fun o => ab_X rom K cX8_bars 6 1 5 ls (o.1.toList ++ [v0, v1]) o.2) else none := ay_virtual (as := [w1]) (st := [v0, v1]) dX8_bars_2 kc_6_99 rfl rfl (Nat.le_of_ble_eq_true rfl)
theorem sX8_bars_2_3 : ab_X rom K cX8_bars 6 1 2 ls [w1, .ref a, v0, v1, v2] hp = if ab_iso hp a 6 = true then (K 95 (.ref a :: [w1]) hp).bind (fun o => ab_X rom K cX8_bars 6 1 5 ls (o.1.toList ++ [v0, v1, v2]) o.2) else none := ay_virtual (as := [w1]) (st := [v0, v1, v2]) dX8_bars_2 kc_6_99 rfl rfl (Nat.le_of_ble_eq_true rfl)
theorem dX8_bars_5 : decode cX8_bars 5 = .ok (.ifCond .eq 10, 3) := by decide +kernel
theorem sX8_bars_5 : ab_X rom K cX8_bars 6 1 5 ls (.int x :: st) hp = if x = 0 then ab_X rom K cX8_bars 6 1 15 ls st hp else ab_X rom K cX8_bars 6 1 8 ls st hp := ax_if_eq dX8_bars_5 (by decide) rfl
theorem dX8_bars_8 : decode cX8_bars 8 = .ok (.iload_n 2, 1) := by decide +kernel
theorem sX8_bars_8 : ab_X rom K cX8_bars 6 1 8 (v0 :: v1 :: .int x :: ls) st hp = ab_X rom K cX8_bars 6 1 9 (v0 :: v1 :: .int x :: ls) (.int x :: st) hp := ax_iload_n dX8_bars_8 rfl rfl
theorem dX8_bars_9 : decode cX8_bars 9 = .ok (.invokestatic 174, 3) := by decide +kernel
theorem sX8_bars_9_0 : ab_X rom K cX8_bars 6 1 9 ls [w1] hp = (K 100 [w1] hp).bind (fun o => ab_X rom K cX8_bars 6 1 12 ls (o.1.toList ++ []) o.2) := ax_static (as := [w1]) (st := []) dX8_bars_9 kc_6_174 rfl rfl (Nat.le_of_ble_eq_true rfl)
theorem sX8_bars_9_1 : ab_X rom K cX8_bars 6 1 9 ls [w1, v0] hp = (K 100 [w1] hp).bind (fun o => ab_X rom K cX8_bars 6 1 12 ls (o.1.toList ++ [v0]) o.2) := ax_static (as := [w1]) (st := [v0]) dX8_bars_9 kc_6_174 rfl rfl (Nat.le_of_ble_eq_true rfl)
theorem sX8_bars_9_2 : ab_X rom K cX8_bars 6 1 9 ls [w1, v0, v1] hp = (K 100 [w1] hp).bind (fun o => ab_X rom K cX8_bars 6 1 12 ls (o.1.toList ++ [v0, v1]) o.2) := ax_static (as := [w1]) (st := [v0, v1]) dX8_bars_9 kc_6_174 rfl rfl (Nat.le_of_ble_eq_true rfl)
theorem sX8_bars_9_3 : ab_X rom K cX8_bars 6 1 9 ls [w1, v0, v1, v2] hp = (K 100 [w1] hp).bind (fun o => ab_X rom K cX8_bars 6 1 12 ls (o.1.toList ++ [v0, v1, v2]) o.2) := ax_static (as := [w1]) (st := [v0, v1, v2]) dX8_bars_9 kc_6_174 rfl rfl (Nat.le_of_ble_eq_true rfl)
theorem dX8_bars_12 : decode cX8_bars 12 = .ok (.ifCond .ne 6, 3) := by decide +kernel
theorem sX8_bars_12 : ab_X rom K cX8_bars 6 1 12 ls (.int x :: st) hp = if x = 0 then ab_X rom K cX8_bars 6 1 15 ls st hp else ab_X rom K cX8_bars 6 1 18 ls st hp := ax_if_ne dX8_bars_12 (by decide) rfl
theorem dX8_bars_15 : decode cX8_bars 15 = .ok (.bipush (-2), 2) := by decide +kernel
theorem sX8_bars_15 : ab_X rom K cX8_bars 6 1 15 ls st hp = ab_X rom K cX8_bars 6 1 17 ls (.int (-2) :: st) hp := ax_bipush dX8_bars_15 (by decide) rfl
theorem dX8_bars_17 : decode cX8_bars 17 = .ok (.ireturn, 1) := by decide +kernel
theorem sX8_bars_17 : ab_X rom K cX8_bars 6 1 17 ls [.int x] hp = some (some (.int x), hp) := ax_iret dX8_bars_17 rfl
theorem dX8_bars_18 : decode cX8_bars 18 = .ok (.aload_n 0, 1) := by decide +kernel
theorem sX8_bars_18 : ab_X rom K cX8_bars 6 1 18 (.ref a :: ls) st hp = ab_X rom K cX8_bars 6 1 19 (.ref a :: ls) (.ref a :: st) hp := ax_aload_n dX8_bars_18 rfl rfl
theorem dX8_bars_19 : decode cX8_bars 19 = .ok (.getfield 21, 3) := by decide +kernel
theorem sX8_bars_19 : ab_X rom K cX8_bars 6 1 19 ls (.ref a :: st) hp = (ab_fld hp a 6 3).bind (fun v => ab_X rom K cX8_bars 6 1 22 ls (v :: st) hp) := ax_getfield dX8_bars_19 kf_6_21 rfl
theorem dX8_bars_22 : decode cX8_bars 22 = .ok (.iload_n 1, 1) := by decide +kernel
theorem sX8_bars_22 : ab_X rom K cX8_bars 6 1 22 (v0 :: .int x :: ls) st hp = ab_X rom K cX8_bars 6 1 23 (v0 :: .int x :: ls) (.int x :: st) hp := ax_iload_n dX8_bars_22 rfl rfl
theorem dX8_bars_23 : decode cX8_bars 23 = .ok (.aaload, 1) := by decide +kernel
theorem sX8_bars_23 : ab_X rom K cX8_bars 6 1 23 ls (.int x :: .ref a :: st) hp = (ab_rrd hp a x).bind (fun v => ab_X rom K cX8_bars 6 1 24 ls (.ref v :: st) hp) := ax_aaload dX8_bars_23 rfl
theorem dX8_bars_24 : decode cX8_bars 24 = .ok (.iload_n 2, 1) := by decide +kernel
theorem sX8_bars_24 : ab_X rom K cX8_bars 6 1 24 (v0 :: v1 :: .int x :: ls) st hp = ab_X rom K cX8_bars 6 1 25 (v0 :: v1 :: .int x :: ls) (.int x :: st) hp := ax_iload_n dX8_bars_24 rfl rfl
theorem dX8_bars_25 : decode cX8_bars 25 = .ok (.invokestatic 235, 3) := by decide +kernel
theorem sX8_bars_25_0 : ab_X rom K cX8_bars 6 1 25 ls [w2, w1] hp = (K 248 [w1, w2] hp).bind (fun o => ab_X rom K cX8_bars 6 1 28 ls (o.1.toList ++ []) o.2) := ax_static (as := [w1, w2]) (st := []) dX8_bars_25 kc_6_235 rfl rfl (Nat.le_of_ble_eq_true rfl)
theorem sX8_bars_25_1 : ab_X rom K cX8_bars 6 1 25 ls [w2, w1, v0] hp = (K 248 [w1, w2] hp).bind (fun o => ab_X rom K cX8_bars 6 1 28 ls (o.1.toList ++ [v0]) o.2) := ax_static (as := [w1, w2]) (st := [v0]) dX8_bars_25 kc_6_235 rfl rfl (Nat.le_of_ble_eq_true rfl)
theorem sX8_bars_25_2 : ab_X rom K cX8_bars 6 1 25 ls [w2, w1, v0, v1] hp = (K 248 [w1, w2] hp).bind (fun o => ab_X rom K cX8_bars 6 1 28 ls (o.1.toList ++ [v0, v1]) o.2) := ax_static (as := [w1, w2]) (st := [v0, v1]) dX8_bars_25 kc_6_235 rfl rfl (Nat.le_of_ble_eq_true rfl)
theorem sX8_bars_25_3 : ab_X rom K cX8_bars 6 1 25 ls [w2, w1, v0, v1, v2] hp = (K 248 [w1, w2] hp).bind (fun o => ab_X rom K cX8_bars 6 1 28 ls (o.1.toList ++ [v0, v1, v2]) o.2) := ax_static (as := [w1, w2]) (st := [v0, v1, v2]) dX8_bars_25 kc_6_235 rfl rfl (Nat.le_of_ble_eq_true rfl)
theorem dX8_bars_28 : decode cX8_bars 28 = .ok (.ifCond .eq 7, 3) := by decide +kernel
theorem sX8_bars_28 : ab_X rom K cX8_bars 6 1 28 ls (.int x :: st) hp = if x = 0 then ab_X rom K cX8_bars 6 1 35 ls st hp else ab_X rom K cX8_bars 6 1 31 ls st hp := ax_if_eq dX8_bars_28 (by decide) rfl
theorem dX8_bars_31 : decode cX8_bars 31 = .ok (.iconst 1, 1) := by decide +kernel
theorem sX8_bars_31 : ab_X rom K cX8_bars 6 1 31 ls st hp = ab_X rom K cX8_bars 6 1 32 ls (.int 1 :: st) hp := ax_iconst dX8_bars_31 (by decide) rfl
theorem dX8_bars_32 : decode cX8_bars 32 = .ok (.goto 4, 3) := by decide +kernel
theorem sX8_bars_32 : ab_X rom K cX8_bars 6 1 32 ls st hp = ab_X rom K cX8_bars 6 1 36 ls st hp := ax_goto dX8_bars_32 (by decide)
theorem dX8_bars_35 : decode cX8_bars 35 = .ok (.iconst 0, 1) := by decide +kernel
theorem sX8_bars_35 : ab_X rom K cX8_bars 6 1 35 ls st hp = ab_X rom K cX8_bars 6 1 36 ls (.int 0 :: st) hp := ax_iconst dX8_bars_35 (by decide) rfl
theorem dX8_bars_36 : decode cX8_bars 36 = .ok (.ireturn, 1) := by decide +kernel
theorem sX8_bars_36 : ab_X rom K cX8_bars 6 1 36 ls [.int x] hp = some (some (.int x), hp) := ax_iret dX8_bars_36 rfl
theorem tX8_could : ab_mT[82]? = some (yX8_could, cX8_could, 4, 1, 6) := by decide +kernel
theorem mX8_could {d : Nat} {a0 : Nat} {x0 : Int32} {x1 : Int32} {x2 : Int32} : ab_M rom (d + 1) 82 [.ref a0, .int x0, .int x1, .int x2] hp = ab_X rom (ab_M rom d) cX8_could 6 1 0 [.ref a0, .int x0, .int x1, .int x2] [] hp := ab_M_eq tX8_could (Nat.le_of_ble_eq_true rfl)
theorem dX8_could_0 : decode cX8_could 0 = .ok (.aload_n 0, 1) := by decide +kernel
theorem sX8_could_0 : ab_X rom K cX8_could 6 1 0 (.ref a :: ls) st hp = ab_X rom K cX8_could 6 1 1 (.ref a :: ls) (.ref a :: st) hp := ax_aload_n dX8_could_0 rfl rfl
theorem dX8_could_1 : decode cX8_could 1 = .ok (.iload_n 1, 1) := by decide +kernel
theorem sX8_could_1 : ab_X rom K cX8_could 6 1 1 (v0 :: .int x :: ls) st hp = ab_X rom K cX8_could 6 1 2 (v0 :: .int x :: ls) (.int x :: st) hp := ax_iload_n dX8_could_1 rfl rfl
theorem dX8_could_2 : decode cX8_could 2 = .ok (.iload_n 3, 1) := by decide +kernel
theorem sX8_could_2 : ab_X rom K cX8_could 6 1 2 (v0 :: v1 :: v2 :: .int x :: ls) st hp = ab_X rom K cX8_could 6 1 3 (v0 :: v1 :: v2 :: .int x :: ls) (.int x :: st) hp := ax_iload_n dX8_could_2 rfl rfl
theorem dX8_could_3 : decode cX8_could 3 = .ok (.invokevirtual 148, 3) := by decide +kernel
theorem sX8_could_3_0 : ab_X rom K cX8_could 6 1 3 ls [w2, w1, .ref a] hp = if ab_iso hp a 6 = true then (K 96 (.ref a :: [w1, w2]) hp).bind (fun o => ab_X rom K cX8_could 6 1 6 ls (o.1.toList ++ []) o.2) else none := ay_virtual (as := [w1, w2]) (st := []) dX8_could_3 kc_6_148 rfl rfl (Nat.le_of_ble_eq_true rfl)
theorem sX8_could_3_1 : ab_X rom K cX8_could 6 1 3 ls [w2, w1, .ref a, v0] hp = if ab_iso hp a 6 = true then (K 96 (.ref a :: [w1, w2]) hp).bind (fun o => ab_X rom K cX8_could 6 1 6 ls (o.1.toList ++ [v0]) o.2) else none := ay_virtual (as := [w1, w2]) (st := [v0]) dX8_could_3 kc_6_148 rfl rfl (Nat.le_of_ble_eq_true rfl)
theorem sX8_could_3_2 : ab_X rom K cX8_could 6 1 3 ls [w2, w1, .ref a, v0, v1] hp = if ab_iso hp a 6 = true then (K 96 (.ref a :: [w1, w2]) hp).bind (fun o => ab_X rom K cX8_could 6 1 6 ls (o.1.toList ++ [v0, v1]) o.2) else none := ay_virtual (as := [w1, w2]) (st := [v0, v1]) dX8_could_3 kc_6_148 rfl rfl (Nat.le_of_ble_eq_true rfl)
theorem sX8_could_3_3 : ab_X rom K cX8_could 6 1 3 ls [w2, w1, .ref a, v0, v1, v2] hp = if ab_iso hp a 6 = true then (K 96 (.ref a :: [w1, w2]) hp).bind (fun o => ab_X rom K cX8_could 6 1 6 ls (o.1.toList ++ [v0, v1, v2]) o.2) else none := ay_virtual (as := [w1, w2]) (st := [v0, v1, v2]) dX8_could_3 kc_6_148 rfl rfl (Nat.le_of_ble_eq_true rfl)
theorem dX8_could_6 : decode cX8_could 6 = .ok (.ifCond .eq 10, 3) := by decide +kernel
theorem sX8_could_6 : ab_X rom K cX8_could 6 1 6 ls (.int x :: st) hp = if x = 0 then ab_X rom K cX8_could 6 1 16 ls st hp else ab_X rom K cX8_could 6 1 9 ls st hp := ax_if_eq dX8_could_6 (by decide) rfl
theorem dX8_could_9 : decode cX8_could 9 = .ok (.iload_n 2, 1) := by decide +kernel
theorem sX8_could_9 : ab_X rom K cX8_could 6 1 9 (v0 :: v1 :: .int x :: ls) st hp = ab_X rom K cX8_could 6 1 10 (v0 :: v1 :: .int x :: ls) (.int x :: st) hp := ax_iload_n dX8_could_9 rfl rfl
theorem dX8_could_10 : decode cX8_could 10 = .ok (.invokestatic 174, 3) := by decide +kernel
theorem sX8_could_10_0 : ab_X rom K cX8_could 6 1 10 ls [w1] hp = (K 100 [w1] hp).bind (fun o => ab_X rom K cX8_could 6 1 13 ls (o.1.toList ++ []) o.2) := ax_static (as := [w1]) (st := []) dX8_could_10 kc_6_174 rfl rfl (Nat.le_of_ble_eq_true rfl)
theorem sX8_could_10_1 : ab_X rom K cX8_could 6 1 10 ls [w1, v0] hp = (K 100 [w1] hp).bind (fun o => ab_X rom K cX8_could 6 1 13 ls (o.1.toList ++ [v0]) o.2) := ax_static (as := [w1]) (st := [v0]) dX8_could_10 kc_6_174 rfl rfl (Nat.le_of_ble_eq_true rfl)
theorem sX8_could_10_2 : ab_X rom K cX8_could 6 1 10 ls [w1, v0, v1] hp = (K 100 [w1] hp).bind (fun o => ab_X rom K cX8_could 6 1 13 ls (o.1.toList ++ [v0, v1]) o.2) := ax_static (as := [w1]) (st := [v0, v1]) dX8_could_10 kc_6_174 rfl rfl (Nat.le_of_ble_eq_true rfl)
theorem sX8_could_10_3 : ab_X rom K cX8_could 6 1 10 ls [w1, v0, v1, v2] hp = (K 100 [w1] hp).bind (fun o => ab_X rom K cX8_could 6 1 13 ls (o.1.toList ++ [v0, v1, v2]) o.2) := ax_static (as := [w1]) (st := [v0, v1, v2]) dX8_could_10 kc_6_174 rfl rfl (Nat.le_of_ble_eq_true rfl)
theorem dX8_could_13 : decode cX8_could 13 = .ok (.ifCond .ne 6, 3) := by decide +kernel
theorem sX8_could_13 : ab_X rom K cX8_could 6 1 13 ls (.int x :: st) hp = if x = 0 then ab_X rom K cX8_could 6 1 16 ls st hp else ab_X rom K cX8_could 6 1 19 ls st hp := ax_if_ne dX8_could_13 (by decide) rfl
theorem dX8_could_16 : decode cX8_could 16 = .ok (.bipush (-2), 2) := by decide +kernel
theorem sX8_could_16 : ab_X rom K cX8_could 6 1 16 ls st hp = ab_X rom K cX8_could 6 1 18 ls (.int (-2) :: st) hp := ax_bipush dX8_could_16 (by decide) rfl
theorem dX8_could_18 : decode cX8_could 18 = .ok (.ireturn, 1) := by decide +kernel
theorem sX8_could_18 : ab_X rom K cX8_could 6 1 18 ls [.int x] hp = some (some (.int x), hp) := ax_iret dX8_could_18 rfl
theorem dX8_could_19 : decode cX8_could 19 = .ok (.aload_n 0, 1) := by decide +kernel
theorem sX8_could_19 : ab_X rom K cX8_could 6 1 19 (.ref a :: ls) st hp = ab_X rom K cX8_could 6 1 20 (.ref a :: ls) (.ref a :: st) hp := ax_aload_n dX8_could_19 rfl rfl
theorem dX8_could_20 : decode cX8_could 20 = .ok (.aload_n 0, 1) := by decide +kernel
theorem sX8_could_20 : ab_X rom K cX8_could 6 1 20 (.ref a :: ls) st hp = ab_X rom K cX8_could 6 1 21 (.ref a :: ls) (.ref a :: st) hp := ax_aload_n dX8_could_20 rfl rfl
theorem dX8_could_21 : decode cX8_could 21 = .ok (.getfield 21, 3) := by decide +kernel
theorem sX8_could_21 : ab_X rom K cX8_could 6 1 21 ls (.ref a :: st) hp = (ab_fld hp a 6 3).bind (fun v => ab_X rom K cX8_could 6 1 24 ls (v :: st) hp) := ax_getfield dX8_could_21 kf_6_21 rfl
theorem dX8_could_24 : decode cX8_could 24 = .ok (.iload_n 1, 1) := by decide +kernel
theorem sX8_could_24 : ab_X rom K cX8_could 6 1 24 (v0 :: .int x :: ls) st hp = ab_X rom K cX8_could 6 1 25 (v0 :: .int x :: ls) (.int x :: st) hp := ax_iload_n dX8_could_24 rfl rfl
theorem dX8_could_25 : decode cX8_could 25 = .ok (.aaload, 1) := by decide +kernel
theorem sX8_could_25 : ab_X rom K cX8_could 6 1 25 ls (.int x :: .ref a :: st) hp = (ab_rrd hp a x).bind (fun v => ab_X rom K cX8_could 6 1 26 ls (.ref v :: st) hp) := ax_aaload dX8_could_25 rfl
theorem dX8_could_26 : decode cX8_could 26 = .ok (.iload_n 2, 1) := by decide +kernel
theorem sX8_could_26 : ab_X rom K cX8_could 6 1 26 (v0 :: v1 :: .int x :: ls) st hp = ab_X rom K cX8_could 6 1 27 (v0 :: v1 :: .int x :: ls) (.int x :: st) hp := ax_iload_n dX8_could_26 rfl rfl
theorem dX8_could_27 : decode cX8_could 27 = .ok (.invokevirtual 183, 3) := by decide +kernel
theorem sX8_could_27_0 : ab_X rom K cX8_could 6 1 27 ls [w2, w1, .ref a] hp = if ab_iso hp a 6 = true then (K 84 (.ref a :: [w1, w2]) hp).bind (fun o => ab_X rom K cX8_could 6 1 30 ls (o.1.toList ++ []) o.2) else none := ay_virtual (as := [w1, w2]) (st := []) dX8_could_27 kc_6_183 rfl rfl (Nat.le_of_ble_eq_true rfl)
theorem sX8_could_27_1 : ab_X rom K cX8_could 6 1 27 ls [w2, w1, .ref a, v0] hp = if ab_iso hp a 6 = true then (K 84 (.ref a :: [w1, w2]) hp).bind (fun o => ab_X rom K cX8_could 6 1 30 ls (o.1.toList ++ [v0]) o.2) else none := ay_virtual (as := [w1, w2]) (st := [v0]) dX8_could_27 kc_6_183 rfl rfl (Nat.le_of_ble_eq_true rfl)
theorem sX8_could_27_2 : ab_X rom K cX8_could 6 1 27 ls [w2, w1, .ref a, v0, v1] hp = if ab_iso hp a 6 = true then (K 84 (.ref a :: [w1, w2]) hp).bind (fun o => ab_X rom K cX8_could 6 1 30 ls (o.1.toList ++ [v0, v1]) o.2) else none := ay_virtual (as := [w1, w2]) (st := [v0, v1]) dX8_could_27 kc_6_183 rfl rfl (Nat.le_of_ble_eq_true rfl)
theorem sX8_could_27_3 : ab_X rom K cX8_could 6 1 27 ls [w2, w1, .ref a, v0, v1, v2] hp = if ab_iso hp a 6 = true then (K 84 (.ref a :: [w1, w2]) hp).bind (fun o => ab_X rom K cX8_could 6 1 30 ls (o.1.toList ++ [v0, v1, v2]) o.2) else none := ay_virtual (as := [w1, w2]) (st := [v0, v1, v2]) dX8_could_27 kc_6_183 rfl rfl (Nat.le_of_ble_eq_true rfl)
theorem dX8_could_30 : decode cX8_could 30 = .ok (.aload_n 0, 1) := by decide +kernel
theorem sX8_could_30 : ab_X rom K cX8_could 6 1 30 (.ref a :: ls) st hp = ab_X rom K cX8_could 6 1 31 (.ref a :: ls) (.ref a :: st) hp := ax_aload_n dX8_could_30 rfl rfl
theorem dX8_could_31 : decode cX8_could 31 = .ok (.getfield 51, 3) := by decide +kernel
theorem sX8_could_31 : ab_X rom K cX8_could 6 1 31 ls (.ref a :: st) hp = (ab_fld hp a 6 6).bind (fun v => ab_X rom K cX8_could 6 1 34 ls (v :: st) hp) := ax_getfield dX8_could_31 kf_6_51 rfl
theorem dX8_could_34 : decode cX8_could 34 = .ok (.getfield 187, 3) := by decide +kernel
theorem sX8_could_34 : ab_X rom K cX8_could 6 1 34 ls (.ref a :: st) hp = (ab_fld hp a 4 0).bind (fun v => ab_X rom K cX8_could 6 1 37 ls (v :: st) hp) := ax_getfield dX8_could_34 kf_6_187 rfl
theorem dX8_could_37 : decode cX8_could 37 = .ok (.getfield 204, 3) := by decide +kernel
theorem sX8_could_37 : ab_X rom K cX8_could 6 1 37 ls (.ref a :: st) hp = (ab_fld hp a 0 1).bind (fun v => ab_X rom K cX8_could 6 1 40 ls (v :: st) hp) := ax_getfield dX8_could_37 kf_6_204 rfl
theorem dX8_could_40 : decode cX8_could 40 = .ok (.iload_n 3, 1) := by decide +kernel
theorem sX8_could_40 : ab_X rom K cX8_could 6 1 40 (v0 :: v1 :: v2 :: .int x :: ls) st hp = ab_X rom K cX8_could 6 1 41 (v0 :: v1 :: v2 :: .int x :: ls) (.int x :: st) hp := ax_iload_n dX8_could_40 rfl rfl
theorem dX8_could_41 : decode cX8_could 41 = .ok (.iaload, 1) := by decide +kernel
theorem sX8_could_41 : ab_X rom K cX8_could 6 1 41 ls (.int x :: .ref a :: st) hp = (ab_ard rom 0 hp a x).bind (fun v => ab_X rom K cX8_could 6 1 42 ls (.int v :: st) hp) := ax_iaload dX8_could_41 rfl
theorem dX8_could_42 : decode cX8_could 42 = .ok (.ireturn, 1) := by decide +kernel
theorem sX8_could_42 : ab_X rom K cX8_could 6 1 42 ls [.int x] hp = some (some (.int x), hp) := ax_iret dX8_could_42 rfl
theorem tX8_count : ab_mT[83]? = some (yX8_count, cX8_count, 2, 1, 6) := by decide +kernel
theorem mX8_count {d : Nat} {a0 : Nat} {x0 : Int32} : ab_M rom (d + 1) 83 [.ref a0, .int x0] hp = ab_X rom (ab_M rom d) cX8_count 6 1 0 [.ref a0, .int x0] [] hp := ab_M_eq tX8_count (Nat.le_of_ble_eq_true rfl)
theorem dX8_count_0 : decode cX8_count 0 = .ok (.iload_n 1, 1) := by decide +kernel
theorem sX8_count_0 : ab_X rom K cX8_count 6 1 0 (v0 :: .int x :: ls) st hp = ab_X rom K cX8_count 6 1 1 (v0 :: .int x :: ls) (.int x :: st) hp := ax_iload_n dX8_count_0 rfl rfl
theorem dX8_count_1 : decode cX8_count 1 = .ok (.tableswitch 60 0 3 #[31, 36, 44, 52], 31) := by decide +kernel
theorem sX8_count_1_d (h : x.toInt < 0 ∨ 3 < x.toInt) : ab_X rom K cX8_count 6 1 1 ls (.int x :: st) hp = ab_X rom K cX8_count 6 1 61 ls st hp := ax_tsw_out dX8_count_1 (by decide) h
theorem sX8_count_1_0 : ab_X rom K cX8_count 6 1 1 ls (.int 0 :: st) hp = ab_X rom K cX8_count 6 1 32 ls st hp := ax_tsw_in (off := 31) dX8_count_1 (by decide) (by decide) (by decide)
theorem sX8_count_1_1 : ab_X rom K cX8_count 6 1 1 ls (.int 1 :: st) hp = ab_X rom K cX8_count 6 1 37 ls st hp := ax_tsw_in (off := 36) dX8_count_1 (by decide) (by decide) (by decide)
theorem sX8_count_1_2 : ab_X rom K cX8_count 6 1 1 ls (.int 2 :: st) hp = ab_X rom K cX8_count 6 1 45 ls st hp := ax_tsw_in (off := 44) dX8_count_1 (by decide) (by decide) (by decide)
theorem sX8_count_1_3 : ab_X rom K cX8_count 6 1 1 ls (.int 3 :: st) hp = ab_X rom K cX8_count 6 1 53 ls st hp := ax_tsw_in (off := 52) dX8_count_1 (by decide) (by decide) (by decide)
theorem dX8_count_32 : decode cX8_count 32 = .ok (.aload_n 0, 1) := by decide +kernel
theorem sX8_count_32 : ab_X rom K cX8_count 6 1 32 (.ref a :: ls) st hp = ab_X rom K cX8_count 6 1 33 (.ref a :: ls) (.ref a :: st) hp := ax_aload_n dX8_count_32 rfl rfl
theorem dX8_count_33 : decode cX8_count 33 = .ok (.invokevirtual 92, 3) := by decide +kernel
theorem sX8_count_33_0 : ab_X rom K cX8_count 6 1 33 ls [.ref a] hp = if ab_iso hp a 6 = true then (K 93 (.ref a :: []) hp).bind (fun o => ab_X rom K cX8_count 6 1 36 ls (o.1.toList ++ []) o.2) else none := ay_virtual (as := []) (st := []) dX8_count_33 kc_6_92 rfl rfl (Nat.le_of_ble_eq_true rfl)
theorem sX8_count_33_1 : ab_X rom K cX8_count 6 1 33 ls [.ref a, v0] hp = if ab_iso hp a 6 = true then (K 93 (.ref a :: []) hp).bind (fun o => ab_X rom K cX8_count 6 1 36 ls (o.1.toList ++ [v0]) o.2) else none := ay_virtual (as := []) (st := [v0]) dX8_count_33 kc_6_92 rfl rfl (Nat.le_of_ble_eq_true rfl)
theorem sX8_count_33_2 : ab_X rom K cX8_count 6 1 33 ls [.ref a, v0, v1] hp = if ab_iso hp a 6 = true then (K 93 (.ref a :: []) hp).bind (fun o => ab_X rom K cX8_count 6 1 36 ls (o.1.toList ++ [v0, v1]) o.2) else none := ay_virtual (as := []) (st := [v0, v1]) dX8_count_33 kc_6_92 rfl rfl (Nat.le_of_ble_eq_true rfl)
theorem sX8_count_33_3 : ab_X rom K cX8_count 6 1 33 ls [.ref a, v0, v1, v2] hp = if ab_iso hp a 6 = true then (K 93 (.ref a :: []) hp).bind (fun o => ab_X rom K cX8_count 6 1 36 ls (o.1.toList ++ [v0, v1, v2]) o.2) else none := ay_virtual (as := []) (st := [v0, v1, v2]) dX8_count_33 kc_6_92 rfl rfl (Nat.le_of_ble_eq_true rfl)
theorem dX8_count_36 : decode cX8_count 36 = .ok (.ireturn, 1) := by decide +kernel
theorem sX8_count_36 : ab_X rom K cX8_count 6 1 36 ls [.int x] hp = some (some (.int x), hp) := ax_iret dX8_count_36 rfl
theorem dX8_count_37 : decode cX8_count 37 = .ok (.aload_n 0, 1) := by decide +kernel
theorem sX8_count_37 : ab_X rom K cX8_count 6 1 37 (.ref a :: ls) st hp = ab_X rom K cX8_count 6 1 38 (.ref a :: ls) (.ref a :: st) hp := ax_aload_n dX8_count_37 rfl rfl
theorem dX8_count_38 : decode cX8_count 38 = .ok (.getfield 42, 3) := by decide +kernel
theorem sX8_count_38 : ab_X rom K cX8_count 6 1 38 ls (.ref a :: st) hp = (ab_fld hp a 6 5).bind (fun v => ab_X rom K cX8_count 6 1 41 ls (v :: st) hp) := ax_getfield dX8_count_38 kf_6_42 rfl
theorem dX8_count_41 : decode cX8_count 41 = .ok (.getfield 96, 3) := by decide +kernel
theorem sX8_count_41 : ab_X rom K cX8_count 6 1 41 ls (.ref a :: st) hp = (ab_fld hp a 2 0).bind (fun v => ab_X rom K cX8_count 6 1 44 ls (v :: st) hp) := ax_getfield dX8_count_41 kf_6_96 rfl
theorem dX8_count_44 : decode cX8_count 44 = .ok (.ireturn, 1) := by decide +kernel
theorem sX8_count_44 : ab_X rom K cX8_count 6 1 44 ls [.int x] hp = some (some (.int x), hp) := ax_iret dX8_count_44 rfl
theorem dX8_count_45 : decode cX8_count 45 = .ok (.aload_n 0, 1) := by decide +kernel
theorem sX8_count_45 : ab_X rom K cX8_count 6 1 45 (.ref a :: ls) st hp = ab_X rom K cX8_count 6 1 46 (.ref a :: ls) (.ref a :: st) hp := ax_aload_n dX8_count_45 rfl rfl
theorem dX8_count_46 : decode cX8_count 46 = .ok (.getfield 10, 3) := by decide +kernel
theorem sX8_count_46 : ab_X rom K cX8_count 6 1 46 ls (.ref a :: st) hp = (ab_fld hp a 6 0).bind (fun v => ab_X rom K cX8_count 6 1 49 ls (v :: st) hp) := ax_getfield dX8_count_46 kf_6_10 rfl
theorem dX8_count_49 : decode cX8_count 49 = .ok (.getfield 69, 3) := by decide +kernel
theorem sX8_count_49 : ab_X rom K cX8_count 6 1 49 ls (.ref a :: st) hp = (ab_fld hp a 5 1).bind (fun v => ab_X rom K cX8_count 6 1 52 ls (v :: st) hp) := ax_getfield dX8_count_49 kf_6_69 rfl
theorem dX8_count_52 : decode cX8_count 52 = .ok (.ireturn, 1) := by decide +kernel
theorem sX8_count_52 : ab_X rom K cX8_count 6 1 52 ls [.int x] hp = some (some (.int x), hp) := ax_iret dX8_count_52 rfl
theorem dX8_count_53 : decode cX8_count 53 = .ok (.aload_n 0, 1) := by decide +kernel
theorem sX8_count_53 : ab_X rom K cX8_count 6 1 53 (.ref a :: ls) st hp = ab_X rom K cX8_count 6 1 54 (.ref a :: ls) (.ref a :: st) hp := ax_aload_n dX8_count_53 rfl rfl
theorem dX8_count_54 : decode cX8_count 54 = .ok (.getfield 16, 3) := by decide +kernel
theorem sX8_count_54 : ab_X rom K cX8_count 6 1 54 ls (.ref a :: st) hp = (ab_fld hp a 6 2).bind (fun v => ab_X rom K cX8_count 6 1 57 ls (v :: st) hp) := ax_getfield dX8_count_54 kf_6_16 rfl
theorem dX8_count_57 : decode cX8_count 57 = .ok (.getfield 69, 3) := by decide +kernel
theorem sX8_count_57 : ab_X rom K cX8_count 6 1 57 ls (.ref a :: st) hp = (ab_fld hp a 5 1).bind (fun v => ab_X rom K cX8_count 6 1 60 ls (v :: st) hp) := ax_getfield dX8_count_57 kf_6_69 rfl
theorem dX8_count_60 : decode cX8_count 60 = .ok (.ireturn, 1) := by decide +kernel
theorem sX8_count_60 : ab_X rom K cX8_count 6 1 60 ls [.int x] hp = some (some (.int x), hp) := ax_iret dX8_count_60 rfl
theorem dX8_count_61 : decode cX8_count 61 = .ok (.iconst (-1), 1) := by decide +kernel
theorem sX8_count_61 : ab_X rom K cX8_count 6 1 61 ls st hp = ab_X rom K cX8_count 6 1 62 ls (.int (-1) :: st) hp := ax_iconst dX8_count_61 (by decide) rfl
theorem dX8_count_62 : decode cX8_count 62 = .ok (.ireturn, 1) := by decide +kernel
theorem sX8_count_62 : ab_X rom K cX8_count 6 1 62 ls [.int x] hp = some (some (.int x), hp) := ax_iret dX8_count_62 rfl
theorem tX8_countCompletions : ab_mT[84]? = some (yX8_countCompletions, cX8_countCompletions, 3, 0, 6) := by decide +kernel
theorem mX8_countCompletions {d : Nat} {a0 : Nat} {r0 : Nat} {x1 : Int32} : ab_M rom (d + 1) 84 [.ref a0, .ref r0, .int x1] hp = ab_X rom (ab_M rom d) cX8_countCompletions 6 0 0 [.ref a0, .ref r0, .int x1] [] hp := ab_M_eq tX8_countCompletions (Nat.le_of_ble_eq_true rfl)
theorem dX8_countCompletions_0 : decode cX8_countCompletions 0 = .ok (.aload_n 0, 1) := by decide +kernel
theorem sX8_countCompletions_0 : ab_X rom K cX8_countCompletions 6 0 0 (.ref a :: ls) st hp = ab_X rom K cX8_countCompletions 6 0 1 (.ref a :: ls) (.ref a :: st) hp := ax_aload_n dX8_countCompletions_0 rfl rfl
theorem dX8_countCompletions_1 : decode cX8_countCompletions 1 = .ok (.getfield 51, 3) := by decide +kernel
theorem sX8_countCompletions_1 : ab_X rom K cX8_countCompletions 6 0 1 ls (.ref a :: st) hp = (ab_fld hp a 6 6).bind (fun v => ab_X rom K cX8_countCompletions 6 0 4 ls (v :: st) hp) := ax_getfield dX8_countCompletions_1 kf_6_51 rfl
theorem dX8_countCompletions_4 : decode cX8_countCompletions 4 = .ok (.getfield 187, 3) := by decide +kernel
theorem sX8_countCompletions_4 : ab_X rom K cX8_countCompletions 6 0 4 ls (.ref a :: st) hp = (ab_fld hp a 4 0).bind (fun v => ab_X rom K cX8_countCompletions 6 0 7 ls (v :: st) hp) := ax_getfield dX8_countCompletions_4 kf_6_187 rfl
theorem dX8_countCompletions_7 : decode cX8_countCompletions 7 = .ok (.invokevirtual 232, 3) := by decide +kernel
theorem sX8_countCompletions_7_0 : ab_X rom K cX8_countCompletions 6 0 7 ls [.ref a] hp = if ab_iso hp a 0 = true then (K 3 (.ref a :: []) hp).bind (fun o => ab_X rom K cX8_countCompletions 6 0 10 ls (o.1.toList ++ []) o.2) else none := ay_virtual (as := []) (st := []) dX8_countCompletions_7 kc_6_232 rfl rfl (Nat.le_of_ble_eq_true rfl)
theorem sX8_countCompletions_7_1 : ab_X rom K cX8_countCompletions 6 0 7 ls [.ref a, v0] hp = if ab_iso hp a 0 = true then (K 3 (.ref a :: []) hp).bind (fun o => ab_X rom K cX8_countCompletions 6 0 10 ls (o.1.toList ++ [v0]) o.2) else none := ay_virtual (as := []) (st := [v0]) dX8_countCompletions_7 kc_6_232 rfl rfl (Nat.le_of_ble_eq_true rfl)
theorem sX8_countCompletions_7_2 : ab_X rom K cX8_countCompletions 6 0 7 ls [.ref a, v0, v1] hp = if ab_iso hp a 0 = true then (K 3 (.ref a :: []) hp).bind (fun o => ab_X rom K cX8_countCompletions 6 0 10 ls (o.1.toList ++ [v0, v1]) o.2) else none := ay_virtual (as := []) (st := [v0, v1]) dX8_countCompletions_7 kc_6_232 rfl rfl (Nat.le_of_ble_eq_true rfl)
theorem sX8_countCompletions_7_3 : ab_X rom K cX8_countCompletions 6 0 7 ls [.ref a, v0, v1, v2] hp = if ab_iso hp a 0 = true then (K 3 (.ref a :: []) hp).bind (fun o => ab_X rom K cX8_countCompletions 6 0 10 ls (o.1.toList ++ [v0, v1, v2]) o.2) else none := ay_virtual (as := []) (st := [v0, v1, v2]) dX8_countCompletions_7 kc_6_232 rfl rfl (Nat.le_of_ble_eq_true rfl)
theorem dX8_countCompletions_10 : decode cX8_countCompletions 10 = .ok (.aload_n 0, 1) := by decide +kernel
theorem sX8_countCompletions_10 : ab_X rom K cX8_countCompletions 6 0 10 (.ref a :: ls) st hp = ab_X rom K cX8_countCompletions 6 0 11 (.ref a :: ls) (.ref a :: st) hp := ax_aload_n dX8_countCompletions_10 rfl rfl
theorem dX8_countCompletions_11 : decode cX8_countCompletions 11 = .ok (.getfield 51, 3) := by decide +kernel
theorem sX8_countCompletions_11 : ab_X rom K cX8_countCompletions 6 0 11 ls (.ref a :: st) hp = (ab_fld hp a 6 6).bind (fun v => ab_X rom K cX8_countCompletions 6 0 14 ls (v :: st) hp) := ax_getfield dX8_countCompletions_11 kf_6_51 rfl
theorem dX8_countCompletions_14 : decode cX8_countCompletions 14 = .ok (.aload_n 1, 1) := by decide +kernel
theorem sX8_countCompletions_14 : ab_X rom K cX8_countCompletions 6 0 14 (v0 :: .ref a :: ls) st hp = ab_X rom K cX8_countCompletions 6 0 15 (v0 :: .ref a :: ls) (.ref a :: st) hp := ax_aload_n dX8_countCompletions_14 rfl rfl
theorem dX8_countCompletions_15 : decode cX8_countCompletions 15 = .ok (.iload_n 2, 1) := by decide +kernel
theorem sX8_countCompletions_15 : ab_X rom K cX8_countCompletions 6 0 15 (v0 :: v1 :: .int x :: ls) st hp = ab_X rom K cX8_countCompletions 6 0 16 (v0 :: v1 :: .int x :: ls) (.int x :: st) hp := ax_iload_n dX8_countCompletions_15 rfl rfl
theorem dX8_countCompletions_16 : decode cX8_countCompletions 16 = .ok (.iconst 0, 1) := by decide +kernel
theorem sX8_countCompletions_16 : ab_X rom K cX8_countCompletions 6 0 16 ls st hp = ab_X rom K cX8_countCompletions 6 0 17 ls (.int 0 :: st) hp := ax_iconst dX8_countCompletions_16 (by decide) rfl
theorem dX8_countCompletions_17 : decode cX8_countCompletions 17 = .ok (.invokevirtual 225, 3) := by decide +kernel
theorem sX8_countCompletions_17_0 : ab_X rom K cX8_countCompletions 6 0 17 ls [w3, w2, w1, .ref a] hp = if ab_iso hp a 4 = true then (K 71 (.ref a :: [w1, w2, w3]) hp).bind (fun o => ab_X rom K cX8_countCompletions 6 0 20 ls (o.1.toList ++ []) o.2) else none := ay_virtual (as := [w1, w2, w3]) (st := []) dX8_countCompletions_17 kc_6_225 rfl rfl (Nat.le_of_ble_eq_true rfl)
theorem sX8_countCompletions_17_1 : ab_X rom K cX8_countCompletions 6 0 17 ls [w3, w2, w1, .ref a, v0] hp = if ab_iso hp a 4 = true then (K 71 (.ref a :: [w1, w2, w3]) hp).bind (fun o => ab_X rom K cX8_countCompletions 6 0 20 ls (o.1.toList ++ [v0]) o.2) else none := ay_virtual (as := [w1, w2, w3]) (st := [v0]) dX8_countCompletions_17 kc_6_225 rfl rfl (Nat.le_of_ble_eq_true rfl)
theorem sX8_countCompletions_17_2 : ab_X rom K cX8_countCompletions 6 0 17 ls [w3, w2, w1, .ref a, v0, v1] hp = if ab_iso hp a 4 = true then (K 71 (.ref a :: [w1, w2, w3]) hp).bind (fun o => ab_X rom K cX8_countCompletions 6 0 20 ls (o.1.toList ++ [v0, v1]) o.2) else none := ay_virtual (as := [w1, w2, w3]) (st := [v0, v1]) dX8_countCompletions_17 kc_6_225 rfl rfl (Nat.le_of_ble_eq_true rfl)
theorem sX8_countCompletions_17_3 : ab_X rom K cX8_countCompletions 6 0 17 ls [w3, w2, w1, .ref a, v0, v1, v2] hp = if ab_iso hp a 4 = true then (K 71 (.ref a :: [w1, w2, w3]) hp).bind (fun o => ab_X rom K cX8_countCompletions 6 0 20 ls (o.1.toList ++ [v0, v1, v2]) o.2) else none := ay_virtual (as := [w1, w2, w3]) (st := [v0, v1, v2]) dX8_countCompletions_17 kc_6_225 rfl rfl (Nat.le_of_ble_eq_true rfl)
theorem dX8_countCompletions_20 : decode cX8_countCompletions 20 = .ok (.return_, 1) := by decide +kernel
theorem sX8_countCompletions_20 : ab_X rom K cX8_countCompletions 6 0 20 ls [] hp = some (none, hp) := ax_vret dX8_countCompletions_20 (by decide)
theorem tX8_cuts : ab_mT[85]? = some (yX8_cuts, cX8_cuts, 6, 1, 6) := by decide +kernel
theorem mX8_cuts {d : Nat} {a0 : Nat} {x0 : Int32} {x1 : Int32} {x2 : Int32} : ab_M rom (d + 1) 85 [.ref a0, .int x0, .int x1, .int x2] hp = ab_X rom (ab_M rom d) cX8_cuts 6 1 0 [.ref a0, .int x0, .int x1, .int x2, .null, .null] [] hp := ab_M_eq tX8_cuts (Nat.le_of_ble_eq_true rfl)
theorem dX8_cuts_0 : decode cX8_cuts 0 = .ok (.aload_n 0, 1) := by decide +kernel
theorem sX8_cuts_0 : ab_X rom K cX8_cuts 6 1 0 (.ref a :: ls) st hp = ab_X rom K cX8_cuts 6 1 1 (.ref a :: ls) (.ref a :: st) hp := ax_aload_n dX8_cuts_0 rfl rfl
theorem dX8_cuts_1 : decode cX8_cuts 1 = .ok (.iload_n 1, 1) := by decide +kernel
theorem sX8_cuts_1 : ab_X rom K cX8_cuts 6 1 1 (v0 :: .int x :: ls) st hp = ab_X rom K cX8_cuts 6 1 2 (v0 :: .int x :: ls) (.int x :: st) hp := ax_iload_n dX8_cuts_1 rfl rfl
theorem dX8_cuts_2 : decode cX8_cuts 2 = .ok (.iload_n 2, 1) := by decide +kernel
theorem sX8_cuts_2 : ab_X rom K cX8_cuts 6 1 2 (v0 :: v1 :: .int x :: ls) st hp = ab_X rom K cX8_cuts 6 1 3 (v0 :: v1 :: .int x :: ls) (.int x :: st) hp := ax_iload_n dX8_cuts_2 rfl rfl
theorem dX8_cuts_3 : decode cX8_cuts 3 = .ok (.iload_n 3, 1) := by decide +kernel
theorem sX8_cuts_3 : ab_X rom K cX8_cuts 6 1 3 (v0 :: v1 :: v2 :: .int x :: ls) st hp = ab_X rom K cX8_cuts 6 1 4 (v0 :: v1 :: v2 :: .int x :: ls) (.int x :: st) hp := ax_iload_n dX8_cuts_3 rfl rfl
theorem dX8_cuts_4 : decode cX8_cuts 4 = .ok (.invokevirtual 129, 3) := by decide +kernel
theorem sX8_cuts_4_0 : ab_X rom K cX8_cuts 6 1 4 ls [w3, w2, w1, .ref a] hp = if ab_iso hp a 6 = true then (K 97 (.ref a :: [w1, w2, w3]) hp).bind (fun o => ab_X rom K cX8_cuts 6 1 7 ls (o.1.toList ++ []) o.2) else none := ay_virtual (as := [w1, w2, w3]) (st := []) dX8_cuts_4 kc_6_129 rfl rfl (Nat.le_of_ble_eq_true rfl)
theorem sX8_cuts_4_1 : ab_X rom K cX8_cuts 6 1 4 ls [w3, w2, w1, .ref a, v0] hp = if ab_iso hp a 6 = true then (K 97 (.ref a :: [w1, w2, w3]) hp).bind (fun o => ab_X rom K cX8_cuts 6 1 7 ls (o.1.toList ++ [v0]) o.2) else none := ay_virtual (as := [w1, w2, w3]) (st := [v0]) dX8_cuts_4 kc_6_129 rfl rfl (Nat.le_of_ble_eq_true rfl)
theorem sX8_cuts_4_2 : ab_X rom K cX8_cuts 6 1 4 ls [w3, w2, w1, .ref a, v0, v1] hp = if ab_iso hp a 6 = true then (K 97 (.ref a :: [w1, w2, w3]) hp).bind (fun o => ab_X rom K cX8_cuts 6 1 7 ls (o.1.toList ++ [v0, v1]) o.2) else none := ay_virtual (as := [w1, w2, w3]) (st := [v0, v1]) dX8_cuts_4 kc_6_129 rfl rfl (Nat.le_of_ble_eq_true rfl)
theorem sX8_cuts_4_3 : ab_X rom K cX8_cuts 6 1 4 ls [w3, w2, w1, .ref a, v0, v1, v2] hp = if ab_iso hp a 6 = true then (K 97 (.ref a :: [w1, w2, w3]) hp).bind (fun o => ab_X rom K cX8_cuts 6 1 7 ls (o.1.toList ++ [v0, v1, v2]) o.2) else none := ay_virtual (as := [w1, w2, w3]) (st := [v0, v1, v2]) dX8_cuts_4 kc_6_129 rfl rfl (Nat.le_of_ble_eq_true rfl)
theorem dX8_cuts_7 : decode cX8_cuts 7 = .ok (.ifCond .ne 6, 3) := by decide +kernel
theorem sX8_cuts_7 : ab_X rom K cX8_cuts 6 1 7 ls (.int x :: st) hp = if x = 0 then ab_X rom K cX8_cuts 6 1 10 ls st hp else ab_X rom K cX8_cuts 6 1 13 ls st hp := ax_if_ne dX8_cuts_7 (by decide) rfl
theorem dX8_cuts_10 : decode cX8_cuts 10 = .ok (.bipush (-2), 2) := by decide +kernel
theorem sX8_cuts_10 : ab_X rom K cX8_cuts 6 1 10 ls st hp = ab_X rom K cX8_cuts 6 1 12 ls (.int (-2) :: st) hp := ax_bipush dX8_cuts_10 (by decide) rfl
theorem dX8_cuts_12 : decode cX8_cuts 12 = .ok (.ireturn, 1) := by decide +kernel
theorem sX8_cuts_12 : ab_X rom K cX8_cuts 6 1 12 ls [.int x] hp = some (some (.int x), hp) := ax_iret dX8_cuts_12 rfl
theorem dX8_cuts_13 : decode cX8_cuts 13 = .ok (.aload_n 0, 1) := by decide +kernel
theorem sX8_cuts_13 : ab_X rom K cX8_cuts 6 1 13 (.ref a :: ls) st hp = ab_X rom K cX8_cuts 6 1 14 (.ref a :: ls) (.ref a :: st) hp := ax_aload_n dX8_cuts_13 rfl rfl
theorem dX8_cuts_14 : decode cX8_cuts 14 = .ok (.getfield 21, 3) := by decide +kernel
theorem sX8_cuts_14 : ab_X rom K cX8_cuts 6 1 14 ls (.ref a :: st) hp = (ab_fld hp a 6 3).bind (fun v => ab_X rom K cX8_cuts 6 1 17 ls (v :: st) hp) := ax_getfield dX8_cuts_14 kf_6_21 rfl
theorem dX8_cuts_17 : decode cX8_cuts 17 = .ok (.iload_n 1, 1) := by decide +kernel
theorem sX8_cuts_17 : ab_X rom K cX8_cuts 6 1 17 (v0 :: .int x :: ls) st hp = ab_X rom K cX8_cuts 6 1 18 (v0 :: .int x :: ls) (.int x :: st) hp := ax_iload_n dX8_cuts_17 rfl rfl
theorem dX8_cuts_18 : decode cX8_cuts 18 = .ok (.aaload, 1) := by decide +kernel
theorem sX8_cuts_18 : ab_X rom K cX8_cuts 6 1 18 ls (.int x :: .ref a :: st) hp = (ab_rrd hp a x).bind (fun v => ab_X rom K cX8_cuts 6 1 19 ls (.ref v :: st) hp) := ax_aaload dX8_cuts_18 rfl
theorem dX8_cuts_19 : decode cX8_cuts 19 = .ok (.astore 4, 2) := by decide +kernel
theorem sX8_cuts_19i : ab_X rom K cX8_cuts 6 1 19 (v0 :: v1 :: v2 :: .int y :: v4 :: ls) (.ref a :: st) hp = ab_X rom K cX8_cuts 6 1 21 (v0 :: v1 :: v2 :: .int y :: .ref a :: ls) st hp := ax_astore dX8_cuts_19 (ax_lt (v := v4) rfl) (ab_nl_c1 (j := 3) (v := .int y) rfl (ab_c1_int _)) rfl rfl
theorem sX8_cuts_19r : ab_X rom K cX8_cuts 6 1 19 (v0 :: v1 :: v2 :: .ref a2 :: v4 :: ls) (.ref a :: st) hp = ab_X rom K cX8_cuts 6 1 21 (v0 :: v1 :: v2 :: .ref a2 :: .ref a :: ls) st hp := ax_astore dX8_cuts_19 (ax_lt (v := v4) rfl) (ab_nl_c1 (j := 3) (v := .ref a2) rfl (ab_c1_ref _)) rfl rfl
theorem sX8_cuts_19n : ab_X rom K cX8_cuts 6 1 19 (v0 :: v1 :: v2 :: .null :: v4 :: ls) (.ref a :: st) hp = ab_X rom K cX8_cuts 6 1 21 (v0 :: v1 :: v2 :: .null :: .ref a :: ls) st hp := ax_astore dX8_cuts_19 (ax_lt (v := v4) rfl) (ab_nl_c1 (j := 3) (v := .null) rfl ab_c1_null) rfl rfl
theorem dX8_cuts_21 : decode cX8_cuts 21 = .ok (.aload 4, 2) := by decide +kernel
theorem sX8_cuts_21 : ab_X rom K cX8_cuts 6 1 21 (v0 :: v1 :: v2 :: v3 :: .ref a :: ls) st hp = ab_X rom K cX8_cuts 6 1 23 (v0 :: v1 :: v2 :: v3 :: .ref a :: ls) (.ref a :: st) hp := ax_aload dX8_cuts_21 rfl rfl
theorem dX8_cuts_23 : decode cX8_cuts 23 = .ok (.iload_n 2, 1) := by decide +kernel
theorem sX8_cuts_23 : ab_X rom K cX8_cuts 6 1 23 (v0 :: v1 :: .int x :: ls) st hp = ab_X rom K cX8_cuts 6 1 24 (v0 :: v1 :: .int x :: ls) (.int x :: st) hp := ax_iload_n dX8_cuts_23 rfl rfl
theorem dX8_cuts_24 : decode cX8_cuts 24 = .ok (.iload_n 3, 1) := by decide +kernel
theorem sX8_cuts_24 : ab_X rom K cX8_cuts 6 1 24 (v0 :: v1 :: v2 :: .int x :: ls) st hp = ab_X rom K cX8_cuts 6 1 25 (v0 :: v1 :: v2 :: .int x :: ls) (.int x :: st) hp := ax_iload_n dX8_cuts_24 rfl rfl
theorem dX8_cuts_25 : decode cX8_cuts 25 = .ok (.invokevirtual 133, 3) := by decide +kernel
theorem sX8_cuts_25_0 : ab_X rom K cX8_cuts 6 1 25 ls [w2, w1, .ref a] hp = if ab_iso hp a 1 = true then (K 20 (.ref a :: [w1, w2]) hp).bind (fun o => ab_X rom K cX8_cuts 6 1 28 ls (o.1.toList ++ []) o.2) else none := ay_virtual (as := [w1, w2]) (st := []) dX8_cuts_25 kc_6_133 rfl rfl (Nat.le_of_ble_eq_true rfl)
theorem sX8_cuts_25_1 : ab_X rom K cX8_cuts 6 1 25 ls [w2, w1, .ref a, v0] hp = if ab_iso hp a 1 = true then (K 20 (.ref a :: [w1, w2]) hp).bind (fun o => ab_X rom K cX8_cuts 6 1 28 ls (o.1.toList ++ [v0]) o.2) else none := ay_virtual (as := [w1, w2]) (st := [v0]) dX8_cuts_25 kc_6_133 rfl rfl (Nat.le_of_ble_eq_true rfl)
theorem sX8_cuts_25_2 : ab_X rom K cX8_cuts 6 1 25 ls [w2, w1, .ref a, v0, v1] hp = if ab_iso hp a 1 = true then (K 20 (.ref a :: [w1, w2]) hp).bind (fun o => ab_X rom K cX8_cuts 6 1 28 ls (o.1.toList ++ [v0, v1]) o.2) else none := ay_virtual (as := [w1, w2]) (st := [v0, v1]) dX8_cuts_25 kc_6_133 rfl rfl (Nat.le_of_ble_eq_true rfl)
theorem sX8_cuts_25_3 : ab_X rom K cX8_cuts 6 1 25 ls [w2, w1, .ref a, v0, v1, v2] hp = if ab_iso hp a 1 = true then (K 20 (.ref a :: [w1, w2]) hp).bind (fun o => ab_X rom K cX8_cuts 6 1 28 ls (o.1.toList ++ [v0, v1, v2]) o.2) else none := ay_virtual (as := [w1, w2]) (st := [v0, v1, v2]) dX8_cuts_25 kc_6_133 rfl rfl (Nat.le_of_ble_eq_true rfl)
theorem dX8_cuts_28 : decode cX8_cuts 28 = .ok (.istore 5, 2) := by decide +kernel
theorem sX8_cuts_28i : ab_X rom K cX8_cuts 6 1 28 (v0 :: v1 :: v2 :: v3 :: .int y :: v5 :: ls) (.int x :: st) hp = ab_X rom K cX8_cuts 6 1 30 (v0 :: v1 :: v2 :: v3 :: .int y :: .int x :: ls) st hp := ax_istore dX8_cuts_28 (ax_lt (v := v5) rfl) (ab_nl_c1 (j := 4) (v := .int y) rfl (ab_c1_int _)) rfl rfl
theorem sX8_cuts_28r : ab_X rom K cX8_cuts 6 1 28 (v0 :: v1 :: v2 :: v3 :: .ref a2 :: v5 :: ls) (.int x :: st) hp = ab_X rom K cX8_cuts 6 1 30 (v0 :: v1 :: v2 :: v3 :: .ref a2 :: .int x :: ls) st hp := ax_istore dX8_cuts_28 (ax_lt (v := v5) rfl) (ab_nl_c1 (j := 4) (v := .ref a2) rfl (ab_c1_ref _)) rfl rfl
theorem sX8_cuts_28n : ab_X rom K cX8_cuts 6 1 28 (v0 :: v1 :: v2 :: v3 :: .null :: v5 :: ls) (.int x :: st) hp = ab_X rom K cX8_cuts 6 1 30 (v0 :: v1 :: v2 :: v3 :: .null :: .int x :: ls) st hp := ax_istore dX8_cuts_28 (ax_lt (v := v5) rfl) (ab_nl_c1 (j := 4) (v := .null) rfl ab_c1_null) rfl rfl
theorem dX8_cuts_30 : decode cX8_cuts 30 = .ok (.iload 5, 2) := by decide +kernel
theorem sX8_cuts_30 : ab_X rom K cX8_cuts 6 1 30 (v0 :: v1 :: v2 :: v3 :: v4 :: .int x :: ls) st hp = ab_X rom K cX8_cuts 6 1 32 (v0 :: v1 :: v2 :: v3 :: v4 :: .int x :: ls) (.int x :: st) hp := ax_iload dX8_cuts_30 rfl rfl
theorem dX8_cuts_32 : decode cX8_cuts 32 = .ok (.iconst (-1), 1) := by decide +kernel
theorem sX8_cuts_32 : ab_X rom K cX8_cuts 6 1 32 ls st hp = ab_X rom K cX8_cuts 6 1 33 ls (.int (-1) :: st) hp := ax_iconst dX8_cuts_32 (by decide) rfl
theorem dX8_cuts_33 : decode cX8_cuts 33 = .ok (.if_icmp .ne 6, 3) := by decide +kernel
theorem sX8_cuts_33 : ab_X rom K cX8_cuts 6 1 33 ls (.int y :: .int x :: st) hp = if x = y then ab_X rom K cX8_cuts 6 1 36 ls st hp else ab_X rom K cX8_cuts 6 1 39 ls st hp := ax_icmp_ne dX8_cuts_33 (by decide) rfl
theorem dX8_cuts_36 : decode cX8_cuts 36 = .ok (.bipush (-6), 2) := by decide +kernel
theorem sX8_cuts_36 : ab_X rom K cX8_cuts 6 1 36 ls st hp = ab_X rom K cX8_cuts 6 1 38 ls (.int (-6) :: st) hp := ax_bipush dX8_cuts_36 (by decide) rfl
theorem dX8_cuts_38 : decode cX8_cuts 38 = .ok (.ireturn, 1) := by decide +kernel
theorem sX8_cuts_38 : ab_X rom K cX8_cuts 6 1 38 ls [.int x] hp = some (some (.int x), hp) := ax_iret dX8_cuts_38 rfl
theorem dX8_cuts_39 : decode cX8_cuts 39 = .ok (.aload_n 0, 1) := by decide +kernel
theorem sX8_cuts_39 : ab_X rom K cX8_cuts 6 1 39 (.ref a :: ls) st hp = ab_X rom K cX8_cuts 6 1 40 (.ref a :: ls) (.ref a :: st) hp := ax_aload_n dX8_cuts_39 rfl rfl
theorem dX8_cuts_40 : decode cX8_cuts 40 = .ok (.getfield 42, 3) := by decide +kernel
theorem sX8_cuts_40 : ab_X rom K cX8_cuts 6 1 40 ls (.ref a :: st) hp = (ab_fld hp a 6 5).bind (fun v => ab_X rom K cX8_cuts 6 1 43 ls (v :: st) hp) := ax_getfield dX8_cuts_40 kf_6_42 rfl
theorem dX8_cuts_43 : decode cX8_cuts 43 = .ok (.iload_n 1, 1) := by decide +kernel
theorem sX8_cuts_43 : ab_X rom K cX8_cuts 6 1 43 (v0 :: .int x :: ls) st hp = ab_X rom K cX8_cuts 6 1 44 (v0 :: .int x :: ls) (.int x :: st) hp := ax_iload_n dX8_cuts_43 rfl rfl
theorem dX8_cuts_44 : decode cX8_cuts 44 = .ok (.aload 4, 2) := by decide +kernel
theorem sX8_cuts_44 : ab_X rom K cX8_cuts 6 1 44 (v0 :: v1 :: v2 :: v3 :: .ref a :: ls) st hp = ab_X rom K cX8_cuts 6 1 46 (v0 :: v1 :: v2 :: v3 :: .ref a :: ls) (.ref a :: st) hp := ax_aload dX8_cuts_44 rfl rfl
theorem dX8_cuts_46 : decode cX8_cuts 46 = .ok (.invokevirtual 137, 3) := by decide +kernel
theorem sX8_cuts_46_0 : ab_X rom K cX8_cuts 6 1 46 ls [w2, w1, .ref a] hp = if ab_iso hp a 2 = true then (K 37 (.ref a :: [w1, w2]) hp).bind (fun o => ab_X rom K cX8_cuts 6 1 49 ls (o.1.toList ++ []) o.2) else none := ay_virtual (as := [w1, w2]) (st := []) dX8_cuts_46 kc_6_137 rfl rfl (Nat.le_of_ble_eq_true rfl)
theorem sX8_cuts_46_1 : ab_X rom K cX8_cuts 6 1 46 ls [w2, w1, .ref a, v0] hp = if ab_iso hp a 2 = true then (K 37 (.ref a :: [w1, w2]) hp).bind (fun o => ab_X rom K cX8_cuts 6 1 49 ls (o.1.toList ++ [v0]) o.2) else none := ay_virtual (as := [w1, w2]) (st := [v0]) dX8_cuts_46 kc_6_137 rfl rfl (Nat.le_of_ble_eq_true rfl)
theorem sX8_cuts_46_2 : ab_X rom K cX8_cuts 6 1 46 ls [w2, w1, .ref a, v0, v1] hp = if ab_iso hp a 2 = true then (K 37 (.ref a :: [w1, w2]) hp).bind (fun o => ab_X rom K cX8_cuts 6 1 49 ls (o.1.toList ++ [v0, v1]) o.2) else none := ay_virtual (as := [w1, w2]) (st := [v0, v1]) dX8_cuts_46 kc_6_137 rfl rfl (Nat.le_of_ble_eq_true rfl)
theorem sX8_cuts_46_3 : ab_X rom K cX8_cuts 6 1 46 ls [w2, w1, .ref a, v0, v1, v2] hp = if ab_iso hp a 2 = true then (K 37 (.ref a :: [w1, w2]) hp).bind (fun o => ab_X rom K cX8_cuts 6 1 49 ls (o.1.toList ++ [v0, v1, v2]) o.2) else none := ay_virtual (as := [w1, w2]) (st := [v0, v1, v2]) dX8_cuts_46 kc_6_137 rfl rfl (Nat.le_of_ble_eq_true rfl)
theorem dX8_cuts_49 : decode cX8_cuts 49 = .ok (.aload 4, 2) := by decide +kernel
theorem sX8_cuts_49 : ab_X rom K cX8_cuts 6 1 49 (v0 :: v1 :: v2 :: v3 :: .ref a :: ls) st hp = ab_X rom K cX8_cuts 6 1 51 (v0 :: v1 :: v2 :: v3 :: .ref a :: ls) (.ref a :: st) hp := ax_aload dX8_cuts_49 rfl rfl
theorem dX8_cuts_51 : decode cX8_cuts 51 = .ok (.iload 5, 2) := by decide +kernel
theorem sX8_cuts_51 : ab_X rom K cX8_cuts 6 1 51 (v0 :: v1 :: v2 :: v3 :: v4 :: .int x :: ls) st hp = ab_X rom K cX8_cuts 6 1 53 (v0 :: v1 :: v2 :: v3 :: v4 :: .int x :: ls) (.int x :: st) hp := ax_iload dX8_cuts_51 rfl rfl
theorem dX8_cuts_53 : decode cX8_cuts 53 = .ok (.invokevirtual 145, 3) := by decide +kernel
theorem sX8_cuts_53_0 : ab_X rom K cX8_cuts 6 1 53 ls [w1, .ref a] hp = if ab_iso hp a 1 = true then (K 31 (.ref a :: [w1]) hp).bind (fun o => ab_X rom K cX8_cuts 6 1 56 ls (o.1.toList ++ []) o.2) else none := ay_virtual (as := [w1]) (st := []) dX8_cuts_53 kc_6_145 rfl rfl (Nat.le_of_ble_eq_true rfl)
theorem sX8_cuts_53_1 : ab_X rom K cX8_cuts 6 1 53 ls [w1, .ref a, v0] hp = if ab_iso hp a 1 = true then (K 31 (.ref a :: [w1]) hp).bind (fun o => ab_X rom K cX8_cuts 6 1 56 ls (o.1.toList ++ [v0]) o.2) else none := ay_virtual (as := [w1]) (st := [v0]) dX8_cuts_53 kc_6_145 rfl rfl (Nat.le_of_ble_eq_true rfl)
theorem sX8_cuts_53_2 : ab_X rom K cX8_cuts 6 1 53 ls [w1, .ref a, v0, v1] hp = if ab_iso hp a 1 = true then (K 31 (.ref a :: [w1]) hp).bind (fun o => ab_X rom K cX8_cuts 6 1 56 ls (o.1.toList ++ [v0, v1]) o.2) else none := ay_virtual (as := [w1]) (st := [v0, v1]) dX8_cuts_53 kc_6_145 rfl rfl (Nat.le_of_ble_eq_true rfl)
theorem sX8_cuts_53_3 : ab_X rom K cX8_cuts 6 1 53 ls [w1, .ref a, v0, v1, v2] hp = if ab_iso hp a 1 = true then (K 31 (.ref a :: [w1]) hp).bind (fun o => ab_X rom K cX8_cuts 6 1 56 ls (o.1.toList ++ [v0, v1, v2]) o.2) else none := ay_virtual (as := [w1]) (st := [v0, v1, v2]) dX8_cuts_53 kc_6_145 rfl rfl (Nat.le_of_ble_eq_true rfl)
theorem dX8_cuts_56 : decode cX8_cuts 56 = .ok (.aload 4, 2) := by decide +kernel
theorem sX8_cuts_56 : ab_X rom K cX8_cuts 6 1 56 (v0 :: v1 :: v2 :: v3 :: .ref a :: ls) st hp = ab_X rom K cX8_cuts 6 1 58 (v0 :: v1 :: v2 :: v3 :: .ref a :: ls) (.ref a :: st) hp := ax_aload dX8_cuts_56 rfl rfl
theorem dX8_cuts_58 : decode cX8_cuts 58 = .ok (.getfield 89, 3) := by decide +kernel
theorem sX8_cuts_58 : ab_X rom K cX8_cuts 6 1 58 ls (.ref a :: st) hp = (ab_fld hp a 1 1).bind (fun v => ab_X rom K cX8_cuts 6 1 61 ls (v :: st) hp) := ax_getfield dX8_cuts_58 kf_6_89 rfl
theorem dX8_cuts_61 : decode cX8_cuts 61 = .ok (.ireturn, 1) := by decide +kernel
theorem sX8_cuts_61 : ab_X rom K cX8_cuts 6 1 61 ls [.int x] hp = some (some (.int x), hp) := ax_iret dX8_cuts_61 rfl
theorem tX8_draftCompletion : ab_mT[86]? = some (yX8_draftCompletion, cX8_draftCompletion, 7, 2, 6) := by decide +kernel
theorem mX8_draftCompletion {d : Nat} {a0 : Nat} {x0 : Int32} {x1 : Int32} {x2 : Int32} : ab_M rom (d + 1) 86 [.ref a0, .int x0, .int x1, .int x2] hp = ab_X rom (ab_M rom d) cX8_draftCompletion 6 2 0 [.ref a0, .int x0, .int x1, .int x2, .null, .null, .null] [] hp := ab_M_eq tX8_draftCompletion (Nat.le_of_ble_eq_true rfl)
theorem dX8_draftCompletion_0 : decode cX8_draftCompletion 0 = .ok (.aload_n 0, 1) := by decide +kernel
theorem sX8_draftCompletion_0 : ab_X rom K cX8_draftCompletion 6 2 0 (.ref a :: ls) st hp = ab_X rom K cX8_draftCompletion 6 2 1 (.ref a :: ls) (.ref a :: st) hp := ax_aload_n dX8_draftCompletion_0 rfl rfl
theorem dX8_draftCompletion_1 : decode cX8_draftCompletion 1 = .ok (.getfield 26, 3) := by decide +kernel
theorem sX8_draftCompletion_1 : ab_X rom K cX8_draftCompletion 6 2 1 ls (.ref a :: st) hp = (ab_fld hp a 6 4).bind (fun v => ab_X rom K cX8_draftCompletion 6 2 4 ls (v :: st) hp) := ax_getfield dX8_draftCompletion_1 kf_6_26 rfl
theorem dX8_draftCompletion_4 : decode cX8_draftCompletion 4 = .ok (.aload_n 0, 1) := by decide +kernel
theorem sX8_draftCompletion_4 : ab_X rom K cX8_draftCompletion 6 2 4 (.ref a :: ls) st hp = ab_X rom K cX8_draftCompletion 6 2 5 (.ref a :: ls) (.ref a :: st) hp := ax_aload_n dX8_draftCompletion_4 rfl rfl
theorem dX8_draftCompletion_5 : decode cX8_draftCompletion 5 = .ok (.getfield 21, 3) := by decide +kernel
theorem sX8_draftCompletion_5 : ab_X rom K cX8_draftCompletion 6 2 5 ls (.ref a :: st) hp = (ab_fld hp a 6 3).bind (fun v => ab_X rom K cX8_draftCompletion 6 2 8 ls (v :: st) hp) := ax_getfield dX8_draftCompletion_5 kf_6_21 rfl
theorem dX8_draftCompletion_8 : decode cX8_draftCompletion 8 = .ok (.iload_n 1, 1) := by decide +kernel
theorem sX8_draftCompletion_8 : ab_X rom K cX8_draftCompletion 6 2 8 (v0 :: .int x :: ls) st hp = ab_X rom K cX8_draftCompletion 6 2 9 (v0 :: .int x :: ls) (.int x :: st) hp := ax_iload_n dX8_draftCompletion_8 rfl rfl
theorem dX8_draftCompletion_9 : decode cX8_draftCompletion 9 = .ok (.aaload, 1) := by decide +kernel
theorem sX8_draftCompletion_9 : ab_X rom K cX8_draftCompletion 6 2 9 ls (.int x :: .ref a :: st) hp = (ab_rrd hp a x).bind (fun v => ab_X rom K cX8_draftCompletion 6 2 10 ls (.ref v :: st) hp) := ax_aaload dX8_draftCompletion_9 rfl
theorem dX8_draftCompletion_10 : decode cX8_draftCompletion 10 = .ok (.invokevirtual 215, 3) := by decide +kernel
theorem sX8_draftCompletion_10_0 : ab_X rom K cX8_draftCompletion 6 2 10 ls [w1, .ref a] hp = if ab_iso hp a 1 = true then (K 17 (.ref a :: [w1]) hp).bind (fun o => ab_X rom K cX8_draftCompletion 6 2 13 ls (o.1.toList ++ []) o.2) else none := ay_virtual (as := [w1]) (st := []) dX8_draftCompletion_10 kc_6_215 rfl rfl (Nat.le_of_ble_eq_true rfl)
theorem sX8_draftCompletion_10_1 : ab_X rom K cX8_draftCompletion 6 2 10 ls [w1, .ref a, v0] hp = if ab_iso hp a 1 = true then (K 17 (.ref a :: [w1]) hp).bind (fun o => ab_X rom K cX8_draftCompletion 6 2 13 ls (o.1.toList ++ [v0]) o.2) else none := ay_virtual (as := [w1]) (st := [v0]) dX8_draftCompletion_10 kc_6_215 rfl rfl (Nat.le_of_ble_eq_true rfl)
theorem sX8_draftCompletion_10_2 : ab_X rom K cX8_draftCompletion 6 2 10 ls [w1, .ref a, v0, v1] hp = if ab_iso hp a 1 = true then (K 17 (.ref a :: [w1]) hp).bind (fun o => ab_X rom K cX8_draftCompletion 6 2 13 ls (o.1.toList ++ [v0, v1]) o.2) else none := ay_virtual (as := [w1]) (st := [v0, v1]) dX8_draftCompletion_10 kc_6_215 rfl rfl (Nat.le_of_ble_eq_true rfl)
theorem sX8_draftCompletion_10_3 : ab_X rom K cX8_draftCompletion 6 2 10 ls [w1, .ref a, v0, v1, v2] hp = if ab_iso hp a 1 = true then (K 17 (.ref a :: [w1]) hp).bind (fun o => ab_X rom K cX8_draftCompletion 6 2 13 ls (o.1.toList ++ [v0, v1, v2]) o.2) else none := ay_virtual (as := [w1]) (st := [v0, v1, v2]) dX8_draftCompletion_10 kc_6_215 rfl rfl (Nat.le_of_ble_eq_true rfl)
theorem dX8_draftCompletion_13 : decode cX8_draftCompletion 13 = .ok (.iload_n 3, 1) := by decide +kernel
theorem sX8_draftCompletion_13 : ab_X rom K cX8_draftCompletion 6 2 13 (v0 :: v1 :: v2 :: .int x :: ls) st hp = ab_X rom K cX8_draftCompletion 6 2 14 (v0 :: v1 :: v2 :: .int x :: ls) (.int x :: st) hp := ax_iload_n dX8_draftCompletion_13 rfl rfl
theorem dX8_draftCompletion_14 : decode cX8_draftCompletion 14 = .ok (.istore 4, 2) := by decide +kernel
theorem sX8_draftCompletion_14i : ab_X rom K cX8_draftCompletion 6 2 14 (v0 :: v1 :: v2 :: .int y :: v4 :: ls) (.int x :: st) hp = ab_X rom K cX8_draftCompletion 6 2 16 (v0 :: v1 :: v2 :: .int y :: .int x :: ls) st hp := ax_istore dX8_draftCompletion_14 (ax_lt (v := v4) rfl) (ab_nl_c1 (j := 3) (v := .int y) rfl (ab_c1_int _)) rfl rfl
theorem sX8_draftCompletion_14r : ab_X rom K cX8_draftCompletion 6 2 14 (v0 :: v1 :: v2 :: .ref a2 :: v4 :: ls) (.int x :: st) hp = ab_X rom K cX8_draftCompletion 6 2 16 (v0 :: v1 :: v2 :: .ref a2 :: .int x :: ls) st hp := ax_istore dX8_draftCompletion_14 (ax_lt (v := v4) rfl) (ab_nl_c1 (j := 3) (v := .ref a2) rfl (ab_c1_ref _)) rfl rfl
theorem sX8_draftCompletion_14n : ab_X rom K cX8_draftCompletion 6 2 14 (v0 :: v1 :: v2 :: .null :: v4 :: ls) (.int x :: st) hp = ab_X rom K cX8_draftCompletion 6 2 16 (v0 :: v1 :: v2 :: .null :: .int x :: ls) st hp := ax_istore dX8_draftCompletion_14 (ax_lt (v := v4) rfl) (ab_nl_c1 (j := 3) (v := .null) rfl ab_c1_null) rfl rfl
theorem dX8_draftCompletion_16 : decode cX8_draftCompletion 16 = .ok (.iconst 0, 1) := by decide +kernel
theorem sX8_draftCompletion_16 : ab_X rom K cX8_draftCompletion 6 2 16 ls st hp = ab_X rom K cX8_draftCompletion 6 2 17 ls (.int 0 :: st) hp := ax_iconst dX8_draftCompletion_16 (by decide) rfl
theorem dX8_draftCompletion_17 : decode cX8_draftCompletion 17 = .ok (.istore 5, 2) := by decide +kernel
theorem sX8_draftCompletion_17i : ab_X rom K cX8_draftCompletion 6 2 17 (v0 :: v1 :: v2 :: v3 :: .int y :: v5 :: ls) (.int x :: st) hp = ab_X rom K cX8_draftCompletion 6 2 19 (v0 :: v1 :: v2 :: v3 :: .int y :: .int x :: ls) st hp := ax_istore dX8_draftCompletion_17 (ax_lt (v := v5) rfl) (ab_nl_c1 (j := 4) (v := .int y) rfl (ab_c1_int _)) rfl rfl
theorem sX8_draftCompletion_17r : ab_X rom K cX8_draftCompletion 6 2 17 (v0 :: v1 :: v2 :: v3 :: .ref a2 :: v5 :: ls) (.int x :: st) hp = ab_X rom K cX8_draftCompletion 6 2 19 (v0 :: v1 :: v2 :: v3 :: .ref a2 :: .int x :: ls) st hp := ax_istore dX8_draftCompletion_17 (ax_lt (v := v5) rfl) (ab_nl_c1 (j := 4) (v := .ref a2) rfl (ab_c1_ref _)) rfl rfl
theorem sX8_draftCompletion_17n : ab_X rom K cX8_draftCompletion 6 2 17 (v0 :: v1 :: v2 :: v3 :: .null :: v5 :: ls) (.int x :: st) hp = ab_X rom K cX8_draftCompletion 6 2 19 (v0 :: v1 :: v2 :: v3 :: .null :: .int x :: ls) st hp := ax_istore dX8_draftCompletion_17 (ax_lt (v := v5) rfl) (ab_nl_c1 (j := 4) (v := .null) rfl ab_c1_null) rfl rfl
theorem dX8_draftCompletion_19 : decode cX8_draftCompletion 19 = .ok (.iload 5, 2) := by decide +kernel
theorem sX8_draftCompletion_19 : ab_X rom K cX8_draftCompletion 6 2 19 (v0 :: v1 :: v2 :: v3 :: v4 :: .int x :: ls) st hp = ab_X rom K cX8_draftCompletion 6 2 21 (v0 :: v1 :: v2 :: v3 :: v4 :: .int x :: ls) (.int x :: st) hp := ax_iload dX8_draftCompletion_19 rfl rfl
theorem dX8_draftCompletion_21 : decode cX8_draftCompletion 21 = .ok (.aload_n 0, 1) := by decide +kernel
theorem sX8_draftCompletion_21 : ab_X rom K cX8_draftCompletion 6 2 21 (.ref a :: ls) st hp = ab_X rom K cX8_draftCompletion 6 2 22 (.ref a :: ls) (.ref a :: st) hp := ax_aload_n dX8_draftCompletion_21 rfl rfl
theorem dX8_draftCompletion_22 : decode cX8_draftCompletion 22 = .ok (.getfield 26, 3) := by decide +kernel
theorem sX8_draftCompletion_22 : ab_X rom K cX8_draftCompletion 6 2 22 ls (.ref a :: st) hp = (ab_fld hp a 6 4).bind (fun v => ab_X rom K cX8_draftCompletion 6 2 25 ls (v :: st) hp) := ax_getfield dX8_draftCompletion_22 kf_6_26 rfl
theorem dX8_draftCompletion_25 : decode cX8_draftCompletion 25 = .ok (.getfield 102, 3) := by decide +kernel
theorem sX8_draftCompletion_25 : ab_X rom K cX8_draftCompletion 6 2 25 ls (.ref a :: st) hp = (ab_fld hp a 1 0).bind (fun v => ab_X rom K cX8_draftCompletion 6 2 28 ls (v :: st) hp) := ax_getfield dX8_draftCompletion_25 kf_6_102 rfl
theorem dX8_draftCompletion_28 : decode cX8_draftCompletion 28 = .ok (.if_icmp .ge 146, 3) := by decide +kernel
theorem sX8_draftCompletion_28 : ab_X rom K cX8_draftCompletion 6 2 28 ls (.int y :: .int x :: st) hp = if x < y then ab_X rom K cX8_draftCompletion 6 2 31 ls st hp else ab_X rom K cX8_draftCompletion 6 2 174 ls st hp := ax_icmp_ge dX8_draftCompletion_28 (by decide) rfl
theorem dX8_draftCompletion_31 : decode cX8_draftCompletion 31 = .ok (.aload_n 0, 1) := by decide +kernel
theorem sX8_draftCompletion_31 : ab_X rom K cX8_draftCompletion 6 2 31 (.ref a :: ls) st hp = ab_X rom K cX8_draftCompletion 6 2 32 (.ref a :: ls) (.ref a :: st) hp := ax_aload_n dX8_draftCompletion_31 rfl rfl
theorem dX8_draftCompletion_32 : decode cX8_draftCompletion 32 = .ok (.getfield 26, 3) := by decide +kernel
theorem sX8_draftCompletion_32 : ab_X rom K cX8_draftCompletion 6 2 32 ls (.ref a :: st) hp = (ab_fld hp a 6 4).bind (fun v => ab_X rom K cX8_draftCompletion 6 2 35 ls (v :: st) hp) := ax_getfield dX8_draftCompletion_32 kf_6_26 rfl
theorem dX8_draftCompletion_35 : decode cX8_draftCompletion 35 = .ok (.getfield 152, 3) := by decide +kernel
theorem sX8_draftCompletion_35 : ab_X rom K cX8_draftCompletion 6 2 35 ls (.ref a :: st) hp = (ab_fld hp a 1 4).bind (fun v => ab_X rom K cX8_draftCompletion 6 2 38 ls (v :: st) hp) := ax_getfield dX8_draftCompletion_35 kf_6_152 rfl
theorem dX8_draftCompletion_38 : decode cX8_draftCompletion 38 = .ok (.iload 5, 2) := by decide +kernel
theorem sX8_draftCompletion_38 : ab_X rom K cX8_draftCompletion 6 2 38 (v0 :: v1 :: v2 :: v3 :: v4 :: .int x :: ls) st hp = ab_X rom K cX8_draftCompletion 6 2 40 (v0 :: v1 :: v2 :: v3 :: v4 :: .int x :: ls) (.int x :: st) hp := ax_iload dX8_draftCompletion_38 rfl rfl
theorem dX8_draftCompletion_40 : decode cX8_draftCompletion 40 = .ok (.iaload, 1) := by decide +kernel
theorem sX8_draftCompletion_40 : ab_X rom K cX8_draftCompletion 6 2 40 ls (.int x :: .ref a :: st) hp = (ab_ard rom 0 hp a x).bind (fun v => ab_X rom K cX8_draftCompletion 6 2 41 ls (.int v :: st) hp) := ax_iaload dX8_draftCompletion_40 rfl
theorem dX8_draftCompletion_41 : decode cX8_draftCompletion 41 = .ok (.iconst (-1), 1) := by decide +kernel
theorem sX8_draftCompletion_41 : ab_X rom K cX8_draftCompletion 6 2 41 ls st hp = ab_X rom K cX8_draftCompletion 6 2 42 ls (.int (-1) :: st) hp := ax_iconst dX8_draftCompletion_41 (by decide) rfl
theorem dX8_draftCompletion_42 : decode cX8_draftCompletion 42 = .ok (.if_icmp .eq 11, 3) := by decide +kernel
theorem sX8_draftCompletion_42 : ab_X rom K cX8_draftCompletion 6 2 42 ls (.int y :: .int x :: st) hp = if x = y then ab_X rom K cX8_draftCompletion 6 2 53 ls st hp else ab_X rom K cX8_draftCompletion 6 2 45 ls st hp := ax_icmp_eq dX8_draftCompletion_42 (by decide) rfl
theorem dX8_draftCompletion_45 : decode cX8_draftCompletion 45 = .ok (.iload 5, 2) := by decide +kernel
theorem sX8_draftCompletion_45 : ab_X rom K cX8_draftCompletion 6 2 45 (v0 :: v1 :: v2 :: v3 :: v4 :: .int x :: ls) st hp = ab_X rom K cX8_draftCompletion 6 2 47 (v0 :: v1 :: v2 :: v3 :: v4 :: .int x :: ls) (.int x :: st) hp := ax_iload dX8_draftCompletion_45 rfl rfl
theorem dX8_draftCompletion_47 : decode cX8_draftCompletion 47 = .ok (.ifCond .le 6, 3) := by decide +kernel
theorem sX8_draftCompletion_47 : ab_X rom K cX8_draftCompletion 6 2 47 ls (.int x :: st) hp = if 0 < x then ab_X rom K cX8_draftCompletion 6 2 50 ls st hp else ab_X rom K cX8_draftCompletion 6 2 53 ls st hp := ax_if_le dX8_draftCompletion_47 (by decide) rfl
theorem dX8_draftCompletion_50 : decode cX8_draftCompletion 50 = .ok (.goto 118, 3) := by decide +kernel
theorem sX8_draftCompletion_50 : ab_X rom K cX8_draftCompletion 6 2 50 ls st hp = ab_X rom K cX8_draftCompletion 6 2 168 ls st hp := ax_goto dX8_draftCompletion_50 (by decide)
theorem dX8_draftCompletion_53 : decode cX8_draftCompletion 53 = .ok (.aload_n 0, 1) := by decide +kernel
theorem sX8_draftCompletion_53 : ab_X rom K cX8_draftCompletion 6 2 53 (.ref a :: ls) st hp = ab_X rom K cX8_draftCompletion 6 2 54 (.ref a :: ls) (.ref a :: st) hp := ax_aload_n dX8_draftCompletion_53 rfl rfl
theorem dX8_draftCompletion_54 : decode cX8_draftCompletion 54 = .ok (.getfield 51, 3) := by decide +kernel
theorem sX8_draftCompletion_54 : ab_X rom K cX8_draftCompletion 6 2 54 ls (.ref a :: st) hp = (ab_fld hp a 6 6).bind (fun v => ab_X rom K cX8_draftCompletion 6 2 57 ls (v :: st) hp) := ax_getfield dX8_draftCompletion_54 kf_6_51 rfl
theorem dX8_draftCompletion_57 : decode cX8_draftCompletion 57 = .ok (.getfield 187, 3) := by decide +kernel
theorem sX8_draftCompletion_57 : ab_X rom K cX8_draftCompletion 6 2 57 ls (.ref a :: st) hp = (ab_fld hp a 4 0).bind (fun v => ab_X rom K cX8_draftCompletion 6 2 60 ls (v :: st) hp) := ax_getfield dX8_draftCompletion_57 kf_6_187 rfl
theorem dX8_draftCompletion_60 : decode cX8_draftCompletion 60 = .ok (.iload 5, 2) := by decide +kernel
theorem sX8_draftCompletion_60 : ab_X rom K cX8_draftCompletion 6 2 60 (v0 :: v1 :: v2 :: v3 :: v4 :: .int x :: ls) st hp = ab_X rom K cX8_draftCompletion 6 2 62 (v0 :: v1 :: v2 :: v3 :: v4 :: .int x :: ls) (.int x :: st) hp := ax_iload dX8_draftCompletion_60 rfl rfl
theorem dX8_draftCompletion_62 : decode cX8_draftCompletion 62 = .ok (.invokevirtual 288, 3) := by decide +kernel
theorem sX8_draftCompletion_62_0 : ab_X rom K cX8_draftCompletion 6 2 62 ls [w1, .ref a] hp = if ab_iso hp a 0 = true then (K 5 (.ref a :: [w1]) hp).bind (fun o => ab_X rom K cX8_draftCompletion 6 2 65 ls (o.1.toList ++ []) o.2) else none := ay_virtual (as := [w1]) (st := []) dX8_draftCompletion_62 kc_6_288 rfl rfl (Nat.le_of_ble_eq_true rfl)
theorem sX8_draftCompletion_62_1 : ab_X rom K cX8_draftCompletion 6 2 62 ls [w1, .ref a, v0] hp = if ab_iso hp a 0 = true then (K 5 (.ref a :: [w1]) hp).bind (fun o => ab_X rom K cX8_draftCompletion 6 2 65 ls (o.1.toList ++ [v0]) o.2) else none := ay_virtual (as := [w1]) (st := [v0]) dX8_draftCompletion_62 kc_6_288 rfl rfl (Nat.le_of_ble_eq_true rfl)
theorem sX8_draftCompletion_62_2 : ab_X rom K cX8_draftCompletion 6 2 62 ls [w1, .ref a, v0, v1] hp = if ab_iso hp a 0 = true then (K 5 (.ref a :: [w1]) hp).bind (fun o => ab_X rom K cX8_draftCompletion 6 2 65 ls (o.1.toList ++ [v0, v1]) o.2) else none := ay_virtual (as := [w1]) (st := [v0, v1]) dX8_draftCompletion_62 kc_6_288 rfl rfl (Nat.le_of_ble_eq_true rfl)
theorem sX8_draftCompletion_62_3 : ab_X rom K cX8_draftCompletion 6 2 62 ls [w1, .ref a, v0, v1, v2] hp = if ab_iso hp a 0 = true then (K 5 (.ref a :: [w1]) hp).bind (fun o => ab_X rom K cX8_draftCompletion 6 2 65 ls (o.1.toList ++ [v0, v1, v2]) o.2) else none := ay_virtual (as := [w1]) (st := [v0, v1, v2]) dX8_draftCompletion_62 kc_6_288 rfl rfl (Nat.le_of_ble_eq_true rfl)
theorem dX8_draftCompletion_65 : decode cX8_draftCompletion 65 = .ok (.aload_n 0, 1) := by decide +kernel
theorem sX8_draftCompletion_65 : ab_X rom K cX8_draftCompletion 6 2 65 (.ref a :: ls) st hp = ab_X rom K cX8_draftCompletion 6 2 66 (.ref a :: ls) (.ref a :: st) hp := ax_aload_n dX8_draftCompletion_65 rfl rfl
theorem dX8_draftCompletion_66 : decode cX8_draftCompletion 66 = .ok (.getfield 51, 3) := by decide +kernel
theorem sX8_draftCompletion_66 : ab_X rom K cX8_draftCompletion 6 2 66 ls (.ref a :: st) hp = (ab_fld hp a 6 6).bind (fun v => ab_X rom K cX8_draftCompletion 6 2 69 ls (v :: st) hp) := ax_getfield dX8_draftCompletion_66 kf_6_51 rfl
theorem dX8_draftCompletion_69 : decode cX8_draftCompletion 69 = .ok (.aload_n 0, 1) := by decide +kernel
theorem sX8_draftCompletion_69 : ab_X rom K cX8_draftCompletion 6 2 69 (.ref a :: ls) st hp = ab_X rom K cX8_draftCompletion 6 2 70 (.ref a :: ls) (.ref a :: st) hp := ax_aload_n dX8_draftCompletion_69 rfl rfl
theorem dX8_draftCompletion_70 : decode cX8_draftCompletion 70 = .ok (.getfield 26, 3) := by decide +kernel
theorem sX8_draftCompletion_70 : ab_X rom K cX8_draftCompletion 6 2 70 ls (.ref a :: st) hp = (ab_fld hp a 6 4).bind (fun v => ab_X rom K cX8_draftCompletion 6 2 73 ls (v :: st) hp) := ax_getfield dX8_draftCompletion_70 kf_6_26 rfl
theorem dX8_draftCompletion_73 : decode cX8_draftCompletion 73 = .ok (.iload_n 2, 1) := by decide +kernel
theorem sX8_draftCompletion_73 : ab_X rom K cX8_draftCompletion 6 2 73 (v0 :: v1 :: .int x :: ls) st hp = ab_X rom K cX8_draftCompletion 6 2 74 (v0 :: v1 :: .int x :: ls) (.int x :: st) hp := ax_iload_n dX8_draftCompletion_73 rfl rfl
theorem dX8_draftCompletion_74 : decode cX8_draftCompletion 74 = .ok (.iconst 0, 1) := by decide +kernel
theorem sX8_draftCompletion_74 : ab_X rom K cX8_draftCompletion 6 2 74 ls st hp = ab_X rom K cX8_draftCompletion 6 2 75 ls (.int 0 :: st) hp := ax_iconst dX8_draftCompletion_74 (by decide) rfl
theorem dX8_draftCompletion_75 : decode cX8_draftCompletion 75 = .ok (.invokevirtual 225, 3) := by decide +kernel
theorem sX8_draftCompletion_75_0 : ab_X rom K cX8_draftCompletion 6 2 75 ls [w3, w2, w1, .ref a] hp = if ab_iso hp a 4 = true then (K 71 (.ref a :: [w1, w2, w3]) hp).bind (fun o => ab_X rom K cX8_draftCompletion 6 2 78 ls (o.1.toList ++ []) o.2) else none := ay_virtual (as := [w1, w2, w3]) (st := []) dX8_draftCompletion_75 kc_6_225 rfl rfl (Nat.le_of_ble_eq_true rfl)
theorem sX8_draftCompletion_75_1 : ab_X rom K cX8_draftCompletion 6 2 75 ls [w3, w2, w1, .ref a, v0] hp = if ab_iso hp a 4 = true then (K 71 (.ref a :: [w1, w2, w3]) hp).bind (fun o => ab_X rom K cX8_draftCompletion 6 2 78 ls (o.1.toList ++ [v0]) o.2) else none := ay_virtual (as := [w1, w2, w3]) (st := [v0]) dX8_draftCompletion_75 kc_6_225 rfl rfl (Nat.le_of_ble_eq_true rfl)
theorem sX8_draftCompletion_75_2 : ab_X rom K cX8_draftCompletion 6 2 75 ls [w3, w2, w1, .ref a, v0, v1] hp = if ab_iso hp a 4 = true then (K 71 (.ref a :: [w1, w2, w3]) hp).bind (fun o => ab_X rom K cX8_draftCompletion 6 2 78 ls (o.1.toList ++ [v0, v1]) o.2) else none := ay_virtual (as := [w1, w2, w3]) (st := [v0, v1]) dX8_draftCompletion_75 kc_6_225 rfl rfl (Nat.le_of_ble_eq_true rfl)
theorem sX8_draftCompletion_75_3 : ab_X rom K cX8_draftCompletion 6 2 75 ls [w3, w2, w1, .ref a, v0, v1, v2] hp = if ab_iso hp a 4 = true then (K 71 (.ref a :: [w1, w2, w3]) hp).bind (fun o => ab_X rom K cX8_draftCompletion 6 2 78 ls (o.1.toList ++ [v0, v1, v2]) o.2) else none := ay_virtual (as := [w1, w2, w3]) (st := [v0, v1, v2]) dX8_draftCompletion_75 kc_6_225 rfl rfl (Nat.le_of_ble_eq_true rfl)
theorem dX8_draftCompletion_78 : decode cX8_draftCompletion 78 = .ok (.iload 4, 2) := by decide +kernel
theorem sX8_draftCompletion_78 : ab_X rom K cX8_draftCompletion 6 2 78 (v0 :: v1 :: v2 :: v3 :: .int x :: ls) st hp = ab_X rom K cX8_draftCompletion 6 2 80 (v0 :: v1 :: v2 :: v3 :: .int x :: ls) (.int x :: st) hp := ax_iload dX8_draftCompletion_78 rfl rfl
theorem dX8_draftCompletion_80 : decode cX8_draftCompletion 80 = .ok (.aload_n 0, 1) := by decide +kernel
theorem sX8_draftCompletion_80 : ab_X rom K cX8_draftCompletion 6 2 80 (.ref a :: ls) st hp = ab_X rom K cX8_draftCompletion 6 2 81 (.ref a :: ls) (.ref a :: st) hp := ax_aload_n dX8_draftCompletion_80 rfl rfl
theorem dX8_draftCompletion_81 : decode cX8_draftCompletion 81 = .ok (.getfield 51, 3) := by decide +kernel
theorem sX8_draftCompletion_81 : ab_X rom K cX8_draftCompletion 6 2 81 ls (.ref a :: st) hp = (ab_fld hp a 6 6).bind (fun v => ab_X rom K cX8_draftCompletion 6 2 84 ls (v :: st) hp) := ax_getfield dX8_draftCompletion_81 kf_6_51 rfl
theorem dX8_draftCompletion_84 : decode cX8_draftCompletion 84 = .ok (.getfield 187, 3) := by decide +kernel
theorem sX8_draftCompletion_84 : ab_X rom K cX8_draftCompletion 6 2 84 ls (.ref a :: st) hp = (ab_fld hp a 4 0).bind (fun v => ab_X rom K cX8_draftCompletion 6 2 87 ls (v :: st) hp) := ax_getfield dX8_draftCompletion_84 kf_6_187 rfl
theorem dX8_draftCompletion_87 : decode cX8_draftCompletion 87 = .ok (.getfield 191, 3) := by decide +kernel
theorem sX8_draftCompletion_87 : ab_X rom K cX8_draftCompletion 6 2 87 ls (.ref a :: st) hp = (ab_fld hp a 0 0).bind (fun v => ab_X rom K cX8_draftCompletion 6 2 90 ls (v :: st) hp) := ax_getfield dX8_draftCompletion_87 kf_6_191 rfl
theorem dX8_draftCompletion_90 : decode cX8_draftCompletion 90 = .ok (.if_icmp .lt 5, 3) := by decide +kernel
theorem sX8_draftCompletion_90 : ab_X rom K cX8_draftCompletion 6 2 90 ls (.int y :: .int x :: st) hp = if x < y then ab_X rom K cX8_draftCompletion 6 2 95 ls st hp else ab_X rom K cX8_draftCompletion 6 2 93 ls st hp := ax_icmp_lt dX8_draftCompletion_90 (by decide) rfl
theorem dX8_draftCompletion_93 : decode cX8_draftCompletion 93 = .ok (.iconst 0, 1) := by decide +kernel
theorem sX8_draftCompletion_93 : ab_X rom K cX8_draftCompletion 6 2 93 ls st hp = ab_X rom K cX8_draftCompletion 6 2 94 ls (.int 0 :: st) hp := ax_iconst dX8_draftCompletion_93 (by decide) rfl
theorem dX8_draftCompletion_94 : decode cX8_draftCompletion 94 = .ok (.ireturn, 1) := by decide +kernel
theorem sX8_draftCompletion_94 : ab_X rom K cX8_draftCompletion 6 2 94 ls [.int x] hp = if x = 0 ∨ x = 1 then some (some (.int x), hp) else none := ay_zret dX8_draftCompletion_94 rfl
theorem dX8_draftCompletion_95 : decode cX8_draftCompletion 95 = .ok (.aload_n 0, 1) := by decide +kernel
theorem sX8_draftCompletion_95 : ab_X rom K cX8_draftCompletion 6 2 95 (.ref a :: ls) st hp = ab_X rom K cX8_draftCompletion 6 2 96 (.ref a :: ls) (.ref a :: st) hp := ax_aload_n dX8_draftCompletion_95 rfl rfl
theorem dX8_draftCompletion_96 : decode cX8_draftCompletion 96 = .ok (.getfield 51, 3) := by decide +kernel
theorem sX8_draftCompletion_96 : ab_X rom K cX8_draftCompletion 6 2 96 ls (.ref a :: st) hp = (ab_fld hp a 6 6).bind (fun v => ab_X rom K cX8_draftCompletion 6 2 99 ls (v :: st) hp) := ax_getfield dX8_draftCompletion_96 kf_6_51 rfl
theorem dX8_draftCompletion_99 : decode cX8_draftCompletion 99 = .ok (.getfield 187, 3) := by decide +kernel
theorem sX8_draftCompletion_99 : ab_X rom K cX8_draftCompletion 6 2 99 ls (.ref a :: st) hp = (ab_fld hp a 4 0).bind (fun v => ab_X rom K cX8_draftCompletion 6 2 102 ls (v :: st) hp) := ax_getfield dX8_draftCompletion_99 kf_6_187 rfl
theorem dX8_draftCompletion_102 : decode cX8_draftCompletion 102 = .ok (.getfield 191, 3) := by decide +kernel
theorem sX8_draftCompletion_102 : ab_X rom K cX8_draftCompletion 6 2 102 ls (.ref a :: st) hp = (ab_fld hp a 0 0).bind (fun v => ab_X rom K cX8_draftCompletion 6 2 105 ls (v :: st) hp) := ax_getfield dX8_draftCompletion_102 kf_6_191 rfl
theorem dX8_draftCompletion_105 : decode cX8_draftCompletion 105 = .ok (.iconst 1, 1) := by decide +kernel
theorem sX8_draftCompletion_105 : ab_X rom K cX8_draftCompletion 6 2 105 ls st hp = ab_X rom K cX8_draftCompletion 6 2 106 ls (.int 1 :: st) hp := ax_iconst dX8_draftCompletion_105 (by decide) rfl
theorem dX8_draftCompletion_106 : decode cX8_draftCompletion 106 = .ok (.if_icmp .ne 19, 3) := by decide +kernel
theorem sX8_draftCompletion_106 : ab_X rom K cX8_draftCompletion 6 2 106 ls (.int y :: .int x :: st) hp = if x = y then ab_X rom K cX8_draftCompletion 6 2 109 ls st hp else ab_X rom K cX8_draftCompletion 6 2 125 ls st hp := ax_icmp_ne dX8_draftCompletion_106 (by decide) rfl
theorem dX8_draftCompletion_109 : decode cX8_draftCompletion 109 = .ok (.aload_n 0, 1) := by decide +kernel
theorem sX8_draftCompletion_109 : ab_X rom K cX8_draftCompletion 6 2 109 (.ref a :: ls) st hp = ab_X rom K cX8_draftCompletion 6 2 110 (.ref a :: ls) (.ref a :: st) hp := ax_aload_n dX8_draftCompletion_109 rfl rfl
theorem dX8_draftCompletion_110 : decode cX8_draftCompletion 110 = .ok (.getfield 51, 3) := by decide +kernel
theorem sX8_draftCompletion_110 : ab_X rom K cX8_draftCompletion 6 2 110 ls (.ref a :: st) hp = (ab_fld hp a 6 6).bind (fun v => ab_X rom K cX8_draftCompletion 6 2 113 ls (v :: st) hp) := ax_getfield dX8_draftCompletion_110 kf_6_51 rfl
theorem dX8_draftCompletion_113 : decode cX8_draftCompletion 113 = .ok (.getfield 187, 3) := by decide +kernel
theorem sX8_draftCompletion_113 : ab_X rom K cX8_draftCompletion 6 2 113 ls (.ref a :: st) hp = (ab_fld hp a 4 0).bind (fun v => ab_X rom K cX8_draftCompletion 6 2 116 ls (v :: st) hp) := ax_getfield dX8_draftCompletion_113 kf_6_187 rfl
theorem dX8_draftCompletion_116 : decode cX8_draftCompletion 116 = .ok (.aload_n 0, 1) := by decide +kernel
theorem sX8_draftCompletion_116 : ab_X rom K cX8_draftCompletion 6 2 116 (.ref a :: ls) st hp = ab_X rom K cX8_draftCompletion 6 2 117 (.ref a :: ls) (.ref a :: st) hp := ax_aload_n dX8_draftCompletion_116 rfl rfl
theorem dX8_draftCompletion_117 : decode cX8_draftCompletion 117 = .ok (.getfield 26, 3) := by decide +kernel
theorem sX8_draftCompletion_117 : ab_X rom K cX8_draftCompletion 6 2 117 ls (.ref a :: st) hp = (ab_fld hp a 6 4).bind (fun v => ab_X rom K cX8_draftCompletion 6 2 120 ls (v :: st) hp) := ax_getfield dX8_draftCompletion_117 kf_6_26 rfl
theorem dX8_draftCompletion_120 : decode cX8_draftCompletion 120 = .ok (.invokevirtual 291, 3) := by decide +kernel
theorem sX8_draftCompletion_120_0 : ab_X rom K cX8_draftCompletion 6 2 120 ls [w1, .ref a] hp = if ab_iso hp a 0 = true then (K 10 (.ref a :: [w1]) hp).bind (fun o => ab_X rom K cX8_draftCompletion 6 2 123 ls (o.1.toList ++ []) o.2) else none := ay_virtual (as := [w1]) (st := []) dX8_draftCompletion_120 kc_6_291 rfl rfl (Nat.le_of_ble_eq_true rfl)
theorem sX8_draftCompletion_120_1 : ab_X rom K cX8_draftCompletion 6 2 120 ls [w1, .ref a, v0] hp = if ab_iso hp a 0 = true then (K 10 (.ref a :: [w1]) hp).bind (fun o => ab_X rom K cX8_draftCompletion 6 2 123 ls (o.1.toList ++ [v0]) o.2) else none := ay_virtual (as := [w1]) (st := [v0]) dX8_draftCompletion_120 kc_6_291 rfl rfl (Nat.le_of_ble_eq_true rfl)
theorem sX8_draftCompletion_120_2 : ab_X rom K cX8_draftCompletion 6 2 120 ls [w1, .ref a, v0, v1] hp = if ab_iso hp a 0 = true then (K 10 (.ref a :: [w1]) hp).bind (fun o => ab_X rom K cX8_draftCompletion 6 2 123 ls (o.1.toList ++ [v0, v1]) o.2) else none := ay_virtual (as := [w1]) (st := [v0, v1]) dX8_draftCompletion_120 kc_6_291 rfl rfl (Nat.le_of_ble_eq_true rfl)
theorem sX8_draftCompletion_120_3 : ab_X rom K cX8_draftCompletion 6 2 120 ls [w1, .ref a, v0, v1, v2] hp = if ab_iso hp a 0 = true then (K 10 (.ref a :: [w1]) hp).bind (fun o => ab_X rom K cX8_draftCompletion 6 2 123 ls (o.1.toList ++ [v0, v1, v2]) o.2) else none := ay_virtual (as := [w1]) (st := [v0, v1, v2]) dX8_draftCompletion_120 kc_6_291 rfl rfl (Nat.le_of_ble_eq_true rfl)
theorem dX8_draftCompletion_123 : decode cX8_draftCompletion 123 = .ok (.iconst 1, 1) := by decide +kernel
theorem sX8_draftCompletion_123 : ab_X rom K cX8_draftCompletion 6 2 123 ls st hp = ab_X rom K cX8_draftCompletion 6 2 124 ls (.int 1 :: st) hp := ax_iconst dX8_draftCompletion_123 (by decide) rfl
theorem dX8_draftCompletion_124 : decode cX8_draftCompletion 124 = .ok (.ireturn, 1) := by decide +kernel
theorem sX8_draftCompletion_124 : ab_X rom K cX8_draftCompletion 6 2 124 ls [.int x] hp = if x = 0 ∨ x = 1 then some (some (.int x), hp) else none := ay_zret dX8_draftCompletion_124 rfl
theorem dX8_draftCompletion_125 : decode cX8_draftCompletion 125 = .ok (.aload_n 0, 1) := by decide +kernel
theorem sX8_draftCompletion_125 : ab_X rom K cX8_draftCompletion 6 2 125 (.ref a :: ls) st hp = ab_X rom K cX8_draftCompletion 6 2 126 (.ref a :: ls) (.ref a :: st) hp := ax_aload_n dX8_draftCompletion_125 rfl rfl
theorem dX8_draftCompletion_126 : decode cX8_draftCompletion 126 = .ok (.getfield 51, 3) := by decide +kernel
theorem sX8_draftCompletion_126 : ab_X rom K cX8_draftCompletion 6 2 126 ls (.ref a :: st) hp = (ab_fld hp a 6 6).bind (fun v => ab_X rom K cX8_draftCompletion 6 2 129 ls (v :: st) hp) := ax_getfield dX8_draftCompletion_126 kf_6_51 rfl
theorem dX8_draftCompletion_129 : decode cX8_draftCompletion 129 = .ok (.getfield 187, 3) := by decide +kernel
theorem sX8_draftCompletion_129 : ab_X rom K cX8_draftCompletion 6 2 129 ls (.ref a :: st) hp = (ab_fld hp a 4 0).bind (fun v => ab_X rom K cX8_draftCompletion 6 2 132 ls (v :: st) hp) := ax_getfield dX8_draftCompletion_129 kf_6_187 rfl
theorem dX8_draftCompletion_132 : decode cX8_draftCompletion 132 = .ok (.iload 4, 2) := by decide +kernel
theorem sX8_draftCompletion_132 : ab_X rom K cX8_draftCompletion 6 2 132 (v0 :: v1 :: v2 :: v3 :: .int x :: ls) st hp = ab_X rom K cX8_draftCompletion 6 2 134 (v0 :: v1 :: v2 :: v3 :: .int x :: ls) (.int x :: st) hp := ax_iload dX8_draftCompletion_132 rfl rfl
theorem dX8_draftCompletion_134 : decode cX8_draftCompletion 134 = .ok (.invokevirtual 294, 3) := by decide +kernel
theorem sX8_draftCompletion_134_0 : ab_X rom K cX8_draftCompletion 6 2 134 ls [w1, .ref a] hp = if ab_iso hp a 0 = true then (K 7 (.ref a :: [w1]) hp).bind (fun o => ab_X rom K cX8_draftCompletion 6 2 137 ls (o.1.toList ++ []) o.2) else none := ay_virtual (as := [w1]) (st := []) dX8_draftCompletion_134 kc_6_294 rfl rfl (Nat.le_of_ble_eq_true rfl)
theorem sX8_draftCompletion_134_1 : ab_X rom K cX8_draftCompletion 6 2 134 ls [w1, .ref a, v0] hp = if ab_iso hp a 0 = true then (K 7 (.ref a :: [w1]) hp).bind (fun o => ab_X rom K cX8_draftCompletion 6 2 137 ls (o.1.toList ++ [v0]) o.2) else none := ay_virtual (as := [w1]) (st := [v0]) dX8_draftCompletion_134 kc_6_294 rfl rfl (Nat.le_of_ble_eq_true rfl)
theorem sX8_draftCompletion_134_2 : ab_X rom K cX8_draftCompletion 6 2 134 ls [w1, .ref a, v0, v1] hp = if ab_iso hp a 0 = true then (K 7 (.ref a :: [w1]) hp).bind (fun o => ab_X rom K cX8_draftCompletion 6 2 137 ls (o.1.toList ++ [v0, v1]) o.2) else none := ay_virtual (as := [w1]) (st := [v0, v1]) dX8_draftCompletion_134 kc_6_294 rfl rfl (Nat.le_of_ble_eq_true rfl)
theorem sX8_draftCompletion_134_3 : ab_X rom K cX8_draftCompletion 6 2 134 ls [w1, .ref a, v0, v1, v2] hp = if ab_iso hp a 0 = true then (K 7 (.ref a :: [w1]) hp).bind (fun o => ab_X rom K cX8_draftCompletion 6 2 137 ls (o.1.toList ++ [v0, v1, v2]) o.2) else none := ay_virtual (as := [w1]) (st := [v0, v1, v2]) dX8_draftCompletion_134 kc_6_294 rfl rfl (Nat.le_of_ble_eq_true rfl)
theorem dX8_draftCompletion_137 : decode cX8_draftCompletion 137 = .ok (.istore 6, 2) := by decide +kernel
theorem sX8_draftCompletion_137i : ab_X rom K cX8_draftCompletion 6 2 137 (v0 :: v1 :: v2 :: v3 :: v4 :: .int y :: v6 :: ls) (.int x :: st) hp = ab_X rom K cX8_draftCompletion 6 2 139 (v0 :: v1 :: v2 :: v3 :: v4 :: .int y :: .int x :: ls) st hp := ax_istore dX8_draftCompletion_137 (ax_lt (v := v6) rfl) (ab_nl_c1 (j := 5) (v := .int y) rfl (ab_c1_int _)) rfl rfl
theorem sX8_draftCompletion_137r : ab_X rom K cX8_draftCompletion 6 2 137 (v0 :: v1 :: v2 :: v3 :: v4 :: .ref a2 :: v6 :: ls) (.int x :: st) hp = ab_X rom K cX8_draftCompletion 6 2 139 (v0 :: v1 :: v2 :: v3 :: v4 :: .ref a2 :: .int x :: ls) st hp := ax_istore dX8_draftCompletion_137 (ax_lt (v := v6) rfl) (ab_nl_c1 (j := 5) (v := .ref a2) rfl (ab_c1_ref _)) rfl rfl
theorem sX8_draftCompletion_137n : ab_X rom K cX8_draftCompletion 6 2 137 (v0 :: v1 :: v2 :: v3 :: v4 :: .null :: v6 :: ls) (.int x :: st) hp = ab_X rom K cX8_draftCompletion 6 2 139 (v0 :: v1 :: v2 :: v3 :: v4 :: .null :: .int x :: ls) st hp := ax_istore dX8_draftCompletion_137 (ax_lt (v := v6) rfl) (ab_nl_c1 (j := 5) (v := .null) rfl ab_c1_null) rfl rfl
theorem dX8_draftCompletion_139 : decode cX8_draftCompletion 139 = .ok (.iload 4, 2) := by decide +kernel
theorem sX8_draftCompletion_139 : ab_X rom K cX8_draftCompletion 6 2 139 (v0 :: v1 :: v2 :: v3 :: .int x :: ls) st hp = ab_X rom K cX8_draftCompletion 6 2 141 (v0 :: v1 :: v2 :: v3 :: .int x :: ls) (.int x :: st) hp := ax_iload dX8_draftCompletion_139 rfl rfl
theorem dX8_draftCompletion_141 : decode cX8_draftCompletion 141 = .ok (.aload_n 0, 1) := by decide +kernel
theorem sX8_draftCompletion_141 : ab_X rom K cX8_draftCompletion 6 2 141 (.ref a :: ls) st hp = ab_X rom K cX8_draftCompletion 6 2 142 (.ref a :: ls) (.ref a :: st) hp := ax_aload_n dX8_draftCompletion_141 rfl rfl
theorem dX8_draftCompletion_142 : decode cX8_draftCompletion 142 = .ok (.getfield 51, 3) := by decide +kernel
theorem sX8_draftCompletion_142 : ab_X rom K cX8_draftCompletion 6 2 142 ls (.ref a :: st) hp = (ab_fld hp a 6 6).bind (fun v => ab_X rom K cX8_draftCompletion 6 2 145 ls (v :: st) hp) := ax_getfield dX8_draftCompletion_142 kf_6_51 rfl
theorem dX8_draftCompletion_145 : decode cX8_draftCompletion 145 = .ok (.getfield 187, 3) := by decide +kernel
theorem sX8_draftCompletion_145 : ab_X rom K cX8_draftCompletion 6 2 145 ls (.ref a :: st) hp = (ab_fld hp a 4 0).bind (fun v => ab_X rom K cX8_draftCompletion 6 2 148 ls (v :: st) hp) := ax_getfield dX8_draftCompletion_145 kf_6_187 rfl
theorem dX8_draftCompletion_148 : decode cX8_draftCompletion 148 = .ok (.iload 6, 2) := by decide +kernel
theorem sX8_draftCompletion_148 : ab_X rom K cX8_draftCompletion 6 2 148 (v0 :: v1 :: v2 :: v3 :: v4 :: v5 :: .int x :: ls) st hp = ab_X rom K cX8_draftCompletion 6 2 150 (v0 :: v1 :: v2 :: v3 :: v4 :: v5 :: .int x :: ls) (.int x :: st) hp := ax_iload dX8_draftCompletion_148 rfl rfl
theorem dX8_draftCompletion_150 : decode cX8_draftCompletion 150 = .ok (.invokevirtual 297, 3) := by decide +kernel
theorem sX8_draftCompletion_150_0 : ab_X rom K cX8_draftCompletion 6 2 150 ls [w1, .ref a] hp = if ab_iso hp a 0 = true then (K 6 (.ref a :: [w1]) hp).bind (fun o => ab_X rom K cX8_draftCompletion 6 2 153 ls (o.1.toList ++ []) o.2) else none := ay_virtual (as := [w1]) (st := []) dX8_draftCompletion_150 kc_6_297 rfl rfl (Nat.le_of_ble_eq_true rfl)
theorem sX8_draftCompletion_150_1 : ab_X rom K cX8_draftCompletion 6 2 150 ls [w1, .ref a, v0] hp = if ab_iso hp a 0 = true then (K 6 (.ref a :: [w1]) hp).bind (fun o => ab_X rom K cX8_draftCompletion 6 2 153 ls (o.1.toList ++ [v0]) o.2) else none := ay_virtual (as := [w1]) (st := [v0]) dX8_draftCompletion_150 kc_6_297 rfl rfl (Nat.le_of_ble_eq_true rfl)
theorem sX8_draftCompletion_150_2 : ab_X rom K cX8_draftCompletion 6 2 150 ls [w1, .ref a, v0, v1] hp = if ab_iso hp a 0 = true then (K 6 (.ref a :: [w1]) hp).bind (fun o => ab_X rom K cX8_draftCompletion 6 2 153 ls (o.1.toList ++ [v0, v1]) o.2) else none := ay_virtual (as := [w1]) (st := [v0, v1]) dX8_draftCompletion_150 kc_6_297 rfl rfl (Nat.le_of_ble_eq_true rfl)
theorem sX8_draftCompletion_150_3 : ab_X rom K cX8_draftCompletion 6 2 150 ls [w1, .ref a, v0, v1, v2] hp = if ab_iso hp a 0 = true then (K 6 (.ref a :: [w1]) hp).bind (fun o => ab_X rom K cX8_draftCompletion 6 2 153 ls (o.1.toList ++ [v0, v1, v2]) o.2) else none := ay_virtual (as := [w1]) (st := [v0, v1, v2]) dX8_draftCompletion_150 kc_6_297 rfl rfl (Nat.le_of_ble_eq_true rfl)
theorem dX8_draftCompletion_153 : decode cX8_draftCompletion 153 = .ok (.isub, 1) := by decide +kernel
theorem sX8_draftCompletion_153 : ab_X rom K cX8_draftCompletion 6 2 153 ls (.int y :: .int x :: st) hp = ab_X rom K cX8_draftCompletion 6 2 154 ls (.int (x - y) :: st) hp := ax_isub dX8_draftCompletion_153 rfl
theorem dX8_draftCompletion_154 : decode cX8_draftCompletion 154 = .ok (.istore 4, 2) := by decide +kernel
theorem sX8_draftCompletion_154i : ab_X rom K cX8_draftCompletion 6 2 154 (v0 :: v1 :: v2 :: .int y :: v4 :: ls) (.int x :: st) hp = ab_X rom K cX8_draftCompletion 6 2 156 (v0 :: v1 :: v2 :: .int y :: .int x :: ls) st hp := ax_istore dX8_draftCompletion_154 (ax_lt (v := v4) rfl) (ab_nl_c1 (j := 3) (v := .int y) rfl (ab_c1_int _)) rfl rfl
theorem sX8_draftCompletion_154r : ab_X rom K cX8_draftCompletion 6 2 154 (v0 :: v1 :: v2 :: .ref a2 :: v4 :: ls) (.int x :: st) hp = ab_X rom K cX8_draftCompletion 6 2 156 (v0 :: v1 :: v2 :: .ref a2 :: .int x :: ls) st hp := ax_istore dX8_draftCompletion_154 (ax_lt (v := v4) rfl) (ab_nl_c1 (j := 3) (v := .ref a2) rfl (ab_c1_ref _)) rfl rfl
theorem sX8_draftCompletion_154n : ab_X rom K cX8_draftCompletion 6 2 154 (v0 :: v1 :: v2 :: .null :: v4 :: ls) (.int x :: st) hp = ab_X rom K cX8_draftCompletion 6 2 156 (v0 :: v1 :: v2 :: .null :: .int x :: ls) st hp := ax_istore dX8_draftCompletion_154 (ax_lt (v := v4) rfl) (ab_nl_c1 (j := 3) (v := .null) rfl ab_c1_null) rfl rfl
theorem dX8_draftCompletion_156 : decode cX8_draftCompletion 156 = .ok (.aload_n 0, 1) := by decide +kernel
theorem sX8_draftCompletion_156 : ab_X rom K cX8_draftCompletion 6 2 156 (.ref a :: ls) st hp = ab_X rom K cX8_draftCompletion 6 2 157 (.ref a :: ls) (.ref a :: st) hp := ax_aload_n dX8_draftCompletion_156 rfl rfl
theorem dX8_draftCompletion_157 : decode cX8_draftCompletion 157 = .ok (.getfield 26, 3) := by decide +kernel
theorem sX8_draftCompletion_157 : ab_X rom K cX8_draftCompletion 6 2 157 ls (.ref a :: st) hp = (ab_fld hp a 6 4).bind (fun v => ab_X rom K cX8_draftCompletion 6 2 160 ls (v :: st) hp) := ax_getfield dX8_draftCompletion_157 kf_6_26 rfl
theorem dX8_draftCompletion_160 : decode cX8_draftCompletion 160 = .ok (.getfield 152, 3) := by decide +kernel
theorem sX8_draftCompletion_160 : ab_X rom K cX8_draftCompletion 6 2 160 ls (.ref a :: st) hp = (ab_fld hp a 1 4).bind (fun v => ab_X rom K cX8_draftCompletion 6 2 163 ls (v :: st) hp) := ax_getfield dX8_draftCompletion_160 kf_6_152 rfl
theorem dX8_draftCompletion_163 : decode cX8_draftCompletion 163 = .ok (.iload 5, 2) := by decide +kernel
theorem sX8_draftCompletion_163 : ab_X rom K cX8_draftCompletion 6 2 163 (v0 :: v1 :: v2 :: v3 :: v4 :: .int x :: ls) st hp = ab_X rom K cX8_draftCompletion 6 2 165 (v0 :: v1 :: v2 :: v3 :: v4 :: .int x :: ls) (.int x :: st) hp := ax_iload dX8_draftCompletion_163 rfl rfl
theorem dX8_draftCompletion_165 : decode cX8_draftCompletion 165 = .ok (.iload 6, 2) := by decide +kernel
theorem sX8_draftCompletion_165 : ab_X rom K cX8_draftCompletion 6 2 165 (v0 :: v1 :: v2 :: v3 :: v4 :: v5 :: .int x :: ls) st hp = ab_X rom K cX8_draftCompletion 6 2 167 (v0 :: v1 :: v2 :: v3 :: v4 :: v5 :: .int x :: ls) (.int x :: st) hp := ax_iload dX8_draftCompletion_165 rfl rfl
theorem dX8_draftCompletion_167 : decode cX8_draftCompletion 167 = .ok (.iastore, 1) := by decide +kernel
theorem sX8_draftCompletion_167 : ab_X rom K cX8_draftCompletion 6 2 167 ls (.int y :: .int x :: .ref a :: st) hp = (ab_awr 0 hp a x y).bind (fun hp' => ab_X rom K cX8_draftCompletion 6 2 168 ls st hp') := ax_iastore dX8_draftCompletion_167 rfl
theorem dX8_draftCompletion_168 : decode cX8_draftCompletion 168 = .ok (.iinc 5 1, 3) := by decide +kernel
theorem sX8_draftCompletion_168i : ab_X rom K cX8_draftCompletion 6 2 168 (v0 :: v1 :: v2 :: v3 :: .int y :: .int x :: ls) st hp = ab_X rom K cX8_draftCompletion 6 2 171 (v0 :: v1 :: v2 :: v3 :: .int y :: .int (x + 1) :: ls) st hp := ax_iinc dX8_draftCompletion_168 rfl (ab_nl_c1 (j := 4) (v := .int y) rfl (ab_c1_int _)) (by decide) rfl rfl
theorem sX8_draftCompletion_168r : ab_X rom K cX8_draftCompletion 6 2 168 (v0 :: v1 :: v2 :: v3 :: .ref a2 :: .int x :: ls) st hp = ab_X rom K cX8_draftCompletion 6 2 171 (v0 :: v1 :: v2 :: v3 :: .ref a2 :: .int (x + 1) :: ls) st hp := ax_iinc dX8_draftCompletion_168 rfl (ab_nl_c1 (j := 4) (v := .ref a2) rfl (ab_c1_ref _)) (by decide) rfl rfl
theorem sX8_draftCompletion_168n : ab_X rom K cX8_draftCompletion 6 2 168 (v0 :: v1 :: v2 :: v3 :: .null :: .int x :: ls) st hp = ab_X rom K cX8_draftCompletion 6 2 171 (v0 :: v1 :: v2 :: v3 :: .null :: .int (x + 1) :: ls) st hp := ax_iinc dX8_draftCompletion_168 rfl (ab_nl_c1 (j := 4) (v := .null) rfl ab_c1_null) (by decide) rfl rfl
theorem dX8_draftCompletion_171 : decode cX8_draftCompletion 171 = .ok (.goto (-152), 3) := by decide +kernel
theorem sX8_draftCompletion_171 : ab_X rom K cX8_draftCompletion 6 2 171 ls st hp = ab_X rom K cX8_draftCompletion 6 2 19 ls st hp := ax_goto dX8_draftCompletion_171 (by decide)
theorem dX8_draftCompletion_174 : decode cX8_draftCompletion 174 = .ok (.iconst 1, 1) := by decide +kernel
theorem sX8_draftCompletion_174 : ab_X rom K cX8_draftCompletion 6 2 174 ls st hp = ab_X rom K cX8_draftCompletion 6 2 175 ls (.int 1 :: st) hp := ax_iconst dX8_draftCompletion_174 (by decide) rfl
theorem dX8_draftCompletion_175 : decode cX8_draftCompletion 175 = .ok (.ireturn, 1) := by decide +kernel
theorem sX8_draftCompletion_175 : ab_X rom K cX8_draftCompletion 6 2 175 ls [.int x] hp = if x = 0 ∨ x = 1 then some (some (.int x), hp) else none := ay_zret dX8_draftCompletion_175 rfl
theorem tX8_drops : ab_mT[87]? = some (yX8_drops, cX8_drops, 2, 1, 6) := by decide +kernel
theorem mX8_drops {d : Nat} {a0 : Nat} {x0 : Int32} : ab_M rom (d + 1) 87 [.ref a0, .int x0] hp = ab_X rom (ab_M rom d) cX8_drops 6 1 0 [.ref a0, .int x0] [] hp := ab_M_eq tX8_drops (Nat.le_of_ble_eq_true rfl)
theorem dX8_drops_0 : decode cX8_drops 0 = .ok (.iload_n 1, 1) := by decide +kernel
theorem sX8_drops_0 : ab_X rom K cX8_drops 6 1 0 (v0 :: .int x :: ls) st hp = ab_X rom K cX8_drops 6 1 1 (v0 :: .int x :: ls) (.int x :: st) hp := ax_iload_n dX8_drops_0 rfl rfl
theorem dX8_drops_1 : decode cX8_drops 1 = .ok (.invokestatic 76, 3) := by decide +kernel
theorem sX8_drops_1_0 : ab_X rom K cX8_drops 6 1 1 ls [w1] hp = (K 101 [w1] hp).bind (fun o => ab_X rom K cX8_drops 6 1 4 ls (o.1.toList ++ []) o.2) := ax_static (as := [w1]) (st := []) dX8_drops_1 kc_6_76 rfl rfl (Nat.le_of_ble_eq_true rfl)
theorem sX8_drops_1_1 : ab_X rom K cX8_drops 6 1 1 ls [w1, v0] hp = (K 101 [w1] hp).bind (fun o => ab_X rom K cX8_drops 6 1 4 ls (o.1.toList ++ [v0]) o.2) := ax_static (as := [w1]) (st := [v0]) dX8_drops_1 kc_6_76 rfl rfl (Nat.le_of_ble_eq_true rfl)
theorem sX8_drops_1_2 : ab_X rom K cX8_drops 6 1 1 ls [w1, v0, v1] hp = (K 101 [w1] hp).bind (fun o => ab_X rom K cX8_drops 6 1 4 ls (o.1.toList ++ [v0, v1]) o.2) := ax_static (as := [w1]) (st := [v0, v1]) dX8_drops_1 kc_6_76 rfl rfl (Nat.le_of_ble_eq_true rfl)
theorem sX8_drops_1_3 : ab_X rom K cX8_drops 6 1 1 ls [w1, v0, v1, v2] hp = (K 101 [w1] hp).bind (fun o => ab_X rom K cX8_drops 6 1 4 ls (o.1.toList ++ [v0, v1, v2]) o.2) := ax_static (as := [w1]) (st := [v0, v1, v2]) dX8_drops_1 kc_6_76 rfl rfl (Nat.le_of_ble_eq_true rfl)
theorem dX8_drops_4 : decode cX8_drops 4 = .ok (.ifCond .ne 6, 3) := by decide +kernel
theorem sX8_drops_4 : ab_X rom K cX8_drops 6 1 4 ls (.int x :: st) hp = if x = 0 then ab_X rom K cX8_drops 6 1 7 ls st hp else ab_X rom K cX8_drops 6 1 10 ls st hp := ax_if_ne dX8_drops_4 (by decide) rfl
theorem dX8_drops_7 : decode cX8_drops 7 = .ok (.bipush (-2), 2) := by decide +kernel
theorem sX8_drops_7 : ab_X rom K cX8_drops 6 1 7 ls st hp = ab_X rom K cX8_drops 6 1 9 ls (.int (-2) :: st) hp := ax_bipush dX8_drops_7 (by decide) rfl
theorem dX8_drops_9 : decode cX8_drops 9 = .ok (.ireturn, 1) := by decide +kernel
theorem sX8_drops_9 : ab_X rom K cX8_drops 6 1 9 ls [.int x] hp = some (some (.int x), hp) := ax_iret dX8_drops_9 rfl
theorem dX8_drops_10 : decode cX8_drops 10 = .ok (.aload_n 0, 1) := by decide +kernel
theorem sX8_drops_10 : ab_X rom K cX8_drops 6 1 10 (.ref a :: ls) st hp = ab_X rom K cX8_drops 6 1 11 (.ref a :: ls) (.ref a :: st) hp := ax_aload_n dX8_drops_10 rfl rfl
theorem dX8_drops_11 : decode cX8_drops 11 = .ok (.getfield 21, 3) := by decide +kernel
theorem sX8_drops_11 : ab_X rom K cX8_drops 6 1 11 ls (.ref a :: st) hp = (ab_fld hp a 6 3).bind (fun v => ab_X rom K cX8_drops 6 1 14 ls (v :: st) hp) := ax_getfield dX8_drops_11 kf_6_21 rfl
theorem dX8_drops_14 : decode cX8_drops 14 = .ok (.iload_n 1, 1) := by decide +kernel
theorem sX8_drops_14 : ab_X rom K cX8_drops 6 1 14 (v0 :: .int x :: ls) st hp = ab_X rom K cX8_drops 6 1 15 (v0 :: .int x :: ls) (.int x :: st) hp := ax_iload_n dX8_drops_14 rfl rfl
theorem dX8_drops_15 : decode cX8_drops 15 = .ok (.aaload, 1) := by decide +kernel
theorem sX8_drops_15 : ab_X rom K cX8_drops 6 1 15 ls (.int x :: .ref a :: st) hp = (ab_rrd hp a x).bind (fun v => ab_X rom K cX8_drops 6 1 16 ls (.ref v :: st) hp) := ax_aaload dX8_drops_15 rfl
theorem dX8_drops_16 : decode cX8_drops 16 = .ok (.getfield 102, 3) := by decide +kernel
theorem sX8_drops_16 : ab_X rom K cX8_drops 6 1 16 ls (.ref a :: st) hp = (ab_fld hp a 1 0).bind (fun v => ab_X rom K cX8_drops 6 1 19 ls (v :: st) hp) := ax_getfield dX8_drops_16 kf_6_102 rfl
theorem dX8_drops_19 : decode cX8_drops 19 = .ok (.ifCond .ne 5, 3) := by decide +kernel
theorem sX8_drops_19 : ab_X rom K cX8_drops 6 1 19 ls (.int x :: st) hp = if x = 0 then ab_X rom K cX8_drops 6 1 22 ls st hp else ab_X rom K cX8_drops 6 1 24 ls st hp := ax_if_ne dX8_drops_19 (by decide) rfl
theorem dX8_drops_22 : decode cX8_drops 22 = .ok (.iconst 0, 1) := by decide +kernel
theorem sX8_drops_22 : ab_X rom K cX8_drops 6 1 22 ls st hp = ab_X rom K cX8_drops 6 1 23 ls (.int 0 :: st) hp := ax_iconst dX8_drops_22 (by decide) rfl
theorem dX8_drops_23 : decode cX8_drops 23 = .ok (.ireturn, 1) := by decide +kernel
theorem sX8_drops_23 : ab_X rom K cX8_drops 6 1 23 ls [.int x] hp = some (some (.int x), hp) := ax_iret dX8_drops_23 rfl
theorem dX8_drops_24 : decode cX8_drops 24 = .ok (.aload_n 0, 1) := by decide +kernel
theorem sX8_drops_24 : ab_X rom K cX8_drops 6 1 24 (.ref a :: ls) st hp = ab_X rom K cX8_drops 6 1 25 (.ref a :: ls) (.ref a :: st) hp := ax_aload_n dX8_drops_24 rfl rfl
theorem dX8_drops_25 : decode cX8_drops 25 = .ok (.getfield 42, 3) := by decide +kernel
theorem sX8_drops_25 : ab_X rom K cX8_drops 6 1 25 ls (.ref a :: st) hp = (ab_fld hp a 6 5).bind (fun v => ab_X rom K cX8_drops 6 1 28 ls (v :: st) hp) := ax_getfield dX8_drops_25 kf_6_42 rfl
theorem dX8_drops_28 : decode cX8_drops 28 = .ok (.iload_n 1, 1) := by decide +kernel
theorem sX8_drops_28 : ab_X rom K cX8_drops 6 1 28 (v0 :: .int x :: ls) st hp = ab_X rom K cX8_drops 6 1 29 (v0 :: .int x :: ls) (.int x :: st) hp := ax_iload_n dX8_drops_28 rfl rfl
theorem dX8_drops_29 : decode cX8_drops 29 = .ok (.aload_n 0, 1) := by decide +kernel
theorem sX8_drops_29 : ab_X rom K cX8_drops 6 1 29 (.ref a :: ls) st hp = ab_X rom K cX8_drops 6 1 30 (.ref a :: ls) (.ref a :: st) hp := ax_aload_n dX8_drops_29 rfl rfl
theorem dX8_drops_30 : decode cX8_drops 30 = .ok (.getfield 21, 3) := by decide +kernel
theorem sX8_drops_30 : ab_X rom K cX8_drops 6 1 30 ls (.ref a :: st) hp = (ab_fld hp a 6 3).bind (fun v => ab_X rom K cX8_drops 6 1 33 ls (v :: st) hp) := ax_getfield dX8_drops_30 kf_6_21 rfl
theorem dX8_drops_33 : decode cX8_drops 33 = .ok (.iload_n 1, 1) := by decide +kernel
theorem sX8_drops_33 : ab_X rom K cX8_drops 6 1 33 (v0 :: .int x :: ls) st hp = ab_X rom K cX8_drops 6 1 34 (v0 :: .int x :: ls) (.int x :: st) hp := ax_iload_n dX8_drops_33 rfl rfl
theorem dX8_drops_34 : decode cX8_drops 34 = .ok (.aaload, 1) := by decide +kernel
theorem sX8_drops_34 : ab_X rom K cX8_drops 6 1 34 ls (.int x :: .ref a :: st) hp = (ab_rrd hp a x).bind (fun v => ab_X rom K cX8_drops 6 1 35 ls (.ref v :: st) hp) := ax_aaload dX8_drops_34 rfl
theorem dX8_drops_35 : decode cX8_drops 35 = .ok (.invokevirtual 137, 3) := by decide +kernel
theorem sX8_drops_35_0 : ab_X rom K cX8_drops 6 1 35 ls [w2, w1, .ref a] hp = if ab_iso hp a 2 = true then (K 37 (.ref a :: [w1, w2]) hp).bind (fun o => ab_X rom K cX8_drops 6 1 38 ls (o.1.toList ++ []) o.2) else none := ay_virtual (as := [w1, w2]) (st := []) dX8_drops_35 kc_6_137 rfl rfl (Nat.le_of_ble_eq_true rfl)
theorem sX8_drops_35_1 : ab_X rom K cX8_drops 6 1 35 ls [w2, w1, .ref a, v0] hp = if ab_iso hp a 2 = true then (K 37 (.ref a :: [w1, w2]) hp).bind (fun o => ab_X rom K cX8_drops 6 1 38 ls (o.1.toList ++ [v0]) o.2) else none := ay_virtual (as := [w1, w2]) (st := [v0]) dX8_drops_35 kc_6_137 rfl rfl (Nat.le_of_ble_eq_true rfl)
theorem sX8_drops_35_2 : ab_X rom K cX8_drops 6 1 35 ls [w2, w1, .ref a, v0, v1] hp = if ab_iso hp a 2 = true then (K 37 (.ref a :: [w1, w2]) hp).bind (fun o => ab_X rom K cX8_drops 6 1 38 ls (o.1.toList ++ [v0, v1]) o.2) else none := ay_virtual (as := [w1, w2]) (st := [v0, v1]) dX8_drops_35 kc_6_137 rfl rfl (Nat.le_of_ble_eq_true rfl)
theorem sX8_drops_35_3 : ab_X rom K cX8_drops 6 1 35 ls [w2, w1, .ref a, v0, v1, v2] hp = if ab_iso hp a 2 = true then (K 37 (.ref a :: [w1, w2]) hp).bind (fun o => ab_X rom K cX8_drops 6 1 38 ls (o.1.toList ++ [v0, v1, v2]) o.2) else none := ay_virtual (as := [w1, w2]) (st := [v0, v1, v2]) dX8_drops_35 kc_6_137 rfl rfl (Nat.le_of_ble_eq_true rfl)
theorem dX8_drops_38 : decode cX8_drops 38 = .ok (.aload_n 0, 1) := by decide +kernel
theorem sX8_drops_38 : ab_X rom K cX8_drops 6 1 38 (.ref a :: ls) st hp = ab_X rom K cX8_drops 6 1 39 (.ref a :: ls) (.ref a :: st) hp := ax_aload_n dX8_drops_38 rfl rfl
theorem dX8_drops_39 : decode cX8_drops 39 = .ok (.getfield 21, 3) := by decide +kernel
theorem sX8_drops_39 : ab_X rom K cX8_drops 6 1 39 ls (.ref a :: st) hp = (ab_fld hp a 6 3).bind (fun v => ab_X rom K cX8_drops 6 1 42 ls (v :: st) hp) := ax_getfield dX8_drops_39 kf_6_21 rfl
theorem dX8_drops_42 : decode cX8_drops 42 = .ok (.iload_n 1, 1) := by decide +kernel
theorem sX8_drops_42 : ab_X rom K cX8_drops 6 1 42 (v0 :: .int x :: ls) st hp = ab_X rom K cX8_drops 6 1 43 (v0 :: .int x :: ls) (.int x :: st) hp := ax_iload_n dX8_drops_42 rfl rfl
theorem dX8_drops_43 : decode cX8_drops 43 = .ok (.aaload, 1) := by decide +kernel
theorem sX8_drops_43 : ab_X rom K cX8_drops 6 1 43 ls (.int x :: .ref a :: st) hp = (ab_rrd hp a x).bind (fun v => ab_X rom K cX8_drops 6 1 44 ls (.ref v :: st) hp) := ax_aaload dX8_drops_43 rfl
theorem dX8_drops_44 : decode cX8_drops 44 = .ok (.iconst 0, 1) := by decide +kernel
theorem sX8_drops_44 : ab_X rom K cX8_drops 6 1 44 ls st hp = ab_X rom K cX8_drops 6 1 45 ls (.int 0 :: st) hp := ax_iconst dX8_drops_44 (by decide) rfl
theorem dX8_drops_45 : decode cX8_drops 45 = .ok (.invokevirtual 272, 3) := by decide +kernel
theorem sX8_drops_45_0 : ab_X rom K cX8_drops 6 1 45 ls [w1, .ref a] hp = if ab_iso hp a 1 = true then (K 15 (.ref a :: [w1]) hp).bind (fun o => ab_X rom K cX8_drops 6 1 48 ls (o.1.toList ++ []) o.2) else none := ay_virtual (as := [w1]) (st := []) dX8_drops_45 kc_6_272 rfl rfl (Nat.le_of_ble_eq_true rfl)
theorem sX8_drops_45_1 : ab_X rom K cX8_drops 6 1 45 ls [w1, .ref a, v0] hp = if ab_iso hp a 1 = true then (K 15 (.ref a :: [w1]) hp).bind (fun o => ab_X rom K cX8_drops 6 1 48 ls (o.1.toList ++ [v0]) o.2) else none := ay_virtual (as := [w1]) (st := [v0]) dX8_drops_45 kc_6_272 rfl rfl (Nat.le_of_ble_eq_true rfl)
theorem sX8_drops_45_2 : ab_X rom K cX8_drops 6 1 45 ls [w1, .ref a, v0, v1] hp = if ab_iso hp a 1 = true then (K 15 (.ref a :: [w1]) hp).bind (fun o => ab_X rom K cX8_drops 6 1 48 ls (o.1.toList ++ [v0, v1]) o.2) else none := ay_virtual (as := [w1]) (st := [v0, v1]) dX8_drops_45 kc_6_272 rfl rfl (Nat.le_of_ble_eq_true rfl)
theorem sX8_drops_45_3 : ab_X rom K cX8_drops 6 1 45 ls [w1, .ref a, v0, v1, v2] hp = if ab_iso hp a 1 = true then (K 15 (.ref a :: [w1]) hp).bind (fun o => ab_X rom K cX8_drops 6 1 48 ls (o.1.toList ++ [v0, v1, v2]) o.2) else none := ay_virtual (as := [w1]) (st := [v0, v1, v2]) dX8_drops_45 kc_6_272 rfl rfl (Nat.le_of_ble_eq_true rfl)
theorem dX8_drops_48 : decode cX8_drops 48 = .ok (.iconst 1, 1) := by decide +kernel
theorem sX8_drops_48 : ab_X rom K cX8_drops 6 1 48 ls st hp = ab_X rom K cX8_drops 6 1 49 ls (.int 1 :: st) hp := ax_iconst dX8_drops_48 (by decide) rfl
theorem dX8_drops_49 : decode cX8_drops 49 = .ok (.ireturn, 1) := by decide +kernel
theorem sX8_drops_49 : ab_X rom K cX8_drops 6 1 49 ls [.int x] hp = some (some (.int x), hp) := ax_iret dX8_drops_49 rfl
theorem tX8_edge : ab_mT[88]? = some (yX8_edge, cX8_edge, 3, 1, 6) := by decide +kernel
theorem mX8_edge {d : Nat} {a0 : Nat} {x0 : Int32} : ab_M rom (d + 1) 88 [.ref a0, .int x0] hp = ab_X rom (ab_M rom d) cX8_edge 6 1 0 [.ref a0, .int x0, .null] [] hp := ab_M_eq tX8_edge (Nat.le_of_ble_eq_true rfl)
theorem dX8_edge_0 : decode cX8_edge 0 = .ok (.aload_n 0, 1) := by decide +kernel
theorem sX8_edge_0 : ab_X rom K cX8_edge 6 1 0 (.ref a :: ls) st hp = ab_X rom K cX8_edge 6 1 1 (.ref a :: ls) (.ref a :: st) hp := ax_aload_n dX8_edge_0 rfl rfl
theorem dX8_edge_1 : decode cX8_edge 1 = .ok (.iload_n 1, 1) := by decide +kernel
theorem sX8_edge_1 : ab_X rom K cX8_edge 6 1 1 (v0 :: .int x :: ls) st hp = ab_X rom K cX8_edge 6 1 2 (v0 :: .int x :: ls) (.int x :: st) hp := ax_iload_n dX8_edge_1 rfl rfl
theorem dX8_edge_2 : decode cX8_edge 2 = .ok (.invokevirtual 99, 3) := by decide +kernel
theorem sX8_edge_2_0 : ab_X rom K cX8_edge 6 1 2 ls [w1, .ref a] hp = if ab_iso hp a 6 = true then (K 95 (.ref a :: [w1]) hp).bind (fun o => ab_X rom K cX8_edge 6 1 5 ls (o.1.toList ++ []) o.2) else none := ay_virtual (as := [w1]) (st := []) dX8_edge_2 kc_6_99 rfl rfl (Nat.le_of_ble_eq_true rfl)
theorem sX8_edge_2_1 : ab_X rom K cX8_edge 6 1 2 ls [w1, .ref a, v0] hp = if ab_iso hp a 6 = true then (K 95 (.ref a :: [w1]) hp).bind (fun o => ab_X rom K cX8_edge 6 1 5 ls (o.1.toList ++ [v0]) o.2) else none := ay_virtual (as := [w1]) (st := [v0]) dX8_edge_2 kc_6_99 rfl rfl (Nat.le_of_ble_eq_true rfl)
theorem sX8_edge_2_2 : ab_X rom K cX8_edge 6 1 2 ls [w1, .ref a, v0, v1] hp = if ab_iso hp a 6 = true then (K 95 (.ref a :: [w1]) hp).bind (fun o => ab_X rom K cX8_edge 6 1 5 ls (o.1.toList ++ [v0, v1]) o.2) else none := ay_virtual (as := [w1]) (st := [v0, v1]) dX8_edge_2 kc_6_99 rfl rfl (Nat.le_of_ble_eq_true rfl)
theorem sX8_edge_2_3 : ab_X rom K cX8_edge 6 1 2 ls [w1, .ref a, v0, v1, v2] hp = if ab_iso hp a 6 = true then (K 95 (.ref a :: [w1]) hp).bind (fun o => ab_X rom K cX8_edge 6 1 5 ls (o.1.toList ++ [v0, v1, v2]) o.2) else none := ay_virtual (as := [w1]) (st := [v0, v1, v2]) dX8_edge_2 kc_6_99 rfl rfl (Nat.le_of_ble_eq_true rfl)
theorem dX8_edge_5 : decode cX8_edge 5 = .ok (.ifCond .ne 6, 3) := by decide +kernel
theorem sX8_edge_5 : ab_X rom K cX8_edge 6 1 5 ls (.int x :: st) hp = if x = 0 then ab_X rom K cX8_edge 6 1 8 ls st hp else ab_X rom K cX8_edge 6 1 11 ls st hp := ax_if_ne dX8_edge_5 (by decide) rfl
theorem dX8_edge_8 : decode cX8_edge 8 = .ok (.bipush (-2), 2) := by decide +kernel
theorem sX8_edge_8 : ab_X rom K cX8_edge 6 1 8 ls st hp = ab_X rom K cX8_edge 6 1 10 ls (.int (-2) :: st) hp := ax_bipush dX8_edge_8 (by decide) rfl
theorem dX8_edge_10 : decode cX8_edge 10 = .ok (.ireturn, 1) := by decide +kernel
theorem sX8_edge_10 : ab_X rom K cX8_edge 6 1 10 ls [.int x] hp = some (some (.int x), hp) := ax_iret dX8_edge_10 rfl
theorem dX8_edge_11 : decode cX8_edge 11 = .ok (.aload_n 0, 1) := by decide +kernel
theorem sX8_edge_11 : ab_X rom K cX8_edge 6 1 11 (.ref a :: ls) st hp = ab_X rom K cX8_edge 6 1 12 (.ref a :: ls) (.ref a :: st) hp := ax_aload_n dX8_edge_11 rfl rfl
theorem dX8_edge_12 : decode cX8_edge 12 = .ok (.getfield 21, 3) := by decide +kernel
theorem sX8_edge_12 : ab_X rom K cX8_edge 6 1 12 ls (.ref a :: st) hp = (ab_fld hp a 6 3).bind (fun v => ab_X rom K cX8_edge 6 1 15 ls (v :: st) hp) := ax_getfield dX8_edge_12 kf_6_21 rfl
theorem dX8_edge_15 : decode cX8_edge 15 = .ok (.iload_n 1, 1) := by decide +kernel
theorem sX8_edge_15 : ab_X rom K cX8_edge 6 1 15 (v0 :: .int x :: ls) st hp = ab_X rom K cX8_edge 6 1 16 (v0 :: .int x :: ls) (.int x :: st) hp := ax_iload_n dX8_edge_15 rfl rfl
theorem dX8_edge_16 : decode cX8_edge 16 = .ok (.aaload, 1) := by decide +kernel
theorem sX8_edge_16 : ab_X rom K cX8_edge 6 1 16 ls (.int x :: .ref a :: st) hp = (ab_rrd hp a x).bind (fun v => ab_X rom K cX8_edge 6 1 17 ls (.ref v :: st) hp) := ax_aaload dX8_edge_16 rfl
theorem dX8_edge_17 : decode cX8_edge 17 = .ok (.invokestatic 249, 3) := by decide +kernel
theorem sX8_edge_17_0 : ab_X rom K cX8_edge 6 1 17 ls [w1] hp = (K 243 [w1] hp).bind (fun o => ab_X rom K cX8_edge 6 1 20 ls (o.1.toList ++ []) o.2) := ax_static (as := [w1]) (st := []) dX8_edge_17 kc_6_249 rfl rfl (Nat.le_of_ble_eq_true rfl)
theorem sX8_edge_17_1 : ab_X rom K cX8_edge 6 1 17 ls [w1, v0] hp = (K 243 [w1] hp).bind (fun o => ab_X rom K cX8_edge 6 1 20 ls (o.1.toList ++ [v0]) o.2) := ax_static (as := [w1]) (st := [v0]) dX8_edge_17 kc_6_249 rfl rfl (Nat.le_of_ble_eq_true rfl)
theorem sX8_edge_17_2 : ab_X rom K cX8_edge 6 1 17 ls [w1, v0, v1] hp = (K 243 [w1] hp).bind (fun o => ab_X rom K cX8_edge 6 1 20 ls (o.1.toList ++ [v0, v1]) o.2) := ax_static (as := [w1]) (st := [v0, v1]) dX8_edge_17 kc_6_249 rfl rfl (Nat.le_of_ble_eq_true rfl)
theorem sX8_edge_17_3 : ab_X rom K cX8_edge 6 1 17 ls [w1, v0, v1, v2] hp = (K 243 [w1] hp).bind (fun o => ab_X rom K cX8_edge 6 1 20 ls (o.1.toList ++ [v0, v1, v2]) o.2) := ax_static (as := [w1]) (st := [v0, v1, v2]) dX8_edge_17 kc_6_249 rfl rfl (Nat.le_of_ble_eq_true rfl)
theorem dX8_edge_20 : decode cX8_edge 20 = .ok (.istore_n 2, 1) := by decide +kernel
theorem sX8_edge_20i : ab_X rom K cX8_edge 6 1 20 (v0 :: .int y :: v2 :: ls) (.int x :: st) hp = ab_X rom K cX8_edge 6 1 21 (v0 :: .int y :: .int x :: ls) st hp := ax_istore_n dX8_edge_20 (ax_lt (v := v2) rfl) (ab_nl_c1 (j := 1) (v := .int y) rfl (ab_c1_int _)) rfl rfl
theorem sX8_edge_20r : ab_X rom K cX8_edge 6 1 20 (v0 :: .ref a2 :: v2 :: ls) (.int x :: st) hp = ab_X rom K cX8_edge 6 1 21 (v0 :: .ref a2 :: .int x :: ls) st hp := ax_istore_n dX8_edge_20 (ax_lt (v := v2) rfl) (ab_nl_c1 (j := 1) (v := .ref a2) rfl (ab_c1_ref _)) rfl rfl
theorem sX8_edge_20n : ab_X rom K cX8_edge 6 1 20 (v0 :: .null :: v2 :: ls) (.int x :: st) hp = ab_X rom K cX8_edge 6 1 21 (v0 :: .null :: .int x :: ls) st hp := ax_istore_n dX8_edge_20 (ax_lt (v := v2) rfl) (ab_nl_c1 (j := 1) (v := .null) rfl ab_c1_null) rfl rfl
theorem dX8_edge_21 : decode cX8_edge 21 = .ok (.iload_n 2, 1) := by decide +kernel
theorem sX8_edge_21 : ab_X rom K cX8_edge 6 1 21 (v0 :: v1 :: .int x :: ls) st hp = ab_X rom K cX8_edge 6 1 22 (v0 :: v1 :: .int x :: ls) (.int x :: st) hp := ax_iload_n dX8_edge_21 rfl rfl
theorem dX8_edge_22 : decode cX8_edge 22 = .ok (.iconst (-1), 1) := by decide +kernel
theorem sX8_edge_22 : ab_X rom K cX8_edge 6 1 22 ls st hp = ab_X rom K cX8_edge 6 1 23 ls (.int (-1) :: st) hp := ax_iconst dX8_edge_22 (by decide) rfl
theorem dX8_edge_23 : decode cX8_edge 23 = .ok (.if_icmp .ne 8, 3) := by decide +kernel
theorem sX8_edge_23 : ab_X rom K cX8_edge 6 1 23 ls (.int y :: .int x :: st) hp = if x = y then ab_X rom K cX8_edge 6 1 26 ls st hp else ab_X rom K cX8_edge 6 1 31 ls st hp := ax_icmp_ne dX8_edge_23 (by decide) rfl
theorem dX8_edge_26 : decode cX8_edge 26 = .ok (.bipush (-6), 2) := by decide +kernel
theorem sX8_edge_26 : ab_X rom K cX8_edge 6 1 26 ls st hp = ab_X rom K cX8_edge 6 1 28 ls (.int (-6) :: st) hp := ax_bipush dX8_edge_26 (by decide) rfl
theorem dX8_edge_28 : decode cX8_edge 28 = .ok (.goto 4, 3) := by decide +kernel
theorem sX8_edge_28 : ab_X rom K cX8_edge 6 1 28 ls st hp = ab_X rom K cX8_edge 6 1 32 ls st hp := ax_goto dX8_edge_28 (by decide)
theorem dX8_edge_31 : decode cX8_edge 31 = .ok (.iload_n 2, 1) := by decide +kernel
theorem sX8_edge_31 : ab_X rom K cX8_edge 6 1 31 (v0 :: v1 :: .int x :: ls) st hp = ab_X rom K cX8_edge 6 1 32 (v0 :: v1 :: .int x :: ls) (.int x :: st) hp := ax_iload_n dX8_edge_31 rfl rfl
theorem dX8_edge_32 : decode cX8_edge 32 = .ok (.ireturn, 1) := by decide +kernel
theorem sX8_edge_32 : ab_X rom K cX8_edge 6 1 32 ls [.int x] hp = some (some (.int x), hp) := ax_iret dX8_edge_32 rfl
theorem tX8_end : ab_mT[89]? = some (yX8_end, cX8_end, 2, 1, 6) := by decide +kernel
theorem mX8_end {d : Nat} {a0 : Nat} {x0 : Int32} : ab_M rom (d + 1) 89 [.ref a0, .int x0] hp = ab_X rom (ab_M rom d) cX8_end 6 1 0 [.ref a0, .int x0] [] hp := ab_M_eq tX8_end (Nat.le_of_ble_eq_true rfl)
theorem dX8_end_0 : decode cX8_end 0 = .ok (.iload_n 1, 1) := by decide +kernel
theorem sX8_end_0 : ab_X rom K cX8_end 6 1 0 (v0 :: .int x :: ls) st hp = ab_X rom K cX8_end 6 1 1 (v0 :: .int x :: ls) (.int x :: st) hp := ax_iload_n dX8_end_0 rfl rfl
theorem dX8_end_1 : decode cX8_end 1 = .ok (.ifCond .lt 14, 3) := by decide +kernel
theorem sX8_end_1 : ab_X rom K cX8_end 6 1 1 ls (.int x :: st) hp = if x < 0 then ab_X rom K cX8_end 6 1 15 ls st hp else ab_X rom K cX8_end 6 1 4 ls st hp := ax_if_lt dX8_end_1 (by decide) rfl
theorem dX8_end_4 : decode cX8_end 4 = .ok (.iload_n 1, 1) := by decide +kernel
theorem sX8_end_4 : ab_X rom K cX8_end 6 1 4 (v0 :: .int x :: ls) st hp = ab_X rom K cX8_end 6 1 5 (v0 :: .int x :: ls) (.int x :: st) hp := ax_iload_n dX8_end_4 rfl rfl
theorem dX8_end_5 : decode cX8_end 5 = .ok (.aload_n 0, 1) := by decide +kernel
theorem sX8_end_5 : ab_X rom K cX8_end 6 1 5 (.ref a :: ls) st hp = ab_X rom K cX8_end 6 1 6 (.ref a :: ls) (.ref a :: st) hp := ax_aload_n dX8_end_5 rfl rfl
theorem dX8_end_6 : decode cX8_end 6 = .ok (.getfield 10, 3) := by decide +kernel
theorem sX8_end_6 : ab_X rom K cX8_end 6 1 6 ls (.ref a :: st) hp = (ab_fld hp a 6 0).bind (fun v => ab_X rom K cX8_end 6 1 9 ls (v :: st) hp) := ax_getfield dX8_end_6 kf_6_10 rfl
theorem dX8_end_9 : decode cX8_end 9 = .ok (.getfield 69, 3) := by decide +kernel
theorem sX8_end_9 : ab_X rom K cX8_end 6 1 9 ls (.ref a :: st) hp = (ab_fld hp a 5 1).bind (fun v => ab_X rom K cX8_end 6 1 12 ls (v :: st) hp) := ax_getfield dX8_end_9 kf_6_69 rfl
theorem dX8_end_12 : decode cX8_end 12 = .ok (.if_icmp .le 5, 3) := by decide +kernel
theorem sX8_end_12 : ab_X rom K cX8_end 6 1 12 ls (.int y :: .int x :: st) hp = if y < x then ab_X rom K cX8_end 6 1 15 ls st hp else ab_X rom K cX8_end 6 1 17 ls st hp := ax_icmp_le dX8_end_12 (by decide) rfl
theorem dX8_end_15 : decode cX8_end 15 = .ok (.iconst (-1), 1) := by decide +kernel
theorem sX8_end_15 : ab_X rom K cX8_end 6 1 15 ls st hp = ab_X rom K cX8_end 6 1 16 ls (.int (-1) :: st) hp := ax_iconst dX8_end_15 (by decide) rfl
theorem dX8_end_16 : decode cX8_end 16 = .ok (.ireturn, 1) := by decide +kernel
theorem sX8_end_16 : ab_X rom K cX8_end 6 1 16 ls [.int x] hp = some (some (.int x), hp) := ax_iret dX8_end_16 rfl
theorem dX8_end_17 : decode cX8_end 17 = .ok (.aload_n 0, 1) := by decide +kernel
theorem sX8_end_17 : ab_X rom K cX8_end 6 1 17 (.ref a :: ls) st hp = ab_X rom K cX8_end 6 1 18 (.ref a :: ls) (.ref a :: st) hp := ax_aload_n dX8_end_17 rfl rfl
theorem dX8_end_18 : decode cX8_end 18 = .ok (.getfield 10, 3) := by decide +kernel
theorem sX8_end_18 : ab_X rom K cX8_end 6 1 18 ls (.ref a :: st) hp = (ab_fld hp a 6 0).bind (fun v => ab_X rom K cX8_end 6 1 21 ls (v :: st) hp) := ax_getfield dX8_end_18 kf_6_10 rfl
theorem dX8_end_21 : decode cX8_end 21 = .ok (.iload_n 1, 1) := by decide +kernel
theorem sX8_end_21 : ab_X rom K cX8_end 6 1 21 (v0 :: .int x :: ls) st hp = ab_X rom K cX8_end 6 1 22 (v0 :: .int x :: ls) (.int x :: st) hp := ax_iload_n dX8_end_21 rfl rfl
theorem dX8_end_22 : decode cX8_end 22 = .ok (.putfield 69, 3) := by decide +kernel
theorem sX8_end_22 : ab_X rom K cX8_end 6 1 22 ls (.int x :: .ref a :: st) hp = (ab_fpt hp a 5 1 (.int x)).bind (fun hp' => ab_X rom K cX8_end 6 1 25 ls st hp') := ax_putfield dX8_end_22 kf_6_69 rfl (Or.inl rfl) rfl
theorem dX8_end_25 : decode cX8_end 25 = .ok (.iload_n 1, 1) := by decide +kernel
theorem sX8_end_25 : ab_X rom K cX8_end 6 1 25 (v0 :: .int x :: ls) st hp = ab_X rom K cX8_end 6 1 26 (v0 :: .int x :: ls) (.int x :: st) hp := ax_iload_n dX8_end_25 rfl rfl
theorem dX8_end_26 : decode cX8_end 26 = .ok (.ireturn, 1) := by decide +kernel
theorem sX8_end_26 : ab_X rom K cX8_end 6 1 26 ls [.int x] hp = some (some (.int x), hp) := ax_iret dX8_end_26 rfl
theorem tX8_family : ab_mT[90]? = some (yX8_family, cX8_family, 5, 1, 6) := by decide +kernel
theorem mX8_family {d : Nat} {a0 : Nat} {x0 : Int32} {x1 : Int32} {x2 : Int32} {x3 : Int32} : ab_M rom (d + 1) 90 [.ref a0, .int x0, .int x1, .int x2, .int x3] hp = ab_X rom (ab_M rom d) cX8_family 6 1 0 [.ref a0, .int x0, .int x1, .int x2, .int x3] [] hp := ab_M_eq tX8_family (Nat.le_of_ble_eq_true rfl)
theorem dX8_family_0 : decode cX8_family 0 = .ok (.iload 4, 2) := by decide +kernel
theorem sX8_family_0 : ab_X rom K cX8_family 6 1 0 (v0 :: v1 :: v2 :: v3 :: .int x :: ls) st hp = ab_X rom K cX8_family 6 1 2 (v0 :: v1 :: v2 :: v3 :: .int x :: ls) (.int x :: st) hp := ax_iload dX8_family_0 rfl rfl
theorem dX8_family_2 : decode cX8_family 2 = .ok (.invokestatic 76, 3) := by decide +kernel
theorem sX8_family_2_0 : ab_X rom K cX8_family 6 1 2 ls [w1] hp = (K 101 [w1] hp).bind (fun o => ab_X rom K cX8_family 6 1 5 ls (o.1.toList ++ []) o.2) := ax_static (as := [w1]) (st := []) dX8_family_2 kc_6_76 rfl rfl (Nat.le_of_ble_eq_true rfl)
theorem sX8_family_2_1 : ab_X rom K cX8_family 6 1 2 ls [w1, v0] hp = (K 101 [w1] hp).bind (fun o => ab_X rom K cX8_family 6 1 5 ls (o.1.toList ++ [v0]) o.2) := ax_static (as := [w1]) (st := [v0]) dX8_family_2 kc_6_76 rfl rfl (Nat.le_of_ble_eq_true rfl)
theorem sX8_family_2_2 : ab_X rom K cX8_family 6 1 2 ls [w1, v0, v1] hp = (K 101 [w1] hp).bind (fun o => ab_X rom K cX8_family 6 1 5 ls (o.1.toList ++ [v0, v1]) o.2) := ax_static (as := [w1]) (st := [v0, v1]) dX8_family_2 kc_6_76 rfl rfl (Nat.le_of_ble_eq_true rfl)
theorem sX8_family_2_3 : ab_X rom K cX8_family 6 1 2 ls [w1, v0, v1, v2] hp = (K 101 [w1] hp).bind (fun o => ab_X rom K cX8_family 6 1 5 ls (o.1.toList ++ [v0, v1, v2]) o.2) := ax_static (as := [w1]) (st := [v0, v1, v2]) dX8_family_2 kc_6_76 rfl rfl (Nat.le_of_ble_eq_true rfl)
theorem dX8_family_5 : decode cX8_family 5 = .ok (.ifCond .eq 16, 3) := by decide +kernel
theorem sX8_family_5 : ab_X rom K cX8_family 6 1 5 ls (.int x :: st) hp = if x = 0 then ab_X rom K cX8_family 6 1 21 ls st hp else ab_X rom K cX8_family 6 1 8 ls st hp := ax_if_eq dX8_family_5 (by decide) rfl
theorem dX8_family_8 : decode cX8_family 8 = .ok (.aload_n 0, 1) := by decide +kernel
theorem sX8_family_8 : ab_X rom K cX8_family 6 1 8 (.ref a :: ls) st hp = ab_X rom K cX8_family 6 1 9 (.ref a :: ls) (.ref a :: st) hp := ax_aload_n dX8_family_8 rfl rfl
theorem dX8_family_9 : decode cX8_family 9 = .ok (.getfield 26, 3) := by decide +kernel
theorem sX8_family_9 : ab_X rom K cX8_family 6 1 9 ls (.ref a :: st) hp = (ab_fld hp a 6 4).bind (fun v => ab_X rom K cX8_family 6 1 12 ls (v :: st) hp) := ax_getfield dX8_family_9 kf_6_26 rfl
theorem dX8_family_12 : decode cX8_family 12 = .ok (.iload_n 1, 1) := by decide +kernel
theorem sX8_family_12 : ab_X rom K cX8_family 6 1 12 (v0 :: .int x :: ls) st hp = ab_X rom K cX8_family 6 1 13 (v0 :: .int x :: ls) (.int x :: st) hp := ax_iload_n dX8_family_12 rfl rfl
theorem dX8_family_13 : decode cX8_family 13 = .ok (.iload_n 2, 1) := by decide +kernel
theorem sX8_family_13 : ab_X rom K cX8_family 6 1 13 (v0 :: v1 :: .int x :: ls) st hp = ab_X rom K cX8_family 6 1 14 (v0 :: v1 :: .int x :: ls) (.int x :: st) hp := ax_iload_n dX8_family_13 rfl rfl
theorem dX8_family_14 : decode cX8_family 14 = .ok (.iload_n 3, 1) := by decide +kernel
theorem sX8_family_14 : ab_X rom K cX8_family 6 1 14 (v0 :: v1 :: v2 :: .int x :: ls) st hp = ab_X rom K cX8_family 6 1 15 (v0 :: v1 :: v2 :: .int x :: ls) (.int x :: st) hp := ax_iload_n dX8_family_14 rfl rfl
theorem dX8_family_15 : decode cX8_family 15 = .ok (.invokestatic 261, 3) := by decide +kernel
theorem sX8_family_15_0 : ab_X rom K cX8_family 6 1 15 ls [w4, w3, w2, w1] hp = (K 257 [w1, w2, w3, w4] hp).bind (fun o => ab_X rom K cX8_family 6 1 18 ls (o.1.toList ++ []) o.2) := ax_static (as := [w1, w2, w3, w4]) (st := []) dX8_family_15 kc_6_261 rfl rfl (Nat.le_of_ble_eq_true rfl)
theorem sX8_family_15_1 : ab_X rom K cX8_family 6 1 15 ls [w4, w3, w2, w1, v0] hp = (K 257 [w1, w2, w3, w4] hp).bind (fun o => ab_X rom K cX8_family 6 1 18 ls (o.1.toList ++ [v0]) o.2) := ax_static (as := [w1, w2, w3, w4]) (st := [v0]) dX8_family_15 kc_6_261 rfl rfl (Nat.le_of_ble_eq_true rfl)
theorem sX8_family_15_2 : ab_X rom K cX8_family 6 1 15 ls [w4, w3, w2, w1, v0, v1] hp = (K 257 [w1, w2, w3, w4] hp).bind (fun o => ab_X rom K cX8_family 6 1 18 ls (o.1.toList ++ [v0, v1]) o.2) := ax_static (as := [w1, w2, w3, w4]) (st := [v0, v1]) dX8_family_15 kc_6_261 rfl rfl (Nat.le_of_ble_eq_true rfl)
theorem sX8_family_15_3 : ab_X rom K cX8_family 6 1 15 ls [w4, w3, w2, w1, v0, v1, v2] hp = (K 257 [w1, w2, w3, w4] hp).bind (fun o => ab_X rom K cX8_family 6 1 18 ls (o.1.toList ++ [v0, v1, v2]) o.2) := ax_static (as := [w1, w2, w3, w4]) (st := [v0, v1, v2]) dX8_family_15 kc_6_261 rfl rfl (Nat.le_of_ble_eq_true rfl)
theorem dX8_family_18 : decode cX8_family 18 = .ok (.ifCond .ne 6, 3) := by decide +kernel
theorem sX8_family_18 : ab_X rom K cX8_family 6 1 18 ls (.int x :: st) hp = if x = 0 then ab_X rom K cX8_family 6 1 21 ls st hp else ab_X rom K cX8_family 6 1 24 ls st hp := ax_if_ne dX8_family_18 (by decide) rfl
theorem dX8_family_21 : decode cX8_family 21 = .ok (.bipush (-2), 2) := by decide +kernel
theorem sX8_family_21 : ab_X rom K cX8_family 6 1 21 ls st hp = ab_X rom K cX8_family 6 1 23 ls (.int (-2) :: st) hp := ax_bipush dX8_family_21 (by decide) rfl
theorem dX8_family_23 : decode cX8_family 23 = .ok (.ireturn, 1) := by decide +kernel
theorem sX8_family_23 : ab_X rom K cX8_family 6 1 23 ls [.int x] hp = some (some (.int x), hp) := ax_iret dX8_family_23 rfl
theorem dX8_family_24 : decode cX8_family 24 = .ok (.aload_n 0, 1) := by decide +kernel
theorem sX8_family_24 : ab_X rom K cX8_family 6 1 24 (.ref a :: ls) st hp = ab_X rom K cX8_family 6 1 25 (.ref a :: ls) (.ref a :: st) hp := ax_aload_n dX8_family_24 rfl rfl
theorem dX8_family_25 : decode cX8_family 25 = .ok (.iload 4, 2) := by decide +kernel
theorem sX8_family_25 : ab_X rom K cX8_family 6 1 25 (v0 :: v1 :: v2 :: v3 :: .int x :: ls) st hp = ab_X rom K cX8_family 6 1 27 (v0 :: v1 :: v2 :: v3 :: .int x :: ls) (.int x :: st) hp := ax_iload dX8_family_25 rfl rfl
theorem dX8_family_27 : decode cX8_family 27 = .ok (.invokevirtual 86, 3) := by decide +kernel
theorem sX8_family_27_0 : ab_X rom K cX8_family 6 1 27 ls [w1, .ref a] hp = if ab_iso hp a 6 = true then (K 102 (.ref a :: [w1]) hp).bind (fun o => ab_X rom K cX8_family 6 1 30 ls (o.1.toList ++ []) o.2) else none := ay_virtual (as := [w1]) (st := []) dX8_family_27 kc_6_86 rfl rfl (Nat.le_of_ble_eq_true rfl)
theorem sX8_family_27_1 : ab_X rom K cX8_family 6 1 27 ls [w1, .ref a, v0] hp = if ab_iso hp a 6 = true then (K 102 (.ref a :: [w1]) hp).bind (fun o => ab_X rom K cX8_family 6 1 30 ls (o.1.toList ++ [v0]) o.2) else none := ay_virtual (as := [w1]) (st := [v0]) dX8_family_27 kc_6_86 rfl rfl (Nat.le_of_ble_eq_true rfl)
theorem sX8_family_27_2 : ab_X rom K cX8_family 6 1 27 ls [w1, .ref a, v0, v1] hp = if ab_iso hp a 6 = true then (K 102 (.ref a :: [w1]) hp).bind (fun o => ab_X rom K cX8_family 6 1 30 ls (o.1.toList ++ [v0, v1]) o.2) else none := ay_virtual (as := [w1]) (st := [v0, v1]) dX8_family_27 kc_6_86 rfl rfl (Nat.le_of_ble_eq_true rfl)
theorem sX8_family_27_3 : ab_X rom K cX8_family 6 1 27 ls [w1, .ref a, v0, v1, v2] hp = if ab_iso hp a 6 = true then (K 102 (.ref a :: [w1]) hp).bind (fun o => ab_X rom K cX8_family 6 1 30 ls (o.1.toList ++ [v0, v1, v2]) o.2) else none := ay_virtual (as := [w1]) (st := [v0, v1, v2]) dX8_family_27 kc_6_86 rfl rfl (Nat.le_of_ble_eq_true rfl)
theorem dX8_family_30 : decode cX8_family 30 = .ok (.aload_n 0, 1) := by decide +kernel
theorem sX8_family_30 : ab_X rom K cX8_family 6 1 30 (.ref a :: ls) st hp = ab_X rom K cX8_family 6 1 31 (.ref a :: ls) (.ref a :: st) hp := ax_aload_n dX8_family_30 rfl rfl
theorem dX8_family_31 : decode cX8_family 31 = .ok (.getfield 21, 3) := by decide +kernel
theorem sX8_family_31 : ab_X rom K cX8_family 6 1 31 ls (.ref a :: st) hp = (ab_fld hp a 6 3).bind (fun v => ab_X rom K cX8_family 6 1 34 ls (v :: st) hp) := ax_getfield dX8_family_31 kf_6_21 rfl
theorem dX8_family_34 : decode cX8_family 34 = .ok (.iload 4, 2) := by decide +kernel
theorem sX8_family_34 : ab_X rom K cX8_family 6 1 34 (v0 :: v1 :: v2 :: v3 :: .int x :: ls) st hp = ab_X rom K cX8_family 6 1 36 (v0 :: v1 :: v2 :: v3 :: .int x :: ls) (.int x :: st) hp := ax_iload dX8_family_34 rfl rfl
theorem dX8_family_36 : decode cX8_family 36 = .ok (.aaload, 1) := by decide +kernel
theorem sX8_family_36 : ab_X rom K cX8_family 6 1 36 ls (.int x :: .ref a :: st) hp = (ab_rrd hp a x).bind (fun v => ab_X rom K cX8_family 6 1 37 ls (.ref v :: st) hp) := ax_aaload dX8_family_36 rfl
theorem dX8_family_37 : decode cX8_family 37 = .ok (.getfield 89, 3) := by decide +kernel
theorem sX8_family_37 : ab_X rom K cX8_family 6 1 37 ls (.ref a :: st) hp = (ab_fld hp a 1 1).bind (fun v => ab_X rom K cX8_family 6 1 40 ls (v :: st) hp) := ax_getfield dX8_family_37 kf_6_89 rfl
theorem dX8_family_40 : decode cX8_family 40 = .ok (.ireturn, 1) := by decide +kernel
theorem sX8_family_40 : ab_X rom K cX8_family 6 1 40 ls [.int x] hp = some (some (.int x), hp) := ax_iret dX8_family_40 rfl
theorem tX8_fault : ab_mT[91]? = some (yX8_fault, cX8_fault, 2, 1, 6) := by decide +kernel
theorem mX8_fault {d : Nat} {a0 : Nat} {x0 : Int32} : ab_M rom (d + 1) 91 [.ref a0, .int x0] hp = ab_X rom (ab_M rom d) cX8_fault 6 1 0 [.ref a0, .int x0] [] hp := ab_M_eq tX8_fault (Nat.le_of_ble_eq_true rfl)
theorem dX8_fault_0 : decode cX8_fault 0 = .ok (.iload_n 1, 1) := by decide +kernel
theorem sX8_fault_0 : ab_X rom K cX8_fault 6 1 0 (v0 :: .int x :: ls) st hp = ab_X rom K cX8_fault 6 1 1 (v0 :: .int x :: ls) (.int x :: st) hp := ax_iload_n dX8_fault_0 rfl rfl
theorem dX8_fault_1 : decode cX8_fault 1 = .ok (.ifCond .ne 8, 3) := by decide +kernel
theorem sX8_fault_1 : ab_X rom K cX8_fault 6 1 1 ls (.int x :: st) hp = if x = 0 then ab_X rom K cX8_fault 6 1 4 ls st hp else ab_X rom K cX8_fault 6 1 9 ls st hp := ax_if_ne dX8_fault_1 (by decide) rfl
theorem dX8_fault_4 : decode cX8_fault 4 = .ok (.aload_n 0, 1) := by decide +kernel
theorem sX8_fault_4 : ab_X rom K cX8_fault 6 1 4 (.ref a :: ls) st hp = ab_X rom K cX8_fault 6 1 5 (.ref a :: ls) (.ref a :: st) hp := ax_aload_n dX8_fault_4 rfl rfl
theorem dX8_fault_5 : decode cX8_fault 5 = .ok (.getfield 62, 3) := by decide +kernel
theorem sX8_fault_5 : ab_X rom K cX8_fault 6 1 5 ls (.ref a :: st) hp = (ab_fld hp a 6 9).bind (fun v => ab_X rom K cX8_fault 6 1 8 ls (v :: st) hp) := ax_getfield dX8_fault_5 kf_6_62 rfl
theorem dX8_fault_8 : decode cX8_fault 8 = .ok (.ireturn, 1) := by decide +kernel
theorem sX8_fault_8 : ab_X rom K cX8_fault 6 1 8 ls [.int x] hp = some (some (.int x), hp) := ax_iret dX8_fault_8 rfl
theorem dX8_fault_9 : decode cX8_fault 9 = .ok (.iload_n 1, 1) := by decide +kernel
theorem sX8_fault_9 : ab_X rom K cX8_fault 6 1 9 (v0 :: .int x :: ls) st hp = ab_X rom K cX8_fault 6 1 10 (v0 :: .int x :: ls) (.int x :: st) hp := ax_iload_n dX8_fault_9 rfl rfl
theorem dX8_fault_10 : decode cX8_fault 10 = .ok (.iconst 1, 1) := by decide +kernel
theorem sX8_fault_10 : ab_X rom K cX8_fault 6 1 10 ls st hp = ab_X rom K cX8_fault 6 1 11 ls (.int 1 :: st) hp := ax_iconst dX8_fault_10 (by decide) rfl
theorem dX8_fault_11 : decode cX8_fault 11 = .ok (.if_icmp .ne 10, 3) := by decide +kernel
theorem sX8_fault_11 : ab_X rom K cX8_fault 6 1 11 ls (.int y :: .int x :: st) hp = if x = y then ab_X rom K cX8_fault 6 1 14 ls st hp else ab_X rom K cX8_fault 6 1 21 ls st hp := ax_icmp_ne dX8_fault_11 (by decide) rfl
theorem dX8_fault_14 : decode cX8_fault 14 = .ok (.aload_n 0, 1) := by decide +kernel
theorem sX8_fault_14 : ab_X rom K cX8_fault 6 1 14 (.ref a :: ls) st hp = ab_X rom K cX8_fault 6 1 15 (.ref a :: ls) (.ref a :: st) hp := ax_aload_n dX8_fault_14 rfl rfl
theorem dX8_fault_15 : decode cX8_fault 15 = .ok (.getfield 66, 3) := by decide +kernel
theorem sX8_fault_15 : ab_X rom K cX8_fault 6 1 15 ls (.ref a :: st) hp = (ab_fld hp a 6 10).bind (fun v => ab_X rom K cX8_fault 6 1 18 ls (v :: st) hp) := ax_getfield dX8_fault_15 kf_6_66 rfl
theorem dX8_fault_18 : decode cX8_fault 18 = .ok (.goto 4, 3) := by decide +kernel
theorem sX8_fault_18 : ab_X rom K cX8_fault 6 1 18 ls st hp = ab_X rom K cX8_fault 6 1 22 ls st hp := ax_goto dX8_fault_18 (by decide)
theorem dX8_fault_21 : decode cX8_fault 21 = .ok (.iconst (-1), 1) := by decide +kernel
theorem sX8_fault_21 : ab_X rom K cX8_fault 6 1 21 ls st hp = ab_X rom K cX8_fault 6 1 22 ls (.int (-1) :: st) hp := ax_iconst dX8_fault_21 (by decide) rfl
theorem dX8_fault_22 : decode cX8_fault 22 = .ok (.ireturn, 1) := by decide +kernel
theorem sX8_fault_22 : ab_X rom K cX8_fault 6 1 22 ls [.int x] hp = some (some (.int x), hp) := ax_iret dX8_fault_22 rfl
theorem tX8_feed : ab_mT[92]? = some (yX8_feed, cX8_feed, 6, 1, 6) := by decide +kernel
theorem mX8_feed {d : Nat} {a0 : Nat} {x0 : Int32} {x1 : Int32} {x2 : Int32} {x3 : Int32} {x4 : Int32} : ab_M rom (d + 1) 92 [.ref a0, .int x0, .int x1, .int x2, .int x3, .int x4] hp = ab_X rom (ab_M rom d) cX8_feed 6 1 0 [.ref a0, .int x0, .int x1, .int x2, .int x3, .int x4] [] hp := ab_M_eq tX8_feed (Nat.le_of_ble_eq_true rfl)
theorem dX8_feed_0 : decode cX8_feed 0 = .ok (.aload_n 0, 1) := by decide +kernel
theorem sX8_feed_0 : ab_X rom K cX8_feed 6 1 0 (.ref a :: ls) st hp = ab_X rom K cX8_feed 6 1 1 (.ref a :: ls) (.ref a :: st) hp := ax_aload_n dX8_feed_0 rfl rfl
theorem dX8_feed_1 : decode cX8_feed 1 = .ok (.getfield 10, 3) := by decide +kernel
theorem sX8_feed_1 : ab_X rom K cX8_feed 6 1 1 ls (.ref a :: st) hp = (ab_fld hp a 6 0).bind (fun v => ab_X rom K cX8_feed 6 1 4 ls (v :: st) hp) := ax_getfield dX8_feed_1 kf_6_10 rfl
theorem dX8_feed_4 : decode cX8_feed 4 = .ok (.getfield 69, 3) := by decide +kernel
theorem sX8_feed_4 : ab_X rom K cX8_feed 6 1 4 ls (.ref a :: st) hp = (ab_fld hp a 5 1).bind (fun v => ab_X rom K cX8_feed 6 1 7 ls (v :: st) hp) := ax_getfield dX8_feed_4 kf_6_69 rfl
theorem dX8_feed_7 : decode cX8_feed 7 = .ok (.bipush 20, 2) := by decide +kernel
theorem sX8_feed_7 : ab_X rom K cX8_feed 6 1 7 ls st hp = ab_X rom K cX8_feed 6 1 9 ls (.int 20 :: st) hp := ax_bipush dX8_feed_7 (by decide) rfl
theorem dX8_feed_9 : decode cX8_feed 9 = .ok (.iadd, 1) := by decide +kernel
theorem sX8_feed_9 : ab_X rom K cX8_feed 6 1 9 ls (.int y :: .int x :: st) hp = ab_X rom K cX8_feed 6 1 10 ls (.int (x + y) :: st) hp := ax_iadd dX8_feed_9 rfl
theorem dX8_feed_10 : decode cX8_feed 10 = .ok (.sipush 400, 3) := by decide +kernel
theorem sX8_feed_10 : ab_X rom K cX8_feed 6 1 10 ls st hp = ab_X rom K cX8_feed 6 1 13 ls (.int 400 :: st) hp := ax_sipush dX8_feed_10 (by decide) rfl
theorem dX8_feed_13 : decode cX8_feed 13 = .ok (.if_icmp .le 5, 3) := by decide +kernel
theorem sX8_feed_13 : ab_X rom K cX8_feed 6 1 13 ls (.int y :: .int x :: st) hp = if y < x then ab_X rom K cX8_feed 6 1 16 ls st hp else ab_X rom K cX8_feed 6 1 18 ls st hp := ax_icmp_le dX8_feed_13 (by decide) rfl
theorem dX8_feed_16 : decode cX8_feed 16 = .ok (.iconst (-1), 1) := by decide +kernel
theorem sX8_feed_16 : ab_X rom K cX8_feed 6 1 16 ls st hp = ab_X rom K cX8_feed 6 1 17 ls (.int (-1) :: st) hp := ax_iconst dX8_feed_16 (by decide) rfl
theorem dX8_feed_17 : decode cX8_feed 17 = .ok (.ireturn, 1) := by decide +kernel
theorem sX8_feed_17 : ab_X rom K cX8_feed 6 1 17 ls [.int x] hp = some (some (.int x), hp) := ax_iret dX8_feed_17 rfl
theorem dX8_feed_18 : decode cX8_feed 18 = .ok (.aload_n 0, 1) := by decide +kernel
theorem sX8_feed_18 : ab_X rom K cX8_feed 6 1 18 (.ref a :: ls) st hp = ab_X rom K cX8_feed 6 1 19 (.ref a :: ls) (.ref a :: st) hp := ax_aload_n dX8_feed_18 rfl rfl
theorem dX8_feed_19 : decode cX8_feed 19 = .ok (.getfield 10, 3) := by decide +kernel
theorem sX8_feed_19 : ab_X rom K cX8_feed 6 1 19 ls (.ref a :: st) hp = (ab_fld hp a 6 0).bind (fun v => ab_X rom K cX8_feed 6 1 22 ls (v :: st) hp) := ax_getfield dX8_feed_19 kf_6_10 rfl
theorem dX8_feed_22 : decode cX8_feed 22 = .ok (.iload_n 1, 1) := by decide +kernel
theorem sX8_feed_22 : ab_X rom K cX8_feed 6 1 22 (v0 :: .int x :: ls) st hp = ab_X rom K cX8_feed 6 1 23 (v0 :: .int x :: ls) (.int x :: st) hp := ax_iload_n dX8_feed_22 rfl rfl
theorem dX8_feed_23 : decode cX8_feed 23 = .ok (.invokevirtual 72, 3) := by decide +kernel
theorem sX8_feed_23_0 : ab_X rom K cX8_feed 6 1 23 ls [w1, .ref a] hp = if ab_iso hp a 5 = true then (K 77 (.ref a :: [w1]) hp).bind (fun o => ab_X rom K cX8_feed 6 1 26 ls (o.1.toList ++ []) o.2) else none := ay_virtual (as := [w1]) (st := []) dX8_feed_23 kc_6_72 rfl rfl (Nat.le_of_ble_eq_true rfl)
theorem sX8_feed_23_1 : ab_X rom K cX8_feed 6 1 23 ls [w1, .ref a, v0] hp = if ab_iso hp a 5 = true then (K 77 (.ref a :: [w1]) hp).bind (fun o => ab_X rom K cX8_feed 6 1 26 ls (o.1.toList ++ [v0]) o.2) else none := ay_virtual (as := [w1]) (st := [v0]) dX8_feed_23 kc_6_72 rfl rfl (Nat.le_of_ble_eq_true rfl)
theorem sX8_feed_23_2 : ab_X rom K cX8_feed 6 1 23 ls [w1, .ref a, v0, v1] hp = if ab_iso hp a 5 = true then (K 77 (.ref a :: [w1]) hp).bind (fun o => ab_X rom K cX8_feed 6 1 26 ls (o.1.toList ++ [v0, v1]) o.2) else none := ay_virtual (as := [w1]) (st := [v0, v1]) dX8_feed_23 kc_6_72 rfl rfl (Nat.le_of_ble_eq_true rfl)
theorem sX8_feed_23_3 : ab_X rom K cX8_feed 6 1 23 ls [w1, .ref a, v0, v1, v2] hp = if ab_iso hp a 5 = true then (K 77 (.ref a :: [w1]) hp).bind (fun o => ab_X rom K cX8_feed 6 1 26 ls (o.1.toList ++ [v0, v1, v2]) o.2) else none := ay_virtual (as := [w1]) (st := [v0, v1, v2]) dX8_feed_23 kc_6_72 rfl rfl (Nat.le_of_ble_eq_true rfl)
theorem dX8_feed_26 : decode cX8_feed 26 = .ok (.aload_n 0, 1) := by decide +kernel
theorem sX8_feed_26 : ab_X rom K cX8_feed 6 1 26 (.ref a :: ls) st hp = ab_X rom K cX8_feed 6 1 27 (.ref a :: ls) (.ref a :: st) hp := ax_aload_n dX8_feed_26 rfl rfl
theorem dX8_feed_27 : decode cX8_feed 27 = .ok (.getfield 10, 3) := by decide +kernel
theorem sX8_feed_27 : ab_X rom K cX8_feed 6 1 27 ls (.ref a :: st) hp = (ab_fld hp a 6 0).bind (fun v => ab_X rom K cX8_feed 6 1 30 ls (v :: st) hp) := ax_getfield dX8_feed_27 kf_6_10 rfl
theorem dX8_feed_30 : decode cX8_feed 30 = .ok (.iload_n 2, 1) := by decide +kernel
theorem sX8_feed_30 : ab_X rom K cX8_feed 6 1 30 (v0 :: v1 :: .int x :: ls) st hp = ab_X rom K cX8_feed 6 1 31 (v0 :: v1 :: .int x :: ls) (.int x :: st) hp := ax_iload_n dX8_feed_30 rfl rfl
theorem dX8_feed_31 : decode cX8_feed 31 = .ok (.invokevirtual 72, 3) := by decide +kernel
theorem sX8_feed_31_0 : ab_X rom K cX8_feed 6 1 31 ls [w1, .ref a] hp = if ab_iso hp a 5 = true then (K 77 (.ref a :: [w1]) hp).bind (fun o => ab_X rom K cX8_feed 6 1 34 ls (o.1.toList ++ []) o.2) else none := ay_virtual (as := [w1]) (st := []) dX8_feed_31 kc_6_72 rfl rfl (Nat.le_of_ble_eq_true rfl)
theorem sX8_feed_31_1 : ab_X rom K cX8_feed 6 1 31 ls [w1, .ref a, v0] hp = if ab_iso hp a 5 = true then (K 77 (.ref a :: [w1]) hp).bind (fun o => ab_X rom K cX8_feed 6 1 34 ls (o.1.toList ++ [v0]) o.2) else none := ay_virtual (as := [w1]) (st := [v0]) dX8_feed_31 kc_6_72 rfl rfl (Nat.le_of_ble_eq_true rfl)
theorem sX8_feed_31_2 : ab_X rom K cX8_feed 6 1 31 ls [w1, .ref a, v0, v1] hp = if ab_iso hp a 5 = true then (K 77 (.ref a :: [w1]) hp).bind (fun o => ab_X rom K cX8_feed 6 1 34 ls (o.1.toList ++ [v0, v1]) o.2) else none := ay_virtual (as := [w1]) (st := [v0, v1]) dX8_feed_31 kc_6_72 rfl rfl (Nat.le_of_ble_eq_true rfl)
theorem sX8_feed_31_3 : ab_X rom K cX8_feed 6 1 31 ls [w1, .ref a, v0, v1, v2] hp = if ab_iso hp a 5 = true then (K 77 (.ref a :: [w1]) hp).bind (fun o => ab_X rom K cX8_feed 6 1 34 ls (o.1.toList ++ [v0, v1, v2]) o.2) else none := ay_virtual (as := [w1]) (st := [v0, v1, v2]) dX8_feed_31 kc_6_72 rfl rfl (Nat.le_of_ble_eq_true rfl)
theorem dX8_feed_34 : decode cX8_feed 34 = .ok (.aload_n 0, 1) := by decide +kernel
theorem sX8_feed_34 : ab_X rom K cX8_feed 6 1 34 (.ref a :: ls) st hp = ab_X rom K cX8_feed 6 1 35 (.ref a :: ls) (.ref a :: st) hp := ax_aload_n dX8_feed_34 rfl rfl
theorem dX8_feed_35 : decode cX8_feed 35 = .ok (.getfield 10, 3) := by decide +kernel
theorem sX8_feed_35 : ab_X rom K cX8_feed 6 1 35 ls (.ref a :: st) hp = (ab_fld hp a 6 0).bind (fun v => ab_X rom K cX8_feed 6 1 38 ls (v :: st) hp) := ax_getfield dX8_feed_35 kf_6_10 rfl
theorem dX8_feed_38 : decode cX8_feed 38 = .ok (.iload_n 3, 1) := by decide +kernel
theorem sX8_feed_38 : ab_X rom K cX8_feed 6 1 38 (v0 :: v1 :: v2 :: .int x :: ls) st hp = ab_X rom K cX8_feed 6 1 39 (v0 :: v1 :: v2 :: .int x :: ls) (.int x :: st) hp := ax_iload_n dX8_feed_38 rfl rfl
theorem dX8_feed_39 : decode cX8_feed 39 = .ok (.invokevirtual 72, 3) := by decide +kernel
theorem sX8_feed_39_0 : ab_X rom K cX8_feed 6 1 39 ls [w1, .ref a] hp = if ab_iso hp a 5 = true then (K 77 (.ref a :: [w1]) hp).bind (fun o => ab_X rom K cX8_feed 6 1 42 ls (o.1.toList ++ []) o.2) else none := ay_virtual (as := [w1]) (st := []) dX8_feed_39 kc_6_72 rfl rfl (Nat.le_of_ble_eq_true rfl)
theorem sX8_feed_39_1 : ab_X rom K cX8_feed 6 1 39 ls [w1, .ref a, v0] hp = if ab_iso hp a 5 = true then (K 77 (.ref a :: [w1]) hp).bind (fun o => ab_X rom K cX8_feed 6 1 42 ls (o.1.toList ++ [v0]) o.2) else none := ay_virtual (as := [w1]) (st := [v0]) dX8_feed_39 kc_6_72 rfl rfl (Nat.le_of_ble_eq_true rfl)
theorem sX8_feed_39_2 : ab_X rom K cX8_feed 6 1 39 ls [w1, .ref a, v0, v1] hp = if ab_iso hp a 5 = true then (K 77 (.ref a :: [w1]) hp).bind (fun o => ab_X rom K cX8_feed 6 1 42 ls (o.1.toList ++ [v0, v1]) o.2) else none := ay_virtual (as := [w1]) (st := [v0, v1]) dX8_feed_39 kc_6_72 rfl rfl (Nat.le_of_ble_eq_true rfl)
theorem sX8_feed_39_3 : ab_X rom K cX8_feed 6 1 39 ls [w1, .ref a, v0, v1, v2] hp = if ab_iso hp a 5 = true then (K 77 (.ref a :: [w1]) hp).bind (fun o => ab_X rom K cX8_feed 6 1 42 ls (o.1.toList ++ [v0, v1, v2]) o.2) else none := ay_virtual (as := [w1]) (st := [v0, v1, v2]) dX8_feed_39 kc_6_72 rfl rfl (Nat.le_of_ble_eq_true rfl)
theorem dX8_feed_42 : decode cX8_feed 42 = .ok (.aload_n 0, 1) := by decide +kernel
theorem sX8_feed_42 : ab_X rom K cX8_feed 6 1 42 (.ref a :: ls) st hp = ab_X rom K cX8_feed 6 1 43 (.ref a :: ls) (.ref a :: st) hp := ax_aload_n dX8_feed_42 rfl rfl
theorem dX8_feed_43 : decode cX8_feed 43 = .ok (.getfield 10, 3) := by decide +kernel
theorem sX8_feed_43 : ab_X rom K cX8_feed 6 1 43 ls (.ref a :: st) hp = (ab_fld hp a 6 0).bind (fun v => ab_X rom K cX8_feed 6 1 46 ls (v :: st) hp) := ax_getfield dX8_feed_43 kf_6_10 rfl
theorem dX8_feed_46 : decode cX8_feed 46 = .ok (.iload 4, 2) := by decide +kernel
theorem sX8_feed_46 : ab_X rom K cX8_feed 6 1 46 (v0 :: v1 :: v2 :: v3 :: .int x :: ls) st hp = ab_X rom K cX8_feed 6 1 48 (v0 :: v1 :: v2 :: v3 :: .int x :: ls) (.int x :: st) hp := ax_iload dX8_feed_46 rfl rfl
theorem dX8_feed_48 : decode cX8_feed 48 = .ok (.invokevirtual 72, 3) := by decide +kernel
theorem sX8_feed_48_0 : ab_X rom K cX8_feed 6 1 48 ls [w1, .ref a] hp = if ab_iso hp a 5 = true then (K 77 (.ref a :: [w1]) hp).bind (fun o => ab_X rom K cX8_feed 6 1 51 ls (o.1.toList ++ []) o.2) else none := ay_virtual (as := [w1]) (st := []) dX8_feed_48 kc_6_72 rfl rfl (Nat.le_of_ble_eq_true rfl)
theorem sX8_feed_48_1 : ab_X rom K cX8_feed 6 1 48 ls [w1, .ref a, v0] hp = if ab_iso hp a 5 = true then (K 77 (.ref a :: [w1]) hp).bind (fun o => ab_X rom K cX8_feed 6 1 51 ls (o.1.toList ++ [v0]) o.2) else none := ay_virtual (as := [w1]) (st := [v0]) dX8_feed_48 kc_6_72 rfl rfl (Nat.le_of_ble_eq_true rfl)
theorem sX8_feed_48_2 : ab_X rom K cX8_feed 6 1 48 ls [w1, .ref a, v0, v1] hp = if ab_iso hp a 5 = true then (K 77 (.ref a :: [w1]) hp).bind (fun o => ab_X rom K cX8_feed 6 1 51 ls (o.1.toList ++ [v0, v1]) o.2) else none := ay_virtual (as := [w1]) (st := [v0, v1]) dX8_feed_48 kc_6_72 rfl rfl (Nat.le_of_ble_eq_true rfl)
theorem sX8_feed_48_3 : ab_X rom K cX8_feed 6 1 48 ls [w1, .ref a, v0, v1, v2] hp = if ab_iso hp a 5 = true then (K 77 (.ref a :: [w1]) hp).bind (fun o => ab_X rom K cX8_feed 6 1 51 ls (o.1.toList ++ [v0, v1, v2]) o.2) else none := ay_virtual (as := [w1]) (st := [v0, v1, v2]) dX8_feed_48 kc_6_72 rfl rfl (Nat.le_of_ble_eq_true rfl)
theorem dX8_feed_51 : decode cX8_feed 51 = .ok (.aload_n 0, 1) := by decide +kernel
theorem sX8_feed_51 : ab_X rom K cX8_feed 6 1 51 (.ref a :: ls) st hp = ab_X rom K cX8_feed 6 1 52 (.ref a :: ls) (.ref a :: st) hp := ax_aload_n dX8_feed_51 rfl rfl
theorem dX8_feed_52 : decode cX8_feed 52 = .ok (.getfield 10, 3) := by decide +kernel
theorem sX8_feed_52 : ab_X rom K cX8_feed 6 1 52 ls (.ref a :: st) hp = (ab_fld hp a 6 0).bind (fun v => ab_X rom K cX8_feed 6 1 55 ls (v :: st) hp) := ax_getfield dX8_feed_52 kf_6_10 rfl
theorem dX8_feed_55 : decode cX8_feed 55 = .ok (.iload 5, 2) := by decide +kernel
theorem sX8_feed_55 : ab_X rom K cX8_feed 6 1 55 (v0 :: v1 :: v2 :: v3 :: v4 :: .int x :: ls) st hp = ab_X rom K cX8_feed 6 1 57 (v0 :: v1 :: v2 :: v3 :: v4 :: .int x :: ls) (.int x :: st) hp := ax_iload dX8_feed_55 rfl rfl
theorem dX8_feed_57 : decode cX8_feed 57 = .ok (.invokevirtual 72, 3) := by decide +kernel
theorem sX8_feed_57_0 : ab_X rom K cX8_feed 6 1 57 ls [w1, .ref a] hp = if ab_iso hp a 5 = true then (K 77 (.ref a :: [w1]) hp).bind (fun o => ab_X rom K cX8_feed 6 1 60 ls (o.1.toList ++ []) o.2) else none := ay_virtual (as := [w1]) (st := []) dX8_feed_57 kc_6_72 rfl rfl (Nat.le_of_ble_eq_true rfl)
theorem sX8_feed_57_1 : ab_X rom K cX8_feed 6 1 57 ls [w1, .ref a, v0] hp = if ab_iso hp a 5 = true then (K 77 (.ref a :: [w1]) hp).bind (fun o => ab_X rom K cX8_feed 6 1 60 ls (o.1.toList ++ [v0]) o.2) else none := ay_virtual (as := [w1]) (st := [v0]) dX8_feed_57 kc_6_72 rfl rfl (Nat.le_of_ble_eq_true rfl)
theorem sX8_feed_57_2 : ab_X rom K cX8_feed 6 1 57 ls [w1, .ref a, v0, v1] hp = if ab_iso hp a 5 = true then (K 77 (.ref a :: [w1]) hp).bind (fun o => ab_X rom K cX8_feed 6 1 60 ls (o.1.toList ++ [v0, v1]) o.2) else none := ay_virtual (as := [w1]) (st := [v0, v1]) dX8_feed_57 kc_6_72 rfl rfl (Nat.le_of_ble_eq_true rfl)
theorem sX8_feed_57_3 : ab_X rom K cX8_feed 6 1 57 ls [w1, .ref a, v0, v1, v2] hp = if ab_iso hp a 5 = true then (K 77 (.ref a :: [w1]) hp).bind (fun o => ab_X rom K cX8_feed 6 1 60 ls (o.1.toList ++ [v0, v1, v2]) o.2) else none := ay_virtual (as := [w1]) (st := [v0, v1, v2]) dX8_feed_57 kc_6_72 rfl rfl (Nat.le_of_ble_eq_true rfl)
theorem dX8_feed_60 : decode cX8_feed 60 = .ok (.aload_n 0, 1) := by decide +kernel
theorem sX8_feed_60 : ab_X rom K cX8_feed 6 1 60 (.ref a :: ls) st hp = ab_X rom K cX8_feed 6 1 61 (.ref a :: ls) (.ref a :: st) hp := ax_aload_n dX8_feed_60 rfl rfl
theorem dX8_feed_61 : decode cX8_feed 61 = .ok (.getfield 10, 3) := by decide +kernel
theorem sX8_feed_61 : ab_X rom K cX8_feed 6 1 61 ls (.ref a :: st) hp = (ab_fld hp a 6 0).bind (fun v => ab_X rom K cX8_feed 6 1 64 ls (v :: st) hp) := ax_getfield dX8_feed_61 kf_6_10 rfl
theorem dX8_feed_64 : decode cX8_feed 64 = .ok (.getfield 69, 3) := by decide +kernel
theorem sX8_feed_64 : ab_X rom K cX8_feed 6 1 64 ls (.ref a :: st) hp = (ab_fld hp a 5 1).bind (fun v => ab_X rom K cX8_feed 6 1 67 ls (v :: st) hp) := ax_getfield dX8_feed_64 kf_6_69 rfl
theorem dX8_feed_67 : decode cX8_feed 67 = .ok (.ireturn, 1) := by decide +kernel
theorem sX8_feed_67 : ab_X rom K cX8_feed 6 1 67 ls [.int x] hp = some (some (.int x), hp) := ax_iret dX8_feed_67 rfl
theorem tX8_filledSlots : ab_mT[93]? = some (yX8_filledSlots, cX8_filledSlots, 3, 1, 6) := by decide +kernel
theorem mX8_filledSlots {d : Nat} {a0 : Nat} : ab_M rom (d + 1) 93 [.ref a0] hp = ab_X rom (ab_M rom d) cX8_filledSlots 6 1 0 [.ref a0, .null, .null] [] hp := ab_M_eq tX8_filledSlots (Nat.le_of_ble_eq_true rfl)
theorem dX8_filledSlots_0 : decode cX8_filledSlots 0 = .ok (.iconst 0, 1) := by decide +kernel
theorem sX8_filledSlots_0 : ab_X rom K cX8_filledSlots 6 1 0 ls st hp = ab_X rom K cX8_filledSlots 6 1 1 ls (.int 0 :: st) hp := ax_iconst dX8_filledSlots_0 (by decide) rfl
theorem dX8_filledSlots_1 : decode cX8_filledSlots 1 = .ok (.istore_n 1, 1) := by decide +kernel
theorem sX8_filledSlots_1i : ab_X rom K cX8_filledSlots 6 1 1 (.int y :: v1 :: ls) (.int x :: st) hp = ab_X rom K cX8_filledSlots 6 1 2 (.int y :: .int x :: ls) st hp := ax_istore_n dX8_filledSlots_1 (ax_lt (v := v1) rfl) (ab_nl_c1 (j := 0) (v := .int y) rfl (ab_c1_int _)) rfl rfl
theorem sX8_filledSlots_1r : ab_X rom K cX8_filledSlots 6 1 1 (.ref a2 :: v1 :: ls) (.int x :: st) hp = ab_X rom K cX8_filledSlots 6 1 2 (.ref a2 :: .int x :: ls) st hp := ax_istore_n dX8_filledSlots_1 (ax_lt (v := v1) rfl) (ab_nl_c1 (j := 0) (v := .ref a2) rfl (ab_c1_ref _)) rfl rfl
theorem sX8_filledSlots_1n : ab_X rom K cX8_filledSlots 6 1 1 (.null :: v1 :: ls) (.int x :: st) hp = ab_X rom K cX8_filledSlots 6 1 2 (.null :: .int x :: ls) st hp := ax_istore_n dX8_filledSlots_1 (ax_lt (v := v1) rfl) (ab_nl_c1 (j := 0) (v := .null) rfl ab_c1_null) rfl rfl
theorem dX8_filledSlots_2 : decode cX8_filledSlots 2 = .ok (.iconst 0, 1) := by decide +kernel
theorem sX8_filledSlots_2 : ab_X rom K cX8_filledSlots 6 1 2 ls st hp = ab_X rom K cX8_filledSlots 6 1 3 ls (.int 0 :: st) hp := ax_iconst dX8_filledSlots_2 (by decide) rfl
theorem dX8_filledSlots_3 : decode cX8_filledSlots 3 = .ok (.istore_n 2, 1) := by decide +kernel
theorem sX8_filledSlots_3i : ab_X rom K cX8_filledSlots 6 1 3 (v0 :: .int y :: v2 :: ls) (.int x :: st) hp = ab_X rom K cX8_filledSlots 6 1 4 (v0 :: .int y :: .int x :: ls) st hp := ax_istore_n dX8_filledSlots_3 (ax_lt (v := v2) rfl) (ab_nl_c1 (j := 1) (v := .int y) rfl (ab_c1_int _)) rfl rfl
theorem sX8_filledSlots_3r : ab_X rom K cX8_filledSlots 6 1 3 (v0 :: .ref a2 :: v2 :: ls) (.int x :: st) hp = ab_X rom K cX8_filledSlots 6 1 4 (v0 :: .ref a2 :: .int x :: ls) st hp := ax_istore_n dX8_filledSlots_3 (ax_lt (v := v2) rfl) (ab_nl_c1 (j := 1) (v := .ref a2) rfl (ab_c1_ref _)) rfl rfl
theorem sX8_filledSlots_3n : ab_X rom K cX8_filledSlots 6 1 3 (v0 :: .null :: v2 :: ls) (.int x :: st) hp = ab_X rom K cX8_filledSlots 6 1 4 (v0 :: .null :: .int x :: ls) st hp := ax_istore_n dX8_filledSlots_3 (ax_lt (v := v2) rfl) (ab_nl_c1 (j := 1) (v := .null) rfl ab_c1_null) rfl rfl
theorem dX8_filledSlots_4 : decode cX8_filledSlots 4 = .ok (.iload_n 2, 1) := by decide +kernel
theorem sX8_filledSlots_4 : ab_X rom K cX8_filledSlots 6 1 4 (v0 :: v1 :: .int x :: ls) st hp = ab_X rom K cX8_filledSlots 6 1 5 (v0 :: v1 :: .int x :: ls) (.int x :: st) hp := ax_iload_n dX8_filledSlots_4 rfl rfl
theorem dX8_filledSlots_5 : decode cX8_filledSlots 5 = .ok (.iconst 3, 1) := by decide +kernel
theorem sX8_filledSlots_5 : ab_X rom K cX8_filledSlots 6 1 5 ls st hp = ab_X rom K cX8_filledSlots 6 1 6 ls (.int 3 :: st) hp := ax_iconst dX8_filledSlots_5 (by decide) rfl
theorem dX8_filledSlots_6 : decode cX8_filledSlots 6 = .ok (.if_icmp .ge 27, 3) := by decide +kernel
theorem sX8_filledSlots_6 : ab_X rom K cX8_filledSlots 6 1 6 ls (.int y :: .int x :: st) hp = if x < y then ab_X rom K cX8_filledSlots 6 1 9 ls st hp else ab_X rom K cX8_filledSlots 6 1 33 ls st hp := ax_icmp_ge dX8_filledSlots_6 (by decide) rfl
theorem dX8_filledSlots_9 : decode cX8_filledSlots 9 = .ok (.aload_n 0, 1) := by decide +kernel
theorem sX8_filledSlots_9 : ab_X rom K cX8_filledSlots 6 1 9 (.ref a :: ls) st hp = ab_X rom K cX8_filledSlots 6 1 10 (.ref a :: ls) (.ref a :: st) hp := ax_aload_n dX8_filledSlots_9 rfl rfl
theorem dX8_filledSlots_10 : decode cX8_filledSlots 10 = .ok (.getfield 21, 3) := by decide +kernel
theorem sX8_filledSlots_10 : ab_X rom K cX8_filledSlots 6 1 10 ls (.ref a :: st) hp = (ab_fld hp a 6 3).bind (fun v => ab_X rom K cX8_filledSlots 6 1 13 ls (v :: st) hp) := ax_getfield dX8_filledSlots_10 kf_6_21 rfl
theorem dX8_filledSlots_13 : decode cX8_filledSlots 13 = .ok (.iload_n 2, 1) := by decide +kernel
theorem sX8_filledSlots_13 : ab_X rom K cX8_filledSlots 6 1 13 (v0 :: v1 :: .int x :: ls) st hp = ab_X rom K cX8_filledSlots 6 1 14 (v0 :: v1 :: .int x :: ls) (.int x :: st) hp := ax_iload_n dX8_filledSlots_13 rfl rfl
theorem dX8_filledSlots_14 : decode cX8_filledSlots 14 = .ok (.aaload, 1) := by decide +kernel
theorem sX8_filledSlots_14 : ab_X rom K cX8_filledSlots 6 1 14 ls (.int x :: .ref a :: st) hp = (ab_rrd hp a x).bind (fun v => ab_X rom K cX8_filledSlots 6 1 15 ls (.ref v :: st) hp) := ax_aaload dX8_filledSlots_14 rfl
theorem dX8_filledSlots_15 : decode cX8_filledSlots 15 = .ok (.getfield 102, 3) := by decide +kernel
theorem sX8_filledSlots_15 : ab_X rom K cX8_filledSlots 6 1 15 ls (.ref a :: st) hp = (ab_fld hp a 1 0).bind (fun v => ab_X rom K cX8_filledSlots 6 1 18 ls (v :: st) hp) := ax_getfield dX8_filledSlots_15 kf_6_102 rfl
theorem dX8_filledSlots_18 : decode cX8_filledSlots 18 = .ok (.ifCond .le 9, 3) := by decide +kernel
theorem sX8_filledSlots_18 : ab_X rom K cX8_filledSlots 6 1 18 ls (.int x :: st) hp = if 0 < x then ab_X rom K cX8_filledSlots 6 1 21 ls st hp else ab_X rom K cX8_filledSlots 6 1 27 ls st hp := ax_if_le dX8_filledSlots_18 (by decide) rfl
theorem dX8_filledSlots_21 : decode cX8_filledSlots 21 = .ok (.iload_n 1, 1) := by decide +kernel
theorem sX8_filledSlots_21 : ab_X rom K cX8_filledSlots 6 1 21 (v0 :: .int x :: ls) st hp = ab_X rom K cX8_filledSlots 6 1 22 (v0 :: .int x :: ls) (.int x :: st) hp := ax_iload_n dX8_filledSlots_21 rfl rfl
theorem dX8_filledSlots_22 : decode cX8_filledSlots 22 = .ok (.iconst 1, 1) := by decide +kernel
theorem sX8_filledSlots_22 : ab_X rom K cX8_filledSlots 6 1 22 ls st hp = ab_X rom K cX8_filledSlots 6 1 23 ls (.int 1 :: st) hp := ax_iconst dX8_filledSlots_22 (by decide) rfl
theorem dX8_filledSlots_23 : decode cX8_filledSlots 23 = .ok (.iload_n 2, 1) := by decide +kernel
theorem sX8_filledSlots_23 : ab_X rom K cX8_filledSlots 6 1 23 (v0 :: v1 :: .int x :: ls) st hp = ab_X rom K cX8_filledSlots 6 1 24 (v0 :: v1 :: .int x :: ls) (.int x :: st) hp := ax_iload_n dX8_filledSlots_23 rfl rfl
theorem dX8_filledSlots_24 : decode cX8_filledSlots 24 = .ok (.ishl, 1) := by decide +kernel
theorem sX8_filledSlots_24 : ab_X rom K cX8_filledSlots 6 1 24 ls (.int y :: .int x :: st) hp = ab_X rom K cX8_filledSlots 6 1 25 ls (.int (x <<< (y &&& 31)) :: st) hp := ax_ishl dX8_filledSlots_24 rfl
theorem dX8_filledSlots_25 : decode cX8_filledSlots 25 = .ok (.ior, 1) := by decide +kernel
theorem sX8_filledSlots_25 : ab_X rom K cX8_filledSlots 6 1 25 ls (.int y :: .int x :: st) hp = ab_X rom K cX8_filledSlots 6 1 26 ls (.int (x ||| y) :: st) hp := ax_ior dX8_filledSlots_25 rfl
theorem dX8_filledSlots_26 : decode cX8_filledSlots 26 = .ok (.istore_n 1, 1) := by decide +kernel
theorem sX8_filledSlots_26i : ab_X rom K cX8_filledSlots 6 1 26 (.int y :: v1 :: ls) (.int x :: st) hp = ab_X rom K cX8_filledSlots 6 1 27 (.int y :: .int x :: ls) st hp := ax_istore_n dX8_filledSlots_26 (ax_lt (v := v1) rfl) (ab_nl_c1 (j := 0) (v := .int y) rfl (ab_c1_int _)) rfl rfl
theorem sX8_filledSlots_26r : ab_X rom K cX8_filledSlots 6 1 26 (.ref a2 :: v1 :: ls) (.int x :: st) hp = ab_X rom K cX8_filledSlots 6 1 27 (.ref a2 :: .int x :: ls) st hp := ax_istore_n dX8_filledSlots_26 (ax_lt (v := v1) rfl) (ab_nl_c1 (j := 0) (v := .ref a2) rfl (ab_c1_ref _)) rfl rfl
theorem sX8_filledSlots_26n : ab_X rom K cX8_filledSlots 6 1 26 (.null :: v1 :: ls) (.int x :: st) hp = ab_X rom K cX8_filledSlots 6 1 27 (.null :: .int x :: ls) st hp := ax_istore_n dX8_filledSlots_26 (ax_lt (v := v1) rfl) (ab_nl_c1 (j := 0) (v := .null) rfl ab_c1_null) rfl rfl
theorem dX8_filledSlots_27 : decode cX8_filledSlots 27 = .ok (.iinc 2 1, 3) := by decide +kernel
theorem sX8_filledSlots_27i : ab_X rom K cX8_filledSlots 6 1 27 (v0 :: .int y :: .int x :: ls) st hp = ab_X rom K cX8_filledSlots 6 1 30 (v0 :: .int y :: .int (x + 1) :: ls) st hp := ax_iinc dX8_filledSlots_27 rfl (ab_nl_c1 (j := 1) (v := .int y) rfl (ab_c1_int _)) (by decide) rfl rfl
theorem sX8_filledSlots_27r : ab_X rom K cX8_filledSlots 6 1 27 (v0 :: .ref a2 :: .int x :: ls) st hp = ab_X rom K cX8_filledSlots 6 1 30 (v0 :: .ref a2 :: .int (x + 1) :: ls) st hp := ax_iinc dX8_filledSlots_27 rfl (ab_nl_c1 (j := 1) (v := .ref a2) rfl (ab_c1_ref _)) (by decide) rfl rfl
theorem sX8_filledSlots_27n : ab_X rom K cX8_filledSlots 6 1 27 (v0 :: .null :: .int x :: ls) st hp = ab_X rom K cX8_filledSlots 6 1 30 (v0 :: .null :: .int (x + 1) :: ls) st hp := ax_iinc dX8_filledSlots_27 rfl (ab_nl_c1 (j := 1) (v := .null) rfl ab_c1_null) (by decide) rfl rfl
theorem dX8_filledSlots_30 : decode cX8_filledSlots 30 = .ok (.goto (-26), 3) := by decide +kernel
theorem sX8_filledSlots_30 : ab_X rom K cX8_filledSlots 6 1 30 ls st hp = ab_X rom K cX8_filledSlots 6 1 4 ls st hp := ax_goto dX8_filledSlots_30 (by decide)
theorem dX8_filledSlots_33 : decode cX8_filledSlots 33 = .ok (.iload_n 1, 1) := by decide +kernel
theorem sX8_filledSlots_33 : ab_X rom K cX8_filledSlots 6 1 33 (v0 :: .int x :: ls) st hp = ab_X rom K cX8_filledSlots 6 1 34 (v0 :: .int x :: ls) (.int x :: st) hp := ax_iload_n dX8_filledSlots_33 rfl rfl
theorem dX8_filledSlots_34 : decode cX8_filledSlots 34 = .ok (.ireturn, 1) := by decide +kernel
theorem sX8_filledSlots_34 : ab_X rom K cX8_filledSlots 6 1 34 ls [.int x] hp = some (some (.int x), hp) := ax_iret dX8_filledSlots_34 rfl
theorem tX8_grafts : ab_mT[94]? = some (yX8_grafts, cX8_grafts, 8, 1, 6) := by decide +kernel
theorem mX8_grafts {d : Nat} {a0 : Nat} {x0 : Int32} {x1 : Int32} {x2 : Int32} : ab_M rom (d + 1) 94 [.ref a0, .int x0, .int x1, .int x2] hp = ab_X rom (ab_M rom d) cX8_grafts 6 1 0 [.ref a0, .int x0, .int x1, .int x2, .null, .null, .null, .null] [] hp := ab_M_eq tX8_grafts (Nat.le_of_ble_eq_true rfl)
theorem dX8_grafts_0 : decode cX8_grafts 0 = .ok (.aload_n 0, 1) := by decide +kernel
theorem sX8_grafts_0 : ab_X rom K cX8_grafts 6 1 0 (.ref a :: ls) st hp = ab_X rom K cX8_grafts 6 1 1 (.ref a :: ls) (.ref a :: st) hp := ax_aload_n dX8_grafts_0 rfl rfl
theorem dX8_grafts_1 : decode cX8_grafts 1 = .ok (.iload_n 1, 1) := by decide +kernel
theorem sX8_grafts_1 : ab_X rom K cX8_grafts 6 1 1 (v0 :: .int x :: ls) st hp = ab_X rom K cX8_grafts 6 1 2 (v0 :: .int x :: ls) (.int x :: st) hp := ax_iload_n dX8_grafts_1 rfl rfl
theorem dX8_grafts_2 : decode cX8_grafts 2 = .ok (.invokevirtual 99, 3) := by decide +kernel
theorem sX8_grafts_2_0 : ab_X rom K cX8_grafts 6 1 2 ls [w1, .ref a] hp = if ab_iso hp a 6 = true then (K 95 (.ref a :: [w1]) hp).bind (fun o => ab_X rom K cX8_grafts 6 1 5 ls (o.1.toList ++ []) o.2) else none := ay_virtual (as := [w1]) (st := []) dX8_grafts_2 kc_6_99 rfl rfl (Nat.le_of_ble_eq_true rfl)
theorem sX8_grafts_2_1 : ab_X rom K cX8_grafts 6 1 2 ls [w1, .ref a, v0] hp = if ab_iso hp a 6 = true then (K 95 (.ref a :: [w1]) hp).bind (fun o => ab_X rom K cX8_grafts 6 1 5 ls (o.1.toList ++ [v0]) o.2) else none := ay_virtual (as := [w1]) (st := [v0]) dX8_grafts_2 kc_6_99 rfl rfl (Nat.le_of_ble_eq_true rfl)
theorem sX8_grafts_2_2 : ab_X rom K cX8_grafts 6 1 2 ls [w1, .ref a, v0, v1] hp = if ab_iso hp a 6 = true then (K 95 (.ref a :: [w1]) hp).bind (fun o => ab_X rom K cX8_grafts 6 1 5 ls (o.1.toList ++ [v0, v1]) o.2) else none := ay_virtual (as := [w1]) (st := [v0, v1]) dX8_grafts_2 kc_6_99 rfl rfl (Nat.le_of_ble_eq_true rfl)
theorem sX8_grafts_2_3 : ab_X rom K cX8_grafts 6 1 2 ls [w1, .ref a, v0, v1, v2] hp = if ab_iso hp a 6 = true then (K 95 (.ref a :: [w1]) hp).bind (fun o => ab_X rom K cX8_grafts 6 1 5 ls (o.1.toList ++ [v0, v1, v2]) o.2) else none := ay_virtual (as := [w1]) (st := [v0, v1, v2]) dX8_grafts_2 kc_6_99 rfl rfl (Nat.le_of_ble_eq_true rfl)
theorem dX8_grafts_5 : decode cX8_grafts 5 = .ok (.ifCond .eq 18, 3) := by decide +kernel
theorem sX8_grafts_5 : ab_X rom K cX8_grafts 6 1 5 ls (.int x :: st) hp = if x = 0 then ab_X rom K cX8_grafts 6 1 23 ls st hp else ab_X rom K cX8_grafts 6 1 8 ls st hp := ax_if_eq dX8_grafts_5 (by decide) rfl
theorem dX8_grafts_8 : decode cX8_grafts 8 = .ok (.aload_n 0, 1) := by decide +kernel
theorem sX8_grafts_8 : ab_X rom K cX8_grafts 6 1 8 (.ref a :: ls) st hp = ab_X rom K cX8_grafts 6 1 9 (.ref a :: ls) (.ref a :: st) hp := ax_aload_n dX8_grafts_8 rfl rfl
theorem dX8_grafts_9 : decode cX8_grafts 9 = .ok (.iload_n 2, 1) := by decide +kernel
theorem sX8_grafts_9 : ab_X rom K cX8_grafts 6 1 9 (v0 :: v1 :: .int x :: ls) st hp = ab_X rom K cX8_grafts 6 1 10 (v0 :: v1 :: .int x :: ls) (.int x :: st) hp := ax_iload_n dX8_grafts_9 rfl rfl
theorem dX8_grafts_10 : decode cX8_grafts 10 = .ok (.invokevirtual 99, 3) := by decide +kernel
theorem sX8_grafts_10_0 : ab_X rom K cX8_grafts 6 1 10 ls [w1, .ref a] hp = if ab_iso hp a 6 = true then (K 95 (.ref a :: [w1]) hp).bind (fun o => ab_X rom K cX8_grafts 6 1 13 ls (o.1.toList ++ []) o.2) else none := ay_virtual (as := [w1]) (st := []) dX8_grafts_10 kc_6_99 rfl rfl (Nat.le_of_ble_eq_true rfl)
theorem sX8_grafts_10_1 : ab_X rom K cX8_grafts 6 1 10 ls [w1, .ref a, v0] hp = if ab_iso hp a 6 = true then (K 95 (.ref a :: [w1]) hp).bind (fun o => ab_X rom K cX8_grafts 6 1 13 ls (o.1.toList ++ [v0]) o.2) else none := ay_virtual (as := [w1]) (st := [v0]) dX8_grafts_10 kc_6_99 rfl rfl (Nat.le_of_ble_eq_true rfl)
theorem sX8_grafts_10_2 : ab_X rom K cX8_grafts 6 1 10 ls [w1, .ref a, v0, v1] hp = if ab_iso hp a 6 = true then (K 95 (.ref a :: [w1]) hp).bind (fun o => ab_X rom K cX8_grafts 6 1 13 ls (o.1.toList ++ [v0, v1]) o.2) else none := ay_virtual (as := [w1]) (st := [v0, v1]) dX8_grafts_10 kc_6_99 rfl rfl (Nat.le_of_ble_eq_true rfl)
theorem sX8_grafts_10_3 : ab_X rom K cX8_grafts 6 1 10 ls [w1, .ref a, v0, v1, v2] hp = if ab_iso hp a 6 = true then (K 95 (.ref a :: [w1]) hp).bind (fun o => ab_X rom K cX8_grafts 6 1 13 ls (o.1.toList ++ [v0, v1, v2]) o.2) else none := ay_virtual (as := [w1]) (st := [v0, v1, v2]) dX8_grafts_10 kc_6_99 rfl rfl (Nat.le_of_ble_eq_true rfl)
theorem dX8_grafts_13 : decode cX8_grafts 13 = .ok (.ifCond .eq 10, 3) := by decide +kernel
theorem sX8_grafts_13 : ab_X rom K cX8_grafts 6 1 13 ls (.int x :: st) hp = if x = 0 then ab_X rom K cX8_grafts 6 1 23 ls st hp else ab_X rom K cX8_grafts 6 1 16 ls st hp := ax_if_eq dX8_grafts_13 (by decide) rfl
theorem dX8_grafts_16 : decode cX8_grafts 16 = .ok (.iload_n 3, 1) := by decide +kernel
theorem sX8_grafts_16 : ab_X rom K cX8_grafts 6 1 16 (v0 :: v1 :: v2 :: .int x :: ls) st hp = ab_X rom K cX8_grafts 6 1 17 (v0 :: v1 :: v2 :: .int x :: ls) (.int x :: st) hp := ax_iload_n dX8_grafts_16 rfl rfl
theorem dX8_grafts_17 : decode cX8_grafts 17 = .ok (.invokestatic 76, 3) := by decide +kernel
theorem sX8_grafts_17_0 : ab_X rom K cX8_grafts 6 1 17 ls [w1] hp = (K 101 [w1] hp).bind (fun o => ab_X rom K cX8_grafts 6 1 20 ls (o.1.toList ++ []) o.2) := ax_static (as := [w1]) (st := []) dX8_grafts_17 kc_6_76 rfl rfl (Nat.le_of_ble_eq_true rfl)
theorem sX8_grafts_17_1 : ab_X rom K cX8_grafts 6 1 17 ls [w1, v0] hp = (K 101 [w1] hp).bind (fun o => ab_X rom K cX8_grafts 6 1 20 ls (o.1.toList ++ [v0]) o.2) := ax_static (as := [w1]) (st := [v0]) dX8_grafts_17 kc_6_76 rfl rfl (Nat.le_of_ble_eq_true rfl)
theorem sX8_grafts_17_2 : ab_X rom K cX8_grafts 6 1 17 ls [w1, v0, v1] hp = (K 101 [w1] hp).bind (fun o => ab_X rom K cX8_grafts 6 1 20 ls (o.1.toList ++ [v0, v1]) o.2) := ax_static (as := [w1]) (st := [v0, v1]) dX8_grafts_17 kc_6_76 rfl rfl (Nat.le_of_ble_eq_true rfl)
theorem sX8_grafts_17_3 : ab_X rom K cX8_grafts 6 1 17 ls [w1, v0, v1, v2] hp = (K 101 [w1] hp).bind (fun o => ab_X rom K cX8_grafts 6 1 20 ls (o.1.toList ++ [v0, v1, v2]) o.2) := ax_static (as := [w1]) (st := [v0, v1, v2]) dX8_grafts_17 kc_6_76 rfl rfl (Nat.le_of_ble_eq_true rfl)
theorem dX8_grafts_20 : decode cX8_grafts 20 = .ok (.ifCond .ne 6, 3) := by decide +kernel
theorem sX8_grafts_20 : ab_X rom K cX8_grafts 6 1 20 ls (.int x :: st) hp = if x = 0 then ab_X rom K cX8_grafts 6 1 23 ls st hp else ab_X rom K cX8_grafts 6 1 26 ls st hp := ax_if_ne dX8_grafts_20 (by decide) rfl
theorem dX8_grafts_23 : decode cX8_grafts 23 = .ok (.bipush (-2), 2) := by decide +kernel
theorem sX8_grafts_23 : ab_X rom K cX8_grafts 6 1 23 ls st hp = ab_X rom K cX8_grafts 6 1 25 ls (.int (-2) :: st) hp := ax_bipush dX8_grafts_23 (by decide) rfl
theorem dX8_grafts_25 : decode cX8_grafts 25 = .ok (.ireturn, 1) := by decide +kernel
theorem sX8_grafts_25 : ab_X rom K cX8_grafts 6 1 25 ls [.int x] hp = some (some (.int x), hp) := ax_iret dX8_grafts_25 rfl
theorem dX8_grafts_26 : decode cX8_grafts 26 = .ok (.aload_n 0, 1) := by decide +kernel
theorem sX8_grafts_26 : ab_X rom K cX8_grafts 6 1 26 (.ref a :: ls) st hp = ab_X rom K cX8_grafts 6 1 27 (.ref a :: ls) (.ref a :: st) hp := ax_aload_n dX8_grafts_26 rfl rfl
theorem dX8_grafts_27 : decode cX8_grafts 27 = .ok (.getfield 21, 3) := by decide +kernel
theorem sX8_grafts_27 : ab_X rom K cX8_grafts 6 1 27 ls (.ref a :: st) hp = (ab_fld hp a 6 3).bind (fun v => ab_X rom K cX8_grafts 6 1 30 ls (v :: st) hp) := ax_getfield dX8_grafts_27 kf_6_21 rfl
theorem dX8_grafts_30 : decode cX8_grafts 30 = .ok (.iload_n 1, 1) := by decide +kernel
theorem sX8_grafts_30 : ab_X rom K cX8_grafts 6 1 30 (v0 :: .int x :: ls) st hp = ab_X rom K cX8_grafts 6 1 31 (v0 :: .int x :: ls) (.int x :: st) hp := ax_iload_n dX8_grafts_30 rfl rfl
theorem dX8_grafts_31 : decode cX8_grafts 31 = .ok (.aaload, 1) := by decide +kernel
theorem sX8_grafts_31 : ab_X rom K cX8_grafts 6 1 31 ls (.int x :: .ref a :: st) hp = (ab_rrd hp a x).bind (fun v => ab_X rom K cX8_grafts 6 1 32 ls (.ref v :: st) hp) := ax_aaload dX8_grafts_31 rfl
theorem dX8_grafts_32 : decode cX8_grafts 32 = .ok (.astore 4, 2) := by decide +kernel
theorem sX8_grafts_32i : ab_X rom K cX8_grafts 6 1 32 (v0 :: v1 :: v2 :: .int y :: v4 :: ls) (.ref a :: st) hp = ab_X rom K cX8_grafts 6 1 34 (v0 :: v1 :: v2 :: .int y :: .ref a :: ls) st hp := ax_astore dX8_grafts_32 (ax_lt (v := v4) rfl) (ab_nl_c1 (j := 3) (v := .int y) rfl (ab_c1_int _)) rfl rfl
theorem sX8_grafts_32r : ab_X rom K cX8_grafts 6 1 32 (v0 :: v1 :: v2 :: .ref a2 :: v4 :: ls) (.ref a :: st) hp = ab_X rom K cX8_grafts 6 1 34 (v0 :: v1 :: v2 :: .ref a2 :: .ref a :: ls) st hp := ax_astore dX8_grafts_32 (ax_lt (v := v4) rfl) (ab_nl_c1 (j := 3) (v := .ref a2) rfl (ab_c1_ref _)) rfl rfl
theorem sX8_grafts_32n : ab_X rom K cX8_grafts 6 1 32 (v0 :: v1 :: v2 :: .null :: v4 :: ls) (.ref a :: st) hp = ab_X rom K cX8_grafts 6 1 34 (v0 :: v1 :: v2 :: .null :: .ref a :: ls) st hp := ax_astore dX8_grafts_32 (ax_lt (v := v4) rfl) (ab_nl_c1 (j := 3) (v := .null) rfl ab_c1_null) rfl rfl
theorem dX8_grafts_34 : decode cX8_grafts 34 = .ok (.aload_n 0, 1) := by decide +kernel
theorem sX8_grafts_34 : ab_X rom K cX8_grafts 6 1 34 (.ref a :: ls) st hp = ab_X rom K cX8_grafts 6 1 35 (.ref a :: ls) (.ref a :: st) hp := ax_aload_n dX8_grafts_34 rfl rfl
theorem dX8_grafts_35 : decode cX8_grafts 35 = .ok (.getfield 21, 3) := by decide +kernel
theorem sX8_grafts_35 : ab_X rom K cX8_grafts 6 1 35 ls (.ref a :: st) hp = (ab_fld hp a 6 3).bind (fun v => ab_X rom K cX8_grafts 6 1 38 ls (v :: st) hp) := ax_getfield dX8_grafts_35 kf_6_21 rfl
theorem dX8_grafts_38 : decode cX8_grafts 38 = .ok (.iload_n 2, 1) := by decide +kernel
theorem sX8_grafts_38 : ab_X rom K cX8_grafts 6 1 38 (v0 :: v1 :: .int x :: ls) st hp = ab_X rom K cX8_grafts 6 1 39 (v0 :: v1 :: .int x :: ls) (.int x :: st) hp := ax_iload_n dX8_grafts_38 rfl rfl
theorem dX8_grafts_39 : decode cX8_grafts 39 = .ok (.aaload, 1) := by decide +kernel
theorem sX8_grafts_39 : ab_X rom K cX8_grafts 6 1 39 ls (.int x :: .ref a :: st) hp = (ab_rrd hp a x).bind (fun v => ab_X rom K cX8_grafts 6 1 40 ls (.ref v :: st) hp) := ax_aaload dX8_grafts_39 rfl
theorem dX8_grafts_40 : decode cX8_grafts 40 = .ok (.astore 5, 2) := by decide +kernel
theorem sX8_grafts_40i : ab_X rom K cX8_grafts 6 1 40 (v0 :: v1 :: v2 :: v3 :: .int y :: v5 :: ls) (.ref a :: st) hp = ab_X rom K cX8_grafts 6 1 42 (v0 :: v1 :: v2 :: v3 :: .int y :: .ref a :: ls) st hp := ax_astore dX8_grafts_40 (ax_lt (v := v5) rfl) (ab_nl_c1 (j := 4) (v := .int y) rfl (ab_c1_int _)) rfl rfl
theorem sX8_grafts_40r : ab_X rom K cX8_grafts 6 1 40 (v0 :: v1 :: v2 :: v3 :: .ref a2 :: v5 :: ls) (.ref a :: st) hp = ab_X rom K cX8_grafts 6 1 42 (v0 :: v1 :: v2 :: v3 :: .ref a2 :: .ref a :: ls) st hp := ax_astore dX8_grafts_40 (ax_lt (v := v5) rfl) (ab_nl_c1 (j := 4) (v := .ref a2) rfl (ab_c1_ref _)) rfl rfl
theorem sX8_grafts_40n : ab_X rom K cX8_grafts 6 1 40 (v0 :: v1 :: v2 :: v3 :: .null :: v5 :: ls) (.ref a :: st) hp = ab_X rom K cX8_grafts 6 1 42 (v0 :: v1 :: v2 :: v3 :: .null :: .ref a :: ls) st hp := ax_astore dX8_grafts_40 (ax_lt (v := v5) rfl) (ab_nl_c1 (j := 4) (v := .null) rfl ab_c1_null) rfl rfl
theorem dX8_grafts_42 : decode cX8_grafts 42 = .ok (.aload 4, 2) := by decide +kernel
theorem sX8_grafts_42 : ab_X rom K cX8_grafts 6 1 42 (v0 :: v1 :: v2 :: v3 :: .ref a :: ls) st hp = ab_X rom K cX8_grafts 6 1 44 (v0 :: v1 :: v2 :: v3 :: .ref a :: ls) (.ref a :: st) hp := ax_aload dX8_grafts_42 rfl rfl
theorem dX8_grafts_44 : decode cX8_grafts 44 = .ok (.getfield 102, 3) := by decide +kernel
theorem sX8_grafts_44 : ab_X rom K cX8_grafts 6 1 44 ls (.ref a :: st) hp = (ab_fld hp a 1 0).bind (fun v => ab_X rom K cX8_grafts 6 1 47 ls (v :: st) hp) := ax_getfield dX8_grafts_44 kf_6_102 rfl
theorem dX8_grafts_47 : decode cX8_grafts 47 = .ok (.aload 5, 2) := by decide +kernel
theorem sX8_grafts_47 : ab_X rom K cX8_grafts 6 1 47 (v0 :: v1 :: v2 :: v3 :: v4 :: .ref a :: ls) st hp = ab_X rom K cX8_grafts 6 1 49 (v0 :: v1 :: v2 :: v3 :: v4 :: .ref a :: ls) (.ref a :: st) hp := ax_aload dX8_grafts_47 rfl rfl
theorem dX8_grafts_49 : decode cX8_grafts 49 = .ok (.getfield 102, 3) := by decide +kernel
theorem sX8_grafts_49 : ab_X rom K cX8_grafts 6 1 49 ls (.ref a :: st) hp = (ab_fld hp a 1 0).bind (fun v => ab_X rom K cX8_grafts 6 1 52 ls (v :: st) hp) := ax_getfield dX8_grafts_49 kf_6_102 rfl
theorem dX8_grafts_52 : decode cX8_grafts 52 = .ok (.iadd, 1) := by decide +kernel
theorem sX8_grafts_52 : ab_X rom K cX8_grafts 6 1 52 ls (.int y :: .int x :: st) hp = ab_X rom K cX8_grafts 6 1 53 ls (.int (x + y) :: st) hp := ax_iadd dX8_grafts_52 rfl
theorem dX8_grafts_53 : decode cX8_grafts 53 = .ok (.iconst 1, 1) := by decide +kernel
theorem sX8_grafts_53 : ab_X rom K cX8_grafts 6 1 53 ls st hp = ab_X rom K cX8_grafts 6 1 54 ls (.int 1 :: st) hp := ax_iconst dX8_grafts_53 (by decide) rfl
theorem dX8_grafts_54 : decode cX8_grafts 54 = .ok (.isub, 1) := by decide +kernel
theorem sX8_grafts_54 : ab_X rom K cX8_grafts 6 1 54 ls (.int y :: .int x :: st) hp = ab_X rom K cX8_grafts 6 1 55 ls (.int (x - y) :: st) hp := ax_isub dX8_grafts_54 rfl
theorem dX8_grafts_55 : decode cX8_grafts 55 = .ok (.bipush 7, 2) := by decide +kernel
theorem sX8_grafts_55 : ab_X rom K cX8_grafts 6 1 55 ls st hp = ab_X rom K cX8_grafts 6 1 57 ls (.int 7 :: st) hp := ax_bipush dX8_grafts_55 (by decide) rfl
theorem dX8_grafts_57 : decode cX8_grafts 57 = .ok (.if_icmp .gt 19, 3) := by decide +kernel
theorem sX8_grafts_57 : ab_X rom K cX8_grafts 6 1 57 ls (.int y :: .int x :: st) hp = if y < x then ab_X rom K cX8_grafts 6 1 76 ls st hp else ab_X rom K cX8_grafts 6 1 60 ls st hp := ax_icmp_gt dX8_grafts_57 (by decide) rfl
theorem dX8_grafts_60 : decode cX8_grafts 60 = .ok (.aload 4, 2) := by decide +kernel
theorem sX8_grafts_60 : ab_X rom K cX8_grafts 6 1 60 (v0 :: v1 :: v2 :: v3 :: .ref a :: ls) st hp = ab_X rom K cX8_grafts 6 1 62 (v0 :: v1 :: v2 :: v3 :: .ref a :: ls) (.ref a :: st) hp := ax_aload dX8_grafts_60 rfl rfl
theorem dX8_grafts_62 : decode cX8_grafts 62 = .ok (.getfield 89, 3) := by decide +kernel
theorem sX8_grafts_62 : ab_X rom K cX8_grafts 6 1 62 ls (.ref a :: st) hp = (ab_fld hp a 1 1).bind (fun v => ab_X rom K cX8_grafts 6 1 65 ls (v :: st) hp) := ax_getfield dX8_grafts_62 kf_6_89 rfl
theorem dX8_grafts_65 : decode cX8_grafts 65 = .ok (.aload 5, 2) := by decide +kernel
theorem sX8_grafts_65 : ab_X rom K cX8_grafts 6 1 65 (v0 :: v1 :: v2 :: v3 :: v4 :: .ref a :: ls) st hp = ab_X rom K cX8_grafts 6 1 67 (v0 :: v1 :: v2 :: v3 :: v4 :: .ref a :: ls) (.ref a :: st) hp := ax_aload dX8_grafts_65 rfl rfl
theorem dX8_grafts_67 : decode cX8_grafts 67 = .ok (.getfield 89, 3) := by decide +kernel
theorem sX8_grafts_67 : ab_X rom K cX8_grafts 6 1 67 ls (.ref a :: st) hp = (ab_fld hp a 1 1).bind (fun v => ab_X rom K cX8_grafts 6 1 70 ls (v :: st) hp) := ax_getfield dX8_grafts_67 kf_6_89 rfl
theorem dX8_grafts_70 : decode cX8_grafts 70 = .ok (.iadd, 1) := by decide +kernel
theorem sX8_grafts_70 : ab_X rom K cX8_grafts 6 1 70 ls (.int y :: .int x :: st) hp = ab_X rom K cX8_grafts 6 1 71 ls (.int (x + y) :: st) hp := ax_iadd dX8_grafts_70 rfl
theorem dX8_grafts_71 : decode cX8_grafts 71 = .ok (.bipush 10, 2) := by decide +kernel
theorem sX8_grafts_71 : ab_X rom K cX8_grafts 6 1 71 ls st hp = ab_X rom K cX8_grafts 6 1 73 ls (.int 10 :: st) hp := ax_bipush dX8_grafts_71 (by decide) rfl
theorem dX8_grafts_73 : decode cX8_grafts 73 = .ok (.if_icmp .le 6, 3) := by decide +kernel
theorem sX8_grafts_73 : ab_X rom K cX8_grafts 6 1 73 ls (.int y :: .int x :: st) hp = if y < x then ab_X rom K cX8_grafts 6 1 76 ls st hp else ab_X rom K cX8_grafts 6 1 79 ls st hp := ax_icmp_le dX8_grafts_73 (by decide) rfl
theorem dX8_grafts_76 : decode cX8_grafts 76 = .ok (.bipush (-5), 2) := by decide +kernel
theorem sX8_grafts_76 : ab_X rom K cX8_grafts 6 1 76 ls st hp = ab_X rom K cX8_grafts 6 1 78 ls (.int (-5) :: st) hp := ax_bipush dX8_grafts_76 (by decide) rfl
theorem dX8_grafts_78 : decode cX8_grafts 78 = .ok (.ireturn, 1) := by decide +kernel
theorem sX8_grafts_78 : ab_X rom K cX8_grafts 6 1 78 ls [.int x] hp = some (some (.int x), hp) := ax_iret dX8_grafts_78 rfl
theorem dX8_grafts_79 : decode cX8_grafts 79 = .ok (.aload 4, 2) := by decide +kernel
theorem sX8_grafts_79 : ab_X rom K cX8_grafts 6 1 79 (v0 :: v1 :: v2 :: v3 :: .ref a :: ls) st hp = ab_X rom K cX8_grafts 6 1 81 (v0 :: v1 :: v2 :: v3 :: .ref a :: ls) (.ref a :: st) hp := ax_aload dX8_grafts_79 rfl rfl
theorem dX8_grafts_81 : decode cX8_grafts 81 = .ok (.invokestatic 249, 3) := by decide +kernel
theorem sX8_grafts_81_0 : ab_X rom K cX8_grafts 6 1 81 ls [w1] hp = (K 243 [w1] hp).bind (fun o => ab_X rom K cX8_grafts 6 1 84 ls (o.1.toList ++ []) o.2) := ax_static (as := [w1]) (st := []) dX8_grafts_81 kc_6_249 rfl rfl (Nat.le_of_ble_eq_true rfl)
theorem sX8_grafts_81_1 : ab_X rom K cX8_grafts 6 1 81 ls [w1, v0] hp = (K 243 [w1] hp).bind (fun o => ab_X rom K cX8_grafts 6 1 84 ls (o.1.toList ++ [v0]) o.2) := ax_static (as := [w1]) (st := [v0]) dX8_grafts_81 kc_6_249 rfl rfl (Nat.le_of_ble_eq_true rfl)
theorem sX8_grafts_81_2 : ab_X rom K cX8_grafts 6 1 81 ls [w1, v0, v1] hp = (K 243 [w1] hp).bind (fun o => ab_X rom K cX8_grafts 6 1 84 ls (o.1.toList ++ [v0, v1]) o.2) := ax_static (as := [w1]) (st := [v0, v1]) dX8_grafts_81 kc_6_249 rfl rfl (Nat.le_of_ble_eq_true rfl)
theorem sX8_grafts_81_3 : ab_X rom K cX8_grafts 6 1 81 ls [w1, v0, v1, v2] hp = (K 243 [w1] hp).bind (fun o => ab_X rom K cX8_grafts 6 1 84 ls (o.1.toList ++ [v0, v1, v2]) o.2) := ax_static (as := [w1]) (st := [v0, v1, v2]) dX8_grafts_81 kc_6_249 rfl rfl (Nat.le_of_ble_eq_true rfl)
theorem dX8_grafts_84 : decode cX8_grafts 84 = .ok (.istore 6, 2) := by decide +kernel
theorem sX8_grafts_84i : ab_X rom K cX8_grafts 6 1 84 (v0 :: v1 :: v2 :: v3 :: v4 :: .int y :: v6 :: ls) (.int x :: st) hp = ab_X rom K cX8_grafts 6 1 86 (v0 :: v1 :: v2 :: v3 :: v4 :: .int y :: .int x :: ls) st hp := ax_istore dX8_grafts_84 (ax_lt (v := v6) rfl) (ab_nl_c1 (j := 5) (v := .int y) rfl (ab_c1_int _)) rfl rfl
theorem sX8_grafts_84r : ab_X rom K cX8_grafts 6 1 84 (v0 :: v1 :: v2 :: v3 :: v4 :: .ref a2 :: v6 :: ls) (.int x :: st) hp = ab_X rom K cX8_grafts 6 1 86 (v0 :: v1 :: v2 :: v3 :: v4 :: .ref a2 :: .int x :: ls) st hp := ax_istore dX8_grafts_84 (ax_lt (v := v6) rfl) (ab_nl_c1 (j := 5) (v := .ref a2) rfl (ab_c1_ref _)) rfl rfl
theorem sX8_grafts_84n : ab_X rom K cX8_grafts 6 1 84 (v0 :: v1 :: v2 :: v3 :: v4 :: .null :: v6 :: ls) (.int x :: st) hp = ab_X rom K cX8_grafts 6 1 86 (v0 :: v1 :: v2 :: v3 :: v4 :: .null :: .int x :: ls) st hp := ax_istore dX8_grafts_84 (ax_lt (v := v6) rfl) (ab_nl_c1 (j := 5) (v := .null) rfl ab_c1_null) rfl rfl
theorem dX8_grafts_86 : decode cX8_grafts 86 = .ok (.aload 5, 2) := by decide +kernel
theorem sX8_grafts_86 : ab_X rom K cX8_grafts 6 1 86 (v0 :: v1 :: v2 :: v3 :: v4 :: .ref a :: ls) st hp = ab_X rom K cX8_grafts 6 1 88 (v0 :: v1 :: v2 :: v3 :: v4 :: .ref a :: ls) (.ref a :: st) hp := ax_aload dX8_grafts_86 rfl rfl
theorem dX8_grafts_88 : decode cX8_grafts 88 = .ok (.iconst 0, 1) := by decide +kernel
theorem sX8_grafts_88 : ab_X rom K cX8_grafts 6 1 88 ls st hp = ab_X rom K cX8_grafts 6 1 89 ls (.int 0 :: st) hp := ax_iconst dX8_grafts_88 (by decide) rfl
theorem dX8_grafts_89 : decode cX8_grafts 89 = .ok (.invokevirtual 252, 3) := by decide +kernel
theorem sX8_grafts_89_0 : ab_X rom K cX8_grafts 6 1 89 ls [w1, .ref a] hp = if ab_iso hp a 1 = true then (K 30 (.ref a :: [w1]) hp).bind (fun o => ab_X rom K cX8_grafts 6 1 92 ls (o.1.toList ++ []) o.2) else none := ay_virtual (as := [w1]) (st := []) dX8_grafts_89 kc_6_252 rfl rfl (Nat.le_of_ble_eq_true rfl)
theorem sX8_grafts_89_1 : ab_X rom K cX8_grafts 6 1 89 ls [w1, .ref a, v0] hp = if ab_iso hp a 1 = true then (K 30 (.ref a :: [w1]) hp).bind (fun o => ab_X rom K cX8_grafts 6 1 92 ls (o.1.toList ++ [v0]) o.2) else none := ay_virtual (as := [w1]) (st := [v0]) dX8_grafts_89 kc_6_252 rfl rfl (Nat.le_of_ble_eq_true rfl)
theorem sX8_grafts_89_2 : ab_X rom K cX8_grafts 6 1 89 ls [w1, .ref a, v0, v1] hp = if ab_iso hp a 1 = true then (K 30 (.ref a :: [w1]) hp).bind (fun o => ab_X rom K cX8_grafts 6 1 92 ls (o.1.toList ++ [v0, v1]) o.2) else none := ay_virtual (as := [w1]) (st := [v0, v1]) dX8_grafts_89 kc_6_252 rfl rfl (Nat.le_of_ble_eq_true rfl)
theorem sX8_grafts_89_3 : ab_X rom K cX8_grafts 6 1 89 ls [w1, .ref a, v0, v1, v2] hp = if ab_iso hp a 1 = true then (K 30 (.ref a :: [w1]) hp).bind (fun o => ab_X rom K cX8_grafts 6 1 92 ls (o.1.toList ++ [v0, v1, v2]) o.2) else none := ay_virtual (as := [w1]) (st := [v0, v1, v2]) dX8_grafts_89 kc_6_252 rfl rfl (Nat.le_of_ble_eq_true rfl)
theorem dX8_grafts_92 : decode cX8_grafts 92 = .ok (.istore 7, 2) := by decide +kernel
theorem sX8_grafts_92i : ab_X rom K cX8_grafts 6 1 92 (v0 :: v1 :: v2 :: v3 :: v4 :: v5 :: .int y :: v7 :: ls) (.int x :: st) hp = ab_X rom K cX8_grafts 6 1 94 (v0 :: v1 :: v2 :: v3 :: v4 :: v5 :: .int y :: .int x :: ls) st hp := ax_istore dX8_grafts_92 (ax_lt (v := v7) rfl) (ab_nl_c1 (j := 6) (v := .int y) rfl (ab_c1_int _)) rfl rfl
theorem sX8_grafts_92r : ab_X rom K cX8_grafts 6 1 92 (v0 :: v1 :: v2 :: v3 :: v4 :: v5 :: .ref a2 :: v7 :: ls) (.int x :: st) hp = ab_X rom K cX8_grafts 6 1 94 (v0 :: v1 :: v2 :: v3 :: v4 :: v5 :: .ref a2 :: .int x :: ls) st hp := ax_istore dX8_grafts_92 (ax_lt (v := v7) rfl) (ab_nl_c1 (j := 6) (v := .ref a2) rfl (ab_c1_ref _)) rfl rfl
theorem sX8_grafts_92n : ab_X rom K cX8_grafts 6 1 92 (v0 :: v1 :: v2 :: v3 :: v4 :: v5 :: .null :: v7 :: ls) (.int x :: st) hp = ab_X rom K cX8_grafts 6 1 94 (v0 :: v1 :: v2 :: v3 :: v4 :: v5 :: .null :: .int x :: ls) st hp := ax_istore dX8_grafts_92 (ax_lt (v := v7) rfl) (ab_nl_c1 (j := 6) (v := .null) rfl ab_c1_null) rfl rfl
theorem dX8_grafts_94 : decode cX8_grafts 94 = .ok (.iload 6, 2) := by decide +kernel
theorem sX8_grafts_94 : ab_X rom K cX8_grafts 6 1 94 (v0 :: v1 :: v2 :: v3 :: v4 :: v5 :: .int x :: ls) st hp = ab_X rom K cX8_grafts 6 1 96 (v0 :: v1 :: v2 :: v3 :: v4 :: v5 :: .int x :: ls) (.int x :: st) hp := ax_iload dX8_grafts_94 rfl rfl
theorem dX8_grafts_96 : decode cX8_grafts 96 = .ok (.iconst (-1), 1) := by decide +kernel
theorem sX8_grafts_96 : ab_X rom K cX8_grafts 6 1 96 ls st hp = ab_X rom K cX8_grafts 6 1 97 ls (.int (-1) :: st) hp := ax_iconst dX8_grafts_96 (by decide) rfl
theorem dX8_grafts_97 : decode cX8_grafts 97 = .ok (.if_icmp .eq 18, 3) := by decide +kernel
theorem sX8_grafts_97 : ab_X rom K cX8_grafts 6 1 97 ls (.int y :: .int x :: st) hp = if x = y then ab_X rom K cX8_grafts 6 1 115 ls st hp else ab_X rom K cX8_grafts 6 1 100 ls st hp := ax_icmp_eq dX8_grafts_97 (by decide) rfl
theorem dX8_grafts_100 : decode cX8_grafts 100 = .ok (.iload 7, 2) := by decide +kernel
theorem sX8_grafts_100 : ab_X rom K cX8_grafts 6 1 100 (v0 :: v1 :: v2 :: v3 :: v4 :: v5 :: v6 :: .int x :: ls) st hp = ab_X rom K cX8_grafts 6 1 102 (v0 :: v1 :: v2 :: v3 :: v4 :: v5 :: v6 :: .int x :: ls) (.int x :: st) hp := ax_iload dX8_grafts_100 rfl rfl
theorem dX8_grafts_102 : decode cX8_grafts 102 = .ok (.iconst (-1), 1) := by decide +kernel
theorem sX8_grafts_102 : ab_X rom K cX8_grafts 6 1 102 ls st hp = ab_X rom K cX8_grafts 6 1 103 ls (.int (-1) :: st) hp := ax_iconst dX8_grafts_102 (by decide) rfl
theorem dX8_grafts_103 : decode cX8_grafts 103 = .ok (.if_icmp .eq 12, 3) := by decide +kernel
theorem sX8_grafts_103 : ab_X rom K cX8_grafts 6 1 103 ls (.int y :: .int x :: st) hp = if x = y then ab_X rom K cX8_grafts 6 1 115 ls st hp else ab_X rom K cX8_grafts 6 1 106 ls st hp := ax_icmp_eq dX8_grafts_103 (by decide) rfl
theorem dX8_grafts_106 : decode cX8_grafts 106 = .ok (.aload 5, 2) := by decide +kernel
theorem sX8_grafts_106 : ab_X rom K cX8_grafts 6 1 106 (v0 :: v1 :: v2 :: v3 :: v4 :: .ref a :: ls) st hp = ab_X rom K cX8_grafts 6 1 108 (v0 :: v1 :: v2 :: v3 :: v4 :: .ref a :: ls) (.ref a :: st) hp := ax_aload dX8_grafts_106 rfl rfl
theorem dX8_grafts_108 : decode cX8_grafts 108 = .ok (.iconst 0, 1) := by decide +kernel
theorem sX8_grafts_108 : ab_X rom K cX8_grafts 6 1 108 ls st hp = ab_X rom K cX8_grafts 6 1 109 ls (.int 0 :: st) hp := ax_iconst dX8_grafts_108 (by decide) rfl
theorem dX8_grafts_109 : decode cX8_grafts 109 = .ok (.invokestatic 177, 3) := by decide +kernel
theorem sX8_grafts_109_0 : ab_X rom K cX8_grafts 6 1 109 ls [w2, w1] hp = (K 251 [w1, w2] hp).bind (fun o => ab_X rom K cX8_grafts 6 1 112 ls (o.1.toList ++ []) o.2) := ax_static (as := [w1, w2]) (st := []) dX8_grafts_109 kc_6_177 rfl rfl (Nat.le_of_ble_eq_true rfl)
theorem sX8_grafts_109_1 : ab_X rom K cX8_grafts 6 1 109 ls [w2, w1, v0] hp = (K 251 [w1, w2] hp).bind (fun o => ab_X rom K cX8_grafts 6 1 112 ls (o.1.toList ++ [v0]) o.2) := ax_static (as := [w1, w2]) (st := [v0]) dX8_grafts_109 kc_6_177 rfl rfl (Nat.le_of_ble_eq_true rfl)
theorem sX8_grafts_109_2 : ab_X rom K cX8_grafts 6 1 109 ls [w2, w1, v0, v1] hp = (K 251 [w1, w2] hp).bind (fun o => ab_X rom K cX8_grafts 6 1 112 ls (o.1.toList ++ [v0, v1]) o.2) := ax_static (as := [w1, w2]) (st := [v0, v1]) dX8_grafts_109 kc_6_177 rfl rfl (Nat.le_of_ble_eq_true rfl)
theorem sX8_grafts_109_3 : ab_X rom K cX8_grafts 6 1 109 ls [w2, w1, v0, v1, v2] hp = (K 251 [w1, w2] hp).bind (fun o => ab_X rom K cX8_grafts 6 1 112 ls (o.1.toList ++ [v0, v1, v2]) o.2) := ax_static (as := [w1, w2]) (st := [v0, v1, v2]) dX8_grafts_109 kc_6_177 rfl rfl (Nat.le_of_ble_eq_true rfl)
theorem dX8_grafts_112 : decode cX8_grafts 112 = .ok (.ifCond .eq 6, 3) := by decide +kernel
theorem sX8_grafts_112 : ab_X rom K cX8_grafts 6 1 112 ls (.int x :: st) hp = if x = 0 then ab_X rom K cX8_grafts 6 1 118 ls st hp else ab_X rom K cX8_grafts 6 1 115 ls st hp := ax_if_eq dX8_grafts_112 (by decide) rfl
theorem dX8_grafts_115 : decode cX8_grafts 115 = .ok (.bipush (-6), 2) := by decide +kernel
theorem sX8_grafts_115 : ab_X rom K cX8_grafts 6 1 115 ls st hp = ab_X rom K cX8_grafts 6 1 117 ls (.int (-6) :: st) hp := ax_bipush dX8_grafts_115 (by decide) rfl
theorem dX8_grafts_117 : decode cX8_grafts 117 = .ok (.ireturn, 1) := by decide +kernel
theorem sX8_grafts_117 : ab_X rom K cX8_grafts 6 1 117 ls [.int x] hp = some (some (.int x), hp) := ax_iret dX8_grafts_117 rfl
theorem dX8_grafts_118 : decode cX8_grafts 118 = .ok (.aload_n 0, 1) := by decide +kernel
theorem sX8_grafts_118 : ab_X rom K cX8_grafts 6 1 118 (.ref a :: ls) st hp = ab_X rom K cX8_grafts 6 1 119 (.ref a :: ls) (.ref a :: st) hp := ax_aload_n dX8_grafts_118 rfl rfl
theorem dX8_grafts_119 : decode cX8_grafts 119 = .ok (.getfield 26, 3) := by decide +kernel
theorem sX8_grafts_119 : ab_X rom K cX8_grafts 6 1 119 ls (.ref a :: st) hp = (ab_fld hp a 6 4).bind (fun v => ab_X rom K cX8_grafts 6 1 122 ls (v :: st) hp) := ax_getfield dX8_grafts_119 kf_6_26 rfl
theorem dX8_grafts_122 : decode cX8_grafts 122 = .ok (.aload 4, 2) := by decide +kernel
theorem sX8_grafts_122 : ab_X rom K cX8_grafts 6 1 122 (v0 :: v1 :: v2 :: v3 :: .ref a :: ls) st hp = ab_X rom K cX8_grafts 6 1 124 (v0 :: v1 :: v2 :: v3 :: .ref a :: ls) (.ref a :: st) hp := ax_aload dX8_grafts_122 rfl rfl
theorem dX8_grafts_124 : decode cX8_grafts 124 = .ok (.aload 5, 2) := by decide +kernel
theorem sX8_grafts_124 : ab_X rom K cX8_grafts 6 1 124 (v0 :: v1 :: v2 :: v3 :: v4 :: .ref a :: ls) st hp = ab_X rom K cX8_grafts 6 1 126 (v0 :: v1 :: v2 :: v3 :: v4 :: .ref a :: ls) (.ref a :: st) hp := ax_aload dX8_grafts_124 rfl rfl
theorem dX8_grafts_126 : decode cX8_grafts 126 = .ok (.iload 6, 2) := by decide +kernel
theorem sX8_grafts_126 : ab_X rom K cX8_grafts 6 1 126 (v0 :: v1 :: v2 :: v3 :: v4 :: v5 :: .int x :: ls) st hp = ab_X rom K cX8_grafts 6 1 128 (v0 :: v1 :: v2 :: v3 :: v4 :: v5 :: .int x :: ls) (.int x :: st) hp := ax_iload dX8_grafts_126 rfl rfl
theorem dX8_grafts_128 : decode cX8_grafts 128 = .ok (.iload 7, 2) := by decide +kernel
theorem sX8_grafts_128 : ab_X rom K cX8_grafts 6 1 128 (v0 :: v1 :: v2 :: v3 :: v4 :: v5 :: v6 :: .int x :: ls) st hp = ab_X rom K cX8_grafts 6 1 130 (v0 :: v1 :: v2 :: v3 :: v4 :: v5 :: v6 :: .int x :: ls) (.int x :: st) hp := ax_iload dX8_grafts_128 rfl rfl
theorem dX8_grafts_130 : decode cX8_grafts 130 = .ok (.invokestatic 255, 3) := by decide +kernel
theorem sX8_grafts_130_0 : ab_X rom K cX8_grafts 6 1 130 ls [w5, w4, w3, w2, w1] hp = (K 259 [w1, w2, w3, w4, w5] hp).bind (fun o => ab_X rom K cX8_grafts 6 1 133 ls (o.1.toList ++ []) o.2) := ax_static (as := [w1, w2, w3, w4, w5]) (st := []) dX8_grafts_130 kc_6_255 rfl rfl (Nat.le_of_ble_eq_true rfl)
theorem sX8_grafts_130_1 : ab_X rom K cX8_grafts 6 1 130 ls [w5, w4, w3, w2, w1, v0] hp = (K 259 [w1, w2, w3, w4, w5] hp).bind (fun o => ab_X rom K cX8_grafts 6 1 133 ls (o.1.toList ++ [v0]) o.2) := ax_static (as := [w1, w2, w3, w4, w5]) (st := [v0]) dX8_grafts_130 kc_6_255 rfl rfl (Nat.le_of_ble_eq_true rfl)
theorem sX8_grafts_130_2 : ab_X rom K cX8_grafts 6 1 130 ls [w5, w4, w3, w2, w1, v0, v1] hp = (K 259 [w1, w2, w3, w4, w5] hp).bind (fun o => ab_X rom K cX8_grafts 6 1 133 ls (o.1.toList ++ [v0, v1]) o.2) := ax_static (as := [w1, w2, w3, w4, w5]) (st := [v0, v1]) dX8_grafts_130 kc_6_255 rfl rfl (Nat.le_of_ble_eq_true rfl)
theorem sX8_grafts_130_3 : ab_X rom K cX8_grafts 6 1 130 ls [w5, w4, w3, w2, w1, v0, v1, v2] hp = (K 259 [w1, w2, w3, w4, w5] hp).bind (fun o => ab_X rom K cX8_grafts 6 1 133 ls (o.1.toList ++ [v0, v1, v2]) o.2) := ax_static (as := [w1, w2, w3, w4, w5]) (st := [v0, v1, v2]) dX8_grafts_130 kc_6_255 rfl rfl (Nat.le_of_ble_eq_true rfl)
theorem dX8_grafts_133 : decode cX8_grafts 133 = .ok (.aload_n 0, 1) := by decide +kernel
theorem sX8_grafts_133 : ab_X rom K cX8_grafts 6 1 133 (.ref a :: ls) st hp = ab_X rom K cX8_grafts 6 1 134 (.ref a :: ls) (.ref a :: st) hp := ax_aload_n dX8_grafts_133 rfl rfl
theorem dX8_grafts_134 : decode cX8_grafts 134 = .ok (.iload_n 3, 1) := by decide +kernel
theorem sX8_grafts_134 : ab_X rom K cX8_grafts 6 1 134 (v0 :: v1 :: v2 :: .int x :: ls) st hp = ab_X rom K cX8_grafts 6 1 135 (v0 :: v1 :: v2 :: .int x :: ls) (.int x :: st) hp := ax_iload_n dX8_grafts_134 rfl rfl
theorem dX8_grafts_135 : decode cX8_grafts 135 = .ok (.invokevirtual 86, 3) := by decide +kernel
theorem sX8_grafts_135_0 : ab_X rom K cX8_grafts 6 1 135 ls [w1, .ref a] hp = if ab_iso hp a 6 = true then (K 102 (.ref a :: [w1]) hp).bind (fun o => ab_X rom K cX8_grafts 6 1 138 ls (o.1.toList ++ []) o.2) else none := ay_virtual (as := [w1]) (st := []) dX8_grafts_135 kc_6_86 rfl rfl (Nat.le_of_ble_eq_true rfl)
theorem sX8_grafts_135_1 : ab_X rom K cX8_grafts 6 1 135 ls [w1, .ref a, v0] hp = if ab_iso hp a 6 = true then (K 102 (.ref a :: [w1]) hp).bind (fun o => ab_X rom K cX8_grafts 6 1 138 ls (o.1.toList ++ [v0]) o.2) else none := ay_virtual (as := [w1]) (st := [v0]) dX8_grafts_135 kc_6_86 rfl rfl (Nat.le_of_ble_eq_true rfl)
theorem sX8_grafts_135_2 : ab_X rom K cX8_grafts 6 1 135 ls [w1, .ref a, v0, v1] hp = if ab_iso hp a 6 = true then (K 102 (.ref a :: [w1]) hp).bind (fun o => ab_X rom K cX8_grafts 6 1 138 ls (o.1.toList ++ [v0, v1]) o.2) else none := ay_virtual (as := [w1]) (st := [v0, v1]) dX8_grafts_135 kc_6_86 rfl rfl (Nat.le_of_ble_eq_true rfl)
theorem sX8_grafts_135_3 : ab_X rom K cX8_grafts 6 1 135 ls [w1, .ref a, v0, v1, v2] hp = if ab_iso hp a 6 = true then (K 102 (.ref a :: [w1]) hp).bind (fun o => ab_X rom K cX8_grafts 6 1 138 ls (o.1.toList ++ [v0, v1, v2]) o.2) else none := ay_virtual (as := [w1]) (st := [v0, v1, v2]) dX8_grafts_135 kc_6_86 rfl rfl (Nat.le_of_ble_eq_true rfl)
theorem dX8_grafts_138 : decode cX8_grafts 138 = .ok (.aload_n 0, 1) := by decide +kernel
theorem sX8_grafts_138 : ab_X rom K cX8_grafts 6 1 138 (.ref a :: ls) st hp = ab_X rom K cX8_grafts 6 1 139 (.ref a :: ls) (.ref a :: st) hp := ax_aload_n dX8_grafts_138 rfl rfl
theorem dX8_grafts_139 : decode cX8_grafts 139 = .ok (.getfield 21, 3) := by decide +kernel
theorem sX8_grafts_139 : ab_X rom K cX8_grafts 6 1 139 ls (.ref a :: st) hp = (ab_fld hp a 6 3).bind (fun v => ab_X rom K cX8_grafts 6 1 142 ls (v :: st) hp) := ax_getfield dX8_grafts_139 kf_6_21 rfl
theorem dX8_grafts_142 : decode cX8_grafts 142 = .ok (.iload_n 3, 1) := by decide +kernel
theorem sX8_grafts_142 : ab_X rom K cX8_grafts 6 1 142 (v0 :: v1 :: v2 :: .int x :: ls) st hp = ab_X rom K cX8_grafts 6 1 143 (v0 :: v1 :: v2 :: .int x :: ls) (.int x :: st) hp := ax_iload_n dX8_grafts_142 rfl rfl
theorem dX8_grafts_143 : decode cX8_grafts 143 = .ok (.aaload, 1) := by decide +kernel
theorem sX8_grafts_143 : ab_X rom K cX8_grafts 6 1 143 ls (.int x :: .ref a :: st) hp = (ab_rrd hp a x).bind (fun v => ab_X rom K cX8_grafts 6 1 144 ls (.ref v :: st) hp) := ax_aaload dX8_grafts_143 rfl
theorem dX8_grafts_144 : decode cX8_grafts 144 = .ok (.getfield 102, 3) := by decide +kernel
theorem sX8_grafts_144 : ab_X rom K cX8_grafts 6 1 144 ls (.ref a :: st) hp = (ab_fld hp a 1 0).bind (fun v => ab_X rom K cX8_grafts 6 1 147 ls (v :: st) hp) := ax_getfield dX8_grafts_144 kf_6_102 rfl
theorem dX8_grafts_147 : decode cX8_grafts 147 = .ok (.ireturn, 1) := by decide +kernel
theorem sX8_grafts_147 : ab_X rom K cX8_grafts 6 1 147 ls [.int x] hp = some (some (.int x), hp) := ax_iret dX8_grafts_147 rfl
theorem tX8_hasNet : ab_mT[95]? = some (yX8_hasNet, cX8_hasNet, 2, 2, 6) := by decide +kernel
theorem mX8_hasNet {d : Nat} {a0 : Nat} {x0 : Int32} : ab_M rom (d + 1) 95 [.ref a0, .int x0] hp = ab_X rom (ab_M rom d) cX8_hasNet 6 2 0 [.ref a0, .int x0] [] hp := ab_M_eq tX8_hasNet (Nat.le_of_ble_eq_true rfl)
theorem dX8_hasNet_0 : decode cX8_hasNet 0 = .ok (.iload_n 1, 1) := by decide +kernel
theorem sX8_hasNet_0 : ab_X rom K cX8_hasNet 6 2 0 (v0 :: .int x :: ls) st hp = ab_X rom K cX8_hasNet 6 2 1 (v0 :: .int x :: ls) (.int x :: st) hp := ax_iload_n dX8_hasNet_0 rfl rfl
theorem dX8_hasNet_1 : decode cX8_hasNet 1 = .ok (.invokestatic 76, 3) := by decide +kernel
theorem sX8_hasNet_1_0 : ab_X rom K cX8_hasNet 6 2 1 ls [w1] hp = (K 101 [w1] hp).bind (fun o => ab_X rom K cX8_hasNet 6 2 4 ls (o.1.toList ++ []) o.2) := ax_static (as := [w1]) (st := []) dX8_hasNet_1 kc_6_76 rfl rfl (Nat.le_of_ble_eq_true rfl)
theorem sX8_hasNet_1_1 : ab_X rom K cX8_hasNet 6 2 1 ls [w1, v0] hp = (K 101 [w1] hp).bind (fun o => ab_X rom K cX8_hasNet 6 2 4 ls (o.1.toList ++ [v0]) o.2) := ax_static (as := [w1]) (st := [v0]) dX8_hasNet_1 kc_6_76 rfl rfl (Nat.le_of_ble_eq_true rfl)
theorem sX8_hasNet_1_2 : ab_X rom K cX8_hasNet 6 2 1 ls [w1, v0, v1] hp = (K 101 [w1] hp).bind (fun o => ab_X rom K cX8_hasNet 6 2 4 ls (o.1.toList ++ [v0, v1]) o.2) := ax_static (as := [w1]) (st := [v0, v1]) dX8_hasNet_1 kc_6_76 rfl rfl (Nat.le_of_ble_eq_true rfl)
theorem sX8_hasNet_1_3 : ab_X rom K cX8_hasNet 6 2 1 ls [w1, v0, v1, v2] hp = (K 101 [w1] hp).bind (fun o => ab_X rom K cX8_hasNet 6 2 4 ls (o.1.toList ++ [v0, v1, v2]) o.2) := ax_static (as := [w1]) (st := [v0, v1, v2]) dX8_hasNet_1 kc_6_76 rfl rfl (Nat.le_of_ble_eq_true rfl)
theorem dX8_hasNet_4 : decode cX8_hasNet 4 = .ok (.ifCond .eq 19, 3) := by decide +kernel
theorem sX8_hasNet_4 : ab_X rom K cX8_hasNet 6 2 4 ls (.int x :: st) hp = if x = 0 then ab_X rom K cX8_hasNet 6 2 23 ls st hp else ab_X rom K cX8_hasNet 6 2 7 ls st hp := ax_if_eq dX8_hasNet_4 (by decide) rfl
theorem dX8_hasNet_7 : decode cX8_hasNet 7 = .ok (.aload_n 0, 1) := by decide +kernel
theorem sX8_hasNet_7 : ab_X rom K cX8_hasNet 6 2 7 (.ref a :: ls) st hp = ab_X rom K cX8_hasNet 6 2 8 (.ref a :: ls) (.ref a :: st) hp := ax_aload_n dX8_hasNet_7 rfl rfl
theorem dX8_hasNet_8 : decode cX8_hasNet 8 = .ok (.getfield 21, 3) := by decide +kernel
theorem sX8_hasNet_8 : ab_X rom K cX8_hasNet 6 2 8 ls (.ref a :: st) hp = (ab_fld hp a 6 3).bind (fun v => ab_X rom K cX8_hasNet 6 2 11 ls (v :: st) hp) := ax_getfield dX8_hasNet_8 kf_6_21 rfl
theorem dX8_hasNet_11 : decode cX8_hasNet 11 = .ok (.iload_n 1, 1) := by decide +kernel
theorem sX8_hasNet_11 : ab_X rom K cX8_hasNet 6 2 11 (v0 :: .int x :: ls) st hp = ab_X rom K cX8_hasNet 6 2 12 (v0 :: .int x :: ls) (.int x :: st) hp := ax_iload_n dX8_hasNet_11 rfl rfl
theorem dX8_hasNet_12 : decode cX8_hasNet 12 = .ok (.aaload, 1) := by decide +kernel
theorem sX8_hasNet_12 : ab_X rom K cX8_hasNet 6 2 12 ls (.int x :: .ref a :: st) hp = (ab_rrd hp a x).bind (fun v => ab_X rom K cX8_hasNet 6 2 13 ls (.ref v :: st) hp) := ax_aaload dX8_hasNet_12 rfl
theorem dX8_hasNet_13 : decode cX8_hasNet 13 = .ok (.getfield 102, 3) := by decide +kernel
theorem sX8_hasNet_13 : ab_X rom K cX8_hasNet 6 2 13 ls (.ref a :: st) hp = (ab_fld hp a 1 0).bind (fun v => ab_X rom K cX8_hasNet 6 2 16 ls (v :: st) hp) := ax_getfield dX8_hasNet_13 kf_6_102 rfl
theorem dX8_hasNet_16 : decode cX8_hasNet 16 = .ok (.ifCond .le 7, 3) := by decide +kernel
theorem sX8_hasNet_16 : ab_X rom K cX8_hasNet 6 2 16 ls (.int x :: st) hp = if 0 < x then ab_X rom K cX8_hasNet 6 2 19 ls st hp else ab_X rom K cX8_hasNet 6 2 23 ls st hp := ax_if_le dX8_hasNet_16 (by decide) rfl
theorem dX8_hasNet_19 : decode cX8_hasNet 19 = .ok (.iconst 1, 1) := by decide +kernel
theorem sX8_hasNet_19 : ab_X rom K cX8_hasNet 6 2 19 ls st hp = ab_X rom K cX8_hasNet 6 2 20 ls (.int 1 :: st) hp := ax_iconst dX8_hasNet_19 (by decide) rfl
theorem dX8_hasNet_20 : decode cX8_hasNet 20 = .ok (.goto 4, 3) := by decide +kernel
theorem sX8_hasNet_20 : ab_X rom K cX8_hasNet 6 2 20 ls st hp = ab_X rom K cX8_hasNet 6 2 24 ls st hp := ax_goto dX8_hasNet_20 (by decide)
theorem dX8_hasNet_23 : decode cX8_hasNet 23 = .ok (.iconst 0, 1) := by decide +kernel
theorem sX8_hasNet_23 : ab_X rom K cX8_hasNet 6 2 23 ls st hp = ab_X rom K cX8_hasNet 6 2 24 ls (.int 0 :: st) hp := ax_iconst dX8_hasNet_23 (by decide) rfl
theorem dX8_hasNet_24 : decode cX8_hasNet 24 = .ok (.ireturn, 1) := by decide +kernel
theorem sX8_hasNet_24 : ab_X rom K cX8_hasNet 6 2 24 ls [.int x] hp = if x = 0 ∨ x = 1 then some (some (.int x), hp) else none := ay_zret dX8_hasNet_24 rfl
theorem tX8_hasPoint : ab_mT[96]? = some (yX8_hasPoint, cX8_hasPoint, 3, 2, 6) := by decide +kernel
theorem mX8_hasPoint {d : Nat} {a0 : Nat} {x0 : Int32} {x1 : Int32} : ab_M rom (d + 1) 96 [.ref a0, .int x0, .int x1] hp = ab_X rom (ab_M rom d) cX8_hasPoint 6 2 0 [.ref a0, .int x0, .int x1] [] hp := ab_M_eq tX8_hasPoint (Nat.le_of_ble_eq_true rfl)
theorem dX8_hasPoint_0 : decode cX8_hasPoint 0 = .ok (.aload_n 0, 1) := by decide +kernel
theorem sX8_hasPoint_0 : ab_X rom K cX8_hasPoint 6 2 0 (.ref a :: ls) st hp = ab_X rom K cX8_hasPoint 6 2 1 (.ref a :: ls) (.ref a :: st) hp := ax_aload_n dX8_hasPoint_0 rfl rfl
theorem dX8_hasPoint_1 : decode cX8_hasPoint 1 = .ok (.iload_n 1, 1) := by decide +kernel
theorem sX8_hasPoint_1 : ab_X rom K cX8_hasPoint 6 2 1 (v0 :: .int x :: ls) st hp = ab_X rom K cX8_hasPoint 6 2 2 (v0 :: .int x :: ls) (.int x :: st) hp := ax_iload_n dX8_hasPoint_1 rfl rfl
theorem dX8_hasPoint_2 : decode cX8_hasPoint 2 = .ok (.invokevirtual 99, 3) := by decide +kernel
theorem sX8_hasPoint_2_0 : ab_X rom K cX8_hasPoint 6 2 2 ls [w1, .ref a] hp = if ab_iso hp a 6 = true then (K 95 (.ref a :: [w1]) hp).bind (fun o => ab_X rom K cX8_hasPoint 6 2 5 ls (o.1.toList ++ []) o.2) else none := ay_virtual (as := [w1]) (st := []) dX8_hasPoint_2 kc_6_99 rfl rfl (Nat.le_of_ble_eq_true rfl)
theorem sX8_hasPoint_2_1 : ab_X rom K cX8_hasPoint 6 2 2 ls [w1, .ref a, v0] hp = if ab_iso hp a 6 = true then (K 95 (.ref a :: [w1]) hp).bind (fun o => ab_X rom K cX8_hasPoint 6 2 5 ls (o.1.toList ++ [v0]) o.2) else none := ay_virtual (as := [w1]) (st := [v0]) dX8_hasPoint_2 kc_6_99 rfl rfl (Nat.le_of_ble_eq_true rfl)
theorem sX8_hasPoint_2_2 : ab_X rom K cX8_hasPoint 6 2 2 ls [w1, .ref a, v0, v1] hp = if ab_iso hp a 6 = true then (K 95 (.ref a :: [w1]) hp).bind (fun o => ab_X rom K cX8_hasPoint 6 2 5 ls (o.1.toList ++ [v0, v1]) o.2) else none := ay_virtual (as := [w1]) (st := [v0, v1]) dX8_hasPoint_2 kc_6_99 rfl rfl (Nat.le_of_ble_eq_true rfl)
theorem sX8_hasPoint_2_3 : ab_X rom K cX8_hasPoint 6 2 2 ls [w1, .ref a, v0, v1, v2] hp = if ab_iso hp a 6 = true then (K 95 (.ref a :: [w1]) hp).bind (fun o => ab_X rom K cX8_hasPoint 6 2 5 ls (o.1.toList ++ [v0, v1, v2]) o.2) else none := ay_virtual (as := [w1]) (st := [v0, v1, v2]) dX8_hasPoint_2 kc_6_99 rfl rfl (Nat.le_of_ble_eq_true rfl)
theorem dX8_hasPoint_5 : decode cX8_hasPoint 5 = .ok (.ifCond .eq 24, 3) := by decide +kernel
theorem sX8_hasPoint_5 : ab_X rom K cX8_hasPoint 6 2 5 ls (.int x :: st) hp = if x = 0 then ab_X rom K cX8_hasPoint 6 2 29 ls st hp else ab_X rom K cX8_hasPoint 6 2 8 ls st hp := ax_if_eq dX8_hasPoint_5 (by decide) rfl
theorem dX8_hasPoint_8 : decode cX8_hasPoint 8 = .ok (.iload_n 2, 1) := by decide +kernel
theorem sX8_hasPoint_8 : ab_X rom K cX8_hasPoint 6 2 8 (v0 :: v1 :: .int x :: ls) st hp = ab_X rom K cX8_hasPoint 6 2 9 (v0 :: v1 :: .int x :: ls) (.int x :: st) hp := ax_iload_n dX8_hasPoint_8 rfl rfl
theorem dX8_hasPoint_9 : decode cX8_hasPoint 9 = .ok (.ifCond .lt 20, 3) := by decide +kernel
theorem sX8_hasPoint_9 : ab_X rom K cX8_hasPoint 6 2 9 ls (.int x :: st) hp = if x < 0 then ab_X rom K cX8_hasPoint 6 2 29 ls st hp else ab_X rom K cX8_hasPoint 6 2 12 ls st hp := ax_if_lt dX8_hasPoint_9 (by decide) rfl
theorem dX8_hasPoint_12 : decode cX8_hasPoint 12 = .ok (.iload_n 2, 1) := by decide +kernel
theorem sX8_hasPoint_12 : ab_X rom K cX8_hasPoint 6 2 12 (v0 :: v1 :: .int x :: ls) st hp = ab_X rom K cX8_hasPoint 6 2 13 (v0 :: v1 :: .int x :: ls) (.int x :: st) hp := ax_iload_n dX8_hasPoint_12 rfl rfl
theorem dX8_hasPoint_13 : decode cX8_hasPoint 13 = .ok (.aload_n 0, 1) := by decide +kernel
theorem sX8_hasPoint_13 : ab_X rom K cX8_hasPoint 6 2 13 (.ref a :: ls) st hp = ab_X rom K cX8_hasPoint 6 2 14 (.ref a :: ls) (.ref a :: st) hp := ax_aload_n dX8_hasPoint_13 rfl rfl
theorem dX8_hasPoint_14 : decode cX8_hasPoint 14 = .ok (.getfield 21, 3) := by decide +kernel
theorem sX8_hasPoint_14 : ab_X rom K cX8_hasPoint 6 2 14 ls (.ref a :: st) hp = (ab_fld hp a 6 3).bind (fun v => ab_X rom K cX8_hasPoint 6 2 17 ls (v :: st) hp) := ax_getfield dX8_hasPoint_14 kf_6_21 rfl
theorem dX8_hasPoint_17 : decode cX8_hasPoint 17 = .ok (.iload_n 1, 1) := by decide +kernel
theorem sX8_hasPoint_17 : ab_X rom K cX8_hasPoint 6 2 17 (v0 :: .int x :: ls) st hp = ab_X rom K cX8_hasPoint 6 2 18 (v0 :: .int x :: ls) (.int x :: st) hp := ax_iload_n dX8_hasPoint_17 rfl rfl
theorem dX8_hasPoint_18 : decode cX8_hasPoint 18 = .ok (.aaload, 1) := by decide +kernel
theorem sX8_hasPoint_18 : ab_X rom K cX8_hasPoint 6 2 18 ls (.int x :: .ref a :: st) hp = (ab_rrd hp a x).bind (fun v => ab_X rom K cX8_hasPoint 6 2 19 ls (.ref v :: st) hp) := ax_aaload dX8_hasPoint_18 rfl
theorem dX8_hasPoint_19 : decode cX8_hasPoint 19 = .ok (.getfield 102, 3) := by decide +kernel
theorem sX8_hasPoint_19 : ab_X rom K cX8_hasPoint 6 2 19 ls (.ref a :: st) hp = (ab_fld hp a 1 0).bind (fun v => ab_X rom K cX8_hasPoint 6 2 22 ls (v :: st) hp) := ax_getfield dX8_hasPoint_19 kf_6_102 rfl
theorem dX8_hasPoint_22 : decode cX8_hasPoint 22 = .ok (.if_icmp .ge 7, 3) := by decide +kernel
theorem sX8_hasPoint_22 : ab_X rom K cX8_hasPoint 6 2 22 ls (.int y :: .int x :: st) hp = if x < y then ab_X rom K cX8_hasPoint 6 2 25 ls st hp else ab_X rom K cX8_hasPoint 6 2 29 ls st hp := ax_icmp_ge dX8_hasPoint_22 (by decide) rfl
theorem dX8_hasPoint_25 : decode cX8_hasPoint 25 = .ok (.iconst 1, 1) := by decide +kernel
theorem sX8_hasPoint_25 : ab_X rom K cX8_hasPoint 6 2 25 ls st hp = ab_X rom K cX8_hasPoint 6 2 26 ls (.int 1 :: st) hp := ax_iconst dX8_hasPoint_25 (by decide) rfl
theorem dX8_hasPoint_26 : decode cX8_hasPoint 26 = .ok (.goto 4, 3) := by decide +kernel
theorem sX8_hasPoint_26 : ab_X rom K cX8_hasPoint 6 2 26 ls st hp = ab_X rom K cX8_hasPoint 6 2 30 ls st hp := ax_goto dX8_hasPoint_26 (by decide)
theorem dX8_hasPoint_29 : decode cX8_hasPoint 29 = .ok (.iconst 0, 1) := by decide +kernel
theorem sX8_hasPoint_29 : ab_X rom K cX8_hasPoint 6 2 29 ls st hp = ab_X rom K cX8_hasPoint 6 2 30 ls (.int 0 :: st) hp := ax_iconst dX8_hasPoint_29 (by decide) rfl
theorem dX8_hasPoint_30 : decode cX8_hasPoint 30 = .ok (.ireturn, 1) := by decide +kernel
theorem sX8_hasPoint_30 : ab_X rom K cX8_hasPoint 6 2 30 ls [.int x] hp = if x = 0 ∨ x = 1 then some (some (.int x), hp) else none := ay_zret dX8_hasPoint_30 rfl
theorem tX8_hasTwoPoints : ab_mT[97]? = some (yX8_hasTwoPoints, cX8_hasTwoPoints, 4, 2, 6) := by decide +kernel
theorem mX8_hasTwoPoints {d : Nat} {a0 : Nat} {x0 : Int32} {x1 : Int32} {x2 : Int32} : ab_M rom (d + 1) 97 [.ref a0, .int x0, .int x1, .int x2] hp = ab_X rom (ab_M rom d) cX8_hasTwoPoints 6 2 0 [.ref a0, .int x0, .int x1, .int x2] [] hp := ab_M_eq tX8_hasTwoPoints (Nat.le_of_ble_eq_true rfl)
theorem dX8_hasTwoPoints_0 : decode cX8_hasTwoPoints 0 = .ok (.aload_n 0, 1) := by decide +kernel
theorem sX8_hasTwoPoints_0 : ab_X rom K cX8_hasTwoPoints 6 2 0 (.ref a :: ls) st hp = ab_X rom K cX8_hasTwoPoints 6 2 1 (.ref a :: ls) (.ref a :: st) hp := ax_aload_n dX8_hasTwoPoints_0 rfl rfl
theorem dX8_hasTwoPoints_1 : decode cX8_hasTwoPoints 1 = .ok (.iload_n 1, 1) := by decide +kernel
theorem sX8_hasTwoPoints_1 : ab_X rom K cX8_hasTwoPoints 6 2 1 (v0 :: .int x :: ls) st hp = ab_X rom K cX8_hasTwoPoints 6 2 2 (v0 :: .int x :: ls) (.int x :: st) hp := ax_iload_n dX8_hasTwoPoints_1 rfl rfl
theorem dX8_hasTwoPoints_2 : decode cX8_hasTwoPoints 2 = .ok (.iload_n 2, 1) := by decide +kernel
theorem sX8_hasTwoPoints_2 : ab_X rom K cX8_hasTwoPoints 6 2 2 (v0 :: v1 :: .int x :: ls) st hp = ab_X rom K cX8_hasTwoPoints 6 2 3 (v0 :: v1 :: .int x :: ls) (.int x :: st) hp := ax_iload_n dX8_hasTwoPoints_2 rfl rfl
theorem dX8_hasTwoPoints_3 : decode cX8_hasTwoPoints 3 = .ok (.invokevirtual 148, 3) := by decide +kernel
theorem sX8_hasTwoPoints_3_0 : ab_X rom K cX8_hasTwoPoints 6 2 3 ls [w2, w1, .ref a] hp = if ab_iso hp a 6 = true then (K 96 (.ref a :: [w1, w2]) hp).bind (fun o => ab_X rom K cX8_hasTwoPoints 6 2 6 ls (o.1.toList ++ []) o.2) else none := ay_virtual (as := [w1, w2]) (st := []) dX8_hasTwoPoints_3 kc_6_148 rfl rfl (Nat.le_of_ble_eq_true rfl)
theorem sX8_hasTwoPoints_3_1 : ab_X rom K cX8_hasTwoPoints 6 2 3 ls [w2, w1, .ref a, v0] hp = if ab_iso hp a 6 = true then (K 96 (.ref a :: [w1, w2]) hp).bind (fun o => ab_X rom K cX8_hasTwoPoints 6 2 6 ls (o.1.toList ++ [v0]) o.2) else none := ay_virtual (as := [w1, w2]) (st := [v0]) dX8_hasTwoPoints_3 kc_6_148 rfl rfl (Nat.le_of_ble_eq_true rfl)
theorem sX8_hasTwoPoints_3_2 : ab_X rom K cX8_hasTwoPoints 6 2 3 ls [w2, w1, .ref a, v0, v1] hp = if ab_iso hp a 6 = true then (K 96 (.ref a :: [w1, w2]) hp).bind (fun o => ab_X rom K cX8_hasTwoPoints 6 2 6 ls (o.1.toList ++ [v0, v1]) o.2) else none := ay_virtual (as := [w1, w2]) (st := [v0, v1]) dX8_hasTwoPoints_3 kc_6_148 rfl rfl (Nat.le_of_ble_eq_true rfl)
theorem sX8_hasTwoPoints_3_3 : ab_X rom K cX8_hasTwoPoints 6 2 3 ls [w2, w1, .ref a, v0, v1, v2] hp = if ab_iso hp a 6 = true then (K 96 (.ref a :: [w1, w2]) hp).bind (fun o => ab_X rom K cX8_hasTwoPoints 6 2 6 ls (o.1.toList ++ [v0, v1, v2]) o.2) else none := ay_virtual (as := [w1, w2]) (st := [v0, v1, v2]) dX8_hasTwoPoints_3 kc_6_148 rfl rfl (Nat.le_of_ble_eq_true rfl)
theorem dX8_hasTwoPoints_6 : decode cX8_hasTwoPoints 6 = .ok (.ifCond .eq 21, 3) := by decide +kernel
theorem sX8_hasTwoPoints_6 : ab_X rom K cX8_hasTwoPoints 6 2 6 ls (.int x :: st) hp = if x = 0 then ab_X rom K cX8_hasTwoPoints 6 2 27 ls st hp else ab_X rom K cX8_hasTwoPoints 6 2 9 ls st hp := ax_if_eq dX8_hasTwoPoints_6 (by decide) rfl
theorem dX8_hasTwoPoints_9 : decode cX8_hasTwoPoints 9 = .ok (.aload_n 0, 1) := by decide +kernel
theorem sX8_hasTwoPoints_9 : ab_X rom K cX8_hasTwoPoints 6 2 9 (.ref a :: ls) st hp = ab_X rom K cX8_hasTwoPoints 6 2 10 (.ref a :: ls) (.ref a :: st) hp := ax_aload_n dX8_hasTwoPoints_9 rfl rfl
theorem dX8_hasTwoPoints_10 : decode cX8_hasTwoPoints 10 = .ok (.iload_n 1, 1) := by decide +kernel
theorem sX8_hasTwoPoints_10 : ab_X rom K cX8_hasTwoPoints 6 2 10 (v0 :: .int x :: ls) st hp = ab_X rom K cX8_hasTwoPoints 6 2 11 (v0 :: .int x :: ls) (.int x :: st) hp := ax_iload_n dX8_hasTwoPoints_10 rfl rfl
theorem dX8_hasTwoPoints_11 : decode cX8_hasTwoPoints 11 = .ok (.iload_n 3, 1) := by decide +kernel
theorem sX8_hasTwoPoints_11 : ab_X rom K cX8_hasTwoPoints 6 2 11 (v0 :: v1 :: v2 :: .int x :: ls) st hp = ab_X rom K cX8_hasTwoPoints 6 2 12 (v0 :: v1 :: v2 :: .int x :: ls) (.int x :: st) hp := ax_iload_n dX8_hasTwoPoints_11 rfl rfl
theorem dX8_hasTwoPoints_12 : decode cX8_hasTwoPoints 12 = .ok (.invokevirtual 148, 3) := by decide +kernel
theorem sX8_hasTwoPoints_12_0 : ab_X rom K cX8_hasTwoPoints 6 2 12 ls [w2, w1, .ref a] hp = if ab_iso hp a 6 = true then (K 96 (.ref a :: [w1, w2]) hp).bind (fun o => ab_X rom K cX8_hasTwoPoints 6 2 15 ls (o.1.toList ++ []) o.2) else none := ay_virtual (as := [w1, w2]) (st := []) dX8_hasTwoPoints_12 kc_6_148 rfl rfl (Nat.le_of_ble_eq_true rfl)
theorem sX8_hasTwoPoints_12_1 : ab_X rom K cX8_hasTwoPoints 6 2 12 ls [w2, w1, .ref a, v0] hp = if ab_iso hp a 6 = true then (K 96 (.ref a :: [w1, w2]) hp).bind (fun o => ab_X rom K cX8_hasTwoPoints 6 2 15 ls (o.1.toList ++ [v0]) o.2) else none := ay_virtual (as := [w1, w2]) (st := [v0]) dX8_hasTwoPoints_12 kc_6_148 rfl rfl (Nat.le_of_ble_eq_true rfl)
theorem sX8_hasTwoPoints_12_2 : ab_X rom K cX8_hasTwoPoints 6 2 12 ls [w2, w1, .ref a, v0, v1] hp = if ab_iso hp a 6 = true then (K 96 (.ref a :: [w1, w2]) hp).bind (fun o => ab_X rom K cX8_hasTwoPoints 6 2 15 ls (o.1.toList ++ [v0, v1]) o.2) else none := ay_virtual (as := [w1, w2]) (st := [v0, v1]) dX8_hasTwoPoints_12 kc_6_148 rfl rfl (Nat.le_of_ble_eq_true rfl)
theorem sX8_hasTwoPoints_12_3 : ab_X rom K cX8_hasTwoPoints 6 2 12 ls [w2, w1, .ref a, v0, v1, v2] hp = if ab_iso hp a 6 = true then (K 96 (.ref a :: [w1, w2]) hp).bind (fun o => ab_X rom K cX8_hasTwoPoints 6 2 15 ls (o.1.toList ++ [v0, v1, v2]) o.2) else none := ay_virtual (as := [w1, w2]) (st := [v0, v1, v2]) dX8_hasTwoPoints_12 kc_6_148 rfl rfl (Nat.le_of_ble_eq_true rfl)
theorem dX8_hasTwoPoints_15 : decode cX8_hasTwoPoints 15 = .ok (.ifCond .eq 12, 3) := by decide +kernel
theorem sX8_hasTwoPoints_15 : ab_X rom K cX8_hasTwoPoints 6 2 15 ls (.int x :: st) hp = if x = 0 then ab_X rom K cX8_hasTwoPoints 6 2 27 ls st hp else ab_X rom K cX8_hasTwoPoints 6 2 18 ls st hp := ax_if_eq dX8_hasTwoPoints_15 (by decide) rfl
theorem dX8_hasTwoPoints_18 : decode cX8_hasTwoPoints 18 = .ok (.iload_n 2, 1) := by decide +kernel
theorem sX8_hasTwoPoints_18 : ab_X rom K cX8_hasTwoPoints 6 2 18 (v0 :: v1 :: .int x :: ls) st hp = ab_X rom K cX8_hasTwoPoints 6 2 19 (v0 :: v1 :: .int x :: ls) (.int x :: st) hp := ax_iload_n dX8_hasTwoPoints_18 rfl rfl
theorem dX8_hasTwoPoints_19 : decode cX8_hasTwoPoints 19 = .ok (.iload_n 3, 1) := by decide +kernel
theorem sX8_hasTwoPoints_19 : ab_X rom K cX8_hasTwoPoints 6 2 19 (v0 :: v1 :: v2 :: .int x :: ls) st hp = ab_X rom K cX8_hasTwoPoints 6 2 20 (v0 :: v1 :: v2 :: .int x :: ls) (.int x :: st) hp := ax_iload_n dX8_hasTwoPoints_19 rfl rfl
theorem dX8_hasTwoPoints_20 : decode cX8_hasTwoPoints 20 = .ok (.if_icmp .eq 7, 3) := by decide +kernel
theorem sX8_hasTwoPoints_20 : ab_X rom K cX8_hasTwoPoints 6 2 20 ls (.int y :: .int x :: st) hp = if x = y then ab_X rom K cX8_hasTwoPoints 6 2 27 ls st hp else ab_X rom K cX8_hasTwoPoints 6 2 23 ls st hp := ax_icmp_eq dX8_hasTwoPoints_20 (by decide) rfl
theorem dX8_hasTwoPoints_23 : decode cX8_hasTwoPoints 23 = .ok (.iconst 1, 1) := by decide +kernel
theorem sX8_hasTwoPoints_23 : ab_X rom K cX8_hasTwoPoints 6 2 23 ls st hp = ab_X rom K cX8_hasTwoPoints 6 2 24 ls (.int 1 :: st) hp := ax_iconst dX8_hasTwoPoints_23 (by decide) rfl
theorem dX8_hasTwoPoints_24 : decode cX8_hasTwoPoints 24 = .ok (.goto 4, 3) := by decide +kernel
theorem sX8_hasTwoPoints_24 : ab_X rom K cX8_hasTwoPoints 6 2 24 ls st hp = ab_X rom K cX8_hasTwoPoints 6 2 28 ls st hp := ax_goto dX8_hasTwoPoints_24 (by decide)
theorem dX8_hasTwoPoints_27 : decode cX8_hasTwoPoints 27 = .ok (.iconst 0, 1) := by decide +kernel
theorem sX8_hasTwoPoints_27 : ab_X rom K cX8_hasTwoPoints 6 2 27 ls st hp = ab_X rom K cX8_hasTwoPoints 6 2 28 ls (.int 0 :: st) hp := ax_iconst dX8_hasTwoPoints_27 (by decide) rfl
theorem dX8_hasTwoPoints_28 : decode cX8_hasTwoPoints 28 = .ok (.ireturn, 1) := by decide +kernel
theorem sX8_hasTwoPoints_28 : ab_X rom K cX8_hasTwoPoints 6 2 28 ls [.int x] hp = if x = 0 ∨ x = 1 then some (some (.int x), hp) else none := ay_zret dX8_hasTwoPoints_28 rfl
theorem tX8_hint : ab_mT[98]? = some (yX8_hint, cX8_hint, 4, 1, 6) := by decide +kernel
theorem mX8_hint {d : Nat} {a0 : Nat} {x0 : Int32} {x1 : Int32} : ab_M rom (d + 1) 98 [.ref a0, .int x0, .int x1] hp = ab_X rom (ab_M rom d) cX8_hint 6 1 0 [.ref a0, .int x0, .int x1, .null] [] hp := ab_M_eq tX8_hint (Nat.le_of_ble_eq_true rfl)
theorem dX8_hint_0 : decode cX8_hint 0 = .ok (.aload_n 0, 1) := by decide +kernel
theorem sX8_hint_0 : ab_X rom K cX8_hint 6 1 0 (.ref a :: ls) st hp = ab_X rom K cX8_hint 6 1 1 (.ref a :: ls) (.ref a :: st) hp := ax_aload_n dX8_hint_0 rfl rfl
theorem dX8_hint_1 : decode cX8_hint 1 = .ok (.iload_n 1, 1) := by decide +kernel
theorem sX8_hint_1 : ab_X rom K cX8_hint 6 1 1 (v0 :: .int x :: ls) st hp = ab_X rom K cX8_hint 6 1 2 (v0 :: .int x :: ls) (.int x :: st) hp := ax_iload_n dX8_hint_1 rfl rfl
theorem dX8_hint_2 : decode cX8_hint 2 = .ok (.invokevirtual 99, 3) := by decide +kernel
theorem sX8_hint_2_0 : ab_X rom K cX8_hint 6 1 2 ls [w1, .ref a] hp = if ab_iso hp a 6 = true then (K 95 (.ref a :: [w1]) hp).bind (fun o => ab_X rom K cX8_hint 6 1 5 ls (o.1.toList ++ []) o.2) else none := ay_virtual (as := [w1]) (st := []) dX8_hint_2 kc_6_99 rfl rfl (Nat.le_of_ble_eq_true rfl)
theorem sX8_hint_2_1 : ab_X rom K cX8_hint 6 1 2 ls [w1, .ref a, v0] hp = if ab_iso hp a 6 = true then (K 95 (.ref a :: [w1]) hp).bind (fun o => ab_X rom K cX8_hint 6 1 5 ls (o.1.toList ++ [v0]) o.2) else none := ay_virtual (as := [w1]) (st := [v0]) dX8_hint_2 kc_6_99 rfl rfl (Nat.le_of_ble_eq_true rfl)
theorem sX8_hint_2_2 : ab_X rom K cX8_hint 6 1 2 ls [w1, .ref a, v0, v1] hp = if ab_iso hp a 6 = true then (K 95 (.ref a :: [w1]) hp).bind (fun o => ab_X rom K cX8_hint 6 1 5 ls (o.1.toList ++ [v0, v1]) o.2) else none := ay_virtual (as := [w1]) (st := [v0, v1]) dX8_hint_2 kc_6_99 rfl rfl (Nat.le_of_ble_eq_true rfl)
theorem sX8_hint_2_3 : ab_X rom K cX8_hint 6 1 2 ls [w1, .ref a, v0, v1, v2] hp = if ab_iso hp a 6 = true then (K 95 (.ref a :: [w1]) hp).bind (fun o => ab_X rom K cX8_hint 6 1 5 ls (o.1.toList ++ [v0, v1, v2]) o.2) else none := ay_virtual (as := [w1]) (st := [v0, v1, v2]) dX8_hint_2 kc_6_99 rfl rfl (Nat.le_of_ble_eq_true rfl)
theorem dX8_hint_5 : decode cX8_hint 5 = .ok (.ifCond .eq 10, 3) := by decide +kernel
theorem sX8_hint_5 : ab_X rom K cX8_hint 6 1 5 ls (.int x :: st) hp = if x = 0 then ab_X rom K cX8_hint 6 1 15 ls st hp else ab_X rom K cX8_hint 6 1 8 ls st hp := ax_if_eq dX8_hint_5 (by decide) rfl
theorem dX8_hint_8 : decode cX8_hint 8 = .ok (.iload_n 2, 1) := by decide +kernel
theorem sX8_hint_8 : ab_X rom K cX8_hint 6 1 8 (v0 :: v1 :: .int x :: ls) st hp = ab_X rom K cX8_hint 6 1 9 (v0 :: v1 :: .int x :: ls) (.int x :: st) hp := ax_iload_n dX8_hint_8 rfl rfl
theorem dX8_hint_9 : decode cX8_hint 9 = .ok (.invokestatic 174, 3) := by decide +kernel
theorem sX8_hint_9_0 : ab_X rom K cX8_hint 6 1 9 ls [w1] hp = (K 100 [w1] hp).bind (fun o => ab_X rom K cX8_hint 6 1 12 ls (o.1.toList ++ []) o.2) := ax_static (as := [w1]) (st := []) dX8_hint_9 kc_6_174 rfl rfl (Nat.le_of_ble_eq_true rfl)
theorem sX8_hint_9_1 : ab_X rom K cX8_hint 6 1 9 ls [w1, v0] hp = (K 100 [w1] hp).bind (fun o => ab_X rom K cX8_hint 6 1 12 ls (o.1.toList ++ [v0]) o.2) := ax_static (as := [w1]) (st := [v0]) dX8_hint_9 kc_6_174 rfl rfl (Nat.le_of_ble_eq_true rfl)
theorem sX8_hint_9_2 : ab_X rom K cX8_hint 6 1 9 ls [w1, v0, v1] hp = (K 100 [w1] hp).bind (fun o => ab_X rom K cX8_hint 6 1 12 ls (o.1.toList ++ [v0, v1]) o.2) := ax_static (as := [w1]) (st := [v0, v1]) dX8_hint_9 kc_6_174 rfl rfl (Nat.le_of_ble_eq_true rfl)
theorem sX8_hint_9_3 : ab_X rom K cX8_hint 6 1 9 ls [w1, v0, v1, v2] hp = (K 100 [w1] hp).bind (fun o => ab_X rom K cX8_hint 6 1 12 ls (o.1.toList ++ [v0, v1, v2]) o.2) := ax_static (as := [w1]) (st := [v0, v1, v2]) dX8_hint_9 kc_6_174 rfl rfl (Nat.le_of_ble_eq_true rfl)
theorem dX8_hint_12 : decode cX8_hint 12 = .ok (.ifCond .ne 6, 3) := by decide +kernel
theorem sX8_hint_12 : ab_X rom K cX8_hint 6 1 12 ls (.int x :: st) hp = if x = 0 then ab_X rom K cX8_hint 6 1 15 ls st hp else ab_X rom K cX8_hint 6 1 18 ls st hp := ax_if_ne dX8_hint_12 (by decide) rfl
theorem dX8_hint_15 : decode cX8_hint 15 = .ok (.bipush (-2), 2) := by decide +kernel
theorem sX8_hint_15 : ab_X rom K cX8_hint 6 1 15 ls st hp = ab_X rom K cX8_hint 6 1 17 ls (.int (-2) :: st) hp := ax_bipush dX8_hint_15 (by decide) rfl
theorem dX8_hint_17 : decode cX8_hint 17 = .ok (.ireturn, 1) := by decide +kernel
theorem sX8_hint_17 : ab_X rom K cX8_hint 6 1 17 ls [.int x] hp = some (some (.int x), hp) := ax_iret dX8_hint_17 rfl
theorem dX8_hint_18 : decode cX8_hint 18 = .ok (.aload_n 0, 1) := by decide +kernel
theorem sX8_hint_18 : ab_X rom K cX8_hint 6 1 18 (.ref a :: ls) st hp = ab_X rom K cX8_hint 6 1 19 (.ref a :: ls) (.ref a :: st) hp := ax_aload_n dX8_hint_18 rfl rfl
theorem dX8_hint_19 : decode cX8_hint 19 = .ok (.getfield 21, 3) := by decide +kernel
theorem sX8_hint_19 : ab_X rom K cX8_hint 6 1 19 ls (.ref a :: st) hp = (ab_fld hp a 6 3).bind (fun v => ab_X rom K cX8_hint 6 1 22 ls (v :: st) hp) := ax_getfield dX8_hint_19 kf_6_21 rfl
theorem dX8_hint_22 : decode cX8_hint 22 = .ok (.iload_n 1, 1) := by decide +kernel
theorem sX8_hint_22 : ab_X rom K cX8_hint 6 1 22 (v0 :: .int x :: ls) st hp = ab_X rom K cX8_hint 6 1 23 (v0 :: .int x :: ls) (.int x :: st) hp := ax_iload_n dX8_hint_22 rfl rfl
theorem dX8_hint_23 : decode cX8_hint 23 = .ok (.aaload, 1) := by decide +kernel
theorem sX8_hint_23 : ab_X rom K cX8_hint 6 1 23 ls (.int x :: .ref a :: st) hp = (ab_rrd hp a x).bind (fun v => ab_X rom K cX8_hint 6 1 24 ls (.ref v :: st) hp) := ax_aaload dX8_hint_23 rfl
theorem dX8_hint_24 : decode cX8_hint 24 = .ok (.astore_n 3, 1) := by decide +kernel
theorem sX8_hint_24i : ab_X rom K cX8_hint 6 1 24 (v0 :: v1 :: .int y :: v3 :: ls) (.ref a :: st) hp = ab_X rom K cX8_hint 6 1 25 (v0 :: v1 :: .int y :: .ref a :: ls) st hp := ax_astore_n dX8_hint_24 (ax_lt (v := v3) rfl) (ab_nl_c1 (j := 2) (v := .int y) rfl (ab_c1_int _)) rfl rfl
theorem sX8_hint_24r : ab_X rom K cX8_hint 6 1 24 (v0 :: v1 :: .ref a2 :: v3 :: ls) (.ref a :: st) hp = ab_X rom K cX8_hint 6 1 25 (v0 :: v1 :: .ref a2 :: .ref a :: ls) st hp := ax_astore_n dX8_hint_24 (ax_lt (v := v3) rfl) (ab_nl_c1 (j := 2) (v := .ref a2) rfl (ab_c1_ref _)) rfl rfl
theorem sX8_hint_24n : ab_X rom K cX8_hint 6 1 24 (v0 :: v1 :: .null :: v3 :: ls) (.ref a :: st) hp = ab_X rom K cX8_hint 6 1 25 (v0 :: v1 :: .null :: .ref a :: ls) st hp := ax_astore_n dX8_hint_24 (ax_lt (v := v3) rfl) (ab_nl_c1 (j := 2) (v := .null) rfl ab_c1_null) rfl rfl
theorem dX8_hint_25 : decode cX8_hint 25 = .ok (.aload_n 3, 1) := by decide +kernel
theorem sX8_hint_25 : ab_X rom K cX8_hint 6 1 25 (v0 :: v1 :: v2 :: .ref a :: ls) st hp = ab_X rom K cX8_hint 6 1 26 (v0 :: v1 :: v2 :: .ref a :: ls) (.ref a :: st) hp := ax_aload_n dX8_hint_25 rfl rfl
theorem dX8_hint_26 : decode cX8_hint 26 = .ok (.invokevirtual 165, 3) := by decide +kernel
theorem sX8_hint_26_0 : ab_X rom K cX8_hint 6 1 26 ls [.ref a] hp = if ab_iso hp a 1 = true then (K 13 (.ref a :: []) hp).bind (fun o => ab_X rom K cX8_hint 6 1 29 ls (o.1.toList ++ []) o.2) else none := ay_virtual (as := []) (st := []) dX8_hint_26 kc_6_165 rfl rfl (Nat.le_of_ble_eq_true rfl)
theorem sX8_hint_26_1 : ab_X rom K cX8_hint 6 1 26 ls [.ref a, v0] hp = if ab_iso hp a 1 = true then (K 13 (.ref a :: []) hp).bind (fun o => ab_X rom K cX8_hint 6 1 29 ls (o.1.toList ++ [v0]) o.2) else none := ay_virtual (as := []) (st := [v0]) dX8_hint_26 kc_6_165 rfl rfl (Nat.le_of_ble_eq_true rfl)
theorem sX8_hint_26_2 : ab_X rom K cX8_hint 6 1 26 ls [.ref a, v0, v1] hp = if ab_iso hp a 1 = true then (K 13 (.ref a :: []) hp).bind (fun o => ab_X rom K cX8_hint 6 1 29 ls (o.1.toList ++ [v0, v1]) o.2) else none := ay_virtual (as := []) (st := [v0, v1]) dX8_hint_26 kc_6_165 rfl rfl (Nat.le_of_ble_eq_true rfl)
theorem sX8_hint_26_3 : ab_X rom K cX8_hint 6 1 26 ls [.ref a, v0, v1, v2] hp = if ab_iso hp a 1 = true then (K 13 (.ref a :: []) hp).bind (fun o => ab_X rom K cX8_hint 6 1 29 ls (o.1.toList ++ [v0, v1, v2]) o.2) else none := ay_virtual (as := []) (st := [v0, v1, v2]) dX8_hint_26 kc_6_165 rfl rfl (Nat.le_of_ble_eq_true rfl)
theorem dX8_hint_29 : decode cX8_hint 29 = .ok (.ifCond .eq 5, 3) := by decide +kernel
theorem sX8_hint_29 : ab_X rom K cX8_hint 6 1 29 ls (.int x :: st) hp = if x = 0 then ab_X rom K cX8_hint 6 1 34 ls st hp else ab_X rom K cX8_hint 6 1 32 ls st hp := ax_if_eq dX8_hint_29 (by decide) rfl
theorem dX8_hint_32 : decode cX8_hint 32 = .ok (.iconst (-1), 1) := by decide +kernel
theorem sX8_hint_32 : ab_X rom K cX8_hint 6 1 32 ls st hp = ab_X rom K cX8_hint 6 1 33 ls (.int (-1) :: st) hp := ax_iconst dX8_hint_32 (by decide) rfl
theorem dX8_hint_33 : decode cX8_hint 33 = .ok (.ireturn, 1) := by decide +kernel
theorem sX8_hint_33 : ab_X rom K cX8_hint 6 1 33 ls [.int x] hp = some (some (.int x), hp) := ax_iret dX8_hint_33 rfl
theorem dX8_hint_34 : decode cX8_hint 34 = .ok (.aload_n 0, 1) := by decide +kernel
theorem sX8_hint_34 : ab_X rom K cX8_hint 6 1 34 (.ref a :: ls) st hp = ab_X rom K cX8_hint 6 1 35 (.ref a :: ls) (.ref a :: st) hp := ax_aload_n dX8_hint_34 rfl rfl
theorem dX8_hint_35 : decode cX8_hint 35 = .ok (.aload_n 3, 1) := by decide +kernel
theorem sX8_hint_35 : ab_X rom K cX8_hint 6 1 35 (v0 :: v1 :: v2 :: .ref a :: ls) st hp = ab_X rom K cX8_hint 6 1 36 (v0 :: v1 :: v2 :: .ref a :: ls) (.ref a :: st) hp := ax_aload_n dX8_hint_35 rfl rfl
theorem dX8_hint_36 : decode cX8_hint 36 = .ok (.iload_n 2, 1) := by decide +kernel
theorem sX8_hint_36 : ab_X rom K cX8_hint 6 1 36 (v0 :: v1 :: .int x :: ls) st hp = ab_X rom K cX8_hint 6 1 37 (v0 :: v1 :: .int x :: ls) (.int x :: st) hp := ax_iload_n dX8_hint_36 rfl rfl
theorem dX8_hint_37 : decode cX8_hint 37 = .ok (.invokevirtual 183, 3) := by decide +kernel
theorem sX8_hint_37_0 : ab_X rom K cX8_hint 6 1 37 ls [w2, w1, .ref a] hp = if ab_iso hp a 6 = true then (K 84 (.ref a :: [w1, w2]) hp).bind (fun o => ab_X rom K cX8_hint 6 1 40 ls (o.1.toList ++ []) o.2) else none := ay_virtual (as := [w1, w2]) (st := []) dX8_hint_37 kc_6_183 rfl rfl (Nat.le_of_ble_eq_true rfl)
theorem sX8_hint_37_1 : ab_X rom K cX8_hint 6 1 37 ls [w2, w1, .ref a, v0] hp = if ab_iso hp a 6 = true then (K 84 (.ref a :: [w1, w2]) hp).bind (fun o => ab_X rom K cX8_hint 6 1 40 ls (o.1.toList ++ [v0]) o.2) else none := ay_virtual (as := [w1, w2]) (st := [v0]) dX8_hint_37 kc_6_183 rfl rfl (Nat.le_of_ble_eq_true rfl)
theorem sX8_hint_37_2 : ab_X rom K cX8_hint 6 1 37 ls [w2, w1, .ref a, v0, v1] hp = if ab_iso hp a 6 = true then (K 84 (.ref a :: [w1, w2]) hp).bind (fun o => ab_X rom K cX8_hint 6 1 40 ls (o.1.toList ++ [v0, v1]) o.2) else none := ay_virtual (as := [w1, w2]) (st := [v0, v1]) dX8_hint_37 kc_6_183 rfl rfl (Nat.le_of_ble_eq_true rfl)
theorem sX8_hint_37_3 : ab_X rom K cX8_hint 6 1 37 ls [w2, w1, .ref a, v0, v1, v2] hp = if ab_iso hp a 6 = true then (K 84 (.ref a :: [w1, w2]) hp).bind (fun o => ab_X rom K cX8_hint 6 1 40 ls (o.1.toList ++ [v0, v1, v2]) o.2) else none := ay_virtual (as := [w1, w2]) (st := [v0, v1, v2]) dX8_hint_37 kc_6_183 rfl rfl (Nat.le_of_ble_eq_true rfl)
theorem dX8_hint_40 : decode cX8_hint 40 = .ok (.aload_n 0, 1) := by decide +kernel
theorem sX8_hint_40 : ab_X rom K cX8_hint 6 1 40 (.ref a :: ls) st hp = ab_X rom K cX8_hint 6 1 41 (.ref a :: ls) (.ref a :: st) hp := ax_aload_n dX8_hint_40 rfl rfl
theorem dX8_hint_41 : decode cX8_hint 41 = .ok (.getfield 51, 3) := by decide +kernel
theorem sX8_hint_41 : ab_X rom K cX8_hint 6 1 41 ls (.ref a :: st) hp = (ab_fld hp a 6 6).bind (fun v => ab_X rom K cX8_hint 6 1 44 ls (v :: st) hp) := ax_getfield dX8_hint_41 kf_6_51 rfl
theorem dX8_hint_44 : decode cX8_hint 44 = .ok (.getfield 187, 3) := by decide +kernel
theorem sX8_hint_44 : ab_X rom K cX8_hint 6 1 44 ls (.ref a :: st) hp = (ab_fld hp a 4 0).bind (fun v => ab_X rom K cX8_hint 6 1 47 ls (v :: st) hp) := ax_getfield dX8_hint_44 kf_6_187 rfl
theorem dX8_hint_47 : decode cX8_hint 47 = .ok (.getfield 191, 3) := by decide +kernel
theorem sX8_hint_47 : ab_X rom K cX8_hint 6 1 47 ls (.ref a :: st) hp = (ab_fld hp a 0 0).bind (fun v => ab_X rom K cX8_hint 6 1 50 ls (v :: st) hp) := ax_getfield dX8_hint_47 kf_6_191 rfl
theorem dX8_hint_50 : decode cX8_hint 50 = .ok (.ifCond .ne 8, 3) := by decide +kernel
theorem sX8_hint_50 : ab_X rom K cX8_hint 6 1 50 ls (.int x :: st) hp = if x = 0 then ab_X rom K cX8_hint 6 1 53 ls st hp else ab_X rom K cX8_hint 6 1 58 ls st hp := ax_if_ne dX8_hint_50 (by decide) rfl
theorem dX8_hint_53 : decode cX8_hint 53 = .ok (.bipush (-6), 2) := by decide +kernel
theorem sX8_hint_53 : ab_X rom K cX8_hint 6 1 53 ls st hp = ab_X rom K cX8_hint 6 1 55 ls (.int (-6) :: st) hp := ax_bipush dX8_hint_53 (by decide) rfl
theorem dX8_hint_55 : decode cX8_hint 55 = .ok (.goto 14, 3) := by decide +kernel
theorem sX8_hint_55 : ab_X rom K cX8_hint 6 1 55 ls st hp = ab_X rom K cX8_hint 6 1 69 ls st hp := ax_goto dX8_hint_55 (by decide)
theorem dX8_hint_58 : decode cX8_hint 58 = .ok (.aload_n 0, 1) := by decide +kernel
theorem sX8_hint_58 : ab_X rom K cX8_hint 6 1 58 (.ref a :: ls) st hp = ab_X rom K cX8_hint 6 1 59 (.ref a :: ls) (.ref a :: st) hp := ax_aload_n dX8_hint_58 rfl rfl
theorem dX8_hint_59 : decode cX8_hint 59 = .ok (.getfield 51, 3) := by decide +kernel
theorem sX8_hint_59 : ab_X rom K cX8_hint 6 1 59 ls (.ref a :: st) hp = (ab_fld hp a 6 6).bind (fun v => ab_X rom K cX8_hint 6 1 62 ls (v :: st) hp) := ax_getfield dX8_hint_59 kf_6_51 rfl
theorem dX8_hint_62 : decode cX8_hint 62 = .ok (.getfield 187, 3) := by decide +kernel
theorem sX8_hint_62 : ab_X rom K cX8_hint 6 1 62 ls (.ref a :: st) hp = (ab_fld hp a 4 0).bind (fun v => ab_X rom K cX8_hint 6 1 65 ls (v :: st) hp) := ax_getfield dX8_hint_62 kf_6_187 rfl
theorem dX8_hint_65 : decode cX8_hint 65 = .ok (.aload_n 3, 1) := by decide +kernel
theorem sX8_hint_65 : ab_X rom K cX8_hint 6 1 65 (v0 :: v1 :: v2 :: .ref a :: ls) st hp = ab_X rom K cX8_hint 6 1 66 (v0 :: v1 :: v2 :: .ref a :: ls) (.ref a :: st) hp := ax_aload_n dX8_hint_65 rfl rfl
theorem dX8_hint_66 : decode cX8_hint 66 = .ok (.invokevirtual 211, 3) := by decide +kernel
theorem sX8_hint_66_0 : ab_X rom K cX8_hint 6 1 66 ls [w1, .ref a] hp = if ab_iso hp a 0 = true then (K 9 (.ref a :: [w1]) hp).bind (fun o => ab_X rom K cX8_hint 6 1 69 ls (o.1.toList ++ []) o.2) else none := ay_virtual (as := [w1]) (st := []) dX8_hint_66 kc_6_211 rfl rfl (Nat.le_of_ble_eq_true rfl)
theorem sX8_hint_66_1 : ab_X rom K cX8_hint 6 1 66 ls [w1, .ref a, v0] hp = if ab_iso hp a 0 = true then (K 9 (.ref a :: [w1]) hp).bind (fun o => ab_X rom K cX8_hint 6 1 69 ls (o.1.toList ++ [v0]) o.2) else none := ay_virtual (as := [w1]) (st := [v0]) dX8_hint_66 kc_6_211 rfl rfl (Nat.le_of_ble_eq_true rfl)
theorem sX8_hint_66_2 : ab_X rom K cX8_hint 6 1 66 ls [w1, .ref a, v0, v1] hp = if ab_iso hp a 0 = true then (K 9 (.ref a :: [w1]) hp).bind (fun o => ab_X rom K cX8_hint 6 1 69 ls (o.1.toList ++ [v0, v1]) o.2) else none := ay_virtual (as := [w1]) (st := [v0, v1]) dX8_hint_66 kc_6_211 rfl rfl (Nat.le_of_ble_eq_true rfl)
theorem sX8_hint_66_3 : ab_X rom K cX8_hint 6 1 66 ls [w1, .ref a, v0, v1, v2] hp = if ab_iso hp a 0 = true then (K 9 (.ref a :: [w1]) hp).bind (fun o => ab_X rom K cX8_hint 6 1 69 ls (o.1.toList ++ [v0, v1, v2]) o.2) else none := ay_virtual (as := [w1]) (st := [v0, v1, v2]) dX8_hint_66 kc_6_211 rfl rfl (Nat.le_of_ble_eq_true rfl)
theorem dX8_hint_69 : decode cX8_hint 69 = .ok (.ireturn, 1) := by decide +kernel
theorem sX8_hint_69 : ab_X rom K cX8_hint 6 1 69 ls [.int x] hp = some (some (.int x), hp) := ax_iret dX8_hint_69 rfl
theorem tX8_is : ab_mT[99]? = some (yX8_is, cX8_is, 3, 1, 6) := by decide +kernel
theorem mX8_is {d : Nat} {a0 : Nat} {x0 : Int32} {x1 : Int32} : ab_M rom (d + 1) 99 [.ref a0, .int x0, .int x1] hp = ab_X rom (ab_M rom d) cX8_is 6 1 0 [.ref a0, .int x0, .int x1] [] hp := ab_M_eq tX8_is (Nat.le_of_ble_eq_true rfl)
theorem dX8_is_0 : decode cX8_is 0 = .ok (.aload_n 0, 1) := by decide +kernel
theorem sX8_is_0 : ab_X rom K cX8_is 6 1 0 (.ref a :: ls) st hp = ab_X rom K cX8_is 6 1 1 (.ref a :: ls) (.ref a :: st) hp := ax_aload_n dX8_is_0 rfl rfl
theorem dX8_is_1 : decode cX8_is 1 = .ok (.iload_n 1, 1) := by decide +kernel
theorem sX8_is_1 : ab_X rom K cX8_is 6 1 1 (v0 :: .int x :: ls) st hp = ab_X rom K cX8_is 6 1 2 (v0 :: .int x :: ls) (.int x :: st) hp := ax_iload_n dX8_is_1 rfl rfl
theorem dX8_is_2 : decode cX8_is 2 = .ok (.invokevirtual 99, 3) := by decide +kernel
theorem sX8_is_2_0 : ab_X rom K cX8_is 6 1 2 ls [w1, .ref a] hp = if ab_iso hp a 6 = true then (K 95 (.ref a :: [w1]) hp).bind (fun o => ab_X rom K cX8_is 6 1 5 ls (o.1.toList ++ []) o.2) else none := ay_virtual (as := [w1]) (st := []) dX8_is_2 kc_6_99 rfl rfl (Nat.le_of_ble_eq_true rfl)
theorem sX8_is_2_1 : ab_X rom K cX8_is 6 1 2 ls [w1, .ref a, v0] hp = if ab_iso hp a 6 = true then (K 95 (.ref a :: [w1]) hp).bind (fun o => ab_X rom K cX8_is 6 1 5 ls (o.1.toList ++ [v0]) o.2) else none := ay_virtual (as := [w1]) (st := [v0]) dX8_is_2 kc_6_99 rfl rfl (Nat.le_of_ble_eq_true rfl)
theorem sX8_is_2_2 : ab_X rom K cX8_is 6 1 2 ls [w1, .ref a, v0, v1] hp = if ab_iso hp a 6 = true then (K 95 (.ref a :: [w1]) hp).bind (fun o => ab_X rom K cX8_is 6 1 5 ls (o.1.toList ++ [v0, v1]) o.2) else none := ay_virtual (as := [w1]) (st := [v0, v1]) dX8_is_2 kc_6_99 rfl rfl (Nat.le_of_ble_eq_true rfl)
theorem sX8_is_2_3 : ab_X rom K cX8_is 6 1 2 ls [w1, .ref a, v0, v1, v2] hp = if ab_iso hp a 6 = true then (K 95 (.ref a :: [w1]) hp).bind (fun o => ab_X rom K cX8_is 6 1 5 ls (o.1.toList ++ [v0, v1, v2]) o.2) else none := ay_virtual (as := [w1]) (st := [v0, v1, v2]) dX8_is_2 kc_6_99 rfl rfl (Nat.le_of_ble_eq_true rfl)
theorem dX8_is_5 : decode cX8_is 5 = .ok (.ifCond .eq 10, 3) := by decide +kernel
theorem sX8_is_5 : ab_X rom K cX8_is 6 1 5 ls (.int x :: st) hp = if x = 0 then ab_X rom K cX8_is 6 1 15 ls st hp else ab_X rom K cX8_is 6 1 8 ls st hp := ax_if_eq dX8_is_5 (by decide) rfl
theorem dX8_is_8 : decode cX8_is 8 = .ok (.iload_n 2, 1) := by decide +kernel
theorem sX8_is_8 : ab_X rom K cX8_is 6 1 8 (v0 :: v1 :: .int x :: ls) st hp = ab_X rom K cX8_is 6 1 9 (v0 :: v1 :: .int x :: ls) (.int x :: st) hp := ax_iload_n dX8_is_8 rfl rfl
theorem dX8_is_9 : decode cX8_is 9 = .ok (.invokestatic 174, 3) := by decide +kernel
theorem sX8_is_9_0 : ab_X rom K cX8_is 6 1 9 ls [w1] hp = (K 100 [w1] hp).bind (fun o => ab_X rom K cX8_is 6 1 12 ls (o.1.toList ++ []) o.2) := ax_static (as := [w1]) (st := []) dX8_is_9 kc_6_174 rfl rfl (Nat.le_of_ble_eq_true rfl)
theorem sX8_is_9_1 : ab_X rom K cX8_is 6 1 9 ls [w1, v0] hp = (K 100 [w1] hp).bind (fun o => ab_X rom K cX8_is 6 1 12 ls (o.1.toList ++ [v0]) o.2) := ax_static (as := [w1]) (st := [v0]) dX8_is_9 kc_6_174 rfl rfl (Nat.le_of_ble_eq_true rfl)
theorem sX8_is_9_2 : ab_X rom K cX8_is 6 1 9 ls [w1, v0, v1] hp = (K 100 [w1] hp).bind (fun o => ab_X rom K cX8_is 6 1 12 ls (o.1.toList ++ [v0, v1]) o.2) := ax_static (as := [w1]) (st := [v0, v1]) dX8_is_9 kc_6_174 rfl rfl (Nat.le_of_ble_eq_true rfl)
theorem sX8_is_9_3 : ab_X rom K cX8_is 6 1 9 ls [w1, v0, v1, v2] hp = (K 100 [w1] hp).bind (fun o => ab_X rom K cX8_is 6 1 12 ls (o.1.toList ++ [v0, v1, v2]) o.2) := ax_static (as := [w1]) (st := [v0, v1, v2]) dX8_is_9 kc_6_174 rfl rfl (Nat.le_of_ble_eq_true rfl)
theorem dX8_is_12 : decode cX8_is 12 = .ok (.ifCond .ne 6, 3) := by decide +kernel
theorem sX8_is_12 : ab_X rom K cX8_is 6 1 12 ls (.int x :: st) hp = if x = 0 then ab_X rom K cX8_is 6 1 15 ls st hp else ab_X rom K cX8_is 6 1 18 ls st hp := ax_if_ne dX8_is_12 (by decide) rfl
theorem dX8_is_15 : decode cX8_is 15 = .ok (.bipush (-2), 2) := by decide +kernel
theorem sX8_is_15 : ab_X rom K cX8_is 6 1 15 ls st hp = ab_X rom K cX8_is 6 1 17 ls (.int (-2) :: st) hp := ax_bipush dX8_is_15 (by decide) rfl
theorem dX8_is_17 : decode cX8_is 17 = .ok (.ireturn, 1) := by decide +kernel
theorem sX8_is_17 : ab_X rom K cX8_is 6 1 17 ls [.int x] hp = some (some (.int x), hp) := ax_iret dX8_is_17 rfl
theorem dX8_is_18 : decode cX8_is 18 = .ok (.aload_n 0, 1) := by decide +kernel
theorem sX8_is_18 : ab_X rom K cX8_is 6 1 18 (.ref a :: ls) st hp = ab_X rom K cX8_is 6 1 19 (.ref a :: ls) (.ref a :: st) hp := ax_aload_n dX8_is_18 rfl rfl
theorem dX8_is_19 : decode cX8_is 19 = .ok (.getfield 21, 3) := by decide +kernel
theorem sX8_is_19 : ab_X rom K cX8_is 6 1 19 ls (.ref a :: st) hp = (ab_fld hp a 6 3).bind (fun v => ab_X rom K cX8_is 6 1 22 ls (v :: st) hp) := ax_getfield dX8_is_19 kf_6_21 rfl
theorem dX8_is_22 : decode cX8_is 22 = .ok (.iload_n 1, 1) := by decide +kernel
theorem sX8_is_22 : ab_X rom K cX8_is 6 1 22 (v0 :: .int x :: ls) st hp = ab_X rom K cX8_is 6 1 23 (v0 :: .int x :: ls) (.int x :: st) hp := ax_iload_n dX8_is_22 rfl rfl
theorem dX8_is_23 : decode cX8_is 23 = .ok (.aaload, 1) := by decide +kernel
theorem sX8_is_23 : ab_X rom K cX8_is 6 1 23 ls (.int x :: .ref a :: st) hp = (ab_rrd hp a x).bind (fun v => ab_X rom K cX8_is 6 1 24 ls (.ref v :: st) hp) := ax_aaload dX8_is_23 rfl
theorem dX8_is_24 : decode cX8_is 24 = .ok (.iload_n 2, 1) := by decide +kernel
theorem sX8_is_24 : ab_X rom K cX8_is 6 1 24 (v0 :: v1 :: .int x :: ls) st hp = ab_X rom K cX8_is 6 1 25 (v0 :: v1 :: .int x :: ls) (.int x :: st) hp := ax_iload_n dX8_is_24 rfl rfl
theorem dX8_is_25 : decode cX8_is 25 = .ok (.invokestatic 177, 3) := by decide +kernel
theorem sX8_is_25_0 : ab_X rom K cX8_is 6 1 25 ls [w2, w1] hp = (K 251 [w1, w2] hp).bind (fun o => ab_X rom K cX8_is 6 1 28 ls (o.1.toList ++ []) o.2) := ax_static (as := [w1, w2]) (st := []) dX8_is_25 kc_6_177 rfl rfl (Nat.le_of_ble_eq_true rfl)
theorem sX8_is_25_1 : ab_X rom K cX8_is 6 1 25 ls [w2, w1, v0] hp = (K 251 [w1, w2] hp).bind (fun o => ab_X rom K cX8_is 6 1 28 ls (o.1.toList ++ [v0]) o.2) := ax_static (as := [w1, w2]) (st := [v0]) dX8_is_25 kc_6_177 rfl rfl (Nat.le_of_ble_eq_true rfl)
theorem sX8_is_25_2 : ab_X rom K cX8_is 6 1 25 ls [w2, w1, v0, v1] hp = (K 251 [w1, w2] hp).bind (fun o => ab_X rom K cX8_is 6 1 28 ls (o.1.toList ++ [v0, v1]) o.2) := ax_static (as := [w1, w2]) (st := [v0, v1]) dX8_is_25 kc_6_177 rfl rfl (Nat.le_of_ble_eq_true rfl)
theorem sX8_is_25_3 : ab_X rom K cX8_is 6 1 25 ls [w2, w1, v0, v1, v2] hp = (K 251 [w1, w2] hp).bind (fun o => ab_X rom K cX8_is 6 1 28 ls (o.1.toList ++ [v0, v1, v2]) o.2) := ax_static (as := [w1, w2]) (st := [v0, v1, v2]) dX8_is_25 kc_6_177 rfl rfl (Nat.le_of_ble_eq_true rfl)
theorem dX8_is_28 : decode cX8_is 28 = .ok (.ifCond .ne 7, 3) := by decide +kernel
theorem sX8_is_28 : ab_X rom K cX8_is 6 1 28 ls (.int x :: st) hp = if x = 0 then ab_X rom K cX8_is 6 1 31 ls st hp else ab_X rom K cX8_is 6 1 35 ls st hp := ax_if_ne dX8_is_28 (by decide) rfl
theorem dX8_is_31 : decode cX8_is 31 = .ok (.iconst 1, 1) := by decide +kernel
theorem sX8_is_31 : ab_X rom K cX8_is 6 1 31 ls st hp = ab_X rom K cX8_is 6 1 32 ls (.int 1 :: st) hp := ax_iconst dX8_is_31 (by decide) rfl
theorem dX8_is_32 : decode cX8_is 32 = .ok (.goto 4, 3) := by decide +kernel
theorem sX8_is_32 : ab_X rom K cX8_is 6 1 32 ls st hp = ab_X rom K cX8_is 6 1 36 ls st hp := ax_goto dX8_is_32 (by decide)
theorem dX8_is_35 : decode cX8_is 35 = .ok (.iconst 0, 1) := by decide +kernel
theorem sX8_is_35 : ab_X rom K cX8_is 6 1 35 ls st hp = ab_X rom K cX8_is 6 1 36 ls (.int 0 :: st) hp := ax_iconst dX8_is_35 (by decide) rfl
theorem dX8_is_36 : decode cX8_is 36 = .ok (.ireturn, 1) := by decide +kernel
theorem sX8_is_36 : ab_X rom K cX8_is 6 1 36 ls [.int x] hp = some (some (.int x), hp) := ax_iret dX8_is_36 rfl
theorem tX8_isKind : ab_mT[100]? = some (yX8_isKind, cX8_isKind, 1, 2, 6) := by decide +kernel
theorem mX8_isKind {d : Nat} {x0 : Int32} : ab_M rom (d + 1) 100 [.int x0] hp = ab_X rom (ab_M rom d) cX8_isKind 6 2 0 [.int x0] [] hp := ab_M_eq tX8_isKind (Nat.le_of_ble_eq_true rfl)
theorem dX8_isKind_0 : decode cX8_isKind 0 = .ok (.iload_n 0, 1) := by decide +kernel
theorem sX8_isKind_0 : ab_X rom K cX8_isKind 6 2 0 (.int x :: ls) st hp = ab_X rom K cX8_isKind 6 2 1 (.int x :: ls) (.int x :: st) hp := ax_iload_n dX8_isKind_0 rfl rfl
theorem dX8_isKind_1 : decode cX8_isKind 1 = .ok (.ifCond .lt 12, 3) := by decide +kernel
theorem sX8_isKind_1 : ab_X rom K cX8_isKind 6 2 1 ls (.int x :: st) hp = if x < 0 then ab_X rom K cX8_isKind 6 2 13 ls st hp else ab_X rom K cX8_isKind 6 2 4 ls st hp := ax_if_lt dX8_isKind_1 (by decide) rfl
theorem dX8_isKind_4 : decode cX8_isKind 4 = .ok (.iload_n 0, 1) := by decide +kernel
theorem sX8_isKind_4 : ab_X rom K cX8_isKind 6 2 4 (.int x :: ls) st hp = ab_X rom K cX8_isKind 6 2 5 (.int x :: ls) (.int x :: st) hp := ax_iload_n dX8_isKind_4 rfl rfl
theorem dX8_isKind_5 : decode cX8_isKind 5 = .ok (.iconst 5, 1) := by decide +kernel
theorem sX8_isKind_5 : ab_X rom K cX8_isKind 6 2 5 ls st hp = ab_X rom K cX8_isKind 6 2 6 ls (.int 5 :: st) hp := ax_iconst dX8_isKind_5 (by decide) rfl
theorem dX8_isKind_6 : decode cX8_isKind 6 = .ok (.if_icmp .ge 7, 3) := by decide +kernel
theorem sX8_isKind_6 : ab_X rom K cX8_isKind 6 2 6 ls (.int y :: .int x :: st) hp = if x < y then ab_X rom K cX8_isKind 6 2 9 ls st hp else ab_X rom K cX8_isKind 6 2 13 ls st hp := ax_icmp_ge dX8_isKind_6 (by decide) rfl
theorem dX8_isKind_9 : decode cX8_isKind 9 = .ok (.iconst 1, 1) := by decide +kernel
theorem sX8_isKind_9 : ab_X rom K cX8_isKind 6 2 9 ls st hp = ab_X rom K cX8_isKind 6 2 10 ls (.int 1 :: st) hp := ax_iconst dX8_isKind_9 (by decide) rfl
theorem dX8_isKind_10 : decode cX8_isKind 10 = .ok (.goto 4, 3) := by decide +kernel
theorem sX8_isKind_10 : ab_X rom K cX8_isKind 6 2 10 ls st hp = ab_X rom K cX8_isKind 6 2 14 ls st hp := ax_goto dX8_isKind_10 (by decide)
theorem dX8_isKind_13 : decode cX8_isKind 13 = .ok (.iconst 0, 1) := by decide +kernel
theorem sX8_isKind_13 : ab_X rom K cX8_isKind 6 2 13 ls st hp = ab_X rom K cX8_isKind 6 2 14 ls (.int 0 :: st) hp := ax_iconst dX8_isKind_13 (by decide) rfl
theorem dX8_isKind_14 : decode cX8_isKind 14 = .ok (.ireturn, 1) := by decide +kernel
theorem sX8_isKind_14 : ab_X rom K cX8_isKind 6 2 14 ls [.int x] hp = if x = 0 ∨ x = 1 then some (some (.int x), hp) else none := ay_zret dX8_isKind_14 rfl
theorem tX8_isSlot : ab_mT[101]? = some (yX8_isSlot, cX8_isSlot, 1, 2, 6) := by decide +kernel
theorem mX8_isSlot {d : Nat} {x0 : Int32} : ab_M rom (d + 1) 101 [.int x0] hp = ab_X rom (ab_M rom d) cX8_isSlot 6 2 0 [.int x0] [] hp := ab_M_eq tX8_isSlot (Nat.le_of_ble_eq_true rfl)
theorem dX8_isSlot_0 : decode cX8_isSlot 0 = .ok (.iload_n 0, 1) := by decide +kernel
theorem sX8_isSlot_0 : ab_X rom K cX8_isSlot 6 2 0 (.int x :: ls) st hp = ab_X rom K cX8_isSlot 6 2 1 (.int x :: ls) (.int x :: st) hp := ax_iload_n dX8_isSlot_0 rfl rfl
theorem dX8_isSlot_1 : decode cX8_isSlot 1 = .ok (.ifCond .lt 12, 3) := by decide +kernel
theorem sX8_isSlot_1 : ab_X rom K cX8_isSlot 6 2 1 ls (.int x :: st) hp = if x < 0 then ab_X rom K cX8_isSlot 6 2 13 ls st hp else ab_X rom K cX8_isSlot 6 2 4 ls st hp := ax_if_lt dX8_isSlot_1 (by decide) rfl
theorem dX8_isSlot_4 : decode cX8_isSlot 4 = .ok (.iload_n 0, 1) := by decide +kernel
theorem sX8_isSlot_4 : ab_X rom K cX8_isSlot 6 2 4 (.int x :: ls) st hp = ab_X rom K cX8_isSlot 6 2 5 (.int x :: ls) (.int x :: st) hp := ax_iload_n dX8_isSlot_4 rfl rfl
theorem dX8_isSlot_5 : decode cX8_isSlot 5 = .ok (.iconst 3, 1) := by decide +kernel
theorem sX8_isSlot_5 : ab_X rom K cX8_isSlot 6 2 5 ls st hp = ab_X rom K cX8_isSlot 6 2 6 ls (.int 3 :: st) hp := ax_iconst dX8_isSlot_5 (by decide) rfl
theorem dX8_isSlot_6 : decode cX8_isSlot 6 = .ok (.if_icmp .ge 7, 3) := by decide +kernel
theorem sX8_isSlot_6 : ab_X rom K cX8_isSlot 6 2 6 ls (.int y :: .int x :: st) hp = if x < y then ab_X rom K cX8_isSlot 6 2 9 ls st hp else ab_X rom K cX8_isSlot 6 2 13 ls st hp := ax_icmp_ge dX8_isSlot_6 (by decide) rfl
theorem dX8_isSlot_9 : decode cX8_isSlot 9 = .ok (.iconst 1, 1) := by decide +kernel
theorem sX8_isSlot_9 : ab_X rom K cX8_isSlot 6 2 9 ls st hp = ab_X rom K cX8_isSlot 6 2 10 ls (.int 1 :: st) hp := ax_iconst dX8_isSlot_9 (by decide) rfl
theorem dX8_isSlot_10 : decode cX8_isSlot 10 = .ok (.goto 4, 3) := by decide +kernel
theorem sX8_isSlot_10 : ab_X rom K cX8_isSlot 6 2 10 ls st hp = ab_X rom K cX8_isSlot 6 2 14 ls st hp := ax_goto dX8_isSlot_10 (by decide)
theorem dX8_isSlot_13 : decode cX8_isSlot 13 = .ok (.iconst 0, 1) := by decide +kernel
theorem sX8_isSlot_13 : ab_X rom K cX8_isSlot 6 2 13 ls st hp = ab_X rom K cX8_isSlot 6 2 14 ls (.int 0 :: st) hp := ax_iconst dX8_isSlot_13 (by decide) rfl
theorem dX8_isSlot_14 : decode cX8_isSlot 14 = .ok (.ireturn, 1) := by decide +kernel
theorem sX8_isSlot_14 : ab_X rom K cX8_isSlot 6 2 14 ls [.int x] hp = if x = 0 ∨ x = 1 then some (some (.int x), hp) else none := ay_zret dX8_isSlot_14 rfl
theorem tX8_keepDraft : ab_mT[102]? = some (yX8_keepDraft, cX8_keepDraft, 2, 0, 6) := by decide +kernel
theorem mX8_keepDraft {d : Nat} {a0 : Nat} {x0 : Int32} : ab_M rom (d + 1) 102 [.ref a0, .int x0] hp = ab_X rom (ab_M rom d) cX8_keepDraft 6 0 0 [.ref a0, .int x0] [] hp := ab_M_eq tX8_keepDraft (Nat.le_of_ble_eq_true rfl)
theorem dX8_keepDraft_0 : decode cX8_keepDraft 0 = .ok (.aload_n 0, 1) := by decide +kernel
theorem sX8_keepDraft_0 : ab_X rom K cX8_keepDraft 6 0 0 (.ref a :: ls) st hp = ab_X rom K cX8_keepDraft 6 0 1 (.ref a :: ls) (.ref a :: st) hp := ax_aload_n dX8_keepDraft_0 rfl rfl
theorem dX8_keepDraft_1 : decode cX8_keepDraft 1 = .ok (.getfield 42, 3) := by decide +kernel
theorem sX8_keepDraft_1 : ab_X rom K cX8_keepDraft 6 0 1 ls (.ref a :: st) hp = (ab_fld hp a 6 5).bind (fun v => ab_X rom K cX8_keepDraft 6 0 4 ls (v :: st) hp) := ax_getfield dX8_keepDraft_1 kf_6_42 rfl
theorem dX8_keepDraft_4 : decode cX8_keepDraft 4 = .ok (.iload_n 1, 1) := by decide +kernel
theorem sX8_keepDraft_4 : ab_X rom K cX8_keepDraft 6 0 4 (v0 :: .int x :: ls) st hp = ab_X rom K cX8_keepDraft 6 0 5 (v0 :: .int x :: ls) (.int x :: st) hp := ax_iload_n dX8_keepDraft_4 rfl rfl
theorem dX8_keepDraft_5 : decode cX8_keepDraft 5 = .ok (.aload_n 0, 1) := by decide +kernel
theorem sX8_keepDraft_5 : ab_X rom K cX8_keepDraft 6 0 5 (.ref a :: ls) st hp = ab_X rom K cX8_keepDraft 6 0 6 (.ref a :: ls) (.ref a :: st) hp := ax_aload_n dX8_keepDraft_5 rfl rfl
theorem dX8_keepDraft_6 : decode cX8_keepDraft 6 = .ok (.getfield 21, 3) := by decide +kernel
theorem sX8_keepDraft_6 : ab_X rom K cX8_keepDraft 6 0 6 ls (.ref a :: st) hp = (ab_fld hp a 6 3).bind (fun v => ab_X rom K cX8_keepDraft 6 0 9 ls (v :: st) hp) := ax_getfield dX8_keepDraft_6 kf_6_21 rfl
theorem dX8_keepDraft_9 : decode cX8_keepDraft 9 = .ok (.iload_n 1, 1) := by decide +kernel
theorem sX8_keepDraft_9 : ab_X rom K cX8_keepDraft 6 0 9 (v0 :: .int x :: ls) st hp = ab_X rom K cX8_keepDraft 6 0 10 (v0 :: .int x :: ls) (.int x :: st) hp := ax_iload_n dX8_keepDraft_9 rfl rfl
theorem dX8_keepDraft_10 : decode cX8_keepDraft 10 = .ok (.aaload, 1) := by decide +kernel
theorem sX8_keepDraft_10 : ab_X rom K cX8_keepDraft 6 0 10 ls (.int x :: .ref a :: st) hp = (ab_rrd hp a x).bind (fun v => ab_X rom K cX8_keepDraft 6 0 11 ls (.ref v :: st) hp) := ax_aaload dX8_keepDraft_10 rfl
theorem dX8_keepDraft_11 : decode cX8_keepDraft 11 = .ok (.invokevirtual 137, 3) := by decide +kernel
theorem sX8_keepDraft_11_0 : ab_X rom K cX8_keepDraft 6 0 11 ls [w2, w1, .ref a] hp = if ab_iso hp a 2 = true then (K 37 (.ref a :: [w1, w2]) hp).bind (fun o => ab_X rom K cX8_keepDraft 6 0 14 ls (o.1.toList ++ []) o.2) else none := ay_virtual (as := [w1, w2]) (st := []) dX8_keepDraft_11 kc_6_137 rfl rfl (Nat.le_of_ble_eq_true rfl)
theorem sX8_keepDraft_11_1 : ab_X rom K cX8_keepDraft 6 0 11 ls [w2, w1, .ref a, v0] hp = if ab_iso hp a 2 = true then (K 37 (.ref a :: [w1, w2]) hp).bind (fun o => ab_X rom K cX8_keepDraft 6 0 14 ls (o.1.toList ++ [v0]) o.2) else none := ay_virtual (as := [w1, w2]) (st := [v0]) dX8_keepDraft_11 kc_6_137 rfl rfl (Nat.le_of_ble_eq_true rfl)
theorem sX8_keepDraft_11_2 : ab_X rom K cX8_keepDraft 6 0 11 ls [w2, w1, .ref a, v0, v1] hp = if ab_iso hp a 2 = true then (K 37 (.ref a :: [w1, w2]) hp).bind (fun o => ab_X rom K cX8_keepDraft 6 0 14 ls (o.1.toList ++ [v0, v1]) o.2) else none := ay_virtual (as := [w1, w2]) (st := [v0, v1]) dX8_keepDraft_11 kc_6_137 rfl rfl (Nat.le_of_ble_eq_true rfl)
theorem sX8_keepDraft_11_3 : ab_X rom K cX8_keepDraft 6 0 11 ls [w2, w1, .ref a, v0, v1, v2] hp = if ab_iso hp a 2 = true then (K 37 (.ref a :: [w1, w2]) hp).bind (fun o => ab_X rom K cX8_keepDraft 6 0 14 ls (o.1.toList ++ [v0, v1, v2]) o.2) else none := ay_virtual (as := [w1, w2]) (st := [v0, v1, v2]) dX8_keepDraft_11 kc_6_137 rfl rfl (Nat.le_of_ble_eq_true rfl)
theorem dX8_keepDraft_14 : decode cX8_keepDraft 14 = .ok (.aload_n 0, 1) := by decide +kernel
theorem sX8_keepDraft_14 : ab_X rom K cX8_keepDraft 6 0 14 (.ref a :: ls) st hp = ab_X rom K cX8_keepDraft 6 0 15 (.ref a :: ls) (.ref a :: st) hp := ax_aload_n dX8_keepDraft_14 rfl rfl
theorem dX8_keepDraft_15 : decode cX8_keepDraft 15 = .ok (.getfield 21, 3) := by decide +kernel
theorem sX8_keepDraft_15 : ab_X rom K cX8_keepDraft 6 0 15 ls (.ref a :: st) hp = (ab_fld hp a 6 3).bind (fun v => ab_X rom K cX8_keepDraft 6 0 18 ls (v :: st) hp) := ax_getfield dX8_keepDraft_15 kf_6_21 rfl
theorem dX8_keepDraft_18 : decode cX8_keepDraft 18 = .ok (.iload_n 1, 1) := by decide +kernel
theorem sX8_keepDraft_18 : ab_X rom K cX8_keepDraft 6 0 18 (v0 :: .int x :: ls) st hp = ab_X rom K cX8_keepDraft 6 0 19 (v0 :: .int x :: ls) (.int x :: st) hp := ax_iload_n dX8_keepDraft_18 rfl rfl
theorem dX8_keepDraft_19 : decode cX8_keepDraft 19 = .ok (.aaload, 1) := by decide +kernel
theorem sX8_keepDraft_19 : ab_X rom K cX8_keepDraft 6 0 19 ls (.int x :: .ref a :: st) hp = (ab_rrd hp a x).bind (fun v => ab_X rom K cX8_keepDraft 6 0 20 ls (.ref v :: st) hp) := ax_aaload dX8_keepDraft_19 rfl
theorem dX8_keepDraft_20 : decode cX8_keepDraft 20 = .ok (.aload_n 0, 1) := by decide +kernel
theorem sX8_keepDraft_20 : ab_X rom K cX8_keepDraft 6 0 20 (.ref a :: ls) st hp = ab_X rom K cX8_keepDraft 6 0 21 (.ref a :: ls) (.ref a :: st) hp := ax_aload_n dX8_keepDraft_20 rfl rfl
theorem dX8_keepDraft_21 : decode cX8_keepDraft 21 = .ok (.getfield 26, 3) := by decide +kernel
theorem sX8_keepDraft_21 : ab_X rom K cX8_keepDraft 6 0 21 ls (.ref a :: st) hp = (ab_fld hp a 6 4).bind (fun v => ab_X rom K cX8_keepDraft 6 0 24 ls (v :: st) hp) := ax_getfield dX8_keepDraft_21 kf_6_26 rfl
theorem dX8_keepDraft_24 : decode cX8_keepDraft 24 = .ok (.invokevirtual 215, 3) := by decide +kernel
theorem sX8_keepDraft_24_0 : ab_X rom K cX8_keepDraft 6 0 24 ls [w1, .ref a] hp = if ab_iso hp a 1 = true then (K 17 (.ref a :: [w1]) hp).bind (fun o => ab_X rom K cX8_keepDraft 6 0 27 ls (o.1.toList ++ []) o.2) else none := ay_virtual (as := [w1]) (st := []) dX8_keepDraft_24 kc_6_215 rfl rfl (Nat.le_of_ble_eq_true rfl)
theorem sX8_keepDraft_24_1 : ab_X rom K cX8_keepDraft 6 0 24 ls [w1, .ref a, v0] hp = if ab_iso hp a 1 = true then (K 17 (.ref a :: [w1]) hp).bind (fun o => ab_X rom K cX8_keepDraft 6 0 27 ls (o.1.toList ++ [v0]) o.2) else none := ay_virtual (as := [w1]) (st := [v0]) dX8_keepDraft_24 kc_6_215 rfl rfl (Nat.le_of_ble_eq_true rfl)
theorem sX8_keepDraft_24_2 : ab_X rom K cX8_keepDraft 6 0 24 ls [w1, .ref a, v0, v1] hp = if ab_iso hp a 1 = true then (K 17 (.ref a :: [w1]) hp).bind (fun o => ab_X rom K cX8_keepDraft 6 0 27 ls (o.1.toList ++ [v0, v1]) o.2) else none := ay_virtual (as := [w1]) (st := [v0, v1]) dX8_keepDraft_24 kc_6_215 rfl rfl (Nat.le_of_ble_eq_true rfl)
theorem sX8_keepDraft_24_3 : ab_X rom K cX8_keepDraft 6 0 24 ls [w1, .ref a, v0, v1, v2] hp = if ab_iso hp a 1 = true then (K 17 (.ref a :: [w1]) hp).bind (fun o => ab_X rom K cX8_keepDraft 6 0 27 ls (o.1.toList ++ [v0, v1, v2]) o.2) else none := ay_virtual (as := [w1]) (st := [v0, v1, v2]) dX8_keepDraft_24 kc_6_215 rfl rfl (Nat.le_of_ble_eq_true rfl)
theorem dX8_keepDraft_27 : decode cX8_keepDraft 27 = .ok (.return_, 1) := by decide +kernel
theorem sX8_keepDraft_27 : ab_X rom K cX8_keepDraft 6 0 27 ls [] hp = some (none, hp) := ax_vret dX8_keepDraft_27 (by decide)
end
