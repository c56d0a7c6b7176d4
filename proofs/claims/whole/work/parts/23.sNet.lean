/-! FairLabels$Net: its methods step by step (printed by wip/whole/gen_steps.py) -/
section
variable {rom : List (List Int32)} {K : Nat → List Value → ab_H → Option ab_O} {ls st : List Value} {hp : ab_H} {x y z : Int32} {a a2 : Nat} {sp dp : Int32} {u w : Int64} {v0 v1 v2 v3 v4 v5 v6 v7 v8 v9 v10 v11 v12 v13 v14 v15 w1 w2 w3 w4 w5 w6 : Value}
theorem tX3_init : ab_mT[11]? = some (yX3_init, cX3_init, 1, 3, 1) := by decide +kernel
theorem mX3_init {d : Nat} {a0 : Nat} : ab_M rom (d + 1) 11 [.ref a0] hp = ab_X rom (ab_M rom d) cX3_init 1 3 0 [.ref a0] [] hp := ab_M_eq tX3_init (Nat.le_of_ble_eq_true rfl)
theorem dX3_init_0 : decode cX3_init 0 = .ok (.aload_n 0, 1) := by decide +kernel
theorem sX3_init_0 : ab_X rom K cX3_init 1 3 0 (.ref a :: ls) st hp = ab_X rom K cX3_init 1 3 1 (.ref a :: ls) (.ref a :: st) hp := ax_aload_n dX3_init_0 rfl rfl
theorem dX3_init_1 : decode cX3_init 1 = .ok (.invokespecial 3, 3) := by decide +kernel
theorem sX3_init_1_0 : ab_X rom K cX3_init 1 3 1 ls [.ref a] hp = ab_X rom K cX3_init 1 3 4 ls [] hp := ax_obj dX3_init_1 kc_1_3 rfl (Nat.le_of_ble_eq_true rfl)
theorem sX3_init_1_1 : ab_X rom K cX3_init 1 3 1 ls [.ref a, v0] hp = ab_X rom K cX3_init 1 3 4 ls [v0] hp := ax_obj dX3_init_1 kc_1_3 rfl (Nat.le_of_ble_eq_true rfl)
theorem sX3_init_1_2 : ab_X rom K cX3_init 1 3 1 ls [.ref a, v0, v1] hp = ab_X rom K cX3_init 1 3 4 ls [v0, v1] hp := ax_obj dX3_init_1 kc_1_3 rfl (Nat.le_of_ble_eq_true rfl)
theorem sX3_init_1_3 : ab_X rom K cX3_init 1 3 1 ls [.ref a, v0, v1, v2] hp = ab_X rom K cX3_init 1 3 4 ls [v0, v1, v2] hp := ax_obj dX3_init_1 kc_1_3 rfl (Nat.le_of_ble_eq_true rfl)
theorem dX3_init_4 : decode cX3_init 4 = .ok (.aload_n 0, 1) := by decide +kernel
theorem sX3_init_4 : ab_X rom K cX3_init 1 3 4 (.ref a :: ls) st hp = ab_X rom K cX3_init 1 3 5 (.ref a :: ls) (.ref a :: st) hp := ax_aload_n dX3_init_4 rfl rfl
theorem dX3_init_5 : decode cX3_init 5 = .ok (.iconst 0, 1) := by decide +kernel
theorem sX3_init_5 : ab_X rom K cX3_init 1 3 5 ls st hp = ab_X rom K cX3_init 1 3 6 ls (.int 0 :: st) hp := ax_iconst dX3_init_5 (by decide) rfl
theorem dX3_init_6 : decode cX3_init 6 = .ok (.putfield 9, 3) := by decide +kernel
theorem sX3_init_6 : ab_X rom K cX3_init 1 3 6 ls (.int x :: .ref a :: st) hp = (ab_fpt hp a 1 0 (.int x)).bind (fun hp' => ab_X rom K cX3_init 1 3 9 ls st hp') := ax_putfield dX3_init_6 kf_1_9 rfl (Or.inl rfl) rfl
theorem dX3_init_9 : decode cX3_init 9 = .ok (.aload_n 0, 1) := by decide +kernel
theorem sX3_init_9 : ab_X rom K cX3_init 1 3 9 (.ref a :: ls) st hp = ab_X rom K cX3_init 1 3 10 (.ref a :: ls) (.ref a :: st) hp := ax_aload_n dX3_init_9 rfl rfl
theorem dX3_init_10 : decode cX3_init 10 = .ok (.iconst 0, 1) := by decide +kernel
theorem sX3_init_10 : ab_X rom K cX3_init 1 3 10 ls st hp = ab_X rom K cX3_init 1 3 11 ls (.int 0 :: st) hp := ax_iconst dX3_init_10 (by decide) rfl
theorem dX3_init_11 : decode cX3_init 11 = .ok (.putfield 15, 3) := by decide +kernel
theorem sX3_init_11 : ab_X rom K cX3_init 1 3 11 ls (.int x :: .ref a :: st) hp = (ab_fpt hp a 1 1 (.int x)).bind (fun hp' => ab_X rom K cX3_init 1 3 14 ls st hp') := ax_putfield dX3_init_11 kf_1_15 rfl (Or.inl rfl) rfl
theorem dX3_init_14 : decode cX3_init 14 = .ok (.aload_n 0, 1) := by decide +kernel
theorem sX3_init_14 : ab_X rom K cX3_init 1 3 14 (.ref a :: ls) st hp = ab_X rom K cX3_init 1 3 15 (.ref a :: ls) (.ref a :: st) hp := ax_aload_n dX3_init_14 rfl rfl
theorem dX3_init_15 : decode cX3_init 15 = .ok (.bipush 10, 2) := by decide +kernel
theorem sX3_init_15 : ab_X rom K cX3_init 1 3 15 ls st hp = ab_X rom K cX3_init 1 3 17 ls (.int 10 :: st) hp := ax_bipush dX3_init_15 (by decide) rfl
theorem dX3_init_17 : decode cX3_init 17 = .ok (.newarray .int, 2) := by decide +kernel
theorem sX3_init_17 : ab_X rom K cX3_init 1 3 17 ls (.int x :: st) hp = if ¬ x < 0 ∧ x.toNatClampNeg ≤ 1000 ∧ hp.length < ab_RO then ab_X rom K cX3_init 1 3 19 ls (.ref hp.length :: st) (hp ++ [.inl (0, List.replicate x.toNatClampNeg 0)]) else none := ay_newint dX3_init_17 rfl
theorem dX3_init_19 : decode cX3_init 19 = .ok (.putfield 18, 3) := by decide +kernel
theorem sX3_init_19 : ab_X rom K cX3_init 1 3 19 ls (.ref a2 :: .ref a :: st) hp = (ab_fpt hp a 1 2 (.ref a2)).bind (fun hp' => ab_X rom K cX3_init 1 3 22 ls st hp') := ax_putfield dX3_init_19 kf_1_18 rfl (Or.inr ⟨rfl, rfl⟩) rfl
theorem dX3_init_22 : decode cX3_init 22 = .ok (.aload_n 0, 1) := by decide +kernel
theorem sX3_init_22 : ab_X rom K cX3_init 1 3 22 (.ref a :: ls) st hp = ab_X rom K cX3_init 1 3 23 (.ref a :: ls) (.ref a :: st) hp := ax_aload_n dX3_init_22 rfl rfl
theorem dX3_init_23 : decode cX3_init 23 = .ok (.bipush 10, 2) := by decide +kernel
theorem sX3_init_23 : ab_X rom K cX3_init 1 3 23 ls st hp = ab_X rom K cX3_init 1 3 25 ls (.int 10 :: st) hp := ax_bipush dX3_init_23 (by decide) rfl
theorem dX3_init_25 : decode cX3_init 25 = .ok (.newarray .int, 2) := by decide +kernel
theorem sX3_init_25 : ab_X rom K cX3_init 1 3 25 ls (.int x :: st) hp = if ¬ x < 0 ∧ x.toNatClampNeg ≤ 1000 ∧ hp.length < ab_RO then ab_X rom K cX3_init 1 3 27 ls (.ref hp.length :: st) (hp ++ [.inl (0, List.replicate x.toNatClampNeg 0)]) else none := ay_newint dX3_init_25 rfl
theorem dX3_init_27 : decode cX3_init 27 = .ok (.putfield 22, 3) := by decide +kernel
theorem sX3_init_27 : ab_X rom K cX3_init 1 3 27 ls (.ref a2 :: .ref a :: st) hp = (ab_fpt hp a 1 3 (.ref a2)).bind (fun hp' => ab_X rom K cX3_init 1 3 30 ls st hp') := ax_putfield dX3_init_27 kf_1_22 rfl (Or.inr ⟨rfl, rfl⟩) rfl
theorem dX3_init_30 : decode cX3_init 30 = .ok (.aload_n 0, 1) := by decide +kernel
theorem sX3_init_30 : ab_X rom K cX3_init 1 3 30 (.ref a :: ls) st hp = ab_X rom K cX3_init 1 3 31 (.ref a :: ls) (.ref a :: st) hp := ax_aload_n dX3_init_30 rfl rfl
theorem dX3_init_31 : decode cX3_init 31 = .ok (.bipush 7, 2) := by decide +kernel
theorem sX3_init_31 : ab_X rom K cX3_init 1 3 31 ls st hp = ab_X rom K cX3_init 1 3 33 ls (.int 7 :: st) hp := ax_bipush dX3_init_31 (by decide) rfl
theorem dX3_init_33 : decode cX3_init 33 = .ok (.newarray .int, 2) := by decide +kernel
theorem sX3_init_33 : ab_X rom K cX3_init 1 3 33 ls (.int x :: st) hp = if ¬ x < 0 ∧ x.toNatClampNeg ≤ 1000 ∧ hp.length < ab_RO then ab_X rom K cX3_init 1 3 35 ls (.ref hp.length :: st) (hp ++ [.inl (0, List.replicate x.toNatClampNeg 0)]) else none := ay_newint dX3_init_33 rfl
theorem dX3_init_35 : decode cX3_init 35 = .ok (.putfield 25, 3) := by decide +kernel
theorem sX3_init_35 : ab_X rom K cX3_init 1 3 35 ls (.ref a2 :: .ref a :: st) hp = (ab_fpt hp a 1 4 (.ref a2)).bind (fun hp' => ab_X rom K cX3_init 1 3 38 ls st hp') := ax_putfield dX3_init_35 kf_1_25 rfl (Or.inr ⟨rfl, rfl⟩) rfl
theorem dX3_init_38 : decode cX3_init 38 = .ok (.aload_n 0, 1) := by decide +kernel
theorem sX3_init_38 : ab_X rom K cX3_init 1 3 38 (.ref a :: ls) st hp = ab_X rom K cX3_init 1 3 39 (.ref a :: ls) (.ref a :: st) hp := ax_aload_n dX3_init_38 rfl rfl
theorem dX3_init_39 : decode cX3_init 39 = .ok (.bipush 7, 2) := by decide +kernel
theorem sX3_init_39 : ab_X rom K cX3_init 1 3 39 ls st hp = ab_X rom K cX3_init 1 3 41 ls (.int 7 :: st) hp := ax_bipush dX3_init_39 (by decide) rfl
theorem dX3_init_41 : decode cX3_init 41 = .ok (.newarray .int, 2) := by decide +kernel
theorem sX3_init_41 : ab_X rom K cX3_init 1 3 41 ls (.int x :: st) hp = if ¬ x < 0 ∧ x.toNatClampNeg ≤ 1000 ∧ hp.length < ab_RO then ab_X rom K cX3_init 1 3 43 ls (.ref hp.length :: st) (hp ++ [.inl (0, List.replicate x.toNatClampNeg 0)]) else none := ay_newint dX3_init_41 rfl
theorem dX3_init_43 : decode cX3_init 43 = .ok (.putfield 28, 3) := by decide +kernel
theorem sX3_init_43 : ab_X rom K cX3_init 1 3 43 ls (.ref a2 :: .ref a :: st) hp = (ab_fpt hp a 1 5 (.ref a2)).bind (fun hp' => ab_X rom K cX3_init 1 3 46 ls st hp') := ax_putfield dX3_init_43 kf_1_28 rfl (Or.inr ⟨rfl, rfl⟩) rfl
theorem dX3_init_46 : decode cX3_init 46 = .ok (.return_, 1) := by decide +kernel
theorem sX3_init_46 : ab_X rom K cX3_init 1 3 46 ls [] hp = some (none, hp) := ax_vret dX3_init_46 (by decide)
theorem tX3_allDegreesEven : ab_mT[12]? = some (yX3_allDegreesEven, cX3_allDegreesEven, 2, 2, 1) := by decide +kernel
theorem mX3_allDegreesEven {d : Nat} {a0 : Nat} : ab_M rom (d + 1) 12 [.ref a0] hp = ab_X rom (ab_M rom d) cX3_allDegreesEven 1 2 0 [.ref a0, .null] [] hp := ab_M_eq tX3_allDegreesEven (Nat.le_of_ble_eq_true rfl)
theorem dX3_allDegreesEven_0 : decode cX3_allDegreesEven 0 = .ok (.iconst 0, 1) := by decide +kernel
theorem sX3_allDegreesEven_0 : ab_X rom K cX3_allDegreesEven 1 2 0 ls st hp = ab_X rom K cX3_allDegreesEven 1 2 1 ls (.int 0 :: st) hp := ax_iconst dX3_allDegreesEven_0 (by decide) rfl
theorem dX3_allDegreesEven_1 : decode cX3_allDegreesEven 1 = .ok (.istore_n 1, 1) := by decide +kernel
theorem sX3_allDegreesEven_1i : ab_X rom K cX3_allDegreesEven 1 2 1 (.int y :: v1 :: ls) (.int x :: st) hp = ab_X rom K cX3_allDegreesEven 1 2 2 (.int y :: .int x :: ls) st hp := ax_istore_n dX3_allDegreesEven_1 (ax_lt (v := v1) rfl) (ab_nl_c1 (j := 0) (v := .int y) rfl (ab_c1_int _)) rfl rfl
theorem sX3_allDegreesEven_1r : ab_X rom K cX3_allDegreesEven 1 2 1 (.ref a2 :: v1 :: ls) (.int x :: st) hp = ab_X rom K cX3_allDegreesEven 1 2 2 (.ref a2 :: .int x :: ls) st hp := ax_istore_n dX3_allDegreesEven_1 (ax_lt (v := v1) rfl) (ab_nl_c1 (j := 0) (v := .ref a2) rfl (ab_c1_ref _)) rfl rfl
theorem sX3_allDegreesEven_1n : ab_X rom K cX3_allDegreesEven 1 2 1 (.null :: v1 :: ls) (.int x :: st) hp = ab_X rom K cX3_allDegreesEven 1 2 2 (.null :: .int x :: ls) st hp := ax_istore_n dX3_allDegreesEven_1 (ax_lt (v := v1) rfl) (ab_nl_c1 (j := 0) (v := .null) rfl ab_c1_null) rfl rfl
theorem dX3_allDegreesEven_2 : decode cX3_allDegreesEven 2 = .ok (.iload_n 1, 1) := by decide +kernel
theorem sX3_allDegreesEven_2 : ab_X rom K cX3_allDegreesEven 1 2 2 (v0 :: .int x :: ls) st hp = ab_X rom K cX3_allDegreesEven 1 2 3 (v0 :: .int x :: ls) (.int x :: st) hp := ax_iload_n dX3_allDegreesEven_2 rfl rfl
theorem dX3_allDegreesEven_3 : decode cX3_allDegreesEven 3 = .ok (.aload_n 0, 1) := by decide +kernel
theorem sX3_allDegreesEven_3 : ab_X rom K cX3_allDegreesEven 1 2 3 (.ref a :: ls) st hp = ab_X rom K cX3_allDegreesEven 1 2 4 (.ref a :: ls) (.ref a :: st) hp := ax_aload_n dX3_allDegreesEven_3 rfl rfl
theorem dX3_allDegreesEven_4 : decode cX3_allDegreesEven 4 = .ok (.getfield 9, 3) := by decide +kernel
theorem sX3_allDegreesEven_4 : ab_X rom K cX3_allDegreesEven 1 2 4 ls (.ref a :: st) hp = (ab_fld hp a 1 0).bind (fun v => ab_X rom K cX3_allDegreesEven 1 2 7 ls (v :: st) hp) := ax_getfield dX3_allDegreesEven_4 kf_1_9 rfl
theorem dX3_allDegreesEven_7 : decode cX3_allDegreesEven 7 = .ok (.if_icmp .ge 21, 3) := by decide +kernel
theorem sX3_allDegreesEven_7 : ab_X rom K cX3_allDegreesEven 1 2 7 ls (.int y :: .int x :: st) hp = if x < y then ab_X rom K cX3_allDegreesEven 1 2 10 ls st hp else ab_X rom K cX3_allDegreesEven 1 2 28 ls st hp := ax_icmp_ge dX3_allDegreesEven_7 (by decide) rfl
theorem dX3_allDegreesEven_10 : decode cX3_allDegreesEven 10 = .ok (.aload_n 0, 1) := by decide +kernel
theorem sX3_allDegreesEven_10 : ab_X rom K cX3_allDegreesEven 1 2 10 (.ref a :: ls) st hp = ab_X rom K cX3_allDegreesEven 1 2 11 (.ref a :: ls) (.ref a :: st) hp := ax_aload_n dX3_allDegreesEven_10 rfl rfl
theorem dX3_allDegreesEven_11 : decode cX3_allDegreesEven 11 = .ok (.iload_n 1, 1) := by decide +kernel
theorem sX3_allDegreesEven_11 : ab_X rom K cX3_allDegreesEven 1 2 11 (v0 :: .int x :: ls) st hp = ab_X rom K cX3_allDegreesEven 1 2 12 (v0 :: .int x :: ls) (.int x :: st) hp := ax_iload_n dX3_allDegreesEven_11 rfl rfl
theorem dX3_allDegreesEven_12 : decode cX3_allDegreesEven 12 = .ok (.invokevirtual 61, 3) := by decide +kernel
theorem sX3_allDegreesEven_12_0 : ab_X rom K cX3_allDegreesEven 1 2 12 ls [w1, .ref a] hp = if ab_iso hp a 1 = true then (K 27 (.ref a :: [w1]) hp).bind (fun o => ab_X rom K cX3_allDegreesEven 1 2 15 ls (o.1.toList ++ []) o.2) else none := ay_virtual (as := [w1]) (st := []) dX3_allDegreesEven_12 kc_1_61 rfl rfl (Nat.le_of_ble_eq_true rfl)
theorem sX3_allDegreesEven_12_1 : ab_X rom K cX3_allDegreesEven 1 2 12 ls [w1, .ref a, v0] hp = if ab_iso hp a 1 = true then (K 27 (.ref a :: [w1]) hp).bind (fun o => ab_X rom K cX3_allDegreesEven 1 2 15 ls (o.1.toList ++ [v0]) o.2) else none := ay_virtual (as := [w1]) (st := [v0]) dX3_allDegreesEven_12 kc_1_61 rfl rfl (Nat.le_of_ble_eq_true rfl)
theorem sX3_allDegreesEven_12_2 : ab_X rom K cX3_allDegreesEven 1 2 12 ls [w1, .ref a, v0, v1] hp = if ab_iso hp a 1 = true then (K 27 (.ref a :: [w1]) hp).bind (fun o => ab_X rom K cX3_allDegreesEven 1 2 15 ls (o.1.toList ++ [v0, v1]) o.2) else none := ay_virtual (as := [w1]) (st := [v0, v1]) dX3_allDegreesEven_12 kc_1_61 rfl rfl (Nat.le_of_ble_eq_true rfl)
theorem sX3_allDegreesEven_12_3 : ab_X rom K cX3_allDegreesEven 1 2 12 ls [w1, .ref a, v0, v1, v2] hp = if ab_iso hp a 1 = true then (K 27 (.ref a :: [w1]) hp).bind (fun o => ab_X rom K cX3_allDegreesEven 1 2 15 ls (o.1.toList ++ [v0, v1, v2]) o.2) else none := ay_virtual (as := [w1]) (st := [v0, v1, v2]) dX3_allDegreesEven_12 kc_1_61 rfl rfl (Nat.le_of_ble_eq_true rfl)
theorem dX3_allDegreesEven_15 : decode cX3_allDegreesEven 15 = .ok (.iconst 1, 1) := by decide +kernel
theorem sX3_allDegreesEven_15 : ab_X rom K cX3_allDegreesEven 1 2 15 ls st hp = ab_X rom K cX3_allDegreesEven 1 2 16 ls (.int 1 :: st) hp := ax_iconst dX3_allDegreesEven_15 (by decide) rfl
theorem dX3_allDegreesEven_16 : decode cX3_allDegreesEven 16 = .ok (.iand, 1) := by decide +kernel
theorem sX3_allDegreesEven_16 : ab_X rom K cX3_allDegreesEven 1 2 16 ls (.int y :: .int x :: st) hp = ab_X rom K cX3_allDegreesEven 1 2 17 ls (.int (x &&& y) :: st) hp := ax_iand dX3_allDegreesEven_16 rfl
theorem dX3_allDegreesEven_17 : decode cX3_allDegreesEven 17 = .ok (.ifCond .eq 5, 3) := by decide +kernel
theorem sX3_allDegreesEven_17 : ab_X rom K cX3_allDegreesEven 1 2 17 ls (.int x :: st) hp = if x = 0 then ab_X rom K cX3_allDegreesEven 1 2 22 ls st hp else ab_X rom K cX3_allDegreesEven 1 2 20 ls st hp := ax_if_eq dX3_allDegreesEven_17 (by decide) rfl
theorem dX3_allDegreesEven_20 : decode cX3_allDegreesEven 20 = .ok (.iconst 0, 1) := by decide +kernel
theorem sX3_allDegreesEven_20 : ab_X rom K cX3_allDegreesEven 1 2 20 ls st hp = ab_X rom K cX3_allDegreesEven 1 2 21 ls (.int 0 :: st) hp := ax_iconst dX3_allDegreesEven_20 (by decide) rfl
theorem dX3_allDegreesEven_21 : decode cX3_allDegreesEven 21 = .ok (.ireturn, 1) := by decide +kernel
theorem sX3_allDegreesEven_21 : ab_X rom K cX3_allDegreesEven 1 2 21 ls [.int x] hp = if x = 0 ∨ x = 1 then some (some (.int x), hp) else none := ay_zret dX3_allDegreesEven_21 rfl
theorem dX3_allDegreesEven_22 : decode cX3_allDegreesEven 22 = .ok (.iinc 1 1, 3) := by decide +kernel
theorem sX3_allDegreesEven_22i : ab_X rom K cX3_allDegreesEven 1 2 22 (.int y :: .int x :: ls) st hp = ab_X rom K cX3_allDegreesEven 1 2 25 (.int y :: .int (x + 1) :: ls) st hp := ax_iinc dX3_allDegreesEven_22 rfl (ab_nl_c1 (j := 0) (v := .int y) rfl (ab_c1_int _)) (by decide) rfl rfl
theorem sX3_allDegreesEven_22r : ab_X rom K cX3_allDegreesEven 1 2 22 (.ref a2 :: .int x :: ls) st hp = ab_X rom K cX3_allDegreesEven 1 2 25 (.ref a2 :: .int (x + 1) :: ls) st hp := ax_iinc dX3_allDegreesEven_22 rfl (ab_nl_c1 (j := 0) (v := .ref a2) rfl (ab_c1_ref _)) (by decide) rfl rfl
theorem sX3_allDegreesEven_22n : ab_X rom K cX3_allDegreesEven 1 2 22 (.null :: .int x :: ls) st hp = ab_X rom K cX3_allDegreesEven 1 2 25 (.null :: .int (x + 1) :: ls) st hp := ax_iinc dX3_allDegreesEven_22 rfl (ab_nl_c1 (j := 0) (v := .null) rfl ab_c1_null) (by decide) rfl rfl
theorem dX3_allDegreesEven_25 : decode cX3_allDegreesEven 25 = .ok (.goto (-23), 3) := by decide +kernel
theorem sX3_allDegreesEven_25 : ab_X rom K cX3_allDegreesEven 1 2 25 ls st hp = ab_X rom K cX3_allDegreesEven 1 2 2 ls st hp := ax_goto dX3_allDegreesEven_25 (by decide)
theorem dX3_allDegreesEven_28 : decode cX3_allDegreesEven 28 = .ok (.iconst 1, 1) := by decide +kernel
theorem sX3_allDegreesEven_28 : ab_X rom K cX3_allDegreesEven 1 2 28 ls st hp = ab_X rom K cX3_allDegreesEven 1 2 29 ls (.int 1 :: st) hp := ax_iconst dX3_allDegreesEven_28 (by decide) rfl
theorem dX3_allDegreesEven_29 : decode cX3_allDegreesEven 29 = .ok (.ireturn, 1) := by decide +kernel
theorem sX3_allDegreesEven_29 : ab_X rom K cX3_allDegreesEven 1 2 29 ls [.int x] hp = if x = 0 ∨ x = 1 then some (some (.int x), hp) else none := ay_zret dX3_allDegreesEven_29 rfl
theorem tX3_allLabelled : ab_mT[13]? = some (yX3_allLabelled, cX3_allLabelled, 1, 2, 1) := by decide +kernel
theorem mX3_allLabelled {d : Nat} {a0 : Nat} : ab_M rom (d + 1) 13 [.ref a0] hp = ab_X rom (ab_M rom d) cX3_allLabelled 1 2 0 [.ref a0] [] hp := ab_M_eq tX3_allLabelled (Nat.le_of_ble_eq_true rfl)
theorem dX3_allLabelled_0 : decode cX3_allLabelled 0 = .ok (.aload_n 0, 1) := by decide +kernel
theorem sX3_allLabelled_0 : ab_X rom K cX3_allLabelled 1 2 0 (.ref a :: ls) st hp = ab_X rom K cX3_allLabelled 1 2 1 (.ref a :: ls) (.ref a :: st) hp := ax_aload_n dX3_allLabelled_0 rfl rfl
theorem dX3_allLabelled_1 : decode cX3_allLabelled 1 = .ok (.invokevirtual 71, 3) := by decide +kernel
theorem sX3_allLabelled_1_0 : ab_X rom K cX3_allLabelled 1 2 1 ls [.ref a] hp = if ab_iso hp a 1 = true then (K 25 (.ref a :: []) hp).bind (fun o => ab_X rom K cX3_allLabelled 1 2 4 ls (o.1.toList ++ []) o.2) else none := ay_virtual (as := []) (st := []) dX3_allLabelled_1 kc_1_71 rfl rfl (Nat.le_of_ble_eq_true rfl)
theorem sX3_allLabelled_1_1 : ab_X rom K cX3_allLabelled 1 2 1 ls [.ref a, v0] hp = if ab_iso hp a 1 = true then (K 25 (.ref a :: []) hp).bind (fun o => ab_X rom K cX3_allLabelled 1 2 4 ls (o.1.toList ++ [v0]) o.2) else none := ay_virtual (as := []) (st := [v0]) dX3_allLabelled_1 kc_1_71 rfl rfl (Nat.le_of_ble_eq_true rfl)
theorem sX3_allLabelled_1_2 : ab_X rom K cX3_allLabelled 1 2 1 ls [.ref a, v0, v1] hp = if ab_iso hp a 1 = true then (K 25 (.ref a :: []) hp).bind (fun o => ab_X rom K cX3_allLabelled 1 2 4 ls (o.1.toList ++ [v0, v1]) o.2) else none := ay_virtual (as := []) (st := [v0, v1]) dX3_allLabelled_1 kc_1_71 rfl rfl (Nat.le_of_ble_eq_true rfl)
theorem sX3_allLabelled_1_3 : ab_X rom K cX3_allLabelled 1 2 1 ls [.ref a, v0, v1, v2] hp = if ab_iso hp a 1 = true then (K 25 (.ref a :: []) hp).bind (fun o => ab_X rom K cX3_allLabelled 1 2 4 ls (o.1.toList ++ [v0, v1, v2]) o.2) else none := ay_virtual (as := []) (st := [v0, v1, v2]) dX3_allLabelled_1 kc_1_71 rfl rfl (Nat.le_of_ble_eq_true rfl)
theorem dX3_allLabelled_4 : decode cX3_allLabelled 4 = .ok (.iconst 1, 1) := by decide +kernel
theorem sX3_allLabelled_4 : ab_X rom K cX3_allLabelled 1 2 4 ls st hp = ab_X rom K cX3_allLabelled 1 2 5 ls (.int 1 :: st) hp := ax_iconst dX3_allLabelled_4 (by decide) rfl
theorem dX3_allLabelled_5 : decode cX3_allLabelled 5 = .ok (.aload_n 0, 1) := by decide +kernel
theorem sX3_allLabelled_5 : ab_X rom K cX3_allLabelled 1 2 5 (.ref a :: ls) st hp = ab_X rom K cX3_allLabelled 1 2 6 (.ref a :: ls) (.ref a :: st) hp := ax_aload_n dX3_allLabelled_5 rfl rfl
theorem dX3_allLabelled_6 : decode cX3_allLabelled 6 = .ok (.getfield 9, 3) := by decide +kernel
theorem sX3_allLabelled_6 : ab_X rom K cX3_allLabelled 1 2 6 ls (.ref a :: st) hp = (ab_fld hp a 1 0).bind (fun v => ab_X rom K cX3_allLabelled 1 2 9 ls (v :: st) hp) := ax_getfield dX3_allLabelled_6 kf_1_9 rfl
theorem dX3_allLabelled_9 : decode cX3_allLabelled 9 = .ok (.ishl, 1) := by decide +kernel
theorem sX3_allLabelled_9 : ab_X rom K cX3_allLabelled 1 2 9 ls (.int y :: .int x :: st) hp = ab_X rom K cX3_allLabelled 1 2 10 ls (.int (x <<< (y &&& 31)) :: st) hp := ax_ishl dX3_allLabelled_9 rfl
theorem dX3_allLabelled_10 : decode cX3_allLabelled 10 = .ok (.iconst 1, 1) := by decide +kernel
theorem sX3_allLabelled_10 : ab_X rom K cX3_allLabelled 1 2 10 ls st hp = ab_X rom K cX3_allLabelled 1 2 11 ls (.int 1 :: st) hp := ax_iconst dX3_allLabelled_10 (by decide) rfl
theorem dX3_allLabelled_11 : decode cX3_allLabelled 11 = .ok (.isub, 1) := by decide +kernel
theorem sX3_allLabelled_11 : ab_X rom K cX3_allLabelled 1 2 11 ls (.int y :: .int x :: st) hp = ab_X rom K cX3_allLabelled 1 2 12 ls (.int (x - y) :: st) hp := ax_isub dX3_allLabelled_11 rfl
theorem dX3_allLabelled_12 : decode cX3_allLabelled 12 = .ok (.if_icmp .ne 7, 3) := by decide +kernel
theorem sX3_allLabelled_12 : ab_X rom K cX3_allLabelled 1 2 12 ls (.int y :: .int x :: st) hp = if x = y then ab_X rom K cX3_allLabelled 1 2 15 ls st hp else ab_X rom K cX3_allLabelled 1 2 19 ls st hp := ax_icmp_ne dX3_allLabelled_12 (by decide) rfl
theorem dX3_allLabelled_15 : decode cX3_allLabelled 15 = .ok (.iconst 1, 1) := by decide +kernel
theorem sX3_allLabelled_15 : ab_X rom K cX3_allLabelled 1 2 15 ls st hp = ab_X rom K cX3_allLabelled 1 2 16 ls (.int 1 :: st) hp := ax_iconst dX3_allLabelled_15 (by decide) rfl
theorem dX3_allLabelled_16 : decode cX3_allLabelled 16 = .ok (.goto 4, 3) := by decide +kernel
theorem sX3_allLabelled_16 : ab_X rom K cX3_allLabelled 1 2 16 ls st hp = ab_X rom K cX3_allLabelled 1 2 20 ls st hp := ax_goto dX3_allLabelled_16 (by decide)
theorem dX3_allLabelled_19 : decode cX3_allLabelled 19 = .ok (.iconst 0, 1) := by decide +kernel
theorem sX3_allLabelled_19 : ab_X rom K cX3_allLabelled 1 2 19 ls st hp = ab_X rom K cX3_allLabelled 1 2 20 ls (.int 0 :: st) hp := ax_iconst dX3_allLabelled_19 (by decide) rfl
theorem dX3_allLabelled_20 : decode cX3_allLabelled 20 = .ok (.ireturn, 1) := by decide +kernel
theorem sX3_allLabelled_20 : ab_X rom K cX3_allLabelled 1 2 20 ls [.int x] hp = if x = 0 ∨ x = 1 then some (some (.int x), hp) else none := ay_zret dX3_allLabelled_20 rfl
theorem tX3_besideAny : ab_mT[14]? = some (yX3_besideAny, cX3_besideAny, 4, 1, 1) := by decide +kernel
theorem mX3_besideAny {d : Nat} {a0 : Nat} {x0 : Int32} : ab_M rom (d + 1) 14 [.ref a0, .int x0] hp = ab_X rom (ab_M rom d) cX3_besideAny 1 1 0 [.ref a0, .int x0, .null, .null] [] hp := ab_M_eq tX3_besideAny (Nat.le_of_ble_eq_true rfl)
theorem dX3_besideAny_0 : decode cX3_besideAny 0 = .ok (.iconst 0, 1) := by decide +kernel
theorem sX3_besideAny_0 : ab_X rom K cX3_besideAny 1 1 0 ls st hp = ab_X rom K cX3_besideAny 1 1 1 ls (.int 0 :: st) hp := ax_iconst dX3_besideAny_0 (by decide) rfl
theorem dX3_besideAny_1 : decode cX3_besideAny 1 = .ok (.istore_n 2, 1) := by decide +kernel
theorem sX3_besideAny_1i : ab_X rom K cX3_besideAny 1 1 1 (v0 :: .int y :: v2 :: ls) (.int x :: st) hp = ab_X rom K cX3_besideAny 1 1 2 (v0 :: .int y :: .int x :: ls) st hp := ax_istore_n dX3_besideAny_1 (ax_lt (v := v2) rfl) (ab_nl_c1 (j := 1) (v := .int y) rfl (ab_c1_int _)) rfl rfl
theorem sX3_besideAny_1r : ab_X rom K cX3_besideAny 1 1 1 (v0 :: .ref a2 :: v2 :: ls) (.int x :: st) hp = ab_X rom K cX3_besideAny 1 1 2 (v0 :: .ref a2 :: .int x :: ls) st hp := ax_istore_n dX3_besideAny_1 (ax_lt (v := v2) rfl) (ab_nl_c1 (j := 1) (v := .ref a2) rfl (ab_c1_ref _)) rfl rfl
theorem sX3_besideAny_1n : ab_X rom K cX3_besideAny 1 1 1 (v0 :: .null :: v2 :: ls) (.int x :: st) hp = ab_X rom K cX3_besideAny 1 1 2 (v0 :: .null :: .int x :: ls) st hp := ax_istore_n dX3_besideAny_1 (ax_lt (v := v2) rfl) (ab_nl_c1 (j := 1) (v := .null) rfl ab_c1_null) rfl rfl
theorem dX3_besideAny_2 : decode cX3_besideAny 2 = .ok (.iconst 0, 1) := by decide +kernel
theorem sX3_besideAny_2 : ab_X rom K cX3_besideAny 1 1 2 ls st hp = ab_X rom K cX3_besideAny 1 1 3 ls (.int 0 :: st) hp := ax_iconst dX3_besideAny_2 (by decide) rfl
theorem dX3_besideAny_3 : decode cX3_besideAny 3 = .ok (.istore_n 3, 1) := by decide +kernel
theorem sX3_besideAny_3i : ab_X rom K cX3_besideAny 1 1 3 (v0 :: v1 :: .int y :: v3 :: ls) (.int x :: st) hp = ab_X rom K cX3_besideAny 1 1 4 (v0 :: v1 :: .int y :: .int x :: ls) st hp := ax_istore_n dX3_besideAny_3 (ax_lt (v := v3) rfl) (ab_nl_c1 (j := 2) (v := .int y) rfl (ab_c1_int _)) rfl rfl
theorem sX3_besideAny_3r : ab_X rom K cX3_besideAny 1 1 3 (v0 :: v1 :: .ref a2 :: v3 :: ls) (.int x :: st) hp = ab_X rom K cX3_besideAny 1 1 4 (v0 :: v1 :: .ref a2 :: .int x :: ls) st hp := ax_istore_n dX3_besideAny_3 (ax_lt (v := v3) rfl) (ab_nl_c1 (j := 2) (v := .ref a2) rfl (ab_c1_ref _)) rfl rfl
theorem sX3_besideAny_3n : ab_X rom K cX3_besideAny 1 1 3 (v0 :: v1 :: .null :: v3 :: ls) (.int x :: st) hp = ab_X rom K cX3_besideAny 1 1 4 (v0 :: v1 :: .null :: .int x :: ls) st hp := ax_istore_n dX3_besideAny_3 (ax_lt (v := v3) rfl) (ab_nl_c1 (j := 2) (v := .null) rfl ab_c1_null) rfl rfl
theorem dX3_besideAny_4 : decode cX3_besideAny 4 = .ok (.iload_n 3, 1) := by decide +kernel
theorem sX3_besideAny_4 : ab_X rom K cX3_besideAny 1 1 4 (v0 :: v1 :: v2 :: .int x :: ls) st hp = ab_X rom K cX3_besideAny 1 1 5 (v0 :: v1 :: v2 :: .int x :: ls) (.int x :: st) hp := ax_iload_n dX3_besideAny_4 rfl rfl
theorem dX3_besideAny_5 : decode cX3_besideAny 5 = .ok (.aload_n 0, 1) := by decide +kernel
theorem sX3_besideAny_5 : ab_X rom K cX3_besideAny 1 1 5 (.ref a :: ls) st hp = ab_X rom K cX3_besideAny 1 1 6 (.ref a :: ls) (.ref a :: st) hp := ax_aload_n dX3_besideAny_5 rfl rfl
theorem dX3_besideAny_6 : decode cX3_besideAny 6 = .ok (.getfield 9, 3) := by decide +kernel
theorem sX3_besideAny_6 : ab_X rom K cX3_besideAny 1 1 6 ls (.ref a :: st) hp = (ab_fld hp a 1 0).bind (fun v => ab_X rom K cX3_besideAny 1 1 9 ls (v :: st) hp) := ax_getfield dX3_besideAny_6 kf_1_9 rfl
theorem dX3_besideAny_9 : decode cX3_besideAny 9 = .ok (.if_icmp .ge 26, 3) := by decide +kernel
theorem sX3_besideAny_9 : ab_X rom K cX3_besideAny 1 1 9 ls (.int y :: .int x :: st) hp = if x < y then ab_X rom K cX3_besideAny 1 1 12 ls st hp else ab_X rom K cX3_besideAny 1 1 35 ls st hp := ax_icmp_ge dX3_besideAny_9 (by decide) rfl
theorem dX3_besideAny_12 : decode cX3_besideAny 12 = .ok (.iload_n 1, 1) := by decide +kernel
theorem sX3_besideAny_12 : ab_X rom K cX3_besideAny 1 1 12 (v0 :: .int x :: ls) st hp = ab_X rom K cX3_besideAny 1 1 13 (v0 :: .int x :: ls) (.int x :: st) hp := ax_iload_n dX3_besideAny_12 rfl rfl
theorem dX3_besideAny_13 : decode cX3_besideAny 13 = .ok (.iload_n 3, 1) := by decide +kernel
theorem sX3_besideAny_13 : ab_X rom K cX3_besideAny 1 1 13 (v0 :: v1 :: v2 :: .int x :: ls) st hp = ab_X rom K cX3_besideAny 1 1 14 (v0 :: v1 :: v2 :: .int x :: ls) (.int x :: st) hp := ax_iload_n dX3_besideAny_13 rfl rfl
theorem dX3_besideAny_14 : decode cX3_besideAny 14 = .ok (.ishr, 1) := by decide +kernel
theorem sX3_besideAny_14 : ab_X rom K cX3_besideAny 1 1 14 ls (.int y :: .int x :: st) hp = ab_X rom K cX3_besideAny 1 1 15 ls (.int (x >>> (y &&& 31)) :: st) hp := ax_ishr dX3_besideAny_14 rfl
theorem dX3_besideAny_15 : decode cX3_besideAny 15 = .ok (.iconst 1, 1) := by decide +kernel
theorem sX3_besideAny_15 : ab_X rom K cX3_besideAny 1 1 15 ls st hp = ab_X rom K cX3_besideAny 1 1 16 ls (.int 1 :: st) hp := ax_iconst dX3_besideAny_15 (by decide) rfl
theorem dX3_besideAny_16 : decode cX3_besideAny 16 = .ok (.iand, 1) := by decide +kernel
theorem sX3_besideAny_16 : ab_X rom K cX3_besideAny 1 1 16 ls (.int y :: .int x :: st) hp = ab_X rom K cX3_besideAny 1 1 17 ls (.int (x &&& y) :: st) hp := ax_iand dX3_besideAny_16 rfl
theorem dX3_besideAny_17 : decode cX3_besideAny 17 = .ok (.ifCond .eq 12, 3) := by decide +kernel
theorem sX3_besideAny_17 : ab_X rom K cX3_besideAny 1 1 17 ls (.int x :: st) hp = if x = 0 then ab_X rom K cX3_besideAny 1 1 29 ls st hp else ab_X rom K cX3_besideAny 1 1 20 ls st hp := ax_if_eq dX3_besideAny_17 (by decide) rfl
theorem dX3_besideAny_20 : decode cX3_besideAny 20 = .ok (.iload_n 2, 1) := by decide +kernel
theorem sX3_besideAny_20 : ab_X rom K cX3_besideAny 1 1 20 (v0 :: v1 :: .int x :: ls) st hp = ab_X rom K cX3_besideAny 1 1 21 (v0 :: v1 :: .int x :: ls) (.int x :: st) hp := ax_iload_n dX3_besideAny_20 rfl rfl
theorem dX3_besideAny_21 : decode cX3_besideAny 21 = .ok (.aload_n 0, 1) := by decide +kernel
theorem sX3_besideAny_21 : ab_X rom K cX3_besideAny 1 1 21 (.ref a :: ls) st hp = ab_X rom K cX3_besideAny 1 1 22 (.ref a :: ls) (.ref a :: st) hp := ax_aload_n dX3_besideAny_21 rfl rfl
theorem dX3_besideAny_22 : decode cX3_besideAny 22 = .ok (.getfield 28, 3) := by decide +kernel
theorem sX3_besideAny_22 : ab_X rom K cX3_besideAny 1 1 22 ls (.ref a :: st) hp = (ab_fld hp a 1 5).bind (fun v => ab_X rom K cX3_besideAny 1 1 25 ls (v :: st) hp) := ax_getfield dX3_besideAny_22 kf_1_28 rfl
theorem dX3_besideAny_25 : decode cX3_besideAny 25 = .ok (.iload_n 3, 1) := by decide +kernel
theorem sX3_besideAny_25 : ab_X rom K cX3_besideAny 1 1 25 (v0 :: v1 :: v2 :: .int x :: ls) st hp = ab_X rom K cX3_besideAny 1 1 26 (v0 :: v1 :: v2 :: .int x :: ls) (.int x :: st) hp := ax_iload_n dX3_besideAny_25 rfl rfl
theorem dX3_besideAny_26 : decode cX3_besideAny 26 = .ok (.iaload, 1) := by decide +kernel
theorem sX3_besideAny_26 : ab_X rom K cX3_besideAny 1 1 26 ls (.int x :: .ref a :: st) hp = (ab_ard rom 0 hp a x).bind (fun v => ab_X rom K cX3_besideAny 1 1 27 ls (.int v :: st) hp) := ax_iaload dX3_besideAny_26 rfl
theorem dX3_besideAny_27 : decode cX3_besideAny 27 = .ok (.ior, 1) := by decide +kernel
theorem sX3_besideAny_27 : ab_X rom K cX3_besideAny 1 1 27 ls (.int y :: .int x :: st) hp = ab_X rom K cX3_besideAny 1 1 28 ls (.int (x ||| y) :: st) hp := ax_ior dX3_besideAny_27 rfl
theorem dX3_besideAny_28 : decode cX3_besideAny 28 = .ok (.istore_n 2, 1) := by decide +kernel
theorem sX3_besideAny_28i : ab_X rom K cX3_besideAny 1 1 28 (v0 :: .int y :: v2 :: ls) (.int x :: st) hp = ab_X rom K cX3_besideAny 1 1 29 (v0 :: .int y :: .int x :: ls) st hp := ax_istore_n dX3_besideAny_28 (ax_lt (v := v2) rfl) (ab_nl_c1 (j := 1) (v := .int y) rfl (ab_c1_int _)) rfl rfl
theorem sX3_besideAny_28r : ab_X rom K cX3_besideAny 1 1 28 (v0 :: .ref a2 :: v2 :: ls) (.int x :: st) hp = ab_X rom K cX3_besideAny 1 1 29 (v0 :: .ref a2 :: .int x :: ls) st hp := ax_istore_n dX3_besideAny_28 (ax_lt (v := v2) rfl) (ab_nl_c1 (j := 1) (v := .ref a2) rfl (ab_c1_ref _)) rfl rfl
theorem sX3_besideAny_28n : ab_X rom K cX3_besideAny 1 1 28 (v0 :: .null :: v2 :: ls) (.int x :: st) hp = ab_X rom K cX3_besideAny 1 1 29 (v0 :: .null :: .int x :: ls) st hp := ax_istore_n dX3_besideAny_28 (ax_lt (v := v2) rfl) (ab_nl_c1 (j := 1) (v := .null) rfl ab_c1_null) rfl rfl
theorem dX3_besideAny_29 : decode cX3_besideAny 29 = .ok (.iinc 3 1, 3) := by decide +kernel
theorem sX3_besideAny_29i : ab_X rom K cX3_besideAny 1 1 29 (v0 :: v1 :: .int y :: .int x :: ls) st hp = ab_X rom K cX3_besideAny 1 1 32 (v0 :: v1 :: .int y :: .int (x + 1) :: ls) st hp := ax_iinc dX3_besideAny_29 rfl (ab_nl_c1 (j := 2) (v := .int y) rfl (ab_c1_int _)) (by decide) rfl rfl
theorem sX3_besideAny_29r : ab_X rom K cX3_besideAny 1 1 29 (v0 :: v1 :: .ref a2 :: .int x :: ls) st hp = ab_X rom K cX3_besideAny 1 1 32 (v0 :: v1 :: .ref a2 :: .int (x + 1) :: ls) st hp := ax_iinc dX3_besideAny_29 rfl (ab_nl_c1 (j := 2) (v := .ref a2) rfl (ab_c1_ref _)) (by decide) rfl rfl
theorem sX3_besideAny_29n : ab_X rom K cX3_besideAny 1 1 29 (v0 :: v1 :: .null :: .int x :: ls) st hp = ab_X rom K cX3_besideAny 1 1 32 (v0 :: v1 :: .null :: .int (x + 1) :: ls) st hp := ax_iinc dX3_besideAny_29 rfl (ab_nl_c1 (j := 2) (v := .null) rfl ab_c1_null) (by decide) rfl rfl
theorem dX3_besideAny_32 : decode cX3_besideAny 32 = .ok (.goto (-28), 3) := by decide +kernel
theorem sX3_besideAny_32 : ab_X rom K cX3_besideAny 1 1 32 ls st hp = ab_X rom K cX3_besideAny 1 1 4 ls st hp := ax_goto dX3_besideAny_32 (by decide)
theorem dX3_besideAny_35 : decode cX3_besideAny 35 = .ok (.iload_n 2, 1) := by decide +kernel
theorem sX3_besideAny_35 : ab_X rom K cX3_besideAny 1 1 35 (v0 :: v1 :: .int x :: ls) st hp = ab_X rom K cX3_besideAny 1 1 36 (v0 :: v1 :: .int x :: ls) (.int x :: st) hp := ax_iload_n dX3_besideAny_35 rfl rfl
theorem dX3_besideAny_36 : decode cX3_besideAny 36 = .ok (.ireturn, 1) := by decide +kernel
theorem sX3_besideAny_36 : ab_X rom K cX3_besideAny 1 1 36 ls [.int x] hp = some (some (.int x), hp) := ax_iret dX3_besideAny_36 rfl
theorem tX3_clear : ab_mT[15]? = some (yX3_clear, cX3_clear, 2, 0, 1) := by decide +kernel
theorem mX3_clear {d : Nat} {a0 : Nat} {x0 : Int32} : ab_M rom (d + 1) 15 [.ref a0, .int x0] hp = ab_X rom (ab_M rom d) cX3_clear 1 0 0 [.ref a0, .int x0] [] hp := ab_M_eq tX3_clear (Nat.le_of_ble_eq_true rfl)
theorem dX3_clear_0 : decode cX3_clear 0 = .ok (.aload_n 0, 1) := by decide +kernel
theorem sX3_clear_0 : ab_X rom K cX3_clear 1 0 0 (.ref a :: ls) st hp = ab_X rom K cX3_clear 1 0 1 (.ref a :: ls) (.ref a :: st) hp := ax_aload_n dX3_clear_0 rfl rfl
theorem dX3_clear_1 : decode cX3_clear 1 = .ok (.iload_n 1, 1) := by decide +kernel
theorem sX3_clear_1 : ab_X rom K cX3_clear 1 0 1 (v0 :: .int x :: ls) st hp = ab_X rom K cX3_clear 1 0 2 (v0 :: .int x :: ls) (.int x :: st) hp := ax_iload_n dX3_clear_1 rfl rfl
theorem dX3_clear_2 : decode cX3_clear 2 = .ok (.putfield 9, 3) := by decide +kernel
theorem sX3_clear_2 : ab_X rom K cX3_clear 1 0 2 ls (.int x :: .ref a :: st) hp = (ab_fpt hp a 1 0 (.int x)).bind (fun hp' => ab_X rom K cX3_clear 1 0 5 ls st hp') := ax_putfield dX3_clear_2 kf_1_9 rfl (Or.inl rfl) rfl
theorem dX3_clear_5 : decode cX3_clear 5 = .ok (.aload_n 0, 1) := by decide +kernel
theorem sX3_clear_5 : ab_X rom K cX3_clear 1 0 5 (.ref a :: ls) st hp = ab_X rom K cX3_clear 1 0 6 (.ref a :: ls) (.ref a :: st) hp := ax_aload_n dX3_clear_5 rfl rfl
theorem dX3_clear_6 : decode cX3_clear 6 = .ok (.iconst 0, 1) := by decide +kernel
theorem sX3_clear_6 : ab_X rom K cX3_clear 1 0 6 ls st hp = ab_X rom K cX3_clear 1 0 7 ls (.int 0 :: st) hp := ax_iconst dX3_clear_6 (by decide) rfl
theorem dX3_clear_7 : decode cX3_clear 7 = .ok (.putfield 15, 3) := by decide +kernel
theorem sX3_clear_7 : ab_X rom K cX3_clear 1 0 7 ls (.int x :: .ref a :: st) hp = (ab_fpt hp a 1 1 (.int x)).bind (fun hp' => ab_X rom K cX3_clear 1 0 10 ls st hp') := ax_putfield dX3_clear_7 kf_1_15 rfl (Or.inl rfl) rfl
theorem dX3_clear_10 : decode cX3_clear 10 = .ok (.aload_n 0, 1) := by decide +kernel
theorem sX3_clear_10 : ab_X rom K cX3_clear 1 0 10 (.ref a :: ls) st hp = ab_X rom K cX3_clear 1 0 11 (.ref a :: ls) (.ref a :: st) hp := ax_aload_n dX3_clear_10 rfl rfl
theorem dX3_clear_11 : decode cX3_clear 11 = .ok (.getfield 28, 3) := by decide +kernel
theorem sX3_clear_11 : ab_X rom K cX3_clear 1 0 11 ls (.ref a :: st) hp = (ab_fld hp a 1 5).bind (fun v => ab_X rom K cX3_clear 1 0 14 ls (v :: st) hp) := ax_getfield dX3_clear_11 kf_1_28 rfl
theorem dX3_clear_14 : decode cX3_clear 14 = .ok (.iconst 0, 1) := by decide +kernel
theorem sX3_clear_14 : ab_X rom K cX3_clear 1 0 14 ls st hp = ab_X rom K cX3_clear 1 0 15 ls (.int 0 :: st) hp := ax_iconst dX3_clear_14 (by decide) rfl
theorem dX3_clear_15 : decode cX3_clear 15 = .ok (.invokestatic 31, 3) := by decide +kernel
theorem sX3_clear_15_0 : ab_X rom K cX3_clear 1 0 15 ls [w2, w1] hp = (K 266 [w1, w2] hp).bind (fun o => ab_X rom K cX3_clear 1 0 18 ls (o.1.toList ++ []) o.2) := ax_static (as := [w1, w2]) (st := []) dX3_clear_15 kc_1_31 rfl rfl (Nat.le_of_ble_eq_true rfl)
theorem sX3_clear_15_1 : ab_X rom K cX3_clear 1 0 15 ls [w2, w1, v0] hp = (K 266 [w1, w2] hp).bind (fun o => ab_X rom K cX3_clear 1 0 18 ls (o.1.toList ++ [v0]) o.2) := ax_static (as := [w1, w2]) (st := [v0]) dX3_clear_15 kc_1_31 rfl rfl (Nat.le_of_ble_eq_true rfl)
theorem sX3_clear_15_2 : ab_X rom K cX3_clear 1 0 15 ls [w2, w1, v0, v1] hp = (K 266 [w1, w2] hp).bind (fun o => ab_X rom K cX3_clear 1 0 18 ls (o.1.toList ++ [v0, v1]) o.2) := ax_static (as := [w1, w2]) (st := [v0, v1]) dX3_clear_15 kc_1_31 rfl rfl (Nat.le_of_ble_eq_true rfl)
theorem sX3_clear_15_3 : ab_X rom K cX3_clear 1 0 15 ls [w2, w1, v0, v1, v2] hp = (K 266 [w1, w2] hp).bind (fun o => ab_X rom K cX3_clear 1 0 18 ls (o.1.toList ++ [v0, v1, v2]) o.2) := ax_static (as := [w1, w2]) (st := [v0, v1, v2]) dX3_clear_15 kc_1_31 rfl rfl (Nat.le_of_ble_eq_true rfl)
theorem dX3_clear_18 : decode cX3_clear 18 = .ok (.aload_n 0, 1) := by decide +kernel
theorem sX3_clear_18 : ab_X rom K cX3_clear 1 0 18 (.ref a :: ls) st hp = ab_X rom K cX3_clear 1 0 19 (.ref a :: ls) (.ref a :: st) hp := ax_aload_n dX3_clear_18 rfl rfl
theorem dX3_clear_19 : decode cX3_clear 19 = .ok (.invokevirtual 37, 3) := by decide +kernel
theorem sX3_clear_19_0 : ab_X rom K cX3_clear 1 0 19 ls [.ref a] hp = if ab_iso hp a 1 = true then (K 16 (.ref a :: []) hp).bind (fun o => ab_X rom K cX3_clear 1 0 22 ls (o.1.toList ++ []) o.2) else none := ay_virtual (as := []) (st := []) dX3_clear_19 kc_1_37 rfl rfl (Nat.le_of_ble_eq_true rfl)
theorem sX3_clear_19_1 : ab_X rom K cX3_clear 1 0 19 ls [.ref a, v0] hp = if ab_iso hp a 1 = true then (K 16 (.ref a :: []) hp).bind (fun o => ab_X rom K cX3_clear 1 0 22 ls (o.1.toList ++ [v0]) o.2) else none := ay_virtual (as := []) (st := [v0]) dX3_clear_19 kc_1_37 rfl rfl (Nat.le_of_ble_eq_true rfl)
theorem sX3_clear_19_2 : ab_X rom K cX3_clear 1 0 19 ls [.ref a, v0, v1] hp = if ab_iso hp a 1 = true then (K 16 (.ref a :: []) hp).bind (fun o => ab_X rom K cX3_clear 1 0 22 ls (o.1.toList ++ [v0, v1]) o.2) else none := ay_virtual (as := []) (st := [v0, v1]) dX3_clear_19 kc_1_37 rfl rfl (Nat.le_of_ble_eq_true rfl)
theorem sX3_clear_19_3 : ab_X rom K cX3_clear 1 0 19 ls [.ref a, v0, v1, v2] hp = if ab_iso hp a 1 = true then (K 16 (.ref a :: []) hp).bind (fun o => ab_X rom K cX3_clear 1 0 22 ls (o.1.toList ++ [v0, v1, v2]) o.2) else none := ay_virtual (as := []) (st := [v0, v1, v2]) dX3_clear_19 kc_1_37 rfl rfl (Nat.le_of_ble_eq_true rfl)
theorem dX3_clear_22 : decode cX3_clear 22 = .ok (.return_, 1) := by decide +kernel
theorem sX3_clear_22 : ab_X rom K cX3_clear 1 0 22 ls [] hp = some (none, hp) := ax_vret dX3_clear_22 (by decide)
theorem tX3_clearLabels : ab_mT[16]? = some (yX3_clearLabels, cX3_clearLabels, 1, 0, 1) := by decide +kernel
theorem mX3_clearLabels {d : Nat} {a0 : Nat} : ab_M rom (d + 1) 16 [.ref a0] hp = ab_X rom (ab_M rom d) cX3_clearLabels 1 0 0 [.ref a0] [] hp := ab_M_eq tX3_clearLabels (Nat.le_of_ble_eq_true rfl)
theorem dX3_clearLabels_0 : decode cX3_clearLabels 0 = .ok (.aload_n 0, 1) := by decide +kernel
theorem sX3_clearLabels_0 : ab_X rom K cX3_clearLabels 1 0 0 (.ref a :: ls) st hp = ab_X rom K cX3_clearLabels 1 0 1 (.ref a :: ls) (.ref a :: st) hp := ax_aload_n dX3_clearLabels_0 rfl rfl
theorem dX3_clearLabels_1 : decode cX3_clearLabels 1 = .ok (.getfield 25, 3) := by decide +kernel
theorem sX3_clearLabels_1 : ab_X rom K cX3_clearLabels 1 0 1 ls (.ref a :: st) hp = (ab_fld hp a 1 4).bind (fun v => ab_X rom K cX3_clearLabels 1 0 4 ls (v :: st) hp) := ax_getfield dX3_clearLabels_1 kf_1_25 rfl
theorem dX3_clearLabels_4 : decode cX3_clearLabels 4 = .ok (.iconst (-1), 1) := by decide +kernel
theorem sX3_clearLabels_4 : ab_X rom K cX3_clearLabels 1 0 4 ls st hp = ab_X rom K cX3_clearLabels 1 0 5 ls (.int (-1) :: st) hp := ax_iconst dX3_clearLabels_4 (by decide) rfl
theorem dX3_clearLabels_5 : decode cX3_clearLabels 5 = .ok (.invokestatic 31, 3) := by decide +kernel
theorem sX3_clearLabels_5_0 : ab_X rom K cX3_clearLabels 1 0 5 ls [w2, w1] hp = (K 266 [w1, w2] hp).bind (fun o => ab_X rom K cX3_clearLabels 1 0 8 ls (o.1.toList ++ []) o.2) := ax_static (as := [w1, w2]) (st := []) dX3_clearLabels_5 kc_1_31 rfl rfl (Nat.le_of_ble_eq_true rfl)
theorem sX3_clearLabels_5_1 : ab_X rom K cX3_clearLabels 1 0 5 ls [w2, w1, v0] hp = (K 266 [w1, w2] hp).bind (fun o => ab_X rom K cX3_clearLabels 1 0 8 ls (o.1.toList ++ [v0]) o.2) := ax_static (as := [w1, w2]) (st := [v0]) dX3_clearLabels_5 kc_1_31 rfl rfl (Nat.le_of_ble_eq_true rfl)
theorem sX3_clearLabels_5_2 : ab_X rom K cX3_clearLabels 1 0 5 ls [w2, w1, v0, v1] hp = (K 266 [w1, w2] hp).bind (fun o => ab_X rom K cX3_clearLabels 1 0 8 ls (o.1.toList ++ [v0, v1]) o.2) := ax_static (as := [w1, w2]) (st := [v0, v1]) dX3_clearLabels_5 kc_1_31 rfl rfl (Nat.le_of_ble_eq_true rfl)
theorem sX3_clearLabels_5_3 : ab_X rom K cX3_clearLabels 1 0 5 ls [w2, w1, v0, v1, v2] hp = (K 266 [w1, w2] hp).bind (fun o => ab_X rom K cX3_clearLabels 1 0 8 ls (o.1.toList ++ [v0, v1, v2]) o.2) := ax_static (as := [w1, w2]) (st := [v0, v1, v2]) dX3_clearLabels_5 kc_1_31 rfl rfl (Nat.le_of_ble_eq_true rfl)
theorem dX3_clearLabels_8 : decode cX3_clearLabels 8 = .ok (.return_, 1) := by decide +kernel
theorem sX3_clearLabels_8 : ab_X rom K cX3_clearLabels 1 0 8 ls [] hp = some (none, hp) := ax_vret dX3_clearLabels_8 (by decide)
theorem tX3_copyOf : ab_mT[17]? = some (yX3_copyOf, cX3_copyOf, 2, 0, 1) := by decide +kernel
theorem mX3_copyOf {d : Nat} {a0 : Nat} {r0 : Nat} : ab_M rom (d + 1) 17 [.ref a0, .ref r0] hp = ab_X rom (ab_M rom d) cX3_copyOf 1 0 0 [.ref a0, .ref r0] [] hp := ab_M_eq tX3_copyOf (Nat.le_of_ble_eq_true rfl)
theorem dX3_copyOf_0 : decode cX3_copyOf 0 = .ok (.aload_n 0, 1) := by decide +kernel
theorem sX3_copyOf_0 : ab_X rom K cX3_copyOf 1 0 0 (.ref a :: ls) st hp = ab_X rom K cX3_copyOf 1 0 1 (.ref a :: ls) (.ref a :: st) hp := ax_aload_n dX3_copyOf_0 rfl rfl
theorem dX3_copyOf_1 : decode cX3_copyOf 1 = .ok (.aload_n 1, 1) := by decide +kernel
theorem sX3_copyOf_1 : ab_X rom K cX3_copyOf 1 0 1 (v0 :: .ref a :: ls) st hp = ab_X rom K cX3_copyOf 1 0 2 (v0 :: .ref a :: ls) (.ref a :: st) hp := ax_aload_n dX3_copyOf_1 rfl rfl
theorem dX3_copyOf_2 : decode cX3_copyOf 2 = .ok (.getfield 9, 3) := by decide +kernel
theorem sX3_copyOf_2 : ab_X rom K cX3_copyOf 1 0 2 ls (.ref a :: st) hp = (ab_fld hp a 1 0).bind (fun v => ab_X rom K cX3_copyOf 1 0 5 ls (v :: st) hp) := ax_getfield dX3_copyOf_2 kf_1_9 rfl
theorem dX3_copyOf_5 : decode cX3_copyOf 5 = .ok (.putfield 9, 3) := by decide +kernel
theorem sX3_copyOf_5 : ab_X rom K cX3_copyOf 1 0 5 ls (.int x :: .ref a :: st) hp = (ab_fpt hp a 1 0 (.int x)).bind (fun hp' => ab_X rom K cX3_copyOf 1 0 8 ls st hp') := ax_putfield dX3_copyOf_5 kf_1_9 rfl (Or.inl rfl) rfl
theorem dX3_copyOf_8 : decode cX3_copyOf 8 = .ok (.aload_n 0, 1) := by decide +kernel
theorem sX3_copyOf_8 : ab_X rom K cX3_copyOf 1 0 8 (.ref a :: ls) st hp = ab_X rom K cX3_copyOf 1 0 9 (.ref a :: ls) (.ref a :: st) hp := ax_aload_n dX3_copyOf_8 rfl rfl
theorem dX3_copyOf_9 : decode cX3_copyOf 9 = .ok (.aload_n 1, 1) := by decide +kernel
theorem sX3_copyOf_9 : ab_X rom K cX3_copyOf 1 0 9 (v0 :: .ref a :: ls) st hp = ab_X rom K cX3_copyOf 1 0 10 (v0 :: .ref a :: ls) (.ref a :: st) hp := ax_aload_n dX3_copyOf_9 rfl rfl
theorem dX3_copyOf_10 : decode cX3_copyOf 10 = .ok (.getfield 15, 3) := by decide +kernel
theorem sX3_copyOf_10 : ab_X rom K cX3_copyOf 1 0 10 ls (.ref a :: st) hp = (ab_fld hp a 1 1).bind (fun v => ab_X rom K cX3_copyOf 1 0 13 ls (v :: st) hp) := ax_getfield dX3_copyOf_10 kf_1_15 rfl
theorem dX3_copyOf_13 : decode cX3_copyOf 13 = .ok (.putfield 15, 3) := by decide +kernel
theorem sX3_copyOf_13 : ab_X rom K cX3_copyOf 1 0 13 ls (.int x :: .ref a :: st) hp = (ab_fpt hp a 1 1 (.int x)).bind (fun hp' => ab_X rom K cX3_copyOf 1 0 16 ls st hp') := ax_putfield dX3_copyOf_13 kf_1_15 rfl (Or.inl rfl) rfl
theorem dX3_copyOf_16 : decode cX3_copyOf 16 = .ok (.aload_n 1, 1) := by decide +kernel
theorem sX3_copyOf_16 : ab_X rom K cX3_copyOf 1 0 16 (v0 :: .ref a :: ls) st hp = ab_X rom K cX3_copyOf 1 0 17 (v0 :: .ref a :: ls) (.ref a :: st) hp := ax_aload_n dX3_copyOf_16 rfl rfl
theorem dX3_copyOf_17 : decode cX3_copyOf 17 = .ok (.getfield 18, 3) := by decide +kernel
theorem sX3_copyOf_17 : ab_X rom K cX3_copyOf 1 0 17 ls (.ref a :: st) hp = (ab_fld hp a 1 2).bind (fun v => ab_X rom K cX3_copyOf 1 0 20 ls (v :: st) hp) := ax_getfield dX3_copyOf_17 kf_1_18 rfl
theorem dX3_copyOf_20 : decode cX3_copyOf 20 = .ok (.iconst 0, 1) := by decide +kernel
theorem sX3_copyOf_20 : ab_X rom K cX3_copyOf 1 0 20 ls st hp = ab_X rom K cX3_copyOf 1 0 21 ls (.int 0 :: st) hp := ax_iconst dX3_copyOf_20 (by decide) rfl
theorem dX3_copyOf_21 : decode cX3_copyOf 21 = .ok (.aload_n 0, 1) := by decide +kernel
theorem sX3_copyOf_21 : ab_X rom K cX3_copyOf 1 0 21 (.ref a :: ls) st hp = ab_X rom K cX3_copyOf 1 0 22 (.ref a :: ls) (.ref a :: st) hp := ax_aload_n dX3_copyOf_21 rfl rfl
theorem dX3_copyOf_22 : decode cX3_copyOf 22 = .ok (.getfield 18, 3) := by decide +kernel
theorem sX3_copyOf_22 : ab_X rom K cX3_copyOf 1 0 22 ls (.ref a :: st) hp = (ab_fld hp a 1 2).bind (fun v => ab_X rom K cX3_copyOf 1 0 25 ls (v :: st) hp) := ax_getfield dX3_copyOf_22 kf_1_18 rfl
theorem dX3_copyOf_25 : decode cX3_copyOf 25 = .ok (.iconst 0, 1) := by decide +kernel
theorem sX3_copyOf_25 : ab_X rom K cX3_copyOf 1 0 25 ls st hp = ab_X rom K cX3_copyOf 1 0 26 ls (.int 0 :: st) hp := ax_iconst dX3_copyOf_25 (by decide) rfl
theorem dX3_copyOf_26 : decode cX3_copyOf 26 = .ok (.bipush 10, 2) := by decide +kernel
theorem sX3_copyOf_26 : ab_X rom K cX3_copyOf 1 0 26 ls st hp = ab_X rom K cX3_copyOf 1 0 28 ls (.int 10 :: st) hp := ax_bipush dX3_copyOf_26 (by decide) rfl
theorem dX3_copyOf_28 : decode cX3_copyOf 28 = .ok (.invokestatic 40, 3) := by decide +kernel
theorem sX3_copyOf_28_0 : ab_X rom K cX3_copyOf 1 0 28 ls [.int z, .int dp, .ref a2, .int sp, .ref a] hp = (ab_cp hp a a2 sp dp z).bind (fun hp' => ab_X rom K cX3_copyOf 1 0 31 ls [] hp') := ax_copy dX3_copyOf_28 kc_1_40 rfl (Nat.le_of_ble_eq_true rfl)
theorem dX3_copyOf_31 : decode cX3_copyOf 31 = .ok (.aload_n 1, 1) := by decide +kernel
theorem sX3_copyOf_31 : ab_X rom K cX3_copyOf 1 0 31 (v0 :: .ref a :: ls) st hp = ab_X rom K cX3_copyOf 1 0 32 (v0 :: .ref a :: ls) (.ref a :: st) hp := ax_aload_n dX3_copyOf_31 rfl rfl
theorem dX3_copyOf_32 : decode cX3_copyOf 32 = .ok (.getfield 22, 3) := by decide +kernel
theorem sX3_copyOf_32 : ab_X rom K cX3_copyOf 1 0 32 ls (.ref a :: st) hp = (ab_fld hp a 1 3).bind (fun v => ab_X rom K cX3_copyOf 1 0 35 ls (v :: st) hp) := ax_getfield dX3_copyOf_32 kf_1_22 rfl
theorem dX3_copyOf_35 : decode cX3_copyOf 35 = .ok (.iconst 0, 1) := by decide +kernel
theorem sX3_copyOf_35 : ab_X rom K cX3_copyOf 1 0 35 ls st hp = ab_X rom K cX3_copyOf 1 0 36 ls (.int 0 :: st) hp := ax_iconst dX3_copyOf_35 (by decide) rfl
theorem dX3_copyOf_36 : decode cX3_copyOf 36 = .ok (.aload_n 0, 1) := by decide +kernel
theorem sX3_copyOf_36 : ab_X rom K cX3_copyOf 1 0 36 (.ref a :: ls) st hp = ab_X rom K cX3_copyOf 1 0 37 (.ref a :: ls) (.ref a :: st) hp := ax_aload_n dX3_copyOf_36 rfl rfl
theorem dX3_copyOf_37 : decode cX3_copyOf 37 = .ok (.getfield 22, 3) := by decide +kernel
theorem sX3_copyOf_37 : ab_X rom K cX3_copyOf 1 0 37 ls (.ref a :: st) hp = (ab_fld hp a 1 3).bind (fun v => ab_X rom K cX3_copyOf 1 0 40 ls (v :: st) hp) := ax_getfield dX3_copyOf_37 kf_1_22 rfl
theorem dX3_copyOf_40 : decode cX3_copyOf 40 = .ok (.iconst 0, 1) := by decide +kernel
theorem sX3_copyOf_40 : ab_X rom K cX3_copyOf 1 0 40 ls st hp = ab_X rom K cX3_copyOf 1 0 41 ls (.int 0 :: st) hp := ax_iconst dX3_copyOf_40 (by decide) rfl
theorem dX3_copyOf_41 : decode cX3_copyOf 41 = .ok (.bipush 10, 2) := by decide +kernel
theorem sX3_copyOf_41 : ab_X rom K cX3_copyOf 1 0 41 ls st hp = ab_X rom K cX3_copyOf 1 0 43 ls (.int 10 :: st) hp := ax_bipush dX3_copyOf_41 (by decide) rfl
theorem dX3_copyOf_43 : decode cX3_copyOf 43 = .ok (.invokestatic 40, 3) := by decide +kernel
theorem sX3_copyOf_43_0 : ab_X rom K cX3_copyOf 1 0 43 ls [.int z, .int dp, .ref a2, .int sp, .ref a] hp = (ab_cp hp a a2 sp dp z).bind (fun hp' => ab_X rom K cX3_copyOf 1 0 46 ls [] hp') := ax_copy dX3_copyOf_43 kc_1_40 rfl (Nat.le_of_ble_eq_true rfl)
theorem dX3_copyOf_46 : decode cX3_copyOf 46 = .ok (.aload_n 1, 1) := by decide +kernel
theorem sX3_copyOf_46 : ab_X rom K cX3_copyOf 1 0 46 (v0 :: .ref a :: ls) st hp = ab_X rom K cX3_copyOf 1 0 47 (v0 :: .ref a :: ls) (.ref a :: st) hp := ax_aload_n dX3_copyOf_46 rfl rfl
theorem dX3_copyOf_47 : decode cX3_copyOf 47 = .ok (.getfield 25, 3) := by decide +kernel
theorem sX3_copyOf_47 : ab_X rom K cX3_copyOf 1 0 47 ls (.ref a :: st) hp = (ab_fld hp a 1 4).bind (fun v => ab_X rom K cX3_copyOf 1 0 50 ls (v :: st) hp) := ax_getfield dX3_copyOf_47 kf_1_25 rfl
theorem dX3_copyOf_50 : decode cX3_copyOf 50 = .ok (.iconst 0, 1) := by decide +kernel
theorem sX3_copyOf_50 : ab_X rom K cX3_copyOf 1 0 50 ls st hp = ab_X rom K cX3_copyOf 1 0 51 ls (.int 0 :: st) hp := ax_iconst dX3_copyOf_50 (by decide) rfl
theorem dX3_copyOf_51 : decode cX3_copyOf 51 = .ok (.aload_n 0, 1) := by decide +kernel
theorem sX3_copyOf_51 : ab_X rom K cX3_copyOf 1 0 51 (.ref a :: ls) st hp = ab_X rom K cX3_copyOf 1 0 52 (.ref a :: ls) (.ref a :: st) hp := ax_aload_n dX3_copyOf_51 rfl rfl
theorem dX3_copyOf_52 : decode cX3_copyOf 52 = .ok (.getfield 25, 3) := by decide +kernel
theorem sX3_copyOf_52 : ab_X rom K cX3_copyOf 1 0 52 ls (.ref a :: st) hp = (ab_fld hp a 1 4).bind (fun v => ab_X rom K cX3_copyOf 1 0 55 ls (v :: st) hp) := ax_getfield dX3_copyOf_52 kf_1_25 rfl
theorem dX3_copyOf_55 : decode cX3_copyOf 55 = .ok (.iconst 0, 1) := by decide +kernel
theorem sX3_copyOf_55 : ab_X rom K cX3_copyOf 1 0 55 ls st hp = ab_X rom K cX3_copyOf 1 0 56 ls (.int 0 :: st) hp := ax_iconst dX3_copyOf_55 (by decide) rfl
theorem dX3_copyOf_56 : decode cX3_copyOf 56 = .ok (.bipush 7, 2) := by decide +kernel
theorem sX3_copyOf_56 : ab_X rom K cX3_copyOf 1 0 56 ls st hp = ab_X rom K cX3_copyOf 1 0 58 ls (.int 7 :: st) hp := ax_bipush dX3_copyOf_56 (by decide) rfl
theorem dX3_copyOf_58 : decode cX3_copyOf 58 = .ok (.invokestatic 40, 3) := by decide +kernel
theorem sX3_copyOf_58_0 : ab_X rom K cX3_copyOf 1 0 58 ls [.int z, .int dp, .ref a2, .int sp, .ref a] hp = (ab_cp hp a a2 sp dp z).bind (fun hp' => ab_X rom K cX3_copyOf 1 0 61 ls [] hp') := ax_copy dX3_copyOf_58 kc_1_40 rfl (Nat.le_of_ble_eq_true rfl)
theorem dX3_copyOf_61 : decode cX3_copyOf 61 = .ok (.aload_n 1, 1) := by decide +kernel
theorem sX3_copyOf_61 : ab_X rom K cX3_copyOf 1 0 61 (v0 :: .ref a :: ls) st hp = ab_X rom K cX3_copyOf 1 0 62 (v0 :: .ref a :: ls) (.ref a :: st) hp := ax_aload_n dX3_copyOf_61 rfl rfl
theorem dX3_copyOf_62 : decode cX3_copyOf 62 = .ok (.getfield 28, 3) := by decide +kernel
theorem sX3_copyOf_62 : ab_X rom K cX3_copyOf 1 0 62 ls (.ref a :: st) hp = (ab_fld hp a 1 5).bind (fun v => ab_X rom K cX3_copyOf 1 0 65 ls (v :: st) hp) := ax_getfield dX3_copyOf_62 kf_1_28 rfl
theorem dX3_copyOf_65 : decode cX3_copyOf 65 = .ok (.iconst 0, 1) := by decide +kernel
theorem sX3_copyOf_65 : ab_X rom K cX3_copyOf 1 0 65 ls st hp = ab_X rom K cX3_copyOf 1 0 66 ls (.int 0 :: st) hp := ax_iconst dX3_copyOf_65 (by decide) rfl
theorem dX3_copyOf_66 : decode cX3_copyOf 66 = .ok (.aload_n 0, 1) := by decide +kernel
theorem sX3_copyOf_66 : ab_X rom K cX3_copyOf 1 0 66 (.ref a :: ls) st hp = ab_X rom K cX3_copyOf 1 0 67 (.ref a :: ls) (.ref a :: st) hp := ax_aload_n dX3_copyOf_66 rfl rfl
theorem dX3_copyOf_67 : decode cX3_copyOf 67 = .ok (.getfield 28, 3) := by decide +kernel
theorem sX3_copyOf_67 : ab_X rom K cX3_copyOf 1 0 67 ls (.ref a :: st) hp = (ab_fld hp a 1 5).bind (fun v => ab_X rom K cX3_copyOf 1 0 70 ls (v :: st) hp) := ax_getfield dX3_copyOf_67 kf_1_28 rfl
theorem dX3_copyOf_70 : decode cX3_copyOf 70 = .ok (.iconst 0, 1) := by decide +kernel
theorem sX3_copyOf_70 : ab_X rom K cX3_copyOf 1 0 70 ls st hp = ab_X rom K cX3_copyOf 1 0 71 ls (.int 0 :: st) hp := ax_iconst dX3_copyOf_70 (by decide) rfl
theorem dX3_copyOf_71 : decode cX3_copyOf 71 = .ok (.bipush 7, 2) := by decide +kernel
theorem sX3_copyOf_71 : ab_X rom K cX3_copyOf 1 0 71 ls st hp = ab_X rom K cX3_copyOf 1 0 73 ls (.int 7 :: st) hp := ax_bipush dX3_copyOf_71 (by decide) rfl
theorem dX3_copyOf_73 : decode cX3_copyOf 73 = .ok (.invokestatic 40, 3) := by decide +kernel
theorem sX3_copyOf_73_0 : ab_X rom K cX3_copyOf 1 0 73 ls [.int z, .int dp, .ref a2, .int sp, .ref a] hp = (ab_cp hp a a2 sp dp z).bind (fun hp' => ab_X rom K cX3_copyOf 1 0 76 ls [] hp') := ax_copy dX3_copyOf_73 kc_1_40 rfl (Nat.le_of_ble_eq_true rfl)
theorem dX3_copyOf_76 : decode cX3_copyOf 76 = .ok (.return_, 1) := by decide +kernel
theorem sX3_copyOf_76 : ab_X rom K cX3_copyOf 1 0 76 ls [] hp = some (none, hp) := ax_vret dX3_copyOf_76 (by decide)
theorem tX3_differenceOf : ab_mT[18]? = some (yX3_differenceOf, cX3_differenceOf, 2, 1, 1) := by decide +kernel
theorem mX3_differenceOf {d : Nat} {a0 : Nat} {x0 : Int32} : ab_M rom (d + 1) 18 [.ref a0, .int x0] hp = ab_X rom (ab_M rom d) cX3_differenceOf 1 1 0 [.ref a0, .int x0] [] hp := ab_M_eq tX3_differenceOf (Nat.le_of_ble_eq_true rfl)
theorem dX3_differenceOf_0 : decode cX3_differenceOf 0 = .ok (.aload_n 0, 1) := by decide +kernel
theorem sX3_differenceOf_0 : ab_X rom K cX3_differenceOf 1 1 0 (.ref a :: ls) st hp = ab_X rom K cX3_differenceOf 1 1 1 (.ref a :: ls) (.ref a :: st) hp := ax_aload_n dX3_differenceOf_0 rfl rfl
theorem dX3_differenceOf_1 : decode cX3_differenceOf 1 = .ok (.getfield 25, 3) := by decide +kernel
theorem sX3_differenceOf_1 : ab_X rom K cX3_differenceOf 1 1 1 ls (.ref a :: st) hp = (ab_fld hp a 1 4).bind (fun v => ab_X rom K cX3_differenceOf 1 1 4 ls (v :: st) hp) := ax_getfield dX3_differenceOf_1 kf_1_25 rfl
theorem dX3_differenceOf_4 : decode cX3_differenceOf 4 = .ok (.aload_n 0, 1) := by decide +kernel
theorem sX3_differenceOf_4 : ab_X rom K cX3_differenceOf 1 1 4 (.ref a :: ls) st hp = ab_X rom K cX3_differenceOf 1 1 5 (.ref a :: ls) (.ref a :: st) hp := ax_aload_n dX3_differenceOf_4 rfl rfl
theorem dX3_differenceOf_5 : decode cX3_differenceOf 5 = .ok (.getfield 18, 3) := by decide +kernel
theorem sX3_differenceOf_5 : ab_X rom K cX3_differenceOf 1 1 5 ls (.ref a :: st) hp = (ab_fld hp a 1 2).bind (fun v => ab_X rom K cX3_differenceOf 1 1 8 ls (v :: st) hp) := ax_getfield dX3_differenceOf_5 kf_1_18 rfl
theorem dX3_differenceOf_8 : decode cX3_differenceOf 8 = .ok (.iload_n 1, 1) := by decide +kernel
theorem sX3_differenceOf_8 : ab_X rom K cX3_differenceOf 1 1 8 (v0 :: .int x :: ls) st hp = ab_X rom K cX3_differenceOf 1 1 9 (v0 :: .int x :: ls) (.int x :: st) hp := ax_iload_n dX3_differenceOf_8 rfl rfl
theorem dX3_differenceOf_9 : decode cX3_differenceOf 9 = .ok (.iaload, 1) := by decide +kernel
theorem sX3_differenceOf_9 : ab_X rom K cX3_differenceOf 1 1 9 ls (.int x :: .ref a :: st) hp = (ab_ard rom 0 hp a x).bind (fun v => ab_X rom K cX3_differenceOf 1 1 10 ls (.int v :: st) hp) := ax_iaload dX3_differenceOf_9 rfl
theorem dX3_differenceOf_10 : decode cX3_differenceOf 10 = .ok (.iaload, 1) := by decide +kernel
theorem sX3_differenceOf_10 : ab_X rom K cX3_differenceOf 1 1 10 ls (.int x :: .ref a :: st) hp = (ab_ard rom 0 hp a x).bind (fun v => ab_X rom K cX3_differenceOf 1 1 11 ls (.int v :: st) hp) := ax_iaload dX3_differenceOf_10 rfl
theorem dX3_differenceOf_11 : decode cX3_differenceOf 11 = .ok (.aload_n 0, 1) := by decide +kernel
theorem sX3_differenceOf_11 : ab_X rom K cX3_differenceOf 1 1 11 (.ref a :: ls) st hp = ab_X rom K cX3_differenceOf 1 1 12 (.ref a :: ls) (.ref a :: st) hp := ax_aload_n dX3_differenceOf_11 rfl rfl
theorem dX3_differenceOf_12 : decode cX3_differenceOf 12 = .ok (.getfield 25, 3) := by decide +kernel
theorem sX3_differenceOf_12 : ab_X rom K cX3_differenceOf 1 1 12 ls (.ref a :: st) hp = (ab_fld hp a 1 4).bind (fun v => ab_X rom K cX3_differenceOf 1 1 15 ls (v :: st) hp) := ax_getfield dX3_differenceOf_12 kf_1_25 rfl
theorem dX3_differenceOf_15 : decode cX3_differenceOf 15 = .ok (.aload_n 0, 1) := by decide +kernel
theorem sX3_differenceOf_15 : ab_X rom K cX3_differenceOf 1 1 15 (.ref a :: ls) st hp = ab_X rom K cX3_differenceOf 1 1 16 (.ref a :: ls) (.ref a :: st) hp := ax_aload_n dX3_differenceOf_15 rfl rfl
theorem dX3_differenceOf_16 : decode cX3_differenceOf 16 = .ok (.getfield 22, 3) := by decide +kernel
theorem sX3_differenceOf_16 : ab_X rom K cX3_differenceOf 1 1 16 ls (.ref a :: st) hp = (ab_fld hp a 1 3).bind (fun v => ab_X rom K cX3_differenceOf 1 1 19 ls (v :: st) hp) := ax_getfield dX3_differenceOf_16 kf_1_22 rfl
theorem dX3_differenceOf_19 : decode cX3_differenceOf 19 = .ok (.iload_n 1, 1) := by decide +kernel
theorem sX3_differenceOf_19 : ab_X rom K cX3_differenceOf 1 1 19 (v0 :: .int x :: ls) st hp = ab_X rom K cX3_differenceOf 1 1 20 (v0 :: .int x :: ls) (.int x :: st) hp := ax_iload_n dX3_differenceOf_19 rfl rfl
theorem dX3_differenceOf_20 : decode cX3_differenceOf 20 = .ok (.iaload, 1) := by decide +kernel
theorem sX3_differenceOf_20 : ab_X rom K cX3_differenceOf 1 1 20 ls (.int x :: .ref a :: st) hp = (ab_ard rom 0 hp a x).bind (fun v => ab_X rom K cX3_differenceOf 1 1 21 ls (.int v :: st) hp) := ax_iaload dX3_differenceOf_20 rfl
theorem dX3_differenceOf_21 : decode cX3_differenceOf 21 = .ok (.iaload, 1) := by decide +kernel
theorem sX3_differenceOf_21 : ab_X rom K cX3_differenceOf 1 1 21 ls (.int x :: .ref a :: st) hp = (ab_ard rom 0 hp a x).bind (fun v => ab_X rom K cX3_differenceOf 1 1 22 ls (.int v :: st) hp) := ax_iaload dX3_differenceOf_21 rfl
theorem dX3_differenceOf_22 : decode cX3_differenceOf 22 = .ok (.isub, 1) := by decide +kernel
theorem sX3_differenceOf_22 : ab_X rom K cX3_differenceOf 1 1 22 ls (.int y :: .int x :: st) hp = ab_X rom K cX3_differenceOf 1 1 23 ls (.int (x - y) :: st) hp := ax_isub dX3_differenceOf_22 rfl
theorem dX3_differenceOf_23 : decode cX3_differenceOf 23 = .ok (.invokestatic 74, 3) := by decide +kernel
theorem sX3_differenceOf_23_0 : ab_X rom K cX3_differenceOf 1 1 23 ls [.int x] hp = ab_X rom K cX3_differenceOf 1 1 26 ls [.int (ab_abs x)] hp := ax_abs dX3_differenceOf_23 kc_1_74 rfl (Nat.le_of_ble_eq_true rfl)
theorem sX3_differenceOf_23_1 : ab_X rom K cX3_differenceOf 1 1 23 ls [.int x, v0] hp = ab_X rom K cX3_differenceOf 1 1 26 ls [.int (ab_abs x), v0] hp := ax_abs dX3_differenceOf_23 kc_1_74 rfl (Nat.le_of_ble_eq_true rfl)
theorem sX3_differenceOf_23_2 : ab_X rom K cX3_differenceOf 1 1 23 ls [.int x, v0, v1] hp = ab_X rom K cX3_differenceOf 1 1 26 ls [.int (ab_abs x), v0, v1] hp := ax_abs dX3_differenceOf_23 kc_1_74 rfl (Nat.le_of_ble_eq_true rfl)
theorem sX3_differenceOf_23_3 : ab_X rom K cX3_differenceOf 1 1 23 ls [.int x, v0, v1, v2] hp = ab_X rom K cX3_differenceOf 1 1 26 ls [.int (ab_abs x), v0, v1, v2] hp := ax_abs dX3_differenceOf_23 kc_1_74 rfl (Nat.le_of_ble_eq_true rfl)
theorem dX3_differenceOf_26 : decode cX3_differenceOf 26 = .ok (.ireturn, 1) := by decide +kernel
theorem sX3_differenceOf_26 : ab_X rom K cX3_differenceOf 1 1 26 ls [.int x] hp = some (some (.int x), hp) := ax_iret dX3_differenceOf_26 rfl
theorem tX3_fewestLines : ab_mT[19]? = some (yX3_fewestLines, cX3_fewestLines, 3, 1, 1) := by decide +kernel
theorem mX3_fewestLines {d : Nat} {a0 : Nat} : ab_M rom (d + 1) 19 [.ref a0] hp = ab_X rom (ab_M rom d) cX3_fewestLines 1 1 0 [.ref a0, .null, .null] [] hp := ab_M_eq tX3_fewestLines (Nat.le_of_ble_eq_true rfl)
theorem dX3_fewestLines_0 : decode cX3_fewestLines 0 = .ok (.bipush 10, 2) := by decide +kernel
theorem sX3_fewestLines_0 : ab_X rom K cX3_fewestLines 1 1 0 ls st hp = ab_X rom K cX3_fewestLines 1 1 2 ls (.int 10 :: st) hp := ax_bipush dX3_fewestLines_0 (by decide) rfl
theorem dX3_fewestLines_2 : decode cX3_fewestLines 2 = .ok (.istore_n 1, 1) := by decide +kernel
theorem sX3_fewestLines_2i : ab_X rom K cX3_fewestLines 1 1 2 (.int y :: v1 :: ls) (.int x :: st) hp = ab_X rom K cX3_fewestLines 1 1 3 (.int y :: .int x :: ls) st hp := ax_istore_n dX3_fewestLines_2 (ax_lt (v := v1) rfl) (ab_nl_c1 (j := 0) (v := .int y) rfl (ab_c1_int _)) rfl rfl
theorem sX3_fewestLines_2r : ab_X rom K cX3_fewestLines 1 1 2 (.ref a2 :: v1 :: ls) (.int x :: st) hp = ab_X rom K cX3_fewestLines 1 1 3 (.ref a2 :: .int x :: ls) st hp := ax_istore_n dX3_fewestLines_2 (ax_lt (v := v1) rfl) (ab_nl_c1 (j := 0) (v := .ref a2) rfl (ab_c1_ref _)) rfl rfl
theorem sX3_fewestLines_2n : ab_X rom K cX3_fewestLines 1 1 2 (.null :: v1 :: ls) (.int x :: st) hp = ab_X rom K cX3_fewestLines 1 1 3 (.null :: .int x :: ls) st hp := ax_istore_n dX3_fewestLines_2 (ax_lt (v := v1) rfl) (ab_nl_c1 (j := 0) (v := .null) rfl ab_c1_null) rfl rfl
theorem dX3_fewestLines_3 : decode cX3_fewestLines 3 = .ok (.iconst 0, 1) := by decide +kernel
theorem sX3_fewestLines_3 : ab_X rom K cX3_fewestLines 1 1 3 ls st hp = ab_X rom K cX3_fewestLines 1 1 4 ls (.int 0 :: st) hp := ax_iconst dX3_fewestLines_3 (by decide) rfl
theorem dX3_fewestLines_4 : decode cX3_fewestLines 4 = .ok (.istore_n 2, 1) := by decide +kernel
theorem sX3_fewestLines_4i : ab_X rom K cX3_fewestLines 1 1 4 (v0 :: .int y :: v2 :: ls) (.int x :: st) hp = ab_X rom K cX3_fewestLines 1 1 5 (v0 :: .int y :: .int x :: ls) st hp := ax_istore_n dX3_fewestLines_4 (ax_lt (v := v2) rfl) (ab_nl_c1 (j := 1) (v := .int y) rfl (ab_c1_int _)) rfl rfl
theorem sX3_fewestLines_4r : ab_X rom K cX3_fewestLines 1 1 4 (v0 :: .ref a2 :: v2 :: ls) (.int x :: st) hp = ab_X rom K cX3_fewestLines 1 1 5 (v0 :: .ref a2 :: .int x :: ls) st hp := ax_istore_n dX3_fewestLines_4 (ax_lt (v := v2) rfl) (ab_nl_c1 (j := 1) (v := .ref a2) rfl (ab_c1_ref _)) rfl rfl
theorem sX3_fewestLines_4n : ab_X rom K cX3_fewestLines 1 1 4 (v0 :: .null :: v2 :: ls) (.int x :: st) hp = ab_X rom K cX3_fewestLines 1 1 5 (v0 :: .null :: .int x :: ls) st hp := ax_istore_n dX3_fewestLines_4 (ax_lt (v := v2) rfl) (ab_nl_c1 (j := 1) (v := .null) rfl ab_c1_null) rfl rfl
theorem dX3_fewestLines_5 : decode cX3_fewestLines 5 = .ok (.iload_n 2, 1) := by decide +kernel
theorem sX3_fewestLines_5 : ab_X rom K cX3_fewestLines 1 1 5 (v0 :: v1 :: .int x :: ls) st hp = ab_X rom K cX3_fewestLines 1 1 6 (v0 :: v1 :: .int x :: ls) (.int x :: st) hp := ax_iload_n dX3_fewestLines_5 rfl rfl
theorem dX3_fewestLines_6 : decode cX3_fewestLines 6 = .ok (.aload_n 0, 1) := by decide +kernel
theorem sX3_fewestLines_6 : ab_X rom K cX3_fewestLines 1 1 6 (.ref a :: ls) st hp = ab_X rom K cX3_fewestLines 1 1 7 (.ref a :: ls) (.ref a :: st) hp := ax_aload_n dX3_fewestLines_6 rfl rfl
theorem dX3_fewestLines_7 : decode cX3_fewestLines 7 = .ok (.getfield 9, 3) := by decide +kernel
theorem sX3_fewestLines_7 : ab_X rom K cX3_fewestLines 1 1 7 ls (.ref a :: st) hp = (ab_fld hp a 1 0).bind (fun v => ab_X rom K cX3_fewestLines 1 1 10 ls (v :: st) hp) := ax_getfield dX3_fewestLines_7 kf_1_9 rfl
theorem dX3_fewestLines_10 : decode cX3_fewestLines 10 = .ok (.if_icmp .ge 19, 3) := by decide +kernel
theorem sX3_fewestLines_10 : ab_X rom K cX3_fewestLines 1 1 10 ls (.int y :: .int x :: st) hp = if x < y then ab_X rom K cX3_fewestLines 1 1 13 ls st hp else ab_X rom K cX3_fewestLines 1 1 29 ls st hp := ax_icmp_ge dX3_fewestLines_10 (by decide) rfl
theorem dX3_fewestLines_13 : decode cX3_fewestLines 13 = .ok (.iload_n 1, 1) := by decide +kernel
theorem sX3_fewestLines_13 : ab_X rom K cX3_fewestLines 1 1 13 (v0 :: .int x :: ls) st hp = ab_X rom K cX3_fewestLines 1 1 14 (v0 :: .int x :: ls) (.int x :: st) hp := ax_iload_n dX3_fewestLines_13 rfl rfl
theorem dX3_fewestLines_14 : decode cX3_fewestLines 14 = .ok (.aload_n 0, 1) := by decide +kernel
theorem sX3_fewestLines_14 : ab_X rom K cX3_fewestLines 1 1 14 (.ref a :: ls) st hp = ab_X rom K cX3_fewestLines 1 1 15 (.ref a :: ls) (.ref a :: st) hp := ax_aload_n dX3_fewestLines_14 rfl rfl
theorem dX3_fewestLines_15 : decode cX3_fewestLines 15 = .ok (.iload_n 2, 1) := by decide +kernel
theorem sX3_fewestLines_15 : ab_X rom K cX3_fewestLines 1 1 15 (v0 :: v1 :: .int x :: ls) st hp = ab_X rom K cX3_fewestLines 1 1 16 (v0 :: v1 :: .int x :: ls) (.int x :: st) hp := ax_iload_n dX3_fewestLines_15 rfl rfl
theorem dX3_fewestLines_16 : decode cX3_fewestLines 16 = .ok (.invokevirtual 61, 3) := by decide +kernel
theorem sX3_fewestLines_16_0 : ab_X rom K cX3_fewestLines 1 1 16 ls [w1, .ref a] hp = if ab_iso hp a 1 = true then (K 27 (.ref a :: [w1]) hp).bind (fun o => ab_X rom K cX3_fewestLines 1 1 19 ls (o.1.toList ++ []) o.2) else none := ay_virtual (as := [w1]) (st := []) dX3_fewestLines_16 kc_1_61 rfl rfl (Nat.le_of_ble_eq_true rfl)
theorem sX3_fewestLines_16_1 : ab_X rom K cX3_fewestLines 1 1 16 ls [w1, .ref a, v0] hp = if ab_iso hp a 1 = true then (K 27 (.ref a :: [w1]) hp).bind (fun o => ab_X rom K cX3_fewestLines 1 1 19 ls (o.1.toList ++ [v0]) o.2) else none := ay_virtual (as := [w1]) (st := [v0]) dX3_fewestLines_16 kc_1_61 rfl rfl (Nat.le_of_ble_eq_true rfl)
theorem sX3_fewestLines_16_2 : ab_X rom K cX3_fewestLines 1 1 16 ls [w1, .ref a, v0, v1] hp = if ab_iso hp a 1 = true then (K 27 (.ref a :: [w1]) hp).bind (fun o => ab_X rom K cX3_fewestLines 1 1 19 ls (o.1.toList ++ [v0, v1]) o.2) else none := ay_virtual (as := [w1]) (st := [v0, v1]) dX3_fewestLines_16 kc_1_61 rfl rfl (Nat.le_of_ble_eq_true rfl)
theorem sX3_fewestLines_16_3 : ab_X rom K cX3_fewestLines 1 1 16 ls [w1, .ref a, v0, v1, v2] hp = if ab_iso hp a 1 = true then (K 27 (.ref a :: [w1]) hp).bind (fun o => ab_X rom K cX3_fewestLines 1 1 19 ls (o.1.toList ++ [v0, v1, v2]) o.2) else none := ay_virtual (as := [w1]) (st := [v0, v1, v2]) dX3_fewestLines_16 kc_1_61 rfl rfl (Nat.le_of_ble_eq_true rfl)
theorem dX3_fewestLines_19 : decode cX3_fewestLines 19 = .ok (.invokestatic 46, 3) := by decide +kernel
theorem sX3_fewestLines_19_0 : ab_X rom K cX3_fewestLines 1 1 19 ls [.int y, .int x] hp = ab_X rom K cX3_fewestLines 1 1 22 ls [.int (ab_min x y)] hp := ax_min dX3_fewestLines_19 kc_1_46 rfl (Nat.le_of_ble_eq_true rfl)
theorem sX3_fewestLines_19_1 : ab_X rom K cX3_fewestLines 1 1 19 ls [.int y, .int x, v0] hp = ab_X rom K cX3_fewestLines 1 1 22 ls [.int (ab_min x y), v0] hp := ax_min dX3_fewestLines_19 kc_1_46 rfl (Nat.le_of_ble_eq_true rfl)
theorem sX3_fewestLines_19_2 : ab_X rom K cX3_fewestLines 1 1 19 ls [.int y, .int x, v0, v1] hp = ab_X rom K cX3_fewestLines 1 1 22 ls [.int (ab_min x y), v0, v1] hp := ax_min dX3_fewestLines_19 kc_1_46 rfl (Nat.le_of_ble_eq_true rfl)
theorem sX3_fewestLines_19_3 : ab_X rom K cX3_fewestLines 1 1 19 ls [.int y, .int x, v0, v1, v2] hp = ab_X rom K cX3_fewestLines 1 1 22 ls [.int (ab_min x y), v0, v1, v2] hp := ax_min dX3_fewestLines_19 kc_1_46 rfl (Nat.le_of_ble_eq_true rfl)
theorem dX3_fewestLines_22 : decode cX3_fewestLines 22 = .ok (.istore_n 1, 1) := by decide +kernel
theorem sX3_fewestLines_22i : ab_X rom K cX3_fewestLines 1 1 22 (.int y :: v1 :: ls) (.int x :: st) hp = ab_X rom K cX3_fewestLines 1 1 23 (.int y :: .int x :: ls) st hp := ax_istore_n dX3_fewestLines_22 (ax_lt (v := v1) rfl) (ab_nl_c1 (j := 0) (v := .int y) rfl (ab_c1_int _)) rfl rfl
theorem sX3_fewestLines_22r : ab_X rom K cX3_fewestLines 1 1 22 (.ref a2 :: v1 :: ls) (.int x :: st) hp = ab_X rom K cX3_fewestLines 1 1 23 (.ref a2 :: .int x :: ls) st hp := ax_istore_n dX3_fewestLines_22 (ax_lt (v := v1) rfl) (ab_nl_c1 (j := 0) (v := .ref a2) rfl (ab_c1_ref _)) rfl rfl
theorem sX3_fewestLines_22n : ab_X rom K cX3_fewestLines 1 1 22 (.null :: v1 :: ls) (.int x :: st) hp = ab_X rom K cX3_fewestLines 1 1 23 (.null :: .int x :: ls) st hp := ax_istore_n dX3_fewestLines_22 (ax_lt (v := v1) rfl) (ab_nl_c1 (j := 0) (v := .null) rfl ab_c1_null) rfl rfl
theorem dX3_fewestLines_23 : decode cX3_fewestLines 23 = .ok (.iinc 2 1, 3) := by decide +kernel
theorem sX3_fewestLines_23i : ab_X rom K cX3_fewestLines 1 1 23 (v0 :: .int y :: .int x :: ls) st hp = ab_X rom K cX3_fewestLines 1 1 26 (v0 :: .int y :: .int (x + 1) :: ls) st hp := ax_iinc dX3_fewestLines_23 rfl (ab_nl_c1 (j := 1) (v := .int y) rfl (ab_c1_int _)) (by decide) rfl rfl
theorem sX3_fewestLines_23r : ab_X rom K cX3_fewestLines 1 1 23 (v0 :: .ref a2 :: .int x :: ls) st hp = ab_X rom K cX3_fewestLines 1 1 26 (v0 :: .ref a2 :: .int (x + 1) :: ls) st hp := ax_iinc dX3_fewestLines_23 rfl (ab_nl_c1 (j := 1) (v := .ref a2) rfl (ab_c1_ref _)) (by decide) rfl rfl
theorem sX3_fewestLines_23n : ab_X rom K cX3_fewestLines 1 1 23 (v0 :: .null :: .int x :: ls) st hp = ab_X rom K cX3_fewestLines 1 1 26 (v0 :: .null :: .int (x + 1) :: ls) st hp := ax_iinc dX3_fewestLines_23 rfl (ab_nl_c1 (j := 1) (v := .null) rfl ab_c1_null) (by decide) rfl rfl
theorem dX3_fewestLines_26 : decode cX3_fewestLines 26 = .ok (.goto (-21), 3) := by decide +kernel
theorem sX3_fewestLines_26 : ab_X rom K cX3_fewestLines 1 1 26 ls st hp = ab_X rom K cX3_fewestLines 1 1 5 ls st hp := ax_goto dX3_fewestLines_26 (by decide)
theorem dX3_fewestLines_29 : decode cX3_fewestLines 29 = .ok (.iload_n 1, 1) := by decide +kernel
theorem sX3_fewestLines_29 : ab_X rom K cX3_fewestLines 1 1 29 (v0 :: .int x :: ls) st hp = ab_X rom K cX3_fewestLines 1 1 30 (v0 :: .int x :: ls) (.int x :: st) hp := ax_iload_n dX3_fewestLines_29 rfl rfl
theorem dX3_fewestLines_30 : decode cX3_fewestLines 30 = .ok (.ireturn, 1) := by decide +kernel
theorem sX3_fewestLines_30 : ab_X rom K cX3_fewestLines 1 1 30 ls [.int x] hp = some (some (.int x), hp) := ax_iret dX3_fewestLines_30 rfl
theorem tX3_findLine : ab_mT[20]? = some (yX3_findLine, cX3_findLine, 6, 1, 1) := by decide +kernel
theorem mX3_findLine {d : Nat} {a0 : Nat} {x0 : Int32} {x1 : Int32} : ab_M rom (d + 1) 20 [.ref a0, .int x0, .int x1] hp = ab_X rom (ab_M rom d) cX3_findLine 1 1 0 [.ref a0, .int x0, .int x1, .null, .null, .null] [] hp := ab_M_eq tX3_findLine (Nat.le_of_ble_eq_true rfl)
theorem dX3_findLine_0 : decode cX3_findLine 0 = .ok (.iload_n 1, 1) := by decide +kernel
theorem sX3_findLine_0 : ab_X rom K cX3_findLine 1 1 0 (v0 :: .int x :: ls) st hp = ab_X rom K cX3_findLine 1 1 1 (v0 :: .int x :: ls) (.int x :: st) hp := ax_iload_n dX3_findLine_0 rfl rfl
theorem dX3_findLine_1 : decode cX3_findLine 1 = .ok (.iload_n 2, 1) := by decide +kernel
theorem sX3_findLine_1 : ab_X rom K cX3_findLine 1 1 1 (v0 :: v1 :: .int x :: ls) st hp = ab_X rom K cX3_findLine 1 1 2 (v0 :: v1 :: .int x :: ls) (.int x :: st) hp := ax_iload_n dX3_findLine_1 rfl rfl
theorem dX3_findLine_2 : decode cX3_findLine 2 = .ok (.invokestatic 46, 3) := by decide +kernel
theorem sX3_findLine_2_0 : ab_X rom K cX3_findLine 1 1 2 ls [.int y, .int x] hp = ab_X rom K cX3_findLine 1 1 5 ls [.int (ab_min x y)] hp := ax_min dX3_findLine_2 kc_1_46 rfl (Nat.le_of_ble_eq_true rfl)
theorem sX3_findLine_2_1 : ab_X rom K cX3_findLine 1 1 2 ls [.int y, .int x, v0] hp = ab_X rom K cX3_findLine 1 1 5 ls [.int (ab_min x y), v0] hp := ax_min dX3_findLine_2 kc_1_46 rfl (Nat.le_of_ble_eq_true rfl)
theorem sX3_findLine_2_2 : ab_X rom K cX3_findLine 1 1 2 ls [.int y, .int x, v0, v1] hp = ab_X rom K cX3_findLine 1 1 5 ls [.int (ab_min x y), v0, v1] hp := ax_min dX3_findLine_2 kc_1_46 rfl (Nat.le_of_ble_eq_true rfl)
theorem sX3_findLine_2_3 : ab_X rom K cX3_findLine 1 1 2 ls [.int y, .int x, v0, v1, v2] hp = ab_X rom K cX3_findLine 1 1 5 ls [.int (ab_min x y), v0, v1, v2] hp := ax_min dX3_findLine_2 kc_1_46 rfl (Nat.le_of_ble_eq_true rfl)
theorem dX3_findLine_5 : decode cX3_findLine 5 = .ok (.istore_n 3, 1) := by decide +kernel
theorem sX3_findLine_5i : ab_X rom K cX3_findLine 1 1 5 (v0 :: v1 :: .int y :: v3 :: ls) (.int x :: st) hp = ab_X rom K cX3_findLine 1 1 6 (v0 :: v1 :: .int y :: .int x :: ls) st hp := ax_istore_n dX3_findLine_5 (ax_lt (v := v3) rfl) (ab_nl_c1 (j := 2) (v := .int y) rfl (ab_c1_int _)) rfl rfl
theorem sX3_findLine_5r : ab_X rom K cX3_findLine 1 1 5 (v0 :: v1 :: .ref a2 :: v3 :: ls) (.int x :: st) hp = ab_X rom K cX3_findLine 1 1 6 (v0 :: v1 :: .ref a2 :: .int x :: ls) st hp := ax_istore_n dX3_findLine_5 (ax_lt (v := v3) rfl) (ab_nl_c1 (j := 2) (v := .ref a2) rfl (ab_c1_ref _)) rfl rfl
theorem sX3_findLine_5n : ab_X rom K cX3_findLine 1 1 5 (v0 :: v1 :: .null :: v3 :: ls) (.int x :: st) hp = ab_X rom K cX3_findLine 1 1 6 (v0 :: v1 :: .null :: .int x :: ls) st hp := ax_istore_n dX3_findLine_5 (ax_lt (v := v3) rfl) (ab_nl_c1 (j := 2) (v := .null) rfl ab_c1_null) rfl rfl
theorem dX3_findLine_6 : decode cX3_findLine 6 = .ok (.iload_n 1, 1) := by decide +kernel
theorem sX3_findLine_6 : ab_X rom K cX3_findLine 1 1 6 (v0 :: .int x :: ls) st hp = ab_X rom K cX3_findLine 1 1 7 (v0 :: .int x :: ls) (.int x :: st) hp := ax_iload_n dX3_findLine_6 rfl rfl
theorem dX3_findLine_7 : decode cX3_findLine 7 = .ok (.iload_n 2, 1) := by decide +kernel
theorem sX3_findLine_7 : ab_X rom K cX3_findLine 1 1 7 (v0 :: v1 :: .int x :: ls) st hp = ab_X rom K cX3_findLine 1 1 8 (v0 :: v1 :: .int x :: ls) (.int x :: st) hp := ax_iload_n dX3_findLine_7 rfl rfl
theorem dX3_findLine_8 : decode cX3_findLine 8 = .ok (.invokestatic 52, 3) := by decide +kernel
theorem sX3_findLine_8_0 : ab_X rom K cX3_findLine 1 1 8 ls [.int y, .int x] hp = ab_X rom K cX3_findLine 1 1 11 ls [.int (ab_max x y)] hp := ax_max dX3_findLine_8 kc_1_52 rfl (Nat.le_of_ble_eq_true rfl)
theorem sX3_findLine_8_1 : ab_X rom K cX3_findLine 1 1 8 ls [.int y, .int x, v0] hp = ab_X rom K cX3_findLine 1 1 11 ls [.int (ab_max x y), v0] hp := ax_max dX3_findLine_8 kc_1_52 rfl (Nat.le_of_ble_eq_true rfl)
theorem sX3_findLine_8_2 : ab_X rom K cX3_findLine 1 1 8 ls [.int y, .int x, v0, v1] hp = ab_X rom K cX3_findLine 1 1 11 ls [.int (ab_max x y), v0, v1] hp := ax_max dX3_findLine_8 kc_1_52 rfl (Nat.le_of_ble_eq_true rfl)
theorem sX3_findLine_8_3 : ab_X rom K cX3_findLine 1 1 8 ls [.int y, .int x, v0, v1, v2] hp = ab_X rom K cX3_findLine 1 1 11 ls [.int (ab_max x y), v0, v1, v2] hp := ax_max dX3_findLine_8 kc_1_52 rfl (Nat.le_of_ble_eq_true rfl)
theorem dX3_findLine_11 : decode cX3_findLine 11 = .ok (.istore 4, 2) := by decide +kernel
theorem sX3_findLine_11i : ab_X rom K cX3_findLine 1 1 11 (v0 :: v1 :: v2 :: .int y :: v4 :: ls) (.int x :: st) hp = ab_X rom K cX3_findLine 1 1 13 (v0 :: v1 :: v2 :: .int y :: .int x :: ls) st hp := ax_istore dX3_findLine_11 (ax_lt (v := v4) rfl) (ab_nl_c1 (j := 3) (v := .int y) rfl (ab_c1_int _)) rfl rfl
theorem sX3_findLine_11r : ab_X rom K cX3_findLine 1 1 11 (v0 :: v1 :: v2 :: .ref a2 :: v4 :: ls) (.int x :: st) hp = ab_X rom K cX3_findLine 1 1 13 (v0 :: v1 :: v2 :: .ref a2 :: .int x :: ls) st hp := ax_istore dX3_findLine_11 (ax_lt (v := v4) rfl) (ab_nl_c1 (j := 3) (v := .ref a2) rfl (ab_c1_ref _)) rfl rfl
theorem sX3_findLine_11n : ab_X rom K cX3_findLine 1 1 11 (v0 :: v1 :: v2 :: .null :: v4 :: ls) (.int x :: st) hp = ab_X rom K cX3_findLine 1 1 13 (v0 :: v1 :: v2 :: .null :: .int x :: ls) st hp := ax_istore dX3_findLine_11 (ax_lt (v := v4) rfl) (ab_nl_c1 (j := 3) (v := .null) rfl ab_c1_null) rfl rfl
theorem dX3_findLine_13 : decode cX3_findLine 13 = .ok (.iconst 0, 1) := by decide +kernel
theorem sX3_findLine_13 : ab_X rom K cX3_findLine 1 1 13 ls st hp = ab_X rom K cX3_findLine 1 1 14 ls (.int 0 :: st) hp := ax_iconst dX3_findLine_13 (by decide) rfl
theorem dX3_findLine_14 : decode cX3_findLine 14 = .ok (.istore 5, 2) := by decide +kernel
theorem sX3_findLine_14i : ab_X rom K cX3_findLine 1 1 14 (v0 :: v1 :: v2 :: v3 :: .int y :: v5 :: ls) (.int x :: st) hp = ab_X rom K cX3_findLine 1 1 16 (v0 :: v1 :: v2 :: v3 :: .int y :: .int x :: ls) st hp := ax_istore dX3_findLine_14 (ax_lt (v := v5) rfl) (ab_nl_c1 (j := 4) (v := .int y) rfl (ab_c1_int _)) rfl rfl
theorem sX3_findLine_14r : ab_X rom K cX3_findLine 1 1 14 (v0 :: v1 :: v2 :: v3 :: .ref a2 :: v5 :: ls) (.int x :: st) hp = ab_X rom K cX3_findLine 1 1 16 (v0 :: v1 :: v2 :: v3 :: .ref a2 :: .int x :: ls) st hp := ax_istore dX3_findLine_14 (ax_lt (v := v5) rfl) (ab_nl_c1 (j := 4) (v := .ref a2) rfl (ab_c1_ref _)) rfl rfl
theorem sX3_findLine_14n : ab_X rom K cX3_findLine 1 1 14 (v0 :: v1 :: v2 :: v3 :: .null :: v5 :: ls) (.int x :: st) hp = ab_X rom K cX3_findLine 1 1 16 (v0 :: v1 :: v2 :: v3 :: .null :: .int x :: ls) st hp := ax_istore dX3_findLine_14 (ax_lt (v := v5) rfl) (ab_nl_c1 (j := 4) (v := .null) rfl ab_c1_null) rfl rfl
theorem dX3_findLine_16 : decode cX3_findLine 16 = .ok (.iload 5, 2) := by decide +kernel
theorem sX3_findLine_16 : ab_X rom K cX3_findLine 1 1 16 (v0 :: v1 :: v2 :: v3 :: v4 :: .int x :: ls) st hp = ab_X rom K cX3_findLine 1 1 18 (v0 :: v1 :: v2 :: v3 :: v4 :: .int x :: ls) (.int x :: st) hp := ax_iload dX3_findLine_16 rfl rfl
theorem dX3_findLine_18 : decode cX3_findLine 18 = .ok (.aload_n 0, 1) := by decide +kernel
theorem sX3_findLine_18 : ab_X rom K cX3_findLine 1 1 18 (.ref a :: ls) st hp = ab_X rom K cX3_findLine 1 1 19 (.ref a :: ls) (.ref a :: st) hp := ax_aload_n dX3_findLine_18 rfl rfl
theorem dX3_findLine_19 : decode cX3_findLine 19 = .ok (.getfield 15, 3) := by decide +kernel
theorem sX3_findLine_19 : ab_X rom K cX3_findLine 1 1 19 ls (.ref a :: st) hp = (ab_fld hp a 1 1).bind (fun v => ab_X rom K cX3_findLine 1 1 22 ls (v :: st) hp) := ax_getfield dX3_findLine_19 kf_1_15 rfl
theorem dX3_findLine_22 : decode cX3_findLine 22 = .ok (.if_icmp .ge 35, 3) := by decide +kernel
theorem sX3_findLine_22 : ab_X rom K cX3_findLine 1 1 22 ls (.int y :: .int x :: st) hp = if x < y then ab_X rom K cX3_findLine 1 1 25 ls st hp else ab_X rom K cX3_findLine 1 1 57 ls st hp := ax_icmp_ge dX3_findLine_22 (by decide) rfl
theorem dX3_findLine_25 : decode cX3_findLine 25 = .ok (.aload_n 0, 1) := by decide +kernel
theorem sX3_findLine_25 : ab_X rom K cX3_findLine 1 1 25 (.ref a :: ls) st hp = ab_X rom K cX3_findLine 1 1 26 (.ref a :: ls) (.ref a :: st) hp := ax_aload_n dX3_findLine_25 rfl rfl
theorem dX3_findLine_26 : decode cX3_findLine 26 = .ok (.getfield 18, 3) := by decide +kernel
theorem sX3_findLine_26 : ab_X rom K cX3_findLine 1 1 26 ls (.ref a :: st) hp = (ab_fld hp a 1 2).bind (fun v => ab_X rom K cX3_findLine 1 1 29 ls (v :: st) hp) := ax_getfield dX3_findLine_26 kf_1_18 rfl
theorem dX3_findLine_29 : decode cX3_findLine 29 = .ok (.iload 5, 2) := by decide +kernel
theorem sX3_findLine_29 : ab_X rom K cX3_findLine 1 1 29 (v0 :: v1 :: v2 :: v3 :: v4 :: .int x :: ls) st hp = ab_X rom K cX3_findLine 1 1 31 (v0 :: v1 :: v2 :: v3 :: v4 :: .int x :: ls) (.int x :: st) hp := ax_iload dX3_findLine_29 rfl rfl
theorem dX3_findLine_31 : decode cX3_findLine 31 = .ok (.iaload, 1) := by decide +kernel
theorem sX3_findLine_31 : ab_X rom K cX3_findLine 1 1 31 ls (.int x :: .ref a :: st) hp = (ab_ard rom 0 hp a x).bind (fun v => ab_X rom K cX3_findLine 1 1 32 ls (.int v :: st) hp) := ax_iaload dX3_findLine_31 rfl
theorem dX3_findLine_32 : decode cX3_findLine 32 = .ok (.iload_n 3, 1) := by decide +kernel
theorem sX3_findLine_32 : ab_X rom K cX3_findLine 1 1 32 (v0 :: v1 :: v2 :: .int x :: ls) st hp = ab_X rom K cX3_findLine 1 1 33 (v0 :: v1 :: v2 :: .int x :: ls) (.int x :: st) hp := ax_iload_n dX3_findLine_32 rfl rfl
theorem dX3_findLine_33 : decode cX3_findLine 33 = .ok (.if_icmp .ne 18, 3) := by decide +kernel
theorem sX3_findLine_33 : ab_X rom K cX3_findLine 1 1 33 ls (.int y :: .int x :: st) hp = if x = y then ab_X rom K cX3_findLine 1 1 36 ls st hp else ab_X rom K cX3_findLine 1 1 51 ls st hp := ax_icmp_ne dX3_findLine_33 (by decide) rfl
theorem dX3_findLine_36 : decode cX3_findLine 36 = .ok (.aload_n 0, 1) := by decide +kernel
theorem sX3_findLine_36 : ab_X rom K cX3_findLine 1 1 36 (.ref a :: ls) st hp = ab_X rom K cX3_findLine 1 1 37 (.ref a :: ls) (.ref a :: st) hp := ax_aload_n dX3_findLine_36 rfl rfl
theorem dX3_findLine_37 : decode cX3_findLine 37 = .ok (.getfield 22, 3) := by decide +kernel
theorem sX3_findLine_37 : ab_X rom K cX3_findLine 1 1 37 ls (.ref a :: st) hp = (ab_fld hp a 1 3).bind (fun v => ab_X rom K cX3_findLine 1 1 40 ls (v :: st) hp) := ax_getfield dX3_findLine_37 kf_1_22 rfl
theorem dX3_findLine_40 : decode cX3_findLine 40 = .ok (.iload 5, 2) := by decide +kernel
theorem sX3_findLine_40 : ab_X rom K cX3_findLine 1 1 40 (v0 :: v1 :: v2 :: v3 :: v4 :: .int x :: ls) st hp = ab_X rom K cX3_findLine 1 1 42 (v0 :: v1 :: v2 :: v3 :: v4 :: .int x :: ls) (.int x :: st) hp := ax_iload dX3_findLine_40 rfl rfl
theorem dX3_findLine_42 : decode cX3_findLine 42 = .ok (.iaload, 1) := by decide +kernel
theorem sX3_findLine_42 : ab_X rom K cX3_findLine 1 1 42 ls (.int x :: .ref a :: st) hp = (ab_ard rom 0 hp a x).bind (fun v => ab_X rom K cX3_findLine 1 1 43 ls (.int v :: st) hp) := ax_iaload dX3_findLine_42 rfl
theorem dX3_findLine_43 : decode cX3_findLine 43 = .ok (.iload 4, 2) := by decide +kernel
theorem sX3_findLine_43 : ab_X rom K cX3_findLine 1 1 43 (v0 :: v1 :: v2 :: v3 :: .int x :: ls) st hp = ab_X rom K cX3_findLine 1 1 45 (v0 :: v1 :: v2 :: v3 :: .int x :: ls) (.int x :: st) hp := ax_iload dX3_findLine_43 rfl rfl
theorem dX3_findLine_45 : decode cX3_findLine 45 = .ok (.if_icmp .ne 6, 3) := by decide +kernel
theorem sX3_findLine_45 : ab_X rom K cX3_findLine 1 1 45 ls (.int y :: .int x :: st) hp = if x = y then ab_X rom K cX3_findLine 1 1 48 ls st hp else ab_X rom K cX3_findLine 1 1 51 ls st hp := ax_icmp_ne dX3_findLine_45 (by decide) rfl
theorem dX3_findLine_48 : decode cX3_findLine 48 = .ok (.iload 5, 2) := by decide +kernel
theorem sX3_findLine_48 : ab_X rom K cX3_findLine 1 1 48 (v0 :: v1 :: v2 :: v3 :: v4 :: .int x :: ls) st hp = ab_X rom K cX3_findLine 1 1 50 (v0 :: v1 :: v2 :: v3 :: v4 :: .int x :: ls) (.int x :: st) hp := ax_iload dX3_findLine_48 rfl rfl
theorem dX3_findLine_50 : decode cX3_findLine 50 = .ok (.ireturn, 1) := by decide +kernel
theorem sX3_findLine_50 : ab_X rom K cX3_findLine 1 1 50 ls [.int x] hp = some (some (.int x), hp) := ax_iret dX3_findLine_50 rfl
theorem dX3_findLine_51 : decode cX3_findLine 51 = .ok (.iinc 5 1, 3) := by decide +kernel
theorem sX3_findLine_51i : ab_X rom K cX3_findLine 1 1 51 (v0 :: v1 :: v2 :: v3 :: .int y :: .int x :: ls) st hp = ab_X rom K cX3_findLine 1 1 54 (v0 :: v1 :: v2 :: v3 :: .int y :: .int (x + 1) :: ls) st hp := ax_iinc dX3_findLine_51 rfl (ab_nl_c1 (j := 4) (v := .int y) rfl (ab_c1_int _)) (by decide) rfl rfl
theorem sX3_findLine_51r : ab_X rom K cX3_findLine 1 1 51 (v0 :: v1 :: v2 :: v3 :: .ref a2 :: .int x :: ls) st hp = ab_X rom K cX3_findLine 1 1 54 (v0 :: v1 :: v2 :: v3 :: .ref a2 :: .int (x + 1) :: ls) st hp := ax_iinc dX3_findLine_51 rfl (ab_nl_c1 (j := 4) (v := .ref a2) rfl (ab_c1_ref _)) (by decide) rfl rfl
theorem sX3_findLine_51n : ab_X rom K cX3_findLine 1 1 51 (v0 :: v1 :: v2 :: v3 :: .null :: .int x :: ls) st hp = ab_X rom K cX3_findLine 1 1 54 (v0 :: v1 :: v2 :: v3 :: .null :: .int (x + 1) :: ls) st hp := ax_iinc dX3_findLine_51 rfl (ab_nl_c1 (j := 4) (v := .null) rfl ab_c1_null) (by decide) rfl rfl
theorem dX3_findLine_54 : decode cX3_findLine 54 = .ok (.goto (-38), 3) := by decide +kernel
theorem sX3_findLine_54 : ab_X rom K cX3_findLine 1 1 54 ls st hp = ab_X rom K cX3_findLine 1 1 16 ls st hp := ax_goto dX3_findLine_54 (by decide)
theorem dX3_findLine_57 : decode cX3_findLine 57 = .ok (.iconst (-1), 1) := by decide +kernel
theorem sX3_findLine_57 : ab_X rom K cX3_findLine 1 1 57 ls st hp = ab_X rom K cX3_findLine 1 1 58 ls (.int (-1) :: st) hp := ax_iconst dX3_findLine_57 (by decide) rfl
theorem dX3_findLine_58 : decode cX3_findLine 58 = .ok (.ireturn, 1) := by decide +kernel
theorem sX3_findLine_58 : ab_X rom K cX3_findLine 1 1 58 ls [.int x] hp = some (some (.int x), hp) := ax_iret dX3_findLine_58 rfl
theorem tX3_greatestLabel : ab_mT[21]? = some (yX3_greatestLabel, cX3_greatestLabel, 3, 1, 1) := by decide +kernel
theorem mX3_greatestLabel {d : Nat} {a0 : Nat} : ab_M rom (d + 1) 21 [.ref a0] hp = ab_X rom (ab_M rom d) cX3_greatestLabel 1 1 0 [.ref a0, .null, .null] [] hp := ab_M_eq tX3_greatestLabel (Nat.le_of_ble_eq_true rfl)
theorem dX3_greatestLabel_0 : decode cX3_greatestLabel 0 = .ok (.iconst (-1), 1) := by decide +kernel
theorem sX3_greatestLabel_0 : ab_X rom K cX3_greatestLabel 1 1 0 ls st hp = ab_X rom K cX3_greatestLabel 1 1 1 ls (.int (-1) :: st) hp := ax_iconst dX3_greatestLabel_0 (by decide) rfl
theorem dX3_greatestLabel_1 : decode cX3_greatestLabel 1 = .ok (.istore_n 1, 1) := by decide +kernel
theorem sX3_greatestLabel_1i : ab_X rom K cX3_greatestLabel 1 1 1 (.int y :: v1 :: ls) (.int x :: st) hp = ab_X rom K cX3_greatestLabel 1 1 2 (.int y :: .int x :: ls) st hp := ax_istore_n dX3_greatestLabel_1 (ax_lt (v := v1) rfl) (ab_nl_c1 (j := 0) (v := .int y) rfl (ab_c1_int _)) rfl rfl
theorem sX3_greatestLabel_1r : ab_X rom K cX3_greatestLabel 1 1 1 (.ref a2 :: v1 :: ls) (.int x :: st) hp = ab_X rom K cX3_greatestLabel 1 1 2 (.ref a2 :: .int x :: ls) st hp := ax_istore_n dX3_greatestLabel_1 (ax_lt (v := v1) rfl) (ab_nl_c1 (j := 0) (v := .ref a2) rfl (ab_c1_ref _)) rfl rfl
theorem sX3_greatestLabel_1n : ab_X rom K cX3_greatestLabel 1 1 1 (.null :: v1 :: ls) (.int x :: st) hp = ab_X rom K cX3_greatestLabel 1 1 2 (.null :: .int x :: ls) st hp := ax_istore_n dX3_greatestLabel_1 (ax_lt (v := v1) rfl) (ab_nl_c1 (j := 0) (v := .null) rfl ab_c1_null) rfl rfl
theorem dX3_greatestLabel_2 : decode cX3_greatestLabel 2 = .ok (.iconst 0, 1) := by decide +kernel
theorem sX3_greatestLabel_2 : ab_X rom K cX3_greatestLabel 1 1 2 ls st hp = ab_X rom K cX3_greatestLabel 1 1 3 ls (.int 0 :: st) hp := ax_iconst dX3_greatestLabel_2 (by decide) rfl
theorem dX3_greatestLabel_3 : decode cX3_greatestLabel 3 = .ok (.istore_n 2, 1) := by decide +kernel
theorem sX3_greatestLabel_3i : ab_X rom K cX3_greatestLabel 1 1 3 (v0 :: .int y :: v2 :: ls) (.int x :: st) hp = ab_X rom K cX3_greatestLabel 1 1 4 (v0 :: .int y :: .int x :: ls) st hp := ax_istore_n dX3_greatestLabel_3 (ax_lt (v := v2) rfl) (ab_nl_c1 (j := 1) (v := .int y) rfl (ab_c1_int _)) rfl rfl
theorem sX3_greatestLabel_3r : ab_X rom K cX3_greatestLabel 1 1 3 (v0 :: .ref a2 :: v2 :: ls) (.int x :: st) hp = ab_X rom K cX3_greatestLabel 1 1 4 (v0 :: .ref a2 :: .int x :: ls) st hp := ax_istore_n dX3_greatestLabel_3 (ax_lt (v := v2) rfl) (ab_nl_c1 (j := 1) (v := .ref a2) rfl (ab_c1_ref _)) rfl rfl
theorem sX3_greatestLabel_3n : ab_X rom K cX3_greatestLabel 1 1 3 (v0 :: .null :: v2 :: ls) (.int x :: st) hp = ab_X rom K cX3_greatestLabel 1 1 4 (v0 :: .null :: .int x :: ls) st hp := ax_istore_n dX3_greatestLabel_3 (ax_lt (v := v2) rfl) (ab_nl_c1 (j := 1) (v := .null) rfl ab_c1_null) rfl rfl
theorem dX3_greatestLabel_4 : decode cX3_greatestLabel 4 = .ok (.iload_n 2, 1) := by decide +kernel
theorem sX3_greatestLabel_4 : ab_X rom K cX3_greatestLabel 1 1 4 (v0 :: v1 :: .int x :: ls) st hp = ab_X rom K cX3_greatestLabel 1 1 5 (v0 :: v1 :: .int x :: ls) (.int x :: st) hp := ax_iload_n dX3_greatestLabel_4 rfl rfl
theorem dX3_greatestLabel_5 : decode cX3_greatestLabel 5 = .ok (.aload_n 0, 1) := by decide +kernel
theorem sX3_greatestLabel_5 : ab_X rom K cX3_greatestLabel 1 1 5 (.ref a :: ls) st hp = ab_X rom K cX3_greatestLabel 1 1 6 (.ref a :: ls) (.ref a :: st) hp := ax_aload_n dX3_greatestLabel_5 rfl rfl
theorem dX3_greatestLabel_6 : decode cX3_greatestLabel 6 = .ok (.getfield 9, 3) := by decide +kernel
theorem sX3_greatestLabel_6 : ab_X rom K cX3_greatestLabel 1 1 6 ls (.ref a :: st) hp = (ab_fld hp a 1 0).bind (fun v => ab_X rom K cX3_greatestLabel 1 1 9 ls (v :: st) hp) := ax_getfield dX3_greatestLabel_6 kf_1_9 rfl
theorem dX3_greatestLabel_9 : decode cX3_greatestLabel 9 = .ok (.if_icmp .ge 20, 3) := by decide +kernel
theorem sX3_greatestLabel_9 : ab_X rom K cX3_greatestLabel 1 1 9 ls (.int y :: .int x :: st) hp = if x < y then ab_X rom K cX3_greatestLabel 1 1 12 ls st hp else ab_X rom K cX3_greatestLabel 1 1 29 ls st hp := ax_icmp_ge dX3_greatestLabel_9 (by decide) rfl
theorem dX3_greatestLabel_12 : decode cX3_greatestLabel 12 = .ok (.iload_n 1, 1) := by decide +kernel
theorem sX3_greatestLabel_12 : ab_X rom K cX3_greatestLabel 1 1 12 (v0 :: .int x :: ls) st hp = ab_X rom K cX3_greatestLabel 1 1 13 (v0 :: .int x :: ls) (.int x :: st) hp := ax_iload_n dX3_greatestLabel_12 rfl rfl
theorem dX3_greatestLabel_13 : decode cX3_greatestLabel 13 = .ok (.aload_n 0, 1) := by decide +kernel
theorem sX3_greatestLabel_13 : ab_X rom K cX3_greatestLabel 1 1 13 (.ref a :: ls) st hp = ab_X rom K cX3_greatestLabel 1 1 14 (.ref a :: ls) (.ref a :: st) hp := ax_aload_n dX3_greatestLabel_13 rfl rfl
theorem dX3_greatestLabel_14 : decode cX3_greatestLabel 14 = .ok (.getfield 25, 3) := by decide +kernel
theorem sX3_greatestLabel_14 : ab_X rom K cX3_greatestLabel 1 1 14 ls (.ref a :: st) hp = (ab_fld hp a 1 4).bind (fun v => ab_X rom K cX3_greatestLabel 1 1 17 ls (v :: st) hp) := ax_getfield dX3_greatestLabel_14 kf_1_25 rfl
theorem dX3_greatestLabel_17 : decode cX3_greatestLabel 17 = .ok (.iload_n 2, 1) := by decide +kernel
theorem sX3_greatestLabel_17 : ab_X rom K cX3_greatestLabel 1 1 17 (v0 :: v1 :: .int x :: ls) st hp = ab_X rom K cX3_greatestLabel 1 1 18 (v0 :: v1 :: .int x :: ls) (.int x :: st) hp := ax_iload_n dX3_greatestLabel_17 rfl rfl
theorem dX3_greatestLabel_18 : decode cX3_greatestLabel 18 = .ok (.iaload, 1) := by decide +kernel
theorem sX3_greatestLabel_18 : ab_X rom K cX3_greatestLabel 1 1 18 ls (.int x :: .ref a :: st) hp = (ab_ard rom 0 hp a x).bind (fun v => ab_X rom K cX3_greatestLabel 1 1 19 ls (.int v :: st) hp) := ax_iaload dX3_greatestLabel_18 rfl
theorem dX3_greatestLabel_19 : decode cX3_greatestLabel 19 = .ok (.invokestatic 52, 3) := by decide +kernel
theorem sX3_greatestLabel_19_0 : ab_X rom K cX3_greatestLabel 1 1 19 ls [.int y, .int x] hp = ab_X rom K cX3_greatestLabel 1 1 22 ls [.int (ab_max x y)] hp := ax_max dX3_greatestLabel_19 kc_1_52 rfl (Nat.le_of_ble_eq_true rfl)
theorem sX3_greatestLabel_19_1 : ab_X rom K cX3_greatestLabel 1 1 19 ls [.int y, .int x, v0] hp = ab_X rom K cX3_greatestLabel 1 1 22 ls [.int (ab_max x y), v0] hp := ax_max dX3_greatestLabel_19 kc_1_52 rfl (Nat.le_of_ble_eq_true rfl)
theorem sX3_greatestLabel_19_2 : ab_X rom K cX3_greatestLabel 1 1 19 ls [.int y, .int x, v0, v1] hp = ab_X rom K cX3_greatestLabel 1 1 22 ls [.int (ab_max x y), v0, v1] hp := ax_max dX3_greatestLabel_19 kc_1_52 rfl (Nat.le_of_ble_eq_true rfl)
theorem sX3_greatestLabel_19_3 : ab_X rom K cX3_greatestLabel 1 1 19 ls [.int y, .int x, v0, v1, v2] hp = ab_X rom K cX3_greatestLabel 1 1 22 ls [.int (ab_max x y), v0, v1, v2] hp := ax_max dX3_greatestLabel_19 kc_1_52 rfl (Nat.le_of_ble_eq_true rfl)
theorem dX3_greatestLabel_22 : decode cX3_greatestLabel 22 = .ok (.istore_n 1, 1) := by decide +kernel
theorem sX3_greatestLabel_22i : ab_X rom K cX3_greatestLabel 1 1 22 (.int y :: v1 :: ls) (.int x :: st) hp = ab_X rom K cX3_greatestLabel 1 1 23 (.int y :: .int x :: ls) st hp := ax_istore_n dX3_greatestLabel_22 (ax_lt (v := v1) rfl) (ab_nl_c1 (j := 0) (v := .int y) rfl (ab_c1_int _)) rfl rfl
theorem sX3_greatestLabel_22r : ab_X rom K cX3_greatestLabel 1 1 22 (.ref a2 :: v1 :: ls) (.int x :: st) hp = ab_X rom K cX3_greatestLabel 1 1 23 (.ref a2 :: .int x :: ls) st hp := ax_istore_n dX3_greatestLabel_22 (ax_lt (v := v1) rfl) (ab_nl_c1 (j := 0) (v := .ref a2) rfl (ab_c1_ref _)) rfl rfl
theorem sX3_greatestLabel_22n : ab_X rom K cX3_greatestLabel 1 1 22 (.null :: v1 :: ls) (.int x :: st) hp = ab_X rom K cX3_greatestLabel 1 1 23 (.null :: .int x :: ls) st hp := ax_istore_n dX3_greatestLabel_22 (ax_lt (v := v1) rfl) (ab_nl_c1 (j := 0) (v := .null) rfl ab_c1_null) rfl rfl
theorem dX3_greatestLabel_23 : decode cX3_greatestLabel 23 = .ok (.iinc 2 1, 3) := by decide +kernel
theorem sX3_greatestLabel_23i : ab_X rom K cX3_greatestLabel 1 1 23 (v0 :: .int y :: .int x :: ls) st hp = ab_X rom K cX3_greatestLabel 1 1 26 (v0 :: .int y :: .int (x + 1) :: ls) st hp := ax_iinc dX3_greatestLabel_23 rfl (ab_nl_c1 (j := 1) (v := .int y) rfl (ab_c1_int _)) (by decide) rfl rfl
theorem sX3_greatestLabel_23r : ab_X rom K cX3_greatestLabel 1 1 23 (v0 :: .ref a2 :: .int x :: ls) st hp = ab_X rom K cX3_greatestLabel 1 1 26 (v0 :: .ref a2 :: .int (x + 1) :: ls) st hp := ax_iinc dX3_greatestLabel_23 rfl (ab_nl_c1 (j := 1) (v := .ref a2) rfl (ab_c1_ref _)) (by decide) rfl rfl
theorem sX3_greatestLabel_23n : ab_X rom K cX3_greatestLabel 1 1 23 (v0 :: .null :: .int x :: ls) st hp = ab_X rom K cX3_greatestLabel 1 1 26 (v0 :: .null :: .int (x + 1) :: ls) st hp := ax_iinc dX3_greatestLabel_23 rfl (ab_nl_c1 (j := 1) (v := .null) rfl ab_c1_null) (by decide) rfl rfl
theorem dX3_greatestLabel_26 : decode cX3_greatestLabel 26 = .ok (.goto (-22), 3) := by decide +kernel
theorem sX3_greatestLabel_26 : ab_X rom K cX3_greatestLabel 1 1 26 ls st hp = ab_X rom K cX3_greatestLabel 1 1 4 ls st hp := ax_goto dX3_greatestLabel_26 (by decide)
theorem dX3_greatestLabel_29 : decode cX3_greatestLabel 29 = .ok (.iload_n 1, 1) := by decide +kernel
theorem sX3_greatestLabel_29 : ab_X rom K cX3_greatestLabel 1 1 29 (v0 :: .int x :: ls) st hp = ab_X rom K cX3_greatestLabel 1 1 30 (v0 :: .int x :: ls) (.int x :: st) hp := ax_iload_n dX3_greatestLabel_29 rfl rfl
theorem dX3_greatestLabel_30 : decode cX3_greatestLabel 30 = .ok (.ireturn, 1) := by decide +kernel
theorem sX3_greatestLabel_30 : ab_X rom K cX3_greatestLabel 1 1 30 ls [.int x] hp = some (some (.int x), hp) := ax_iret dX3_greatestLabel_30 rfl
theorem tX3_insertLine : ab_mT[22]? = some (yX3_insertLine, cX3_insertLine, 7, 0, 1) := by decide +kernel
theorem mX3_insertLine {d : Nat} {a0 : Nat} {x0 : Int32} {x1 : Int32} : ab_M rom (d + 1) 22 [.ref a0, .int x0, .int x1] hp = ab_X rom (ab_M rom d) cX3_insertLine 1 0 0 [.ref a0, .int x0, .int x1, .null, .null, .null, .null] [] hp := ab_M_eq tX3_insertLine (Nat.le_of_ble_eq_true rfl)
theorem dX3_insertLine_0 : decode cX3_insertLine 0 = .ok (.aload_n 0, 1) := by decide +kernel
theorem sX3_insertLine_0 : ab_X rom K cX3_insertLine 1 0 0 (.ref a :: ls) st hp = ab_X rom K cX3_insertLine 1 0 1 (.ref a :: ls) (.ref a :: st) hp := ax_aload_n dX3_insertLine_0 rfl rfl
theorem dX3_insertLine_1 : decode cX3_insertLine 1 = .ok (.getfield 15, 3) := by decide +kernel
theorem sX3_insertLine_1 : ab_X rom K cX3_insertLine 1 0 1 ls (.ref a :: st) hp = (ab_fld hp a 1 1).bind (fun v => ab_X rom K cX3_insertLine 1 0 4 ls (v :: st) hp) := ax_getfield dX3_insertLine_1 kf_1_15 rfl
theorem dX3_insertLine_4 : decode cX3_insertLine 4 = .ok (.bipush 10, 2) := by decide +kernel
theorem sX3_insertLine_4 : ab_X rom K cX3_insertLine 1 0 4 ls st hp = ab_X rom K cX3_insertLine 1 0 6 ls (.int 10 :: st) hp := ax_bipush dX3_insertLine_4 (by decide) rfl
theorem dX3_insertLine_6 : decode cX3_insertLine 6 = .ok (.if_icmp .lt 4, 3) := by decide +kernel
theorem sX3_insertLine_6 : ab_X rom K cX3_insertLine 1 0 6 ls (.int y :: .int x :: st) hp = if x < y then ab_X rom K cX3_insertLine 1 0 10 ls st hp else ab_X rom K cX3_insertLine 1 0 9 ls st hp := ax_icmp_lt dX3_insertLine_6 (by decide) rfl
theorem dX3_insertLine_9 : decode cX3_insertLine 9 = .ok (.return_, 1) := by decide +kernel
theorem sX3_insertLine_9 : ab_X rom K cX3_insertLine 1 0 9 ls [] hp = some (none, hp) := ax_vret dX3_insertLine_9 (by decide)
theorem dX3_insertLine_10 : decode cX3_insertLine 10 = .ok (.iload_n 1, 1) := by decide +kernel
theorem sX3_insertLine_10 : ab_X rom K cX3_insertLine 1 0 10 (v0 :: .int x :: ls) st hp = ab_X rom K cX3_insertLine 1 0 11 (v0 :: .int x :: ls) (.int x :: st) hp := ax_iload_n dX3_insertLine_10 rfl rfl
theorem dX3_insertLine_11 : decode cX3_insertLine 11 = .ok (.iload_n 2, 1) := by decide +kernel
theorem sX3_insertLine_11 : ab_X rom K cX3_insertLine 1 0 11 (v0 :: v1 :: .int x :: ls) st hp = ab_X rom K cX3_insertLine 1 0 12 (v0 :: v1 :: .int x :: ls) (.int x :: st) hp := ax_iload_n dX3_insertLine_11 rfl rfl
theorem dX3_insertLine_12 : decode cX3_insertLine 12 = .ok (.invokestatic 46, 3) := by decide +kernel
theorem sX3_insertLine_12_0 : ab_X rom K cX3_insertLine 1 0 12 ls [.int y, .int x] hp = ab_X rom K cX3_insertLine 1 0 15 ls [.int (ab_min x y)] hp := ax_min dX3_insertLine_12 kc_1_46 rfl (Nat.le_of_ble_eq_true rfl)
theorem sX3_insertLine_12_1 : ab_X rom K cX3_insertLine 1 0 12 ls [.int y, .int x, v0] hp = ab_X rom K cX3_insertLine 1 0 15 ls [.int (ab_min x y), v0] hp := ax_min dX3_insertLine_12 kc_1_46 rfl (Nat.le_of_ble_eq_true rfl)
theorem sX3_insertLine_12_2 : ab_X rom K cX3_insertLine 1 0 12 ls [.int y, .int x, v0, v1] hp = ab_X rom K cX3_insertLine 1 0 15 ls [.int (ab_min x y), v0, v1] hp := ax_min dX3_insertLine_12 kc_1_46 rfl (Nat.le_of_ble_eq_true rfl)
theorem sX3_insertLine_12_3 : ab_X rom K cX3_insertLine 1 0 12 ls [.int y, .int x, v0, v1, v2] hp = ab_X rom K cX3_insertLine 1 0 15 ls [.int (ab_min x y), v0, v1, v2] hp := ax_min dX3_insertLine_12 kc_1_46 rfl (Nat.le_of_ble_eq_true rfl)
theorem dX3_insertLine_15 : decode cX3_insertLine 15 = .ok (.istore_n 3, 1) := by decide +kernel
theorem sX3_insertLine_15i : ab_X rom K cX3_insertLine 1 0 15 (v0 :: v1 :: .int y :: v3 :: ls) (.int x :: st) hp = ab_X rom K cX3_insertLine 1 0 16 (v0 :: v1 :: .int y :: .int x :: ls) st hp := ax_istore_n dX3_insertLine_15 (ax_lt (v := v3) rfl) (ab_nl_c1 (j := 2) (v := .int y) rfl (ab_c1_int _)) rfl rfl
theorem sX3_insertLine_15r : ab_X rom K cX3_insertLine 1 0 15 (v0 :: v1 :: .ref a2 :: v3 :: ls) (.int x :: st) hp = ab_X rom K cX3_insertLine 1 0 16 (v0 :: v1 :: .ref a2 :: .int x :: ls) st hp := ax_istore_n dX3_insertLine_15 (ax_lt (v := v3) rfl) (ab_nl_c1 (j := 2) (v := .ref a2) rfl (ab_c1_ref _)) rfl rfl
theorem sX3_insertLine_15n : ab_X rom K cX3_insertLine 1 0 15 (v0 :: v1 :: .null :: v3 :: ls) (.int x :: st) hp = ab_X rom K cX3_insertLine 1 0 16 (v0 :: v1 :: .null :: .int x :: ls) st hp := ax_istore_n dX3_insertLine_15 (ax_lt (v := v3) rfl) (ab_nl_c1 (j := 2) (v := .null) rfl ab_c1_null) rfl rfl
theorem dX3_insertLine_16 : decode cX3_insertLine 16 = .ok (.iload_n 1, 1) := by decide +kernel
theorem sX3_insertLine_16 : ab_X rom K cX3_insertLine 1 0 16 (v0 :: .int x :: ls) st hp = ab_X rom K cX3_insertLine 1 0 17 (v0 :: .int x :: ls) (.int x :: st) hp := ax_iload_n dX3_insertLine_16 rfl rfl
theorem dX3_insertLine_17 : decode cX3_insertLine 17 = .ok (.iload_n 2, 1) := by decide +kernel
theorem sX3_insertLine_17 : ab_X rom K cX3_insertLine 1 0 17 (v0 :: v1 :: .int x :: ls) st hp = ab_X rom K cX3_insertLine 1 0 18 (v0 :: v1 :: .int x :: ls) (.int x :: st) hp := ax_iload_n dX3_insertLine_17 rfl rfl
theorem dX3_insertLine_18 : decode cX3_insertLine 18 = .ok (.invokestatic 52, 3) := by decide +kernel
theorem sX3_insertLine_18_0 : ab_X rom K cX3_insertLine 1 0 18 ls [.int y, .int x] hp = ab_X rom K cX3_insertLine 1 0 21 ls [.int (ab_max x y)] hp := ax_max dX3_insertLine_18 kc_1_52 rfl (Nat.le_of_ble_eq_true rfl)
theorem sX3_insertLine_18_1 : ab_X rom K cX3_insertLine 1 0 18 ls [.int y, .int x, v0] hp = ab_X rom K cX3_insertLine 1 0 21 ls [.int (ab_max x y), v0] hp := ax_max dX3_insertLine_18 kc_1_52 rfl (Nat.le_of_ble_eq_true rfl)
theorem sX3_insertLine_18_2 : ab_X rom K cX3_insertLine 1 0 18 ls [.int y, .int x, v0, v1] hp = ab_X rom K cX3_insertLine 1 0 21 ls [.int (ab_max x y), v0, v1] hp := ax_max dX3_insertLine_18 kc_1_52 rfl (Nat.le_of_ble_eq_true rfl)
theorem sX3_insertLine_18_3 : ab_X rom K cX3_insertLine 1 0 18 ls [.int y, .int x, v0, v1, v2] hp = ab_X rom K cX3_insertLine 1 0 21 ls [.int (ab_max x y), v0, v1, v2] hp := ax_max dX3_insertLine_18 kc_1_52 rfl (Nat.le_of_ble_eq_true rfl)
theorem dX3_insertLine_21 : decode cX3_insertLine 21 = .ok (.istore 4, 2) := by decide +kernel
theorem sX3_insertLine_21i : ab_X rom K cX3_insertLine 1 0 21 (v0 :: v1 :: v2 :: .int y :: v4 :: ls) (.int x :: st) hp = ab_X rom K cX3_insertLine 1 0 23 (v0 :: v1 :: v2 :: .int y :: .int x :: ls) st hp := ax_istore dX3_insertLine_21 (ax_lt (v := v4) rfl) (ab_nl_c1 (j := 3) (v := .int y) rfl (ab_c1_int _)) rfl rfl
theorem sX3_insertLine_21r : ab_X rom K cX3_insertLine 1 0 21 (v0 :: v1 :: v2 :: .ref a2 :: v4 :: ls) (.int x :: st) hp = ab_X rom K cX3_insertLine 1 0 23 (v0 :: v1 :: v2 :: .ref a2 :: .int x :: ls) st hp := ax_istore dX3_insertLine_21 (ax_lt (v := v4) rfl) (ab_nl_c1 (j := 3) (v := .ref a2) rfl (ab_c1_ref _)) rfl rfl
theorem sX3_insertLine_21n : ab_X rom K cX3_insertLine 1 0 21 (v0 :: v1 :: v2 :: .null :: v4 :: ls) (.int x :: st) hp = ab_X rom K cX3_insertLine 1 0 23 (v0 :: v1 :: v2 :: .null :: .int x :: ls) st hp := ax_istore dX3_insertLine_21 (ax_lt (v := v4) rfl) (ab_nl_c1 (j := 3) (v := .null) rfl ab_c1_null) rfl rfl
theorem dX3_insertLine_23 : decode cX3_insertLine 23 = .ok (.aload_n 0, 1) := by decide +kernel
theorem sX3_insertLine_23 : ab_X rom K cX3_insertLine 1 0 23 (.ref a :: ls) st hp = ab_X rom K cX3_insertLine 1 0 24 (.ref a :: ls) (.ref a :: st) hp := ax_aload_n dX3_insertLine_23 rfl rfl
theorem dX3_insertLine_24 : decode cX3_insertLine 24 = .ok (.getfield 15, 3) := by decide +kernel
theorem sX3_insertLine_24 : ab_X rom K cX3_insertLine 1 0 24 ls (.ref a :: st) hp = (ab_fld hp a 1 1).bind (fun v => ab_X rom K cX3_insertLine 1 0 27 ls (v :: st) hp) := ax_getfield dX3_insertLine_24 kf_1_15 rfl
theorem dX3_insertLine_27 : decode cX3_insertLine 27 = .ok (.istore 5, 2) := by decide +kernel
theorem sX3_insertLine_27i : ab_X rom K cX3_insertLine 1 0 27 (v0 :: v1 :: v2 :: v3 :: .int y :: v5 :: ls) (.int x :: st) hp = ab_X rom K cX3_insertLine 1 0 29 (v0 :: v1 :: v2 :: v3 :: .int y :: .int x :: ls) st hp := ax_istore dX3_insertLine_27 (ax_lt (v := v5) rfl) (ab_nl_c1 (j := 4) (v := .int y) rfl (ab_c1_int _)) rfl rfl
theorem sX3_insertLine_27r : ab_X rom K cX3_insertLine 1 0 27 (v0 :: v1 :: v2 :: v3 :: .ref a2 :: v5 :: ls) (.int x :: st) hp = ab_X rom K cX3_insertLine 1 0 29 (v0 :: v1 :: v2 :: v3 :: .ref a2 :: .int x :: ls) st hp := ax_istore dX3_insertLine_27 (ax_lt (v := v5) rfl) (ab_nl_c1 (j := 4) (v := .ref a2) rfl (ab_c1_ref _)) rfl rfl
theorem sX3_insertLine_27n : ab_X rom K cX3_insertLine 1 0 27 (v0 :: v1 :: v2 :: v3 :: .null :: v5 :: ls) (.int x :: st) hp = ab_X rom K cX3_insertLine 1 0 29 (v0 :: v1 :: v2 :: v3 :: .null :: .int x :: ls) st hp := ax_istore dX3_insertLine_27 (ax_lt (v := v5) rfl) (ab_nl_c1 (j := 4) (v := .null) rfl ab_c1_null) rfl rfl
theorem dX3_insertLine_29 : decode cX3_insertLine 29 = .ok (.aload_n 0, 1) := by decide +kernel
theorem sX3_insertLine_29 : ab_X rom K cX3_insertLine 1 0 29 (.ref a :: ls) st hp = ab_X rom K cX3_insertLine 1 0 30 (.ref a :: ls) (.ref a :: st) hp := ax_aload_n dX3_insertLine_29 rfl rfl
theorem dX3_insertLine_30 : decode cX3_insertLine 30 = .ok (.getfield 15, 3) := by decide +kernel
theorem sX3_insertLine_30 : ab_X rom K cX3_insertLine 1 0 30 ls (.ref a :: st) hp = (ab_fld hp a 1 1).bind (fun v => ab_X rom K cX3_insertLine 1 0 33 ls (v :: st) hp) := ax_getfield dX3_insertLine_30 kf_1_15 rfl
theorem dX3_insertLine_33 : decode cX3_insertLine 33 = .ok (.iconst 1, 1) := by decide +kernel
theorem sX3_insertLine_33 : ab_X rom K cX3_insertLine 1 0 33 ls st hp = ab_X rom K cX3_insertLine 1 0 34 ls (.int 1 :: st) hp := ax_iconst dX3_insertLine_33 (by decide) rfl
theorem dX3_insertLine_34 : decode cX3_insertLine 34 = .ok (.isub, 1) := by decide +kernel
theorem sX3_insertLine_34 : ab_X rom K cX3_insertLine 1 0 34 ls (.int y :: .int x :: st) hp = ab_X rom K cX3_insertLine 1 0 35 ls (.int (x - y) :: st) hp := ax_isub dX3_insertLine_34 rfl
theorem dX3_insertLine_35 : decode cX3_insertLine 35 = .ok (.istore 6, 2) := by decide +kernel
theorem sX3_insertLine_35i : ab_X rom K cX3_insertLine 1 0 35 (v0 :: v1 :: v2 :: v3 :: v4 :: .int y :: v6 :: ls) (.int x :: st) hp = ab_X rom K cX3_insertLine 1 0 37 (v0 :: v1 :: v2 :: v3 :: v4 :: .int y :: .int x :: ls) st hp := ax_istore dX3_insertLine_35 (ax_lt (v := v6) rfl) (ab_nl_c1 (j := 5) (v := .int y) rfl (ab_c1_int _)) rfl rfl
theorem sX3_insertLine_35r : ab_X rom K cX3_insertLine 1 0 35 (v0 :: v1 :: v2 :: v3 :: v4 :: .ref a2 :: v6 :: ls) (.int x :: st) hp = ab_X rom K cX3_insertLine 1 0 37 (v0 :: v1 :: v2 :: v3 :: v4 :: .ref a2 :: .int x :: ls) st hp := ax_istore dX3_insertLine_35 (ax_lt (v := v6) rfl) (ab_nl_c1 (j := 5) (v := .ref a2) rfl (ab_c1_ref _)) rfl rfl
theorem sX3_insertLine_35n : ab_X rom K cX3_insertLine 1 0 35 (v0 :: v1 :: v2 :: v3 :: v4 :: .null :: v6 :: ls) (.int x :: st) hp = ab_X rom K cX3_insertLine 1 0 37 (v0 :: v1 :: v2 :: v3 :: v4 :: .null :: .int x :: ls) st hp := ax_istore dX3_insertLine_35 (ax_lt (v := v6) rfl) (ab_nl_c1 (j := 5) (v := .null) rfl ab_c1_null) rfl rfl
theorem dX3_insertLine_37 : decode cX3_insertLine 37 = .ok (.iload 6, 2) := by decide +kernel
theorem sX3_insertLine_37 : ab_X rom K cX3_insertLine 1 0 37 (v0 :: v1 :: v2 :: v3 :: v4 :: v5 :: .int x :: ls) st hp = ab_X rom K cX3_insertLine 1 0 39 (v0 :: v1 :: v2 :: v3 :: v4 :: v5 :: .int x :: ls) (.int x :: st) hp := ax_iload dX3_insertLine_37 rfl rfl
theorem dX3_insertLine_39 : decode cX3_insertLine 39 = .ok (.ifCond .lt 82, 3) := by decide +kernel
theorem sX3_insertLine_39 : ab_X rom K cX3_insertLine 1 0 39 ls (.int x :: st) hp = if x < 0 then ab_X rom K cX3_insertLine 1 0 121 ls st hp else ab_X rom K cX3_insertLine 1 0 42 ls st hp := ax_if_lt dX3_insertLine_39 (by decide) rfl
theorem dX3_insertLine_42 : decode cX3_insertLine 42 = .ok (.aload_n 0, 1) := by decide +kernel
theorem sX3_insertLine_42 : ab_X rom K cX3_insertLine 1 0 42 (.ref a :: ls) st hp = ab_X rom K cX3_insertLine 1 0 43 (.ref a :: ls) (.ref a :: st) hp := ax_aload_n dX3_insertLine_42 rfl rfl
theorem dX3_insertLine_43 : decode cX3_insertLine 43 = .ok (.getfield 18, 3) := by decide +kernel
theorem sX3_insertLine_43 : ab_X rom K cX3_insertLine 1 0 43 ls (.ref a :: st) hp = (ab_fld hp a 1 2).bind (fun v => ab_X rom K cX3_insertLine 1 0 46 ls (v :: st) hp) := ax_getfield dX3_insertLine_43 kf_1_18 rfl
theorem dX3_insertLine_46 : decode cX3_insertLine 46 = .ok (.iload 6, 2) := by decide +kernel
theorem sX3_insertLine_46 : ab_X rom K cX3_insertLine 1 0 46 (v0 :: v1 :: v2 :: v3 :: v4 :: v5 :: .int x :: ls) st hp = ab_X rom K cX3_insertLine 1 0 48 (v0 :: v1 :: v2 :: v3 :: v4 :: v5 :: .int x :: ls) (.int x :: st) hp := ax_iload dX3_insertLine_46 rfl rfl
theorem dX3_insertLine_48 : decode cX3_insertLine 48 = .ok (.iaload, 1) := by decide +kernel
theorem sX3_insertLine_48 : ab_X rom K cX3_insertLine 1 0 48 ls (.int x :: .ref a :: st) hp = (ab_ard rom 0 hp a x).bind (fun v => ab_X rom K cX3_insertLine 1 0 49 ls (.int v :: st) hp) := ax_iaload dX3_insertLine_48 rfl
theorem dX3_insertLine_49 : decode cX3_insertLine 49 = .ok (.iload_n 3, 1) := by decide +kernel
theorem sX3_insertLine_49 : ab_X rom K cX3_insertLine 1 0 49 (v0 :: v1 :: v2 :: .int x :: ls) st hp = ab_X rom K cX3_insertLine 1 0 50 (v0 :: v1 :: v2 :: .int x :: ls) (.int x :: st) hp := ax_iload_n dX3_insertLine_49 rfl rfl
theorem dX3_insertLine_50 : decode cX3_insertLine 50 = .ok (.if_icmp .lt 71, 3) := by decide +kernel
theorem sX3_insertLine_50 : ab_X rom K cX3_insertLine 1 0 50 ls (.int y :: .int x :: st) hp = if x < y then ab_X rom K cX3_insertLine 1 0 121 ls st hp else ab_X rom K cX3_insertLine 1 0 53 ls st hp := ax_icmp_lt dX3_insertLine_50 (by decide) rfl
theorem dX3_insertLine_53 : decode cX3_insertLine 53 = .ok (.aload_n 0, 1) := by decide +kernel
theorem sX3_insertLine_53 : ab_X rom K cX3_insertLine 1 0 53 (.ref a :: ls) st hp = ab_X rom K cX3_insertLine 1 0 54 (.ref a :: ls) (.ref a :: st) hp := ax_aload_n dX3_insertLine_53 rfl rfl
theorem dX3_insertLine_54 : decode cX3_insertLine 54 = .ok (.getfield 18, 3) := by decide +kernel
theorem sX3_insertLine_54 : ab_X rom K cX3_insertLine 1 0 54 ls (.ref a :: st) hp = (ab_fld hp a 1 2).bind (fun v => ab_X rom K cX3_insertLine 1 0 57 ls (v :: st) hp) := ax_getfield dX3_insertLine_54 kf_1_18 rfl
theorem dX3_insertLine_57 : decode cX3_insertLine 57 = .ok (.iload 6, 2) := by decide +kernel
theorem sX3_insertLine_57 : ab_X rom K cX3_insertLine 1 0 57 (v0 :: v1 :: v2 :: v3 :: v4 :: v5 :: .int x :: ls) st hp = ab_X rom K cX3_insertLine 1 0 59 (v0 :: v1 :: v2 :: v3 :: v4 :: v5 :: .int x :: ls) (.int x :: st) hp := ax_iload dX3_insertLine_57 rfl rfl
theorem dX3_insertLine_59 : decode cX3_insertLine 59 = .ok (.iaload, 1) := by decide +kernel
theorem sX3_insertLine_59 : ab_X rom K cX3_insertLine 1 0 59 ls (.int x :: .ref a :: st) hp = (ab_ard rom 0 hp a x).bind (fun v => ab_X rom K cX3_insertLine 1 0 60 ls (.int v :: st) hp) := ax_iaload dX3_insertLine_59 rfl
theorem dX3_insertLine_60 : decode cX3_insertLine 60 = .ok (.iload_n 3, 1) := by decide +kernel
theorem sX3_insertLine_60 : ab_X rom K cX3_insertLine 1 0 60 (v0 :: v1 :: v2 :: .int x :: ls) st hp = ab_X rom K cX3_insertLine 1 0 61 (v0 :: v1 :: v2 :: .int x :: ls) (.int x :: st) hp := ax_iload_n dX3_insertLine_60 rfl rfl
theorem dX3_insertLine_61 : decode cX3_insertLine 61 = .ok (.if_icmp .ne 18, 3) := by decide +kernel
theorem sX3_insertLine_61 : ab_X rom K cX3_insertLine 1 0 61 ls (.int y :: .int x :: st) hp = if x = y then ab_X rom K cX3_insertLine 1 0 64 ls st hp else ab_X rom K cX3_insertLine 1 0 79 ls st hp := ax_icmp_ne dX3_insertLine_61 (by decide) rfl
theorem dX3_insertLine_64 : decode cX3_insertLine 64 = .ok (.aload_n 0, 1) := by decide +kernel
theorem sX3_insertLine_64 : ab_X rom K cX3_insertLine 1 0 64 (.ref a :: ls) st hp = ab_X rom K cX3_insertLine 1 0 65 (.ref a :: ls) (.ref a :: st) hp := ax_aload_n dX3_insertLine_64 rfl rfl
theorem dX3_insertLine_65 : decode cX3_insertLine 65 = .ok (.getfield 22, 3) := by decide +kernel
theorem sX3_insertLine_65 : ab_X rom K cX3_insertLine 1 0 65 ls (.ref a :: st) hp = (ab_fld hp a 1 3).bind (fun v => ab_X rom K cX3_insertLine 1 0 68 ls (v :: st) hp) := ax_getfield dX3_insertLine_65 kf_1_22 rfl
theorem dX3_insertLine_68 : decode cX3_insertLine 68 = .ok (.iload 6, 2) := by decide +kernel
theorem sX3_insertLine_68 : ab_X rom K cX3_insertLine 1 0 68 (v0 :: v1 :: v2 :: v3 :: v4 :: v5 :: .int x :: ls) st hp = ab_X rom K cX3_insertLine 1 0 70 (v0 :: v1 :: v2 :: v3 :: v4 :: v5 :: .int x :: ls) (.int x :: st) hp := ax_iload dX3_insertLine_68 rfl rfl
theorem dX3_insertLine_70 : decode cX3_insertLine 70 = .ok (.iaload, 1) := by decide +kernel
theorem sX3_insertLine_70 : ab_X rom K cX3_insertLine 1 0 70 ls (.int x :: .ref a :: st) hp = (ab_ard rom 0 hp a x).bind (fun v => ab_X rom K cX3_insertLine 1 0 71 ls (.int v :: st) hp) := ax_iaload dX3_insertLine_70 rfl
theorem dX3_insertLine_71 : decode cX3_insertLine 71 = .ok (.iload 4, 2) := by decide +kernel
theorem sX3_insertLine_71 : ab_X rom K cX3_insertLine 1 0 71 (v0 :: v1 :: v2 :: v3 :: .int x :: ls) st hp = ab_X rom K cX3_insertLine 1 0 73 (v0 :: v1 :: v2 :: v3 :: .int x :: ls) (.int x :: st) hp := ax_iload dX3_insertLine_71 rfl rfl
theorem dX3_insertLine_73 : decode cX3_insertLine 73 = .ok (.if_icmp .ge 6, 3) := by decide +kernel
theorem sX3_insertLine_73 : ab_X rom K cX3_insertLine 1 0 73 ls (.int y :: .int x :: st) hp = if x < y then ab_X rom K cX3_insertLine 1 0 76 ls st hp else ab_X rom K cX3_insertLine 1 0 79 ls st hp := ax_icmp_ge dX3_insertLine_73 (by decide) rfl
theorem dX3_insertLine_76 : decode cX3_insertLine 76 = .ok (.goto 45, 3) := by decide +kernel
theorem sX3_insertLine_76 : ab_X rom K cX3_insertLine 1 0 76 ls st hp = ab_X rom K cX3_insertLine 1 0 121 ls st hp := ax_goto dX3_insertLine_76 (by decide)
theorem dX3_insertLine_79 : decode cX3_insertLine 79 = .ok (.aload_n 0, 1) := by decide +kernel
theorem sX3_insertLine_79 : ab_X rom K cX3_insertLine 1 0 79 (.ref a :: ls) st hp = ab_X rom K cX3_insertLine 1 0 80 (.ref a :: ls) (.ref a :: st) hp := ax_aload_n dX3_insertLine_79 rfl rfl
theorem dX3_insertLine_80 : decode cX3_insertLine 80 = .ok (.getfield 18, 3) := by decide +kernel
theorem sX3_insertLine_80 : ab_X rom K cX3_insertLine 1 0 80 ls (.ref a :: st) hp = (ab_fld hp a 1 2).bind (fun v => ab_X rom K cX3_insertLine 1 0 83 ls (v :: st) hp) := ax_getfield dX3_insertLine_80 kf_1_18 rfl
theorem dX3_insertLine_83 : decode cX3_insertLine 83 = .ok (.iload 6, 2) := by decide +kernel
theorem sX3_insertLine_83 : ab_X rom K cX3_insertLine 1 0 83 (v0 :: v1 :: v2 :: v3 :: v4 :: v5 :: .int x :: ls) st hp = ab_X rom K cX3_insertLine 1 0 85 (v0 :: v1 :: v2 :: v3 :: v4 :: v5 :: .int x :: ls) (.int x :: st) hp := ax_iload dX3_insertLine_83 rfl rfl
theorem dX3_insertLine_85 : decode cX3_insertLine 85 = .ok (.iconst 1, 1) := by decide +kernel
theorem sX3_insertLine_85 : ab_X rom K cX3_insertLine 1 0 85 ls st hp = ab_X rom K cX3_insertLine 1 0 86 ls (.int 1 :: st) hp := ax_iconst dX3_insertLine_85 (by decide) rfl
theorem dX3_insertLine_86 : decode cX3_insertLine 86 = .ok (.iadd, 1) := by decide +kernel
theorem sX3_insertLine_86 : ab_X rom K cX3_insertLine 1 0 86 ls (.int y :: .int x :: st) hp = ab_X rom K cX3_insertLine 1 0 87 ls (.int (x + y) :: st) hp := ax_iadd dX3_insertLine_86 rfl
theorem dX3_insertLine_87 : decode cX3_insertLine 87 = .ok (.aload_n 0, 1) := by decide +kernel
theorem sX3_insertLine_87 : ab_X rom K cX3_insertLine 1 0 87 (.ref a :: ls) st hp = ab_X rom K cX3_insertLine 1 0 88 (.ref a :: ls) (.ref a :: st) hp := ax_aload_n dX3_insertLine_87 rfl rfl
theorem dX3_insertLine_88 : decode cX3_insertLine 88 = .ok (.getfield 18, 3) := by decide +kernel
theorem sX3_insertLine_88 : ab_X rom K cX3_insertLine 1 0 88 ls (.ref a :: st) hp = (ab_fld hp a 1 2).bind (fun v => ab_X rom K cX3_insertLine 1 0 91 ls (v :: st) hp) := ax_getfield dX3_insertLine_88 kf_1_18 rfl
theorem dX3_insertLine_91 : decode cX3_insertLine 91 = .ok (.iload 6, 2) := by decide +kernel
theorem sX3_insertLine_91 : ab_X rom K cX3_insertLine 1 0 91 (v0 :: v1 :: v2 :: v3 :: v4 :: v5 :: .int x :: ls) st hp = ab_X rom K cX3_insertLine 1 0 93 (v0 :: v1 :: v2 :: v3 :: v4 :: v5 :: .int x :: ls) (.int x :: st) hp := ax_iload dX3_insertLine_91 rfl rfl
theorem dX3_insertLine_93 : decode cX3_insertLine 93 = .ok (.iaload, 1) := by decide +kernel
theorem sX3_insertLine_93 : ab_X rom K cX3_insertLine 1 0 93 ls (.int x :: .ref a :: st) hp = (ab_ard rom 0 hp a x).bind (fun v => ab_X rom K cX3_insertLine 1 0 94 ls (.int v :: st) hp) := ax_iaload dX3_insertLine_93 rfl
theorem dX3_insertLine_94 : decode cX3_insertLine 94 = .ok (.iastore, 1) := by decide +kernel
theorem sX3_insertLine_94 : ab_X rom K cX3_insertLine 1 0 94 ls (.int y :: .int x :: .ref a :: st) hp = (ab_awr 0 hp a x y).bind (fun hp' => ab_X rom K cX3_insertLine 1 0 95 ls st hp') := ax_iastore dX3_insertLine_94 rfl
theorem dX3_insertLine_95 : decode cX3_insertLine 95 = .ok (.aload_n 0, 1) := by decide +kernel
theorem sX3_insertLine_95 : ab_X rom K cX3_insertLine 1 0 95 (.ref a :: ls) st hp = ab_X rom K cX3_insertLine 1 0 96 (.ref a :: ls) (.ref a :: st) hp := ax_aload_n dX3_insertLine_95 rfl rfl
theorem dX3_insertLine_96 : decode cX3_insertLine 96 = .ok (.getfield 22, 3) := by decide +kernel
theorem sX3_insertLine_96 : ab_X rom K cX3_insertLine 1 0 96 ls (.ref a :: st) hp = (ab_fld hp a 1 3).bind (fun v => ab_X rom K cX3_insertLine 1 0 99 ls (v :: st) hp) := ax_getfield dX3_insertLine_96 kf_1_22 rfl
theorem dX3_insertLine_99 : decode cX3_insertLine 99 = .ok (.iload 6, 2) := by decide +kernel
theorem sX3_insertLine_99 : ab_X rom K cX3_insertLine 1 0 99 (v0 :: v1 :: v2 :: v3 :: v4 :: v5 :: .int x :: ls) st hp = ab_X rom K cX3_insertLine 1 0 101 (v0 :: v1 :: v2 :: v3 :: v4 :: v5 :: .int x :: ls) (.int x :: st) hp := ax_iload dX3_insertLine_99 rfl rfl
theorem dX3_insertLine_101 : decode cX3_insertLine 101 = .ok (.iconst 1, 1) := by decide +kernel
theorem sX3_insertLine_101 : ab_X rom K cX3_insertLine 1 0 101 ls st hp = ab_X rom K cX3_insertLine 1 0 102 ls (.int 1 :: st) hp := ax_iconst dX3_insertLine_101 (by decide) rfl
theorem dX3_insertLine_102 : decode cX3_insertLine 102 = .ok (.iadd, 1) := by decide +kernel
theorem sX3_insertLine_102 : ab_X rom K cX3_insertLine 1 0 102 ls (.int y :: .int x :: st) hp = ab_X rom K cX3_insertLine 1 0 103 ls (.int (x + y) :: st) hp := ax_iadd dX3_insertLine_102 rfl
theorem dX3_insertLine_103 : decode cX3_insertLine 103 = .ok (.aload_n 0, 1) := by decide +kernel
theorem sX3_insertLine_103 : ab_X rom K cX3_insertLine 1 0 103 (.ref a :: ls) st hp = ab_X rom K cX3_insertLine 1 0 104 (.ref a :: ls) (.ref a :: st) hp := ax_aload_n dX3_insertLine_103 rfl rfl
theorem dX3_insertLine_104 : decode cX3_insertLine 104 = .ok (.getfield 22, 3) := by decide +kernel
theorem sX3_insertLine_104 : ab_X rom K cX3_insertLine 1 0 104 ls (.ref a :: st) hp = (ab_fld hp a 1 3).bind (fun v => ab_X rom K cX3_insertLine 1 0 107 ls (v :: st) hp) := ax_getfield dX3_insertLine_104 kf_1_22 rfl
theorem dX3_insertLine_107 : decode cX3_insertLine 107 = .ok (.iload 6, 2) := by decide +kernel
theorem sX3_insertLine_107 : ab_X rom K cX3_insertLine 1 0 107 (v0 :: v1 :: v2 :: v3 :: v4 :: v5 :: .int x :: ls) st hp = ab_X rom K cX3_insertLine 1 0 109 (v0 :: v1 :: v2 :: v3 :: v4 :: v5 :: .int x :: ls) (.int x :: st) hp := ax_iload dX3_insertLine_107 rfl rfl
theorem dX3_insertLine_109 : decode cX3_insertLine 109 = .ok (.iaload, 1) := by decide +kernel
theorem sX3_insertLine_109 : ab_X rom K cX3_insertLine 1 0 109 ls (.int x :: .ref a :: st) hp = (ab_ard rom 0 hp a x).bind (fun v => ab_X rom K cX3_insertLine 1 0 110 ls (.int v :: st) hp) := ax_iaload dX3_insertLine_109 rfl
theorem dX3_insertLine_110 : decode cX3_insertLine 110 = .ok (.iastore, 1) := by decide +kernel
theorem sX3_insertLine_110 : ab_X rom K cX3_insertLine 1 0 110 ls (.int y :: .int x :: .ref a :: st) hp = (ab_awr 0 hp a x y).bind (fun hp' => ab_X rom K cX3_insertLine 1 0 111 ls st hp') := ax_iastore dX3_insertLine_110 rfl
theorem dX3_insertLine_111 : decode cX3_insertLine 111 = .ok (.iload 6, 2) := by decide +kernel
theorem sX3_insertLine_111 : ab_X rom K cX3_insertLine 1 0 111 (v0 :: v1 :: v2 :: v3 :: v4 :: v5 :: .int x :: ls) st hp = ab_X rom K cX3_insertLine 1 0 113 (v0 :: v1 :: v2 :: v3 :: v4 :: v5 :: .int x :: ls) (.int x :: st) hp := ax_iload dX3_insertLine_111 rfl rfl
theorem dX3_insertLine_113 : decode cX3_insertLine 113 = .ok (.istore 5, 2) := by decide +kernel
theorem sX3_insertLine_113i : ab_X rom K cX3_insertLine 1 0 113 (v0 :: v1 :: v2 :: v3 :: .int y :: v5 :: ls) (.int x :: st) hp = ab_X rom K cX3_insertLine 1 0 115 (v0 :: v1 :: v2 :: v3 :: .int y :: .int x :: ls) st hp := ax_istore dX3_insertLine_113 (ax_lt (v := v5) rfl) (ab_nl_c1 (j := 4) (v := .int y) rfl (ab_c1_int _)) rfl rfl
theorem sX3_insertLine_113r : ab_X rom K cX3_insertLine 1 0 113 (v0 :: v1 :: v2 :: v3 :: .ref a2 :: v5 :: ls) (.int x :: st) hp = ab_X rom K cX3_insertLine 1 0 115 (v0 :: v1 :: v2 :: v3 :: .ref a2 :: .int x :: ls) st hp := ax_istore dX3_insertLine_113 (ax_lt (v := v5) rfl) (ab_nl_c1 (j := 4) (v := .ref a2) rfl (ab_c1_ref _)) rfl rfl
theorem sX3_insertLine_113n : ab_X rom K cX3_insertLine 1 0 113 (v0 :: v1 :: v2 :: v3 :: .null :: v5 :: ls) (.int x :: st) hp = ab_X rom K cX3_insertLine 1 0 115 (v0 :: v1 :: v2 :: v3 :: .null :: .int x :: ls) st hp := ax_istore dX3_insertLine_113 (ax_lt (v := v5) rfl) (ab_nl_c1 (j := 4) (v := .null) rfl ab_c1_null) rfl rfl
theorem dX3_insertLine_115 : decode cX3_insertLine 115 = .ok (.iinc 6 (-1), 3) := by decide +kernel
theorem sX3_insertLine_115i : ab_X rom K cX3_insertLine 1 0 115 (v0 :: v1 :: v2 :: v3 :: v4 :: .int y :: .int x :: ls) st hp = ab_X rom K cX3_insertLine 1 0 118 (v0 :: v1 :: v2 :: v3 :: v4 :: .int y :: .int (x + (-1)) :: ls) st hp := ax_iinc dX3_insertLine_115 rfl (ab_nl_c1 (j := 5) (v := .int y) rfl (ab_c1_int _)) (by decide) rfl rfl
theorem sX3_insertLine_115r : ab_X rom K cX3_insertLine 1 0 115 (v0 :: v1 :: v2 :: v3 :: v4 :: .ref a2 :: .int x :: ls) st hp = ab_X rom K cX3_insertLine 1 0 118 (v0 :: v1 :: v2 :: v3 :: v4 :: .ref a2 :: .int (x + (-1)) :: ls) st hp := ax_iinc dX3_insertLine_115 rfl (ab_nl_c1 (j := 5) (v := .ref a2) rfl (ab_c1_ref _)) (by decide) rfl rfl
theorem sX3_insertLine_115n : ab_X rom K cX3_insertLine 1 0 115 (v0 :: v1 :: v2 :: v3 :: v4 :: .null :: .int x :: ls) st hp = ab_X rom K cX3_insertLine 1 0 118 (v0 :: v1 :: v2 :: v3 :: v4 :: .null :: .int (x + (-1)) :: ls) st hp := ax_iinc dX3_insertLine_115 rfl (ab_nl_c1 (j := 5) (v := .null) rfl ab_c1_null) (by decide) rfl rfl
theorem dX3_insertLine_118 : decode cX3_insertLine 118 = .ok (.goto (-81), 3) := by decide +kernel
theorem sX3_insertLine_118 : ab_X rom K cX3_insertLine 1 0 118 ls st hp = ab_X rom K cX3_insertLine 1 0 37 ls st hp := ax_goto dX3_insertLine_118 (by decide)
theorem dX3_insertLine_121 : decode cX3_insertLine 121 = .ok (.aload_n 0, 1) := by decide +kernel
theorem sX3_insertLine_121 : ab_X rom K cX3_insertLine 1 0 121 (.ref a :: ls) st hp = ab_X rom K cX3_insertLine 1 0 122 (.ref a :: ls) (.ref a :: st) hp := ax_aload_n dX3_insertLine_121 rfl rfl
theorem dX3_insertLine_122 : decode cX3_insertLine 122 = .ok (.getfield 18, 3) := by decide +kernel
theorem sX3_insertLine_122 : ab_X rom K cX3_insertLine 1 0 122 ls (.ref a :: st) hp = (ab_fld hp a 1 2).bind (fun v => ab_X rom K cX3_insertLine 1 0 125 ls (v :: st) hp) := ax_getfield dX3_insertLine_122 kf_1_18 rfl
theorem dX3_insertLine_125 : decode cX3_insertLine 125 = .ok (.iload 5, 2) := by decide +kernel
theorem sX3_insertLine_125 : ab_X rom K cX3_insertLine 1 0 125 (v0 :: v1 :: v2 :: v3 :: v4 :: .int x :: ls) st hp = ab_X rom K cX3_insertLine 1 0 127 (v0 :: v1 :: v2 :: v3 :: v4 :: .int x :: ls) (.int x :: st) hp := ax_iload dX3_insertLine_125 rfl rfl
theorem dX3_insertLine_127 : decode cX3_insertLine 127 = .ok (.iload_n 3, 1) := by decide +kernel
theorem sX3_insertLine_127 : ab_X rom K cX3_insertLine 1 0 127 (v0 :: v1 :: v2 :: .int x :: ls) st hp = ab_X rom K cX3_insertLine 1 0 128 (v0 :: v1 :: v2 :: .int x :: ls) (.int x :: st) hp := ax_iload_n dX3_insertLine_127 rfl rfl
theorem dX3_insertLine_128 : decode cX3_insertLine 128 = .ok (.iastore, 1) := by decide +kernel
theorem sX3_insertLine_128 : ab_X rom K cX3_insertLine 1 0 128 ls (.int y :: .int x :: .ref a :: st) hp = (ab_awr 0 hp a x y).bind (fun hp' => ab_X rom K cX3_insertLine 1 0 129 ls st hp') := ax_iastore dX3_insertLine_128 rfl
theorem dX3_insertLine_129 : decode cX3_insertLine 129 = .ok (.aload_n 0, 1) := by decide +kernel
theorem sX3_insertLine_129 : ab_X rom K cX3_insertLine 1 0 129 (.ref a :: ls) st hp = ab_X rom K cX3_insertLine 1 0 130 (.ref a :: ls) (.ref a :: st) hp := ax_aload_n dX3_insertLine_129 rfl rfl
theorem dX3_insertLine_130 : decode cX3_insertLine 130 = .ok (.getfield 22, 3) := by decide +kernel
theorem sX3_insertLine_130 : ab_X rom K cX3_insertLine 1 0 130 ls (.ref a :: st) hp = (ab_fld hp a 1 3).bind (fun v => ab_X rom K cX3_insertLine 1 0 133 ls (v :: st) hp) := ax_getfield dX3_insertLine_130 kf_1_22 rfl
theorem dX3_insertLine_133 : decode cX3_insertLine 133 = .ok (.iload 5, 2) := by decide +kernel
theorem sX3_insertLine_133 : ab_X rom K cX3_insertLine 1 0 133 (v0 :: v1 :: v2 :: v3 :: v4 :: .int x :: ls) st hp = ab_X rom K cX3_insertLine 1 0 135 (v0 :: v1 :: v2 :: v3 :: v4 :: .int x :: ls) (.int x :: st) hp := ax_iload dX3_insertLine_133 rfl rfl
theorem dX3_insertLine_135 : decode cX3_insertLine 135 = .ok (.iload 4, 2) := by decide +kernel
theorem sX3_insertLine_135 : ab_X rom K cX3_insertLine 1 0 135 (v0 :: v1 :: v2 :: v3 :: .int x :: ls) st hp = ab_X rom K cX3_insertLine 1 0 137 (v0 :: v1 :: v2 :: v3 :: .int x :: ls) (.int x :: st) hp := ax_iload dX3_insertLine_135 rfl rfl
theorem dX3_insertLine_137 : decode cX3_insertLine 137 = .ok (.iastore, 1) := by decide +kernel
theorem sX3_insertLine_137 : ab_X rom K cX3_insertLine 1 0 137 ls (.int y :: .int x :: .ref a :: st) hp = (ab_awr 0 hp a x y).bind (fun hp' => ab_X rom K cX3_insertLine 1 0 138 ls st hp') := ax_iastore dX3_insertLine_137 rfl
theorem dX3_insertLine_138 : decode cX3_insertLine 138 = .ok (.aload_n 0, 1) := by decide +kernel
theorem sX3_insertLine_138 : ab_X rom K cX3_insertLine 1 0 138 (.ref a :: ls) st hp = ab_X rom K cX3_insertLine 1 0 139 (.ref a :: ls) (.ref a :: st) hp := ax_aload_n dX3_insertLine_138 rfl rfl
theorem dX3_insertLine_139 : decode cX3_insertLine 139 = .ok (.dup, 1) := by decide +kernel
theorem sX3_insertLine_139i : ab_X rom K cX3_insertLine 1 0 139 ls (.int x :: st) hp = ab_X rom K cX3_insertLine 1 0 140 ls (.int x :: .int x :: st) hp := ax_dup dX3_insertLine_139 rfl (ab_c1_int _)
theorem sX3_insertLine_139r : ab_X rom K cX3_insertLine 1 0 139 ls (.ref a :: st) hp = ab_X rom K cX3_insertLine 1 0 140 ls (.ref a :: .ref a :: st) hp := ax_dup dX3_insertLine_139 rfl (ab_c1_ref _)
theorem dX3_insertLine_140 : decode cX3_insertLine 140 = .ok (.getfield 15, 3) := by decide +kernel
theorem sX3_insertLine_140 : ab_X rom K cX3_insertLine 1 0 140 ls (.ref a :: st) hp = (ab_fld hp a 1 1).bind (fun v => ab_X rom K cX3_insertLine 1 0 143 ls (v :: st) hp) := ax_getfield dX3_insertLine_140 kf_1_15 rfl
theorem dX3_insertLine_143 : decode cX3_insertLine 143 = .ok (.iconst 1, 1) := by decide +kernel
theorem sX3_insertLine_143 : ab_X rom K cX3_insertLine 1 0 143 ls st hp = ab_X rom K cX3_insertLine 1 0 144 ls (.int 1 :: st) hp := ax_iconst dX3_insertLine_143 (by decide) rfl
theorem dX3_insertLine_144 : decode cX3_insertLine 144 = .ok (.iadd, 1) := by decide +kernel
theorem sX3_insertLine_144 : ab_X rom K cX3_insertLine 1 0 144 ls (.int y :: .int x :: st) hp = ab_X rom K cX3_insertLine 1 0 145 ls (.int (x + y) :: st) hp := ax_iadd dX3_insertLine_144 rfl
theorem dX3_insertLine_145 : decode cX3_insertLine 145 = .ok (.putfield 15, 3) := by decide +kernel
theorem sX3_insertLine_145 : ab_X rom K cX3_insertLine 1 0 145 ls (.int x :: .ref a :: st) hp = (ab_fpt hp a 1 1 (.int x)).bind (fun hp' => ab_X rom K cX3_insertLine 1 0 148 ls st hp') := ax_putfield dX3_insertLine_145 kf_1_15 rfl (Or.inl rfl) rfl
theorem dX3_insertLine_148 : decode cX3_insertLine 148 = .ok (.aload_n 0, 1) := by decide +kernel
theorem sX3_insertLine_148 : ab_X rom K cX3_insertLine 1 0 148 (.ref a :: ls) st hp = ab_X rom K cX3_insertLine 1 0 149 (.ref a :: ls) (.ref a :: st) hp := ax_aload_n dX3_insertLine_148 rfl rfl
theorem dX3_insertLine_149 : decode cX3_insertLine 149 = .ok (.getfield 28, 3) := by decide +kernel
theorem sX3_insertLine_149 : ab_X rom K cX3_insertLine 1 0 149 ls (.ref a :: st) hp = (ab_fld hp a 1 5).bind (fun v => ab_X rom K cX3_insertLine 1 0 152 ls (v :: st) hp) := ax_getfield dX3_insertLine_149 kf_1_28 rfl
theorem dX3_insertLine_152 : decode cX3_insertLine 152 = .ok (.iload_n 1, 1) := by decide +kernel
theorem sX3_insertLine_152 : ab_X rom K cX3_insertLine 1 0 152 (v0 :: .int x :: ls) st hp = ab_X rom K cX3_insertLine 1 0 153 (v0 :: .int x :: ls) (.int x :: st) hp := ax_iload_n dX3_insertLine_152 rfl rfl
theorem dX3_insertLine_153 : decode cX3_insertLine 153 = .ok (.dup2, 1) := by decide +kernel
theorem sX3_insertLine_153 : ab_X rom K cX3_insertLine 1 0 153 ls (.int x :: .ref a :: st) hp = ab_X rom K cX3_insertLine 1 0 154 ls (.int x :: .ref a :: .int x :: .ref a :: st) hp := ax_dup2 dX3_insertLine_153 rfl (ab_c1_int _) (ab_c1_ref _)
theorem dX3_insertLine_154 : decode cX3_insertLine 154 = .ok (.iaload, 1) := by decide +kernel
theorem sX3_insertLine_154 : ab_X rom K cX3_insertLine 1 0 154 ls (.int x :: .ref a :: st) hp = (ab_ard rom 0 hp a x).bind (fun v => ab_X rom K cX3_insertLine 1 0 155 ls (.int v :: st) hp) := ax_iaload dX3_insertLine_154 rfl
theorem dX3_insertLine_155 : decode cX3_insertLine 155 = .ok (.iconst 1, 1) := by decide +kernel
theorem sX3_insertLine_155 : ab_X rom K cX3_insertLine 1 0 155 ls st hp = ab_X rom K cX3_insertLine 1 0 156 ls (.int 1 :: st) hp := ax_iconst dX3_insertLine_155 (by decide) rfl
theorem dX3_insertLine_156 : decode cX3_insertLine 156 = .ok (.iload_n 2, 1) := by decide +kernel
theorem sX3_insertLine_156 : ab_X rom K cX3_insertLine 1 0 156 (v0 :: v1 :: .int x :: ls) st hp = ab_X rom K cX3_insertLine 1 0 157 (v0 :: v1 :: .int x :: ls) (.int x :: st) hp := ax_iload_n dX3_insertLine_156 rfl rfl
theorem dX3_insertLine_157 : decode cX3_insertLine 157 = .ok (.ishl, 1) := by decide +kernel
theorem sX3_insertLine_157 : ab_X rom K cX3_insertLine 1 0 157 ls (.int y :: .int x :: st) hp = ab_X rom K cX3_insertLine 1 0 158 ls (.int (x <<< (y &&& 31)) :: st) hp := ax_ishl dX3_insertLine_157 rfl
theorem dX3_insertLine_158 : decode cX3_insertLine 158 = .ok (.ior, 1) := by decide +kernel
theorem sX3_insertLine_158 : ab_X rom K cX3_insertLine 1 0 158 ls (.int y :: .int x :: st) hp = ab_X rom K cX3_insertLine 1 0 159 ls (.int (x ||| y) :: st) hp := ax_ior dX3_insertLine_158 rfl
theorem dX3_insertLine_159 : decode cX3_insertLine 159 = .ok (.iastore, 1) := by decide +kernel
theorem sX3_insertLine_159 : ab_X rom K cX3_insertLine 1 0 159 ls (.int y :: .int x :: .ref a :: st) hp = (ab_awr 0 hp a x y).bind (fun hp' => ab_X rom K cX3_insertLine 1 0 160 ls st hp') := ax_iastore dX3_insertLine_159 rfl
theorem dX3_insertLine_160 : decode cX3_insertLine 160 = .ok (.aload_n 0, 1) := by decide +kernel
theorem sX3_insertLine_160 : ab_X rom K cX3_insertLine 1 0 160 (.ref a :: ls) st hp = ab_X rom K cX3_insertLine 1 0 161 (.ref a :: ls) (.ref a :: st) hp := ax_aload_n dX3_insertLine_160 rfl rfl
theorem dX3_insertLine_161 : decode cX3_insertLine 161 = .ok (.getfield 28, 3) := by decide +kernel
theorem sX3_insertLine_161 : ab_X rom K cX3_insertLine 1 0 161 ls (.ref a :: st) hp = (ab_fld hp a 1 5).bind (fun v => ab_X rom K cX3_insertLine 1 0 164 ls (v :: st) hp) := ax_getfield dX3_insertLine_161 kf_1_28 rfl
theorem dX3_insertLine_164 : decode cX3_insertLine 164 = .ok (.iload_n 2, 1) := by decide +kernel
theorem sX3_insertLine_164 : ab_X rom K cX3_insertLine 1 0 164 (v0 :: v1 :: .int x :: ls) st hp = ab_X rom K cX3_insertLine 1 0 165 (v0 :: v1 :: .int x :: ls) (.int x :: st) hp := ax_iload_n dX3_insertLine_164 rfl rfl
theorem dX3_insertLine_165 : decode cX3_insertLine 165 = .ok (.dup2, 1) := by decide +kernel
theorem sX3_insertLine_165 : ab_X rom K cX3_insertLine 1 0 165 ls (.int x :: .ref a :: st) hp = ab_X rom K cX3_insertLine 1 0 166 ls (.int x :: .ref a :: .int x :: .ref a :: st) hp := ax_dup2 dX3_insertLine_165 rfl (ab_c1_int _) (ab_c1_ref _)
theorem dX3_insertLine_166 : decode cX3_insertLine 166 = .ok (.iaload, 1) := by decide +kernel
theorem sX3_insertLine_166 : ab_X rom K cX3_insertLine 1 0 166 ls (.int x :: .ref a :: st) hp = (ab_ard rom 0 hp a x).bind (fun v => ab_X rom K cX3_insertLine 1 0 167 ls (.int v :: st) hp) := ax_iaload dX3_insertLine_166 rfl
theorem dX3_insertLine_167 : decode cX3_insertLine 167 = .ok (.iconst 1, 1) := by decide +kernel
theorem sX3_insertLine_167 : ab_X rom K cX3_insertLine 1 0 167 ls st hp = ab_X rom K cX3_insertLine 1 0 168 ls (.int 1 :: st) hp := ax_iconst dX3_insertLine_167 (by decide) rfl
theorem dX3_insertLine_168 : decode cX3_insertLine 168 = .ok (.iload_n 1, 1) := by decide +kernel
theorem sX3_insertLine_168 : ab_X rom K cX3_insertLine 1 0 168 (v0 :: .int x :: ls) st hp = ab_X rom K cX3_insertLine 1 0 169 (v0 :: .int x :: ls) (.int x :: st) hp := ax_iload_n dX3_insertLine_168 rfl rfl
theorem dX3_insertLine_169 : decode cX3_insertLine 169 = .ok (.ishl, 1) := by decide +kernel
theorem sX3_insertLine_169 : ab_X rom K cX3_insertLine 1 0 169 ls (.int y :: .int x :: st) hp = ab_X rom K cX3_insertLine 1 0 170 ls (.int (x <<< (y &&& 31)) :: st) hp := ax_ishl dX3_insertLine_169 rfl
theorem dX3_insertLine_170 : decode cX3_insertLine 170 = .ok (.ior, 1) := by decide +kernel
theorem sX3_insertLine_170 : ab_X rom K cX3_insertLine 1 0 170 ls (.int y :: .int x :: st) hp = ab_X rom K cX3_insertLine 1 0 171 ls (.int (x ||| y) :: st) hp := ax_ior dX3_insertLine_170 rfl
theorem dX3_insertLine_171 : decode cX3_insertLine 171 = .ok (.iastore, 1) := by decide +kernel
theorem sX3_insertLine_171 : ab_X rom K cX3_insertLine 1 0 171 ls (.int y :: .int x :: .ref a :: st) hp = (ab_awr 0 hp a x y).bind (fun hp' => ab_X rom K cX3_insertLine 1 0 172 ls st hp') := ax_iastore dX3_insertLine_171 rfl
theorem dX3_insertLine_172 : decode cX3_insertLine 172 = .ok (.return_, 1) := by decide +kernel
theorem sX3_insertLine_172 : ab_X rom K cX3_insertLine 1 0 172 ls [] hp = some (none, hp) := ax_vret dX3_insertLine_172 (by decide)
theorem tX3_isTree : ab_mT[23]? = some (yX3_isTree, cX3_isTree, 1, 2, 1) := by decide +kernel
theorem mX3_isTree {d : Nat} {a0 : Nat} : ab_M rom (d + 1) 23 [.ref a0] hp = ab_X rom (ab_M rom d) cX3_isTree 1 2 0 [.ref a0] [] hp := ab_M_eq tX3_isTree (Nat.le_of_ble_eq_true rfl)
theorem dX3_isTree_0 : decode cX3_isTree 0 = .ok (.aload_n 0, 1) := by decide +kernel
theorem sX3_isTree_0 : ab_X rom K cX3_isTree 1 2 0 (.ref a :: ls) st hp = ab_X rom K cX3_isTree 1 2 1 (.ref a :: ls) (.ref a :: st) hp := ax_aload_n dX3_isTree_0 rfl rfl
theorem dX3_isTree_1 : decode cX3_isTree 1 = .ok (.getfield 15, 3) := by decide +kernel
theorem sX3_isTree_1 : ab_X rom K cX3_isTree 1 2 1 ls (.ref a :: st) hp = (ab_fld hp a 1 1).bind (fun v => ab_X rom K cX3_isTree 1 2 4 ls (v :: st) hp) := ax_getfield dX3_isTree_1 kf_1_15 rfl
theorem dX3_isTree_4 : decode cX3_isTree 4 = .ok (.aload_n 0, 1) := by decide +kernel
theorem sX3_isTree_4 : ab_X rom K cX3_isTree 1 2 4 (.ref a :: ls) st hp = ab_X rom K cX3_isTree 1 2 5 (.ref a :: ls) (.ref a :: st) hp := ax_aload_n dX3_isTree_4 rfl rfl
theorem dX3_isTree_5 : decode cX3_isTree 5 = .ok (.getfield 9, 3) := by decide +kernel
theorem sX3_isTree_5 : ab_X rom K cX3_isTree 1 2 5 ls (.ref a :: st) hp = (ab_fld hp a 1 0).bind (fun v => ab_X rom K cX3_isTree 1 2 8 ls (v :: st) hp) := ax_getfield dX3_isTree_5 kf_1_9 rfl
theorem dX3_isTree_8 : decode cX3_isTree 8 = .ok (.iconst 1, 1) := by decide +kernel
theorem sX3_isTree_8 : ab_X rom K cX3_isTree 1 2 8 ls st hp = ab_X rom K cX3_isTree 1 2 9 ls (.int 1 :: st) hp := ax_iconst dX3_isTree_8 (by decide) rfl
theorem dX3_isTree_9 : decode cX3_isTree 9 = .ok (.isub, 1) := by decide +kernel
theorem sX3_isTree_9 : ab_X rom K cX3_isTree 1 2 9 ls (.int y :: .int x :: st) hp = ab_X rom K cX3_isTree 1 2 10 ls (.int (x - y) :: st) hp := ax_isub dX3_isTree_9 rfl
theorem dX3_isTree_10 : decode cX3_isTree 10 = .ok (.if_icmp .ne 15, 3) := by decide +kernel
theorem sX3_isTree_10 : ab_X rom K cX3_isTree 1 2 10 ls (.int y :: .int x :: st) hp = if x = y then ab_X rom K cX3_isTree 1 2 13 ls st hp else ab_X rom K cX3_isTree 1 2 25 ls st hp := ax_icmp_ne dX3_isTree_10 (by decide) rfl
theorem dX3_isTree_13 : decode cX3_isTree 13 = .ok (.aload_n 0, 1) := by decide +kernel
theorem sX3_isTree_13 : ab_X rom K cX3_isTree 1 2 13 (.ref a :: ls) st hp = ab_X rom K cX3_isTree 1 2 14 (.ref a :: ls) (.ref a :: st) hp := ax_aload_n dX3_isTree_13 rfl rfl
theorem dX3_isTree_14 : decode cX3_isTree 14 = .ok (.invokevirtual 67, 3) := by decide +kernel
theorem sX3_isTree_14_0 : ab_X rom K cX3_isTree 1 2 14 ls [.ref a] hp = if ab_iso hp a 1 = true then (K 29 (.ref a :: []) hp).bind (fun o => ab_X rom K cX3_isTree 1 2 17 ls (o.1.toList ++ []) o.2) else none := ay_virtual (as := []) (st := []) dX3_isTree_14 kc_1_67 rfl rfl (Nat.le_of_ble_eq_true rfl)
theorem sX3_isTree_14_1 : ab_X rom K cX3_isTree 1 2 14 ls [.ref a, v0] hp = if ab_iso hp a 1 = true then (K 29 (.ref a :: []) hp).bind (fun o => ab_X rom K cX3_isTree 1 2 17 ls (o.1.toList ++ [v0]) o.2) else none := ay_virtual (as := []) (st := [v0]) dX3_isTree_14 kc_1_67 rfl rfl (Nat.le_of_ble_eq_true rfl)
theorem sX3_isTree_14_2 : ab_X rom K cX3_isTree 1 2 14 ls [.ref a, v0, v1] hp = if ab_iso hp a 1 = true then (K 29 (.ref a :: []) hp).bind (fun o => ab_X rom K cX3_isTree 1 2 17 ls (o.1.toList ++ [v0, v1]) o.2) else none := ay_virtual (as := []) (st := [v0, v1]) dX3_isTree_14 kc_1_67 rfl rfl (Nat.le_of_ble_eq_true rfl)
theorem sX3_isTree_14_3 : ab_X rom K cX3_isTree 1 2 14 ls [.ref a, v0, v1, v2] hp = if ab_iso hp a 1 = true then (K 29 (.ref a :: []) hp).bind (fun o => ab_X rom K cX3_isTree 1 2 17 ls (o.1.toList ++ [v0, v1, v2]) o.2) else none := ay_virtual (as := []) (st := [v0, v1, v2]) dX3_isTree_14 kc_1_67 rfl rfl (Nat.le_of_ble_eq_true rfl)
theorem dX3_isTree_17 : decode cX3_isTree 17 = .ok (.iconst 1, 1) := by decide +kernel
theorem sX3_isTree_17 : ab_X rom K cX3_isTree 1 2 17 ls st hp = ab_X rom K cX3_isTree 1 2 18 ls (.int 1 :: st) hp := ax_iconst dX3_isTree_17 (by decide) rfl
theorem dX3_isTree_18 : decode cX3_isTree 18 = .ok (.if_icmp .ne 7, 3) := by decide +kernel
theorem sX3_isTree_18 : ab_X rom K cX3_isTree 1 2 18 ls (.int y :: .int x :: st) hp = if x = y then ab_X rom K cX3_isTree 1 2 21 ls st hp else ab_X rom K cX3_isTree 1 2 25 ls st hp := ax_icmp_ne dX3_isTree_18 (by decide) rfl
theorem dX3_isTree_21 : decode cX3_isTree 21 = .ok (.iconst 1, 1) := by decide +kernel
theorem sX3_isTree_21 : ab_X rom K cX3_isTree 1 2 21 ls st hp = ab_X rom K cX3_isTree 1 2 22 ls (.int 1 :: st) hp := ax_iconst dX3_isTree_21 (by decide) rfl
theorem dX3_isTree_22 : decode cX3_isTree 22 = .ok (.goto 4, 3) := by decide +kernel
theorem sX3_isTree_22 : ab_X rom K cX3_isTree 1 2 22 ls st hp = ab_X rom K cX3_isTree 1 2 26 ls st hp := ax_goto dX3_isTree_22 (by decide)
theorem dX3_isTree_25 : decode cX3_isTree 25 = .ok (.iconst 0, 1) := by decide +kernel
theorem sX3_isTree_25 : ab_X rom K cX3_isTree 1 2 25 ls st hp = ab_X rom K cX3_isTree 1 2 26 ls (.int 0 :: st) hp := ax_iconst dX3_isTree_25 (by decide) rfl
theorem dX3_isTree_26 : decode cX3_isTree 26 = .ok (.ireturn, 1) := by decide +kernel
theorem sX3_isTree_26 : ab_X rom K cX3_isTree 1 2 26 ls [.int x] hp = if x = 0 ∨ x = 1 then some (some (.int x), hp) else none := ay_zret dX3_isTree_26 rfl
theorem tX3_isTwoSided : ab_mT[24]? = some (yX3_isTwoSided, cX3_isTwoSided, 5, 2, 1) := by decide +kernel
theorem mX3_isTwoSided {d : Nat} {a0 : Nat} : ab_M rom (d + 1) 24 [.ref a0] hp = ab_X rom (ab_M rom d) cX3_isTwoSided 1 2 0 [.ref a0, .null, .null, .null, .null] [] hp := ab_M_eq tX3_isTwoSided (Nat.le_of_ble_eq_true rfl)
theorem dX3_isTwoSided_0 : decode cX3_isTwoSided 0 = .ok (.iconst 0, 1) := by decide +kernel
theorem sX3_isTwoSided_0 : ab_X rom K cX3_isTwoSided 1 2 0 ls st hp = ab_X rom K cX3_isTwoSided 1 2 1 ls (.int 0 :: st) hp := ax_iconst dX3_isTwoSided_0 (by decide) rfl
theorem dX3_isTwoSided_1 : decode cX3_isTwoSided 1 = .ok (.istore_n 1, 1) := by decide +kernel
theorem sX3_isTwoSided_1i : ab_X rom K cX3_isTwoSided 1 2 1 (.int y :: v1 :: ls) (.int x :: st) hp = ab_X rom K cX3_isTwoSided 1 2 2 (.int y :: .int x :: ls) st hp := ax_istore_n dX3_isTwoSided_1 (ax_lt (v := v1) rfl) (ab_nl_c1 (j := 0) (v := .int y) rfl (ab_c1_int _)) rfl rfl
theorem sX3_isTwoSided_1r : ab_X rom K cX3_isTwoSided 1 2 1 (.ref a2 :: v1 :: ls) (.int x :: st) hp = ab_X rom K cX3_isTwoSided 1 2 2 (.ref a2 :: .int x :: ls) st hp := ax_istore_n dX3_isTwoSided_1 (ax_lt (v := v1) rfl) (ab_nl_c1 (j := 0) (v := .ref a2) rfl (ab_c1_ref _)) rfl rfl
theorem sX3_isTwoSided_1n : ab_X rom K cX3_isTwoSided 1 2 1 (.null :: v1 :: ls) (.int x :: st) hp = ab_X rom K cX3_isTwoSided 1 2 2 (.null :: .int x :: ls) st hp := ax_istore_n dX3_isTwoSided_1 (ax_lt (v := v1) rfl) (ab_nl_c1 (j := 0) (v := .null) rfl ab_c1_null) rfl rfl
theorem dX3_isTwoSided_2 : decode cX3_isTwoSided 2 = .ok (.iconst 0, 1) := by decide +kernel
theorem sX3_isTwoSided_2 : ab_X rom K cX3_isTwoSided 1 2 2 ls st hp = ab_X rom K cX3_isTwoSided 1 2 3 ls (.int 0 :: st) hp := ax_iconst dX3_isTwoSided_2 (by decide) rfl
theorem dX3_isTwoSided_3 : decode cX3_isTwoSided 3 = .ok (.istore_n 2, 1) := by decide +kernel
theorem sX3_isTwoSided_3i : ab_X rom K cX3_isTwoSided 1 2 3 (v0 :: .int y :: v2 :: ls) (.int x :: st) hp = ab_X rom K cX3_isTwoSided 1 2 4 (v0 :: .int y :: .int x :: ls) st hp := ax_istore_n dX3_isTwoSided_3 (ax_lt (v := v2) rfl) (ab_nl_c1 (j := 1) (v := .int y) rfl (ab_c1_int _)) rfl rfl
theorem sX3_isTwoSided_3r : ab_X rom K cX3_isTwoSided 1 2 3 (v0 :: .ref a2 :: v2 :: ls) (.int x :: st) hp = ab_X rom K cX3_isTwoSided 1 2 4 (v0 :: .ref a2 :: .int x :: ls) st hp := ax_istore_n dX3_isTwoSided_3 (ax_lt (v := v2) rfl) (ab_nl_c1 (j := 1) (v := .ref a2) rfl (ab_c1_ref _)) rfl rfl
theorem sX3_isTwoSided_3n : ab_X rom K cX3_isTwoSided 1 2 3 (v0 :: .null :: v2 :: ls) (.int x :: st) hp = ab_X rom K cX3_isTwoSided 1 2 4 (v0 :: .null :: .int x :: ls) st hp := ax_istore_n dX3_isTwoSided_3 (ax_lt (v := v2) rfl) (ab_nl_c1 (j := 1) (v := .null) rfl ab_c1_null) rfl rfl
theorem dX3_isTwoSided_4 : decode cX3_isTwoSided 4 = .ok (.iconst 0, 1) := by decide +kernel
theorem sX3_isTwoSided_4 : ab_X rom K cX3_isTwoSided 1 2 4 ls st hp = ab_X rom K cX3_isTwoSided 1 2 5 ls (.int 0 :: st) hp := ax_iconst dX3_isTwoSided_4 (by decide) rfl
theorem dX3_isTwoSided_5 : decode cX3_isTwoSided 5 = .ok (.istore_n 3, 1) := by decide +kernel
theorem sX3_isTwoSided_5i : ab_X rom K cX3_isTwoSided 1 2 5 (v0 :: v1 :: .int y :: v3 :: ls) (.int x :: st) hp = ab_X rom K cX3_isTwoSided 1 2 6 (v0 :: v1 :: .int y :: .int x :: ls) st hp := ax_istore_n dX3_isTwoSided_5 (ax_lt (v := v3) rfl) (ab_nl_c1 (j := 2) (v := .int y) rfl (ab_c1_int _)) rfl rfl
theorem sX3_isTwoSided_5r : ab_X rom K cX3_isTwoSided 1 2 5 (v0 :: v1 :: .ref a2 :: v3 :: ls) (.int x :: st) hp = ab_X rom K cX3_isTwoSided 1 2 6 (v0 :: v1 :: .ref a2 :: .int x :: ls) st hp := ax_istore_n dX3_isTwoSided_5 (ax_lt (v := v3) rfl) (ab_nl_c1 (j := 2) (v := .ref a2) rfl (ab_c1_ref _)) rfl rfl
theorem sX3_isTwoSided_5n : ab_X rom K cX3_isTwoSided 1 2 5 (v0 :: v1 :: .null :: v3 :: ls) (.int x :: st) hp = ab_X rom K cX3_isTwoSided 1 2 6 (v0 :: v1 :: .null :: .int x :: ls) st hp := ax_istore_n dX3_isTwoSided_5 (ax_lt (v := v3) rfl) (ab_nl_c1 (j := 2) (v := .null) rfl ab_c1_null) rfl rfl
theorem dX3_isTwoSided_6 : decode cX3_isTwoSided 6 = .ok (.iload_n 3, 1) := by decide +kernel
theorem sX3_isTwoSided_6 : ab_X rom K cX3_isTwoSided 1 2 6 (v0 :: v1 :: v2 :: .int x :: ls) st hp = ab_X rom K cX3_isTwoSided 1 2 7 (v0 :: v1 :: v2 :: .int x :: ls) (.int x :: st) hp := ax_iload_n dX3_isTwoSided_6 rfl rfl
theorem dX3_isTwoSided_7 : decode cX3_isTwoSided 7 = .ok (.aload_n 0, 1) := by decide +kernel
theorem sX3_isTwoSided_7 : ab_X rom K cX3_isTwoSided 1 2 7 (.ref a :: ls) st hp = ab_X rom K cX3_isTwoSided 1 2 8 (.ref a :: ls) (.ref a :: st) hp := ax_aload_n dX3_isTwoSided_7 rfl rfl
theorem dX3_isTwoSided_8 : decode cX3_isTwoSided 8 = .ok (.getfield 9, 3) := by decide +kernel
theorem sX3_isTwoSided_8 : ab_X rom K cX3_isTwoSided 1 2 8 ls (.ref a :: st) hp = (ab_fld hp a 1 0).bind (fun v => ab_X rom K cX3_isTwoSided 1 2 11 ls (v :: st) hp) := ax_getfield dX3_isTwoSided_8 kf_1_9 rfl
theorem dX3_isTwoSided_11 : decode cX3_isTwoSided 11 = .ok (.if_icmp .ge 59, 3) := by decide +kernel
theorem sX3_isTwoSided_11 : ab_X rom K cX3_isTwoSided 1 2 11 ls (.int y :: .int x :: st) hp = if x < y then ab_X rom K cX3_isTwoSided 1 2 14 ls st hp else ab_X rom K cX3_isTwoSided 1 2 70 ls st hp := ax_icmp_ge dX3_isTwoSided_11 (by decide) rfl
theorem dX3_isTwoSided_14 : decode cX3_isTwoSided 14 = .ok (.iload_n 1, 1) := by decide +kernel
theorem sX3_isTwoSided_14 : ab_X rom K cX3_isTwoSided 1 2 14 (v0 :: .int x :: ls) st hp = ab_X rom K cX3_isTwoSided 1 2 15 (v0 :: .int x :: ls) (.int x :: st) hp := ax_iload_n dX3_isTwoSided_14 rfl rfl
theorem dX3_isTwoSided_15 : decode cX3_isTwoSided 15 = .ok (.iload_n 2, 1) := by decide +kernel
theorem sX3_isTwoSided_15 : ab_X rom K cX3_isTwoSided 1 2 15 (v0 :: v1 :: .int x :: ls) st hp = ab_X rom K cX3_isTwoSided 1 2 16 (v0 :: v1 :: .int x :: ls) (.int x :: st) hp := ax_iload_n dX3_isTwoSided_15 rfl rfl
theorem dX3_isTwoSided_16 : decode cX3_isTwoSided 16 = .ok (.ior, 1) := by decide +kernel
theorem sX3_isTwoSided_16 : ab_X rom K cX3_isTwoSided 1 2 16 ls (.int y :: .int x :: st) hp = ab_X rom K cX3_isTwoSided 1 2 17 ls (.int (x ||| y) :: st) hp := ax_ior dX3_isTwoSided_16 rfl
theorem dX3_isTwoSided_17 : decode cX3_isTwoSided 17 = .ok (.iload_n 3, 1) := by decide +kernel
theorem sX3_isTwoSided_17 : ab_X rom K cX3_isTwoSided 1 2 17 (v0 :: v1 :: v2 :: .int x :: ls) st hp = ab_X rom K cX3_isTwoSided 1 2 18 (v0 :: v1 :: v2 :: .int x :: ls) (.int x :: st) hp := ax_iload_n dX3_isTwoSided_17 rfl rfl
theorem dX3_isTwoSided_18 : decode cX3_isTwoSided 18 = .ok (.ishr, 1) := by decide +kernel
theorem sX3_isTwoSided_18 : ab_X rom K cX3_isTwoSided 1 2 18 ls (.int y :: .int x :: st) hp = ab_X rom K cX3_isTwoSided 1 2 19 ls (.int (x >>> (y &&& 31)) :: st) hp := ax_ishr dX3_isTwoSided_18 rfl
theorem dX3_isTwoSided_19 : decode cX3_isTwoSided 19 = .ok (.iconst 1, 1) := by decide +kernel
theorem sX3_isTwoSided_19 : ab_X rom K cX3_isTwoSided 1 2 19 ls st hp = ab_X rom K cX3_isTwoSided 1 2 20 ls (.int 1 :: st) hp := ax_iconst dX3_isTwoSided_19 (by decide) rfl
theorem dX3_isTwoSided_20 : decode cX3_isTwoSided 20 = .ok (.iand, 1) := by decide +kernel
theorem sX3_isTwoSided_20 : ab_X rom K cX3_isTwoSided 1 2 20 ls (.int y :: .int x :: st) hp = ab_X rom K cX3_isTwoSided 1 2 21 ls (.int (x &&& y) :: st) hp := ax_iand dX3_isTwoSided_20 rfl
theorem dX3_isTwoSided_21 : decode cX3_isTwoSided 21 = .ok (.ifCond .ne 43, 3) := by decide +kernel
theorem sX3_isTwoSided_21 : ab_X rom K cX3_isTwoSided 1 2 21 ls (.int x :: st) hp = if x = 0 then ab_X rom K cX3_isTwoSided 1 2 24 ls st hp else ab_X rom K cX3_isTwoSided 1 2 64 ls st hp := ax_if_ne dX3_isTwoSided_21 (by decide) rfl
theorem dX3_isTwoSided_24 : decode cX3_isTwoSided 24 = .ok (.iload_n 1, 1) := by decide +kernel
theorem sX3_isTwoSided_24 : ab_X rom K cX3_isTwoSided 1 2 24 (v0 :: .int x :: ls) st hp = ab_X rom K cX3_isTwoSided 1 2 25 (v0 :: .int x :: ls) (.int x :: st) hp := ax_iload_n dX3_isTwoSided_24 rfl rfl
theorem dX3_isTwoSided_25 : decode cX3_isTwoSided 25 = .ok (.iconst 1, 1) := by decide +kernel
theorem sX3_isTwoSided_25 : ab_X rom K cX3_isTwoSided 1 2 25 ls st hp = ab_X rom K cX3_isTwoSided 1 2 26 ls (.int 1 :: st) hp := ax_iconst dX3_isTwoSided_25 (by decide) rfl
theorem dX3_isTwoSided_26 : decode cX3_isTwoSided 26 = .ok (.iload_n 3, 1) := by decide +kernel
theorem sX3_isTwoSided_26 : ab_X rom K cX3_isTwoSided 1 2 26 (v0 :: v1 :: v2 :: .int x :: ls) st hp = ab_X rom K cX3_isTwoSided 1 2 27 (v0 :: v1 :: v2 :: .int x :: ls) (.int x :: st) hp := ax_iload_n dX3_isTwoSided_26 rfl rfl
theorem dX3_isTwoSided_27 : decode cX3_isTwoSided 27 = .ok (.ishl, 1) := by decide +kernel
theorem sX3_isTwoSided_27 : ab_X rom K cX3_isTwoSided 1 2 27 ls (.int y :: .int x :: st) hp = ab_X rom K cX3_isTwoSided 1 2 28 ls (.int (x <<< (y &&& 31)) :: st) hp := ax_ishl dX3_isTwoSided_27 rfl
theorem dX3_isTwoSided_28 : decode cX3_isTwoSided 28 = .ok (.ior, 1) := by decide +kernel
theorem sX3_isTwoSided_28 : ab_X rom K cX3_isTwoSided 1 2 28 ls (.int y :: .int x :: st) hp = ab_X rom K cX3_isTwoSided 1 2 29 ls (.int (x ||| y) :: st) hp := ax_ior dX3_isTwoSided_28 rfl
theorem dX3_isTwoSided_29 : decode cX3_isTwoSided 29 = .ok (.istore_n 1, 1) := by decide +kernel
theorem sX3_isTwoSided_29i : ab_X rom K cX3_isTwoSided 1 2 29 (.int y :: v1 :: ls) (.int x :: st) hp = ab_X rom K cX3_isTwoSided 1 2 30 (.int y :: .int x :: ls) st hp := ax_istore_n dX3_isTwoSided_29 (ax_lt (v := v1) rfl) (ab_nl_c1 (j := 0) (v := .int y) rfl (ab_c1_int _)) rfl rfl
theorem sX3_isTwoSided_29r : ab_X rom K cX3_isTwoSided 1 2 29 (.ref a2 :: v1 :: ls) (.int x :: st) hp = ab_X rom K cX3_isTwoSided 1 2 30 (.ref a2 :: .int x :: ls) st hp := ax_istore_n dX3_isTwoSided_29 (ax_lt (v := v1) rfl) (ab_nl_c1 (j := 0) (v := .ref a2) rfl (ab_c1_ref _)) rfl rfl
theorem sX3_isTwoSided_29n : ab_X rom K cX3_isTwoSided 1 2 29 (.null :: v1 :: ls) (.int x :: st) hp = ab_X rom K cX3_isTwoSided 1 2 30 (.null :: .int x :: ls) st hp := ax_istore_n dX3_isTwoSided_29 (ax_lt (v := v1) rfl) (ab_nl_c1 (j := 0) (v := .null) rfl ab_c1_null) rfl rfl
theorem dX3_isTwoSided_30 : decode cX3_isTwoSided 30 = .ok (.iconst 0, 1) := by decide +kernel
theorem sX3_isTwoSided_30 : ab_X rom K cX3_isTwoSided 1 2 30 ls st hp = ab_X rom K cX3_isTwoSided 1 2 31 ls (.int 0 :: st) hp := ax_iconst dX3_isTwoSided_30 (by decide) rfl
theorem dX3_isTwoSided_31 : decode cX3_isTwoSided 31 = .ok (.istore 4, 2) := by decide +kernel
theorem sX3_isTwoSided_31i : ab_X rom K cX3_isTwoSided 1 2 31 (v0 :: v1 :: v2 :: .int y :: v4 :: ls) (.int x :: st) hp = ab_X rom K cX3_isTwoSided 1 2 33 (v0 :: v1 :: v2 :: .int y :: .int x :: ls) st hp := ax_istore dX3_isTwoSided_31 (ax_lt (v := v4) rfl) (ab_nl_c1 (j := 3) (v := .int y) rfl (ab_c1_int _)) rfl rfl
theorem sX3_isTwoSided_31r : ab_X rom K cX3_isTwoSided 1 2 31 (v0 :: v1 :: v2 :: .ref a2 :: v4 :: ls) (.int x :: st) hp = ab_X rom K cX3_isTwoSided 1 2 33 (v0 :: v1 :: v2 :: .ref a2 :: .int x :: ls) st hp := ax_istore dX3_isTwoSided_31 (ax_lt (v := v4) rfl) (ab_nl_c1 (j := 3) (v := .ref a2) rfl (ab_c1_ref _)) rfl rfl
theorem sX3_isTwoSided_31n : ab_X rom K cX3_isTwoSided 1 2 31 (v0 :: v1 :: v2 :: .null :: v4 :: ls) (.int x :: st) hp = ab_X rom K cX3_isTwoSided 1 2 33 (v0 :: v1 :: v2 :: .null :: .int x :: ls) st hp := ax_istore dX3_isTwoSided_31 (ax_lt (v := v4) rfl) (ab_nl_c1 (j := 3) (v := .null) rfl ab_c1_null) rfl rfl
theorem dX3_isTwoSided_33 : decode cX3_isTwoSided 33 = .ok (.iload 4, 2) := by decide +kernel
theorem sX3_isTwoSided_33 : ab_X rom K cX3_isTwoSided 1 2 33 (v0 :: v1 :: v2 :: v3 :: .int x :: ls) st hp = ab_X rom K cX3_isTwoSided 1 2 35 (v0 :: v1 :: v2 :: v3 :: .int x :: ls) (.int x :: st) hp := ax_iload dX3_isTwoSided_33 rfl rfl
theorem dX3_isTwoSided_35 : decode cX3_isTwoSided 35 = .ok (.aload_n 0, 1) := by decide +kernel
theorem sX3_isTwoSided_35 : ab_X rom K cX3_isTwoSided 1 2 35 (.ref a :: ls) st hp = ab_X rom K cX3_isTwoSided 1 2 36 (.ref a :: ls) (.ref a :: st) hp := ax_aload_n dX3_isTwoSided_35 rfl rfl
theorem dX3_isTwoSided_36 : decode cX3_isTwoSided 36 = .ok (.getfield 9, 3) := by decide +kernel
theorem sX3_isTwoSided_36 : ab_X rom K cX3_isTwoSided 1 2 36 ls (.ref a :: st) hp = (ab_fld hp a 1 0).bind (fun v => ab_X rom K cX3_isTwoSided 1 2 39 ls (v :: st) hp) := ax_getfield dX3_isTwoSided_36 kf_1_9 rfl
theorem dX3_isTwoSided_39 : decode cX3_isTwoSided 39 = .ok (.if_icmp .ge 25, 3) := by decide +kernel
theorem sX3_isTwoSided_39 : ab_X rom K cX3_isTwoSided 1 2 39 ls (.int y :: .int x :: st) hp = if x < y then ab_X rom K cX3_isTwoSided 1 2 42 ls st hp else ab_X rom K cX3_isTwoSided 1 2 64 ls st hp := ax_icmp_ge dX3_isTwoSided_39 (by decide) rfl
theorem dX3_isTwoSided_42 : decode cX3_isTwoSided 42 = .ok (.iload_n 2, 1) := by decide +kernel
theorem sX3_isTwoSided_42 : ab_X rom K cX3_isTwoSided 1 2 42 (v0 :: v1 :: .int x :: ls) st hp = ab_X rom K cX3_isTwoSided 1 2 43 (v0 :: v1 :: .int x :: ls) (.int x :: st) hp := ax_iload_n dX3_isTwoSided_42 rfl rfl
theorem dX3_isTwoSided_43 : decode cX3_isTwoSided 43 = .ok (.aload_n 0, 1) := by decide +kernel
theorem sX3_isTwoSided_43 : ab_X rom K cX3_isTwoSided 1 2 43 (.ref a :: ls) st hp = ab_X rom K cX3_isTwoSided 1 2 44 (.ref a :: ls) (.ref a :: st) hp := ax_aload_n dX3_isTwoSided_43 rfl rfl
theorem dX3_isTwoSided_44 : decode cX3_isTwoSided 44 = .ok (.iload_n 1, 1) := by decide +kernel
theorem sX3_isTwoSided_44 : ab_X rom K cX3_isTwoSided 1 2 44 (v0 :: .int x :: ls) st hp = ab_X rom K cX3_isTwoSided 1 2 45 (v0 :: .int x :: ls) (.int x :: st) hp := ax_iload_n dX3_isTwoSided_44 rfl rfl
theorem dX3_isTwoSided_45 : decode cX3_isTwoSided 45 = .ok (.invokevirtual 64, 3) := by decide +kernel
theorem sX3_isTwoSided_45_0 : ab_X rom K cX3_isTwoSided 1 2 45 ls [w1, .ref a] hp = if ab_iso hp a 1 = true then (K 14 (.ref a :: [w1]) hp).bind (fun o => ab_X rom K cX3_isTwoSided 1 2 48 ls (o.1.toList ++ []) o.2) else none := ay_virtual (as := [w1]) (st := []) dX3_isTwoSided_45 kc_1_64 rfl rfl (Nat.le_of_ble_eq_true rfl)
theorem sX3_isTwoSided_45_1 : ab_X rom K cX3_isTwoSided 1 2 45 ls [w1, .ref a, v0] hp = if ab_iso hp a 1 = true then (K 14 (.ref a :: [w1]) hp).bind (fun o => ab_X rom K cX3_isTwoSided 1 2 48 ls (o.1.toList ++ [v0]) o.2) else none := ay_virtual (as := [w1]) (st := [v0]) dX3_isTwoSided_45 kc_1_64 rfl rfl (Nat.le_of_ble_eq_true rfl)
theorem sX3_isTwoSided_45_2 : ab_X rom K cX3_isTwoSided 1 2 45 ls [w1, .ref a, v0, v1] hp = if ab_iso hp a 1 = true then (K 14 (.ref a :: [w1]) hp).bind (fun o => ab_X rom K cX3_isTwoSided 1 2 48 ls (o.1.toList ++ [v0, v1]) o.2) else none := ay_virtual (as := [w1]) (st := [v0, v1]) dX3_isTwoSided_45 kc_1_64 rfl rfl (Nat.le_of_ble_eq_true rfl)
theorem sX3_isTwoSided_45_3 : ab_X rom K cX3_isTwoSided 1 2 45 ls [w1, .ref a, v0, v1, v2] hp = if ab_iso hp a 1 = true then (K 14 (.ref a :: [w1]) hp).bind (fun o => ab_X rom K cX3_isTwoSided 1 2 48 ls (o.1.toList ++ [v0, v1, v2]) o.2) else none := ay_virtual (as := [w1]) (st := [v0, v1, v2]) dX3_isTwoSided_45 kc_1_64 rfl rfl (Nat.le_of_ble_eq_true rfl)
theorem dX3_isTwoSided_48 : decode cX3_isTwoSided 48 = .ok (.ior, 1) := by decide +kernel
theorem sX3_isTwoSided_48 : ab_X rom K cX3_isTwoSided 1 2 48 ls (.int y :: .int x :: st) hp = ab_X rom K cX3_isTwoSided 1 2 49 ls (.int (x ||| y) :: st) hp := ax_ior dX3_isTwoSided_48 rfl
theorem dX3_isTwoSided_49 : decode cX3_isTwoSided 49 = .ok (.istore_n 2, 1) := by decide +kernel
theorem sX3_isTwoSided_49i : ab_X rom K cX3_isTwoSided 1 2 49 (v0 :: .int y :: v2 :: ls) (.int x :: st) hp = ab_X rom K cX3_isTwoSided 1 2 50 (v0 :: .int y :: .int x :: ls) st hp := ax_istore_n dX3_isTwoSided_49 (ax_lt (v := v2) rfl) (ab_nl_c1 (j := 1) (v := .int y) rfl (ab_c1_int _)) rfl rfl
theorem sX3_isTwoSided_49r : ab_X rom K cX3_isTwoSided 1 2 49 (v0 :: .ref a2 :: v2 :: ls) (.int x :: st) hp = ab_X rom K cX3_isTwoSided 1 2 50 (v0 :: .ref a2 :: .int x :: ls) st hp := ax_istore_n dX3_isTwoSided_49 (ax_lt (v := v2) rfl) (ab_nl_c1 (j := 1) (v := .ref a2) rfl (ab_c1_ref _)) rfl rfl
theorem sX3_isTwoSided_49n : ab_X rom K cX3_isTwoSided 1 2 49 (v0 :: .null :: v2 :: ls) (.int x :: st) hp = ab_X rom K cX3_isTwoSided 1 2 50 (v0 :: .null :: .int x :: ls) st hp := ax_istore_n dX3_isTwoSided_49 (ax_lt (v := v2) rfl) (ab_nl_c1 (j := 1) (v := .null) rfl ab_c1_null) rfl rfl
theorem dX3_isTwoSided_50 : decode cX3_isTwoSided 50 = .ok (.iload_n 1, 1) := by decide +kernel
theorem sX3_isTwoSided_50 : ab_X rom K cX3_isTwoSided 1 2 50 (v0 :: .int x :: ls) st hp = ab_X rom K cX3_isTwoSided 1 2 51 (v0 :: .int x :: ls) (.int x :: st) hp := ax_iload_n dX3_isTwoSided_50 rfl rfl
theorem dX3_isTwoSided_51 : decode cX3_isTwoSided 51 = .ok (.aload_n 0, 1) := by decide +kernel
theorem sX3_isTwoSided_51 : ab_X rom K cX3_isTwoSided 1 2 51 (.ref a :: ls) st hp = ab_X rom K cX3_isTwoSided 1 2 52 (.ref a :: ls) (.ref a :: st) hp := ax_aload_n dX3_isTwoSided_51 rfl rfl
theorem dX3_isTwoSided_52 : decode cX3_isTwoSided 52 = .ok (.iload_n 2, 1) := by decide +kernel
theorem sX3_isTwoSided_52 : ab_X rom K cX3_isTwoSided 1 2 52 (v0 :: v1 :: .int x :: ls) st hp = ab_X rom K cX3_isTwoSided 1 2 53 (v0 :: v1 :: .int x :: ls) (.int x :: st) hp := ax_iload_n dX3_isTwoSided_52 rfl rfl
theorem dX3_isTwoSided_53 : decode cX3_isTwoSided 53 = .ok (.invokevirtual 64, 3) := by decide +kernel
theorem sX3_isTwoSided_53_0 : ab_X rom K cX3_isTwoSided 1 2 53 ls [w1, .ref a] hp = if ab_iso hp a 1 = true then (K 14 (.ref a :: [w1]) hp).bind (fun o => ab_X rom K cX3_isTwoSided 1 2 56 ls (o.1.toList ++ []) o.2) else none := ay_virtual (as := [w1]) (st := []) dX3_isTwoSided_53 kc_1_64 rfl rfl (Nat.le_of_ble_eq_true rfl)
theorem sX3_isTwoSided_53_1 : ab_X rom K cX3_isTwoSided 1 2 53 ls [w1, .ref a, v0] hp = if ab_iso hp a 1 = true then (K 14 (.ref a :: [w1]) hp).bind (fun o => ab_X rom K cX3_isTwoSided 1 2 56 ls (o.1.toList ++ [v0]) o.2) else none := ay_virtual (as := [w1]) (st := [v0]) dX3_isTwoSided_53 kc_1_64 rfl rfl (Nat.le_of_ble_eq_true rfl)
theorem sX3_isTwoSided_53_2 : ab_X rom K cX3_isTwoSided 1 2 53 ls [w1, .ref a, v0, v1] hp = if ab_iso hp a 1 = true then (K 14 (.ref a :: [w1]) hp).bind (fun o => ab_X rom K cX3_isTwoSided 1 2 56 ls (o.1.toList ++ [v0, v1]) o.2) else none := ay_virtual (as := [w1]) (st := [v0, v1]) dX3_isTwoSided_53 kc_1_64 rfl rfl (Nat.le_of_ble_eq_true rfl)
theorem sX3_isTwoSided_53_3 : ab_X rom K cX3_isTwoSided 1 2 53 ls [w1, .ref a, v0, v1, v2] hp = if ab_iso hp a 1 = true then (K 14 (.ref a :: [w1]) hp).bind (fun o => ab_X rom K cX3_isTwoSided 1 2 56 ls (o.1.toList ++ [v0, v1, v2]) o.2) else none := ay_virtual (as := [w1]) (st := [v0, v1, v2]) dX3_isTwoSided_53 kc_1_64 rfl rfl (Nat.le_of_ble_eq_true rfl)
theorem dX3_isTwoSided_56 : decode cX3_isTwoSided 56 = .ok (.ior, 1) := by decide +kernel
theorem sX3_isTwoSided_56 : ab_X rom K cX3_isTwoSided 1 2 56 ls (.int y :: .int x :: st) hp = ab_X rom K cX3_isTwoSided 1 2 57 ls (.int (x ||| y) :: st) hp := ax_ior dX3_isTwoSided_56 rfl
theorem dX3_isTwoSided_57 : decode cX3_isTwoSided 57 = .ok (.istore_n 1, 1) := by decide +kernel
theorem sX3_isTwoSided_57i : ab_X rom K cX3_isTwoSided 1 2 57 (.int y :: v1 :: ls) (.int x :: st) hp = ab_X rom K cX3_isTwoSided 1 2 58 (.int y :: .int x :: ls) st hp := ax_istore_n dX3_isTwoSided_57 (ax_lt (v := v1) rfl) (ab_nl_c1 (j := 0) (v := .int y) rfl (ab_c1_int _)) rfl rfl
theorem sX3_isTwoSided_57r : ab_X rom K cX3_isTwoSided 1 2 57 (.ref a2 :: v1 :: ls) (.int x :: st) hp = ab_X rom K cX3_isTwoSided 1 2 58 (.ref a2 :: .int x :: ls) st hp := ax_istore_n dX3_isTwoSided_57 (ax_lt (v := v1) rfl) (ab_nl_c1 (j := 0) (v := .ref a2) rfl (ab_c1_ref _)) rfl rfl
theorem sX3_isTwoSided_57n : ab_X rom K cX3_isTwoSided 1 2 57 (.null :: v1 :: ls) (.int x :: st) hp = ab_X rom K cX3_isTwoSided 1 2 58 (.null :: .int x :: ls) st hp := ax_istore_n dX3_isTwoSided_57 (ax_lt (v := v1) rfl) (ab_nl_c1 (j := 0) (v := .null) rfl ab_c1_null) rfl rfl
theorem dX3_isTwoSided_58 : decode cX3_isTwoSided 58 = .ok (.iinc 4 1, 3) := by decide +kernel
theorem sX3_isTwoSided_58i : ab_X rom K cX3_isTwoSided 1 2 58 (v0 :: v1 :: v2 :: .int y :: .int x :: ls) st hp = ab_X rom K cX3_isTwoSided 1 2 61 (v0 :: v1 :: v2 :: .int y :: .int (x + 1) :: ls) st hp := ax_iinc dX3_isTwoSided_58 rfl (ab_nl_c1 (j := 3) (v := .int y) rfl (ab_c1_int _)) (by decide) rfl rfl
theorem sX3_isTwoSided_58r : ab_X rom K cX3_isTwoSided 1 2 58 (v0 :: v1 :: v2 :: .ref a2 :: .int x :: ls) st hp = ab_X rom K cX3_isTwoSided 1 2 61 (v0 :: v1 :: v2 :: .ref a2 :: .int (x + 1) :: ls) st hp := ax_iinc dX3_isTwoSided_58 rfl (ab_nl_c1 (j := 3) (v := .ref a2) rfl (ab_c1_ref _)) (by decide) rfl rfl
theorem sX3_isTwoSided_58n : ab_X rom K cX3_isTwoSided 1 2 58 (v0 :: v1 :: v2 :: .null :: .int x :: ls) st hp = ab_X rom K cX3_isTwoSided 1 2 61 (v0 :: v1 :: v2 :: .null :: .int (x + 1) :: ls) st hp := ax_iinc dX3_isTwoSided_58 rfl (ab_nl_c1 (j := 3) (v := .null) rfl ab_c1_null) (by decide) rfl rfl
theorem dX3_isTwoSided_61 : decode cX3_isTwoSided 61 = .ok (.goto (-28), 3) := by decide +kernel
theorem sX3_isTwoSided_61 : ab_X rom K cX3_isTwoSided 1 2 61 ls st hp = ab_X rom K cX3_isTwoSided 1 2 33 ls st hp := ax_goto dX3_isTwoSided_61 (by decide)
theorem dX3_isTwoSided_64 : decode cX3_isTwoSided 64 = .ok (.iinc 3 1, 3) := by decide +kernel
theorem sX3_isTwoSided_64i : ab_X rom K cX3_isTwoSided 1 2 64 (v0 :: v1 :: .int y :: .int x :: ls) st hp = ab_X rom K cX3_isTwoSided 1 2 67 (v0 :: v1 :: .int y :: .int (x + 1) :: ls) st hp := ax_iinc dX3_isTwoSided_64 rfl (ab_nl_c1 (j := 2) (v := .int y) rfl (ab_c1_int _)) (by decide) rfl rfl
theorem sX3_isTwoSided_64r : ab_X rom K cX3_isTwoSided 1 2 64 (v0 :: v1 :: .ref a2 :: .int x :: ls) st hp = ab_X rom K cX3_isTwoSided 1 2 67 (v0 :: v1 :: .ref a2 :: .int (x + 1) :: ls) st hp := ax_iinc dX3_isTwoSided_64 rfl (ab_nl_c1 (j := 2) (v := .ref a2) rfl (ab_c1_ref _)) (by decide) rfl rfl
theorem sX3_isTwoSided_64n : ab_X rom K cX3_isTwoSided 1 2 64 (v0 :: v1 :: .null :: .int x :: ls) st hp = ab_X rom K cX3_isTwoSided 1 2 67 (v0 :: v1 :: .null :: .int (x + 1) :: ls) st hp := ax_iinc dX3_isTwoSided_64 rfl (ab_nl_c1 (j := 2) (v := .null) rfl ab_c1_null) (by decide) rfl rfl
theorem dX3_isTwoSided_67 : decode cX3_isTwoSided 67 = .ok (.goto (-61), 3) := by decide +kernel
theorem sX3_isTwoSided_67 : ab_X rom K cX3_isTwoSided 1 2 67 ls st hp = ab_X rom K cX3_isTwoSided 1 2 6 ls st hp := ax_goto dX3_isTwoSided_67 (by decide)
theorem dX3_isTwoSided_70 : decode cX3_isTwoSided 70 = .ok (.iload_n 1, 1) := by decide +kernel
theorem sX3_isTwoSided_70 : ab_X rom K cX3_isTwoSided 1 2 70 (v0 :: .int x :: ls) st hp = ab_X rom K cX3_isTwoSided 1 2 71 (v0 :: .int x :: ls) (.int x :: st) hp := ax_iload_n dX3_isTwoSided_70 rfl rfl
theorem dX3_isTwoSided_71 : decode cX3_isTwoSided 71 = .ok (.iload_n 2, 1) := by decide +kernel
theorem sX3_isTwoSided_71 : ab_X rom K cX3_isTwoSided 1 2 71 (v0 :: v1 :: .int x :: ls) st hp = ab_X rom K cX3_isTwoSided 1 2 72 (v0 :: v1 :: .int x :: ls) (.int x :: st) hp := ax_iload_n dX3_isTwoSided_71 rfl rfl
theorem dX3_isTwoSided_72 : decode cX3_isTwoSided 72 = .ok (.iand, 1) := by decide +kernel
theorem sX3_isTwoSided_72 : ab_X rom K cX3_isTwoSided 1 2 72 ls (.int y :: .int x :: st) hp = ab_X rom K cX3_isTwoSided 1 2 73 ls (.int (x &&& y) :: st) hp := ax_iand dX3_isTwoSided_72 rfl
theorem dX3_isTwoSided_73 : decode cX3_isTwoSided 73 = .ok (.ifCond .ne 7, 3) := by decide +kernel
theorem sX3_isTwoSided_73 : ab_X rom K cX3_isTwoSided 1 2 73 ls (.int x :: st) hp = if x = 0 then ab_X rom K cX3_isTwoSided 1 2 76 ls st hp else ab_X rom K cX3_isTwoSided 1 2 80 ls st hp := ax_if_ne dX3_isTwoSided_73 (by decide) rfl
theorem dX3_isTwoSided_76 : decode cX3_isTwoSided 76 = .ok (.iconst 1, 1) := by decide +kernel
theorem sX3_isTwoSided_76 : ab_X rom K cX3_isTwoSided 1 2 76 ls st hp = ab_X rom K cX3_isTwoSided 1 2 77 ls (.int 1 :: st) hp := ax_iconst dX3_isTwoSided_76 (by decide) rfl
theorem dX3_isTwoSided_77 : decode cX3_isTwoSided 77 = .ok (.goto 4, 3) := by decide +kernel
theorem sX3_isTwoSided_77 : ab_X rom K cX3_isTwoSided 1 2 77 ls st hp = ab_X rom K cX3_isTwoSided 1 2 81 ls st hp := ax_goto dX3_isTwoSided_77 (by decide)
theorem dX3_isTwoSided_80 : decode cX3_isTwoSided 80 = .ok (.iconst 0, 1) := by decide +kernel
theorem sX3_isTwoSided_80 : ab_X rom K cX3_isTwoSided 1 2 80 ls st hp = ab_X rom K cX3_isTwoSided 1 2 81 ls (.int 0 :: st) hp := ax_iconst dX3_isTwoSided_80 (by decide) rfl
theorem dX3_isTwoSided_81 : decode cX3_isTwoSided 81 = .ok (.ireturn, 1) := by decide +kernel
theorem sX3_isTwoSided_81 : ab_X rom K cX3_isTwoSided 1 2 81 ls [.int x] hp = if x = 0 ∨ x = 1 then some (some (.int x), hp) else none := ay_zret dX3_isTwoSided_81 rfl
theorem tX3_labelled : ab_mT[25]? = some (yX3_labelled, cX3_labelled, 3, 1, 1) := by decide +kernel
theorem mX3_labelled {d : Nat} {a0 : Nat} : ab_M rom (d + 1) 25 [.ref a0] hp = ab_X rom (ab_M rom d) cX3_labelled 1 1 0 [.ref a0, .null, .null] [] hp := ab_M_eq tX3_labelled (Nat.le_of_ble_eq_true rfl)
theorem dX3_labelled_0 : decode cX3_labelled 0 = .ok (.iconst 0, 1) := by decide +kernel
theorem sX3_labelled_0 : ab_X rom K cX3_labelled 1 1 0 ls st hp = ab_X rom K cX3_labelled 1 1 1 ls (.int 0 :: st) hp := ax_iconst dX3_labelled_0 (by decide) rfl
theorem dX3_labelled_1 : decode cX3_labelled 1 = .ok (.istore_n 1, 1) := by decide +kernel
theorem sX3_labelled_1i : ab_X rom K cX3_labelled 1 1 1 (.int y :: v1 :: ls) (.int x :: st) hp = ab_X rom K cX3_labelled 1 1 2 (.int y :: .int x :: ls) st hp := ax_istore_n dX3_labelled_1 (ax_lt (v := v1) rfl) (ab_nl_c1 (j := 0) (v := .int y) rfl (ab_c1_int _)) rfl rfl
theorem sX3_labelled_1r : ab_X rom K cX3_labelled 1 1 1 (.ref a2 :: v1 :: ls) (.int x :: st) hp = ab_X rom K cX3_labelled 1 1 2 (.ref a2 :: .int x :: ls) st hp := ax_istore_n dX3_labelled_1 (ax_lt (v := v1) rfl) (ab_nl_c1 (j := 0) (v := .ref a2) rfl (ab_c1_ref _)) rfl rfl
theorem sX3_labelled_1n : ab_X rom K cX3_labelled 1 1 1 (.null :: v1 :: ls) (.int x :: st) hp = ab_X rom K cX3_labelled 1 1 2 (.null :: .int x :: ls) st hp := ax_istore_n dX3_labelled_1 (ax_lt (v := v1) rfl) (ab_nl_c1 (j := 0) (v := .null) rfl ab_c1_null) rfl rfl
theorem dX3_labelled_2 : decode cX3_labelled 2 = .ok (.iconst 0, 1) := by decide +kernel
theorem sX3_labelled_2 : ab_X rom K cX3_labelled 1 1 2 ls st hp = ab_X rom K cX3_labelled 1 1 3 ls (.int 0 :: st) hp := ax_iconst dX3_labelled_2 (by decide) rfl
theorem dX3_labelled_3 : decode cX3_labelled 3 = .ok (.istore_n 2, 1) := by decide +kernel
theorem sX3_labelled_3i : ab_X rom K cX3_labelled 1 1 3 (v0 :: .int y :: v2 :: ls) (.int x :: st) hp = ab_X rom K cX3_labelled 1 1 4 (v0 :: .int y :: .int x :: ls) st hp := ax_istore_n dX3_labelled_3 (ax_lt (v := v2) rfl) (ab_nl_c1 (j := 1) (v := .int y) rfl (ab_c1_int _)) rfl rfl
theorem sX3_labelled_3r : ab_X rom K cX3_labelled 1 1 3 (v0 :: .ref a2 :: v2 :: ls) (.int x :: st) hp = ab_X rom K cX3_labelled 1 1 4 (v0 :: .ref a2 :: .int x :: ls) st hp := ax_istore_n dX3_labelled_3 (ax_lt (v := v2) rfl) (ab_nl_c1 (j := 1) (v := .ref a2) rfl (ab_c1_ref _)) rfl rfl
theorem sX3_labelled_3n : ab_X rom K cX3_labelled 1 1 3 (v0 :: .null :: v2 :: ls) (.int x :: st) hp = ab_X rom K cX3_labelled 1 1 4 (v0 :: .null :: .int x :: ls) st hp := ax_istore_n dX3_labelled_3 (ax_lt (v := v2) rfl) (ab_nl_c1 (j := 1) (v := .null) rfl ab_c1_null) rfl rfl
theorem dX3_labelled_4 : decode cX3_labelled 4 = .ok (.iload_n 2, 1) := by decide +kernel
theorem sX3_labelled_4 : ab_X rom K cX3_labelled 1 1 4 (v0 :: v1 :: .int x :: ls) st hp = ab_X rom K cX3_labelled 1 1 5 (v0 :: v1 :: .int x :: ls) (.int x :: st) hp := ax_iload_n dX3_labelled_4 rfl rfl
theorem dX3_labelled_5 : decode cX3_labelled 5 = .ok (.aload_n 0, 1) := by decide +kernel
theorem sX3_labelled_5 : ab_X rom K cX3_labelled 1 1 5 (.ref a :: ls) st hp = ab_X rom K cX3_labelled 1 1 6 (.ref a :: ls) (.ref a :: st) hp := ax_aload_n dX3_labelled_5 rfl rfl
theorem dX3_labelled_6 : decode cX3_labelled 6 = .ok (.getfield 9, 3) := by decide +kernel
theorem sX3_labelled_6 : ab_X rom K cX3_labelled 1 1 6 ls (.ref a :: st) hp = (ab_fld hp a 1 0).bind (fun v => ab_X rom K cX3_labelled 1 1 9 ls (v :: st) hp) := ax_getfield dX3_labelled_6 kf_1_9 rfl
theorem dX3_labelled_9 : decode cX3_labelled 9 = .ok (.if_icmp .ge 25, 3) := by decide +kernel
theorem sX3_labelled_9 : ab_X rom K cX3_labelled 1 1 9 ls (.int y :: .int x :: st) hp = if x < y then ab_X rom K cX3_labelled 1 1 12 ls st hp else ab_X rom K cX3_labelled 1 1 34 ls st hp := ax_icmp_ge dX3_labelled_9 (by decide) rfl
theorem dX3_labelled_12 : decode cX3_labelled 12 = .ok (.aload_n 0, 1) := by decide +kernel
theorem sX3_labelled_12 : ab_X rom K cX3_labelled 1 1 12 (.ref a :: ls) st hp = ab_X rom K cX3_labelled 1 1 13 (.ref a :: ls) (.ref a :: st) hp := ax_aload_n dX3_labelled_12 rfl rfl
theorem dX3_labelled_13 : decode cX3_labelled 13 = .ok (.getfield 25, 3) := by decide +kernel
theorem sX3_labelled_13 : ab_X rom K cX3_labelled 1 1 13 ls (.ref a :: st) hp = (ab_fld hp a 1 4).bind (fun v => ab_X rom K cX3_labelled 1 1 16 ls (v :: st) hp) := ax_getfield dX3_labelled_13 kf_1_25 rfl
theorem dX3_labelled_16 : decode cX3_labelled 16 = .ok (.iload_n 2, 1) := by decide +kernel
theorem sX3_labelled_16 : ab_X rom K cX3_labelled 1 1 16 (v0 :: v1 :: .int x :: ls) st hp = ab_X rom K cX3_labelled 1 1 17 (v0 :: v1 :: .int x :: ls) (.int x :: st) hp := ax_iload_n dX3_labelled_16 rfl rfl
theorem dX3_labelled_17 : decode cX3_labelled 17 = .ok (.iaload, 1) := by decide +kernel
theorem sX3_labelled_17 : ab_X rom K cX3_labelled 1 1 17 ls (.int x :: .ref a :: st) hp = (ab_ard rom 0 hp a x).bind (fun v => ab_X rom K cX3_labelled 1 1 18 ls (.int v :: st) hp) := ax_iaload dX3_labelled_17 rfl
theorem dX3_labelled_18 : decode cX3_labelled 18 = .ok (.iconst (-1), 1) := by decide +kernel
theorem sX3_labelled_18 : ab_X rom K cX3_labelled 1 1 18 ls st hp = ab_X rom K cX3_labelled 1 1 19 ls (.int (-1) :: st) hp := ax_iconst dX3_labelled_18 (by decide) rfl
theorem dX3_labelled_19 : decode cX3_labelled 19 = .ok (.if_icmp .eq 9, 3) := by decide +kernel
theorem sX3_labelled_19 : ab_X rom K cX3_labelled 1 1 19 ls (.int y :: .int x :: st) hp = if x = y then ab_X rom K cX3_labelled 1 1 28 ls st hp else ab_X rom K cX3_labelled 1 1 22 ls st hp := ax_icmp_eq dX3_labelled_19 (by decide) rfl
theorem dX3_labelled_22 : decode cX3_labelled 22 = .ok (.iload_n 1, 1) := by decide +kernel
theorem sX3_labelled_22 : ab_X rom K cX3_labelled 1 1 22 (v0 :: .int x :: ls) st hp = ab_X rom K cX3_labelled 1 1 23 (v0 :: .int x :: ls) (.int x :: st) hp := ax_iload_n dX3_labelled_22 rfl rfl
theorem dX3_labelled_23 : decode cX3_labelled 23 = .ok (.iconst 1, 1) := by decide +kernel
theorem sX3_labelled_23 : ab_X rom K cX3_labelled 1 1 23 ls st hp = ab_X rom K cX3_labelled 1 1 24 ls (.int 1 :: st) hp := ax_iconst dX3_labelled_23 (by decide) rfl
theorem dX3_labelled_24 : decode cX3_labelled 24 = .ok (.iload_n 2, 1) := by decide +kernel
theorem sX3_labelled_24 : ab_X rom K cX3_labelled 1 1 24 (v0 :: v1 :: .int x :: ls) st hp = ab_X rom K cX3_labelled 1 1 25 (v0 :: v1 :: .int x :: ls) (.int x :: st) hp := ax_iload_n dX3_labelled_24 rfl rfl
theorem dX3_labelled_25 : decode cX3_labelled 25 = .ok (.ishl, 1) := by decide +kernel
theorem sX3_labelled_25 : ab_X rom K cX3_labelled 1 1 25 ls (.int y :: .int x :: st) hp = ab_X rom K cX3_labelled 1 1 26 ls (.int (x <<< (y &&& 31)) :: st) hp := ax_ishl dX3_labelled_25 rfl
theorem dX3_labelled_26 : decode cX3_labelled 26 = .ok (.ior, 1) := by decide +kernel
theorem sX3_labelled_26 : ab_X rom K cX3_labelled 1 1 26 ls (.int y :: .int x :: st) hp = ab_X rom K cX3_labelled 1 1 27 ls (.int (x ||| y) :: st) hp := ax_ior dX3_labelled_26 rfl
theorem dX3_labelled_27 : decode cX3_labelled 27 = .ok (.istore_n 1, 1) := by decide +kernel
theorem sX3_labelled_27i : ab_X rom K cX3_labelled 1 1 27 (.int y :: v1 :: ls) (.int x :: st) hp = ab_X rom K cX3_labelled 1 1 28 (.int y :: .int x :: ls) st hp := ax_istore_n dX3_labelled_27 (ax_lt (v := v1) rfl) (ab_nl_c1 (j := 0) (v := .int y) rfl (ab_c1_int _)) rfl rfl
theorem sX3_labelled_27r : ab_X rom K cX3_labelled 1 1 27 (.ref a2 :: v1 :: ls) (.int x :: st) hp = ab_X rom K cX3_labelled 1 1 28 (.ref a2 :: .int x :: ls) st hp := ax_istore_n dX3_labelled_27 (ax_lt (v := v1) rfl) (ab_nl_c1 (j := 0) (v := .ref a2) rfl (ab_c1_ref _)) rfl rfl
theorem sX3_labelled_27n : ab_X rom K cX3_labelled 1 1 27 (.null :: v1 :: ls) (.int x :: st) hp = ab_X rom K cX3_labelled 1 1 28 (.null :: .int x :: ls) st hp := ax_istore_n dX3_labelled_27 (ax_lt (v := v1) rfl) (ab_nl_c1 (j := 0) (v := .null) rfl ab_c1_null) rfl rfl
theorem dX3_labelled_28 : decode cX3_labelled 28 = .ok (.iinc 2 1, 3) := by decide +kernel
theorem sX3_labelled_28i : ab_X rom K cX3_labelled 1 1 28 (v0 :: .int y :: .int x :: ls) st hp = ab_X rom K cX3_labelled 1 1 31 (v0 :: .int y :: .int (x + 1) :: ls) st hp := ax_iinc dX3_labelled_28 rfl (ab_nl_c1 (j := 1) (v := .int y) rfl (ab_c1_int _)) (by decide) rfl rfl
theorem sX3_labelled_28r : ab_X rom K cX3_labelled 1 1 28 (v0 :: .ref a2 :: .int x :: ls) st hp = ab_X rom K cX3_labelled 1 1 31 (v0 :: .ref a2 :: .int (x + 1) :: ls) st hp := ax_iinc dX3_labelled_28 rfl (ab_nl_c1 (j := 1) (v := .ref a2) rfl (ab_c1_ref _)) (by decide) rfl rfl
theorem sX3_labelled_28n : ab_X rom K cX3_labelled 1 1 28 (v0 :: .null :: .int x :: ls) st hp = ab_X rom K cX3_labelled 1 1 31 (v0 :: .null :: .int (x + 1) :: ls) st hp := ax_iinc dX3_labelled_28 rfl (ab_nl_c1 (j := 1) (v := .null) rfl ab_c1_null) (by decide) rfl rfl
theorem dX3_labelled_31 : decode cX3_labelled 31 = .ok (.goto (-27), 3) := by decide +kernel
theorem sX3_labelled_31 : ab_X rom K cX3_labelled 1 1 31 ls st hp = ab_X rom K cX3_labelled 1 1 4 ls st hp := ax_goto dX3_labelled_31 (by decide)
theorem dX3_labelled_34 : decode cX3_labelled 34 = .ok (.iload_n 1, 1) := by decide +kernel
theorem sX3_labelled_34 : ab_X rom K cX3_labelled 1 1 34 (v0 :: .int x :: ls) st hp = ab_X rom K cX3_labelled 1 1 35 (v0 :: .int x :: ls) (.int x :: st) hp := ax_iload_n dX3_labelled_34 rfl rfl
theorem dX3_labelled_35 : decode cX3_labelled 35 = .ok (.ireturn, 1) := by decide +kernel
theorem sX3_labelled_35 : ab_X rom K cX3_labelled 1 1 35 ls [.int x] hp = some (some (.int x), hp) := ax_iret dX3_labelled_35 rfl
theorem tX3_lineHasLabels : ab_mT[26]? = some (yX3_lineHasLabels, cX3_lineHasLabels, 2, 2, 1) := by decide +kernel
theorem mX3_lineHasLabels {d : Nat} {a0 : Nat} {x0 : Int32} : ab_M rom (d + 1) 26 [.ref a0, .int x0] hp = ab_X rom (ab_M rom d) cX3_lineHasLabels 1 2 0 [.ref a0, .int x0] [] hp := ab_M_eq tX3_lineHasLabels (Nat.le_of_ble_eq_true rfl)
theorem dX3_lineHasLabels_0 : decode cX3_lineHasLabels 0 = .ok (.aload_n 0, 1) := by decide +kernel
theorem sX3_lineHasLabels_0 : ab_X rom K cX3_lineHasLabels 1 2 0 (.ref a :: ls) st hp = ab_X rom K cX3_lineHasLabels 1 2 1 (.ref a :: ls) (.ref a :: st) hp := ax_aload_n dX3_lineHasLabels_0 rfl rfl
theorem dX3_lineHasLabels_1 : decode cX3_lineHasLabels 1 = .ok (.getfield 25, 3) := by decide +kernel
theorem sX3_lineHasLabels_1 : ab_X rom K cX3_lineHasLabels 1 2 1 ls (.ref a :: st) hp = (ab_fld hp a 1 4).bind (fun v => ab_X rom K cX3_lineHasLabels 1 2 4 ls (v :: st) hp) := ax_getfield dX3_lineHasLabels_1 kf_1_25 rfl
theorem dX3_lineHasLabels_4 : decode cX3_lineHasLabels 4 = .ok (.aload_n 0, 1) := by decide +kernel
theorem sX3_lineHasLabels_4 : ab_X rom K cX3_lineHasLabels 1 2 4 (.ref a :: ls) st hp = ab_X rom K cX3_lineHasLabels 1 2 5 (.ref a :: ls) (.ref a :: st) hp := ax_aload_n dX3_lineHasLabels_4 rfl rfl
theorem dX3_lineHasLabels_5 : decode cX3_lineHasLabels 5 = .ok (.getfield 18, 3) := by decide +kernel
theorem sX3_lineHasLabels_5 : ab_X rom K cX3_lineHasLabels 1 2 5 ls (.ref a :: st) hp = (ab_fld hp a 1 2).bind (fun v => ab_X rom K cX3_lineHasLabels 1 2 8 ls (v :: st) hp) := ax_getfield dX3_lineHasLabels_5 kf_1_18 rfl
theorem dX3_lineHasLabels_8 : decode cX3_lineHasLabels 8 = .ok (.iload_n 1, 1) := by decide +kernel
theorem sX3_lineHasLabels_8 : ab_X rom K cX3_lineHasLabels 1 2 8 (v0 :: .int x :: ls) st hp = ab_X rom K cX3_lineHasLabels 1 2 9 (v0 :: .int x :: ls) (.int x :: st) hp := ax_iload_n dX3_lineHasLabels_8 rfl rfl
theorem dX3_lineHasLabels_9 : decode cX3_lineHasLabels 9 = .ok (.iaload, 1) := by decide +kernel
theorem sX3_lineHasLabels_9 : ab_X rom K cX3_lineHasLabels 1 2 9 ls (.int x :: .ref a :: st) hp = (ab_ard rom 0 hp a x).bind (fun v => ab_X rom K cX3_lineHasLabels 1 2 10 ls (.int v :: st) hp) := ax_iaload dX3_lineHasLabels_9 rfl
theorem dX3_lineHasLabels_10 : decode cX3_lineHasLabels 10 = .ok (.iaload, 1) := by decide +kernel
theorem sX3_lineHasLabels_10 : ab_X rom K cX3_lineHasLabels 1 2 10 ls (.int x :: .ref a :: st) hp = (ab_ard rom 0 hp a x).bind (fun v => ab_X rom K cX3_lineHasLabels 1 2 11 ls (.int v :: st) hp) := ax_iaload dX3_lineHasLabels_10 rfl
theorem dX3_lineHasLabels_11 : decode cX3_lineHasLabels 11 = .ok (.iconst (-1), 1) := by decide +kernel
theorem sX3_lineHasLabels_11 : ab_X rom K cX3_lineHasLabels 1 2 11 ls st hp = ab_X rom K cX3_lineHasLabels 1 2 12 ls (.int (-1) :: st) hp := ax_iconst dX3_lineHasLabels_11 (by decide) rfl
theorem dX3_lineHasLabels_12 : decode cX3_lineHasLabels 12 = .ok (.if_icmp .eq 22, 3) := by decide +kernel
theorem sX3_lineHasLabels_12 : ab_X rom K cX3_lineHasLabels 1 2 12 ls (.int y :: .int x :: st) hp = if x = y then ab_X rom K cX3_lineHasLabels 1 2 34 ls st hp else ab_X rom K cX3_lineHasLabels 1 2 15 ls st hp := ax_icmp_eq dX3_lineHasLabels_12 (by decide) rfl
theorem dX3_lineHasLabels_15 : decode cX3_lineHasLabels 15 = .ok (.aload_n 0, 1) := by decide +kernel
theorem sX3_lineHasLabels_15 : ab_X rom K cX3_lineHasLabels 1 2 15 (.ref a :: ls) st hp = ab_X rom K cX3_lineHasLabels 1 2 16 (.ref a :: ls) (.ref a :: st) hp := ax_aload_n dX3_lineHasLabels_15 rfl rfl
theorem dX3_lineHasLabels_16 : decode cX3_lineHasLabels 16 = .ok (.getfield 25, 3) := by decide +kernel
theorem sX3_lineHasLabels_16 : ab_X rom K cX3_lineHasLabels 1 2 16 ls (.ref a :: st) hp = (ab_fld hp a 1 4).bind (fun v => ab_X rom K cX3_lineHasLabels 1 2 19 ls (v :: st) hp) := ax_getfield dX3_lineHasLabels_16 kf_1_25 rfl
theorem dX3_lineHasLabels_19 : decode cX3_lineHasLabels 19 = .ok (.aload_n 0, 1) := by decide +kernel
theorem sX3_lineHasLabels_19 : ab_X rom K cX3_lineHasLabels 1 2 19 (.ref a :: ls) st hp = ab_X rom K cX3_lineHasLabels 1 2 20 (.ref a :: ls) (.ref a :: st) hp := ax_aload_n dX3_lineHasLabels_19 rfl rfl
theorem dX3_lineHasLabels_20 : decode cX3_lineHasLabels 20 = .ok (.getfield 22, 3) := by decide +kernel
theorem sX3_lineHasLabels_20 : ab_X rom K cX3_lineHasLabels 1 2 20 ls (.ref a :: st) hp = (ab_fld hp a 1 3).bind (fun v => ab_X rom K cX3_lineHasLabels 1 2 23 ls (v :: st) hp) := ax_getfield dX3_lineHasLabels_20 kf_1_22 rfl
theorem dX3_lineHasLabels_23 : decode cX3_lineHasLabels 23 = .ok (.iload_n 1, 1) := by decide +kernel
theorem sX3_lineHasLabels_23 : ab_X rom K cX3_lineHasLabels 1 2 23 (v0 :: .int x :: ls) st hp = ab_X rom K cX3_lineHasLabels 1 2 24 (v0 :: .int x :: ls) (.int x :: st) hp := ax_iload_n dX3_lineHasLabels_23 rfl rfl
theorem dX3_lineHasLabels_24 : decode cX3_lineHasLabels 24 = .ok (.iaload, 1) := by decide +kernel
theorem sX3_lineHasLabels_24 : ab_X rom K cX3_lineHasLabels 1 2 24 ls (.int x :: .ref a :: st) hp = (ab_ard rom 0 hp a x).bind (fun v => ab_X rom K cX3_lineHasLabels 1 2 25 ls (.int v :: st) hp) := ax_iaload dX3_lineHasLabels_24 rfl
theorem dX3_lineHasLabels_25 : decode cX3_lineHasLabels 25 = .ok (.iaload, 1) := by decide +kernel
theorem sX3_lineHasLabels_25 : ab_X rom K cX3_lineHasLabels 1 2 25 ls (.int x :: .ref a :: st) hp = (ab_ard rom 0 hp a x).bind (fun v => ab_X rom K cX3_lineHasLabels 1 2 26 ls (.int v :: st) hp) := ax_iaload dX3_lineHasLabels_25 rfl
theorem dX3_lineHasLabels_26 : decode cX3_lineHasLabels 26 = .ok (.iconst (-1), 1) := by decide +kernel
theorem sX3_lineHasLabels_26 : ab_X rom K cX3_lineHasLabels 1 2 26 ls st hp = ab_X rom K cX3_lineHasLabels 1 2 27 ls (.int (-1) :: st) hp := ax_iconst dX3_lineHasLabels_26 (by decide) rfl
theorem dX3_lineHasLabels_27 : decode cX3_lineHasLabels 27 = .ok (.if_icmp .eq 7, 3) := by decide +kernel
theorem sX3_lineHasLabels_27 : ab_X rom K cX3_lineHasLabels 1 2 27 ls (.int y :: .int x :: st) hp = if x = y then ab_X rom K cX3_lineHasLabels 1 2 34 ls st hp else ab_X rom K cX3_lineHasLabels 1 2 30 ls st hp := ax_icmp_eq dX3_lineHasLabels_27 (by decide) rfl
theorem dX3_lineHasLabels_30 : decode cX3_lineHasLabels 30 = .ok (.iconst 1, 1) := by decide +kernel
theorem sX3_lineHasLabels_30 : ab_X rom K cX3_lineHasLabels 1 2 30 ls st hp = ab_X rom K cX3_lineHasLabels 1 2 31 ls (.int 1 :: st) hp := ax_iconst dX3_lineHasLabels_30 (by decide) rfl
theorem dX3_lineHasLabels_31 : decode cX3_lineHasLabels 31 = .ok (.goto 4, 3) := by decide +kernel
theorem sX3_lineHasLabels_31 : ab_X rom K cX3_lineHasLabels 1 2 31 ls st hp = ab_X rom K cX3_lineHasLabels 1 2 35 ls st hp := ax_goto dX3_lineHasLabels_31 (by decide)
theorem dX3_lineHasLabels_34 : decode cX3_lineHasLabels 34 = .ok (.iconst 0, 1) := by decide +kernel
theorem sX3_lineHasLabels_34 : ab_X rom K cX3_lineHasLabels 1 2 34 ls st hp = ab_X rom K cX3_lineHasLabels 1 2 35 ls (.int 0 :: st) hp := ax_iconst dX3_lineHasLabels_34 (by decide) rfl
theorem dX3_lineHasLabels_35 : decode cX3_lineHasLabels 35 = .ok (.ireturn, 1) := by decide +kernel
theorem sX3_lineHasLabels_35 : ab_X rom K cX3_lineHasLabels 1 2 35 ls [.int x] hp = if x = 0 ∨ x = 1 then some (some (.int x), hp) else none := ay_zret dX3_lineHasLabels_35 rfl
theorem tX3_linesAt : ab_mT[27]? = some (yX3_linesAt, cX3_linesAt, 2, 1, 1) := by decide +kernel
theorem mX3_linesAt {d : Nat} {a0 : Nat} {x0 : Int32} : ab_M rom (d + 1) 27 [.ref a0, .int x0] hp = ab_X rom (ab_M rom d) cX3_linesAt 1 1 0 [.ref a0, .int x0] [] hp := ab_M_eq tX3_linesAt (Nat.le_of_ble_eq_true rfl)
theorem dX3_linesAt_0 : decode cX3_linesAt 0 = .ok (.aload_n 0, 1) := by decide +kernel
theorem sX3_linesAt_0 : ab_X rom K cX3_linesAt 1 1 0 (.ref a :: ls) st hp = ab_X rom K cX3_linesAt 1 1 1 (.ref a :: ls) (.ref a :: st) hp := ax_aload_n dX3_linesAt_0 rfl rfl
theorem dX3_linesAt_1 : decode cX3_linesAt 1 = .ok (.getfield 28, 3) := by decide +kernel
theorem sX3_linesAt_1 : ab_X rom K cX3_linesAt 1 1 1 ls (.ref a :: st) hp = (ab_fld hp a 1 5).bind (fun v => ab_X rom K cX3_linesAt 1 1 4 ls (v :: st) hp) := ax_getfield dX3_linesAt_1 kf_1_28 rfl
theorem dX3_linesAt_4 : decode cX3_linesAt 4 = .ok (.iload_n 1, 1) := by decide +kernel
theorem sX3_linesAt_4 : ab_X rom K cX3_linesAt 1 1 4 (v0 :: .int x :: ls) st hp = ab_X rom K cX3_linesAt 1 1 5 (v0 :: .int x :: ls) (.int x :: st) hp := ax_iload_n dX3_linesAt_4 rfl rfl
theorem dX3_linesAt_5 : decode cX3_linesAt 5 = .ok (.iaload, 1) := by decide +kernel
theorem sX3_linesAt_5 : ab_X rom K cX3_linesAt 1 1 5 ls (.int x :: .ref a :: st) hp = (ab_ard rom 0 hp a x).bind (fun v => ab_X rom K cX3_linesAt 1 1 6 ls (.int v :: st) hp) := ax_iaload dX3_linesAt_5 rfl
theorem dX3_linesAt_6 : decode cX3_linesAt 6 = .ok (.invokestatic 55, 3) := by decide +kernel
theorem sX3_linesAt_6_0 : ab_X rom K cX3_linesAt 1 1 6 ls [w1] hp = (K 264 [w1] hp).bind (fun o => ab_X rom K cX3_linesAt 1 1 9 ls (o.1.toList ++ []) o.2) := ax_static (as := [w1]) (st := []) dX3_linesAt_6 kc_1_55 rfl rfl (Nat.le_of_ble_eq_true rfl)
theorem sX3_linesAt_6_1 : ab_X rom K cX3_linesAt 1 1 6 ls [w1, v0] hp = (K 264 [w1] hp).bind (fun o => ab_X rom K cX3_linesAt 1 1 9 ls (o.1.toList ++ [v0]) o.2) := ax_static (as := [w1]) (st := [v0]) dX3_linesAt_6 kc_1_55 rfl rfl (Nat.le_of_ble_eq_true rfl)
theorem sX3_linesAt_6_2 : ab_X rom K cX3_linesAt 1 1 6 ls [w1, v0, v1] hp = (K 264 [w1] hp).bind (fun o => ab_X rom K cX3_linesAt 1 1 9 ls (o.1.toList ++ [v0, v1]) o.2) := ax_static (as := [w1]) (st := [v0, v1]) dX3_linesAt_6 kc_1_55 rfl rfl (Nat.le_of_ble_eq_true rfl)
theorem sX3_linesAt_6_3 : ab_X rom K cX3_linesAt 1 1 6 ls [w1, v0, v1, v2] hp = (K 264 [w1] hp).bind (fun o => ab_X rom K cX3_linesAt 1 1 9 ls (o.1.toList ++ [v0, v1, v2]) o.2) := ax_static (as := [w1]) (st := [v0, v1, v2]) dX3_linesAt_6 kc_1_55 rfl rfl (Nat.le_of_ble_eq_true rfl)
theorem dX3_linesAt_9 : decode cX3_linesAt 9 = .ok (.ireturn, 1) := by decide +kernel
theorem sX3_linesAt_9 : ab_X rom K cX3_linesAt 1 1 9 ls [.int x] hp = some (some (.int x), hp) := ax_iret dX3_linesAt_9 rfl
theorem tX3_mostLines : ab_mT[28]? = some (yX3_mostLines, cX3_mostLines, 3, 1, 1) := by decide +kernel
theorem mX3_mostLines {d : Nat} {a0 : Nat} : ab_M rom (d + 1) 28 [.ref a0] hp = ab_X rom (ab_M rom d) cX3_mostLines 1 1 0 [.ref a0, .null, .null] [] hp := ab_M_eq tX3_mostLines (Nat.le_of_ble_eq_true rfl)
theorem dX3_mostLines_0 : decode cX3_mostLines 0 = .ok (.iconst 0, 1) := by decide +kernel
theorem sX3_mostLines_0 : ab_X rom K cX3_mostLines 1 1 0 ls st hp = ab_X rom K cX3_mostLines 1 1 1 ls (.int 0 :: st) hp := ax_iconst dX3_mostLines_0 (by decide) rfl
theorem dX3_mostLines_1 : decode cX3_mostLines 1 = .ok (.istore_n 1, 1) := by decide +kernel
theorem sX3_mostLines_1i : ab_X rom K cX3_mostLines 1 1 1 (.int y :: v1 :: ls) (.int x :: st) hp = ab_X rom K cX3_mostLines 1 1 2 (.int y :: .int x :: ls) st hp := ax_istore_n dX3_mostLines_1 (ax_lt (v := v1) rfl) (ab_nl_c1 (j := 0) (v := .int y) rfl (ab_c1_int _)) rfl rfl
theorem sX3_mostLines_1r : ab_X rom K cX3_mostLines 1 1 1 (.ref a2 :: v1 :: ls) (.int x :: st) hp = ab_X rom K cX3_mostLines 1 1 2 (.ref a2 :: .int x :: ls) st hp := ax_istore_n dX3_mostLines_1 (ax_lt (v := v1) rfl) (ab_nl_c1 (j := 0) (v := .ref a2) rfl (ab_c1_ref _)) rfl rfl
theorem sX3_mostLines_1n : ab_X rom K cX3_mostLines 1 1 1 (.null :: v1 :: ls) (.int x :: st) hp = ab_X rom K cX3_mostLines 1 1 2 (.null :: .int x :: ls) st hp := ax_istore_n dX3_mostLines_1 (ax_lt (v := v1) rfl) (ab_nl_c1 (j := 0) (v := .null) rfl ab_c1_null) rfl rfl
theorem dX3_mostLines_2 : decode cX3_mostLines 2 = .ok (.iconst 0, 1) := by decide +kernel
theorem sX3_mostLines_2 : ab_X rom K cX3_mostLines 1 1 2 ls st hp = ab_X rom K cX3_mostLines 1 1 3 ls (.int 0 :: st) hp := ax_iconst dX3_mostLines_2 (by decide) rfl
theorem dX3_mostLines_3 : decode cX3_mostLines 3 = .ok (.istore_n 2, 1) := by decide +kernel
theorem sX3_mostLines_3i : ab_X rom K cX3_mostLines 1 1 3 (v0 :: .int y :: v2 :: ls) (.int x :: st) hp = ab_X rom K cX3_mostLines 1 1 4 (v0 :: .int y :: .int x :: ls) st hp := ax_istore_n dX3_mostLines_3 (ax_lt (v := v2) rfl) (ab_nl_c1 (j := 1) (v := .int y) rfl (ab_c1_int _)) rfl rfl
theorem sX3_mostLines_3r : ab_X rom K cX3_mostLines 1 1 3 (v0 :: .ref a2 :: v2 :: ls) (.int x :: st) hp = ab_X rom K cX3_mostLines 1 1 4 (v0 :: .ref a2 :: .int x :: ls) st hp := ax_istore_n dX3_mostLines_3 (ax_lt (v := v2) rfl) (ab_nl_c1 (j := 1) (v := .ref a2) rfl (ab_c1_ref _)) rfl rfl
theorem sX3_mostLines_3n : ab_X rom K cX3_mostLines 1 1 3 (v0 :: .null :: v2 :: ls) (.int x :: st) hp = ab_X rom K cX3_mostLines 1 1 4 (v0 :: .null :: .int x :: ls) st hp := ax_istore_n dX3_mostLines_3 (ax_lt (v := v2) rfl) (ab_nl_c1 (j := 1) (v := .null) rfl ab_c1_null) rfl rfl
theorem dX3_mostLines_4 : decode cX3_mostLines 4 = .ok (.iload_n 2, 1) := by decide +kernel
theorem sX3_mostLines_4 : ab_X rom K cX3_mostLines 1 1 4 (v0 :: v1 :: .int x :: ls) st hp = ab_X rom K cX3_mostLines 1 1 5 (v0 :: v1 :: .int x :: ls) (.int x :: st) hp := ax_iload_n dX3_mostLines_4 rfl rfl
theorem dX3_mostLines_5 : decode cX3_mostLines 5 = .ok (.aload_n 0, 1) := by decide +kernel
theorem sX3_mostLines_5 : ab_X rom K cX3_mostLines 1 1 5 (.ref a :: ls) st hp = ab_X rom K cX3_mostLines 1 1 6 (.ref a :: ls) (.ref a :: st) hp := ax_aload_n dX3_mostLines_5 rfl rfl
theorem dX3_mostLines_6 : decode cX3_mostLines 6 = .ok (.getfield 9, 3) := by decide +kernel
theorem sX3_mostLines_6 : ab_X rom K cX3_mostLines 1 1 6 ls (.ref a :: st) hp = (ab_fld hp a 1 0).bind (fun v => ab_X rom K cX3_mostLines 1 1 9 ls (v :: st) hp) := ax_getfield dX3_mostLines_6 kf_1_9 rfl
theorem dX3_mostLines_9 : decode cX3_mostLines 9 = .ok (.if_icmp .ge 19, 3) := by decide +kernel
theorem sX3_mostLines_9 : ab_X rom K cX3_mostLines 1 1 9 ls (.int y :: .int x :: st) hp = if x < y then ab_X rom K cX3_mostLines 1 1 12 ls st hp else ab_X rom K cX3_mostLines 1 1 28 ls st hp := ax_icmp_ge dX3_mostLines_9 (by decide) rfl
theorem dX3_mostLines_12 : decode cX3_mostLines 12 = .ok (.iload_n 1, 1) := by decide +kernel
theorem sX3_mostLines_12 : ab_X rom K cX3_mostLines 1 1 12 (v0 :: .int x :: ls) st hp = ab_X rom K cX3_mostLines 1 1 13 (v0 :: .int x :: ls) (.int x :: st) hp := ax_iload_n dX3_mostLines_12 rfl rfl
theorem dX3_mostLines_13 : decode cX3_mostLines 13 = .ok (.aload_n 0, 1) := by decide +kernel
theorem sX3_mostLines_13 : ab_X rom K cX3_mostLines 1 1 13 (.ref a :: ls) st hp = ab_X rom K cX3_mostLines 1 1 14 (.ref a :: ls) (.ref a :: st) hp := ax_aload_n dX3_mostLines_13 rfl rfl
theorem dX3_mostLines_14 : decode cX3_mostLines 14 = .ok (.iload_n 2, 1) := by decide +kernel
theorem sX3_mostLines_14 : ab_X rom K cX3_mostLines 1 1 14 (v0 :: v1 :: .int x :: ls) st hp = ab_X rom K cX3_mostLines 1 1 15 (v0 :: v1 :: .int x :: ls) (.int x :: st) hp := ax_iload_n dX3_mostLines_14 rfl rfl
theorem dX3_mostLines_15 : decode cX3_mostLines 15 = .ok (.invokevirtual 61, 3) := by decide +kernel
theorem sX3_mostLines_15_0 : ab_X rom K cX3_mostLines 1 1 15 ls [w1, .ref a] hp = if ab_iso hp a 1 = true then (K 27 (.ref a :: [w1]) hp).bind (fun o => ab_X rom K cX3_mostLines 1 1 18 ls (o.1.toList ++ []) o.2) else none := ay_virtual (as := [w1]) (st := []) dX3_mostLines_15 kc_1_61 rfl rfl (Nat.le_of_ble_eq_true rfl)
theorem sX3_mostLines_15_1 : ab_X rom K cX3_mostLines 1 1 15 ls [w1, .ref a, v0] hp = if ab_iso hp a 1 = true then (K 27 (.ref a :: [w1]) hp).bind (fun o => ab_X rom K cX3_mostLines 1 1 18 ls (o.1.toList ++ [v0]) o.2) else none := ay_virtual (as := [w1]) (st := [v0]) dX3_mostLines_15 kc_1_61 rfl rfl (Nat.le_of_ble_eq_true rfl)
theorem sX3_mostLines_15_2 : ab_X rom K cX3_mostLines 1 1 15 ls [w1, .ref a, v0, v1] hp = if ab_iso hp a 1 = true then (K 27 (.ref a :: [w1]) hp).bind (fun o => ab_X rom K cX3_mostLines 1 1 18 ls (o.1.toList ++ [v0, v1]) o.2) else none := ay_virtual (as := [w1]) (st := [v0, v1]) dX3_mostLines_15 kc_1_61 rfl rfl (Nat.le_of_ble_eq_true rfl)
theorem sX3_mostLines_15_3 : ab_X rom K cX3_mostLines 1 1 15 ls [w1, .ref a, v0, v1, v2] hp = if ab_iso hp a 1 = true then (K 27 (.ref a :: [w1]) hp).bind (fun o => ab_X rom K cX3_mostLines 1 1 18 ls (o.1.toList ++ [v0, v1, v2]) o.2) else none := ay_virtual (as := [w1]) (st := [v0, v1, v2]) dX3_mostLines_15 kc_1_61 rfl rfl (Nat.le_of_ble_eq_true rfl)
theorem dX3_mostLines_18 : decode cX3_mostLines 18 = .ok (.invokestatic 52, 3) := by decide +kernel
theorem sX3_mostLines_18_0 : ab_X rom K cX3_mostLines 1 1 18 ls [.int y, .int x] hp = ab_X rom K cX3_mostLines 1 1 21 ls [.int (ab_max x y)] hp := ax_max dX3_mostLines_18 kc_1_52 rfl (Nat.le_of_ble_eq_true rfl)
theorem sX3_mostLines_18_1 : ab_X rom K cX3_mostLines 1 1 18 ls [.int y, .int x, v0] hp = ab_X rom K cX3_mostLines 1 1 21 ls [.int (ab_max x y), v0] hp := ax_max dX3_mostLines_18 kc_1_52 rfl (Nat.le_of_ble_eq_true rfl)
theorem sX3_mostLines_18_2 : ab_X rom K cX3_mostLines 1 1 18 ls [.int y, .int x, v0, v1] hp = ab_X rom K cX3_mostLines 1 1 21 ls [.int (ab_max x y), v0, v1] hp := ax_max dX3_mostLines_18 kc_1_52 rfl (Nat.le_of_ble_eq_true rfl)
theorem sX3_mostLines_18_3 : ab_X rom K cX3_mostLines 1 1 18 ls [.int y, .int x, v0, v1, v2] hp = ab_X rom K cX3_mostLines 1 1 21 ls [.int (ab_max x y), v0, v1, v2] hp := ax_max dX3_mostLines_18 kc_1_52 rfl (Nat.le_of_ble_eq_true rfl)
theorem dX3_mostLines_21 : decode cX3_mostLines 21 = .ok (.istore_n 1, 1) := by decide +kernel
theorem sX3_mostLines_21i : ab_X rom K cX3_mostLines 1 1 21 (.int y :: v1 :: ls) (.int x :: st) hp = ab_X rom K cX3_mostLines 1 1 22 (.int y :: .int x :: ls) st hp := ax_istore_n dX3_mostLines_21 (ax_lt (v := v1) rfl) (ab_nl_c1 (j := 0) (v := .int y) rfl (ab_c1_int _)) rfl rfl
theorem sX3_mostLines_21r : ab_X rom K cX3_mostLines 1 1 21 (.ref a2 :: v1 :: ls) (.int x :: st) hp = ab_X rom K cX3_mostLines 1 1 22 (.ref a2 :: .int x :: ls) st hp := ax_istore_n dX3_mostLines_21 (ax_lt (v := v1) rfl) (ab_nl_c1 (j := 0) (v := .ref a2) rfl (ab_c1_ref _)) rfl rfl
theorem sX3_mostLines_21n : ab_X rom K cX3_mostLines 1 1 21 (.null :: v1 :: ls) (.int x :: st) hp = ab_X rom K cX3_mostLines 1 1 22 (.null :: .int x :: ls) st hp := ax_istore_n dX3_mostLines_21 (ax_lt (v := v1) rfl) (ab_nl_c1 (j := 0) (v := .null) rfl ab_c1_null) rfl rfl
theorem dX3_mostLines_22 : decode cX3_mostLines 22 = .ok (.iinc 2 1, 3) := by decide +kernel
theorem sX3_mostLines_22i : ab_X rom K cX3_mostLines 1 1 22 (v0 :: .int y :: .int x :: ls) st hp = ab_X rom K cX3_mostLines 1 1 25 (v0 :: .int y :: .int (x + 1) :: ls) st hp := ax_iinc dX3_mostLines_22 rfl (ab_nl_c1 (j := 1) (v := .int y) rfl (ab_c1_int _)) (by decide) rfl rfl
theorem sX3_mostLines_22r : ab_X rom K cX3_mostLines 1 1 22 (v0 :: .ref a2 :: .int x :: ls) st hp = ab_X rom K cX3_mostLines 1 1 25 (v0 :: .ref a2 :: .int (x + 1) :: ls) st hp := ax_iinc dX3_mostLines_22 rfl (ab_nl_c1 (j := 1) (v := .ref a2) rfl (ab_c1_ref _)) (by decide) rfl rfl
theorem sX3_mostLines_22n : ab_X rom K cX3_mostLines 1 1 22 (v0 :: .null :: .int x :: ls) st hp = ab_X rom K cX3_mostLines 1 1 25 (v0 :: .null :: .int (x + 1) :: ls) st hp := ax_iinc dX3_mostLines_22 rfl (ab_nl_c1 (j := 1) (v := .null) rfl ab_c1_null) (by decide) rfl rfl
theorem dX3_mostLines_25 : decode cX3_mostLines 25 = .ok (.goto (-21), 3) := by decide +kernel
theorem sX3_mostLines_25 : ab_X rom K cX3_mostLines 1 1 25 ls st hp = ab_X rom K cX3_mostLines 1 1 4 ls st hp := ax_goto dX3_mostLines_25 (by decide)
theorem dX3_mostLines_28 : decode cX3_mostLines 28 = .ok (.iload_n 1, 1) := by decide +kernel
theorem sX3_mostLines_28 : ab_X rom K cX3_mostLines 1 1 28 (v0 :: .int x :: ls) st hp = ab_X rom K cX3_mostLines 1 1 29 (v0 :: .int x :: ls) (.int x :: st) hp := ax_iload_n dX3_mostLines_28 rfl rfl
theorem dX3_mostLines_29 : decode cX3_mostLines 29 = .ok (.ireturn, 1) := by decide +kernel
theorem sX3_mostLines_29 : ab_X rom K cX3_mostLines 1 1 29 ls [.int x] hp = some (some (.int x), hp) := ax_iret dX3_mostLines_29 rfl
theorem tX3_parts : ab_mT[29]? = some (yX3_parts, cX3_parts, 5, 1, 1) := by decide +kernel
theorem mX3_parts {d : Nat} {a0 : Nat} : ab_M rom (d + 1) 29 [.ref a0] hp = ab_X rom (ab_M rom d) cX3_parts 1 1 0 [.ref a0, .null, .null, .null, .null] [] hp := ab_M_eq tX3_parts (Nat.le_of_ble_eq_true rfl)
theorem dX3_parts_0 : decode cX3_parts 0 = .ok (.iconst 0, 1) := by decide +kernel
theorem sX3_parts_0 : ab_X rom K cX3_parts 1 1 0 ls st hp = ab_X rom K cX3_parts 1 1 1 ls (.int 0 :: st) hp := ax_iconst dX3_parts_0 (by decide) rfl
theorem dX3_parts_1 : decode cX3_parts 1 = .ok (.istore_n 1, 1) := by decide +kernel
theorem sX3_parts_1i : ab_X rom K cX3_parts 1 1 1 (.int y :: v1 :: ls) (.int x :: st) hp = ab_X rom K cX3_parts 1 1 2 (.int y :: .int x :: ls) st hp := ax_istore_n dX3_parts_1 (ax_lt (v := v1) rfl) (ab_nl_c1 (j := 0) (v := .int y) rfl (ab_c1_int _)) rfl rfl
theorem sX3_parts_1r : ab_X rom K cX3_parts 1 1 1 (.ref a2 :: v1 :: ls) (.int x :: st) hp = ab_X rom K cX3_parts 1 1 2 (.ref a2 :: .int x :: ls) st hp := ax_istore_n dX3_parts_1 (ax_lt (v := v1) rfl) (ab_nl_c1 (j := 0) (v := .ref a2) rfl (ab_c1_ref _)) rfl rfl
theorem sX3_parts_1n : ab_X rom K cX3_parts 1 1 1 (.null :: v1 :: ls) (.int x :: st) hp = ab_X rom K cX3_parts 1 1 2 (.null :: .int x :: ls) st hp := ax_istore_n dX3_parts_1 (ax_lt (v := v1) rfl) (ab_nl_c1 (j := 0) (v := .null) rfl ab_c1_null) rfl rfl
theorem dX3_parts_2 : decode cX3_parts 2 = .ok (.iconst 0, 1) := by decide +kernel
theorem sX3_parts_2 : ab_X rom K cX3_parts 1 1 2 ls st hp = ab_X rom K cX3_parts 1 1 3 ls (.int 0 :: st) hp := ax_iconst dX3_parts_2 (by decide) rfl
theorem dX3_parts_3 : decode cX3_parts 3 = .ok (.istore_n 2, 1) := by decide +kernel
theorem sX3_parts_3i : ab_X rom K cX3_parts 1 1 3 (v0 :: .int y :: v2 :: ls) (.int x :: st) hp = ab_X rom K cX3_parts 1 1 4 (v0 :: .int y :: .int x :: ls) st hp := ax_istore_n dX3_parts_3 (ax_lt (v := v2) rfl) (ab_nl_c1 (j := 1) (v := .int y) rfl (ab_c1_int _)) rfl rfl
theorem sX3_parts_3r : ab_X rom K cX3_parts 1 1 3 (v0 :: .ref a2 :: v2 :: ls) (.int x :: st) hp = ab_X rom K cX3_parts 1 1 4 (v0 :: .ref a2 :: .int x :: ls) st hp := ax_istore_n dX3_parts_3 (ax_lt (v := v2) rfl) (ab_nl_c1 (j := 1) (v := .ref a2) rfl (ab_c1_ref _)) rfl rfl
theorem sX3_parts_3n : ab_X rom K cX3_parts 1 1 3 (v0 :: .null :: v2 :: ls) (.int x :: st) hp = ab_X rom K cX3_parts 1 1 4 (v0 :: .null :: .int x :: ls) st hp := ax_istore_n dX3_parts_3 (ax_lt (v := v2) rfl) (ab_nl_c1 (j := 1) (v := .null) rfl ab_c1_null) rfl rfl
theorem dX3_parts_4 : decode cX3_parts 4 = .ok (.iconst 0, 1) := by decide +kernel
theorem sX3_parts_4 : ab_X rom K cX3_parts 1 1 4 ls st hp = ab_X rom K cX3_parts 1 1 5 ls (.int 0 :: st) hp := ax_iconst dX3_parts_4 (by decide) rfl
theorem dX3_parts_5 : decode cX3_parts 5 = .ok (.istore_n 3, 1) := by decide +kernel
theorem sX3_parts_5i : ab_X rom K cX3_parts 1 1 5 (v0 :: v1 :: .int y :: v3 :: ls) (.int x :: st) hp = ab_X rom K cX3_parts 1 1 6 (v0 :: v1 :: .int y :: .int x :: ls) st hp := ax_istore_n dX3_parts_5 (ax_lt (v := v3) rfl) (ab_nl_c1 (j := 2) (v := .int y) rfl (ab_c1_int _)) rfl rfl
theorem sX3_parts_5r : ab_X rom K cX3_parts 1 1 5 (v0 :: v1 :: .ref a2 :: v3 :: ls) (.int x :: st) hp = ab_X rom K cX3_parts 1 1 6 (v0 :: v1 :: .ref a2 :: .int x :: ls) st hp := ax_istore_n dX3_parts_5 (ax_lt (v := v3) rfl) (ab_nl_c1 (j := 2) (v := .ref a2) rfl (ab_c1_ref _)) rfl rfl
theorem sX3_parts_5n : ab_X rom K cX3_parts 1 1 5 (v0 :: v1 :: .null :: v3 :: ls) (.int x :: st) hp = ab_X rom K cX3_parts 1 1 6 (v0 :: v1 :: .null :: .int x :: ls) st hp := ax_istore_n dX3_parts_5 (ax_lt (v := v3) rfl) (ab_nl_c1 (j := 2) (v := .null) rfl ab_c1_null) rfl rfl
theorem dX3_parts_6 : decode cX3_parts 6 = .ok (.iload_n 3, 1) := by decide +kernel
theorem sX3_parts_6 : ab_X rom K cX3_parts 1 1 6 (v0 :: v1 :: v2 :: .int x :: ls) st hp = ab_X rom K cX3_parts 1 1 7 (v0 :: v1 :: v2 :: .int x :: ls) (.int x :: st) hp := ax_iload_n dX3_parts_6 rfl rfl
theorem dX3_parts_7 : decode cX3_parts 7 = .ok (.aload_n 0, 1) := by decide +kernel
theorem sX3_parts_7 : ab_X rom K cX3_parts 1 1 7 (.ref a :: ls) st hp = ab_X rom K cX3_parts 1 1 8 (.ref a :: ls) (.ref a :: st) hp := ax_aload_n dX3_parts_7 rfl rfl
theorem dX3_parts_8 : decode cX3_parts 8 = .ok (.getfield 9, 3) := by decide +kernel
theorem sX3_parts_8 : ab_X rom K cX3_parts 1 1 8 ls (.ref a :: st) hp = (ab_fld hp a 1 0).bind (fun v => ab_X rom K cX3_parts 1 1 11 ls (v :: st) hp) := ax_getfield dX3_parts_8 kf_1_9 rfl
theorem dX3_parts_11 : decode cX3_parts 11 = .ok (.if_icmp .ge 52, 3) := by decide +kernel
theorem sX3_parts_11 : ab_X rom K cX3_parts 1 1 11 ls (.int y :: .int x :: st) hp = if x < y then ab_X rom K cX3_parts 1 1 14 ls st hp else ab_X rom K cX3_parts 1 1 63 ls st hp := ax_icmp_ge dX3_parts_11 (by decide) rfl
theorem dX3_parts_14 : decode cX3_parts 14 = .ok (.iload_n 1, 1) := by decide +kernel
theorem sX3_parts_14 : ab_X rom K cX3_parts 1 1 14 (v0 :: .int x :: ls) st hp = ab_X rom K cX3_parts 1 1 15 (v0 :: .int x :: ls) (.int x :: st) hp := ax_iload_n dX3_parts_14 rfl rfl
theorem dX3_parts_15 : decode cX3_parts 15 = .ok (.iload_n 3, 1) := by decide +kernel
theorem sX3_parts_15 : ab_X rom K cX3_parts 1 1 15 (v0 :: v1 :: v2 :: .int x :: ls) st hp = ab_X rom K cX3_parts 1 1 16 (v0 :: v1 :: v2 :: .int x :: ls) (.int x :: st) hp := ax_iload_n dX3_parts_15 rfl rfl
theorem dX3_parts_16 : decode cX3_parts 16 = .ok (.ishr, 1) := by decide +kernel
theorem sX3_parts_16 : ab_X rom K cX3_parts 1 1 16 ls (.int y :: .int x :: st) hp = ab_X rom K cX3_parts 1 1 17 ls (.int (x >>> (y &&& 31)) :: st) hp := ax_ishr dX3_parts_16 rfl
theorem dX3_parts_17 : decode cX3_parts 17 = .ok (.iconst 1, 1) := by decide +kernel
theorem sX3_parts_17 : ab_X rom K cX3_parts 1 1 17 ls st hp = ab_X rom K cX3_parts 1 1 18 ls (.int 1 :: st) hp := ax_iconst dX3_parts_17 (by decide) rfl
theorem dX3_parts_18 : decode cX3_parts 18 = .ok (.iand, 1) := by decide +kernel
theorem sX3_parts_18 : ab_X rom K cX3_parts 1 1 18 ls (.int y :: .int x :: st) hp = ab_X rom K cX3_parts 1 1 19 ls (.int (x &&& y) :: st) hp := ax_iand dX3_parts_18 rfl
theorem dX3_parts_19 : decode cX3_parts 19 = .ok (.ifCond .ne 38, 3) := by decide +kernel
theorem sX3_parts_19 : ab_X rom K cX3_parts 1 1 19 ls (.int x :: st) hp = if x = 0 then ab_X rom K cX3_parts 1 1 22 ls st hp else ab_X rom K cX3_parts 1 1 57 ls st hp := ax_if_ne dX3_parts_19 (by decide) rfl
theorem dX3_parts_22 : decode cX3_parts 22 = .ok (.iload_n 1, 1) := by decide +kernel
theorem sX3_parts_22 : ab_X rom K cX3_parts 1 1 22 (v0 :: .int x :: ls) st hp = ab_X rom K cX3_parts 1 1 23 (v0 :: .int x :: ls) (.int x :: st) hp := ax_iload_n dX3_parts_22 rfl rfl
theorem dX3_parts_23 : decode cX3_parts 23 = .ok (.iconst 1, 1) := by decide +kernel
theorem sX3_parts_23 : ab_X rom K cX3_parts 1 1 23 ls st hp = ab_X rom K cX3_parts 1 1 24 ls (.int 1 :: st) hp := ax_iconst dX3_parts_23 (by decide) rfl
theorem dX3_parts_24 : decode cX3_parts 24 = .ok (.iload_n 3, 1) := by decide +kernel
theorem sX3_parts_24 : ab_X rom K cX3_parts 1 1 24 (v0 :: v1 :: v2 :: .int x :: ls) st hp = ab_X rom K cX3_parts 1 1 25 (v0 :: v1 :: v2 :: .int x :: ls) (.int x :: st) hp := ax_iload_n dX3_parts_24 rfl rfl
theorem dX3_parts_25 : decode cX3_parts 25 = .ok (.ishl, 1) := by decide +kernel
theorem sX3_parts_25 : ab_X rom K cX3_parts 1 1 25 ls (.int y :: .int x :: st) hp = ab_X rom K cX3_parts 1 1 26 ls (.int (x <<< (y &&& 31)) :: st) hp := ax_ishl dX3_parts_25 rfl
theorem dX3_parts_26 : decode cX3_parts 26 = .ok (.ior, 1) := by decide +kernel
theorem sX3_parts_26 : ab_X rom K cX3_parts 1 1 26 ls (.int y :: .int x :: st) hp = ab_X rom K cX3_parts 1 1 27 ls (.int (x ||| y) :: st) hp := ax_ior dX3_parts_26 rfl
theorem dX3_parts_27 : decode cX3_parts 27 = .ok (.istore_n 1, 1) := by decide +kernel
theorem sX3_parts_27i : ab_X rom K cX3_parts 1 1 27 (.int y :: v1 :: ls) (.int x :: st) hp = ab_X rom K cX3_parts 1 1 28 (.int y :: .int x :: ls) st hp := ax_istore_n dX3_parts_27 (ax_lt (v := v1) rfl) (ab_nl_c1 (j := 0) (v := .int y) rfl (ab_c1_int _)) rfl rfl
theorem sX3_parts_27r : ab_X rom K cX3_parts 1 1 27 (.ref a2 :: v1 :: ls) (.int x :: st) hp = ab_X rom K cX3_parts 1 1 28 (.ref a2 :: .int x :: ls) st hp := ax_istore_n dX3_parts_27 (ax_lt (v := v1) rfl) (ab_nl_c1 (j := 0) (v := .ref a2) rfl (ab_c1_ref _)) rfl rfl
theorem sX3_parts_27n : ab_X rom K cX3_parts 1 1 27 (.null :: v1 :: ls) (.int x :: st) hp = ab_X rom K cX3_parts 1 1 28 (.null :: .int x :: ls) st hp := ax_istore_n dX3_parts_27 (ax_lt (v := v1) rfl) (ab_nl_c1 (j := 0) (v := .null) rfl ab_c1_null) rfl rfl
theorem dX3_parts_28 : decode cX3_parts 28 = .ok (.iinc 2 1, 3) := by decide +kernel
theorem sX3_parts_28i : ab_X rom K cX3_parts 1 1 28 (v0 :: .int y :: .int x :: ls) st hp = ab_X rom K cX3_parts 1 1 31 (v0 :: .int y :: .int (x + 1) :: ls) st hp := ax_iinc dX3_parts_28 rfl (ab_nl_c1 (j := 1) (v := .int y) rfl (ab_c1_int _)) (by decide) rfl rfl
theorem sX3_parts_28r : ab_X rom K cX3_parts 1 1 28 (v0 :: .ref a2 :: .int x :: ls) st hp = ab_X rom K cX3_parts 1 1 31 (v0 :: .ref a2 :: .int (x + 1) :: ls) st hp := ax_iinc dX3_parts_28 rfl (ab_nl_c1 (j := 1) (v := .ref a2) rfl (ab_c1_ref _)) (by decide) rfl rfl
theorem sX3_parts_28n : ab_X rom K cX3_parts 1 1 28 (v0 :: .null :: .int x :: ls) st hp = ab_X rom K cX3_parts 1 1 31 (v0 :: .null :: .int (x + 1) :: ls) st hp := ax_iinc dX3_parts_28 rfl (ab_nl_c1 (j := 1) (v := .null) rfl ab_c1_null) (by decide) rfl rfl
theorem dX3_parts_31 : decode cX3_parts 31 = .ok (.iconst 0, 1) := by decide +kernel
theorem sX3_parts_31 : ab_X rom K cX3_parts 1 1 31 ls st hp = ab_X rom K cX3_parts 1 1 32 ls (.int 0 :: st) hp := ax_iconst dX3_parts_31 (by decide) rfl
theorem dX3_parts_32 : decode cX3_parts 32 = .ok (.istore 4, 2) := by decide +kernel
theorem sX3_parts_32i : ab_X rom K cX3_parts 1 1 32 (v0 :: v1 :: v2 :: .int y :: v4 :: ls) (.int x :: st) hp = ab_X rom K cX3_parts 1 1 34 (v0 :: v1 :: v2 :: .int y :: .int x :: ls) st hp := ax_istore dX3_parts_32 (ax_lt (v := v4) rfl) (ab_nl_c1 (j := 3) (v := .int y) rfl (ab_c1_int _)) rfl rfl
theorem sX3_parts_32r : ab_X rom K cX3_parts 1 1 32 (v0 :: v1 :: v2 :: .ref a2 :: v4 :: ls) (.int x :: st) hp = ab_X rom K cX3_parts 1 1 34 (v0 :: v1 :: v2 :: .ref a2 :: .int x :: ls) st hp := ax_istore dX3_parts_32 (ax_lt (v := v4) rfl) (ab_nl_c1 (j := 3) (v := .ref a2) rfl (ab_c1_ref _)) rfl rfl
theorem sX3_parts_32n : ab_X rom K cX3_parts 1 1 32 (v0 :: v1 :: v2 :: .null :: v4 :: ls) (.int x :: st) hp = ab_X rom K cX3_parts 1 1 34 (v0 :: v1 :: v2 :: .null :: .int x :: ls) st hp := ax_istore dX3_parts_32 (ax_lt (v := v4) rfl) (ab_nl_c1 (j := 3) (v := .null) rfl ab_c1_null) rfl rfl
theorem dX3_parts_34 : decode cX3_parts 34 = .ok (.iload 4, 2) := by decide +kernel
theorem sX3_parts_34 : ab_X rom K cX3_parts 1 1 34 (v0 :: v1 :: v2 :: v3 :: .int x :: ls) st hp = ab_X rom K cX3_parts 1 1 36 (v0 :: v1 :: v2 :: v3 :: .int x :: ls) (.int x :: st) hp := ax_iload dX3_parts_34 rfl rfl
theorem dX3_parts_36 : decode cX3_parts 36 = .ok (.aload_n 0, 1) := by decide +kernel
theorem sX3_parts_36 : ab_X rom K cX3_parts 1 1 36 (.ref a :: ls) st hp = ab_X rom K cX3_parts 1 1 37 (.ref a :: ls) (.ref a :: st) hp := ax_aload_n dX3_parts_36 rfl rfl
theorem dX3_parts_37 : decode cX3_parts 37 = .ok (.getfield 9, 3) := by decide +kernel
theorem sX3_parts_37 : ab_X rom K cX3_parts 1 1 37 ls (.ref a :: st) hp = (ab_fld hp a 1 0).bind (fun v => ab_X rom K cX3_parts 1 1 40 ls (v :: st) hp) := ax_getfield dX3_parts_37 kf_1_9 rfl
theorem dX3_parts_40 : decode cX3_parts 40 = .ok (.if_icmp .ge 17, 3) := by decide +kernel
theorem sX3_parts_40 : ab_X rom K cX3_parts 1 1 40 ls (.int y :: .int x :: st) hp = if x < y then ab_X rom K cX3_parts 1 1 43 ls st hp else ab_X rom K cX3_parts 1 1 57 ls st hp := ax_icmp_ge dX3_parts_40 (by decide) rfl
theorem dX3_parts_43 : decode cX3_parts 43 = .ok (.iload_n 1, 1) := by decide +kernel
theorem sX3_parts_43 : ab_X rom K cX3_parts 1 1 43 (v0 :: .int x :: ls) st hp = ab_X rom K cX3_parts 1 1 44 (v0 :: .int x :: ls) (.int x :: st) hp := ax_iload_n dX3_parts_43 rfl rfl
theorem dX3_parts_44 : decode cX3_parts 44 = .ok (.aload_n 0, 1) := by decide +kernel
theorem sX3_parts_44 : ab_X rom K cX3_parts 1 1 44 (.ref a :: ls) st hp = ab_X rom K cX3_parts 1 1 45 (.ref a :: ls) (.ref a :: st) hp := ax_aload_n dX3_parts_44 rfl rfl
theorem dX3_parts_45 : decode cX3_parts 45 = .ok (.iload_n 1, 1) := by decide +kernel
theorem sX3_parts_45 : ab_X rom K cX3_parts 1 1 45 (v0 :: .int x :: ls) st hp = ab_X rom K cX3_parts 1 1 46 (v0 :: .int x :: ls) (.int x :: st) hp := ax_iload_n dX3_parts_45 rfl rfl
theorem dX3_parts_46 : decode cX3_parts 46 = .ok (.invokevirtual 64, 3) := by decide +kernel
theorem sX3_parts_46_0 : ab_X rom K cX3_parts 1 1 46 ls [w1, .ref a] hp = if ab_iso hp a 1 = true then (K 14 (.ref a :: [w1]) hp).bind (fun o => ab_X rom K cX3_parts 1 1 49 ls (o.1.toList ++ []) o.2) else none := ay_virtual (as := [w1]) (st := []) dX3_parts_46 kc_1_64 rfl rfl (Nat.le_of_ble_eq_true rfl)
theorem sX3_parts_46_1 : ab_X rom K cX3_parts 1 1 46 ls [w1, .ref a, v0] hp = if ab_iso hp a 1 = true then (K 14 (.ref a :: [w1]) hp).bind (fun o => ab_X rom K cX3_parts 1 1 49 ls (o.1.toList ++ [v0]) o.2) else none := ay_virtual (as := [w1]) (st := [v0]) dX3_parts_46 kc_1_64 rfl rfl (Nat.le_of_ble_eq_true rfl)
theorem sX3_parts_46_2 : ab_X rom K cX3_parts 1 1 46 ls [w1, .ref a, v0, v1] hp = if ab_iso hp a 1 = true then (K 14 (.ref a :: [w1]) hp).bind (fun o => ab_X rom K cX3_parts 1 1 49 ls (o.1.toList ++ [v0, v1]) o.2) else none := ay_virtual (as := [w1]) (st := [v0, v1]) dX3_parts_46 kc_1_64 rfl rfl (Nat.le_of_ble_eq_true rfl)
theorem sX3_parts_46_3 : ab_X rom K cX3_parts 1 1 46 ls [w1, .ref a, v0, v1, v2] hp = if ab_iso hp a 1 = true then (K 14 (.ref a :: [w1]) hp).bind (fun o => ab_X rom K cX3_parts 1 1 49 ls (o.1.toList ++ [v0, v1, v2]) o.2) else none := ay_virtual (as := [w1]) (st := [v0, v1, v2]) dX3_parts_46 kc_1_64 rfl rfl (Nat.le_of_ble_eq_true rfl)
theorem dX3_parts_49 : decode cX3_parts 49 = .ok (.ior, 1) := by decide +kernel
theorem sX3_parts_49 : ab_X rom K cX3_parts 1 1 49 ls (.int y :: .int x :: st) hp = ab_X rom K cX3_parts 1 1 50 ls (.int (x ||| y) :: st) hp := ax_ior dX3_parts_49 rfl
theorem dX3_parts_50 : decode cX3_parts 50 = .ok (.istore_n 1, 1) := by decide +kernel
theorem sX3_parts_50i : ab_X rom K cX3_parts 1 1 50 (.int y :: v1 :: ls) (.int x :: st) hp = ab_X rom K cX3_parts 1 1 51 (.int y :: .int x :: ls) st hp := ax_istore_n dX3_parts_50 (ax_lt (v := v1) rfl) (ab_nl_c1 (j := 0) (v := .int y) rfl (ab_c1_int _)) rfl rfl
theorem sX3_parts_50r : ab_X rom K cX3_parts 1 1 50 (.ref a2 :: v1 :: ls) (.int x :: st) hp = ab_X rom K cX3_parts 1 1 51 (.ref a2 :: .int x :: ls) st hp := ax_istore_n dX3_parts_50 (ax_lt (v := v1) rfl) (ab_nl_c1 (j := 0) (v := .ref a2) rfl (ab_c1_ref _)) rfl rfl
theorem sX3_parts_50n : ab_X rom K cX3_parts 1 1 50 (.null :: v1 :: ls) (.int x :: st) hp = ab_X rom K cX3_parts 1 1 51 (.null :: .int x :: ls) st hp := ax_istore_n dX3_parts_50 (ax_lt (v := v1) rfl) (ab_nl_c1 (j := 0) (v := .null) rfl ab_c1_null) rfl rfl
theorem dX3_parts_51 : decode cX3_parts 51 = .ok (.iinc 4 1, 3) := by decide +kernel
theorem sX3_parts_51i : ab_X rom K cX3_parts 1 1 51 (v0 :: v1 :: v2 :: .int y :: .int x :: ls) st hp = ab_X rom K cX3_parts 1 1 54 (v0 :: v1 :: v2 :: .int y :: .int (x + 1) :: ls) st hp := ax_iinc dX3_parts_51 rfl (ab_nl_c1 (j := 3) (v := .int y) rfl (ab_c1_int _)) (by decide) rfl rfl
theorem sX3_parts_51r : ab_X rom K cX3_parts 1 1 51 (v0 :: v1 :: v2 :: .ref a2 :: .int x :: ls) st hp = ab_X rom K cX3_parts 1 1 54 (v0 :: v1 :: v2 :: .ref a2 :: .int (x + 1) :: ls) st hp := ax_iinc dX3_parts_51 rfl (ab_nl_c1 (j := 3) (v := .ref a2) rfl (ab_c1_ref _)) (by decide) rfl rfl
theorem sX3_parts_51n : ab_X rom K cX3_parts 1 1 51 (v0 :: v1 :: v2 :: .null :: .int x :: ls) st hp = ab_X rom K cX3_parts 1 1 54 (v0 :: v1 :: v2 :: .null :: .int (x + 1) :: ls) st hp := ax_iinc dX3_parts_51 rfl (ab_nl_c1 (j := 3) (v := .null) rfl ab_c1_null) (by decide) rfl rfl
theorem dX3_parts_54 : decode cX3_parts 54 = .ok (.goto (-20), 3) := by decide +kernel
theorem sX3_parts_54 : ab_X rom K cX3_parts 1 1 54 ls st hp = ab_X rom K cX3_parts 1 1 34 ls st hp := ax_goto dX3_parts_54 (by decide)
theorem dX3_parts_57 : decode cX3_parts 57 = .ok (.iinc 3 1, 3) := by decide +kernel
theorem sX3_parts_57i : ab_X rom K cX3_parts 1 1 57 (v0 :: v1 :: .int y :: .int x :: ls) st hp = ab_X rom K cX3_parts 1 1 60 (v0 :: v1 :: .int y :: .int (x + 1) :: ls) st hp := ax_iinc dX3_parts_57 rfl (ab_nl_c1 (j := 2) (v := .int y) rfl (ab_c1_int _)) (by decide) rfl rfl
theorem sX3_parts_57r : ab_X rom K cX3_parts 1 1 57 (v0 :: v1 :: .ref a2 :: .int x :: ls) st hp = ab_X rom K cX3_parts 1 1 60 (v0 :: v1 :: .ref a2 :: .int (x + 1) :: ls) st hp := ax_iinc dX3_parts_57 rfl (ab_nl_c1 (j := 2) (v := .ref a2) rfl (ab_c1_ref _)) (by decide) rfl rfl
theorem sX3_parts_57n : ab_X rom K cX3_parts 1 1 57 (v0 :: v1 :: .null :: .int x :: ls) st hp = ab_X rom K cX3_parts 1 1 60 (v0 :: v1 :: .null :: .int (x + 1) :: ls) st hp := ax_iinc dX3_parts_57 rfl (ab_nl_c1 (j := 2) (v := .null) rfl ab_c1_null) (by decide) rfl rfl
theorem dX3_parts_60 : decode cX3_parts 60 = .ok (.goto (-54), 3) := by decide +kernel
theorem sX3_parts_60 : ab_X rom K cX3_parts 1 1 60 ls st hp = ab_X rom K cX3_parts 1 1 6 ls st hp := ax_goto dX3_parts_60 (by decide)
theorem dX3_parts_63 : decode cX3_parts 63 = .ok (.iload_n 2, 1) := by decide +kernel
theorem sX3_parts_63 : ab_X rom K cX3_parts 1 1 63 (v0 :: v1 :: .int x :: ls) st hp = ab_X rom K cX3_parts 1 1 64 (v0 :: v1 :: .int x :: ls) (.int x :: st) hp := ax_iload_n dX3_parts_63 rfl rfl
theorem dX3_parts_64 : decode cX3_parts 64 = .ok (.ireturn, 1) := by decide +kernel
theorem sX3_parts_64 : ab_X rom K cX3_parts 1 1 64 ls [.int x] hp = some (some (.int x), hp) := ax_iret dX3_parts_64 rfl
theorem tX3_pointWith : ab_mT[30]? = some (yX3_pointWith, cX3_pointWith, 3, 1, 1) := by decide +kernel
theorem mX3_pointWith {d : Nat} {a0 : Nat} {x0 : Int32} : ab_M rom (d + 1) 30 [.ref a0, .int x0] hp = ab_X rom (ab_M rom d) cX3_pointWith 1 1 0 [.ref a0, .int x0, .null] [] hp := ab_M_eq tX3_pointWith (Nat.le_of_ble_eq_true rfl)
theorem dX3_pointWith_0 : decode cX3_pointWith 0 = .ok (.iconst 0, 1) := by decide +kernel
theorem sX3_pointWith_0 : ab_X rom K cX3_pointWith 1 1 0 ls st hp = ab_X rom K cX3_pointWith 1 1 1 ls (.int 0 :: st) hp := ax_iconst dX3_pointWith_0 (by decide) rfl
theorem dX3_pointWith_1 : decode cX3_pointWith 1 = .ok (.istore_n 2, 1) := by decide +kernel
theorem sX3_pointWith_1i : ab_X rom K cX3_pointWith 1 1 1 (v0 :: .int y :: v2 :: ls) (.int x :: st) hp = ab_X rom K cX3_pointWith 1 1 2 (v0 :: .int y :: .int x :: ls) st hp := ax_istore_n dX3_pointWith_1 (ax_lt (v := v2) rfl) (ab_nl_c1 (j := 1) (v := .int y) rfl (ab_c1_int _)) rfl rfl
theorem sX3_pointWith_1r : ab_X rom K cX3_pointWith 1 1 1 (v0 :: .ref a2 :: v2 :: ls) (.int x :: st) hp = ab_X rom K cX3_pointWith 1 1 2 (v0 :: .ref a2 :: .int x :: ls) st hp := ax_istore_n dX3_pointWith_1 (ax_lt (v := v2) rfl) (ab_nl_c1 (j := 1) (v := .ref a2) rfl (ab_c1_ref _)) rfl rfl
theorem sX3_pointWith_1n : ab_X rom K cX3_pointWith 1 1 1 (v0 :: .null :: v2 :: ls) (.int x :: st) hp = ab_X rom K cX3_pointWith 1 1 2 (v0 :: .null :: .int x :: ls) st hp := ax_istore_n dX3_pointWith_1 (ax_lt (v := v2) rfl) (ab_nl_c1 (j := 1) (v := .null) rfl ab_c1_null) rfl rfl
theorem dX3_pointWith_2 : decode cX3_pointWith 2 = .ok (.iload_n 2, 1) := by decide +kernel
theorem sX3_pointWith_2 : ab_X rom K cX3_pointWith 1 1 2 (v0 :: v1 :: .int x :: ls) st hp = ab_X rom K cX3_pointWith 1 1 3 (v0 :: v1 :: .int x :: ls) (.int x :: st) hp := ax_iload_n dX3_pointWith_2 rfl rfl
theorem dX3_pointWith_3 : decode cX3_pointWith 3 = .ok (.aload_n 0, 1) := by decide +kernel
theorem sX3_pointWith_3 : ab_X rom K cX3_pointWith 1 1 3 (.ref a :: ls) st hp = ab_X rom K cX3_pointWith 1 1 4 (.ref a :: ls) (.ref a :: st) hp := ax_aload_n dX3_pointWith_3 rfl rfl
theorem dX3_pointWith_4 : decode cX3_pointWith 4 = .ok (.getfield 9, 3) := by decide +kernel
theorem sX3_pointWith_4 : ab_X rom K cX3_pointWith 1 1 4 ls (.ref a :: st) hp = (ab_fld hp a 1 0).bind (fun v => ab_X rom K cX3_pointWith 1 1 7 ls (v :: st) hp) := ax_getfield dX3_pointWith_4 kf_1_9 rfl
theorem dX3_pointWith_7 : decode cX3_pointWith 7 = .ok (.if_icmp .ge 21, 3) := by decide +kernel
theorem sX3_pointWith_7 : ab_X rom K cX3_pointWith 1 1 7 ls (.int y :: .int x :: st) hp = if x < y then ab_X rom K cX3_pointWith 1 1 10 ls st hp else ab_X rom K cX3_pointWith 1 1 28 ls st hp := ax_icmp_ge dX3_pointWith_7 (by decide) rfl
theorem dX3_pointWith_10 : decode cX3_pointWith 10 = .ok (.aload_n 0, 1) := by decide +kernel
theorem sX3_pointWith_10 : ab_X rom K cX3_pointWith 1 1 10 (.ref a :: ls) st hp = ab_X rom K cX3_pointWith 1 1 11 (.ref a :: ls) (.ref a :: st) hp := ax_aload_n dX3_pointWith_10 rfl rfl
theorem dX3_pointWith_11 : decode cX3_pointWith 11 = .ok (.getfield 25, 3) := by decide +kernel
theorem sX3_pointWith_11 : ab_X rom K cX3_pointWith 1 1 11 ls (.ref a :: st) hp = (ab_fld hp a 1 4).bind (fun v => ab_X rom K cX3_pointWith 1 1 14 ls (v :: st) hp) := ax_getfield dX3_pointWith_11 kf_1_25 rfl
theorem dX3_pointWith_14 : decode cX3_pointWith 14 = .ok (.iload_n 2, 1) := by decide +kernel
theorem sX3_pointWith_14 : ab_X rom K cX3_pointWith 1 1 14 (v0 :: v1 :: .int x :: ls) st hp = ab_X rom K cX3_pointWith 1 1 15 (v0 :: v1 :: .int x :: ls) (.int x :: st) hp := ax_iload_n dX3_pointWith_14 rfl rfl
theorem dX3_pointWith_15 : decode cX3_pointWith 15 = .ok (.iaload, 1) := by decide +kernel
theorem sX3_pointWith_15 : ab_X rom K cX3_pointWith 1 1 15 ls (.int x :: .ref a :: st) hp = (ab_ard rom 0 hp a x).bind (fun v => ab_X rom K cX3_pointWith 1 1 16 ls (.int v :: st) hp) := ax_iaload dX3_pointWith_15 rfl
theorem dX3_pointWith_16 : decode cX3_pointWith 16 = .ok (.iload_n 1, 1) := by decide +kernel
theorem sX3_pointWith_16 : ab_X rom K cX3_pointWith 1 1 16 (v0 :: .int x :: ls) st hp = ab_X rom K cX3_pointWith 1 1 17 (v0 :: .int x :: ls) (.int x :: st) hp := ax_iload_n dX3_pointWith_16 rfl rfl
theorem dX3_pointWith_17 : decode cX3_pointWith 17 = .ok (.if_icmp .ne 5, 3) := by decide +kernel
theorem sX3_pointWith_17 : ab_X rom K cX3_pointWith 1 1 17 ls (.int y :: .int x :: st) hp = if x = y then ab_X rom K cX3_pointWith 1 1 20 ls st hp else ab_X rom K cX3_pointWith 1 1 22 ls st hp := ax_icmp_ne dX3_pointWith_17 (by decide) rfl
theorem dX3_pointWith_20 : decode cX3_pointWith 20 = .ok (.iload_n 2, 1) := by decide +kernel
theorem sX3_pointWith_20 : ab_X rom K cX3_pointWith 1 1 20 (v0 :: v1 :: .int x :: ls) st hp = ab_X rom K cX3_pointWith 1 1 21 (v0 :: v1 :: .int x :: ls) (.int x :: st) hp := ax_iload_n dX3_pointWith_20 rfl rfl
theorem dX3_pointWith_21 : decode cX3_pointWith 21 = .ok (.ireturn, 1) := by decide +kernel
theorem sX3_pointWith_21 : ab_X rom K cX3_pointWith 1 1 21 ls [.int x] hp = some (some (.int x), hp) := ax_iret dX3_pointWith_21 rfl
theorem dX3_pointWith_22 : decode cX3_pointWith 22 = .ok (.iinc 2 1, 3) := by decide +kernel
theorem sX3_pointWith_22i : ab_X rom K cX3_pointWith 1 1 22 (v0 :: .int y :: .int x :: ls) st hp = ab_X rom K cX3_pointWith 1 1 25 (v0 :: .int y :: .int (x + 1) :: ls) st hp := ax_iinc dX3_pointWith_22 rfl (ab_nl_c1 (j := 1) (v := .int y) rfl (ab_c1_int _)) (by decide) rfl rfl
theorem sX3_pointWith_22r : ab_X rom K cX3_pointWith 1 1 22 (v0 :: .ref a2 :: .int x :: ls) st hp = ab_X rom K cX3_pointWith 1 1 25 (v0 :: .ref a2 :: .int (x + 1) :: ls) st hp := ax_iinc dX3_pointWith_22 rfl (ab_nl_c1 (j := 1) (v := .ref a2) rfl (ab_c1_ref _)) (by decide) rfl rfl
theorem sX3_pointWith_22n : ab_X rom K cX3_pointWith 1 1 22 (v0 :: .null :: .int x :: ls) st hp = ab_X rom K cX3_pointWith 1 1 25 (v0 :: .null :: .int (x + 1) :: ls) st hp := ax_iinc dX3_pointWith_22 rfl (ab_nl_c1 (j := 1) (v := .null) rfl ab_c1_null) (by decide) rfl rfl
theorem dX3_pointWith_25 : decode cX3_pointWith 25 = .ok (.goto (-23), 3) := by decide +kernel
theorem sX3_pointWith_25 : ab_X rom K cX3_pointWith 1 1 25 ls st hp = ab_X rom K cX3_pointWith 1 1 2 ls st hp := ax_goto dX3_pointWith_25 (by decide)
theorem dX3_pointWith_28 : decode cX3_pointWith 28 = .ok (.iconst (-1), 1) := by decide +kernel
theorem sX3_pointWith_28 : ab_X rom K cX3_pointWith 1 1 28 ls st hp = ab_X rom K cX3_pointWith 1 1 29 ls (.int (-1) :: st) hp := ax_iconst dX3_pointWith_28 (by decide) rfl
theorem dX3_pointWith_29 : decode cX3_pointWith 29 = .ok (.ireturn, 1) := by decide +kernel
theorem sX3_pointWith_29 : ab_X rom K cX3_pointWith 1 1 29 ls [.int x] hp = some (some (.int x), hp) := ax_iret dX3_pointWith_29 rfl
theorem tX3_removeLine : ab_mT[31]? = some (yX3_removeLine, cX3_removeLine, 3, 0, 1) := by decide +kernel
theorem mX3_removeLine {d : Nat} {a0 : Nat} {x0 : Int32} : ab_M rom (d + 1) 31 [.ref a0, .int x0] hp = ab_X rom (ab_M rom d) cX3_removeLine 1 0 0 [.ref a0, .int x0, .null] [] hp := ab_M_eq tX3_removeLine (Nat.le_of_ble_eq_true rfl)
theorem dX3_removeLine_0 : decode cX3_removeLine 0 = .ok (.iload_n 1, 1) := by decide +kernel
theorem sX3_removeLine_0 : ab_X rom K cX3_removeLine 1 0 0 (v0 :: .int x :: ls) st hp = ab_X rom K cX3_removeLine 1 0 1 (v0 :: .int x :: ls) (.int x :: st) hp := ax_iload_n dX3_removeLine_0 rfl rfl
theorem dX3_removeLine_1 : decode cX3_removeLine 1 = .ok (.ifCond .lt 11, 3) := by decide +kernel
theorem sX3_removeLine_1 : ab_X rom K cX3_removeLine 1 0 1 ls (.int x :: st) hp = if x < 0 then ab_X rom K cX3_removeLine 1 0 12 ls st hp else ab_X rom K cX3_removeLine 1 0 4 ls st hp := ax_if_lt dX3_removeLine_1 (by decide) rfl
theorem dX3_removeLine_4 : decode cX3_removeLine 4 = .ok (.iload_n 1, 1) := by decide +kernel
theorem sX3_removeLine_4 : ab_X rom K cX3_removeLine 1 0 4 (v0 :: .int x :: ls) st hp = ab_X rom K cX3_removeLine 1 0 5 (v0 :: .int x :: ls) (.int x :: st) hp := ax_iload_n dX3_removeLine_4 rfl rfl
theorem dX3_removeLine_5 : decode cX3_removeLine 5 = .ok (.aload_n 0, 1) := by decide +kernel
theorem sX3_removeLine_5 : ab_X rom K cX3_removeLine 1 0 5 (.ref a :: ls) st hp = ab_X rom K cX3_removeLine 1 0 6 (.ref a :: ls) (.ref a :: st) hp := ax_aload_n dX3_removeLine_5 rfl rfl
theorem dX3_removeLine_6 : decode cX3_removeLine 6 = .ok (.getfield 15, 3) := by decide +kernel
theorem sX3_removeLine_6 : ab_X rom K cX3_removeLine 1 0 6 ls (.ref a :: st) hp = (ab_fld hp a 1 1).bind (fun v => ab_X rom K cX3_removeLine 1 0 9 ls (v :: st) hp) := ax_getfield dX3_removeLine_6 kf_1_15 rfl
theorem dX3_removeLine_9 : decode cX3_removeLine 9 = .ok (.if_icmp .lt 4, 3) := by decide +kernel
theorem sX3_removeLine_9 : ab_X rom K cX3_removeLine 1 0 9 ls (.int y :: .int x :: st) hp = if x < y then ab_X rom K cX3_removeLine 1 0 13 ls st hp else ab_X rom K cX3_removeLine 1 0 12 ls st hp := ax_icmp_lt dX3_removeLine_9 (by decide) rfl
theorem dX3_removeLine_12 : decode cX3_removeLine 12 = .ok (.return_, 1) := by decide +kernel
theorem sX3_removeLine_12 : ab_X rom K cX3_removeLine 1 0 12 ls [] hp = some (none, hp) := ax_vret dX3_removeLine_12 (by decide)
theorem dX3_removeLine_13 : decode cX3_removeLine 13 = .ok (.aload_n 0, 1) := by decide +kernel
theorem sX3_removeLine_13 : ab_X rom K cX3_removeLine 1 0 13 (.ref a :: ls) st hp = ab_X rom K cX3_removeLine 1 0 14 (.ref a :: ls) (.ref a :: st) hp := ax_aload_n dX3_removeLine_13 rfl rfl
theorem dX3_removeLine_14 : decode cX3_removeLine 14 = .ok (.getfield 28, 3) := by decide +kernel
theorem sX3_removeLine_14 : ab_X rom K cX3_removeLine 1 0 14 ls (.ref a :: st) hp = (ab_fld hp a 1 5).bind (fun v => ab_X rom K cX3_removeLine 1 0 17 ls (v :: st) hp) := ax_getfield dX3_removeLine_14 kf_1_28 rfl
theorem dX3_removeLine_17 : decode cX3_removeLine 17 = .ok (.aload_n 0, 1) := by decide +kernel
theorem sX3_removeLine_17 : ab_X rom K cX3_removeLine 1 0 17 (.ref a :: ls) st hp = ab_X rom K cX3_removeLine 1 0 18 (.ref a :: ls) (.ref a :: st) hp := ax_aload_n dX3_removeLine_17 rfl rfl
theorem dX3_removeLine_18 : decode cX3_removeLine 18 = .ok (.getfield 18, 3) := by decide +kernel
theorem sX3_removeLine_18 : ab_X rom K cX3_removeLine 1 0 18 ls (.ref a :: st) hp = (ab_fld hp a 1 2).bind (fun v => ab_X rom K cX3_removeLine 1 0 21 ls (v :: st) hp) := ax_getfield dX3_removeLine_18 kf_1_18 rfl
theorem dX3_removeLine_21 : decode cX3_removeLine 21 = .ok (.iload_n 1, 1) := by decide +kernel
theorem sX3_removeLine_21 : ab_X rom K cX3_removeLine 1 0 21 (v0 :: .int x :: ls) st hp = ab_X rom K cX3_removeLine 1 0 22 (v0 :: .int x :: ls) (.int x :: st) hp := ax_iload_n dX3_removeLine_21 rfl rfl
theorem dX3_removeLine_22 : decode cX3_removeLine 22 = .ok (.iaload, 1) := by decide +kernel
theorem sX3_removeLine_22 : ab_X rom K cX3_removeLine 1 0 22 ls (.int x :: .ref a :: st) hp = (ab_ard rom 0 hp a x).bind (fun v => ab_X rom K cX3_removeLine 1 0 23 ls (.int v :: st) hp) := ax_iaload dX3_removeLine_22 rfl
theorem dX3_removeLine_23 : decode cX3_removeLine 23 = .ok (.dup2, 1) := by decide +kernel
theorem sX3_removeLine_23 : ab_X rom K cX3_removeLine 1 0 23 ls (.int x :: .ref a :: st) hp = ab_X rom K cX3_removeLine 1 0 24 ls (.int x :: .ref a :: .int x :: .ref a :: st) hp := ax_dup2 dX3_removeLine_23 rfl (ab_c1_int _) (ab_c1_ref _)
theorem dX3_removeLine_24 : decode cX3_removeLine 24 = .ok (.iaload, 1) := by decide +kernel
theorem sX3_removeLine_24 : ab_X rom K cX3_removeLine 1 0 24 ls (.int x :: .ref a :: st) hp = (ab_ard rom 0 hp a x).bind (fun v => ab_X rom K cX3_removeLine 1 0 25 ls (.int v :: st) hp) := ax_iaload dX3_removeLine_24 rfl
theorem dX3_removeLine_25 : decode cX3_removeLine 25 = .ok (.iconst 1, 1) := by decide +kernel
theorem sX3_removeLine_25 : ab_X rom K cX3_removeLine 1 0 25 ls st hp = ab_X rom K cX3_removeLine 1 0 26 ls (.int 1 :: st) hp := ax_iconst dX3_removeLine_25 (by decide) rfl
theorem dX3_removeLine_26 : decode cX3_removeLine 26 = .ok (.aload_n 0, 1) := by decide +kernel
theorem sX3_removeLine_26 : ab_X rom K cX3_removeLine 1 0 26 (.ref a :: ls) st hp = ab_X rom K cX3_removeLine 1 0 27 (.ref a :: ls) (.ref a :: st) hp := ax_aload_n dX3_removeLine_26 rfl rfl
theorem dX3_removeLine_27 : decode cX3_removeLine 27 = .ok (.getfield 22, 3) := by decide +kernel
theorem sX3_removeLine_27 : ab_X rom K cX3_removeLine 1 0 27 ls (.ref a :: st) hp = (ab_fld hp a 1 3).bind (fun v => ab_X rom K cX3_removeLine 1 0 30 ls (v :: st) hp) := ax_getfield dX3_removeLine_27 kf_1_22 rfl
theorem dX3_removeLine_30 : decode cX3_removeLine 30 = .ok (.iload_n 1, 1) := by decide +kernel
theorem sX3_removeLine_30 : ab_X rom K cX3_removeLine 1 0 30 (v0 :: .int x :: ls) st hp = ab_X rom K cX3_removeLine 1 0 31 (v0 :: .int x :: ls) (.int x :: st) hp := ax_iload_n dX3_removeLine_30 rfl rfl
theorem dX3_removeLine_31 : decode cX3_removeLine 31 = .ok (.iaload, 1) := by decide +kernel
theorem sX3_removeLine_31 : ab_X rom K cX3_removeLine 1 0 31 ls (.int x :: .ref a :: st) hp = (ab_ard rom 0 hp a x).bind (fun v => ab_X rom K cX3_removeLine 1 0 32 ls (.int v :: st) hp) := ax_iaload dX3_removeLine_31 rfl
theorem dX3_removeLine_32 : decode cX3_removeLine 32 = .ok (.ishl, 1) := by decide +kernel
theorem sX3_removeLine_32 : ab_X rom K cX3_removeLine 1 0 32 ls (.int y :: .int x :: st) hp = ab_X rom K cX3_removeLine 1 0 33 ls (.int (x <<< (y &&& 31)) :: st) hp := ax_ishl dX3_removeLine_32 rfl
theorem dX3_removeLine_33 : decode cX3_removeLine 33 = .ok (.iconst (-1), 1) := by decide +kernel
theorem sX3_removeLine_33 : ab_X rom K cX3_removeLine 1 0 33 ls st hp = ab_X rom K cX3_removeLine 1 0 34 ls (.int (-1) :: st) hp := ax_iconst dX3_removeLine_33 (by decide) rfl
theorem dX3_removeLine_34 : decode cX3_removeLine 34 = .ok (.ixor, 1) := by decide +kernel
theorem sX3_removeLine_34 : ab_X rom K cX3_removeLine 1 0 34 ls (.int y :: .int x :: st) hp = ab_X rom K cX3_removeLine 1 0 35 ls (.int (x ^^^ y) :: st) hp := ax_ixor dX3_removeLine_34 rfl
theorem dX3_removeLine_35 : decode cX3_removeLine 35 = .ok (.iand, 1) := by decide +kernel
theorem sX3_removeLine_35 : ab_X rom K cX3_removeLine 1 0 35 ls (.int y :: .int x :: st) hp = ab_X rom K cX3_removeLine 1 0 36 ls (.int (x &&& y) :: st) hp := ax_iand dX3_removeLine_35 rfl
theorem dX3_removeLine_36 : decode cX3_removeLine 36 = .ok (.iastore, 1) := by decide +kernel
theorem sX3_removeLine_36 : ab_X rom K cX3_removeLine 1 0 36 ls (.int y :: .int x :: .ref a :: st) hp = (ab_awr 0 hp a x y).bind (fun hp' => ab_X rom K cX3_removeLine 1 0 37 ls st hp') := ax_iastore dX3_removeLine_36 rfl
theorem dX3_removeLine_37 : decode cX3_removeLine 37 = .ok (.aload_n 0, 1) := by decide +kernel
theorem sX3_removeLine_37 : ab_X rom K cX3_removeLine 1 0 37 (.ref a :: ls) st hp = ab_X rom K cX3_removeLine 1 0 38 (.ref a :: ls) (.ref a :: st) hp := ax_aload_n dX3_removeLine_37 rfl rfl
theorem dX3_removeLine_38 : decode cX3_removeLine 38 = .ok (.getfield 28, 3) := by decide +kernel
theorem sX3_removeLine_38 : ab_X rom K cX3_removeLine 1 0 38 ls (.ref a :: st) hp = (ab_fld hp a 1 5).bind (fun v => ab_X rom K cX3_removeLine 1 0 41 ls (v :: st) hp) := ax_getfield dX3_removeLine_38 kf_1_28 rfl
theorem dX3_removeLine_41 : decode cX3_removeLine 41 = .ok (.aload_n 0, 1) := by decide +kernel
theorem sX3_removeLine_41 : ab_X rom K cX3_removeLine 1 0 41 (.ref a :: ls) st hp = ab_X rom K cX3_removeLine 1 0 42 (.ref a :: ls) (.ref a :: st) hp := ax_aload_n dX3_removeLine_41 rfl rfl
theorem dX3_removeLine_42 : decode cX3_removeLine 42 = .ok (.getfield 22, 3) := by decide +kernel
theorem sX3_removeLine_42 : ab_X rom K cX3_removeLine 1 0 42 ls (.ref a :: st) hp = (ab_fld hp a 1 3).bind (fun v => ab_X rom K cX3_removeLine 1 0 45 ls (v :: st) hp) := ax_getfield dX3_removeLine_42 kf_1_22 rfl
theorem dX3_removeLine_45 : decode cX3_removeLine 45 = .ok (.iload_n 1, 1) := by decide +kernel
theorem sX3_removeLine_45 : ab_X rom K cX3_removeLine 1 0 45 (v0 :: .int x :: ls) st hp = ab_X rom K cX3_removeLine 1 0 46 (v0 :: .int x :: ls) (.int x :: st) hp := ax_iload_n dX3_removeLine_45 rfl rfl
theorem dX3_removeLine_46 : decode cX3_removeLine 46 = .ok (.iaload, 1) := by decide +kernel
theorem sX3_removeLine_46 : ab_X rom K cX3_removeLine 1 0 46 ls (.int x :: .ref a :: st) hp = (ab_ard rom 0 hp a x).bind (fun v => ab_X rom K cX3_removeLine 1 0 47 ls (.int v :: st) hp) := ax_iaload dX3_removeLine_46 rfl
theorem dX3_removeLine_47 : decode cX3_removeLine 47 = .ok (.dup2, 1) := by decide +kernel
theorem sX3_removeLine_47 : ab_X rom K cX3_removeLine 1 0 47 ls (.int x :: .ref a :: st) hp = ab_X rom K cX3_removeLine 1 0 48 ls (.int x :: .ref a :: .int x :: .ref a :: st) hp := ax_dup2 dX3_removeLine_47 rfl (ab_c1_int _) (ab_c1_ref _)
theorem dX3_removeLine_48 : decode cX3_removeLine 48 = .ok (.iaload, 1) := by decide +kernel
theorem sX3_removeLine_48 : ab_X rom K cX3_removeLine 1 0 48 ls (.int x :: .ref a :: st) hp = (ab_ard rom 0 hp a x).bind (fun v => ab_X rom K cX3_removeLine 1 0 49 ls (.int v :: st) hp) := ax_iaload dX3_removeLine_48 rfl
theorem dX3_removeLine_49 : decode cX3_removeLine 49 = .ok (.iconst 1, 1) := by decide +kernel
theorem sX3_removeLine_49 : ab_X rom K cX3_removeLine 1 0 49 ls st hp = ab_X rom K cX3_removeLine 1 0 50 ls (.int 1 :: st) hp := ax_iconst dX3_removeLine_49 (by decide) rfl
theorem dX3_removeLine_50 : decode cX3_removeLine 50 = .ok (.aload_n 0, 1) := by decide +kernel
theorem sX3_removeLine_50 : ab_X rom K cX3_removeLine 1 0 50 (.ref a :: ls) st hp = ab_X rom K cX3_removeLine 1 0 51 (.ref a :: ls) (.ref a :: st) hp := ax_aload_n dX3_removeLine_50 rfl rfl
theorem dX3_removeLine_51 : decode cX3_removeLine 51 = .ok (.getfield 18, 3) := by decide +kernel
theorem sX3_removeLine_51 : ab_X rom K cX3_removeLine 1 0 51 ls (.ref a :: st) hp = (ab_fld hp a 1 2).bind (fun v => ab_X rom K cX3_removeLine 1 0 54 ls (v :: st) hp) := ax_getfield dX3_removeLine_51 kf_1_18 rfl
theorem dX3_removeLine_54 : decode cX3_removeLine 54 = .ok (.iload_n 1, 1) := by decide +kernel
theorem sX3_removeLine_54 : ab_X rom K cX3_removeLine 1 0 54 (v0 :: .int x :: ls) st hp = ab_X rom K cX3_removeLine 1 0 55 (v0 :: .int x :: ls) (.int x :: st) hp := ax_iload_n dX3_removeLine_54 rfl rfl
theorem dX3_removeLine_55 : decode cX3_removeLine 55 = .ok (.iaload, 1) := by decide +kernel
theorem sX3_removeLine_55 : ab_X rom K cX3_removeLine 1 0 55 ls (.int x :: .ref a :: st) hp = (ab_ard rom 0 hp a x).bind (fun v => ab_X rom K cX3_removeLine 1 0 56 ls (.int v :: st) hp) := ax_iaload dX3_removeLine_55 rfl
theorem dX3_removeLine_56 : decode cX3_removeLine 56 = .ok (.ishl, 1) := by decide +kernel
theorem sX3_removeLine_56 : ab_X rom K cX3_removeLine 1 0 56 ls (.int y :: .int x :: st) hp = ab_X rom K cX3_removeLine 1 0 57 ls (.int (x <<< (y &&& 31)) :: st) hp := ax_ishl dX3_removeLine_56 rfl
theorem dX3_removeLine_57 : decode cX3_removeLine 57 = .ok (.iconst (-1), 1) := by decide +kernel
theorem sX3_removeLine_57 : ab_X rom K cX3_removeLine 1 0 57 ls st hp = ab_X rom K cX3_removeLine 1 0 58 ls (.int (-1) :: st) hp := ax_iconst dX3_removeLine_57 (by decide) rfl
theorem dX3_removeLine_58 : decode cX3_removeLine 58 = .ok (.ixor, 1) := by decide +kernel
theorem sX3_removeLine_58 : ab_X rom K cX3_removeLine 1 0 58 ls (.int y :: .int x :: st) hp = ab_X rom K cX3_removeLine 1 0 59 ls (.int (x ^^^ y) :: st) hp := ax_ixor dX3_removeLine_58 rfl
theorem dX3_removeLine_59 : decode cX3_removeLine 59 = .ok (.iand, 1) := by decide +kernel
theorem sX3_removeLine_59 : ab_X rom K cX3_removeLine 1 0 59 ls (.int y :: .int x :: st) hp = ab_X rom K cX3_removeLine 1 0 60 ls (.int (x &&& y) :: st) hp := ax_iand dX3_removeLine_59 rfl
theorem dX3_removeLine_60 : decode cX3_removeLine 60 = .ok (.iastore, 1) := by decide +kernel
theorem sX3_removeLine_60 : ab_X rom K cX3_removeLine 1 0 60 ls (.int y :: .int x :: .ref a :: st) hp = (ab_awr 0 hp a x y).bind (fun hp' => ab_X rom K cX3_removeLine 1 0 61 ls st hp') := ax_iastore dX3_removeLine_60 rfl
theorem dX3_removeLine_61 : decode cX3_removeLine 61 = .ok (.iload_n 1, 1) := by decide +kernel
theorem sX3_removeLine_61 : ab_X rom K cX3_removeLine 1 0 61 (v0 :: .int x :: ls) st hp = ab_X rom K cX3_removeLine 1 0 62 (v0 :: .int x :: ls) (.int x :: st) hp := ax_iload_n dX3_removeLine_61 rfl rfl
theorem dX3_removeLine_62 : decode cX3_removeLine 62 = .ok (.iconst 1, 1) := by decide +kernel
theorem sX3_removeLine_62 : ab_X rom K cX3_removeLine 1 0 62 ls st hp = ab_X rom K cX3_removeLine 1 0 63 ls (.int 1 :: st) hp := ax_iconst dX3_removeLine_62 (by decide) rfl
theorem dX3_removeLine_63 : decode cX3_removeLine 63 = .ok (.iadd, 1) := by decide +kernel
theorem sX3_removeLine_63 : ab_X rom K cX3_removeLine 1 0 63 ls (.int y :: .int x :: st) hp = ab_X rom K cX3_removeLine 1 0 64 ls (.int (x + y) :: st) hp := ax_iadd dX3_removeLine_63 rfl
theorem dX3_removeLine_64 : decode cX3_removeLine 64 = .ok (.istore_n 2, 1) := by decide +kernel
theorem sX3_removeLine_64i : ab_X rom K cX3_removeLine 1 0 64 (v0 :: .int y :: v2 :: ls) (.int x :: st) hp = ab_X rom K cX3_removeLine 1 0 65 (v0 :: .int y :: .int x :: ls) st hp := ax_istore_n dX3_removeLine_64 (ax_lt (v := v2) rfl) (ab_nl_c1 (j := 1) (v := .int y) rfl (ab_c1_int _)) rfl rfl
theorem sX3_removeLine_64r : ab_X rom K cX3_removeLine 1 0 64 (v0 :: .ref a2 :: v2 :: ls) (.int x :: st) hp = ab_X rom K cX3_removeLine 1 0 65 (v0 :: .ref a2 :: .int x :: ls) st hp := ax_istore_n dX3_removeLine_64 (ax_lt (v := v2) rfl) (ab_nl_c1 (j := 1) (v := .ref a2) rfl (ab_c1_ref _)) rfl rfl
theorem sX3_removeLine_64n : ab_X rom K cX3_removeLine 1 0 64 (v0 :: .null :: v2 :: ls) (.int x :: st) hp = ab_X rom K cX3_removeLine 1 0 65 (v0 :: .null :: .int x :: ls) st hp := ax_istore_n dX3_removeLine_64 (ax_lt (v := v2) rfl) (ab_nl_c1 (j := 1) (v := .null) rfl ab_c1_null) rfl rfl
theorem dX3_removeLine_65 : decode cX3_removeLine 65 = .ok (.iload_n 2, 1) := by decide +kernel
theorem sX3_removeLine_65 : ab_X rom K cX3_removeLine 1 0 65 (v0 :: v1 :: .int x :: ls) st hp = ab_X rom K cX3_removeLine 1 0 66 (v0 :: v1 :: .int x :: ls) (.int x :: st) hp := ax_iload_n dX3_removeLine_65 rfl rfl
theorem dX3_removeLine_66 : decode cX3_removeLine 66 = .ok (.aload_n 0, 1) := by decide +kernel
theorem sX3_removeLine_66 : ab_X rom K cX3_removeLine 1 0 66 (.ref a :: ls) st hp = ab_X rom K cX3_removeLine 1 0 67 (.ref a :: ls) (.ref a :: st) hp := ax_aload_n dX3_removeLine_66 rfl rfl
theorem dX3_removeLine_67 : decode cX3_removeLine 67 = .ok (.getfield 15, 3) := by decide +kernel
theorem sX3_removeLine_67 : ab_X rom K cX3_removeLine 1 0 67 ls (.ref a :: st) hp = (ab_fld hp a 1 1).bind (fun v => ab_X rom K cX3_removeLine 1 0 70 ls (v :: st) hp) := ax_getfield dX3_removeLine_67 kf_1_15 rfl
theorem dX3_removeLine_70 : decode cX3_removeLine 70 = .ok (.if_icmp .ge 37, 3) := by decide +kernel
theorem sX3_removeLine_70 : ab_X rom K cX3_removeLine 1 0 70 ls (.int y :: .int x :: st) hp = if x < y then ab_X rom K cX3_removeLine 1 0 73 ls st hp else ab_X rom K cX3_removeLine 1 0 107 ls st hp := ax_icmp_ge dX3_removeLine_70 (by decide) rfl
theorem dX3_removeLine_73 : decode cX3_removeLine 73 = .ok (.aload_n 0, 1) := by decide +kernel
theorem sX3_removeLine_73 : ab_X rom K cX3_removeLine 1 0 73 (.ref a :: ls) st hp = ab_X rom K cX3_removeLine 1 0 74 (.ref a :: ls) (.ref a :: st) hp := ax_aload_n dX3_removeLine_73 rfl rfl
theorem dX3_removeLine_74 : decode cX3_removeLine 74 = .ok (.getfield 18, 3) := by decide +kernel
theorem sX3_removeLine_74 : ab_X rom K cX3_removeLine 1 0 74 ls (.ref a :: st) hp = (ab_fld hp a 1 2).bind (fun v => ab_X rom K cX3_removeLine 1 0 77 ls (v :: st) hp) := ax_getfield dX3_removeLine_74 kf_1_18 rfl
theorem dX3_removeLine_77 : decode cX3_removeLine 77 = .ok (.iload_n 2, 1) := by decide +kernel
theorem sX3_removeLine_77 : ab_X rom K cX3_removeLine 1 0 77 (v0 :: v1 :: .int x :: ls) st hp = ab_X rom K cX3_removeLine 1 0 78 (v0 :: v1 :: .int x :: ls) (.int x :: st) hp := ax_iload_n dX3_removeLine_77 rfl rfl
theorem dX3_removeLine_78 : decode cX3_removeLine 78 = .ok (.iconst 1, 1) := by decide +kernel
theorem sX3_removeLine_78 : ab_X rom K cX3_removeLine 1 0 78 ls st hp = ab_X rom K cX3_removeLine 1 0 79 ls (.int 1 :: st) hp := ax_iconst dX3_removeLine_78 (by decide) rfl
theorem dX3_removeLine_79 : decode cX3_removeLine 79 = .ok (.isub, 1) := by decide +kernel
theorem sX3_removeLine_79 : ab_X rom K cX3_removeLine 1 0 79 ls (.int y :: .int x :: st) hp = ab_X rom K cX3_removeLine 1 0 80 ls (.int (x - y) :: st) hp := ax_isub dX3_removeLine_79 rfl
theorem dX3_removeLine_80 : decode cX3_removeLine 80 = .ok (.aload_n 0, 1) := by decide +kernel
theorem sX3_removeLine_80 : ab_X rom K cX3_removeLine 1 0 80 (.ref a :: ls) st hp = ab_X rom K cX3_removeLine 1 0 81 (.ref a :: ls) (.ref a :: st) hp := ax_aload_n dX3_removeLine_80 rfl rfl
theorem dX3_removeLine_81 : decode cX3_removeLine 81 = .ok (.getfield 18, 3) := by decide +kernel
theorem sX3_removeLine_81 : ab_X rom K cX3_removeLine 1 0 81 ls (.ref a :: st) hp = (ab_fld hp a 1 2).bind (fun v => ab_X rom K cX3_removeLine 1 0 84 ls (v :: st) hp) := ax_getfield dX3_removeLine_81 kf_1_18 rfl
theorem dX3_removeLine_84 : decode cX3_removeLine 84 = .ok (.iload_n 2, 1) := by decide +kernel
theorem sX3_removeLine_84 : ab_X rom K cX3_removeLine 1 0 84 (v0 :: v1 :: .int x :: ls) st hp = ab_X rom K cX3_removeLine 1 0 85 (v0 :: v1 :: .int x :: ls) (.int x :: st) hp := ax_iload_n dX3_removeLine_84 rfl rfl
theorem dX3_removeLine_85 : decode cX3_removeLine 85 = .ok (.iaload, 1) := by decide +kernel
theorem sX3_removeLine_85 : ab_X rom K cX3_removeLine 1 0 85 ls (.int x :: .ref a :: st) hp = (ab_ard rom 0 hp a x).bind (fun v => ab_X rom K cX3_removeLine 1 0 86 ls (.int v :: st) hp) := ax_iaload dX3_removeLine_85 rfl
theorem dX3_removeLine_86 : decode cX3_removeLine 86 = .ok (.iastore, 1) := by decide +kernel
theorem sX3_removeLine_86 : ab_X rom K cX3_removeLine 1 0 86 ls (.int y :: .int x :: .ref a :: st) hp = (ab_awr 0 hp a x y).bind (fun hp' => ab_X rom K cX3_removeLine 1 0 87 ls st hp') := ax_iastore dX3_removeLine_86 rfl
theorem dX3_removeLine_87 : decode cX3_removeLine 87 = .ok (.aload_n 0, 1) := by decide +kernel
theorem sX3_removeLine_87 : ab_X rom K cX3_removeLine 1 0 87 (.ref a :: ls) st hp = ab_X rom K cX3_removeLine 1 0 88 (.ref a :: ls) (.ref a :: st) hp := ax_aload_n dX3_removeLine_87 rfl rfl
theorem dX3_removeLine_88 : decode cX3_removeLine 88 = .ok (.getfield 22, 3) := by decide +kernel
theorem sX3_removeLine_88 : ab_X rom K cX3_removeLine 1 0 88 ls (.ref a :: st) hp = (ab_fld hp a 1 3).bind (fun v => ab_X rom K cX3_removeLine 1 0 91 ls (v :: st) hp) := ax_getfield dX3_removeLine_88 kf_1_22 rfl
theorem dX3_removeLine_91 : decode cX3_removeLine 91 = .ok (.iload_n 2, 1) := by decide +kernel
theorem sX3_removeLine_91 : ab_X rom K cX3_removeLine 1 0 91 (v0 :: v1 :: .int x :: ls) st hp = ab_X rom K cX3_removeLine 1 0 92 (v0 :: v1 :: .int x :: ls) (.int x :: st) hp := ax_iload_n dX3_removeLine_91 rfl rfl
theorem dX3_removeLine_92 : decode cX3_removeLine 92 = .ok (.iconst 1, 1) := by decide +kernel
theorem sX3_removeLine_92 : ab_X rom K cX3_removeLine 1 0 92 ls st hp = ab_X rom K cX3_removeLine 1 0 93 ls (.int 1 :: st) hp := ax_iconst dX3_removeLine_92 (by decide) rfl
theorem dX3_removeLine_93 : decode cX3_removeLine 93 = .ok (.isub, 1) := by decide +kernel
theorem sX3_removeLine_93 : ab_X rom K cX3_removeLine 1 0 93 ls (.int y :: .int x :: st) hp = ab_X rom K cX3_removeLine 1 0 94 ls (.int (x - y) :: st) hp := ax_isub dX3_removeLine_93 rfl
theorem dX3_removeLine_94 : decode cX3_removeLine 94 = .ok (.aload_n 0, 1) := by decide +kernel
theorem sX3_removeLine_94 : ab_X rom K cX3_removeLine 1 0 94 (.ref a :: ls) st hp = ab_X rom K cX3_removeLine 1 0 95 (.ref a :: ls) (.ref a :: st) hp := ax_aload_n dX3_removeLine_94 rfl rfl
theorem dX3_removeLine_95 : decode cX3_removeLine 95 = .ok (.getfield 22, 3) := by decide +kernel
theorem sX3_removeLine_95 : ab_X rom K cX3_removeLine 1 0 95 ls (.ref a :: st) hp = (ab_fld hp a 1 3).bind (fun v => ab_X rom K cX3_removeLine 1 0 98 ls (v :: st) hp) := ax_getfield dX3_removeLine_95 kf_1_22 rfl
theorem dX3_removeLine_98 : decode cX3_removeLine 98 = .ok (.iload_n 2, 1) := by decide +kernel
theorem sX3_removeLine_98 : ab_X rom K cX3_removeLine 1 0 98 (v0 :: v1 :: .int x :: ls) st hp = ab_X rom K cX3_removeLine 1 0 99 (v0 :: v1 :: .int x :: ls) (.int x :: st) hp := ax_iload_n dX3_removeLine_98 rfl rfl
theorem dX3_removeLine_99 : decode cX3_removeLine 99 = .ok (.iaload, 1) := by decide +kernel
theorem sX3_removeLine_99 : ab_X rom K cX3_removeLine 1 0 99 ls (.int x :: .ref a :: st) hp = (ab_ard rom 0 hp a x).bind (fun v => ab_X rom K cX3_removeLine 1 0 100 ls (.int v :: st) hp) := ax_iaload dX3_removeLine_99 rfl
theorem dX3_removeLine_100 : decode cX3_removeLine 100 = .ok (.iastore, 1) := by decide +kernel
theorem sX3_removeLine_100 : ab_X rom K cX3_removeLine 1 0 100 ls (.int y :: .int x :: .ref a :: st) hp = (ab_awr 0 hp a x y).bind (fun hp' => ab_X rom K cX3_removeLine 1 0 101 ls st hp') := ax_iastore dX3_removeLine_100 rfl
theorem dX3_removeLine_101 : decode cX3_removeLine 101 = .ok (.iinc 2 1, 3) := by decide +kernel
theorem sX3_removeLine_101i : ab_X rom K cX3_removeLine 1 0 101 (v0 :: .int y :: .int x :: ls) st hp = ab_X rom K cX3_removeLine 1 0 104 (v0 :: .int y :: .int (x + 1) :: ls) st hp := ax_iinc dX3_removeLine_101 rfl (ab_nl_c1 (j := 1) (v := .int y) rfl (ab_c1_int _)) (by decide) rfl rfl
theorem sX3_removeLine_101r : ab_X rom K cX3_removeLine 1 0 101 (v0 :: .ref a2 :: .int x :: ls) st hp = ab_X rom K cX3_removeLine 1 0 104 (v0 :: .ref a2 :: .int (x + 1) :: ls) st hp := ax_iinc dX3_removeLine_101 rfl (ab_nl_c1 (j := 1) (v := .ref a2) rfl (ab_c1_ref _)) (by decide) rfl rfl
theorem sX3_removeLine_101n : ab_X rom K cX3_removeLine 1 0 101 (v0 :: .null :: .int x :: ls) st hp = ab_X rom K cX3_removeLine 1 0 104 (v0 :: .null :: .int (x + 1) :: ls) st hp := ax_iinc dX3_removeLine_101 rfl (ab_nl_c1 (j := 1) (v := .null) rfl ab_c1_null) (by decide) rfl rfl
theorem dX3_removeLine_104 : decode cX3_removeLine 104 = .ok (.goto (-39), 3) := by decide +kernel
theorem sX3_removeLine_104 : ab_X rom K cX3_removeLine 1 0 104 ls st hp = ab_X rom K cX3_removeLine 1 0 65 ls st hp := ax_goto dX3_removeLine_104 (by decide)
theorem dX3_removeLine_107 : decode cX3_removeLine 107 = .ok (.aload_n 0, 1) := by decide +kernel
theorem sX3_removeLine_107 : ab_X rom K cX3_removeLine 1 0 107 (.ref a :: ls) st hp = ab_X rom K cX3_removeLine 1 0 108 (.ref a :: ls) (.ref a :: st) hp := ax_aload_n dX3_removeLine_107 rfl rfl
theorem dX3_removeLine_108 : decode cX3_removeLine 108 = .ok (.dup, 1) := by decide +kernel
theorem sX3_removeLine_108i : ab_X rom K cX3_removeLine 1 0 108 ls (.int x :: st) hp = ab_X rom K cX3_removeLine 1 0 109 ls (.int x :: .int x :: st) hp := ax_dup dX3_removeLine_108 rfl (ab_c1_int _)
theorem sX3_removeLine_108r : ab_X rom K cX3_removeLine 1 0 108 ls (.ref a :: st) hp = ab_X rom K cX3_removeLine 1 0 109 ls (.ref a :: .ref a :: st) hp := ax_dup dX3_removeLine_108 rfl (ab_c1_ref _)
theorem dX3_removeLine_109 : decode cX3_removeLine 109 = .ok (.getfield 15, 3) := by decide +kernel
theorem sX3_removeLine_109 : ab_X rom K cX3_removeLine 1 0 109 ls (.ref a :: st) hp = (ab_fld hp a 1 1).bind (fun v => ab_X rom K cX3_removeLine 1 0 112 ls (v :: st) hp) := ax_getfield dX3_removeLine_109 kf_1_15 rfl
theorem dX3_removeLine_112 : decode cX3_removeLine 112 = .ok (.iconst 1, 1) := by decide +kernel
theorem sX3_removeLine_112 : ab_X rom K cX3_removeLine 1 0 112 ls st hp = ab_X rom K cX3_removeLine 1 0 113 ls (.int 1 :: st) hp := ax_iconst dX3_removeLine_112 (by decide) rfl
theorem dX3_removeLine_113 : decode cX3_removeLine 113 = .ok (.isub, 1) := by decide +kernel
theorem sX3_removeLine_113 : ab_X rom K cX3_removeLine 1 0 113 ls (.int y :: .int x :: st) hp = ab_X rom K cX3_removeLine 1 0 114 ls (.int (x - y) :: st) hp := ax_isub dX3_removeLine_113 rfl
theorem dX3_removeLine_114 : decode cX3_removeLine 114 = .ok (.putfield 15, 3) := by decide +kernel
theorem sX3_removeLine_114 : ab_X rom K cX3_removeLine 1 0 114 ls (.int x :: .ref a :: st) hp = (ab_fpt hp a 1 1 (.int x)).bind (fun hp' => ab_X rom K cX3_removeLine 1 0 117 ls st hp') := ax_putfield dX3_removeLine_114 kf_1_15 rfl (Or.inl rfl) rfl
theorem dX3_removeLine_117 : decode cX3_removeLine 117 = .ok (.return_, 1) := by decide +kernel
theorem sX3_removeLine_117 : ab_X rom K cX3_removeLine 1 0 117 ls [] hp = some (none, hp) := ax_vret dX3_removeLine_117 (by decide)
theorem tX3_sumOf : ab_mT[32]? = some (yX3_sumOf, cX3_sumOf, 2, 1, 1) := by decide +kernel
theorem mX3_sumOf {d : Nat} {a0 : Nat} {x0 : Int32} : ab_M rom (d + 1) 32 [.ref a0, .int x0] hp = ab_X rom (ab_M rom d) cX3_sumOf 1 1 0 [.ref a0, .int x0] [] hp := ab_M_eq tX3_sumOf (Nat.le_of_ble_eq_true rfl)
theorem dX3_sumOf_0 : decode cX3_sumOf 0 = .ok (.aload_n 0, 1) := by decide +kernel
theorem sX3_sumOf_0 : ab_X rom K cX3_sumOf 1 1 0 (.ref a :: ls) st hp = ab_X rom K cX3_sumOf 1 1 1 (.ref a :: ls) (.ref a :: st) hp := ax_aload_n dX3_sumOf_0 rfl rfl
theorem dX3_sumOf_1 : decode cX3_sumOf 1 = .ok (.getfield 25, 3) := by decide +kernel
theorem sX3_sumOf_1 : ab_X rom K cX3_sumOf 1 1 1 ls (.ref a :: st) hp = (ab_fld hp a 1 4).bind (fun v => ab_X rom K cX3_sumOf 1 1 4 ls (v :: st) hp) := ax_getfield dX3_sumOf_1 kf_1_25 rfl
theorem dX3_sumOf_4 : decode cX3_sumOf 4 = .ok (.aload_n 0, 1) := by decide +kernel
theorem sX3_sumOf_4 : ab_X rom K cX3_sumOf 1 1 4 (.ref a :: ls) st hp = ab_X rom K cX3_sumOf 1 1 5 (.ref a :: ls) (.ref a :: st) hp := ax_aload_n dX3_sumOf_4 rfl rfl
theorem dX3_sumOf_5 : decode cX3_sumOf 5 = .ok (.getfield 18, 3) := by decide +kernel
theorem sX3_sumOf_5 : ab_X rom K cX3_sumOf 1 1 5 ls (.ref a :: st) hp = (ab_fld hp a 1 2).bind (fun v => ab_X rom K cX3_sumOf 1 1 8 ls (v :: st) hp) := ax_getfield dX3_sumOf_5 kf_1_18 rfl
theorem dX3_sumOf_8 : decode cX3_sumOf 8 = .ok (.iload_n 1, 1) := by decide +kernel
theorem sX3_sumOf_8 : ab_X rom K cX3_sumOf 1 1 8 (v0 :: .int x :: ls) st hp = ab_X rom K cX3_sumOf 1 1 9 (v0 :: .int x :: ls) (.int x :: st) hp := ax_iload_n dX3_sumOf_8 rfl rfl
theorem dX3_sumOf_9 : decode cX3_sumOf 9 = .ok (.iaload, 1) := by decide +kernel
theorem sX3_sumOf_9 : ab_X rom K cX3_sumOf 1 1 9 ls (.int x :: .ref a :: st) hp = (ab_ard rom 0 hp a x).bind (fun v => ab_X rom K cX3_sumOf 1 1 10 ls (.int v :: st) hp) := ax_iaload dX3_sumOf_9 rfl
theorem dX3_sumOf_10 : decode cX3_sumOf 10 = .ok (.iaload, 1) := by decide +kernel
theorem sX3_sumOf_10 : ab_X rom K cX3_sumOf 1 1 10 ls (.int x :: .ref a :: st) hp = (ab_ard rom 0 hp a x).bind (fun v => ab_X rom K cX3_sumOf 1 1 11 ls (.int v :: st) hp) := ax_iaload dX3_sumOf_10 rfl
theorem dX3_sumOf_11 : decode cX3_sumOf 11 = .ok (.aload_n 0, 1) := by decide +kernel
theorem sX3_sumOf_11 : ab_X rom K cX3_sumOf 1 1 11 (.ref a :: ls) st hp = ab_X rom K cX3_sumOf 1 1 12 (.ref a :: ls) (.ref a :: st) hp := ax_aload_n dX3_sumOf_11 rfl rfl
theorem dX3_sumOf_12 : decode cX3_sumOf 12 = .ok (.getfield 25, 3) := by decide +kernel
theorem sX3_sumOf_12 : ab_X rom K cX3_sumOf 1 1 12 ls (.ref a :: st) hp = (ab_fld hp a 1 4).bind (fun v => ab_X rom K cX3_sumOf 1 1 15 ls (v :: st) hp) := ax_getfield dX3_sumOf_12 kf_1_25 rfl
theorem dX3_sumOf_15 : decode cX3_sumOf 15 = .ok (.aload_n 0, 1) := by decide +kernel
theorem sX3_sumOf_15 : ab_X rom K cX3_sumOf 1 1 15 (.ref a :: ls) st hp = ab_X rom K cX3_sumOf 1 1 16 (.ref a :: ls) (.ref a :: st) hp := ax_aload_n dX3_sumOf_15 rfl rfl
theorem dX3_sumOf_16 : decode cX3_sumOf 16 = .ok (.getfield 22, 3) := by decide +kernel
theorem sX3_sumOf_16 : ab_X rom K cX3_sumOf 1 1 16 ls (.ref a :: st) hp = (ab_fld hp a 1 3).bind (fun v => ab_X rom K cX3_sumOf 1 1 19 ls (v :: st) hp) := ax_getfield dX3_sumOf_16 kf_1_22 rfl
theorem dX3_sumOf_19 : decode cX3_sumOf 19 = .ok (.iload_n 1, 1) := by decide +kernel
theorem sX3_sumOf_19 : ab_X rom K cX3_sumOf 1 1 19 (v0 :: .int x :: ls) st hp = ab_X rom K cX3_sumOf 1 1 20 (v0 :: .int x :: ls) (.int x :: st) hp := ax_iload_n dX3_sumOf_19 rfl rfl
theorem dX3_sumOf_20 : decode cX3_sumOf 20 = .ok (.iaload, 1) := by decide +kernel
theorem sX3_sumOf_20 : ab_X rom K cX3_sumOf 1 1 20 ls (.int x :: .ref a :: st) hp = (ab_ard rom 0 hp a x).bind (fun v => ab_X rom K cX3_sumOf 1 1 21 ls (.int v :: st) hp) := ax_iaload dX3_sumOf_20 rfl
theorem dX3_sumOf_21 : decode cX3_sumOf 21 = .ok (.iaload, 1) := by decide +kernel
theorem sX3_sumOf_21 : ab_X rom K cX3_sumOf 1 1 21 ls (.int x :: .ref a :: st) hp = (ab_ard rom 0 hp a x).bind (fun v => ab_X rom K cX3_sumOf 1 1 22 ls (.int v :: st) hp) := ax_iaload dX3_sumOf_21 rfl
theorem dX3_sumOf_22 : decode cX3_sumOf 22 = .ok (.iadd, 1) := by decide +kernel
theorem sX3_sumOf_22 : ab_X rom K cX3_sumOf 1 1 22 ls (.int y :: .int x :: st) hp = ab_X rom K cX3_sumOf 1 1 23 ls (.int (x + y) :: st) hp := ax_iadd dX3_sumOf_22 rfl
theorem dX3_sumOf_23 : decode cX3_sumOf 23 = .ok (.ireturn, 1) := by decide +kernel
theorem sX3_sumOf_23 : ab_X rom K cX3_sumOf 1 1 23 ls [.int x] hp = some (some (.int x), hp) := ax_iret dX3_sumOf_23 rfl
theorem tX3_sumOfDifferences : ab_mT[33]? = some (yX3_sumOfDifferences, cX3_sumOfDifferences, 3, 1, 1) := by decide +kernel
theorem mX3_sumOfDifferences {d : Nat} {a0 : Nat} : ab_M rom (d + 1) 33 [.ref a0] hp = ab_X rom (ab_M rom d) cX3_sumOfDifferences 1 1 0 [.ref a0, .null, .null] [] hp := ab_M_eq tX3_sumOfDifferences (Nat.le_of_ble_eq_true rfl)
theorem dX3_sumOfDifferences_0 : decode cX3_sumOfDifferences 0 = .ok (.iconst 0, 1) := by decide +kernel
theorem sX3_sumOfDifferences_0 : ab_X rom K cX3_sumOfDifferences 1 1 0 ls st hp = ab_X rom K cX3_sumOfDifferences 1 1 1 ls (.int 0 :: st) hp := ax_iconst dX3_sumOfDifferences_0 (by decide) rfl
theorem dX3_sumOfDifferences_1 : decode cX3_sumOfDifferences 1 = .ok (.istore_n 1, 1) := by decide +kernel
theorem sX3_sumOfDifferences_1i : ab_X rom K cX3_sumOfDifferences 1 1 1 (.int y :: v1 :: ls) (.int x :: st) hp = ab_X rom K cX3_sumOfDifferences 1 1 2 (.int y :: .int x :: ls) st hp := ax_istore_n dX3_sumOfDifferences_1 (ax_lt (v := v1) rfl) (ab_nl_c1 (j := 0) (v := .int y) rfl (ab_c1_int _)) rfl rfl
theorem sX3_sumOfDifferences_1r : ab_X rom K cX3_sumOfDifferences 1 1 1 (.ref a2 :: v1 :: ls) (.int x :: st) hp = ab_X rom K cX3_sumOfDifferences 1 1 2 (.ref a2 :: .int x :: ls) st hp := ax_istore_n dX3_sumOfDifferences_1 (ax_lt (v := v1) rfl) (ab_nl_c1 (j := 0) (v := .ref a2) rfl (ab_c1_ref _)) rfl rfl
theorem sX3_sumOfDifferences_1n : ab_X rom K cX3_sumOfDifferences 1 1 1 (.null :: v1 :: ls) (.int x :: st) hp = ab_X rom K cX3_sumOfDifferences 1 1 2 (.null :: .int x :: ls) st hp := ax_istore_n dX3_sumOfDifferences_1 (ax_lt (v := v1) rfl) (ab_nl_c1 (j := 0) (v := .null) rfl ab_c1_null) rfl rfl
theorem dX3_sumOfDifferences_2 : decode cX3_sumOfDifferences 2 = .ok (.iconst 0, 1) := by decide +kernel
theorem sX3_sumOfDifferences_2 : ab_X rom K cX3_sumOfDifferences 1 1 2 ls st hp = ab_X rom K cX3_sumOfDifferences 1 1 3 ls (.int 0 :: st) hp := ax_iconst dX3_sumOfDifferences_2 (by decide) rfl
theorem dX3_sumOfDifferences_3 : decode cX3_sumOfDifferences 3 = .ok (.istore_n 2, 1) := by decide +kernel
theorem sX3_sumOfDifferences_3i : ab_X rom K cX3_sumOfDifferences 1 1 3 (v0 :: .int y :: v2 :: ls) (.int x :: st) hp = ab_X rom K cX3_sumOfDifferences 1 1 4 (v0 :: .int y :: .int x :: ls) st hp := ax_istore_n dX3_sumOfDifferences_3 (ax_lt (v := v2) rfl) (ab_nl_c1 (j := 1) (v := .int y) rfl (ab_c1_int _)) rfl rfl
theorem sX3_sumOfDifferences_3r : ab_X rom K cX3_sumOfDifferences 1 1 3 (v0 :: .ref a2 :: v2 :: ls) (.int x :: st) hp = ab_X rom K cX3_sumOfDifferences 1 1 4 (v0 :: .ref a2 :: .int x :: ls) st hp := ax_istore_n dX3_sumOfDifferences_3 (ax_lt (v := v2) rfl) (ab_nl_c1 (j := 1) (v := .ref a2) rfl (ab_c1_ref _)) rfl rfl
theorem sX3_sumOfDifferences_3n : ab_X rom K cX3_sumOfDifferences 1 1 3 (v0 :: .null :: v2 :: ls) (.int x :: st) hp = ab_X rom K cX3_sumOfDifferences 1 1 4 (v0 :: .null :: .int x :: ls) st hp := ax_istore_n dX3_sumOfDifferences_3 (ax_lt (v := v2) rfl) (ab_nl_c1 (j := 1) (v := .null) rfl ab_c1_null) rfl rfl
theorem dX3_sumOfDifferences_4 : decode cX3_sumOfDifferences 4 = .ok (.iload_n 2, 1) := by decide +kernel
theorem sX3_sumOfDifferences_4 : ab_X rom K cX3_sumOfDifferences 1 1 4 (v0 :: v1 :: .int x :: ls) st hp = ab_X rom K cX3_sumOfDifferences 1 1 5 (v0 :: v1 :: .int x :: ls) (.int x :: st) hp := ax_iload_n dX3_sumOfDifferences_4 rfl rfl
theorem dX3_sumOfDifferences_5 : decode cX3_sumOfDifferences 5 = .ok (.aload_n 0, 1) := by decide +kernel
theorem sX3_sumOfDifferences_5 : ab_X rom K cX3_sumOfDifferences 1 1 5 (.ref a :: ls) st hp = ab_X rom K cX3_sumOfDifferences 1 1 6 (.ref a :: ls) (.ref a :: st) hp := ax_aload_n dX3_sumOfDifferences_5 rfl rfl
theorem dX3_sumOfDifferences_6 : decode cX3_sumOfDifferences 6 = .ok (.getfield 15, 3) := by decide +kernel
theorem sX3_sumOfDifferences_6 : ab_X rom K cX3_sumOfDifferences 1 1 6 ls (.ref a :: st) hp = (ab_fld hp a 1 1).bind (fun v => ab_X rom K cX3_sumOfDifferences 1 1 9 ls (v :: st) hp) := ax_getfield dX3_sumOfDifferences_6 kf_1_15 rfl
theorem dX3_sumOfDifferences_9 : decode cX3_sumOfDifferences 9 = .ok (.if_icmp .ge 17, 3) := by decide +kernel
theorem sX3_sumOfDifferences_9 : ab_X rom K cX3_sumOfDifferences 1 1 9 ls (.int y :: .int x :: st) hp = if x < y then ab_X rom K cX3_sumOfDifferences 1 1 12 ls st hp else ab_X rom K cX3_sumOfDifferences 1 1 26 ls st hp := ax_icmp_ge dX3_sumOfDifferences_9 (by decide) rfl
theorem dX3_sumOfDifferences_12 : decode cX3_sumOfDifferences 12 = .ok (.iload_n 1, 1) := by decide +kernel
theorem sX3_sumOfDifferences_12 : ab_X rom K cX3_sumOfDifferences 1 1 12 (v0 :: .int x :: ls) st hp = ab_X rom K cX3_sumOfDifferences 1 1 13 (v0 :: .int x :: ls) (.int x :: st) hp := ax_iload_n dX3_sumOfDifferences_12 rfl rfl
theorem dX3_sumOfDifferences_13 : decode cX3_sumOfDifferences 13 = .ok (.aload_n 0, 1) := by decide +kernel
theorem sX3_sumOfDifferences_13 : ab_X rom K cX3_sumOfDifferences 1 1 13 (.ref a :: ls) st hp = ab_X rom K cX3_sumOfDifferences 1 1 14 (.ref a :: ls) (.ref a :: st) hp := ax_aload_n dX3_sumOfDifferences_13 rfl rfl
theorem dX3_sumOfDifferences_14 : decode cX3_sumOfDifferences 14 = .ok (.iload_n 2, 1) := by decide +kernel
theorem sX3_sumOfDifferences_14 : ab_X rom K cX3_sumOfDifferences 1 1 14 (v0 :: v1 :: .int x :: ls) st hp = ab_X rom K cX3_sumOfDifferences 1 1 15 (v0 :: v1 :: .int x :: ls) (.int x :: st) hp := ax_iload_n dX3_sumOfDifferences_14 rfl rfl
theorem dX3_sumOfDifferences_15 : decode cX3_sumOfDifferences 15 = .ok (.invokevirtual 77, 3) := by decide +kernel
theorem sX3_sumOfDifferences_15_0 : ab_X rom K cX3_sumOfDifferences 1 1 15 ls [w1, .ref a] hp = if ab_iso hp a 1 = true then (K 18 (.ref a :: [w1]) hp).bind (fun o => ab_X rom K cX3_sumOfDifferences 1 1 18 ls (o.1.toList ++ []) o.2) else none := ay_virtual (as := [w1]) (st := []) dX3_sumOfDifferences_15 kc_1_77 rfl rfl (Nat.le_of_ble_eq_true rfl)
theorem sX3_sumOfDifferences_15_1 : ab_X rom K cX3_sumOfDifferences 1 1 15 ls [w1, .ref a, v0] hp = if ab_iso hp a 1 = true then (K 18 (.ref a :: [w1]) hp).bind (fun o => ab_X rom K cX3_sumOfDifferences 1 1 18 ls (o.1.toList ++ [v0]) o.2) else none := ay_virtual (as := [w1]) (st := [v0]) dX3_sumOfDifferences_15 kc_1_77 rfl rfl (Nat.le_of_ble_eq_true rfl)
theorem sX3_sumOfDifferences_15_2 : ab_X rom K cX3_sumOfDifferences 1 1 15 ls [w1, .ref a, v0, v1] hp = if ab_iso hp a 1 = true then (K 18 (.ref a :: [w1]) hp).bind (fun o => ab_X rom K cX3_sumOfDifferences 1 1 18 ls (o.1.toList ++ [v0, v1]) o.2) else none := ay_virtual (as := [w1]) (st := [v0, v1]) dX3_sumOfDifferences_15 kc_1_77 rfl rfl (Nat.le_of_ble_eq_true rfl)
theorem sX3_sumOfDifferences_15_3 : ab_X rom K cX3_sumOfDifferences 1 1 15 ls [w1, .ref a, v0, v1, v2] hp = if ab_iso hp a 1 = true then (K 18 (.ref a :: [w1]) hp).bind (fun o => ab_X rom K cX3_sumOfDifferences 1 1 18 ls (o.1.toList ++ [v0, v1, v2]) o.2) else none := ay_virtual (as := [w1]) (st := [v0, v1, v2]) dX3_sumOfDifferences_15 kc_1_77 rfl rfl (Nat.le_of_ble_eq_true rfl)
theorem dX3_sumOfDifferences_18 : decode cX3_sumOfDifferences 18 = .ok (.iadd, 1) := by decide +kernel
theorem sX3_sumOfDifferences_18 : ab_X rom K cX3_sumOfDifferences 1 1 18 ls (.int y :: .int x :: st) hp = ab_X rom K cX3_sumOfDifferences 1 1 19 ls (.int (x + y) :: st) hp := ax_iadd dX3_sumOfDifferences_18 rfl
theorem dX3_sumOfDifferences_19 : decode cX3_sumOfDifferences 19 = .ok (.istore_n 1, 1) := by decide +kernel
theorem sX3_sumOfDifferences_19i : ab_X rom K cX3_sumOfDifferences 1 1 19 (.int y :: v1 :: ls) (.int x :: st) hp = ab_X rom K cX3_sumOfDifferences 1 1 20 (.int y :: .int x :: ls) st hp := ax_istore_n dX3_sumOfDifferences_19 (ax_lt (v := v1) rfl) (ab_nl_c1 (j := 0) (v := .int y) rfl (ab_c1_int _)) rfl rfl
theorem sX3_sumOfDifferences_19r : ab_X rom K cX3_sumOfDifferences 1 1 19 (.ref a2 :: v1 :: ls) (.int x :: st) hp = ab_X rom K cX3_sumOfDifferences 1 1 20 (.ref a2 :: .int x :: ls) st hp := ax_istore_n dX3_sumOfDifferences_19 (ax_lt (v := v1) rfl) (ab_nl_c1 (j := 0) (v := .ref a2) rfl (ab_c1_ref _)) rfl rfl
theorem sX3_sumOfDifferences_19n : ab_X rom K cX3_sumOfDifferences 1 1 19 (.null :: v1 :: ls) (.int x :: st) hp = ab_X rom K cX3_sumOfDifferences 1 1 20 (.null :: .int x :: ls) st hp := ax_istore_n dX3_sumOfDifferences_19 (ax_lt (v := v1) rfl) (ab_nl_c1 (j := 0) (v := .null) rfl ab_c1_null) rfl rfl
theorem dX3_sumOfDifferences_20 : decode cX3_sumOfDifferences 20 = .ok (.iinc 2 1, 3) := by decide +kernel
theorem sX3_sumOfDifferences_20i : ab_X rom K cX3_sumOfDifferences 1 1 20 (v0 :: .int y :: .int x :: ls) st hp = ab_X rom K cX3_sumOfDifferences 1 1 23 (v0 :: .int y :: .int (x + 1) :: ls) st hp := ax_iinc dX3_sumOfDifferences_20 rfl (ab_nl_c1 (j := 1) (v := .int y) rfl (ab_c1_int _)) (by decide) rfl rfl
theorem sX3_sumOfDifferences_20r : ab_X rom K cX3_sumOfDifferences 1 1 20 (v0 :: .ref a2 :: .int x :: ls) st hp = ab_X rom K cX3_sumOfDifferences 1 1 23 (v0 :: .ref a2 :: .int (x + 1) :: ls) st hp := ax_iinc dX3_sumOfDifferences_20 rfl (ab_nl_c1 (j := 1) (v := .ref a2) rfl (ab_c1_ref _)) (by decide) rfl rfl
theorem sX3_sumOfDifferences_20n : ab_X rom K cX3_sumOfDifferences 1 1 20 (v0 :: .null :: .int x :: ls) st hp = ab_X rom K cX3_sumOfDifferences 1 1 23 (v0 :: .null :: .int (x + 1) :: ls) st hp := ax_iinc dX3_sumOfDifferences_20 rfl (ab_nl_c1 (j := 1) (v := .null) rfl ab_c1_null) (by decide) rfl rfl
theorem dX3_sumOfDifferences_23 : decode cX3_sumOfDifferences 23 = .ok (.goto (-19), 3) := by decide +kernel
theorem sX3_sumOfDifferences_23 : ab_X rom K cX3_sumOfDifferences 1 1 23 ls st hp = ab_X rom K cX3_sumOfDifferences 1 1 4 ls st hp := ax_goto dX3_sumOfDifferences_23 (by decide)
theorem dX3_sumOfDifferences_26 : decode cX3_sumOfDifferences 26 = .ok (.iload_n 1, 1) := by decide +kernel
theorem sX3_sumOfDifferences_26 : ab_X rom K cX3_sumOfDifferences 1 1 26 (v0 :: .int x :: ls) st hp = ab_X rom K cX3_sumOfDifferences 1 1 27 (v0 :: .int x :: ls) (.int x :: st) hp := ax_iload_n dX3_sumOfDifferences_26 rfl rfl
theorem dX3_sumOfDifferences_27 : decode cX3_sumOfDifferences 27 = .ok (.ireturn, 1) := by decide +kernel
theorem sX3_sumOfDifferences_27 : ab_X rom K cX3_sumOfDifferences 1 1 27 ls [.int x] hp = some (some (.int x), hp) := ax_iret dX3_sumOfDifferences_27 rfl
theorem tX3_sumOfLabels : ab_mT[34]? = some (yX3_sumOfLabels, cX3_sumOfLabels, 3, 1, 1) := by decide +kernel
theorem mX3_sumOfLabels {d : Nat} {a0 : Nat} : ab_M rom (d + 1) 34 [.ref a0] hp = ab_X rom (ab_M rom d) cX3_sumOfLabels 1 1 0 [.ref a0, .null, .null] [] hp := ab_M_eq tX3_sumOfLabels (Nat.le_of_ble_eq_true rfl)
theorem dX3_sumOfLabels_0 : decode cX3_sumOfLabels 0 = .ok (.iconst 0, 1) := by decide +kernel
theorem sX3_sumOfLabels_0 : ab_X rom K cX3_sumOfLabels 1 1 0 ls st hp = ab_X rom K cX3_sumOfLabels 1 1 1 ls (.int 0 :: st) hp := ax_iconst dX3_sumOfLabels_0 (by decide) rfl
theorem dX3_sumOfLabels_1 : decode cX3_sumOfLabels 1 = .ok (.istore_n 1, 1) := by decide +kernel
theorem sX3_sumOfLabels_1i : ab_X rom K cX3_sumOfLabels 1 1 1 (.int y :: v1 :: ls) (.int x :: st) hp = ab_X rom K cX3_sumOfLabels 1 1 2 (.int y :: .int x :: ls) st hp := ax_istore_n dX3_sumOfLabels_1 (ax_lt (v := v1) rfl) (ab_nl_c1 (j := 0) (v := .int y) rfl (ab_c1_int _)) rfl rfl
theorem sX3_sumOfLabels_1r : ab_X rom K cX3_sumOfLabels 1 1 1 (.ref a2 :: v1 :: ls) (.int x :: st) hp = ab_X rom K cX3_sumOfLabels 1 1 2 (.ref a2 :: .int x :: ls) st hp := ax_istore_n dX3_sumOfLabels_1 (ax_lt (v := v1) rfl) (ab_nl_c1 (j := 0) (v := .ref a2) rfl (ab_c1_ref _)) rfl rfl
theorem sX3_sumOfLabels_1n : ab_X rom K cX3_sumOfLabels 1 1 1 (.null :: v1 :: ls) (.int x :: st) hp = ab_X rom K cX3_sumOfLabels 1 1 2 (.null :: .int x :: ls) st hp := ax_istore_n dX3_sumOfLabels_1 (ax_lt (v := v1) rfl) (ab_nl_c1 (j := 0) (v := .null) rfl ab_c1_null) rfl rfl
theorem dX3_sumOfLabels_2 : decode cX3_sumOfLabels 2 = .ok (.iconst 0, 1) := by decide +kernel
theorem sX3_sumOfLabels_2 : ab_X rom K cX3_sumOfLabels 1 1 2 ls st hp = ab_X rom K cX3_sumOfLabels 1 1 3 ls (.int 0 :: st) hp := ax_iconst dX3_sumOfLabels_2 (by decide) rfl
theorem dX3_sumOfLabels_3 : decode cX3_sumOfLabels 3 = .ok (.istore_n 2, 1) := by decide +kernel
theorem sX3_sumOfLabels_3i : ab_X rom K cX3_sumOfLabels 1 1 3 (v0 :: .int y :: v2 :: ls) (.int x :: st) hp = ab_X rom K cX3_sumOfLabels 1 1 4 (v0 :: .int y :: .int x :: ls) st hp := ax_istore_n dX3_sumOfLabels_3 (ax_lt (v := v2) rfl) (ab_nl_c1 (j := 1) (v := .int y) rfl (ab_c1_int _)) rfl rfl
theorem sX3_sumOfLabels_3r : ab_X rom K cX3_sumOfLabels 1 1 3 (v0 :: .ref a2 :: v2 :: ls) (.int x :: st) hp = ab_X rom K cX3_sumOfLabels 1 1 4 (v0 :: .ref a2 :: .int x :: ls) st hp := ax_istore_n dX3_sumOfLabels_3 (ax_lt (v := v2) rfl) (ab_nl_c1 (j := 1) (v := .ref a2) rfl (ab_c1_ref _)) rfl rfl
theorem sX3_sumOfLabels_3n : ab_X rom K cX3_sumOfLabels 1 1 3 (v0 :: .null :: v2 :: ls) (.int x :: st) hp = ab_X rom K cX3_sumOfLabels 1 1 4 (v0 :: .null :: .int x :: ls) st hp := ax_istore_n dX3_sumOfLabels_3 (ax_lt (v := v2) rfl) (ab_nl_c1 (j := 1) (v := .null) rfl ab_c1_null) rfl rfl
theorem dX3_sumOfLabels_4 : decode cX3_sumOfLabels 4 = .ok (.iload_n 2, 1) := by decide +kernel
theorem sX3_sumOfLabels_4 : ab_X rom K cX3_sumOfLabels 1 1 4 (v0 :: v1 :: .int x :: ls) st hp = ab_X rom K cX3_sumOfLabels 1 1 5 (v0 :: v1 :: .int x :: ls) (.int x :: st) hp := ax_iload_n dX3_sumOfLabels_4 rfl rfl
theorem dX3_sumOfLabels_5 : decode cX3_sumOfLabels 5 = .ok (.aload_n 0, 1) := by decide +kernel
theorem sX3_sumOfLabels_5 : ab_X rom K cX3_sumOfLabels 1 1 5 (.ref a :: ls) st hp = ab_X rom K cX3_sumOfLabels 1 1 6 (.ref a :: ls) (.ref a :: st) hp := ax_aload_n dX3_sumOfLabels_5 rfl rfl
theorem dX3_sumOfLabels_6 : decode cX3_sumOfLabels 6 = .ok (.getfield 9, 3) := by decide +kernel
theorem sX3_sumOfLabels_6 : ab_X rom K cX3_sumOfLabels 1 1 6 ls (.ref a :: st) hp = (ab_fld hp a 1 0).bind (fun v => ab_X rom K cX3_sumOfLabels 1 1 9 ls (v :: st) hp) := ax_getfield dX3_sumOfLabels_6 kf_1_9 rfl
theorem dX3_sumOfLabels_9 : decode cX3_sumOfLabels 9 = .ok (.if_icmp .ge 18, 3) := by decide +kernel
theorem sX3_sumOfLabels_9 : ab_X rom K cX3_sumOfLabels 1 1 9 ls (.int y :: .int x :: st) hp = if x < y then ab_X rom K cX3_sumOfLabels 1 1 12 ls st hp else ab_X rom K cX3_sumOfLabels 1 1 27 ls st hp := ax_icmp_ge dX3_sumOfLabels_9 (by decide) rfl
theorem dX3_sumOfLabels_12 : decode cX3_sumOfLabels 12 = .ok (.iload_n 1, 1) := by decide +kernel
theorem sX3_sumOfLabels_12 : ab_X rom K cX3_sumOfLabels 1 1 12 (v0 :: .int x :: ls) st hp = ab_X rom K cX3_sumOfLabels 1 1 13 (v0 :: .int x :: ls) (.int x :: st) hp := ax_iload_n dX3_sumOfLabels_12 rfl rfl
theorem dX3_sumOfLabels_13 : decode cX3_sumOfLabels 13 = .ok (.aload_n 0, 1) := by decide +kernel
theorem sX3_sumOfLabels_13 : ab_X rom K cX3_sumOfLabels 1 1 13 (.ref a :: ls) st hp = ab_X rom K cX3_sumOfLabels 1 1 14 (.ref a :: ls) (.ref a :: st) hp := ax_aload_n dX3_sumOfLabels_13 rfl rfl
theorem dX3_sumOfLabels_14 : decode cX3_sumOfLabels 14 = .ok (.getfield 25, 3) := by decide +kernel
theorem sX3_sumOfLabels_14 : ab_X rom K cX3_sumOfLabels 1 1 14 ls (.ref a :: st) hp = (ab_fld hp a 1 4).bind (fun v => ab_X rom K cX3_sumOfLabels 1 1 17 ls (v :: st) hp) := ax_getfield dX3_sumOfLabels_14 kf_1_25 rfl
theorem dX3_sumOfLabels_17 : decode cX3_sumOfLabels 17 = .ok (.iload_n 2, 1) := by decide +kernel
theorem sX3_sumOfLabels_17 : ab_X rom K cX3_sumOfLabels 1 1 17 (v0 :: v1 :: .int x :: ls) st hp = ab_X rom K cX3_sumOfLabels 1 1 18 (v0 :: v1 :: .int x :: ls) (.int x :: st) hp := ax_iload_n dX3_sumOfLabels_17 rfl rfl
theorem dX3_sumOfLabels_18 : decode cX3_sumOfLabels 18 = .ok (.iaload, 1) := by decide +kernel
theorem sX3_sumOfLabels_18 : ab_X rom K cX3_sumOfLabels 1 1 18 ls (.int x :: .ref a :: st) hp = (ab_ard rom 0 hp a x).bind (fun v => ab_X rom K cX3_sumOfLabels 1 1 19 ls (.int v :: st) hp) := ax_iaload dX3_sumOfLabels_18 rfl
theorem dX3_sumOfLabels_19 : decode cX3_sumOfLabels 19 = .ok (.iadd, 1) := by decide +kernel
theorem sX3_sumOfLabels_19 : ab_X rom K cX3_sumOfLabels 1 1 19 ls (.int y :: .int x :: st) hp = ab_X rom K cX3_sumOfLabels 1 1 20 ls (.int (x + y) :: st) hp := ax_iadd dX3_sumOfLabels_19 rfl
theorem dX3_sumOfLabels_20 : decode cX3_sumOfLabels 20 = .ok (.istore_n 1, 1) := by decide +kernel
theorem sX3_sumOfLabels_20i : ab_X rom K cX3_sumOfLabels 1 1 20 (.int y :: v1 :: ls) (.int x :: st) hp = ab_X rom K cX3_sumOfLabels 1 1 21 (.int y :: .int x :: ls) st hp := ax_istore_n dX3_sumOfLabels_20 (ax_lt (v := v1) rfl) (ab_nl_c1 (j := 0) (v := .int y) rfl (ab_c1_int _)) rfl rfl
theorem sX3_sumOfLabels_20r : ab_X rom K cX3_sumOfLabels 1 1 20 (.ref a2 :: v1 :: ls) (.int x :: st) hp = ab_X rom K cX3_sumOfLabels 1 1 21 (.ref a2 :: .int x :: ls) st hp := ax_istore_n dX3_sumOfLabels_20 (ax_lt (v := v1) rfl) (ab_nl_c1 (j := 0) (v := .ref a2) rfl (ab_c1_ref _)) rfl rfl
theorem sX3_sumOfLabels_20n : ab_X rom K cX3_sumOfLabels 1 1 20 (.null :: v1 :: ls) (.int x :: st) hp = ab_X rom K cX3_sumOfLabels 1 1 21 (.null :: .int x :: ls) st hp := ax_istore_n dX3_sumOfLabels_20 (ax_lt (v := v1) rfl) (ab_nl_c1 (j := 0) (v := .null) rfl ab_c1_null) rfl rfl
theorem dX3_sumOfLabels_21 : decode cX3_sumOfLabels 21 = .ok (.iinc 2 1, 3) := by decide +kernel
theorem sX3_sumOfLabels_21i : ab_X rom K cX3_sumOfLabels 1 1 21 (v0 :: .int y :: .int x :: ls) st hp = ab_X rom K cX3_sumOfLabels 1 1 24 (v0 :: .int y :: .int (x + 1) :: ls) st hp := ax_iinc dX3_sumOfLabels_21 rfl (ab_nl_c1 (j := 1) (v := .int y) rfl (ab_c1_int _)) (by decide) rfl rfl
theorem sX3_sumOfLabels_21r : ab_X rom K cX3_sumOfLabels 1 1 21 (v0 :: .ref a2 :: .int x :: ls) st hp = ab_X rom K cX3_sumOfLabels 1 1 24 (v0 :: .ref a2 :: .int (x + 1) :: ls) st hp := ax_iinc dX3_sumOfLabels_21 rfl (ab_nl_c1 (j := 1) (v := .ref a2) rfl (ab_c1_ref _)) (by decide) rfl rfl
theorem sX3_sumOfLabels_21n : ab_X rom K cX3_sumOfLabels 1 1 21 (v0 :: .null :: .int x :: ls) st hp = ab_X rom K cX3_sumOfLabels 1 1 24 (v0 :: .null :: .int (x + 1) :: ls) st hp := ax_iinc dX3_sumOfLabels_21 rfl (ab_nl_c1 (j := 1) (v := .null) rfl ab_c1_null) (by decide) rfl rfl
theorem dX3_sumOfLabels_24 : decode cX3_sumOfLabels 24 = .ok (.goto (-20), 3) := by decide +kernel
theorem sX3_sumOfLabels_24 : ab_X rom K cX3_sumOfLabels 1 1 24 ls st hp = ab_X rom K cX3_sumOfLabels 1 1 4 ls st hp := ax_goto dX3_sumOfLabels_24 (by decide)
theorem dX3_sumOfLabels_27 : decode cX3_sumOfLabels 27 = .ok (.iload_n 1, 1) := by decide +kernel
theorem sX3_sumOfLabels_27 : ab_X rom K cX3_sumOfLabels 1 1 27 (v0 :: .int x :: ls) st hp = ab_X rom K cX3_sumOfLabels 1 1 28 (v0 :: .int x :: ls) (.int x :: st) hp := ax_iload_n dX3_sumOfLabels_27 rfl rfl
theorem dX3_sumOfLabels_28 : decode cX3_sumOfLabels 28 = .ok (.ireturn, 1) := by decide +kernel
theorem sX3_sumOfLabels_28 : ab_X rom K cX3_sumOfLabels 1 1 28 ls [.int x] hp = some (some (.int x), hp) := ax_iret dX3_sumOfLabels_28 rfl
end
