/-! FairLabels$Census: its methods step by step (printed by wip/whole/gen_steps.py) -/
section
variable {rom : List (List Int32)} {K : Nat → List Value → ab_H → Option ab_O} {ls st : List Value} {hp : ab_H} {x y z : Int32} {a a2 : Nat} {sp dp : Int32} {u w : Int64} {v0 v1 v2 v3 v4 v5 v6 v7 v8 v9 v10 v11 v12 v13 v14 v15 w1 w2 w3 w4 w5 w6 : Value}
theorem tX0_init : ab_mT[0]? = some (yX0_init, cX0_init, 1, 3, 0) := by decide +kernel
theorem mX0_init {d : Nat} {a0 : Nat} : ab_M rom (d + 1) 0 [.ref a0] hp = ab_X rom (ab_M rom d) cX0_init 0 3 0 [.ref a0] [] hp := ab_M_eq tX0_init (Nat.le_of_ble_eq_true rfl)
theorem dX0_init_0 : decode cX0_init 0 = .ok (.aload_n 0, 1) := by decide +kernel
theorem sX0_init_0 : ab_X rom K cX0_init 0 3 0 (.ref a :: ls) st hp = ab_X rom K cX0_init 0 3 1 (.ref a :: ls) (.ref a :: st) hp := ax_aload_n dX0_init_0 rfl rfl
theorem dX0_init_1 : decode cX0_init 1 = .ok (.invokespecial 3, 3) := by decide +kernel
theorem sX0_init_1_0 : ab_X rom K cX0_init 0 3 1 ls [.ref a] hp = ab_X rom K cX0_init 0 3 4 ls [] hp := ax_obj dX0_init_1 kc_0_3 rfl (Nat.le_of_ble_eq_true rfl)
theorem sX0_init_1_1 : ab_X rom K cX0_init 0 3 1 ls [.ref a, v0] hp = ab_X rom K cX0_init 0 3 4 ls [v0] hp := ax_obj dX0_init_1 kc_0_3 rfl (Nat.le_of_ble_eq_true rfl)
theorem sX0_init_1_2 : ab_X rom K cX0_init 0 3 1 ls [.ref a, v0, v1] hp = ab_X rom K cX0_init 0 3 4 ls [v0, v1] hp := ax_obj dX0_init_1 kc_0_3 rfl (Nat.le_of_ble_eq_true rfl)
theorem sX0_init_1_3 : ab_X rom K cX0_init 0 3 1 ls [.ref a, v0, v1, v2] hp = ab_X rom K cX0_init 0 3 4 ls [v0, v1, v2] hp := ax_obj dX0_init_1 kc_0_3 rfl (Nat.le_of_ble_eq_true rfl)
theorem dX0_init_4 : decode cX0_init 4 = .ok (.aload_n 0, 1) := by decide +kernel
theorem sX0_init_4 : ab_X rom K cX0_init 0 3 4 (.ref a :: ls) st hp = ab_X rom K cX0_init 0 3 5 (.ref a :: ls) (.ref a :: st) hp := ax_aload_n dX0_init_4 rfl rfl
theorem dX0_init_5 : decode cX0_init 5 = .ok (.iconst 0, 1) := by decide +kernel
theorem sX0_init_5 : ab_X rom K cX0_init 0 3 5 ls st hp = ab_X rom K cX0_init 0 3 6 ls (.int 0 :: st) hp := ax_iconst dX0_init_5 (by decide) rfl
theorem dX0_init_6 : decode cX0_init 6 = .ok (.putfield 9, 3) := by decide +kernel
theorem sX0_init_6 : ab_X rom K cX0_init 0 3 6 ls (.int x :: .ref a :: st) hp = (ab_fpt hp a 0 0 (.int x)).bind (fun hp' => ab_X rom K cX0_init 0 3 9 ls st hp') := ax_putfield dX0_init_6 kf_0_9 rfl (Or.inl rfl) rfl
theorem dX0_init_9 : decode cX0_init 9 = .ok (.aload_n 0, 1) := by decide +kernel
theorem sX0_init_9 : ab_X rom K cX0_init 0 3 9 (.ref a :: ls) st hp = ab_X rom K cX0_init 0 3 10 (.ref a :: ls) (.ref a :: st) hp := ax_aload_n dX0_init_9 rfl rfl
theorem dX0_init_10 : decode cX0_init 10 = .ok (.bipush 7, 2) := by decide +kernel
theorem sX0_init_10 : ab_X rom K cX0_init 0 3 10 ls st hp = ab_X rom K cX0_init 0 3 12 ls (.int 7 :: st) hp := ax_bipush dX0_init_10 (by decide) rfl
theorem dX0_init_12 : decode cX0_init 12 = .ok (.newarray .int, 2) := by decide +kernel
theorem sX0_init_12 : ab_X rom K cX0_init 0 3 12 ls (.int x :: st) hp = if ¬ x < 0 ∧ x.toNatClampNeg ≤ 1000 ∧ hp.length < ab_RO then ab_X rom K cX0_init 0 3 14 ls (.ref hp.length :: st) (hp ++ [.inl (0, List.replicate x.toNatClampNeg 0)]) else none := ay_newint dX0_init_12 rfl
theorem dX0_init_14 : decode cX0_init 14 = .ok (.putfield 15, 3) := by decide +kernel
theorem sX0_init_14 : ab_X rom K cX0_init 0 3 14 ls (.ref a2 :: .ref a :: st) hp = (ab_fpt hp a 0 1 (.ref a2)).bind (fun hp' => ab_X rom K cX0_init 0 3 17 ls st hp') := ax_putfield dX0_init_14 kf_0_15 rfl (Or.inr ⟨rfl, rfl⟩) rfl
theorem dX0_init_17 : decode cX0_init 17 = .ok (.aload_n 0, 1) := by decide +kernel
theorem sX0_init_17 : ab_X rom K cX0_init 0 3 17 (.ref a :: ls) st hp = ab_X rom K cX0_init 0 3 18 (.ref a :: ls) (.ref a :: st) hp := ax_aload_n dX0_init_17 rfl rfl
theorem dX0_init_18 : decode cX0_init 18 = .ok (.iconst (-1), 1) := by decide +kernel
theorem sX0_init_18 : ab_X rom K cX0_init 0 3 18 ls st hp = ab_X rom K cX0_init 0 3 19 ls (.int (-1) :: st) hp := ax_iconst dX0_init_18 (by decide) rfl
theorem dX0_init_19 : decode cX0_init 19 = .ok (.putfield 19, 3) := by decide +kernel
theorem sX0_init_19 : ab_X rom K cX0_init 0 3 19 ls (.int x :: .ref a :: st) hp = (ab_fpt hp a 0 2 (.int x)).bind (fun hp' => ab_X rom K cX0_init 0 3 22 ls st hp') := ax_putfield dX0_init_19 kf_0_19 rfl (Or.inl rfl) rfl
theorem dX0_init_22 : decode cX0_init 22 = .ok (.aload_n 0, 1) := by decide +kernel
theorem sX0_init_22 : ab_X rom K cX0_init 0 3 22 (.ref a :: ls) st hp = ab_X rom K cX0_init 0 3 23 (.ref a :: ls) (.ref a :: st) hp := ax_aload_n dX0_init_22 rfl rfl
theorem dX0_init_23 : decode cX0_init 23 = .ok (.bipush 21, 2) := by decide +kernel
theorem sX0_init_23 : ab_X rom K cX0_init 0 3 23 ls st hp = ab_X rom K cX0_init 0 3 25 ls (.int 21 :: st) hp := ax_bipush dX0_init_23 (by decide) rfl
theorem dX0_init_25 : decode cX0_init 25 = .ok (.newarray .int, 2) := by decide +kernel
theorem sX0_init_25 : ab_X rom K cX0_init 0 3 25 ls (.int x :: st) hp = if ¬ x < 0 ∧ x.toNatClampNeg ≤ 1000 ∧ hp.length < ab_RO then ab_X rom K cX0_init 0 3 27 ls (.ref hp.length :: st) (hp ++ [.inl (0, List.replicate x.toNatClampNeg 0)]) else none := ay_newint dX0_init_25 rfl
theorem dX0_init_27 : decode cX0_init 27 = .ok (.putfield 22, 3) := by decide +kernel
theorem sX0_init_27 : ab_X rom K cX0_init 0 3 27 ls (.ref a2 :: .ref a :: st) hp = (ab_fpt hp a 0 3 (.ref a2)).bind (fun hp' => ab_X rom K cX0_init 0 3 30 ls st hp') := ax_putfield dX0_init_27 kf_0_22 rfl (Or.inr ⟨rfl, rfl⟩) rfl
theorem dX0_init_30 : decode cX0_init 30 = .ok (.aload_n 0, 1) := by decide +kernel
theorem sX0_init_30 : ab_X rom K cX0_init 0 3 30 (.ref a :: ls) st hp = ab_X rom K cX0_init 0 3 31 (.ref a :: ls) (.ref a :: st) hp := ax_aload_n dX0_init_30 rfl rfl
theorem dX0_init_31 : decode cX0_init 31 = .ok (.iconst 0, 1) := by decide +kernel
theorem sX0_init_31 : ab_X rom K cX0_init 0 3 31 ls st hp = ab_X rom K cX0_init 0 3 32 ls (.int 0 :: st) hp := ax_iconst dX0_init_31 (by decide) rfl
theorem dX0_init_32 : decode cX0_init 32 = .ok (.putfield 25, 3) := by decide +kernel
theorem sX0_init_32 : ab_X rom K cX0_init 0 3 32 ls (.int x :: .ref a :: st) hp = if x = 0 ∨ x = 1 then (ab_fpt hp a 0 4 (.int x)).bind (fun hp' => ab_X rom K cX0_init 0 3 35 ls st hp') else none := ay_putbool dX0_init_32 kf_0_25 rfl
theorem dX0_init_35 : decode cX0_init 35 = .ok (.aload_n 0, 1) := by decide +kernel
theorem sX0_init_35 : ab_X rom K cX0_init 0 3 35 (.ref a :: ls) st hp = ab_X rom K cX0_init 0 3 36 (.ref a :: ls) (.ref a :: st) hp := ax_aload_n dX0_init_35 rfl rfl
theorem dX0_init_36 : decode cX0_init 36 = .ok (.bipush 7, 2) := by decide +kernel
theorem sX0_init_36 : ab_X rom K cX0_init 0 3 36 ls st hp = ab_X rom K cX0_init 0 3 38 ls (.int 7 :: st) hp := ax_bipush dX0_init_36 (by decide) rfl
theorem dX0_init_38 : decode cX0_init 38 = .ok (.newarray .int, 2) := by decide +kernel
theorem sX0_init_38 : ab_X rom K cX0_init 0 3 38 ls (.int x :: st) hp = if ¬ x < 0 ∧ x.toNatClampNeg ≤ 1000 ∧ hp.length < ab_RO then ab_X rom K cX0_init 0 3 40 ls (.ref hp.length :: st) (hp ++ [.inl (0, List.replicate x.toNatClampNeg 0)]) else none := ay_newint dX0_init_38 rfl
theorem dX0_init_40 : decode cX0_init 40 = .ok (.putfield 29, 3) := by decide +kernel
theorem sX0_init_40 : ab_X rom K cX0_init 0 3 40 ls (.ref a2 :: .ref a :: st) hp = (ab_fpt hp a 0 5 (.ref a2)).bind (fun hp' => ab_X rom K cX0_init 0 3 43 ls st hp') := ax_putfield dX0_init_40 kf_0_29 rfl (Or.inr ⟨rfl, rfl⟩) rfl
theorem dX0_init_43 : decode cX0_init 43 = .ok (.aload_n 0, 1) := by decide +kernel
theorem sX0_init_43 : ab_X rom K cX0_init 0 3 43 (.ref a :: ls) st hp = ab_X rom K cX0_init 0 3 44 (.ref a :: ls) (.ref a :: st) hp := ax_aload_n dX0_init_43 rfl rfl
theorem dX0_init_44 : decode cX0_init 44 = .ok (.sipush 128, 3) := by decide +kernel
theorem sX0_init_44 : ab_X rom K cX0_init 0 3 44 ls st hp = ab_X rom K cX0_init 0 3 47 ls (.int 128 :: st) hp := ax_sipush dX0_init_44 (by decide) rfl
theorem dX0_init_47 : decode cX0_init 47 = .ok (.newarray .int, 2) := by decide +kernel
theorem sX0_init_47 : ab_X rom K cX0_init 0 3 47 ls (.int x :: st) hp = if ¬ x < 0 ∧ x.toNatClampNeg ≤ 1000 ∧ hp.length < ab_RO then ab_X rom K cX0_init 0 3 49 ls (.ref hp.length :: st) (hp ++ [.inl (0, List.replicate x.toNatClampNeg 0)]) else none := ay_newint dX0_init_47 rfl
theorem dX0_init_49 : decode cX0_init 49 = .ok (.putfield 32, 3) := by decide +kernel
theorem sX0_init_49 : ab_X rom K cX0_init 0 3 49 ls (.ref a2 :: .ref a :: st) hp = (ab_fpt hp a 0 6 (.ref a2)).bind (fun hp' => ab_X rom K cX0_init 0 3 52 ls st hp') := ax_putfield dX0_init_49 kf_0_32 rfl (Or.inr ⟨rfl, rfl⟩) rfl
theorem dX0_init_52 : decode cX0_init 52 = .ok (.return_, 1) := by decide +kernel
theorem sX0_init_52 : ab_X rom K cX0_init 0 3 52 ls [] hp = some (none, hp) := ax_vret dX0_init_52 (by decide)
theorem tX0_add : ab_mT[1]? = some (yX0_add, cX0_add, 5, 0, 0) := by decide +kernel
theorem mX0_add {d : Nat} {a0 : Nat} {r0 : Nat} {x1 : Int32} : ab_M rom (d + 1) 1 [.ref a0, .ref r0, .int x1] hp = ab_X rom (ab_M rom d) cX0_add 0 0 0 [.ref a0, .ref r0, .int x1, .null, .null] [] hp := ab_M_eq tX0_add (Nat.le_of_ble_eq_true rfl)
theorem dX0_add_0 : decode cX0_add 0 = .ok (.aload_n 0, 1) := by decide +kernel
theorem sX0_add_0 : ab_X rom K cX0_add 0 0 0 (.ref a :: ls) st hp = ab_X rom K cX0_add 0 0 1 (.ref a :: ls) (.ref a :: st) hp := ax_aload_n dX0_add_0 rfl rfl
theorem dX0_add_1 : decode cX0_add 1 = .ok (.dup, 1) := by decide +kernel
theorem sX0_add_1i : ab_X rom K cX0_add 0 0 1 ls (.int x :: st) hp = ab_X rom K cX0_add 0 0 2 ls (.int x :: .int x :: st) hp := ax_dup dX0_add_1 rfl (ab_c1_int _)
theorem sX0_add_1r : ab_X rom K cX0_add 0 0 1 ls (.ref a :: st) hp = ab_X rom K cX0_add 0 0 2 ls (.ref a :: .ref a :: st) hp := ax_dup dX0_add_1 rfl (ab_c1_ref _)
theorem dX0_add_2 : decode cX0_add 2 = .ok (.getfield 9, 3) := by decide +kernel
theorem sX0_add_2 : ab_X rom K cX0_add 0 0 2 ls (.ref a :: st) hp = (ab_fld hp a 0 0).bind (fun v => ab_X rom K cX0_add 0 0 5 ls (v :: st) hp) := ax_getfield dX0_add_2 kf_0_9 rfl
theorem dX0_add_5 : decode cX0_add 5 = .ok (.iconst 1, 1) := by decide +kernel
theorem sX0_add_5 : ab_X rom K cX0_add 0 0 5 ls st hp = ab_X rom K cX0_add 0 0 6 ls (.int 1 :: st) hp := ax_iconst dX0_add_5 (by decide) rfl
theorem dX0_add_6 : decode cX0_add 6 = .ok (.iadd, 1) := by decide +kernel
theorem sX0_add_6 : ab_X rom K cX0_add 0 0 6 ls (.int y :: .int x :: st) hp = ab_X rom K cX0_add 0 0 7 ls (.int (x + y) :: st) hp := ax_iadd dX0_add_6 rfl
theorem dX0_add_7 : decode cX0_add 7 = .ok (.putfield 9, 3) := by decide +kernel
theorem sX0_add_7 : ab_X rom K cX0_add 0 0 7 ls (.int x :: .ref a :: st) hp = (ab_fpt hp a 0 0 (.int x)).bind (fun hp' => ab_X rom K cX0_add 0 0 10 ls st hp') := ax_putfield dX0_add_7 kf_0_9 rfl (Or.inl rfl) rfl
theorem dX0_add_10 : decode cX0_add 10 = .ok (.iconst 0, 1) := by decide +kernel
theorem sX0_add_10 : ab_X rom K cX0_add 0 0 10 ls st hp = ab_X rom K cX0_add 0 0 11 ls (.int 0 :: st) hp := ax_iconst dX0_add_10 (by decide) rfl
theorem dX0_add_11 : decode cX0_add 11 = .ok (.istore_n 3, 1) := by decide +kernel
theorem sX0_add_11i : ab_X rom K cX0_add 0 0 11 (v0 :: v1 :: .int y :: v3 :: ls) (.int x :: st) hp = ab_X rom K cX0_add 0 0 12 (v0 :: v1 :: .int y :: .int x :: ls) st hp := ax_istore_n dX0_add_11 (ax_lt (v := v3) rfl) (ab_nl_c1 (j := 2) (v := .int y) rfl (ab_c1_int _)) rfl rfl
theorem sX0_add_11r : ab_X rom K cX0_add 0 0 11 (v0 :: v1 :: .ref a2 :: v3 :: ls) (.int x :: st) hp = ab_X rom K cX0_add 0 0 12 (v0 :: v1 :: .ref a2 :: .int x :: ls) st hp := ax_istore_n dX0_add_11 (ax_lt (v := v3) rfl) (ab_nl_c1 (j := 2) (v := .ref a2) rfl (ab_c1_ref _)) rfl rfl
theorem sX0_add_11n : ab_X rom K cX0_add 0 0 11 (v0 :: v1 :: .null :: v3 :: ls) (.int x :: st) hp = ab_X rom K cX0_add 0 0 12 (v0 :: v1 :: .null :: .int x :: ls) st hp := ax_istore_n dX0_add_11 (ax_lt (v := v3) rfl) (ab_nl_c1 (j := 2) (v := .null) rfl ab_c1_null) rfl rfl
theorem dX0_add_12 : decode cX0_add 12 = .ok (.iconst 0, 1) := by decide +kernel
theorem sX0_add_12 : ab_X rom K cX0_add 0 0 12 ls st hp = ab_X rom K cX0_add 0 0 13 ls (.int 0 :: st) hp := ax_iconst dX0_add_12 (by decide) rfl
theorem dX0_add_13 : decode cX0_add 13 = .ok (.istore 4, 2) := by decide +kernel
theorem sX0_add_13i : ab_X rom K cX0_add 0 0 13 (v0 :: v1 :: v2 :: .int y :: v4 :: ls) (.int x :: st) hp = ab_X rom K cX0_add 0 0 15 (v0 :: v1 :: v2 :: .int y :: .int x :: ls) st hp := ax_istore dX0_add_13 (ax_lt (v := v4) rfl) (ab_nl_c1 (j := 3) (v := .int y) rfl (ab_c1_int _)) rfl rfl
theorem sX0_add_13r : ab_X rom K cX0_add 0 0 13 (v0 :: v1 :: v2 :: .ref a2 :: v4 :: ls) (.int x :: st) hp = ab_X rom K cX0_add 0 0 15 (v0 :: v1 :: v2 :: .ref a2 :: .int x :: ls) st hp := ax_istore dX0_add_13 (ax_lt (v := v4) rfl) (ab_nl_c1 (j := 3) (v := .ref a2) rfl (ab_c1_ref _)) rfl rfl
theorem sX0_add_13n : ab_X rom K cX0_add 0 0 13 (v0 :: v1 :: v2 :: .null :: v4 :: ls) (.int x :: st) hp = ab_X rom K cX0_add 0 0 15 (v0 :: v1 :: v2 :: .null :: .int x :: ls) st hp := ax_istore dX0_add_13 (ax_lt (v := v4) rfl) (ab_nl_c1 (j := 3) (v := .null) rfl ab_c1_null) rfl rfl
theorem dX0_add_15 : decode cX0_add 15 = .ok (.iload 4, 2) := by decide +kernel
theorem sX0_add_15 : ab_X rom K cX0_add 0 0 15 (v0 :: v1 :: v2 :: v3 :: .int x :: ls) st hp = ab_X rom K cX0_add 0 0 17 (v0 :: v1 :: v2 :: v3 :: .int x :: ls) (.int x :: st) hp := ax_iload dX0_add_15 rfl rfl
theorem dX0_add_17 : decode cX0_add 17 = .ok (.iload_n 2, 1) := by decide +kernel
theorem sX0_add_17 : ab_X rom K cX0_add 0 0 17 (v0 :: v1 :: .int x :: ls) st hp = ab_X rom K cX0_add 0 0 18 (v0 :: v1 :: .int x :: ls) (.int x :: st) hp := ax_iload_n dX0_add_17 rfl rfl
theorem dX0_add_18 : decode cX0_add 18 = .ok (.if_icmp .ge 46, 3) := by decide +kernel
theorem sX0_add_18 : ab_X rom K cX0_add 0 0 18 ls (.int y :: .int x :: st) hp = if x < y then ab_X rom K cX0_add 0 0 21 ls st hp else ab_X rom K cX0_add 0 0 64 ls st hp := ax_icmp_ge dX0_add_18 (by decide) rfl
theorem dX0_add_21 : decode cX0_add 21 = .ok (.aload_n 0, 1) := by decide +kernel
theorem sX0_add_21 : ab_X rom K cX0_add 0 0 21 (.ref a :: ls) st hp = ab_X rom K cX0_add 0 0 22 (.ref a :: ls) (.ref a :: st) hp := ax_aload_n dX0_add_21 rfl rfl
theorem dX0_add_22 : decode cX0_add 22 = .ok (.getfield 15, 3) := by decide +kernel
theorem sX0_add_22 : ab_X rom K cX0_add 0 0 22 ls (.ref a :: st) hp = (ab_fld hp a 0 1).bind (fun v => ab_X rom K cX0_add 0 0 25 ls (v :: st) hp) := ax_getfield dX0_add_22 kf_0_15 rfl
theorem dX0_add_25 : decode cX0_add 25 = .ok (.iload 4, 2) := by decide +kernel
theorem sX0_add_25 : ab_X rom K cX0_add 0 0 25 (v0 :: v1 :: v2 :: v3 :: .int x :: ls) st hp = ab_X rom K cX0_add 0 0 27 (v0 :: v1 :: v2 :: v3 :: .int x :: ls) (.int x :: st) hp := ax_iload dX0_add_25 rfl rfl
theorem dX0_add_27 : decode cX0_add 27 = .ok (.dup2, 1) := by decide +kernel
theorem sX0_add_27 : ab_X rom K cX0_add 0 0 27 ls (.int x :: .ref a :: st) hp = ab_X rom K cX0_add 0 0 28 ls (.int x :: .ref a :: .int x :: .ref a :: st) hp := ax_dup2 dX0_add_27 rfl (ab_c1_int _) (ab_c1_ref _)
theorem dX0_add_28 : decode cX0_add 28 = .ok (.iaload, 1) := by decide +kernel
theorem sX0_add_28 : ab_X rom K cX0_add 0 0 28 ls (.int x :: .ref a :: st) hp = (ab_ard rom 0 hp a x).bind (fun v => ab_X rom K cX0_add 0 0 29 ls (.int v :: st) hp) := ax_iaload dX0_add_28 rfl
theorem dX0_add_29 : decode cX0_add 29 = .ok (.iconst 1, 1) := by decide +kernel
theorem sX0_add_29 : ab_X rom K cX0_add 0 0 29 ls st hp = ab_X rom K cX0_add 0 0 30 ls (.int 1 :: st) hp := ax_iconst dX0_add_29 (by decide) rfl
theorem dX0_add_30 : decode cX0_add 30 = .ok (.aload_n 1, 1) := by decide +kernel
theorem sX0_add_30 : ab_X rom K cX0_add 0 0 30 (v0 :: .ref a :: ls) st hp = ab_X rom K cX0_add 0 0 31 (v0 :: .ref a :: ls) (.ref a :: st) hp := ax_aload_n dX0_add_30 rfl rfl
theorem dX0_add_31 : decode cX0_add 31 = .ok (.iload 4, 2) := by decide +kernel
theorem sX0_add_31 : ab_X rom K cX0_add 0 0 31 (v0 :: v1 :: v2 :: v3 :: .int x :: ls) st hp = ab_X rom K cX0_add 0 0 33 (v0 :: v1 :: v2 :: v3 :: .int x :: ls) (.int x :: st) hp := ax_iload dX0_add_31 rfl rfl
theorem dX0_add_33 : decode cX0_add 33 = .ok (.iaload, 1) := by decide +kernel
theorem sX0_add_33 : ab_X rom K cX0_add 0 0 33 ls (.int x :: .ref a :: st) hp = (ab_ard rom 0 hp a x).bind (fun v => ab_X rom K cX0_add 0 0 34 ls (.int v :: st) hp) := ax_iaload dX0_add_33 rfl
theorem dX0_add_34 : decode cX0_add 34 = .ok (.ishl, 1) := by decide +kernel
theorem sX0_add_34 : ab_X rom K cX0_add 0 0 34 ls (.int y :: .int x :: st) hp = ab_X rom K cX0_add 0 0 35 ls (.int (x <<< (y &&& 31)) :: st) hp := ax_ishl dX0_add_34 rfl
theorem dX0_add_35 : decode cX0_add 35 = .ok (.ior, 1) := by decide +kernel
theorem sX0_add_35 : ab_X rom K cX0_add 0 0 35 ls (.int y :: .int x :: st) hp = ab_X rom K cX0_add 0 0 36 ls (.int (x ||| y) :: st) hp := ax_ior dX0_add_35 rfl
theorem dX0_add_36 : decode cX0_add 36 = .ok (.iastore, 1) := by decide +kernel
theorem sX0_add_36 : ab_X rom K cX0_add 0 0 36 ls (.int y :: .int x :: .ref a :: st) hp = (ab_awr 0 hp a x y).bind (fun hp' => ab_X rom K cX0_add 0 0 37 ls st hp') := ax_iastore dX0_add_36 rfl
theorem dX0_add_37 : decode cX0_add 37 = .ok (.aload_n 1, 1) := by decide +kernel
theorem sX0_add_37 : ab_X rom K cX0_add 0 0 37 (v0 :: .ref a :: ls) st hp = ab_X rom K cX0_add 0 0 38 (v0 :: .ref a :: ls) (.ref a :: st) hp := ax_aload_n dX0_add_37 rfl rfl
theorem dX0_add_38 : decode cX0_add 38 = .ok (.iload 4, 2) := by decide +kernel
theorem sX0_add_38 : ab_X rom K cX0_add 0 0 38 (v0 :: v1 :: v2 :: v3 :: .int x :: ls) st hp = ab_X rom K cX0_add 0 0 40 (v0 :: v1 :: v2 :: v3 :: .int x :: ls) (.int x :: st) hp := ax_iload dX0_add_38 rfl rfl
theorem dX0_add_40 : decode cX0_add 40 = .ok (.iaload, 1) := by decide +kernel
theorem sX0_add_40 : ab_X rom K cX0_add 0 0 40 ls (.int x :: .ref a :: st) hp = (ab_ard rom 0 hp a x).bind (fun v => ab_X rom K cX0_add 0 0 41 ls (.int v :: st) hp) := ax_iaload dX0_add_40 rfl
theorem dX0_add_41 : decode cX0_add 41 = .ok (.aload_n 0, 1) := by decide +kernel
theorem sX0_add_41 : ab_X rom K cX0_add 0 0 41 (.ref a :: ls) st hp = ab_X rom K cX0_add 0 0 42 (.ref a :: ls) (.ref a :: st) hp := ax_aload_n dX0_add_41 rfl rfl
theorem dX0_add_42 : decode cX0_add 42 = .ok (.getfield 29, 3) := by decide +kernel
theorem sX0_add_42 : ab_X rom K cX0_add 0 0 42 ls (.ref a :: st) hp = (ab_fld hp a 0 5).bind (fun v => ab_X rom K cX0_add 0 0 45 ls (v :: st) hp) := ax_getfield dX0_add_42 kf_0_29 rfl
theorem dX0_add_45 : decode cX0_add 45 = .ok (.iload 4, 2) := by decide +kernel
theorem sX0_add_45 : ab_X rom K cX0_add 0 0 45 (v0 :: v1 :: v2 :: v3 :: .int x :: ls) st hp = ab_X rom K cX0_add 0 0 47 (v0 :: v1 :: v2 :: v3 :: .int x :: ls) (.int x :: st) hp := ax_iload dX0_add_45 rfl rfl
theorem dX0_add_47 : decode cX0_add 47 = .ok (.iaload, 1) := by decide +kernel
theorem sX0_add_47 : ab_X rom K cX0_add 0 0 47 ls (.int x :: .ref a :: st) hp = (ab_ard rom 0 hp a x).bind (fun v => ab_X rom K cX0_add 0 0 48 ls (.int v :: st) hp) := ax_iaload dX0_add_47 rfl
theorem dX0_add_48 : decode cX0_add 48 = .ok (.if_icmp .ne 10, 3) := by decide +kernel
theorem sX0_add_48 : ab_X rom K cX0_add 0 0 48 ls (.int y :: .int x :: st) hp = if x = y then ab_X rom K cX0_add 0 0 51 ls st hp else ab_X rom K cX0_add 0 0 58 ls st hp := ax_icmp_ne dX0_add_48 (by decide) rfl
theorem dX0_add_51 : decode cX0_add 51 = .ok (.iload_n 3, 1) := by decide +kernel
theorem sX0_add_51 : ab_X rom K cX0_add 0 0 51 (v0 :: v1 :: v2 :: .int x :: ls) st hp = ab_X rom K cX0_add 0 0 52 (v0 :: v1 :: v2 :: .int x :: ls) (.int x :: st) hp := ax_iload_n dX0_add_51 rfl rfl
theorem dX0_add_52 : decode cX0_add 52 = .ok (.iconst 1, 1) := by decide +kernel
theorem sX0_add_52 : ab_X rom K cX0_add 0 0 52 ls st hp = ab_X rom K cX0_add 0 0 53 ls (.int 1 :: st) hp := ax_iconst dX0_add_52 (by decide) rfl
theorem dX0_add_53 : decode cX0_add 53 = .ok (.iload 4, 2) := by decide +kernel
theorem sX0_add_53 : ab_X rom K cX0_add 0 0 53 (v0 :: v1 :: v2 :: v3 :: .int x :: ls) st hp = ab_X rom K cX0_add 0 0 55 (v0 :: v1 :: v2 :: v3 :: .int x :: ls) (.int x :: st) hp := ax_iload dX0_add_53 rfl rfl
theorem dX0_add_55 : decode cX0_add 55 = .ok (.ishl, 1) := by decide +kernel
theorem sX0_add_55 : ab_X rom K cX0_add 0 0 55 ls (.int y :: .int x :: st) hp = ab_X rom K cX0_add 0 0 56 ls (.int (x <<< (y &&& 31)) :: st) hp := ax_ishl dX0_add_55 rfl
theorem dX0_add_56 : decode cX0_add 56 = .ok (.ior, 1) := by decide +kernel
theorem sX0_add_56 : ab_X rom K cX0_add 0 0 56 ls (.int y :: .int x :: st) hp = ab_X rom K cX0_add 0 0 57 ls (.int (x ||| y) :: st) hp := ax_ior dX0_add_56 rfl
theorem dX0_add_57 : decode cX0_add 57 = .ok (.istore_n 3, 1) := by decide +kernel
theorem sX0_add_57i : ab_X rom K cX0_add 0 0 57 (v0 :: v1 :: .int y :: v3 :: ls) (.int x :: st) hp = ab_X rom K cX0_add 0 0 58 (v0 :: v1 :: .int y :: .int x :: ls) st hp := ax_istore_n dX0_add_57 (ax_lt (v := v3) rfl) (ab_nl_c1 (j := 2) (v := .int y) rfl (ab_c1_int _)) rfl rfl
theorem sX0_add_57r : ab_X rom K cX0_add 0 0 57 (v0 :: v1 :: .ref a2 :: v3 :: ls) (.int x :: st) hp = ab_X rom K cX0_add 0 0 58 (v0 :: v1 :: .ref a2 :: .int x :: ls) st hp := ax_istore_n dX0_add_57 (ax_lt (v := v3) rfl) (ab_nl_c1 (j := 2) (v := .ref a2) rfl (ab_c1_ref _)) rfl rfl
theorem sX0_add_57n : ab_X rom K cX0_add 0 0 57 (v0 :: v1 :: .null :: v3 :: ls) (.int x :: st) hp = ab_X rom K cX0_add 0 0 58 (v0 :: v1 :: .null :: .int x :: ls) st hp := ax_istore_n dX0_add_57 (ax_lt (v := v3) rfl) (ab_nl_c1 (j := 2) (v := .null) rfl ab_c1_null) rfl rfl
theorem dX0_add_58 : decode cX0_add 58 = .ok (.iinc 4 1, 3) := by decide +kernel
theorem sX0_add_58i : ab_X rom K cX0_add 0 0 58 (v0 :: v1 :: v2 :: .int y :: .int x :: ls) st hp = ab_X rom K cX0_add 0 0 61 (v0 :: v1 :: v2 :: .int y :: .int (x + 1) :: ls) st hp := ax_iinc dX0_add_58 rfl (ab_nl_c1 (j := 3) (v := .int y) rfl (ab_c1_int _)) (by decide) rfl rfl
theorem sX0_add_58r : ab_X rom K cX0_add 0 0 58 (v0 :: v1 :: v2 :: .ref a2 :: .int x :: ls) st hp = ab_X rom K cX0_add 0 0 61 (v0 :: v1 :: v2 :: .ref a2 :: .int (x + 1) :: ls) st hp := ax_iinc dX0_add_58 rfl (ab_nl_c1 (j := 3) (v := .ref a2) rfl (ab_c1_ref _)) (by decide) rfl rfl
theorem sX0_add_58n : ab_X rom K cX0_add 0 0 58 (v0 :: v1 :: v2 :: .null :: .int x :: ls) st hp = ab_X rom K cX0_add 0 0 61 (v0 :: v1 :: v2 :: .null :: .int (x + 1) :: ls) st hp := ax_iinc dX0_add_58 rfl (ab_nl_c1 (j := 3) (v := .null) rfl ab_c1_null) (by decide) rfl rfl
theorem dX0_add_61 : decode cX0_add 61 = .ok (.goto (-46), 3) := by decide +kernel
theorem sX0_add_61 : ab_X rom K cX0_add 0 0 61 ls st hp = ab_X rom K cX0_add 0 0 15 ls st hp := ax_goto dX0_add_61 (by decide)
theorem dX0_add_64 : decode cX0_add 64 = .ok (.aload_n 0, 1) := by decide +kernel
theorem sX0_add_64 : ab_X rom K cX0_add 0 0 64 (.ref a :: ls) st hp = ab_X rom K cX0_add 0 0 65 (.ref a :: ls) (.ref a :: st) hp := ax_aload_n dX0_add_64 rfl rfl
theorem dX0_add_65 : decode cX0_add 65 = .ok (.getfield 19, 3) := by decide +kernel
theorem sX0_add_65 : ab_X rom K cX0_add 0 0 65 ls (.ref a :: st) hp = (ab_fld hp a 0 2).bind (fun v => ab_X rom K cX0_add 0 0 68 ls (v :: st) hp) := ax_getfield dX0_add_65 kf_0_19 rfl
theorem dX0_add_68 : decode cX0_add 68 = .ok (.iconst (-1), 1) := by decide +kernel
theorem sX0_add_68 : ab_X rom K cX0_add 0 0 68 ls st hp = ab_X rom K cX0_add 0 0 69 ls (.int (-1) :: st) hp := ax_iconst dX0_add_68 (by decide) rfl
theorem dX0_add_69 : decode cX0_add 69 = .ok (.if_icmp .eq 18, 3) := by decide +kernel
theorem sX0_add_69 : ab_X rom K cX0_add 0 0 69 ls (.int y :: .int x :: st) hp = if x = y then ab_X rom K cX0_add 0 0 87 ls st hp else ab_X rom K cX0_add 0 0 72 ls st hp := ax_icmp_eq dX0_add_69 (by decide) rfl
theorem dX0_add_72 : decode cX0_add 72 = .ok (.aload_n 0, 1) := by decide +kernel
theorem sX0_add_72 : ab_X rom K cX0_add 0 0 72 (.ref a :: ls) st hp = ab_X rom K cX0_add 0 0 73 (.ref a :: ls) (.ref a :: st) hp := ax_aload_n dX0_add_72 rfl rfl
theorem dX0_add_73 : decode cX0_add 73 = .ok (.getfield 22, 3) := by decide +kernel
theorem sX0_add_73 : ab_X rom K cX0_add 0 0 73 ls (.ref a :: st) hp = (ab_fld hp a 0 3).bind (fun v => ab_X rom K cX0_add 0 0 76 ls (v :: st) hp) := ax_getfield dX0_add_73 kf_0_22 rfl
theorem dX0_add_76 : decode cX0_add 76 = .ok (.aload_n 1, 1) := by decide +kernel
theorem sX0_add_76 : ab_X rom K cX0_add 0 0 76 (v0 :: .ref a :: ls) st hp = ab_X rom K cX0_add 0 0 77 (v0 :: .ref a :: ls) (.ref a :: st) hp := ax_aload_n dX0_add_76 rfl rfl
theorem dX0_add_77 : decode cX0_add 77 = .ok (.aload_n 0, 1) := by decide +kernel
theorem sX0_add_77 : ab_X rom K cX0_add 0 0 77 (.ref a :: ls) st hp = ab_X rom K cX0_add 0 0 78 (.ref a :: ls) (.ref a :: st) hp := ax_aload_n dX0_add_77 rfl rfl
theorem dX0_add_78 : decode cX0_add 78 = .ok (.getfield 19, 3) := by decide +kernel
theorem sX0_add_78 : ab_X rom K cX0_add 0 0 78 ls (.ref a :: st) hp = (ab_fld hp a 0 2).bind (fun v => ab_X rom K cX0_add 0 0 81 ls (v :: st) hp) := ax_getfield dX0_add_78 kf_0_19 rfl
theorem dX0_add_81 : decode cX0_add 81 = .ok (.iaload, 1) := by decide +kernel
theorem sX0_add_81 : ab_X rom K cX0_add 0 0 81 ls (.int x :: .ref a :: st) hp = (ab_ard rom 0 hp a x).bind (fun v => ab_X rom K cX0_add 0 0 82 ls (.int v :: st) hp) := ax_iaload dX0_add_81 rfl
theorem dX0_add_82 : decode cX0_add 82 = .ok (.dup2, 1) := by decide +kernel
theorem sX0_add_82 : ab_X rom K cX0_add 0 0 82 ls (.int x :: .ref a :: st) hp = ab_X rom K cX0_add 0 0 83 ls (.int x :: .ref a :: .int x :: .ref a :: st) hp := ax_dup2 dX0_add_82 rfl (ab_c1_int _) (ab_c1_ref _)
theorem dX0_add_83 : decode cX0_add 83 = .ok (.iaload, 1) := by decide +kernel
theorem sX0_add_83 : ab_X rom K cX0_add 0 0 83 ls (.int x :: .ref a :: st) hp = (ab_ard rom 0 hp a x).bind (fun v => ab_X rom K cX0_add 0 0 84 ls (.int v :: st) hp) := ax_iaload dX0_add_83 rfl
theorem dX0_add_84 : decode cX0_add 84 = .ok (.iconst 1, 1) := by decide +kernel
theorem sX0_add_84 : ab_X rom K cX0_add 0 0 84 ls st hp = ab_X rom K cX0_add 0 0 85 ls (.int 1 :: st) hp := ax_iconst dX0_add_84 (by decide) rfl
theorem dX0_add_85 : decode cX0_add 85 = .ok (.iadd, 1) := by decide +kernel
theorem sX0_add_85 : ab_X rom K cX0_add 0 0 85 ls (.int y :: .int x :: st) hp = ab_X rom K cX0_add 0 0 86 ls (.int (x + y) :: st) hp := ax_iadd dX0_add_85 rfl
theorem dX0_add_86 : decode cX0_add 86 = .ok (.iastore, 1) := by decide +kernel
theorem sX0_add_86 : ab_X rom K cX0_add 0 0 86 ls (.int y :: .int x :: .ref a :: st) hp = (ab_awr 0 hp a x y).bind (fun hp' => ab_X rom K cX0_add 0 0 87 ls st hp') := ax_iastore dX0_add_86 rfl
theorem dX0_add_87 : decode cX0_add 87 = .ok (.aload_n 0, 1) := by decide +kernel
theorem sX0_add_87 : ab_X rom K cX0_add 0 0 87 (.ref a :: ls) st hp = ab_X rom K cX0_add 0 0 88 (.ref a :: ls) (.ref a :: st) hp := ax_aload_n dX0_add_87 rfl rfl
theorem dX0_add_88 : decode cX0_add 88 = .ok (.getfield 25, 3) := by decide +kernel
theorem sX0_add_88 : ab_X rom K cX0_add 0 0 88 ls (.ref a :: st) hp = (ab_fld hp a 0 4).bind (fun v => ab_X rom K cX0_add 0 0 91 ls (v :: st) hp) := ax_getfield dX0_add_88 kf_0_25 rfl
theorem dX0_add_91 : decode cX0_add 91 = .ok (.ifCond .eq 13, 3) := by decide +kernel
theorem sX0_add_91 : ab_X rom K cX0_add 0 0 91 ls (.int x :: st) hp = if x = 0 then ab_X rom K cX0_add 0 0 104 ls st hp else ab_X rom K cX0_add 0 0 94 ls st hp := ax_if_eq dX0_add_91 (by decide) rfl
theorem dX0_add_94 : decode cX0_add 94 = .ok (.aload_n 0, 1) := by decide +kernel
theorem sX0_add_94 : ab_X rom K cX0_add 0 0 94 (.ref a :: ls) st hp = ab_X rom K cX0_add 0 0 95 (.ref a :: ls) (.ref a :: st) hp := ax_aload_n dX0_add_94 rfl rfl
theorem dX0_add_95 : decode cX0_add 95 = .ok (.getfield 32, 3) := by decide +kernel
theorem sX0_add_95 : ab_X rom K cX0_add 0 0 95 ls (.ref a :: st) hp = (ab_fld hp a 0 6).bind (fun v => ab_X rom K cX0_add 0 0 98 ls (v :: st) hp) := ax_getfield dX0_add_95 kf_0_32 rfl
theorem dX0_add_98 : decode cX0_add 98 = .ok (.iload_n 3, 1) := by decide +kernel
theorem sX0_add_98 : ab_X rom K cX0_add 0 0 98 (v0 :: v1 :: v2 :: .int x :: ls) st hp = ab_X rom K cX0_add 0 0 99 (v0 :: v1 :: v2 :: .int x :: ls) (.int x :: st) hp := ax_iload_n dX0_add_98 rfl rfl
theorem dX0_add_99 : decode cX0_add 99 = .ok (.dup2, 1) := by decide +kernel
theorem sX0_add_99 : ab_X rom K cX0_add 0 0 99 ls (.int x :: .ref a :: st) hp = ab_X rom K cX0_add 0 0 100 ls (.int x :: .ref a :: .int x :: .ref a :: st) hp := ax_dup2 dX0_add_99 rfl (ab_c1_int _) (ab_c1_ref _)
theorem dX0_add_100 : decode cX0_add 100 = .ok (.iaload, 1) := by decide +kernel
theorem sX0_add_100 : ab_X rom K cX0_add 0 0 100 ls (.int x :: .ref a :: st) hp = (ab_ard rom 0 hp a x).bind (fun v => ab_X rom K cX0_add 0 0 101 ls (.int v :: st) hp) := ax_iaload dX0_add_100 rfl
theorem dX0_add_101 : decode cX0_add 101 = .ok (.iconst 1, 1) := by decide +kernel
theorem sX0_add_101 : ab_X rom K cX0_add 0 0 101 ls st hp = ab_X rom K cX0_add 0 0 102 ls (.int 1 :: st) hp := ax_iconst dX0_add_101 (by decide) rfl
theorem dX0_add_102 : decode cX0_add 102 = .ok (.iadd, 1) := by decide +kernel
theorem sX0_add_102 : ab_X rom K cX0_add 0 0 102 ls (.int y :: .int x :: st) hp = ab_X rom K cX0_add 0 0 103 ls (.int (x + y) :: st) hp := ax_iadd dX0_add_102 rfl
theorem dX0_add_103 : decode cX0_add 103 = .ok (.iastore, 1) := by decide +kernel
theorem sX0_add_103 : ab_X rom K cX0_add 0 0 103 ls (.int y :: .int x :: .ref a :: st) hp = (ab_awr 0 hp a x y).bind (fun hp' => ab_X rom K cX0_add 0 0 104 ls st hp') := ax_iastore dX0_add_103 rfl
theorem dX0_add_104 : decode cX0_add 104 = .ok (.return_, 1) := by decide +kernel
theorem sX0_add_104 : ab_X rom K cX0_add 0 0 104 ls [] hp = some (none, hp) := ax_vret dX0_add_104 (by decide)
theorem tX0_addSupersets : ab_mT[2]? = some (yX0_addSupersets, cX0_addSupersets, 4, 0, 0) := by decide +kernel
theorem mX0_addSupersets {d : Nat} {a0 : Nat} {x0 : Int32} : ab_M rom (d + 1) 2 [.ref a0, .int x0] hp = ab_X rom (ab_M rom d) cX0_addSupersets 0 0 0 [.ref a0, .int x0, .null, .null] [] hp := ab_M_eq tX0_addSupersets (Nat.le_of_ble_eq_true rfl)
theorem dX0_addSupersets_0 : decode cX0_addSupersets 0 = .ok (.iconst 0, 1) := by decide +kernel
theorem sX0_addSupersets_0 : ab_X rom K cX0_addSupersets 0 0 0 ls st hp = ab_X rom K cX0_addSupersets 0 0 1 ls (.int 0 :: st) hp := ax_iconst dX0_addSupersets_0 (by decide) rfl
theorem dX0_addSupersets_1 : decode cX0_addSupersets 1 = .ok (.istore_n 2, 1) := by decide +kernel
theorem sX0_addSupersets_1i : ab_X rom K cX0_addSupersets 0 0 1 (v0 :: .int y :: v2 :: ls) (.int x :: st) hp = ab_X rom K cX0_addSupersets 0 0 2 (v0 :: .int y :: .int x :: ls) st hp := ax_istore_n dX0_addSupersets_1 (ax_lt (v := v2) rfl) (ab_nl_c1 (j := 1) (v := .int y) rfl (ab_c1_int _)) rfl rfl
theorem sX0_addSupersets_1r : ab_X rom K cX0_addSupersets 0 0 1 (v0 :: .ref a2 :: v2 :: ls) (.int x :: st) hp = ab_X rom K cX0_addSupersets 0 0 2 (v0 :: .ref a2 :: .int x :: ls) st hp := ax_istore_n dX0_addSupersets_1 (ax_lt (v := v2) rfl) (ab_nl_c1 (j := 1) (v := .ref a2) rfl (ab_c1_ref _)) rfl rfl
theorem sX0_addSupersets_1n : ab_X rom K cX0_addSupersets 0 0 1 (v0 :: .null :: v2 :: ls) (.int x :: st) hp = ab_X rom K cX0_addSupersets 0 0 2 (v0 :: .null :: .int x :: ls) st hp := ax_istore_n dX0_addSupersets_1 (ax_lt (v := v2) rfl) (ab_nl_c1 (j := 1) (v := .null) rfl ab_c1_null) rfl rfl
theorem dX0_addSupersets_2 : decode cX0_addSupersets 2 = .ok (.iload_n 2, 1) := by decide +kernel
theorem sX0_addSupersets_2 : ab_X rom K cX0_addSupersets 0 0 2 (v0 :: v1 :: .int x :: ls) st hp = ab_X rom K cX0_addSupersets 0 0 3 (v0 :: v1 :: .int x :: ls) (.int x :: st) hp := ax_iload_n dX0_addSupersets_2 rfl rfl
theorem dX0_addSupersets_3 : decode cX0_addSupersets 3 = .ok (.iload_n 1, 1) := by decide +kernel
theorem sX0_addSupersets_3 : ab_X rom K cX0_addSupersets 0 0 3 (v0 :: .int x :: ls) st hp = ab_X rom K cX0_addSupersets 0 0 4 (v0 :: .int x :: ls) (.int x :: st) hp := ax_iload_n dX0_addSupersets_3 rfl rfl
theorem dX0_addSupersets_4 : decode cX0_addSupersets 4 = .ok (.if_icmp .ge 51, 3) := by decide +kernel
theorem sX0_addSupersets_4 : ab_X rom K cX0_addSupersets 0 0 4 ls (.int y :: .int x :: st) hp = if x < y then ab_X rom K cX0_addSupersets 0 0 7 ls st hp else ab_X rom K cX0_addSupersets 0 0 55 ls st hp := ax_icmp_ge dX0_addSupersets_4 (by decide) rfl
theorem dX0_addSupersets_7 : decode cX0_addSupersets 7 = .ok (.iconst 0, 1) := by decide +kernel
theorem sX0_addSupersets_7 : ab_X rom K cX0_addSupersets 0 0 7 ls st hp = ab_X rom K cX0_addSupersets 0 0 8 ls (.int 0 :: st) hp := ax_iconst dX0_addSupersets_7 (by decide) rfl
theorem dX0_addSupersets_8 : decode cX0_addSupersets 8 = .ok (.istore_n 3, 1) := by decide +kernel
theorem sX0_addSupersets_8i : ab_X rom K cX0_addSupersets 0 0 8 (v0 :: v1 :: .int y :: v3 :: ls) (.int x :: st) hp = ab_X rom K cX0_addSupersets 0 0 9 (v0 :: v1 :: .int y :: .int x :: ls) st hp := ax_istore_n dX0_addSupersets_8 (ax_lt (v := v3) rfl) (ab_nl_c1 (j := 2) (v := .int y) rfl (ab_c1_int _)) rfl rfl
theorem sX0_addSupersets_8r : ab_X rom K cX0_addSupersets 0 0 8 (v0 :: v1 :: .ref a2 :: v3 :: ls) (.int x :: st) hp = ab_X rom K cX0_addSupersets 0 0 9 (v0 :: v1 :: .ref a2 :: .int x :: ls) st hp := ax_istore_n dX0_addSupersets_8 (ax_lt (v := v3) rfl) (ab_nl_c1 (j := 2) (v := .ref a2) rfl (ab_c1_ref _)) rfl rfl
theorem sX0_addSupersets_8n : ab_X rom K cX0_addSupersets 0 0 8 (v0 :: v1 :: .null :: v3 :: ls) (.int x :: st) hp = ab_X rom K cX0_addSupersets 0 0 9 (v0 :: v1 :: .null :: .int x :: ls) st hp := ax_istore_n dX0_addSupersets_8 (ax_lt (v := v3) rfl) (ab_nl_c1 (j := 2) (v := .null) rfl ab_c1_null) rfl rfl
theorem dX0_addSupersets_9 : decode cX0_addSupersets 9 = .ok (.iload_n 3, 1) := by decide +kernel
theorem sX0_addSupersets_9 : ab_X rom K cX0_addSupersets 0 0 9 (v0 :: v1 :: v2 :: .int x :: ls) st hp = ab_X rom K cX0_addSupersets 0 0 10 (v0 :: v1 :: v2 :: .int x :: ls) (.int x :: st) hp := ax_iload_n dX0_addSupersets_9 rfl rfl
theorem dX0_addSupersets_10 : decode cX0_addSupersets 10 = .ok (.iconst 1, 1) := by decide +kernel
theorem sX0_addSupersets_10 : ab_X rom K cX0_addSupersets 0 0 10 ls st hp = ab_X rom K cX0_addSupersets 0 0 11 ls (.int 1 :: st) hp := ax_iconst dX0_addSupersets_10 (by decide) rfl
theorem dX0_addSupersets_11 : decode cX0_addSupersets 11 = .ok (.iload_n 1, 1) := by decide +kernel
theorem sX0_addSupersets_11 : ab_X rom K cX0_addSupersets 0 0 11 (v0 :: .int x :: ls) st hp = ab_X rom K cX0_addSupersets 0 0 12 (v0 :: .int x :: ls) (.int x :: st) hp := ax_iload_n dX0_addSupersets_11 rfl rfl
theorem dX0_addSupersets_12 : decode cX0_addSupersets 12 = .ok (.ishl, 1) := by decide +kernel
theorem sX0_addSupersets_12 : ab_X rom K cX0_addSupersets 0 0 12 ls (.int y :: .int x :: st) hp = ab_X rom K cX0_addSupersets 0 0 13 ls (.int (x <<< (y &&& 31)) :: st) hp := ax_ishl dX0_addSupersets_12 rfl
theorem dX0_addSupersets_13 : decode cX0_addSupersets 13 = .ok (.if_icmp .ge 36, 3) := by decide +kernel
theorem sX0_addSupersets_13 : ab_X rom K cX0_addSupersets 0 0 13 ls (.int y :: .int x :: st) hp = if x < y then ab_X rom K cX0_addSupersets 0 0 16 ls st hp else ab_X rom K cX0_addSupersets 0 0 49 ls st hp := ax_icmp_ge dX0_addSupersets_13 (by decide) rfl
theorem dX0_addSupersets_16 : decode cX0_addSupersets 16 = .ok (.iload_n 3, 1) := by decide +kernel
theorem sX0_addSupersets_16 : ab_X rom K cX0_addSupersets 0 0 16 (v0 :: v1 :: v2 :: .int x :: ls) st hp = ab_X rom K cX0_addSupersets 0 0 17 (v0 :: v1 :: v2 :: .int x :: ls) (.int x :: st) hp := ax_iload_n dX0_addSupersets_16 rfl rfl
theorem dX0_addSupersets_17 : decode cX0_addSupersets 17 = .ok (.iload_n 2, 1) := by decide +kernel
theorem sX0_addSupersets_17 : ab_X rom K cX0_addSupersets 0 0 17 (v0 :: v1 :: .int x :: ls) st hp = ab_X rom K cX0_addSupersets 0 0 18 (v0 :: v1 :: .int x :: ls) (.int x :: st) hp := ax_iload_n dX0_addSupersets_17 rfl rfl
theorem dX0_addSupersets_18 : decode cX0_addSupersets 18 = .ok (.ishr, 1) := by decide +kernel
theorem sX0_addSupersets_18 : ab_X rom K cX0_addSupersets 0 0 18 ls (.int y :: .int x :: st) hp = ab_X rom K cX0_addSupersets 0 0 19 ls (.int (x >>> (y &&& 31)) :: st) hp := ax_ishr dX0_addSupersets_18 rfl
theorem dX0_addSupersets_19 : decode cX0_addSupersets 19 = .ok (.iconst 1, 1) := by decide +kernel
theorem sX0_addSupersets_19 : ab_X rom K cX0_addSupersets 0 0 19 ls st hp = ab_X rom K cX0_addSupersets 0 0 20 ls (.int 1 :: st) hp := ax_iconst dX0_addSupersets_19 (by decide) rfl
theorem dX0_addSupersets_20 : decode cX0_addSupersets 20 = .ok (.iand, 1) := by decide +kernel
theorem sX0_addSupersets_20 : ab_X rom K cX0_addSupersets 0 0 20 ls (.int y :: .int x :: st) hp = ab_X rom K cX0_addSupersets 0 0 21 ls (.int (x &&& y) :: st) hp := ax_iand dX0_addSupersets_20 rfl
theorem dX0_addSupersets_21 : decode cX0_addSupersets 21 = .ok (.ifCond .ne 22, 3) := by decide +kernel
theorem sX0_addSupersets_21 : ab_X rom K cX0_addSupersets 0 0 21 ls (.int x :: st) hp = if x = 0 then ab_X rom K cX0_addSupersets 0 0 24 ls st hp else ab_X rom K cX0_addSupersets 0 0 43 ls st hp := ax_if_ne dX0_addSupersets_21 (by decide) rfl
theorem dX0_addSupersets_24 : decode cX0_addSupersets 24 = .ok (.aload_n 0, 1) := by decide +kernel
theorem sX0_addSupersets_24 : ab_X rom K cX0_addSupersets 0 0 24 (.ref a :: ls) st hp = ab_X rom K cX0_addSupersets 0 0 25 (.ref a :: ls) (.ref a :: st) hp := ax_aload_n dX0_addSupersets_24 rfl rfl
theorem dX0_addSupersets_25 : decode cX0_addSupersets 25 = .ok (.getfield 32, 3) := by decide +kernel
theorem sX0_addSupersets_25 : ab_X rom K cX0_addSupersets 0 0 25 ls (.ref a :: st) hp = (ab_fld hp a 0 6).bind (fun v => ab_X rom K cX0_addSupersets 0 0 28 ls (v :: st) hp) := ax_getfield dX0_addSupersets_25 kf_0_32 rfl
theorem dX0_addSupersets_28 : decode cX0_addSupersets 28 = .ok (.iload_n 3, 1) := by decide +kernel
theorem sX0_addSupersets_28 : ab_X rom K cX0_addSupersets 0 0 28 (v0 :: v1 :: v2 :: .int x :: ls) st hp = ab_X rom K cX0_addSupersets 0 0 29 (v0 :: v1 :: v2 :: .int x :: ls) (.int x :: st) hp := ax_iload_n dX0_addSupersets_28 rfl rfl
theorem dX0_addSupersets_29 : decode cX0_addSupersets 29 = .ok (.dup2, 1) := by decide +kernel
theorem sX0_addSupersets_29 : ab_X rom K cX0_addSupersets 0 0 29 ls (.int x :: .ref a :: st) hp = ab_X rom K cX0_addSupersets 0 0 30 ls (.int x :: .ref a :: .int x :: .ref a :: st) hp := ax_dup2 dX0_addSupersets_29 rfl (ab_c1_int _) (ab_c1_ref _)
theorem dX0_addSupersets_30 : decode cX0_addSupersets 30 = .ok (.iaload, 1) := by decide +kernel
theorem sX0_addSupersets_30 : ab_X rom K cX0_addSupersets 0 0 30 ls (.int x :: .ref a :: st) hp = (ab_ard rom 0 hp a x).bind (fun v => ab_X rom K cX0_addSupersets 0 0 31 ls (.int v :: st) hp) := ax_iaload dX0_addSupersets_30 rfl
theorem dX0_addSupersets_31 : decode cX0_addSupersets 31 = .ok (.aload_n 0, 1) := by decide +kernel
theorem sX0_addSupersets_31 : ab_X rom K cX0_addSupersets 0 0 31 (.ref a :: ls) st hp = ab_X rom K cX0_addSupersets 0 0 32 (.ref a :: ls) (.ref a :: st) hp := ax_aload_n dX0_addSupersets_31 rfl rfl
theorem dX0_addSupersets_32 : decode cX0_addSupersets 32 = .ok (.getfield 32, 3) := by decide +kernel
theorem sX0_addSupersets_32 : ab_X rom K cX0_addSupersets 0 0 32 ls (.ref a :: st) hp = (ab_fld hp a 0 6).bind (fun v => ab_X rom K cX0_addSupersets 0 0 35 ls (v :: st) hp) := ax_getfield dX0_addSupersets_32 kf_0_32 rfl
theorem dX0_addSupersets_35 : decode cX0_addSupersets 35 = .ok (.iload_n 3, 1) := by decide +kernel
theorem sX0_addSupersets_35 : ab_X rom K cX0_addSupersets 0 0 35 (v0 :: v1 :: v2 :: .int x :: ls) st hp = ab_X rom K cX0_addSupersets 0 0 36 (v0 :: v1 :: v2 :: .int x :: ls) (.int x :: st) hp := ax_iload_n dX0_addSupersets_35 rfl rfl
theorem dX0_addSupersets_36 : decode cX0_addSupersets 36 = .ok (.iconst 1, 1) := by decide +kernel
theorem sX0_addSupersets_36 : ab_X rom K cX0_addSupersets 0 0 36 ls st hp = ab_X rom K cX0_addSupersets 0 0 37 ls (.int 1 :: st) hp := ax_iconst dX0_addSupersets_36 (by decide) rfl
theorem dX0_addSupersets_37 : decode cX0_addSupersets 37 = .ok (.iload_n 2, 1) := by decide +kernel
theorem sX0_addSupersets_37 : ab_X rom K cX0_addSupersets 0 0 37 (v0 :: v1 :: .int x :: ls) st hp = ab_X rom K cX0_addSupersets 0 0 38 (v0 :: v1 :: .int x :: ls) (.int x :: st) hp := ax_iload_n dX0_addSupersets_37 rfl rfl
theorem dX0_addSupersets_38 : decode cX0_addSupersets 38 = .ok (.ishl, 1) := by decide +kernel
theorem sX0_addSupersets_38 : ab_X rom K cX0_addSupersets 0 0 38 ls (.int y :: .int x :: st) hp = ab_X rom K cX0_addSupersets 0 0 39 ls (.int (x <<< (y &&& 31)) :: st) hp := ax_ishl dX0_addSupersets_38 rfl
theorem dX0_addSupersets_39 : decode cX0_addSupersets 39 = .ok (.ior, 1) := by decide +kernel
theorem sX0_addSupersets_39 : ab_X rom K cX0_addSupersets 0 0 39 ls (.int y :: .int x :: st) hp = ab_X rom K cX0_addSupersets 0 0 40 ls (.int (x ||| y) :: st) hp := ax_ior dX0_addSupersets_39 rfl
theorem dX0_addSupersets_40 : decode cX0_addSupersets 40 = .ok (.iaload, 1) := by decide +kernel
theorem sX0_addSupersets_40 : ab_X rom K cX0_addSupersets 0 0 40 ls (.int x :: .ref a :: st) hp = (ab_ard rom 0 hp a x).bind (fun v => ab_X rom K cX0_addSupersets 0 0 41 ls (.int v :: st) hp) := ax_iaload dX0_addSupersets_40 rfl
theorem dX0_addSupersets_41 : decode cX0_addSupersets 41 = .ok (.iadd, 1) := by decide +kernel
theorem sX0_addSupersets_41 : ab_X rom K cX0_addSupersets 0 0 41 ls (.int y :: .int x :: st) hp = ab_X rom K cX0_addSupersets 0 0 42 ls (.int (x + y) :: st) hp := ax_iadd dX0_addSupersets_41 rfl
theorem dX0_addSupersets_42 : decode cX0_addSupersets 42 = .ok (.iastore, 1) := by decide +kernel
theorem sX0_addSupersets_42 : ab_X rom K cX0_addSupersets 0 0 42 ls (.int y :: .int x :: .ref a :: st) hp = (ab_awr 0 hp a x y).bind (fun hp' => ab_X rom K cX0_addSupersets 0 0 43 ls st hp') := ax_iastore dX0_addSupersets_42 rfl
theorem dX0_addSupersets_43 : decode cX0_addSupersets 43 = .ok (.iinc 3 1, 3) := by decide +kernel
theorem sX0_addSupersets_43i : ab_X rom K cX0_addSupersets 0 0 43 (v0 :: v1 :: .int y :: .int x :: ls) st hp = ab_X rom K cX0_addSupersets 0 0 46 (v0 :: v1 :: .int y :: .int (x + 1) :: ls) st hp := ax_iinc dX0_addSupersets_43 rfl (ab_nl_c1 (j := 2) (v := .int y) rfl (ab_c1_int _)) (by decide) rfl rfl
theorem sX0_addSupersets_43r : ab_X rom K cX0_addSupersets 0 0 43 (v0 :: v1 :: .ref a2 :: .int x :: ls) st hp = ab_X rom K cX0_addSupersets 0 0 46 (v0 :: v1 :: .ref a2 :: .int (x + 1) :: ls) st hp := ax_iinc dX0_addSupersets_43 rfl (ab_nl_c1 (j := 2) (v := .ref a2) rfl (ab_c1_ref _)) (by decide) rfl rfl
theorem sX0_addSupersets_43n : ab_X rom K cX0_addSupersets 0 0 43 (v0 :: v1 :: .null :: .int x :: ls) st hp = ab_X rom K cX0_addSupersets 0 0 46 (v0 :: v1 :: .null :: .int (x + 1) :: ls) st hp := ax_iinc dX0_addSupersets_43 rfl (ab_nl_c1 (j := 2) (v := .null) rfl ab_c1_null) (by decide) rfl rfl
theorem dX0_addSupersets_46 : decode cX0_addSupersets 46 = .ok (.goto (-37), 3) := by decide +kernel
theorem sX0_addSupersets_46 : ab_X rom K cX0_addSupersets 0 0 46 ls st hp = ab_X rom K cX0_addSupersets 0 0 9 ls st hp := ax_goto dX0_addSupersets_46 (by decide)
theorem dX0_addSupersets_49 : decode cX0_addSupersets 49 = .ok (.iinc 2 1, 3) := by decide +kernel
theorem sX0_addSupersets_49i : ab_X rom K cX0_addSupersets 0 0 49 (v0 :: .int y :: .int x :: ls) st hp = ab_X rom K cX0_addSupersets 0 0 52 (v0 :: .int y :: .int (x + 1) :: ls) st hp := ax_iinc dX0_addSupersets_49 rfl (ab_nl_c1 (j := 1) (v := .int y) rfl (ab_c1_int _)) (by decide) rfl rfl
theorem sX0_addSupersets_49r : ab_X rom K cX0_addSupersets 0 0 49 (v0 :: .ref a2 :: .int x :: ls) st hp = ab_X rom K cX0_addSupersets 0 0 52 (v0 :: .ref a2 :: .int (x + 1) :: ls) st hp := ax_iinc dX0_addSupersets_49 rfl (ab_nl_c1 (j := 1) (v := .ref a2) rfl (ab_c1_ref _)) (by decide) rfl rfl
theorem sX0_addSupersets_49n : ab_X rom K cX0_addSupersets 0 0 49 (v0 :: .null :: .int x :: ls) st hp = ab_X rom K cX0_addSupersets 0 0 52 (v0 :: .null :: .int (x + 1) :: ls) st hp := ax_iinc dX0_addSupersets_49 rfl (ab_nl_c1 (j := 1) (v := .null) rfl ab_c1_null) (by decide) rfl rfl
theorem dX0_addSupersets_52 : decode cX0_addSupersets 52 = .ok (.goto (-50), 3) := by decide +kernel
theorem sX0_addSupersets_52 : ab_X rom K cX0_addSupersets 0 0 52 ls st hp = ab_X rom K cX0_addSupersets 0 0 2 ls st hp := ax_goto dX0_addSupersets_52 (by decide)
theorem dX0_addSupersets_55 : decode cX0_addSupersets 55 = .ok (.return_, 1) := by decide +kernel
theorem sX0_addSupersets_55 : ab_X rom K cX0_addSupersets 0 0 55 ls [] hp = some (none, hp) := ax_vret dX0_addSupersets_55 (by decide)
theorem tX0_begin : ab_mT[3]? = some (yX0_begin, cX0_begin, 1, 0, 0) := by decide +kernel
theorem mX0_begin {d : Nat} {a0 : Nat} : ab_M rom (d + 1) 3 [.ref a0] hp = ab_X rom (ab_M rom d) cX0_begin 0 0 0 [.ref a0] [] hp := ab_M_eq tX0_begin (Nat.le_of_ble_eq_true rfl)
theorem dX0_begin_0 : decode cX0_begin 0 = .ok (.aload_n 0, 1) := by decide +kernel
theorem sX0_begin_0 : ab_X rom K cX0_begin 0 0 0 (.ref a :: ls) st hp = ab_X rom K cX0_begin 0 0 1 (.ref a :: ls) (.ref a :: st) hp := ax_aload_n dX0_begin_0 rfl rfl
theorem dX0_begin_1 : decode cX0_begin 1 = .ok (.iconst 0, 1) := by decide +kernel
theorem sX0_begin_1 : ab_X rom K cX0_begin 0 0 1 ls st hp = ab_X rom K cX0_begin 0 0 2 ls (.int 0 :: st) hp := ax_iconst dX0_begin_1 (by decide) rfl
theorem dX0_begin_2 : decode cX0_begin 2 = .ok (.putfield 9, 3) := by decide +kernel
theorem sX0_begin_2 : ab_X rom K cX0_begin 0 0 2 ls (.int x :: .ref a :: st) hp = (ab_fpt hp a 0 0 (.int x)).bind (fun hp' => ab_X rom K cX0_begin 0 0 5 ls st hp') := ax_putfield dX0_begin_2 kf_0_9 rfl (Or.inl rfl) rfl
theorem dX0_begin_5 : decode cX0_begin 5 = .ok (.aload_n 0, 1) := by decide +kernel
theorem sX0_begin_5 : ab_X rom K cX0_begin 0 0 5 (.ref a :: ls) st hp = ab_X rom K cX0_begin 0 0 6 (.ref a :: ls) (.ref a :: st) hp := ax_aload_n dX0_begin_5 rfl rfl
theorem dX0_begin_6 : decode cX0_begin 6 = .ok (.getfield 15, 3) := by decide +kernel
theorem sX0_begin_6 : ab_X rom K cX0_begin 0 0 6 ls (.ref a :: st) hp = (ab_fld hp a 0 1).bind (fun v => ab_X rom K cX0_begin 0 0 9 ls (v :: st) hp) := ax_getfield dX0_begin_6 kf_0_15 rfl
theorem dX0_begin_9 : decode cX0_begin 9 = .ok (.iconst 0, 1) := by decide +kernel
theorem sX0_begin_9 : ab_X rom K cX0_begin 0 0 9 ls st hp = ab_X rom K cX0_begin 0 0 10 ls (.int 0 :: st) hp := ax_iconst dX0_begin_9 (by decide) rfl
theorem dX0_begin_10 : decode cX0_begin 10 = .ok (.invokestatic 35, 3) := by decide +kernel
theorem sX0_begin_10_0 : ab_X rom K cX0_begin 0 0 10 ls [w2, w1] hp = (K 266 [w1, w2] hp).bind (fun o => ab_X rom K cX0_begin 0 0 13 ls (o.1.toList ++ []) o.2) := ax_static (as := [w1, w2]) (st := []) dX0_begin_10 kc_0_35 rfl rfl (Nat.le_of_ble_eq_true rfl)
theorem sX0_begin_10_1 : ab_X rom K cX0_begin 0 0 10 ls [w2, w1, v0] hp = (K 266 [w1, w2] hp).bind (fun o => ab_X rom K cX0_begin 0 0 13 ls (o.1.toList ++ [v0]) o.2) := ax_static (as := [w1, w2]) (st := [v0]) dX0_begin_10 kc_0_35 rfl rfl (Nat.le_of_ble_eq_true rfl)
theorem sX0_begin_10_2 : ab_X rom K cX0_begin 0 0 10 ls [w2, w1, v0, v1] hp = (K 266 [w1, w2] hp).bind (fun o => ab_X rom K cX0_begin 0 0 13 ls (o.1.toList ++ [v0, v1]) o.2) := ax_static (as := [w1, w2]) (st := [v0, v1]) dX0_begin_10 kc_0_35 rfl rfl (Nat.le_of_ble_eq_true rfl)
theorem sX0_begin_10_3 : ab_X rom K cX0_begin 0 0 10 ls [w2, w1, v0, v1, v2] hp = (K 266 [w1, w2] hp).bind (fun o => ab_X rom K cX0_begin 0 0 13 ls (o.1.toList ++ [v0, v1, v2]) o.2) := ax_static (as := [w1, w2]) (st := [v0, v1, v2]) dX0_begin_10 kc_0_35 rfl rfl (Nat.le_of_ble_eq_true rfl)
theorem dX0_begin_13 : decode cX0_begin 13 = .ok (.aload_n 0, 1) := by decide +kernel
theorem sX0_begin_13 : ab_X rom K cX0_begin 0 0 13 (.ref a :: ls) st hp = ab_X rom K cX0_begin 0 0 14 (.ref a :: ls) (.ref a :: st) hp := ax_aload_n dX0_begin_13 rfl rfl
theorem dX0_begin_14 : decode cX0_begin 14 = .ok (.iconst (-1), 1) := by decide +kernel
theorem sX0_begin_14 : ab_X rom K cX0_begin 0 0 14 ls st hp = ab_X rom K cX0_begin 0 0 15 ls (.int (-1) :: st) hp := ax_iconst dX0_begin_14 (by decide) rfl
theorem dX0_begin_15 : decode cX0_begin 15 = .ok (.putfield 19, 3) := by decide +kernel
theorem sX0_begin_15 : ab_X rom K cX0_begin 0 0 15 ls (.int x :: .ref a :: st) hp = (ab_fpt hp a 0 2 (.int x)).bind (fun hp' => ab_X rom K cX0_begin 0 0 18 ls st hp') := ax_putfield dX0_begin_15 kf_0_19 rfl (Or.inl rfl) rfl
theorem dX0_begin_18 : decode cX0_begin 18 = .ok (.aload_n 0, 1) := by decide +kernel
theorem sX0_begin_18 : ab_X rom K cX0_begin 0 0 18 (.ref a :: ls) st hp = ab_X rom K cX0_begin 0 0 19 (.ref a :: ls) (.ref a :: st) hp := ax_aload_n dX0_begin_18 rfl rfl
theorem dX0_begin_19 : decode cX0_begin 19 = .ok (.iconst 0, 1) := by decide +kernel
theorem sX0_begin_19 : ab_X rom K cX0_begin 0 0 19 ls st hp = ab_X rom K cX0_begin 0 0 20 ls (.int 0 :: st) hp := ax_iconst dX0_begin_19 (by decide) rfl
theorem dX0_begin_20 : decode cX0_begin 20 = .ok (.putfield 25, 3) := by decide +kernel
theorem sX0_begin_20 : ab_X rom K cX0_begin 0 0 20 ls (.int x :: .ref a :: st) hp = if x = 0 ∨ x = 1 then (ab_fpt hp a 0 4 (.int x)).bind (fun hp' => ab_X rom K cX0_begin 0 0 23 ls st hp') else none := ay_putbool dX0_begin_20 kf_0_25 rfl
theorem dX0_begin_23 : decode cX0_begin 23 = .ok (.return_, 1) := by decide +kernel
theorem sX0_begin_23 : ab_X rom K cX0_begin 0 0 23 ls [] hp = some (none, hp) := ax_vret dX0_begin_23 (by decide)
theorem tX0_beginComparing : ab_mT[4]? = some (yX0_beginComparing, cX0_beginComparing, 2, 0, 0) := by decide +kernel
theorem mX0_beginComparing {d : Nat} {a0 : Nat} {r0 : Nat} : ab_M rom (d + 1) 4 [.ref a0, .ref r0] hp = ab_X rom (ab_M rom d) cX0_beginComparing 0 0 0 [.ref a0, .ref r0] [] hp := ab_M_eq tX0_beginComparing (Nat.le_of_ble_eq_true rfl)
theorem dX0_beginComparing_0 : decode cX0_beginComparing 0 = .ok (.aload_n 0, 1) := by decide +kernel
theorem sX0_beginComparing_0 : ab_X rom K cX0_beginComparing 0 0 0 (.ref a :: ls) st hp = ab_X rom K cX0_beginComparing 0 0 1 (.ref a :: ls) (.ref a :: st) hp := ax_aload_n dX0_beginComparing_0 rfl rfl
theorem dX0_beginComparing_1 : decode cX0_beginComparing 1 = .ok (.invokevirtual 41, 3) := by decide +kernel
theorem sX0_beginComparing_1_0 : ab_X rom K cX0_beginComparing 0 0 1 ls [.ref a] hp = if ab_iso hp a 0 = true then (K 3 (.ref a :: []) hp).bind (fun o => ab_X rom K cX0_beginComparing 0 0 4 ls (o.1.toList ++ []) o.2) else none := ay_virtual (as := []) (st := []) dX0_beginComparing_1 kc_0_41 rfl rfl (Nat.le_of_ble_eq_true rfl)
theorem sX0_beginComparing_1_1 : ab_X rom K cX0_beginComparing 0 0 1 ls [.ref a, v0] hp = if ab_iso hp a 0 = true then (K 3 (.ref a :: []) hp).bind (fun o => ab_X rom K cX0_beginComparing 0 0 4 ls (o.1.toList ++ [v0]) o.2) else none := ay_virtual (as := []) (st := [v0]) dX0_beginComparing_1 kc_0_41 rfl rfl (Nat.le_of_ble_eq_true rfl)
theorem sX0_beginComparing_1_2 : ab_X rom K cX0_beginComparing 0 0 1 ls [.ref a, v0, v1] hp = if ab_iso hp a 0 = true then (K 3 (.ref a :: []) hp).bind (fun o => ab_X rom K cX0_beginComparing 0 0 4 ls (o.1.toList ++ [v0, v1]) o.2) else none := ay_virtual (as := []) (st := [v0, v1]) dX0_beginComparing_1 kc_0_41 rfl rfl (Nat.le_of_ble_eq_true rfl)
theorem sX0_beginComparing_1_3 : ab_X rom K cX0_beginComparing 0 0 1 ls [.ref a, v0, v1, v2] hp = if ab_iso hp a 0 = true then (K 3 (.ref a :: []) hp).bind (fun o => ab_X rom K cX0_beginComparing 0 0 4 ls (o.1.toList ++ [v0, v1, v2]) o.2) else none := ay_virtual (as := []) (st := [v0, v1, v2]) dX0_beginComparing_1 kc_0_41 rfl rfl (Nat.le_of_ble_eq_true rfl)
theorem dX0_beginComparing_4 : decode cX0_beginComparing 4 = .ok (.aload_n 0, 1) := by decide +kernel
theorem sX0_beginComparing_4 : ab_X rom K cX0_beginComparing 0 0 4 (.ref a :: ls) st hp = ab_X rom K cX0_beginComparing 0 0 5 (.ref a :: ls) (.ref a :: st) hp := ax_aload_n dX0_beginComparing_4 rfl rfl
theorem dX0_beginComparing_5 : decode cX0_beginComparing 5 = .ok (.iconst 1, 1) := by decide +kernel
theorem sX0_beginComparing_5 : ab_X rom K cX0_beginComparing 0 0 5 ls st hp = ab_X rom K cX0_beginComparing 0 0 6 ls (.int 1 :: st) hp := ax_iconst dX0_beginComparing_5 (by decide) rfl
theorem dX0_beginComparing_6 : decode cX0_beginComparing 6 = .ok (.putfield 25, 3) := by decide +kernel
theorem sX0_beginComparing_6 : ab_X rom K cX0_beginComparing 0 0 6 ls (.int x :: .ref a :: st) hp = if x = 0 ∨ x = 1 then (ab_fpt hp a 0 4 (.int x)).bind (fun hp' => ab_X rom K cX0_beginComparing 0 0 9 ls st hp') else none := ay_putbool dX0_beginComparing_6 kf_0_25 rfl
theorem dX0_beginComparing_9 : decode cX0_beginComparing 9 = .ok (.aload_n 1, 1) := by decide +kernel
theorem sX0_beginComparing_9 : ab_X rom K cX0_beginComparing 0 0 9 (v0 :: .ref a :: ls) st hp = ab_X rom K cX0_beginComparing 0 0 10 (v0 :: .ref a :: ls) (.ref a :: st) hp := ax_aload_n dX0_beginComparing_9 rfl rfl
theorem dX0_beginComparing_10 : decode cX0_beginComparing 10 = .ok (.iconst 0, 1) := by decide +kernel
theorem sX0_beginComparing_10 : ab_X rom K cX0_beginComparing 0 0 10 ls st hp = ab_X rom K cX0_beginComparing 0 0 11 ls (.int 0 :: st) hp := ax_iconst dX0_beginComparing_10 (by decide) rfl
theorem dX0_beginComparing_11 : decode cX0_beginComparing 11 = .ok (.aload_n 0, 1) := by decide +kernel
theorem sX0_beginComparing_11 : ab_X rom K cX0_beginComparing 0 0 11 (.ref a :: ls) st hp = ab_X rom K cX0_beginComparing 0 0 12 (.ref a :: ls) (.ref a :: st) hp := ax_aload_n dX0_beginComparing_11 rfl rfl
theorem dX0_beginComparing_12 : decode cX0_beginComparing 12 = .ok (.getfield 29, 3) := by decide +kernel
theorem sX0_beginComparing_12 : ab_X rom K cX0_beginComparing 0 0 12 ls (.ref a :: st) hp = (ab_fld hp a 0 5).bind (fun v => ab_X rom K cX0_beginComparing 0 0 15 ls (v :: st) hp) := ax_getfield dX0_beginComparing_12 kf_0_29 rfl
theorem dX0_beginComparing_15 : decode cX0_beginComparing 15 = .ok (.iconst 0, 1) := by decide +kernel
theorem sX0_beginComparing_15 : ab_X rom K cX0_beginComparing 0 0 15 ls st hp = ab_X rom K cX0_beginComparing 0 0 16 ls (.int 0 :: st) hp := ax_iconst dX0_beginComparing_15 (by decide) rfl
theorem dX0_beginComparing_16 : decode cX0_beginComparing 16 = .ok (.bipush 7, 2) := by decide +kernel
theorem sX0_beginComparing_16 : ab_X rom K cX0_beginComparing 0 0 16 ls st hp = ab_X rom K cX0_beginComparing 0 0 18 ls (.int 7 :: st) hp := ax_bipush dX0_beginComparing_16 (by decide) rfl
theorem dX0_beginComparing_18 : decode cX0_beginComparing 18 = .ok (.invokestatic 44, 3) := by decide +kernel
theorem sX0_beginComparing_18_0 : ab_X rom K cX0_beginComparing 0 0 18 ls [.int z, .int dp, .ref a2, .int sp, .ref a] hp = (ab_cp hp a a2 sp dp z).bind (fun hp' => ab_X rom K cX0_beginComparing 0 0 21 ls [] hp') := ax_copy dX0_beginComparing_18 kc_0_44 rfl (Nat.le_of_ble_eq_true rfl)
theorem dX0_beginComparing_21 : decode cX0_beginComparing 21 = .ok (.aload_n 0, 1) := by decide +kernel
theorem sX0_beginComparing_21 : ab_X rom K cX0_beginComparing 0 0 21 (.ref a :: ls) st hp = ab_X rom K cX0_beginComparing 0 0 22 (.ref a :: ls) (.ref a :: st) hp := ax_aload_n dX0_beginComparing_21 rfl rfl
theorem dX0_beginComparing_22 : decode cX0_beginComparing 22 = .ok (.getfield 32, 3) := by decide +kernel
theorem sX0_beginComparing_22 : ab_X rom K cX0_beginComparing 0 0 22 ls (.ref a :: st) hp = (ab_fld hp a 0 6).bind (fun v => ab_X rom K cX0_beginComparing 0 0 25 ls (v :: st) hp) := ax_getfield dX0_beginComparing_22 kf_0_32 rfl
theorem dX0_beginComparing_25 : decode cX0_beginComparing 25 = .ok (.iconst 0, 1) := by decide +kernel
theorem sX0_beginComparing_25 : ab_X rom K cX0_beginComparing 0 0 25 ls st hp = ab_X rom K cX0_beginComparing 0 0 26 ls (.int 0 :: st) hp := ax_iconst dX0_beginComparing_25 (by decide) rfl
theorem dX0_beginComparing_26 : decode cX0_beginComparing 26 = .ok (.invokestatic 35, 3) := by decide +kernel
theorem sX0_beginComparing_26_0 : ab_X rom K cX0_beginComparing 0 0 26 ls [w2, w1] hp = (K 266 [w1, w2] hp).bind (fun o => ab_X rom K cX0_beginComparing 0 0 29 ls (o.1.toList ++ []) o.2) := ax_static (as := [w1, w2]) (st := []) dX0_beginComparing_26 kc_0_35 rfl rfl (Nat.le_of_ble_eq_true rfl)
theorem sX0_beginComparing_26_1 : ab_X rom K cX0_beginComparing 0 0 26 ls [w2, w1, v0] hp = (K 266 [w1, w2] hp).bind (fun o => ab_X rom K cX0_beginComparing 0 0 29 ls (o.1.toList ++ [v0]) o.2) := ax_static (as := [w1, w2]) (st := [v0]) dX0_beginComparing_26 kc_0_35 rfl rfl (Nat.le_of_ble_eq_true rfl)
theorem sX0_beginComparing_26_2 : ab_X rom K cX0_beginComparing 0 0 26 ls [w2, w1, v0, v1] hp = (K 266 [w1, w2] hp).bind (fun o => ab_X rom K cX0_beginComparing 0 0 29 ls (o.1.toList ++ [v0, v1]) o.2) := ax_static (as := [w1, w2]) (st := [v0, v1]) dX0_beginComparing_26 kc_0_35 rfl rfl (Nat.le_of_ble_eq_true rfl)
theorem sX0_beginComparing_26_3 : ab_X rom K cX0_beginComparing 0 0 26 ls [w2, w1, v0, v1, v2] hp = (K 266 [w1, w2] hp).bind (fun o => ab_X rom K cX0_beginComparing 0 0 29 ls (o.1.toList ++ [v0, v1, v2]) o.2) := ax_static (as := [w1, w2]) (st := [v0, v1, v2]) dX0_beginComparing_26 kc_0_35 rfl rfl (Nat.le_of_ble_eq_true rfl)
theorem dX0_beginComparing_29 : decode cX0_beginComparing 29 = .ok (.return_, 1) := by decide +kernel
theorem sX0_beginComparing_29 : ab_X rom K cX0_beginComparing 0 0 29 ls [] hp = some (none, hp) := ax_vret dX0_beginComparing_29 (by decide)
theorem tX0_beginWatching : ab_mT[5]? = some (yX0_beginWatching, cX0_beginWatching, 2, 0, 0) := by decide +kernel
theorem mX0_beginWatching {d : Nat} {a0 : Nat} {x0 : Int32} : ab_M rom (d + 1) 5 [.ref a0, .int x0] hp = ab_X rom (ab_M rom d) cX0_beginWatching 0 0 0 [.ref a0, .int x0] [] hp := ab_M_eq tX0_beginWatching (Nat.le_of_ble_eq_true rfl)
theorem dX0_beginWatching_0 : decode cX0_beginWatching 0 = .ok (.aload_n 0, 1) := by decide +kernel
theorem sX0_beginWatching_0 : ab_X rom K cX0_beginWatching 0 0 0 (.ref a :: ls) st hp = ab_X rom K cX0_beginWatching 0 0 1 (.ref a :: ls) (.ref a :: st) hp := ax_aload_n dX0_beginWatching_0 rfl rfl
theorem dX0_beginWatching_1 : decode cX0_beginWatching 1 = .ok (.invokevirtual 41, 3) := by decide +kernel
theorem sX0_beginWatching_1_0 : ab_X rom K cX0_beginWatching 0 0 1 ls [.ref a] hp = if ab_iso hp a 0 = true then (K 3 (.ref a :: []) hp).bind (fun o => ab_X rom K cX0_beginWatching 0 0 4 ls (o.1.toList ++ []) o.2) else none := ay_virtual (as := []) (st := []) dX0_beginWatching_1 kc_0_41 rfl rfl (Nat.le_of_ble_eq_true rfl)
theorem sX0_beginWatching_1_1 : ab_X rom K cX0_beginWatching 0 0 1 ls [.ref a, v0] hp = if ab_iso hp a 0 = true then (K 3 (.ref a :: []) hp).bind (fun o => ab_X rom K cX0_beginWatching 0 0 4 ls (o.1.toList ++ [v0]) o.2) else none := ay_virtual (as := []) (st := [v0]) dX0_beginWatching_1 kc_0_41 rfl rfl (Nat.le_of_ble_eq_true rfl)
theorem sX0_beginWatching_1_2 : ab_X rom K cX0_beginWatching 0 0 1 ls [.ref a, v0, v1] hp = if ab_iso hp a 0 = true then (K 3 (.ref a :: []) hp).bind (fun o => ab_X rom K cX0_beginWatching 0 0 4 ls (o.1.toList ++ [v0, v1]) o.2) else none := ay_virtual (as := []) (st := [v0, v1]) dX0_beginWatching_1 kc_0_41 rfl rfl (Nat.le_of_ble_eq_true rfl)
theorem sX0_beginWatching_1_3 : ab_X rom K cX0_beginWatching 0 0 1 ls [.ref a, v0, v1, v2] hp = if ab_iso hp a 0 = true then (K 3 (.ref a :: []) hp).bind (fun o => ab_X rom K cX0_beginWatching 0 0 4 ls (o.1.toList ++ [v0, v1, v2]) o.2) else none := ay_virtual (as := []) (st := [v0, v1, v2]) dX0_beginWatching_1 kc_0_41 rfl rfl (Nat.le_of_ble_eq_true rfl)
theorem dX0_beginWatching_4 : decode cX0_beginWatching 4 = .ok (.aload_n 0, 1) := by decide +kernel
theorem sX0_beginWatching_4 : ab_X rom K cX0_beginWatching 0 0 4 (.ref a :: ls) st hp = ab_X rom K cX0_beginWatching 0 0 5 (.ref a :: ls) (.ref a :: st) hp := ax_aload_n dX0_beginWatching_4 rfl rfl
theorem dX0_beginWatching_5 : decode cX0_beginWatching 5 = .ok (.iload_n 1, 1) := by decide +kernel
theorem sX0_beginWatching_5 : ab_X rom K cX0_beginWatching 0 0 5 (v0 :: .int x :: ls) st hp = ab_X rom K cX0_beginWatching 0 0 6 (v0 :: .int x :: ls) (.int x :: st) hp := ax_iload_n dX0_beginWatching_5 rfl rfl
theorem dX0_beginWatching_6 : decode cX0_beginWatching 6 = .ok (.putfield 19, 3) := by decide +kernel
theorem sX0_beginWatching_6 : ab_X rom K cX0_beginWatching 0 0 6 ls (.int x :: .ref a :: st) hp = (ab_fpt hp a 0 2 (.int x)).bind (fun hp' => ab_X rom K cX0_beginWatching 0 0 9 ls st hp') := ax_putfield dX0_beginWatching_6 kf_0_19 rfl (Or.inl rfl) rfl
theorem dX0_beginWatching_9 : decode cX0_beginWatching 9 = .ok (.aload_n 0, 1) := by decide +kernel
theorem sX0_beginWatching_9 : ab_X rom K cX0_beginWatching 0 0 9 (.ref a :: ls) st hp = ab_X rom K cX0_beginWatching 0 0 10 (.ref a :: ls) (.ref a :: st) hp := ax_aload_n dX0_beginWatching_9 rfl rfl
theorem dX0_beginWatching_10 : decode cX0_beginWatching 10 = .ok (.getfield 22, 3) := by decide +kernel
theorem sX0_beginWatching_10 : ab_X rom K cX0_beginWatching 0 0 10 ls (.ref a :: st) hp = (ab_fld hp a 0 3).bind (fun v => ab_X rom K cX0_beginWatching 0 0 13 ls (v :: st) hp) := ax_getfield dX0_beginWatching_10 kf_0_22 rfl
theorem dX0_beginWatching_13 : decode cX0_beginWatching 13 = .ok (.iconst 0, 1) := by decide +kernel
theorem sX0_beginWatching_13 : ab_X rom K cX0_beginWatching 0 0 13 ls st hp = ab_X rom K cX0_beginWatching 0 0 14 ls (.int 0 :: st) hp := ax_iconst dX0_beginWatching_13 (by decide) rfl
theorem dX0_beginWatching_14 : decode cX0_beginWatching 14 = .ok (.invokestatic 35, 3) := by decide +kernel
theorem sX0_beginWatching_14_0 : ab_X rom K cX0_beginWatching 0 0 14 ls [w2, w1] hp = (K 266 [w1, w2] hp).bind (fun o => ab_X rom K cX0_beginWatching 0 0 17 ls (o.1.toList ++ []) o.2) := ax_static (as := [w1, w2]) (st := []) dX0_beginWatching_14 kc_0_35 rfl rfl (Nat.le_of_ble_eq_true rfl)
theorem sX0_beginWatching_14_1 : ab_X rom K cX0_beginWatching 0 0 14 ls [w2, w1, v0] hp = (K 266 [w1, w2] hp).bind (fun o => ab_X rom K cX0_beginWatching 0 0 17 ls (o.1.toList ++ [v0]) o.2) := ax_static (as := [w1, w2]) (st := [v0]) dX0_beginWatching_14 kc_0_35 rfl rfl (Nat.le_of_ble_eq_true rfl)
theorem sX0_beginWatching_14_2 : ab_X rom K cX0_beginWatching 0 0 14 ls [w2, w1, v0, v1] hp = (K 266 [w1, w2] hp).bind (fun o => ab_X rom K cX0_beginWatching 0 0 17 ls (o.1.toList ++ [v0, v1]) o.2) := ax_static (as := [w1, w2]) (st := [v0, v1]) dX0_beginWatching_14 kc_0_35 rfl rfl (Nat.le_of_ble_eq_true rfl)
theorem sX0_beginWatching_14_3 : ab_X rom K cX0_beginWatching 0 0 14 ls [w2, w1, v0, v1, v2] hp = (K 266 [w1, w2] hp).bind (fun o => ab_X rom K cX0_beginWatching 0 0 17 ls (o.1.toList ++ [v0, v1, v2]) o.2) := ax_static (as := [w1, w2]) (st := [v0, v1, v2]) dX0_beginWatching_14 kc_0_35 rfl rfl (Nat.le_of_ble_eq_true rfl)
theorem dX0_beginWatching_17 : decode cX0_beginWatching 17 = .ok (.return_, 1) := by decide +kernel
theorem sX0_beginWatching_17 : ab_X rom K cX0_beginWatching 0 0 17 ls [] hp = some (none, hp) := ax_vret dX0_beginWatching_17 (by decide)
theorem tX0_belowLabel : ab_mT[6]? = some (yX0_belowLabel, cX0_belowLabel, 4, 1, 0) := by decide +kernel
theorem mX0_belowLabel {d : Nat} {a0 : Nat} {x0 : Int32} : ab_M rom (d + 1) 6 [.ref a0, .int x0] hp = ab_X rom (ab_M rom d) cX0_belowLabel 0 1 0 [.ref a0, .int x0, .null, .null] [] hp := ab_M_eq tX0_belowLabel (Nat.le_of_ble_eq_true rfl)
theorem dX0_belowLabel_0 : decode cX0_belowLabel 0 = .ok (.iconst 0, 1) := by decide +kernel
theorem sX0_belowLabel_0 : ab_X rom K cX0_belowLabel 0 1 0 ls st hp = ab_X rom K cX0_belowLabel 0 1 1 ls (.int 0 :: st) hp := ax_iconst dX0_belowLabel_0 (by decide) rfl
theorem dX0_belowLabel_1 : decode cX0_belowLabel 1 = .ok (.istore_n 2, 1) := by decide +kernel
theorem sX0_belowLabel_1i : ab_X rom K cX0_belowLabel 0 1 1 (v0 :: .int y :: v2 :: ls) (.int x :: st) hp = ab_X rom K cX0_belowLabel 0 1 2 (v0 :: .int y :: .int x :: ls) st hp := ax_istore_n dX0_belowLabel_1 (ax_lt (v := v2) rfl) (ab_nl_c1 (j := 1) (v := .int y) rfl (ab_c1_int _)) rfl rfl
theorem sX0_belowLabel_1r : ab_X rom K cX0_belowLabel 0 1 1 (v0 :: .ref a2 :: v2 :: ls) (.int x :: st) hp = ab_X rom K cX0_belowLabel 0 1 2 (v0 :: .ref a2 :: .int x :: ls) st hp := ax_istore_n dX0_belowLabel_1 (ax_lt (v := v2) rfl) (ab_nl_c1 (j := 1) (v := .ref a2) rfl (ab_c1_ref _)) rfl rfl
theorem sX0_belowLabel_1n : ab_X rom K cX0_belowLabel 0 1 1 (v0 :: .null :: v2 :: ls) (.int x :: st) hp = ab_X rom K cX0_belowLabel 0 1 2 (v0 :: .null :: .int x :: ls) st hp := ax_istore_n dX0_belowLabel_1 (ax_lt (v := v2) rfl) (ab_nl_c1 (j := 1) (v := .null) rfl ab_c1_null) rfl rfl
theorem dX0_belowLabel_2 : decode cX0_belowLabel 2 = .ok (.iconst 0, 1) := by decide +kernel
theorem sX0_belowLabel_2 : ab_X rom K cX0_belowLabel 0 1 2 ls st hp = ab_X rom K cX0_belowLabel 0 1 3 ls (.int 0 :: st) hp := ax_iconst dX0_belowLabel_2 (by decide) rfl
theorem dX0_belowLabel_3 : decode cX0_belowLabel 3 = .ok (.istore_n 3, 1) := by decide +kernel
theorem sX0_belowLabel_3i : ab_X rom K cX0_belowLabel 0 1 3 (v0 :: v1 :: .int y :: v3 :: ls) (.int x :: st) hp = ab_X rom K cX0_belowLabel 0 1 4 (v0 :: v1 :: .int y :: .int x :: ls) st hp := ax_istore_n dX0_belowLabel_3 (ax_lt (v := v3) rfl) (ab_nl_c1 (j := 2) (v := .int y) rfl (ab_c1_int _)) rfl rfl
theorem sX0_belowLabel_3r : ab_X rom K cX0_belowLabel 0 1 3 (v0 :: v1 :: .ref a2 :: v3 :: ls) (.int x :: st) hp = ab_X rom K cX0_belowLabel 0 1 4 (v0 :: v1 :: .ref a2 :: .int x :: ls) st hp := ax_istore_n dX0_belowLabel_3 (ax_lt (v := v3) rfl) (ab_nl_c1 (j := 2) (v := .ref a2) rfl (ab_c1_ref _)) rfl rfl
theorem sX0_belowLabel_3n : ab_X rom K cX0_belowLabel 0 1 3 (v0 :: v1 :: .null :: v3 :: ls) (.int x :: st) hp = ab_X rom K cX0_belowLabel 0 1 4 (v0 :: v1 :: .null :: .int x :: ls) st hp := ax_istore_n dX0_belowLabel_3 (ax_lt (v := v3) rfl) (ab_nl_c1 (j := 2) (v := .null) rfl ab_c1_null) rfl rfl
theorem dX0_belowLabel_4 : decode cX0_belowLabel 4 = .ok (.iload_n 3, 1) := by decide +kernel
theorem sX0_belowLabel_4 : ab_X rom K cX0_belowLabel 0 1 4 (v0 :: v1 :: v2 :: .int x :: ls) st hp = ab_X rom K cX0_belowLabel 0 1 5 (v0 :: v1 :: v2 :: .int x :: ls) (.int x :: st) hp := ax_iload_n dX0_belowLabel_4 rfl rfl
theorem dX0_belowLabel_5 : decode cX0_belowLabel 5 = .ok (.iload_n 1, 1) := by decide +kernel
theorem sX0_belowLabel_5 : ab_X rom K cX0_belowLabel 0 1 5 (v0 :: .int x :: ls) st hp = ab_X rom K cX0_belowLabel 0 1 6 (v0 :: .int x :: ls) (.int x :: st) hp := ax_iload_n dX0_belowLabel_5 rfl rfl
theorem dX0_belowLabel_6 : decode cX0_belowLabel 6 = .ok (.if_icmp .ge 18, 3) := by decide +kernel
theorem sX0_belowLabel_6 : ab_X rom K cX0_belowLabel 0 1 6 ls (.int y :: .int x :: st) hp = if x < y then ab_X rom K cX0_belowLabel 0 1 9 ls st hp else ab_X rom K cX0_belowLabel 0 1 24 ls st hp := ax_icmp_ge dX0_belowLabel_6 (by decide) rfl
theorem dX0_belowLabel_9 : decode cX0_belowLabel 9 = .ok (.iload_n 2, 1) := by decide +kernel
theorem sX0_belowLabel_9 : ab_X rom K cX0_belowLabel 0 1 9 (v0 :: v1 :: .int x :: ls) st hp = ab_X rom K cX0_belowLabel 0 1 10 (v0 :: v1 :: .int x :: ls) (.int x :: st) hp := ax_iload_n dX0_belowLabel_9 rfl rfl
theorem dX0_belowLabel_10 : decode cX0_belowLabel 10 = .ok (.aload_n 0, 1) := by decide +kernel
theorem sX0_belowLabel_10 : ab_X rom K cX0_belowLabel 0 1 10 (.ref a :: ls) st hp = ab_X rom K cX0_belowLabel 0 1 11 (.ref a :: ls) (.ref a :: st) hp := ax_aload_n dX0_belowLabel_10 rfl rfl
theorem dX0_belowLabel_11 : decode cX0_belowLabel 11 = .ok (.getfield 22, 3) := by decide +kernel
theorem sX0_belowLabel_11 : ab_X rom K cX0_belowLabel 0 1 11 ls (.ref a :: st) hp = (ab_fld hp a 0 3).bind (fun v => ab_X rom K cX0_belowLabel 0 1 14 ls (v :: st) hp) := ax_getfield dX0_belowLabel_11 kf_0_22 rfl
theorem dX0_belowLabel_14 : decode cX0_belowLabel 14 = .ok (.iload_n 3, 1) := by decide +kernel
theorem sX0_belowLabel_14 : ab_X rom K cX0_belowLabel 0 1 14 (v0 :: v1 :: v2 :: .int x :: ls) st hp = ab_X rom K cX0_belowLabel 0 1 15 (v0 :: v1 :: v2 :: .int x :: ls) (.int x :: st) hp := ax_iload_n dX0_belowLabel_14 rfl rfl
theorem dX0_belowLabel_15 : decode cX0_belowLabel 15 = .ok (.iaload, 1) := by decide +kernel
theorem sX0_belowLabel_15 : ab_X rom K cX0_belowLabel 0 1 15 ls (.int x :: .ref a :: st) hp = (ab_ard rom 0 hp a x).bind (fun v => ab_X rom K cX0_belowLabel 0 1 16 ls (.int v :: st) hp) := ax_iaload dX0_belowLabel_15 rfl
theorem dX0_belowLabel_16 : decode cX0_belowLabel 16 = .ok (.iadd, 1) := by decide +kernel
theorem sX0_belowLabel_16 : ab_X rom K cX0_belowLabel 0 1 16 ls (.int y :: .int x :: st) hp = ab_X rom K cX0_belowLabel 0 1 17 ls (.int (x + y) :: st) hp := ax_iadd dX0_belowLabel_16 rfl
theorem dX0_belowLabel_17 : decode cX0_belowLabel 17 = .ok (.istore_n 2, 1) := by decide +kernel
theorem sX0_belowLabel_17i : ab_X rom K cX0_belowLabel 0 1 17 (v0 :: .int y :: v2 :: ls) (.int x :: st) hp = ab_X rom K cX0_belowLabel 0 1 18 (v0 :: .int y :: .int x :: ls) st hp := ax_istore_n dX0_belowLabel_17 (ax_lt (v := v2) rfl) (ab_nl_c1 (j := 1) (v := .int y) rfl (ab_c1_int _)) rfl rfl
theorem sX0_belowLabel_17r : ab_X rom K cX0_belowLabel 0 1 17 (v0 :: .ref a2 :: v2 :: ls) (.int x :: st) hp = ab_X rom K cX0_belowLabel 0 1 18 (v0 :: .ref a2 :: .int x :: ls) st hp := ax_istore_n dX0_belowLabel_17 (ax_lt (v := v2) rfl) (ab_nl_c1 (j := 1) (v := .ref a2) rfl (ab_c1_ref _)) rfl rfl
theorem sX0_belowLabel_17n : ab_X rom K cX0_belowLabel 0 1 17 (v0 :: .null :: v2 :: ls) (.int x :: st) hp = ab_X rom K cX0_belowLabel 0 1 18 (v0 :: .null :: .int x :: ls) st hp := ax_istore_n dX0_belowLabel_17 (ax_lt (v := v2) rfl) (ab_nl_c1 (j := 1) (v := .null) rfl ab_c1_null) rfl rfl
theorem dX0_belowLabel_18 : decode cX0_belowLabel 18 = .ok (.iinc 3 1, 3) := by decide +kernel
theorem sX0_belowLabel_18i : ab_X rom K cX0_belowLabel 0 1 18 (v0 :: v1 :: .int y :: .int x :: ls) st hp = ab_X rom K cX0_belowLabel 0 1 21 (v0 :: v1 :: .int y :: .int (x + 1) :: ls) st hp := ax_iinc dX0_belowLabel_18 rfl (ab_nl_c1 (j := 2) (v := .int y) rfl (ab_c1_int _)) (by decide) rfl rfl
theorem sX0_belowLabel_18r : ab_X rom K cX0_belowLabel 0 1 18 (v0 :: v1 :: .ref a2 :: .int x :: ls) st hp = ab_X rom K cX0_belowLabel 0 1 21 (v0 :: v1 :: .ref a2 :: .int (x + 1) :: ls) st hp := ax_iinc dX0_belowLabel_18 rfl (ab_nl_c1 (j := 2) (v := .ref a2) rfl (ab_c1_ref _)) (by decide) rfl rfl
theorem sX0_belowLabel_18n : ab_X rom K cX0_belowLabel 0 1 18 (v0 :: v1 :: .null :: .int x :: ls) st hp = ab_X rom K cX0_belowLabel 0 1 21 (v0 :: v1 :: .null :: .int (x + 1) :: ls) st hp := ax_iinc dX0_belowLabel_18 rfl (ab_nl_c1 (j := 2) (v := .null) rfl ab_c1_null) (by decide) rfl rfl
theorem dX0_belowLabel_21 : decode cX0_belowLabel 21 = .ok (.goto (-17), 3) := by decide +kernel
theorem sX0_belowLabel_21 : ab_X rom K cX0_belowLabel 0 1 21 ls st hp = ab_X rom K cX0_belowLabel 0 1 4 ls st hp := ax_goto dX0_belowLabel_21 (by decide)
theorem dX0_belowLabel_24 : decode cX0_belowLabel 24 = .ok (.iload_n 2, 1) := by decide +kernel
theorem sX0_belowLabel_24 : ab_X rom K cX0_belowLabel 0 1 24 (v0 :: v1 :: .int x :: ls) st hp = ab_X rom K cX0_belowLabel 0 1 25 (v0 :: v1 :: .int x :: ls) (.int x :: st) hp := ax_iload_n dX0_belowLabel_24 rfl rfl
theorem dX0_belowLabel_25 : decode cX0_belowLabel 25 = .ok (.ireturn, 1) := by decide +kernel
theorem sX0_belowLabel_25 : ab_X rom K cX0_belowLabel 0 1 25 ls [.int x] hp = some (some (.int x), hp) := ax_iret dX0_belowLabel_25 rfl
theorem tX0_labelOfRank : ab_mT[7]? = some (yX0_labelOfRank, cX0_labelOfRank, 4, 1, 0) := by decide +kernel
theorem mX0_labelOfRank {d : Nat} {a0 : Nat} {x0 : Int32} : ab_M rom (d + 1) 7 [.ref a0, .int x0] hp = ab_X rom (ab_M rom d) cX0_labelOfRank 0 1 0 [.ref a0, .int x0, .null, .null] [] hp := ab_M_eq tX0_labelOfRank (Nat.le_of_ble_eq_true rfl)
theorem dX0_labelOfRank_0 : decode cX0_labelOfRank 0 = .ok (.iload_n 1, 1) := by decide +kernel
theorem sX0_labelOfRank_0 : ab_X rom K cX0_labelOfRank 0 1 0 (v0 :: .int x :: ls) st hp = ab_X rom K cX0_labelOfRank 0 1 1 (v0 :: .int x :: ls) (.int x :: st) hp := ax_iload_n dX0_labelOfRank_0 rfl rfl
theorem dX0_labelOfRank_1 : decode cX0_labelOfRank 1 = .ok (.istore_n 2, 1) := by decide +kernel
theorem sX0_labelOfRank_1i : ab_X rom K cX0_labelOfRank 0 1 1 (v0 :: .int y :: v2 :: ls) (.int x :: st) hp = ab_X rom K cX0_labelOfRank 0 1 2 (v0 :: .int y :: .int x :: ls) st hp := ax_istore_n dX0_labelOfRank_1 (ax_lt (v := v2) rfl) (ab_nl_c1 (j := 1) (v := .int y) rfl (ab_c1_int _)) rfl rfl
theorem sX0_labelOfRank_1r : ab_X rom K cX0_labelOfRank 0 1 1 (v0 :: .ref a2 :: v2 :: ls) (.int x :: st) hp = ab_X rom K cX0_labelOfRank 0 1 2 (v0 :: .ref a2 :: .int x :: ls) st hp := ax_istore_n dX0_labelOfRank_1 (ax_lt (v := v2) rfl) (ab_nl_c1 (j := 1) (v := .ref a2) rfl (ab_c1_ref _)) rfl rfl
theorem sX0_labelOfRank_1n : ab_X rom K cX0_labelOfRank 0 1 1 (v0 :: .null :: v2 :: ls) (.int x :: st) hp = ab_X rom K cX0_labelOfRank 0 1 2 (v0 :: .null :: .int x :: ls) st hp := ax_istore_n dX0_labelOfRank_1 (ax_lt (v := v2) rfl) (ab_nl_c1 (j := 1) (v := .null) rfl ab_c1_null) rfl rfl
theorem dX0_labelOfRank_2 : decode cX0_labelOfRank 2 = .ok (.iconst 0, 1) := by decide +kernel
theorem sX0_labelOfRank_2 : ab_X rom K cX0_labelOfRank 0 1 2 ls st hp = ab_X rom K cX0_labelOfRank 0 1 3 ls (.int 0 :: st) hp := ax_iconst dX0_labelOfRank_2 (by decide) rfl
theorem dX0_labelOfRank_3 : decode cX0_labelOfRank 3 = .ok (.istore_n 3, 1) := by decide +kernel
theorem sX0_labelOfRank_3i : ab_X rom K cX0_labelOfRank 0 1 3 (v0 :: v1 :: .int y :: v3 :: ls) (.int x :: st) hp = ab_X rom K cX0_labelOfRank 0 1 4 (v0 :: v1 :: .int y :: .int x :: ls) st hp := ax_istore_n dX0_labelOfRank_3 (ax_lt (v := v3) rfl) (ab_nl_c1 (j := 2) (v := .int y) rfl (ab_c1_int _)) rfl rfl
theorem sX0_labelOfRank_3r : ab_X rom K cX0_labelOfRank 0 1 3 (v0 :: v1 :: .ref a2 :: v3 :: ls) (.int x :: st) hp = ab_X rom K cX0_labelOfRank 0 1 4 (v0 :: v1 :: .ref a2 :: .int x :: ls) st hp := ax_istore_n dX0_labelOfRank_3 (ax_lt (v := v3) rfl) (ab_nl_c1 (j := 2) (v := .ref a2) rfl (ab_c1_ref _)) rfl rfl
theorem sX0_labelOfRank_3n : ab_X rom K cX0_labelOfRank 0 1 3 (v0 :: v1 :: .null :: v3 :: ls) (.int x :: st) hp = ab_X rom K cX0_labelOfRank 0 1 4 (v0 :: v1 :: .null :: .int x :: ls) st hp := ax_istore_n dX0_labelOfRank_3 (ax_lt (v := v3) rfl) (ab_nl_c1 (j := 2) (v := .null) rfl ab_c1_null) rfl rfl
theorem dX0_labelOfRank_4 : decode cX0_labelOfRank 4 = .ok (.iload_n 3, 1) := by decide +kernel
theorem sX0_labelOfRank_4 : ab_X rom K cX0_labelOfRank 0 1 4 (v0 :: v1 :: v2 :: .int x :: ls) st hp = ab_X rom K cX0_labelOfRank 0 1 5 (v0 :: v1 :: v2 :: .int x :: ls) (.int x :: st) hp := ax_iload_n dX0_labelOfRank_4 rfl rfl
theorem dX0_labelOfRank_5 : decode cX0_labelOfRank 5 = .ok (.bipush 21, 2) := by decide +kernel
theorem sX0_labelOfRank_5 : ab_X rom K cX0_labelOfRank 0 1 5 ls st hp = ab_X rom K cX0_labelOfRank 0 1 7 ls (.int 21 :: st) hp := ax_bipush dX0_labelOfRank_5 (by decide) rfl
theorem dX0_labelOfRank_7 : decode cX0_labelOfRank 7 = .ok (.if_icmp .ge 30, 3) := by decide +kernel
theorem sX0_labelOfRank_7 : ab_X rom K cX0_labelOfRank 0 1 7 ls (.int y :: .int x :: st) hp = if x < y then ab_X rom K cX0_labelOfRank 0 1 10 ls st hp else ab_X rom K cX0_labelOfRank 0 1 37 ls st hp := ax_icmp_ge dX0_labelOfRank_7 (by decide) rfl
theorem dX0_labelOfRank_10 : decode cX0_labelOfRank 10 = .ok (.iload_n 2, 1) := by decide +kernel
theorem sX0_labelOfRank_10 : ab_X rom K cX0_labelOfRank 0 1 10 (v0 :: v1 :: .int x :: ls) st hp = ab_X rom K cX0_labelOfRank 0 1 11 (v0 :: v1 :: .int x :: ls) (.int x :: st) hp := ax_iload_n dX0_labelOfRank_10 rfl rfl
theorem dX0_labelOfRank_11 : decode cX0_labelOfRank 11 = .ok (.aload_n 0, 1) := by decide +kernel
theorem sX0_labelOfRank_11 : ab_X rom K cX0_labelOfRank 0 1 11 (.ref a :: ls) st hp = ab_X rom K cX0_labelOfRank 0 1 12 (.ref a :: ls) (.ref a :: st) hp := ax_aload_n dX0_labelOfRank_11 rfl rfl
theorem dX0_labelOfRank_12 : decode cX0_labelOfRank 12 = .ok (.getfield 22, 3) := by decide +kernel
theorem sX0_labelOfRank_12 : ab_X rom K cX0_labelOfRank 0 1 12 ls (.ref a :: st) hp = (ab_fld hp a 0 3).bind (fun v => ab_X rom K cX0_labelOfRank 0 1 15 ls (v :: st) hp) := ax_getfield dX0_labelOfRank_12 kf_0_22 rfl
theorem dX0_labelOfRank_15 : decode cX0_labelOfRank 15 = .ok (.iload_n 3, 1) := by decide +kernel
theorem sX0_labelOfRank_15 : ab_X rom K cX0_labelOfRank 0 1 15 (v0 :: v1 :: v2 :: .int x :: ls) st hp = ab_X rom K cX0_labelOfRank 0 1 16 (v0 :: v1 :: v2 :: .int x :: ls) (.int x :: st) hp := ax_iload_n dX0_labelOfRank_15 rfl rfl
theorem dX0_labelOfRank_16 : decode cX0_labelOfRank 16 = .ok (.iaload, 1) := by decide +kernel
theorem sX0_labelOfRank_16 : ab_X rom K cX0_labelOfRank 0 1 16 ls (.int x :: .ref a :: st) hp = (ab_ard rom 0 hp a x).bind (fun v => ab_X rom K cX0_labelOfRank 0 1 17 ls (.int v :: st) hp) := ax_iaload dX0_labelOfRank_16 rfl
theorem dX0_labelOfRank_17 : decode cX0_labelOfRank 17 = .ok (.if_icmp .ge 5, 3) := by decide +kernel
theorem sX0_labelOfRank_17 : ab_X rom K cX0_labelOfRank 0 1 17 ls (.int y :: .int x :: st) hp = if x < y then ab_X rom K cX0_labelOfRank 0 1 20 ls st hp else ab_X rom K cX0_labelOfRank 0 1 22 ls st hp := ax_icmp_ge dX0_labelOfRank_17 (by decide) rfl
theorem dX0_labelOfRank_20 : decode cX0_labelOfRank 20 = .ok (.iload_n 3, 1) := by decide +kernel
theorem sX0_labelOfRank_20 : ab_X rom K cX0_labelOfRank 0 1 20 (v0 :: v1 :: v2 :: .int x :: ls) st hp = ab_X rom K cX0_labelOfRank 0 1 21 (v0 :: v1 :: v2 :: .int x :: ls) (.int x :: st) hp := ax_iload_n dX0_labelOfRank_20 rfl rfl
theorem dX0_labelOfRank_21 : decode cX0_labelOfRank 21 = .ok (.ireturn, 1) := by decide +kernel
theorem sX0_labelOfRank_21 : ab_X rom K cX0_labelOfRank 0 1 21 ls [.int x] hp = some (some (.int x), hp) := ax_iret dX0_labelOfRank_21 rfl
theorem dX0_labelOfRank_22 : decode cX0_labelOfRank 22 = .ok (.iload_n 2, 1) := by decide +kernel
theorem sX0_labelOfRank_22 : ab_X rom K cX0_labelOfRank 0 1 22 (v0 :: v1 :: .int x :: ls) st hp = ab_X rom K cX0_labelOfRank 0 1 23 (v0 :: v1 :: .int x :: ls) (.int x :: st) hp := ax_iload_n dX0_labelOfRank_22 rfl rfl
theorem dX0_labelOfRank_23 : decode cX0_labelOfRank 23 = .ok (.aload_n 0, 1) := by decide +kernel
theorem sX0_labelOfRank_23 : ab_X rom K cX0_labelOfRank 0 1 23 (.ref a :: ls) st hp = ab_X rom K cX0_labelOfRank 0 1 24 (.ref a :: ls) (.ref a :: st) hp := ax_aload_n dX0_labelOfRank_23 rfl rfl
theorem dX0_labelOfRank_24 : decode cX0_labelOfRank 24 = .ok (.getfield 22, 3) := by decide +kernel
theorem sX0_labelOfRank_24 : ab_X rom K cX0_labelOfRank 0 1 24 ls (.ref a :: st) hp = (ab_fld hp a 0 3).bind (fun v => ab_X rom K cX0_labelOfRank 0 1 27 ls (v :: st) hp) := ax_getfield dX0_labelOfRank_24 kf_0_22 rfl
theorem dX0_labelOfRank_27 : decode cX0_labelOfRank 27 = .ok (.iload_n 3, 1) := by decide +kernel
theorem sX0_labelOfRank_27 : ab_X rom K cX0_labelOfRank 0 1 27 (v0 :: v1 :: v2 :: .int x :: ls) st hp = ab_X rom K cX0_labelOfRank 0 1 28 (v0 :: v1 :: v2 :: .int x :: ls) (.int x :: st) hp := ax_iload_n dX0_labelOfRank_27 rfl rfl
theorem dX0_labelOfRank_28 : decode cX0_labelOfRank 28 = .ok (.iaload, 1) := by decide +kernel
theorem sX0_labelOfRank_28 : ab_X rom K cX0_labelOfRank 0 1 28 ls (.int x :: .ref a :: st) hp = (ab_ard rom 0 hp a x).bind (fun v => ab_X rom K cX0_labelOfRank 0 1 29 ls (.int v :: st) hp) := ax_iaload dX0_labelOfRank_28 rfl
theorem dX0_labelOfRank_29 : decode cX0_labelOfRank 29 = .ok (.isub, 1) := by decide +kernel
theorem sX0_labelOfRank_29 : ab_X rom K cX0_labelOfRank 0 1 29 ls (.int y :: .int x :: st) hp = ab_X rom K cX0_labelOfRank 0 1 30 ls (.int (x - y) :: st) hp := ax_isub dX0_labelOfRank_29 rfl
theorem dX0_labelOfRank_30 : decode cX0_labelOfRank 30 = .ok (.istore_n 2, 1) := by decide +kernel
theorem sX0_labelOfRank_30i : ab_X rom K cX0_labelOfRank 0 1 30 (v0 :: .int y :: v2 :: ls) (.int x :: st) hp = ab_X rom K cX0_labelOfRank 0 1 31 (v0 :: .int y :: .int x :: ls) st hp := ax_istore_n dX0_labelOfRank_30 (ax_lt (v := v2) rfl) (ab_nl_c1 (j := 1) (v := .int y) rfl (ab_c1_int _)) rfl rfl
theorem sX0_labelOfRank_30r : ab_X rom K cX0_labelOfRank 0 1 30 (v0 :: .ref a2 :: v2 :: ls) (.int x :: st) hp = ab_X rom K cX0_labelOfRank 0 1 31 (v0 :: .ref a2 :: .int x :: ls) st hp := ax_istore_n dX0_labelOfRank_30 (ax_lt (v := v2) rfl) (ab_nl_c1 (j := 1) (v := .ref a2) rfl (ab_c1_ref _)) rfl rfl
theorem sX0_labelOfRank_30n : ab_X rom K cX0_labelOfRank 0 1 30 (v0 :: .null :: v2 :: ls) (.int x :: st) hp = ab_X rom K cX0_labelOfRank 0 1 31 (v0 :: .null :: .int x :: ls) st hp := ax_istore_n dX0_labelOfRank_30 (ax_lt (v := v2) rfl) (ab_nl_c1 (j := 1) (v := .null) rfl ab_c1_null) rfl rfl
theorem dX0_labelOfRank_31 : decode cX0_labelOfRank 31 = .ok (.iinc 3 1, 3) := by decide +kernel
theorem sX0_labelOfRank_31i : ab_X rom K cX0_labelOfRank 0 1 31 (v0 :: v1 :: .int y :: .int x :: ls) st hp = ab_X rom K cX0_labelOfRank 0 1 34 (v0 :: v1 :: .int y :: .int (x + 1) :: ls) st hp := ax_iinc dX0_labelOfRank_31 rfl (ab_nl_c1 (j := 2) (v := .int y) rfl (ab_c1_int _)) (by decide) rfl rfl
theorem sX0_labelOfRank_31r : ab_X rom K cX0_labelOfRank 0 1 31 (v0 :: v1 :: .ref a2 :: .int x :: ls) st hp = ab_X rom K cX0_labelOfRank 0 1 34 (v0 :: v1 :: .ref a2 :: .int (x + 1) :: ls) st hp := ax_iinc dX0_labelOfRank_31 rfl (ab_nl_c1 (j := 2) (v := .ref a2) rfl (ab_c1_ref _)) (by decide) rfl rfl
theorem sX0_labelOfRank_31n : ab_X rom K cX0_labelOfRank 0 1 31 (v0 :: v1 :: .null :: .int x :: ls) st hp = ab_X rom K cX0_labelOfRank 0 1 34 (v0 :: v1 :: .null :: .int (x + 1) :: ls) st hp := ax_iinc dX0_labelOfRank_31 rfl (ab_nl_c1 (j := 2) (v := .null) rfl ab_c1_null) (by decide) rfl rfl
theorem dX0_labelOfRank_34 : decode cX0_labelOfRank 34 = .ok (.goto (-30), 3) := by decide +kernel
theorem sX0_labelOfRank_34 : ab_X rom K cX0_labelOfRank 0 1 34 ls st hp = ab_X rom K cX0_labelOfRank 0 1 4 ls st hp := ax_goto dX0_labelOfRank_34 (by decide)
theorem dX0_labelOfRank_37 : decode cX0_labelOfRank 37 = .ok (.bipush 20, 2) := by decide +kernel
theorem sX0_labelOfRank_37 : ab_X rom K cX0_labelOfRank 0 1 37 ls st hp = ab_X rom K cX0_labelOfRank 0 1 39 ls (.int 20 :: st) hp := ax_bipush dX0_labelOfRank_37 (by decide) rfl
theorem dX0_labelOfRank_39 : decode cX0_labelOfRank 39 = .ok (.ireturn, 1) := by decide +kernel
theorem sX0_labelOfRank_39 : ab_X rom K cX0_labelOfRank 0 1 39 ls [.int x] hp = some (some (.int x), hp) := ax_iret dX0_labelOfRank_39 rfl
theorem tX0_leastKey : ab_mT[8]? = some (yX0_leastKey, cX0_leastKey, 4, 1, 0) := by decide +kernel
theorem mX0_leastKey {d : Nat} {a0 : Nat} {x0 : Int32} : ab_M rom (d + 1) 8 [.ref a0, .int x0] hp = ab_X rom (ab_M rom d) cX0_leastKey 0 1 0 [.ref a0, .int x0, .null, .null] [] hp := ab_M_eq tX0_leastKey (Nat.le_of_ble_eq_true rfl)
theorem dX0_leastKey_0 : decode cX0_leastKey 0 = .ok (.aload_n 0, 1) := by decide +kernel
theorem sX0_leastKey_0 : ab_X rom K cX0_leastKey 0 1 0 (.ref a :: ls) st hp = ab_X rom K cX0_leastKey 0 1 1 (.ref a :: ls) (.ref a :: st) hp := ax_aload_n dX0_leastKey_0 rfl rfl
theorem dX0_leastKey_1 : decode cX0_leastKey 1 = .ok (.iload_n 1, 1) := by decide +kernel
theorem sX0_leastKey_1 : ab_X rom K cX0_leastKey 0 1 1 (v0 :: .int x :: ls) st hp = ab_X rom K cX0_leastKey 0 1 2 (v0 :: .int x :: ls) (.int x :: st) hp := ax_iload_n dX0_leastKey_1 rfl rfl
theorem dX0_leastKey_2 : decode cX0_leastKey 2 = .ok (.invokevirtual 67, 3) := by decide +kernel
theorem sX0_leastKey_2_0 : ab_X rom K cX0_leastKey 0 1 2 ls [w1, .ref a] hp = if ab_iso hp a 0 = true then (K 2 (.ref a :: [w1]) hp).bind (fun o => ab_X rom K cX0_leastKey 0 1 5 ls (o.1.toList ++ []) o.2) else none := ay_virtual (as := [w1]) (st := []) dX0_leastKey_2 kc_0_67 rfl rfl (Nat.le_of_ble_eq_true rfl)
theorem sX0_leastKey_2_1 : ab_X rom K cX0_leastKey 0 1 2 ls [w1, .ref a, v0] hp = if ab_iso hp a 0 = true then (K 2 (.ref a :: [w1]) hp).bind (fun o => ab_X rom K cX0_leastKey 0 1 5 ls (o.1.toList ++ [v0]) o.2) else none := ay_virtual (as := [w1]) (st := [v0]) dX0_leastKey_2 kc_0_67 rfl rfl (Nat.le_of_ble_eq_true rfl)
theorem sX0_leastKey_2_2 : ab_X rom K cX0_leastKey 0 1 2 ls [w1, .ref a, v0, v1] hp = if ab_iso hp a 0 = true then (K 2 (.ref a :: [w1]) hp).bind (fun o => ab_X rom K cX0_leastKey 0 1 5 ls (o.1.toList ++ [v0, v1]) o.2) else none := ay_virtual (as := [w1]) (st := [v0, v1]) dX0_leastKey_2 kc_0_67 rfl rfl (Nat.le_of_ble_eq_true rfl)
theorem sX0_leastKey_2_3 : ab_X rom K cX0_leastKey 0 1 2 ls [w1, .ref a, v0, v1, v2] hp = if ab_iso hp a 0 = true then (K 2 (.ref a :: [w1]) hp).bind (fun o => ab_X rom K cX0_leastKey 0 1 5 ls (o.1.toList ++ [v0, v1, v2]) o.2) else none := ay_virtual (as := [w1]) (st := [v0, v1, v2]) dX0_leastKey_2 kc_0_67 rfl rfl (Nat.le_of_ble_eq_true rfl)
theorem dX0_leastKey_5 : decode cX0_leastKey 5 = .ok (.iconst 1, 1) := by decide +kernel
theorem sX0_leastKey_5 : ab_X rom K cX0_leastKey 0 1 5 ls st hp = ab_X rom K cX0_leastKey 0 1 6 ls (.int 1 :: st) hp := ax_iconst dX0_leastKey_5 (by decide) rfl
theorem dX0_leastKey_6 : decode cX0_leastKey 6 = .ok (.iload_n 1, 1) := by decide +kernel
theorem sX0_leastKey_6 : ab_X rom K cX0_leastKey 0 1 6 (v0 :: .int x :: ls) st hp = ab_X rom K cX0_leastKey 0 1 7 (v0 :: .int x :: ls) (.int x :: st) hp := ax_iload_n dX0_leastKey_6 rfl rfl
theorem dX0_leastKey_7 : decode cX0_leastKey 7 = .ok (.ishl, 1) := by decide +kernel
theorem sX0_leastKey_7 : ab_X rom K cX0_leastKey 0 1 7 ls (.int y :: .int x :: st) hp = ab_X rom K cX0_leastKey 0 1 8 ls (.int (x <<< (y &&& 31)) :: st) hp := ax_ishl dX0_leastKey_7 rfl
theorem dX0_leastKey_8 : decode cX0_leastKey 8 = .ok (.iconst 1, 1) := by decide +kernel
theorem sX0_leastKey_8 : ab_X rom K cX0_leastKey 0 1 8 ls st hp = ab_X rom K cX0_leastKey 0 1 9 ls (.int 1 :: st) hp := ax_iconst dX0_leastKey_8 (by decide) rfl
theorem dX0_leastKey_9 : decode cX0_leastKey 9 = .ok (.isub, 1) := by decide +kernel
theorem sX0_leastKey_9 : ab_X rom K cX0_leastKey 0 1 9 ls (.int y :: .int x :: st) hp = ab_X rom K cX0_leastKey 0 1 10 ls (.int (x - y) :: st) hp := ax_isub dX0_leastKey_9 rfl
theorem dX0_leastKey_10 : decode cX0_leastKey 10 = .ok (.istore_n 2, 1) := by decide +kernel
theorem sX0_leastKey_10i : ab_X rom K cX0_leastKey 0 1 10 (v0 :: .int y :: v2 :: ls) (.int x :: st) hp = ab_X rom K cX0_leastKey 0 1 11 (v0 :: .int y :: .int x :: ls) st hp := ax_istore_n dX0_leastKey_10 (ax_lt (v := v2) rfl) (ab_nl_c1 (j := 1) (v := .int y) rfl (ab_c1_int _)) rfl rfl
theorem sX0_leastKey_10r : ab_X rom K cX0_leastKey 0 1 10 (v0 :: .ref a2 :: v2 :: ls) (.int x :: st) hp = ab_X rom K cX0_leastKey 0 1 11 (v0 :: .ref a2 :: .int x :: ls) st hp := ax_istore_n dX0_leastKey_10 (ax_lt (v := v2) rfl) (ab_nl_c1 (j := 1) (v := .ref a2) rfl (ab_c1_ref _)) rfl rfl
theorem sX0_leastKey_10n : ab_X rom K cX0_leastKey 0 1 10 (v0 :: .null :: v2 :: ls) (.int x :: st) hp = ab_X rom K cX0_leastKey 0 1 11 (v0 :: .null :: .int x :: ls) st hp := ax_istore_n dX0_leastKey_10 (ax_lt (v := v2) rfl) (ab_nl_c1 (j := 1) (v := .null) rfl ab_c1_null) rfl rfl
theorem dX0_leastKey_11 : decode cX0_leastKey 11 = .ok (.iload_n 2, 1) := by decide +kernel
theorem sX0_leastKey_11 : ab_X rom K cX0_leastKey 0 1 11 (v0 :: v1 :: .int x :: ls) st hp = ab_X rom K cX0_leastKey 0 1 12 (v0 :: v1 :: .int x :: ls) (.int x :: st) hp := ax_iload_n dX0_leastKey_11 rfl rfl
theorem dX0_leastKey_12 : decode cX0_leastKey 12 = .ok (.istore_n 3, 1) := by decide +kernel
theorem sX0_leastKey_12i : ab_X rom K cX0_leastKey 0 1 12 (v0 :: v1 :: .int y :: v3 :: ls) (.int x :: st) hp = ab_X rom K cX0_leastKey 0 1 13 (v0 :: v1 :: .int y :: .int x :: ls) st hp := ax_istore_n dX0_leastKey_12 (ax_lt (v := v3) rfl) (ab_nl_c1 (j := 2) (v := .int y) rfl (ab_c1_int _)) rfl rfl
theorem sX0_leastKey_12r : ab_X rom K cX0_leastKey 0 1 12 (v0 :: v1 :: .ref a2 :: v3 :: ls) (.int x :: st) hp = ab_X rom K cX0_leastKey 0 1 13 (v0 :: v1 :: .ref a2 :: .int x :: ls) st hp := ax_istore_n dX0_leastKey_12 (ax_lt (v := v3) rfl) (ab_nl_c1 (j := 2) (v := .ref a2) rfl (ab_c1_ref _)) rfl rfl
theorem sX0_leastKey_12n : ab_X rom K cX0_leastKey 0 1 12 (v0 :: v1 :: .null :: v3 :: ls) (.int x :: st) hp = ab_X rom K cX0_leastKey 0 1 13 (v0 :: v1 :: .null :: .int x :: ls) st hp := ax_istore_n dX0_leastKey_12 (ax_lt (v := v3) rfl) (ab_nl_c1 (j := 2) (v := .null) rfl ab_c1_null) rfl rfl
theorem dX0_leastKey_13 : decode cX0_leastKey 13 = .ok (.iload_n 3, 1) := by decide +kernel
theorem sX0_leastKey_13 : ab_X rom K cX0_leastKey 0 1 13 (v0 :: v1 :: v2 :: .int x :: ls) st hp = ab_X rom K cX0_leastKey 0 1 14 (v0 :: v1 :: v2 :: .int x :: ls) (.int x :: st) hp := ax_iload_n dX0_leastKey_13 rfl rfl
theorem dX0_leastKey_14 : decode cX0_leastKey 14 = .ok (.ifCond .lt 32, 3) := by decide +kernel
theorem sX0_leastKey_14 : ab_X rom K cX0_leastKey 0 1 14 ls (.int x :: st) hp = if x < 0 then ab_X rom K cX0_leastKey 0 1 46 ls st hp else ab_X rom K cX0_leastKey 0 1 17 ls st hp := ax_if_lt dX0_leastKey_14 (by decide) rfl
theorem dX0_leastKey_17 : decode cX0_leastKey 17 = .ok (.aload_n 0, 1) := by decide +kernel
theorem sX0_leastKey_17 : ab_X rom K cX0_leastKey 0 1 17 (.ref a :: ls) st hp = ab_X rom K cX0_leastKey 0 1 18 (.ref a :: ls) (.ref a :: st) hp := ax_aload_n dX0_leastKey_17 rfl rfl
theorem dX0_leastKey_18 : decode cX0_leastKey 18 = .ok (.getfield 32, 3) := by decide +kernel
theorem sX0_leastKey_18 : ab_X rom K cX0_leastKey 0 1 18 ls (.ref a :: st) hp = (ab_fld hp a 0 6).bind (fun v => ab_X rom K cX0_leastKey 0 1 21 ls (v :: st) hp) := ax_getfield dX0_leastKey_18 kf_0_32 rfl
theorem dX0_leastKey_21 : decode cX0_leastKey 21 = .ok (.iload_n 3, 1) := by decide +kernel
theorem sX0_leastKey_21 : ab_X rom K cX0_leastKey 0 1 21 (v0 :: v1 :: v2 :: .int x :: ls) st hp = ab_X rom K cX0_leastKey 0 1 22 (v0 :: v1 :: v2 :: .int x :: ls) (.int x :: st) hp := ax_iload_n dX0_leastKey_21 rfl rfl
theorem dX0_leastKey_22 : decode cX0_leastKey 22 = .ok (.iaload, 1) := by decide +kernel
theorem sX0_leastKey_22 : ab_X rom K cX0_leastKey 0 1 22 ls (.int x :: .ref a :: st) hp = (ab_ard rom 0 hp a x).bind (fun v => ab_X rom K cX0_leastKey 0 1 23 ls (.int v :: st) hp) := ax_iaload dX0_leastKey_22 rfl
theorem dX0_leastKey_23 : decode cX0_leastKey 23 = .ok (.iconst 1, 1) := by decide +kernel
theorem sX0_leastKey_23 : ab_X rom K cX0_leastKey 0 1 23 ls st hp = ab_X rom K cX0_leastKey 0 1 24 ls (.int 1 :: st) hp := ax_iconst dX0_leastKey_23 (by decide) rfl
theorem dX0_leastKey_24 : decode cX0_leastKey 24 = .ok (.if_icmp .ne 16, 3) := by decide +kernel
theorem sX0_leastKey_24 : ab_X rom K cX0_leastKey 0 1 24 ls (.int y :: .int x :: st) hp = if x = y then ab_X rom K cX0_leastKey 0 1 27 ls st hp else ab_X rom K cX0_leastKey 0 1 40 ls st hp := ax_icmp_ne dX0_leastKey_24 (by decide) rfl
theorem dX0_leastKey_27 : decode cX0_leastKey 27 = .ok (.iload_n 3, 1) := by decide +kernel
theorem sX0_leastKey_27 : ab_X rom K cX0_leastKey 0 1 27 (v0 :: v1 :: v2 :: .int x :: ls) st hp = ab_X rom K cX0_leastKey 0 1 28 (v0 :: v1 :: v2 :: .int x :: ls) (.int x :: st) hp := ax_iload_n dX0_leastKey_27 rfl rfl
theorem dX0_leastKey_28 : decode cX0_leastKey 28 = .ok (.invokestatic 64, 3) := by decide +kernel
theorem sX0_leastKey_28_0 : ab_X rom K cX0_leastKey 0 1 28 ls [w1] hp = (K 264 [w1] hp).bind (fun o => ab_X rom K cX0_leastKey 0 1 31 ls (o.1.toList ++ []) o.2) := ax_static (as := [w1]) (st := []) dX0_leastKey_28 kc_0_64 rfl rfl (Nat.le_of_ble_eq_true rfl)
theorem sX0_leastKey_28_1 : ab_X rom K cX0_leastKey 0 1 28 ls [w1, v0] hp = (K 264 [w1] hp).bind (fun o => ab_X rom K cX0_leastKey 0 1 31 ls (o.1.toList ++ [v0]) o.2) := ax_static (as := [w1]) (st := [v0]) dX0_leastKey_28 kc_0_64 rfl rfl (Nat.le_of_ble_eq_true rfl)
theorem sX0_leastKey_28_2 : ab_X rom K cX0_leastKey 0 1 28 ls [w1, v0, v1] hp = (K 264 [w1] hp).bind (fun o => ab_X rom K cX0_leastKey 0 1 31 ls (o.1.toList ++ [v0, v1]) o.2) := ax_static (as := [w1]) (st := [v0, v1]) dX0_leastKey_28 kc_0_64 rfl rfl (Nat.le_of_ble_eq_true rfl)
theorem sX0_leastKey_28_3 : ab_X rom K cX0_leastKey 0 1 28 ls [w1, v0, v1, v2] hp = (K 264 [w1] hp).bind (fun o => ab_X rom K cX0_leastKey 0 1 31 ls (o.1.toList ++ [v0, v1, v2]) o.2) := ax_static (as := [w1]) (st := [v0, v1, v2]) dX0_leastKey_28 kc_0_64 rfl rfl (Nat.le_of_ble_eq_true rfl)
theorem dX0_leastKey_31 : decode cX0_leastKey 31 = .ok (.iload_n 2, 1) := by decide +kernel
theorem sX0_leastKey_31 : ab_X rom K cX0_leastKey 0 1 31 (v0 :: v1 :: .int x :: ls) st hp = ab_X rom K cX0_leastKey 0 1 32 (v0 :: v1 :: .int x :: ls) (.int x :: st) hp := ax_iload_n dX0_leastKey_31 rfl rfl
theorem dX0_leastKey_32 : decode cX0_leastKey 32 = .ok (.invokestatic 64, 3) := by decide +kernel
theorem sX0_leastKey_32_0 : ab_X rom K cX0_leastKey 0 1 32 ls [w1] hp = (K 264 [w1] hp).bind (fun o => ab_X rom K cX0_leastKey 0 1 35 ls (o.1.toList ++ []) o.2) := ax_static (as := [w1]) (st := []) dX0_leastKey_32 kc_0_64 rfl rfl (Nat.le_of_ble_eq_true rfl)
theorem sX0_leastKey_32_1 : ab_X rom K cX0_leastKey 0 1 32 ls [w1, v0] hp = (K 264 [w1] hp).bind (fun o => ab_X rom K cX0_leastKey 0 1 35 ls (o.1.toList ++ [v0]) o.2) := ax_static (as := [w1]) (st := [v0]) dX0_leastKey_32 kc_0_64 rfl rfl (Nat.le_of_ble_eq_true rfl)
theorem sX0_leastKey_32_2 : ab_X rom K cX0_leastKey 0 1 32 ls [w1, v0, v1] hp = (K 264 [w1] hp).bind (fun o => ab_X rom K cX0_leastKey 0 1 35 ls (o.1.toList ++ [v0, v1]) o.2) := ax_static (as := [w1]) (st := [v0, v1]) dX0_leastKey_32 kc_0_64 rfl rfl (Nat.le_of_ble_eq_true rfl)
theorem sX0_leastKey_32_3 : ab_X rom K cX0_leastKey 0 1 32 ls [w1, v0, v1, v2] hp = (K 264 [w1] hp).bind (fun o => ab_X rom K cX0_leastKey 0 1 35 ls (o.1.toList ++ [v0, v1, v2]) o.2) := ax_static (as := [w1]) (st := [v0, v1, v2]) dX0_leastKey_32 kc_0_64 rfl rfl (Nat.le_of_ble_eq_true rfl)
theorem dX0_leastKey_35 : decode cX0_leastKey 35 = .ok (.if_icmp .gt 5, 3) := by decide +kernel
theorem sX0_leastKey_35 : ab_X rom K cX0_leastKey 0 1 35 ls (.int y :: .int x :: st) hp = if y < x then ab_X rom K cX0_leastKey 0 1 40 ls st hp else ab_X rom K cX0_leastKey 0 1 38 ls st hp := ax_icmp_gt dX0_leastKey_35 (by decide) rfl
theorem dX0_leastKey_38 : decode cX0_leastKey 38 = .ok (.iload_n 3, 1) := by decide +kernel
theorem sX0_leastKey_38 : ab_X rom K cX0_leastKey 0 1 38 (v0 :: v1 :: v2 :: .int x :: ls) st hp = ab_X rom K cX0_leastKey 0 1 39 (v0 :: v1 :: v2 :: .int x :: ls) (.int x :: st) hp := ax_iload_n dX0_leastKey_38 rfl rfl
theorem dX0_leastKey_39 : decode cX0_leastKey 39 = .ok (.istore_n 2, 1) := by decide +kernel
theorem sX0_leastKey_39i : ab_X rom K cX0_leastKey 0 1 39 (v0 :: .int y :: v2 :: ls) (.int x :: st) hp = ab_X rom K cX0_leastKey 0 1 40 (v0 :: .int y :: .int x :: ls) st hp := ax_istore_n dX0_leastKey_39 (ax_lt (v := v2) rfl) (ab_nl_c1 (j := 1) (v := .int y) rfl (ab_c1_int _)) rfl rfl
theorem sX0_leastKey_39r : ab_X rom K cX0_leastKey 0 1 39 (v0 :: .ref a2 :: v2 :: ls) (.int x :: st) hp = ab_X rom K cX0_leastKey 0 1 40 (v0 :: .ref a2 :: .int x :: ls) st hp := ax_istore_n dX0_leastKey_39 (ax_lt (v := v2) rfl) (ab_nl_c1 (j := 1) (v := .ref a2) rfl (ab_c1_ref _)) rfl rfl
theorem sX0_leastKey_39n : ab_X rom K cX0_leastKey 0 1 39 (v0 :: .null :: v2 :: ls) (.int x :: st) hp = ab_X rom K cX0_leastKey 0 1 40 (v0 :: .null :: .int x :: ls) st hp := ax_istore_n dX0_leastKey_39 (ax_lt (v := v2) rfl) (ab_nl_c1 (j := 1) (v := .null) rfl ab_c1_null) rfl rfl
theorem dX0_leastKey_40 : decode cX0_leastKey 40 = .ok (.iinc 3 (-1), 3) := by decide +kernel
theorem sX0_leastKey_40i : ab_X rom K cX0_leastKey 0 1 40 (v0 :: v1 :: .int y :: .int x :: ls) st hp = ab_X rom K cX0_leastKey 0 1 43 (v0 :: v1 :: .int y :: .int (x + (-1)) :: ls) st hp := ax_iinc dX0_leastKey_40 rfl (ab_nl_c1 (j := 2) (v := .int y) rfl (ab_c1_int _)) (by decide) rfl rfl
theorem sX0_leastKey_40r : ab_X rom K cX0_leastKey 0 1 40 (v0 :: v1 :: .ref a2 :: .int x :: ls) st hp = ab_X rom K cX0_leastKey 0 1 43 (v0 :: v1 :: .ref a2 :: .int (x + (-1)) :: ls) st hp := ax_iinc dX0_leastKey_40 rfl (ab_nl_c1 (j := 2) (v := .ref a2) rfl (ab_c1_ref _)) (by decide) rfl rfl
theorem sX0_leastKey_40n : ab_X rom K cX0_leastKey 0 1 40 (v0 :: v1 :: .null :: .int x :: ls) st hp = ab_X rom K cX0_leastKey 0 1 43 (v0 :: v1 :: .null :: .int (x + (-1)) :: ls) st hp := ax_iinc dX0_leastKey_40 rfl (ab_nl_c1 (j := 2) (v := .null) rfl ab_c1_null) (by decide) rfl rfl
theorem dX0_leastKey_43 : decode cX0_leastKey 43 = .ok (.goto (-30), 3) := by decide +kernel
theorem sX0_leastKey_43 : ab_X rom K cX0_leastKey 0 1 43 ls st hp = ab_X rom K cX0_leastKey 0 1 13 ls st hp := ax_goto dX0_leastKey_43 (by decide)
theorem dX0_leastKey_46 : decode cX0_leastKey 46 = .ok (.iload_n 2, 1) := by decide +kernel
theorem sX0_leastKey_46 : ab_X rom K cX0_leastKey 0 1 46 (v0 :: v1 :: .int x :: ls) st hp = ab_X rom K cX0_leastKey 0 1 47 (v0 :: v1 :: .int x :: ls) (.int x :: st) hp := ax_iload_n dX0_leastKey_46 rfl rfl
theorem dX0_leastKey_47 : decode cX0_leastKey 47 = .ok (.ireturn, 1) := by decide +kernel
theorem sX0_leastKey_47 : ab_X rom K cX0_leastKey 0 1 47 ls [.int x] hp = some (some (.int x), hp) := ax_iret dX0_leastKey_47 rfl
theorem tX0_narrowestPoint : ab_mT[9]? = some (yX0_narrowestPoint, cX0_narrowestPoint, 6, 1, 0) := by decide +kernel
theorem mX0_narrowestPoint {d : Nat} {a0 : Nat} {r0 : Nat} : ab_M rom (d + 1) 9 [.ref a0, .ref r0] hp = ab_X rom (ab_M rom d) cX0_narrowestPoint 0 1 0 [.ref a0, .ref r0, .null, .null, .null, .null] [] hp := ab_M_eq tX0_narrowestPoint (Nat.le_of_ble_eq_true rfl)
theorem dX0_narrowestPoint_0 : decode cX0_narrowestPoint 0 = .ok (.iconst (-1), 1) := by decide +kernel
theorem sX0_narrowestPoint_0 : ab_X rom K cX0_narrowestPoint 0 1 0 ls st hp = ab_X rom K cX0_narrowestPoint 0 1 1 ls (.int (-1) :: st) hp := ax_iconst dX0_narrowestPoint_0 (by decide) rfl
theorem dX0_narrowestPoint_1 : decode cX0_narrowestPoint 1 = .ok (.istore_n 2, 1) := by decide +kernel
theorem sX0_narrowestPoint_1i : ab_X rom K cX0_narrowestPoint 0 1 1 (v0 :: .int y :: v2 :: ls) (.int x :: st) hp = ab_X rom K cX0_narrowestPoint 0 1 2 (v0 :: .int y :: .int x :: ls) st hp := ax_istore_n dX0_narrowestPoint_1 (ax_lt (v := v2) rfl) (ab_nl_c1 (j := 1) (v := .int y) rfl (ab_c1_int _)) rfl rfl
theorem sX0_narrowestPoint_1r : ab_X rom K cX0_narrowestPoint 0 1 1 (v0 :: .ref a2 :: v2 :: ls) (.int x :: st) hp = ab_X rom K cX0_narrowestPoint 0 1 2 (v0 :: .ref a2 :: .int x :: ls) st hp := ax_istore_n dX0_narrowestPoint_1 (ax_lt (v := v2) rfl) (ab_nl_c1 (j := 1) (v := .ref a2) rfl (ab_c1_ref _)) rfl rfl
theorem sX0_narrowestPoint_1n : ab_X rom K cX0_narrowestPoint 0 1 1 (v0 :: .null :: v2 :: ls) (.int x :: st) hp = ab_X rom K cX0_narrowestPoint 0 1 2 (v0 :: .null :: .int x :: ls) st hp := ax_istore_n dX0_narrowestPoint_1 (ax_lt (v := v2) rfl) (ab_nl_c1 (j := 1) (v := .null) rfl ab_c1_null) rfl rfl
theorem dX0_narrowestPoint_2 : decode cX0_narrowestPoint 2 = .ok (.bipush 22, 2) := by decide +kernel
theorem sX0_narrowestPoint_2 : ab_X rom K cX0_narrowestPoint 0 1 2 ls st hp = ab_X rom K cX0_narrowestPoint 0 1 4 ls (.int 22 :: st) hp := ax_bipush dX0_narrowestPoint_2 (by decide) rfl
theorem dX0_narrowestPoint_4 : decode cX0_narrowestPoint 4 = .ok (.istore_n 3, 1) := by decide +kernel
theorem sX0_narrowestPoint_4i : ab_X rom K cX0_narrowestPoint 0 1 4 (v0 :: v1 :: .int y :: v3 :: ls) (.int x :: st) hp = ab_X rom K cX0_narrowestPoint 0 1 5 (v0 :: v1 :: .int y :: .int x :: ls) st hp := ax_istore_n dX0_narrowestPoint_4 (ax_lt (v := v3) rfl) (ab_nl_c1 (j := 2) (v := .int y) rfl (ab_c1_int _)) rfl rfl
theorem sX0_narrowestPoint_4r : ab_X rom K cX0_narrowestPoint 0 1 4 (v0 :: v1 :: .ref a2 :: v3 :: ls) (.int x :: st) hp = ab_X rom K cX0_narrowestPoint 0 1 5 (v0 :: v1 :: .ref a2 :: .int x :: ls) st hp := ax_istore_n dX0_narrowestPoint_4 (ax_lt (v := v3) rfl) (ab_nl_c1 (j := 2) (v := .ref a2) rfl (ab_c1_ref _)) rfl rfl
theorem sX0_narrowestPoint_4n : ab_X rom K cX0_narrowestPoint 0 1 4 (v0 :: v1 :: .null :: v3 :: ls) (.int x :: st) hp = ab_X rom K cX0_narrowestPoint 0 1 5 (v0 :: v1 :: .null :: .int x :: ls) st hp := ax_istore_n dX0_narrowestPoint_4 (ax_lt (v := v3) rfl) (ab_nl_c1 (j := 2) (v := .null) rfl ab_c1_null) rfl rfl
theorem dX0_narrowestPoint_5 : decode cX0_narrowestPoint 5 = .ok (.iconst 0, 1) := by decide +kernel
theorem sX0_narrowestPoint_5 : ab_X rom K cX0_narrowestPoint 0 1 5 ls st hp = ab_X rom K cX0_narrowestPoint 0 1 6 ls (.int 0 :: st) hp := ax_iconst dX0_narrowestPoint_5 (by decide) rfl
theorem dX0_narrowestPoint_6 : decode cX0_narrowestPoint 6 = .ok (.istore 4, 2) := by decide +kernel
theorem sX0_narrowestPoint_6i : ab_X rom K cX0_narrowestPoint 0 1 6 (v0 :: v1 :: v2 :: .int y :: v4 :: ls) (.int x :: st) hp = ab_X rom K cX0_narrowestPoint 0 1 8 (v0 :: v1 :: v2 :: .int y :: .int x :: ls) st hp := ax_istore dX0_narrowestPoint_6 (ax_lt (v := v4) rfl) (ab_nl_c1 (j := 3) (v := .int y) rfl (ab_c1_int _)) rfl rfl
theorem sX0_narrowestPoint_6r : ab_X rom K cX0_narrowestPoint 0 1 6 (v0 :: v1 :: v2 :: .ref a2 :: v4 :: ls) (.int x :: st) hp = ab_X rom K cX0_narrowestPoint 0 1 8 (v0 :: v1 :: v2 :: .ref a2 :: .int x :: ls) st hp := ax_istore dX0_narrowestPoint_6 (ax_lt (v := v4) rfl) (ab_nl_c1 (j := 3) (v := .ref a2) rfl (ab_c1_ref _)) rfl rfl
theorem sX0_narrowestPoint_6n : ab_X rom K cX0_narrowestPoint 0 1 6 (v0 :: v1 :: v2 :: .null :: v4 :: ls) (.int x :: st) hp = ab_X rom K cX0_narrowestPoint 0 1 8 (v0 :: v1 :: v2 :: .null :: .int x :: ls) st hp := ax_istore dX0_narrowestPoint_6 (ax_lt (v := v4) rfl) (ab_nl_c1 (j := 3) (v := .null) rfl ab_c1_null) rfl rfl
theorem dX0_narrowestPoint_8 : decode cX0_narrowestPoint 8 = .ok (.iload 4, 2) := by decide +kernel
theorem sX0_narrowestPoint_8 : ab_X rom K cX0_narrowestPoint 0 1 8 (v0 :: v1 :: v2 :: v3 :: .int x :: ls) st hp = ab_X rom K cX0_narrowestPoint 0 1 10 (v0 :: v1 :: v2 :: v3 :: .int x :: ls) (.int x :: st) hp := ax_iload dX0_narrowestPoint_8 rfl rfl
theorem dX0_narrowestPoint_10 : decode cX0_narrowestPoint 10 = .ok (.aload_n 1, 1) := by decide +kernel
theorem sX0_narrowestPoint_10 : ab_X rom K cX0_narrowestPoint 0 1 10 (v0 :: .ref a :: ls) st hp = ab_X rom K cX0_narrowestPoint 0 1 11 (v0 :: .ref a :: ls) (.ref a :: st) hp := ax_aload_n dX0_narrowestPoint_10 rfl rfl
theorem dX0_narrowestPoint_11 : decode cX0_narrowestPoint 11 = .ok (.getfield 50, 3) := by decide +kernel
theorem sX0_narrowestPoint_11 : ab_X rom K cX0_narrowestPoint 0 1 11 ls (.ref a :: st) hp = (ab_fld hp a 1 0).bind (fun v => ab_X rom K cX0_narrowestPoint 0 1 14 ls (v :: st) hp) := ax_getfield dX0_narrowestPoint_11 kf_0_50 rfl
theorem dX0_narrowestPoint_14 : decode cX0_narrowestPoint 14 = .ok (.if_icmp .ge 44, 3) := by decide +kernel
theorem sX0_narrowestPoint_14 : ab_X rom K cX0_narrowestPoint 0 1 14 ls (.int y :: .int x :: st) hp = if x < y then ab_X rom K cX0_narrowestPoint 0 1 17 ls st hp else ab_X rom K cX0_narrowestPoint 0 1 58 ls st hp := ax_icmp_ge dX0_narrowestPoint_14 (by decide) rfl
theorem dX0_narrowestPoint_17 : decode cX0_narrowestPoint 17 = .ok (.aload_n 0, 1) := by decide +kernel
theorem sX0_narrowestPoint_17 : ab_X rom K cX0_narrowestPoint 0 1 17 (.ref a :: ls) st hp = ab_X rom K cX0_narrowestPoint 0 1 18 (.ref a :: ls) (.ref a :: st) hp := ax_aload_n dX0_narrowestPoint_17 rfl rfl
theorem dX0_narrowestPoint_18 : decode cX0_narrowestPoint 18 = .ok (.getfield 15, 3) := by decide +kernel
theorem sX0_narrowestPoint_18 : ab_X rom K cX0_narrowestPoint 0 1 18 ls (.ref a :: st) hp = (ab_fld hp a 0 1).bind (fun v => ab_X rom K cX0_narrowestPoint 0 1 21 ls (v :: st) hp) := ax_getfield dX0_narrowestPoint_18 kf_0_15 rfl
theorem dX0_narrowestPoint_21 : decode cX0_narrowestPoint 21 = .ok (.iload 4, 2) := by decide +kernel
theorem sX0_narrowestPoint_21 : ab_X rom K cX0_narrowestPoint 0 1 21 (v0 :: v1 :: v2 :: v3 :: .int x :: ls) st hp = ab_X rom K cX0_narrowestPoint 0 1 23 (v0 :: v1 :: v2 :: v3 :: .int x :: ls) (.int x :: st) hp := ax_iload dX0_narrowestPoint_21 rfl rfl
theorem dX0_narrowestPoint_23 : decode cX0_narrowestPoint 23 = .ok (.iaload, 1) := by decide +kernel
theorem sX0_narrowestPoint_23 : ab_X rom K cX0_narrowestPoint 0 1 23 ls (.int x :: .ref a :: st) hp = (ab_ard rom 0 hp a x).bind (fun v => ab_X rom K cX0_narrowestPoint 0 1 24 ls (.int v :: st) hp) := ax_iaload dX0_narrowestPoint_23 rfl
theorem dX0_narrowestPoint_24 : decode cX0_narrowestPoint 24 = .ok (.invokestatic 64, 3) := by decide +kernel
theorem sX0_narrowestPoint_24_0 : ab_X rom K cX0_narrowestPoint 0 1 24 ls [w1] hp = (K 264 [w1] hp).bind (fun o => ab_X rom K cX0_narrowestPoint 0 1 27 ls (o.1.toList ++ []) o.2) := ax_static (as := [w1]) (st := []) dX0_narrowestPoint_24 kc_0_64 rfl rfl (Nat.le_of_ble_eq_true rfl)
theorem sX0_narrowestPoint_24_1 : ab_X rom K cX0_narrowestPoint 0 1 24 ls [w1, v0] hp = (K 264 [w1] hp).bind (fun o => ab_X rom K cX0_narrowestPoint 0 1 27 ls (o.1.toList ++ [v0]) o.2) := ax_static (as := [w1]) (st := [v0]) dX0_narrowestPoint_24 kc_0_64 rfl rfl (Nat.le_of_ble_eq_true rfl)
theorem sX0_narrowestPoint_24_2 : ab_X rom K cX0_narrowestPoint 0 1 24 ls [w1, v0, v1] hp = (K 264 [w1] hp).bind (fun o => ab_X rom K cX0_narrowestPoint 0 1 27 ls (o.1.toList ++ [v0, v1]) o.2) := ax_static (as := [w1]) (st := [v0, v1]) dX0_narrowestPoint_24 kc_0_64 rfl rfl (Nat.le_of_ble_eq_true rfl)
theorem sX0_narrowestPoint_24_3 : ab_X rom K cX0_narrowestPoint 0 1 24 ls [w1, v0, v1, v2] hp = (K 264 [w1] hp).bind (fun o => ab_X rom K cX0_narrowestPoint 0 1 27 ls (o.1.toList ++ [v0, v1, v2]) o.2) := ax_static (as := [w1]) (st := [v0, v1, v2]) dX0_narrowestPoint_24 kc_0_64 rfl rfl (Nat.le_of_ble_eq_true rfl)
theorem dX0_narrowestPoint_27 : decode cX0_narrowestPoint 27 = .ok (.istore 5, 2) := by decide +kernel
theorem sX0_narrowestPoint_27i : ab_X rom K cX0_narrowestPoint 0 1 27 (v0 :: v1 :: v2 :: v3 :: .int y :: v5 :: ls) (.int x :: st) hp = ab_X rom K cX0_narrowestPoint 0 1 29 (v0 :: v1 :: v2 :: v3 :: .int y :: .int x :: ls) st hp := ax_istore dX0_narrowestPoint_27 (ax_lt (v := v5) rfl) (ab_nl_c1 (j := 4) (v := .int y) rfl (ab_c1_int _)) rfl rfl
theorem sX0_narrowestPoint_27r : ab_X rom K cX0_narrowestPoint 0 1 27 (v0 :: v1 :: v2 :: v3 :: .ref a2 :: v5 :: ls) (.int x :: st) hp = ab_X rom K cX0_narrowestPoint 0 1 29 (v0 :: v1 :: v2 :: v3 :: .ref a2 :: .int x :: ls) st hp := ax_istore dX0_narrowestPoint_27 (ax_lt (v := v5) rfl) (ab_nl_c1 (j := 4) (v := .ref a2) rfl (ab_c1_ref _)) rfl rfl
theorem sX0_narrowestPoint_27n : ab_X rom K cX0_narrowestPoint 0 1 27 (v0 :: v1 :: v2 :: v3 :: .null :: v5 :: ls) (.int x :: st) hp = ab_X rom K cX0_narrowestPoint 0 1 29 (v0 :: v1 :: v2 :: v3 :: .null :: .int x :: ls) st hp := ax_istore dX0_narrowestPoint_27 (ax_lt (v := v5) rfl) (ab_nl_c1 (j := 4) (v := .null) rfl ab_c1_null) rfl rfl
theorem dX0_narrowestPoint_29 : decode cX0_narrowestPoint 29 = .ok (.aload_n 1, 1) := by decide +kernel
theorem sX0_narrowestPoint_29 : ab_X rom K cX0_narrowestPoint 0 1 29 (v0 :: .ref a :: ls) st hp = ab_X rom K cX0_narrowestPoint 0 1 30 (v0 :: .ref a :: ls) (.ref a :: st) hp := ax_aload_n dX0_narrowestPoint_29 rfl rfl
theorem dX0_narrowestPoint_30 : decode cX0_narrowestPoint 30 = .ok (.getfield 55, 3) := by decide +kernel
theorem sX0_narrowestPoint_30 : ab_X rom K cX0_narrowestPoint 0 1 30 ls (.ref a :: st) hp = (ab_fld hp a 1 4).bind (fun v => ab_X rom K cX0_narrowestPoint 0 1 33 ls (v :: st) hp) := ax_getfield dX0_narrowestPoint_30 kf_0_55 rfl
theorem dX0_narrowestPoint_33 : decode cX0_narrowestPoint 33 = .ok (.iload 4, 2) := by decide +kernel
theorem sX0_narrowestPoint_33 : ab_X rom K cX0_narrowestPoint 0 1 33 (v0 :: v1 :: v2 :: v3 :: .int x :: ls) st hp = ab_X rom K cX0_narrowestPoint 0 1 35 (v0 :: v1 :: v2 :: v3 :: .int x :: ls) (.int x :: st) hp := ax_iload dX0_narrowestPoint_33 rfl rfl
theorem dX0_narrowestPoint_35 : decode cX0_narrowestPoint 35 = .ok (.iaload, 1) := by decide +kernel
theorem sX0_narrowestPoint_35 : ab_X rom K cX0_narrowestPoint 0 1 35 ls (.int x :: .ref a :: st) hp = (ab_ard rom 0 hp a x).bind (fun v => ab_X rom K cX0_narrowestPoint 0 1 36 ls (.int v :: st) hp) := ax_iaload dX0_narrowestPoint_35 rfl
theorem dX0_narrowestPoint_36 : decode cX0_narrowestPoint 36 = .ok (.iconst (-1), 1) := by decide +kernel
theorem sX0_narrowestPoint_36 : ab_X rom K cX0_narrowestPoint 0 1 36 ls st hp = ab_X rom K cX0_narrowestPoint 0 1 37 ls (.int (-1) :: st) hp := ax_iconst dX0_narrowestPoint_36 (by decide) rfl
theorem dX0_narrowestPoint_37 : decode cX0_narrowestPoint 37 = .ok (.if_icmp .ne 15, 3) := by decide +kernel
theorem sX0_narrowestPoint_37 : ab_X rom K cX0_narrowestPoint 0 1 37 ls (.int y :: .int x :: st) hp = if x = y then ab_X rom K cX0_narrowestPoint 0 1 40 ls st hp else ab_X rom K cX0_narrowestPoint 0 1 52 ls st hp := ax_icmp_ne dX0_narrowestPoint_37 (by decide) rfl
theorem dX0_narrowestPoint_40 : decode cX0_narrowestPoint 40 = .ok (.iload 5, 2) := by decide +kernel
theorem sX0_narrowestPoint_40 : ab_X rom K cX0_narrowestPoint 0 1 40 (v0 :: v1 :: v2 :: v3 :: v4 :: .int x :: ls) st hp = ab_X rom K cX0_narrowestPoint 0 1 42 (v0 :: v1 :: v2 :: v3 :: v4 :: .int x :: ls) (.int x :: st) hp := ax_iload dX0_narrowestPoint_40 rfl rfl
theorem dX0_narrowestPoint_42 : decode cX0_narrowestPoint 42 = .ok (.iload_n 3, 1) := by decide +kernel
theorem sX0_narrowestPoint_42 : ab_X rom K cX0_narrowestPoint 0 1 42 (v0 :: v1 :: v2 :: .int x :: ls) st hp = ab_X rom K cX0_narrowestPoint 0 1 43 (v0 :: v1 :: v2 :: .int x :: ls) (.int x :: st) hp := ax_iload_n dX0_narrowestPoint_42 rfl rfl
theorem dX0_narrowestPoint_43 : decode cX0_narrowestPoint 43 = .ok (.if_icmp .ge 9, 3) := by decide +kernel
theorem sX0_narrowestPoint_43 : ab_X rom K cX0_narrowestPoint 0 1 43 ls (.int y :: .int x :: st) hp = if x < y then ab_X rom K cX0_narrowestPoint 0 1 46 ls st hp else ab_X rom K cX0_narrowestPoint 0 1 52 ls st hp := ax_icmp_ge dX0_narrowestPoint_43 (by decide) rfl
theorem dX0_narrowestPoint_46 : decode cX0_narrowestPoint 46 = .ok (.iload 4, 2) := by decide +kernel
theorem sX0_narrowestPoint_46 : ab_X rom K cX0_narrowestPoint 0 1 46 (v0 :: v1 :: v2 :: v3 :: .int x :: ls) st hp = ab_X rom K cX0_narrowestPoint 0 1 48 (v0 :: v1 :: v2 :: v3 :: .int x :: ls) (.int x :: st) hp := ax_iload dX0_narrowestPoint_46 rfl rfl
theorem dX0_narrowestPoint_48 : decode cX0_narrowestPoint 48 = .ok (.istore_n 2, 1) := by decide +kernel
theorem sX0_narrowestPoint_48i : ab_X rom K cX0_narrowestPoint 0 1 48 (v0 :: .int y :: v2 :: ls) (.int x :: st) hp = ab_X rom K cX0_narrowestPoint 0 1 49 (v0 :: .int y :: .int x :: ls) st hp := ax_istore_n dX0_narrowestPoint_48 (ax_lt (v := v2) rfl) (ab_nl_c1 (j := 1) (v := .int y) rfl (ab_c1_int _)) rfl rfl
theorem sX0_narrowestPoint_48r : ab_X rom K cX0_narrowestPoint 0 1 48 (v0 :: .ref a2 :: v2 :: ls) (.int x :: st) hp = ab_X rom K cX0_narrowestPoint 0 1 49 (v0 :: .ref a2 :: .int x :: ls) st hp := ax_istore_n dX0_narrowestPoint_48 (ax_lt (v := v2) rfl) (ab_nl_c1 (j := 1) (v := .ref a2) rfl (ab_c1_ref _)) rfl rfl
theorem sX0_narrowestPoint_48n : ab_X rom K cX0_narrowestPoint 0 1 48 (v0 :: .null :: v2 :: ls) (.int x :: st) hp = ab_X rom K cX0_narrowestPoint 0 1 49 (v0 :: .null :: .int x :: ls) st hp := ax_istore_n dX0_narrowestPoint_48 (ax_lt (v := v2) rfl) (ab_nl_c1 (j := 1) (v := .null) rfl ab_c1_null) rfl rfl
theorem dX0_narrowestPoint_49 : decode cX0_narrowestPoint 49 = .ok (.iload 5, 2) := by decide +kernel
theorem sX0_narrowestPoint_49 : ab_X rom K cX0_narrowestPoint 0 1 49 (v0 :: v1 :: v2 :: v3 :: v4 :: .int x :: ls) st hp = ab_X rom K cX0_narrowestPoint 0 1 51 (v0 :: v1 :: v2 :: v3 :: v4 :: .int x :: ls) (.int x :: st) hp := ax_iload dX0_narrowestPoint_49 rfl rfl
theorem dX0_narrowestPoint_51 : decode cX0_narrowestPoint 51 = .ok (.istore_n 3, 1) := by decide +kernel
theorem sX0_narrowestPoint_51i : ab_X rom K cX0_narrowestPoint 0 1 51 (v0 :: v1 :: .int y :: v3 :: ls) (.int x :: st) hp = ab_X rom K cX0_narrowestPoint 0 1 52 (v0 :: v1 :: .int y :: .int x :: ls) st hp := ax_istore_n dX0_narrowestPoint_51 (ax_lt (v := v3) rfl) (ab_nl_c1 (j := 2) (v := .int y) rfl (ab_c1_int _)) rfl rfl
theorem sX0_narrowestPoint_51r : ab_X rom K cX0_narrowestPoint 0 1 51 (v0 :: v1 :: .ref a2 :: v3 :: ls) (.int x :: st) hp = ab_X rom K cX0_narrowestPoint 0 1 52 (v0 :: v1 :: .ref a2 :: .int x :: ls) st hp := ax_istore_n dX0_narrowestPoint_51 (ax_lt (v := v3) rfl) (ab_nl_c1 (j := 2) (v := .ref a2) rfl (ab_c1_ref _)) rfl rfl
theorem sX0_narrowestPoint_51n : ab_X rom K cX0_narrowestPoint 0 1 51 (v0 :: v1 :: .null :: v3 :: ls) (.int x :: st) hp = ab_X rom K cX0_narrowestPoint 0 1 52 (v0 :: v1 :: .null :: .int x :: ls) st hp := ax_istore_n dX0_narrowestPoint_51 (ax_lt (v := v3) rfl) (ab_nl_c1 (j := 2) (v := .null) rfl ab_c1_null) rfl rfl
theorem dX0_narrowestPoint_52 : decode cX0_narrowestPoint 52 = .ok (.iinc 4 1, 3) := by decide +kernel
theorem sX0_narrowestPoint_52i : ab_X rom K cX0_narrowestPoint 0 1 52 (v0 :: v1 :: v2 :: .int y :: .int x :: ls) st hp = ab_X rom K cX0_narrowestPoint 0 1 55 (v0 :: v1 :: v2 :: .int y :: .int (x + 1) :: ls) st hp := ax_iinc dX0_narrowestPoint_52 rfl (ab_nl_c1 (j := 3) (v := .int y) rfl (ab_c1_int _)) (by decide) rfl rfl
theorem sX0_narrowestPoint_52r : ab_X rom K cX0_narrowestPoint 0 1 52 (v0 :: v1 :: v2 :: .ref a2 :: .int x :: ls) st hp = ab_X rom K cX0_narrowestPoint 0 1 55 (v0 :: v1 :: v2 :: .ref a2 :: .int (x + 1) :: ls) st hp := ax_iinc dX0_narrowestPoint_52 rfl (ab_nl_c1 (j := 3) (v := .ref a2) rfl (ab_c1_ref _)) (by decide) rfl rfl
theorem sX0_narrowestPoint_52n : ab_X rom K cX0_narrowestPoint 0 1 52 (v0 :: v1 :: v2 :: .null :: .int x :: ls) st hp = ab_X rom K cX0_narrowestPoint 0 1 55 (v0 :: v1 :: v2 :: .null :: .int (x + 1) :: ls) st hp := ax_iinc dX0_narrowestPoint_52 rfl (ab_nl_c1 (j := 3) (v := .null) rfl ab_c1_null) (by decide) rfl rfl
theorem dX0_narrowestPoint_55 : decode cX0_narrowestPoint 55 = .ok (.goto (-47), 3) := by decide +kernel
theorem sX0_narrowestPoint_55 : ab_X rom K cX0_narrowestPoint 0 1 55 ls st hp = ab_X rom K cX0_narrowestPoint 0 1 8 ls st hp := ax_goto dX0_narrowestPoint_55 (by decide)
theorem dX0_narrowestPoint_58 : decode cX0_narrowestPoint 58 = .ok (.iload_n 2, 1) := by decide +kernel
theorem sX0_narrowestPoint_58 : ab_X rom K cX0_narrowestPoint 0 1 58 (v0 :: v1 :: .int x :: ls) st hp = ab_X rom K cX0_narrowestPoint 0 1 59 (v0 :: v1 :: .int x :: ls) (.int x :: st) hp := ax_iload_n dX0_narrowestPoint_58 rfl rfl
theorem dX0_narrowestPoint_59 : decode cX0_narrowestPoint 59 = .ok (.ireturn, 1) := by decide +kernel
theorem sX0_narrowestPoint_59 : ab_X rom K cX0_narrowestPoint 0 1 59 ls [.int x] hp = some (some (.int x), hp) := ax_iret dX0_narrowestPoint_59 rfl
theorem tX0_readOnlyOne : ab_mT[10]? = some (yX0_readOnlyOne, cX0_readOnlyOne, 3, 0, 0) := by decide +kernel
theorem mX0_readOnlyOne {d : Nat} {a0 : Nat} {r0 : Nat} : ab_M rom (d + 1) 10 [.ref a0, .ref r0] hp = ab_X rom (ab_M rom d) cX0_readOnlyOne 0 0 0 [.ref a0, .ref r0, .null] [] hp := ab_M_eq tX0_readOnlyOne (Nat.le_of_ble_eq_true rfl)
theorem dX0_readOnlyOne_0 : decode cX0_readOnlyOne 0 = .ok (.iconst 0, 1) := by decide +kernel
theorem sX0_readOnlyOne_0 : ab_X rom K cX0_readOnlyOne 0 0 0 ls st hp = ab_X rom K cX0_readOnlyOne 0 0 1 ls (.int 0 :: st) hp := ax_iconst dX0_readOnlyOne_0 (by decide) rfl
theorem dX0_readOnlyOne_1 : decode cX0_readOnlyOne 1 = .ok (.istore_n 2, 1) := by decide +kernel
theorem sX0_readOnlyOne_1i : ab_X rom K cX0_readOnlyOne 0 0 1 (v0 :: .int y :: v2 :: ls) (.int x :: st) hp = ab_X rom K cX0_readOnlyOne 0 0 2 (v0 :: .int y :: .int x :: ls) st hp := ax_istore_n dX0_readOnlyOne_1 (ax_lt (v := v2) rfl) (ab_nl_c1 (j := 1) (v := .int y) rfl (ab_c1_int _)) rfl rfl
theorem sX0_readOnlyOne_1r : ab_X rom K cX0_readOnlyOne 0 0 1 (v0 :: .ref a2 :: v2 :: ls) (.int x :: st) hp = ab_X rom K cX0_readOnlyOne 0 0 2 (v0 :: .ref a2 :: .int x :: ls) st hp := ax_istore_n dX0_readOnlyOne_1 (ax_lt (v := v2) rfl) (ab_nl_c1 (j := 1) (v := .ref a2) rfl (ab_c1_ref _)) rfl rfl
theorem sX0_readOnlyOne_1n : ab_X rom K cX0_readOnlyOne 0 0 1 (v0 :: .null :: v2 :: ls) (.int x :: st) hp = ab_X rom K cX0_readOnlyOne 0 0 2 (v0 :: .null :: .int x :: ls) st hp := ax_istore_n dX0_readOnlyOne_1 (ax_lt (v := v2) rfl) (ab_nl_c1 (j := 1) (v := .null) rfl ab_c1_null) rfl rfl
theorem dX0_readOnlyOne_2 : decode cX0_readOnlyOne 2 = .ok (.iload_n 2, 1) := by decide +kernel
theorem sX0_readOnlyOne_2 : ab_X rom K cX0_readOnlyOne 0 0 2 (v0 :: v1 :: .int x :: ls) st hp = ab_X rom K cX0_readOnlyOne 0 0 3 (v0 :: v1 :: .int x :: ls) (.int x :: st) hp := ax_iload_n dX0_readOnlyOne_2 rfl rfl
theorem dX0_readOnlyOne_3 : decode cX0_readOnlyOne 3 = .ok (.aload_n 1, 1) := by decide +kernel
theorem sX0_readOnlyOne_3 : ab_X rom K cX0_readOnlyOne 0 0 3 (v0 :: .ref a :: ls) st hp = ab_X rom K cX0_readOnlyOne 0 0 4 (v0 :: .ref a :: ls) (.ref a :: st) hp := ax_aload_n dX0_readOnlyOne_3 rfl rfl
theorem dX0_readOnlyOne_4 : decode cX0_readOnlyOne 4 = .ok (.getfield 50, 3) := by decide +kernel
theorem sX0_readOnlyOne_4 : ab_X rom K cX0_readOnlyOne 0 0 4 ls (.ref a :: st) hp = (ab_fld hp a 1 0).bind (fun v => ab_X rom K cX0_readOnlyOne 0 0 7 ls (v :: st) hp) := ax_getfield dX0_readOnlyOne_4 kf_0_50 rfl
theorem dX0_readOnlyOne_7 : decode cX0_readOnlyOne 7 = .ok (.if_icmp .ge 24, 3) := by decide +kernel
theorem sX0_readOnlyOne_7 : ab_X rom K cX0_readOnlyOne 0 0 7 ls (.int y :: .int x :: st) hp = if x < y then ab_X rom K cX0_readOnlyOne 0 0 10 ls st hp else ab_X rom K cX0_readOnlyOne 0 0 31 ls st hp := ax_icmp_ge dX0_readOnlyOne_7 (by decide) rfl
theorem dX0_readOnlyOne_10 : decode cX0_readOnlyOne 10 = .ok (.aload_n 1, 1) := by decide +kernel
theorem sX0_readOnlyOne_10 : ab_X rom K cX0_readOnlyOne 0 0 10 (v0 :: .ref a :: ls) st hp = ab_X rom K cX0_readOnlyOne 0 0 11 (v0 :: .ref a :: ls) (.ref a :: st) hp := ax_aload_n dX0_readOnlyOne_10 rfl rfl
theorem dX0_readOnlyOne_11 : decode cX0_readOnlyOne 11 = .ok (.getfield 55, 3) := by decide +kernel
theorem sX0_readOnlyOne_11 : ab_X rom K cX0_readOnlyOne 0 0 11 ls (.ref a :: st) hp = (ab_fld hp a 1 4).bind (fun v => ab_X rom K cX0_readOnlyOne 0 0 14 ls (v :: st) hp) := ax_getfield dX0_readOnlyOne_11 kf_0_55 rfl
theorem dX0_readOnlyOne_14 : decode cX0_readOnlyOne 14 = .ok (.iload_n 2, 1) := by decide +kernel
theorem sX0_readOnlyOne_14 : ab_X rom K cX0_readOnlyOne 0 0 14 (v0 :: v1 :: .int x :: ls) st hp = ab_X rom K cX0_readOnlyOne 0 0 15 (v0 :: v1 :: .int x :: ls) (.int x :: st) hp := ax_iload_n dX0_readOnlyOne_14 rfl rfl
theorem dX0_readOnlyOne_15 : decode cX0_readOnlyOne 15 = .ok (.aload_n 0, 1) := by decide +kernel
theorem sX0_readOnlyOne_15 : ab_X rom K cX0_readOnlyOne 0 0 15 (.ref a :: ls) st hp = ab_X rom K cX0_readOnlyOne 0 0 16 (.ref a :: ls) (.ref a :: st) hp := ax_aload_n dX0_readOnlyOne_15 rfl rfl
theorem dX0_readOnlyOne_16 : decode cX0_readOnlyOne 16 = .ok (.getfield 15, 3) := by decide +kernel
theorem sX0_readOnlyOne_16 : ab_X rom K cX0_readOnlyOne 0 0 16 ls (.ref a :: st) hp = (ab_fld hp a 0 1).bind (fun v => ab_X rom K cX0_readOnlyOne 0 0 19 ls (v :: st) hp) := ax_getfield dX0_readOnlyOne_16 kf_0_15 rfl
theorem dX0_readOnlyOne_19 : decode cX0_readOnlyOne 19 = .ok (.iload_n 2, 1) := by decide +kernel
theorem sX0_readOnlyOne_19 : ab_X rom K cX0_readOnlyOne 0 0 19 (v0 :: v1 :: .int x :: ls) st hp = ab_X rom K cX0_readOnlyOne 0 0 20 (v0 :: v1 :: .int x :: ls) (.int x :: st) hp := ax_iload_n dX0_readOnlyOne_19 rfl rfl
theorem dX0_readOnlyOne_20 : decode cX0_readOnlyOne 20 = .ok (.iaload, 1) := by decide +kernel
theorem sX0_readOnlyOne_20 : ab_X rom K cX0_readOnlyOne 0 0 20 ls (.int x :: .ref a :: st) hp = (ab_ard rom 0 hp a x).bind (fun v => ab_X rom K cX0_readOnlyOne 0 0 21 ls (.int v :: st) hp) := ax_iaload dX0_readOnlyOne_20 rfl
theorem dX0_readOnlyOne_21 : decode cX0_readOnlyOne 21 = .ok (.invokestatic 58, 3) := by decide +kernel
theorem sX0_readOnlyOne_21_0 : ab_X rom K cX0_readOnlyOne 0 0 21 ls [w1] hp = (K 265 [w1] hp).bind (fun o => ab_X rom K cX0_readOnlyOne 0 0 24 ls (o.1.toList ++ []) o.2) := ax_static (as := [w1]) (st := []) dX0_readOnlyOne_21 kc_0_58 rfl rfl (Nat.le_of_ble_eq_true rfl)
theorem sX0_readOnlyOne_21_1 : ab_X rom K cX0_readOnlyOne 0 0 21 ls [w1, v0] hp = (K 265 [w1] hp).bind (fun o => ab_X rom K cX0_readOnlyOne 0 0 24 ls (o.1.toList ++ [v0]) o.2) := ax_static (as := [w1]) (st := [v0]) dX0_readOnlyOne_21 kc_0_58 rfl rfl (Nat.le_of_ble_eq_true rfl)
theorem sX0_readOnlyOne_21_2 : ab_X rom K cX0_readOnlyOne 0 0 21 ls [w1, v0, v1] hp = (K 265 [w1] hp).bind (fun o => ab_X rom K cX0_readOnlyOne 0 0 24 ls (o.1.toList ++ [v0, v1]) o.2) := ax_static (as := [w1]) (st := [v0, v1]) dX0_readOnlyOne_21 kc_0_58 rfl rfl (Nat.le_of_ble_eq_true rfl)
theorem sX0_readOnlyOne_21_3 : ab_X rom K cX0_readOnlyOne 0 0 21 ls [w1, v0, v1, v2] hp = (K 265 [w1] hp).bind (fun o => ab_X rom K cX0_readOnlyOne 0 0 24 ls (o.1.toList ++ [v0, v1, v2]) o.2) := ax_static (as := [w1]) (st := [v0, v1, v2]) dX0_readOnlyOne_21 kc_0_58 rfl rfl (Nat.le_of_ble_eq_true rfl)
theorem dX0_readOnlyOne_24 : decode cX0_readOnlyOne 24 = .ok (.iastore, 1) := by decide +kernel
theorem sX0_readOnlyOne_24 : ab_X rom K cX0_readOnlyOne 0 0 24 ls (.int y :: .int x :: .ref a :: st) hp = (ab_awr 0 hp a x y).bind (fun hp' => ab_X rom K cX0_readOnlyOne 0 0 25 ls st hp') := ax_iastore dX0_readOnlyOne_24 rfl
theorem dX0_readOnlyOne_25 : decode cX0_readOnlyOne 25 = .ok (.iinc 2 1, 3) := by decide +kernel
theorem sX0_readOnlyOne_25i : ab_X rom K cX0_readOnlyOne 0 0 25 (v0 :: .int y :: .int x :: ls) st hp = ab_X rom K cX0_readOnlyOne 0 0 28 (v0 :: .int y :: .int (x + 1) :: ls) st hp := ax_iinc dX0_readOnlyOne_25 rfl (ab_nl_c1 (j := 1) (v := .int y) rfl (ab_c1_int _)) (by decide) rfl rfl
theorem sX0_readOnlyOne_25r : ab_X rom K cX0_readOnlyOne 0 0 25 (v0 :: .ref a2 :: .int x :: ls) st hp = ab_X rom K cX0_readOnlyOne 0 0 28 (v0 :: .ref a2 :: .int (x + 1) :: ls) st hp := ax_iinc dX0_readOnlyOne_25 rfl (ab_nl_c1 (j := 1) (v := .ref a2) rfl (ab_c1_ref _)) (by decide) rfl rfl
theorem sX0_readOnlyOne_25n : ab_X rom K cX0_readOnlyOne 0 0 25 (v0 :: .null :: .int x :: ls) st hp = ab_X rom K cX0_readOnlyOne 0 0 28 (v0 :: .null :: .int (x + 1) :: ls) st hp := ax_iinc dX0_readOnlyOne_25 rfl (ab_nl_c1 (j := 1) (v := .null) rfl ab_c1_null) (by decide) rfl rfl
theorem dX0_readOnlyOne_28 : decode cX0_readOnlyOne 28 = .ok (.goto (-26), 3) := by decide +kernel
theorem sX0_readOnlyOne_28 : ab_X rom K cX0_readOnlyOne 0 0 28 ls st hp = ab_X rom K cX0_readOnlyOne 0 0 2 ls st hp := ax_goto dX0_readOnlyOne_28 (by decide)
theorem dX0_readOnlyOne_31 : decode cX0_readOnlyOne 31 = .ok (.return_, 1) := by decide +kernel
theorem sX0_readOnlyOne_31 : ab_X rom K cX0_readOnlyOne 0 0 31 ls [] hp = some (none, hp) := ax_vret dX0_readOnlyOne_31 (by decide)
end
