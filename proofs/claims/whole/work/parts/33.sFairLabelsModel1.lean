/-! FairLabelsModel: its methods step by step (printed by wip/whole/gen_steps.py) -/
section
variable {rom : List (List Int32)} {K : Nat → List Value → ab_H → Option ab_O} {ls st : List Value} {hp : ab_H} {x y z : Int32} {a a2 : Nat} {sp dp : Int32} {u w : Int64} {v0 v1 v2 v3 v4 v5 v6 v7 v8 v9 v10 v11 v12 v13 v14 v15 w1 w2 w3 w4 w5 w6 : Value}
theorem tX9_feed : ab_mT[153]? = some (yX9_feed, cX9_feed, 8, 1, 7) := by decide +kernel
theorem mX9_feed {d : Nat} {a0 : Nat} {x0 : Int32} {x1 : Int32} {x2 : Int32} {x3 : Int32} {x4 : Int32} : ab_M rom (d + 1) 153 [.ref a0, .int x0, .int x1, .int x2, .int x3, .int x4] hp = ab_X rom (ab_M rom d) cX9_feed 7 1 0 [.ref a0, .int x0, .int x1, .int x2, .int x3, .int x4, .null, .null] [] hp := ab_M_eq tX9_feed (Nat.le_of_ble_eq_true rfl)
theorem dX9_feed_0 : decode cX9_feed 0 = .ok (.aload_n 0, 1) := by decide +kernel
theorem sX9_feed_0 : ab_X rom K cX9_feed 7 1 0 (.ref a :: ls) st hp = ab_X rom K cX9_feed 7 1 1 (.ref a :: ls) (.ref a :: st) hp := ax_aload_n dX9_feed_0 rfl rfl
theorem dX9_feed_1 : decode cX9_feed 1 = .ok (.getfield 97, 3) := by decide +kernel
theorem sX9_feed_1 : ab_X rom K cX9_feed 7 1 1 ls (.ref a :: st) hp = (ab_fld hp a 7 5).bind (fun v => ab_X rom K cX9_feed 7 1 4 ls (v :: st) hp) := ax_getfield dX9_feed_1 kf_7_97 rfl
theorem dX9_feed_4 : decode cX9_feed 4 = .ok (.sipush 380, 3) := by decide +kernel
theorem sX9_feed_4 : ab_X rom K cX9_feed 7 1 4 ls st hp = ab_X rom K cX9_feed 7 1 7 ls (.int 380 :: st) hp := ax_sipush dX9_feed_4 (by decide) rfl
theorem dX9_feed_7 : decode cX9_feed 7 = .ok (.if_icmp .le 5, 3) := by decide +kernel
theorem sX9_feed_7 : ab_X rom K cX9_feed 7 1 7 ls (.int y :: .int x :: st) hp = if y < x then ab_X rom K cX9_feed 7 1 10 ls st hp else ab_X rom K cX9_feed 7 1 12 ls st hp := ax_icmp_le dX9_feed_7 (by decide) rfl
theorem dX9_feed_10 : decode cX9_feed 10 = .ok (.iconst (-1), 1) := by decide +kernel
theorem sX9_feed_10 : ab_X rom K cX9_feed 7 1 10 ls st hp = ab_X rom K cX9_feed 7 1 11 ls (.int (-1) :: st) hp := ax_iconst dX9_feed_10 (by decide) rfl
theorem dX9_feed_11 : decode cX9_feed 11 = .ok (.ireturn, 1) := by decide +kernel
theorem sX9_feed_11 : ab_X rom K cX9_feed 7 1 11 ls [.int x] hp = some (some (.int x), hp) := ax_iret dX9_feed_11 rfl
theorem dX9_feed_12 : decode cX9_feed 12 = .ok (.iconst 5, 1) := by decide +kernel
theorem sX9_feed_12 : ab_X rom K cX9_feed 7 1 12 ls st hp = ab_X rom K cX9_feed 7 1 13 ls (.int 5 :: st) hp := ax_iconst dX9_feed_12 (by decide) rfl
theorem dX9_feed_13 : decode cX9_feed 13 = .ok (.newarray .int, 2) := by decide +kernel
theorem sX9_feed_13 : ab_X rom K cX9_feed 7 1 13 ls (.int x :: st) hp = if ¬ x < 0 ∧ x.toNatClampNeg ≤ 1000 ∧ hp.length < ab_RO then ab_X rom K cX9_feed 7 1 15 ls (.ref hp.length :: st) (hp ++ [.inl (0, List.replicate x.toNatClampNeg 0)]) else none := ay_newint dX9_feed_13 rfl
theorem dX9_feed_15 : decode cX9_feed 15 = .ok (.dup, 1) := by decide +kernel
theorem sX9_feed_15i : ab_X rom K cX9_feed 7 1 15 ls (.int x :: st) hp = ab_X rom K cX9_feed 7 1 16 ls (.int x :: .int x :: st) hp := ax_dup dX9_feed_15 rfl (ab_c1_int _)
theorem sX9_feed_15r : ab_X rom K cX9_feed 7 1 15 ls (.ref a :: st) hp = ab_X rom K cX9_feed 7 1 16 ls (.ref a :: .ref a :: st) hp := ax_dup dX9_feed_15 rfl (ab_c1_ref _)
theorem dX9_feed_16 : decode cX9_feed 16 = .ok (.iconst 0, 1) := by decide +kernel
theorem sX9_feed_16 : ab_X rom K cX9_feed 7 1 16 ls st hp = ab_X rom K cX9_feed 7 1 17 ls (.int 0 :: st) hp := ax_iconst dX9_feed_16 (by decide) rfl
theorem dX9_feed_17 : decode cX9_feed 17 = .ok (.iload_n 1, 1) := by decide +kernel
theorem sX9_feed_17 : ab_X rom K cX9_feed 7 1 17 (v0 :: .int x :: ls) st hp = ab_X rom K cX9_feed 7 1 18 (v0 :: .int x :: ls) (.int x :: st) hp := ax_iload_n dX9_feed_17 rfl rfl
theorem dX9_feed_18 : decode cX9_feed 18 = .ok (.iastore, 1) := by decide +kernel
theorem sX9_feed_18 : ab_X rom K cX9_feed 7 1 18 ls (.int y :: .int x :: .ref a :: st) hp = (ab_awr 0 hp a x y).bind (fun hp' => ab_X rom K cX9_feed 7 1 19 ls st hp') := ax_iastore dX9_feed_18 rfl
theorem dX9_feed_19 : decode cX9_feed 19 = .ok (.dup, 1) := by decide +kernel
theorem sX9_feed_19i : ab_X rom K cX9_feed 7 1 19 ls (.int x :: st) hp = ab_X rom K cX9_feed 7 1 20 ls (.int x :: .int x :: st) hp := ax_dup dX9_feed_19 rfl (ab_c1_int _)
theorem sX9_feed_19r : ab_X rom K cX9_feed 7 1 19 ls (.ref a :: st) hp = ab_X rom K cX9_feed 7 1 20 ls (.ref a :: .ref a :: st) hp := ax_dup dX9_feed_19 rfl (ab_c1_ref _)
theorem dX9_feed_20 : decode cX9_feed 20 = .ok (.iconst 1, 1) := by decide +kernel
theorem sX9_feed_20 : ab_X rom K cX9_feed 7 1 20 ls st hp = ab_X rom K cX9_feed 7 1 21 ls (.int 1 :: st) hp := ax_iconst dX9_feed_20 (by decide) rfl
theorem dX9_feed_21 : decode cX9_feed 21 = .ok (.iload_n 2, 1) := by decide +kernel
theorem sX9_feed_21 : ab_X rom K cX9_feed 7 1 21 (v0 :: v1 :: .int x :: ls) st hp = ab_X rom K cX9_feed 7 1 22 (v0 :: v1 :: .int x :: ls) (.int x :: st) hp := ax_iload_n dX9_feed_21 rfl rfl
theorem dX9_feed_22 : decode cX9_feed 22 = .ok (.iastore, 1) := by decide +kernel
theorem sX9_feed_22 : ab_X rom K cX9_feed 7 1 22 ls (.int y :: .int x :: .ref a :: st) hp = (ab_awr 0 hp a x y).bind (fun hp' => ab_X rom K cX9_feed 7 1 23 ls st hp') := ax_iastore dX9_feed_22 rfl
theorem dX9_feed_23 : decode cX9_feed 23 = .ok (.dup, 1) := by decide +kernel
theorem sX9_feed_23i : ab_X rom K cX9_feed 7 1 23 ls (.int x :: st) hp = ab_X rom K cX9_feed 7 1 24 ls (.int x :: .int x :: st) hp := ax_dup dX9_feed_23 rfl (ab_c1_int _)
theorem sX9_feed_23r : ab_X rom K cX9_feed 7 1 23 ls (.ref a :: st) hp = ab_X rom K cX9_feed 7 1 24 ls (.ref a :: .ref a :: st) hp := ax_dup dX9_feed_23 rfl (ab_c1_ref _)
theorem dX9_feed_24 : decode cX9_feed 24 = .ok (.iconst 2, 1) := by decide +kernel
theorem sX9_feed_24 : ab_X rom K cX9_feed 7 1 24 ls st hp = ab_X rom K cX9_feed 7 1 25 ls (.int 2 :: st) hp := ax_iconst dX9_feed_24 (by decide) rfl
theorem dX9_feed_25 : decode cX9_feed 25 = .ok (.iload_n 3, 1) := by decide +kernel
theorem sX9_feed_25 : ab_X rom K cX9_feed 7 1 25 (v0 :: v1 :: v2 :: .int x :: ls) st hp = ab_X rom K cX9_feed 7 1 26 (v0 :: v1 :: v2 :: .int x :: ls) (.int x :: st) hp := ax_iload_n dX9_feed_25 rfl rfl
theorem dX9_feed_26 : decode cX9_feed 26 = .ok (.iastore, 1) := by decide +kernel
theorem sX9_feed_26 : ab_X rom K cX9_feed 7 1 26 ls (.int y :: .int x :: .ref a :: st) hp = (ab_awr 0 hp a x y).bind (fun hp' => ab_X rom K cX9_feed 7 1 27 ls st hp') := ax_iastore dX9_feed_26 rfl
theorem dX9_feed_27 : decode cX9_feed 27 = .ok (.dup, 1) := by decide +kernel
theorem sX9_feed_27i : ab_X rom K cX9_feed 7 1 27 ls (.int x :: st) hp = ab_X rom K cX9_feed 7 1 28 ls (.int x :: .int x :: st) hp := ax_dup dX9_feed_27 rfl (ab_c1_int _)
theorem sX9_feed_27r : ab_X rom K cX9_feed 7 1 27 ls (.ref a :: st) hp = ab_X rom K cX9_feed 7 1 28 ls (.ref a :: .ref a :: st) hp := ax_dup dX9_feed_27 rfl (ab_c1_ref _)
theorem dX9_feed_28 : decode cX9_feed 28 = .ok (.iconst 3, 1) := by decide +kernel
theorem sX9_feed_28 : ab_X rom K cX9_feed 7 1 28 ls st hp = ab_X rom K cX9_feed 7 1 29 ls (.int 3 :: st) hp := ax_iconst dX9_feed_28 (by decide) rfl
theorem dX9_feed_29 : decode cX9_feed 29 = .ok (.iload 4, 2) := by decide +kernel
theorem sX9_feed_29 : ab_X rom K cX9_feed 7 1 29 (v0 :: v1 :: v2 :: v3 :: .int x :: ls) st hp = ab_X rom K cX9_feed 7 1 31 (v0 :: v1 :: v2 :: v3 :: .int x :: ls) (.int x :: st) hp := ax_iload dX9_feed_29 rfl rfl
theorem dX9_feed_31 : decode cX9_feed 31 = .ok (.iastore, 1) := by decide +kernel
theorem sX9_feed_31 : ab_X rom K cX9_feed 7 1 31 ls (.int y :: .int x :: .ref a :: st) hp = (ab_awr 0 hp a x y).bind (fun hp' => ab_X rom K cX9_feed 7 1 32 ls st hp') := ax_iastore dX9_feed_31 rfl
theorem dX9_feed_32 : decode cX9_feed 32 = .ok (.dup, 1) := by decide +kernel
theorem sX9_feed_32i : ab_X rom K cX9_feed 7 1 32 ls (.int x :: st) hp = ab_X rom K cX9_feed 7 1 33 ls (.int x :: .int x :: st) hp := ax_dup dX9_feed_32 rfl (ab_c1_int _)
theorem sX9_feed_32r : ab_X rom K cX9_feed 7 1 32 ls (.ref a :: st) hp = ab_X rom K cX9_feed 7 1 33 ls (.ref a :: .ref a :: st) hp := ax_dup dX9_feed_32 rfl (ab_c1_ref _)
theorem dX9_feed_33 : decode cX9_feed 33 = .ok (.iconst 4, 1) := by decide +kernel
theorem sX9_feed_33 : ab_X rom K cX9_feed 7 1 33 ls st hp = ab_X rom K cX9_feed 7 1 34 ls (.int 4 :: st) hp := ax_iconst dX9_feed_33 (by decide) rfl
theorem dX9_feed_34 : decode cX9_feed 34 = .ok (.iload 5, 2) := by decide +kernel
theorem sX9_feed_34 : ab_X rom K cX9_feed 7 1 34 (v0 :: v1 :: v2 :: v3 :: v4 :: .int x :: ls) st hp = ab_X rom K cX9_feed 7 1 36 (v0 :: v1 :: v2 :: v3 :: v4 :: .int x :: ls) (.int x :: st) hp := ax_iload dX9_feed_34 rfl rfl
theorem dX9_feed_36 : decode cX9_feed 36 = .ok (.iastore, 1) := by decide +kernel
theorem sX9_feed_36 : ab_X rom K cX9_feed 7 1 36 ls (.int y :: .int x :: .ref a :: st) hp = (ab_awr 0 hp a x y).bind (fun hp' => ab_X rom K cX9_feed 7 1 37 ls st hp') := ax_iastore dX9_feed_36 rfl
theorem dX9_feed_37 : decode cX9_feed 37 = .ok (.astore 6, 2) := by decide +kernel
theorem sX9_feed_37i : ab_X rom K cX9_feed 7 1 37 (v0 :: v1 :: v2 :: v3 :: v4 :: .int y :: v6 :: ls) (.ref a :: st) hp = ab_X rom K cX9_feed 7 1 39 (v0 :: v1 :: v2 :: v3 :: v4 :: .int y :: .ref a :: ls) st hp := ax_astore dX9_feed_37 (ax_lt (v := v6) rfl) (ab_nl_c1 (j := 5) (v := .int y) rfl (ab_c1_int _)) rfl rfl
theorem sX9_feed_37r : ab_X rom K cX9_feed 7 1 37 (v0 :: v1 :: v2 :: v3 :: v4 :: .ref a2 :: v6 :: ls) (.ref a :: st) hp = ab_X rom K cX9_feed 7 1 39 (v0 :: v1 :: v2 :: v3 :: v4 :: .ref a2 :: .ref a :: ls) st hp := ax_astore dX9_feed_37 (ax_lt (v := v6) rfl) (ab_nl_c1 (j := 5) (v := .ref a2) rfl (ab_c1_ref _)) rfl rfl
theorem sX9_feed_37n : ab_X rom K cX9_feed 7 1 37 (v0 :: v1 :: v2 :: v3 :: v4 :: .null :: v6 :: ls) (.ref a :: st) hp = ab_X rom K cX9_feed 7 1 39 (v0 :: v1 :: v2 :: v3 :: v4 :: .null :: .ref a :: ls) st hp := ax_astore dX9_feed_37 (ax_lt (v := v6) rfl) (ab_nl_c1 (j := 5) (v := .null) rfl ab_c1_null) rfl rfl
theorem dX9_feed_39 : decode cX9_feed 39 = .ok (.iconst 0, 1) := by decide +kernel
theorem sX9_feed_39 : ab_X rom K cX9_feed 7 1 39 ls st hp = ab_X rom K cX9_feed 7 1 40 ls (.int 0 :: st) hp := ax_iconst dX9_feed_39 (by decide) rfl
theorem dX9_feed_40 : decode cX9_feed 40 = .ok (.istore 7, 2) := by decide +kernel
theorem sX9_feed_40i : ab_X rom K cX9_feed 7 1 40 (v0 :: v1 :: v2 :: v3 :: v4 :: v5 :: .int y :: v7 :: ls) (.int x :: st) hp = ab_X rom K cX9_feed 7 1 42 (v0 :: v1 :: v2 :: v3 :: v4 :: v5 :: .int y :: .int x :: ls) st hp := ax_istore dX9_feed_40 (ax_lt (v := v7) rfl) (ab_nl_c1 (j := 6) (v := .int y) rfl (ab_c1_int _)) rfl rfl
theorem sX9_feed_40r : ab_X rom K cX9_feed 7 1 40 (v0 :: v1 :: v2 :: v3 :: v4 :: v5 :: .ref a2 :: v7 :: ls) (.int x :: st) hp = ab_X rom K cX9_feed 7 1 42 (v0 :: v1 :: v2 :: v3 :: v4 :: v5 :: .ref a2 :: .int x :: ls) st hp := ax_istore dX9_feed_40 (ax_lt (v := v7) rfl) (ab_nl_c1 (j := 6) (v := .ref a2) rfl (ab_c1_ref _)) rfl rfl
theorem sX9_feed_40n : ab_X rom K cX9_feed 7 1 40 (v0 :: v1 :: v2 :: v3 :: v4 :: v5 :: .null :: v7 :: ls) (.int x :: st) hp = ab_X rom K cX9_feed 7 1 42 (v0 :: v1 :: v2 :: v3 :: v4 :: v5 :: .null :: .int x :: ls) st hp := ax_istore dX9_feed_40 (ax_lt (v := v7) rfl) (ab_nl_c1 (j := 6) (v := .null) rfl ab_c1_null) rfl rfl
theorem dX9_feed_42 : decode cX9_feed 42 = .ok (.iload 7, 2) := by decide +kernel
theorem sX9_feed_42 : ab_X rom K cX9_feed 7 1 42 (v0 :: v1 :: v2 :: v3 :: v4 :: v5 :: v6 :: .int x :: ls) st hp = ab_X rom K cX9_feed 7 1 44 (v0 :: v1 :: v2 :: v3 :: v4 :: v5 :: v6 :: .int x :: ls) (.int x :: st) hp := ax_iload dX9_feed_42 rfl rfl
theorem dX9_feed_44 : decode cX9_feed 44 = .ok (.bipush 20, 2) := by decide +kernel
theorem sX9_feed_44 : ab_X rom K cX9_feed 7 1 44 ls st hp = ab_X rom K cX9_feed 7 1 46 ls (.int 20 :: st) hp := ax_bipush dX9_feed_44 (by decide) rfl
theorem dX9_feed_46 : decode cX9_feed 46 = .ok (.if_icmp .ge 43, 3) := by decide +kernel
theorem sX9_feed_46 : ab_X rom K cX9_feed 7 1 46 ls (.int y :: .int x :: st) hp = if x < y then ab_X rom K cX9_feed 7 1 49 ls st hp else ab_X rom K cX9_feed 7 1 89 ls st hp := ax_icmp_ge dX9_feed_46 (by decide) rfl
theorem dX9_feed_49 : decode cX9_feed 49 = .ok (.aload_n 0, 1) := by decide +kernel
theorem sX9_feed_49 : ab_X rom K cX9_feed 7 1 49 (.ref a :: ls) st hp = ab_X rom K cX9_feed 7 1 50 (.ref a :: ls) (.ref a :: st) hp := ax_aload_n dX9_feed_49 rfl rfl
theorem dX9_feed_50 : decode cX9_feed 50 = .ok (.getfield 19, 3) := by decide +kernel
theorem sX9_feed_50 : ab_X rom K cX9_feed 7 1 50 ls (.ref a :: st) hp = (ab_fld hp a 7 4).bind (fun v => ab_X rom K cX9_feed 7 1 53 ls (v :: st) hp) := ax_getfield dX9_feed_50 kf_7_19 rfl
theorem dX9_feed_53 : decode cX9_feed 53 = .ok (.aload_n 0, 1) := by decide +kernel
theorem sX9_feed_53 : ab_X rom K cX9_feed 7 1 53 (.ref a :: ls) st hp = ab_X rom K cX9_feed 7 1 54 (.ref a :: ls) (.ref a :: st) hp := ax_aload_n dX9_feed_53 rfl rfl
theorem dX9_feed_54 : decode cX9_feed 54 = .ok (.getfield 97, 3) := by decide +kernel
theorem sX9_feed_54 : ab_X rom K cX9_feed 7 1 54 ls (.ref a :: st) hp = (ab_fld hp a 7 5).bind (fun v => ab_X rom K cX9_feed 7 1 57 ls (v :: st) hp) := ax_getfield dX9_feed_54 kf_7_97 rfl
theorem dX9_feed_57 : decode cX9_feed 57 = .ok (.iload 7, 2) := by decide +kernel
theorem sX9_feed_57 : ab_X rom K cX9_feed 7 1 57 (v0 :: v1 :: v2 :: v3 :: v4 :: v5 :: v6 :: .int x :: ls) st hp = ab_X rom K cX9_feed 7 1 59 (v0 :: v1 :: v2 :: v3 :: v4 :: v5 :: v6 :: .int x :: ls) (.int x :: st) hp := ax_iload dX9_feed_57 rfl rfl
theorem dX9_feed_59 : decode cX9_feed 59 = .ok (.iadd, 1) := by decide +kernel
theorem sX9_feed_59 : ab_X rom K cX9_feed 7 1 59 ls (.int y :: .int x :: st) hp = ab_X rom K cX9_feed 7 1 60 ls (.int (x + y) :: st) hp := ax_iadd dX9_feed_59 rfl
theorem dX9_feed_60 : decode cX9_feed 60 = .ok (.aload 6, 2) := by decide +kernel
theorem sX9_feed_60 : ab_X rom K cX9_feed 7 1 60 (v0 :: v1 :: v2 :: v3 :: v4 :: v5 :: .ref a :: ls) st hp = ab_X rom K cX9_feed 7 1 62 (v0 :: v1 :: v2 :: v3 :: v4 :: v5 :: .ref a :: ls) (.ref a :: st) hp := ax_aload dX9_feed_60 rfl rfl
theorem dX9_feed_62 : decode cX9_feed 62 = .ok (.iload 7, 2) := by decide +kernel
theorem sX9_feed_62 : ab_X rom K cX9_feed 7 1 62 (v0 :: v1 :: v2 :: v3 :: v4 :: v5 :: v6 :: .int x :: ls) st hp = ab_X rom K cX9_feed 7 1 64 (v0 :: v1 :: v2 :: v3 :: v4 :: v5 :: v6 :: .int x :: ls) (.int x :: st) hp := ax_iload dX9_feed_62 rfl rfl
theorem dX9_feed_64 : decode cX9_feed 64 = .ok (.iconst 4, 1) := by decide +kernel
theorem sX9_feed_64 : ab_X rom K cX9_feed 7 1 64 ls st hp = ab_X rom K cX9_feed 7 1 65 ls (.int 4 :: st) hp := ax_iconst dX9_feed_64 (by decide) rfl
theorem dX9_feed_65 : decode cX9_feed 65 = .ok (.idiv, 1) := by decide +kernel
theorem sX9_feed_65 : ab_X rom K cX9_feed 7 1 65 ls (.int y :: .int x :: st) hp = if y = 0 then none else ab_X rom K cX9_feed 7 1 66 ls (.int (x / y) :: st) hp := ay_idiv dX9_feed_65 rfl
theorem dX9_feed_66 : decode cX9_feed 66 = .ok (.iaload, 1) := by decide +kernel
theorem sX9_feed_66 : ab_X rom K cX9_feed 7 1 66 ls (.int x :: .ref a :: st) hp = (ab_ard rom 0 hp a x).bind (fun v => ab_X rom K cX9_feed 7 1 67 ls (.int v :: st) hp) := ax_iaload dX9_feed_66 rfl
theorem dX9_feed_67 : decode cX9_feed 67 = .ok (.bipush 24, 2) := by decide +kernel
theorem sX9_feed_67 : ab_X rom K cX9_feed 7 1 67 ls st hp = ab_X rom K cX9_feed 7 1 69 ls (.int 24 :: st) hp := ax_bipush dX9_feed_67 (by decide) rfl
theorem dX9_feed_69 : decode cX9_feed 69 = .ok (.bipush 8, 2) := by decide +kernel
theorem sX9_feed_69 : ab_X rom K cX9_feed 7 1 69 ls st hp = ab_X rom K cX9_feed 7 1 71 ls (.int 8 :: st) hp := ax_bipush dX9_feed_69 (by decide) rfl
theorem dX9_feed_71 : decode cX9_feed 71 = .ok (.iload 7, 2) := by decide +kernel
theorem sX9_feed_71 : ab_X rom K cX9_feed 7 1 71 (v0 :: v1 :: v2 :: v3 :: v4 :: v5 :: v6 :: .int x :: ls) st hp = ab_X rom K cX9_feed 7 1 73 (v0 :: v1 :: v2 :: v3 :: v4 :: v5 :: v6 :: .int x :: ls) (.int x :: st) hp := ax_iload dX9_feed_71 rfl rfl
theorem dX9_feed_73 : decode cX9_feed 73 = .ok (.iconst 4, 1) := by decide +kernel
theorem sX9_feed_73 : ab_X rom K cX9_feed 7 1 73 ls st hp = ab_X rom K cX9_feed 7 1 74 ls (.int 4 :: st) hp := ax_iconst dX9_feed_73 (by decide) rfl
theorem dX9_feed_74 : decode cX9_feed 74 = .ok (.irem, 1) := by decide +kernel
theorem sX9_feed_74 : ab_X rom K cX9_feed 7 1 74 ls (.int y :: .int x :: st) hp = if y = 0 then none else ab_X rom K cX9_feed 7 1 75 ls (.int (ab_rem x y) :: st) hp := ay_irem dX9_feed_74 rfl
theorem dX9_feed_75 : decode cX9_feed 75 = .ok (.imul, 1) := by decide +kernel
theorem sX9_feed_75 : ab_X rom K cX9_feed 7 1 75 ls (.int y :: .int x :: st) hp = ab_X rom K cX9_feed 7 1 76 ls (.int (x * y) :: st) hp := ax_imul dX9_feed_75 rfl
theorem dX9_feed_76 : decode cX9_feed 76 = .ok (.isub, 1) := by decide +kernel
theorem sX9_feed_76 : ab_X rom K cX9_feed 7 1 76 ls (.int y :: .int x :: st) hp = ab_X rom K cX9_feed 7 1 77 ls (.int (x - y) :: st) hp := ax_isub dX9_feed_76 rfl
theorem dX9_feed_77 : decode cX9_feed 77 = .ok (.iushr, 1) := by decide +kernel
theorem sX9_feed_77 : ab_X rom K cX9_feed 7 1 77 ls (.int y :: .int x :: st) hp = ab_X rom K cX9_feed 7 1 78 ls (.int (x.toUInt32 >>> (y.toUInt32 &&& Int32.toUInt32 31)).toInt32 :: st) hp := ax_iushr dX9_feed_77 rfl
theorem dX9_feed_78 : decode cX9_feed 78 = .ok (.sipush 255, 3) := by decide +kernel
theorem sX9_feed_78 : ab_X rom K cX9_feed 7 1 78 ls st hp = ab_X rom K cX9_feed 7 1 81 ls (.int 255 :: st) hp := ax_sipush dX9_feed_78 (by decide) rfl
theorem dX9_feed_81 : decode cX9_feed 81 = .ok (.iand, 1) := by decide +kernel
theorem sX9_feed_81 : ab_X rom K cX9_feed 7 1 81 ls (.int y :: .int x :: st) hp = ab_X rom K cX9_feed 7 1 82 ls (.int (x &&& y) :: st) hp := ax_iand dX9_feed_81 rfl
theorem dX9_feed_82 : decode cX9_feed 82 = .ok (.iastore, 1) := by decide +kernel
theorem sX9_feed_82 : ab_X rom K cX9_feed 7 1 82 ls (.int y :: .int x :: .ref a :: st) hp = (ab_awr 0 hp a x y).bind (fun hp' => ab_X rom K cX9_feed 7 1 83 ls st hp') := ax_iastore dX9_feed_82 rfl
theorem dX9_feed_83 : decode cX9_feed 83 = .ok (.iinc 7 1, 3) := by decide +kernel
theorem sX9_feed_83i : ab_X rom K cX9_feed 7 1 83 (v0 :: v1 :: v2 :: v3 :: v4 :: v5 :: .int y :: .int x :: ls) st hp = ab_X rom K cX9_feed 7 1 86 (v0 :: v1 :: v2 :: v3 :: v4 :: v5 :: .int y :: .int (x + 1) :: ls) st hp := ax_iinc dX9_feed_83 rfl (ab_nl_c1 (j := 6) (v := .int y) rfl (ab_c1_int _)) (by decide) rfl rfl
theorem sX9_feed_83r : ab_X rom K cX9_feed 7 1 83 (v0 :: v1 :: v2 :: v3 :: v4 :: v5 :: .ref a2 :: .int x :: ls) st hp = ab_X rom K cX9_feed 7 1 86 (v0 :: v1 :: v2 :: v3 :: v4 :: v5 :: .ref a2 :: .int (x + 1) :: ls) st hp := ax_iinc dX9_feed_83 rfl (ab_nl_c1 (j := 6) (v := .ref a2) rfl (ab_c1_ref _)) (by decide) rfl rfl
theorem sX9_feed_83n : ab_X rom K cX9_feed 7 1 83 (v0 :: v1 :: v2 :: v3 :: v4 :: v5 :: .null :: .int x :: ls) st hp = ab_X rom K cX9_feed 7 1 86 (v0 :: v1 :: v2 :: v3 :: v4 :: v5 :: .null :: .int (x + 1) :: ls) st hp := ax_iinc dX9_feed_83 rfl (ab_nl_c1 (j := 6) (v := .null) rfl ab_c1_null) (by decide) rfl rfl
theorem dX9_feed_86 : decode cX9_feed 86 = .ok (.goto (-44), 3) := by decide +kernel
theorem sX9_feed_86 : ab_X rom K cX9_feed 7 1 86 ls st hp = ab_X rom K cX9_feed 7 1 42 ls st hp := ax_goto dX9_feed_86 (by decide)
theorem dX9_feed_89 : decode cX9_feed 89 = .ok (.aload_n 0, 1) := by decide +kernel
theorem sX9_feed_89 : ab_X rom K cX9_feed 7 1 89 (.ref a :: ls) st hp = ab_X rom K cX9_feed 7 1 90 (.ref a :: ls) (.ref a :: st) hp := ax_aload_n dX9_feed_89 rfl rfl
theorem dX9_feed_90 : decode cX9_feed 90 = .ok (.dup, 1) := by decide +kernel
theorem sX9_feed_90i : ab_X rom K cX9_feed 7 1 90 ls (.int x :: st) hp = ab_X rom K cX9_feed 7 1 91 ls (.int x :: .int x :: st) hp := ax_dup dX9_feed_90 rfl (ab_c1_int _)
theorem sX9_feed_90r : ab_X rom K cX9_feed 7 1 90 ls (.ref a :: st) hp = ab_X rom K cX9_feed 7 1 91 ls (.ref a :: .ref a :: st) hp := ax_dup dX9_feed_90 rfl (ab_c1_ref _)
theorem dX9_feed_91 : decode cX9_feed 91 = .ok (.getfield 97, 3) := by decide +kernel
theorem sX9_feed_91 : ab_X rom K cX9_feed 7 1 91 ls (.ref a :: st) hp = (ab_fld hp a 7 5).bind (fun v => ab_X rom K cX9_feed 7 1 94 ls (v :: st) hp) := ax_getfield dX9_feed_91 kf_7_97 rfl
theorem dX9_feed_94 : decode cX9_feed 94 = .ok (.bipush 20, 2) := by decide +kernel
theorem sX9_feed_94 : ab_X rom K cX9_feed 7 1 94 ls st hp = ab_X rom K cX9_feed 7 1 96 ls (.int 20 :: st) hp := ax_bipush dX9_feed_94 (by decide) rfl
theorem dX9_feed_96 : decode cX9_feed 96 = .ok (.iadd, 1) := by decide +kernel
theorem sX9_feed_96 : ab_X rom K cX9_feed 7 1 96 ls (.int y :: .int x :: st) hp = ab_X rom K cX9_feed 7 1 97 ls (.int (x + y) :: st) hp := ax_iadd dX9_feed_96 rfl
theorem dX9_feed_97 : decode cX9_feed 97 = .ok (.putfield 97, 3) := by decide +kernel
theorem sX9_feed_97 : ab_X rom K cX9_feed 7 1 97 ls (.int x :: .ref a :: st) hp = (ab_fpt hp a 7 5 (.int x)).bind (fun hp' => ab_X rom K cX9_feed 7 1 100 ls st hp') := ax_putfield dX9_feed_97 kf_7_97 rfl (Or.inl rfl) rfl
theorem dX9_feed_100 : decode cX9_feed 100 = .ok (.aload_n 0, 1) := by decide +kernel
theorem sX9_feed_100 : ab_X rom K cX9_feed 7 1 100 (.ref a :: ls) st hp = ab_X rom K cX9_feed 7 1 101 (.ref a :: ls) (.ref a :: st) hp := ax_aload_n dX9_feed_100 rfl rfl
theorem dX9_feed_101 : decode cX9_feed 101 = .ok (.getfield 97, 3) := by decide +kernel
theorem sX9_feed_101 : ab_X rom K cX9_feed 7 1 101 ls (.ref a :: st) hp = (ab_fld hp a 7 5).bind (fun v => ab_X rom K cX9_feed 7 1 104 ls (v :: st) hp) := ax_getfield dX9_feed_101 kf_7_97 rfl
theorem dX9_feed_104 : decode cX9_feed 104 = .ok (.ireturn, 1) := by decide +kernel
theorem sX9_feed_104 : ab_X rom K cX9_feed 7 1 104 ls [.int x] hp = some (some (.int x), hp) := ax_iret dX9_feed_104 rfl
theorem tX9_goes : ab_mT[154]? = some (yX9_goes, cX9_goes, 4, 2, 7) := by decide +kernel
theorem mX9_goes {d : Nat} {a0 : Nat} {x0 : Int32} {x1 : Int32} : ab_M rom (d + 1) 154 [.ref a0, .int x0, .int x1] hp = ab_X rom (ab_M rom d) cX9_goes 7 2 0 [.ref a0, .int x0, .int x1, .null] [] hp := ab_M_eq tX9_goes (Nat.le_of_ble_eq_true rfl)
theorem dX9_goes_0 : decode cX9_goes 0 = .ok (.iload_n 2, 1) := by decide +kernel
theorem sX9_goes_0 : ab_X rom K cX9_goes 7 2 0 (v0 :: v1 :: .int x :: ls) st hp = ab_X rom K cX9_goes 7 2 1 (v0 :: v1 :: .int x :: ls) (.int x :: st) hp := ax_iload_n dX9_goes_0 rfl rfl
theorem dX9_goes_1 : decode cX9_goes 1 = .ok (.aload_n 0, 1) := by decide +kernel
theorem sX9_goes_1 : ab_X rom K cX9_goes 7 2 1 (.ref a :: ls) st hp = ab_X rom K cX9_goes 7 2 2 (.ref a :: ls) (.ref a :: st) hp := ax_aload_n dX9_goes_1 rfl rfl
theorem dX9_goes_2 : decode cX9_goes 2 = .ok (.getfield 235, 3) := by decide +kernel
theorem sX9_goes_2 : ab_X rom K cX9_goes 7 2 2 ls (.ref a :: st) hp = (ab_fld hp a 7 17).bind (fun v => ab_X rom K cX9_goes 7 2 5 ls (v :: st) hp) := ax_getfield dX9_goes_2 kf_7_235 rfl
theorem dX9_goes_5 : decode cX9_goes 5 = .ok (.if_icmp .ne 95, 3) := by decide +kernel
theorem sX9_goes_5 : ab_X rom K cX9_goes 7 2 5 ls (.int y :: .int x :: st) hp = if x = y then ab_X rom K cX9_goes 7 2 8 ls st hp else ab_X rom K cX9_goes 7 2 100 ls st hp := ax_icmp_ne dX9_goes_5 (by decide) rfl
theorem dX9_goes_8 : decode cX9_goes 8 = .ok (.aload_n 0, 1) := by decide +kernel
theorem sX9_goes_8 : ab_X rom K cX9_goes 7 2 8 (.ref a :: ls) st hp = ab_X rom K cX9_goes 7 2 9 (.ref a :: ls) (.ref a :: st) hp := ax_aload_n dX9_goes_8 rfl rfl
theorem dX9_goes_9 : decode cX9_goes 9 = .ok (.iload_n 1, 1) := by decide +kernel
theorem sX9_goes_9 : ab_X rom K cX9_goes 7 2 9 (v0 :: .int x :: ls) st hp = ab_X rom K cX9_goes 7 2 10 (v0 :: .int x :: ls) (.int x :: st) hp := ax_iload_n dX9_goes_9 rfl rfl
theorem dX9_goes_10 : decode cX9_goes 10 = .ok (.invokevirtual 266, 3) := by decide +kernel
theorem sX9_goes_10_0 : ab_X rom K cX9_goes 7 2 10 ls [w1, .ref a] hp = if ab_iso hp a 7 = true then (K 166 (.ref a :: [w1]) hp).bind (fun o => ab_X rom K cX9_goes 7 2 13 ls (o.1.toList ++ []) o.2) else none := ay_virtual (as := [w1]) (st := []) dX9_goes_10 kc_7_266 rfl rfl (Nat.le_of_ble_eq_true rfl)
theorem sX9_goes_10_1 : ab_X rom K cX9_goes 7 2 10 ls [w1, .ref a, v0] hp = if ab_iso hp a 7 = true then (K 166 (.ref a :: [w1]) hp).bind (fun o => ab_X rom K cX9_goes 7 2 13 ls (o.1.toList ++ [v0]) o.2) else none := ay_virtual (as := [w1]) (st := [v0]) dX9_goes_10 kc_7_266 rfl rfl (Nat.le_of_ble_eq_true rfl)
theorem sX9_goes_10_2 : ab_X rom K cX9_goes 7 2 10 ls [w1, .ref a, v0, v1] hp = if ab_iso hp a 7 = true then (K 166 (.ref a :: [w1]) hp).bind (fun o => ab_X rom K cX9_goes 7 2 13 ls (o.1.toList ++ [v0, v1]) o.2) else none := ay_virtual (as := [w1]) (st := [v0, v1]) dX9_goes_10 kc_7_266 rfl rfl (Nat.le_of_ble_eq_true rfl)
theorem sX9_goes_10_3 : ab_X rom K cX9_goes 7 2 10 ls [w1, .ref a, v0, v1, v2] hp = if ab_iso hp a 7 = true then (K 166 (.ref a :: [w1]) hp).bind (fun o => ab_X rom K cX9_goes 7 2 13 ls (o.1.toList ++ [v0, v1, v2]) o.2) else none := ay_virtual (as := [w1]) (st := [v0, v1, v2]) dX9_goes_10 kc_7_266 rfl rfl (Nat.le_of_ble_eq_true rfl)
theorem dX9_goes_13 : decode cX9_goes 13 = .ok (.ifCond .ne 5, 3) := by decide +kernel
theorem sX9_goes_13 : ab_X rom K cX9_goes 7 2 13 ls (.int x :: st) hp = if x = 0 then ab_X rom K cX9_goes 7 2 16 ls st hp else ab_X rom K cX9_goes 7 2 18 ls st hp := ax_if_ne dX9_goes_13 (by decide) rfl
theorem dX9_goes_16 : decode cX9_goes 16 = .ok (.iconst 0, 1) := by decide +kernel
theorem sX9_goes_16 : ab_X rom K cX9_goes 7 2 16 ls st hp = ab_X rom K cX9_goes 7 2 17 ls (.int 0 :: st) hp := ax_iconst dX9_goes_16 (by decide) rfl
theorem dX9_goes_17 : decode cX9_goes 17 = .ok (.ireturn, 1) := by decide +kernel
theorem sX9_goes_17 : ab_X rom K cX9_goes 7 2 17 ls [.int x] hp = if x = 0 ∨ x = 1 then some (some (.int x), hp) else none := ay_zret dX9_goes_17 rfl
theorem dX9_goes_18 : decode cX9_goes 18 = .ok (.iconst 0, 1) := by decide +kernel
theorem sX9_goes_18 : ab_X rom K cX9_goes 7 2 18 ls st hp = ab_X rom K cX9_goes 7 2 19 ls (.int 0 :: st) hp := ax_iconst dX9_goes_18 (by decide) rfl
theorem dX9_goes_19 : decode cX9_goes 19 = .ok (.istore_n 3, 1) := by decide +kernel
theorem sX9_goes_19i : ab_X rom K cX9_goes 7 2 19 (v0 :: v1 :: .int y :: v3 :: ls) (.int x :: st) hp = ab_X rom K cX9_goes 7 2 20 (v0 :: v1 :: .int y :: .int x :: ls) st hp := ax_istore_n dX9_goes_19 (ax_lt (v := v3) rfl) (ab_nl_c1 (j := 2) (v := .int y) rfl (ab_c1_int _)) rfl rfl
theorem sX9_goes_19r : ab_X rom K cX9_goes 7 2 19 (v0 :: v1 :: .ref a2 :: v3 :: ls) (.int x :: st) hp = ab_X rom K cX9_goes 7 2 20 (v0 :: v1 :: .ref a2 :: .int x :: ls) st hp := ax_istore_n dX9_goes_19 (ax_lt (v := v3) rfl) (ab_nl_c1 (j := 2) (v := .ref a2) rfl (ab_c1_ref _)) rfl rfl
theorem sX9_goes_19n : ab_X rom K cX9_goes 7 2 19 (v0 :: v1 :: .null :: v3 :: ls) (.int x :: st) hp = ab_X rom K cX9_goes 7 2 20 (v0 :: v1 :: .null :: .int x :: ls) st hp := ax_istore_n dX9_goes_19 (ax_lt (v := v3) rfl) (ab_nl_c1 (j := 2) (v := .null) rfl ab_c1_null) rfl rfl
theorem dX9_goes_20 : decode cX9_goes 20 = .ok (.iload_n 3, 1) := by decide +kernel
theorem sX9_goes_20 : ab_X rom K cX9_goes 7 2 20 (v0 :: v1 :: v2 :: .int x :: ls) st hp = ab_X rom K cX9_goes 7 2 21 (v0 :: v1 :: v2 :: .int x :: ls) (.int x :: st) hp := ax_iload_n dX9_goes_20 rfl rfl
theorem dX9_goes_21 : decode cX9_goes 21 = .ok (.aload_n 0, 1) := by decide +kernel
theorem sX9_goes_21 : ab_X rom K cX9_goes 7 2 21 (.ref a :: ls) st hp = ab_X rom K cX9_goes 7 2 22 (.ref a :: ls) (.ref a :: st) hp := ax_aload_n dX9_goes_21 rfl rfl
theorem dX9_goes_22 : decode cX9_goes 22 = .ok (.getfield 235, 3) := by decide +kernel
theorem sX9_goes_22 : ab_X rom K cX9_goes 7 2 22 ls (.ref a :: st) hp = (ab_fld hp a 7 17).bind (fun v => ab_X rom K cX9_goes 7 2 25 ls (v :: st) hp) := ax_getfield dX9_goes_22 kf_7_235 rfl
theorem dX9_goes_25 : decode cX9_goes 25 = .ok (.if_icmp .ge 26, 3) := by decide +kernel
theorem sX9_goes_25 : ab_X rom K cX9_goes 7 2 25 ls (.int y :: .int x :: st) hp = if x < y then ab_X rom K cX9_goes 7 2 28 ls st hp else ab_X rom K cX9_goes 7 2 51 ls st hp := ax_icmp_ge dX9_goes_25 (by decide) rfl
theorem dX9_goes_28 : decode cX9_goes 28 = .ok (.aload_n 0, 1) := by decide +kernel
theorem sX9_goes_28 : ab_X rom K cX9_goes 7 2 28 (.ref a :: ls) st hp = ab_X rom K cX9_goes 7 2 29 (.ref a :: ls) (.ref a :: st) hp := ax_aload_n dX9_goes_28 rfl rfl
theorem dX9_goes_29 : decode cX9_goes 29 = .ok (.getfield 38, 3) := by decide +kernel
theorem sX9_goes_29 : ab_X rom K cX9_goes 7 2 29 ls (.ref a :: st) hp = (ab_fld hp a 7 20).bind (fun v => ab_X rom K cX9_goes 7 2 32 ls (v :: st) hp) := ax_getfield dX9_goes_29 kf_7_38 rfl
theorem dX9_goes_32 : decode cX9_goes 32 = .ok (.iload_n 3, 1) := by decide +kernel
theorem sX9_goes_32 : ab_X rom K cX9_goes 7 2 32 (v0 :: v1 :: v2 :: .int x :: ls) st hp = ab_X rom K cX9_goes 7 2 33 (v0 :: v1 :: v2 :: .int x :: ls) (.int x :: st) hp := ax_iload_n dX9_goes_32 rfl rfl
theorem dX9_goes_33 : decode cX9_goes 33 = .ok (.dup2, 1) := by decide +kernel
theorem sX9_goes_33 : ab_X rom K cX9_goes 7 2 33 ls (.int x :: .ref a :: st) hp = ab_X rom K cX9_goes 7 2 34 ls (.int x :: .ref a :: .int x :: .ref a :: st) hp := ax_dup2 dX9_goes_33 rfl (ab_c1_int _) (ab_c1_ref _)
theorem dX9_goes_34 : decode cX9_goes 34 = .ok (.iaload, 1) := by decide +kernel
theorem sX9_goes_34 : ab_X rom K cX9_goes 7 2 34 ls (.int x :: .ref a :: st) hp = (ab_ard rom 0 hp a x).bind (fun v => ab_X rom K cX9_goes 7 2 35 ls (.int v :: st) hp) := ax_iaload dX9_goes_34 rfl
theorem dX9_goes_35 : decode cX9_goes 35 = .ok (.iconst 1, 1) := by decide +kernel
theorem sX9_goes_35 : ab_X rom K cX9_goes 7 2 35 ls st hp = ab_X rom K cX9_goes 7 2 36 ls (.int 1 :: st) hp := ax_iconst dX9_goes_35 (by decide) rfl
theorem dX9_goes_36 : decode cX9_goes 36 = .ok (.aload_n 0, 1) := by decide +kernel
theorem sX9_goes_36 : ab_X rom K cX9_goes 7 2 36 (.ref a :: ls) st hp = ab_X rom K cX9_goes 7 2 37 (.ref a :: ls) (.ref a :: st) hp := ax_aload_n dX9_goes_36 rfl rfl
theorem dX9_goes_37 : decode cX9_goes 37 = .ok (.getfield 32, 3) := by decide +kernel
theorem sX9_goes_37 : ab_X rom K cX9_goes 7 2 37 ls (.ref a :: st) hp = (ab_fld hp a 7 16).bind (fun v => ab_X rom K cX9_goes 7 2 40 ls (v :: st) hp) := ax_getfield dX9_goes_37 kf_7_32 rfl
theorem dX9_goes_40 : decode cX9_goes 40 = .ok (.iload_n 3, 1) := by decide +kernel
theorem sX9_goes_40 : ab_X rom K cX9_goes 7 2 40 (v0 :: v1 :: v2 :: .int x :: ls) st hp = ab_X rom K cX9_goes 7 2 41 (v0 :: v1 :: v2 :: .int x :: ls) (.int x :: st) hp := ax_iload_n dX9_goes_40 rfl rfl
theorem dX9_goes_41 : decode cX9_goes 41 = .ok (.iaload, 1) := by decide +kernel
theorem sX9_goes_41 : ab_X rom K cX9_goes 7 2 41 ls (.int x :: .ref a :: st) hp = (ab_ard rom 0 hp a x).bind (fun v => ab_X rom K cX9_goes 7 2 42 ls (.int v :: st) hp) := ax_iaload dX9_goes_41 rfl
theorem dX9_goes_42 : decode cX9_goes 42 = .ok (.ishl, 1) := by decide +kernel
theorem sX9_goes_42 : ab_X rom K cX9_goes 7 2 42 ls (.int y :: .int x :: st) hp = ab_X rom K cX9_goes 7 2 43 ls (.int (x <<< (y &&& 31)) :: st) hp := ax_ishl dX9_goes_42 rfl
theorem dX9_goes_43 : decode cX9_goes 43 = .ok (.ior, 1) := by decide +kernel
theorem sX9_goes_43 : ab_X rom K cX9_goes 7 2 43 ls (.int y :: .int x :: st) hp = ab_X rom K cX9_goes 7 2 44 ls (.int (x ||| y) :: st) hp := ax_ior dX9_goes_43 rfl
theorem dX9_goes_44 : decode cX9_goes 44 = .ok (.iastore, 1) := by decide +kernel
theorem sX9_goes_44 : ab_X rom K cX9_goes 7 2 44 ls (.int y :: .int x :: .ref a :: st) hp = (ab_awr 0 hp a x y).bind (fun hp' => ab_X rom K cX9_goes 7 2 45 ls st hp') := ax_iastore dX9_goes_44 rfl
theorem dX9_goes_45 : decode cX9_goes 45 = .ok (.iinc 3 1, 3) := by decide +kernel
theorem sX9_goes_45i : ab_X rom K cX9_goes 7 2 45 (v0 :: v1 :: .int y :: .int x :: ls) st hp = ab_X rom K cX9_goes 7 2 48 (v0 :: v1 :: .int y :: .int (x + 1) :: ls) st hp := ax_iinc dX9_goes_45 rfl (ab_nl_c1 (j := 2) (v := .int y) rfl (ab_c1_int _)) (by decide) rfl rfl
theorem sX9_goes_45r : ab_X rom K cX9_goes 7 2 45 (v0 :: v1 :: .ref a2 :: .int x :: ls) st hp = ab_X rom K cX9_goes 7 2 48 (v0 :: v1 :: .ref a2 :: .int (x + 1) :: ls) st hp := ax_iinc dX9_goes_45 rfl (ab_nl_c1 (j := 2) (v := .ref a2) rfl (ab_c1_ref _)) (by decide) rfl rfl
theorem sX9_goes_45n : ab_X rom K cX9_goes 7 2 45 (v0 :: v1 :: .null :: .int x :: ls) st hp = ab_X rom K cX9_goes 7 2 48 (v0 :: v1 :: .null :: .int (x + 1) :: ls) st hp := ax_iinc dX9_goes_45 rfl (ab_nl_c1 (j := 2) (v := .null) rfl ab_c1_null) (by decide) rfl rfl
theorem dX9_goes_48 : decode cX9_goes 48 = .ok (.goto (-28), 3) := by decide +kernel
theorem sX9_goes_48 : ab_X rom K cX9_goes 7 2 48 ls st hp = ab_X rom K cX9_goes 7 2 20 ls st hp := ax_goto dX9_goes_48 (by decide)
theorem dX9_goes_51 : decode cX9_goes 51 = .ok (.aload_n 0, 1) := by decide +kernel
theorem sX9_goes_51 : ab_X rom K cX9_goes 7 2 51 (.ref a :: ls) st hp = ab_X rom K cX9_goes 7 2 52 (.ref a :: ls) (.ref a :: st) hp := ax_aload_n dX9_goes_51 rfl rfl
theorem dX9_goes_52 : decode cX9_goes 52 = .ok (.dup, 1) := by decide +kernel
theorem sX9_goes_52i : ab_X rom K cX9_goes 7 2 52 ls (.int x :: st) hp = ab_X rom K cX9_goes 7 2 53 ls (.int x :: .int x :: st) hp := ax_dup dX9_goes_52 rfl (ab_c1_int _)
theorem sX9_goes_52r : ab_X rom K cX9_goes 7 2 52 ls (.ref a :: st) hp = ab_X rom K cX9_goes 7 2 53 ls (.ref a :: .ref a :: st) hp := ax_dup dX9_goes_52 rfl (ab_c1_ref _)
theorem dX9_goes_53 : decode cX9_goes 53 = .ok (.getfield 287, 3) := by decide +kernel
theorem sX9_goes_53 : ab_X rom K cX9_goes 7 2 53 ls (.ref a :: st) hp = (ab_fld hp a 7 23).bind (fun v => ab_X rom K cX9_goes 7 2 56 ls (v :: st) hp) := ax_getfield dX9_goes_53 kf_7_287 rfl
theorem dX9_goes_56 : decode cX9_goes 56 = .ok (.aload_n 0, 1) := by decide +kernel
theorem sX9_goes_56 : ab_X rom K cX9_goes 7 2 56 (.ref a :: ls) st hp = ab_X rom K cX9_goes 7 2 57 (.ref a :: ls) (.ref a :: st) hp := ax_aload_n dX9_goes_56 rfl rfl
theorem dX9_goes_57 : decode cX9_goes 57 = .ok (.iload_n 1, 1) := by decide +kernel
theorem sX9_goes_57 : ab_X rom K cX9_goes 7 2 57 (v0 :: .int x :: ls) st hp = ab_X rom K cX9_goes 7 2 58 (v0 :: .int x :: ls) (.int x :: st) hp := ax_iload_n dX9_goes_57 rfl rfl
theorem dX9_goes_58 : decode cX9_goes 58 = .ok (.invokevirtual 290, 3) := by decide +kernel
theorem sX9_goes_58_0 : ab_X rom K cX9_goes 7 2 58 ls [w1, .ref a] hp = if ab_iso hp a 7 = true then (K 167 (.ref a :: [w1]) hp).bind (fun o => ab_X rom K cX9_goes 7 2 61 ls (o.1.toList ++ []) o.2) else none := ay_virtual (as := [w1]) (st := []) dX9_goes_58 kc_7_290 rfl rfl (Nat.le_of_ble_eq_true rfl)
theorem sX9_goes_58_1 : ab_X rom K cX9_goes 7 2 58 ls [w1, .ref a, v0] hp = if ab_iso hp a 7 = true then (K 167 (.ref a :: [w1]) hp).bind (fun o => ab_X rom K cX9_goes 7 2 61 ls (o.1.toList ++ [v0]) o.2) else none := ay_virtual (as := [w1]) (st := [v0]) dX9_goes_58 kc_7_290 rfl rfl (Nat.le_of_ble_eq_true rfl)
theorem sX9_goes_58_2 : ab_X rom K cX9_goes 7 2 58 ls [w1, .ref a, v0, v1] hp = if ab_iso hp a 7 = true then (K 167 (.ref a :: [w1]) hp).bind (fun o => ab_X rom K cX9_goes 7 2 61 ls (o.1.toList ++ [v0, v1]) o.2) else none := ay_virtual (as := [w1]) (st := [v0, v1]) dX9_goes_58 kc_7_290 rfl rfl (Nat.le_of_ble_eq_true rfl)
theorem sX9_goes_58_3 : ab_X rom K cX9_goes 7 2 58 ls [w1, .ref a, v0, v1, v2] hp = if ab_iso hp a 7 = true then (K 167 (.ref a :: [w1]) hp).bind (fun o => ab_X rom K cX9_goes 7 2 61 ls (o.1.toList ++ [v0, v1, v2]) o.2) else none := ay_virtual (as := [w1]) (st := [v0, v1, v2]) dX9_goes_58 kc_7_290 rfl rfl (Nat.le_of_ble_eq_true rfl)
theorem dX9_goes_61 : decode cX9_goes 61 = .ok (.ifCond .eq 7, 3) := by decide +kernel
theorem sX9_goes_61 : ab_X rom K cX9_goes 7 2 61 ls (.int x :: st) hp = if x = 0 then ab_X rom K cX9_goes 7 2 68 ls st hp else ab_X rom K cX9_goes 7 2 64 ls st hp := ax_if_eq dX9_goes_61 (by decide) rfl
theorem dX9_goes_64 : decode cX9_goes 64 = .ok (.iconst 1, 1) := by decide +kernel
theorem sX9_goes_64 : ab_X rom K cX9_goes 7 2 64 ls st hp = ab_X rom K cX9_goes 7 2 65 ls (.int 1 :: st) hp := ax_iconst dX9_goes_64 (by decide) rfl
theorem dX9_goes_65 : decode cX9_goes 65 = .ok (.goto 4, 3) := by decide +kernel
theorem sX9_goes_65 : ab_X rom K cX9_goes 7 2 65 ls st hp = ab_X rom K cX9_goes 7 2 69 ls st hp := ax_goto dX9_goes_65 (by decide)
theorem dX9_goes_68 : decode cX9_goes 68 = .ok (.iconst 0, 1) := by decide +kernel
theorem sX9_goes_68 : ab_X rom K cX9_goes 7 2 68 ls st hp = ab_X rom K cX9_goes 7 2 69 ls (.int 0 :: st) hp := ax_iconst dX9_goes_68 (by decide) rfl
theorem dX9_goes_69 : decode cX9_goes 69 = .ok (.iadd, 1) := by decide +kernel
theorem sX9_goes_69 : ab_X rom K cX9_goes 7 2 69 ls (.int y :: .int x :: st) hp = ab_X rom K cX9_goes 7 2 70 ls (.int (x + y) :: st) hp := ax_iadd dX9_goes_69 rfl
theorem dX9_goes_70 : decode cX9_goes 70 = .ok (.putfield 287, 3) := by decide +kernel
theorem sX9_goes_70 : ab_X rom K cX9_goes 7 2 70 ls (.int x :: .ref a :: st) hp = (ab_fpt hp a 7 23 (.int x)).bind (fun hp' => ab_X rom K cX9_goes 7 2 73 ls st hp') := ax_putfield dX9_goes_70 kf_7_287 rfl (Or.inl rfl) rfl
theorem dX9_goes_73 : decode cX9_goes 73 = .ok (.aload_n 0, 1) := by decide +kernel
theorem sX9_goes_73 : ab_X rom K cX9_goes 7 2 73 (.ref a :: ls) st hp = ab_X rom K cX9_goes 7 2 74 (.ref a :: ls) (.ref a :: st) hp := ax_aload_n dX9_goes_73 rfl rfl
theorem dX9_goes_74 : decode cX9_goes 74 = .ok (.dup, 1) := by decide +kernel
theorem sX9_goes_74i : ab_X rom K cX9_goes 7 2 74 ls (.int x :: st) hp = ab_X rom K cX9_goes 7 2 75 ls (.int x :: .int x :: st) hp := ax_dup dX9_goes_74 rfl (ab_c1_int _)
theorem sX9_goes_74r : ab_X rom K cX9_goes 7 2 74 ls (.ref a :: st) hp = ab_X rom K cX9_goes 7 2 75 ls (.ref a :: .ref a :: st) hp := ax_dup dX9_goes_74 rfl (ab_c1_ref _)
theorem dX9_goes_75 : decode cX9_goes 75 = .ok (.getfield 293, 3) := by decide +kernel
theorem sX9_goes_75 : ab_X rom K cX9_goes 7 2 75 ls (.ref a :: st) hp = (ab_fld hp a 7 21).bind (fun v => ab_X rom K cX9_goes 7 2 78 ls (v :: st) hp) := ax_getfield dX9_goes_75 kf_7_293 rfl
theorem dX9_goes_78 : decode cX9_goes 78 = .ok (.iconst 1, 1) := by decide +kernel
theorem sX9_goes_78 : ab_X rom K cX9_goes 7 2 78 ls st hp = ab_X rom K cX9_goes 7 2 79 ls (.int 1 :: st) hp := ax_iconst dX9_goes_78 (by decide) rfl
theorem dX9_goes_79 : decode cX9_goes 79 = .ok (.iadd, 1) := by decide +kernel
theorem sX9_goes_79 : ab_X rom K cX9_goes 7 2 79 ls (.int y :: .int x :: st) hp = ab_X rom K cX9_goes 7 2 80 ls (.int (x + y) :: st) hp := ax_iadd dX9_goes_79 rfl
theorem dX9_goes_80 : decode cX9_goes 80 = .ok (.putfield 293, 3) := by decide +kernel
theorem sX9_goes_80 : ab_X rom K cX9_goes 7 2 80 ls (.int x :: .ref a :: st) hp = (ab_fpt hp a 7 21 (.int x)).bind (fun hp' => ab_X rom K cX9_goes 7 2 83 ls st hp') := ax_putfield dX9_goes_80 kf_7_293 rfl (Or.inl rfl) rfl
theorem dX9_goes_83 : decode cX9_goes 83 = .ok (.aload_n 0, 1) := by decide +kernel
theorem sX9_goes_83 : ab_X rom K cX9_goes 7 2 83 (.ref a :: ls) st hp = ab_X rom K cX9_goes 7 2 84 (.ref a :: ls) (.ref a :: st) hp := ax_aload_n dX9_goes_83 rfl rfl
theorem dX9_goes_84 : decode cX9_goes 84 = .ok (.getfield 293, 3) := by decide +kernel
theorem sX9_goes_84 : ab_X rom K cX9_goes 7 2 84 ls (.ref a :: st) hp = (ab_fld hp a 7 21).bind (fun v => ab_X rom K cX9_goes 7 2 87 ls (v :: st) hp) := ax_getfield dX9_goes_84 kf_7_293 rfl
theorem dX9_goes_87 : decode cX9_goes 87 = .ok (.aload_n 0, 1) := by decide +kernel
theorem sX9_goes_87 : ab_X rom K cX9_goes 7 2 87 (.ref a :: ls) st hp = ab_X rom K cX9_goes 7 2 88 (.ref a :: ls) (.ref a :: st) hp := ax_aload_n dX9_goes_87 rfl rfl
theorem dX9_goes_88 : decode cX9_goes 88 = .ok (.getfield 296, 3) := by decide +kernel
theorem sX9_goes_88 : ab_X rom K cX9_goes 7 2 88 ls (.ref a :: st) hp = (ab_fld hp a 7 22).bind (fun v => ab_X rom K cX9_goes 7 2 91 ls (v :: st) hp) := ax_getfield dX9_goes_88 kf_7_296 rfl
theorem dX9_goes_91 : decode cX9_goes 91 = .ok (.if_icmp .ne 7, 3) := by decide +kernel
theorem sX9_goes_91 : ab_X rom K cX9_goes 7 2 91 ls (.int y :: .int x :: st) hp = if x = y then ab_X rom K cX9_goes 7 2 94 ls st hp else ab_X rom K cX9_goes 7 2 98 ls st hp := ax_icmp_ne dX9_goes_91 (by decide) rfl
theorem dX9_goes_94 : decode cX9_goes 94 = .ok (.iconst 1, 1) := by decide +kernel
theorem sX9_goes_94 : ab_X rom K cX9_goes 7 2 94 ls st hp = ab_X rom K cX9_goes 7 2 95 ls (.int 1 :: st) hp := ax_iconst dX9_goes_94 (by decide) rfl
theorem dX9_goes_95 : decode cX9_goes 95 = .ok (.goto 4, 3) := by decide +kernel
theorem sX9_goes_95 : ab_X rom K cX9_goes 7 2 95 ls st hp = ab_X rom K cX9_goes 7 2 99 ls st hp := ax_goto dX9_goes_95 (by decide)
theorem dX9_goes_98 : decode cX9_goes 98 = .ok (.iconst 0, 1) := by decide +kernel
theorem sX9_goes_98 : ab_X rom K cX9_goes 7 2 98 ls st hp = ab_X rom K cX9_goes 7 2 99 ls (.int 0 :: st) hp := ax_iconst dX9_goes_98 (by decide) rfl
theorem dX9_goes_99 : decode cX9_goes 99 = .ok (.ireturn, 1) := by decide +kernel
theorem sX9_goes_99 : ab_X rom K cX9_goes 7 2 99 ls [.int x] hp = if x = 0 ∨ x = 1 then some (some (.int x), hp) else none := ay_zret dX9_goes_99 rfl
theorem dX9_goes_100 : decode cX9_goes 100 = .ok (.iconst 0, 1) := by decide +kernel
theorem sX9_goes_100 : ab_X rom K cX9_goes 7 2 100 ls st hp = ab_X rom K cX9_goes 7 2 101 ls (.int 0 :: st) hp := ax_iconst dX9_goes_100 (by decide) rfl
theorem dX9_goes_101 : decode cX9_goes 101 = .ok (.istore_n 3, 1) := by decide +kernel
theorem sX9_goes_101i : ab_X rom K cX9_goes 7 2 101 (v0 :: v1 :: .int y :: v3 :: ls) (.int x :: st) hp = ab_X rom K cX9_goes 7 2 102 (v0 :: v1 :: .int y :: .int x :: ls) st hp := ax_istore_n dX9_goes_101 (ax_lt (v := v3) rfl) (ab_nl_c1 (j := 2) (v := .int y) rfl (ab_c1_int _)) rfl rfl
theorem sX9_goes_101r : ab_X rom K cX9_goes 7 2 101 (v0 :: v1 :: .ref a2 :: v3 :: ls) (.int x :: st) hp = ab_X rom K cX9_goes 7 2 102 (v0 :: v1 :: .ref a2 :: .int x :: ls) st hp := ax_istore_n dX9_goes_101 (ax_lt (v := v3) rfl) (ab_nl_c1 (j := 2) (v := .ref a2) rfl (ab_c1_ref _)) rfl rfl
theorem sX9_goes_101n : ab_X rom K cX9_goes 7 2 101 (v0 :: v1 :: .null :: v3 :: ls) (.int x :: st) hp = ab_X rom K cX9_goes 7 2 102 (v0 :: v1 :: .null :: .int x :: ls) st hp := ax_istore_n dX9_goes_101 (ax_lt (v := v3) rfl) (ab_nl_c1 (j := 2) (v := .null) rfl ab_c1_null) rfl rfl
theorem dX9_goes_102 : decode cX9_goes 102 = .ok (.iload_n 3, 1) := by decide +kernel
theorem sX9_goes_102 : ab_X rom K cX9_goes 7 2 102 (v0 :: v1 :: v2 :: .int x :: ls) st hp = ab_X rom K cX9_goes 7 2 103 (v0 :: v1 :: v2 :: .int x :: ls) (.int x :: st) hp := ax_iload_n dX9_goes_102 rfl rfl
theorem dX9_goes_103 : decode cX9_goes 103 = .ok (.aload_n 0, 1) := by decide +kernel
theorem sX9_goes_103 : ab_X rom K cX9_goes 7 2 103 (.ref a :: ls) st hp = ab_X rom K cX9_goes 7 2 104 (.ref a :: ls) (.ref a :: st) hp := ax_aload_n dX9_goes_103 rfl rfl
theorem dX9_goes_104 : decode cX9_goes 104 = .ok (.iload_n 1, 1) := by decide +kernel
theorem sX9_goes_104 : ab_X rom K cX9_goes 7 2 104 (v0 :: .int x :: ls) st hp = ab_X rom K cX9_goes 7 2 105 (v0 :: .int x :: ls) (.int x :: st) hp := ax_iload_n dX9_goes_104 rfl rfl
theorem dX9_goes_105 : decode cX9_goes 105 = .ok (.invokevirtual 257, 3) := by decide +kernel
theorem sX9_goes_105_0 : ab_X rom K cX9_goes 7 2 105 ls [w1, .ref a] hp = if ab_iso hp a 7 = true then (K 200 (.ref a :: [w1]) hp).bind (fun o => ab_X rom K cX9_goes 7 2 108 ls (o.1.toList ++ []) o.2) else none := ay_virtual (as := [w1]) (st := []) dX9_goes_105 kc_7_257 rfl rfl (Nat.le_of_ble_eq_true rfl)
theorem sX9_goes_105_1 : ab_X rom K cX9_goes 7 2 105 ls [w1, .ref a, v0] hp = if ab_iso hp a 7 = true then (K 200 (.ref a :: [w1]) hp).bind (fun o => ab_X rom K cX9_goes 7 2 108 ls (o.1.toList ++ [v0]) o.2) else none := ay_virtual (as := [w1]) (st := [v0]) dX9_goes_105 kc_7_257 rfl rfl (Nat.le_of_ble_eq_true rfl)
theorem sX9_goes_105_2 : ab_X rom K cX9_goes 7 2 105 ls [w1, .ref a, v0, v1] hp = if ab_iso hp a 7 = true then (K 200 (.ref a :: [w1]) hp).bind (fun o => ab_X rom K cX9_goes 7 2 108 ls (o.1.toList ++ [v0, v1]) o.2) else none := ay_virtual (as := [w1]) (st := [v0, v1]) dX9_goes_105 kc_7_257 rfl rfl (Nat.le_of_ble_eq_true rfl)
theorem sX9_goes_105_3 : ab_X rom K cX9_goes 7 2 105 ls [w1, .ref a, v0, v1, v2] hp = if ab_iso hp a 7 = true then (K 200 (.ref a :: [w1]) hp).bind (fun o => ab_X rom K cX9_goes 7 2 108 ls (o.1.toList ++ [v0, v1, v2]) o.2) else none := ay_virtual (as := [w1]) (st := [v0, v1, v2]) dX9_goes_105 kc_7_257 rfl rfl (Nat.le_of_ble_eq_true rfl)
theorem dX9_goes_108 : decode cX9_goes 108 = .ok (.if_icmp .gt 89, 3) := by decide +kernel
theorem sX9_goes_108 : ab_X rom K cX9_goes 7 2 108 ls (.int y :: .int x :: st) hp = if y < x then ab_X rom K cX9_goes 7 2 197 ls st hp else ab_X rom K cX9_goes 7 2 111 ls st hp := ax_icmp_gt dX9_goes_108 (by decide) rfl
theorem dX9_goes_111 : decode cX9_goes 111 = .ok (.aload_n 0, 1) := by decide +kernel
theorem sX9_goes_111 : ab_X rom K cX9_goes 7 2 111 (.ref a :: ls) st hp = ab_X rom K cX9_goes 7 2 112 (.ref a :: ls) (.ref a :: st) hp := ax_aload_n dX9_goes_111 rfl rfl
theorem dX9_goes_112 : decode cX9_goes 112 = .ok (.getfield 32, 3) := by decide +kernel
theorem sX9_goes_112 : ab_X rom K cX9_goes 7 2 112 ls (.ref a :: st) hp = (ab_fld hp a 7 16).bind (fun v => ab_X rom K cX9_goes 7 2 115 ls (v :: st) hp) := ax_getfield dX9_goes_112 kf_7_32 rfl
theorem dX9_goes_115 : decode cX9_goes 115 = .ok (.iload_n 2, 1) := by decide +kernel
theorem sX9_goes_115 : ab_X rom K cX9_goes 7 2 115 (v0 :: v1 :: .int x :: ls) st hp = ab_X rom K cX9_goes 7 2 116 (v0 :: v1 :: .int x :: ls) (.int x :: st) hp := ax_iload_n dX9_goes_115 rfl rfl
theorem dX9_goes_116 : decode cX9_goes 116 = .ok (.iload_n 3, 1) := by decide +kernel
theorem sX9_goes_116 : ab_X rom K cX9_goes 7 2 116 (v0 :: v1 :: v2 :: .int x :: ls) st hp = ab_X rom K cX9_goes 7 2 117 (v0 :: v1 :: v2 :: .int x :: ls) (.int x :: st) hp := ax_iload_n dX9_goes_116 rfl rfl
theorem dX9_goes_117 : decode cX9_goes 117 = .ok (.iastore, 1) := by decide +kernel
theorem sX9_goes_117 : ab_X rom K cX9_goes 7 2 117 ls (.int y :: .int x :: .ref a :: st) hp = (ab_awr 0 hp a x y).bind (fun hp' => ab_X rom K cX9_goes 7 2 118 ls st hp') := ax_iastore dX9_goes_117 rfl
theorem dX9_goes_118 : decode cX9_goes 118 = .ok (.aload_n 0, 1) := by decide +kernel
theorem sX9_goes_118 : ab_X rom K cX9_goes 7 2 118 (.ref a :: ls) st hp = ab_X rom K cX9_goes 7 2 119 (.ref a :: ls) (.ref a :: st) hp := ax_aload_n dX9_goes_118 rfl rfl
theorem dX9_goes_119 : decode cX9_goes 119 = .ok (.getfield 35, 3) := by decide +kernel
theorem sX9_goes_119 : ab_X rom K cX9_goes 7 2 119 ls (.ref a :: st) hp = (ab_fld hp a 7 19).bind (fun v => ab_X rom K cX9_goes 7 2 122 ls (v :: st) hp) := ax_getfield dX9_goes_119 kf_7_35 rfl
theorem dX9_goes_122 : decode cX9_goes 122 = .ok (.iload_n 2, 1) := by decide +kernel
theorem sX9_goes_122 : ab_X rom K cX9_goes 7 2 122 (v0 :: v1 :: .int x :: ls) st hp = ab_X rom K cX9_goes 7 2 123 (v0 :: v1 :: .int x :: ls) (.int x :: st) hp := ax_iload_n dX9_goes_122 rfl rfl
theorem dX9_goes_123 : decode cX9_goes 123 = .ok (.iaload, 1) := by decide +kernel
theorem sX9_goes_123 : ab_X rom K cX9_goes 7 2 123 ls (.int x :: .ref a :: st) hp = (ab_ard rom 0 hp a x).bind (fun v => ab_X rom K cX9_goes 7 2 124 ls (.int v :: st) hp) := ax_iaload dX9_goes_123 rfl
theorem dX9_goes_124 : decode cX9_goes 124 = .ok (.iconst (-1), 1) := by decide +kernel
theorem sX9_goes_124 : ab_X rom K cX9_goes 7 2 124 ls st hp = ab_X rom K cX9_goes 7 2 125 ls (.int (-1) :: st) hp := ax_iconst dX9_goes_124 (by decide) rfl
theorem dX9_goes_125 : decode cX9_goes 125 = .ok (.if_icmp .eq 13, 3) := by decide +kernel
theorem sX9_goes_125 : ab_X rom K cX9_goes 7 2 125 ls (.int y :: .int x :: st) hp = if x = y then ab_X rom K cX9_goes 7 2 138 ls st hp else ab_X rom K cX9_goes 7 2 128 ls st hp := ax_icmp_eq dX9_goes_125 (by decide) rfl
theorem dX9_goes_128 : decode cX9_goes 128 = .ok (.aload_n 0, 1) := by decide +kernel
theorem sX9_goes_128 : ab_X rom K cX9_goes 7 2 128 (.ref a :: ls) st hp = ab_X rom K cX9_goes 7 2 129 (.ref a :: ls) (.ref a :: st) hp := ax_aload_n dX9_goes_128 rfl rfl
theorem dX9_goes_129 : decode cX9_goes 129 = .ok (.getfield 35, 3) := by decide +kernel
theorem sX9_goes_129 : ab_X rom K cX9_goes 7 2 129 ls (.ref a :: st) hp = (ab_fld hp a 7 19).bind (fun v => ab_X rom K cX9_goes 7 2 132 ls (v :: st) hp) := ax_getfield dX9_goes_129 kf_7_35 rfl
theorem dX9_goes_132 : decode cX9_goes 132 = .ok (.iload_n 2, 1) := by decide +kernel
theorem sX9_goes_132 : ab_X rom K cX9_goes 7 2 132 (v0 :: v1 :: .int x :: ls) st hp = ab_X rom K cX9_goes 7 2 133 (v0 :: v1 :: .int x :: ls) (.int x :: st) hp := ax_iload_n dX9_goes_132 rfl rfl
theorem dX9_goes_133 : decode cX9_goes 133 = .ok (.iaload, 1) := by decide +kernel
theorem sX9_goes_133 : ab_X rom K cX9_goes 7 2 133 ls (.int x :: .ref a :: st) hp = (ab_ard rom 0 hp a x).bind (fun v => ab_X rom K cX9_goes 7 2 134 ls (.int v :: st) hp) := ax_iaload dX9_goes_133 rfl
theorem dX9_goes_134 : decode cX9_goes 134 = .ok (.iload_n 3, 1) := by decide +kernel
theorem sX9_goes_134 : ab_X rom K cX9_goes 7 2 134 (v0 :: v1 :: v2 :: .int x :: ls) st hp = ab_X rom K cX9_goes 7 2 135 (v0 :: v1 :: v2 :: .int x :: ls) (.int x :: st) hp := ax_iload_n dX9_goes_134 rfl rfl
theorem dX9_goes_135 : decode cX9_goes 135 = .ok (.if_icmp .ne 56, 3) := by decide +kernel
theorem sX9_goes_135 : ab_X rom K cX9_goes 7 2 135 ls (.int y :: .int x :: st) hp = if x = y then ab_X rom K cX9_goes 7 2 138 ls st hp else ab_X rom K cX9_goes 7 2 191 ls st hp := ax_icmp_ne dX9_goes_135 (by decide) rfl
theorem dX9_goes_138 : decode cX9_goes 138 = .ok (.aload_n 0, 1) := by decide +kernel
theorem sX9_goes_138 : ab_X rom K cX9_goes 7 2 138 (.ref a :: ls) st hp = ab_X rom K cX9_goes 7 2 139 (.ref a :: ls) (.ref a :: st) hp := ax_aload_n dX9_goes_138 rfl rfl
theorem dX9_goes_139 : decode cX9_goes 139 = .ok (.iload_n 1, 1) := by decide +kernel
theorem sX9_goes_139 : ab_X rom K cX9_goes 7 2 139 (v0 :: .int x :: ls) st hp = ab_X rom K cX9_goes 7 2 140 (v0 :: .int x :: ls) (.int x :: st) hp := ax_iload_n dX9_goes_139 rfl rfl
theorem dX9_goes_140 : decode cX9_goes 140 = .ok (.iload_n 2, 1) := by decide +kernel
theorem sX9_goes_140 : ab_X rom K cX9_goes 7 2 140 (v0 :: v1 :: .int x :: ls) st hp = ab_X rom K cX9_goes 7 2 141 (v0 :: v1 :: .int x :: ls) (.int x :: st) hp := ax_iload_n dX9_goes_140 rfl rfl
theorem dX9_goes_141 : decode cX9_goes 141 = .ok (.iconst 1, 1) := by decide +kernel
theorem sX9_goes_141 : ab_X rom K cX9_goes 7 2 141 ls st hp = ab_X rom K cX9_goes 7 2 142 ls (.int 1 :: st) hp := ax_iconst dX9_goes_141 (by decide) rfl
theorem dX9_goes_142 : decode cX9_goes 142 = .ok (.iadd, 1) := by decide +kernel
theorem sX9_goes_142 : ab_X rom K cX9_goes 7 2 142 ls (.int y :: .int x :: st) hp = ab_X rom K cX9_goes 7 2 143 ls (.int (x + y) :: st) hp := ax_iadd dX9_goes_142 rfl
theorem dX9_goes_143 : decode cX9_goes 143 = .ok (.invokevirtual 260, 3) := by decide +kernel
theorem sX9_goes_143_0 : ab_X rom K cX9_goes 7 2 143 ls [w2, w1, .ref a] hp = if ab_iso hp a 7 = true then (K 133 (.ref a :: [w1, w2]) hp).bind (fun o => ab_X rom K cX9_goes 7 2 146 ls (o.1.toList ++ []) o.2) else none := ay_virtual (as := [w1, w2]) (st := []) dX9_goes_143 kc_7_260 rfl rfl (Nat.le_of_ble_eq_true rfl)
theorem sX9_goes_143_1 : ab_X rom K cX9_goes 7 2 143 ls [w2, w1, .ref a, v0] hp = if ab_iso hp a 7 = true then (K 133 (.ref a :: [w1, w2]) hp).bind (fun o => ab_X rom K cX9_goes 7 2 146 ls (o.1.toList ++ [v0]) o.2) else none := ay_virtual (as := [w1, w2]) (st := [v0]) dX9_goes_143 kc_7_260 rfl rfl (Nat.le_of_ble_eq_true rfl)
theorem sX9_goes_143_2 : ab_X rom K cX9_goes 7 2 143 ls [w2, w1, .ref a, v0, v1] hp = if ab_iso hp a 7 = true then (K 133 (.ref a :: [w1, w2]) hp).bind (fun o => ab_X rom K cX9_goes 7 2 146 ls (o.1.toList ++ [v0, v1]) o.2) else none := ay_virtual (as := [w1, w2]) (st := [v0, v1]) dX9_goes_143 kc_7_260 rfl rfl (Nat.le_of_ble_eq_true rfl)
theorem sX9_goes_143_3 : ab_X rom K cX9_goes 7 2 143 ls [w2, w1, .ref a, v0, v1, v2] hp = if ab_iso hp a 7 = true then (K 133 (.ref a :: [w1, w2]) hp).bind (fun o => ab_X rom K cX9_goes 7 2 146 ls (o.1.toList ++ [v0, v1, v2]) o.2) else none := ay_virtual (as := [w1, w2]) (st := [v0, v1, v2]) dX9_goes_143 kc_7_260 rfl rfl (Nat.le_of_ble_eq_true rfl)
theorem dX9_goes_146 : decode cX9_goes 146 = .ok (.ifCond .ne 45, 3) := by decide +kernel
theorem sX9_goes_146 : ab_X rom K cX9_goes 7 2 146 ls (.int x :: st) hp = if x = 0 then ab_X rom K cX9_goes 7 2 149 ls st hp else ab_X rom K cX9_goes 7 2 191 ls st hp := ax_if_ne dX9_goes_146 (by decide) rfl
theorem dX9_goes_149 : decode cX9_goes 149 = .ok (.aload_n 0, 1) := by decide +kernel
theorem sX9_goes_149 : ab_X rom K cX9_goes 7 2 149 (.ref a :: ls) st hp = ab_X rom K cX9_goes 7 2 150 (.ref a :: ls) (.ref a :: st) hp := ax_aload_n dX9_goes_149 rfl rfl
theorem dX9_goes_150 : decode cX9_goes 150 = .ok (.iload_n 1, 1) := by decide +kernel
theorem sX9_goes_150 : ab_X rom K cX9_goes 7 2 150 (v0 :: .int x :: ls) st hp = ab_X rom K cX9_goes 7 2 151 (v0 :: .int x :: ls) (.int x :: st) hp := ax_iload_n dX9_goes_150 rfl rfl
theorem dX9_goes_151 : decode cX9_goes 151 = .ok (.iload_n 2, 1) := by decide +kernel
theorem sX9_goes_151 : ab_X rom K cX9_goes 7 2 151 (v0 :: v1 :: .int x :: ls) st hp = ab_X rom K cX9_goes 7 2 152 (v0 :: v1 :: .int x :: ls) (.int x :: st) hp := ax_iload_n dX9_goes_151 rfl rfl
theorem dX9_goes_152 : decode cX9_goes 152 = .ok (.iconst 1, 1) := by decide +kernel
theorem sX9_goes_152 : ab_X rom K cX9_goes 7 2 152 ls st hp = ab_X rom K cX9_goes 7 2 153 ls (.int 1 :: st) hp := ax_iconst dX9_goes_152 (by decide) rfl
theorem dX9_goes_153 : decode cX9_goes 153 = .ok (.iadd, 1) := by decide +kernel
theorem sX9_goes_153 : ab_X rom K cX9_goes 7 2 153 ls (.int y :: .int x :: st) hp = ab_X rom K cX9_goes 7 2 154 ls (.int (x + y) :: st) hp := ax_iadd dX9_goes_153 rfl
theorem dX9_goes_154 : decode cX9_goes 154 = .ok (.invokevirtual 263, 3) := by decide +kernel
theorem sX9_goes_154_0 : ab_X rom K cX9_goes 7 2 154 ls [w2, w1, .ref a] hp = if ab_iso hp a 7 = true then (K 136 (.ref a :: [w1, w2]) hp).bind (fun o => ab_X rom K cX9_goes 7 2 157 ls (o.1.toList ++ []) o.2) else none := ay_virtual (as := [w1, w2]) (st := []) dX9_goes_154 kc_7_263 rfl rfl (Nat.le_of_ble_eq_true rfl)
theorem sX9_goes_154_1 : ab_X rom K cX9_goes 7 2 154 ls [w2, w1, .ref a, v0] hp = if ab_iso hp a 7 = true then (K 136 (.ref a :: [w1, w2]) hp).bind (fun o => ab_X rom K cX9_goes 7 2 157 ls (o.1.toList ++ [v0]) o.2) else none := ay_virtual (as := [w1, w2]) (st := [v0]) dX9_goes_154 kc_7_263 rfl rfl (Nat.le_of_ble_eq_true rfl)
theorem sX9_goes_154_2 : ab_X rom K cX9_goes 7 2 154 ls [w2, w1, .ref a, v0, v1] hp = if ab_iso hp a 7 = true then (K 136 (.ref a :: [w1, w2]) hp).bind (fun o => ab_X rom K cX9_goes 7 2 157 ls (o.1.toList ++ [v0, v1]) o.2) else none := ay_virtual (as := [w1, w2]) (st := [v0, v1]) dX9_goes_154 kc_7_263 rfl rfl (Nat.le_of_ble_eq_true rfl)
theorem sX9_goes_154_3 : ab_X rom K cX9_goes 7 2 154 ls [w2, w1, .ref a, v0, v1, v2] hp = if ab_iso hp a 7 = true then (K 136 (.ref a :: [w1, w2]) hp).bind (fun o => ab_X rom K cX9_goes 7 2 157 ls (o.1.toList ++ [v0, v1, v2]) o.2) else none := ay_virtual (as := [w1, w2]) (st := [v0, v1, v2]) dX9_goes_154 kc_7_263 rfl rfl (Nat.le_of_ble_eq_true rfl)
theorem dX9_goes_157 : decode cX9_goes 157 = .ok (.ifCond .ne 34, 3) := by decide +kernel
theorem sX9_goes_157 : ab_X rom K cX9_goes 7 2 157 ls (.int x :: st) hp = if x = 0 then ab_X rom K cX9_goes 7 2 160 ls st hp else ab_X rom K cX9_goes 7 2 191 ls st hp := ax_if_ne dX9_goes_157 (by decide) rfl
theorem dX9_goes_160 : decode cX9_goes 160 = .ok (.iload_n 1, 1) := by decide +kernel
theorem sX9_goes_160 : ab_X rom K cX9_goes 7 2 160 (v0 :: .int x :: ls) st hp = ab_X rom K cX9_goes 7 2 161 (v0 :: .int x :: ls) (.int x :: st) hp := ax_iload_n dX9_goes_160 rfl rfl
theorem dX9_goes_161 : decode cX9_goes 161 = .ok (.iconst 3, 1) := by decide +kernel
theorem sX9_goes_161 : ab_X rom K cX9_goes 7 2 161 ls st hp = ab_X rom K cX9_goes 7 2 162 ls (.int 3 :: st) hp := ax_iconst dX9_goes_161 (by decide) rfl
theorem dX9_goes_162 : decode cX9_goes 162 = .ok (.if_icmp .ne 16, 3) := by decide +kernel
theorem sX9_goes_162 : ab_X rom K cX9_goes 7 2 162 ls (.int y :: .int x :: st) hp = if x = y then ab_X rom K cX9_goes 7 2 165 ls st hp else ab_X rom K cX9_goes 7 2 178 ls st hp := ax_icmp_ne dX9_goes_162 (by decide) rfl
theorem dX9_goes_165 : decode cX9_goes 165 = .ok (.aload_n 0, 1) := by decide +kernel
theorem sX9_goes_165 : ab_X rom K cX9_goes 7 2 165 (.ref a :: ls) st hp = ab_X rom K cX9_goes 7 2 166 (.ref a :: ls) (.ref a :: st) hp := ax_aload_n dX9_goes_165 rfl rfl
theorem dX9_goes_166 : decode cX9_goes 166 = .ok (.iload_n 2, 1) := by decide +kernel
theorem sX9_goes_166 : ab_X rom K cX9_goes 7 2 166 (v0 :: v1 :: .int x :: ls) st hp = ab_X rom K cX9_goes 7 2 167 (v0 :: v1 :: .int x :: ls) (.int x :: st) hp := ax_iload_n dX9_goes_166 rfl rfl
theorem dX9_goes_167 : decode cX9_goes 167 = .ok (.iconst 1, 1) := by decide +kernel
theorem sX9_goes_167 : ab_X rom K cX9_goes 7 2 167 ls st hp = ab_X rom K cX9_goes 7 2 168 ls (.int 1 :: st) hp := ax_iconst dX9_goes_167 (by decide) rfl
theorem dX9_goes_168 : decode cX9_goes 168 = .ok (.iadd, 1) := by decide +kernel
theorem sX9_goes_168 : ab_X rom K cX9_goes 7 2 168 ls (.int y :: .int x :: st) hp = ab_X rom K cX9_goes 7 2 169 ls (.int (x + y) :: st) hp := ax_iadd dX9_goes_168 rfl
theorem dX9_goes_169 : decode cX9_goes 169 = .ok (.invokevirtual 251, 3) := by decide +kernel
theorem sX9_goes_169_0 : ab_X rom K cX9_goes 7 2 169 ls [w1, .ref a] hp = if ab_iso hp a 7 = true then (K 172 (.ref a :: [w1]) hp).bind (fun o => ab_X rom K cX9_goes 7 2 172 ls (o.1.toList ++ []) o.2) else none := ay_virtual (as := [w1]) (st := []) dX9_goes_169 kc_7_251 rfl rfl (Nat.le_of_ble_eq_true rfl)
theorem sX9_goes_169_1 : ab_X rom K cX9_goes 7 2 169 ls [w1, .ref a, v0] hp = if ab_iso hp a 7 = true then (K 172 (.ref a :: [w1]) hp).bind (fun o => ab_X rom K cX9_goes 7 2 172 ls (o.1.toList ++ [v0]) o.2) else none := ay_virtual (as := [w1]) (st := [v0]) dX9_goes_169 kc_7_251 rfl rfl (Nat.le_of_ble_eq_true rfl)
theorem sX9_goes_169_2 : ab_X rom K cX9_goes 7 2 169 ls [w1, .ref a, v0, v1] hp = if ab_iso hp a 7 = true then (K 172 (.ref a :: [w1]) hp).bind (fun o => ab_X rom K cX9_goes 7 2 172 ls (o.1.toList ++ [v0, v1]) o.2) else none := ay_virtual (as := [w1]) (st := [v0, v1]) dX9_goes_169 kc_7_251 rfl rfl (Nat.le_of_ble_eq_true rfl)
theorem sX9_goes_169_3 : ab_X rom K cX9_goes 7 2 169 ls [w1, .ref a, v0, v1, v2] hp = if ab_iso hp a 7 = true then (K 172 (.ref a :: [w1]) hp).bind (fun o => ab_X rom K cX9_goes 7 2 172 ls (o.1.toList ++ [v0, v1, v2]) o.2) else none := ay_virtual (as := [w1]) (st := [v0, v1, v2]) dX9_goes_169 kc_7_251 rfl rfl (Nat.le_of_ble_eq_true rfl)
theorem dX9_goes_172 : decode cX9_goes 172 = .ok (.ifCond .ne 6, 3) := by decide +kernel
theorem sX9_goes_172 : ab_X rom K cX9_goes 7 2 172 ls (.int x :: st) hp = if x = 0 then ab_X rom K cX9_goes 7 2 175 ls st hp else ab_X rom K cX9_goes 7 2 178 ls st hp := ax_if_ne dX9_goes_172 (by decide) rfl
theorem dX9_goes_175 : decode cX9_goes 175 = .ok (.goto 16, 3) := by decide +kernel
theorem sX9_goes_175 : ab_X rom K cX9_goes 7 2 175 ls st hp = ab_X rom K cX9_goes 7 2 191 ls st hp := ax_goto dX9_goes_175 (by decide)
theorem dX9_goes_178 : decode cX9_goes 178 = .ok (.aload_n 0, 1) := by decide +kernel
theorem sX9_goes_178 : ab_X rom K cX9_goes 7 2 178 (.ref a :: ls) st hp = ab_X rom K cX9_goes 7 2 179 (.ref a :: ls) (.ref a :: st) hp := ax_aload_n dX9_goes_178 rfl rfl
theorem dX9_goes_179 : decode cX9_goes 179 = .ok (.iload_n 1, 1) := by decide +kernel
theorem sX9_goes_179 : ab_X rom K cX9_goes 7 2 179 (v0 :: .int x :: ls) st hp = ab_X rom K cX9_goes 7 2 180 (v0 :: .int x :: ls) (.int x :: st) hp := ax_iload_n dX9_goes_179 rfl rfl
theorem dX9_goes_180 : decode cX9_goes 180 = .ok (.iload_n 2, 1) := by decide +kernel
theorem sX9_goes_180 : ab_X rom K cX9_goes 7 2 180 (v0 :: v1 :: .int x :: ls) st hp = ab_X rom K cX9_goes 7 2 181 (v0 :: v1 :: .int x :: ls) (.int x :: st) hp := ax_iload_n dX9_goes_180 rfl rfl
theorem dX9_goes_181 : decode cX9_goes 181 = .ok (.iconst 1, 1) := by decide +kernel
theorem sX9_goes_181 : ab_X rom K cX9_goes 7 2 181 ls st hp = ab_X rom K cX9_goes 7 2 182 ls (.int 1 :: st) hp := ax_iconst dX9_goes_181 (by decide) rfl
theorem dX9_goes_182 : decode cX9_goes 182 = .ok (.iadd, 1) := by decide +kernel
theorem sX9_goes_182 : ab_X rom K cX9_goes 7 2 182 ls (.int y :: .int x :: st) hp = ab_X rom K cX9_goes 7 2 183 ls (.int (x + y) :: st) hp := ax_iadd dX9_goes_182 rfl
theorem dX9_goes_183 : decode cX9_goes 183 = .ok (.invokevirtual 299, 3) := by decide +kernel
theorem sX9_goes_183_0 : ab_X rom K cX9_goes 7 2 183 ls [w2, w1, .ref a] hp = if ab_iso hp a 7 = true then (K 154 (.ref a :: [w1, w2]) hp).bind (fun o => ab_X rom K cX9_goes 7 2 186 ls (o.1.toList ++ []) o.2) else none := ay_virtual (as := [w1, w2]) (st := []) dX9_goes_183 kc_7_299 rfl rfl (Nat.le_of_ble_eq_true rfl)
theorem sX9_goes_183_1 : ab_X rom K cX9_goes 7 2 183 ls [w2, w1, .ref a, v0] hp = if ab_iso hp a 7 = true then (K 154 (.ref a :: [w1, w2]) hp).bind (fun o => ab_X rom K cX9_goes 7 2 186 ls (o.1.toList ++ [v0]) o.2) else none := ay_virtual (as := [w1, w2]) (st := [v0]) dX9_goes_183 kc_7_299 rfl rfl (Nat.le_of_ble_eq_true rfl)
theorem sX9_goes_183_2 : ab_X rom K cX9_goes 7 2 183 ls [w2, w1, .ref a, v0, v1] hp = if ab_iso hp a 7 = true then (K 154 (.ref a :: [w1, w2]) hp).bind (fun o => ab_X rom K cX9_goes 7 2 186 ls (o.1.toList ++ [v0, v1]) o.2) else none := ay_virtual (as := [w1, w2]) (st := [v0, v1]) dX9_goes_183 kc_7_299 rfl rfl (Nat.le_of_ble_eq_true rfl)
theorem sX9_goes_183_3 : ab_X rom K cX9_goes 7 2 183 ls [w2, w1, .ref a, v0, v1, v2] hp = if ab_iso hp a 7 = true then (K 154 (.ref a :: [w1, w2]) hp).bind (fun o => ab_X rom K cX9_goes 7 2 186 ls (o.1.toList ++ [v0, v1, v2]) o.2) else none := ay_virtual (as := [w1, w2]) (st := [v0, v1, v2]) dX9_goes_183 kc_7_299 rfl rfl (Nat.le_of_ble_eq_true rfl)
theorem dX9_goes_186 : decode cX9_goes 186 = .ok (.ifCond .eq 5, 3) := by decide +kernel
theorem sX9_goes_186 : ab_X rom K cX9_goes 7 2 186 ls (.int x :: st) hp = if x = 0 then ab_X rom K cX9_goes 7 2 191 ls st hp else ab_X rom K cX9_goes 7 2 189 ls st hp := ax_if_eq dX9_goes_186 (by decide) rfl
theorem dX9_goes_189 : decode cX9_goes 189 = .ok (.iconst 1, 1) := by decide +kernel
theorem sX9_goes_189 : ab_X rom K cX9_goes 7 2 189 ls st hp = ab_X rom K cX9_goes 7 2 190 ls (.int 1 :: st) hp := ax_iconst dX9_goes_189 (by decide) rfl
theorem dX9_goes_190 : decode cX9_goes 190 = .ok (.ireturn, 1) := by decide +kernel
theorem sX9_goes_190 : ab_X rom K cX9_goes 7 2 190 ls [.int x] hp = if x = 0 ∨ x = 1 then some (some (.int x), hp) else none := ay_zret dX9_goes_190 rfl
theorem dX9_goes_191 : decode cX9_goes 191 = .ok (.iinc 3 1, 3) := by decide +kernel
theorem sX9_goes_191i : ab_X rom K cX9_goes 7 2 191 (v0 :: v1 :: .int y :: .int x :: ls) st hp = ab_X rom K cX9_goes 7 2 194 (v0 :: v1 :: .int y :: .int (x + 1) :: ls) st hp := ax_iinc dX9_goes_191 rfl (ab_nl_c1 (j := 2) (v := .int y) rfl (ab_c1_int _)) (by decide) rfl rfl
theorem sX9_goes_191r : ab_X rom K cX9_goes 7 2 191 (v0 :: v1 :: .ref a2 :: .int x :: ls) st hp = ab_X rom K cX9_goes 7 2 194 (v0 :: v1 :: .ref a2 :: .int (x + 1) :: ls) st hp := ax_iinc dX9_goes_191 rfl (ab_nl_c1 (j := 2) (v := .ref a2) rfl (ab_c1_ref _)) (by decide) rfl rfl
theorem sX9_goes_191n : ab_X rom K cX9_goes 7 2 191 (v0 :: v1 :: .null :: .int x :: ls) st hp = ab_X rom K cX9_goes 7 2 194 (v0 :: v1 :: .null :: .int (x + 1) :: ls) st hp := ax_iinc dX9_goes_191 rfl (ab_nl_c1 (j := 2) (v := .null) rfl ab_c1_null) (by decide) rfl rfl
theorem dX9_goes_194 : decode cX9_goes 194 = .ok (.goto (-92), 3) := by decide +kernel
theorem sX9_goes_194 : ab_X rom K cX9_goes 7 2 194 ls st hp = ab_X rom K cX9_goes 7 2 102 ls st hp := ax_goto dX9_goes_194 (by decide)
theorem dX9_goes_197 : decode cX9_goes 197 = .ok (.iconst 0, 1) := by decide +kernel
theorem sX9_goes_197 : ab_X rom K cX9_goes 7 2 197 ls st hp = ab_X rom K cX9_goes 7 2 198 ls (.int 0 :: st) hp := ax_iconst dX9_goes_197 (by decide) rfl
theorem dX9_goes_198 : decode cX9_goes 198 = .ok (.ireturn, 1) := by decide +kernel
theorem sX9_goes_198 : ab_X rom K cX9_goes 7 2 198 ls [.int x] hp = if x = 0 ∨ x = 1 then some (some (.int x), hp) else none := ay_zret dX9_goes_198 rfl
theorem tX9_grafts : ab_mT[155]? = some (yX9_grafts, cX9_grafts, 10, 1, 7) := by decide +kernel
theorem mX9_grafts {d : Nat} {a0 : Nat} {x0 : Int32} {x1 : Int32} {x2 : Int32} : ab_M rom (d + 1) 155 [.ref a0, .int x0, .int x1, .int x2] hp = ab_X rom (ab_M rom d) cX9_grafts 7 1 0 [.ref a0, .int x0, .int x1, .int x2, .null, .null, .null, .null, .null, .null] [] hp := ab_M_eq tX9_grafts (Nat.le_of_ble_eq_true rfl)
theorem dX9_grafts_0 : decode cX9_grafts 0 = .ok (.aload_n 0, 1) := by decide +kernel
theorem sX9_grafts_0 : ab_X rom K cX9_grafts 7 1 0 (.ref a :: ls) st hp = ab_X rom K cX9_grafts 7 1 1 (.ref a :: ls) (.ref a :: st) hp := ax_aload_n dX9_grafts_0 rfl rfl
theorem dX9_grafts_1 : decode cX9_grafts 1 = .ok (.iload_n 1, 1) := by decide +kernel
theorem sX9_grafts_1 : ab_X rom K cX9_grafts 7 1 1 (v0 :: .int x :: ls) st hp = ab_X rom K cX9_grafts 7 1 2 (v0 :: .int x :: ls) (.int x :: st) hp := ax_iload_n dX9_grafts_1 rfl rfl
theorem dX9_grafts_2 : decode cX9_grafts 2 = .ok (.invokevirtual 68, 3) := by decide +kernel
theorem sX9_grafts_2_0 : ab_X rom K cX9_grafts 7 1 2 ls [w1, .ref a] hp = if ab_iso hp a 7 = true then (K 171 (.ref a :: [w1]) hp).bind (fun o => ab_X rom K cX9_grafts 7 1 5 ls (o.1.toList ++ []) o.2) else none := ay_virtual (as := [w1]) (st := []) dX9_grafts_2 kc_7_68 rfl rfl (Nat.le_of_ble_eq_true rfl)
theorem sX9_grafts_2_1 : ab_X rom K cX9_grafts 7 1 2 ls [w1, .ref a, v0] hp = if ab_iso hp a 7 = true then (K 171 (.ref a :: [w1]) hp).bind (fun o => ab_X rom K cX9_grafts 7 1 5 ls (o.1.toList ++ [v0]) o.2) else none := ay_virtual (as := [w1]) (st := [v0]) dX9_grafts_2 kc_7_68 rfl rfl (Nat.le_of_ble_eq_true rfl)
theorem sX9_grafts_2_2 : ab_X rom K cX9_grafts 7 1 2 ls [w1, .ref a, v0, v1] hp = if ab_iso hp a 7 = true then (K 171 (.ref a :: [w1]) hp).bind (fun o => ab_X rom K cX9_grafts 7 1 5 ls (o.1.toList ++ [v0, v1]) o.2) else none := ay_virtual (as := [w1]) (st := [v0, v1]) dX9_grafts_2 kc_7_68 rfl rfl (Nat.le_of_ble_eq_true rfl)
theorem sX9_grafts_2_3 : ab_X rom K cX9_grafts 7 1 2 ls [w1, .ref a, v0, v1, v2] hp = if ab_iso hp a 7 = true then (K 171 (.ref a :: [w1]) hp).bind (fun o => ab_X rom K cX9_grafts 7 1 5 ls (o.1.toList ++ [v0, v1, v2]) o.2) else none := ay_virtual (as := [w1]) (st := [v0, v1, v2]) dX9_grafts_2 kc_7_68 rfl rfl (Nat.le_of_ble_eq_true rfl)
theorem dX9_grafts_5 : decode cX9_grafts 5 = .ok (.ifCond .eq 18, 3) := by decide +kernel
theorem sX9_grafts_5 : ab_X rom K cX9_grafts 7 1 5 ls (.int x :: st) hp = if x = 0 then ab_X rom K cX9_grafts 7 1 23 ls st hp else ab_X rom K cX9_grafts 7 1 8 ls st hp := ax_if_eq dX9_grafts_5 (by decide) rfl
theorem dX9_grafts_8 : decode cX9_grafts 8 = .ok (.aload_n 0, 1) := by decide +kernel
theorem sX9_grafts_8 : ab_X rom K cX9_grafts 7 1 8 (.ref a :: ls) st hp = ab_X rom K cX9_grafts 7 1 9 (.ref a :: ls) (.ref a :: st) hp := ax_aload_n dX9_grafts_8 rfl rfl
theorem dX9_grafts_9 : decode cX9_grafts 9 = .ok (.iload_n 2, 1) := by decide +kernel
theorem sX9_grafts_9 : ab_X rom K cX9_grafts 7 1 9 (v0 :: v1 :: .int x :: ls) st hp = ab_X rom K cX9_grafts 7 1 10 (v0 :: v1 :: .int x :: ls) (.int x :: st) hp := ax_iload_n dX9_grafts_9 rfl rfl
theorem dX9_grafts_10 : decode cX9_grafts 10 = .ok (.invokevirtual 68, 3) := by decide +kernel
theorem sX9_grafts_10_0 : ab_X rom K cX9_grafts 7 1 10 ls [w1, .ref a] hp = if ab_iso hp a 7 = true then (K 171 (.ref a :: [w1]) hp).bind (fun o => ab_X rom K cX9_grafts 7 1 13 ls (o.1.toList ++ []) o.2) else none := ay_virtual (as := [w1]) (st := []) dX9_grafts_10 kc_7_68 rfl rfl (Nat.le_of_ble_eq_true rfl)
theorem sX9_grafts_10_1 : ab_X rom K cX9_grafts 7 1 10 ls [w1, .ref a, v0] hp = if ab_iso hp a 7 = true then (K 171 (.ref a :: [w1]) hp).bind (fun o => ab_X rom K cX9_grafts 7 1 13 ls (o.1.toList ++ [v0]) o.2) else none := ay_virtual (as := [w1]) (st := [v0]) dX9_grafts_10 kc_7_68 rfl rfl (Nat.le_of_ble_eq_true rfl)
theorem sX9_grafts_10_2 : ab_X rom K cX9_grafts 7 1 10 ls [w1, .ref a, v0, v1] hp = if ab_iso hp a 7 = true then (K 171 (.ref a :: [w1]) hp).bind (fun o => ab_X rom K cX9_grafts 7 1 13 ls (o.1.toList ++ [v0, v1]) o.2) else none := ay_virtual (as := [w1]) (st := [v0, v1]) dX9_grafts_10 kc_7_68 rfl rfl (Nat.le_of_ble_eq_true rfl)
theorem sX9_grafts_10_3 : ab_X rom K cX9_grafts 7 1 10 ls [w1, .ref a, v0, v1, v2] hp = if ab_iso hp a 7 = true then (K 171 (.ref a :: [w1]) hp).bind (fun o => ab_X rom K cX9_grafts 7 1 13 ls (o.1.toList ++ [v0, v1, v2]) o.2) else none := ay_virtual (as := [w1]) (st := [v0, v1, v2]) dX9_grafts_10 kc_7_68 rfl rfl (Nat.le_of_ble_eq_true rfl)
theorem dX9_grafts_13 : decode cX9_grafts 13 = .ok (.ifCond .eq 10, 3) := by decide +kernel
theorem sX9_grafts_13 : ab_X rom K cX9_grafts 7 1 13 ls (.int x :: st) hp = if x = 0 then ab_X rom K cX9_grafts 7 1 23 ls st hp else ab_X rom K cX9_grafts 7 1 16 ls st hp := ax_if_eq dX9_grafts_13 (by decide) rfl
theorem dX9_grafts_16 : decode cX9_grafts 16 = .ok (.iload_n 3, 1) := by decide +kernel
theorem sX9_grafts_16 : ab_X rom K cX9_grafts 7 1 16 (v0 :: v1 :: v2 :: .int x :: ls) st hp = ab_X rom K cX9_grafts 7 1 17 (v0 :: v1 :: v2 :: .int x :: ls) (.int x :: st) hp := ax_iload_n dX9_grafts_16 rfl rfl
theorem dX9_grafts_17 : decode cX9_grafts 17 = .ok (.invokestatic 60, 3) := by decide +kernel
theorem sX9_grafts_17_0 : ab_X rom K cX9_grafts 7 1 17 ls [w1] hp = (K 175 [w1] hp).bind (fun o => ab_X rom K cX9_grafts 7 1 20 ls (o.1.toList ++ []) o.2) := ax_static (as := [w1]) (st := []) dX9_grafts_17 kc_7_60 rfl rfl (Nat.le_of_ble_eq_true rfl)
theorem sX9_grafts_17_1 : ab_X rom K cX9_grafts 7 1 17 ls [w1, v0] hp = (K 175 [w1] hp).bind (fun o => ab_X rom K cX9_grafts 7 1 20 ls (o.1.toList ++ [v0]) o.2) := ax_static (as := [w1]) (st := [v0]) dX9_grafts_17 kc_7_60 rfl rfl (Nat.le_of_ble_eq_true rfl)
theorem sX9_grafts_17_2 : ab_X rom K cX9_grafts 7 1 17 ls [w1, v0, v1] hp = (K 175 [w1] hp).bind (fun o => ab_X rom K cX9_grafts 7 1 20 ls (o.1.toList ++ [v0, v1]) o.2) := ax_static (as := [w1]) (st := [v0, v1]) dX9_grafts_17 kc_7_60 rfl rfl (Nat.le_of_ble_eq_true rfl)
theorem sX9_grafts_17_3 : ab_X rom K cX9_grafts 7 1 17 ls [w1, v0, v1, v2] hp = (K 175 [w1] hp).bind (fun o => ab_X rom K cX9_grafts 7 1 20 ls (o.1.toList ++ [v0, v1, v2]) o.2) := ax_static (as := [w1]) (st := [v0, v1, v2]) dX9_grafts_17 kc_7_60 rfl rfl (Nat.le_of_ble_eq_true rfl)
theorem dX9_grafts_20 : decode cX9_grafts 20 = .ok (.ifCond .ne 6, 3) := by decide +kernel
theorem sX9_grafts_20 : ab_X rom K cX9_grafts 7 1 20 ls (.int x :: st) hp = if x = 0 then ab_X rom K cX9_grafts 7 1 23 ls st hp else ab_X rom K cX9_grafts 7 1 26 ls st hp := ax_if_ne dX9_grafts_20 (by decide) rfl
theorem dX9_grafts_23 : decode cX9_grafts 23 = .ok (.bipush (-2), 2) := by decide +kernel
theorem sX9_grafts_23 : ab_X rom K cX9_grafts 7 1 23 ls st hp = ab_X rom K cX9_grafts 7 1 25 ls (.int (-2) :: st) hp := ax_bipush dX9_grafts_23 (by decide) rfl
theorem dX9_grafts_25 : decode cX9_grafts 25 = .ok (.ireturn, 1) := by decide +kernel
theorem sX9_grafts_25 : ab_X rom K cX9_grafts 7 1 25 ls [.int x] hp = some (some (.int x), hp) := ax_iret dX9_grafts_25 rfl
theorem dX9_grafts_26 : decode cX9_grafts 26 = .ok (.aload_n 0, 1) := by decide +kernel
theorem sX9_grafts_26 : ab_X rom K cX9_grafts 7 1 26 (.ref a :: ls) st hp = ab_X rom K cX9_grafts 7 1 27 (.ref a :: ls) (.ref a :: st) hp := ax_aload_n dX9_grafts_26 rfl rfl
theorem dX9_grafts_27 : decode cX9_grafts 27 = .ok (.iload_n 1, 1) := by decide +kernel
theorem sX9_grafts_27 : ab_X rom K cX9_grafts 7 1 27 (v0 :: .int x :: ls) st hp = ab_X rom K cX9_grafts 7 1 28 (v0 :: .int x :: ls) (.int x :: st) hp := ax_iload_n dX9_grafts_27 rfl rfl
theorem dX9_grafts_28 : decode cX9_grafts 28 = .ok (.invokevirtual 64, 3) := by decide +kernel
theorem sX9_grafts_28_0 : ab_X rom K cX9_grafts 7 1 28 ls [w1, .ref a] hp = if ab_iso hp a 7 = true then (K 209 (.ref a :: [w1]) hp).bind (fun o => ab_X rom K cX9_grafts 7 1 31 ls (o.1.toList ++ []) o.2) else none := ay_virtual (as := [w1]) (st := []) dX9_grafts_28 kc_7_64 rfl rfl (Nat.le_of_ble_eq_true rfl)
theorem sX9_grafts_28_1 : ab_X rom K cX9_grafts 7 1 28 ls [w1, .ref a, v0] hp = if ab_iso hp a 7 = true then (K 209 (.ref a :: [w1]) hp).bind (fun o => ab_X rom K cX9_grafts 7 1 31 ls (o.1.toList ++ [v0]) o.2) else none := ay_virtual (as := [w1]) (st := [v0]) dX9_grafts_28 kc_7_64 rfl rfl (Nat.le_of_ble_eq_true rfl)
theorem sX9_grafts_28_2 : ab_X rom K cX9_grafts 7 1 28 ls [w1, .ref a, v0, v1] hp = if ab_iso hp a 7 = true then (K 209 (.ref a :: [w1]) hp).bind (fun o => ab_X rom K cX9_grafts 7 1 31 ls (o.1.toList ++ [v0, v1]) o.2) else none := ay_virtual (as := [w1]) (st := [v0, v1]) dX9_grafts_28 kc_7_64 rfl rfl (Nat.le_of_ble_eq_true rfl)
theorem sX9_grafts_28_3 : ab_X rom K cX9_grafts 7 1 28 ls [w1, .ref a, v0, v1, v2] hp = if ab_iso hp a 7 = true then (K 209 (.ref a :: [w1]) hp).bind (fun o => ab_X rom K cX9_grafts 7 1 31 ls (o.1.toList ++ [v0, v1, v2]) o.2) else none := ay_virtual (as := [w1]) (st := [v0, v1, v2]) dX9_grafts_28 kc_7_64 rfl rfl (Nat.le_of_ble_eq_true rfl)
theorem dX9_grafts_31 : decode cX9_grafts 31 = .ok (.aload_n 0, 1) := by decide +kernel
theorem sX9_grafts_31 : ab_X rom K cX9_grafts 7 1 31 (.ref a :: ls) st hp = ab_X rom K cX9_grafts 7 1 32 (.ref a :: ls) (.ref a :: st) hp := ax_aload_n dX9_grafts_31 rfl rfl
theorem dX9_grafts_32 : decode cX9_grafts 32 = .ok (.iload_n 2, 1) := by decide +kernel
theorem sX9_grafts_32 : ab_X rom K cX9_grafts 7 1 32 (v0 :: v1 :: .int x :: ls) st hp = ab_X rom K cX9_grafts 7 1 33 (v0 :: v1 :: .int x :: ls) (.int x :: st) hp := ax_iload_n dX9_grafts_32 rfl rfl
theorem dX9_grafts_33 : decode cX9_grafts 33 = .ok (.invokevirtual 64, 3) := by decide +kernel
theorem sX9_grafts_33_0 : ab_X rom K cX9_grafts 7 1 33 ls [w1, .ref a] hp = if ab_iso hp a 7 = true then (K 209 (.ref a :: [w1]) hp).bind (fun o => ab_X rom K cX9_grafts 7 1 36 ls (o.1.toList ++ []) o.2) else none := ay_virtual (as := [w1]) (st := []) dX9_grafts_33 kc_7_64 rfl rfl (Nat.le_of_ble_eq_true rfl)
theorem sX9_grafts_33_1 : ab_X rom K cX9_grafts 7 1 33 ls [w1, .ref a, v0] hp = if ab_iso hp a 7 = true then (K 209 (.ref a :: [w1]) hp).bind (fun o => ab_X rom K cX9_grafts 7 1 36 ls (o.1.toList ++ [v0]) o.2) else none := ay_virtual (as := [w1]) (st := [v0]) dX9_grafts_33 kc_7_64 rfl rfl (Nat.le_of_ble_eq_true rfl)
theorem sX9_grafts_33_2 : ab_X rom K cX9_grafts 7 1 33 ls [w1, .ref a, v0, v1] hp = if ab_iso hp a 7 = true then (K 209 (.ref a :: [w1]) hp).bind (fun o => ab_X rom K cX9_grafts 7 1 36 ls (o.1.toList ++ [v0, v1]) o.2) else none := ay_virtual (as := [w1]) (st := [v0, v1]) dX9_grafts_33 kc_7_64 rfl rfl (Nat.le_of_ble_eq_true rfl)
theorem sX9_grafts_33_3 : ab_X rom K cX9_grafts 7 1 33 ls [w1, .ref a, v0, v1, v2] hp = if ab_iso hp a 7 = true then (K 209 (.ref a :: [w1]) hp).bind (fun o => ab_X rom K cX9_grafts 7 1 36 ls (o.1.toList ++ [v0, v1, v2]) o.2) else none := ay_virtual (as := [w1]) (st := [v0, v1, v2]) dX9_grafts_33 kc_7_64 rfl rfl (Nat.le_of_ble_eq_true rfl)
theorem dX9_grafts_36 : decode cX9_grafts 36 = .ok (.iadd, 1) := by decide +kernel
theorem sX9_grafts_36 : ab_X rom K cX9_grafts 7 1 36 ls (.int y :: .int x :: st) hp = ab_X rom K cX9_grafts 7 1 37 ls (.int (x + y) :: st) hp := ax_iadd dX9_grafts_36 rfl
theorem dX9_grafts_37 : decode cX9_grafts 37 = .ok (.iconst 1, 1) := by decide +kernel
theorem sX9_grafts_37 : ab_X rom K cX9_grafts 7 1 37 ls st hp = ab_X rom K cX9_grafts 7 1 38 ls (.int 1 :: st) hp := ax_iconst dX9_grafts_37 (by decide) rfl
theorem dX9_grafts_38 : decode cX9_grafts 38 = .ok (.isub, 1) := by decide +kernel
theorem sX9_grafts_38 : ab_X rom K cX9_grafts 7 1 38 ls (.int y :: .int x :: st) hp = ab_X rom K cX9_grafts 7 1 39 ls (.int (x - y) :: st) hp := ax_isub dX9_grafts_38 rfl
theorem dX9_grafts_39 : decode cX9_grafts 39 = .ok (.istore 4, 2) := by decide +kernel
theorem sX9_grafts_39i : ab_X rom K cX9_grafts 7 1 39 (v0 :: v1 :: v2 :: .int y :: v4 :: ls) (.int x :: st) hp = ab_X rom K cX9_grafts 7 1 41 (v0 :: v1 :: v2 :: .int y :: .int x :: ls) st hp := ax_istore dX9_grafts_39 (ax_lt (v := v4) rfl) (ab_nl_c1 (j := 3) (v := .int y) rfl (ab_c1_int _)) rfl rfl
theorem sX9_grafts_39r : ab_X rom K cX9_grafts 7 1 39 (v0 :: v1 :: v2 :: .ref a2 :: v4 :: ls) (.int x :: st) hp = ab_X rom K cX9_grafts 7 1 41 (v0 :: v1 :: v2 :: .ref a2 :: .int x :: ls) st hp := ax_istore dX9_grafts_39 (ax_lt (v := v4) rfl) (ab_nl_c1 (j := 3) (v := .ref a2) rfl (ab_c1_ref _)) rfl rfl
theorem sX9_grafts_39n : ab_X rom K cX9_grafts 7 1 39 (v0 :: v1 :: v2 :: .null :: v4 :: ls) (.int x :: st) hp = ab_X rom K cX9_grafts 7 1 41 (v0 :: v1 :: v2 :: .null :: .int x :: ls) st hp := ax_istore dX9_grafts_39 (ax_lt (v := v4) rfl) (ab_nl_c1 (j := 3) (v := .null) rfl ab_c1_null) rfl rfl
theorem dX9_grafts_41 : decode cX9_grafts 41 = .ok (.iload 4, 2) := by decide +kernel
theorem sX9_grafts_41 : ab_X rom K cX9_grafts 7 1 41 (v0 :: v1 :: v2 :: v3 :: .int x :: ls) st hp = ab_X rom K cX9_grafts 7 1 43 (v0 :: v1 :: v2 :: v3 :: .int x :: ls) (.int x :: st) hp := ax_iload dX9_grafts_41 rfl rfl
theorem dX9_grafts_43 : decode cX9_grafts 43 = .ok (.bipush 7, 2) := by decide +kernel
theorem sX9_grafts_43 : ab_X rom K cX9_grafts 7 1 43 ls st hp = ab_X rom K cX9_grafts 7 1 45 ls (.int 7 :: st) hp := ax_bipush dX9_grafts_43 (by decide) rfl
theorem dX9_grafts_45 : decode cX9_grafts 45 = .ok (.if_icmp .gt 19, 3) := by decide +kernel
theorem sX9_grafts_45 : ab_X rom K cX9_grafts 7 1 45 ls (.int y :: .int x :: st) hp = if y < x then ab_X rom K cX9_grafts 7 1 64 ls st hp else ab_X rom K cX9_grafts 7 1 48 ls st hp := ax_icmp_gt dX9_grafts_45 (by decide) rfl
theorem dX9_grafts_48 : decode cX9_grafts 48 = .ok (.aload_n 0, 1) := by decide +kernel
theorem sX9_grafts_48 : ab_X rom K cX9_grafts 7 1 48 (.ref a :: ls) st hp = ab_X rom K cX9_grafts 7 1 49 (.ref a :: ls) (.ref a :: st) hp := ax_aload_n dX9_grafts_48 rfl rfl
theorem dX9_grafts_49 : decode cX9_grafts 49 = .ok (.iload_n 1, 1) := by decide +kernel
theorem sX9_grafts_49 : ab_X rom K cX9_grafts 7 1 49 (v0 :: .int x :: ls) st hp = ab_X rom K cX9_grafts 7 1 50 (v0 :: .int x :: ls) (.int x :: st) hp := ax_iload_n dX9_grafts_49 rfl rfl
theorem dX9_grafts_50 : decode cX9_grafts 50 = .ok (.invokevirtual 150, 3) := by decide +kernel
theorem sX9_grafts_50_0 : ab_X rom K cX9_grafts 7 1 50 ls [w1, .ref a] hp = if ab_iso hp a 7 = true then (K 188 (.ref a :: [w1]) hp).bind (fun o => ab_X rom K cX9_grafts 7 1 53 ls (o.1.toList ++ []) o.2) else none := ay_virtual (as := [w1]) (st := []) dX9_grafts_50 kc_7_150 rfl rfl (Nat.le_of_ble_eq_true rfl)
theorem sX9_grafts_50_1 : ab_X rom K cX9_grafts 7 1 50 ls [w1, .ref a, v0] hp = if ab_iso hp a 7 = true then (K 188 (.ref a :: [w1]) hp).bind (fun o => ab_X rom K cX9_grafts 7 1 53 ls (o.1.toList ++ [v0]) o.2) else none := ay_virtual (as := [w1]) (st := [v0]) dX9_grafts_50 kc_7_150 rfl rfl (Nat.le_of_ble_eq_true rfl)
theorem sX9_grafts_50_2 : ab_X rom K cX9_grafts 7 1 50 ls [w1, .ref a, v0, v1] hp = if ab_iso hp a 7 = true then (K 188 (.ref a :: [w1]) hp).bind (fun o => ab_X rom K cX9_grafts 7 1 53 ls (o.1.toList ++ [v0, v1]) o.2) else none := ay_virtual (as := [w1]) (st := [v0, v1]) dX9_grafts_50 kc_7_150 rfl rfl (Nat.le_of_ble_eq_true rfl)
theorem sX9_grafts_50_3 : ab_X rom K cX9_grafts 7 1 50 ls [w1, .ref a, v0, v1, v2] hp = if ab_iso hp a 7 = true then (K 188 (.ref a :: [w1]) hp).bind (fun o => ab_X rom K cX9_grafts 7 1 53 ls (o.1.toList ++ [v0, v1, v2]) o.2) else none := ay_virtual (as := [w1]) (st := [v0, v1, v2]) dX9_grafts_50 kc_7_150 rfl rfl (Nat.le_of_ble_eq_true rfl)
theorem dX9_grafts_53 : decode cX9_grafts 53 = .ok (.aload_n 0, 1) := by decide +kernel
theorem sX9_grafts_53 : ab_X rom K cX9_grafts 7 1 53 (.ref a :: ls) st hp = ab_X rom K cX9_grafts 7 1 54 (.ref a :: ls) (.ref a :: st) hp := ax_aload_n dX9_grafts_53 rfl rfl
theorem dX9_grafts_54 : decode cX9_grafts 54 = .ok (.iload_n 2, 1) := by decide +kernel
theorem sX9_grafts_54 : ab_X rom K cX9_grafts 7 1 54 (v0 :: v1 :: .int x :: ls) st hp = ab_X rom K cX9_grafts 7 1 55 (v0 :: v1 :: .int x :: ls) (.int x :: st) hp := ax_iload_n dX9_grafts_54 rfl rfl
theorem dX9_grafts_55 : decode cX9_grafts 55 = .ok (.invokevirtual 150, 3) := by decide +kernel
theorem sX9_grafts_55_0 : ab_X rom K cX9_grafts 7 1 55 ls [w1, .ref a] hp = if ab_iso hp a 7 = true then (K 188 (.ref a :: [w1]) hp).bind (fun o => ab_X rom K cX9_grafts 7 1 58 ls (o.1.toList ++ []) o.2) else none := ay_virtual (as := [w1]) (st := []) dX9_grafts_55 kc_7_150 rfl rfl (Nat.le_of_ble_eq_true rfl)
theorem sX9_grafts_55_1 : ab_X rom K cX9_grafts 7 1 55 ls [w1, .ref a, v0] hp = if ab_iso hp a 7 = true then (K 188 (.ref a :: [w1]) hp).bind (fun o => ab_X rom K cX9_grafts 7 1 58 ls (o.1.toList ++ [v0]) o.2) else none := ay_virtual (as := [w1]) (st := [v0]) dX9_grafts_55 kc_7_150 rfl rfl (Nat.le_of_ble_eq_true rfl)
theorem sX9_grafts_55_2 : ab_X rom K cX9_grafts 7 1 55 ls [w1, .ref a, v0, v1] hp = if ab_iso hp a 7 = true then (K 188 (.ref a :: [w1]) hp).bind (fun o => ab_X rom K cX9_grafts 7 1 58 ls (o.1.toList ++ [v0, v1]) o.2) else none := ay_virtual (as := [w1]) (st := [v0, v1]) dX9_grafts_55 kc_7_150 rfl rfl (Nat.le_of_ble_eq_true rfl)
theorem sX9_grafts_55_3 : ab_X rom K cX9_grafts 7 1 55 ls [w1, .ref a, v0, v1, v2] hp = if ab_iso hp a 7 = true then (K 188 (.ref a :: [w1]) hp).bind (fun o => ab_X rom K cX9_grafts 7 1 58 ls (o.1.toList ++ [v0, v1, v2]) o.2) else none := ay_virtual (as := [w1]) (st := [v0, v1, v2]) dX9_grafts_55 kc_7_150 rfl rfl (Nat.le_of_ble_eq_true rfl)
theorem dX9_grafts_58 : decode cX9_grafts 58 = .ok (.iadd, 1) := by decide +kernel
theorem sX9_grafts_58 : ab_X rom K cX9_grafts 7 1 58 ls (.int y :: .int x :: st) hp = ab_X rom K cX9_grafts 7 1 59 ls (.int (x + y) :: st) hp := ax_iadd dX9_grafts_58 rfl
theorem dX9_grafts_59 : decode cX9_grafts 59 = .ok (.bipush 10, 2) := by decide +kernel
theorem sX9_grafts_59 : ab_X rom K cX9_grafts 7 1 59 ls st hp = ab_X rom K cX9_grafts 7 1 61 ls (.int 10 :: st) hp := ax_bipush dX9_grafts_59 (by decide) rfl
theorem dX9_grafts_61 : decode cX9_grafts 61 = .ok (.if_icmp .le 6, 3) := by decide +kernel
theorem sX9_grafts_61 : ab_X rom K cX9_grafts 7 1 61 ls (.int y :: .int x :: st) hp = if y < x then ab_X rom K cX9_grafts 7 1 64 ls st hp else ab_X rom K cX9_grafts 7 1 67 ls st hp := ax_icmp_le dX9_grafts_61 (by decide) rfl
theorem dX9_grafts_64 : decode cX9_grafts 64 = .ok (.bipush (-5), 2) := by decide +kernel
theorem sX9_grafts_64 : ab_X rom K cX9_grafts 7 1 64 ls st hp = ab_X rom K cX9_grafts 7 1 66 ls (.int (-5) :: st) hp := ax_bipush dX9_grafts_64 (by decide) rfl
theorem dX9_grafts_66 : decode cX9_grafts 66 = .ok (.ireturn, 1) := by decide +kernel
theorem sX9_grafts_66 : ab_X rom K cX9_grafts 7 1 66 ls [.int x] hp = some (some (.int x), hp) := ax_iret dX9_grafts_66 rfl
theorem dX9_grafts_67 : decode cX9_grafts 67 = .ok (.aload_n 0, 1) := by decide +kernel
theorem sX9_grafts_67 : ab_X rom K cX9_grafts 7 1 67 (.ref a :: ls) st hp = ab_X rom K cX9_grafts 7 1 68 (.ref a :: ls) (.ref a :: st) hp := ax_aload_n dX9_grafts_67 rfl rfl
theorem dX9_grafts_68 : decode cX9_grafts 68 = .ok (.iload_n 1, 1) := by decide +kernel
theorem sX9_grafts_68 : ab_X rom K cX9_grafts 7 1 68 (v0 :: .int x :: ls) st hp = ab_X rom K cX9_grafts 7 1 69 (v0 :: .int x :: ls) (.int x :: st) hp := ax_iload_n dX9_grafts_68 rfl rfl
theorem dX9_grafts_69 : decode cX9_grafts 69 = .ok (.invokevirtual 319, 3) := by decide +kernel
theorem sX9_grafts_69_0 : ab_X rom K cX9_grafts 7 1 69 ls [w1, .ref a] hp = if ab_iso hp a 7 = true then (K 162 (.ref a :: [w1]) hp).bind (fun o => ab_X rom K cX9_grafts 7 1 72 ls (o.1.toList ++ []) o.2) else none := ay_virtual (as := [w1]) (st := []) dX9_grafts_69 kc_7_319 rfl rfl (Nat.le_of_ble_eq_true rfl)
theorem sX9_grafts_69_1 : ab_X rom K cX9_grafts 7 1 69 ls [w1, .ref a, v0] hp = if ab_iso hp a 7 = true then (K 162 (.ref a :: [w1]) hp).bind (fun o => ab_X rom K cX9_grafts 7 1 72 ls (o.1.toList ++ [v0]) o.2) else none := ay_virtual (as := [w1]) (st := [v0]) dX9_grafts_69 kc_7_319 rfl rfl (Nat.le_of_ble_eq_true rfl)
theorem sX9_grafts_69_2 : ab_X rom K cX9_grafts 7 1 69 ls [w1, .ref a, v0, v1] hp = if ab_iso hp a 7 = true then (K 162 (.ref a :: [w1]) hp).bind (fun o => ab_X rom K cX9_grafts 7 1 72 ls (o.1.toList ++ [v0, v1]) o.2) else none := ay_virtual (as := [w1]) (st := [v0, v1]) dX9_grafts_69 kc_7_319 rfl rfl (Nat.le_of_ble_eq_true rfl)
theorem sX9_grafts_69_3 : ab_X rom K cX9_grafts 7 1 69 ls [w1, .ref a, v0, v1, v2] hp = if ab_iso hp a 7 = true then (K 162 (.ref a :: [w1]) hp).bind (fun o => ab_X rom K cX9_grafts 7 1 72 ls (o.1.toList ++ [v0, v1, v2]) o.2) else none := ay_virtual (as := [w1]) (st := [v0, v1, v2]) dX9_grafts_69 kc_7_319 rfl rfl (Nat.le_of_ble_eq_true rfl)
theorem dX9_grafts_72 : decode cX9_grafts 72 = .ok (.ifCond .eq 12, 3) := by decide +kernel
theorem sX9_grafts_72 : ab_X rom K cX9_grafts 7 1 72 ls (.int x :: st) hp = if x = 0 then ab_X rom K cX9_grafts 7 1 84 ls st hp else ab_X rom K cX9_grafts 7 1 75 ls st hp := ax_if_eq dX9_grafts_72 (by decide) rfl
theorem dX9_grafts_75 : decode cX9_grafts 75 = .ok (.aload_n 0, 1) := by decide +kernel
theorem sX9_grafts_75 : ab_X rom K cX9_grafts 7 1 75 (.ref a :: ls) st hp = ab_X rom K cX9_grafts 7 1 76 (.ref a :: ls) (.ref a :: st) hp := ax_aload_n dX9_grafts_75 rfl rfl
theorem dX9_grafts_76 : decode cX9_grafts 76 = .ok (.iload_n 2, 1) := by decide +kernel
theorem sX9_grafts_76 : ab_X rom K cX9_grafts 7 1 76 (v0 :: v1 :: .int x :: ls) st hp = ab_X rom K cX9_grafts 7 1 77 (v0 :: v1 :: .int x :: ls) (.int x :: st) hp := ax_iload_n dX9_grafts_76 rfl rfl
theorem dX9_grafts_77 : decode cX9_grafts 77 = .ok (.iconst 0, 1) := by decide +kernel
theorem sX9_grafts_77 : ab_X rom K cX9_grafts 7 1 77 ls st hp = ab_X rom K cX9_grafts 7 1 78 ls (.int 0 :: st) hp := ax_iconst dX9_grafts_77 (by decide) rfl
theorem dX9_grafts_78 : decode cX9_grafts 78 = .ok (.invokevirtual 281, 3) := by decide +kernel
theorem sX9_grafts_78_0 : ab_X rom K cX9_grafts 7 1 78 ls [w2, w1, .ref a] hp = if ab_iso hp a 7 = true then (K 237 (.ref a :: [w1, w2]) hp).bind (fun o => ab_X rom K cX9_grafts 7 1 81 ls (o.1.toList ++ []) o.2) else none := ay_virtual (as := [w1, w2]) (st := []) dX9_grafts_78 kc_7_281 rfl rfl (Nat.le_of_ble_eq_true rfl)
theorem sX9_grafts_78_1 : ab_X rom K cX9_grafts 7 1 78 ls [w2, w1, .ref a, v0] hp = if ab_iso hp a 7 = true then (K 237 (.ref a :: [w1, w2]) hp).bind (fun o => ab_X rom K cX9_grafts 7 1 81 ls (o.1.toList ++ [v0]) o.2) else none := ay_virtual (as := [w1, w2]) (st := [v0]) dX9_grafts_78 kc_7_281 rfl rfl (Nat.le_of_ble_eq_true rfl)
theorem sX9_grafts_78_2 : ab_X rom K cX9_grafts 7 1 78 ls [w2, w1, .ref a, v0, v1] hp = if ab_iso hp a 7 = true then (K 237 (.ref a :: [w1, w2]) hp).bind (fun o => ab_X rom K cX9_grafts 7 1 81 ls (o.1.toList ++ [v0, v1]) o.2) else none := ay_virtual (as := [w1, w2]) (st := [v0, v1]) dX9_grafts_78 kc_7_281 rfl rfl (Nat.le_of_ble_eq_true rfl)
theorem sX9_grafts_78_3 : ab_X rom K cX9_grafts 7 1 78 ls [w2, w1, .ref a, v0, v1, v2] hp = if ab_iso hp a 7 = true then (K 237 (.ref a :: [w1, w2]) hp).bind (fun o => ab_X rom K cX9_grafts 7 1 81 ls (o.1.toList ++ [v0, v1, v2]) o.2) else none := ay_virtual (as := [w1, w2]) (st := [v0, v1, v2]) dX9_grafts_78 kc_7_281 rfl rfl (Nat.le_of_ble_eq_true rfl)
theorem dX9_grafts_81 : decode cX9_grafts 81 = .ok (.ifCond .eq 6, 3) := by decide +kernel
theorem sX9_grafts_81 : ab_X rom K cX9_grafts 7 1 81 ls (.int x :: st) hp = if x = 0 then ab_X rom K cX9_grafts 7 1 87 ls st hp else ab_X rom K cX9_grafts 7 1 84 ls st hp := ax_if_eq dX9_grafts_81 (by decide) rfl
theorem dX9_grafts_84 : decode cX9_grafts 84 = .ok (.bipush (-6), 2) := by decide +kernel
theorem sX9_grafts_84 : ab_X rom K cX9_grafts 7 1 84 ls st hp = ab_X rom K cX9_grafts 7 1 86 ls (.int (-6) :: st) hp := ax_bipush dX9_grafts_84 (by decide) rfl
theorem dX9_grafts_86 : decode cX9_grafts 86 = .ok (.ireturn, 1) := by decide +kernel
theorem sX9_grafts_86 : ab_X rom K cX9_grafts 7 1 86 ls [.int x] hp = some (some (.int x), hp) := ax_iret dX9_grafts_86 rfl
theorem dX9_grafts_87 : decode cX9_grafts 87 = .ok (.aload_n 0, 1) := by decide +kernel
theorem sX9_grafts_87 : ab_X rom K cX9_grafts 7 1 87 (.ref a :: ls) st hp = ab_X rom K cX9_grafts 7 1 88 (.ref a :: ls) (.ref a :: st) hp := ax_aload_n dX9_grafts_87 rfl rfl
theorem dX9_grafts_88 : decode cX9_grafts 88 = .ok (.iload_n 1, 1) := by decide +kernel
theorem sX9_grafts_88 : ab_X rom K cX9_grafts 7 1 88 (v0 :: .int x :: ls) st hp = ab_X rom K cX9_grafts 7 1 89 (v0 :: .int x :: ls) (.int x :: st) hp := ax_iload_n dX9_grafts_88 rfl rfl
theorem dX9_grafts_89 : decode cX9_grafts 89 = .ok (.invokevirtual 322, 3) := by decide +kernel
theorem sX9_grafts_89_0 : ab_X rom K cX9_grafts 7 1 89 ls [w1, .ref a] hp = if ab_iso hp a 7 = true then (K 148 (.ref a :: [w1]) hp).bind (fun o => ab_X rom K cX9_grafts 7 1 92 ls (o.1.toList ++ []) o.2) else none := ay_virtual (as := [w1]) (st := []) dX9_grafts_89 kc_7_322 rfl rfl (Nat.le_of_ble_eq_true rfl)
theorem sX9_grafts_89_1 : ab_X rom K cX9_grafts 7 1 89 ls [w1, .ref a, v0] hp = if ab_iso hp a 7 = true then (K 148 (.ref a :: [w1]) hp).bind (fun o => ab_X rom K cX9_grafts 7 1 92 ls (o.1.toList ++ [v0]) o.2) else none := ay_virtual (as := [w1]) (st := [v0]) dX9_grafts_89 kc_7_322 rfl rfl (Nat.le_of_ble_eq_true rfl)
theorem sX9_grafts_89_2 : ab_X rom K cX9_grafts 7 1 89 ls [w1, .ref a, v0, v1] hp = if ab_iso hp a 7 = true then (K 148 (.ref a :: [w1]) hp).bind (fun o => ab_X rom K cX9_grafts 7 1 92 ls (o.1.toList ++ [v0, v1]) o.2) else none := ay_virtual (as := [w1]) (st := [v0, v1]) dX9_grafts_89 kc_7_322 rfl rfl (Nat.le_of_ble_eq_true rfl)
theorem sX9_grafts_89_3 : ab_X rom K cX9_grafts 7 1 89 ls [w1, .ref a, v0, v1, v2] hp = if ab_iso hp a 7 = true then (K 148 (.ref a :: [w1]) hp).bind (fun o => ab_X rom K cX9_grafts 7 1 92 ls (o.1.toList ++ [v0, v1, v2]) o.2) else none := ay_virtual (as := [w1]) (st := [v0, v1, v2]) dX9_grafts_89 kc_7_322 rfl rfl (Nat.le_of_ble_eq_true rfl)
theorem dX9_grafts_92 : decode cX9_grafts 92 = .ok (.istore 5, 2) := by decide +kernel
theorem sX9_grafts_92i : ab_X rom K cX9_grafts 7 1 92 (v0 :: v1 :: v2 :: v3 :: .int y :: v5 :: ls) (.int x :: st) hp = ab_X rom K cX9_grafts 7 1 94 (v0 :: v1 :: v2 :: v3 :: .int y :: .int x :: ls) st hp := ax_istore dX9_grafts_92 (ax_lt (v := v5) rfl) (ab_nl_c1 (j := 4) (v := .int y) rfl (ab_c1_int _)) rfl rfl
theorem sX9_grafts_92r : ab_X rom K cX9_grafts 7 1 92 (v0 :: v1 :: v2 :: v3 :: .ref a2 :: v5 :: ls) (.int x :: st) hp = ab_X rom K cX9_grafts 7 1 94 (v0 :: v1 :: v2 :: v3 :: .ref a2 :: .int x :: ls) st hp := ax_istore dX9_grafts_92 (ax_lt (v := v5) rfl) (ab_nl_c1 (j := 4) (v := .ref a2) rfl (ab_c1_ref _)) rfl rfl
theorem sX9_grafts_92n : ab_X rom K cX9_grafts 7 1 92 (v0 :: v1 :: v2 :: v3 :: .null :: v5 :: ls) (.int x :: st) hp = ab_X rom K cX9_grafts 7 1 94 (v0 :: v1 :: v2 :: v3 :: .null :: .int x :: ls) st hp := ax_istore dX9_grafts_92 (ax_lt (v := v5) rfl) (ab_nl_c1 (j := 4) (v := .null) rfl ab_c1_null) rfl rfl
theorem dX9_grafts_94 : decode cX9_grafts 94 = .ok (.aload_n 0, 1) := by decide +kernel
theorem sX9_grafts_94 : ab_X rom K cX9_grafts 7 1 94 (.ref a :: ls) st hp = ab_X rom K cX9_grafts 7 1 95 (.ref a :: ls) (.ref a :: st) hp := ax_aload_n dX9_grafts_94 rfl rfl
theorem dX9_grafts_95 : decode cX9_grafts 95 = .ok (.iload_n 1, 1) := by decide +kernel
theorem sX9_grafts_95 : ab_X rom K cX9_grafts 7 1 95 (v0 :: .int x :: ls) st hp = ab_X rom K cX9_grafts 7 1 96 (v0 :: .int x :: ls) (.int x :: st) hp := ax_iload_n dX9_grafts_95 rfl rfl
theorem dX9_grafts_96 : decode cX9_grafts 96 = .ok (.iload 5, 2) := by decide +kernel
theorem sX9_grafts_96 : ab_X rom K cX9_grafts 7 1 96 (v0 :: v1 :: v2 :: v3 :: v4 :: .int x :: ls) st hp = ab_X rom K cX9_grafts 7 1 98 (v0 :: v1 :: v2 :: v3 :: v4 :: .int x :: ls) (.int x :: st) hp := ax_iload dX9_grafts_96 rfl rfl
theorem dX9_grafts_98 : decode cX9_grafts 98 = .ok (.invokevirtual 325, 3) := by decide +kernel
theorem sX9_grafts_98_0 : ab_X rom K cX9_grafts 7 1 98 ls [w2, w1, .ref a] hp = if ab_iso hp a 7 = true then (K 239 (.ref a :: [w1, w2]) hp).bind (fun o => ab_X rom K cX9_grafts 7 1 101 ls (o.1.toList ++ []) o.2) else none := ay_virtual (as := [w1, w2]) (st := []) dX9_grafts_98 kc_7_325 rfl rfl (Nat.le_of_ble_eq_true rfl)
theorem sX9_grafts_98_1 : ab_X rom K cX9_grafts 7 1 98 ls [w2, w1, .ref a, v0] hp = if ab_iso hp a 7 = true then (K 239 (.ref a :: [w1, w2]) hp).bind (fun o => ab_X rom K cX9_grafts 7 1 101 ls (o.1.toList ++ [v0]) o.2) else none := ay_virtual (as := [w1, w2]) (st := [v0]) dX9_grafts_98 kc_7_325 rfl rfl (Nat.le_of_ble_eq_true rfl)
theorem sX9_grafts_98_2 : ab_X rom K cX9_grafts 7 1 98 ls [w2, w1, .ref a, v0, v1] hp = if ab_iso hp a 7 = true then (K 239 (.ref a :: [w1, w2]) hp).bind (fun o => ab_X rom K cX9_grafts 7 1 101 ls (o.1.toList ++ [v0, v1]) o.2) else none := ay_virtual (as := [w1, w2]) (st := [v0, v1]) dX9_grafts_98 kc_7_325 rfl rfl (Nat.le_of_ble_eq_true rfl)
theorem sX9_grafts_98_3 : ab_X rom K cX9_grafts 7 1 98 ls [w2, w1, .ref a, v0, v1, v2] hp = if ab_iso hp a 7 = true then (K 239 (.ref a :: [w1, w2]) hp).bind (fun o => ab_X rom K cX9_grafts 7 1 101 ls (o.1.toList ++ [v0, v1, v2]) o.2) else none := ay_virtual (as := [w1, w2]) (st := [v0, v1, v2]) dX9_grafts_98 kc_7_325 rfl rfl (Nat.le_of_ble_eq_true rfl)
theorem dX9_grafts_101 : decode cX9_grafts 101 = .ok (.istore 6, 2) := by decide +kernel
theorem sX9_grafts_101i : ab_X rom K cX9_grafts 7 1 101 (v0 :: v1 :: v2 :: v3 :: v4 :: .int y :: v6 :: ls) (.int x :: st) hp = ab_X rom K cX9_grafts 7 1 103 (v0 :: v1 :: v2 :: v3 :: v4 :: .int y :: .int x :: ls) st hp := ax_istore dX9_grafts_101 (ax_lt (v := v6) rfl) (ab_nl_c1 (j := 5) (v := .int y) rfl (ab_c1_int _)) rfl rfl
theorem sX9_grafts_101r : ab_X rom K cX9_grafts 7 1 101 (v0 :: v1 :: v2 :: v3 :: v4 :: .ref a2 :: v6 :: ls) (.int x :: st) hp = ab_X rom K cX9_grafts 7 1 103 (v0 :: v1 :: v2 :: v3 :: v4 :: .ref a2 :: .int x :: ls) st hp := ax_istore dX9_grafts_101 (ax_lt (v := v6) rfl) (ab_nl_c1 (j := 5) (v := .ref a2) rfl (ab_c1_ref _)) rfl rfl
theorem sX9_grafts_101n : ab_X rom K cX9_grafts 7 1 101 (v0 :: v1 :: v2 :: v3 :: v4 :: .null :: v6 :: ls) (.int x :: st) hp = ab_X rom K cX9_grafts 7 1 103 (v0 :: v1 :: v2 :: v3 :: v4 :: .null :: .int x :: ls) st hp := ax_istore dX9_grafts_101 (ax_lt (v := v6) rfl) (ab_nl_c1 (j := 5) (v := .null) rfl ab_c1_null) rfl rfl
theorem dX9_grafts_103 : decode cX9_grafts 103 = .ok (.aload_n 0, 1) := by decide +kernel
theorem sX9_grafts_103 : ab_X rom K cX9_grafts 7 1 103 (.ref a :: ls) st hp = ab_X rom K cX9_grafts 7 1 104 (.ref a :: ls) (.ref a :: st) hp := ax_aload_n dX9_grafts_103 rfl rfl
theorem dX9_grafts_104 : decode cX9_grafts 104 = .ok (.iload_n 2, 1) := by decide +kernel
theorem sX9_grafts_104 : ab_X rom K cX9_grafts 7 1 104 (v0 :: v1 :: .int x :: ls) st hp = ab_X rom K cX9_grafts 7 1 105 (v0 :: v1 :: .int x :: ls) (.int x :: st) hp := ax_iload_n dX9_grafts_104 rfl rfl
theorem dX9_grafts_105 : decode cX9_grafts 105 = .ok (.iconst 0, 1) := by decide +kernel
theorem sX9_grafts_105 : ab_X rom K cX9_grafts 7 1 105 ls st hp = ab_X rom K cX9_grafts 7 1 106 ls (.int 0 :: st) hp := ax_iconst dX9_grafts_105 (by decide) rfl
theorem dX9_grafts_106 : decode cX9_grafts 106 = .ok (.invokevirtual 325, 3) := by decide +kernel
theorem sX9_grafts_106_0 : ab_X rom K cX9_grafts 7 1 106 ls [w2, w1, .ref a] hp = if ab_iso hp a 7 = true then (K 239 (.ref a :: [w1, w2]) hp).bind (fun o => ab_X rom K cX9_grafts 7 1 109 ls (o.1.toList ++ []) o.2) else none := ay_virtual (as := [w1, w2]) (st := []) dX9_grafts_106 kc_7_325 rfl rfl (Nat.le_of_ble_eq_true rfl)
theorem sX9_grafts_106_1 : ab_X rom K cX9_grafts 7 1 106 ls [w2, w1, .ref a, v0] hp = if ab_iso hp a 7 = true then (K 239 (.ref a :: [w1, w2]) hp).bind (fun o => ab_X rom K cX9_grafts 7 1 109 ls (o.1.toList ++ [v0]) o.2) else none := ay_virtual (as := [w1, w2]) (st := [v0]) dX9_grafts_106 kc_7_325 rfl rfl (Nat.le_of_ble_eq_true rfl)
theorem sX9_grafts_106_2 : ab_X rom K cX9_grafts 7 1 106 ls [w2, w1, .ref a, v0, v1] hp = if ab_iso hp a 7 = true then (K 239 (.ref a :: [w1, w2]) hp).bind (fun o => ab_X rom K cX9_grafts 7 1 109 ls (o.1.toList ++ [v0, v1]) o.2) else none := ay_virtual (as := [w1, w2]) (st := [v0, v1]) dX9_grafts_106 kc_7_325 rfl rfl (Nat.le_of_ble_eq_true rfl)
theorem sX9_grafts_106_3 : ab_X rom K cX9_grafts 7 1 106 ls [w2, w1, .ref a, v0, v1, v2] hp = if ab_iso hp a 7 = true then (K 239 (.ref a :: [w1, w2]) hp).bind (fun o => ab_X rom K cX9_grafts 7 1 109 ls (o.1.toList ++ [v0, v1, v2]) o.2) else none := ay_virtual (as := [w1, w2]) (st := [v0, v1, v2]) dX9_grafts_106 kc_7_325 rfl rfl (Nat.le_of_ble_eq_true rfl)
theorem dX9_grafts_109 : decode cX9_grafts 109 = .ok (.istore 7, 2) := by decide +kernel
theorem sX9_grafts_109i : ab_X rom K cX9_grafts 7 1 109 (v0 :: v1 :: v2 :: v3 :: v4 :: v5 :: .int y :: v7 :: ls) (.int x :: st) hp = ab_X rom K cX9_grafts 7 1 111 (v0 :: v1 :: v2 :: v3 :: v4 :: v5 :: .int y :: .int x :: ls) st hp := ax_istore dX9_grafts_109 (ax_lt (v := v7) rfl) (ab_nl_c1 (j := 6) (v := .int y) rfl (ab_c1_int _)) rfl rfl
theorem sX9_grafts_109r : ab_X rom K cX9_grafts 7 1 109 (v0 :: v1 :: v2 :: v3 :: v4 :: v5 :: .ref a2 :: v7 :: ls) (.int x :: st) hp = ab_X rom K cX9_grafts 7 1 111 (v0 :: v1 :: v2 :: v3 :: v4 :: v5 :: .ref a2 :: .int x :: ls) st hp := ax_istore dX9_grafts_109 (ax_lt (v := v7) rfl) (ab_nl_c1 (j := 6) (v := .ref a2) rfl (ab_c1_ref _)) rfl rfl
theorem sX9_grafts_109n : ab_X rom K cX9_grafts 7 1 109 (v0 :: v1 :: v2 :: v3 :: v4 :: v5 :: .null :: v7 :: ls) (.int x :: st) hp = ab_X rom K cX9_grafts 7 1 111 (v0 :: v1 :: v2 :: v3 :: v4 :: v5 :: .null :: .int x :: ls) st hp := ax_istore dX9_grafts_109 (ax_lt (v := v7) rfl) (ab_nl_c1 (j := 6) (v := .null) rfl ab_c1_null) rfl rfl
theorem dX9_grafts_111 : decode cX9_grafts 111 = .ok (.aload_n 0, 1) := by decide +kernel
theorem sX9_grafts_111 : ab_X rom K cX9_grafts 7 1 111 (.ref a :: ls) st hp = ab_X rom K cX9_grafts 7 1 112 (.ref a :: ls) (.ref a :: st) hp := ax_aload_n dX9_grafts_111 rfl rfl
theorem dX9_grafts_112 : decode cX9_grafts 112 = .ok (.iload 4, 2) := by decide +kernel
theorem sX9_grafts_112 : ab_X rom K cX9_grafts 7 1 112 (v0 :: v1 :: v2 :: v3 :: .int x :: ls) st hp = ab_X rom K cX9_grafts 7 1 114 (v0 :: v1 :: v2 :: v3 :: .int x :: ls) (.int x :: st) hp := ax_iload dX9_grafts_112 rfl rfl
theorem dX9_grafts_114 : decode cX9_grafts 114 = .ok (.invokevirtual 328, 3) := by decide +kernel
theorem sX9_grafts_114_0 : ab_X rom K cX9_grafts 7 1 114 ls [w1, .ref a] hp = if ab_iso hp a 7 = true then (K 190 (.ref a :: [w1]) hp).bind (fun o => ab_X rom K cX9_grafts 7 1 117 ls (o.1.toList ++ []) o.2) else none := ay_virtual (as := [w1]) (st := []) dX9_grafts_114 kc_7_328 rfl rfl (Nat.le_of_ble_eq_true rfl)
theorem sX9_grafts_114_1 : ab_X rom K cX9_grafts 7 1 114 ls [w1, .ref a, v0] hp = if ab_iso hp a 7 = true then (K 190 (.ref a :: [w1]) hp).bind (fun o => ab_X rom K cX9_grafts 7 1 117 ls (o.1.toList ++ [v0]) o.2) else none := ay_virtual (as := [w1]) (st := [v0]) dX9_grafts_114 kc_7_328 rfl rfl (Nat.le_of_ble_eq_true rfl)
theorem sX9_grafts_114_2 : ab_X rom K cX9_grafts 7 1 114 ls [w1, .ref a, v0, v1] hp = if ab_iso hp a 7 = true then (K 190 (.ref a :: [w1]) hp).bind (fun o => ab_X rom K cX9_grafts 7 1 117 ls (o.1.toList ++ [v0, v1]) o.2) else none := ay_virtual (as := [w1]) (st := [v0, v1]) dX9_grafts_114 kc_7_328 rfl rfl (Nat.le_of_ble_eq_true rfl)
theorem sX9_grafts_114_3 : ab_X rom K cX9_grafts 7 1 114 ls [w1, .ref a, v0, v1, v2] hp = if ab_iso hp a 7 = true then (K 190 (.ref a :: [w1]) hp).bind (fun o => ab_X rom K cX9_grafts 7 1 117 ls (o.1.toList ++ [v0, v1, v2]) o.2) else none := ay_virtual (as := [w1]) (st := [v0, v1, v2]) dX9_grafts_114 kc_7_328 rfl rfl (Nat.le_of_ble_eq_true rfl)
theorem dX9_grafts_117 : decode cX9_grafts 117 = .ok (.iconst 0, 1) := by decide +kernel
theorem sX9_grafts_117 : ab_X rom K cX9_grafts 7 1 117 ls st hp = ab_X rom K cX9_grafts 7 1 118 ls (.int 0 :: st) hp := ax_iconst dX9_grafts_117 (by decide) rfl
theorem dX9_grafts_118 : decode cX9_grafts 118 = .ok (.istore 8, 2) := by decide +kernel
theorem sX9_grafts_118i : ab_X rom K cX9_grafts 7 1 118 (v0 :: v1 :: v2 :: v3 :: v4 :: v5 :: v6 :: .int y :: v8 :: ls) (.int x :: st) hp = ab_X rom K cX9_grafts 7 1 120 (v0 :: v1 :: v2 :: v3 :: v4 :: v5 :: v6 :: .int y :: .int x :: ls) st hp := ax_istore dX9_grafts_118 (ax_lt (v := v8) rfl) (ab_nl_c1 (j := 7) (v := .int y) rfl (ab_c1_int _)) rfl rfl
theorem sX9_grafts_118r : ab_X rom K cX9_grafts 7 1 118 (v0 :: v1 :: v2 :: v3 :: v4 :: v5 :: v6 :: .ref a2 :: v8 :: ls) (.int x :: st) hp = ab_X rom K cX9_grafts 7 1 120 (v0 :: v1 :: v2 :: v3 :: v4 :: v5 :: v6 :: .ref a2 :: .int x :: ls) st hp := ax_istore dX9_grafts_118 (ax_lt (v := v8) rfl) (ab_nl_c1 (j := 7) (v := .ref a2) rfl (ab_c1_ref _)) rfl rfl
theorem sX9_grafts_118n : ab_X rom K cX9_grafts 7 1 118 (v0 :: v1 :: v2 :: v3 :: v4 :: v5 :: v6 :: .null :: v8 :: ls) (.int x :: st) hp = ab_X rom K cX9_grafts 7 1 120 (v0 :: v1 :: v2 :: v3 :: v4 :: v5 :: v6 :: .null :: .int x :: ls) st hp := ax_istore dX9_grafts_118 (ax_lt (v := v8) rfl) (ab_nl_c1 (j := 7) (v := .null) rfl ab_c1_null) rfl rfl
theorem dX9_grafts_120 : decode cX9_grafts 120 = .ok (.iload 8, 2) := by decide +kernel
theorem sX9_grafts_120 : ab_X rom K cX9_grafts 7 1 120 (v0 :: v1 :: v2 :: v3 :: v4 :: v5 :: v6 :: v7 :: .int x :: ls) st hp = ab_X rom K cX9_grafts 7 1 122 (v0 :: v1 :: v2 :: v3 :: v4 :: v5 :: v6 :: v7 :: .int x :: ls) (.int x :: st) hp := ax_iload dX9_grafts_120 rfl rfl
theorem dX9_grafts_122 : decode cX9_grafts 122 = .ok (.aload_n 0, 1) := by decide +kernel
theorem sX9_grafts_122 : ab_X rom K cX9_grafts 7 1 122 (.ref a :: ls) st hp = ab_X rom K cX9_grafts 7 1 123 (.ref a :: ls) (.ref a :: st) hp := ax_aload_n dX9_grafts_122 rfl rfl
theorem dX9_grafts_123 : decode cX9_grafts 123 = .ok (.iload_n 1, 1) := by decide +kernel
theorem sX9_grafts_123 : ab_X rom K cX9_grafts 7 1 123 (v0 :: .int x :: ls) st hp = ab_X rom K cX9_grafts 7 1 124 (v0 :: .int x :: ls) (.int x :: st) hp := ax_iload_n dX9_grafts_123 rfl rfl
theorem dX9_grafts_124 : decode cX9_grafts 124 = .ok (.invokevirtual 64, 3) := by decide +kernel
theorem sX9_grafts_124_0 : ab_X rom K cX9_grafts 7 1 124 ls [w1, .ref a] hp = if ab_iso hp a 7 = true then (K 209 (.ref a :: [w1]) hp).bind (fun o => ab_X rom K cX9_grafts 7 1 127 ls (o.1.toList ++ []) o.2) else none := ay_virtual (as := [w1]) (st := []) dX9_grafts_124 kc_7_64 rfl rfl (Nat.le_of_ble_eq_true rfl)
theorem sX9_grafts_124_1 : ab_X rom K cX9_grafts 7 1 124 ls [w1, .ref a, v0] hp = if ab_iso hp a 7 = true then (K 209 (.ref a :: [w1]) hp).bind (fun o => ab_X rom K cX9_grafts 7 1 127 ls (o.1.toList ++ [v0]) o.2) else none := ay_virtual (as := [w1]) (st := [v0]) dX9_grafts_124 kc_7_64 rfl rfl (Nat.le_of_ble_eq_true rfl)
theorem sX9_grafts_124_2 : ab_X rom K cX9_grafts 7 1 124 ls [w1, .ref a, v0, v1] hp = if ab_iso hp a 7 = true then (K 209 (.ref a :: [w1]) hp).bind (fun o => ab_X rom K cX9_grafts 7 1 127 ls (o.1.toList ++ [v0, v1]) o.2) else none := ay_virtual (as := [w1]) (st := [v0, v1]) dX9_grafts_124 kc_7_64 rfl rfl (Nat.le_of_ble_eq_true rfl)
theorem sX9_grafts_124_3 : ab_X rom K cX9_grafts 7 1 124 ls [w1, .ref a, v0, v1, v2] hp = if ab_iso hp a 7 = true then (K 209 (.ref a :: [w1]) hp).bind (fun o => ab_X rom K cX9_grafts 7 1 127 ls (o.1.toList ++ [v0, v1, v2]) o.2) else none := ay_virtual (as := [w1]) (st := [v0, v1, v2]) dX9_grafts_124 kc_7_64 rfl rfl (Nat.le_of_ble_eq_true rfl)
theorem dX9_grafts_127 : decode cX9_grafts 127 = .ok (.if_icmp .ge 70, 3) := by decide +kernel
theorem sX9_grafts_127 : ab_X rom K cX9_grafts 7 1 127 ls (.int y :: .int x :: st) hp = if x < y then ab_X rom K cX9_grafts 7 1 130 ls st hp else ab_X rom K cX9_grafts 7 1 197 ls st hp := ax_icmp_ge dX9_grafts_127 (by decide) rfl
theorem dX9_grafts_130 : decode cX9_grafts 130 = .ok (.aload_n 0, 1) := by decide +kernel
theorem sX9_grafts_130 : ab_X rom K cX9_grafts 7 1 130 (.ref a :: ls) st hp = ab_X rom K cX9_grafts 7 1 131 (.ref a :: ls) (.ref a :: st) hp := ax_aload_n dX9_grafts_130 rfl rfl
theorem dX9_grafts_131 : decode cX9_grafts 131 = .ok (.getfield 41, 3) := by decide +kernel
theorem sX9_grafts_131 : ab_X rom K cX9_grafts 7 1 131 ls (.ref a :: st) hp = (ab_fld hp a 7 24).bind (fun v => ab_X rom K cX9_grafts 7 1 134 ls (v :: st) hp) := ax_getfield dX9_grafts_131 kf_7_41 rfl
theorem dX9_grafts_134 : decode cX9_grafts 134 = .ok (.bipush 8, 2) := by decide +kernel
theorem sX9_grafts_134 : ab_X rom K cX9_grafts 7 1 134 ls st hp = ab_X rom K cX9_grafts 7 1 136 ls (.int 8 :: st) hp := ax_bipush dX9_grafts_134 (by decide) rfl
theorem dX9_grafts_136 : decode cX9_grafts 136 = .ok (.iload 8, 2) := by decide +kernel
theorem sX9_grafts_136 : ab_X rom K cX9_grafts 7 1 136 (v0 :: v1 :: v2 :: v3 :: v4 :: v5 :: v6 :: v7 :: .int x :: ls) st hp = ab_X rom K cX9_grafts 7 1 138 (v0 :: v1 :: v2 :: v3 :: v4 :: v5 :: v6 :: v7 :: .int x :: ls) (.int x :: st) hp := ax_iload dX9_grafts_136 rfl rfl
theorem dX9_grafts_138 : decode cX9_grafts 138 = .ok (.iadd, 1) := by decide +kernel
theorem sX9_grafts_138 : ab_X rom K cX9_grafts 7 1 138 ls (.int y :: .int x :: st) hp = ab_X rom K cX9_grafts 7 1 139 ls (.int (x + y) :: st) hp := ax_iadd dX9_grafts_138 rfl
theorem dX9_grafts_139 : decode cX9_grafts 139 = .ok (.aload_n 0, 1) := by decide +kernel
theorem sX9_grafts_139 : ab_X rom K cX9_grafts 7 1 139 (.ref a :: ls) st hp = ab_X rom K cX9_grafts 7 1 140 (.ref a :: ls) (.ref a :: st) hp := ax_aload_n dX9_grafts_139 rfl rfl
theorem dX9_grafts_140 : decode cX9_grafts 140 = .ok (.iload_n 1, 1) := by decide +kernel
theorem sX9_grafts_140 : ab_X rom K cX9_grafts 7 1 140 (v0 :: .int x :: ls) st hp = ab_X rom K cX9_grafts 7 1 141 (v0 :: .int x :: ls) (.int x :: st) hp := ax_iload_n dX9_grafts_140 rfl rfl
theorem dX9_grafts_141 : decode cX9_grafts 141 = .ok (.iload 8, 2) := by decide +kernel
theorem sX9_grafts_141 : ab_X rom K cX9_grafts 7 1 141 (v0 :: v1 :: v2 :: v3 :: v4 :: v5 :: v6 :: v7 :: .int x :: ls) st hp = ab_X rom K cX9_grafts 7 1 143 (v0 :: v1 :: v2 :: v3 :: v4 :: v5 :: v6 :: v7 :: .int x :: ls) (.int x :: st) hp := ax_iload dX9_grafts_141 rfl rfl
theorem dX9_grafts_143 : decode cX9_grafts 143 = .ok (.invokevirtual 168, 3) := by decide +kernel
theorem sX9_grafts_143_0 : ab_X rom K cX9_grafts 7 1 143 ls [w2, w1, .ref a] hp = if ab_iso hp a 7 = true then (K 183 (.ref a :: [w1, w2]) hp).bind (fun o => ab_X rom K cX9_grafts 7 1 146 ls (o.1.toList ++ []) o.2) else none := ay_virtual (as := [w1, w2]) (st := []) dX9_grafts_143 kc_7_168 rfl rfl (Nat.le_of_ble_eq_true rfl)
theorem sX9_grafts_143_1 : ab_X rom K cX9_grafts 7 1 143 ls [w2, w1, .ref a, v0] hp = if ab_iso hp a 7 = true then (K 183 (.ref a :: [w1, w2]) hp).bind (fun o => ab_X rom K cX9_grafts 7 1 146 ls (o.1.toList ++ [v0]) o.2) else none := ay_virtual (as := [w1, w2]) (st := [v0]) dX9_grafts_143 kc_7_168 rfl rfl (Nat.le_of_ble_eq_true rfl)
theorem sX9_grafts_143_2 : ab_X rom K cX9_grafts 7 1 143 ls [w2, w1, .ref a, v0, v1] hp = if ab_iso hp a 7 = true then (K 183 (.ref a :: [w1, w2]) hp).bind (fun o => ab_X rom K cX9_grafts 7 1 146 ls (o.1.toList ++ [v0, v1]) o.2) else none := ay_virtual (as := [w1, w2]) (st := [v0, v1]) dX9_grafts_143 kc_7_168 rfl rfl (Nat.le_of_ble_eq_true rfl)
theorem sX9_grafts_143_3 : ab_X rom K cX9_grafts 7 1 143 ls [w2, w1, .ref a, v0, v1, v2] hp = if ab_iso hp a 7 = true then (K 183 (.ref a :: [w1, w2]) hp).bind (fun o => ab_X rom K cX9_grafts 7 1 146 ls (o.1.toList ++ [v0, v1, v2]) o.2) else none := ay_virtual (as := [w1, w2]) (st := [v0, v1, v2]) dX9_grafts_143 kc_7_168 rfl rfl (Nat.le_of_ble_eq_true rfl)
theorem dX9_grafts_146 : decode cX9_grafts 146 = .ok (.iload 5, 2) := by decide +kernel
theorem sX9_grafts_146 : ab_X rom K cX9_grafts 7 1 146 (v0 :: v1 :: v2 :: v3 :: v4 :: .int x :: ls) st hp = ab_X rom K cX9_grafts 7 1 148 (v0 :: v1 :: v2 :: v3 :: v4 :: .int x :: ls) (.int x :: st) hp := ax_iload dX9_grafts_146 rfl rfl
theorem dX9_grafts_148 : decode cX9_grafts 148 = .ok (.if_icmp .le 19, 3) := by decide +kernel
theorem sX9_grafts_148 : ab_X rom K cX9_grafts 7 1 148 ls (.int y :: .int x :: st) hp = if y < x then ab_X rom K cX9_grafts 7 1 151 ls st hp else ab_X rom K cX9_grafts 7 1 167 ls st hp := ax_icmp_le dX9_grafts_148 (by decide) rfl
theorem dX9_grafts_151 : decode cX9_grafts 151 = .ok (.aload_n 0, 1) := by decide +kernel
theorem sX9_grafts_151 : ab_X rom K cX9_grafts 7 1 151 (.ref a :: ls) st hp = ab_X rom K cX9_grafts 7 1 152 (.ref a :: ls) (.ref a :: st) hp := ax_aload_n dX9_grafts_151 rfl rfl
theorem dX9_grafts_152 : decode cX9_grafts 152 = .ok (.iload_n 1, 1) := by decide +kernel
theorem sX9_grafts_152 : ab_X rom K cX9_grafts 7 1 152 (v0 :: .int x :: ls) st hp = ab_X rom K cX9_grafts 7 1 153 (v0 :: .int x :: ls) (.int x :: st) hp := ax_iload_n dX9_grafts_152 rfl rfl
theorem dX9_grafts_153 : decode cX9_grafts 153 = .ok (.iload 8, 2) := by decide +kernel
theorem sX9_grafts_153 : ab_X rom K cX9_grafts 7 1 153 (v0 :: v1 :: v2 :: v3 :: v4 :: v5 :: v6 :: v7 :: .int x :: ls) st hp = ab_X rom K cX9_grafts 7 1 155 (v0 :: v1 :: v2 :: v3 :: v4 :: v5 :: v6 :: v7 :: .int x :: ls) (.int x :: st) hp := ax_iload dX9_grafts_153 rfl rfl
theorem dX9_grafts_155 : decode cX9_grafts 155 = .ok (.invokevirtual 168, 3) := by decide +kernel
theorem sX9_grafts_155_0 : ab_X rom K cX9_grafts 7 1 155 ls [w2, w1, .ref a] hp = if ab_iso hp a 7 = true then (K 183 (.ref a :: [w1, w2]) hp).bind (fun o => ab_X rom K cX9_grafts 7 1 158 ls (o.1.toList ++ []) o.2) else none := ay_virtual (as := [w1, w2]) (st := []) dX9_grafts_155 kc_7_168 rfl rfl (Nat.le_of_ble_eq_true rfl)
theorem sX9_grafts_155_1 : ab_X rom K cX9_grafts 7 1 155 ls [w2, w1, .ref a, v0] hp = if ab_iso hp a 7 = true then (K 183 (.ref a :: [w1, w2]) hp).bind (fun o => ab_X rom K cX9_grafts 7 1 158 ls (o.1.toList ++ [v0]) o.2) else none := ay_virtual (as := [w1, w2]) (st := [v0]) dX9_grafts_155 kc_7_168 rfl rfl (Nat.le_of_ble_eq_true rfl)
theorem sX9_grafts_155_2 : ab_X rom K cX9_grafts 7 1 155 ls [w2, w1, .ref a, v0, v1] hp = if ab_iso hp a 7 = true then (K 183 (.ref a :: [w1, w2]) hp).bind (fun o => ab_X rom K cX9_grafts 7 1 158 ls (o.1.toList ++ [v0, v1]) o.2) else none := ay_virtual (as := [w1, w2]) (st := [v0, v1]) dX9_grafts_155 kc_7_168 rfl rfl (Nat.le_of_ble_eq_true rfl)
theorem sX9_grafts_155_3 : ab_X rom K cX9_grafts 7 1 155 ls [w2, w1, .ref a, v0, v1, v2] hp = if ab_iso hp a 7 = true then (K 183 (.ref a :: [w1, w2]) hp).bind (fun o => ab_X rom K cX9_grafts 7 1 158 ls (o.1.toList ++ [v0, v1, v2]) o.2) else none := ay_virtual (as := [w1, w2]) (st := [v0, v1, v2]) dX9_grafts_155 kc_7_168 rfl rfl (Nat.le_of_ble_eq_true rfl)
theorem dX9_grafts_158 : decode cX9_grafts 158 = .ok (.aload_n 0, 1) := by decide +kernel
theorem sX9_grafts_158 : ab_X rom K cX9_grafts 7 1 158 (.ref a :: ls) st hp = ab_X rom K cX9_grafts 7 1 159 (.ref a :: ls) (.ref a :: st) hp := ax_aload_n dX9_grafts_158 rfl rfl
theorem dX9_grafts_159 : decode cX9_grafts 159 = .ok (.iload_n 2, 1) := by decide +kernel
theorem sX9_grafts_159 : ab_X rom K cX9_grafts 7 1 159 (v0 :: v1 :: .int x :: ls) st hp = ab_X rom K cX9_grafts 7 1 160 (v0 :: v1 :: .int x :: ls) (.int x :: st) hp := ax_iload_n dX9_grafts_159 rfl rfl
theorem dX9_grafts_160 : decode cX9_grafts 160 = .ok (.invokevirtual 150, 3) := by decide +kernel
theorem sX9_grafts_160_0 : ab_X rom K cX9_grafts 7 1 160 ls [w1, .ref a] hp = if ab_iso hp a 7 = true then (K 188 (.ref a :: [w1]) hp).bind (fun o => ab_X rom K cX9_grafts 7 1 163 ls (o.1.toList ++ []) o.2) else none := ay_virtual (as := [w1]) (st := []) dX9_grafts_160 kc_7_150 rfl rfl (Nat.le_of_ble_eq_true rfl)
theorem sX9_grafts_160_1 : ab_X rom K cX9_grafts 7 1 160 ls [w1, .ref a, v0] hp = if ab_iso hp a 7 = true then (K 188 (.ref a :: [w1]) hp).bind (fun o => ab_X rom K cX9_grafts 7 1 163 ls (o.1.toList ++ [v0]) o.2) else none := ay_virtual (as := [w1]) (st := [v0]) dX9_grafts_160 kc_7_150 rfl rfl (Nat.le_of_ble_eq_true rfl)
theorem sX9_grafts_160_2 : ab_X rom K cX9_grafts 7 1 160 ls [w1, .ref a, v0, v1] hp = if ab_iso hp a 7 = true then (K 188 (.ref a :: [w1]) hp).bind (fun o => ab_X rom K cX9_grafts 7 1 163 ls (o.1.toList ++ [v0, v1]) o.2) else none := ay_virtual (as := [w1]) (st := [v0, v1]) dX9_grafts_160 kc_7_150 rfl rfl (Nat.le_of_ble_eq_true rfl)
theorem sX9_grafts_160_3 : ab_X rom K cX9_grafts 7 1 160 ls [w1, .ref a, v0, v1, v2] hp = if ab_iso hp a 7 = true then (K 188 (.ref a :: [w1]) hp).bind (fun o => ab_X rom K cX9_grafts 7 1 163 ls (o.1.toList ++ [v0, v1, v2]) o.2) else none := ay_virtual (as := [w1]) (st := [v0, v1, v2]) dX9_grafts_160 kc_7_150 rfl rfl (Nat.le_of_ble_eq_true rfl)
theorem dX9_grafts_163 : decode cX9_grafts 163 = .ok (.iadd, 1) := by decide +kernel
theorem sX9_grafts_163 : ab_X rom K cX9_grafts 7 1 163 ls (.int y :: .int x :: st) hp = ab_X rom K cX9_grafts 7 1 164 ls (.int (x + y) :: st) hp := ax_iadd dX9_grafts_163 rfl
theorem dX9_grafts_164 : decode cX9_grafts 164 = .ok (.goto 10, 3) := by decide +kernel
theorem sX9_grafts_164 : ab_X rom K cX9_grafts 7 1 164 ls st hp = ab_X rom K cX9_grafts 7 1 174 ls st hp := ax_goto dX9_grafts_164 (by decide)
theorem dX9_grafts_167 : decode cX9_grafts 167 = .ok (.aload_n 0, 1) := by decide +kernel
theorem sX9_grafts_167 : ab_X rom K cX9_grafts 7 1 167 (.ref a :: ls) st hp = ab_X rom K cX9_grafts 7 1 168 (.ref a :: ls) (.ref a :: st) hp := ax_aload_n dX9_grafts_167 rfl rfl
theorem dX9_grafts_168 : decode cX9_grafts 168 = .ok (.iload_n 1, 1) := by decide +kernel
theorem sX9_grafts_168 : ab_X rom K cX9_grafts 7 1 168 (v0 :: .int x :: ls) st hp = ab_X rom K cX9_grafts 7 1 169 (v0 :: .int x :: ls) (.int x :: st) hp := ax_iload_n dX9_grafts_168 rfl rfl
theorem dX9_grafts_169 : decode cX9_grafts 169 = .ok (.iload 8, 2) := by decide +kernel
theorem sX9_grafts_169 : ab_X rom K cX9_grafts 7 1 169 (v0 :: v1 :: v2 :: v3 :: v4 :: v5 :: v6 :: v7 :: .int x :: ls) st hp = ab_X rom K cX9_grafts 7 1 171 (v0 :: v1 :: v2 :: v3 :: v4 :: v5 :: v6 :: v7 :: .int x :: ls) (.int x :: st) hp := ax_iload dX9_grafts_169 rfl rfl
theorem dX9_grafts_171 : decode cX9_grafts 171 = .ok (.invokevirtual 168, 3) := by decide +kernel
theorem sX9_grafts_171_0 : ab_X rom K cX9_grafts 7 1 171 ls [w2, w1, .ref a] hp = if ab_iso hp a 7 = true then (K 183 (.ref a :: [w1, w2]) hp).bind (fun o => ab_X rom K cX9_grafts 7 1 174 ls (o.1.toList ++ []) o.2) else none := ay_virtual (as := [w1, w2]) (st := []) dX9_grafts_171 kc_7_168 rfl rfl (Nat.le_of_ble_eq_true rfl)
theorem sX9_grafts_171_1 : ab_X rom K cX9_grafts 7 1 171 ls [w2, w1, .ref a, v0] hp = if ab_iso hp a 7 = true then (K 183 (.ref a :: [w1, w2]) hp).bind (fun o => ab_X rom K cX9_grafts 7 1 174 ls (o.1.toList ++ [v0]) o.2) else none := ay_virtual (as := [w1, w2]) (st := [v0]) dX9_grafts_171 kc_7_168 rfl rfl (Nat.le_of_ble_eq_true rfl)
theorem sX9_grafts_171_2 : ab_X rom K cX9_grafts 7 1 171 ls [w2, w1, .ref a, v0, v1] hp = if ab_iso hp a 7 = true then (K 183 (.ref a :: [w1, w2]) hp).bind (fun o => ab_X rom K cX9_grafts 7 1 174 ls (o.1.toList ++ [v0, v1]) o.2) else none := ay_virtual (as := [w1, w2]) (st := [v0, v1]) dX9_grafts_171 kc_7_168 rfl rfl (Nat.le_of_ble_eq_true rfl)
theorem sX9_grafts_171_3 : ab_X rom K cX9_grafts 7 1 171 ls [w2, w1, .ref a, v0, v1, v2] hp = if ab_iso hp a 7 = true then (K 183 (.ref a :: [w1, w2]) hp).bind (fun o => ab_X rom K cX9_grafts 7 1 174 ls (o.1.toList ++ [v0, v1, v2]) o.2) else none := ay_virtual (as := [w1, w2]) (st := [v0, v1, v2]) dX9_grafts_171 kc_7_168 rfl rfl (Nat.le_of_ble_eq_true rfl)
theorem dX9_grafts_174 : decode cX9_grafts 174 = .ok (.iastore, 1) := by decide +kernel
theorem sX9_grafts_174 : ab_X rom K cX9_grafts 7 1 174 ls (.int y :: .int x :: .ref a :: st) hp = (ab_awr 0 hp a x y).bind (fun hp' => ab_X rom K cX9_grafts 7 1 175 ls st hp') := ax_iastore dX9_grafts_174 rfl
theorem dX9_grafts_175 : decode cX9_grafts 175 = .ok (.aload_n 0, 1) := by decide +kernel
theorem sX9_grafts_175 : ab_X rom K cX9_grafts 7 1 175 (.ref a :: ls) st hp = ab_X rom K cX9_grafts 7 1 176 (.ref a :: ls) (.ref a :: st) hp := ax_aload_n dX9_grafts_175 rfl rfl
theorem dX9_grafts_176 : decode cX9_grafts 176 = .ok (.getfield 41, 3) := by decide +kernel
theorem sX9_grafts_176 : ab_X rom K cX9_grafts 7 1 176 ls (.ref a :: st) hp = (ab_fld hp a 7 24).bind (fun v => ab_X rom K cX9_grafts 7 1 179 ls (v :: st) hp) := ax_getfield dX9_grafts_176 kf_7_41 rfl
theorem dX9_grafts_179 : decode cX9_grafts 179 = .ok (.iconst 1, 1) := by decide +kernel
theorem sX9_grafts_179 : ab_X rom K cX9_grafts 7 1 179 ls st hp = ab_X rom K cX9_grafts 7 1 180 ls (.int 1 :: st) hp := ax_iconst dX9_grafts_179 (by decide) rfl
theorem dX9_grafts_180 : decode cX9_grafts 180 = .ok (.iload 8, 2) := by decide +kernel
theorem sX9_grafts_180 : ab_X rom K cX9_grafts 7 1 180 (v0 :: v1 :: v2 :: v3 :: v4 :: v5 :: v6 :: v7 :: .int x :: ls) st hp = ab_X rom K cX9_grafts 7 1 182 (v0 :: v1 :: v2 :: v3 :: v4 :: v5 :: v6 :: v7 :: .int x :: ls) (.int x :: st) hp := ax_iload dX9_grafts_180 rfl rfl
theorem dX9_grafts_182 : decode cX9_grafts 182 = .ok (.iadd, 1) := by decide +kernel
theorem sX9_grafts_182 : ab_X rom K cX9_grafts 7 1 182 ls (.int y :: .int x :: st) hp = ab_X rom K cX9_grafts 7 1 183 ls (.int (x + y) :: st) hp := ax_iadd dX9_grafts_182 rfl
theorem dX9_grafts_183 : decode cX9_grafts 183 = .ok (.aload_n 0, 1) := by decide +kernel
theorem sX9_grafts_183 : ab_X rom K cX9_grafts 7 1 183 (.ref a :: ls) st hp = ab_X rom K cX9_grafts 7 1 184 (.ref a :: ls) (.ref a :: st) hp := ax_aload_n dX9_grafts_183 rfl rfl
theorem dX9_grafts_184 : decode cX9_grafts 184 = .ok (.iload_n 1, 1) := by decide +kernel
theorem sX9_grafts_184 : ab_X rom K cX9_grafts 7 1 184 (v0 :: .int x :: ls) st hp = ab_X rom K cX9_grafts 7 1 185 (v0 :: .int x :: ls) (.int x :: st) hp := ax_iload_n dX9_grafts_184 rfl rfl
theorem dX9_grafts_185 : decode cX9_grafts 185 = .ok (.iload 8, 2) := by decide +kernel
theorem sX9_grafts_185 : ab_X rom K cX9_grafts 7 1 185 (v0 :: v1 :: v2 :: v3 :: v4 :: v5 :: v6 :: v7 :: .int x :: ls) st hp = ab_X rom K cX9_grafts 7 1 187 (v0 :: v1 :: v2 :: v3 :: v4 :: v5 :: v6 :: v7 :: .int x :: ls) (.int x :: st) hp := ax_iload dX9_grafts_185 rfl rfl
theorem dX9_grafts_187 : decode cX9_grafts 187 = .ok (.invokevirtual 73, 3) := by decide +kernel
theorem sX9_grafts_187_0 : ab_X rom K cX9_grafts 7 1 187 ls [w2, w1, .ref a] hp = if ab_iso hp a 7 = true then (K 179 (.ref a :: [w1, w2]) hp).bind (fun o => ab_X rom K cX9_grafts 7 1 190 ls (o.1.toList ++ []) o.2) else none := ay_virtual (as := [w1, w2]) (st := []) dX9_grafts_187 kc_7_73 rfl rfl (Nat.le_of_ble_eq_true rfl)
theorem sX9_grafts_187_1 : ab_X rom K cX9_grafts 7 1 187 ls [w2, w1, .ref a, v0] hp = if ab_iso hp a 7 = true then (K 179 (.ref a :: [w1, w2]) hp).bind (fun o => ab_X rom K cX9_grafts 7 1 190 ls (o.1.toList ++ [v0]) o.2) else none := ay_virtual (as := [w1, w2]) (st := [v0]) dX9_grafts_187 kc_7_73 rfl rfl (Nat.le_of_ble_eq_true rfl)
theorem sX9_grafts_187_2 : ab_X rom K cX9_grafts 7 1 187 ls [w2, w1, .ref a, v0, v1] hp = if ab_iso hp a 7 = true then (K 179 (.ref a :: [w1, w2]) hp).bind (fun o => ab_X rom K cX9_grafts 7 1 190 ls (o.1.toList ++ [v0, v1]) o.2) else none := ay_virtual (as := [w1, w2]) (st := [v0, v1]) dX9_grafts_187 kc_7_73 rfl rfl (Nat.le_of_ble_eq_true rfl)
theorem sX9_grafts_187_3 : ab_X rom K cX9_grafts 7 1 187 ls [w2, w1, .ref a, v0, v1, v2] hp = if ab_iso hp a 7 = true then (K 179 (.ref a :: [w1, w2]) hp).bind (fun o => ab_X rom K cX9_grafts 7 1 190 ls (o.1.toList ++ [v0, v1, v2]) o.2) else none := ay_virtual (as := [w1, w2]) (st := [v0, v1, v2]) dX9_grafts_187 kc_7_73 rfl rfl (Nat.le_of_ble_eq_true rfl)
theorem dX9_grafts_190 : decode cX9_grafts 190 = .ok (.iastore, 1) := by decide +kernel
theorem sX9_grafts_190 : ab_X rom K cX9_grafts 7 1 190 ls (.int y :: .int x :: .ref a :: st) hp = (ab_awr 0 hp a x y).bind (fun hp' => ab_X rom K cX9_grafts 7 1 191 ls st hp') := ax_iastore dX9_grafts_190 rfl
theorem dX9_grafts_191 : decode cX9_grafts 191 = .ok (.iinc 8 1, 3) := by decide +kernel
theorem sX9_grafts_191i : ab_X rom K cX9_grafts 7 1 191 (v0 :: v1 :: v2 :: v3 :: v4 :: v5 :: v6 :: .int y :: .int x :: ls) st hp = ab_X rom K cX9_grafts 7 1 194 (v0 :: v1 :: v2 :: v3 :: v4 :: v5 :: v6 :: .int y :: .int (x + 1) :: ls) st hp := ax_iinc dX9_grafts_191 rfl (ab_nl_c1 (j := 7) (v := .int y) rfl (ab_c1_int _)) (by decide) rfl rfl
theorem sX9_grafts_191r : ab_X rom K cX9_grafts 7 1 191 (v0 :: v1 :: v2 :: v3 :: v4 :: v5 :: v6 :: .ref a2 :: .int x :: ls) st hp = ab_X rom K cX9_grafts 7 1 194 (v0 :: v1 :: v2 :: v3 :: v4 :: v5 :: v6 :: .ref a2 :: .int (x + 1) :: ls) st hp := ax_iinc dX9_grafts_191 rfl (ab_nl_c1 (j := 7) (v := .ref a2) rfl (ab_c1_ref _)) (by decide) rfl rfl
theorem sX9_grafts_191n : ab_X rom K cX9_grafts 7 1 191 (v0 :: v1 :: v2 :: v3 :: v4 :: v5 :: v6 :: .null :: .int x :: ls) st hp = ab_X rom K cX9_grafts 7 1 194 (v0 :: v1 :: v2 :: v3 :: v4 :: v5 :: v6 :: .null :: .int (x + 1) :: ls) st hp := ax_iinc dX9_grafts_191 rfl (ab_nl_c1 (j := 7) (v := .null) rfl ab_c1_null) (by decide) rfl rfl
theorem dX9_grafts_194 : decode cX9_grafts 194 = .ok (.goto (-74), 3) := by decide +kernel
theorem sX9_grafts_194 : ab_X rom K cX9_grafts 7 1 194 ls st hp = ab_X rom K cX9_grafts 7 1 120 ls st hp := ax_goto dX9_grafts_194 (by decide)
theorem dX9_grafts_197 : decode cX9_grafts 197 = .ok (.iconst 0, 1) := by decide +kernel
theorem sX9_grafts_197 : ab_X rom K cX9_grafts 7 1 197 ls st hp = ab_X rom K cX9_grafts 7 1 198 ls (.int 0 :: st) hp := ax_iconst dX9_grafts_197 (by decide) rfl
theorem dX9_grafts_198 : decode cX9_grafts 198 = .ok (.istore 8, 2) := by decide +kernel
theorem sX9_grafts_198i : ab_X rom K cX9_grafts 7 1 198 (v0 :: v1 :: v2 :: v3 :: v4 :: v5 :: v6 :: .int y :: v8 :: ls) (.int x :: st) hp = ab_X rom K cX9_grafts 7 1 200 (v0 :: v1 :: v2 :: v3 :: v4 :: v5 :: v6 :: .int y :: .int x :: ls) st hp := ax_istore dX9_grafts_198 (ax_lt (v := v8) rfl) (ab_nl_c1 (j := 7) (v := .int y) rfl (ab_c1_int _)) rfl rfl
theorem sX9_grafts_198r : ab_X rom K cX9_grafts 7 1 198 (v0 :: v1 :: v2 :: v3 :: v4 :: v5 :: v6 :: .ref a2 :: v8 :: ls) (.int x :: st) hp = ab_X rom K cX9_grafts 7 1 200 (v0 :: v1 :: v2 :: v3 :: v4 :: v5 :: v6 :: .ref a2 :: .int x :: ls) st hp := ax_istore dX9_grafts_198 (ax_lt (v := v8) rfl) (ab_nl_c1 (j := 7) (v := .ref a2) rfl (ab_c1_ref _)) rfl rfl
theorem sX9_grafts_198n : ab_X rom K cX9_grafts 7 1 198 (v0 :: v1 :: v2 :: v3 :: v4 :: v5 :: v6 :: .null :: v8 :: ls) (.int x :: st) hp = ab_X rom K cX9_grafts 7 1 200 (v0 :: v1 :: v2 :: v3 :: v4 :: v5 :: v6 :: .null :: .int x :: ls) st hp := ax_istore dX9_grafts_198 (ax_lt (v := v8) rfl) (ab_nl_c1 (j := 7) (v := .null) rfl ab_c1_null) rfl rfl
theorem dX9_grafts_200 : decode cX9_grafts 200 = .ok (.iload 8, 2) := by decide +kernel
theorem sX9_grafts_200 : ab_X rom K cX9_grafts 7 1 200 (v0 :: v1 :: v2 :: v3 :: v4 :: v5 :: v6 :: v7 :: .int x :: ls) st hp = ab_X rom K cX9_grafts 7 1 202 (v0 :: v1 :: v2 :: v3 :: v4 :: v5 :: v6 :: v7 :: .int x :: ls) (.int x :: st) hp := ax_iload dX9_grafts_200 rfl rfl
theorem dX9_grafts_202 : decode cX9_grafts 202 = .ok (.aload_n 0, 1) := by decide +kernel
theorem sX9_grafts_202 : ab_X rom K cX9_grafts 7 1 202 (.ref a :: ls) st hp = ab_X rom K cX9_grafts 7 1 203 (.ref a :: ls) (.ref a :: st) hp := ax_aload_n dX9_grafts_202 rfl rfl
theorem dX9_grafts_203 : decode cX9_grafts 203 = .ok (.iload_n 2, 1) := by decide +kernel
theorem sX9_grafts_203 : ab_X rom K cX9_grafts 7 1 203 (v0 :: v1 :: .int x :: ls) st hp = ab_X rom K cX9_grafts 7 1 204 (v0 :: v1 :: .int x :: ls) (.int x :: st) hp := ax_iload_n dX9_grafts_203 rfl rfl
theorem dX9_grafts_204 : decode cX9_grafts 204 = .ok (.invokevirtual 64, 3) := by decide +kernel
theorem sX9_grafts_204_0 : ab_X rom K cX9_grafts 7 1 204 ls [w1, .ref a] hp = if ab_iso hp a 7 = true then (K 209 (.ref a :: [w1]) hp).bind (fun o => ab_X rom K cX9_grafts 7 1 207 ls (o.1.toList ++ []) o.2) else none := ay_virtual (as := [w1]) (st := []) dX9_grafts_204 kc_7_64 rfl rfl (Nat.le_of_ble_eq_true rfl)
theorem sX9_grafts_204_1 : ab_X rom K cX9_grafts 7 1 204 ls [w1, .ref a, v0] hp = if ab_iso hp a 7 = true then (K 209 (.ref a :: [w1]) hp).bind (fun o => ab_X rom K cX9_grafts 7 1 207 ls (o.1.toList ++ [v0]) o.2) else none := ay_virtual (as := [w1]) (st := [v0]) dX9_grafts_204 kc_7_64 rfl rfl (Nat.le_of_ble_eq_true rfl)
theorem sX9_grafts_204_2 : ab_X rom K cX9_grafts 7 1 204 ls [w1, .ref a, v0, v1] hp = if ab_iso hp a 7 = true then (K 209 (.ref a :: [w1]) hp).bind (fun o => ab_X rom K cX9_grafts 7 1 207 ls (o.1.toList ++ [v0, v1]) o.2) else none := ay_virtual (as := [w1]) (st := [v0, v1]) dX9_grafts_204 kc_7_64 rfl rfl (Nat.le_of_ble_eq_true rfl)
theorem sX9_grafts_204_3 : ab_X rom K cX9_grafts 7 1 204 ls [w1, .ref a, v0, v1, v2] hp = if ab_iso hp a 7 = true then (K 209 (.ref a :: [w1]) hp).bind (fun o => ab_X rom K cX9_grafts 7 1 207 ls (o.1.toList ++ [v0, v1, v2]) o.2) else none := ay_virtual (as := [w1]) (st := [v0, v1, v2]) dX9_grafts_204 kc_7_64 rfl rfl (Nat.le_of_ble_eq_true rfl)
theorem dX9_grafts_207 : decode cX9_grafts 207 = .ok (.if_icmp .ge 92, 3) := by decide +kernel
theorem sX9_grafts_207 : ab_X rom K cX9_grafts 7 1 207 ls (.int y :: .int x :: st) hp = if x < y then ab_X rom K cX9_grafts 7 1 210 ls st hp else ab_X rom K cX9_grafts 7 1 299 ls st hp := ax_icmp_ge dX9_grafts_207 (by decide) rfl
theorem dX9_grafts_210 : decode cX9_grafts 210 = .ok (.aload_n 0, 1) := by decide +kernel
theorem sX9_grafts_210 : ab_X rom K cX9_grafts 7 1 210 (.ref a :: ls) st hp = ab_X rom K cX9_grafts 7 1 211 (.ref a :: ls) (.ref a :: st) hp := ax_aload_n dX9_grafts_210 rfl rfl
theorem dX9_grafts_211 : decode cX9_grafts 211 = .ok (.getfield 41, 3) := by decide +kernel
theorem sX9_grafts_211 : ab_X rom K cX9_grafts 7 1 211 ls (.ref a :: st) hp = (ab_fld hp a 7 24).bind (fun v => ab_X rom K cX9_grafts 7 1 214 ls (v :: st) hp) := ax_getfield dX9_grafts_211 kf_7_41 rfl
theorem dX9_grafts_214 : decode cX9_grafts 214 = .ok (.bipush 8, 2) := by decide +kernel
theorem sX9_grafts_214 : ab_X rom K cX9_grafts 7 1 214 ls st hp = ab_X rom K cX9_grafts 7 1 216 ls (.int 8 :: st) hp := ax_bipush dX9_grafts_214 (by decide) rfl
theorem dX9_grafts_216 : decode cX9_grafts 216 = .ok (.aload_n 0, 1) := by decide +kernel
theorem sX9_grafts_216 : ab_X rom K cX9_grafts 7 1 216 (.ref a :: ls) st hp = ab_X rom K cX9_grafts 7 1 217 (.ref a :: ls) (.ref a :: st) hp := ax_aload_n dX9_grafts_216 rfl rfl
theorem dX9_grafts_217 : decode cX9_grafts 217 = .ok (.iload_n 1, 1) := by decide +kernel
theorem sX9_grafts_217 : ab_X rom K cX9_grafts 7 1 217 (v0 :: .int x :: ls) st hp = ab_X rom K cX9_grafts 7 1 218 (v0 :: .int x :: ls) (.int x :: st) hp := ax_iload_n dX9_grafts_217 rfl rfl
theorem dX9_grafts_218 : decode cX9_grafts 218 = .ok (.iload 8, 2) := by decide +kernel
theorem sX9_grafts_218 : ab_X rom K cX9_grafts 7 1 218 (v0 :: v1 :: v2 :: v3 :: v4 :: v5 :: v6 :: v7 :: .int x :: ls) st hp = ab_X rom K cX9_grafts 7 1 220 (v0 :: v1 :: v2 :: v3 :: v4 :: v5 :: v6 :: v7 :: .int x :: ls) (.int x :: st) hp := ax_iload dX9_grafts_218 rfl rfl
theorem dX9_grafts_220 : decode cX9_grafts 220 = .ok (.iload 7, 2) := by decide +kernel
theorem sX9_grafts_220 : ab_X rom K cX9_grafts 7 1 220 (v0 :: v1 :: v2 :: v3 :: v4 :: v5 :: v6 :: .int x :: ls) st hp = ab_X rom K cX9_grafts 7 1 222 (v0 :: v1 :: v2 :: v3 :: v4 :: v5 :: v6 :: .int x :: ls) (.int x :: st) hp := ax_iload dX9_grafts_220 rfl rfl
theorem dX9_grafts_222 : decode cX9_grafts 222 = .ok (.iload 6, 2) := by decide +kernel
theorem sX9_grafts_222 : ab_X rom K cX9_grafts 7 1 222 (v0 :: v1 :: v2 :: v3 :: v4 :: v5 :: .int x :: ls) st hp = ab_X rom K cX9_grafts 7 1 224 (v0 :: v1 :: v2 :: v3 :: v4 :: v5 :: .int x :: ls) (.int x :: st) hp := ax_iload dX9_grafts_222 rfl rfl
theorem dX9_grafts_224 : decode cX9_grafts 224 = .ok (.invokevirtual 331, 3) := by decide +kernel
theorem sX9_grafts_224_0 : ab_X rom K cX9_grafts 7 1 224 ls [w4, w3, w2, w1, .ref a] hp = if ab_iso hp a 7 = true then (K 208 (.ref a :: [w1, w2, w3, w4]) hp).bind (fun o => ab_X rom K cX9_grafts 7 1 227 ls (o.1.toList ++ []) o.2) else none := ay_virtual (as := [w1, w2, w3, w4]) (st := []) dX9_grafts_224 kc_7_331 rfl rfl (Nat.le_of_ble_eq_true rfl)
theorem sX9_grafts_224_1 : ab_X rom K cX9_grafts 7 1 224 ls [w4, w3, w2, w1, .ref a, v0] hp = if ab_iso hp a 7 = true then (K 208 (.ref a :: [w1, w2, w3, w4]) hp).bind (fun o => ab_X rom K cX9_grafts 7 1 227 ls (o.1.toList ++ [v0]) o.2) else none := ay_virtual (as := [w1, w2, w3, w4]) (st := [v0]) dX9_grafts_224 kc_7_331 rfl rfl (Nat.le_of_ble_eq_true rfl)
theorem sX9_grafts_224_2 : ab_X rom K cX9_grafts 7 1 224 ls [w4, w3, w2, w1, .ref a, v0, v1] hp = if ab_iso hp a 7 = true then (K 208 (.ref a :: [w1, w2, w3, w4]) hp).bind (fun o => ab_X rom K cX9_grafts 7 1 227 ls (o.1.toList ++ [v0, v1]) o.2) else none := ay_virtual (as := [w1, w2, w3, w4]) (st := [v0, v1]) dX9_grafts_224 kc_7_331 rfl rfl (Nat.le_of_ble_eq_true rfl)
theorem sX9_grafts_224_3 : ab_X rom K cX9_grafts 7 1 224 ls [w4, w3, w2, w1, .ref a, v0, v1, v2] hp = if ab_iso hp a 7 = true then (K 208 (.ref a :: [w1, w2, w3, w4]) hp).bind (fun o => ab_X rom K cX9_grafts 7 1 227 ls (o.1.toList ++ [v0, v1, v2]) o.2) else none := ay_virtual (as := [w1, w2, w3, w4]) (st := [v0, v1, v2]) dX9_grafts_224 kc_7_331 rfl rfl (Nat.le_of_ble_eq_true rfl)
theorem dX9_grafts_227 : decode cX9_grafts 227 = .ok (.iadd, 1) := by decide +kernel
theorem sX9_grafts_227 : ab_X rom K cX9_grafts 7 1 227 ls (.int y :: .int x :: st) hp = ab_X rom K cX9_grafts 7 1 228 ls (.int (x + y) :: st) hp := ax_iadd dX9_grafts_227 rfl
theorem dX9_grafts_228 : decode cX9_grafts 228 = .ok (.aload_n 0, 1) := by decide +kernel
theorem sX9_grafts_228 : ab_X rom K cX9_grafts 7 1 228 (.ref a :: ls) st hp = ab_X rom K cX9_grafts 7 1 229 (.ref a :: ls) (.ref a :: st) hp := ax_aload_n dX9_grafts_228 rfl rfl
theorem dX9_grafts_229 : decode cX9_grafts 229 = .ok (.iload_n 2, 1) := by decide +kernel
theorem sX9_grafts_229 : ab_X rom K cX9_grafts 7 1 229 (v0 :: v1 :: .int x :: ls) st hp = ab_X rom K cX9_grafts 7 1 230 (v0 :: v1 :: .int x :: ls) (.int x :: st) hp := ax_iload_n dX9_grafts_229 rfl rfl
theorem dX9_grafts_230 : decode cX9_grafts 230 = .ok (.iload 8, 2) := by decide +kernel
theorem sX9_grafts_230 : ab_X rom K cX9_grafts 7 1 230 (v0 :: v1 :: v2 :: v3 :: v4 :: v5 :: v6 :: v7 :: .int x :: ls) st hp = ab_X rom K cX9_grafts 7 1 232 (v0 :: v1 :: v2 :: v3 :: v4 :: v5 :: v6 :: v7 :: .int x :: ls) (.int x :: st) hp := ax_iload dX9_grafts_230 rfl rfl
theorem dX9_grafts_232 : decode cX9_grafts 232 = .ok (.invokevirtual 168, 3) := by decide +kernel
theorem sX9_grafts_232_0 : ab_X rom K cX9_grafts 7 1 232 ls [w2, w1, .ref a] hp = if ab_iso hp a 7 = true then (K 183 (.ref a :: [w1, w2]) hp).bind (fun o => ab_X rom K cX9_grafts 7 1 235 ls (o.1.toList ++ []) o.2) else none := ay_virtual (as := [w1, w2]) (st := []) dX9_grafts_232 kc_7_168 rfl rfl (Nat.le_of_ble_eq_true rfl)
theorem sX9_grafts_232_1 : ab_X rom K cX9_grafts 7 1 232 ls [w2, w1, .ref a, v0] hp = if ab_iso hp a 7 = true then (K 183 (.ref a :: [w1, w2]) hp).bind (fun o => ab_X rom K cX9_grafts 7 1 235 ls (o.1.toList ++ [v0]) o.2) else none := ay_virtual (as := [w1, w2]) (st := [v0]) dX9_grafts_232 kc_7_168 rfl rfl (Nat.le_of_ble_eq_true rfl)
theorem sX9_grafts_232_2 : ab_X rom K cX9_grafts 7 1 232 ls [w2, w1, .ref a, v0, v1] hp = if ab_iso hp a 7 = true then (K 183 (.ref a :: [w1, w2]) hp).bind (fun o => ab_X rom K cX9_grafts 7 1 235 ls (o.1.toList ++ [v0, v1]) o.2) else none := ay_virtual (as := [w1, w2]) (st := [v0, v1]) dX9_grafts_232 kc_7_168 rfl rfl (Nat.le_of_ble_eq_true rfl)
theorem sX9_grafts_232_3 : ab_X rom K cX9_grafts 7 1 232 ls [w2, w1, .ref a, v0, v1, v2] hp = if ab_iso hp a 7 = true then (K 183 (.ref a :: [w1, w2]) hp).bind (fun o => ab_X rom K cX9_grafts 7 1 235 ls (o.1.toList ++ [v0, v1, v2]) o.2) else none := ay_virtual (as := [w1, w2]) (st := [v0, v1, v2]) dX9_grafts_232 kc_7_168 rfl rfl (Nat.le_of_ble_eq_true rfl)
theorem dX9_grafts_235 : decode cX9_grafts 235 = .ok (.iload 5, 2) := by decide +kernel
theorem sX9_grafts_235 : ab_X rom K cX9_grafts 7 1 235 (v0 :: v1 :: v2 :: v3 :: v4 :: .int x :: ls) st hp = ab_X rom K cX9_grafts 7 1 237 (v0 :: v1 :: v2 :: v3 :: v4 :: .int x :: ls) (.int x :: st) hp := ax_iload dX9_grafts_235 rfl rfl
theorem dX9_grafts_237 : decode cX9_grafts 237 = .ok (.iadd, 1) := by decide +kernel
theorem sX9_grafts_237 : ab_X rom K cX9_grafts 7 1 237 ls (.int y :: .int x :: st) hp = ab_X rom K cX9_grafts 7 1 238 ls (.int (x + y) :: st) hp := ax_iadd dX9_grafts_237 rfl
theorem dX9_grafts_238 : decode cX9_grafts 238 = .ok (.iastore, 1) := by decide +kernel
theorem sX9_grafts_238 : ab_X rom K cX9_grafts 7 1 238 ls (.int y :: .int x :: .ref a :: st) hp = (ab_awr 0 hp a x y).bind (fun hp' => ab_X rom K cX9_grafts 7 1 239 ls st hp') := ax_iastore dX9_grafts_238 rfl
theorem dX9_grafts_239 : decode cX9_grafts 239 = .ok (.iconst 0, 1) := by decide +kernel
theorem sX9_grafts_239 : ab_X rom K cX9_grafts 7 1 239 ls st hp = ab_X rom K cX9_grafts 7 1 240 ls (.int 0 :: st) hp := ax_iconst dX9_grafts_239 (by decide) rfl
theorem dX9_grafts_240 : decode cX9_grafts 240 = .ok (.istore 9, 2) := by decide +kernel
theorem sX9_grafts_240i : ab_X rom K cX9_grafts 7 1 240 (v0 :: v1 :: v2 :: v3 :: v4 :: v5 :: v6 :: v7 :: .int y :: v9 :: ls) (.int x :: st) hp = ab_X rom K cX9_grafts 7 1 242 (v0 :: v1 :: v2 :: v3 :: v4 :: v5 :: v6 :: v7 :: .int y :: .int x :: ls) st hp := ax_istore dX9_grafts_240 (ax_lt (v := v9) rfl) (ab_nl_c1 (j := 8) (v := .int y) rfl (ab_c1_int _)) rfl rfl
theorem sX9_grafts_240r : ab_X rom K cX9_grafts 7 1 240 (v0 :: v1 :: v2 :: v3 :: v4 :: v5 :: v6 :: v7 :: .ref a2 :: v9 :: ls) (.int x :: st) hp = ab_X rom K cX9_grafts 7 1 242 (v0 :: v1 :: v2 :: v3 :: v4 :: v5 :: v6 :: v7 :: .ref a2 :: .int x :: ls) st hp := ax_istore dX9_grafts_240 (ax_lt (v := v9) rfl) (ab_nl_c1 (j := 8) (v := .ref a2) rfl (ab_c1_ref _)) rfl rfl
theorem sX9_grafts_240n : ab_X rom K cX9_grafts 7 1 240 (v0 :: v1 :: v2 :: v3 :: v4 :: v5 :: v6 :: v7 :: .null :: v9 :: ls) (.int x :: st) hp = ab_X rom K cX9_grafts 7 1 242 (v0 :: v1 :: v2 :: v3 :: v4 :: v5 :: v6 :: v7 :: .null :: .int x :: ls) st hp := ax_istore dX9_grafts_240 (ax_lt (v := v9) rfl) (ab_nl_c1 (j := 8) (v := .null) rfl ab_c1_null) rfl rfl
theorem dX9_grafts_242 : decode cX9_grafts 242 = .ok (.iload 9, 2) := by decide +kernel
theorem sX9_grafts_242 : ab_X rom K cX9_grafts 7 1 242 (v0 :: v1 :: v2 :: v3 :: v4 :: v5 :: v6 :: v7 :: v8 :: .int x :: ls) st hp = ab_X rom K cX9_grafts 7 1 244 (v0 :: v1 :: v2 :: v3 :: v4 :: v5 :: v6 :: v7 :: v8 :: .int x :: ls) (.int x :: st) hp := ax_iload dX9_grafts_242 rfl rfl
theorem dX9_grafts_244 : decode cX9_grafts 244 = .ok (.iload 8, 2) := by decide +kernel
theorem sX9_grafts_244 : ab_X rom K cX9_grafts 7 1 244 (v0 :: v1 :: v2 :: v3 :: v4 :: v5 :: v6 :: v7 :: .int x :: ls) st hp = ab_X rom K cX9_grafts 7 1 246 (v0 :: v1 :: v2 :: v3 :: v4 :: v5 :: v6 :: v7 :: .int x :: ls) (.int x :: st) hp := ax_iload dX9_grafts_244 rfl rfl
theorem dX9_grafts_246 : decode cX9_grafts 246 = .ok (.if_icmp .ge 47, 3) := by decide +kernel
theorem sX9_grafts_246 : ab_X rom K cX9_grafts 7 1 246 ls (.int y :: .int x :: st) hp = if x < y then ab_X rom K cX9_grafts 7 1 249 ls st hp else ab_X rom K cX9_grafts 7 1 293 ls st hp := ax_icmp_ge dX9_grafts_246 (by decide) rfl
theorem dX9_grafts_249 : decode cX9_grafts 249 = .ok (.aload_n 0, 1) := by decide +kernel
theorem sX9_grafts_249 : ab_X rom K cX9_grafts 7 1 249 (.ref a :: ls) st hp = ab_X rom K cX9_grafts 7 1 250 (.ref a :: ls) (.ref a :: st) hp := ax_aload_n dX9_grafts_249 rfl rfl
theorem dX9_grafts_250 : decode cX9_grafts 250 = .ok (.iload_n 2, 1) := by decide +kernel
theorem sX9_grafts_250 : ab_X rom K cX9_grafts 7 1 250 (v0 :: v1 :: .int x :: ls) st hp = ab_X rom K cX9_grafts 7 1 251 (v0 :: v1 :: .int x :: ls) (.int x :: st) hp := ax_iload_n dX9_grafts_250 rfl rfl
theorem dX9_grafts_251 : decode cX9_grafts 251 = .ok (.iload 8, 2) := by decide +kernel
theorem sX9_grafts_251 : ab_X rom K cX9_grafts 7 1 251 (v0 :: v1 :: v2 :: v3 :: v4 :: v5 :: v6 :: v7 :: .int x :: ls) st hp = ab_X rom K cX9_grafts 7 1 253 (v0 :: v1 :: v2 :: v3 :: v4 :: v5 :: v6 :: v7 :: .int x :: ls) (.int x :: st) hp := ax_iload dX9_grafts_251 rfl rfl
theorem dX9_grafts_253 : decode cX9_grafts 253 = .ok (.iload 9, 2) := by decide +kernel
theorem sX9_grafts_253 : ab_X rom K cX9_grafts 7 1 253 (v0 :: v1 :: v2 :: v3 :: v4 :: v5 :: v6 :: v7 :: v8 :: .int x :: ls) st hp = ab_X rom K cX9_grafts 7 1 255 (v0 :: v1 :: v2 :: v3 :: v4 :: v5 :: v6 :: v7 :: v8 :: .int x :: ls) (.int x :: st) hp := ax_iload dX9_grafts_253 rfl rfl
theorem dX9_grafts_255 : decode cX9_grafts 255 = .ok (.invokevirtual 160, 3) := by decide +kernel
theorem sX9_grafts_255_0 : ab_X rom K cX9_grafts 7 1 255 ls [w3, w2, w1, .ref a] hp = if ab_iso hp a 7 = true then (K 135 (.ref a :: [w1, w2, w3]) hp).bind (fun o => ab_X rom K cX9_grafts 7 1 258 ls (o.1.toList ++ []) o.2) else none := ay_virtual (as := [w1, w2, w3]) (st := []) dX9_grafts_255 kc_7_160 rfl rfl (Nat.le_of_ble_eq_true rfl)
theorem sX9_grafts_255_1 : ab_X rom K cX9_grafts 7 1 255 ls [w3, w2, w1, .ref a, v0] hp = if ab_iso hp a 7 = true then (K 135 (.ref a :: [w1, w2, w3]) hp).bind (fun o => ab_X rom K cX9_grafts 7 1 258 ls (o.1.toList ++ [v0]) o.2) else none := ay_virtual (as := [w1, w2, w3]) (st := [v0]) dX9_grafts_255 kc_7_160 rfl rfl (Nat.le_of_ble_eq_true rfl)
theorem sX9_grafts_255_2 : ab_X rom K cX9_grafts 7 1 255 ls [w3, w2, w1, .ref a, v0, v1] hp = if ab_iso hp a 7 = true then (K 135 (.ref a :: [w1, w2, w3]) hp).bind (fun o => ab_X rom K cX9_grafts 7 1 258 ls (o.1.toList ++ [v0, v1]) o.2) else none := ay_virtual (as := [w1, w2, w3]) (st := [v0, v1]) dX9_grafts_255 kc_7_160 rfl rfl (Nat.le_of_ble_eq_true rfl)
theorem sX9_grafts_255_3 : ab_X rom K cX9_grafts 7 1 255 ls [w3, w2, w1, .ref a, v0, v1, v2] hp = if ab_iso hp a 7 = true then (K 135 (.ref a :: [w1, w2, w3]) hp).bind (fun o => ab_X rom K cX9_grafts 7 1 258 ls (o.1.toList ++ [v0, v1, v2]) o.2) else none := ay_virtual (as := [w1, w2, w3]) (st := [v0, v1, v2]) dX9_grafts_255 kc_7_160 rfl rfl (Nat.le_of_ble_eq_true rfl)
theorem dX9_grafts_258 : decode cX9_grafts 258 = .ok (.ifCond .eq 29, 3) := by decide +kernel
theorem sX9_grafts_258 : ab_X rom K cX9_grafts 7 1 258 ls (.int x :: st) hp = if x = 0 then ab_X rom K cX9_grafts 7 1 287 ls st hp else ab_X rom K cX9_grafts 7 1 261 ls st hp := ax_if_eq dX9_grafts_258 (by decide) rfl
theorem dX9_grafts_261 : decode cX9_grafts 261 = .ok (.aload_n 0, 1) := by decide +kernel
theorem sX9_grafts_261 : ab_X rom K cX9_grafts 7 1 261 (.ref a :: ls) st hp = ab_X rom K cX9_grafts 7 1 262 (.ref a :: ls) (.ref a :: st) hp := ax_aload_n dX9_grafts_261 rfl rfl
theorem dX9_grafts_262 : decode cX9_grafts 262 = .ok (.aload_n 0, 1) := by decide +kernel
theorem sX9_grafts_262 : ab_X rom K cX9_grafts 7 1 262 (.ref a :: ls) st hp = ab_X rom K cX9_grafts 7 1 263 (.ref a :: ls) (.ref a :: st) hp := ax_aload_n dX9_grafts_262 rfl rfl
theorem dX9_grafts_263 : decode cX9_grafts 263 = .ok (.iload_n 1, 1) := by decide +kernel
theorem sX9_grafts_263 : ab_X rom K cX9_grafts 7 1 263 (v0 :: .int x :: ls) st hp = ab_X rom K cX9_grafts 7 1 264 (v0 :: .int x :: ls) (.int x :: st) hp := ax_iload_n dX9_grafts_263 rfl rfl
theorem dX9_grafts_264 : decode cX9_grafts 264 = .ok (.iload 8, 2) := by decide +kernel
theorem sX9_grafts_264 : ab_X rom K cX9_grafts 7 1 264 (v0 :: v1 :: v2 :: v3 :: v4 :: v5 :: v6 :: v7 :: .int x :: ls) st hp = ab_X rom K cX9_grafts 7 1 266 (v0 :: v1 :: v2 :: v3 :: v4 :: v5 :: v6 :: v7 :: .int x :: ls) (.int x :: st) hp := ax_iload dX9_grafts_264 rfl rfl
theorem dX9_grafts_266 : decode cX9_grafts 266 = .ok (.iload 7, 2) := by decide +kernel
theorem sX9_grafts_266 : ab_X rom K cX9_grafts 7 1 266 (v0 :: v1 :: v2 :: v3 :: v4 :: v5 :: v6 :: .int x :: ls) st hp = ab_X rom K cX9_grafts 7 1 268 (v0 :: v1 :: v2 :: v3 :: v4 :: v5 :: v6 :: .int x :: ls) (.int x :: st) hp := ax_iload dX9_grafts_266 rfl rfl
theorem dX9_grafts_268 : decode cX9_grafts 268 = .ok (.iload 6, 2) := by decide +kernel
theorem sX9_grafts_268 : ab_X rom K cX9_grafts 7 1 268 (v0 :: v1 :: v2 :: v3 :: v4 :: v5 :: .int x :: ls) st hp = ab_X rom K cX9_grafts 7 1 270 (v0 :: v1 :: v2 :: v3 :: v4 :: v5 :: .int x :: ls) (.int x :: st) hp := ax_iload dX9_grafts_268 rfl rfl
theorem dX9_grafts_270 : decode cX9_grafts 270 = .ok (.invokevirtual 331, 3) := by decide +kernel
theorem sX9_grafts_270_0 : ab_X rom K cX9_grafts 7 1 270 ls [w4, w3, w2, w1, .ref a] hp = if ab_iso hp a 7 = true then (K 208 (.ref a :: [w1, w2, w3, w4]) hp).bind (fun o => ab_X rom K cX9_grafts 7 1 273 ls (o.1.toList ++ []) o.2) else none := ay_virtual (as := [w1, w2, w3, w4]) (st := []) dX9_grafts_270 kc_7_331 rfl rfl (Nat.le_of_ble_eq_true rfl)
theorem sX9_grafts_270_1 : ab_X rom K cX9_grafts 7 1 270 ls [w4, w3, w2, w1, .ref a, v0] hp = if ab_iso hp a 7 = true then (K 208 (.ref a :: [w1, w2, w3, w4]) hp).bind (fun o => ab_X rom K cX9_grafts 7 1 273 ls (o.1.toList ++ [v0]) o.2) else none := ay_virtual (as := [w1, w2, w3, w4]) (st := [v0]) dX9_grafts_270 kc_7_331 rfl rfl (Nat.le_of_ble_eq_true rfl)
theorem sX9_grafts_270_2 : ab_X rom K cX9_grafts 7 1 270 ls [w4, w3, w2, w1, .ref a, v0, v1] hp = if ab_iso hp a 7 = true then (K 208 (.ref a :: [w1, w2, w3, w4]) hp).bind (fun o => ab_X rom K cX9_grafts 7 1 273 ls (o.1.toList ++ [v0, v1]) o.2) else none := ay_virtual (as := [w1, w2, w3, w4]) (st := [v0, v1]) dX9_grafts_270 kc_7_331 rfl rfl (Nat.le_of_ble_eq_true rfl)
theorem sX9_grafts_270_3 : ab_X rom K cX9_grafts 7 1 270 ls [w4, w3, w2, w1, .ref a, v0, v1, v2] hp = if ab_iso hp a 7 = true then (K 208 (.ref a :: [w1, w2, w3, w4]) hp).bind (fun o => ab_X rom K cX9_grafts 7 1 273 ls (o.1.toList ++ [v0, v1, v2]) o.2) else none := ay_virtual (as := [w1, w2, w3, w4]) (st := [v0, v1, v2]) dX9_grafts_270 kc_7_331 rfl rfl (Nat.le_of_ble_eq_true rfl)
theorem dX9_grafts_273 : decode cX9_grafts 273 = .ok (.aload_n 0, 1) := by decide +kernel
theorem sX9_grafts_273 : ab_X rom K cX9_grafts 7 1 273 (.ref a :: ls) st hp = ab_X rom K cX9_grafts 7 1 274 (.ref a :: ls) (.ref a :: st) hp := ax_aload_n dX9_grafts_273 rfl rfl
theorem dX9_grafts_274 : decode cX9_grafts 274 = .ok (.iload_n 1, 1) := by decide +kernel
theorem sX9_grafts_274 : ab_X rom K cX9_grafts 7 1 274 (v0 :: .int x :: ls) st hp = ab_X rom K cX9_grafts 7 1 275 (v0 :: .int x :: ls) (.int x :: st) hp := ax_iload_n dX9_grafts_274 rfl rfl
theorem dX9_grafts_275 : decode cX9_grafts 275 = .ok (.iload 9, 2) := by decide +kernel
theorem sX9_grafts_275 : ab_X rom K cX9_grafts 7 1 275 (v0 :: v1 :: v2 :: v3 :: v4 :: v5 :: v6 :: v7 :: v8 :: .int x :: ls) st hp = ab_X rom K cX9_grafts 7 1 277 (v0 :: v1 :: v2 :: v3 :: v4 :: v5 :: v6 :: v7 :: v8 :: .int x :: ls) (.int x :: st) hp := ax_iload dX9_grafts_275 rfl rfl
theorem dX9_grafts_277 : decode cX9_grafts 277 = .ok (.iload 7, 2) := by decide +kernel
theorem sX9_grafts_277 : ab_X rom K cX9_grafts 7 1 277 (v0 :: v1 :: v2 :: v3 :: v4 :: v5 :: v6 :: .int x :: ls) st hp = ab_X rom K cX9_grafts 7 1 279 (v0 :: v1 :: v2 :: v3 :: v4 :: v5 :: v6 :: .int x :: ls) (.int x :: st) hp := ax_iload dX9_grafts_277 rfl rfl
theorem dX9_grafts_279 : decode cX9_grafts 279 = .ok (.iload 6, 2) := by decide +kernel
theorem sX9_grafts_279 : ab_X rom K cX9_grafts 7 1 279 (v0 :: v1 :: v2 :: v3 :: v4 :: v5 :: .int x :: ls) st hp = ab_X rom K cX9_grafts 7 1 281 (v0 :: v1 :: v2 :: v3 :: v4 :: v5 :: .int x :: ls) (.int x :: st) hp := ax_iload dX9_grafts_279 rfl rfl
theorem dX9_grafts_281 : decode cX9_grafts 281 = .ok (.invokevirtual 331, 3) := by decide +kernel
theorem sX9_grafts_281_0 : ab_X rom K cX9_grafts 7 1 281 ls [w4, w3, w2, w1, .ref a] hp = if ab_iso hp a 7 = true then (K 208 (.ref a :: [w1, w2, w3, w4]) hp).bind (fun o => ab_X rom K cX9_grafts 7 1 284 ls (o.1.toList ++ []) o.2) else none := ay_virtual (as := [w1, w2, w3, w4]) (st := []) dX9_grafts_281 kc_7_331 rfl rfl (Nat.le_of_ble_eq_true rfl)
theorem sX9_grafts_281_1 : ab_X rom K cX9_grafts 7 1 281 ls [w4, w3, w2, w1, .ref a, v0] hp = if ab_iso hp a 7 = true then (K 208 (.ref a :: [w1, w2, w3, w4]) hp).bind (fun o => ab_X rom K cX9_grafts 7 1 284 ls (o.1.toList ++ [v0]) o.2) else none := ay_virtual (as := [w1, w2, w3, w4]) (st := [v0]) dX9_grafts_281 kc_7_331 rfl rfl (Nat.le_of_ble_eq_true rfl)
theorem sX9_grafts_281_2 : ab_X rom K cX9_grafts 7 1 281 ls [w4, w3, w2, w1, .ref a, v0, v1] hp = if ab_iso hp a 7 = true then (K 208 (.ref a :: [w1, w2, w3, w4]) hp).bind (fun o => ab_X rom K cX9_grafts 7 1 284 ls (o.1.toList ++ [v0, v1]) o.2) else none := ay_virtual (as := [w1, w2, w3, w4]) (st := [v0, v1]) dX9_grafts_281 kc_7_331 rfl rfl (Nat.le_of_ble_eq_true rfl)
theorem sX9_grafts_281_3 : ab_X rom K cX9_grafts 7 1 281 ls [w4, w3, w2, w1, .ref a, v0, v1, v2] hp = if ab_iso hp a 7 = true then (K 208 (.ref a :: [w1, w2, w3, w4]) hp).bind (fun o => ab_X rom K cX9_grafts 7 1 284 ls (o.1.toList ++ [v0, v1, v2]) o.2) else none := ay_virtual (as := [w1, w2, w3, w4]) (st := [v0, v1, v2]) dX9_grafts_281 kc_7_331 rfl rfl (Nat.le_of_ble_eq_true rfl)
theorem dX9_grafts_284 : decode cX9_grafts 284 = .ok (.invokevirtual 335, 3) := by decide +kernel
theorem sX9_grafts_284_0 : ab_X rom K cX9_grafts 7 1 284 ls [w2, w1, .ref a] hp = if ab_iso hp a 7 = true then (K 191 (.ref a :: [w1, w2]) hp).bind (fun o => ab_X rom K cX9_grafts 7 1 287 ls (o.1.toList ++ []) o.2) else none := ay_virtual (as := [w1, w2]) (st := []) dX9_grafts_284 kc_7_335 rfl rfl (Nat.le_of_ble_eq_true rfl)
theorem sX9_grafts_284_1 : ab_X rom K cX9_grafts 7 1 284 ls [w2, w1, .ref a, v0] hp = if ab_iso hp a 7 = true then (K 191 (.ref a :: [w1, w2]) hp).bind (fun o => ab_X rom K cX9_grafts 7 1 287 ls (o.1.toList ++ [v0]) o.2) else none := ay_virtual (as := [w1, w2]) (st := [v0]) dX9_grafts_284 kc_7_335 rfl rfl (Nat.le_of_ble_eq_true rfl)
theorem sX9_grafts_284_2 : ab_X rom K cX9_grafts 7 1 284 ls [w2, w1, .ref a, v0, v1] hp = if ab_iso hp a 7 = true then (K 191 (.ref a :: [w1, w2]) hp).bind (fun o => ab_X rom K cX9_grafts 7 1 287 ls (o.1.toList ++ [v0, v1]) o.2) else none := ay_virtual (as := [w1, w2]) (st := [v0, v1]) dX9_grafts_284 kc_7_335 rfl rfl (Nat.le_of_ble_eq_true rfl)
theorem sX9_grafts_284_3 : ab_X rom K cX9_grafts 7 1 284 ls [w2, w1, .ref a, v0, v1, v2] hp = if ab_iso hp a 7 = true then (K 191 (.ref a :: [w1, w2]) hp).bind (fun o => ab_X rom K cX9_grafts 7 1 287 ls (o.1.toList ++ [v0, v1, v2]) o.2) else none := ay_virtual (as := [w1, w2]) (st := [v0, v1, v2]) dX9_grafts_284 kc_7_335 rfl rfl (Nat.le_of_ble_eq_true rfl)
theorem dX9_grafts_287 : decode cX9_grafts 287 = .ok (.iinc 9 1, 3) := by decide +kernel
theorem sX9_grafts_287i : ab_X rom K cX9_grafts 7 1 287 (v0 :: v1 :: v2 :: v3 :: v4 :: v5 :: v6 :: v7 :: .int y :: .int x :: ls) st hp = ab_X rom K cX9_grafts 7 1 290 (v0 :: v1 :: v2 :: v3 :: v4 :: v5 :: v6 :: v7 :: .int y :: .int (x + 1) :: ls) st hp := ax_iinc dX9_grafts_287 rfl (ab_nl_c1 (j := 8) (v := .int y) rfl (ab_c1_int _)) (by decide) rfl rfl
theorem sX9_grafts_287r : ab_X rom K cX9_grafts 7 1 287 (v0 :: v1 :: v2 :: v3 :: v4 :: v5 :: v6 :: v7 :: .ref a2 :: .int x :: ls) st hp = ab_X rom K cX9_grafts 7 1 290 (v0 :: v1 :: v2 :: v3 :: v4 :: v5 :: v6 :: v7 :: .ref a2 :: .int (x + 1) :: ls) st hp := ax_iinc dX9_grafts_287 rfl (ab_nl_c1 (j := 8) (v := .ref a2) rfl (ab_c1_ref _)) (by decide) rfl rfl
theorem sX9_grafts_287n : ab_X rom K cX9_grafts 7 1 287 (v0 :: v1 :: v2 :: v3 :: v4 :: v5 :: v6 :: v7 :: .null :: .int x :: ls) st hp = ab_X rom K cX9_grafts 7 1 290 (v0 :: v1 :: v2 :: v3 :: v4 :: v5 :: v6 :: v7 :: .null :: .int (x + 1) :: ls) st hp := ax_iinc dX9_grafts_287 rfl (ab_nl_c1 (j := 8) (v := .null) rfl ab_c1_null) (by decide) rfl rfl
theorem dX9_grafts_290 : decode cX9_grafts 290 = .ok (.goto (-48), 3) := by decide +kernel
theorem sX9_grafts_290 : ab_X rom K cX9_grafts 7 1 290 ls st hp = ab_X rom K cX9_grafts 7 1 242 ls st hp := ax_goto dX9_grafts_290 (by decide)
theorem dX9_grafts_293 : decode cX9_grafts 293 = .ok (.iinc 8 1, 3) := by decide +kernel
theorem sX9_grafts_293i : ab_X rom K cX9_grafts 7 1 293 (v0 :: v1 :: v2 :: v3 :: v4 :: v5 :: v6 :: .int y :: .int x :: ls) st hp = ab_X rom K cX9_grafts 7 1 296 (v0 :: v1 :: v2 :: v3 :: v4 :: v5 :: v6 :: .int y :: .int (x + 1) :: ls) st hp := ax_iinc dX9_grafts_293 rfl (ab_nl_c1 (j := 7) (v := .int y) rfl (ab_c1_int _)) (by decide) rfl rfl
theorem sX9_grafts_293r : ab_X rom K cX9_grafts 7 1 293 (v0 :: v1 :: v2 :: v3 :: v4 :: v5 :: v6 :: .ref a2 :: .int x :: ls) st hp = ab_X rom K cX9_grafts 7 1 296 (v0 :: v1 :: v2 :: v3 :: v4 :: v5 :: v6 :: .ref a2 :: .int (x + 1) :: ls) st hp := ax_iinc dX9_grafts_293 rfl (ab_nl_c1 (j := 7) (v := .ref a2) rfl (ab_c1_ref _)) (by decide) rfl rfl
theorem sX9_grafts_293n : ab_X rom K cX9_grafts 7 1 293 (v0 :: v1 :: v2 :: v3 :: v4 :: v5 :: v6 :: .null :: .int x :: ls) st hp = ab_X rom K cX9_grafts 7 1 296 (v0 :: v1 :: v2 :: v3 :: v4 :: v5 :: v6 :: .null :: .int (x + 1) :: ls) st hp := ax_iinc dX9_grafts_293 rfl (ab_nl_c1 (j := 7) (v := .null) rfl ab_c1_null) (by decide) rfl rfl
theorem dX9_grafts_296 : decode cX9_grafts 296 = .ok (.goto (-96), 3) := by decide +kernel
theorem sX9_grafts_296 : ab_X rom K cX9_grafts 7 1 296 ls st hp = ab_X rom K cX9_grafts 7 1 200 ls st hp := ax_goto dX9_grafts_296 (by decide)
theorem dX9_grafts_299 : decode cX9_grafts 299 = .ok (.aload_n 0, 1) := by decide +kernel
theorem sX9_grafts_299 : ab_X rom K cX9_grafts 7 1 299 (.ref a :: ls) st hp = ab_X rom K cX9_grafts 7 1 300 (.ref a :: ls) (.ref a :: st) hp := ax_aload_n dX9_grafts_299 rfl rfl
theorem dX9_grafts_300 : decode cX9_grafts 300 = .ok (.iload_n 3, 1) := by decide +kernel
theorem sX9_grafts_300 : ab_X rom K cX9_grafts 7 1 300 (v0 :: v1 :: v2 :: .int x :: ls) st hp = ab_X rom K cX9_grafts 7 1 301 (v0 :: v1 :: v2 :: .int x :: ls) (.int x :: st) hp := ax_iload_n dX9_grafts_300 rfl rfl
theorem dX9_grafts_301 : decode cX9_grafts 301 = .ok (.invokevirtual 338, 3) := by decide +kernel
theorem sX9_grafts_301_0 : ab_X rom K cX9_grafts 7 1 301 ls [w1, .ref a] hp = if ab_iso hp a 7 = true then (K 139 (.ref a :: [w1]) hp).bind (fun o => ab_X rom K cX9_grafts 7 1 304 ls (o.1.toList ++ []) o.2) else none := ay_virtual (as := [w1]) (st := []) dX9_grafts_301 kc_7_338 rfl rfl (Nat.le_of_ble_eq_true rfl)
theorem sX9_grafts_301_1 : ab_X rom K cX9_grafts 7 1 301 ls [w1, .ref a, v0] hp = if ab_iso hp a 7 = true then (K 139 (.ref a :: [w1]) hp).bind (fun o => ab_X rom K cX9_grafts 7 1 304 ls (o.1.toList ++ [v0]) o.2) else none := ay_virtual (as := [w1]) (st := [v0]) dX9_grafts_301 kc_7_338 rfl rfl (Nat.le_of_ble_eq_true rfl)
theorem sX9_grafts_301_2 : ab_X rom K cX9_grafts 7 1 301 ls [w1, .ref a, v0, v1] hp = if ab_iso hp a 7 = true then (K 139 (.ref a :: [w1]) hp).bind (fun o => ab_X rom K cX9_grafts 7 1 304 ls (o.1.toList ++ [v0, v1]) o.2) else none := ay_virtual (as := [w1]) (st := [v0, v1]) dX9_grafts_301 kc_7_338 rfl rfl (Nat.le_of_ble_eq_true rfl)
theorem sX9_grafts_301_3 : ab_X rom K cX9_grafts 7 1 301 ls [w1, .ref a, v0, v1, v2] hp = if ab_iso hp a 7 = true then (K 139 (.ref a :: [w1]) hp).bind (fun o => ab_X rom K cX9_grafts 7 1 304 ls (o.1.toList ++ [v0, v1, v2]) o.2) else none := ay_virtual (as := [w1]) (st := [v0, v1, v2]) dX9_grafts_301 kc_7_338 rfl rfl (Nat.le_of_ble_eq_true rfl)
theorem dX9_grafts_304 : decode cX9_grafts 304 = .ok (.aload_n 0, 1) := by decide +kernel
theorem sX9_grafts_304 : ab_X rom K cX9_grafts 7 1 304 (.ref a :: ls) st hp = ab_X rom K cX9_grafts 7 1 305 (.ref a :: ls) (.ref a :: st) hp := ax_aload_n dX9_grafts_304 rfl rfl
theorem dX9_grafts_305 : decode cX9_grafts 305 = .ok (.iload 4, 2) := by decide +kernel
theorem sX9_grafts_305 : ab_X rom K cX9_grafts 7 1 305 (v0 :: v1 :: v2 :: v3 :: .int x :: ls) st hp = ab_X rom K cX9_grafts 7 1 307 (v0 :: v1 :: v2 :: v3 :: .int x :: ls) (.int x :: st) hp := ax_iload dX9_grafts_305 rfl rfl
theorem dX9_grafts_307 : decode cX9_grafts 307 = .ok (.invokevirtual 94, 3) := by decide +kernel
theorem sX9_grafts_307_0 : ab_X rom K cX9_grafts 7 1 307 ls [w1, .ref a] hp = if ab_iso hp a 7 = true then (K 144 (.ref a :: [w1]) hp).bind (fun o => ab_X rom K cX9_grafts 7 1 310 ls (o.1.toList ++ []) o.2) else none := ay_virtual (as := [w1]) (st := []) dX9_grafts_307 kc_7_94 rfl rfl (Nat.le_of_ble_eq_true rfl)
theorem sX9_grafts_307_1 : ab_X rom K cX9_grafts 7 1 307 ls [w1, .ref a, v0] hp = if ab_iso hp a 7 = true then (K 144 (.ref a :: [w1]) hp).bind (fun o => ab_X rom K cX9_grafts 7 1 310 ls (o.1.toList ++ [v0]) o.2) else none := ay_virtual (as := [w1]) (st := [v0]) dX9_grafts_307 kc_7_94 rfl rfl (Nat.le_of_ble_eq_true rfl)
theorem sX9_grafts_307_2 : ab_X rom K cX9_grafts 7 1 307 ls [w1, .ref a, v0, v1] hp = if ab_iso hp a 7 = true then (K 144 (.ref a :: [w1]) hp).bind (fun o => ab_X rom K cX9_grafts 7 1 310 ls (o.1.toList ++ [v0, v1]) o.2) else none := ay_virtual (as := [w1]) (st := [v0, v1]) dX9_grafts_307 kc_7_94 rfl rfl (Nat.le_of_ble_eq_true rfl)
theorem sX9_grafts_307_3 : ab_X rom K cX9_grafts 7 1 307 ls [w1, .ref a, v0, v1, v2] hp = if ab_iso hp a 7 = true then (K 144 (.ref a :: [w1]) hp).bind (fun o => ab_X rom K cX9_grafts 7 1 310 ls (o.1.toList ++ [v0, v1, v2]) o.2) else none := ay_virtual (as := [w1]) (st := [v0, v1, v2]) dX9_grafts_307 kc_7_94 rfl rfl (Nat.le_of_ble_eq_true rfl)
theorem dX9_grafts_310 : decode cX9_grafts 310 = .ok (.ireturn, 1) := by decide +kernel
theorem sX9_grafts_310 : ab_X rom K cX9_grafts 7 1 310 ls [.int x] hp = some (some (.int x), hp) := ax_iret dX9_grafts_310 rfl
theorem tX9_has : ab_mT[156]? = some (yX9_has, cX9_has, 2, 2, 7) := by decide +kernel
theorem mX9_has {d : Nat} {x0 : Int32} {x1 : Int32} : ab_M rom (d + 1) 156 [.int x0, .int x1] hp = ab_X rom (ab_M rom d) cX9_has 7 2 0 [.int x0, .int x1] [] hp := ab_M_eq tX9_has (Nat.le_of_ble_eq_true rfl)
theorem dX9_has_0 : decode cX9_has 0 = .ok (.iload_n 0, 1) := by decide +kernel
theorem sX9_has_0 : ab_X rom K cX9_has 7 2 0 (.int x :: ls) st hp = ab_X rom K cX9_has 7 2 1 (.int x :: ls) (.int x :: st) hp := ax_iload_n dX9_has_0 rfl rfl
theorem dX9_has_1 : decode cX9_has 1 = .ok (.iload_n 1, 1) := by decide +kernel
theorem sX9_has_1 : ab_X rom K cX9_has 7 2 1 (v0 :: .int x :: ls) st hp = ab_X rom K cX9_has 7 2 2 (v0 :: .int x :: ls) (.int x :: st) hp := ax_iload_n dX9_has_1 rfl rfl
theorem dX9_has_2 : decode cX9_has 2 = .ok (.ishr, 1) := by decide +kernel
theorem sX9_has_2 : ab_X rom K cX9_has 7 2 2 ls (.int y :: .int x :: st) hp = ab_X rom K cX9_has 7 2 3 ls (.int (x >>> (y &&& 31)) :: st) hp := ax_ishr dX9_has_2 rfl
theorem dX9_has_3 : decode cX9_has 3 = .ok (.iconst 1, 1) := by decide +kernel
theorem sX9_has_3 : ab_X rom K cX9_has 7 2 3 ls st hp = ab_X rom K cX9_has 7 2 4 ls (.int 1 :: st) hp := ax_iconst dX9_has_3 (by decide) rfl
theorem dX9_has_4 : decode cX9_has 4 = .ok (.iand, 1) := by decide +kernel
theorem sX9_has_4 : ab_X rom K cX9_has 7 2 4 ls (.int y :: .int x :: st) hp = ab_X rom K cX9_has 7 2 5 ls (.int (x &&& y) :: st) hp := ax_iand dX9_has_4 rfl
theorem dX9_has_5 : decode cX9_has 5 = .ok (.iconst 1, 1) := by decide +kernel
theorem sX9_has_5 : ab_X rom K cX9_has 7 2 5 ls st hp = ab_X rom K cX9_has 7 2 6 ls (.int 1 :: st) hp := ax_iconst dX9_has_5 (by decide) rfl
theorem dX9_has_6 : decode cX9_has 6 = .ok (.if_icmp .ne 7, 3) := by decide +kernel
theorem sX9_has_6 : ab_X rom K cX9_has 7 2 6 ls (.int y :: .int x :: st) hp = if x = y then ab_X rom K cX9_has 7 2 9 ls st hp else ab_X rom K cX9_has 7 2 13 ls st hp := ax_icmp_ne dX9_has_6 (by decide) rfl
theorem dX9_has_9 : decode cX9_has 9 = .ok (.iconst 1, 1) := by decide +kernel
theorem sX9_has_9 : ab_X rom K cX9_has 7 2 9 ls st hp = ab_X rom K cX9_has 7 2 10 ls (.int 1 :: st) hp := ax_iconst dX9_has_9 (by decide) rfl
theorem dX9_has_10 : decode cX9_has 10 = .ok (.goto 4, 3) := by decide +kernel
theorem sX9_has_10 : ab_X rom K cX9_has 7 2 10 ls st hp = ab_X rom K cX9_has 7 2 14 ls st hp := ax_goto dX9_has_10 (by decide)
theorem dX9_has_13 : decode cX9_has 13 = .ok (.iconst 0, 1) := by decide +kernel
theorem sX9_has_13 : ab_X rom K cX9_has 7 2 13 ls st hp = ab_X rom K cX9_has 7 2 14 ls (.int 0 :: st) hp := ax_iconst dX9_has_13 (by decide) rfl
theorem dX9_has_14 : decode cX9_has 14 = .ok (.ireturn, 1) := by decide +kernel
theorem sX9_has_14 : ab_X rom K cX9_has 7 2 14 ls [.int x] hp = if x = 0 ∨ x = 1 then some (some (.int x), hp) else none := ay_zret dX9_has_14 rfl
theorem tX9_here : ab_mT[157]? = some (yX9_here, cX9_here, 3, 1, 7) := by decide +kernel
theorem mX9_here {d : Nat} {a0 : Nat} {x0 : Int32} {x1 : Int32} : ab_M rom (d + 1) 157 [.ref a0, .int x0, .int x1] hp = ab_X rom (ab_M rom d) cX9_here 7 1 0 [.ref a0, .int x0, .int x1] [] hp := ab_M_eq tX9_here (Nat.le_of_ble_eq_true rfl)
theorem dX9_here_0 : decode cX9_here 0 = .ok (.aload_n 0, 1) := by decide +kernel
theorem sX9_here_0 : ab_X rom K cX9_here 7 1 0 (.ref a :: ls) st hp = ab_X rom K cX9_here 7 1 1 (.ref a :: ls) (.ref a :: st) hp := ax_aload_n dX9_here_0 rfl rfl
theorem dX9_here_1 : decode cX9_here 1 = .ok (.getfield 112, 3) := by decide +kernel
theorem sX9_here_1 : ab_X rom K cX9_here 7 1 1 ls (.ref a :: st) hp = (ab_fld hp a 7 10).bind (fun v => ab_X rom K cX9_here 7 1 4 ls (v :: st) hp) := ax_getfield dX9_here_1 kf_7_112 rfl
theorem dX9_here_4 : decode cX9_here 4 = .ok (.iconst 2, 1) := by decide +kernel
theorem sX9_here_4 : ab_X rom K cX9_here 7 1 4 ls st hp = ab_X rom K cX9_here 7 1 5 ls (.int 2 :: st) hp := ax_iconst dX9_here_4 (by decide) rfl
theorem dX9_here_5 : decode cX9_here 5 = .ok (.if_icmp .eq 11, 3) := by decide +kernel
theorem sX9_here_5 : ab_X rom K cX9_here 7 1 5 ls (.int y :: .int x :: st) hp = if x = y then ab_X rom K cX9_here 7 1 16 ls st hp else ab_X rom K cX9_here 7 1 8 ls st hp := ax_icmp_eq dX9_here_5 (by decide) rfl
theorem dX9_here_8 : decode cX9_here 8 = .ok (.aload_n 0, 1) := by decide +kernel
theorem sX9_here_8 : ab_X rom K cX9_here 7 1 8 (.ref a :: ls) st hp = ab_X rom K cX9_here 7 1 9 (.ref a :: ls) (.ref a :: st) hp := ax_aload_n dX9_here_8 rfl rfl
theorem dX9_here_9 : decode cX9_here 9 = .ok (.iconst 1, 1) := by decide +kernel
theorem sX9_here_9 : ab_X rom K cX9_here 7 1 9 ls st hp = ab_X rom K cX9_here 7 1 10 ls (.int 1 :: st) hp := ax_iconst dX9_here_9 (by decide) rfl
theorem dX9_here_10 : decode cX9_here 10 = .ok (.invokevirtual 130, 3) := by decide +kernel
theorem sX9_here_10_0 : ab_X rom K cX9_here 7 1 10 ls [w1, .ref a] hp = if ab_iso hp a 7 = true then (K 152 (.ref a :: [w1]) hp).bind (fun o => ab_X rom K cX9_here 7 1 13 ls (o.1.toList ++ []) o.2) else none := ay_virtual (as := [w1]) (st := []) dX9_here_10 kc_7_130 rfl rfl (Nat.le_of_ble_eq_true rfl)
theorem sX9_here_10_1 : ab_X rom K cX9_here 7 1 10 ls [w1, .ref a, v0] hp = if ab_iso hp a 7 = true then (K 152 (.ref a :: [w1]) hp).bind (fun o => ab_X rom K cX9_here 7 1 13 ls (o.1.toList ++ [v0]) o.2) else none := ay_virtual (as := [w1]) (st := [v0]) dX9_here_10 kc_7_130 rfl rfl (Nat.le_of_ble_eq_true rfl)
theorem sX9_here_10_2 : ab_X rom K cX9_here 7 1 10 ls [w1, .ref a, v0, v1] hp = if ab_iso hp a 7 = true then (K 152 (.ref a :: [w1]) hp).bind (fun o => ab_X rom K cX9_here 7 1 13 ls (o.1.toList ++ [v0, v1]) o.2) else none := ay_virtual (as := [w1]) (st := [v0, v1]) dX9_here_10 kc_7_130 rfl rfl (Nat.le_of_ble_eq_true rfl)
theorem sX9_here_10_3 : ab_X rom K cX9_here 7 1 10 ls [w1, .ref a, v0, v1, v2] hp = if ab_iso hp a 7 = true then (K 152 (.ref a :: [w1]) hp).bind (fun o => ab_X rom K cX9_here 7 1 13 ls (o.1.toList ++ [v0, v1, v2]) o.2) else none := ay_virtual (as := [w1]) (st := [v0, v1, v2]) dX9_here_10 kc_7_130 rfl rfl (Nat.le_of_ble_eq_true rfl)
theorem dX9_here_13 : decode cX9_here 13 = .ok (.goto 23, 3) := by decide +kernel
theorem sX9_here_13 : ab_X rom K cX9_here 7 1 13 ls st hp = ab_X rom K cX9_here 7 1 36 ls st hp := ax_goto dX9_here_13 (by decide)
theorem dX9_here_16 : decode cX9_here 16 = .ok (.aload_n 0, 1) := by decide +kernel
theorem sX9_here_16 : ab_X rom K cX9_here 7 1 16 (.ref a :: ls) st hp = ab_X rom K cX9_here 7 1 17 (.ref a :: ls) (.ref a :: st) hp := ax_aload_n dX9_here_16 rfl rfl
theorem dX9_here_17 : decode cX9_here 17 = .ok (.getfield 109, 3) := by decide +kernel
theorem sX9_here_17 : ab_X rom K cX9_here 7 1 17 ls (.ref a :: st) hp = (ab_fld hp a 7 11).bind (fun v => ab_X rom K cX9_here 7 1 20 ls (v :: st) hp) := ax_getfield dX9_here_17 kf_7_109 rfl
theorem dX9_here_20 : decode cX9_here 20 = .ok (.i2l, 1) := by decide +kernel
theorem sX9_here_20 : ab_X rom K cX9_here 7 1 20 ls (.int x :: st) hp = ab_X rom K cX9_here 7 1 21 ls (.long x.toInt64 :: st) hp := ax_i2l dX9_here_20 rfl
theorem dX9_here_21 : decode cX9_here 21 = .ok (.iload_n 1, 1) := by decide +kernel
theorem sX9_here_21 : ab_X rom K cX9_here 7 1 21 (v0 :: .int x :: ls) st hp = ab_X rom K cX9_here 7 1 22 (v0 :: .int x :: ls) (.int x :: st) hp := ax_iload_n dX9_here_21 rfl rfl
theorem dX9_here_22 : decode cX9_here 22 = .ok (.i2l, 1) := by decide +kernel
theorem sX9_here_22 : ab_X rom K cX9_here 7 1 22 ls (.int x :: st) hp = ab_X rom K cX9_here 7 1 23 ls (.long x.toInt64 :: st) hp := ax_i2l dX9_here_22 rfl
theorem dX9_here_23 : decode cX9_here 23 = .ok (.iload_n 2, 1) := by decide +kernel
theorem sX9_here_23 : ab_X rom K cX9_here 7 1 23 (v0 :: v1 :: .int x :: ls) st hp = ab_X rom K cX9_here 7 1 24 (v0 :: v1 :: .int x :: ls) (.int x :: st) hp := ax_iload_n dX9_here_23 rfl rfl
theorem dX9_here_24 : decode cX9_here 24 = .ok (.i2l, 1) := by decide +kernel
theorem sX9_here_24 : ab_X rom K cX9_here 7 1 24 ls (.int x :: st) hp = ab_X rom K cX9_here 7 1 25 ls (.long x.toInt64 :: st) hp := ax_i2l dX9_here_24 rfl
theorem dX9_here_25 : decode cX9_here 25 = .ok (.invokestatic 56, 3) := by decide +kernel
theorem sX9_here_25_0 : ab_X rom K cX9_here 7 1 25 ls [w3, w2, w1] hp = (K 159 [w1, w2, w3] hp).bind (fun o => ab_X rom K cX9_here 7 1 28 ls (o.1.toList ++ []) o.2) := ax_static (as := [w1, w2, w3]) (st := []) dX9_here_25 kc_7_56 rfl rfl (Nat.le_of_ble_eq_true rfl)
theorem sX9_here_25_1 : ab_X rom K cX9_here 7 1 25 ls [w3, w2, w1, v0] hp = (K 159 [w1, w2, w3] hp).bind (fun o => ab_X rom K cX9_here 7 1 28 ls (o.1.toList ++ [v0]) o.2) := ax_static (as := [w1, w2, w3]) (st := [v0]) dX9_here_25 kc_7_56 rfl rfl (Nat.le_of_ble_eq_true rfl)
theorem sX9_here_25_2 : ab_X rom K cX9_here 7 1 25 ls [w3, w2, w1, v0, v1] hp = (K 159 [w1, w2, w3] hp).bind (fun o => ab_X rom K cX9_here 7 1 28 ls (o.1.toList ++ [v0, v1]) o.2) := ax_static (as := [w1, w2, w3]) (st := [v0, v1]) dX9_here_25 kc_7_56 rfl rfl (Nat.le_of_ble_eq_true rfl)
theorem sX9_here_25_3 : ab_X rom K cX9_here 7 1 25 ls [w3, w2, w1, v0, v1, v2] hp = (K 159 [w1, w2, w3] hp).bind (fun o => ab_X rom K cX9_here 7 1 28 ls (o.1.toList ++ [v0, v1, v2]) o.2) := ax_static (as := [w1, w2, w3]) (st := [v0, v1, v2]) dX9_here_25 kc_7_56 rfl rfl (Nat.le_of_ble_eq_true rfl)
theorem dX9_here_28 : decode cX9_here 28 = .ok (.ifCond .ne 8, 3) := by decide +kernel
theorem sX9_here_28 : ab_X rom K cX9_here 7 1 28 ls (.int x :: st) hp = if x = 0 then ab_X rom K cX9_here 7 1 31 ls st hp else ab_X rom K cX9_here 7 1 36 ls st hp := ax_if_ne dX9_here_28 (by decide) rfl
theorem dX9_here_31 : decode cX9_here 31 = .ok (.aload_n 0, 1) := by decide +kernel
theorem sX9_here_31 : ab_X rom K cX9_here 7 1 31 (.ref a :: ls) st hp = ab_X rom K cX9_here 7 1 32 (.ref a :: ls) (.ref a :: st) hp := ax_aload_n dX9_here_31 rfl rfl
theorem dX9_here_32 : decode cX9_here 32 = .ok (.iconst 2, 1) := by decide +kernel
theorem sX9_here_32 : ab_X rom K cX9_here 7 1 32 ls st hp = ab_X rom K cX9_here 7 1 33 ls (.int 2 :: st) hp := ax_iconst dX9_here_32 (by decide) rfl
theorem dX9_here_33 : decode cX9_here 33 = .ok (.invokevirtual 130, 3) := by decide +kernel
theorem sX9_here_33_0 : ab_X rom K cX9_here 7 1 33 ls [w1, .ref a] hp = if ab_iso hp a 7 = true then (K 152 (.ref a :: [w1]) hp).bind (fun o => ab_X rom K cX9_here 7 1 36 ls (o.1.toList ++ []) o.2) else none := ay_virtual (as := [w1]) (st := []) dX9_here_33 kc_7_130 rfl rfl (Nat.le_of_ble_eq_true rfl)
theorem sX9_here_33_1 : ab_X rom K cX9_here 7 1 33 ls [w1, .ref a, v0] hp = if ab_iso hp a 7 = true then (K 152 (.ref a :: [w1]) hp).bind (fun o => ab_X rom K cX9_here 7 1 36 ls (o.1.toList ++ [v0]) o.2) else none := ay_virtual (as := [w1]) (st := [v0]) dX9_here_33 kc_7_130 rfl rfl (Nat.le_of_ble_eq_true rfl)
theorem sX9_here_33_2 : ab_X rom K cX9_here 7 1 33 ls [w1, .ref a, v0, v1] hp = if ab_iso hp a 7 = true then (K 152 (.ref a :: [w1]) hp).bind (fun o => ab_X rom K cX9_here 7 1 36 ls (o.1.toList ++ [v0, v1]) o.2) else none := ay_virtual (as := [w1]) (st := [v0, v1]) dX9_here_33 kc_7_130 rfl rfl (Nat.le_of_ble_eq_true rfl)
theorem sX9_here_33_3 : ab_X rom K cX9_here 7 1 33 ls [w1, .ref a, v0, v1, v2] hp = if ab_iso hp a 7 = true then (K 152 (.ref a :: [w1]) hp).bind (fun o => ab_X rom K cX9_here 7 1 36 ls (o.1.toList ++ [v0, v1, v2]) o.2) else none := ay_virtual (as := [w1]) (st := [v0, v1, v2]) dX9_here_33 kc_7_130 rfl rfl (Nat.le_of_ble_eq_true rfl)
theorem dX9_here_36 : decode cX9_here 36 = .ok (.aload_n 0, 1) := by decide +kernel
theorem sX9_here_36 : ab_X rom K cX9_here 7 1 36 (.ref a :: ls) st hp = ab_X rom K cX9_here 7 1 37 (.ref a :: ls) (.ref a :: st) hp := ax_aload_n dX9_here_36 rfl rfl
theorem dX9_here_37 : decode cX9_here 37 = .ok (.getfield 120, 3) := by decide +kernel
theorem sX9_here_37 : ab_X rom K cX9_here 7 1 37 ls (.ref a :: st) hp = (ab_fld hp a 7 12).bind (fun v => ab_X rom K cX9_here 7 1 40 ls (v :: st) hp) := ax_getfield dX9_here_37 kf_7_120 rfl
theorem dX9_here_40 : decode cX9_here 40 = .ok (.ifCond .eq 7, 3) := by decide +kernel
theorem sX9_here_40 : ab_X rom K cX9_here 7 1 40 ls (.int x :: st) hp = if x = 0 then ab_X rom K cX9_here 7 1 47 ls st hp else ab_X rom K cX9_here 7 1 43 ls st hp := ax_if_eq dX9_here_40 (by decide) rfl
theorem dX9_here_43 : decode cX9_here 43 = .ok (.iload_n 1, 1) := by decide +kernel
theorem sX9_here_43 : ab_X rom K cX9_here 7 1 43 (v0 :: .int x :: ls) st hp = ab_X rom K cX9_here 7 1 44 (v0 :: .int x :: ls) (.int x :: st) hp := ax_iload_n dX9_here_43 rfl rfl
theorem dX9_here_44 : decode cX9_here 44 = .ok (.goto 7, 3) := by decide +kernel
theorem sX9_here_44 : ab_X rom K cX9_here 7 1 44 ls st hp = ab_X rom K cX9_here 7 1 51 ls st hp := ax_goto dX9_here_44 (by decide)
theorem dX9_here_47 : decode cX9_here 47 = .ok (.aload_n 0, 1) := by decide +kernel
theorem sX9_here_47 : ab_X rom K cX9_here 7 1 47 (.ref a :: ls) st hp = ab_X rom K cX9_here 7 1 48 (.ref a :: ls) (.ref a :: st) hp := ax_aload_n dX9_here_47 rfl rfl
theorem dX9_here_48 : decode cX9_here 48 = .ok (.getfield 109, 3) := by decide +kernel
theorem sX9_here_48 : ab_X rom K cX9_here 7 1 48 ls (.ref a :: st) hp = (ab_fld hp a 7 11).bind (fun v => ab_X rom K cX9_here 7 1 51 ls (v :: st) hp) := ax_getfield dX9_here_48 kf_7_109 rfl
theorem dX9_here_51 : decode cX9_here 51 = .ok (.ireturn, 1) := by decide +kernel
theorem sX9_here_51 : ab_X rom K cX9_here 7 1 51 ls [.int x] hp = some (some (.int x), hp) := ax_iret dX9_here_51 rfl
theorem tX9_hint : ab_mT[158]? = some (yX9_hint, cX9_hint, 6, 1, 7) := by decide +kernel
theorem mX9_hint {d : Nat} {a0 : Nat} {x0 : Int32} {x1 : Int32} : ab_M rom (d + 1) 158 [.ref a0, .int x0, .int x1] hp = ab_X rom (ab_M rom d) cX9_hint 7 1 0 [.ref a0, .int x0, .int x1, .null, .null, .null] [] hp := ab_M_eq tX9_hint (Nat.le_of_ble_eq_true rfl)
theorem dX9_hint_0 : decode cX9_hint 0 = .ok (.aload_n 0, 1) := by decide +kernel
theorem sX9_hint_0 : ab_X rom K cX9_hint 7 1 0 (.ref a :: ls) st hp = ab_X rom K cX9_hint 7 1 1 (.ref a :: ls) (.ref a :: st) hp := ax_aload_n dX9_hint_0 rfl rfl
theorem dX9_hint_1 : decode cX9_hint 1 = .ok (.iload_n 1, 1) := by decide +kernel
theorem sX9_hint_1 : ab_X rom K cX9_hint 7 1 1 (v0 :: .int x :: ls) st hp = ab_X rom K cX9_hint 7 1 2 (v0 :: .int x :: ls) (.int x :: st) hp := ax_iload_n dX9_hint_1 rfl rfl
theorem dX9_hint_2 : decode cX9_hint 2 = .ok (.invokevirtual 68, 3) := by decide +kernel
theorem sX9_hint_2_0 : ab_X rom K cX9_hint 7 1 2 ls [w1, .ref a] hp = if ab_iso hp a 7 = true then (K 171 (.ref a :: [w1]) hp).bind (fun o => ab_X rom K cX9_hint 7 1 5 ls (o.1.toList ++ []) o.2) else none := ay_virtual (as := [w1]) (st := []) dX9_hint_2 kc_7_68 rfl rfl (Nat.le_of_ble_eq_true rfl)
theorem sX9_hint_2_1 : ab_X rom K cX9_hint 7 1 2 ls [w1, .ref a, v0] hp = if ab_iso hp a 7 = true then (K 171 (.ref a :: [w1]) hp).bind (fun o => ab_X rom K cX9_hint 7 1 5 ls (o.1.toList ++ [v0]) o.2) else none := ay_virtual (as := [w1]) (st := [v0]) dX9_hint_2 kc_7_68 rfl rfl (Nat.le_of_ble_eq_true rfl)
theorem sX9_hint_2_2 : ab_X rom K cX9_hint 7 1 2 ls [w1, .ref a, v0, v1] hp = if ab_iso hp a 7 = true then (K 171 (.ref a :: [w1]) hp).bind (fun o => ab_X rom K cX9_hint 7 1 5 ls (o.1.toList ++ [v0, v1]) o.2) else none := ay_virtual (as := [w1]) (st := [v0, v1]) dX9_hint_2 kc_7_68 rfl rfl (Nat.le_of_ble_eq_true rfl)
theorem sX9_hint_2_3 : ab_X rom K cX9_hint 7 1 2 ls [w1, .ref a, v0, v1, v2] hp = if ab_iso hp a 7 = true then (K 171 (.ref a :: [w1]) hp).bind (fun o => ab_X rom K cX9_hint 7 1 5 ls (o.1.toList ++ [v0, v1, v2]) o.2) else none := ay_virtual (as := [w1]) (st := [v0, v1, v2]) dX9_hint_2 kc_7_68 rfl rfl (Nat.le_of_ble_eq_true rfl)
theorem dX9_hint_5 : decode cX9_hint 5 = .ok (.ifCond .eq 10, 3) := by decide +kernel
theorem sX9_hint_5 : ab_X rom K cX9_hint 7 1 5 ls (.int x :: st) hp = if x = 0 then ab_X rom K cX9_hint 7 1 15 ls st hp else ab_X rom K cX9_hint 7 1 8 ls st hp := ax_if_eq dX9_hint_5 (by decide) rfl
theorem dX9_hint_8 : decode cX9_hint 8 = .ok (.iload_n 2, 1) := by decide +kernel
theorem sX9_hint_8 : ab_X rom K cX9_hint 7 1 8 (v0 :: v1 :: .int x :: ls) st hp = ab_X rom K cX9_hint 7 1 9 (v0 :: v1 :: .int x :: ls) (.int x :: st) hp := ax_iload_n dX9_hint_8 rfl rfl
theorem dX9_hint_9 : decode cX9_hint 9 = .ok (.invokestatic 278, 3) := by decide +kernel
theorem sX9_hint_9_0 : ab_X rom K cX9_hint 7 1 9 ls [w1] hp = (K 168 [w1] hp).bind (fun o => ab_X rom K cX9_hint 7 1 12 ls (o.1.toList ++ []) o.2) := ax_static (as := [w1]) (st := []) dX9_hint_9 kc_7_278 rfl rfl (Nat.le_of_ble_eq_true rfl)
theorem sX9_hint_9_1 : ab_X rom K cX9_hint 7 1 9 ls [w1, v0] hp = (K 168 [w1] hp).bind (fun o => ab_X rom K cX9_hint 7 1 12 ls (o.1.toList ++ [v0]) o.2) := ax_static (as := [w1]) (st := [v0]) dX9_hint_9 kc_7_278 rfl rfl (Nat.le_of_ble_eq_true rfl)
theorem sX9_hint_9_2 : ab_X rom K cX9_hint 7 1 9 ls [w1, v0, v1] hp = (K 168 [w1] hp).bind (fun o => ab_X rom K cX9_hint 7 1 12 ls (o.1.toList ++ [v0, v1]) o.2) := ax_static (as := [w1]) (st := [v0, v1]) dX9_hint_9 kc_7_278 rfl rfl (Nat.le_of_ble_eq_true rfl)
theorem sX9_hint_9_3 : ab_X rom K cX9_hint 7 1 9 ls [w1, v0, v1, v2] hp = (K 168 [w1] hp).bind (fun o => ab_X rom K cX9_hint 7 1 12 ls (o.1.toList ++ [v0, v1, v2]) o.2) := ax_static (as := [w1]) (st := [v0, v1, v2]) dX9_hint_9 kc_7_278 rfl rfl (Nat.le_of_ble_eq_true rfl)
theorem dX9_hint_12 : decode cX9_hint 12 = .ok (.ifCond .ne 6, 3) := by decide +kernel
theorem sX9_hint_12 : ab_X rom K cX9_hint 7 1 12 ls (.int x :: st) hp = if x = 0 then ab_X rom K cX9_hint 7 1 15 ls st hp else ab_X rom K cX9_hint 7 1 18 ls st hp := ax_if_ne dX9_hint_12 (by decide) rfl
theorem dX9_hint_15 : decode cX9_hint 15 = .ok (.bipush (-2), 2) := by decide +kernel
theorem sX9_hint_15 : ab_X rom K cX9_hint 7 1 15 ls st hp = ab_X rom K cX9_hint 7 1 17 ls (.int (-2) :: st) hp := ax_bipush dX9_hint_15 (by decide) rfl
theorem dX9_hint_17 : decode cX9_hint 17 = .ok (.ireturn, 1) := by decide +kernel
theorem sX9_hint_17 : ab_X rom K cX9_hint 7 1 17 ls [.int x] hp = some (some (.int x), hp) := ax_iret dX9_hint_17 rfl
theorem dX9_hint_18 : decode cX9_hint 18 = .ok (.aload_n 0, 1) := by decide +kernel
theorem sX9_hint_18 : ab_X rom K cX9_hint 7 1 18 (.ref a :: ls) st hp = ab_X rom K cX9_hint 7 1 19 (.ref a :: ls) (.ref a :: st) hp := ax_aload_n dX9_hint_18 rfl rfl
theorem dX9_hint_19 : decode cX9_hint 19 = .ok (.iload_n 1, 1) := by decide +kernel
theorem sX9_hint_19 : ab_X rom K cX9_hint 7 1 19 (v0 :: .int x :: ls) st hp = ab_X rom K cX9_hint 7 1 20 (v0 :: .int x :: ls) (.int x :: st) hp := ax_iload_n dX9_hint_19 rfl rfl
theorem dX9_hint_20 : decode cX9_hint 20 = .ok (.iload_n 2, 1) := by decide +kernel
theorem sX9_hint_20 : ab_X rom K cX9_hint 7 1 20 (v0 :: v1 :: .int x :: ls) st hp = ab_X rom K cX9_hint 7 1 21 (v0 :: v1 :: .int x :: ls) (.int x :: st) hp := ax_iload_n dX9_hint_20 rfl rfl
theorem dX9_hint_21 : decode cX9_hint 21 = .ok (.bipush 127, 2) := by decide +kernel
theorem sX9_hint_21 : ab_X rom K cX9_hint 7 1 21 ls st hp = ab_X rom K cX9_hint 7 1 23 ls (.int 127 :: st) hp := ax_bipush dX9_hint_21 (by decide) rfl
theorem dX9_hint_23 : decode cX9_hint 23 = .ok (.iconst 0, 1) := by decide +kernel
theorem sX9_hint_23 : ab_X rom K cX9_hint 7 1 23 ls st hp = ab_X rom K cX9_hint 7 1 24 ls (.int 0 :: st) hp := ax_iconst dX9_hint_23 (by decide) rfl
theorem dX9_hint_24 : decode cX9_hint 24 = .ok (.invokevirtual 302, 3) := by decide +kernel
theorem sX9_hint_24_0 : ab_X rom K cX9_hint 7 1 24 ls [w4, w3, w2, w1, .ref a] hp = if ab_iso hp a 7 = true then (K 221 (.ref a :: [w1, w2, w3, w4]) hp).bind (fun o => ab_X rom K cX9_hint 7 1 27 ls (o.1.toList ++ []) o.2) else none := ay_virtual (as := [w1, w2, w3, w4]) (st := []) dX9_hint_24 kc_7_302 rfl rfl (Nat.le_of_ble_eq_true rfl)
theorem sX9_hint_24_1 : ab_X rom K cX9_hint 7 1 24 ls [w4, w3, w2, w1, .ref a, v0] hp = if ab_iso hp a 7 = true then (K 221 (.ref a :: [w1, w2, w3, w4]) hp).bind (fun o => ab_X rom K cX9_hint 7 1 27 ls (o.1.toList ++ [v0]) o.2) else none := ay_virtual (as := [w1, w2, w3, w4]) (st := [v0]) dX9_hint_24 kc_7_302 rfl rfl (Nat.le_of_ble_eq_true rfl)
theorem sX9_hint_24_2 : ab_X rom K cX9_hint 7 1 24 ls [w4, w3, w2, w1, .ref a, v0, v1] hp = if ab_iso hp a 7 = true then (K 221 (.ref a :: [w1, w2, w3, w4]) hp).bind (fun o => ab_X rom K cX9_hint 7 1 27 ls (o.1.toList ++ [v0, v1]) o.2) else none := ay_virtual (as := [w1, w2, w3, w4]) (st := [v0, v1]) dX9_hint_24 kc_7_302 rfl rfl (Nat.le_of_ble_eq_true rfl)
theorem sX9_hint_24_3 : ab_X rom K cX9_hint 7 1 24 ls [w4, w3, w2, w1, .ref a, v0, v1, v2] hp = if ab_iso hp a 7 = true then (K 221 (.ref a :: [w1, w2, w3, w4]) hp).bind (fun o => ab_X rom K cX9_hint 7 1 27 ls (o.1.toList ++ [v0, v1, v2]) o.2) else none := ay_virtual (as := [w1, w2, w3, w4]) (st := [v0, v1, v2]) dX9_hint_24 kc_7_302 rfl rfl (Nat.le_of_ble_eq_true rfl)
theorem dX9_hint_27 : decode cX9_hint 27 = .ok (.istore_n 3, 1) := by decide +kernel
theorem sX9_hint_27i : ab_X rom K cX9_hint 7 1 27 (v0 :: v1 :: .int y :: v3 :: ls) (.int x :: st) hp = ab_X rom K cX9_hint 7 1 28 (v0 :: v1 :: .int y :: .int x :: ls) st hp := ax_istore_n dX9_hint_27 (ax_lt (v := v3) rfl) (ab_nl_c1 (j := 2) (v := .int y) rfl (ab_c1_int _)) rfl rfl
theorem sX9_hint_27r : ab_X rom K cX9_hint 7 1 27 (v0 :: v1 :: .ref a2 :: v3 :: ls) (.int x :: st) hp = ab_X rom K cX9_hint 7 1 28 (v0 :: v1 :: .ref a2 :: .int x :: ls) st hp := ax_istore_n dX9_hint_27 (ax_lt (v := v3) rfl) (ab_nl_c1 (j := 2) (v := .ref a2) rfl (ab_c1_ref _)) rfl rfl
theorem sX9_hint_27n : ab_X rom K cX9_hint 7 1 27 (v0 :: v1 :: .null :: v3 :: ls) (.int x :: st) hp = ab_X rom K cX9_hint 7 1 28 (v0 :: v1 :: .null :: .int x :: ls) st hp := ax_istore_n dX9_hint_27 (ax_lt (v := v3) rfl) (ab_nl_c1 (j := 2) (v := .null) rfl ab_c1_null) rfl rfl
theorem dX9_hint_28 : decode cX9_hint 28 = .ok (.iconst (-1), 1) := by decide +kernel
theorem sX9_hint_28 : ab_X rom K cX9_hint 7 1 28 ls st hp = ab_X rom K cX9_hint 7 1 29 ls (.int (-1) :: st) hp := ax_iconst dX9_hint_28 (by decide) rfl
theorem dX9_hint_29 : decode cX9_hint 29 = .ok (.istore 4, 2) := by decide +kernel
theorem sX9_hint_29i : ab_X rom K cX9_hint 7 1 29 (v0 :: v1 :: v2 :: .int y :: v4 :: ls) (.int x :: st) hp = ab_X rom K cX9_hint 7 1 31 (v0 :: v1 :: v2 :: .int y :: .int x :: ls) st hp := ax_istore dX9_hint_29 (ax_lt (v := v4) rfl) (ab_nl_c1 (j := 3) (v := .int y) rfl (ab_c1_int _)) rfl rfl
theorem sX9_hint_29r : ab_X rom K cX9_hint 7 1 29 (v0 :: v1 :: v2 :: .ref a2 :: v4 :: ls) (.int x :: st) hp = ab_X rom K cX9_hint 7 1 31 (v0 :: v1 :: v2 :: .ref a2 :: .int x :: ls) st hp := ax_istore dX9_hint_29 (ax_lt (v := v4) rfl) (ab_nl_c1 (j := 3) (v := .ref a2) rfl (ab_c1_ref _)) rfl rfl
theorem sX9_hint_29n : ab_X rom K cX9_hint 7 1 29 (v0 :: v1 :: v2 :: .null :: v4 :: ls) (.int x :: st) hp = ab_X rom K cX9_hint 7 1 31 (v0 :: v1 :: v2 :: .null :: .int x :: ls) st hp := ax_istore dX9_hint_29 (ax_lt (v := v4) rfl) (ab_nl_c1 (j := 3) (v := .null) rfl ab_c1_null) rfl rfl
theorem dX9_hint_31 : decode cX9_hint 31 = .ok (.iconst 0, 1) := by decide +kernel
theorem sX9_hint_31 : ab_X rom K cX9_hint 7 1 31 ls st hp = ab_X rom K cX9_hint 7 1 32 ls (.int 0 :: st) hp := ax_iconst dX9_hint_31 (by decide) rfl
theorem dX9_hint_32 : decode cX9_hint 32 = .ok (.istore 5, 2) := by decide +kernel
theorem sX9_hint_32i : ab_X rom K cX9_hint 7 1 32 (v0 :: v1 :: v2 :: v3 :: .int y :: v5 :: ls) (.int x :: st) hp = ab_X rom K cX9_hint 7 1 34 (v0 :: v1 :: v2 :: v3 :: .int y :: .int x :: ls) st hp := ax_istore dX9_hint_32 (ax_lt (v := v5) rfl) (ab_nl_c1 (j := 4) (v := .int y) rfl (ab_c1_int _)) rfl rfl
theorem sX9_hint_32r : ab_X rom K cX9_hint 7 1 32 (v0 :: v1 :: v2 :: v3 :: .ref a2 :: v5 :: ls) (.int x :: st) hp = ab_X rom K cX9_hint 7 1 34 (v0 :: v1 :: v2 :: v3 :: .ref a2 :: .int x :: ls) st hp := ax_istore dX9_hint_32 (ax_lt (v := v5) rfl) (ab_nl_c1 (j := 4) (v := .ref a2) rfl (ab_c1_ref _)) rfl rfl
theorem sX9_hint_32n : ab_X rom K cX9_hint 7 1 32 (v0 :: v1 :: v2 :: v3 :: .null :: v5 :: ls) (.int x :: st) hp = ab_X rom K cX9_hint 7 1 34 (v0 :: v1 :: v2 :: v3 :: .null :: .int x :: ls) st hp := ax_istore dX9_hint_32 (ax_lt (v := v5) rfl) (ab_nl_c1 (j := 4) (v := .null) rfl ab_c1_null) rfl rfl
theorem dX9_hint_34 : decode cX9_hint 34 = .ok (.iload 5, 2) := by decide +kernel
theorem sX9_hint_34 : ab_X rom K cX9_hint 7 1 34 (v0 :: v1 :: v2 :: v3 :: v4 :: .int x :: ls) st hp = ab_X rom K cX9_hint 7 1 36 (v0 :: v1 :: v2 :: v3 :: v4 :: .int x :: ls) (.int x :: st) hp := ax_iload dX9_hint_34 rfl rfl
theorem dX9_hint_36 : decode cX9_hint 36 = .ok (.aload_n 0, 1) := by decide +kernel
theorem sX9_hint_36 : ab_X rom K cX9_hint 7 1 36 (.ref a :: ls) st hp = ab_X rom K cX9_hint 7 1 37 (.ref a :: ls) (.ref a :: st) hp := ax_aload_n dX9_hint_36 rfl rfl
theorem dX9_hint_37 : decode cX9_hint 37 = .ok (.getfield 235, 3) := by decide +kernel
theorem sX9_hint_37 : ab_X rom K cX9_hint 7 1 37 ls (.ref a :: st) hp = (ab_fld hp a 7 17).bind (fun v => ab_X rom K cX9_hint 7 1 40 ls (v :: st) hp) := ax_getfield dX9_hint_37 kf_7_235 rfl
theorem dX9_hint_40 : decode cX9_hint 40 = .ok (.if_icmp .ge 52, 3) := by decide +kernel
theorem sX9_hint_40 : ab_X rom K cX9_hint 7 1 40 ls (.int y :: .int x :: st) hp = if x < y then ab_X rom K cX9_hint 7 1 43 ls st hp else ab_X rom K cX9_hint 7 1 92 ls st hp := ax_icmp_ge dX9_hint_40 (by decide) rfl
theorem dX9_hint_43 : decode cX9_hint 43 = .ok (.aload_n 0, 1) := by decide +kernel
theorem sX9_hint_43 : ab_X rom K cX9_hint 7 1 43 (.ref a :: ls) st hp = ab_X rom K cX9_hint 7 1 44 (.ref a :: ls) (.ref a :: st) hp := ax_aload_n dX9_hint_43 rfl rfl
theorem dX9_hint_44 : decode cX9_hint 44 = .ok (.iload_n 1, 1) := by decide +kernel
theorem sX9_hint_44 : ab_X rom K cX9_hint 7 1 44 (v0 :: .int x :: ls) st hp = ab_X rom K cX9_hint 7 1 45 (v0 :: .int x :: ls) (.int x :: st) hp := ax_iload_n dX9_hint_44 rfl rfl
theorem dX9_hint_45 : decode cX9_hint 45 = .ok (.iload 5, 2) := by decide +kernel
theorem sX9_hint_45 : ab_X rom K cX9_hint 7 1 45 (v0 :: v1 :: v2 :: v3 :: v4 :: .int x :: ls) st hp = ab_X rom K cX9_hint 7 1 47 (v0 :: v1 :: v2 :: v3 :: v4 :: .int x :: ls) (.int x :: st) hp := ax_iload dX9_hint_45 rfl rfl
theorem dX9_hint_47 : decode cX9_hint 47 = .ok (.invokevirtual 223, 3) := by decide +kernel
theorem sX9_hint_47_0 : ab_X rom K cX9_hint 7 1 47 ls [w2, w1, .ref a] hp = if ab_iso hp a 7 = true then (K 169 (.ref a :: [w1, w2]) hp).bind (fun o => ab_X rom K cX9_hint 7 1 50 ls (o.1.toList ++ []) o.2) else none := ay_virtual (as := [w1, w2]) (st := []) dX9_hint_47 kc_7_223 rfl rfl (Nat.le_of_ble_eq_true rfl)
theorem sX9_hint_47_1 : ab_X rom K cX9_hint 7 1 47 ls [w2, w1, .ref a, v0] hp = if ab_iso hp a 7 = true then (K 169 (.ref a :: [w1, w2]) hp).bind (fun o => ab_X rom K cX9_hint 7 1 50 ls (o.1.toList ++ [v0]) o.2) else none := ay_virtual (as := [w1, w2]) (st := [v0]) dX9_hint_47 kc_7_223 rfl rfl (Nat.le_of_ble_eq_true rfl)
theorem sX9_hint_47_2 : ab_X rom K cX9_hint 7 1 47 ls [w2, w1, .ref a, v0, v1] hp = if ab_iso hp a 7 = true then (K 169 (.ref a :: [w1, w2]) hp).bind (fun o => ab_X rom K cX9_hint 7 1 50 ls (o.1.toList ++ [v0, v1]) o.2) else none := ay_virtual (as := [w1, w2]) (st := [v0, v1]) dX9_hint_47 kc_7_223 rfl rfl (Nat.le_of_ble_eq_true rfl)
theorem sX9_hint_47_3 : ab_X rom K cX9_hint 7 1 47 ls [w2, w1, .ref a, v0, v1, v2] hp = if ab_iso hp a 7 = true then (K 169 (.ref a :: [w1, w2]) hp).bind (fun o => ab_X rom K cX9_hint 7 1 50 ls (o.1.toList ++ [v0, v1, v2]) o.2) else none := ay_virtual (as := [w1, w2]) (st := [v0, v1, v2]) dX9_hint_47 kc_7_223 rfl rfl (Nat.le_of_ble_eq_true rfl)
theorem dX9_hint_50 : decode cX9_hint 50 = .ok (.ifCond .ne 36, 3) := by decide +kernel
theorem sX9_hint_50 : ab_X rom K cX9_hint 7 1 50 ls (.int x :: st) hp = if x = 0 then ab_X rom K cX9_hint 7 1 53 ls st hp else ab_X rom K cX9_hint 7 1 86 ls st hp := ax_if_ne dX9_hint_50 (by decide) rfl
theorem dX9_hint_53 : decode cX9_hint 53 = .ok (.iload 4, 2) := by decide +kernel
theorem sX9_hint_53 : ab_X rom K cX9_hint 7 1 53 (v0 :: v1 :: v2 :: v3 :: .int x :: ls) st hp = ab_X rom K cX9_hint 7 1 55 (v0 :: v1 :: v2 :: v3 :: .int x :: ls) (.int x :: st) hp := ax_iload dX9_hint_53 rfl rfl
theorem dX9_hint_55 : decode cX9_hint 55 = .ok (.iconst (-1), 1) := by decide +kernel
theorem sX9_hint_55 : ab_X rom K cX9_hint 7 1 55 ls st hp = ab_X rom K cX9_hint 7 1 56 ls (.int (-1) :: st) hp := ax_iconst dX9_hint_55 (by decide) rfl
theorem dX9_hint_56 : decode cX9_hint 56 = .ok (.if_icmp .eq 26, 3) := by decide +kernel
theorem sX9_hint_56 : ab_X rom K cX9_hint 7 1 56 ls (.int y :: .int x :: st) hp = if x = y then ab_X rom K cX9_hint 7 1 82 ls st hp else ab_X rom K cX9_hint 7 1 59 ls st hp := ax_icmp_eq dX9_hint_56 (by decide) rfl
theorem dX9_hint_59 : decode cX9_hint 59 = .ok (.aload_n 0, 1) := by decide +kernel
theorem sX9_hint_59 : ab_X rom K cX9_hint 7 1 59 (.ref a :: ls) st hp = ab_X rom K cX9_hint 7 1 60 (.ref a :: ls) (.ref a :: st) hp := ax_aload_n dX9_hint_59 rfl rfl
theorem dX9_hint_60 : decode cX9_hint 60 = .ok (.getfield 38, 3) := by decide +kernel
theorem sX9_hint_60 : ab_X rom K cX9_hint 7 1 60 ls (.ref a :: st) hp = (ab_fld hp a 7 20).bind (fun v => ab_X rom K cX9_hint 7 1 63 ls (v :: st) hp) := ax_getfield dX9_hint_60 kf_7_38 rfl
theorem dX9_hint_63 : decode cX9_hint 63 = .ok (.iload 5, 2) := by decide +kernel
theorem sX9_hint_63 : ab_X rom K cX9_hint 7 1 63 (v0 :: v1 :: v2 :: v3 :: v4 :: .int x :: ls) st hp = ab_X rom K cX9_hint 7 1 65 (v0 :: v1 :: v2 :: v3 :: v4 :: .int x :: ls) (.int x :: st) hp := ax_iload dX9_hint_63 rfl rfl
theorem dX9_hint_65 : decode cX9_hint 65 = .ok (.iaload, 1) := by decide +kernel
theorem sX9_hint_65 : ab_X rom K cX9_hint 7 1 65 ls (.int x :: .ref a :: st) hp = (ab_ard rom 0 hp a x).bind (fun v => ab_X rom K cX9_hint 7 1 66 ls (.int v :: st) hp) := ax_iaload dX9_hint_65 rfl
theorem dX9_hint_66 : decode cX9_hint 66 = .ok (.invokestatic 81, 3) := by decide +kernel
theorem sX9_hint_66_0 : ab_X rom K cX9_hint 7 1 66 ls [w1] hp = (K 204 [w1] hp).bind (fun o => ab_X rom K cX9_hint 7 1 69 ls (o.1.toList ++ []) o.2) := ax_static (as := [w1]) (st := []) dX9_hint_66 kc_7_81 rfl rfl (Nat.le_of_ble_eq_true rfl)
theorem sX9_hint_66_1 : ab_X rom K cX9_hint 7 1 66 ls [w1, v0] hp = (K 204 [w1] hp).bind (fun o => ab_X rom K cX9_hint 7 1 69 ls (o.1.toList ++ [v0]) o.2) := ax_static (as := [w1]) (st := [v0]) dX9_hint_66 kc_7_81 rfl rfl (Nat.le_of_ble_eq_true rfl)
theorem sX9_hint_66_2 : ab_X rom K cX9_hint 7 1 66 ls [w1, v0, v1] hp = (K 204 [w1] hp).bind (fun o => ab_X rom K cX9_hint 7 1 69 ls (o.1.toList ++ [v0, v1]) o.2) := ax_static (as := [w1]) (st := [v0, v1]) dX9_hint_66 kc_7_81 rfl rfl (Nat.le_of_ble_eq_true rfl)
theorem sX9_hint_66_3 : ab_X rom K cX9_hint 7 1 66 ls [w1, v0, v1, v2] hp = (K 204 [w1] hp).bind (fun o => ab_X rom K cX9_hint 7 1 69 ls (o.1.toList ++ [v0, v1, v2]) o.2) := ax_static (as := [w1]) (st := [v0, v1, v2]) dX9_hint_66 kc_7_81 rfl rfl (Nat.le_of_ble_eq_true rfl)
theorem dX9_hint_69 : decode cX9_hint 69 = .ok (.aload_n 0, 1) := by decide +kernel
theorem sX9_hint_69 : ab_X rom K cX9_hint 7 1 69 (.ref a :: ls) st hp = ab_X rom K cX9_hint 7 1 70 (.ref a :: ls) (.ref a :: st) hp := ax_aload_n dX9_hint_69 rfl rfl
theorem dX9_hint_70 : decode cX9_hint 70 = .ok (.getfield 38, 3) := by decide +kernel
theorem sX9_hint_70 : ab_X rom K cX9_hint 7 1 70 ls (.ref a :: st) hp = (ab_fld hp a 7 20).bind (fun v => ab_X rom K cX9_hint 7 1 73 ls (v :: st) hp) := ax_getfield dX9_hint_70 kf_7_38 rfl
theorem dX9_hint_73 : decode cX9_hint 73 = .ok (.iload 4, 2) := by decide +kernel
theorem sX9_hint_73 : ab_X rom K cX9_hint 7 1 73 (v0 :: v1 :: v2 :: v3 :: .int x :: ls) st hp = ab_X rom K cX9_hint 7 1 75 (v0 :: v1 :: v2 :: v3 :: .int x :: ls) (.int x :: st) hp := ax_iload dX9_hint_73 rfl rfl
theorem dX9_hint_75 : decode cX9_hint 75 = .ok (.iaload, 1) := by decide +kernel
theorem sX9_hint_75 : ab_X rom K cX9_hint 7 1 75 ls (.int x :: .ref a :: st) hp = (ab_ard rom 0 hp a x).bind (fun v => ab_X rom K cX9_hint 7 1 76 ls (.int v :: st) hp) := ax_iaload dX9_hint_75 rfl
theorem dX9_hint_76 : decode cX9_hint 76 = .ok (.invokestatic 81, 3) := by decide +kernel
theorem sX9_hint_76_0 : ab_X rom K cX9_hint 7 1 76 ls [w1] hp = (K 204 [w1] hp).bind (fun o => ab_X rom K cX9_hint 7 1 79 ls (o.1.toList ++ []) o.2) := ax_static (as := [w1]) (st := []) dX9_hint_76 kc_7_81 rfl rfl (Nat.le_of_ble_eq_true rfl)
theorem sX9_hint_76_1 : ab_X rom K cX9_hint 7 1 76 ls [w1, v0] hp = (K 204 [w1] hp).bind (fun o => ab_X rom K cX9_hint 7 1 79 ls (o.1.toList ++ [v0]) o.2) := ax_static (as := [w1]) (st := [v0]) dX9_hint_76 kc_7_81 rfl rfl (Nat.le_of_ble_eq_true rfl)
theorem sX9_hint_76_2 : ab_X rom K cX9_hint 7 1 76 ls [w1, v0, v1] hp = (K 204 [w1] hp).bind (fun o => ab_X rom K cX9_hint 7 1 79 ls (o.1.toList ++ [v0, v1]) o.2) := ax_static (as := [w1]) (st := [v0, v1]) dX9_hint_76 kc_7_81 rfl rfl (Nat.le_of_ble_eq_true rfl)
theorem sX9_hint_76_3 : ab_X rom K cX9_hint 7 1 76 ls [w1, v0, v1, v2] hp = (K 204 [w1] hp).bind (fun o => ab_X rom K cX9_hint 7 1 79 ls (o.1.toList ++ [v0, v1, v2]) o.2) := ax_static (as := [w1]) (st := [v0, v1, v2]) dX9_hint_76 kc_7_81 rfl rfl (Nat.le_of_ble_eq_true rfl)
theorem dX9_hint_79 : decode cX9_hint 79 = .ok (.if_icmp .ge 7, 3) := by decide +kernel
theorem sX9_hint_79 : ab_X rom K cX9_hint 7 1 79 ls (.int y :: .int x :: st) hp = if x < y then ab_X rom K cX9_hint 7 1 82 ls st hp else ab_X rom K cX9_hint 7 1 86 ls st hp := ax_icmp_ge dX9_hint_79 (by decide) rfl
theorem dX9_hint_82 : decode cX9_hint 82 = .ok (.iload 5, 2) := by decide +kernel
theorem sX9_hint_82 : ab_X rom K cX9_hint 7 1 82 (v0 :: v1 :: v2 :: v3 :: v4 :: .int x :: ls) st hp = ab_X rom K cX9_hint 7 1 84 (v0 :: v1 :: v2 :: v3 :: v4 :: .int x :: ls) (.int x :: st) hp := ax_iload dX9_hint_82 rfl rfl
theorem dX9_hint_84 : decode cX9_hint 84 = .ok (.istore 4, 2) := by decide +kernel
theorem sX9_hint_84i : ab_X rom K cX9_hint 7 1 84 (v0 :: v1 :: v2 :: .int y :: v4 :: ls) (.int x :: st) hp = ab_X rom K cX9_hint 7 1 86 (v0 :: v1 :: v2 :: .int y :: .int x :: ls) st hp := ax_istore dX9_hint_84 (ax_lt (v := v4) rfl) (ab_nl_c1 (j := 3) (v := .int y) rfl (ab_c1_int _)) rfl rfl
theorem sX9_hint_84r : ab_X rom K cX9_hint 7 1 84 (v0 :: v1 :: v2 :: .ref a2 :: v4 :: ls) (.int x :: st) hp = ab_X rom K cX9_hint 7 1 86 (v0 :: v1 :: v2 :: .ref a2 :: .int x :: ls) st hp := ax_istore dX9_hint_84 (ax_lt (v := v4) rfl) (ab_nl_c1 (j := 3) (v := .ref a2) rfl (ab_c1_ref _)) rfl rfl
theorem sX9_hint_84n : ab_X rom K cX9_hint 7 1 84 (v0 :: v1 :: v2 :: .null :: v4 :: ls) (.int x :: st) hp = ab_X rom K cX9_hint 7 1 86 (v0 :: v1 :: v2 :: .null :: .int x :: ls) st hp := ax_istore dX9_hint_84 (ax_lt (v := v4) rfl) (ab_nl_c1 (j := 3) (v := .null) rfl ab_c1_null) rfl rfl
theorem dX9_hint_86 : decode cX9_hint 86 = .ok (.iinc 5 1, 3) := by decide +kernel
theorem sX9_hint_86i : ab_X rom K cX9_hint 7 1 86 (v0 :: v1 :: v2 :: v3 :: .int y :: .int x :: ls) st hp = ab_X rom K cX9_hint 7 1 89 (v0 :: v1 :: v2 :: v3 :: .int y :: .int (x + 1) :: ls) st hp := ax_iinc dX9_hint_86 rfl (ab_nl_c1 (j := 4) (v := .int y) rfl (ab_c1_int _)) (by decide) rfl rfl
theorem sX9_hint_86r : ab_X rom K cX9_hint 7 1 86 (v0 :: v1 :: v2 :: v3 :: .ref a2 :: .int x :: ls) st hp = ab_X rom K cX9_hint 7 1 89 (v0 :: v1 :: v2 :: v3 :: .ref a2 :: .int (x + 1) :: ls) st hp := ax_iinc dX9_hint_86 rfl (ab_nl_c1 (j := 4) (v := .ref a2) rfl (ab_c1_ref _)) (by decide) rfl rfl
theorem sX9_hint_86n : ab_X rom K cX9_hint 7 1 86 (v0 :: v1 :: v2 :: v3 :: .null :: .int x :: ls) st hp = ab_X rom K cX9_hint 7 1 89 (v0 :: v1 :: v2 :: v3 :: .null :: .int (x + 1) :: ls) st hp := ax_iinc dX9_hint_86 rfl (ab_nl_c1 (j := 4) (v := .null) rfl ab_c1_null) (by decide) rfl rfl
theorem dX9_hint_89 : decode cX9_hint 89 = .ok (.goto (-55), 3) := by decide +kernel
theorem sX9_hint_89 : ab_X rom K cX9_hint 7 1 89 ls st hp = ab_X rom K cX9_hint 7 1 34 ls st hp := ax_goto dX9_hint_89 (by decide)
theorem dX9_hint_92 : decode cX9_hint 92 = .ok (.iload 4, 2) := by decide +kernel
theorem sX9_hint_92 : ab_X rom K cX9_hint 7 1 92 (v0 :: v1 :: v2 :: v3 :: .int x :: ls) st hp = ab_X rom K cX9_hint 7 1 94 (v0 :: v1 :: v2 :: v3 :: .int x :: ls) (.int x :: st) hp := ax_iload dX9_hint_92 rfl rfl
theorem dX9_hint_94 : decode cX9_hint 94 = .ok (.iconst (-1), 1) := by decide +kernel
theorem sX9_hint_94 : ab_X rom K cX9_hint 7 1 94 ls st hp = ab_X rom K cX9_hint 7 1 95 ls (.int (-1) :: st) hp := ax_iconst dX9_hint_94 (by decide) rfl
theorem dX9_hint_95 : decode cX9_hint 95 = .ok (.if_icmp .ne 7, 3) := by decide +kernel
theorem sX9_hint_95 : ab_X rom K cX9_hint 7 1 95 ls (.int y :: .int x :: st) hp = if x = y then ab_X rom K cX9_hint 7 1 98 ls st hp else ab_X rom K cX9_hint 7 1 102 ls st hp := ax_icmp_ne dX9_hint_95 (by decide) rfl
theorem dX9_hint_98 : decode cX9_hint 98 = .ok (.iconst (-1), 1) := by decide +kernel
theorem sX9_hint_98 : ab_X rom K cX9_hint 7 1 98 ls st hp = ab_X rom K cX9_hint 7 1 99 ls (.int (-1) :: st) hp := ax_iconst dX9_hint_98 (by decide) rfl
theorem dX9_hint_99 : decode cX9_hint 99 = .ok (.goto 17, 3) := by decide +kernel
theorem sX9_hint_99 : ab_X rom K cX9_hint 7 1 99 ls st hp = ab_X rom K cX9_hint 7 1 116 ls st hp := ax_goto dX9_hint_99 (by decide)
theorem dX9_hint_102 : decode cX9_hint 102 = .ok (.aload_n 0, 1) := by decide +kernel
theorem sX9_hint_102 : ab_X rom K cX9_hint 7 1 102 (.ref a :: ls) st hp = ab_X rom K cX9_hint 7 1 103 (.ref a :: ls) (.ref a :: st) hp := ax_aload_n dX9_hint_102 rfl rfl
theorem dX9_hint_103 : decode cX9_hint 103 = .ok (.getfield 293, 3) := by decide +kernel
theorem sX9_hint_103 : ab_X rom K cX9_hint 7 1 103 ls (.ref a :: st) hp = (ab_fld hp a 7 21).bind (fun v => ab_X rom K cX9_hint 7 1 106 ls (v :: st) hp) := ax_getfield dX9_hint_103 kf_7_293 rfl
theorem dX9_hint_106 : decode cX9_hint 106 = .ok (.ifCond .ne 8, 3) := by decide +kernel
theorem sX9_hint_106 : ab_X rom K cX9_hint 7 1 106 ls (.int x :: st) hp = if x = 0 then ab_X rom K cX9_hint 7 1 109 ls st hp else ab_X rom K cX9_hint 7 1 114 ls st hp := ax_if_ne dX9_hint_106 (by decide) rfl
theorem dX9_hint_109 : decode cX9_hint 109 = .ok (.bipush (-6), 2) := by decide +kernel
theorem sX9_hint_109 : ab_X rom K cX9_hint 7 1 109 ls st hp = ab_X rom K cX9_hint 7 1 111 ls (.int (-6) :: st) hp := ax_bipush dX9_hint_109 (by decide) rfl
theorem dX9_hint_111 : decode cX9_hint 111 = .ok (.goto 5, 3) := by decide +kernel
theorem sX9_hint_111 : ab_X rom K cX9_hint 7 1 111 ls st hp = ab_X rom K cX9_hint 7 1 116 ls st hp := ax_goto dX9_hint_111 (by decide)
theorem dX9_hint_114 : decode cX9_hint 114 = .ok (.iload 4, 2) := by decide +kernel
theorem sX9_hint_114 : ab_X rom K cX9_hint 7 1 114 (v0 :: v1 :: v2 :: v3 :: .int x :: ls) st hp = ab_X rom K cX9_hint 7 1 116 (v0 :: v1 :: v2 :: v3 :: .int x :: ls) (.int x :: st) hp := ax_iload dX9_hint_114 rfl rfl
theorem dX9_hint_116 : decode cX9_hint 116 = .ok (.ireturn, 1) := by decide +kernel
theorem sX9_hint_116 : ab_X rom K cX9_hint 7 1 116 ls [.int x] hp = some (some (.int x), hp) := ax_iret dX9_hint_116 rfl
theorem tX9_in : ab_mT[159]? = some (yX9_in, cX9_in, 6, 2, 7) := by decide +kernel
theorem mX9_in {d : Nat} {u0 : Int64} {u1 : Int64} {u2 : Int64} : ab_M rom (d + 1) 159 [.long u0, .long u1, .long u2] hp = ab_X rom (ab_M rom d) cX9_in 7 2 0 [.long u0, .null, .long u1, .null, .long u2, .null] [] hp := ab_M_eq tX9_in (Nat.le_of_ble_eq_true rfl)
theorem dX9_in_0 : decode cX9_in 0 = .ok (.lload_n 0, 1) := by decide +kernel
theorem sX9_in_0 : ab_X rom K cX9_in 7 2 0 (.long u :: ls) st hp = ab_X rom K cX9_in 7 2 1 (.long u :: ls) (.long u :: st) hp := ax_lload_n dX9_in_0 rfl rfl
theorem dX9_in_1 : decode cX9_in 1 = .ok (.lload_n 2, 1) := by decide +kernel
theorem sX9_in_1 : ab_X rom K cX9_in 7 2 1 (v0 :: v1 :: .long u :: ls) st hp = ab_X rom K cX9_in 7 2 2 (v0 :: v1 :: .long u :: ls) (.long u :: st) hp := ax_lload_n dX9_in_1 rfl rfl
theorem dX9_in_2 : decode cX9_in 2 = .ok (.lcmp, 1) := by decide +kernel
theorem sX9_in_2 : ab_X rom K cX9_in 7 2 2 ls (.long w :: .long u :: st) hp = ab_X rom K cX9_in 7 2 3 ls (.int (lg_cmp u w) :: st) hp := ax_lcmp dX9_in_2 rfl
theorem dX9_in_3 : decode cX9_in 3 = .ok (.ifCond .lt 14, 3) := by decide +kernel
theorem sX9_in_3 : ab_X rom K cX9_in 7 2 3 ls (.int x :: st) hp = if x < 0 then ab_X rom K cX9_in 7 2 17 ls st hp else ab_X rom K cX9_in 7 2 6 ls st hp := ax_if_lt dX9_in_3 (by decide) rfl
theorem dX9_in_6 : decode cX9_in 6 = .ok (.lload_n 0, 1) := by decide +kernel
theorem sX9_in_6 : ab_X rom K cX9_in 7 2 6 (.long u :: ls) st hp = ab_X rom K cX9_in 7 2 7 (.long u :: ls) (.long u :: st) hp := ax_lload_n dX9_in_6 rfl rfl
theorem dX9_in_7 : decode cX9_in 7 = .ok (.lload 4, 2) := by decide +kernel
theorem sX9_in_7 : ab_X rom K cX9_in 7 2 7 (v0 :: v1 :: v2 :: v3 :: .long u :: ls) st hp = ab_X rom K cX9_in 7 2 9 (v0 :: v1 :: v2 :: v3 :: .long u :: ls) (.long u :: st) hp := ax_lload dX9_in_7 rfl rfl
theorem dX9_in_9 : decode cX9_in 9 = .ok (.lcmp, 1) := by decide +kernel
theorem sX9_in_9 : ab_X rom K cX9_in 7 2 9 ls (.long w :: .long u :: st) hp = ab_X rom K cX9_in 7 2 10 ls (.int (lg_cmp u w) :: st) hp := ax_lcmp dX9_in_9 rfl
theorem dX9_in_10 : decode cX9_in 10 = .ok (.ifCond .gt 7, 3) := by decide +kernel
theorem sX9_in_10 : ab_X rom K cX9_in 7 2 10 ls (.int x :: st) hp = if 0 < x then ab_X rom K cX9_in 7 2 17 ls st hp else ab_X rom K cX9_in 7 2 13 ls st hp := ax_if_gt dX9_in_10 (by decide) rfl
theorem dX9_in_13 : decode cX9_in 13 = .ok (.iconst 1, 1) := by decide +kernel
theorem sX9_in_13 : ab_X rom K cX9_in 7 2 13 ls st hp = ab_X rom K cX9_in 7 2 14 ls (.int 1 :: st) hp := ax_iconst dX9_in_13 (by decide) rfl
theorem dX9_in_14 : decode cX9_in 14 = .ok (.goto 4, 3) := by decide +kernel
theorem sX9_in_14 : ab_X rom K cX9_in 7 2 14 ls st hp = ab_X rom K cX9_in 7 2 18 ls st hp := ax_goto dX9_in_14 (by decide)
theorem dX9_in_17 : decode cX9_in 17 = .ok (.iconst 0, 1) := by decide +kernel
theorem sX9_in_17 : ab_X rom K cX9_in 7 2 17 ls st hp = ab_X rom K cX9_in 7 2 18 ls (.int 0 :: st) hp := ax_iconst dX9_in_17 (by decide) rfl
theorem dX9_in_18 : decode cX9_in 18 = .ok (.ireturn, 1) := by decide +kernel
theorem sX9_in_18 : ab_X rom K cX9_in 7 2 18 ls [.int x] hp = if x = 0 ∨ x = 1 then some (some (.int x), hp) else none := ay_zret dX9_in_18 rfl
theorem tX9_is : ab_mT[160]? = some (yX9_is, cX9_is, 3, 1, 7) := by decide +kernel
theorem mX9_is {d : Nat} {a0 : Nat} {x0 : Int32} {x1 : Int32} : ab_M rom (d + 1) 160 [.ref a0, .int x0, .int x1] hp = ab_X rom (ab_M rom d) cX9_is 7 1 0 [.ref a0, .int x0, .int x1] [] hp := ab_M_eq tX9_is (Nat.le_of_ble_eq_true rfl)
theorem dX9_is_0 : decode cX9_is 0 = .ok (.aload_n 0, 1) := by decide +kernel
theorem sX9_is_0 : ab_X rom K cX9_is 7 1 0 (.ref a :: ls) st hp = ab_X rom K cX9_is 7 1 1 (.ref a :: ls) (.ref a :: st) hp := ax_aload_n dX9_is_0 rfl rfl
theorem dX9_is_1 : decode cX9_is 1 = .ok (.iload_n 1, 1) := by decide +kernel
theorem sX9_is_1 : ab_X rom K cX9_is 7 1 1 (v0 :: .int x :: ls) st hp = ab_X rom K cX9_is 7 1 2 (v0 :: .int x :: ls) (.int x :: st) hp := ax_iload_n dX9_is_1 rfl rfl
theorem dX9_is_2 : decode cX9_is 2 = .ok (.invokevirtual 68, 3) := by decide +kernel
theorem sX9_is_2_0 : ab_X rom K cX9_is 7 1 2 ls [w1, .ref a] hp = if ab_iso hp a 7 = true then (K 171 (.ref a :: [w1]) hp).bind (fun o => ab_X rom K cX9_is 7 1 5 ls (o.1.toList ++ []) o.2) else none := ay_virtual (as := [w1]) (st := []) dX9_is_2 kc_7_68 rfl rfl (Nat.le_of_ble_eq_true rfl)
theorem sX9_is_2_1 : ab_X rom K cX9_is 7 1 2 ls [w1, .ref a, v0] hp = if ab_iso hp a 7 = true then (K 171 (.ref a :: [w1]) hp).bind (fun o => ab_X rom K cX9_is 7 1 5 ls (o.1.toList ++ [v0]) o.2) else none := ay_virtual (as := [w1]) (st := [v0]) dX9_is_2 kc_7_68 rfl rfl (Nat.le_of_ble_eq_true rfl)
theorem sX9_is_2_2 : ab_X rom K cX9_is 7 1 2 ls [w1, .ref a, v0, v1] hp = if ab_iso hp a 7 = true then (K 171 (.ref a :: [w1]) hp).bind (fun o => ab_X rom K cX9_is 7 1 5 ls (o.1.toList ++ [v0, v1]) o.2) else none := ay_virtual (as := [w1]) (st := [v0, v1]) dX9_is_2 kc_7_68 rfl rfl (Nat.le_of_ble_eq_true rfl)
theorem sX9_is_2_3 : ab_X rom K cX9_is 7 1 2 ls [w1, .ref a, v0, v1, v2] hp = if ab_iso hp a 7 = true then (K 171 (.ref a :: [w1]) hp).bind (fun o => ab_X rom K cX9_is 7 1 5 ls (o.1.toList ++ [v0, v1, v2]) o.2) else none := ay_virtual (as := [w1]) (st := [v0, v1, v2]) dX9_is_2 kc_7_68 rfl rfl (Nat.le_of_ble_eq_true rfl)
theorem dX9_is_5 : decode cX9_is 5 = .ok (.ifCond .eq 10, 3) := by decide +kernel
theorem sX9_is_5 : ab_X rom K cX9_is 7 1 5 ls (.int x :: st) hp = if x = 0 then ab_X rom K cX9_is 7 1 15 ls st hp else ab_X rom K cX9_is 7 1 8 ls st hp := ax_if_eq dX9_is_5 (by decide) rfl
theorem dX9_is_8 : decode cX9_is 8 = .ok (.iload_n 2, 1) := by decide +kernel
theorem sX9_is_8 : ab_X rom K cX9_is 7 1 8 (v0 :: v1 :: .int x :: ls) st hp = ab_X rom K cX9_is 7 1 9 (v0 :: v1 :: .int x :: ls) (.int x :: st) hp := ax_iload_n dX9_is_8 rfl rfl
theorem dX9_is_9 : decode cX9_is 9 = .ok (.invokestatic 278, 3) := by decide +kernel
theorem sX9_is_9_0 : ab_X rom K cX9_is 7 1 9 ls [w1] hp = (K 168 [w1] hp).bind (fun o => ab_X rom K cX9_is 7 1 12 ls (o.1.toList ++ []) o.2) := ax_static (as := [w1]) (st := []) dX9_is_9 kc_7_278 rfl rfl (Nat.le_of_ble_eq_true rfl)
theorem sX9_is_9_1 : ab_X rom K cX9_is 7 1 9 ls [w1, v0] hp = (K 168 [w1] hp).bind (fun o => ab_X rom K cX9_is 7 1 12 ls (o.1.toList ++ [v0]) o.2) := ax_static (as := [w1]) (st := [v0]) dX9_is_9 kc_7_278 rfl rfl (Nat.le_of_ble_eq_true rfl)
theorem sX9_is_9_2 : ab_X rom K cX9_is 7 1 9 ls [w1, v0, v1] hp = (K 168 [w1] hp).bind (fun o => ab_X rom K cX9_is 7 1 12 ls (o.1.toList ++ [v0, v1]) o.2) := ax_static (as := [w1]) (st := [v0, v1]) dX9_is_9 kc_7_278 rfl rfl (Nat.le_of_ble_eq_true rfl)
theorem sX9_is_9_3 : ab_X rom K cX9_is 7 1 9 ls [w1, v0, v1, v2] hp = (K 168 [w1] hp).bind (fun o => ab_X rom K cX9_is 7 1 12 ls (o.1.toList ++ [v0, v1, v2]) o.2) := ax_static (as := [w1]) (st := [v0, v1, v2]) dX9_is_9 kc_7_278 rfl rfl (Nat.le_of_ble_eq_true rfl)
theorem dX9_is_12 : decode cX9_is 12 = .ok (.ifCond .ne 8, 3) := by decide +kernel
theorem sX9_is_12 : ab_X rom K cX9_is 7 1 12 ls (.int x :: st) hp = if x = 0 then ab_X rom K cX9_is 7 1 15 ls st hp else ab_X rom K cX9_is 7 1 20 ls st hp := ax_if_ne dX9_is_12 (by decide) rfl
theorem dX9_is_15 : decode cX9_is 15 = .ok (.bipush (-2), 2) := by decide +kernel
theorem sX9_is_15 : ab_X rom K cX9_is 7 1 15 ls st hp = ab_X rom K cX9_is 7 1 17 ls (.int (-2) :: st) hp := ax_bipush dX9_is_15 (by decide) rfl
theorem dX9_is_17 : decode cX9_is 17 = .ok (.goto 17, 3) := by decide +kernel
theorem sX9_is_17 : ab_X rom K cX9_is 7 1 17 ls st hp = ab_X rom K cX9_is 7 1 34 ls st hp := ax_goto dX9_is_17 (by decide)
theorem dX9_is_20 : decode cX9_is 20 = .ok (.aload_n 0, 1) := by decide +kernel
theorem sX9_is_20 : ab_X rom K cX9_is 7 1 20 (.ref a :: ls) st hp = ab_X rom K cX9_is 7 1 21 (.ref a :: ls) (.ref a :: st) hp := ax_aload_n dX9_is_20 rfl rfl
theorem dX9_is_21 : decode cX9_is 21 = .ok (.iload_n 1, 1) := by decide +kernel
theorem sX9_is_21 : ab_X rom K cX9_is 7 1 21 (v0 :: .int x :: ls) st hp = ab_X rom K cX9_is 7 1 22 (v0 :: .int x :: ls) (.int x :: st) hp := ax_iload_n dX9_is_21 rfl rfl
theorem dX9_is_22 : decode cX9_is 22 = .ok (.iload_n 2, 1) := by decide +kernel
theorem sX9_is_22 : ab_X rom K cX9_is 7 1 22 (v0 :: v1 :: .int x :: ls) st hp = ab_X rom K cX9_is 7 1 23 (v0 :: v1 :: .int x :: ls) (.int x :: st) hp := ax_iload_n dX9_is_22 rfl rfl
theorem dX9_is_23 : decode cX9_is 23 = .ok (.invokevirtual 281, 3) := by decide +kernel
theorem sX9_is_23_0 : ab_X rom K cX9_is 7 1 23 ls [w2, w1, .ref a] hp = if ab_iso hp a 7 = true then (K 237 (.ref a :: [w1, w2]) hp).bind (fun o => ab_X rom K cX9_is 7 1 26 ls (o.1.toList ++ []) o.2) else none := ay_virtual (as := [w1, w2]) (st := []) dX9_is_23 kc_7_281 rfl rfl (Nat.le_of_ble_eq_true rfl)
theorem sX9_is_23_1 : ab_X rom K cX9_is 7 1 23 ls [w2, w1, .ref a, v0] hp = if ab_iso hp a 7 = true then (K 237 (.ref a :: [w1, w2]) hp).bind (fun o => ab_X rom K cX9_is 7 1 26 ls (o.1.toList ++ [v0]) o.2) else none := ay_virtual (as := [w1, w2]) (st := [v0]) dX9_is_23 kc_7_281 rfl rfl (Nat.le_of_ble_eq_true rfl)
theorem sX9_is_23_2 : ab_X rom K cX9_is 7 1 23 ls [w2, w1, .ref a, v0, v1] hp = if ab_iso hp a 7 = true then (K 237 (.ref a :: [w1, w2]) hp).bind (fun o => ab_X rom K cX9_is 7 1 26 ls (o.1.toList ++ [v0, v1]) o.2) else none := ay_virtual (as := [w1, w2]) (st := [v0, v1]) dX9_is_23 kc_7_281 rfl rfl (Nat.le_of_ble_eq_true rfl)
theorem sX9_is_23_3 : ab_X rom K cX9_is 7 1 23 ls [w2, w1, .ref a, v0, v1, v2] hp = if ab_iso hp a 7 = true then (K 237 (.ref a :: [w1, w2]) hp).bind (fun o => ab_X rom K cX9_is 7 1 26 ls (o.1.toList ++ [v0, v1, v2]) o.2) else none := ay_virtual (as := [w1, w2]) (st := [v0, v1, v2]) dX9_is_23 kc_7_281 rfl rfl (Nat.le_of_ble_eq_true rfl)
theorem dX9_is_26 : decode cX9_is 26 = .ok (.ifCond .ne 7, 3) := by decide +kernel
theorem sX9_is_26 : ab_X rom K cX9_is 7 1 26 ls (.int x :: st) hp = if x = 0 then ab_X rom K cX9_is 7 1 29 ls st hp else ab_X rom K cX9_is 7 1 33 ls st hp := ax_if_ne dX9_is_26 (by decide) rfl
theorem dX9_is_29 : decode cX9_is 29 = .ok (.iconst 1, 1) := by decide +kernel
theorem sX9_is_29 : ab_X rom K cX9_is 7 1 29 ls st hp = ab_X rom K cX9_is 7 1 30 ls (.int 1 :: st) hp := ax_iconst dX9_is_29 (by decide) rfl
theorem dX9_is_30 : decode cX9_is 30 = .ok (.goto 4, 3) := by decide +kernel
theorem sX9_is_30 : ab_X rom K cX9_is 7 1 30 ls st hp = ab_X rom K cX9_is 7 1 34 ls st hp := ax_goto dX9_is_30 (by decide)
theorem dX9_is_33 : decode cX9_is 33 = .ok (.iconst 0, 1) := by decide +kernel
theorem sX9_is_33 : ab_X rom K cX9_is 7 1 33 ls st hp = ab_X rom K cX9_is 7 1 34 ls (.int 0 :: st) hp := ax_iconst dX9_is_33 (by decide) rfl
theorem dX9_is_34 : decode cX9_is 34 = .ok (.ireturn, 1) := by decide +kernel
theorem sX9_is_34 : ab_X rom K cX9_is 7 1 34 ls [.int x] hp = some (some (.int x), hp) := ax_iret dX9_is_34 rfl
theorem tX9_isAlpha : ab_mT[161]? = some (yX9_isAlpha, cX9_isAlpha, 6, 2, 7) := by decide +kernel
theorem mX9_isAlpha {d : Nat} {a0 : Nat} : ab_M rom (d + 1) 161 [.ref a0] hp = ab_X rom (ab_M rom d) cX9_isAlpha 7 2 0 [.ref a0, .null, .null, .null, .null, .null] [] hp := ab_M_eq tX9_isAlpha (Nat.le_of_ble_eq_true rfl)
theorem dX9_isAlpha_0 : decode cX9_isAlpha 0 = .ok (.iconst (-1), 1) := by decide +kernel
theorem sX9_isAlpha_0 : ab_X rom K cX9_isAlpha 7 2 0 ls st hp = ab_X rom K cX9_isAlpha 7 2 1 ls (.int (-1) :: st) hp := ax_iconst dX9_isAlpha_0 (by decide) rfl
theorem dX9_isAlpha_1 : decode cX9_isAlpha 1 = .ok (.istore_n 1, 1) := by decide +kernel
theorem sX9_isAlpha_1i : ab_X rom K cX9_isAlpha 7 2 1 (.int y :: v1 :: ls) (.int x :: st) hp = ab_X rom K cX9_isAlpha 7 2 2 (.int y :: .int x :: ls) st hp := ax_istore_n dX9_isAlpha_1 (ax_lt (v := v1) rfl) (ab_nl_c1 (j := 0) (v := .int y) rfl (ab_c1_int _)) rfl rfl
theorem sX9_isAlpha_1r : ab_X rom K cX9_isAlpha 7 2 1 (.ref a2 :: v1 :: ls) (.int x :: st) hp = ab_X rom K cX9_isAlpha 7 2 2 (.ref a2 :: .int x :: ls) st hp := ax_istore_n dX9_isAlpha_1 (ax_lt (v := v1) rfl) (ab_nl_c1 (j := 0) (v := .ref a2) rfl (ab_c1_ref _)) rfl rfl
theorem sX9_isAlpha_1n : ab_X rom K cX9_isAlpha 7 2 1 (.null :: v1 :: ls) (.int x :: st) hp = ab_X rom K cX9_isAlpha 7 2 2 (.null :: .int x :: ls) st hp := ax_istore_n dX9_isAlpha_1 (ax_lt (v := v1) rfl) (ab_nl_c1 (j := 0) (v := .null) rfl ab_c1_null) rfl rfl
theorem dX9_isAlpha_2 : decode cX9_isAlpha 2 = .ok (.sipush 1000, 3) := by decide +kernel
theorem sX9_isAlpha_2 : ab_X rom K cX9_isAlpha 7 2 2 ls st hp = ab_X rom K cX9_isAlpha 7 2 5 ls (.int 1000 :: st) hp := ax_sipush dX9_isAlpha_2 (by decide) rfl
theorem dX9_isAlpha_5 : decode cX9_isAlpha 5 = .ok (.istore_n 2, 1) := by decide +kernel
theorem sX9_isAlpha_5i : ab_X rom K cX9_isAlpha 7 2 5 (v0 :: .int y :: v2 :: ls) (.int x :: st) hp = ab_X rom K cX9_isAlpha 7 2 6 (v0 :: .int y :: .int x :: ls) st hp := ax_istore_n dX9_isAlpha_5 (ax_lt (v := v2) rfl) (ab_nl_c1 (j := 1) (v := .int y) rfl (ab_c1_int _)) rfl rfl
theorem sX9_isAlpha_5r : ab_X rom K cX9_isAlpha 7 2 5 (v0 :: .ref a2 :: v2 :: ls) (.int x :: st) hp = ab_X rom K cX9_isAlpha 7 2 6 (v0 :: .ref a2 :: .int x :: ls) st hp := ax_istore_n dX9_isAlpha_5 (ax_lt (v := v2) rfl) (ab_nl_c1 (j := 1) (v := .ref a2) rfl (ab_c1_ref _)) rfl rfl
theorem sX9_isAlpha_5n : ab_X rom K cX9_isAlpha 7 2 5 (v0 :: .null :: v2 :: ls) (.int x :: st) hp = ab_X rom K cX9_isAlpha 7 2 6 (v0 :: .null :: .int x :: ls) st hp := ax_istore_n dX9_isAlpha_5 (ax_lt (v := v2) rfl) (ab_nl_c1 (j := 1) (v := .null) rfl ab_c1_null) rfl rfl
theorem dX9_isAlpha_6 : decode cX9_isAlpha 6 = .ok (.iconst 0, 1) := by decide +kernel
theorem sX9_isAlpha_6 : ab_X rom K cX9_isAlpha 7 2 6 ls st hp = ab_X rom K cX9_isAlpha 7 2 7 ls (.int 0 :: st) hp := ax_iconst dX9_isAlpha_6 (by decide) rfl
theorem dX9_isAlpha_7 : decode cX9_isAlpha 7 = .ok (.istore_n 3, 1) := by decide +kernel
theorem sX9_isAlpha_7i : ab_X rom K cX9_isAlpha 7 2 7 (v0 :: v1 :: .int y :: v3 :: ls) (.int x :: st) hp = ab_X rom K cX9_isAlpha 7 2 8 (v0 :: v1 :: .int y :: .int x :: ls) st hp := ax_istore_n dX9_isAlpha_7 (ax_lt (v := v3) rfl) (ab_nl_c1 (j := 2) (v := .int y) rfl (ab_c1_int _)) rfl rfl
theorem sX9_isAlpha_7r : ab_X rom K cX9_isAlpha 7 2 7 (v0 :: v1 :: .ref a2 :: v3 :: ls) (.int x :: st) hp = ab_X rom K cX9_isAlpha 7 2 8 (v0 :: v1 :: .ref a2 :: .int x :: ls) st hp := ax_istore_n dX9_isAlpha_7 (ax_lt (v := v3) rfl) (ab_nl_c1 (j := 2) (v := .ref a2) rfl (ab_c1_ref _)) rfl rfl
theorem sX9_isAlpha_7n : ab_X rom K cX9_isAlpha 7 2 7 (v0 :: v1 :: .null :: v3 :: ls) (.int x :: st) hp = ab_X rom K cX9_isAlpha 7 2 8 (v0 :: v1 :: .null :: .int x :: ls) st hp := ax_istore_n dX9_isAlpha_7 (ax_lt (v := v3) rfl) (ab_nl_c1 (j := 2) (v := .null) rfl ab_c1_null) rfl rfl
theorem dX9_isAlpha_8 : decode cX9_isAlpha 8 = .ok (.iload_n 3, 1) := by decide +kernel
theorem sX9_isAlpha_8 : ab_X rom K cX9_isAlpha 7 2 8 (v0 :: v1 :: v2 :: .int x :: ls) st hp = ab_X rom K cX9_isAlpha 7 2 9 (v0 :: v1 :: v2 :: .int x :: ls) (.int x :: st) hp := ax_iload_n dX9_isAlpha_8 rfl rfl
theorem dX9_isAlpha_9 : decode cX9_isAlpha 9 = .ok (.aload_n 0, 1) := by decide +kernel
theorem sX9_isAlpha_9 : ab_X rom K cX9_isAlpha 7 2 9 (.ref a :: ls) st hp = ab_X rom K cX9_isAlpha 7 2 10 (.ref a :: ls) (.ref a :: st) hp := ax_aload_n dX9_isAlpha_9 rfl rfl
theorem dX9_isAlpha_10 : decode cX9_isAlpha 10 = .ok (.getfield 210, 3) := by decide +kernel
theorem sX9_isAlpha_10 : ab_X rom K cX9_isAlpha 7 2 10 ls (.ref a :: st) hp = (ab_fld hp a 7 15).bind (fun v => ab_X rom K cX9_isAlpha 7 2 13 ls (v :: st) hp) := ax_getfield dX9_isAlpha_10 kf_7_210 rfl
theorem dX9_isAlpha_13 : decode cX9_isAlpha 13 = .ok (.if_icmp .ge 59, 3) := by decide +kernel
theorem sX9_isAlpha_13 : ab_X rom K cX9_isAlpha 7 2 13 ls (.int y :: .int x :: st) hp = if x < y then ab_X rom K cX9_isAlpha 7 2 16 ls st hp else ab_X rom K cX9_isAlpha 7 2 72 ls st hp := ax_icmp_ge dX9_isAlpha_13 (by decide) rfl
theorem dX9_isAlpha_16 : decode cX9_isAlpha 16 = .ok (.aload_n 0, 1) := by decide +kernel
theorem sX9_isAlpha_16 : ab_X rom K cX9_isAlpha 7 2 16 (.ref a :: ls) st hp = ab_X rom K cX9_isAlpha 7 2 17 (.ref a :: ls) (.ref a :: st) hp := ax_aload_n dX9_isAlpha_16 rfl rfl
theorem dX9_isAlpha_17 : decode cX9_isAlpha 17 = .ok (.getfield 32, 3) := by decide +kernel
theorem sX9_isAlpha_17 : ab_X rom K cX9_isAlpha 7 2 17 ls (.ref a :: st) hp = (ab_fld hp a 7 16).bind (fun v => ab_X rom K cX9_isAlpha 7 2 20 ls (v :: st) hp) := ax_getfield dX9_isAlpha_17 kf_7_32 rfl
theorem dX9_isAlpha_20 : decode cX9_isAlpha 20 = .ok (.aload_n 0, 1) := by decide +kernel
theorem sX9_isAlpha_20 : ab_X rom K cX9_isAlpha 7 2 20 (.ref a :: ls) st hp = ab_X rom K cX9_isAlpha 7 2 21 (.ref a :: ls) (.ref a :: st) hp := ax_aload_n dX9_isAlpha_20 rfl rfl
theorem dX9_isAlpha_21 : decode cX9_isAlpha 21 = .ok (.getfield 26, 3) := by decide +kernel
theorem sX9_isAlpha_21 : ab_X rom K cX9_isAlpha 7 2 21 ls (.ref a :: st) hp = (ab_fld hp a 7 13).bind (fun v => ab_X rom K cX9_isAlpha 7 2 24 ls (v :: st) hp) := ax_getfield dX9_isAlpha_21 kf_7_26 rfl
theorem dX9_isAlpha_24 : decode cX9_isAlpha 24 = .ok (.iload_n 3, 1) := by decide +kernel
theorem sX9_isAlpha_24 : ab_X rom K cX9_isAlpha 7 2 24 (v0 :: v1 :: v2 :: .int x :: ls) st hp = ab_X rom K cX9_isAlpha 7 2 25 (v0 :: v1 :: v2 :: .int x :: ls) (.int x :: st) hp := ax_iload_n dX9_isAlpha_24 rfl rfl
theorem dX9_isAlpha_25 : decode cX9_isAlpha 25 = .ok (.iaload, 1) := by decide +kernel
theorem sX9_isAlpha_25 : ab_X rom K cX9_isAlpha 7 2 25 ls (.int x :: .ref a :: st) hp = (ab_ard rom 0 hp a x).bind (fun v => ab_X rom K cX9_isAlpha 7 2 26 ls (.int v :: st) hp) := ax_iaload dX9_isAlpha_25 rfl
theorem dX9_isAlpha_26 : decode cX9_isAlpha 26 = .ok (.iaload, 1) := by decide +kernel
theorem sX9_isAlpha_26 : ab_X rom K cX9_isAlpha 7 2 26 ls (.int x :: .ref a :: st) hp = (ab_ard rom 0 hp a x).bind (fun v => ab_X rom K cX9_isAlpha 7 2 27 ls (.int v :: st) hp) := ax_iaload dX9_isAlpha_26 rfl
theorem dX9_isAlpha_27 : decode cX9_isAlpha 27 = .ok (.istore 4, 2) := by decide +kernel
theorem sX9_isAlpha_27i : ab_X rom K cX9_isAlpha 7 2 27 (v0 :: v1 :: v2 :: .int y :: v4 :: ls) (.int x :: st) hp = ab_X rom K cX9_isAlpha 7 2 29 (v0 :: v1 :: v2 :: .int y :: .int x :: ls) st hp := ax_istore dX9_isAlpha_27 (ax_lt (v := v4) rfl) (ab_nl_c1 (j := 3) (v := .int y) rfl (ab_c1_int _)) rfl rfl
theorem sX9_isAlpha_27r : ab_X rom K cX9_isAlpha 7 2 27 (v0 :: v1 :: v2 :: .ref a2 :: v4 :: ls) (.int x :: st) hp = ab_X rom K cX9_isAlpha 7 2 29 (v0 :: v1 :: v2 :: .ref a2 :: .int x :: ls) st hp := ax_istore dX9_isAlpha_27 (ax_lt (v := v4) rfl) (ab_nl_c1 (j := 3) (v := .ref a2) rfl (ab_c1_ref _)) rfl rfl
theorem sX9_isAlpha_27n : ab_X rom K cX9_isAlpha 7 2 27 (v0 :: v1 :: v2 :: .null :: v4 :: ls) (.int x :: st) hp = ab_X rom K cX9_isAlpha 7 2 29 (v0 :: v1 :: v2 :: .null :: .int x :: ls) st hp := ax_istore dX9_isAlpha_27 (ax_lt (v := v4) rfl) (ab_nl_c1 (j := 3) (v := .null) rfl ab_c1_null) rfl rfl
theorem dX9_isAlpha_29 : decode cX9_isAlpha 29 = .ok (.aload_n 0, 1) := by decide +kernel
theorem sX9_isAlpha_29 : ab_X rom K cX9_isAlpha 7 2 29 (.ref a :: ls) st hp = ab_X rom K cX9_isAlpha 7 2 30 (.ref a :: ls) (.ref a :: st) hp := ax_aload_n dX9_isAlpha_29 rfl rfl
theorem dX9_isAlpha_30 : decode cX9_isAlpha 30 = .ok (.getfield 32, 3) := by decide +kernel
theorem sX9_isAlpha_30 : ab_X rom K cX9_isAlpha 7 2 30 ls (.ref a :: st) hp = (ab_fld hp a 7 16).bind (fun v => ab_X rom K cX9_isAlpha 7 2 33 ls (v :: st) hp) := ax_getfield dX9_isAlpha_30 kf_7_32 rfl
theorem dX9_isAlpha_33 : decode cX9_isAlpha 33 = .ok (.aload_n 0, 1) := by decide +kernel
theorem sX9_isAlpha_33 : ab_X rom K cX9_isAlpha 7 2 33 (.ref a :: ls) st hp = ab_X rom K cX9_isAlpha 7 2 34 (.ref a :: ls) (.ref a :: st) hp := ax_aload_n dX9_isAlpha_33 rfl rfl
theorem dX9_isAlpha_34 : decode cX9_isAlpha 34 = .ok (.getfield 29, 3) := by decide +kernel
theorem sX9_isAlpha_34 : ab_X rom K cX9_isAlpha 7 2 34 ls (.ref a :: st) hp = (ab_fld hp a 7 14).bind (fun v => ab_X rom K cX9_isAlpha 7 2 37 ls (v :: st) hp) := ax_getfield dX9_isAlpha_34 kf_7_29 rfl
theorem dX9_isAlpha_37 : decode cX9_isAlpha 37 = .ok (.iload_n 3, 1) := by decide +kernel
theorem sX9_isAlpha_37 : ab_X rom K cX9_isAlpha 7 2 37 (v0 :: v1 :: v2 :: .int x :: ls) st hp = ab_X rom K cX9_isAlpha 7 2 38 (v0 :: v1 :: v2 :: .int x :: ls) (.int x :: st) hp := ax_iload_n dX9_isAlpha_37 rfl rfl
theorem dX9_isAlpha_38 : decode cX9_isAlpha 38 = .ok (.iaload, 1) := by decide +kernel
theorem sX9_isAlpha_38 : ab_X rom K cX9_isAlpha 7 2 38 ls (.int x :: .ref a :: st) hp = (ab_ard rom 0 hp a x).bind (fun v => ab_X rom K cX9_isAlpha 7 2 39 ls (.int v :: st) hp) := ax_iaload dX9_isAlpha_38 rfl
theorem dX9_isAlpha_39 : decode cX9_isAlpha 39 = .ok (.iaload, 1) := by decide +kernel
theorem sX9_isAlpha_39 : ab_X rom K cX9_isAlpha 7 2 39 ls (.int x :: .ref a :: st) hp = (ab_ard rom 0 hp a x).bind (fun v => ab_X rom K cX9_isAlpha 7 2 40 ls (.int v :: st) hp) := ax_iaload dX9_isAlpha_39 rfl
theorem dX9_isAlpha_40 : decode cX9_isAlpha 40 = .ok (.istore 5, 2) := by decide +kernel
theorem sX9_isAlpha_40i : ab_X rom K cX9_isAlpha 7 2 40 (v0 :: v1 :: v2 :: v3 :: .int y :: v5 :: ls) (.int x :: st) hp = ab_X rom K cX9_isAlpha 7 2 42 (v0 :: v1 :: v2 :: v3 :: .int y :: .int x :: ls) st hp := ax_istore dX9_isAlpha_40 (ax_lt (v := v5) rfl) (ab_nl_c1 (j := 4) (v := .int y) rfl (ab_c1_int _)) rfl rfl
theorem sX9_isAlpha_40r : ab_X rom K cX9_isAlpha 7 2 40 (v0 :: v1 :: v2 :: v3 :: .ref a2 :: v5 :: ls) (.int x :: st) hp = ab_X rom K cX9_isAlpha 7 2 42 (v0 :: v1 :: v2 :: v3 :: .ref a2 :: .int x :: ls) st hp := ax_istore dX9_isAlpha_40 (ax_lt (v := v5) rfl) (ab_nl_c1 (j := 4) (v := .ref a2) rfl (ab_c1_ref _)) rfl rfl
theorem sX9_isAlpha_40n : ab_X rom K cX9_isAlpha 7 2 40 (v0 :: v1 :: v2 :: v3 :: .null :: v5 :: ls) (.int x :: st) hp = ab_X rom K cX9_isAlpha 7 2 42 (v0 :: v1 :: v2 :: v3 :: .null :: .int x :: ls) st hp := ax_istore dX9_isAlpha_40 (ax_lt (v := v5) rfl) (ab_nl_c1 (j := 4) (v := .null) rfl ab_c1_null) rfl rfl
theorem dX9_isAlpha_42 : decode cX9_isAlpha 42 = .ok (.iload_n 1, 1) := by decide +kernel
theorem sX9_isAlpha_42 : ab_X rom K cX9_isAlpha 7 2 42 (v0 :: .int x :: ls) st hp = ab_X rom K cX9_isAlpha 7 2 43 (v0 :: .int x :: ls) (.int x :: st) hp := ax_iload_n dX9_isAlpha_42 rfl rfl
theorem dX9_isAlpha_43 : decode cX9_isAlpha 43 = .ok (.iload 4, 2) := by decide +kernel
theorem sX9_isAlpha_43 : ab_X rom K cX9_isAlpha 7 2 43 (v0 :: v1 :: v2 :: v3 :: .int x :: ls) st hp = ab_X rom K cX9_isAlpha 7 2 45 (v0 :: v1 :: v2 :: v3 :: .int x :: ls) (.int x :: st) hp := ax_iload dX9_isAlpha_43 rfl rfl
theorem dX9_isAlpha_45 : decode cX9_isAlpha 45 = .ok (.iload 5, 2) := by decide +kernel
theorem sX9_isAlpha_45 : ab_X rom K cX9_isAlpha 7 2 45 (v0 :: v1 :: v2 :: v3 :: v4 :: .int x :: ls) st hp = ab_X rom K cX9_isAlpha 7 2 47 (v0 :: v1 :: v2 :: v3 :: v4 :: .int x :: ls) (.int x :: st) hp := ax_iload dX9_isAlpha_45 rfl rfl
theorem dX9_isAlpha_47 : decode cX9_isAlpha 47 = .ok (.invokestatic 115, 3) := by decide +kernel
theorem sX9_isAlpha_47_0 : ab_X rom K cX9_isAlpha 7 2 47 ls [.int y, .int x] hp = ab_X rom K cX9_isAlpha 7 2 50 ls [.int (ab_min x y)] hp := ax_min dX9_isAlpha_47 kc_7_115 rfl (Nat.le_of_ble_eq_true rfl)
theorem sX9_isAlpha_47_1 : ab_X rom K cX9_isAlpha 7 2 47 ls [.int y, .int x, v0] hp = ab_X rom K cX9_isAlpha 7 2 50 ls [.int (ab_min x y), v0] hp := ax_min dX9_isAlpha_47 kc_7_115 rfl (Nat.le_of_ble_eq_true rfl)
theorem sX9_isAlpha_47_2 : ab_X rom K cX9_isAlpha 7 2 47 ls [.int y, .int x, v0, v1] hp = ab_X rom K cX9_isAlpha 7 2 50 ls [.int (ab_min x y), v0, v1] hp := ax_min dX9_isAlpha_47 kc_7_115 rfl (Nat.le_of_ble_eq_true rfl)
theorem sX9_isAlpha_47_3 : ab_X rom K cX9_isAlpha 7 2 47 ls [.int y, .int x, v0, v1, v2] hp = ab_X rom K cX9_isAlpha 7 2 50 ls [.int (ab_min x y), v0, v1, v2] hp := ax_min dX9_isAlpha_47 kc_7_115 rfl (Nat.le_of_ble_eq_true rfl)
theorem dX9_isAlpha_50 : decode cX9_isAlpha 50 = .ok (.invokestatic 197, 3) := by decide +kernel
theorem sX9_isAlpha_50_0 : ab_X rom K cX9_isAlpha 7 2 50 ls [.int y, .int x] hp = ab_X rom K cX9_isAlpha 7 2 53 ls [.int (ab_max x y)] hp := ax_max dX9_isAlpha_50 kc_7_197 rfl (Nat.le_of_ble_eq_true rfl)
theorem sX9_isAlpha_50_1 : ab_X rom K cX9_isAlpha 7 2 50 ls [.int y, .int x, v0] hp = ab_X rom K cX9_isAlpha 7 2 53 ls [.int (ab_max x y), v0] hp := ax_max dX9_isAlpha_50 kc_7_197 rfl (Nat.le_of_ble_eq_true rfl)
theorem sX9_isAlpha_50_2 : ab_X rom K cX9_isAlpha 7 2 50 ls [.int y, .int x, v0, v1] hp = ab_X rom K cX9_isAlpha 7 2 53 ls [.int (ab_max x y), v0, v1] hp := ax_max dX9_isAlpha_50 kc_7_197 rfl (Nat.le_of_ble_eq_true rfl)
theorem sX9_isAlpha_50_3 : ab_X rom K cX9_isAlpha 7 2 50 ls [.int y, .int x, v0, v1, v2] hp = ab_X rom K cX9_isAlpha 7 2 53 ls [.int (ab_max x y), v0, v1, v2] hp := ax_max dX9_isAlpha_50 kc_7_197 rfl (Nat.le_of_ble_eq_true rfl)
theorem dX9_isAlpha_53 : decode cX9_isAlpha 53 = .ok (.istore_n 1, 1) := by decide +kernel
theorem sX9_isAlpha_53i : ab_X rom K cX9_isAlpha 7 2 53 (.int y :: v1 :: ls) (.int x :: st) hp = ab_X rom K cX9_isAlpha 7 2 54 (.int y :: .int x :: ls) st hp := ax_istore_n dX9_isAlpha_53 (ax_lt (v := v1) rfl) (ab_nl_c1 (j := 0) (v := .int y) rfl (ab_c1_int _)) rfl rfl
theorem sX9_isAlpha_53r : ab_X rom K cX9_isAlpha 7 2 53 (.ref a2 :: v1 :: ls) (.int x :: st) hp = ab_X rom K cX9_isAlpha 7 2 54 (.ref a2 :: .int x :: ls) st hp := ax_istore_n dX9_isAlpha_53 (ax_lt (v := v1) rfl) (ab_nl_c1 (j := 0) (v := .ref a2) rfl (ab_c1_ref _)) rfl rfl
theorem sX9_isAlpha_53n : ab_X rom K cX9_isAlpha 7 2 53 (.null :: v1 :: ls) (.int x :: st) hp = ab_X rom K cX9_isAlpha 7 2 54 (.null :: .int x :: ls) st hp := ax_istore_n dX9_isAlpha_53 (ax_lt (v := v1) rfl) (ab_nl_c1 (j := 0) (v := .null) rfl ab_c1_null) rfl rfl
theorem dX9_isAlpha_54 : decode cX9_isAlpha 54 = .ok (.iload_n 2, 1) := by decide +kernel
theorem sX9_isAlpha_54 : ab_X rom K cX9_isAlpha 7 2 54 (v0 :: v1 :: .int x :: ls) st hp = ab_X rom K cX9_isAlpha 7 2 55 (v0 :: v1 :: .int x :: ls) (.int x :: st) hp := ax_iload_n dX9_isAlpha_54 rfl rfl
theorem dX9_isAlpha_55 : decode cX9_isAlpha 55 = .ok (.iload 4, 2) := by decide +kernel
theorem sX9_isAlpha_55 : ab_X rom K cX9_isAlpha 7 2 55 (v0 :: v1 :: v2 :: v3 :: .int x :: ls) st hp = ab_X rom K cX9_isAlpha 7 2 57 (v0 :: v1 :: v2 :: v3 :: .int x :: ls) (.int x :: st) hp := ax_iload dX9_isAlpha_55 rfl rfl
theorem dX9_isAlpha_57 : decode cX9_isAlpha 57 = .ok (.iload 5, 2) := by decide +kernel
theorem sX9_isAlpha_57 : ab_X rom K cX9_isAlpha 7 2 57 (v0 :: v1 :: v2 :: v3 :: v4 :: .int x :: ls) st hp = ab_X rom K cX9_isAlpha 7 2 59 (v0 :: v1 :: v2 :: v3 :: v4 :: .int x :: ls) (.int x :: st) hp := ax_iload dX9_isAlpha_57 rfl rfl
theorem dX9_isAlpha_59 : decode cX9_isAlpha 59 = .ok (.invokestatic 197, 3) := by decide +kernel
theorem sX9_isAlpha_59_0 : ab_X rom K cX9_isAlpha 7 2 59 ls [.int y, .int x] hp = ab_X rom K cX9_isAlpha 7 2 62 ls [.int (ab_max x y)] hp := ax_max dX9_isAlpha_59 kc_7_197 rfl (Nat.le_of_ble_eq_true rfl)
theorem sX9_isAlpha_59_1 : ab_X rom K cX9_isAlpha 7 2 59 ls [.int y, .int x, v0] hp = ab_X rom K cX9_isAlpha 7 2 62 ls [.int (ab_max x y), v0] hp := ax_max dX9_isAlpha_59 kc_7_197 rfl (Nat.le_of_ble_eq_true rfl)
theorem sX9_isAlpha_59_2 : ab_X rom K cX9_isAlpha 7 2 59 ls [.int y, .int x, v0, v1] hp = ab_X rom K cX9_isAlpha 7 2 62 ls [.int (ab_max x y), v0, v1] hp := ax_max dX9_isAlpha_59 kc_7_197 rfl (Nat.le_of_ble_eq_true rfl)
theorem sX9_isAlpha_59_3 : ab_X rom K cX9_isAlpha 7 2 59 ls [.int y, .int x, v0, v1, v2] hp = ab_X rom K cX9_isAlpha 7 2 62 ls [.int (ab_max x y), v0, v1, v2] hp := ax_max dX9_isAlpha_59 kc_7_197 rfl (Nat.le_of_ble_eq_true rfl)
theorem dX9_isAlpha_62 : decode cX9_isAlpha 62 = .ok (.invokestatic 115, 3) := by decide +kernel
theorem sX9_isAlpha_62_0 : ab_X rom K cX9_isAlpha 7 2 62 ls [.int y, .int x] hp = ab_X rom K cX9_isAlpha 7 2 65 ls [.int (ab_min x y)] hp := ax_min dX9_isAlpha_62 kc_7_115 rfl (Nat.le_of_ble_eq_true rfl)
theorem sX9_isAlpha_62_1 : ab_X rom K cX9_isAlpha 7 2 62 ls [.int y, .int x, v0] hp = ab_X rom K cX9_isAlpha 7 2 65 ls [.int (ab_min x y), v0] hp := ax_min dX9_isAlpha_62 kc_7_115 rfl (Nat.le_of_ble_eq_true rfl)
theorem sX9_isAlpha_62_2 : ab_X rom K cX9_isAlpha 7 2 62 ls [.int y, .int x, v0, v1] hp = ab_X rom K cX9_isAlpha 7 2 65 ls [.int (ab_min x y), v0, v1] hp := ax_min dX9_isAlpha_62 kc_7_115 rfl (Nat.le_of_ble_eq_true rfl)
theorem sX9_isAlpha_62_3 : ab_X rom K cX9_isAlpha 7 2 62 ls [.int y, .int x, v0, v1, v2] hp = ab_X rom K cX9_isAlpha 7 2 65 ls [.int (ab_min x y), v0, v1, v2] hp := ax_min dX9_isAlpha_62 kc_7_115 rfl (Nat.le_of_ble_eq_true rfl)
theorem dX9_isAlpha_65 : decode cX9_isAlpha 65 = .ok (.istore_n 2, 1) := by decide +kernel
theorem sX9_isAlpha_65i : ab_X rom K cX9_isAlpha 7 2 65 (v0 :: .int y :: v2 :: ls) (.int x :: st) hp = ab_X rom K cX9_isAlpha 7 2 66 (v0 :: .int y :: .int x :: ls) st hp := ax_istore_n dX9_isAlpha_65 (ax_lt (v := v2) rfl) (ab_nl_c1 (j := 1) (v := .int y) rfl (ab_c1_int _)) rfl rfl
theorem sX9_isAlpha_65r : ab_X rom K cX9_isAlpha 7 2 65 (v0 :: .ref a2 :: v2 :: ls) (.int x :: st) hp = ab_X rom K cX9_isAlpha 7 2 66 (v0 :: .ref a2 :: .int x :: ls) st hp := ax_istore_n dX9_isAlpha_65 (ax_lt (v := v2) rfl) (ab_nl_c1 (j := 1) (v := .ref a2) rfl (ab_c1_ref _)) rfl rfl
theorem sX9_isAlpha_65n : ab_X rom K cX9_isAlpha 7 2 65 (v0 :: .null :: v2 :: ls) (.int x :: st) hp = ab_X rom K cX9_isAlpha 7 2 66 (v0 :: .null :: .int x :: ls) st hp := ax_istore_n dX9_isAlpha_65 (ax_lt (v := v2) rfl) (ab_nl_c1 (j := 1) (v := .null) rfl ab_c1_null) rfl rfl
theorem dX9_isAlpha_66 : decode cX9_isAlpha 66 = .ok (.iinc 3 1, 3) := by decide +kernel
theorem sX9_isAlpha_66i : ab_X rom K cX9_isAlpha 7 2 66 (v0 :: v1 :: .int y :: .int x :: ls) st hp = ab_X rom K cX9_isAlpha 7 2 69 (v0 :: v1 :: .int y :: .int (x + 1) :: ls) st hp := ax_iinc dX9_isAlpha_66 rfl (ab_nl_c1 (j := 2) (v := .int y) rfl (ab_c1_int _)) (by decide) rfl rfl
theorem sX9_isAlpha_66r : ab_X rom K cX9_isAlpha 7 2 66 (v0 :: v1 :: .ref a2 :: .int x :: ls) st hp = ab_X rom K cX9_isAlpha 7 2 69 (v0 :: v1 :: .ref a2 :: .int (x + 1) :: ls) st hp := ax_iinc dX9_isAlpha_66 rfl (ab_nl_c1 (j := 2) (v := .ref a2) rfl (ab_c1_ref _)) (by decide) rfl rfl
theorem sX9_isAlpha_66n : ab_X rom K cX9_isAlpha 7 2 66 (v0 :: v1 :: .null :: .int x :: ls) st hp = ab_X rom K cX9_isAlpha 7 2 69 (v0 :: v1 :: .null :: .int (x + 1) :: ls) st hp := ax_iinc dX9_isAlpha_66 rfl (ab_nl_c1 (j := 2) (v := .null) rfl ab_c1_null) (by decide) rfl rfl
theorem dX9_isAlpha_69 : decode cX9_isAlpha 69 = .ok (.goto (-61), 3) := by decide +kernel
theorem sX9_isAlpha_69 : ab_X rom K cX9_isAlpha 7 2 69 ls st hp = ab_X rom K cX9_isAlpha 7 2 8 ls st hp := ax_goto dX9_isAlpha_69 (by decide)
theorem dX9_isAlpha_72 : decode cX9_isAlpha 72 = .ok (.iload_n 1, 1) := by decide +kernel
theorem sX9_isAlpha_72 : ab_X rom K cX9_isAlpha 7 2 72 (v0 :: .int x :: ls) st hp = ab_X rom K cX9_isAlpha 7 2 73 (v0 :: .int x :: ls) (.int x :: st) hp := ax_iload_n dX9_isAlpha_72 rfl rfl
theorem dX9_isAlpha_73 : decode cX9_isAlpha 73 = .ok (.iload_n 2, 1) := by decide +kernel
theorem sX9_isAlpha_73 : ab_X rom K cX9_isAlpha 7 2 73 (v0 :: v1 :: .int x :: ls) st hp = ab_X rom K cX9_isAlpha 7 2 74 (v0 :: v1 :: .int x :: ls) (.int x :: st) hp := ax_iload_n dX9_isAlpha_73 rfl rfl
theorem dX9_isAlpha_74 : decode cX9_isAlpha 74 = .ok (.if_icmp .ge 7, 3) := by decide +kernel
theorem sX9_isAlpha_74 : ab_X rom K cX9_isAlpha 7 2 74 ls (.int y :: .int x :: st) hp = if x < y then ab_X rom K cX9_isAlpha 7 2 77 ls st hp else ab_X rom K cX9_isAlpha 7 2 81 ls st hp := ax_icmp_ge dX9_isAlpha_74 (by decide) rfl
theorem dX9_isAlpha_77 : decode cX9_isAlpha 77 = .ok (.iconst 1, 1) := by decide +kernel
theorem sX9_isAlpha_77 : ab_X rom K cX9_isAlpha 7 2 77 ls st hp = ab_X rom K cX9_isAlpha 7 2 78 ls (.int 1 :: st) hp := ax_iconst dX9_isAlpha_77 (by decide) rfl
theorem dX9_isAlpha_78 : decode cX9_isAlpha 78 = .ok (.goto 4, 3) := by decide +kernel
theorem sX9_isAlpha_78 : ab_X rom K cX9_isAlpha 7 2 78 ls st hp = ab_X rom K cX9_isAlpha 7 2 82 ls st hp := ax_goto dX9_isAlpha_78 (by decide)
theorem dX9_isAlpha_81 : decode cX9_isAlpha 81 = .ok (.iconst 0, 1) := by decide +kernel
theorem sX9_isAlpha_81 : ab_X rom K cX9_isAlpha 7 2 81 ls st hp = ab_X rom K cX9_isAlpha 7 2 82 ls (.int 0 :: st) hp := ax_iconst dX9_isAlpha_81 (by decide) rfl
theorem dX9_isAlpha_82 : decode cX9_isAlpha 82 = .ok (.ireturn, 1) := by decide +kernel
theorem sX9_isAlpha_82 : ab_X rom K cX9_isAlpha 7 2 82 ls [.int x] hp = if x = 0 ∨ x = 1 then some (some (.int x), hp) else none := ay_zret dX9_isAlpha_82 rfl
theorem tX9_isAlphaAt : ab_mT[162]? = some (yX9_isAlphaAt, cX9_isAlphaAt, 2, 2, 7) := by decide +kernel
theorem mX9_isAlphaAt {d : Nat} {a0 : Nat} {x0 : Int32} : ab_M rom (d + 1) 162 [.ref a0, .int x0] hp = ab_X rom (ab_M rom d) cX9_isAlphaAt 7 2 0 [.ref a0, .int x0] [] hp := ab_M_eq tX9_isAlphaAt (Nat.le_of_ble_eq_true rfl)
theorem dX9_isAlphaAt_0 : decode cX9_isAlphaAt 0 = .ok (.aload_n 0, 1) := by decide +kernel
theorem sX9_isAlphaAt_0 : ab_X rom K cX9_isAlphaAt 7 2 0 (.ref a :: ls) st hp = ab_X rom K cX9_isAlphaAt 7 2 1 (.ref a :: ls) (.ref a :: st) hp := ax_aload_n dX9_isAlphaAt_0 rfl rfl
theorem dX9_isAlphaAt_1 : decode cX9_isAlphaAt 1 = .ok (.iload_n 1, 1) := by decide +kernel
theorem sX9_isAlphaAt_1 : ab_X rom K cX9_isAlphaAt 7 2 1 (v0 :: .int x :: ls) st hp = ab_X rom K cX9_isAlphaAt 7 2 2 (v0 :: .int x :: ls) (.int x :: st) hp := ax_iload_n dX9_isAlphaAt_1 rfl rfl
theorem dX9_isAlphaAt_2 : decode cX9_isAlphaAt 2 = .ok (.invokevirtual 150, 3) := by decide +kernel
theorem sX9_isAlphaAt_2_0 : ab_X rom K cX9_isAlphaAt 7 2 2 ls [w1, .ref a] hp = if ab_iso hp a 7 = true then (K 188 (.ref a :: [w1]) hp).bind (fun o => ab_X rom K cX9_isAlphaAt 7 2 5 ls (o.1.toList ++ []) o.2) else none := ay_virtual (as := [w1]) (st := []) dX9_isAlphaAt_2 kc_7_150 rfl rfl (Nat.le_of_ble_eq_true rfl)
theorem sX9_isAlphaAt_2_1 : ab_X rom K cX9_isAlphaAt 7 2 2 ls [w1, .ref a, v0] hp = if ab_iso hp a 7 = true then (K 188 (.ref a :: [w1]) hp).bind (fun o => ab_X rom K cX9_isAlphaAt 7 2 5 ls (o.1.toList ++ [v0]) o.2) else none := ay_virtual (as := [w1]) (st := [v0]) dX9_isAlphaAt_2 kc_7_150 rfl rfl (Nat.le_of_ble_eq_true rfl)
theorem sX9_isAlphaAt_2_2 : ab_X rom K cX9_isAlphaAt 7 2 2 ls [w1, .ref a, v0, v1] hp = if ab_iso hp a 7 = true then (K 188 (.ref a :: [w1]) hp).bind (fun o => ab_X rom K cX9_isAlphaAt 7 2 5 ls (o.1.toList ++ [v0, v1]) o.2) else none := ay_virtual (as := [w1]) (st := [v0, v1]) dX9_isAlphaAt_2 kc_7_150 rfl rfl (Nat.le_of_ble_eq_true rfl)
theorem sX9_isAlphaAt_2_3 : ab_X rom K cX9_isAlphaAt 7 2 2 ls [w1, .ref a, v0, v1, v2] hp = if ab_iso hp a 7 = true then (K 188 (.ref a :: [w1]) hp).bind (fun o => ab_X rom K cX9_isAlphaAt 7 2 5 ls (o.1.toList ++ [v0, v1, v2]) o.2) else none := ay_virtual (as := [w1]) (st := [v0, v1, v2]) dX9_isAlphaAt_2 kc_7_150 rfl rfl (Nat.le_of_ble_eq_true rfl)
theorem dX9_isAlphaAt_5 : decode cX9_isAlphaAt 5 = .ok (.ifCond .le 16, 3) := by decide +kernel
theorem sX9_isAlphaAt_5 : ab_X rom K cX9_isAlphaAt 7 2 5 ls (.int x :: st) hp = if 0 < x then ab_X rom K cX9_isAlphaAt 7 2 8 ls st hp else ab_X rom K cX9_isAlphaAt 7 2 21 ls st hp := ax_if_le dX9_isAlphaAt_5 (by decide) rfl
theorem dX9_isAlphaAt_8 : decode cX9_isAlphaAt 8 = .ok (.aload_n 0, 1) := by decide +kernel
theorem sX9_isAlphaAt_8 : ab_X rom K cX9_isAlphaAt 7 2 8 (.ref a :: ls) st hp = ab_X rom K cX9_isAlphaAt 7 2 9 (.ref a :: ls) (.ref a :: st) hp := ax_aload_n dX9_isAlphaAt_8 rfl rfl
theorem dX9_isAlphaAt_9 : decode cX9_isAlphaAt 9 = .ok (.iload_n 1, 1) := by decide +kernel
theorem sX9_isAlphaAt_9 : ab_X rom K cX9_isAlphaAt 7 2 9 (v0 :: .int x :: ls) st hp = ab_X rom K cX9_isAlphaAt 7 2 10 (v0 :: .int x :: ls) (.int x :: st) hp := ax_iload_n dX9_isAlphaAt_9 rfl rfl
theorem dX9_isAlphaAt_10 : decode cX9_isAlphaAt 10 = .ok (.iconst 1, 1) := by decide +kernel
theorem sX9_isAlphaAt_10 : ab_X rom K cX9_isAlphaAt 7 2 10 ls st hp = ab_X rom K cX9_isAlphaAt 7 2 11 ls (.int 1 :: st) hp := ax_iconst dX9_isAlphaAt_10 (by decide) rfl
theorem dX9_isAlphaAt_11 : decode cX9_isAlphaAt 11 = .ok (.invokevirtual 281, 3) := by decide +kernel
theorem sX9_isAlphaAt_11_0 : ab_X rom K cX9_isAlphaAt 7 2 11 ls [w2, w1, .ref a] hp = if ab_iso hp a 7 = true then (K 237 (.ref a :: [w1, w2]) hp).bind (fun o => ab_X rom K cX9_isAlphaAt 7 2 14 ls (o.1.toList ++ []) o.2) else none := ay_virtual (as := [w1, w2]) (st := []) dX9_isAlphaAt_11 kc_7_281 rfl rfl (Nat.le_of_ble_eq_true rfl)
theorem sX9_isAlphaAt_11_1 : ab_X rom K cX9_isAlphaAt 7 2 11 ls [w2, w1, .ref a, v0] hp = if ab_iso hp a 7 = true then (K 237 (.ref a :: [w1, w2]) hp).bind (fun o => ab_X rom K cX9_isAlphaAt 7 2 14 ls (o.1.toList ++ [v0]) o.2) else none := ay_virtual (as := [w1, w2]) (st := [v0]) dX9_isAlphaAt_11 kc_7_281 rfl rfl (Nat.le_of_ble_eq_true rfl)
theorem sX9_isAlphaAt_11_2 : ab_X rom K cX9_isAlphaAt 7 2 11 ls [w2, w1, .ref a, v0, v1] hp = if ab_iso hp a 7 = true then (K 237 (.ref a :: [w1, w2]) hp).bind (fun o => ab_X rom K cX9_isAlphaAt 7 2 14 ls (o.1.toList ++ [v0, v1]) o.2) else none := ay_virtual (as := [w1, w2]) (st := [v0, v1]) dX9_isAlphaAt_11 kc_7_281 rfl rfl (Nat.le_of_ble_eq_true rfl)
theorem sX9_isAlphaAt_11_3 : ab_X rom K cX9_isAlphaAt 7 2 11 ls [w2, w1, .ref a, v0, v1, v2] hp = if ab_iso hp a 7 = true then (K 237 (.ref a :: [w1, w2]) hp).bind (fun o => ab_X rom K cX9_isAlphaAt 7 2 14 ls (o.1.toList ++ [v0, v1, v2]) o.2) else none := ay_virtual (as := [w1, w2]) (st := [v0, v1, v2]) dX9_isAlphaAt_11 kc_7_281 rfl rfl (Nat.le_of_ble_eq_true rfl)
theorem dX9_isAlphaAt_14 : decode cX9_isAlphaAt 14 = .ok (.ifCond .ne 7, 3) := by decide +kernel
theorem sX9_isAlphaAt_14 : ab_X rom K cX9_isAlphaAt 7 2 14 ls (.int x :: st) hp = if x = 0 then ab_X rom K cX9_isAlphaAt 7 2 17 ls st hp else ab_X rom K cX9_isAlphaAt 7 2 21 ls st hp := ax_if_ne dX9_isAlphaAt_14 (by decide) rfl
theorem dX9_isAlphaAt_17 : decode cX9_isAlphaAt 17 = .ok (.iconst 1, 1) := by decide +kernel
theorem sX9_isAlphaAt_17 : ab_X rom K cX9_isAlphaAt 7 2 17 ls st hp = ab_X rom K cX9_isAlphaAt 7 2 18 ls (.int 1 :: st) hp := ax_iconst dX9_isAlphaAt_17 (by decide) rfl
theorem dX9_isAlphaAt_18 : decode cX9_isAlphaAt 18 = .ok (.goto 4, 3) := by decide +kernel
theorem sX9_isAlphaAt_18 : ab_X rom K cX9_isAlphaAt 7 2 18 ls st hp = ab_X rom K cX9_isAlphaAt 7 2 22 ls st hp := ax_goto dX9_isAlphaAt_18 (by decide)
theorem dX9_isAlphaAt_21 : decode cX9_isAlphaAt 21 = .ok (.iconst 0, 1) := by decide +kernel
theorem sX9_isAlphaAt_21 : ab_X rom K cX9_isAlphaAt 7 2 21 ls st hp = ab_X rom K cX9_isAlphaAt 7 2 22 ls (.int 0 :: st) hp := ax_iconst dX9_isAlphaAt_21 (by decide) rfl
theorem dX9_isAlphaAt_22 : decode cX9_isAlphaAt 22 = .ok (.ireturn, 1) := by decide +kernel
theorem sX9_isAlphaAt_22 : ab_X rom K cX9_isAlphaAt 7 2 22 ls [.int x] hp = if x = 0 ∨ x = 1 then some (some (.int x), hp) else none := ay_zret dX9_isAlphaAt_22 rfl
theorem tX9_isAt : ab_mT[163]? = some (yX9_isAt, cX9_isAt, 3, 2, 7) := by decide +kernel
theorem mX9_isAt {d : Nat} {a0 : Nat} {x0 : Int32} {x1 : Int32} : ab_M rom (d + 1) 163 [.ref a0, .int x0, .int x1] hp = ab_X rom (ab_M rom d) cX9_isAt 7 2 0 [.ref a0, .int x0, .int x1] [] hp := ab_M_eq tX9_isAt (Nat.le_of_ble_eq_true rfl)
theorem dX9_isAt_0 : decode cX9_isAt 0 = .ok (.aload_n 0, 1) := by decide +kernel
theorem sX9_isAt_0 : ab_X rom K cX9_isAt 7 2 0 (.ref a :: ls) st hp = ab_X rom K cX9_isAt 7 2 1 (.ref a :: ls) (.ref a :: st) hp := ax_aload_n dX9_isAt_0 rfl rfl
theorem dX9_isAt_1 : decode cX9_isAt 1 = .ok (.getfield 100, 3) := by decide +kernel
theorem sX9_isAt_1 : ab_X rom K cX9_isAt 7 2 1 ls (.ref a :: st) hp = (ab_fld hp a 7 8).bind (fun v => ab_X rom K cX9_isAt 7 2 4 ls (v :: st) hp) := ax_getfield dX9_isAt_1 kf_7_100 rfl
theorem dX9_isAt_4 : decode cX9_isAt 4 = .ok (.aload_n 0, 1) := by decide +kernel
theorem sX9_isAt_4 : ab_X rom K cX9_isAt 7 2 4 (.ref a :: ls) st hp = ab_X rom K cX9_isAt 7 2 5 (.ref a :: ls) (.ref a :: st) hp := ax_aload_n dX9_isAt_4 rfl rfl
theorem dX9_isAt_5 : decode cX9_isAt 5 = .ok (.getfield 97, 3) := by decide +kernel
theorem sX9_isAt_5 : ab_X rom K cX9_isAt 7 2 5 ls (.ref a :: st) hp = (ab_fld hp a 7 5).bind (fun v => ab_X rom K cX9_isAt 7 2 8 ls (v :: st) hp) := ax_getfield dX9_isAt_5 kf_7_97 rfl
theorem dX9_isAt_8 : decode cX9_isAt 8 = .ok (.if_icmp .ge 27, 3) := by decide +kernel
theorem sX9_isAt_8 : ab_X rom K cX9_isAt 7 2 8 ls (.int y :: .int x :: st) hp = if x < y then ab_X rom K cX9_isAt 7 2 11 ls st hp else ab_X rom K cX9_isAt 7 2 35 ls st hp := ax_icmp_ge dX9_isAt_8 (by decide) rfl
theorem dX9_isAt_11 : decode cX9_isAt 11 = .ok (.aload_n 0, 1) := by decide +kernel
theorem sX9_isAt_11 : ab_X rom K cX9_isAt 7 2 11 (.ref a :: ls) st hp = ab_X rom K cX9_isAt 7 2 12 (.ref a :: ls) (.ref a :: st) hp := ax_aload_n dX9_isAt_11 rfl rfl
theorem dX9_isAt_12 : decode cX9_isAt 12 = .ok (.getfield 19, 3) := by decide +kernel
theorem sX9_isAt_12 : ab_X rom K cX9_isAt 7 2 12 ls (.ref a :: st) hp = (ab_fld hp a 7 4).bind (fun v => ab_X rom K cX9_isAt 7 2 15 ls (v :: st) hp) := ax_getfield dX9_isAt_12 kf_7_19 rfl
theorem dX9_isAt_15 : decode cX9_isAt 15 = .ok (.aload_n 0, 1) := by decide +kernel
theorem sX9_isAt_15 : ab_X rom K cX9_isAt 7 2 15 (.ref a :: ls) st hp = ab_X rom K cX9_isAt 7 2 16 (.ref a :: ls) (.ref a :: st) hp := ax_aload_n dX9_isAt_15 rfl rfl
theorem dX9_isAt_16 : decode cX9_isAt 16 = .ok (.getfield 100, 3) := by decide +kernel
theorem sX9_isAt_16 : ab_X rom K cX9_isAt 7 2 16 ls (.ref a :: st) hp = (ab_fld hp a 7 8).bind (fun v => ab_X rom K cX9_isAt 7 2 19 ls (v :: st) hp) := ax_getfield dX9_isAt_16 kf_7_100 rfl
theorem dX9_isAt_19 : decode cX9_isAt 19 = .ok (.iaload, 1) := by decide +kernel
theorem sX9_isAt_19 : ab_X rom K cX9_isAt 7 2 19 ls (.int x :: .ref a :: st) hp = (ab_ard rom 0 hp a x).bind (fun v => ab_X rom K cX9_isAt 7 2 20 ls (.int v :: st) hp) := ax_iaload dX9_isAt_19 rfl
theorem dX9_isAt_20 : decode cX9_isAt 20 = .ok (.i2l, 1) := by decide +kernel
theorem sX9_isAt_20 : ab_X rom K cX9_isAt 7 2 20 ls (.int x :: st) hp = ab_X rom K cX9_isAt 7 2 21 ls (.long x.toInt64 :: st) hp := ax_i2l dX9_isAt_20 rfl
theorem dX9_isAt_21 : decode cX9_isAt 21 = .ok (.iload_n 1, 1) := by decide +kernel
theorem sX9_isAt_21 : ab_X rom K cX9_isAt 7 2 21 (v0 :: .int x :: ls) st hp = ab_X rom K cX9_isAt 7 2 22 (v0 :: .int x :: ls) (.int x :: st) hp := ax_iload_n dX9_isAt_21 rfl rfl
theorem dX9_isAt_22 : decode cX9_isAt 22 = .ok (.i2l, 1) := by decide +kernel
theorem sX9_isAt_22 : ab_X rom K cX9_isAt 7 2 22 ls (.int x :: st) hp = ab_X rom K cX9_isAt 7 2 23 ls (.long x.toInt64 :: st) hp := ax_i2l dX9_isAt_22 rfl
theorem dX9_isAt_23 : decode cX9_isAt 23 = .ok (.iload_n 2, 1) := by decide +kernel
theorem sX9_isAt_23 : ab_X rom K cX9_isAt 7 2 23 (v0 :: v1 :: .int x :: ls) st hp = ab_X rom K cX9_isAt 7 2 24 (v0 :: v1 :: .int x :: ls) (.int x :: st) hp := ax_iload_n dX9_isAt_23 rfl rfl
theorem dX9_isAt_24 : decode cX9_isAt 24 = .ok (.i2l, 1) := by decide +kernel
theorem sX9_isAt_24 : ab_X rom K cX9_isAt 7 2 24 ls (.int x :: st) hp = ab_X rom K cX9_isAt 7 2 25 ls (.long x.toInt64 :: st) hp := ax_i2l dX9_isAt_24 rfl
theorem dX9_isAt_25 : decode cX9_isAt 25 = .ok (.invokestatic 56, 3) := by decide +kernel
theorem sX9_isAt_25_0 : ab_X rom K cX9_isAt 7 2 25 ls [w3, w2, w1] hp = (K 159 [w1, w2, w3] hp).bind (fun o => ab_X rom K cX9_isAt 7 2 28 ls (o.1.toList ++ []) o.2) := ax_static (as := [w1, w2, w3]) (st := []) dX9_isAt_25 kc_7_56 rfl rfl (Nat.le_of_ble_eq_true rfl)
theorem sX9_isAt_25_1 : ab_X rom K cX9_isAt 7 2 25 ls [w3, w2, w1, v0] hp = (K 159 [w1, w2, w3] hp).bind (fun o => ab_X rom K cX9_isAt 7 2 28 ls (o.1.toList ++ [v0]) o.2) := ax_static (as := [w1, w2, w3]) (st := [v0]) dX9_isAt_25 kc_7_56 rfl rfl (Nat.le_of_ble_eq_true rfl)
theorem sX9_isAt_25_2 : ab_X rom K cX9_isAt 7 2 25 ls [w3, w2, w1, v0, v1] hp = (K 159 [w1, w2, w3] hp).bind (fun o => ab_X rom K cX9_isAt 7 2 28 ls (o.1.toList ++ [v0, v1]) o.2) := ax_static (as := [w1, w2, w3]) (st := [v0, v1]) dX9_isAt_25 kc_7_56 rfl rfl (Nat.le_of_ble_eq_true rfl)
theorem sX9_isAt_25_3 : ab_X rom K cX9_isAt 7 2 25 ls [w3, w2, w1, v0, v1, v2] hp = (K 159 [w1, w2, w3] hp).bind (fun o => ab_X rom K cX9_isAt 7 2 28 ls (o.1.toList ++ [v0, v1, v2]) o.2) := ax_static (as := [w1, w2, w3]) (st := [v0, v1, v2]) dX9_isAt_25 kc_7_56 rfl rfl (Nat.le_of_ble_eq_true rfl)
theorem dX9_isAt_28 : decode cX9_isAt 28 = .ok (.ifCond .eq 7, 3) := by decide +kernel
theorem sX9_isAt_28 : ab_X rom K cX9_isAt 7 2 28 ls (.int x :: st) hp = if x = 0 then ab_X rom K cX9_isAt 7 2 35 ls st hp else ab_X rom K cX9_isAt 7 2 31 ls st hp := ax_if_eq dX9_isAt_28 (by decide) rfl
theorem dX9_isAt_31 : decode cX9_isAt 31 = .ok (.iconst 1, 1) := by decide +kernel
theorem sX9_isAt_31 : ab_X rom K cX9_isAt 7 2 31 ls st hp = ab_X rom K cX9_isAt 7 2 32 ls (.int 1 :: st) hp := ax_iconst dX9_isAt_31 (by decide) rfl
theorem dX9_isAt_32 : decode cX9_isAt 32 = .ok (.goto 4, 3) := by decide +kernel
theorem sX9_isAt_32 : ab_X rom K cX9_isAt 7 2 32 ls st hp = ab_X rom K cX9_isAt 7 2 36 ls st hp := ax_goto dX9_isAt_32 (by decide)
theorem dX9_isAt_35 : decode cX9_isAt 35 = .ok (.iconst 0, 1) := by decide +kernel
theorem sX9_isAt_35 : ab_X rom K cX9_isAt 7 2 35 ls st hp = ab_X rom K cX9_isAt 7 2 36 ls (.int 0 :: st) hp := ax_iconst dX9_isAt_35 (by decide) rfl
theorem dX9_isAt_36 : decode cX9_isAt 36 = .ok (.ireturn, 1) := by decide +kernel
theorem sX9_isAt_36 : ab_X rom K cX9_isAt 7 2 36 ls [.int x] hp = if x = 0 ∨ x = 1 then some (some (.int x), hp) else none := ay_zret dX9_isAt_36 rfl
theorem tX9_isBalanced : ab_mT[164]? = some (yX9_isBalanced, cX9_isBalanced, 4, 2, 7) := by decide +kernel
theorem mX9_isBalanced {d : Nat} {a0 : Nat} : ab_M rom (d + 1) 164 [.ref a0] hp = ab_X rom (ab_M rom d) cX9_isBalanced 7 2 0 [.ref a0, .null, .null, .null] [] hp := ab_M_eq tX9_isBalanced (Nat.le_of_ble_eq_true rfl)
theorem dX9_isBalanced_0 : decode cX9_isBalanced 0 = .ok (.iconst 0, 1) := by decide +kernel
theorem sX9_isBalanced_0 : ab_X rom K cX9_isBalanced 7 2 0 ls st hp = ab_X rom K cX9_isBalanced 7 2 1 ls (.int 0 :: st) hp := ax_iconst dX9_isBalanced_0 (by decide) rfl
theorem dX9_isBalanced_1 : decode cX9_isBalanced 1 = .ok (.istore_n 1, 1) := by decide +kernel
theorem sX9_isBalanced_1i : ab_X rom K cX9_isBalanced 7 2 1 (.int y :: v1 :: ls) (.int x :: st) hp = ab_X rom K cX9_isBalanced 7 2 2 (.int y :: .int x :: ls) st hp := ax_istore_n dX9_isBalanced_1 (ax_lt (v := v1) rfl) (ab_nl_c1 (j := 0) (v := .int y) rfl (ab_c1_int _)) rfl rfl
theorem sX9_isBalanced_1r : ab_X rom K cX9_isBalanced 7 2 1 (.ref a2 :: v1 :: ls) (.int x :: st) hp = ab_X rom K cX9_isBalanced 7 2 2 (.ref a2 :: .int x :: ls) st hp := ax_istore_n dX9_isBalanced_1 (ax_lt (v := v1) rfl) (ab_nl_c1 (j := 0) (v := .ref a2) rfl (ab_c1_ref _)) rfl rfl
theorem sX9_isBalanced_1n : ab_X rom K cX9_isBalanced 7 2 1 (.null :: v1 :: ls) (.int x :: st) hp = ab_X rom K cX9_isBalanced 7 2 2 (.null :: .int x :: ls) st hp := ax_istore_n dX9_isBalanced_1 (ax_lt (v := v1) rfl) (ab_nl_c1 (j := 0) (v := .null) rfl ab_c1_null) rfl rfl
theorem dX9_isBalanced_2 : decode cX9_isBalanced 2 = .ok (.iconst 0, 1) := by decide +kernel
theorem sX9_isBalanced_2 : ab_X rom K cX9_isBalanced 7 2 2 ls st hp = ab_X rom K cX9_isBalanced 7 2 3 ls (.int 0 :: st) hp := ax_iconst dX9_isBalanced_2 (by decide) rfl
theorem dX9_isBalanced_3 : decode cX9_isBalanced 3 = .ok (.istore_n 2, 1) := by decide +kernel
theorem sX9_isBalanced_3i : ab_X rom K cX9_isBalanced 7 2 3 (v0 :: .int y :: v2 :: ls) (.int x :: st) hp = ab_X rom K cX9_isBalanced 7 2 4 (v0 :: .int y :: .int x :: ls) st hp := ax_istore_n dX9_isBalanced_3 (ax_lt (v := v2) rfl) (ab_nl_c1 (j := 1) (v := .int y) rfl (ab_c1_int _)) rfl rfl
theorem sX9_isBalanced_3r : ab_X rom K cX9_isBalanced 7 2 3 (v0 :: .ref a2 :: v2 :: ls) (.int x :: st) hp = ab_X rom K cX9_isBalanced 7 2 4 (v0 :: .ref a2 :: .int x :: ls) st hp := ax_istore_n dX9_isBalanced_3 (ax_lt (v := v2) rfl) (ab_nl_c1 (j := 1) (v := .ref a2) rfl (ab_c1_ref _)) rfl rfl
theorem sX9_isBalanced_3n : ab_X rom K cX9_isBalanced 7 2 3 (v0 :: .null :: v2 :: ls) (.int x :: st) hp = ab_X rom K cX9_isBalanced 7 2 4 (v0 :: .null :: .int x :: ls) st hp := ax_istore_n dX9_isBalanced_3 (ax_lt (v := v2) rfl) (ab_nl_c1 (j := 1) (v := .null) rfl ab_c1_null) rfl rfl
theorem dX9_isBalanced_4 : decode cX9_isBalanced 4 = .ok (.iload_n 2, 1) := by decide +kernel
theorem sX9_isBalanced_4 : ab_X rom K cX9_isBalanced 7 2 4 (v0 :: v1 :: .int x :: ls) st hp = ab_X rom K cX9_isBalanced 7 2 5 (v0 :: v1 :: .int x :: ls) (.int x :: st) hp := ax_iload_n dX9_isBalanced_4 rfl rfl
theorem dX9_isBalanced_5 : decode cX9_isBalanced 5 = .ok (.aload_n 0, 1) := by decide +kernel
theorem sX9_isBalanced_5 : ab_X rom K cX9_isBalanced 7 2 5 (.ref a :: ls) st hp = ab_X rom K cX9_isBalanced 7 2 6 (.ref a :: ls) (.ref a :: st) hp := ax_aload_n dX9_isBalanced_5 rfl rfl
theorem dX9_isBalanced_6 : decode cX9_isBalanced 6 = .ok (.getfield 235, 3) := by decide +kernel
theorem sX9_isBalanced_6 : ab_X rom K cX9_isBalanced 7 2 6 ls (.ref a :: st) hp = (ab_fld hp a 7 17).bind (fun v => ab_X rom K cX9_isBalanced 7 2 9 ls (v :: st) hp) := ax_getfield dX9_isBalanced_6 kf_7_235 rfl
theorem dX9_isBalanced_9 : decode cX9_isBalanced 9 = .ok (.if_icmp .ge 26, 3) := by decide +kernel
theorem sX9_isBalanced_9 : ab_X rom K cX9_isBalanced 7 2 9 ls (.int y :: .int x :: st) hp = if x < y then ab_X rom K cX9_isBalanced 7 2 12 ls st hp else ab_X rom K cX9_isBalanced 7 2 35 ls st hp := ax_icmp_ge dX9_isBalanced_9 (by decide) rfl
theorem dX9_isBalanced_12 : decode cX9_isBalanced 12 = .ok (.iload_n 1, 1) := by decide +kernel
theorem sX9_isBalanced_12 : ab_X rom K cX9_isBalanced 7 2 12 (v0 :: .int x :: ls) st hp = ab_X rom K cX9_isBalanced 7 2 13 (v0 :: .int x :: ls) (.int x :: st) hp := ax_iload_n dX9_isBalanced_12 rfl rfl
theorem dX9_isBalanced_13 : decode cX9_isBalanced 13 = .ok (.aload_n 0, 1) := by decide +kernel
theorem sX9_isBalanced_13 : ab_X rom K cX9_isBalanced 7 2 13 (.ref a :: ls) st hp = ab_X rom K cX9_isBalanced 7 2 14 (.ref a :: ls) (.ref a :: st) hp := ax_aload_n dX9_isBalanced_13 rfl rfl
theorem dX9_isBalanced_14 : decode cX9_isBalanced 14 = .ok (.getfield 32, 3) := by decide +kernel
theorem sX9_isBalanced_14 : ab_X rom K cX9_isBalanced 7 2 14 ls (.ref a :: st) hp = (ab_fld hp a 7 16).bind (fun v => ab_X rom K cX9_isBalanced 7 2 17 ls (v :: st) hp) := ax_getfield dX9_isBalanced_14 kf_7_32 rfl
theorem dX9_isBalanced_17 : decode cX9_isBalanced 17 = .ok (.iload_n 2, 1) := by decide +kernel
theorem sX9_isBalanced_17 : ab_X rom K cX9_isBalanced 7 2 17 (v0 :: v1 :: .int x :: ls) st hp = ab_X rom K cX9_isBalanced 7 2 18 (v0 :: v1 :: .int x :: ls) (.int x :: st) hp := ax_iload_n dX9_isBalanced_17 rfl rfl
theorem dX9_isBalanced_18 : decode cX9_isBalanced 18 = .ok (.iaload, 1) := by decide +kernel
theorem sX9_isBalanced_18 : ab_X rom K cX9_isBalanced 7 2 18 ls (.int x :: .ref a :: st) hp = (ab_ard rom 0 hp a x).bind (fun v => ab_X rom K cX9_isBalanced 7 2 19 ls (.int v :: st) hp) := ax_iaload dX9_isBalanced_18 rfl
theorem dX9_isBalanced_19 : decode cX9_isBalanced 19 = .ok (.ifCond .ne 7, 3) := by decide +kernel
theorem sX9_isBalanced_19 : ab_X rom K cX9_isBalanced 7 2 19 ls (.int x :: st) hp = if x = 0 then ab_X rom K cX9_isBalanced 7 2 22 ls st hp else ab_X rom K cX9_isBalanced 7 2 26 ls st hp := ax_if_ne dX9_isBalanced_19 (by decide) rfl
theorem dX9_isBalanced_22 : decode cX9_isBalanced 22 = .ok (.iconst 1, 1) := by decide +kernel
theorem sX9_isBalanced_22 : ab_X rom K cX9_isBalanced 7 2 22 ls st hp = ab_X rom K cX9_isBalanced 7 2 23 ls (.int 1 :: st) hp := ax_iconst dX9_isBalanced_22 (by decide) rfl
theorem dX9_isBalanced_23 : decode cX9_isBalanced 23 = .ok (.goto 4, 3) := by decide +kernel
theorem sX9_isBalanced_23 : ab_X rom K cX9_isBalanced 7 2 23 ls st hp = ab_X rom K cX9_isBalanced 7 2 27 ls st hp := ax_goto dX9_isBalanced_23 (by decide)
theorem dX9_isBalanced_26 : decode cX9_isBalanced 26 = .ok (.iconst (-1), 1) := by decide +kernel
theorem sX9_isBalanced_26 : ab_X rom K cX9_isBalanced 7 2 26 ls st hp = ab_X rom K cX9_isBalanced 7 2 27 ls (.int (-1) :: st) hp := ax_iconst dX9_isBalanced_26 (by decide) rfl
theorem dX9_isBalanced_27 : decode cX9_isBalanced 27 = .ok (.iadd, 1) := by decide +kernel
theorem sX9_isBalanced_27 : ab_X rom K cX9_isBalanced 7 2 27 ls (.int y :: .int x :: st) hp = ab_X rom K cX9_isBalanced 7 2 28 ls (.int (x + y) :: st) hp := ax_iadd dX9_isBalanced_27 rfl
theorem dX9_isBalanced_28 : decode cX9_isBalanced 28 = .ok (.istore_n 1, 1) := by decide +kernel
theorem sX9_isBalanced_28i : ab_X rom K cX9_isBalanced 7 2 28 (.int y :: v1 :: ls) (.int x :: st) hp = ab_X rom K cX9_isBalanced 7 2 29 (.int y :: .int x :: ls) st hp := ax_istore_n dX9_isBalanced_28 (ax_lt (v := v1) rfl) (ab_nl_c1 (j := 0) (v := .int y) rfl (ab_c1_int _)) rfl rfl
theorem sX9_isBalanced_28r : ab_X rom K cX9_isBalanced 7 2 28 (.ref a2 :: v1 :: ls) (.int x :: st) hp = ab_X rom K cX9_isBalanced 7 2 29 (.ref a2 :: .int x :: ls) st hp := ax_istore_n dX9_isBalanced_28 (ax_lt (v := v1) rfl) (ab_nl_c1 (j := 0) (v := .ref a2) rfl (ab_c1_ref _)) rfl rfl
theorem sX9_isBalanced_28n : ab_X rom K cX9_isBalanced 7 2 28 (.null :: v1 :: ls) (.int x :: st) hp = ab_X rom K cX9_isBalanced 7 2 29 (.null :: .int x :: ls) st hp := ax_istore_n dX9_isBalanced_28 (ax_lt (v := v1) rfl) (ab_nl_c1 (j := 0) (v := .null) rfl ab_c1_null) rfl rfl
theorem dX9_isBalanced_29 : decode cX9_isBalanced 29 = .ok (.iinc 2 1, 3) := by decide +kernel
theorem sX9_isBalanced_29i : ab_X rom K cX9_isBalanced 7 2 29 (v0 :: .int y :: .int x :: ls) st hp = ab_X rom K cX9_isBalanced 7 2 32 (v0 :: .int y :: .int (x + 1) :: ls) st hp := ax_iinc dX9_isBalanced_29 rfl (ab_nl_c1 (j := 1) (v := .int y) rfl (ab_c1_int _)) (by decide) rfl rfl
theorem sX9_isBalanced_29r : ab_X rom K cX9_isBalanced 7 2 29 (v0 :: .ref a2 :: .int x :: ls) st hp = ab_X rom K cX9_isBalanced 7 2 32 (v0 :: .ref a2 :: .int (x + 1) :: ls) st hp := ax_iinc dX9_isBalanced_29 rfl (ab_nl_c1 (j := 1) (v := .ref a2) rfl (ab_c1_ref _)) (by decide) rfl rfl
theorem sX9_isBalanced_29n : ab_X rom K cX9_isBalanced 7 2 29 (v0 :: .null :: .int x :: ls) st hp = ab_X rom K cX9_isBalanced 7 2 32 (v0 :: .null :: .int (x + 1) :: ls) st hp := ax_iinc dX9_isBalanced_29 rfl (ab_nl_c1 (j := 1) (v := .null) rfl ab_c1_null) (by decide) rfl rfl
theorem dX9_isBalanced_32 : decode cX9_isBalanced 32 = .ok (.goto (-28), 3) := by decide +kernel
theorem sX9_isBalanced_32 : ab_X rom K cX9_isBalanced 7 2 32 ls st hp = ab_X rom K cX9_isBalanced 7 2 4 ls st hp := ax_goto dX9_isBalanced_32 (by decide)
theorem dX9_isBalanced_35 : decode cX9_isBalanced 35 = .ok (.iconst 0, 1) := by decide +kernel
theorem sX9_isBalanced_35 : ab_X rom K cX9_isBalanced 7 2 35 ls st hp = ab_X rom K cX9_isBalanced 7 2 36 ls (.int 0 :: st) hp := ax_iconst dX9_isBalanced_35 (by decide) rfl
theorem dX9_isBalanced_36 : decode cX9_isBalanced 36 = .ok (.istore_n 2, 1) := by decide +kernel
theorem sX9_isBalanced_36i : ab_X rom K cX9_isBalanced 7 2 36 (v0 :: .int y :: v2 :: ls) (.int x :: st) hp = ab_X rom K cX9_isBalanced 7 2 37 (v0 :: .int y :: .int x :: ls) st hp := ax_istore_n dX9_isBalanced_36 (ax_lt (v := v2) rfl) (ab_nl_c1 (j := 1) (v := .int y) rfl (ab_c1_int _)) rfl rfl
theorem sX9_isBalanced_36r : ab_X rom K cX9_isBalanced 7 2 36 (v0 :: .ref a2 :: v2 :: ls) (.int x :: st) hp = ab_X rom K cX9_isBalanced 7 2 37 (v0 :: .ref a2 :: .int x :: ls) st hp := ax_istore_n dX9_isBalanced_36 (ax_lt (v := v2) rfl) (ab_nl_c1 (j := 1) (v := .ref a2) rfl (ab_c1_ref _)) rfl rfl
theorem sX9_isBalanced_36n : ab_X rom K cX9_isBalanced 7 2 36 (v0 :: .null :: v2 :: ls) (.int x :: st) hp = ab_X rom K cX9_isBalanced 7 2 37 (v0 :: .null :: .int x :: ls) st hp := ax_istore_n dX9_isBalanced_36 (ax_lt (v := v2) rfl) (ab_nl_c1 (j := 1) (v := .null) rfl ab_c1_null) rfl rfl
theorem dX9_isBalanced_37 : decode cX9_isBalanced 37 = .ok (.iconst 0, 1) := by decide +kernel
theorem sX9_isBalanced_37 : ab_X rom K cX9_isBalanced 7 2 37 ls st hp = ab_X rom K cX9_isBalanced 7 2 38 ls (.int 0 :: st) hp := ax_iconst dX9_isBalanced_37 (by decide) rfl
theorem dX9_isBalanced_38 : decode cX9_isBalanced 38 = .ok (.istore_n 3, 1) := by decide +kernel
theorem sX9_isBalanced_38i : ab_X rom K cX9_isBalanced 7 2 38 (v0 :: v1 :: .int y :: v3 :: ls) (.int x :: st) hp = ab_X rom K cX9_isBalanced 7 2 39 (v0 :: v1 :: .int y :: .int x :: ls) st hp := ax_istore_n dX9_isBalanced_38 (ax_lt (v := v3) rfl) (ab_nl_c1 (j := 2) (v := .int y) rfl (ab_c1_int _)) rfl rfl
theorem sX9_isBalanced_38r : ab_X rom K cX9_isBalanced 7 2 38 (v0 :: v1 :: .ref a2 :: v3 :: ls) (.int x :: st) hp = ab_X rom K cX9_isBalanced 7 2 39 (v0 :: v1 :: .ref a2 :: .int x :: ls) st hp := ax_istore_n dX9_isBalanced_38 (ax_lt (v := v3) rfl) (ab_nl_c1 (j := 2) (v := .ref a2) rfl (ab_c1_ref _)) rfl rfl
theorem sX9_isBalanced_38n : ab_X rom K cX9_isBalanced 7 2 38 (v0 :: v1 :: .null :: v3 :: ls) (.int x :: st) hp = ab_X rom K cX9_isBalanced 7 2 39 (v0 :: v1 :: .null :: .int x :: ls) st hp := ax_istore_n dX9_isBalanced_38 (ax_lt (v := v3) rfl) (ab_nl_c1 (j := 2) (v := .null) rfl ab_c1_null) rfl rfl
theorem dX9_isBalanced_39 : decode cX9_isBalanced 39 = .ok (.iload_n 3, 1) := by decide +kernel
theorem sX9_isBalanced_39 : ab_X rom K cX9_isBalanced 7 2 39 (v0 :: v1 :: v2 :: .int x :: ls) st hp = ab_X rom K cX9_isBalanced 7 2 40 (v0 :: v1 :: v2 :: .int x :: ls) (.int x :: st) hp := ax_iload_n dX9_isBalanced_39 rfl rfl
theorem dX9_isBalanced_40 : decode cX9_isBalanced 40 = .ok (.aload_n 0, 1) := by decide +kernel
theorem sX9_isBalanced_40 : ab_X rom K cX9_isBalanced 7 2 40 (.ref a :: ls) st hp = ab_X rom K cX9_isBalanced 7 2 41 (.ref a :: ls) (.ref a :: st) hp := ax_aload_n dX9_isBalanced_40 rfl rfl
theorem dX9_isBalanced_41 : decode cX9_isBalanced 41 = .ok (.getfield 210, 3) := by decide +kernel
theorem sX9_isBalanced_41 : ab_X rom K cX9_isBalanced 7 2 41 ls (.ref a :: st) hp = (ab_fld hp a 7 15).bind (fun v => ab_X rom K cX9_isBalanced 7 2 44 ls (v :: st) hp) := ax_getfield dX9_isBalanced_41 kf_7_210 rfl
theorem dX9_isBalanced_44 : decode cX9_isBalanced 44 = .ok (.if_icmp .ge 26, 3) := by decide +kernel
theorem sX9_isBalanced_44 : ab_X rom K cX9_isBalanced 7 2 44 ls (.int y :: .int x :: st) hp = if x < y then ab_X rom K cX9_isBalanced 7 2 47 ls st hp else ab_X rom K cX9_isBalanced 7 2 70 ls st hp := ax_icmp_ge dX9_isBalanced_44 (by decide) rfl
theorem dX9_isBalanced_47 : decode cX9_isBalanced 47 = .ok (.iload_n 2, 1) := by decide +kernel
theorem sX9_isBalanced_47 : ab_X rom K cX9_isBalanced 7 2 47 (v0 :: v1 :: .int x :: ls) st hp = ab_X rom K cX9_isBalanced 7 2 48 (v0 :: v1 :: .int x :: ls) (.int x :: st) hp := ax_iload_n dX9_isBalanced_47 rfl rfl
theorem dX9_isBalanced_48 : decode cX9_isBalanced 48 = .ok (.aload_n 0, 1) := by decide +kernel
theorem sX9_isBalanced_48 : ab_X rom K cX9_isBalanced 7 2 48 (.ref a :: ls) st hp = ab_X rom K cX9_isBalanced 7 2 49 (.ref a :: ls) (.ref a :: st) hp := ax_aload_n dX9_isBalanced_48 rfl rfl
theorem dX9_isBalanced_49 : decode cX9_isBalanced 49 = .ok (.iconst 4, 1) := by decide +kernel
theorem sX9_isBalanced_49 : ab_X rom K cX9_isBalanced 7 2 49 ls st hp = ab_X rom K cX9_isBalanced 7 2 50 ls (.int 4 :: st) hp := ax_iconst dX9_isBalanced_49 (by decide) rfl
theorem dX9_isBalanced_50 : decode cX9_isBalanced 50 = .ok (.iload_n 3, 1) := by decide +kernel
theorem sX9_isBalanced_50 : ab_X rom K cX9_isBalanced 7 2 50 (v0 :: v1 :: v2 :: .int x :: ls) st hp = ab_X rom K cX9_isBalanced 7 2 51 (v0 :: v1 :: v2 :: .int x :: ls) (.int x :: st) hp := ax_iload_n dX9_isBalanced_50 rfl rfl
theorem dX9_isBalanced_51 : decode cX9_isBalanced 51 = .ok (.invokevirtual 244, 3) := by decide +kernel
theorem sX9_isBalanced_51_0 : ab_X rom K cX9_isBalanced 7 2 51 ls [w2, w1, .ref a] hp = if ab_iso hp a 7 = true then (K 241 (.ref a :: [w1, w2]) hp).bind (fun o => ab_X rom K cX9_isBalanced 7 2 54 ls (o.1.toList ++ []) o.2) else none := ay_virtual (as := [w1, w2]) (st := []) dX9_isBalanced_51 kc_7_244 rfl rfl (Nat.le_of_ble_eq_true rfl)
theorem sX9_isBalanced_51_1 : ab_X rom K cX9_isBalanced 7 2 51 ls [w2, w1, .ref a, v0] hp = if ab_iso hp a 7 = true then (K 241 (.ref a :: [w1, w2]) hp).bind (fun o => ab_X rom K cX9_isBalanced 7 2 54 ls (o.1.toList ++ [v0]) o.2) else none := ay_virtual (as := [w1, w2]) (st := [v0]) dX9_isBalanced_51 kc_7_244 rfl rfl (Nat.le_of_ble_eq_true rfl)
theorem sX9_isBalanced_51_2 : ab_X rom K cX9_isBalanced 7 2 51 ls [w2, w1, .ref a, v0, v1] hp = if ab_iso hp a 7 = true then (K 241 (.ref a :: [w1, w2]) hp).bind (fun o => ab_X rom K cX9_isBalanced 7 2 54 ls (o.1.toList ++ [v0, v1]) o.2) else none := ay_virtual (as := [w1, w2]) (st := [v0, v1]) dX9_isBalanced_51 kc_7_244 rfl rfl (Nat.le_of_ble_eq_true rfl)
theorem sX9_isBalanced_51_3 : ab_X rom K cX9_isBalanced 7 2 51 ls [w2, w1, .ref a, v0, v1, v2] hp = if ab_iso hp a 7 = true then (K 241 (.ref a :: [w1, w2]) hp).bind (fun o => ab_X rom K cX9_isBalanced 7 2 54 ls (o.1.toList ++ [v0, v1, v2]) o.2) else none := ay_virtual (as := [w1, w2]) (st := [v0, v1, v2]) dX9_isBalanced_51 kc_7_244 rfl rfl (Nat.le_of_ble_eq_true rfl)
theorem dX9_isBalanced_54 : decode cX9_isBalanced 54 = .ok (.ifCond .ne 7, 3) := by decide +kernel
theorem sX9_isBalanced_54 : ab_X rom K cX9_isBalanced 7 2 54 ls (.int x :: st) hp = if x = 0 then ab_X rom K cX9_isBalanced 7 2 57 ls st hp else ab_X rom K cX9_isBalanced 7 2 61 ls st hp := ax_if_ne dX9_isBalanced_54 (by decide) rfl
theorem dX9_isBalanced_57 : decode cX9_isBalanced 57 = .ok (.iconst 1, 1) := by decide +kernel
theorem sX9_isBalanced_57 : ab_X rom K cX9_isBalanced 7 2 57 ls st hp = ab_X rom K cX9_isBalanced 7 2 58 ls (.int 1 :: st) hp := ax_iconst dX9_isBalanced_57 (by decide) rfl
theorem dX9_isBalanced_58 : decode cX9_isBalanced 58 = .ok (.goto 4, 3) := by decide +kernel
theorem sX9_isBalanced_58 : ab_X rom K cX9_isBalanced 7 2 58 ls st hp = ab_X rom K cX9_isBalanced 7 2 62 ls st hp := ax_goto dX9_isBalanced_58 (by decide)
theorem dX9_isBalanced_61 : decode cX9_isBalanced 61 = .ok (.iconst (-1), 1) := by decide +kernel
theorem sX9_isBalanced_61 : ab_X rom K cX9_isBalanced 7 2 61 ls st hp = ab_X rom K cX9_isBalanced 7 2 62 ls (.int (-1) :: st) hp := ax_iconst dX9_isBalanced_61 (by decide) rfl
theorem dX9_isBalanced_62 : decode cX9_isBalanced 62 = .ok (.iadd, 1) := by decide +kernel
theorem sX9_isBalanced_62 : ab_X rom K cX9_isBalanced 7 2 62 ls (.int y :: .int x :: st) hp = ab_X rom K cX9_isBalanced 7 2 63 ls (.int (x + y) :: st) hp := ax_iadd dX9_isBalanced_62 rfl
theorem dX9_isBalanced_63 : decode cX9_isBalanced 63 = .ok (.istore_n 2, 1) := by decide +kernel
theorem sX9_isBalanced_63i : ab_X rom K cX9_isBalanced 7 2 63 (v0 :: .int y :: v2 :: ls) (.int x :: st) hp = ab_X rom K cX9_isBalanced 7 2 64 (v0 :: .int y :: .int x :: ls) st hp := ax_istore_n dX9_isBalanced_63 (ax_lt (v := v2) rfl) (ab_nl_c1 (j := 1) (v := .int y) rfl (ab_c1_int _)) rfl rfl
theorem sX9_isBalanced_63r : ab_X rom K cX9_isBalanced 7 2 63 (v0 :: .ref a2 :: v2 :: ls) (.int x :: st) hp = ab_X rom K cX9_isBalanced 7 2 64 (v0 :: .ref a2 :: .int x :: ls) st hp := ax_istore_n dX9_isBalanced_63 (ax_lt (v := v2) rfl) (ab_nl_c1 (j := 1) (v := .ref a2) rfl (ab_c1_ref _)) rfl rfl
theorem sX9_isBalanced_63n : ab_X rom K cX9_isBalanced 7 2 63 (v0 :: .null :: v2 :: ls) (.int x :: st) hp = ab_X rom K cX9_isBalanced 7 2 64 (v0 :: .null :: .int x :: ls) st hp := ax_istore_n dX9_isBalanced_63 (ax_lt (v := v2) rfl) (ab_nl_c1 (j := 1) (v := .null) rfl ab_c1_null) rfl rfl
theorem dX9_isBalanced_64 : decode cX9_isBalanced 64 = .ok (.iinc 3 1, 3) := by decide +kernel
theorem sX9_isBalanced_64i : ab_X rom K cX9_isBalanced 7 2 64 (v0 :: v1 :: .int y :: .int x :: ls) st hp = ab_X rom K cX9_isBalanced 7 2 67 (v0 :: v1 :: .int y :: .int (x + 1) :: ls) st hp := ax_iinc dX9_isBalanced_64 rfl (ab_nl_c1 (j := 2) (v := .int y) rfl (ab_c1_int _)) (by decide) rfl rfl
theorem sX9_isBalanced_64r : ab_X rom K cX9_isBalanced 7 2 64 (v0 :: v1 :: .ref a2 :: .int x :: ls) st hp = ab_X rom K cX9_isBalanced 7 2 67 (v0 :: v1 :: .ref a2 :: .int (x + 1) :: ls) st hp := ax_iinc dX9_isBalanced_64 rfl (ab_nl_c1 (j := 2) (v := .ref a2) rfl (ab_c1_ref _)) (by decide) rfl rfl
theorem sX9_isBalanced_64n : ab_X rom K cX9_isBalanced 7 2 64 (v0 :: v1 :: .null :: .int x :: ls) st hp = ab_X rom K cX9_isBalanced 7 2 67 (v0 :: v1 :: .null :: .int (x + 1) :: ls) st hp := ax_iinc dX9_isBalanced_64 rfl (ab_nl_c1 (j := 2) (v := .null) rfl ab_c1_null) (by decide) rfl rfl
theorem dX9_isBalanced_67 : decode cX9_isBalanced 67 = .ok (.goto (-28), 3) := by decide +kernel
theorem sX9_isBalanced_67 : ab_X rom K cX9_isBalanced 7 2 67 ls st hp = ab_X rom K cX9_isBalanced 7 2 39 ls st hp := ax_goto dX9_isBalanced_67 (by decide)
theorem dX9_isBalanced_70 : decode cX9_isBalanced 70 = .ok (.iload_n 1, 1) := by decide +kernel
theorem sX9_isBalanced_70 : ab_X rom K cX9_isBalanced 7 2 70 (v0 :: .int x :: ls) st hp = ab_X rom K cX9_isBalanced 7 2 71 (v0 :: .int x :: ls) (.int x :: st) hp := ax_iload_n dX9_isBalanced_70 rfl rfl
theorem dX9_isBalanced_71 : decode cX9_isBalanced 71 = .ok (.i2l, 1) := by decide +kernel
theorem sX9_isBalanced_71 : ab_X rom K cX9_isBalanced 7 2 71 ls (.int x :: st) hp = ab_X rom K cX9_isBalanced 7 2 72 ls (.long x.toInt64 :: st) hp := ax_i2l dX9_isBalanced_71 rfl
theorem dX9_isBalanced_72 : decode cX9_isBalanced 72 = .ok (.ldc2_w 219, 3) := by decide +kernel
theorem sX9_isBalanced_72 : ab_X rom K cX9_isBalanced 7 2 72 ls st hp = ab_X rom K cX9_isBalanced 7 2 75 ls (.long (-1) :: st) hp := ax_ldc2 dX9_isBalanced_72 kl_7_219 rfl
theorem dX9_isBalanced_75 : decode cX9_isBalanced 75 = .ok (.lconst 1, 1) := by decide +kernel
theorem sX9_isBalanced_75 : ab_X rom K cX9_isBalanced 7 2 75 ls st hp = ab_X rom K cX9_isBalanced 7 2 76 ls (.long 1 :: st) hp := ax_lconst dX9_isBalanced_75 (by decide) rfl
theorem dX9_isBalanced_76 : decode cX9_isBalanced 76 = .ok (.invokestatic 56, 3) := by decide +kernel
theorem sX9_isBalanced_76_0 : ab_X rom K cX9_isBalanced 7 2 76 ls [w3, w2, w1] hp = (K 159 [w1, w2, w3] hp).bind (fun o => ab_X rom K cX9_isBalanced 7 2 79 ls (o.1.toList ++ []) o.2) := ax_static (as := [w1, w2, w3]) (st := []) dX9_isBalanced_76 kc_7_56 rfl rfl (Nat.le_of_ble_eq_true rfl)
theorem sX9_isBalanced_76_1 : ab_X rom K cX9_isBalanced 7 2 76 ls [w3, w2, w1, v0] hp = (K 159 [w1, w2, w3] hp).bind (fun o => ab_X rom K cX9_isBalanced 7 2 79 ls (o.1.toList ++ [v0]) o.2) := ax_static (as := [w1, w2, w3]) (st := [v0]) dX9_isBalanced_76 kc_7_56 rfl rfl (Nat.le_of_ble_eq_true rfl)
theorem sX9_isBalanced_76_2 : ab_X rom K cX9_isBalanced 7 2 76 ls [w3, w2, w1, v0, v1] hp = (K 159 [w1, w2, w3] hp).bind (fun o => ab_X rom K cX9_isBalanced 7 2 79 ls (o.1.toList ++ [v0, v1]) o.2) := ax_static (as := [w1, w2, w3]) (st := [v0, v1]) dX9_isBalanced_76 kc_7_56 rfl rfl (Nat.le_of_ble_eq_true rfl)
theorem sX9_isBalanced_76_3 : ab_X rom K cX9_isBalanced 7 2 76 ls [w3, w2, w1, v0, v1, v2] hp = (K 159 [w1, w2, w3] hp).bind (fun o => ab_X rom K cX9_isBalanced 7 2 79 ls (o.1.toList ++ [v0, v1, v2]) o.2) := ax_static (as := [w1, w2, w3]) (st := [v0, v1, v2]) dX9_isBalanced_76 kc_7_56 rfl rfl (Nat.le_of_ble_eq_true rfl)
theorem dX9_isBalanced_79 : decode cX9_isBalanced 79 = .ok (.ifCond .eq 19, 3) := by decide +kernel
theorem sX9_isBalanced_79 : ab_X rom K cX9_isBalanced 7 2 79 ls (.int x :: st) hp = if x = 0 then ab_X rom K cX9_isBalanced 7 2 98 ls st hp else ab_X rom K cX9_isBalanced 7 2 82 ls st hp := ax_if_eq dX9_isBalanced_79 (by decide) rfl
theorem dX9_isBalanced_82 : decode cX9_isBalanced 82 = .ok (.iload_n 2, 1) := by decide +kernel
theorem sX9_isBalanced_82 : ab_X rom K cX9_isBalanced 7 2 82 (v0 :: v1 :: .int x :: ls) st hp = ab_X rom K cX9_isBalanced 7 2 83 (v0 :: v1 :: .int x :: ls) (.int x :: st) hp := ax_iload_n dX9_isBalanced_82 rfl rfl
theorem dX9_isBalanced_83 : decode cX9_isBalanced 83 = .ok (.i2l, 1) := by decide +kernel
theorem sX9_isBalanced_83 : ab_X rom K cX9_isBalanced 7 2 83 ls (.int x :: st) hp = ab_X rom K cX9_isBalanced 7 2 84 ls (.long x.toInt64 :: st) hp := ax_i2l dX9_isBalanced_83 rfl
theorem dX9_isBalanced_84 : decode cX9_isBalanced 84 = .ok (.ldc2_w 219, 3) := by decide +kernel
theorem sX9_isBalanced_84 : ab_X rom K cX9_isBalanced 7 2 84 ls st hp = ab_X rom K cX9_isBalanced 7 2 87 ls (.long (-1) :: st) hp := ax_ldc2 dX9_isBalanced_84 kl_7_219 rfl
theorem dX9_isBalanced_87 : decode cX9_isBalanced 87 = .ok (.lconst 1, 1) := by decide +kernel
theorem sX9_isBalanced_87 : ab_X rom K cX9_isBalanced 7 2 87 ls st hp = ab_X rom K cX9_isBalanced 7 2 88 ls (.long 1 :: st) hp := ax_lconst dX9_isBalanced_87 (by decide) rfl
theorem dX9_isBalanced_88 : decode cX9_isBalanced 88 = .ok (.invokestatic 56, 3) := by decide +kernel
theorem sX9_isBalanced_88_0 : ab_X rom K cX9_isBalanced 7 2 88 ls [w3, w2, w1] hp = (K 159 [w1, w2, w3] hp).bind (fun o => ab_X rom K cX9_isBalanced 7 2 91 ls (o.1.toList ++ []) o.2) := ax_static (as := [w1, w2, w3]) (st := []) dX9_isBalanced_88 kc_7_56 rfl rfl (Nat.le_of_ble_eq_true rfl)
theorem sX9_isBalanced_88_1 : ab_X rom K cX9_isBalanced 7 2 88 ls [w3, w2, w1, v0] hp = (K 159 [w1, w2, w3] hp).bind (fun o => ab_X rom K cX9_isBalanced 7 2 91 ls (o.1.toList ++ [v0]) o.2) := ax_static (as := [w1, w2, w3]) (st := [v0]) dX9_isBalanced_88 kc_7_56 rfl rfl (Nat.le_of_ble_eq_true rfl)
theorem sX9_isBalanced_88_2 : ab_X rom K cX9_isBalanced 7 2 88 ls [w3, w2, w1, v0, v1] hp = (K 159 [w1, w2, w3] hp).bind (fun o => ab_X rom K cX9_isBalanced 7 2 91 ls (o.1.toList ++ [v0, v1]) o.2) := ax_static (as := [w1, w2, w3]) (st := [v0, v1]) dX9_isBalanced_88 kc_7_56 rfl rfl (Nat.le_of_ble_eq_true rfl)
theorem sX9_isBalanced_88_3 : ab_X rom K cX9_isBalanced 7 2 88 ls [w3, w2, w1, v0, v1, v2] hp = (K 159 [w1, w2, w3] hp).bind (fun o => ab_X rom K cX9_isBalanced 7 2 91 ls (o.1.toList ++ [v0, v1, v2]) o.2) := ax_static (as := [w1, w2, w3]) (st := [v0, v1, v2]) dX9_isBalanced_88 kc_7_56 rfl rfl (Nat.le_of_ble_eq_true rfl)
theorem dX9_isBalanced_91 : decode cX9_isBalanced 91 = .ok (.ifCond .eq 7, 3) := by decide +kernel
theorem sX9_isBalanced_91 : ab_X rom K cX9_isBalanced 7 2 91 ls (.int x :: st) hp = if x = 0 then ab_X rom K cX9_isBalanced 7 2 98 ls st hp else ab_X rom K cX9_isBalanced 7 2 94 ls st hp := ax_if_eq dX9_isBalanced_91 (by decide) rfl
theorem dX9_isBalanced_94 : decode cX9_isBalanced 94 = .ok (.iconst 1, 1) := by decide +kernel
theorem sX9_isBalanced_94 : ab_X rom K cX9_isBalanced 7 2 94 ls st hp = ab_X rom K cX9_isBalanced 7 2 95 ls (.int 1 :: st) hp := ax_iconst dX9_isBalanced_94 (by decide) rfl
theorem dX9_isBalanced_95 : decode cX9_isBalanced 95 = .ok (.goto 4, 3) := by decide +kernel
theorem sX9_isBalanced_95 : ab_X rom K cX9_isBalanced 7 2 95 ls st hp = ab_X rom K cX9_isBalanced 7 2 99 ls st hp := ax_goto dX9_isBalanced_95 (by decide)
theorem dX9_isBalanced_98 : decode cX9_isBalanced 98 = .ok (.iconst 0, 1) := by decide +kernel
theorem sX9_isBalanced_98 : ab_X rom K cX9_isBalanced 7 2 98 ls st hp = ab_X rom K cX9_isBalanced 7 2 99 ls (.int 0 :: st) hp := ax_iconst dX9_isBalanced_98 (by decide) rfl
theorem dX9_isBalanced_99 : decode cX9_isBalanced 99 = .ok (.ireturn, 1) := by decide +kernel
theorem sX9_isBalanced_99 : ab_X rom K cX9_isBalanced 7 2 99 ls [.int x] hp = if x = 0 ∨ x = 1 then some (some (.int x), hp) else none := ay_zret dX9_isBalanced_99 rfl
end
