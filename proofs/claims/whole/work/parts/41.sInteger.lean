/-! java/lang/Integer: its methods step by step (printed by wip/whole/gen_steps.py) -/
section
variable {rom : List (List Int32)} {K : Nat → List Value → ab_H → Option ab_O} {ls st : List Value} {hp : ab_H} {x y z : Int32} {a a2 : Nat} {sp dp : Int32} {u w : Int64} {v0 v1 v2 v3 v4 v5 v6 v7 v8 v9 v10 v11 v12 v13 v14 v15 w1 w2 w3 w4 w5 w6 : Value}
theorem tJ6_bitCount_0f7a4 : ab_mT[264]? = some (yJ6_bitCount_0f7a4, cJ6_bitCount_0f7a4, 1, 1, 10) := by decide +kernel
theorem mJ6_bitCount_0f7a4 {d : Nat} {x0 : Int32} : ab_M rom (d + 1) 264 [.int x0] hp = ab_X rom (ab_M rom d) cJ6_bitCount_0f7a4 10 1 0 [.int x0] [] hp := ab_M_eq tJ6_bitCount_0f7a4 (Nat.le_of_ble_eq_true rfl)
theorem dJ6_bitCount_0f7a4_0 : decode cJ6_bitCount_0f7a4 0 = .ok (.iload_n 0, 1) := by decide +kernel
theorem sJ6_bitCount_0f7a4_0 : ab_X rom K cJ6_bitCount_0f7a4 10 1 0 (.int x :: ls) st hp = ab_X rom K cJ6_bitCount_0f7a4 10 1 1 (.int x :: ls) (.int x :: st) hp := ax_iload_n dJ6_bitCount_0f7a4_0 rfl rfl
theorem dJ6_bitCount_0f7a4_1 : decode cJ6_bitCount_0f7a4 1 = .ok (.iload_n 0, 1) := by decide +kernel
theorem sJ6_bitCount_0f7a4_1 : ab_X rom K cJ6_bitCount_0f7a4 10 1 1 (.int x :: ls) st hp = ab_X rom K cJ6_bitCount_0f7a4 10 1 2 (.int x :: ls) (.int x :: st) hp := ax_iload_n dJ6_bitCount_0f7a4_1 rfl rfl
theorem dJ6_bitCount_0f7a4_2 : decode cJ6_bitCount_0f7a4 2 = .ok (.iconst 1, 1) := by decide +kernel
theorem sJ6_bitCount_0f7a4_2 : ab_X rom K cJ6_bitCount_0f7a4 10 1 2 ls st hp = ab_X rom K cJ6_bitCount_0f7a4 10 1 3 ls (.int 1 :: st) hp := ax_iconst dJ6_bitCount_0f7a4_2 (by decide) rfl
theorem dJ6_bitCount_0f7a4_3 : decode cJ6_bitCount_0f7a4 3 = .ok (.iushr, 1) := by decide +kernel
theorem sJ6_bitCount_0f7a4_3 : ab_X rom K cJ6_bitCount_0f7a4 10 1 3 ls (.int y :: .int x :: st) hp = ab_X rom K cJ6_bitCount_0f7a4 10 1 4 ls (.int (x.toUInt32 >>> (y.toUInt32 &&& Int32.toUInt32 31)).toInt32 :: st) hp := ax_iushr dJ6_bitCount_0f7a4_3 rfl
theorem dJ6_bitCount_0f7a4_4 : decode cJ6_bitCount_0f7a4 4 = .ok (.ldc_w 265, 3) := by decide +kernel
theorem sJ6_bitCount_0f7a4_4 : ab_X rom K cJ6_bitCount_0f7a4 10 1 4 ls st hp = ab_X rom K cJ6_bitCount_0f7a4 10 1 7 ls (.int 1431655765 :: st) hp := ax_ldcw dJ6_bitCount_0f7a4_4 kk_10_265 rfl
theorem dJ6_bitCount_0f7a4_7 : decode cJ6_bitCount_0f7a4 7 = .ok (.iand, 1) := by decide +kernel
theorem sJ6_bitCount_0f7a4_7 : ab_X rom K cJ6_bitCount_0f7a4 10 1 7 ls (.int y :: .int x :: st) hp = ab_X rom K cJ6_bitCount_0f7a4 10 1 8 ls (.int (x &&& y) :: st) hp := ax_iand dJ6_bitCount_0f7a4_7 rfl
theorem dJ6_bitCount_0f7a4_8 : decode cJ6_bitCount_0f7a4 8 = .ok (.isub, 1) := by decide +kernel
theorem sJ6_bitCount_0f7a4_8 : ab_X rom K cJ6_bitCount_0f7a4 10 1 8 ls (.int y :: .int x :: st) hp = ab_X rom K cJ6_bitCount_0f7a4 10 1 9 ls (.int (x - y) :: st) hp := ax_isub dJ6_bitCount_0f7a4_8 rfl
theorem dJ6_bitCount_0f7a4_9 : decode cJ6_bitCount_0f7a4 9 = .ok (.istore_n 0, 1) := by decide +kernel
theorem sJ6_bitCount_0f7a4_9 : ab_X rom K cJ6_bitCount_0f7a4 10 1 9 (v0 :: ls) (.int x :: st) hp = ab_X rom K cJ6_bitCount_0f7a4 10 1 10 (.int x :: ls) st hp := ax_istore_n dJ6_bitCount_0f7a4_9 (ax_lt (v := v0) rfl) rfl rfl rfl
theorem dJ6_bitCount_0f7a4_10 : decode cJ6_bitCount_0f7a4 10 = .ok (.iload_n 0, 1) := by decide +kernel
theorem sJ6_bitCount_0f7a4_10 : ab_X rom K cJ6_bitCount_0f7a4 10 1 10 (.int x :: ls) st hp = ab_X rom K cJ6_bitCount_0f7a4 10 1 11 (.int x :: ls) (.int x :: st) hp := ax_iload_n dJ6_bitCount_0f7a4_10 rfl rfl
theorem dJ6_bitCount_0f7a4_11 : decode cJ6_bitCount_0f7a4 11 = .ok (.ldc_w 266, 3) := by decide +kernel
theorem sJ6_bitCount_0f7a4_11 : ab_X rom K cJ6_bitCount_0f7a4 10 1 11 ls st hp = ab_X rom K cJ6_bitCount_0f7a4 10 1 14 ls (.int 858993459 :: st) hp := ax_ldcw dJ6_bitCount_0f7a4_11 kk_10_266 rfl
theorem dJ6_bitCount_0f7a4_14 : decode cJ6_bitCount_0f7a4 14 = .ok (.iand, 1) := by decide +kernel
theorem sJ6_bitCount_0f7a4_14 : ab_X rom K cJ6_bitCount_0f7a4 10 1 14 ls (.int y :: .int x :: st) hp = ab_X rom K cJ6_bitCount_0f7a4 10 1 15 ls (.int (x &&& y) :: st) hp := ax_iand dJ6_bitCount_0f7a4_14 rfl
theorem dJ6_bitCount_0f7a4_15 : decode cJ6_bitCount_0f7a4 15 = .ok (.iload_n 0, 1) := by decide +kernel
theorem sJ6_bitCount_0f7a4_15 : ab_X rom K cJ6_bitCount_0f7a4 10 1 15 (.int x :: ls) st hp = ab_X rom K cJ6_bitCount_0f7a4 10 1 16 (.int x :: ls) (.int x :: st) hp := ax_iload_n dJ6_bitCount_0f7a4_15 rfl rfl
theorem dJ6_bitCount_0f7a4_16 : decode cJ6_bitCount_0f7a4 16 = .ok (.iconst 2, 1) := by decide +kernel
theorem sJ6_bitCount_0f7a4_16 : ab_X rom K cJ6_bitCount_0f7a4 10 1 16 ls st hp = ab_X rom K cJ6_bitCount_0f7a4 10 1 17 ls (.int 2 :: st) hp := ax_iconst dJ6_bitCount_0f7a4_16 (by decide) rfl
theorem dJ6_bitCount_0f7a4_17 : decode cJ6_bitCount_0f7a4 17 = .ok (.iushr, 1) := by decide +kernel
theorem sJ6_bitCount_0f7a4_17 : ab_X rom K cJ6_bitCount_0f7a4 10 1 17 ls (.int y :: .int x :: st) hp = ab_X rom K cJ6_bitCount_0f7a4 10 1 18 ls (.int (x.toUInt32 >>> (y.toUInt32 &&& Int32.toUInt32 31)).toInt32 :: st) hp := ax_iushr dJ6_bitCount_0f7a4_17 rfl
theorem dJ6_bitCount_0f7a4_18 : decode cJ6_bitCount_0f7a4 18 = .ok (.ldc_w 266, 3) := by decide +kernel
theorem sJ6_bitCount_0f7a4_18 : ab_X rom K cJ6_bitCount_0f7a4 10 1 18 ls st hp = ab_X rom K cJ6_bitCount_0f7a4 10 1 21 ls (.int 858993459 :: st) hp := ax_ldcw dJ6_bitCount_0f7a4_18 kk_10_266 rfl
theorem dJ6_bitCount_0f7a4_21 : decode cJ6_bitCount_0f7a4 21 = .ok (.iand, 1) := by decide +kernel
theorem sJ6_bitCount_0f7a4_21 : ab_X rom K cJ6_bitCount_0f7a4 10 1 21 ls (.int y :: .int x :: st) hp = ab_X rom K cJ6_bitCount_0f7a4 10 1 22 ls (.int (x &&& y) :: st) hp := ax_iand dJ6_bitCount_0f7a4_21 rfl
theorem dJ6_bitCount_0f7a4_22 : decode cJ6_bitCount_0f7a4 22 = .ok (.iadd, 1) := by decide +kernel
theorem sJ6_bitCount_0f7a4_22 : ab_X rom K cJ6_bitCount_0f7a4 10 1 22 ls (.int y :: .int x :: st) hp = ab_X rom K cJ6_bitCount_0f7a4 10 1 23 ls (.int (x + y) :: st) hp := ax_iadd dJ6_bitCount_0f7a4_22 rfl
theorem dJ6_bitCount_0f7a4_23 : decode cJ6_bitCount_0f7a4 23 = .ok (.istore_n 0, 1) := by decide +kernel
theorem sJ6_bitCount_0f7a4_23 : ab_X rom K cJ6_bitCount_0f7a4 10 1 23 (v0 :: ls) (.int x :: st) hp = ab_X rom K cJ6_bitCount_0f7a4 10 1 24 (.int x :: ls) st hp := ax_istore_n dJ6_bitCount_0f7a4_23 (ax_lt (v := v0) rfl) rfl rfl rfl
theorem dJ6_bitCount_0f7a4_24 : decode cJ6_bitCount_0f7a4 24 = .ok (.iload_n 0, 1) := by decide +kernel
theorem sJ6_bitCount_0f7a4_24 : ab_X rom K cJ6_bitCount_0f7a4 10 1 24 (.int x :: ls) st hp = ab_X rom K cJ6_bitCount_0f7a4 10 1 25 (.int x :: ls) (.int x :: st) hp := ax_iload_n dJ6_bitCount_0f7a4_24 rfl rfl
theorem dJ6_bitCount_0f7a4_25 : decode cJ6_bitCount_0f7a4 25 = .ok (.iload_n 0, 1) := by decide +kernel
theorem sJ6_bitCount_0f7a4_25 : ab_X rom K cJ6_bitCount_0f7a4 10 1 25 (.int x :: ls) st hp = ab_X rom K cJ6_bitCount_0f7a4 10 1 26 (.int x :: ls) (.int x :: st) hp := ax_iload_n dJ6_bitCount_0f7a4_25 rfl rfl
theorem dJ6_bitCount_0f7a4_26 : decode cJ6_bitCount_0f7a4 26 = .ok (.iconst 4, 1) := by decide +kernel
theorem sJ6_bitCount_0f7a4_26 : ab_X rom K cJ6_bitCount_0f7a4 10 1 26 ls st hp = ab_X rom K cJ6_bitCount_0f7a4 10 1 27 ls (.int 4 :: st) hp := ax_iconst dJ6_bitCount_0f7a4_26 (by decide) rfl
theorem dJ6_bitCount_0f7a4_27 : decode cJ6_bitCount_0f7a4 27 = .ok (.iushr, 1) := by decide +kernel
theorem sJ6_bitCount_0f7a4_27 : ab_X rom K cJ6_bitCount_0f7a4 10 1 27 ls (.int y :: .int x :: st) hp = ab_X rom K cJ6_bitCount_0f7a4 10 1 28 ls (.int (x.toUInt32 >>> (y.toUInt32 &&& Int32.toUInt32 31)).toInt32 :: st) hp := ax_iushr dJ6_bitCount_0f7a4_27 rfl
theorem dJ6_bitCount_0f7a4_28 : decode cJ6_bitCount_0f7a4 28 = .ok (.iadd, 1) := by decide +kernel
theorem sJ6_bitCount_0f7a4_28 : ab_X rom K cJ6_bitCount_0f7a4 10 1 28 ls (.int y :: .int x :: st) hp = ab_X rom K cJ6_bitCount_0f7a4 10 1 29 ls (.int (x + y) :: st) hp := ax_iadd dJ6_bitCount_0f7a4_28 rfl
theorem dJ6_bitCount_0f7a4_29 : decode cJ6_bitCount_0f7a4 29 = .ok (.ldc_w 267, 3) := by decide +kernel
theorem sJ6_bitCount_0f7a4_29 : ab_X rom K cJ6_bitCount_0f7a4 10 1 29 ls st hp = ab_X rom K cJ6_bitCount_0f7a4 10 1 32 ls (.int 252645135 :: st) hp := ax_ldcw dJ6_bitCount_0f7a4_29 kk_10_267 rfl
theorem dJ6_bitCount_0f7a4_32 : decode cJ6_bitCount_0f7a4 32 = .ok (.iand, 1) := by decide +kernel
theorem sJ6_bitCount_0f7a4_32 : ab_X rom K cJ6_bitCount_0f7a4 10 1 32 ls (.int y :: .int x :: st) hp = ab_X rom K cJ6_bitCount_0f7a4 10 1 33 ls (.int (x &&& y) :: st) hp := ax_iand dJ6_bitCount_0f7a4_32 rfl
theorem dJ6_bitCount_0f7a4_33 : decode cJ6_bitCount_0f7a4 33 = .ok (.istore_n 0, 1) := by decide +kernel
theorem sJ6_bitCount_0f7a4_33 : ab_X rom K cJ6_bitCount_0f7a4 10 1 33 (v0 :: ls) (.int x :: st) hp = ab_X rom K cJ6_bitCount_0f7a4 10 1 34 (.int x :: ls) st hp := ax_istore_n dJ6_bitCount_0f7a4_33 (ax_lt (v := v0) rfl) rfl rfl rfl
theorem dJ6_bitCount_0f7a4_34 : decode cJ6_bitCount_0f7a4 34 = .ok (.iload_n 0, 1) := by decide +kernel
theorem sJ6_bitCount_0f7a4_34 : ab_X rom K cJ6_bitCount_0f7a4 10 1 34 (.int x :: ls) st hp = ab_X rom K cJ6_bitCount_0f7a4 10 1 35 (.int x :: ls) (.int x :: st) hp := ax_iload_n dJ6_bitCount_0f7a4_34 rfl rfl
theorem dJ6_bitCount_0f7a4_35 : decode cJ6_bitCount_0f7a4 35 = .ok (.iload_n 0, 1) := by decide +kernel
theorem sJ6_bitCount_0f7a4_35 : ab_X rom K cJ6_bitCount_0f7a4 10 1 35 (.int x :: ls) st hp = ab_X rom K cJ6_bitCount_0f7a4 10 1 36 (.int x :: ls) (.int x :: st) hp := ax_iload_n dJ6_bitCount_0f7a4_35 rfl rfl
theorem dJ6_bitCount_0f7a4_36 : decode cJ6_bitCount_0f7a4 36 = .ok (.bipush 8, 2) := by decide +kernel
theorem sJ6_bitCount_0f7a4_36 : ab_X rom K cJ6_bitCount_0f7a4 10 1 36 ls st hp = ab_X rom K cJ6_bitCount_0f7a4 10 1 38 ls (.int 8 :: st) hp := ax_bipush dJ6_bitCount_0f7a4_36 (by decide) rfl
theorem dJ6_bitCount_0f7a4_38 : decode cJ6_bitCount_0f7a4 38 = .ok (.iushr, 1) := by decide +kernel
theorem sJ6_bitCount_0f7a4_38 : ab_X rom K cJ6_bitCount_0f7a4 10 1 38 ls (.int y :: .int x :: st) hp = ab_X rom K cJ6_bitCount_0f7a4 10 1 39 ls (.int (x.toUInt32 >>> (y.toUInt32 &&& Int32.toUInt32 31)).toInt32 :: st) hp := ax_iushr dJ6_bitCount_0f7a4_38 rfl
theorem dJ6_bitCount_0f7a4_39 : decode cJ6_bitCount_0f7a4 39 = .ok (.iadd, 1) := by decide +kernel
theorem sJ6_bitCount_0f7a4_39 : ab_X rom K cJ6_bitCount_0f7a4 10 1 39 ls (.int y :: .int x :: st) hp = ab_X rom K cJ6_bitCount_0f7a4 10 1 40 ls (.int (x + y) :: st) hp := ax_iadd dJ6_bitCount_0f7a4_39 rfl
theorem dJ6_bitCount_0f7a4_40 : decode cJ6_bitCount_0f7a4 40 = .ok (.istore_n 0, 1) := by decide +kernel
theorem sJ6_bitCount_0f7a4_40 : ab_X rom K cJ6_bitCount_0f7a4 10 1 40 (v0 :: ls) (.int x :: st) hp = ab_X rom K cJ6_bitCount_0f7a4 10 1 41 (.int x :: ls) st hp := ax_istore_n dJ6_bitCount_0f7a4_40 (ax_lt (v := v0) rfl) rfl rfl rfl
theorem dJ6_bitCount_0f7a4_41 : decode cJ6_bitCount_0f7a4 41 = .ok (.iload_n 0, 1) := by decide +kernel
theorem sJ6_bitCount_0f7a4_41 : ab_X rom K cJ6_bitCount_0f7a4 10 1 41 (.int x :: ls) st hp = ab_X rom K cJ6_bitCount_0f7a4 10 1 42 (.int x :: ls) (.int x :: st) hp := ax_iload_n dJ6_bitCount_0f7a4_41 rfl rfl
theorem dJ6_bitCount_0f7a4_42 : decode cJ6_bitCount_0f7a4 42 = .ok (.iload_n 0, 1) := by decide +kernel
theorem sJ6_bitCount_0f7a4_42 : ab_X rom K cJ6_bitCount_0f7a4 10 1 42 (.int x :: ls) st hp = ab_X rom K cJ6_bitCount_0f7a4 10 1 43 (.int x :: ls) (.int x :: st) hp := ax_iload_n dJ6_bitCount_0f7a4_42 rfl rfl
theorem dJ6_bitCount_0f7a4_43 : decode cJ6_bitCount_0f7a4 43 = .ok (.bipush 16, 2) := by decide +kernel
theorem sJ6_bitCount_0f7a4_43 : ab_X rom K cJ6_bitCount_0f7a4 10 1 43 ls st hp = ab_X rom K cJ6_bitCount_0f7a4 10 1 45 ls (.int 16 :: st) hp := ax_bipush dJ6_bitCount_0f7a4_43 (by decide) rfl
theorem dJ6_bitCount_0f7a4_45 : decode cJ6_bitCount_0f7a4 45 = .ok (.iushr, 1) := by decide +kernel
theorem sJ6_bitCount_0f7a4_45 : ab_X rom K cJ6_bitCount_0f7a4 10 1 45 ls (.int y :: .int x :: st) hp = ab_X rom K cJ6_bitCount_0f7a4 10 1 46 ls (.int (x.toUInt32 >>> (y.toUInt32 &&& Int32.toUInt32 31)).toInt32 :: st) hp := ax_iushr dJ6_bitCount_0f7a4_45 rfl
theorem dJ6_bitCount_0f7a4_46 : decode cJ6_bitCount_0f7a4 46 = .ok (.iadd, 1) := by decide +kernel
theorem sJ6_bitCount_0f7a4_46 : ab_X rom K cJ6_bitCount_0f7a4 10 1 46 ls (.int y :: .int x :: st) hp = ab_X rom K cJ6_bitCount_0f7a4 10 1 47 ls (.int (x + y) :: st) hp := ax_iadd dJ6_bitCount_0f7a4_46 rfl
theorem dJ6_bitCount_0f7a4_47 : decode cJ6_bitCount_0f7a4 47 = .ok (.istore_n 0, 1) := by decide +kernel
theorem sJ6_bitCount_0f7a4_47 : ab_X rom K cJ6_bitCount_0f7a4 10 1 47 (v0 :: ls) (.int x :: st) hp = ab_X rom K cJ6_bitCount_0f7a4 10 1 48 (.int x :: ls) st hp := ax_istore_n dJ6_bitCount_0f7a4_47 (ax_lt (v := v0) rfl) rfl rfl rfl
theorem dJ6_bitCount_0f7a4_48 : decode cJ6_bitCount_0f7a4 48 = .ok (.iload_n 0, 1) := by decide +kernel
theorem sJ6_bitCount_0f7a4_48 : ab_X rom K cJ6_bitCount_0f7a4 10 1 48 (.int x :: ls) st hp = ab_X rom K cJ6_bitCount_0f7a4 10 1 49 (.int x :: ls) (.int x :: st) hp := ax_iload_n dJ6_bitCount_0f7a4_48 rfl rfl
theorem dJ6_bitCount_0f7a4_49 : decode cJ6_bitCount_0f7a4 49 = .ok (.bipush 63, 2) := by decide +kernel
theorem sJ6_bitCount_0f7a4_49 : ab_X rom K cJ6_bitCount_0f7a4 10 1 49 ls st hp = ab_X rom K cJ6_bitCount_0f7a4 10 1 51 ls (.int 63 :: st) hp := ax_bipush dJ6_bitCount_0f7a4_49 (by decide) rfl
theorem dJ6_bitCount_0f7a4_51 : decode cJ6_bitCount_0f7a4 51 = .ok (.iand, 1) := by decide +kernel
theorem sJ6_bitCount_0f7a4_51 : ab_X rom K cJ6_bitCount_0f7a4 10 1 51 ls (.int y :: .int x :: st) hp = ab_X rom K cJ6_bitCount_0f7a4 10 1 52 ls (.int (x &&& y) :: st) hp := ax_iand dJ6_bitCount_0f7a4_51 rfl
theorem dJ6_bitCount_0f7a4_52 : decode cJ6_bitCount_0f7a4 52 = .ok (.ireturn, 1) := by decide +kernel
theorem sJ6_bitCount_0f7a4_52 : ab_X rom K cJ6_bitCount_0f7a4 10 1 52 ls [.int x] hp = some (some (.int x), hp) := ax_iret dJ6_bitCount_0f7a4_52 rfl
theorem tJ6_numberOfTrailingZeros_0f7a4 : ab_mT[265]? = some (yJ6_numberOfTrailingZeros_0f7a4, cJ6_numberOfTrailingZeros_0f7a4, 2, 1, 10) := by decide +kernel
theorem mJ6_numberOfTrailingZeros_0f7a4 {d : Nat} {x0 : Int32} : ab_M rom (d + 1) 265 [.int x0] hp = ab_X rom (ab_M rom d) cJ6_numberOfTrailingZeros_0f7a4 10 1 0 [.int x0, .null] [] hp := ab_M_eq tJ6_numberOfTrailingZeros_0f7a4 (Nat.le_of_ble_eq_true rfl)
theorem dJ6_numberOfTrailingZeros_0f7a4_0 : decode cJ6_numberOfTrailingZeros_0f7a4 0 = .ok (.iload_n 0, 1) := by decide +kernel
theorem sJ6_numberOfTrailingZeros_0f7a4_0 : ab_X rom K cJ6_numberOfTrailingZeros_0f7a4 10 1 0 (.int x :: ls) st hp = ab_X rom K cJ6_numberOfTrailingZeros_0f7a4 10 1 1 (.int x :: ls) (.int x :: st) hp := ax_iload_n dJ6_numberOfTrailingZeros_0f7a4_0 rfl rfl
theorem dJ6_numberOfTrailingZeros_0f7a4_1 : decode cJ6_numberOfTrailingZeros_0f7a4 1 = .ok (.iconst (-1), 1) := by decide +kernel
theorem sJ6_numberOfTrailingZeros_0f7a4_1 : ab_X rom K cJ6_numberOfTrailingZeros_0f7a4 10 1 1 ls st hp = ab_X rom K cJ6_numberOfTrailingZeros_0f7a4 10 1 2 ls (.int (-1) :: st) hp := ax_iconst dJ6_numberOfTrailingZeros_0f7a4_1 (by decide) rfl
theorem dJ6_numberOfTrailingZeros_0f7a4_2 : decode cJ6_numberOfTrailingZeros_0f7a4 2 = .ok (.ixor, 1) := by decide +kernel
theorem sJ6_numberOfTrailingZeros_0f7a4_2 : ab_X rom K cJ6_numberOfTrailingZeros_0f7a4 10 1 2 ls (.int y :: .int x :: st) hp = ab_X rom K cJ6_numberOfTrailingZeros_0f7a4 10 1 3 ls (.int (x ^^^ y) :: st) hp := ax_ixor dJ6_numberOfTrailingZeros_0f7a4_2 rfl
theorem dJ6_numberOfTrailingZeros_0f7a4_3 : decode cJ6_numberOfTrailingZeros_0f7a4 3 = .ok (.iload_n 0, 1) := by decide +kernel
theorem sJ6_numberOfTrailingZeros_0f7a4_3 : ab_X rom K cJ6_numberOfTrailingZeros_0f7a4 10 1 3 (.int x :: ls) st hp = ab_X rom K cJ6_numberOfTrailingZeros_0f7a4 10 1 4 (.int x :: ls) (.int x :: st) hp := ax_iload_n dJ6_numberOfTrailingZeros_0f7a4_3 rfl rfl
theorem dJ6_numberOfTrailingZeros_0f7a4_4 : decode cJ6_numberOfTrailingZeros_0f7a4 4 = .ok (.iconst 1, 1) := by decide +kernel
theorem sJ6_numberOfTrailingZeros_0f7a4_4 : ab_X rom K cJ6_numberOfTrailingZeros_0f7a4 10 1 4 ls st hp = ab_X rom K cJ6_numberOfTrailingZeros_0f7a4 10 1 5 ls (.int 1 :: st) hp := ax_iconst dJ6_numberOfTrailingZeros_0f7a4_4 (by decide) rfl
theorem dJ6_numberOfTrailingZeros_0f7a4_5 : decode cJ6_numberOfTrailingZeros_0f7a4 5 = .ok (.isub, 1) := by decide +kernel
theorem sJ6_numberOfTrailingZeros_0f7a4_5 : ab_X rom K cJ6_numberOfTrailingZeros_0f7a4 10 1 5 ls (.int y :: .int x :: st) hp = ab_X rom K cJ6_numberOfTrailingZeros_0f7a4 10 1 6 ls (.int (x - y) :: st) hp := ax_isub dJ6_numberOfTrailingZeros_0f7a4_5 rfl
theorem dJ6_numberOfTrailingZeros_0f7a4_6 : decode cJ6_numberOfTrailingZeros_0f7a4 6 = .ok (.iand, 1) := by decide +kernel
theorem sJ6_numberOfTrailingZeros_0f7a4_6 : ab_X rom K cJ6_numberOfTrailingZeros_0f7a4 10 1 6 ls (.int y :: .int x :: st) hp = ab_X rom K cJ6_numberOfTrailingZeros_0f7a4 10 1 7 ls (.int (x &&& y) :: st) hp := ax_iand dJ6_numberOfTrailingZeros_0f7a4_6 rfl
theorem dJ6_numberOfTrailingZeros_0f7a4_7 : decode cJ6_numberOfTrailingZeros_0f7a4 7 = .ok (.istore_n 0, 1) := by decide +kernel
theorem sJ6_numberOfTrailingZeros_0f7a4_7 : ab_X rom K cJ6_numberOfTrailingZeros_0f7a4 10 1 7 (v0 :: ls) (.int x :: st) hp = ab_X rom K cJ6_numberOfTrailingZeros_0f7a4 10 1 8 (.int x :: ls) st hp := ax_istore_n dJ6_numberOfTrailingZeros_0f7a4_7 (ax_lt (v := v0) rfl) rfl rfl rfl
theorem dJ6_numberOfTrailingZeros_0f7a4_8 : decode cJ6_numberOfTrailingZeros_0f7a4 8 = .ok (.iload_n 0, 1) := by decide +kernel
theorem sJ6_numberOfTrailingZeros_0f7a4_8 : ab_X rom K cJ6_numberOfTrailingZeros_0f7a4 10 1 8 (.int x :: ls) st hp = ab_X rom K cJ6_numberOfTrailingZeros_0f7a4 10 1 9 (.int x :: ls) (.int x :: st) hp := ax_iload_n dJ6_numberOfTrailingZeros_0f7a4_8 rfl rfl
theorem dJ6_numberOfTrailingZeros_0f7a4_9 : decode cJ6_numberOfTrailingZeros_0f7a4 9 = .ok (.ifCond .gt 8, 3) := by decide +kernel
theorem sJ6_numberOfTrailingZeros_0f7a4_9 : ab_X rom K cJ6_numberOfTrailingZeros_0f7a4 10 1 9 ls (.int x :: st) hp = if 0 < x then ab_X rom K cJ6_numberOfTrailingZeros_0f7a4 10 1 17 ls st hp else ab_X rom K cJ6_numberOfTrailingZeros_0f7a4 10 1 12 ls st hp := ax_if_gt dJ6_numberOfTrailingZeros_0f7a4_9 (by decide) rfl
theorem dJ6_numberOfTrailingZeros_0f7a4_12 : decode cJ6_numberOfTrailingZeros_0f7a4 12 = .ok (.iload_n 0, 1) := by decide +kernel
theorem sJ6_numberOfTrailingZeros_0f7a4_12 : ab_X rom K cJ6_numberOfTrailingZeros_0f7a4 10 1 12 (.int x :: ls) st hp = ab_X rom K cJ6_numberOfTrailingZeros_0f7a4 10 1 13 (.int x :: ls) (.int x :: st) hp := ax_iload_n dJ6_numberOfTrailingZeros_0f7a4_12 rfl rfl
theorem dJ6_numberOfTrailingZeros_0f7a4_13 : decode cJ6_numberOfTrailingZeros_0f7a4 13 = .ok (.bipush 32, 2) := by decide +kernel
theorem sJ6_numberOfTrailingZeros_0f7a4_13 : ab_X rom K cJ6_numberOfTrailingZeros_0f7a4 10 1 13 ls st hp = ab_X rom K cJ6_numberOfTrailingZeros_0f7a4 10 1 15 ls (.int 32 :: st) hp := ax_bipush dJ6_numberOfTrailingZeros_0f7a4_13 (by decide) rfl
theorem dJ6_numberOfTrailingZeros_0f7a4_15 : decode cJ6_numberOfTrailingZeros_0f7a4 15 = .ok (.iand, 1) := by decide +kernel
theorem sJ6_numberOfTrailingZeros_0f7a4_15 : ab_X rom K cJ6_numberOfTrailingZeros_0f7a4 10 1 15 ls (.int y :: .int x :: st) hp = ab_X rom K cJ6_numberOfTrailingZeros_0f7a4 10 1 16 ls (.int (x &&& y) :: st) hp := ax_iand dJ6_numberOfTrailingZeros_0f7a4_15 rfl
theorem dJ6_numberOfTrailingZeros_0f7a4_16 : decode cJ6_numberOfTrailingZeros_0f7a4 16 = .ok (.ireturn, 1) := by decide +kernel
theorem sJ6_numberOfTrailingZeros_0f7a4_16 : ab_X rom K cJ6_numberOfTrailingZeros_0f7a4 10 1 16 ls [.int x] hp = some (some (.int x), hp) := ax_iret dJ6_numberOfTrailingZeros_0f7a4_16 rfl
theorem dJ6_numberOfTrailingZeros_0f7a4_17 : decode cJ6_numberOfTrailingZeros_0f7a4 17 = .ok (.iconst 1, 1) := by decide +kernel
theorem sJ6_numberOfTrailingZeros_0f7a4_17 : ab_X rom K cJ6_numberOfTrailingZeros_0f7a4 10 1 17 ls st hp = ab_X rom K cJ6_numberOfTrailingZeros_0f7a4 10 1 18 ls (.int 1 :: st) hp := ax_iconst dJ6_numberOfTrailingZeros_0f7a4_17 (by decide) rfl
theorem dJ6_numberOfTrailingZeros_0f7a4_18 : decode cJ6_numberOfTrailingZeros_0f7a4 18 = .ok (.istore_n 1, 1) := by decide +kernel
theorem sJ6_numberOfTrailingZeros_0f7a4_18i : ab_X rom K cJ6_numberOfTrailingZeros_0f7a4 10 1 18 (.int y :: v1 :: ls) (.int x :: st) hp = ab_X rom K cJ6_numberOfTrailingZeros_0f7a4 10 1 19 (.int y :: .int x :: ls) st hp := ax_istore_n dJ6_numberOfTrailingZeros_0f7a4_18 (ax_lt (v := v1) rfl) (ab_nl_c1 (j := 0) (v := .int y) rfl (ab_c1_int _)) rfl rfl
theorem sJ6_numberOfTrailingZeros_0f7a4_18r : ab_X rom K cJ6_numberOfTrailingZeros_0f7a4 10 1 18 (.ref a2 :: v1 :: ls) (.int x :: st) hp = ab_X rom K cJ6_numberOfTrailingZeros_0f7a4 10 1 19 (.ref a2 :: .int x :: ls) st hp := ax_istore_n dJ6_numberOfTrailingZeros_0f7a4_18 (ax_lt (v := v1) rfl) (ab_nl_c1 (j := 0) (v := .ref a2) rfl (ab_c1_ref _)) rfl rfl
theorem sJ6_numberOfTrailingZeros_0f7a4_18n : ab_X rom K cJ6_numberOfTrailingZeros_0f7a4 10 1 18 (.null :: v1 :: ls) (.int x :: st) hp = ab_X rom K cJ6_numberOfTrailingZeros_0f7a4 10 1 19 (.null :: .int x :: ls) st hp := ax_istore_n dJ6_numberOfTrailingZeros_0f7a4_18 (ax_lt (v := v1) rfl) (ab_nl_c1 (j := 0) (v := .null) rfl ab_c1_null) rfl rfl
theorem dJ6_numberOfTrailingZeros_0f7a4_19 : decode cJ6_numberOfTrailingZeros_0f7a4 19 = .ok (.iload_n 0, 1) := by decide +kernel
theorem sJ6_numberOfTrailingZeros_0f7a4_19 : ab_X rom K cJ6_numberOfTrailingZeros_0f7a4 10 1 19 (.int x :: ls) st hp = ab_X rom K cJ6_numberOfTrailingZeros_0f7a4 10 1 20 (.int x :: ls) (.int x :: st) hp := ax_iload_n dJ6_numberOfTrailingZeros_0f7a4_19 rfl rfl
theorem dJ6_numberOfTrailingZeros_0f7a4_20 : decode cJ6_numberOfTrailingZeros_0f7a4 20 = .ok (.ldc_w 264, 3) := by decide +kernel
theorem sJ6_numberOfTrailingZeros_0f7a4_20 : ab_X rom K cJ6_numberOfTrailingZeros_0f7a4 10 1 20 ls st hp = ab_X rom K cJ6_numberOfTrailingZeros_0f7a4 10 1 23 ls (.int 65536 :: st) hp := ax_ldcw dJ6_numberOfTrailingZeros_0f7a4_20 kk_10_264 rfl
theorem dJ6_numberOfTrailingZeros_0f7a4_23 : decode cJ6_numberOfTrailingZeros_0f7a4 23 = .ok (.if_icmp .le 11, 3) := by decide +kernel
theorem sJ6_numberOfTrailingZeros_0f7a4_23 : ab_X rom K cJ6_numberOfTrailingZeros_0f7a4 10 1 23 ls (.int y :: .int x :: st) hp = if y < x then ab_X rom K cJ6_numberOfTrailingZeros_0f7a4 10 1 26 ls st hp else ab_X rom K cJ6_numberOfTrailingZeros_0f7a4 10 1 34 ls st hp := ax_icmp_le dJ6_numberOfTrailingZeros_0f7a4_23 (by decide) rfl
theorem dJ6_numberOfTrailingZeros_0f7a4_26 : decode cJ6_numberOfTrailingZeros_0f7a4 26 = .ok (.iinc 1 16, 3) := by decide +kernel
theorem sJ6_numberOfTrailingZeros_0f7a4_26i : ab_X rom K cJ6_numberOfTrailingZeros_0f7a4 10 1 26 (.int y :: .int x :: ls) st hp = ab_X rom K cJ6_numberOfTrailingZeros_0f7a4 10 1 29 (.int y :: .int (x + 16) :: ls) st hp := ax_iinc dJ6_numberOfTrailingZeros_0f7a4_26 rfl (ab_nl_c1 (j := 0) (v := .int y) rfl (ab_c1_int _)) (by decide) rfl rfl
theorem sJ6_numberOfTrailingZeros_0f7a4_26r : ab_X rom K cJ6_numberOfTrailingZeros_0f7a4 10 1 26 (.ref a2 :: .int x :: ls) st hp = ab_X rom K cJ6_numberOfTrailingZeros_0f7a4 10 1 29 (.ref a2 :: .int (x + 16) :: ls) st hp := ax_iinc dJ6_numberOfTrailingZeros_0f7a4_26 rfl (ab_nl_c1 (j := 0) (v := .ref a2) rfl (ab_c1_ref _)) (by decide) rfl rfl
theorem sJ6_numberOfTrailingZeros_0f7a4_26n : ab_X rom K cJ6_numberOfTrailingZeros_0f7a4 10 1 26 (.null :: .int x :: ls) st hp = ab_X rom K cJ6_numberOfTrailingZeros_0f7a4 10 1 29 (.null :: .int (x + 16) :: ls) st hp := ax_iinc dJ6_numberOfTrailingZeros_0f7a4_26 rfl (ab_nl_c1 (j := 0) (v := .null) rfl ab_c1_null) (by decide) rfl rfl
theorem dJ6_numberOfTrailingZeros_0f7a4_29 : decode cJ6_numberOfTrailingZeros_0f7a4 29 = .ok (.iload_n 0, 1) := by decide +kernel
theorem sJ6_numberOfTrailingZeros_0f7a4_29 : ab_X rom K cJ6_numberOfTrailingZeros_0f7a4 10 1 29 (.int x :: ls) st hp = ab_X rom K cJ6_numberOfTrailingZeros_0f7a4 10 1 30 (.int x :: ls) (.int x :: st) hp := ax_iload_n dJ6_numberOfTrailingZeros_0f7a4_29 rfl rfl
theorem dJ6_numberOfTrailingZeros_0f7a4_30 : decode cJ6_numberOfTrailingZeros_0f7a4 30 = .ok (.bipush 16, 2) := by decide +kernel
theorem sJ6_numberOfTrailingZeros_0f7a4_30 : ab_X rom K cJ6_numberOfTrailingZeros_0f7a4 10 1 30 ls st hp = ab_X rom K cJ6_numberOfTrailingZeros_0f7a4 10 1 32 ls (.int 16 :: st) hp := ax_bipush dJ6_numberOfTrailingZeros_0f7a4_30 (by decide) rfl
theorem dJ6_numberOfTrailingZeros_0f7a4_32 : decode cJ6_numberOfTrailingZeros_0f7a4 32 = .ok (.iushr, 1) := by decide +kernel
theorem sJ6_numberOfTrailingZeros_0f7a4_32 : ab_X rom K cJ6_numberOfTrailingZeros_0f7a4 10 1 32 ls (.int y :: .int x :: st) hp = ab_X rom K cJ6_numberOfTrailingZeros_0f7a4 10 1 33 ls (.int (x.toUInt32 >>> (y.toUInt32 &&& Int32.toUInt32 31)).toInt32 :: st) hp := ax_iushr dJ6_numberOfTrailingZeros_0f7a4_32 rfl
theorem dJ6_numberOfTrailingZeros_0f7a4_33 : decode cJ6_numberOfTrailingZeros_0f7a4 33 = .ok (.istore_n 0, 1) := by decide +kernel
theorem sJ6_numberOfTrailingZeros_0f7a4_33 : ab_X rom K cJ6_numberOfTrailingZeros_0f7a4 10 1 33 (v0 :: ls) (.int x :: st) hp = ab_X rom K cJ6_numberOfTrailingZeros_0f7a4 10 1 34 (.int x :: ls) st hp := ax_istore_n dJ6_numberOfTrailingZeros_0f7a4_33 (ax_lt (v := v0) rfl) rfl rfl rfl
theorem dJ6_numberOfTrailingZeros_0f7a4_34 : decode cJ6_numberOfTrailingZeros_0f7a4 34 = .ok (.iload_n 0, 1) := by decide +kernel
theorem sJ6_numberOfTrailingZeros_0f7a4_34 : ab_X rom K cJ6_numberOfTrailingZeros_0f7a4 10 1 34 (.int x :: ls) st hp = ab_X rom K cJ6_numberOfTrailingZeros_0f7a4 10 1 35 (.int x :: ls) (.int x :: st) hp := ax_iload_n dJ6_numberOfTrailingZeros_0f7a4_34 rfl rfl
theorem dJ6_numberOfTrailingZeros_0f7a4_35 : decode cJ6_numberOfTrailingZeros_0f7a4 35 = .ok (.sipush 256, 3) := by decide +kernel
theorem sJ6_numberOfTrailingZeros_0f7a4_35 : ab_X rom K cJ6_numberOfTrailingZeros_0f7a4 10 1 35 ls st hp = ab_X rom K cJ6_numberOfTrailingZeros_0f7a4 10 1 38 ls (.int 256 :: st) hp := ax_sipush dJ6_numberOfTrailingZeros_0f7a4_35 (by decide) rfl
theorem dJ6_numberOfTrailingZeros_0f7a4_38 : decode cJ6_numberOfTrailingZeros_0f7a4 38 = .ok (.if_icmp .le 11, 3) := by decide +kernel
theorem sJ6_numberOfTrailingZeros_0f7a4_38 : ab_X rom K cJ6_numberOfTrailingZeros_0f7a4 10 1 38 ls (.int y :: .int x :: st) hp = if y < x then ab_X rom K cJ6_numberOfTrailingZeros_0f7a4 10 1 41 ls st hp else ab_X rom K cJ6_numberOfTrailingZeros_0f7a4 10 1 49 ls st hp := ax_icmp_le dJ6_numberOfTrailingZeros_0f7a4_38 (by decide) rfl
theorem dJ6_numberOfTrailingZeros_0f7a4_41 : decode cJ6_numberOfTrailingZeros_0f7a4 41 = .ok (.iinc 1 8, 3) := by decide +kernel
theorem sJ6_numberOfTrailingZeros_0f7a4_41i : ab_X rom K cJ6_numberOfTrailingZeros_0f7a4 10 1 41 (.int y :: .int x :: ls) st hp = ab_X rom K cJ6_numberOfTrailingZeros_0f7a4 10 1 44 (.int y :: .int (x + 8) :: ls) st hp := ax_iinc dJ6_numberOfTrailingZeros_0f7a4_41 rfl (ab_nl_c1 (j := 0) (v := .int y) rfl (ab_c1_int _)) (by decide) rfl rfl
theorem sJ6_numberOfTrailingZeros_0f7a4_41r : ab_X rom K cJ6_numberOfTrailingZeros_0f7a4 10 1 41 (.ref a2 :: .int x :: ls) st hp = ab_X rom K cJ6_numberOfTrailingZeros_0f7a4 10 1 44 (.ref a2 :: .int (x + 8) :: ls) st hp := ax_iinc dJ6_numberOfTrailingZeros_0f7a4_41 rfl (ab_nl_c1 (j := 0) (v := .ref a2) rfl (ab_c1_ref _)) (by decide) rfl rfl
theorem sJ6_numberOfTrailingZeros_0f7a4_41n : ab_X rom K cJ6_numberOfTrailingZeros_0f7a4 10 1 41 (.null :: .int x :: ls) st hp = ab_X rom K cJ6_numberOfTrailingZeros_0f7a4 10 1 44 (.null :: .int (x + 8) :: ls) st hp := ax_iinc dJ6_numberOfTrailingZeros_0f7a4_41 rfl (ab_nl_c1 (j := 0) (v := .null) rfl ab_c1_null) (by decide) rfl rfl
theorem dJ6_numberOfTrailingZeros_0f7a4_44 : decode cJ6_numberOfTrailingZeros_0f7a4 44 = .ok (.iload_n 0, 1) := by decide +kernel
theorem sJ6_numberOfTrailingZeros_0f7a4_44 : ab_X rom K cJ6_numberOfTrailingZeros_0f7a4 10 1 44 (.int x :: ls) st hp = ab_X rom K cJ6_numberOfTrailingZeros_0f7a4 10 1 45 (.int x :: ls) (.int x :: st) hp := ax_iload_n dJ6_numberOfTrailingZeros_0f7a4_44 rfl rfl
theorem dJ6_numberOfTrailingZeros_0f7a4_45 : decode cJ6_numberOfTrailingZeros_0f7a4 45 = .ok (.bipush 8, 2) := by decide +kernel
theorem sJ6_numberOfTrailingZeros_0f7a4_45 : ab_X rom K cJ6_numberOfTrailingZeros_0f7a4 10 1 45 ls st hp = ab_X rom K cJ6_numberOfTrailingZeros_0f7a4 10 1 47 ls (.int 8 :: st) hp := ax_bipush dJ6_numberOfTrailingZeros_0f7a4_45 (by decide) rfl
theorem dJ6_numberOfTrailingZeros_0f7a4_47 : decode cJ6_numberOfTrailingZeros_0f7a4 47 = .ok (.iushr, 1) := by decide +kernel
theorem sJ6_numberOfTrailingZeros_0f7a4_47 : ab_X rom K cJ6_numberOfTrailingZeros_0f7a4 10 1 47 ls (.int y :: .int x :: st) hp = ab_X rom K cJ6_numberOfTrailingZeros_0f7a4 10 1 48 ls (.int (x.toUInt32 >>> (y.toUInt32 &&& Int32.toUInt32 31)).toInt32 :: st) hp := ax_iushr dJ6_numberOfTrailingZeros_0f7a4_47 rfl
theorem dJ6_numberOfTrailingZeros_0f7a4_48 : decode cJ6_numberOfTrailingZeros_0f7a4 48 = .ok (.istore_n 0, 1) := by decide +kernel
theorem sJ6_numberOfTrailingZeros_0f7a4_48 : ab_X rom K cJ6_numberOfTrailingZeros_0f7a4 10 1 48 (v0 :: ls) (.int x :: st) hp = ab_X rom K cJ6_numberOfTrailingZeros_0f7a4 10 1 49 (.int x :: ls) st hp := ax_istore_n dJ6_numberOfTrailingZeros_0f7a4_48 (ax_lt (v := v0) rfl) rfl rfl rfl
theorem dJ6_numberOfTrailingZeros_0f7a4_49 : decode cJ6_numberOfTrailingZeros_0f7a4 49 = .ok (.iload_n 0, 1) := by decide +kernel
theorem sJ6_numberOfTrailingZeros_0f7a4_49 : ab_X rom K cJ6_numberOfTrailingZeros_0f7a4 10 1 49 (.int x :: ls) st hp = ab_X rom K cJ6_numberOfTrailingZeros_0f7a4 10 1 50 (.int x :: ls) (.int x :: st) hp := ax_iload_n dJ6_numberOfTrailingZeros_0f7a4_49 rfl rfl
theorem dJ6_numberOfTrailingZeros_0f7a4_50 : decode cJ6_numberOfTrailingZeros_0f7a4 50 = .ok (.bipush 16, 2) := by decide +kernel
theorem sJ6_numberOfTrailingZeros_0f7a4_50 : ab_X rom K cJ6_numberOfTrailingZeros_0f7a4 10 1 50 ls st hp = ab_X rom K cJ6_numberOfTrailingZeros_0f7a4 10 1 52 ls (.int 16 :: st) hp := ax_bipush dJ6_numberOfTrailingZeros_0f7a4_50 (by decide) rfl
theorem dJ6_numberOfTrailingZeros_0f7a4_52 : decode cJ6_numberOfTrailingZeros_0f7a4 52 = .ok (.if_icmp .le 10, 3) := by decide +kernel
theorem sJ6_numberOfTrailingZeros_0f7a4_52 : ab_X rom K cJ6_numberOfTrailingZeros_0f7a4 10 1 52 ls (.int y :: .int x :: st) hp = if y < x then ab_X rom K cJ6_numberOfTrailingZeros_0f7a4 10 1 55 ls st hp else ab_X rom K cJ6_numberOfTrailingZeros_0f7a4 10 1 62 ls st hp := ax_icmp_le dJ6_numberOfTrailingZeros_0f7a4_52 (by decide) rfl
theorem dJ6_numberOfTrailingZeros_0f7a4_55 : decode cJ6_numberOfTrailingZeros_0f7a4 55 = .ok (.iinc 1 4, 3) := by decide +kernel
theorem sJ6_numberOfTrailingZeros_0f7a4_55i : ab_X rom K cJ6_numberOfTrailingZeros_0f7a4 10 1 55 (.int y :: .int x :: ls) st hp = ab_X rom K cJ6_numberOfTrailingZeros_0f7a4 10 1 58 (.int y :: .int (x + 4) :: ls) st hp := ax_iinc dJ6_numberOfTrailingZeros_0f7a4_55 rfl (ab_nl_c1 (j := 0) (v := .int y) rfl (ab_c1_int _)) (by decide) rfl rfl
theorem sJ6_numberOfTrailingZeros_0f7a4_55r : ab_X rom K cJ6_numberOfTrailingZeros_0f7a4 10 1 55 (.ref a2 :: .int x :: ls) st hp = ab_X rom K cJ6_numberOfTrailingZeros_0f7a4 10 1 58 (.ref a2 :: .int (x + 4) :: ls) st hp := ax_iinc dJ6_numberOfTrailingZeros_0f7a4_55 rfl (ab_nl_c1 (j := 0) (v := .ref a2) rfl (ab_c1_ref _)) (by decide) rfl rfl
theorem sJ6_numberOfTrailingZeros_0f7a4_55n : ab_X rom K cJ6_numberOfTrailingZeros_0f7a4 10 1 55 (.null :: .int x :: ls) st hp = ab_X rom K cJ6_numberOfTrailingZeros_0f7a4 10 1 58 (.null :: .int (x + 4) :: ls) st hp := ax_iinc dJ6_numberOfTrailingZeros_0f7a4_55 rfl (ab_nl_c1 (j := 0) (v := .null) rfl ab_c1_null) (by decide) rfl rfl
theorem dJ6_numberOfTrailingZeros_0f7a4_58 : decode cJ6_numberOfTrailingZeros_0f7a4 58 = .ok (.iload_n 0, 1) := by decide +kernel
theorem sJ6_numberOfTrailingZeros_0f7a4_58 : ab_X rom K cJ6_numberOfTrailingZeros_0f7a4 10 1 58 (.int x :: ls) st hp = ab_X rom K cJ6_numberOfTrailingZeros_0f7a4 10 1 59 (.int x :: ls) (.int x :: st) hp := ax_iload_n dJ6_numberOfTrailingZeros_0f7a4_58 rfl rfl
theorem dJ6_numberOfTrailingZeros_0f7a4_59 : decode cJ6_numberOfTrailingZeros_0f7a4 59 = .ok (.iconst 4, 1) := by decide +kernel
theorem sJ6_numberOfTrailingZeros_0f7a4_59 : ab_X rom K cJ6_numberOfTrailingZeros_0f7a4 10 1 59 ls st hp = ab_X rom K cJ6_numberOfTrailingZeros_0f7a4 10 1 60 ls (.int 4 :: st) hp := ax_iconst dJ6_numberOfTrailingZeros_0f7a4_59 (by decide) rfl
theorem dJ6_numberOfTrailingZeros_0f7a4_60 : decode cJ6_numberOfTrailingZeros_0f7a4 60 = .ok (.iushr, 1) := by decide +kernel
theorem sJ6_numberOfTrailingZeros_0f7a4_60 : ab_X rom K cJ6_numberOfTrailingZeros_0f7a4 10 1 60 ls (.int y :: .int x :: st) hp = ab_X rom K cJ6_numberOfTrailingZeros_0f7a4 10 1 61 ls (.int (x.toUInt32 >>> (y.toUInt32 &&& Int32.toUInt32 31)).toInt32 :: st) hp := ax_iushr dJ6_numberOfTrailingZeros_0f7a4_60 rfl
theorem dJ6_numberOfTrailingZeros_0f7a4_61 : decode cJ6_numberOfTrailingZeros_0f7a4 61 = .ok (.istore_n 0, 1) := by decide +kernel
theorem sJ6_numberOfTrailingZeros_0f7a4_61 : ab_X rom K cJ6_numberOfTrailingZeros_0f7a4 10 1 61 (v0 :: ls) (.int x :: st) hp = ab_X rom K cJ6_numberOfTrailingZeros_0f7a4 10 1 62 (.int x :: ls) st hp := ax_istore_n dJ6_numberOfTrailingZeros_0f7a4_61 (ax_lt (v := v0) rfl) rfl rfl rfl
theorem dJ6_numberOfTrailingZeros_0f7a4_62 : decode cJ6_numberOfTrailingZeros_0f7a4 62 = .ok (.iload_n 0, 1) := by decide +kernel
theorem sJ6_numberOfTrailingZeros_0f7a4_62 : ab_X rom K cJ6_numberOfTrailingZeros_0f7a4 10 1 62 (.int x :: ls) st hp = ab_X rom K cJ6_numberOfTrailingZeros_0f7a4 10 1 63 (.int x :: ls) (.int x :: st) hp := ax_iload_n dJ6_numberOfTrailingZeros_0f7a4_62 rfl rfl
theorem dJ6_numberOfTrailingZeros_0f7a4_63 : decode cJ6_numberOfTrailingZeros_0f7a4 63 = .ok (.iconst 4, 1) := by decide +kernel
theorem sJ6_numberOfTrailingZeros_0f7a4_63 : ab_X rom K cJ6_numberOfTrailingZeros_0f7a4 10 1 63 ls st hp = ab_X rom K cJ6_numberOfTrailingZeros_0f7a4 10 1 64 ls (.int 4 :: st) hp := ax_iconst dJ6_numberOfTrailingZeros_0f7a4_63 (by decide) rfl
theorem dJ6_numberOfTrailingZeros_0f7a4_64 : decode cJ6_numberOfTrailingZeros_0f7a4 64 = .ok (.if_icmp .le 10, 3) := by decide +kernel
theorem sJ6_numberOfTrailingZeros_0f7a4_64 : ab_X rom K cJ6_numberOfTrailingZeros_0f7a4 10 1 64 ls (.int y :: .int x :: st) hp = if y < x then ab_X rom K cJ6_numberOfTrailingZeros_0f7a4 10 1 67 ls st hp else ab_X rom K cJ6_numberOfTrailingZeros_0f7a4 10 1 74 ls st hp := ax_icmp_le dJ6_numberOfTrailingZeros_0f7a4_64 (by decide) rfl
theorem dJ6_numberOfTrailingZeros_0f7a4_67 : decode cJ6_numberOfTrailingZeros_0f7a4 67 = .ok (.iinc 1 2, 3) := by decide +kernel
theorem sJ6_numberOfTrailingZeros_0f7a4_67i : ab_X rom K cJ6_numberOfTrailingZeros_0f7a4 10 1 67 (.int y :: .int x :: ls) st hp = ab_X rom K cJ6_numberOfTrailingZeros_0f7a4 10 1 70 (.int y :: .int (x + 2) :: ls) st hp := ax_iinc dJ6_numberOfTrailingZeros_0f7a4_67 rfl (ab_nl_c1 (j := 0) (v := .int y) rfl (ab_c1_int _)) (by decide) rfl rfl
theorem sJ6_numberOfTrailingZeros_0f7a4_67r : ab_X rom K cJ6_numberOfTrailingZeros_0f7a4 10 1 67 (.ref a2 :: .int x :: ls) st hp = ab_X rom K cJ6_numberOfTrailingZeros_0f7a4 10 1 70 (.ref a2 :: .int (x + 2) :: ls) st hp := ax_iinc dJ6_numberOfTrailingZeros_0f7a4_67 rfl (ab_nl_c1 (j := 0) (v := .ref a2) rfl (ab_c1_ref _)) (by decide) rfl rfl
theorem sJ6_numberOfTrailingZeros_0f7a4_67n : ab_X rom K cJ6_numberOfTrailingZeros_0f7a4 10 1 67 (.null :: .int x :: ls) st hp = ab_X rom K cJ6_numberOfTrailingZeros_0f7a4 10 1 70 (.null :: .int (x + 2) :: ls) st hp := ax_iinc dJ6_numberOfTrailingZeros_0f7a4_67 rfl (ab_nl_c1 (j := 0) (v := .null) rfl ab_c1_null) (by decide) rfl rfl
theorem dJ6_numberOfTrailingZeros_0f7a4_70 : decode cJ6_numberOfTrailingZeros_0f7a4 70 = .ok (.iload_n 0, 1) := by decide +kernel
theorem sJ6_numberOfTrailingZeros_0f7a4_70 : ab_X rom K cJ6_numberOfTrailingZeros_0f7a4 10 1 70 (.int x :: ls) st hp = ab_X rom K cJ6_numberOfTrailingZeros_0f7a4 10 1 71 (.int x :: ls) (.int x :: st) hp := ax_iload_n dJ6_numberOfTrailingZeros_0f7a4_70 rfl rfl
theorem dJ6_numberOfTrailingZeros_0f7a4_71 : decode cJ6_numberOfTrailingZeros_0f7a4 71 = .ok (.iconst 2, 1) := by decide +kernel
theorem sJ6_numberOfTrailingZeros_0f7a4_71 : ab_X rom K cJ6_numberOfTrailingZeros_0f7a4 10 1 71 ls st hp = ab_X rom K cJ6_numberOfTrailingZeros_0f7a4 10 1 72 ls (.int 2 :: st) hp := ax_iconst dJ6_numberOfTrailingZeros_0f7a4_71 (by decide) rfl
theorem dJ6_numberOfTrailingZeros_0f7a4_72 : decode cJ6_numberOfTrailingZeros_0f7a4 72 = .ok (.iushr, 1) := by decide +kernel
theorem sJ6_numberOfTrailingZeros_0f7a4_72 : ab_X rom K cJ6_numberOfTrailingZeros_0f7a4 10 1 72 ls (.int y :: .int x :: st) hp = ab_X rom K cJ6_numberOfTrailingZeros_0f7a4 10 1 73 ls (.int (x.toUInt32 >>> (y.toUInt32 &&& Int32.toUInt32 31)).toInt32 :: st) hp := ax_iushr dJ6_numberOfTrailingZeros_0f7a4_72 rfl
theorem dJ6_numberOfTrailingZeros_0f7a4_73 : decode cJ6_numberOfTrailingZeros_0f7a4 73 = .ok (.istore_n 0, 1) := by decide +kernel
theorem sJ6_numberOfTrailingZeros_0f7a4_73 : ab_X rom K cJ6_numberOfTrailingZeros_0f7a4 10 1 73 (v0 :: ls) (.int x :: st) hp = ab_X rom K cJ6_numberOfTrailingZeros_0f7a4 10 1 74 (.int x :: ls) st hp := ax_istore_n dJ6_numberOfTrailingZeros_0f7a4_73 (ax_lt (v := v0) rfl) rfl rfl rfl
theorem dJ6_numberOfTrailingZeros_0f7a4_74 : decode cJ6_numberOfTrailingZeros_0f7a4 74 = .ok (.iload_n 1, 1) := by decide +kernel
theorem sJ6_numberOfTrailingZeros_0f7a4_74 : ab_X rom K cJ6_numberOfTrailingZeros_0f7a4 10 1 74 (v0 :: .int x :: ls) st hp = ab_X rom K cJ6_numberOfTrailingZeros_0f7a4 10 1 75 (v0 :: .int x :: ls) (.int x :: st) hp := ax_iload_n dJ6_numberOfTrailingZeros_0f7a4_74 rfl rfl
theorem dJ6_numberOfTrailingZeros_0f7a4_75 : decode cJ6_numberOfTrailingZeros_0f7a4 75 = .ok (.iload_n 0, 1) := by decide +kernel
theorem sJ6_numberOfTrailingZeros_0f7a4_75 : ab_X rom K cJ6_numberOfTrailingZeros_0f7a4 10 1 75 (.int x :: ls) st hp = ab_X rom K cJ6_numberOfTrailingZeros_0f7a4 10 1 76 (.int x :: ls) (.int x :: st) hp := ax_iload_n dJ6_numberOfTrailingZeros_0f7a4_75 rfl rfl
theorem dJ6_numberOfTrailingZeros_0f7a4_76 : decode cJ6_numberOfTrailingZeros_0f7a4 76 = .ok (.iconst 1, 1) := by decide +kernel
theorem sJ6_numberOfTrailingZeros_0f7a4_76 : ab_X rom K cJ6_numberOfTrailingZeros_0f7a4 10 1 76 ls st hp = ab_X rom K cJ6_numberOfTrailingZeros_0f7a4 10 1 77 ls (.int 1 :: st) hp := ax_iconst dJ6_numberOfTrailingZeros_0f7a4_76 (by decide) rfl
theorem dJ6_numberOfTrailingZeros_0f7a4_77 : decode cJ6_numberOfTrailingZeros_0f7a4 77 = .ok (.iushr, 1) := by decide +kernel
theorem sJ6_numberOfTrailingZeros_0f7a4_77 : ab_X rom K cJ6_numberOfTrailingZeros_0f7a4 10 1 77 ls (.int y :: .int x :: st) hp = ab_X rom K cJ6_numberOfTrailingZeros_0f7a4 10 1 78 ls (.int (x.toUInt32 >>> (y.toUInt32 &&& Int32.toUInt32 31)).toInt32 :: st) hp := ax_iushr dJ6_numberOfTrailingZeros_0f7a4_77 rfl
theorem dJ6_numberOfTrailingZeros_0f7a4_78 : decode cJ6_numberOfTrailingZeros_0f7a4 78 = .ok (.iadd, 1) := by decide +kernel
theorem sJ6_numberOfTrailingZeros_0f7a4_78 : ab_X rom K cJ6_numberOfTrailingZeros_0f7a4 10 1 78 ls (.int y :: .int x :: st) hp = ab_X rom K cJ6_numberOfTrailingZeros_0f7a4 10 1 79 ls (.int (x + y) :: st) hp := ax_iadd dJ6_numberOfTrailingZeros_0f7a4_78 rfl
theorem dJ6_numberOfTrailingZeros_0f7a4_79 : decode cJ6_numberOfTrailingZeros_0f7a4 79 = .ok (.ireturn, 1) := by decide +kernel
theorem sJ6_numberOfTrailingZeros_0f7a4_79 : ab_X rom K cJ6_numberOfTrailingZeros_0f7a4 10 1 79 ls [.int x] hp = some (some (.int x), hp) := ax_iret dJ6_numberOfTrailingZeros_0f7a4_79 rfl
end
