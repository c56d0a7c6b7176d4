/-! java/util/Arrays: its methods step by step (printed by wip/whole/gen_steps.py) -/
section
variable {rom : List (List Int32)} {K : Nat → List Value → ab_H → Option ab_O} {ls st : List Value} {hp : ab_H} {x y z : Int32} {a a2 : Nat} {sp dp : Int32} {u w : Int64} {v0 v1 v2 v3 v4 v5 v6 v7 v8 v9 v10 v11 v12 v13 v14 v15 w1 w2 w3 w4 w5 w6 : Value}
theorem tJ7_fill_53178 : ab_mT[266]? = some (yJ7_fill_53178, cJ7_fill_53178, 4, 0, 11) := by decide +kernel
theorem mJ7_fill_53178 {d : Nat} {r0 : Nat} {x1 : Int32} : ab_M rom (d + 1) 266 [.ref r0, .int x1] hp = ab_X rom (ab_M rom d) cJ7_fill_53178 11 0 0 [.ref r0, .int x1, .null, .null] [] hp := ab_M_eq tJ7_fill_53178 (Nat.le_of_ble_eq_true rfl)
theorem dJ7_fill_53178_0 : decode cJ7_fill_53178 0 = .ok (.iconst 0, 1) := by decide +kernel
theorem sJ7_fill_53178_0 : ab_X rom K cJ7_fill_53178 11 0 0 ls st hp = ab_X rom K cJ7_fill_53178 11 0 1 ls (.int 0 :: st) hp := ax_iconst dJ7_fill_53178_0 (by decide) rfl
theorem dJ7_fill_53178_1 : decode cJ7_fill_53178 1 = .ok (.istore_n 2, 1) := by decide +kernel
theorem sJ7_fill_53178_1i : ab_X rom K cJ7_fill_53178 11 0 1 (v0 :: .int y :: v2 :: ls) (.int x :: st) hp = ab_X rom K cJ7_fill_53178 11 0 2 (v0 :: .int y :: .int x :: ls) st hp := ax_istore_n dJ7_fill_53178_1 (ax_lt (v := v2) rfl) (ab_nl_c1 (j := 1) (v := .int y) rfl (ab_c1_int _)) rfl rfl
theorem sJ7_fill_53178_1r : ab_X rom K cJ7_fill_53178 11 0 1 (v0 :: .ref a2 :: v2 :: ls) (.int x :: st) hp = ab_X rom K cJ7_fill_53178 11 0 2 (v0 :: .ref a2 :: .int x :: ls) st hp := ax_istore_n dJ7_fill_53178_1 (ax_lt (v := v2) rfl) (ab_nl_c1 (j := 1) (v := .ref a2) rfl (ab_c1_ref _)) rfl rfl
theorem sJ7_fill_53178_1n : ab_X rom K cJ7_fill_53178 11 0 1 (v0 :: .null :: v2 :: ls) (.int x :: st) hp = ab_X rom K cJ7_fill_53178 11 0 2 (v0 :: .null :: .int x :: ls) st hp := ax_istore_n dJ7_fill_53178_1 (ax_lt (v := v2) rfl) (ab_nl_c1 (j := 1) (v := .null) rfl ab_c1_null) rfl rfl
theorem dJ7_fill_53178_2 : decode cJ7_fill_53178 2 = .ok (.aload_n 0, 1) := by decide +kernel
theorem sJ7_fill_53178_2 : ab_X rom K cJ7_fill_53178 11 0 2 (.ref a :: ls) st hp = ab_X rom K cJ7_fill_53178 11 0 3 (.ref a :: ls) (.ref a :: st) hp := ax_aload_n dJ7_fill_53178_2 rfl rfl
theorem dJ7_fill_53178_3 : decode cJ7_fill_53178 3 = .ok (.arraylength, 1) := by decide +kernel
theorem sJ7_fill_53178_3 : ab_X rom K cJ7_fill_53178 11 0 3 ls (.ref a :: st) hp = (ab_aln rom hp a).bind (fun v => ab_X rom K cJ7_fill_53178 11 0 4 ls (.int v :: st) hp) := ax_arraylength dJ7_fill_53178_3 rfl
theorem dJ7_fill_53178_4 : decode cJ7_fill_53178 4 = .ok (.istore_n 3, 1) := by decide +kernel
theorem sJ7_fill_53178_4i : ab_X rom K cJ7_fill_53178 11 0 4 (v0 :: v1 :: .int y :: v3 :: ls) (.int x :: st) hp = ab_X rom K cJ7_fill_53178 11 0 5 (v0 :: v1 :: .int y :: .int x :: ls) st hp := ax_istore_n dJ7_fill_53178_4 (ax_lt (v := v3) rfl) (ab_nl_c1 (j := 2) (v := .int y) rfl (ab_c1_int _)) rfl rfl
theorem sJ7_fill_53178_4r : ab_X rom K cJ7_fill_53178 11 0 4 (v0 :: v1 :: .ref a2 :: v3 :: ls) (.int x :: st) hp = ab_X rom K cJ7_fill_53178 11 0 5 (v0 :: v1 :: .ref a2 :: .int x :: ls) st hp := ax_istore_n dJ7_fill_53178_4 (ax_lt (v := v3) rfl) (ab_nl_c1 (j := 2) (v := .ref a2) rfl (ab_c1_ref _)) rfl rfl
theorem sJ7_fill_53178_4n : ab_X rom K cJ7_fill_53178 11 0 4 (v0 :: v1 :: .null :: v3 :: ls) (.int x :: st) hp = ab_X rom K cJ7_fill_53178 11 0 5 (v0 :: v1 :: .null :: .int x :: ls) st hp := ax_istore_n dJ7_fill_53178_4 (ax_lt (v := v3) rfl) (ab_nl_c1 (j := 2) (v := .null) rfl ab_c1_null) rfl rfl
theorem dJ7_fill_53178_5 : decode cJ7_fill_53178 5 = .ok (.iload_n 2, 1) := by decide +kernel
theorem sJ7_fill_53178_5 : ab_X rom K cJ7_fill_53178 11 0 5 (v0 :: v1 :: .int x :: ls) st hp = ab_X rom K cJ7_fill_53178 11 0 6 (v0 :: v1 :: .int x :: ls) (.int x :: st) hp := ax_iload_n dJ7_fill_53178_5 rfl rfl
theorem dJ7_fill_53178_6 : decode cJ7_fill_53178 6 = .ok (.iload_n 3, 1) := by decide +kernel
theorem sJ7_fill_53178_6 : ab_X rom K cJ7_fill_53178 11 0 6 (v0 :: v1 :: v2 :: .int x :: ls) st hp = ab_X rom K cJ7_fill_53178 11 0 7 (v0 :: v1 :: v2 :: .int x :: ls) (.int x :: st) hp := ax_iload_n dJ7_fill_53178_6 rfl rfl
theorem dJ7_fill_53178_7 : decode cJ7_fill_53178 7 = .ok (.if_icmp .ge 13, 3) := by decide +kernel
theorem sJ7_fill_53178_7 : ab_X rom K cJ7_fill_53178 11 0 7 ls (.int y :: .int x :: st) hp = if x < y then ab_X rom K cJ7_fill_53178 11 0 10 ls st hp else ab_X rom K cJ7_fill_53178 11 0 20 ls st hp := ax_icmp_ge dJ7_fill_53178_7 (by decide) rfl
theorem dJ7_fill_53178_10 : decode cJ7_fill_53178 10 = .ok (.aload_n 0, 1) := by decide +kernel
theorem sJ7_fill_53178_10 : ab_X rom K cJ7_fill_53178 11 0 10 (.ref a :: ls) st hp = ab_X rom K cJ7_fill_53178 11 0 11 (.ref a :: ls) (.ref a :: st) hp := ax_aload_n dJ7_fill_53178_10 rfl rfl
theorem dJ7_fill_53178_11 : decode cJ7_fill_53178 11 = .ok (.iload_n 2, 1) := by decide +kernel
theorem sJ7_fill_53178_11 : ab_X rom K cJ7_fill_53178 11 0 11 (v0 :: v1 :: .int x :: ls) st hp = ab_X rom K cJ7_fill_53178 11 0 12 (v0 :: v1 :: .int x :: ls) (.int x :: st) hp := ax_iload_n dJ7_fill_53178_11 rfl rfl
theorem dJ7_fill_53178_12 : decode cJ7_fill_53178 12 = .ok (.iload_n 1, 1) := by decide +kernel
theorem sJ7_fill_53178_12 : ab_X rom K cJ7_fill_53178 11 0 12 (v0 :: .int x :: ls) st hp = ab_X rom K cJ7_fill_53178 11 0 13 (v0 :: .int x :: ls) (.int x :: st) hp := ax_iload_n dJ7_fill_53178_12 rfl rfl
theorem dJ7_fill_53178_13 : decode cJ7_fill_53178 13 = .ok (.iastore, 1) := by decide +kernel
theorem sJ7_fill_53178_13 : ab_X rom K cJ7_fill_53178 11 0 13 ls (.int y :: .int x :: .ref a :: st) hp = (ab_awr 0 hp a x y).bind (fun hp' => ab_X rom K cJ7_fill_53178 11 0 14 ls st hp') := ax_iastore dJ7_fill_53178_13 rfl
theorem dJ7_fill_53178_14 : decode cJ7_fill_53178 14 = .ok (.iinc 2 1, 3) := by decide +kernel
theorem sJ7_fill_53178_14i : ab_X rom K cJ7_fill_53178 11 0 14 (v0 :: .int y :: .int x :: ls) st hp = ab_X rom K cJ7_fill_53178 11 0 17 (v0 :: .int y :: .int (x + 1) :: ls) st hp := ax_iinc dJ7_fill_53178_14 rfl (ab_nl_c1 (j := 1) (v := .int y) rfl (ab_c1_int _)) (by decide) rfl rfl
theorem sJ7_fill_53178_14r : ab_X rom K cJ7_fill_53178 11 0 14 (v0 :: .ref a2 :: .int x :: ls) st hp = ab_X rom K cJ7_fill_53178 11 0 17 (v0 :: .ref a2 :: .int (x + 1) :: ls) st hp := ax_iinc dJ7_fill_53178_14 rfl (ab_nl_c1 (j := 1) (v := .ref a2) rfl (ab_c1_ref _)) (by decide) rfl rfl
theorem sJ7_fill_53178_14n : ab_X rom K cJ7_fill_53178 11 0 14 (v0 :: .null :: .int x :: ls) st hp = ab_X rom K cJ7_fill_53178 11 0 17 (v0 :: .null :: .int (x + 1) :: ls) st hp := ax_iinc dJ7_fill_53178_14 rfl (ab_nl_c1 (j := 1) (v := .null) rfl ab_c1_null) (by decide) rfl rfl
theorem dJ7_fill_53178_17 : decode cJ7_fill_53178 17 = .ok (.goto (-12), 3) := by decide +kernel
theorem sJ7_fill_53178_17 : ab_X rom K cJ7_fill_53178 11 0 17 ls st hp = ab_X rom K cJ7_fill_53178 11 0 5 ls st hp := ax_goto dJ7_fill_53178_17 (by decide)
theorem dJ7_fill_53178_20 : decode cJ7_fill_53178 20 = .ok (.return_, 1) := by decide +kernel
theorem sJ7_fill_53178_20 : ab_X rom K cJ7_fill_53178 11 0 20 ls [] hp = some (none, hp) := ax_vret dJ7_fill_53178_20 (by decide)
end
