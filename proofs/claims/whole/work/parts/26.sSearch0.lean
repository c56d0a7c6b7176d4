/-! FairLabels$Search: its methods step by step (printed by wip/whole/gen_steps.py) -/
section
variable {rom : List (List Int32)} {K : Nat → List Value → ab_H → Option ab_O} {ls st : List Value} {hp : ab_H} {x y z : Int32} {a a2 : Nat} {sp dp : Int32} {u w : Int64} {v0 v1 v2 v3 v4 v5 v6 v7 v8 v9 v10 v11 v12 v13 v14 v15 w1 w2 w3 w4 w5 w6 : Value}
theorem tX6_init : ab_mT[57]? = some (yX6_init, cX6_init, 2, 3, 4) := by decide +kernel
theorem mX6_init {d : Nat} {a0 : Nat} {r0 : Nat} : ab_M rom (d + 1) 57 [.ref a0, .ref r0] hp = ab_X rom (ab_M rom d) cX6_init 4 3 0 [.ref a0, .ref r0] [] hp := ab_M_eq tX6_init (Nat.le_of_ble_eq_true rfl)
theorem dX6_init_0 : decode cX6_init 0 = .ok (.aload_n 0, 1) := by decide +kernel
theorem sX6_init_0 : ab_X rom K cX6_init 4 3 0 (.ref a :: ls) st hp = ab_X rom K cX6_init 4 3 1 (.ref a :: ls) (.ref a :: st) hp := ax_aload_n dX6_init_0 rfl rfl
theorem dX6_init_1 : decode cX6_init 1 = .ok (.invokespecial 3, 3) := by decide +kernel
theorem sX6_init_1_0 : ab_X rom K cX6_init 4 3 1 ls [.ref a] hp = ab_X rom K cX6_init 4 3 4 ls [] hp := ax_obj dX6_init_1 kc_4_3 rfl (Nat.le_of_ble_eq_true rfl)
theorem sX6_init_1_1 : ab_X rom K cX6_init 4 3 1 ls [.ref a, v0] hp = ab_X rom K cX6_init 4 3 4 ls [v0] hp := ax_obj dX6_init_1 kc_4_3 rfl (Nat.le_of_ble_eq_true rfl)
theorem sX6_init_1_2 : ab_X rom K cX6_init 4 3 1 ls [.ref a, v0, v1] hp = ab_X rom K cX6_init 4 3 4 ls [v0, v1] hp := ax_obj dX6_init_1 kc_4_3 rfl (Nat.le_of_ble_eq_true rfl)
theorem sX6_init_1_3 : ab_X rom K cX6_init 4 3 1 ls [.ref a, v0, v1, v2] hp = ab_X rom K cX6_init 4 3 4 ls [v0, v1, v2] hp := ax_obj dX6_init_1 kc_4_3 rfl (Nat.le_of_ble_eq_true rfl)
theorem dX6_init_4 : decode cX6_init 4 = .ok (.aload_n 0, 1) := by decide +kernel
theorem sX6_init_4 : ab_X rom K cX6_init 4 3 4 (.ref a :: ls) st hp = ab_X rom K cX6_init 4 3 5 (.ref a :: ls) (.ref a :: st) hp := ax_aload_n dX6_init_4 rfl rfl
theorem dX6_init_5 : decode cX6_init 5 = .ok (.new 9, 3) := by decide +kernel
theorem sX6_init_5 (h2 : hp.length < ab_RO) : ab_X rom K cX6_init 4 3 5 ls st hp = ab_X rom K cX6_init 4 3 8 ls (.ref hp.length :: st) (hp ++ [.inr (.inr (0, [.int 0, .null, .int 0, .null, .int 0, .null, .null]))]) := ax_new dX6_init_5 kn_4_9 rfl rfl h2
theorem dX6_init_8 : decode cX6_init 8 = .ok (.dup, 1) := by decide +kernel
theorem sX6_init_8i : ab_X rom K cX6_init 4 3 8 ls (.int x :: st) hp = ab_X rom K cX6_init 4 3 9 ls (.int x :: .int x :: st) hp := ax_dup dX6_init_8 rfl (ab_c1_int _)
theorem sX6_init_8r : ab_X rom K cX6_init 4 3 8 ls (.ref a :: st) hp = ab_X rom K cX6_init 4 3 9 ls (.ref a :: .ref a :: st) hp := ax_dup dX6_init_8 rfl (ab_c1_ref _)
theorem dX6_init_9 : decode cX6_init 9 = .ok (.invokespecial 11, 3) := by decide +kernel
theorem sX6_init_9_0 (ho : ab_iso hp a 0 = true) : ab_X rom K cX6_init 4 3 9 ls [.ref a] hp = (K 0 (.ref a :: []) hp).bind (fun o => ab_X rom K cX6_init 4 3 12 ls (o.1.toList ++ []) o.2) := ax_init (as := []) (st := []) dX6_init_9 kc_4_11 (by decide) rfl rfl (Nat.le_of_ble_eq_true rfl) ho
theorem sX6_init_9_1 (ho : ab_iso hp a 0 = true) : ab_X rom K cX6_init 4 3 9 ls [.ref a,v0] hp = (K 0 (.ref a :: []) hp).bind (fun o => ab_X rom K cX6_init 4 3 12 ls (o.1.toList ++ [v0]) o.2) := ax_init (as := []) (st := [v0]) dX6_init_9 kc_4_11 (by decide) rfl rfl (Nat.le_of_ble_eq_true rfl) ho
theorem sX6_init_9_2 (ho : ab_iso hp a 0 = true) : ab_X rom K cX6_init 4 3 9 ls [.ref a,v0,v1] hp = (K 0 (.ref a :: []) hp).bind (fun o => ab_X rom K cX6_init 4 3 12 ls (o.1.toList ++ [v0, v1]) o.2) := ax_init (as := []) (st := [v0, v1]) dX6_init_9 kc_4_11 (by decide) rfl rfl (Nat.le_of_ble_eq_true rfl) ho
theorem dX6_init_12 : decode cX6_init 12 = .ok (.putfield 12, 3) := by decide +kernel
theorem sX6_init_12 : ab_X rom K cX6_init 4 3 12 ls (.ref a2 :: .ref a :: st) hp = (ab_fpt hp a 4 0 (.ref a2)).bind (fun hp' => ab_X rom K cX6_init 4 3 15 ls st hp') := ax_putfield dX6_init_12 kf_4_12 rfl (Or.inr ⟨rfl, rfl⟩) rfl
theorem dX6_init_15 : decode cX6_init 15 = .ok (.aload_n 0, 1) := by decide +kernel
theorem sX6_init_15 : ab_X rom K cX6_init 4 3 15 (.ref a :: ls) st hp = ab_X rom K cX6_init 4 3 16 (.ref a :: ls) (.ref a :: st) hp := ax_aload_n dX6_init_15 rfl rfl
theorem dX6_init_16 : decode cX6_init 16 = .ok (.bipush 7, 2) := by decide +kernel
theorem sX6_init_16 : ab_X rom K cX6_init 4 3 16 ls st hp = ab_X rom K cX6_init 4 3 18 ls (.int 7 :: st) hp := ax_bipush dX6_init_16 (by decide) rfl
theorem dX6_init_18 : decode cX6_init 18 = .ok (.newarray .int, 2) := by decide +kernel
theorem sX6_init_18 : ab_X rom K cX6_init 4 3 18 ls (.int x :: st) hp = if ¬ x < 0 ∧ x.toNatClampNeg ≤ 1000 ∧ hp.length < ab_RO then ab_X rom K cX6_init 4 3 20 ls (.ref hp.length :: st) (hp ++ [.inl (0, List.replicate x.toNatClampNeg 0)]) else none := ay_newint dX6_init_18 rfl
theorem dX6_init_20 : decode cX6_init 20 = .ok (.putfield 18, 3) := by decide +kernel
theorem sX6_init_20 : ab_X rom K cX6_init 4 3 20 ls (.ref a2 :: .ref a :: st) hp = (ab_fpt hp a 4 1 (.ref a2)).bind (fun hp' => ab_X rom K cX6_init 4 3 23 ls st hp') := ax_putfield dX6_init_20 kf_4_18 rfl (Or.inr ⟨rfl, rfl⟩) rfl
theorem dX6_init_23 : decode cX6_init 23 = .ok (.aload_n 0, 1) := by decide +kernel
theorem sX6_init_23 : ab_X rom K cX6_init 4 3 23 (.ref a :: ls) st hp = ab_X rom K cX6_init 4 3 24 (.ref a :: ls) (.ref a :: st) hp := ax_aload_n dX6_init_23 rfl rfl
theorem dX6_init_24 : decode cX6_init 24 = .ok (.bipush 21, 2) := by decide +kernel
theorem sX6_init_24 : ab_X rom K cX6_init 4 3 24 ls st hp = ab_X rom K cX6_init 4 3 26 ls (.int 21 :: st) hp := ax_bipush dX6_init_24 (by decide) rfl
theorem dX6_init_26 : decode cX6_init 26 = .ok (.newarray .int, 2) := by decide +kernel
theorem sX6_init_26 : ab_X rom K cX6_init 4 3 26 ls (.int x :: st) hp = if ¬ x < 0 ∧ x.toNatClampNeg ≤ 1000 ∧ hp.length < ab_RO then ab_X rom K cX6_init 4 3 28 ls (.ref hp.length :: st) (hp ++ [.inl (0, List.replicate x.toNatClampNeg 0)]) else none := ay_newint dX6_init_26 rfl
theorem dX6_init_28 : decode cX6_init 28 = .ok (.putfield 22, 3) := by decide +kernel
theorem sX6_init_28 : ab_X rom K cX6_init 4 3 28 ls (.ref a2 :: .ref a :: st) hp = (ab_fpt hp a 4 2 (.ref a2)).bind (fun hp' => ab_X rom K cX6_init 4 3 31 ls st hp') := ax_putfield dX6_init_28 kf_4_22 rfl (Or.inr ⟨rfl, rfl⟩) rfl
theorem dX6_init_31 : decode cX6_init 31 = .ok (.aload_n 0, 1) := by decide +kernel
theorem sX6_init_31 : ab_X rom K cX6_init 4 3 31 (.ref a :: ls) st hp = ab_X rom K cX6_init 4 3 32 (.ref a :: ls) (.ref a :: st) hp := ax_aload_n dX6_init_31 rfl rfl
theorem dX6_init_32 : decode cX6_init 32 = .ok (.bipush 7, 2) := by decide +kernel
theorem sX6_init_32 : ab_X rom K cX6_init 4 3 32 ls st hp = ab_X rom K cX6_init 4 3 34 ls (.int 7 :: st) hp := ax_bipush dX6_init_32 (by decide) rfl
theorem dX6_init_34 : decode cX6_init 34 = .ok (.newarray .int, 2) := by decide +kernel
theorem sX6_init_34 : ab_X rom K cX6_init 4 3 34 ls (.int x :: st) hp = if ¬ x < 0 ∧ x.toNatClampNeg ≤ 1000 ∧ hp.length < ab_RO then ab_X rom K cX6_init 4 3 36 ls (.ref hp.length :: st) (hp ++ [.inl (0, List.replicate x.toNatClampNeg 0)]) else none := ay_newint dX6_init_34 rfl
theorem dX6_init_36 : decode cX6_init 36 = .ok (.putfield 25, 3) := by decide +kernel
theorem sX6_init_36 : ab_X rom K cX6_init 4 3 36 ls (.ref a2 :: .ref a :: st) hp = (ab_fpt hp a 4 3 (.ref a2)).bind (fun hp' => ab_X rom K cX6_init 4 3 39 ls st hp') := ax_putfield dX6_init_36 kf_4_25 rfl (Or.inr ⟨rfl, rfl⟩) rfl
theorem dX6_init_39 : decode cX6_init 39 = .ok (.aload_n 0, 1) := by decide +kernel
theorem sX6_init_39 : ab_X rom K cX6_init 4 3 39 (.ref a :: ls) st hp = ab_X rom K cX6_init 4 3 40 (.ref a :: ls) (.ref a :: st) hp := ax_aload_n dX6_init_39 rfl rfl
theorem dX6_init_40 : decode cX6_init 40 = .ok (.bipush 7, 2) := by decide +kernel
theorem sX6_init_40 : ab_X rom K cX6_init 4 3 40 ls st hp = ab_X rom K cX6_init 4 3 42 ls (.int 7 :: st) hp := ax_bipush dX6_init_40 (by decide) rfl
theorem dX6_init_42 : decode cX6_init 42 = .ok (.newarray .int, 2) := by decide +kernel
theorem sX6_init_42 : ab_X rom K cX6_init 4 3 42 ls (.int x :: st) hp = if ¬ x < 0 ∧ x.toNatClampNeg ≤ 1000 ∧ hp.length < ab_RO then ab_X rom K cX6_init 4 3 44 ls (.ref hp.length :: st) (hp ++ [.inl (0, List.replicate x.toNatClampNeg 0)]) else none := ay_newint dX6_init_42 rfl
theorem dX6_init_44 : decode cX6_init 44 = .ok (.putfield 28, 3) := by decide +kernel
theorem sX6_init_44 : ab_X rom K cX6_init 4 3 44 ls (.ref a2 :: .ref a :: st) hp = (ab_fpt hp a 4 4 (.ref a2)).bind (fun hp' => ab_X rom K cX6_init 4 3 47 ls st hp') := ax_putfield dX6_init_44 kf_4_28 rfl (Or.inr ⟨rfl, rfl⟩) rfl
theorem dX6_init_47 : decode cX6_init 47 = .ok (.aload_n 0, 1) := by decide +kernel
theorem sX6_init_47 : ab_X rom K cX6_init 4 3 47 (.ref a :: ls) st hp = ab_X rom K cX6_init 4 3 48 (.ref a :: ls) (.ref a :: st) hp := ax_aload_n dX6_init_47 rfl rfl
theorem dX6_init_48 : decode cX6_init 48 = .ok (.iconst 0, 1) := by decide +kernel
theorem sX6_init_48 : ab_X rom K cX6_init 4 3 48 ls st hp = ab_X rom K cX6_init 4 3 49 ls (.int 0 :: st) hp := ax_iconst dX6_init_48 (by decide) rfl
theorem dX6_init_49 : decode cX6_init 49 = .ok (.putfield 31, 3) := by decide +kernel
theorem sX6_init_49 : ab_X rom K cX6_init 4 3 49 ls (.int x :: .ref a :: st) hp = (ab_fpt hp a 4 6 (.int x)).bind (fun hp' => ab_X rom K cX6_init 4 3 52 ls st hp') := ax_putfield dX6_init_49 kf_4_31 rfl (Or.inl rfl) rfl
theorem dX6_init_52 : decode cX6_init 52 = .ok (.aload_n 0, 1) := by decide +kernel
theorem sX6_init_52 : ab_X rom K cX6_init 4 3 52 (.ref a :: ls) st hp = ab_X rom K cX6_init 4 3 53 (.ref a :: ls) (.ref a :: st) hp := ax_aload_n dX6_init_52 rfl rfl
theorem dX6_init_53 : decode cX6_init 53 = .ok (.iconst 0, 1) := by decide +kernel
theorem sX6_init_53 : ab_X rom K cX6_init 4 3 53 ls st hp = ab_X rom K cX6_init 4 3 54 ls (.int 0 :: st) hp := ax_iconst dX6_init_53 (by decide) rfl
theorem dX6_init_54 : decode cX6_init 54 = .ok (.putfield 35, 3) := by decide +kernel
theorem sX6_init_54 : ab_X rom K cX6_init 4 3 54 ls (.int x :: .ref a :: st) hp = (ab_fpt hp a 4 7 (.int x)).bind (fun hp' => ab_X rom K cX6_init 4 3 57 ls st hp') := ax_putfield dX6_init_54 kf_4_35 rfl (Or.inl rfl) rfl
theorem dX6_init_57 : decode cX6_init 57 = .ok (.aload_n 0, 1) := by decide +kernel
theorem sX6_init_57 : ab_X rom K cX6_init 4 3 57 (.ref a :: ls) st hp = ab_X rom K cX6_init 4 3 58 (.ref a :: ls) (.ref a :: st) hp := ax_aload_n dX6_init_57 rfl rfl
theorem dX6_init_58 : decode cX6_init 58 = .ok (.iconst 0, 1) := by decide +kernel
theorem sX6_init_58 : ab_X rom K cX6_init 4 3 58 ls st hp = ab_X rom K cX6_init 4 3 59 ls (.int 0 :: st) hp := ax_iconst dX6_init_58 (by decide) rfl
theorem dX6_init_59 : decode cX6_init 59 = .ok (.putfield 38, 3) := by decide +kernel
theorem sX6_init_59 : ab_X rom K cX6_init 4 3 59 ls (.int x :: .ref a :: st) hp = (ab_fpt hp a 4 8 (.int x)).bind (fun hp' => ab_X rom K cX6_init 4 3 62 ls st hp') := ax_putfield dX6_init_59 kf_4_38 rfl (Or.inl rfl) rfl
theorem dX6_init_62 : decode cX6_init 62 = .ok (.aload_n 0, 1) := by decide +kernel
theorem sX6_init_62 : ab_X rom K cX6_init 4 3 62 (.ref a :: ls) st hp = ab_X rom K cX6_init 4 3 63 (.ref a :: ls) (.ref a :: st) hp := ax_aload_n dX6_init_62 rfl rfl
theorem dX6_init_63 : decode cX6_init 63 = .ok (.iconst 0, 1) := by decide +kernel
theorem sX6_init_63 : ab_X rom K cX6_init 4 3 63 ls st hp = ab_X rom K cX6_init 4 3 64 ls (.int 0 :: st) hp := ax_iconst dX6_init_63 (by decide) rfl
theorem dX6_init_64 : decode cX6_init 64 = .ok (.putfield 41, 3) := by decide +kernel
theorem sX6_init_64 : ab_X rom K cX6_init 4 3 64 ls (.int x :: .ref a :: st) hp = (ab_fpt hp a 4 9 (.int x)).bind (fun hp' => ab_X rom K cX6_init 4 3 67 ls st hp') := ax_putfield dX6_init_64 kf_4_41 rfl (Or.inl rfl) rfl
theorem dX6_init_67 : decode cX6_init 67 = .ok (.aload_n 0, 1) := by decide +kernel
theorem sX6_init_67 : ab_X rom K cX6_init 4 3 67 (.ref a :: ls) st hp = ab_X rom K cX6_init 4 3 68 (.ref a :: ls) (.ref a :: st) hp := ax_aload_n dX6_init_67 rfl rfl
theorem dX6_init_68 : decode cX6_init 68 = .ok (.iconst 0, 1) := by decide +kernel
theorem sX6_init_68 : ab_X rom K cX6_init 4 3 68 ls st hp = ab_X rom K cX6_init 4 3 69 ls (.int 0 :: st) hp := ax_iconst dX6_init_68 (by decide) rfl
theorem dX6_init_69 : decode cX6_init 69 = .ok (.putfield 44, 3) := by decide +kernel
theorem sX6_init_69 : ab_X rom K cX6_init 4 3 69 ls (.int x :: .ref a :: st) hp = (ab_fpt hp a 4 10 (.int x)).bind (fun hp' => ab_X rom K cX6_init 4 3 72 ls st hp') := ax_putfield dX6_init_69 kf_4_44 rfl (Or.inl rfl) rfl
theorem dX6_init_72 : decode cX6_init 72 = .ok (.aload_n 0, 1) := by decide +kernel
theorem sX6_init_72 : ab_X rom K cX6_init 4 3 72 (.ref a :: ls) st hp = ab_X rom K cX6_init 4 3 73 (.ref a :: ls) (.ref a :: st) hp := ax_aload_n dX6_init_72 rfl rfl
theorem dX6_init_73 : decode cX6_init 73 = .ok (.iconst 0, 1) := by decide +kernel
theorem sX6_init_73 : ab_X rom K cX6_init 4 3 73 ls st hp = ab_X rom K cX6_init 4 3 74 ls (.int 0 :: st) hp := ax_iconst dX6_init_73 (by decide) rfl
theorem dX6_init_74 : decode cX6_init 74 = .ok (.putfield 47, 3) := by decide +kernel
theorem sX6_init_74 : ab_X rom K cX6_init 4 3 74 ls (.int x :: .ref a :: st) hp = (ab_fpt hp a 4 11 (.int x)).bind (fun hp' => ab_X rom K cX6_init 4 3 77 ls st hp') := ax_putfield dX6_init_74 kf_4_47 rfl (Or.inl rfl) rfl
theorem dX6_init_77 : decode cX6_init 77 = .ok (.aload_n 0, 1) := by decide +kernel
theorem sX6_init_77 : ab_X rom K cX6_init 4 3 77 (.ref a :: ls) st hp = ab_X rom K cX6_init 4 3 78 (.ref a :: ls) (.ref a :: st) hp := ax_aload_n dX6_init_77 rfl rfl
theorem dX6_init_78 : decode cX6_init 78 = .ok (.iconst 0, 1) := by decide +kernel
theorem sX6_init_78 : ab_X rom K cX6_init 4 3 78 ls st hp = ab_X rom K cX6_init 4 3 79 ls (.int 0 :: st) hp := ax_iconst dX6_init_78 (by decide) rfl
theorem dX6_init_79 : decode cX6_init 79 = .ok (.putfield 50, 3) := by decide +kernel
theorem sX6_init_79 : ab_X rom K cX6_init 4 3 79 ls (.int x :: .ref a :: st) hp = if x = 0 ∨ x = 1 then (ab_fpt hp a 4 12 (.int x)).bind (fun hp' => ab_X rom K cX6_init 4 3 82 ls st hp') else none := ay_putbool dX6_init_79 kf_4_50 rfl
theorem dX6_init_82 : decode cX6_init 82 = .ok (.aload_n 0, 1) := by decide +kernel
theorem sX6_init_82 : ab_X rom K cX6_init 4 3 82 (.ref a :: ls) st hp = ab_X rom K cX6_init 4 3 83 (.ref a :: ls) (.ref a :: st) hp := ax_aload_n dX6_init_82 rfl rfl
theorem dX6_init_83 : decode cX6_init 83 = .ok (.iconst 0, 1) := by decide +kernel
theorem sX6_init_83 : ab_X rom K cX6_init 4 3 83 ls st hp = ab_X rom K cX6_init 4 3 84 ls (.int 0 :: st) hp := ax_iconst dX6_init_83 (by decide) rfl
theorem dX6_init_84 : decode cX6_init 84 = .ok (.putfield 54, 3) := by decide +kernel
theorem sX6_init_84 : ab_X rom K cX6_init 4 3 84 ls (.int x :: .ref a :: st) hp = if x = 0 ∨ x = 1 then (ab_fpt hp a 4 13 (.int x)).bind (fun hp' => ab_X rom K cX6_init 4 3 87 ls st hp') else none := ay_putbool dX6_init_84 kf_4_54 rfl
theorem dX6_init_87 : decode cX6_init 87 = .ok (.aload_n 0, 1) := by decide +kernel
theorem sX6_init_87 : ab_X rom K cX6_init 4 3 87 (.ref a :: ls) st hp = ab_X rom K cX6_init 4 3 88 (.ref a :: ls) (.ref a :: st) hp := ax_aload_n dX6_init_87 rfl rfl
theorem dX6_init_88 : decode cX6_init 88 = .ok (.iconst 0, 1) := by decide +kernel
theorem sX6_init_88 : ab_X rom K cX6_init 4 3 88 ls st hp = ab_X rom K cX6_init 4 3 89 ls (.int 0 :: st) hp := ax_iconst dX6_init_88 (by decide) rfl
theorem dX6_init_89 : decode cX6_init 89 = .ok (.putfield 57, 3) := by decide +kernel
theorem sX6_init_89 : ab_X rom K cX6_init 4 3 89 ls (.int x :: .ref a :: st) hp = if x = 0 ∨ x = 1 then (ab_fpt hp a 4 14 (.int x)).bind (fun hp' => ab_X rom K cX6_init 4 3 92 ls st hp') else none := ay_putbool dX6_init_89 kf_4_57 rfl
theorem dX6_init_92 : decode cX6_init 92 = .ok (.aload_n 0, 1) := by decide +kernel
theorem sX6_init_92 : ab_X rom K cX6_init 4 3 92 (.ref a :: ls) st hp = ab_X rom K cX6_init 4 3 93 (.ref a :: ls) (.ref a :: st) hp := ax_aload_n dX6_init_92 rfl rfl
theorem dX6_init_93 : decode cX6_init 93 = .ok (.aload_n 1, 1) := by decide +kernel
theorem sX6_init_93 : ab_X rom K cX6_init 4 3 93 (v0 :: .ref a :: ls) st hp = ab_X rom K cX6_init 4 3 94 (v0 :: .ref a :: ls) (.ref a :: st) hp := ax_aload_n dX6_init_93 rfl rfl
theorem dX6_init_94 : decode cX6_init 94 = .ok (.putfield 60, 3) := by decide +kernel
theorem sX6_init_94 : ab_X rom K cX6_init 4 3 94 ls (.ref a2 :: .ref a :: st) hp = (ab_fpt hp a 4 5 (.ref a2)).bind (fun hp' => ab_X rom K cX6_init 4 3 97 ls st hp') := ax_putfield dX6_init_94 kf_4_60 rfl (Or.inl rfl) rfl
theorem dX6_init_97 : decode cX6_init 97 = .ok (.return_, 1) := by decide +kernel
theorem sX6_init_97 : ab_X rom K cX6_init 4 3 97 ls [] hp = some (none, hp) := ax_vret dX6_init_97 (by decide)
theorem tX6_begin : ab_mT[58]? = some (yX6_begin, cX6_begin, 4, 0, 4) := by decide +kernel
theorem mX6_begin {d : Nat} {a0 : Nat} {r0 : Nat} {x1 : Int32} {x2 : Int32} : ab_M rom (d + 1) 58 [.ref a0, .ref r0, .int x1, .int x2] hp = ab_X rom (ab_M rom d) cX6_begin 4 0 0 [.ref a0, .ref r0, .int x1, .int x2] [] hp := ab_M_eq tX6_begin (Nat.le_of_ble_eq_true rfl)
theorem dX6_begin_0 : decode cX6_begin 0 = .ok (.aload_n 0, 1) := by decide +kernel
theorem sX6_begin_0 : ab_X rom K cX6_begin 4 0 0 (.ref a :: ls) st hp = ab_X rom K cX6_begin 4 0 1 (.ref a :: ls) (.ref a :: st) hp := ax_aload_n dX6_begin_0 rfl rfl
theorem dX6_begin_1 : decode cX6_begin 1 = .ok (.aload_n 1, 1) := by decide +kernel
theorem sX6_begin_1 : ab_X rom K cX6_begin 4 0 1 (v0 :: .ref a :: ls) st hp = ab_X rom K cX6_begin 4 0 2 (v0 :: .ref a :: ls) (.ref a :: st) hp := ax_aload_n dX6_begin_1 rfl rfl
theorem dX6_begin_2 : decode cX6_begin 2 = .ok (.putfield 60, 3) := by decide +kernel
theorem sX6_begin_2 : ab_X rom K cX6_begin 4 0 2 ls (.ref a2 :: .ref a :: st) hp = (ab_fpt hp a 4 5 (.ref a2)).bind (fun hp' => ab_X rom K cX6_begin 4 0 5 ls st hp') := ax_putfield dX6_begin_2 kf_4_60 rfl (Or.inl rfl) rfl
theorem dX6_begin_5 : decode cX6_begin 5 = .ok (.aload_n 0, 1) := by decide +kernel
theorem sX6_begin_5 : ab_X rom K cX6_begin 4 0 5 (.ref a :: ls) st hp = ab_X rom K cX6_begin 4 0 6 (.ref a :: ls) (.ref a :: st) hp := ax_aload_n dX6_begin_5 rfl rfl
theorem dX6_begin_6 : decode cX6_begin 6 = .ok (.iload_n 2, 1) := by decide +kernel
theorem sX6_begin_6 : ab_X rom K cX6_begin 4 0 6 (v0 :: v1 :: .int x :: ls) st hp = ab_X rom K cX6_begin 4 0 7 (v0 :: v1 :: .int x :: ls) (.int x :: st) hp := ax_iload_n dX6_begin_6 rfl rfl
theorem dX6_begin_7 : decode cX6_begin 7 = .ok (.putfield 31, 3) := by decide +kernel
theorem sX6_begin_7 : ab_X rom K cX6_begin 4 0 7 ls (.int x :: .ref a :: st) hp = (ab_fpt hp a 4 6 (.int x)).bind (fun hp' => ab_X rom K cX6_begin 4 0 10 ls st hp') := ax_putfield dX6_begin_7 kf_4_31 rfl (Or.inl rfl) rfl
theorem dX6_begin_10 : decode cX6_begin 10 = .ok (.aload_n 0, 1) := by decide +kernel
theorem sX6_begin_10 : ab_X rom K cX6_begin 4 0 10 (.ref a :: ls) st hp = ab_X rom K cX6_begin 4 0 11 (.ref a :: ls) (.ref a :: st) hp := ax_aload_n dX6_begin_10 rfl rfl
theorem dX6_begin_11 : decode cX6_begin 11 = .ok (.iload_n 3, 1) := by decide +kernel
theorem sX6_begin_11 : ab_X rom K cX6_begin 4 0 11 (v0 :: v1 :: v2 :: .int x :: ls) st hp = ab_X rom K cX6_begin 4 0 12 (v0 :: v1 :: v2 :: .int x :: ls) (.int x :: st) hp := ax_iload_n dX6_begin_11 rfl rfl
theorem dX6_begin_12 : decode cX6_begin 12 = .ok (.putfield 54, 3) := by decide +kernel
theorem sX6_begin_12 : ab_X rom K cX6_begin 4 0 12 ls (.int x :: .ref a :: st) hp = if x = 0 ∨ x = 1 then (ab_fpt hp a 4 13 (.int x)).bind (fun hp' => ab_X rom K cX6_begin 4 0 15 ls st hp') else none := ay_putbool dX6_begin_12 kf_4_54 rfl
theorem dX6_begin_15 : decode cX6_begin 15 = .ok (.aload_n 0, 1) := by decide +kernel
theorem sX6_begin_15 : ab_X rom K cX6_begin 4 0 15 (.ref a :: ls) st hp = ab_X rom K cX6_begin 4 0 16 (.ref a :: ls) (.ref a :: st) hp := ax_aload_n dX6_begin_15 rfl rfl
theorem dX6_begin_16 : decode cX6_begin 16 = .ok (.iconst 0, 1) := by decide +kernel
theorem sX6_begin_16 : ab_X rom K cX6_begin 4 0 16 ls st hp = ab_X rom K cX6_begin 4 0 17 ls (.int 0 :: st) hp := ax_iconst dX6_begin_16 (by decide) rfl
theorem dX6_begin_17 : decode cX6_begin 17 = .ok (.putfield 57, 3) := by decide +kernel
theorem sX6_begin_17 : ab_X rom K cX6_begin 4 0 17 ls (.int x :: .ref a :: st) hp = if x = 0 ∨ x = 1 then (ab_fpt hp a 4 14 (.int x)).bind (fun hp' => ab_X rom K cX6_begin 4 0 20 ls st hp') else none := ay_putbool dX6_begin_17 kf_4_57 rfl
theorem dX6_begin_20 : decode cX6_begin 20 = .ok (.aload_n 0, 1) := by decide +kernel
theorem sX6_begin_20 : ab_X rom K cX6_begin 4 0 20 (.ref a :: ls) st hp = ab_X rom K cX6_begin 4 0 21 (.ref a :: ls) (.ref a :: st) hp := ax_aload_n dX6_begin_20 rfl rfl
theorem dX6_begin_21 : decode cX6_begin 21 = .ok (.aload_n 0, 1) := by decide +kernel
theorem sX6_begin_21 : ab_X rom K cX6_begin 4 0 21 (.ref a :: ls) st hp = ab_X rom K cX6_begin 4 0 22 (.ref a :: ls) (.ref a :: st) hp := ax_aload_n dX6_begin_21 rfl rfl
theorem dX6_begin_22 : decode cX6_begin 22 = .ok (.getfield 31, 3) := by decide +kernel
theorem sX6_begin_22 : ab_X rom K cX6_begin 4 0 22 ls (.ref a :: st) hp = (ab_fld hp a 4 6).bind (fun v => ab_X rom K cX6_begin 4 0 25 ls (v :: st) hp) := ax_getfield dX6_begin_22 kf_4_31 rfl
theorem dX6_begin_25 : decode cX6_begin 25 = .ok (.aload_n 0, 1) := by decide +kernel
theorem sX6_begin_25 : ab_X rom K cX6_begin 4 0 25 (.ref a :: ls) st hp = ab_X rom K cX6_begin 4 0 26 (.ref a :: ls) (.ref a :: st) hp := ax_aload_n dX6_begin_25 rfl rfl
theorem dX6_begin_26 : decode cX6_begin 26 = .ok (.getfield 60, 3) := by decide +kernel
theorem sX6_begin_26 : ab_X rom K cX6_begin 4 0 26 ls (.ref a :: st) hp = (ab_fld hp a 4 5).bind (fun v => ab_X rom K cX6_begin 4 0 29 ls (v :: st) hp) := ax_getfield dX6_begin_26 kf_4_60 rfl
theorem dX6_begin_29 : decode cX6_begin 29 = .ok (.getfield 64, 3) := by decide +kernel
theorem sX6_begin_29 : ab_X rom K cX6_begin 4 0 29 ls (.ref a :: st) hp = (ab_fld hp a 1 1).bind (fun v => ab_X rom K cX6_begin 4 0 32 ls (v :: st) hp) := ax_getfield dX6_begin_29 kf_4_64 rfl
theorem dX6_begin_32 : decode cX6_begin 32 = .ok (.invokestatic 102, 3) := by decide +kernel
theorem sX6_begin_32_0 : ab_X rom K cX6_begin 4 0 32 ls [w2, w1] hp = (K 244 [w1, w2] hp).bind (fun o => ab_X rom K cX6_begin 4 0 35 ls (o.1.toList ++ []) o.2) := ax_static (as := [w1, w2]) (st := []) dX6_begin_32 kc_4_102 rfl rfl (Nat.le_of_ble_eq_true rfl)
theorem sX6_begin_32_1 : ab_X rom K cX6_begin 4 0 32 ls [w2, w1, v0] hp = (K 244 [w1, w2] hp).bind (fun o => ab_X rom K cX6_begin 4 0 35 ls (o.1.toList ++ [v0]) o.2) := ax_static (as := [w1, w2]) (st := [v0]) dX6_begin_32 kc_4_102 rfl rfl (Nat.le_of_ble_eq_true rfl)
theorem sX6_begin_32_2 : ab_X rom K cX6_begin 4 0 32 ls [w2, w1, v0, v1] hp = (K 244 [w1, w2] hp).bind (fun o => ab_X rom K cX6_begin 4 0 35 ls (o.1.toList ++ [v0, v1]) o.2) := ax_static (as := [w1, w2]) (st := [v0, v1]) dX6_begin_32 kc_4_102 rfl rfl (Nat.le_of_ble_eq_true rfl)
theorem sX6_begin_32_3 : ab_X rom K cX6_begin 4 0 32 ls [w2, w1, v0, v1, v2] hp = (K 244 [w1, w2] hp).bind (fun o => ab_X rom K cX6_begin 4 0 35 ls (o.1.toList ++ [v0, v1, v2]) o.2) := ax_static (as := [w1, w2]) (st := [v0, v1, v2]) dX6_begin_32 kc_4_102 rfl rfl (Nat.le_of_ble_eq_true rfl)
theorem dX6_begin_35 : decode cX6_begin 35 = .ok (.putfield 35, 3) := by decide +kernel
theorem sX6_begin_35 : ab_X rom K cX6_begin 4 0 35 ls (.int x :: .ref a :: st) hp = (ab_fpt hp a 4 7 (.int x)).bind (fun hp' => ab_X rom K cX6_begin 4 0 38 ls st hp') := ax_putfield dX6_begin_35 kf_4_35 rfl (Or.inl rfl) rfl
theorem dX6_begin_38 : decode cX6_begin 38 = .ok (.aload_n 0, 1) := by decide +kernel
theorem sX6_begin_38 : ab_X rom K cX6_begin 4 0 38 (.ref a :: ls) st hp = ab_X rom K cX6_begin 4 0 39 (.ref a :: ls) (.ref a :: st) hp := ax_aload_n dX6_begin_38 rfl rfl
theorem dX6_begin_39 : decode cX6_begin 39 = .ok (.iconst 0, 1) := by decide +kernel
theorem sX6_begin_39 : ab_X rom K cX6_begin 4 0 39 ls st hp = ab_X rom K cX6_begin 4 0 40 ls (.int 0 :: st) hp := ax_iconst dX6_begin_39 (by decide) rfl
theorem dX6_begin_40 : decode cX6_begin 40 = .ok (.putfield 38, 3) := by decide +kernel
theorem sX6_begin_40 : ab_X rom K cX6_begin 4 0 40 ls (.int x :: .ref a :: st) hp = (ab_fpt hp a 4 8 (.int x)).bind (fun hp' => ab_X rom K cX6_begin 4 0 43 ls st hp') := ax_putfield dX6_begin_40 kf_4_38 rfl (Or.inl rfl) rfl
theorem dX6_begin_43 : decode cX6_begin 43 = .ok (.aload_n 0, 1) := by decide +kernel
theorem sX6_begin_43 : ab_X rom K cX6_begin 4 0 43 (.ref a :: ls) st hp = ab_X rom K cX6_begin 4 0 44 (.ref a :: ls) (.ref a :: st) hp := ax_aload_n dX6_begin_43 rfl rfl
theorem dX6_begin_44 : decode cX6_begin 44 = .ok (.aload_n 0, 1) := by decide +kernel
theorem sX6_begin_44 : ab_X rom K cX6_begin 4 0 44 (.ref a :: ls) st hp = ab_X rom K cX6_begin 4 0 45 (.ref a :: ls) (.ref a :: st) hp := ax_aload_n dX6_begin_44 rfl rfl
theorem dX6_begin_45 : decode cX6_begin 45 = .ok (.getfield 60, 3) := by decide +kernel
theorem sX6_begin_45 : ab_X rom K cX6_begin 4 0 45 ls (.ref a :: st) hp = (ab_fld hp a 4 5).bind (fun v => ab_X rom K cX6_begin 4 0 48 ls (v :: st) hp) := ax_getfield dX6_begin_45 kf_4_60 rfl
theorem dX6_begin_48 : decode cX6_begin 48 = .ok (.aload_n 0, 1) := by decide +kernel
theorem sX6_begin_48 : ab_X rom K cX6_begin 4 0 48 (.ref a :: ls) st hp = ab_X rom K cX6_begin 4 0 49 (.ref a :: ls) (.ref a :: st) hp := ax_aload_n dX6_begin_48 rfl rfl
theorem dX6_begin_49 : decode cX6_begin 49 = .ok (.getfield 31, 3) := by decide +kernel
theorem sX6_begin_49 : ab_X rom K cX6_begin 4 0 49 ls (.ref a :: st) hp = (ab_fld hp a 4 6).bind (fun v => ab_X rom K cX6_begin 4 0 52 ls (v :: st) hp) := ax_getfield dX6_begin_49 kf_4_31 rfl
theorem dX6_begin_52 : decode cX6_begin 52 = .ok (.invokestatic 106, 3) := by decide +kernel
theorem sX6_begin_52_0 : ab_X rom K cX6_begin 4 0 52 ls [w2, w1] hp = (K 253 [w1, w2] hp).bind (fun o => ab_X rom K cX6_begin 4 0 55 ls (o.1.toList ++ []) o.2) := ax_static (as := [w1, w2]) (st := []) dX6_begin_52 kc_4_106 rfl rfl (Nat.le_of_ble_eq_true rfl)
theorem sX6_begin_52_1 : ab_X rom K cX6_begin 4 0 52 ls [w2, w1, v0] hp = (K 253 [w1, w2] hp).bind (fun o => ab_X rom K cX6_begin 4 0 55 ls (o.1.toList ++ [v0]) o.2) := ax_static (as := [w1, w2]) (st := [v0]) dX6_begin_52 kc_4_106 rfl rfl (Nat.le_of_ble_eq_true rfl)
theorem sX6_begin_52_2 : ab_X rom K cX6_begin 4 0 52 ls [w2, w1, v0, v1] hp = (K 253 [w1, w2] hp).bind (fun o => ab_X rom K cX6_begin 4 0 55 ls (o.1.toList ++ [v0, v1]) o.2) := ax_static (as := [w1, w2]) (st := [v0, v1]) dX6_begin_52 kc_4_106 rfl rfl (Nat.le_of_ble_eq_true rfl)
theorem sX6_begin_52_3 : ab_X rom K cX6_begin 4 0 52 ls [w2, w1, v0, v1, v2] hp = (K 253 [w1, w2] hp).bind (fun o => ab_X rom K cX6_begin 4 0 55 ls (o.1.toList ++ [v0, v1, v2]) o.2) := ax_static (as := [w1, w2]) (st := [v0, v1, v2]) dX6_begin_52 kc_4_106 rfl rfl (Nat.le_of_ble_eq_true rfl)
theorem dX6_begin_55 : decode cX6_begin 55 = .ok (.putfield 41, 3) := by decide +kernel
theorem sX6_begin_55 : ab_X rom K cX6_begin 4 0 55 ls (.int x :: .ref a :: st) hp = (ab_fpt hp a 4 9 (.int x)).bind (fun hp' => ab_X rom K cX6_begin 4 0 58 ls st hp') := ax_putfield dX6_begin_55 kf_4_41 rfl (Or.inl rfl) rfl
theorem dX6_begin_58 : decode cX6_begin 58 = .ok (.aload_n 0, 1) := by decide +kernel
theorem sX6_begin_58 : ab_X rom K cX6_begin 4 0 58 (.ref a :: ls) st hp = ab_X rom K cX6_begin 4 0 59 (.ref a :: ls) (.ref a :: st) hp := ax_aload_n dX6_begin_58 rfl rfl
theorem dX6_begin_59 : decode cX6_begin 59 = .ok (.aload_n 0, 1) := by decide +kernel
theorem sX6_begin_59 : ab_X rom K cX6_begin 4 0 59 (.ref a :: ls) st hp = ab_X rom K cX6_begin 4 0 60 (.ref a :: ls) (.ref a :: st) hp := ax_aload_n dX6_begin_59 rfl rfl
theorem dX6_begin_60 : decode cX6_begin 60 = .ok (.getfield 31, 3) := by decide +kernel
theorem sX6_begin_60 : ab_X rom K cX6_begin 4 0 60 ls (.ref a :: st) hp = (ab_fld hp a 4 6).bind (fun v => ab_X rom K cX6_begin 4 0 63 ls (v :: st) hp) := ax_getfield dX6_begin_60 kf_4_31 rfl
theorem dX6_begin_63 : decode cX6_begin 63 = .ok (.iconst 3, 1) := by decide +kernel
theorem sX6_begin_63 : ab_X rom K cX6_begin 4 0 63 ls st hp = ab_X rom K cX6_begin 4 0 64 ls (.int 3 :: st) hp := ax_iconst dX6_begin_63 (by decide) rfl
theorem dX6_begin_64 : decode cX6_begin 64 = .ok (.if_icmp .ne 8, 3) := by decide +kernel
theorem sX6_begin_64 : ab_X rom K cX6_begin 4 0 64 ls (.int y :: .int x :: st) hp = if x = y then ab_X rom K cX6_begin 4 0 67 ls st hp else ab_X rom K cX6_begin 4 0 72 ls st hp := ax_icmp_ne dX6_begin_64 (by decide) rfl
theorem dX6_begin_67 : decode cX6_begin 67 = .ok (.ldc 109, 2) := by decide +kernel
theorem sX6_begin_67 : ab_X rom K cX6_begin 4 0 67 ls st hp = ab_X rom K cX6_begin 4 0 69 ls (.int 1398101 :: st) hp := ax_ldc dX6_begin_67 kk_4_109 rfl
theorem dX6_begin_69 : decode cX6_begin 69 = .ok (.goto 4, 3) := by decide +kernel
theorem sX6_begin_69 : ab_X rom K cX6_begin 4 0 69 ls st hp = ab_X rom K cX6_begin 4 0 73 ls st hp := ax_goto dX6_begin_69 (by decide)
theorem dX6_begin_72 : decode cX6_begin 72 = .ok (.iconst 0, 1) := by decide +kernel
theorem sX6_begin_72 : ab_X rom K cX6_begin 4 0 72 ls st hp = ab_X rom K cX6_begin 4 0 73 ls (.int 0 :: st) hp := ax_iconst dX6_begin_72 (by decide) rfl
theorem dX6_begin_73 : decode cX6_begin 73 = .ok (.putfield 44, 3) := by decide +kernel
theorem sX6_begin_73 : ab_X rom K cX6_begin 4 0 73 ls (.int x :: .ref a :: st) hp = (ab_fpt hp a 4 10 (.int x)).bind (fun hp' => ab_X rom K cX6_begin 4 0 76 ls st hp') := ax_putfield dX6_begin_73 kf_4_44 rfl (Or.inl rfl) rfl
theorem dX6_begin_76 : decode cX6_begin 76 = .ok (.aload_n 0, 1) := by decide +kernel
theorem sX6_begin_76 : ab_X rom K cX6_begin 4 0 76 (.ref a :: ls) st hp = ab_X rom K cX6_begin 4 0 77 (.ref a :: ls) (.ref a :: st) hp := ax_aload_n dX6_begin_76 rfl rfl
theorem dX6_begin_77 : decode cX6_begin 77 = .ok (.aload_n 0, 1) := by decide +kernel
theorem sX6_begin_77 : ab_X rom K cX6_begin 4 0 77 (.ref a :: ls) st hp = ab_X rom K cX6_begin 4 0 78 (.ref a :: ls) (.ref a :: st) hp := ax_aload_n dX6_begin_77 rfl rfl
theorem dX6_begin_78 : decode cX6_begin 78 = .ok (.getfield 31, 3) := by decide +kernel
theorem sX6_begin_78 : ab_X rom K cX6_begin 4 0 78 ls (.ref a :: st) hp = (ab_fld hp a 4 6).bind (fun v => ab_X rom K cX6_begin 4 0 81 ls (v :: st) hp) := ax_getfield dX6_begin_78 kf_4_31 rfl
theorem dX6_begin_81 : decode cX6_begin 81 = .ok (.iconst 2, 1) := by decide +kernel
theorem sX6_begin_81 : ab_X rom K cX6_begin 4 0 81 ls st hp = ab_X rom K cX6_begin 4 0 82 ls (.int 2 :: st) hp := ax_iconst dX6_begin_81 (by decide) rfl
theorem dX6_begin_82 : decode cX6_begin 82 = .ok (.if_icmp .ne 17, 3) := by decide +kernel
theorem sX6_begin_82 : ab_X rom K cX6_begin 4 0 82 ls (.int y :: .int x :: st) hp = if x = y then ab_X rom K cX6_begin 4 0 85 ls st hp else ab_X rom K cX6_begin 4 0 99 ls st hp := ax_icmp_ne dX6_begin_82 (by decide) rfl
theorem dX6_begin_85 : decode cX6_begin 85 = .ok (.aload_n 0, 1) := by decide +kernel
theorem sX6_begin_85 : ab_X rom K cX6_begin 4 0 85 (.ref a :: ls) st hp = ab_X rom K cX6_begin 4 0 86 (.ref a :: ls) (.ref a :: st) hp := ax_aload_n dX6_begin_85 rfl rfl
theorem dX6_begin_86 : decode cX6_begin 86 = .ok (.getfield 60, 3) := by decide +kernel
theorem sX6_begin_86 : ab_X rom K cX6_begin 4 0 86 ls (.ref a :: st) hp = (ab_fld hp a 4 5).bind (fun v => ab_X rom K cX6_begin 4 0 89 ls (v :: st) hp) := ax_getfield dX6_begin_86 kf_4_60 rfl
theorem dX6_begin_89 : decode cX6_begin 89 = .ok (.invokevirtual 110, 3) := by decide +kernel
theorem sX6_begin_89_0 : ab_X rom K cX6_begin 4 0 89 ls [.ref a] hp = if ab_iso hp a 1 = true then (K 25 (.ref a :: []) hp).bind (fun o => ab_X rom K cX6_begin 4 0 92 ls (o.1.toList ++ []) o.2) else none := ay_virtual (as := []) (st := []) dX6_begin_89 kc_4_110 rfl rfl (Nat.le_of_ble_eq_true rfl)
theorem sX6_begin_89_1 : ab_X rom K cX6_begin 4 0 89 ls [.ref a, v0] hp = if ab_iso hp a 1 = true then (K 25 (.ref a :: []) hp).bind (fun o => ab_X rom K cX6_begin 4 0 92 ls (o.1.toList ++ [v0]) o.2) else none := ay_virtual (as := []) (st := [v0]) dX6_begin_89 kc_4_110 rfl rfl (Nat.le_of_ble_eq_true rfl)
theorem sX6_begin_89_2 : ab_X rom K cX6_begin 4 0 89 ls [.ref a, v0, v1] hp = if ab_iso hp a 1 = true then (K 25 (.ref a :: []) hp).bind (fun o => ab_X rom K cX6_begin 4 0 92 ls (o.1.toList ++ [v0, v1]) o.2) else none := ay_virtual (as := []) (st := [v0, v1]) dX6_begin_89 kc_4_110 rfl rfl (Nat.le_of_ble_eq_true rfl)
theorem sX6_begin_89_3 : ab_X rom K cX6_begin 4 0 89 ls [.ref a, v0, v1, v2] hp = if ab_iso hp a 1 = true then (K 25 (.ref a :: []) hp).bind (fun o => ab_X rom K cX6_begin 4 0 92 ls (o.1.toList ++ [v0, v1, v2]) o.2) else none := ay_virtual (as := []) (st := [v0, v1, v2]) dX6_begin_89 kc_4_110 rfl rfl (Nat.le_of_ble_eq_true rfl)
theorem dX6_begin_92 : decode cX6_begin 92 = .ok (.ifCond .ne 7, 3) := by decide +kernel
theorem sX6_begin_92 : ab_X rom K cX6_begin 4 0 92 ls (.int x :: st) hp = if x = 0 then ab_X rom K cX6_begin 4 0 95 ls st hp else ab_X rom K cX6_begin 4 0 99 ls st hp := ax_if_ne dX6_begin_92 (by decide) rfl
theorem dX6_begin_95 : decode cX6_begin 95 = .ok (.iconst 1, 1) := by decide +kernel
theorem sX6_begin_95 : ab_X rom K cX6_begin 4 0 95 ls st hp = ab_X rom K cX6_begin 4 0 96 ls (.int 1 :: st) hp := ax_iconst dX6_begin_95 (by decide) rfl
theorem dX6_begin_96 : decode cX6_begin 96 = .ok (.goto 4, 3) := by decide +kernel
theorem sX6_begin_96 : ab_X rom K cX6_begin 4 0 96 ls st hp = ab_X rom K cX6_begin 4 0 100 ls st hp := ax_goto dX6_begin_96 (by decide)
theorem dX6_begin_99 : decode cX6_begin 99 = .ok (.iconst 0, 1) := by decide +kernel
theorem sX6_begin_99 : ab_X rom K cX6_begin 4 0 99 ls st hp = ab_X rom K cX6_begin 4 0 100 ls (.int 0 :: st) hp := ax_iconst dX6_begin_99 (by decide) rfl
theorem dX6_begin_100 : decode cX6_begin 100 = .ok (.putfield 50, 3) := by decide +kernel
theorem sX6_begin_100 : ab_X rom K cX6_begin 4 0 100 ls (.int x :: .ref a :: st) hp = if x = 0 ∨ x = 1 then (ab_fpt hp a 4 12 (.int x)).bind (fun hp' => ab_X rom K cX6_begin 4 0 103 ls st hp') else none := ay_putbool dX6_begin_100 kf_4_50 rfl
theorem dX6_begin_103 : decode cX6_begin 103 = .ok (.aload_n 0, 1) := by decide +kernel
theorem sX6_begin_103 : ab_X rom K cX6_begin 4 0 103 (.ref a :: ls) st hp = ab_X rom K cX6_begin 4 0 104 (.ref a :: ls) (.ref a :: st) hp := ax_aload_n dX6_begin_103 rfl rfl
theorem dX6_begin_104 : decode cX6_begin 104 = .ok (.getfield 18, 3) := by decide +kernel
theorem sX6_begin_104 : ab_X rom K cX6_begin 4 0 104 ls (.ref a :: st) hp = (ab_fld hp a 4 1).bind (fun v => ab_X rom K cX6_begin 4 0 107 ls (v :: st) hp) := ax_getfield dX6_begin_104 kf_4_18 rfl
theorem dX6_begin_107 : decode cX6_begin 107 = .ok (.iconst (-1), 1) := by decide +kernel
theorem sX6_begin_107 : ab_X rom K cX6_begin 4 0 107 ls st hp = ab_X rom K cX6_begin 4 0 108 ls (.int (-1) :: st) hp := ax_iconst dX6_begin_107 (by decide) rfl
theorem dX6_begin_108 : decode cX6_begin 108 = .ok (.invokestatic 114, 3) := by decide +kernel
theorem sX6_begin_108_0 : ab_X rom K cX6_begin 4 0 108 ls [w2, w1] hp = (K 266 [w1, w2] hp).bind (fun o => ab_X rom K cX6_begin 4 0 111 ls (o.1.toList ++ []) o.2) := ax_static (as := [w1, w2]) (st := []) dX6_begin_108 kc_4_114 rfl rfl (Nat.le_of_ble_eq_true rfl)
theorem sX6_begin_108_1 : ab_X rom K cX6_begin 4 0 108 ls [w2, w1, v0] hp = (K 266 [w1, w2] hp).bind (fun o => ab_X rom K cX6_begin 4 0 111 ls (o.1.toList ++ [v0]) o.2) := ax_static (as := [w1, w2]) (st := [v0]) dX6_begin_108 kc_4_114 rfl rfl (Nat.le_of_ble_eq_true rfl)
theorem sX6_begin_108_2 : ab_X rom K cX6_begin 4 0 108 ls [w2, w1, v0, v1] hp = (K 266 [w1, w2] hp).bind (fun o => ab_X rom K cX6_begin 4 0 111 ls (o.1.toList ++ [v0, v1]) o.2) := ax_static (as := [w1, w2]) (st := [v0, v1]) dX6_begin_108 kc_4_114 rfl rfl (Nat.le_of_ble_eq_true rfl)
theorem sX6_begin_108_3 : ab_X rom K cX6_begin 4 0 108 ls [w2, w1, v0, v1, v2] hp = (K 266 [w1, w2] hp).bind (fun o => ab_X rom K cX6_begin 4 0 111 ls (o.1.toList ++ [v0, v1, v2]) o.2) := ax_static (as := [w1, w2]) (st := [v0, v1, v2]) dX6_begin_108 kc_4_114 rfl rfl (Nat.le_of_ble_eq_true rfl)
theorem dX6_begin_111 : decode cX6_begin 111 = .ok (.aload_n 0, 1) := by decide +kernel
theorem sX6_begin_111 : ab_X rom K cX6_begin 4 0 111 (.ref a :: ls) st hp = ab_X rom K cX6_begin 4 0 112 (.ref a :: ls) (.ref a :: st) hp := ax_aload_n dX6_begin_111 rfl rfl
theorem dX6_begin_112 : decode cX6_begin 112 = .ok (.getfield 22, 3) := by decide +kernel
theorem sX6_begin_112 : ab_X rom K cX6_begin 4 0 112 ls (.ref a :: st) hp = (ab_fld hp a 4 2).bind (fun v => ab_X rom K cX6_begin 4 0 115 ls (v :: st) hp) := ax_getfield dX6_begin_112 kf_4_22 rfl
theorem dX6_begin_115 : decode cX6_begin 115 = .ok (.iconst 0, 1) := by decide +kernel
theorem sX6_begin_115 : ab_X rom K cX6_begin 4 0 115 ls st hp = ab_X rom K cX6_begin 4 0 116 ls (.int 0 :: st) hp := ax_iconst dX6_begin_115 (by decide) rfl
theorem dX6_begin_116 : decode cX6_begin 116 = .ok (.invokestatic 114, 3) := by decide +kernel
theorem sX6_begin_116_0 : ab_X rom K cX6_begin 4 0 116 ls [w2, w1] hp = (K 266 [w1, w2] hp).bind (fun o => ab_X rom K cX6_begin 4 0 119 ls (o.1.toList ++ []) o.2) := ax_static (as := [w1, w2]) (st := []) dX6_begin_116 kc_4_114 rfl rfl (Nat.le_of_ble_eq_true rfl)
theorem sX6_begin_116_1 : ab_X rom K cX6_begin 4 0 116 ls [w2, w1, v0] hp = (K 266 [w1, w2] hp).bind (fun o => ab_X rom K cX6_begin 4 0 119 ls (o.1.toList ++ [v0]) o.2) := ax_static (as := [w1, w2]) (st := [v0]) dX6_begin_116 kc_4_114 rfl rfl (Nat.le_of_ble_eq_true rfl)
theorem sX6_begin_116_2 : ab_X rom K cX6_begin 4 0 116 ls [w2, w1, v0, v1] hp = (K 266 [w1, w2] hp).bind (fun o => ab_X rom K cX6_begin 4 0 119 ls (o.1.toList ++ [v0, v1]) o.2) := ax_static (as := [w1, w2]) (st := [v0, v1]) dX6_begin_116 kc_4_114 rfl rfl (Nat.le_of_ble_eq_true rfl)
theorem sX6_begin_116_3 : ab_X rom K cX6_begin 4 0 116 ls [w2, w1, v0, v1, v2] hp = (K 266 [w1, w2] hp).bind (fun o => ab_X rom K cX6_begin 4 0 119 ls (o.1.toList ++ [v0, v1, v2]) o.2) := ax_static (as := [w1, w2]) (st := [v0, v1, v2]) dX6_begin_116 kc_4_114 rfl rfl (Nat.le_of_ble_eq_true rfl)
theorem dX6_begin_119 : decode cX6_begin 119 = .ok (.return_, 1) := by decide +kernel
theorem sX6_begin_119 : ab_X rom K cX6_begin 4 0 119 ls [] hp = some (none, hp) := ax_vret dX6_begin_119 (by decide)
theorem tX6_bestNext : ab_mT[59]? = some (yX6_bestNext, cX6_bestNext, 6, 1, 4) := by decide +kernel
theorem mX6_bestNext {d : Nat} {a0 : Nat} {x0 : Int32} : ab_M rom (d + 1) 59 [.ref a0, .int x0] hp = ab_X rom (ab_M rom d) cX6_bestNext 4 1 0 [.ref a0, .int x0, .null, .null, .null, .null] [] hp := ab_M_eq tX6_bestNext (Nat.le_of_ble_eq_true rfl)
theorem dX6_bestNext_0 : decode cX6_bestNext 0 = .ok (.iconst 0, 1) := by decide +kernel
theorem sX6_bestNext_0 : ab_X rom K cX6_bestNext 4 1 0 ls st hp = ab_X rom K cX6_bestNext 4 1 1 ls (.int 0 :: st) hp := ax_iconst dX6_bestNext_0 (by decide) rfl
theorem dX6_bestNext_1 : decode cX6_bestNext 1 = .ok (.istore_n 2, 1) := by decide +kernel
theorem sX6_bestNext_1i : ab_X rom K cX6_bestNext 4 1 1 (v0 :: .int y :: v2 :: ls) (.int x :: st) hp = ab_X rom K cX6_bestNext 4 1 2 (v0 :: .int y :: .int x :: ls) st hp := ax_istore_n dX6_bestNext_1 (ax_lt (v := v2) rfl) (ab_nl_c1 (j := 1) (v := .int y) rfl (ab_c1_int _)) rfl rfl
theorem sX6_bestNext_1r : ab_X rom K cX6_bestNext 4 1 1 (v0 :: .ref a2 :: v2 :: ls) (.int x :: st) hp = ab_X rom K cX6_bestNext 4 1 2 (v0 :: .ref a2 :: .int x :: ls) st hp := ax_istore_n dX6_bestNext_1 (ax_lt (v := v2) rfl) (ab_nl_c1 (j := 1) (v := .ref a2) rfl (ab_c1_ref _)) rfl rfl
theorem sX6_bestNext_1n : ab_X rom K cX6_bestNext 4 1 1 (v0 :: .null :: v2 :: ls) (.int x :: st) hp = ab_X rom K cX6_bestNext 4 1 2 (v0 :: .null :: .int x :: ls) st hp := ax_istore_n dX6_bestNext_1 (ax_lt (v := v2) rfl) (ab_nl_c1 (j := 1) (v := .null) rfl ab_c1_null) rfl rfl
theorem dX6_bestNext_2 : decode cX6_bestNext 2 = .ok (.iconst (-1), 1) := by decide +kernel
theorem sX6_bestNext_2 : ab_X rom K cX6_bestNext 4 1 2 ls st hp = ab_X rom K cX6_bestNext 4 1 3 ls (.int (-1) :: st) hp := ax_iconst dX6_bestNext_2 (by decide) rfl
theorem dX6_bestNext_3 : decode cX6_bestNext 3 = .ok (.istore_n 3, 1) := by decide +kernel
theorem sX6_bestNext_3i : ab_X rom K cX6_bestNext 4 1 3 (v0 :: v1 :: .int y :: v3 :: ls) (.int x :: st) hp = ab_X rom K cX6_bestNext 4 1 4 (v0 :: v1 :: .int y :: .int x :: ls) st hp := ax_istore_n dX6_bestNext_3 (ax_lt (v := v3) rfl) (ab_nl_c1 (j := 2) (v := .int y) rfl (ab_c1_int _)) rfl rfl
theorem sX6_bestNext_3r : ab_X rom K cX6_bestNext 4 1 3 (v0 :: v1 :: .ref a2 :: v3 :: ls) (.int x :: st) hp = ab_X rom K cX6_bestNext 4 1 4 (v0 :: v1 :: .ref a2 :: .int x :: ls) st hp := ax_istore_n dX6_bestNext_3 (ax_lt (v := v3) rfl) (ab_nl_c1 (j := 2) (v := .ref a2) rfl (ab_c1_ref _)) rfl rfl
theorem sX6_bestNext_3n : ab_X rom K cX6_bestNext 4 1 3 (v0 :: v1 :: .null :: v3 :: ls) (.int x :: st) hp = ab_X rom K cX6_bestNext 4 1 4 (v0 :: v1 :: .null :: .int x :: ls) st hp := ax_istore_n dX6_bestNext_3 (ax_lt (v := v3) rfl) (ab_nl_c1 (j := 2) (v := .null) rfl ab_c1_null) rfl rfl
theorem dX6_bestNext_4 : decode cX6_bestNext 4 = .ok (.iconst 0, 1) := by decide +kernel
theorem sX6_bestNext_4 : ab_X rom K cX6_bestNext 4 1 4 ls st hp = ab_X rom K cX6_bestNext 4 1 5 ls (.int 0 :: st) hp := ax_iconst dX6_bestNext_4 (by decide) rfl
theorem dX6_bestNext_5 : decode cX6_bestNext 5 = .ok (.istore 4, 2) := by decide +kernel
theorem sX6_bestNext_5i : ab_X rom K cX6_bestNext 4 1 5 (v0 :: v1 :: v2 :: .int y :: v4 :: ls) (.int x :: st) hp = ab_X rom K cX6_bestNext 4 1 7 (v0 :: v1 :: v2 :: .int y :: .int x :: ls) st hp := ax_istore dX6_bestNext_5 (ax_lt (v := v4) rfl) (ab_nl_c1 (j := 3) (v := .int y) rfl (ab_c1_int _)) rfl rfl
theorem sX6_bestNext_5r : ab_X rom K cX6_bestNext 4 1 5 (v0 :: v1 :: v2 :: .ref a2 :: v4 :: ls) (.int x :: st) hp = ab_X rom K cX6_bestNext 4 1 7 (v0 :: v1 :: v2 :: .ref a2 :: .int x :: ls) st hp := ax_istore dX6_bestNext_5 (ax_lt (v := v4) rfl) (ab_nl_c1 (j := 3) (v := .ref a2) rfl (ab_c1_ref _)) rfl rfl
theorem sX6_bestNext_5n : ab_X rom K cX6_bestNext 4 1 5 (v0 :: v1 :: v2 :: .null :: v4 :: ls) (.int x :: st) hp = ab_X rom K cX6_bestNext 4 1 7 (v0 :: v1 :: v2 :: .null :: .int x :: ls) st hp := ax_istore dX6_bestNext_5 (ax_lt (v := v4) rfl) (ab_nl_c1 (j := 3) (v := .null) rfl ab_c1_null) rfl rfl
theorem dX6_bestNext_7 : decode cX6_bestNext 7 = .ok (.iload 4, 2) := by decide +kernel
theorem sX6_bestNext_7 : ab_X rom K cX6_bestNext 4 1 7 (v0 :: v1 :: v2 :: v3 :: .int x :: ls) st hp = ab_X rom K cX6_bestNext 4 1 9 (v0 :: v1 :: v2 :: v3 :: .int x :: ls) (.int x :: st) hp := ax_iload dX6_bestNext_7 rfl rfl
theorem dX6_bestNext_9 : decode cX6_bestNext 9 = .ok (.aload_n 0, 1) := by decide +kernel
theorem sX6_bestNext_9 : ab_X rom K cX6_bestNext 4 1 9 (.ref a :: ls) st hp = ab_X rom K cX6_bestNext 4 1 10 (.ref a :: ls) (.ref a :: st) hp := ax_aload_n dX6_bestNext_9 rfl rfl
theorem dX6_bestNext_10 : decode cX6_bestNext 10 = .ok (.getfield 60, 3) := by decide +kernel
theorem sX6_bestNext_10 : ab_X rom K cX6_bestNext 4 1 10 ls (.ref a :: st) hp = (ab_fld hp a 4 5).bind (fun v => ab_X rom K cX6_bestNext 4 1 13 ls (v :: st) hp) := ax_getfield dX6_bestNext_10 kf_4_60 rfl
theorem dX6_bestNext_13 : decode cX6_bestNext 13 = .ok (.getfield 120, 3) := by decide +kernel
theorem sX6_bestNext_13 : ab_X rom K cX6_bestNext 4 1 13 ls (.ref a :: st) hp = (ab_fld hp a 1 0).bind (fun v => ab_X rom K cX6_bestNext 4 1 16 ls (v :: st) hp) := ax_getfield dX6_bestNext_13 kf_4_120 rfl
theorem dX6_bestNext_16 : decode cX6_bestNext 16 = .ok (.if_icmp .ge 60, 3) := by decide +kernel
theorem sX6_bestNext_16 : ab_X rom K cX6_bestNext 4 1 16 ls (.int y :: .int x :: st) hp = if x < y then ab_X rom K cX6_bestNext 4 1 19 ls st hp else ab_X rom K cX6_bestNext 4 1 76 ls st hp := ax_icmp_ge dX6_bestNext_16 (by decide) rfl
theorem dX6_bestNext_19 : decode cX6_bestNext 19 = .ok (.bipush 10, 2) := by decide +kernel
theorem sX6_bestNext_19 : ab_X rom K cX6_bestNext 4 1 19 ls st hp = ab_X rom K cX6_bestNext 4 1 21 ls (.int 10 :: st) hp := ax_bipush dX6_bestNext_19 (by decide) rfl
theorem dX6_bestNext_21 : decode cX6_bestNext 21 = .ok (.aload_n 0, 1) := by decide +kernel
theorem sX6_bestNext_21 : ab_X rom K cX6_bestNext 4 1 21 (.ref a :: ls) st hp = ab_X rom K cX6_bestNext 4 1 22 (.ref a :: ls) (.ref a :: st) hp := ax_aload_n dX6_bestNext_21 rfl rfl
theorem dX6_bestNext_22 : decode cX6_bestNext 22 = .ok (.getfield 60, 3) := by decide +kernel
theorem sX6_bestNext_22 : ab_X rom K cX6_bestNext 4 1 22 ls (.ref a :: st) hp = (ab_fld hp a 4 5).bind (fun v => ab_X rom K cX6_bestNext 4 1 25 ls (v :: st) hp) := ax_getfield dX6_bestNext_22 kf_4_60 rfl
theorem dX6_bestNext_25 : decode cX6_bestNext 25 = .ok (.getfield 131, 3) := by decide +kernel
theorem sX6_bestNext_25 : ab_X rom K cX6_bestNext 4 1 25 ls (.ref a :: st) hp = (ab_fld hp a 1 5).bind (fun v => ab_X rom K cX6_bestNext 4 1 28 ls (v :: st) hp) := ax_getfield dX6_bestNext_25 kf_4_131 rfl
theorem dX6_bestNext_28 : decode cX6_bestNext 28 = .ok (.iload 4, 2) := by decide +kernel
theorem sX6_bestNext_28 : ab_X rom K cX6_bestNext 4 1 28 (v0 :: v1 :: v2 :: v3 :: .int x :: ls) st hp = ab_X rom K cX6_bestNext 4 1 30 (v0 :: v1 :: v2 :: v3 :: .int x :: ls) (.int x :: st) hp := ax_iload dX6_bestNext_28 rfl rfl
theorem dX6_bestNext_30 : decode cX6_bestNext 30 = .ok (.iaload, 1) := by decide +kernel
theorem sX6_bestNext_30 : ab_X rom K cX6_bestNext 4 1 30 ls (.int x :: .ref a :: st) hp = (ab_ard rom 0 hp a x).bind (fun v => ab_X rom K cX6_bestNext 4 1 31 ls (.int v :: st) hp) := ax_iaload dX6_bestNext_30 rfl
theorem dX6_bestNext_31 : decode cX6_bestNext 31 = .ok (.iload_n 1, 1) := by decide +kernel
theorem sX6_bestNext_31 : ab_X rom K cX6_bestNext 4 1 31 (v0 :: .int x :: ls) st hp = ab_X rom K cX6_bestNext 4 1 32 (v0 :: .int x :: ls) (.int x :: st) hp := ax_iload_n dX6_bestNext_31 rfl rfl
theorem dX6_bestNext_32 : decode cX6_bestNext 32 = .ok (.iand, 1) := by decide +kernel
theorem sX6_bestNext_32 : ab_X rom K cX6_bestNext 4 1 32 ls (.int y :: .int x :: st) hp = ab_X rom K cX6_bestNext 4 1 33 ls (.int (x &&& y) :: st) hp := ax_iand dX6_bestNext_32 rfl
theorem dX6_bestNext_33 : decode cX6_bestNext 33 = .ok (.invokestatic 134, 3) := by decide +kernel
theorem sX6_bestNext_33_0 : ab_X rom K cX6_bestNext 4 1 33 ls [w1] hp = (K 264 [w1] hp).bind (fun o => ab_X rom K cX6_bestNext 4 1 36 ls (o.1.toList ++ []) o.2) := ax_static (as := [w1]) (st := []) dX6_bestNext_33 kc_4_134 rfl rfl (Nat.le_of_ble_eq_true rfl)
theorem sX6_bestNext_33_1 : ab_X rom K cX6_bestNext 4 1 33 ls [w1, v0] hp = (K 264 [w1] hp).bind (fun o => ab_X rom K cX6_bestNext 4 1 36 ls (o.1.toList ++ [v0]) o.2) := ax_static (as := [w1]) (st := [v0]) dX6_bestNext_33 kc_4_134 rfl rfl (Nat.le_of_ble_eq_true rfl)
theorem sX6_bestNext_33_2 : ab_X rom K cX6_bestNext 4 1 33 ls [w1, v0, v1] hp = (K 264 [w1] hp).bind (fun o => ab_X rom K cX6_bestNext 4 1 36 ls (o.1.toList ++ [v0, v1]) o.2) := ax_static (as := [w1]) (st := [v0, v1]) dX6_bestNext_33 kc_4_134 rfl rfl (Nat.le_of_ble_eq_true rfl)
theorem sX6_bestNext_33_3 : ab_X rom K cX6_bestNext 4 1 33 ls [w1, v0, v1, v2] hp = (K 264 [w1] hp).bind (fun o => ab_X rom K cX6_bestNext 4 1 36 ls (o.1.toList ++ [v0, v1, v2]) o.2) := ax_static (as := [w1]) (st := [v0, v1, v2]) dX6_bestNext_33 kc_4_134 rfl rfl (Nat.le_of_ble_eq_true rfl)
theorem dX6_bestNext_36 : decode cX6_bestNext 36 = .ok (.imul, 1) := by decide +kernel
theorem sX6_bestNext_36 : ab_X rom K cX6_bestNext 4 1 36 ls (.int y :: .int x :: st) hp = ab_X rom K cX6_bestNext 4 1 37 ls (.int (x * y) :: st) hp := ax_imul dX6_bestNext_36 rfl
theorem dX6_bestNext_37 : decode cX6_bestNext 37 = .ok (.aload_n 0, 1) := by decide +kernel
theorem sX6_bestNext_37 : ab_X rom K cX6_bestNext 4 1 37 (.ref a :: ls) st hp = ab_X rom K cX6_bestNext 4 1 38 (.ref a :: ls) (.ref a :: st) hp := ax_aload_n dX6_bestNext_37 rfl rfl
theorem dX6_bestNext_38 : decode cX6_bestNext 38 = .ok (.getfield 60, 3) := by decide +kernel
theorem sX6_bestNext_38 : ab_X rom K cX6_bestNext 4 1 38 ls (.ref a :: st) hp = (ab_fld hp a 4 5).bind (fun v => ab_X rom K cX6_bestNext 4 1 41 ls (v :: st) hp) := ax_getfield dX6_bestNext_38 kf_4_60 rfl
theorem dX6_bestNext_41 : decode cX6_bestNext 41 = .ok (.iload 4, 2) := by decide +kernel
theorem sX6_bestNext_41 : ab_X rom K cX6_bestNext 4 1 41 (v0 :: v1 :: v2 :: v3 :: .int x :: ls) st hp = ab_X rom K cX6_bestNext 4 1 43 (v0 :: v1 :: v2 :: v3 :: .int x :: ls) (.int x :: st) hp := ax_iload dX6_bestNext_41 rfl rfl
theorem dX6_bestNext_43 : decode cX6_bestNext 43 = .ok (.invokevirtual 143, 3) := by decide +kernel
theorem sX6_bestNext_43_0 : ab_X rom K cX6_bestNext 4 1 43 ls [w1, .ref a] hp = if ab_iso hp a 1 = true then (K 27 (.ref a :: [w1]) hp).bind (fun o => ab_X rom K cX6_bestNext 4 1 46 ls (o.1.toList ++ []) o.2) else none := ay_virtual (as := [w1]) (st := []) dX6_bestNext_43 kc_4_143 rfl rfl (Nat.le_of_ble_eq_true rfl)
theorem sX6_bestNext_43_1 : ab_X rom K cX6_bestNext 4 1 43 ls [w1, .ref a, v0] hp = if ab_iso hp a 1 = true then (K 27 (.ref a :: [w1]) hp).bind (fun o => ab_X rom K cX6_bestNext 4 1 46 ls (o.1.toList ++ [v0]) o.2) else none := ay_virtual (as := [w1]) (st := [v0]) dX6_bestNext_43 kc_4_143 rfl rfl (Nat.le_of_ble_eq_true rfl)
theorem sX6_bestNext_43_2 : ab_X rom K cX6_bestNext 4 1 43 ls [w1, .ref a, v0, v1] hp = if ab_iso hp a 1 = true then (K 27 (.ref a :: [w1]) hp).bind (fun o => ab_X rom K cX6_bestNext 4 1 46 ls (o.1.toList ++ [v0, v1]) o.2) else none := ay_virtual (as := [w1]) (st := [v0, v1]) dX6_bestNext_43 kc_4_143 rfl rfl (Nat.le_of_ble_eq_true rfl)
theorem sX6_bestNext_43_3 : ab_X rom K cX6_bestNext 4 1 43 ls [w1, .ref a, v0, v1, v2] hp = if ab_iso hp a 1 = true then (K 27 (.ref a :: [w1]) hp).bind (fun o => ab_X rom K cX6_bestNext 4 1 46 ls (o.1.toList ++ [v0, v1, v2]) o.2) else none := ay_virtual (as := [w1]) (st := [v0, v1, v2]) dX6_bestNext_43 kc_4_143 rfl rfl (Nat.le_of_ble_eq_true rfl)
theorem dX6_bestNext_46 : decode cX6_bestNext 46 = .ok (.iadd, 1) := by decide +kernel
theorem sX6_bestNext_46 : ab_X rom K cX6_bestNext 4 1 46 ls (.int y :: .int x :: st) hp = ab_X rom K cX6_bestNext 4 1 47 ls (.int (x + y) :: st) hp := ax_iadd dX6_bestNext_46 rfl
theorem dX6_bestNext_47 : decode cX6_bestNext 47 = .ok (.istore 5, 2) := by decide +kernel
theorem sX6_bestNext_47i : ab_X rom K cX6_bestNext 4 1 47 (v0 :: v1 :: v2 :: v3 :: .int y :: v5 :: ls) (.int x :: st) hp = ab_X rom K cX6_bestNext 4 1 49 (v0 :: v1 :: v2 :: v3 :: .int y :: .int x :: ls) st hp := ax_istore dX6_bestNext_47 (ax_lt (v := v5) rfl) (ab_nl_c1 (j := 4) (v := .int y) rfl (ab_c1_int _)) rfl rfl
theorem sX6_bestNext_47r : ab_X rom K cX6_bestNext 4 1 47 (v0 :: v1 :: v2 :: v3 :: .ref a2 :: v5 :: ls) (.int x :: st) hp = ab_X rom K cX6_bestNext 4 1 49 (v0 :: v1 :: v2 :: v3 :: .ref a2 :: .int x :: ls) st hp := ax_istore dX6_bestNext_47 (ax_lt (v := v5) rfl) (ab_nl_c1 (j := 4) (v := .ref a2) rfl (ab_c1_ref _)) rfl rfl
theorem sX6_bestNext_47n : ab_X rom K cX6_bestNext 4 1 47 (v0 :: v1 :: v2 :: v3 :: .null :: v5 :: ls) (.int x :: st) hp = ab_X rom K cX6_bestNext 4 1 49 (v0 :: v1 :: v2 :: v3 :: .null :: .int x :: ls) st hp := ax_istore dX6_bestNext_47 (ax_lt (v := v5) rfl) (ab_nl_c1 (j := 4) (v := .null) rfl ab_c1_null) rfl rfl
theorem dX6_bestNext_49 : decode cX6_bestNext 49 = .ok (.iload_n 1, 1) := by decide +kernel
theorem sX6_bestNext_49 : ab_X rom K cX6_bestNext 4 1 49 (v0 :: .int x :: ls) st hp = ab_X rom K cX6_bestNext 4 1 50 (v0 :: .int x :: ls) (.int x :: st) hp := ax_iload_n dX6_bestNext_49 rfl rfl
theorem dX6_bestNext_50 : decode cX6_bestNext 50 = .ok (.iload 4, 2) := by decide +kernel
theorem sX6_bestNext_50 : ab_X rom K cX6_bestNext 4 1 50 (v0 :: v1 :: v2 :: v3 :: .int x :: ls) st hp = ab_X rom K cX6_bestNext 4 1 52 (v0 :: v1 :: v2 :: v3 :: .int x :: ls) (.int x :: st) hp := ax_iload dX6_bestNext_50 rfl rfl
theorem dX6_bestNext_52 : decode cX6_bestNext 52 = .ok (.ishr, 1) := by decide +kernel
theorem sX6_bestNext_52 : ab_X rom K cX6_bestNext 4 1 52 ls (.int y :: .int x :: st) hp = ab_X rom K cX6_bestNext 4 1 53 ls (.int (x >>> (y &&& 31)) :: st) hp := ax_ishr dX6_bestNext_52 rfl
theorem dX6_bestNext_53 : decode cX6_bestNext 53 = .ok (.iconst 1, 1) := by decide +kernel
theorem sX6_bestNext_53 : ab_X rom K cX6_bestNext 4 1 53 ls st hp = ab_X rom K cX6_bestNext 4 1 54 ls (.int 1 :: st) hp := ax_iconst dX6_bestNext_53 (by decide) rfl
theorem dX6_bestNext_54 : decode cX6_bestNext 54 = .ok (.iand, 1) := by decide +kernel
theorem sX6_bestNext_54 : ab_X rom K cX6_bestNext 4 1 54 ls (.int y :: .int x :: st) hp = ab_X rom K cX6_bestNext 4 1 55 ls (.int (x &&& y) :: st) hp := ax_iand dX6_bestNext_54 rfl
theorem dX6_bestNext_55 : decode cX6_bestNext 55 = .ok (.ifCond .ne 15, 3) := by decide +kernel
theorem sX6_bestNext_55 : ab_X rom K cX6_bestNext 4 1 55 ls (.int x :: st) hp = if x = 0 then ab_X rom K cX6_bestNext 4 1 58 ls st hp else ab_X rom K cX6_bestNext 4 1 70 ls st hp := ax_if_ne dX6_bestNext_55 (by decide) rfl
theorem dX6_bestNext_58 : decode cX6_bestNext 58 = .ok (.iload 5, 2) := by decide +kernel
theorem sX6_bestNext_58 : ab_X rom K cX6_bestNext 4 1 58 (v0 :: v1 :: v2 :: v3 :: v4 :: .int x :: ls) st hp = ab_X rom K cX6_bestNext 4 1 60 (v0 :: v1 :: v2 :: v3 :: v4 :: .int x :: ls) (.int x :: st) hp := ax_iload dX6_bestNext_58 rfl rfl
theorem dX6_bestNext_60 : decode cX6_bestNext 60 = .ok (.iload_n 3, 1) := by decide +kernel
theorem sX6_bestNext_60 : ab_X rom K cX6_bestNext 4 1 60 (v0 :: v1 :: v2 :: .int x :: ls) st hp = ab_X rom K cX6_bestNext 4 1 61 (v0 :: v1 :: v2 :: .int x :: ls) (.int x :: st) hp := ax_iload_n dX6_bestNext_60 rfl rfl
theorem dX6_bestNext_61 : decode cX6_bestNext 61 = .ok (.if_icmp .le 9, 3) := by decide +kernel
theorem sX6_bestNext_61 : ab_X rom K cX6_bestNext 4 1 61 ls (.int y :: .int x :: st) hp = if y < x then ab_X rom K cX6_bestNext 4 1 64 ls st hp else ab_X rom K cX6_bestNext 4 1 70 ls st hp := ax_icmp_le dX6_bestNext_61 (by decide) rfl
theorem dX6_bestNext_64 : decode cX6_bestNext 64 = .ok (.iload 4, 2) := by decide +kernel
theorem sX6_bestNext_64 : ab_X rom K cX6_bestNext 4 1 64 (v0 :: v1 :: v2 :: v3 :: .int x :: ls) st hp = ab_X rom K cX6_bestNext 4 1 66 (v0 :: v1 :: v2 :: v3 :: .int x :: ls) (.int x :: st) hp := ax_iload dX6_bestNext_64 rfl rfl
theorem dX6_bestNext_66 : decode cX6_bestNext 66 = .ok (.istore_n 2, 1) := by decide +kernel
theorem sX6_bestNext_66i : ab_X rom K cX6_bestNext 4 1 66 (v0 :: .int y :: v2 :: ls) (.int x :: st) hp = ab_X rom K cX6_bestNext 4 1 67 (v0 :: .int y :: .int x :: ls) st hp := ax_istore_n dX6_bestNext_66 (ax_lt (v := v2) rfl) (ab_nl_c1 (j := 1) (v := .int y) rfl (ab_c1_int _)) rfl rfl
theorem sX6_bestNext_66r : ab_X rom K cX6_bestNext 4 1 66 (v0 :: .ref a2 :: v2 :: ls) (.int x :: st) hp = ab_X rom K cX6_bestNext 4 1 67 (v0 :: .ref a2 :: .int x :: ls) st hp := ax_istore_n dX6_bestNext_66 (ax_lt (v := v2) rfl) (ab_nl_c1 (j := 1) (v := .ref a2) rfl (ab_c1_ref _)) rfl rfl
theorem sX6_bestNext_66n : ab_X rom K cX6_bestNext 4 1 66 (v0 :: .null :: v2 :: ls) (.int x :: st) hp = ab_X rom K cX6_bestNext 4 1 67 (v0 :: .null :: .int x :: ls) st hp := ax_istore_n dX6_bestNext_66 (ax_lt (v := v2) rfl) (ab_nl_c1 (j := 1) (v := .null) rfl ab_c1_null) rfl rfl
theorem dX6_bestNext_67 : decode cX6_bestNext 67 = .ok (.iload 5, 2) := by decide +kernel
theorem sX6_bestNext_67 : ab_X rom K cX6_bestNext 4 1 67 (v0 :: v1 :: v2 :: v3 :: v4 :: .int x :: ls) st hp = ab_X rom K cX6_bestNext 4 1 69 (v0 :: v1 :: v2 :: v3 :: v4 :: .int x :: ls) (.int x :: st) hp := ax_iload dX6_bestNext_67 rfl rfl
theorem dX6_bestNext_69 : decode cX6_bestNext 69 = .ok (.istore_n 3, 1) := by decide +kernel
theorem sX6_bestNext_69i : ab_X rom K cX6_bestNext 4 1 69 (v0 :: v1 :: .int y :: v3 :: ls) (.int x :: st) hp = ab_X rom K cX6_bestNext 4 1 70 (v0 :: v1 :: .int y :: .int x :: ls) st hp := ax_istore_n dX6_bestNext_69 (ax_lt (v := v3) rfl) (ab_nl_c1 (j := 2) (v := .int y) rfl (ab_c1_int _)) rfl rfl
theorem sX6_bestNext_69r : ab_X rom K cX6_bestNext 4 1 69 (v0 :: v1 :: .ref a2 :: v3 :: ls) (.int x :: st) hp = ab_X rom K cX6_bestNext 4 1 70 (v0 :: v1 :: .ref a2 :: .int x :: ls) st hp := ax_istore_n dX6_bestNext_69 (ax_lt (v := v3) rfl) (ab_nl_c1 (j := 2) (v := .ref a2) rfl (ab_c1_ref _)) rfl rfl
theorem sX6_bestNext_69n : ab_X rom K cX6_bestNext 4 1 69 (v0 :: v1 :: .null :: v3 :: ls) (.int x :: st) hp = ab_X rom K cX6_bestNext 4 1 70 (v0 :: v1 :: .null :: .int x :: ls) st hp := ax_istore_n dX6_bestNext_69 (ax_lt (v := v3) rfl) (ab_nl_c1 (j := 2) (v := .null) rfl ab_c1_null) rfl rfl
theorem dX6_bestNext_70 : decode cX6_bestNext 70 = .ok (.iinc 4 1, 3) := by decide +kernel
theorem sX6_bestNext_70i : ab_X rom K cX6_bestNext 4 1 70 (v0 :: v1 :: v2 :: .int y :: .int x :: ls) st hp = ab_X rom K cX6_bestNext 4 1 73 (v0 :: v1 :: v2 :: .int y :: .int (x + 1) :: ls) st hp := ax_iinc dX6_bestNext_70 rfl (ab_nl_c1 (j := 3) (v := .int y) rfl (ab_c1_int _)) (by decide) rfl rfl
theorem sX6_bestNext_70r : ab_X rom K cX6_bestNext 4 1 70 (v0 :: v1 :: v2 :: .ref a2 :: .int x :: ls) st hp = ab_X rom K cX6_bestNext 4 1 73 (v0 :: v1 :: v2 :: .ref a2 :: .int (x + 1) :: ls) st hp := ax_iinc dX6_bestNext_70 rfl (ab_nl_c1 (j := 3) (v := .ref a2) rfl (ab_c1_ref _)) (by decide) rfl rfl
theorem sX6_bestNext_70n : ab_X rom K cX6_bestNext 4 1 70 (v0 :: v1 :: v2 :: .null :: .int x :: ls) st hp = ab_X rom K cX6_bestNext 4 1 73 (v0 :: v1 :: v2 :: .null :: .int (x + 1) :: ls) st hp := ax_iinc dX6_bestNext_70 rfl (ab_nl_c1 (j := 3) (v := .null) rfl ab_c1_null) (by decide) rfl rfl
theorem dX6_bestNext_73 : decode cX6_bestNext 73 = .ok (.goto (-66), 3) := by decide +kernel
theorem sX6_bestNext_73 : ab_X rom K cX6_bestNext 4 1 73 ls st hp = ab_X rom K cX6_bestNext 4 1 7 ls st hp := ax_goto dX6_bestNext_73 (by decide)
theorem dX6_bestNext_76 : decode cX6_bestNext 76 = .ok (.iload_n 2, 1) := by decide +kernel
theorem sX6_bestNext_76 : ab_X rom K cX6_bestNext 4 1 76 (v0 :: v1 :: .int x :: ls) st hp = ab_X rom K cX6_bestNext 4 1 77 (v0 :: v1 :: .int x :: ls) (.int x :: st) hp := ax_iload_n dX6_bestNext_76 rfl rfl
theorem dX6_bestNext_77 : decode cX6_bestNext 77 = .ok (.ireturn, 1) := by decide +kernel
theorem sX6_bestNext_77 : ab_X rom K cX6_bestNext 4 1 77 ls [.int x] hp = some (some (.int x), hp) := ax_iret dX6_bestNext_77 rfl
theorem tX6_fitsSpan : ab_mT[60]? = some (yX6_fitsSpan, cX6_fitsSpan, 3, 2, 4) := by decide +kernel
theorem mX6_fitsSpan {d : Nat} {a0 : Nat} {r0 : Nat} {x1 : Int32} : ab_M rom (d + 1) 60 [.ref a0, .ref r0, .int x1] hp = ab_X rom (ab_M rom d) cX6_fitsSpan 4 2 0 [.ref a0, .ref r0, .int x1] [] hp := ab_M_eq tX6_fitsSpan (Nat.le_of_ble_eq_true rfl)
theorem dX6_fitsSpan_0 : decode cX6_fitsSpan 0 = .ok (.iload_n 2, 1) := by decide +kernel
theorem sX6_fitsSpan_0 : ab_X rom K cX6_fitsSpan 4 2 0 (v0 :: v1 :: .int x :: ls) st hp = ab_X rom K cX6_fitsSpan 4 2 1 (v0 :: v1 :: .int x :: ls) (.int x :: st) hp := ax_iload_n dX6_fitsSpan_0 rfl rfl
theorem dX6_fitsSpan_1 : decode cX6_fitsSpan 1 = .ok (.aload_n 1, 1) := by decide +kernel
theorem sX6_fitsSpan_1 : ab_X rom K cX6_fitsSpan 4 2 1 (v0 :: .ref a :: ls) st hp = ab_X rom K cX6_fitsSpan 4 2 2 (v0 :: .ref a :: ls) (.ref a :: st) hp := ax_aload_n dX6_fitsSpan_1 rfl rfl
theorem dX6_fitsSpan_2 : decode cX6_fitsSpan 2 = .ok (.getfield 64, 3) := by decide +kernel
theorem sX6_fitsSpan_2 : ab_X rom K cX6_fitsSpan 4 2 2 ls (.ref a :: st) hp = (ab_fld hp a 1 1).bind (fun v => ab_X rom K cX6_fitsSpan 4 2 5 ls (v :: st) hp) := ax_getfield dX6_fitsSpan_2 kf_4_64 rfl
theorem dX6_fitsSpan_5 : decode cX6_fitsSpan 5 = .ok (.if_icmp .ne 13, 3) := by decide +kernel
theorem sX6_fitsSpan_5 : ab_X rom K cX6_fitsSpan 4 2 5 ls (.int y :: .int x :: st) hp = if x = y then ab_X rom K cX6_fitsSpan 4 2 8 ls st hp else ab_X rom K cX6_fitsSpan 4 2 18 ls st hp := ax_icmp_ne dX6_fitsSpan_5 (by decide) rfl
theorem dX6_fitsSpan_8 : decode cX6_fitsSpan 8 = .ok (.aload_n 1, 1) := by decide +kernel
theorem sX6_fitsSpan_8 : ab_X rom K cX6_fitsSpan 4 2 8 (v0 :: .ref a :: ls) st hp = ab_X rom K cX6_fitsSpan 4 2 9 (v0 :: .ref a :: ls) (.ref a :: st) hp := ax_aload_n dX6_fitsSpan_8 rfl rfl
theorem dX6_fitsSpan_9 : decode cX6_fitsSpan 9 = .ok (.iconst 0, 1) := by decide +kernel
theorem sX6_fitsSpan_9 : ab_X rom K cX6_fitsSpan 4 2 9 ls st hp = ab_X rom K cX6_fitsSpan 4 2 10 ls (.int 0 :: st) hp := ax_iconst dX6_fitsSpan_9 (by decide) rfl
theorem dX6_fitsSpan_10 : decode cX6_fitsSpan 10 = .ok (.invokestatic 69, 3) := by decide +kernel
theorem sX6_fitsSpan_10_0 : ab_X rom K cX6_fitsSpan 4 2 10 ls [w2, w1] hp = (K 248 [w1, w2] hp).bind (fun o => ab_X rom K cX6_fitsSpan 4 2 13 ls (o.1.toList ++ []) o.2) := ax_static (as := [w1, w2]) (st := []) dX6_fitsSpan_10 kc_4_69 rfl rfl (Nat.le_of_ble_eq_true rfl)
theorem sX6_fitsSpan_10_1 : ab_X rom K cX6_fitsSpan 4 2 10 ls [w2, w1, v0] hp = (K 248 [w1, w2] hp).bind (fun o => ab_X rom K cX6_fitsSpan 4 2 13 ls (o.1.toList ++ [v0]) o.2) := ax_static (as := [w1, w2]) (st := [v0]) dX6_fitsSpan_10 kc_4_69 rfl rfl (Nat.le_of_ble_eq_true rfl)
theorem sX6_fitsSpan_10_2 : ab_X rom K cX6_fitsSpan 4 2 10 ls [w2, w1, v0, v1] hp = (K 248 [w1, w2] hp).bind (fun o => ab_X rom K cX6_fitsSpan 4 2 13 ls (o.1.toList ++ [v0, v1]) o.2) := ax_static (as := [w1, w2]) (st := [v0, v1]) dX6_fitsSpan_10 kc_4_69 rfl rfl (Nat.le_of_ble_eq_true rfl)
theorem sX6_fitsSpan_10_3 : ab_X rom K cX6_fitsSpan 4 2 10 ls [w2, w1, v0, v1, v2] hp = (K 248 [w1, w2] hp).bind (fun o => ab_X rom K cX6_fitsSpan 4 2 13 ls (o.1.toList ++ [v0, v1, v2]) o.2) := ax_static (as := [w1, w2]) (st := [v0, v1, v2]) dX6_fitsSpan_10 kc_4_69 rfl rfl (Nat.le_of_ble_eq_true rfl)
theorem dX6_fitsSpan_13 : decode cX6_fitsSpan 13 = .ok (.ifCond .eq 5, 3) := by decide +kernel
theorem sX6_fitsSpan_13 : ab_X rom K cX6_fitsSpan 4 2 13 ls (.int x :: st) hp = if x = 0 then ab_X rom K cX6_fitsSpan 4 2 18 ls st hp else ab_X rom K cX6_fitsSpan 4 2 16 ls st hp := ax_if_eq dX6_fitsSpan_13 (by decide) rfl
theorem dX6_fitsSpan_16 : decode cX6_fitsSpan 16 = .ok (.iconst 0, 1) := by decide +kernel
theorem sX6_fitsSpan_16 : ab_X rom K cX6_fitsSpan 4 2 16 ls st hp = ab_X rom K cX6_fitsSpan 4 2 17 ls (.int 0 :: st) hp := ax_iconst dX6_fitsSpan_16 (by decide) rfl
theorem dX6_fitsSpan_17 : decode cX6_fitsSpan 17 = .ok (.ireturn, 1) := by decide +kernel
theorem sX6_fitsSpan_17 : ab_X rom K cX6_fitsSpan 4 2 17 ls [.int x] hp = if x = 0 ∨ x = 1 then some (some (.int x), hp) else none := ay_zret dX6_fitsSpan_17 rfl
theorem dX6_fitsSpan_18 : decode cX6_fitsSpan 18 = .ok (.aload_n 0, 1) := by decide +kernel
theorem sX6_fitsSpan_18 : ab_X rom K cX6_fitsSpan 4 2 18 (.ref a :: ls) st hp = ab_X rom K cX6_fitsSpan 4 2 19 (.ref a :: ls) (.ref a :: st) hp := ax_aload_n dX6_fitsSpan_18 rfl rfl
theorem dX6_fitsSpan_19 : decode cX6_fitsSpan 19 = .ok (.getfield 12, 3) := by decide +kernel
theorem sX6_fitsSpan_19 : ab_X rom K cX6_fitsSpan 4 2 19 ls (.ref a :: st) hp = (ab_fld hp a 4 0).bind (fun v => ab_X rom K cX6_fitsSpan 4 2 22 ls (v :: st) hp) := ax_getfield dX6_fitsSpan_19 kf_4_12 rfl
theorem dX6_fitsSpan_22 : decode cX6_fitsSpan 22 = .ok (.invokevirtual 75, 3) := by decide +kernel
theorem sX6_fitsSpan_22_0 : ab_X rom K cX6_fitsSpan 4 2 22 ls [.ref a] hp = if ab_iso hp a 0 = true then (K 3 (.ref a :: []) hp).bind (fun o => ab_X rom K cX6_fitsSpan 4 2 25 ls (o.1.toList ++ []) o.2) else none := ay_virtual (as := []) (st := []) dX6_fitsSpan_22 kc_4_75 rfl rfl (Nat.le_of_ble_eq_true rfl)
theorem sX6_fitsSpan_22_1 : ab_X rom K cX6_fitsSpan 4 2 22 ls [.ref a, v0] hp = if ab_iso hp a 0 = true then (K 3 (.ref a :: []) hp).bind (fun o => ab_X rom K cX6_fitsSpan 4 2 25 ls (o.1.toList ++ [v0]) o.2) else none := ay_virtual (as := []) (st := [v0]) dX6_fitsSpan_22 kc_4_75 rfl rfl (Nat.le_of_ble_eq_true rfl)
theorem sX6_fitsSpan_22_2 : ab_X rom K cX6_fitsSpan 4 2 22 ls [.ref a, v0, v1] hp = if ab_iso hp a 0 = true then (K 3 (.ref a :: []) hp).bind (fun o => ab_X rom K cX6_fitsSpan 4 2 25 ls (o.1.toList ++ [v0, v1]) o.2) else none := ay_virtual (as := []) (st := [v0, v1]) dX6_fitsSpan_22 kc_4_75 rfl rfl (Nat.le_of_ble_eq_true rfl)
theorem sX6_fitsSpan_22_3 : ab_X rom K cX6_fitsSpan 4 2 22 ls [.ref a, v0, v1, v2] hp = if ab_iso hp a 0 = true then (K 3 (.ref a :: []) hp).bind (fun o => ab_X rom K cX6_fitsSpan 4 2 25 ls (o.1.toList ++ [v0, v1, v2]) o.2) else none := ay_virtual (as := []) (st := [v0, v1, v2]) dX6_fitsSpan_22 kc_4_75 rfl rfl (Nat.le_of_ble_eq_true rfl)
theorem dX6_fitsSpan_25 : decode cX6_fitsSpan 25 = .ok (.aload_n 0, 1) := by decide +kernel
theorem sX6_fitsSpan_25 : ab_X rom K cX6_fitsSpan 4 2 25 (.ref a :: ls) st hp = ab_X rom K cX6_fitsSpan 4 2 26 (.ref a :: ls) (.ref a :: st) hp := ax_aload_n dX6_fitsSpan_25 rfl rfl
theorem dX6_fitsSpan_26 : decode cX6_fitsSpan 26 = .ok (.aload_n 1, 1) := by decide +kernel
theorem sX6_fitsSpan_26 : ab_X rom K cX6_fitsSpan 4 2 26 (v0 :: .ref a :: ls) st hp = ab_X rom K cX6_fitsSpan 4 2 27 (v0 :: .ref a :: ls) (.ref a :: st) hp := ax_aload_n dX6_fitsSpan_26 rfl rfl
theorem dX6_fitsSpan_27 : decode cX6_fitsSpan 27 = .ok (.iconst 0, 1) := by decide +kernel
theorem sX6_fitsSpan_27 : ab_X rom K cX6_fitsSpan 4 2 27 ls st hp = ab_X rom K cX6_fitsSpan 4 2 28 ls (.int 0 :: st) hp := ax_iconst dX6_fitsSpan_27 (by decide) rfl
theorem dX6_fitsSpan_28 : decode cX6_fitsSpan 28 = .ok (.iconst 1, 1) := by decide +kernel
theorem sX6_fitsSpan_28 : ab_X rom K cX6_fitsSpan 4 2 28 ls st hp = ab_X rom K cX6_fitsSpan 4 2 29 ls (.int 1 :: st) hp := ax_iconst dX6_fitsSpan_28 (by decide) rfl
theorem dX6_fitsSpan_29 : decode cX6_fitsSpan 29 = .ok (.invokevirtual 78, 3) := by decide +kernel
theorem sX6_fitsSpan_29_0 : ab_X rom K cX6_fitsSpan 4 2 29 ls [w3, w2, w1, .ref a] hp = if ab_iso hp a 4 = true then (K 58 (.ref a :: [w1, w2, w3]) hp).bind (fun o => ab_X rom K cX6_fitsSpan 4 2 32 ls (o.1.toList ++ []) o.2) else none := ay_virtual (as := [w1, w2, w3]) (st := []) dX6_fitsSpan_29 kc_4_78 rfl rfl (Nat.le_of_ble_eq_true rfl)
theorem sX6_fitsSpan_29_1 : ab_X rom K cX6_fitsSpan 4 2 29 ls [w3, w2, w1, .ref a, v0] hp = if ab_iso hp a 4 = true then (K 58 (.ref a :: [w1, w2, w3]) hp).bind (fun o => ab_X rom K cX6_fitsSpan 4 2 32 ls (o.1.toList ++ [v0]) o.2) else none := ay_virtual (as := [w1, w2, w3]) (st := [v0]) dX6_fitsSpan_29 kc_4_78 rfl rfl (Nat.le_of_ble_eq_true rfl)
theorem sX6_fitsSpan_29_2 : ab_X rom K cX6_fitsSpan 4 2 29 ls [w3, w2, w1, .ref a, v0, v1] hp = if ab_iso hp a 4 = true then (K 58 (.ref a :: [w1, w2, w3]) hp).bind (fun o => ab_X rom K cX6_fitsSpan 4 2 32 ls (o.1.toList ++ [v0, v1]) o.2) else none := ay_virtual (as := [w1, w2, w3]) (st := [v0, v1]) dX6_fitsSpan_29 kc_4_78 rfl rfl (Nat.le_of_ble_eq_true rfl)
theorem sX6_fitsSpan_29_3 : ab_X rom K cX6_fitsSpan 4 2 29 ls [w3, w2, w1, .ref a, v0, v1, v2] hp = if ab_iso hp a 4 = true then (K 58 (.ref a :: [w1, w2, w3]) hp).bind (fun o => ab_X rom K cX6_fitsSpan 4 2 32 ls (o.1.toList ++ [v0, v1, v2]) o.2) else none := ay_virtual (as := [w1, w2, w3]) (st := [v0, v1, v2]) dX6_fitsSpan_29 kc_4_78 rfl rfl (Nat.le_of_ble_eq_true rfl)
theorem dX6_fitsSpan_32 : decode cX6_fitsSpan 32 = .ok (.aload_n 0, 1) := by decide +kernel
theorem sX6_fitsSpan_32 : ab_X rom K cX6_fitsSpan 4 2 32 (.ref a :: ls) st hp = ab_X rom K cX6_fitsSpan 4 2 33 (.ref a :: ls) (.ref a :: st) hp := ax_aload_n dX6_fitsSpan_32 rfl rfl
theorem dX6_fitsSpan_33 : decode cX6_fitsSpan 33 = .ok (.iload_n 2, 1) := by decide +kernel
theorem sX6_fitsSpan_33 : ab_X rom K cX6_fitsSpan 4 2 33 (v0 :: v1 :: .int x :: ls) st hp = ab_X rom K cX6_fitsSpan 4 2 34 (v0 :: v1 :: .int x :: ls) (.int x :: st) hp := ax_iload_n dX6_fitsSpan_33 rfl rfl
theorem dX6_fitsSpan_34 : decode cX6_fitsSpan 34 = .ok (.putfield 35, 3) := by decide +kernel
theorem sX6_fitsSpan_34 : ab_X rom K cX6_fitsSpan 4 2 34 ls (.int x :: .ref a :: st) hp = (ab_fpt hp a 4 7 (.int x)).bind (fun hp' => ab_X rom K cX6_fitsSpan 4 2 37 ls st hp') := ax_putfield dX6_fitsSpan_34 kf_4_35 rfl (Or.inl rfl) rfl
theorem dX6_fitsSpan_37 : decode cX6_fitsSpan 37 = .ok (.aload_n 0, 1) := by decide +kernel
theorem sX6_fitsSpan_37 : ab_X rom K cX6_fitsSpan 4 2 37 (.ref a :: ls) st hp = ab_X rom K cX6_fitsSpan 4 2 38 (.ref a :: ls) (.ref a :: st) hp := ax_aload_n dX6_fitsSpan_37 rfl rfl
theorem dX6_fitsSpan_38 : decode cX6_fitsSpan 38 = .ok (.invokevirtual 81, 3) := by decide +kernel
theorem sX6_fitsSpan_38_0 : ab_X rom K cX6_fitsSpan 4 2 38 ls [.ref a] hp = if ab_iso hp a 4 = true then (K 64 (.ref a :: []) hp).bind (fun o => ab_X rom K cX6_fitsSpan 4 2 41 ls (o.1.toList ++ []) o.2) else none := ay_virtual (as := []) (st := []) dX6_fitsSpan_38 kc_4_81 rfl rfl (Nat.le_of_ble_eq_true rfl)
theorem sX6_fitsSpan_38_1 : ab_X rom K cX6_fitsSpan 4 2 38 ls [.ref a, v0] hp = if ab_iso hp a 4 = true then (K 64 (.ref a :: []) hp).bind (fun o => ab_X rom K cX6_fitsSpan 4 2 41 ls (o.1.toList ++ [v0]) o.2) else none := ay_virtual (as := []) (st := [v0]) dX6_fitsSpan_38 kc_4_81 rfl rfl (Nat.le_of_ble_eq_true rfl)
theorem sX6_fitsSpan_38_2 : ab_X rom K cX6_fitsSpan 4 2 38 ls [.ref a, v0, v1] hp = if ab_iso hp a 4 = true then (K 64 (.ref a :: []) hp).bind (fun o => ab_X rom K cX6_fitsSpan 4 2 41 ls (o.1.toList ++ [v0, v1]) o.2) else none := ay_virtual (as := []) (st := [v0, v1]) dX6_fitsSpan_38 kc_4_81 rfl rfl (Nat.le_of_ble_eq_true rfl)
theorem sX6_fitsSpan_38_3 : ab_X rom K cX6_fitsSpan 4 2 38 ls [.ref a, v0, v1, v2] hp = if ab_iso hp a 4 = true then (K 64 (.ref a :: []) hp).bind (fun o => ab_X rom K cX6_fitsSpan 4 2 41 ls (o.1.toList ++ [v0, v1, v2]) o.2) else none := ay_virtual (as := []) (st := [v0, v1, v2]) dX6_fitsSpan_38 kc_4_81 rfl rfl (Nat.le_of_ble_eq_true rfl)
theorem dX6_fitsSpan_41 : decode cX6_fitsSpan 41 = .ok (.aload_n 0, 1) := by decide +kernel
theorem sX6_fitsSpan_41 : ab_X rom K cX6_fitsSpan 4 2 41 (.ref a :: ls) st hp = ab_X rom K cX6_fitsSpan 4 2 42 (.ref a :: ls) (.ref a :: st) hp := ax_aload_n dX6_fitsSpan_41 rfl rfl
theorem dX6_fitsSpan_42 : decode cX6_fitsSpan 42 = .ok (.aload_n 0, 1) := by decide +kernel
theorem sX6_fitsSpan_42 : ab_X rom K cX6_fitsSpan 4 2 42 (.ref a :: ls) st hp = ab_X rom K cX6_fitsSpan 4 2 43 (.ref a :: ls) (.ref a :: st) hp := ax_aload_n dX6_fitsSpan_42 rfl rfl
theorem dX6_fitsSpan_43 : decode cX6_fitsSpan 43 = .ok (.getfield 35, 3) := by decide +kernel
theorem sX6_fitsSpan_43 : ab_X rom K cX6_fitsSpan 4 2 43 ls (.ref a :: st) hp = (ab_fld hp a 4 7).bind (fun v => ab_X rom K cX6_fitsSpan 4 2 46 ls (v :: st) hp) := ax_getfield dX6_fitsSpan_43 kf_4_35 rfl
theorem dX6_fitsSpan_46 : decode cX6_fitsSpan 46 = .ok (.aload_n 0, 1) := by decide +kernel
theorem sX6_fitsSpan_46 : ab_X rom K cX6_fitsSpan 4 2 46 (.ref a :: ls) st hp = ab_X rom K cX6_fitsSpan 4 2 47 (.ref a :: ls) (.ref a :: st) hp := ax_aload_n dX6_fitsSpan_46 rfl rfl
theorem dX6_fitsSpan_47 : decode cX6_fitsSpan 47 = .ok (.getfield 35, 3) := by decide +kernel
theorem sX6_fitsSpan_47 : ab_X rom K cX6_fitsSpan 4 2 47 ls (.ref a :: st) hp = (ab_fld hp a 4 7).bind (fun v => ab_X rom K cX6_fitsSpan 4 2 50 ls (v :: st) hp) := ax_getfield dX6_fitsSpan_47 kf_4_35 rfl
theorem dX6_fitsSpan_50 : decode cX6_fitsSpan 50 = .ok (.aload_n 1, 1) := by decide +kernel
theorem sX6_fitsSpan_50 : ab_X rom K cX6_fitsSpan 4 2 50 (v0 :: .ref a :: ls) st hp = ab_X rom K cX6_fitsSpan 4 2 51 (v0 :: .ref a :: ls) (.ref a :: st) hp := ax_aload_n dX6_fitsSpan_50 rfl rfl
theorem dX6_fitsSpan_51 : decode cX6_fitsSpan 51 = .ok (.getfield 64, 3) := by decide +kernel
theorem sX6_fitsSpan_51 : ab_X rom K cX6_fitsSpan 4 2 51 ls (.ref a :: st) hp = (ab_fld hp a 1 1).bind (fun v => ab_X rom K cX6_fitsSpan 4 2 54 ls (v :: st) hp) := ax_getfield dX6_fitsSpan_51 kf_4_64 rfl
theorem dX6_fitsSpan_54 : decode cX6_fitsSpan 54 = .ok (.isub, 1) := by decide +kernel
theorem sX6_fitsSpan_54 : ab_X rom K cX6_fitsSpan 4 2 54 ls (.int y :: .int x :: st) hp = ab_X rom K cX6_fitsSpan 4 2 55 ls (.int (x - y) :: st) hp := ax_isub dX6_fitsSpan_54 rfl
theorem dX6_fitsSpan_55 : decode cX6_fitsSpan 55 = .ok (.iconst 0, 1) := by decide +kernel
theorem sX6_fitsSpan_55 : ab_X rom K cX6_fitsSpan 4 2 55 ls st hp = ab_X rom K cX6_fitsSpan 4 2 56 ls (.int 0 :: st) hp := ax_iconst dX6_fitsSpan_55 (by decide) rfl
theorem dX6_fitsSpan_56 : decode cX6_fitsSpan 56 = .ok (.invokestatic 84, 3) := by decide +kernel
theorem sX6_fitsSpan_56_0 : ab_X rom K cX6_fitsSpan 4 2 56 ls [w4, w3, w2, w1] hp = (K 65 [w1, w2, w3, w4] hp).bind (fun o => ab_X rom K cX6_fitsSpan 4 2 59 ls (o.1.toList ++ []) o.2) := ax_static (as := [w1, w2, w3, w4]) (st := []) dX6_fitsSpan_56 kc_4_84 rfl rfl (Nat.le_of_ble_eq_true rfl)
theorem sX6_fitsSpan_56_1 : ab_X rom K cX6_fitsSpan 4 2 56 ls [w4, w3, w2, w1, v0] hp = (K 65 [w1, w2, w3, w4] hp).bind (fun o => ab_X rom K cX6_fitsSpan 4 2 59 ls (o.1.toList ++ [v0]) o.2) := ax_static (as := [w1, w2, w3, w4]) (st := [v0]) dX6_fitsSpan_56 kc_4_84 rfl rfl (Nat.le_of_ble_eq_true rfl)
theorem sX6_fitsSpan_56_2 : ab_X rom K cX6_fitsSpan 4 2 56 ls [w4, w3, w2, w1, v0, v1] hp = (K 65 [w1, w2, w3, w4] hp).bind (fun o => ab_X rom K cX6_fitsSpan 4 2 59 ls (o.1.toList ++ [v0, v1]) o.2) := ax_static (as := [w1, w2, w3, w4]) (st := [v0, v1]) dX6_fitsSpan_56 kc_4_84 rfl rfl (Nat.le_of_ble_eq_true rfl)
theorem sX6_fitsSpan_56_3 : ab_X rom K cX6_fitsSpan 4 2 56 ls [w4, w3, w2, w1, v0, v1, v2] hp = (K 65 [w1, w2, w3, w4] hp).bind (fun o => ab_X rom K cX6_fitsSpan 4 2 59 ls (o.1.toList ++ [v0, v1, v2]) o.2) := ax_static (as := [w1, w2, w3, w4]) (st := [v0, v1, v2]) dX6_fitsSpan_56 kc_4_84 rfl rfl (Nat.le_of_ble_eq_true rfl)
theorem dX6_fitsSpan_59 : decode cX6_fitsSpan 59 = .ok (.aload_n 0, 1) := by decide +kernel
theorem sX6_fitsSpan_59 : ab_X rom K cX6_fitsSpan 4 2 59 (.ref a :: ls) st hp = ab_X rom K cX6_fitsSpan 4 2 60 (.ref a :: ls) (.ref a :: st) hp := ax_aload_n dX6_fitsSpan_59 rfl rfl
theorem dX6_fitsSpan_60 : decode cX6_fitsSpan 60 = .ok (.getfield 12, 3) := by decide +kernel
theorem sX6_fitsSpan_60 : ab_X rom K cX6_fitsSpan 4 2 60 ls (.ref a :: st) hp = (ab_fld hp a 4 0).bind (fun v => ab_X rom K cX6_fitsSpan 4 2 63 ls (v :: st) hp) := ax_getfield dX6_fitsSpan_60 kf_4_12 rfl
theorem dX6_fitsSpan_63 : decode cX6_fitsSpan 63 = .ok (.getfield 88, 3) := by decide +kernel
theorem sX6_fitsSpan_63 : ab_X rom K cX6_fitsSpan 4 2 63 ls (.ref a :: st) hp = (ab_fld hp a 0 0).bind (fun v => ab_X rom K cX6_fitsSpan 4 2 66 ls (v :: st) hp) := ax_getfield dX6_fitsSpan_63 kf_4_88 rfl
theorem dX6_fitsSpan_66 : decode cX6_fitsSpan 66 = .ok (.ifCond .le 7, 3) := by decide +kernel
theorem sX6_fitsSpan_66 : ab_X rom K cX6_fitsSpan 4 2 66 ls (.int x :: st) hp = if 0 < x then ab_X rom K cX6_fitsSpan 4 2 69 ls st hp else ab_X rom K cX6_fitsSpan 4 2 73 ls st hp := ax_if_le dX6_fitsSpan_66 (by decide) rfl
theorem dX6_fitsSpan_69 : decode cX6_fitsSpan 69 = .ok (.iconst 1, 1) := by decide +kernel
theorem sX6_fitsSpan_69 : ab_X rom K cX6_fitsSpan 4 2 69 ls st hp = ab_X rom K cX6_fitsSpan 4 2 70 ls (.int 1 :: st) hp := ax_iconst dX6_fitsSpan_69 (by decide) rfl
theorem dX6_fitsSpan_70 : decode cX6_fitsSpan 70 = .ok (.goto 4, 3) := by decide +kernel
theorem sX6_fitsSpan_70 : ab_X rom K cX6_fitsSpan 4 2 70 ls st hp = ab_X rom K cX6_fitsSpan 4 2 74 ls st hp := ax_goto dX6_fitsSpan_70 (by decide)
theorem dX6_fitsSpan_73 : decode cX6_fitsSpan 73 = .ok (.iconst 0, 1) := by decide +kernel
theorem sX6_fitsSpan_73 : ab_X rom K cX6_fitsSpan 4 2 73 ls st hp = ab_X rom K cX6_fitsSpan 4 2 74 ls (.int 0 :: st) hp := ax_iconst dX6_fitsSpan_73 (by decide) rfl
theorem dX6_fitsSpan_74 : decode cX6_fitsSpan 74 = .ok (.ireturn, 1) := by decide +kernel
theorem sX6_fitsSpan_74 : ab_X rom K cX6_fitsSpan 4 2 74 ls [.int x] hp = if x = 0 ∨ x = 1 then some (some (.int x), hp) else none := ay_zret dX6_fitsSpan_74 rfl
theorem tX6_keep : ab_mT[61]? = some (yX6_keep, cX6_keep, 3, 0, 4) := by decide +kernel
theorem mX6_keep {d : Nat} {a0 : Nat} : ab_M rom (d + 1) 61 [.ref a0] hp = ab_X rom (ab_M rom d) cX6_keep 4 0 0 [.ref a0, .null, .null] [] hp := ab_M_eq tX6_keep (Nat.le_of_ble_eq_true rfl)
theorem dX6_keep_0 : decode cX6_keep 0 = .ok (.aload_n 0, 1) := by decide +kernel
theorem sX6_keep_0 : ab_X rom K cX6_keep 4 0 0 (.ref a :: ls) st hp = ab_X rom K cX6_keep 4 0 1 (.ref a :: ls) (.ref a :: st) hp := ax_aload_n dX6_keep_0 rfl rfl
theorem dX6_keep_1 : decode cX6_keep 1 = .ok (.getfield 31, 3) := by decide +kernel
theorem sX6_keep_1 : ab_X rom K cX6_keep 4 0 1 ls (.ref a :: st) hp = (ab_fld hp a 4 6).bind (fun v => ab_X rom K cX6_keep 4 0 4 ls (v :: st) hp) := ax_getfield dX6_keep_1 kf_4_31 rfl
theorem dX6_keep_4 : decode cX6_keep 4 = .ok (.iconst 1, 1) := by decide +kernel
theorem sX6_keep_4 : ab_X rom K cX6_keep 4 0 4 ls st hp = ab_X rom K cX6_keep 4 0 5 ls (.int 1 :: st) hp := ax_iconst dX6_keep_4 (by decide) rfl
theorem dX6_keep_5 : decode cX6_keep 5 = .ok (.if_icmp .ne 17, 3) := by decide +kernel
theorem sX6_keep_5 : ab_X rom K cX6_keep 4 0 5 ls (.int y :: .int x :: st) hp = if x = y then ab_X rom K cX6_keep 4 0 8 ls st hp else ab_X rom K cX6_keep 4 0 22 ls st hp := ax_icmp_ne dX6_keep_5 (by decide) rfl
theorem dX6_keep_8 : decode cX6_keep 8 = .ok (.aload_n 0, 1) := by decide +kernel
theorem sX6_keep_8 : ab_X rom K cX6_keep 4 0 8 (.ref a :: ls) st hp = ab_X rom K cX6_keep 4 0 9 (.ref a :: ls) (.ref a :: st) hp := ax_aload_n dX6_keep_8 rfl rfl
theorem dX6_keep_9 : decode cX6_keep 9 = .ok (.getfield 60, 3) := by decide +kernel
theorem sX6_keep_9 : ab_X rom K cX6_keep 4 0 9 ls (.ref a :: st) hp = (ab_fld hp a 4 5).bind (fun v => ab_X rom K cX6_keep 4 0 12 ls (v :: st) hp) := ax_getfield dX6_keep_9 kf_4_60 rfl
theorem dX6_keep_12 : decode cX6_keep 12 = .ok (.aload_n 0, 1) := by decide +kernel
theorem sX6_keep_12 : ab_X rom K cX6_keep 4 0 12 (.ref a :: ls) st hp = ab_X rom K cX6_keep 4 0 13 (.ref a :: ls) (.ref a :: st) hp := ax_aload_n dX6_keep_12 rfl rfl
theorem dX6_keep_13 : decode cX6_keep 13 = .ok (.getfield 18, 3) := by decide +kernel
theorem sX6_keep_13 : ab_X rom K cX6_keep 4 0 13 ls (.ref a :: st) hp = (ab_fld hp a 4 1).bind (fun v => ab_X rom K cX6_keep 4 0 16 ls (v :: st) hp) := ax_getfield dX6_keep_13 kf_4_18 rfl
theorem dX6_keep_16 : decode cX6_keep 16 = .ok (.invokestatic 178, 3) := by decide +kernel
theorem sX6_keep_16_0 : ab_X rom K cX6_keep 4 0 16 ls [w2, w1] hp = (K 250 [w1, w2] hp).bind (fun o => ab_X rom K cX6_keep 4 0 19 ls (o.1.toList ++ []) o.2) := ax_static (as := [w1, w2]) (st := []) dX6_keep_16 kc_4_178 rfl rfl (Nat.le_of_ble_eq_true rfl)
theorem sX6_keep_16_1 : ab_X rom K cX6_keep 4 0 16 ls [w2, w1, v0] hp = (K 250 [w1, w2] hp).bind (fun o => ab_X rom K cX6_keep 4 0 19 ls (o.1.toList ++ [v0]) o.2) := ax_static (as := [w1, w2]) (st := [v0]) dX6_keep_16 kc_4_178 rfl rfl (Nat.le_of_ble_eq_true rfl)
theorem sX6_keep_16_2 : ab_X rom K cX6_keep 4 0 16 ls [w2, w1, v0, v1] hp = (K 250 [w1, w2] hp).bind (fun o => ab_X rom K cX6_keep 4 0 19 ls (o.1.toList ++ [v0, v1]) o.2) := ax_static (as := [w1, w2]) (st := [v0, v1]) dX6_keep_16 kc_4_178 rfl rfl (Nat.le_of_ble_eq_true rfl)
theorem sX6_keep_16_3 : ab_X rom K cX6_keep 4 0 16 ls [w2, w1, v0, v1, v2] hp = (K 250 [w1, w2] hp).bind (fun o => ab_X rom K cX6_keep 4 0 19 ls (o.1.toList ++ [v0, v1, v2]) o.2) := ax_static (as := [w1, w2]) (st := [v0, v1, v2]) dX6_keep_16 kc_4_178 rfl rfl (Nat.le_of_ble_eq_true rfl)
theorem dX6_keep_19 : decode cX6_keep 19 = .ok (.ifCond .eq 25, 3) := by decide +kernel
theorem sX6_keep_19 : ab_X rom K cX6_keep 4 0 19 ls (.int x :: st) hp = if x = 0 then ab_X rom K cX6_keep 4 0 44 ls st hp else ab_X rom K cX6_keep 4 0 22 ls st hp := ax_if_eq dX6_keep_19 (by decide) rfl
theorem dX6_keep_22 : decode cX6_keep 22 = .ok (.aload_n 0, 1) := by decide +kernel
theorem sX6_keep_22 : ab_X rom K cX6_keep 4 0 22 (.ref a :: ls) st hp = ab_X rom K cX6_keep 4 0 23 (.ref a :: ls) (.ref a :: st) hp := ax_aload_n dX6_keep_22 rfl rfl
theorem dX6_keep_23 : decode cX6_keep 23 = .ok (.getfield 31, 3) := by decide +kernel
theorem sX6_keep_23 : ab_X rom K cX6_keep 4 0 23 ls (.ref a :: st) hp = (ab_fld hp a 4 6).bind (fun v => ab_X rom K cX6_keep 4 0 26 ls (v :: st) hp) := ax_getfield dX6_keep_23 kf_4_31 rfl
theorem dX6_keep_26 : decode cX6_keep 26 = .ok (.iconst 4, 1) := by decide +kernel
theorem sX6_keep_26 : ab_X rom K cX6_keep 4 0 26 ls st hp = ab_X rom K cX6_keep 4 0 27 ls (.int 4 :: st) hp := ax_iconst dX6_keep_26 (by decide) rfl
theorem dX6_keep_27 : decode cX6_keep 27 = .ok (.if_icmp .ne 18, 3) := by decide +kernel
theorem sX6_keep_27 : ab_X rom K cX6_keep 4 0 27 ls (.int y :: .int x :: st) hp = if x = y then ab_X rom K cX6_keep 4 0 30 ls st hp else ab_X rom K cX6_keep 4 0 45 ls st hp := ax_icmp_ne dX6_keep_27 (by decide) rfl
theorem dX6_keep_30 : decode cX6_keep 30 = .ok (.aload_n 0, 1) := by decide +kernel
theorem sX6_keep_30 : ab_X rom K cX6_keep 4 0 30 (.ref a :: ls) st hp = ab_X rom K cX6_keep 4 0 31 (.ref a :: ls) (.ref a :: st) hp := ax_aload_n dX6_keep_30 rfl rfl
theorem dX6_keep_31 : decode cX6_keep 31 = .ok (.getfield 60, 3) := by decide +kernel
theorem sX6_keep_31 : ab_X rom K cX6_keep 4 0 31 ls (.ref a :: st) hp = (ab_fld hp a 4 5).bind (fun v => ab_X rom K cX6_keep 4 0 34 ls (v :: st) hp) := ax_getfield dX6_keep_31 kf_4_60 rfl
theorem dX6_keep_34 : decode cX6_keep 34 = .ok (.aload_n 0, 1) := by decide +kernel
theorem sX6_keep_34 : ab_X rom K cX6_keep 4 0 34 (.ref a :: ls) st hp = ab_X rom K cX6_keep 4 0 35 (.ref a :: ls) (.ref a :: st) hp := ax_aload_n dX6_keep_34 rfl rfl
theorem dX6_keep_35 : decode cX6_keep 35 = .ok (.getfield 18, 3) := by decide +kernel
theorem sX6_keep_35 : ab_X rom K cX6_keep 4 0 35 ls (.ref a :: st) hp = (ab_fld hp a 4 1).bind (fun v => ab_X rom K cX6_keep 4 0 38 ls (v :: st) hp) := ax_getfield dX6_keep_35 kf_4_18 rfl
theorem dX6_keep_38 : decode cX6_keep 38 = .ok (.invokestatic 182, 3) := by decide +kernel
theorem sX6_keep_38_0 : ab_X rom K cX6_keep 4 0 38 ls [w2, w1] hp = (K 247 [w1, w2] hp).bind (fun o => ab_X rom K cX6_keep 4 0 41 ls (o.1.toList ++ []) o.2) := ax_static (as := [w1, w2]) (st := []) dX6_keep_38 kc_4_182 rfl rfl (Nat.le_of_ble_eq_true rfl)
theorem sX6_keep_38_1 : ab_X rom K cX6_keep 4 0 38 ls [w2, w1, v0] hp = (K 247 [w1, w2] hp).bind (fun o => ab_X rom K cX6_keep 4 0 41 ls (o.1.toList ++ [v0]) o.2) := ax_static (as := [w1, w2]) (st := [v0]) dX6_keep_38 kc_4_182 rfl rfl (Nat.le_of_ble_eq_true rfl)
theorem sX6_keep_38_2 : ab_X rom K cX6_keep 4 0 38 ls [w2, w1, v0, v1] hp = (K 247 [w1, w2] hp).bind (fun o => ab_X rom K cX6_keep 4 0 41 ls (o.1.toList ++ [v0, v1]) o.2) := ax_static (as := [w1, w2]) (st := [v0, v1]) dX6_keep_38 kc_4_182 rfl rfl (Nat.le_of_ble_eq_true rfl)
theorem sX6_keep_38_3 : ab_X rom K cX6_keep 4 0 38 ls [w2, w1, v0, v1, v2] hp = (K 247 [w1, w2] hp).bind (fun o => ab_X rom K cX6_keep 4 0 41 ls (o.1.toList ++ [v0, v1, v2]) o.2) := ax_static (as := [w1, w2]) (st := [v0, v1, v2]) dX6_keep_38 kc_4_182 rfl rfl (Nat.le_of_ble_eq_true rfl)
theorem dX6_keep_41 : decode cX6_keep 41 = .ok (.ifCond .ne 4, 3) := by decide +kernel
theorem sX6_keep_41 : ab_X rom K cX6_keep 4 0 41 ls (.int x :: st) hp = if x = 0 then ab_X rom K cX6_keep 4 0 44 ls st hp else ab_X rom K cX6_keep 4 0 45 ls st hp := ax_if_ne dX6_keep_41 (by decide) rfl
theorem dX6_keep_44 : decode cX6_keep 44 = .ok (.return_, 1) := by decide +kernel
theorem sX6_keep_44 : ab_X rom K cX6_keep 4 0 44 ls [] hp = some (none, hp) := ax_vret dX6_keep_44 (by decide)
theorem dX6_keep_45 : decode cX6_keep 45 = .ok (.aload_n 0, 1) := by decide +kernel
theorem sX6_keep_45 : ab_X rom K cX6_keep 4 0 45 (.ref a :: ls) st hp = ab_X rom K cX6_keep 4 0 46 (.ref a :: ls) (.ref a :: st) hp := ax_aload_n dX6_keep_45 rfl rfl
theorem dX6_keep_46 : decode cX6_keep 46 = .ok (.getfield 12, 3) := by decide +kernel
theorem sX6_keep_46 : ab_X rom K cX6_keep 4 0 46 ls (.ref a :: st) hp = (ab_fld hp a 4 0).bind (fun v => ab_X rom K cX6_keep 4 0 49 ls (v :: st) hp) := ax_getfield dX6_keep_46 kf_4_12 rfl
theorem dX6_keep_49 : decode cX6_keep 49 = .ok (.aload_n 0, 1) := by decide +kernel
theorem sX6_keep_49 : ab_X rom K cX6_keep 4 0 49 (.ref a :: ls) st hp = ab_X rom K cX6_keep 4 0 50 (.ref a :: ls) (.ref a :: st) hp := ax_aload_n dX6_keep_49 rfl rfl
theorem dX6_keep_50 : decode cX6_keep 50 = .ok (.getfield 18, 3) := by decide +kernel
theorem sX6_keep_50 : ab_X rom K cX6_keep 4 0 50 ls (.ref a :: st) hp = (ab_fld hp a 4 1).bind (fun v => ab_X rom K cX6_keep 4 0 53 ls (v :: st) hp) := ax_getfield dX6_keep_50 kf_4_18 rfl
theorem dX6_keep_53 : decode cX6_keep 53 = .ok (.aload_n 0, 1) := by decide +kernel
theorem sX6_keep_53 : ab_X rom K cX6_keep 4 0 53 (.ref a :: ls) st hp = ab_X rom K cX6_keep 4 0 54 (.ref a :: ls) (.ref a :: st) hp := ax_aload_n dX6_keep_53 rfl rfl
theorem dX6_keep_54 : decode cX6_keep 54 = .ok (.getfield 60, 3) := by decide +kernel
theorem sX6_keep_54 : ab_X rom K cX6_keep 4 0 54 ls (.ref a :: st) hp = (ab_fld hp a 4 5).bind (fun v => ab_X rom K cX6_keep 4 0 57 ls (v :: st) hp) := ax_getfield dX6_keep_54 kf_4_60 rfl
theorem dX6_keep_57 : decode cX6_keep 57 = .ok (.getfield 120, 3) := by decide +kernel
theorem sX6_keep_57 : ab_X rom K cX6_keep 4 0 57 ls (.ref a :: st) hp = (ab_fld hp a 1 0).bind (fun v => ab_X rom K cX6_keep 4 0 60 ls (v :: st) hp) := ax_getfield dX6_keep_57 kf_4_120 rfl
theorem dX6_keep_60 : decode cX6_keep 60 = .ok (.invokevirtual 185, 3) := by decide +kernel
theorem sX6_keep_60_0 : ab_X rom K cX6_keep 4 0 60 ls [w2, w1, .ref a] hp = if ab_iso hp a 0 = true then (K 1 (.ref a :: [w1, w2]) hp).bind (fun o => ab_X rom K cX6_keep 4 0 63 ls (o.1.toList ++ []) o.2) else none := ay_virtual (as := [w1, w2]) (st := []) dX6_keep_60 kc_4_185 rfl rfl (Nat.le_of_ble_eq_true rfl)
theorem sX6_keep_60_1 : ab_X rom K cX6_keep 4 0 60 ls [w2, w1, .ref a, v0] hp = if ab_iso hp a 0 = true then (K 1 (.ref a :: [w1, w2]) hp).bind (fun o => ab_X rom K cX6_keep 4 0 63 ls (o.1.toList ++ [v0]) o.2) else none := ay_virtual (as := [w1, w2]) (st := [v0]) dX6_keep_60 kc_4_185 rfl rfl (Nat.le_of_ble_eq_true rfl)
theorem sX6_keep_60_2 : ab_X rom K cX6_keep 4 0 60 ls [w2, w1, .ref a, v0, v1] hp = if ab_iso hp a 0 = true then (K 1 (.ref a :: [w1, w2]) hp).bind (fun o => ab_X rom K cX6_keep 4 0 63 ls (o.1.toList ++ [v0, v1]) o.2) else none := ay_virtual (as := [w1, w2]) (st := [v0, v1]) dX6_keep_60 kc_4_185 rfl rfl (Nat.le_of_ble_eq_true rfl)
theorem sX6_keep_60_3 : ab_X rom K cX6_keep 4 0 60 ls [w2, w1, .ref a, v0, v1, v2] hp = if ab_iso hp a 0 = true then (K 1 (.ref a :: [w1, w2]) hp).bind (fun o => ab_X rom K cX6_keep 4 0 63 ls (o.1.toList ++ [v0, v1, v2]) o.2) else none := ay_virtual (as := [w1, w2]) (st := [v0, v1, v2]) dX6_keep_60 kc_4_185 rfl rfl (Nat.le_of_ble_eq_true rfl)
theorem dX6_keep_63 : decode cX6_keep 63 = .ok (.iconst 1, 1) := by decide +kernel
theorem sX6_keep_63 : ab_X rom K cX6_keep 4 0 63 ls st hp = ab_X rom K cX6_keep 4 0 64 ls (.int 1 :: st) hp := ax_iconst dX6_keep_63 (by decide) rfl
theorem dX6_keep_64 : decode cX6_keep 64 = .ok (.istore_n 1, 1) := by decide +kernel
theorem sX6_keep_64i : ab_X rom K cX6_keep 4 0 64 (.int y :: v1 :: ls) (.int x :: st) hp = ab_X rom K cX6_keep 4 0 65 (.int y :: .int x :: ls) st hp := ax_istore_n dX6_keep_64 (ax_lt (v := v1) rfl) (ab_nl_c1 (j := 0) (v := .int y) rfl (ab_c1_int _)) rfl rfl
theorem sX6_keep_64r : ab_X rom K cX6_keep 4 0 64 (.ref a2 :: v1 :: ls) (.int x :: st) hp = ab_X rom K cX6_keep 4 0 65 (.ref a2 :: .int x :: ls) st hp := ax_istore_n dX6_keep_64 (ax_lt (v := v1) rfl) (ab_nl_c1 (j := 0) (v := .ref a2) rfl (ab_c1_ref _)) rfl rfl
theorem sX6_keep_64n : ab_X rom K cX6_keep 4 0 64 (.null :: v1 :: ls) (.int x :: st) hp = ab_X rom K cX6_keep 4 0 65 (.null :: .int x :: ls) st hp := ax_istore_n dX6_keep_64 (ax_lt (v := v1) rfl) (ab_nl_c1 (j := 0) (v := .null) rfl ab_c1_null) rfl rfl
theorem dX6_keep_65 : decode cX6_keep 65 = .ok (.aload_n 0, 1) := by decide +kernel
theorem sX6_keep_65 : ab_X rom K cX6_keep 4 0 65 (.ref a :: ls) st hp = ab_X rom K cX6_keep 4 0 66 (.ref a :: ls) (.ref a :: st) hp := ax_aload_n dX6_keep_65 rfl rfl
theorem dX6_keep_66 : decode cX6_keep 66 = .ok (.getfield 50, 3) := by decide +kernel
theorem sX6_keep_66 : ab_X rom K cX6_keep 4 0 66 ls (.ref a :: st) hp = (ab_fld hp a 4 12).bind (fun v => ab_X rom K cX6_keep 4 0 69 ls (v :: st) hp) := ax_getfield dX6_keep_66 kf_4_50 rfl
theorem dX6_keep_69 : decode cX6_keep 69 = .ok (.ifCond .eq 74, 3) := by decide +kernel
theorem sX6_keep_69 : ab_X rom K cX6_keep 4 0 69 ls (.int x :: st) hp = if x = 0 then ab_X rom K cX6_keep 4 0 143 ls st hp else ab_X rom K cX6_keep 4 0 72 ls st hp := ax_if_eq dX6_keep_69 (by decide) rfl
theorem dX6_keep_72 : decode cX6_keep 72 = .ok (.iload_n 1, 1) := by decide +kernel
theorem sX6_keep_72 : ab_X rom K cX6_keep 4 0 72 (v0 :: .int x :: ls) st hp = ab_X rom K cX6_keep 4 0 73 (v0 :: .int x :: ls) (.int x :: st) hp := ax_iload_n dX6_keep_72 rfl rfl
theorem dX6_keep_73 : decode cX6_keep 73 = .ok (.aload_n 0, 1) := by decide +kernel
theorem sX6_keep_73 : ab_X rom K cX6_keep 4 0 73 (.ref a :: ls) st hp = ab_X rom K cX6_keep 4 0 74 (.ref a :: ls) (.ref a :: st) hp := ax_aload_n dX6_keep_73 rfl rfl
theorem dX6_keep_74 : decode cX6_keep 74 = .ok (.getfield 60, 3) := by decide +kernel
theorem sX6_keep_74 : ab_X rom K cX6_keep 4 0 74 ls (.ref a :: st) hp = (ab_fld hp a 4 5).bind (fun v => ab_X rom K cX6_keep 4 0 77 ls (v :: st) hp) := ax_getfield dX6_keep_74 kf_4_60 rfl
theorem dX6_keep_77 : decode cX6_keep 77 = .ok (.getfield 64, 3) := by decide +kernel
theorem sX6_keep_77 : ab_X rom K cX6_keep 4 0 77 ls (.ref a :: st) hp = (ab_fld hp a 1 1).bind (fun v => ab_X rom K cX6_keep 4 0 80 ls (v :: st) hp) := ax_getfield dX6_keep_77 kf_4_64 rfl
theorem dX6_keep_80 : decode cX6_keep 80 = .ok (.if_icmp .ge 63, 3) := by decide +kernel
theorem sX6_keep_80 : ab_X rom K cX6_keep 4 0 80 ls (.int y :: .int x :: st) hp = if x < y then ab_X rom K cX6_keep 4 0 83 ls st hp else ab_X rom K cX6_keep 4 0 143 ls st hp := ax_icmp_ge dX6_keep_80 (by decide) rfl
theorem dX6_keep_83 : decode cX6_keep 83 = .ok (.iconst 0, 1) := by decide +kernel
theorem sX6_keep_83 : ab_X rom K cX6_keep 4 0 83 ls st hp = ab_X rom K cX6_keep 4 0 84 ls (.int 0 :: st) hp := ax_iconst dX6_keep_83 (by decide) rfl
theorem dX6_keep_84 : decode cX6_keep 84 = .ok (.istore_n 2, 1) := by decide +kernel
theorem sX6_keep_84i : ab_X rom K cX6_keep 4 0 84 (v0 :: .int y :: v2 :: ls) (.int x :: st) hp = ab_X rom K cX6_keep 4 0 85 (v0 :: .int y :: .int x :: ls) st hp := ax_istore_n dX6_keep_84 (ax_lt (v := v2) rfl) (ab_nl_c1 (j := 1) (v := .int y) rfl (ab_c1_int _)) rfl rfl
theorem sX6_keep_84r : ab_X rom K cX6_keep 4 0 84 (v0 :: .ref a2 :: v2 :: ls) (.int x :: st) hp = ab_X rom K cX6_keep 4 0 85 (v0 :: .ref a2 :: .int x :: ls) st hp := ax_istore_n dX6_keep_84 (ax_lt (v := v2) rfl) (ab_nl_c1 (j := 1) (v := .ref a2) rfl (ab_c1_ref _)) rfl rfl
theorem sX6_keep_84n : ab_X rom K cX6_keep 4 0 84 (v0 :: .null :: v2 :: ls) (.int x :: st) hp = ab_X rom K cX6_keep 4 0 85 (v0 :: .null :: .int x :: ls) st hp := ax_istore_n dX6_keep_84 (ax_lt (v := v2) rfl) (ab_nl_c1 (j := 1) (v := .null) rfl ab_c1_null) rfl rfl
theorem dX6_keep_85 : decode cX6_keep 85 = .ok (.iload_n 2, 1) := by decide +kernel
theorem sX6_keep_85 : ab_X rom K cX6_keep 4 0 85 (v0 :: v1 :: .int x :: ls) st hp = ab_X rom K cX6_keep 4 0 86 (v0 :: v1 :: .int x :: ls) (.int x :: st) hp := ax_iload_n dX6_keep_85 rfl rfl
theorem dX6_keep_86 : decode cX6_keep 86 = .ok (.aload_n 0, 1) := by decide +kernel
theorem sX6_keep_86 : ab_X rom K cX6_keep 4 0 86 (.ref a :: ls) st hp = ab_X rom K cX6_keep 4 0 87 (.ref a :: ls) (.ref a :: st) hp := ax_aload_n dX6_keep_86 rfl rfl
theorem dX6_keep_87 : decode cX6_keep 87 = .ok (.getfield 60, 3) := by decide +kernel
theorem sX6_keep_87 : ab_X rom K cX6_keep 4 0 87 ls (.ref a :: st) hp = (ab_fld hp a 4 5).bind (fun v => ab_X rom K cX6_keep 4 0 90 ls (v :: st) hp) := ax_getfield dX6_keep_87 kf_4_60 rfl
theorem dX6_keep_90 : decode cX6_keep 90 = .ok (.getfield 120, 3) := by decide +kernel
theorem sX6_keep_90 : ab_X rom K cX6_keep 4 0 90 ls (.ref a :: st) hp = (ab_fld hp a 1 0).bind (fun v => ab_X rom K cX6_keep 4 0 93 ls (v :: st) hp) := ax_getfield dX6_keep_90 kf_4_120 rfl
theorem dX6_keep_93 : decode cX6_keep 93 = .ok (.if_icmp .ge 26, 3) := by decide +kernel
theorem sX6_keep_93 : ab_X rom K cX6_keep 4 0 93 ls (.int y :: .int x :: st) hp = if x < y then ab_X rom K cX6_keep 4 0 96 ls st hp else ab_X rom K cX6_keep 4 0 119 ls st hp := ax_icmp_ge dX6_keep_93 (by decide) rfl
theorem dX6_keep_96 : decode cX6_keep 96 = .ok (.aload_n 0, 1) := by decide +kernel
theorem sX6_keep_96 : ab_X rom K cX6_keep 4 0 96 (.ref a :: ls) st hp = ab_X rom K cX6_keep 4 0 97 (.ref a :: ls) (.ref a :: st) hp := ax_aload_n dX6_keep_96 rfl rfl
theorem dX6_keep_97 : decode cX6_keep 97 = .ok (.getfield 28, 3) := by decide +kernel
theorem sX6_keep_97 : ab_X rom K cX6_keep 4 0 97 ls (.ref a :: st) hp = (ab_fld hp a 4 4).bind (fun v => ab_X rom K cX6_keep 4 0 100 ls (v :: st) hp) := ax_getfield dX6_keep_97 kf_4_28 rfl
theorem dX6_keep_100 : decode cX6_keep 100 = .ok (.iload_n 2, 1) := by decide +kernel
theorem sX6_keep_100 : ab_X rom K cX6_keep 4 0 100 (v0 :: v1 :: .int x :: ls) st hp = ab_X rom K cX6_keep 4 0 101 (v0 :: v1 :: .int x :: ls) (.int x :: st) hp := ax_iload_n dX6_keep_100 rfl rfl
theorem dX6_keep_101 : decode cX6_keep 101 = .ok (.aload_n 0, 1) := by decide +kernel
theorem sX6_keep_101 : ab_X rom K cX6_keep 4 0 101 (.ref a :: ls) st hp = ab_X rom K cX6_keep 4 0 102 (.ref a :: ls) (.ref a :: st) hp := ax_aload_n dX6_keep_101 rfl rfl
theorem dX6_keep_102 : decode cX6_keep 102 = .ok (.aload_n 0, 1) := by decide +kernel
theorem sX6_keep_102 : ab_X rom K cX6_keep 4 0 102 (.ref a :: ls) st hp = ab_X rom K cX6_keep 4 0 103 (.ref a :: ls) (.ref a :: st) hp := ax_aload_n dX6_keep_102 rfl rfl
theorem dX6_keep_103 : decode cX6_keep 103 = .ok (.getfield 18, 3) := by decide +kernel
theorem sX6_keep_103 : ab_X rom K cX6_keep 4 0 103 ls (.ref a :: st) hp = (ab_fld hp a 4 1).bind (fun v => ab_X rom K cX6_keep 4 0 106 ls (v :: st) hp) := ax_getfield dX6_keep_103 kf_4_18 rfl
theorem dX6_keep_106 : decode cX6_keep 106 = .ok (.iload_n 2, 1) := by decide +kernel
theorem sX6_keep_106 : ab_X rom K cX6_keep 4 0 106 (v0 :: v1 :: .int x :: ls) st hp = ab_X rom K cX6_keep 4 0 107 (v0 :: v1 :: .int x :: ls) (.int x :: st) hp := ax_iload_n dX6_keep_106 rfl rfl
theorem dX6_keep_107 : decode cX6_keep 107 = .ok (.iaload, 1) := by decide +kernel
theorem sX6_keep_107 : ab_X rom K cX6_keep 4 0 107 ls (.int x :: .ref a :: st) hp = (ab_ard rom 0 hp a x).bind (fun v => ab_X rom K cX6_keep 4 0 108 ls (.int v :: st) hp) := ax_iaload dX6_keep_107 rfl
theorem dX6_keep_108 : decode cX6_keep 108 = .ok (.iload_n 1, 1) := by decide +kernel
theorem sX6_keep_108 : ab_X rom K cX6_keep 4 0 108 (v0 :: .int x :: ls) st hp = ab_X rom K cX6_keep 4 0 109 (v0 :: .int x :: ls) (.int x :: st) hp := ax_iload_n dX6_keep_108 rfl rfl
theorem dX6_keep_109 : decode cX6_keep 109 = .ok (.invokevirtual 146, 3) := by decide +kernel
theorem sX6_keep_109_0 : ab_X rom K cX6_keep 4 0 109 ls [w2, w1, .ref a] hp = if ab_iso hp a 4 = true then (K 73 (.ref a :: [w1, w2]) hp).bind (fun o => ab_X rom K cX6_keep 4 0 112 ls (o.1.toList ++ []) o.2) else none := ay_virtual (as := [w1, w2]) (st := []) dX6_keep_109 kc_4_146 rfl rfl (Nat.le_of_ble_eq_true rfl)
theorem sX6_keep_109_1 : ab_X rom K cX6_keep 4 0 109 ls [w2, w1, .ref a, v0] hp = if ab_iso hp a 4 = true then (K 73 (.ref a :: [w1, w2]) hp).bind (fun o => ab_X rom K cX6_keep 4 0 112 ls (o.1.toList ++ [v0]) o.2) else none := ay_virtual (as := [w1, w2]) (st := [v0]) dX6_keep_109 kc_4_146 rfl rfl (Nat.le_of_ble_eq_true rfl)
theorem sX6_keep_109_2 : ab_X rom K cX6_keep 4 0 109 ls [w2, w1, .ref a, v0, v1] hp = if ab_iso hp a 4 = true then (K 73 (.ref a :: [w1, w2]) hp).bind (fun o => ab_X rom K cX6_keep 4 0 112 ls (o.1.toList ++ [v0, v1]) o.2) else none := ay_virtual (as := [w1, w2]) (st := [v0, v1]) dX6_keep_109 kc_4_146 rfl rfl (Nat.le_of_ble_eq_true rfl)
theorem sX6_keep_109_3 : ab_X rom K cX6_keep 4 0 109 ls [w2, w1, .ref a, v0, v1, v2] hp = if ab_iso hp a 4 = true then (K 73 (.ref a :: [w1, w2]) hp).bind (fun o => ab_X rom K cX6_keep 4 0 112 ls (o.1.toList ++ [v0, v1, v2]) o.2) else none := ay_virtual (as := [w1, w2]) (st := [v0, v1, v2]) dX6_keep_109 kc_4_146 rfl rfl (Nat.le_of_ble_eq_true rfl)
theorem dX6_keep_112 : decode cX6_keep 112 = .ok (.iastore, 1) := by decide +kernel
theorem sX6_keep_112 : ab_X rom K cX6_keep 4 0 112 ls (.int y :: .int x :: .ref a :: st) hp = (ab_awr 0 hp a x y).bind (fun hp' => ab_X rom K cX6_keep 4 0 113 ls st hp') := ax_iastore dX6_keep_112 rfl
theorem dX6_keep_113 : decode cX6_keep 113 = .ok (.iinc 2 1, 3) := by decide +kernel
theorem sX6_keep_113i : ab_X rom K cX6_keep 4 0 113 (v0 :: .int y :: .int x :: ls) st hp = ab_X rom K cX6_keep 4 0 116 (v0 :: .int y :: .int (x + 1) :: ls) st hp := ax_iinc dX6_keep_113 rfl (ab_nl_c1 (j := 1) (v := .int y) rfl (ab_c1_int _)) (by decide) rfl rfl
theorem sX6_keep_113r : ab_X rom K cX6_keep 4 0 113 (v0 :: .ref a2 :: .int x :: ls) st hp = ab_X rom K cX6_keep 4 0 116 (v0 :: .ref a2 :: .int (x + 1) :: ls) st hp := ax_iinc dX6_keep_113 rfl (ab_nl_c1 (j := 1) (v := .ref a2) rfl (ab_c1_ref _)) (by decide) rfl rfl
theorem sX6_keep_113n : ab_X rom K cX6_keep 4 0 113 (v0 :: .null :: .int x :: ls) st hp = ab_X rom K cX6_keep 4 0 116 (v0 :: .null :: .int (x + 1) :: ls) st hp := ax_iinc dX6_keep_113 rfl (ab_nl_c1 (j := 1) (v := .null) rfl ab_c1_null) (by decide) rfl rfl
theorem dX6_keep_116 : decode cX6_keep 116 = .ok (.goto (-31), 3) := by decide +kernel
theorem sX6_keep_116 : ab_X rom K cX6_keep 4 0 116 ls st hp = ab_X rom K cX6_keep 4 0 85 ls st hp := ax_goto dX6_keep_116 (by decide)
theorem dX6_keep_119 : decode cX6_keep 119 = .ok (.aload_n 0, 1) := by decide +kernel
theorem sX6_keep_119 : ab_X rom K cX6_keep 4 0 119 (.ref a :: ls) st hp = ab_X rom K cX6_keep 4 0 120 (.ref a :: ls) (.ref a :: st) hp := ax_aload_n dX6_keep_119 rfl rfl
theorem dX6_keep_120 : decode cX6_keep 120 = .ok (.getfield 12, 3) := by decide +kernel
theorem sX6_keep_120 : ab_X rom K cX6_keep 4 0 120 ls (.ref a :: st) hp = (ab_fld hp a 4 0).bind (fun v => ab_X rom K cX6_keep 4 0 123 ls (v :: st) hp) := ax_getfield dX6_keep_120 kf_4_12 rfl
theorem dX6_keep_123 : decode cX6_keep 123 = .ok (.aload_n 0, 1) := by decide +kernel
theorem sX6_keep_123 : ab_X rom K cX6_keep 4 0 123 (.ref a :: ls) st hp = ab_X rom K cX6_keep 4 0 124 (.ref a :: ls) (.ref a :: st) hp := ax_aload_n dX6_keep_123 rfl rfl
theorem dX6_keep_124 : decode cX6_keep 124 = .ok (.getfield 28, 3) := by decide +kernel
theorem sX6_keep_124 : ab_X rom K cX6_keep 4 0 124 ls (.ref a :: st) hp = (ab_fld hp a 4 4).bind (fun v => ab_X rom K cX6_keep 4 0 127 ls (v :: st) hp) := ax_getfield dX6_keep_124 kf_4_28 rfl
theorem dX6_keep_127 : decode cX6_keep 127 = .ok (.aload_n 0, 1) := by decide +kernel
theorem sX6_keep_127 : ab_X rom K cX6_keep 4 0 127 (.ref a :: ls) st hp = ab_X rom K cX6_keep 4 0 128 (.ref a :: ls) (.ref a :: st) hp := ax_aload_n dX6_keep_127 rfl rfl
theorem dX6_keep_128 : decode cX6_keep 128 = .ok (.getfield 60, 3) := by decide +kernel
theorem sX6_keep_128 : ab_X rom K cX6_keep 4 0 128 ls (.ref a :: st) hp = (ab_fld hp a 4 5).bind (fun v => ab_X rom K cX6_keep 4 0 131 ls (v :: st) hp) := ax_getfield dX6_keep_128 kf_4_60 rfl
theorem dX6_keep_131 : decode cX6_keep 131 = .ok (.getfield 120, 3) := by decide +kernel
theorem sX6_keep_131 : ab_X rom K cX6_keep 4 0 131 ls (.ref a :: st) hp = (ab_fld hp a 1 0).bind (fun v => ab_X rom K cX6_keep 4 0 134 ls (v :: st) hp) := ax_getfield dX6_keep_131 kf_4_120 rfl
theorem dX6_keep_134 : decode cX6_keep 134 = .ok (.invokevirtual 185, 3) := by decide +kernel
theorem sX6_keep_134_0 : ab_X rom K cX6_keep 4 0 134 ls [w2, w1, .ref a] hp = if ab_iso hp a 0 = true then (K 1 (.ref a :: [w1, w2]) hp).bind (fun o => ab_X rom K cX6_keep 4 0 137 ls (o.1.toList ++ []) o.2) else none := ay_virtual (as := [w1, w2]) (st := []) dX6_keep_134 kc_4_185 rfl rfl (Nat.le_of_ble_eq_true rfl)
theorem sX6_keep_134_1 : ab_X rom K cX6_keep 4 0 134 ls [w2, w1, .ref a, v0] hp = if ab_iso hp a 0 = true then (K 1 (.ref a :: [w1, w2]) hp).bind (fun o => ab_X rom K cX6_keep 4 0 137 ls (o.1.toList ++ [v0]) o.2) else none := ay_virtual (as := [w1, w2]) (st := [v0]) dX6_keep_134 kc_4_185 rfl rfl (Nat.le_of_ble_eq_true rfl)
theorem sX6_keep_134_2 : ab_X rom K cX6_keep 4 0 134 ls [w2, w1, .ref a, v0, v1] hp = if ab_iso hp a 0 = true then (K 1 (.ref a :: [w1, w2]) hp).bind (fun o => ab_X rom K cX6_keep 4 0 137 ls (o.1.toList ++ [v0, v1]) o.2) else none := ay_virtual (as := [w1, w2]) (st := [v0, v1]) dX6_keep_134 kc_4_185 rfl rfl (Nat.le_of_ble_eq_true rfl)
theorem sX6_keep_134_3 : ab_X rom K cX6_keep 4 0 134 ls [w2, w1, .ref a, v0, v1, v2] hp = if ab_iso hp a 0 = true then (K 1 (.ref a :: [w1, w2]) hp).bind (fun o => ab_X rom K cX6_keep 4 0 137 ls (o.1.toList ++ [v0, v1, v2]) o.2) else none := ay_virtual (as := [w1, w2]) (st := [v0, v1, v2]) dX6_keep_134 kc_4_185 rfl rfl (Nat.le_of_ble_eq_true rfl)
theorem dX6_keep_137 : decode cX6_keep 137 = .ok (.iinc 1 1, 3) := by decide +kernel
theorem sX6_keep_137i : ab_X rom K cX6_keep 4 0 137 (.int y :: .int x :: ls) st hp = ab_X rom K cX6_keep 4 0 140 (.int y :: .int (x + 1) :: ls) st hp := ax_iinc dX6_keep_137 rfl (ab_nl_c1 (j := 0) (v := .int y) rfl (ab_c1_int _)) (by decide) rfl rfl
theorem sX6_keep_137r : ab_X rom K cX6_keep 4 0 137 (.ref a2 :: .int x :: ls) st hp = ab_X rom K cX6_keep 4 0 140 (.ref a2 :: .int (x + 1) :: ls) st hp := ax_iinc dX6_keep_137 rfl (ab_nl_c1 (j := 0) (v := .ref a2) rfl (ab_c1_ref _)) (by decide) rfl rfl
theorem sX6_keep_137n : ab_X rom K cX6_keep 4 0 137 (.null :: .int x :: ls) st hp = ab_X rom K cX6_keep 4 0 140 (.null :: .int (x + 1) :: ls) st hp := ax_iinc dX6_keep_137 rfl (ab_nl_c1 (j := 0) (v := .null) rfl ab_c1_null) (by decide) rfl rfl
theorem dX6_keep_140 : decode cX6_keep 140 = .ok (.goto (-75), 3) := by decide +kernel
theorem sX6_keep_140 : ab_X rom K cX6_keep 4 0 140 ls st hp = ab_X rom K cX6_keep 4 0 65 ls st hp := ax_goto dX6_keep_140 (by decide)
theorem dX6_keep_143 : decode cX6_keep 143 = .ok (.aload_n 0, 1) := by decide +kernel
theorem sX6_keep_143 : ab_X rom K cX6_keep 4 0 143 (.ref a :: ls) st hp = ab_X rom K cX6_keep 4 0 144 (.ref a :: ls) (.ref a :: st) hp := ax_aload_n dX6_keep_143 rfl rfl
theorem dX6_keep_144 : decode cX6_keep 144 = .ok (.aload_n 0, 1) := by decide +kernel
theorem sX6_keep_144 : ab_X rom K cX6_keep 4 0 144 (.ref a :: ls) st hp = ab_X rom K cX6_keep 4 0 145 (.ref a :: ls) (.ref a :: st) hp := ax_aload_n dX6_keep_144 rfl rfl
theorem dX6_keep_145 : decode cX6_keep 145 = .ok (.getfield 54, 3) := by decide +kernel
theorem sX6_keep_145 : ab_X rom K cX6_keep 4 0 145 ls (.ref a :: st) hp = (ab_fld hp a 4 13).bind (fun v => ab_X rom K cX6_keep 4 0 148 ls (v :: st) hp) := ax_getfield dX6_keep_145 kf_4_54 rfl
theorem dX6_keep_148 : decode cX6_keep 148 = .ok (.putfield 57, 3) := by decide +kernel
theorem sX6_keep_148 : ab_X rom K cX6_keep 4 0 148 ls (.int x :: .ref a :: st) hp = if x = 0 ∨ x = 1 then (ab_fpt hp a 4 14 (.int x)).bind (fun hp' => ab_X rom K cX6_keep 4 0 151 ls st hp') else none := ay_putbool dX6_keep_148 kf_4_57 rfl
theorem dX6_keep_151 : decode cX6_keep 151 = .ok (.return_, 1) := by decide +kernel
theorem sX6_keep_151 : ab_X rom K cX6_keep 4 0 151 ls [] hp = some (none, hp) := ax_vret dX6_keep_151 (by decide)
theorem tX6_nextDifference : ab_mT[62]? = some (yX6_nextDifference, cX6_nextDifference, 3, 1, 4) := by decide +kernel
theorem mX6_nextDifference {d : Nat} {a0 : Nat} {x0 : Int32} : ab_M rom (d + 1) 62 [.ref a0, .int x0] hp = ab_X rom (ab_M rom d) cX6_nextDifference 4 1 0 [.ref a0, .int x0, .null] [] hp := ab_M_eq tX6_nextDifference (Nat.le_of_ble_eq_true rfl)
theorem dX6_nextDifference_0 : decode cX6_nextDifference 0 = .ok (.iload_n 1, 1) := by decide +kernel
theorem sX6_nextDifference_0 : ab_X rom K cX6_nextDifference 4 1 0 (v0 :: .int x :: ls) st hp = ab_X rom K cX6_nextDifference 4 1 1 (v0 :: .int x :: ls) (.int x :: st) hp := ax_iload_n dX6_nextDifference_0 rfl rfl
theorem dX6_nextDifference_1 : decode cX6_nextDifference 1 = .ok (.istore_n 2, 1) := by decide +kernel
theorem sX6_nextDifference_1i : ab_X rom K cX6_nextDifference 4 1 1 (v0 :: .int y :: v2 :: ls) (.int x :: st) hp = ab_X rom K cX6_nextDifference 4 1 2 (v0 :: .int y :: .int x :: ls) st hp := ax_istore_n dX6_nextDifference_1 (ax_lt (v := v2) rfl) (ab_nl_c1 (j := 1) (v := .int y) rfl (ab_c1_int _)) rfl rfl
theorem sX6_nextDifference_1r : ab_X rom K cX6_nextDifference 4 1 1 (v0 :: .ref a2 :: v2 :: ls) (.int x :: st) hp = ab_X rom K cX6_nextDifference 4 1 2 (v0 :: .ref a2 :: .int x :: ls) st hp := ax_istore_n dX6_nextDifference_1 (ax_lt (v := v2) rfl) (ab_nl_c1 (j := 1) (v := .ref a2) rfl (ab_c1_ref _)) rfl rfl
theorem sX6_nextDifference_1n : ab_X rom K cX6_nextDifference 4 1 1 (v0 :: .null :: v2 :: ls) (.int x :: st) hp = ab_X rom K cX6_nextDifference 4 1 2 (v0 :: .null :: .int x :: ls) st hp := ax_istore_n dX6_nextDifference_1 (ax_lt (v := v2) rfl) (ab_nl_c1 (j := 1) (v := .null) rfl ab_c1_null) rfl rfl
theorem dX6_nextDifference_2 : decode cX6_nextDifference 2 = .ok (.iload_n 2, 1) := by decide +kernel
theorem sX6_nextDifference_2 : ab_X rom K cX6_nextDifference 4 1 2 (v0 :: v1 :: .int x :: ls) st hp = ab_X rom K cX6_nextDifference 4 1 3 (v0 :: v1 :: .int x :: ls) (.int x :: st) hp := ax_iload_n dX6_nextDifference_2 rfl rfl
theorem dX6_nextDifference_3 : decode cX6_nextDifference 3 = .ok (.ifCond .le 22, 3) := by decide +kernel
theorem sX6_nextDifference_3 : ab_X rom K cX6_nextDifference 4 1 3 ls (.int x :: st) hp = if 0 < x then ab_X rom K cX6_nextDifference 4 1 6 ls st hp else ab_X rom K cX6_nextDifference 4 1 25 ls st hp := ax_if_le dX6_nextDifference_3 (by decide) rfl
theorem dX6_nextDifference_6 : decode cX6_nextDifference 6 = .ok (.aload_n 0, 1) := by decide +kernel
theorem sX6_nextDifference_6 : ab_X rom K cX6_nextDifference 4 1 6 (.ref a :: ls) st hp = ab_X rom K cX6_nextDifference 4 1 7 (.ref a :: ls) (.ref a :: st) hp := ax_aload_n dX6_nextDifference_6 rfl rfl
theorem dX6_nextDifference_7 : decode cX6_nextDifference 7 = .ok (.getfield 44, 3) := by decide +kernel
theorem sX6_nextDifference_7 : ab_X rom K cX6_nextDifference 4 1 7 ls (.ref a :: st) hp = (ab_fld hp a 4 10).bind (fun v => ab_X rom K cX6_nextDifference 4 1 10 ls (v :: st) hp) := ax_getfield dX6_nextDifference_7 kf_4_44 rfl
theorem dX6_nextDifference_10 : decode cX6_nextDifference 10 = .ok (.iload_n 2, 1) := by decide +kernel
theorem sX6_nextDifference_10 : ab_X rom K cX6_nextDifference 4 1 10 (v0 :: v1 :: .int x :: ls) st hp = ab_X rom K cX6_nextDifference 4 1 11 (v0 :: v1 :: .int x :: ls) (.int x :: st) hp := ax_iload_n dX6_nextDifference_10 rfl rfl
theorem dX6_nextDifference_11 : decode cX6_nextDifference 11 = .ok (.ishr, 1) := by decide +kernel
theorem sX6_nextDifference_11 : ab_X rom K cX6_nextDifference 4 1 11 ls (.int y :: .int x :: st) hp = ab_X rom K cX6_nextDifference 4 1 12 ls (.int (x >>> (y &&& 31)) :: st) hp := ax_ishr dX6_nextDifference_11 rfl
theorem dX6_nextDifference_12 : decode cX6_nextDifference 12 = .ok (.iconst 1, 1) := by decide +kernel
theorem sX6_nextDifference_12 : ab_X rom K cX6_nextDifference 4 1 12 ls st hp = ab_X rom K cX6_nextDifference 4 1 13 ls (.int 1 :: st) hp := ax_iconst dX6_nextDifference_12 (by decide) rfl
theorem dX6_nextDifference_13 : decode cX6_nextDifference 13 = .ok (.iand, 1) := by decide +kernel
theorem sX6_nextDifference_13 : ab_X rom K cX6_nextDifference 4 1 13 ls (.int y :: .int x :: st) hp = ab_X rom K cX6_nextDifference 4 1 14 ls (.int (x &&& y) :: st) hp := ax_iand dX6_nextDifference_13 rfl
theorem dX6_nextDifference_14 : decode cX6_nextDifference 14 = .ok (.ifCond .ne 5, 3) := by decide +kernel
theorem sX6_nextDifference_14 : ab_X rom K cX6_nextDifference 4 1 14 ls (.int x :: st) hp = if x = 0 then ab_X rom K cX6_nextDifference 4 1 17 ls st hp else ab_X rom K cX6_nextDifference 4 1 19 ls st hp := ax_if_ne dX6_nextDifference_14 (by decide) rfl
theorem dX6_nextDifference_17 : decode cX6_nextDifference 17 = .ok (.iload_n 2, 1) := by decide +kernel
theorem sX6_nextDifference_17 : ab_X rom K cX6_nextDifference 4 1 17 (v0 :: v1 :: .int x :: ls) st hp = ab_X rom K cX6_nextDifference 4 1 18 (v0 :: v1 :: .int x :: ls) (.int x :: st) hp := ax_iload_n dX6_nextDifference_17 rfl rfl
theorem dX6_nextDifference_18 : decode cX6_nextDifference 18 = .ok (.ireturn, 1) := by decide +kernel
theorem sX6_nextDifference_18 : ab_X rom K cX6_nextDifference 4 1 18 ls [.int x] hp = some (some (.int x), hp) := ax_iret dX6_nextDifference_18 rfl
theorem dX6_nextDifference_19 : decode cX6_nextDifference 19 = .ok (.iinc 2 (-1), 3) := by decide +kernel
theorem sX6_nextDifference_19i : ab_X rom K cX6_nextDifference 4 1 19 (v0 :: .int y :: .int x :: ls) st hp = ab_X rom K cX6_nextDifference 4 1 22 (v0 :: .int y :: .int (x + (-1)) :: ls) st hp := ax_iinc dX6_nextDifference_19 rfl (ab_nl_c1 (j := 1) (v := .int y) rfl (ab_c1_int _)) (by decide) rfl rfl
theorem sX6_nextDifference_19r : ab_X rom K cX6_nextDifference 4 1 19 (v0 :: .ref a2 :: .int x :: ls) st hp = ab_X rom K cX6_nextDifference 4 1 22 (v0 :: .ref a2 :: .int (x + (-1)) :: ls) st hp := ax_iinc dX6_nextDifference_19 rfl (ab_nl_c1 (j := 1) (v := .ref a2) rfl (ab_c1_ref _)) (by decide) rfl rfl
theorem sX6_nextDifference_19n : ab_X rom K cX6_nextDifference 4 1 19 (v0 :: .null :: .int x :: ls) st hp = ab_X rom K cX6_nextDifference 4 1 22 (v0 :: .null :: .int (x + (-1)) :: ls) st hp := ax_iinc dX6_nextDifference_19 rfl (ab_nl_c1 (j := 1) (v := .null) rfl ab_c1_null) (by decide) rfl rfl
theorem dX6_nextDifference_22 : decode cX6_nextDifference 22 = .ok (.goto (-20), 3) := by decide +kernel
theorem sX6_nextDifference_22 : ab_X rom K cX6_nextDifference 4 1 22 ls st hp = ab_X rom K cX6_nextDifference 4 1 2 ls st hp := ax_goto dX6_nextDifference_22 (by decide)
theorem dX6_nextDifference_25 : decode cX6_nextDifference 25 = .ok (.iconst 0, 1) := by decide +kernel
theorem sX6_nextDifference_25 : ab_X rom K cX6_nextDifference 4 1 25 ls st hp = ab_X rom K cX6_nextDifference 4 1 26 ls (.int 0 :: st) hp := ax_iconst dX6_nextDifference_25 (by decide) rfl
theorem dX6_nextDifference_26 : decode cX6_nextDifference 26 = .ok (.ireturn, 1) := by decide +kernel
theorem sX6_nextDifference_26 : ab_X rom K cX6_nextDifference 4 1 26 ls [.int x] hp = some (some (.int x), hp) := ax_iret dX6_nextDifference_26 rfl
theorem tX6_orderAll : ab_mT[63]? = some (yX6_orderAll, cX6_orderAll, 4, 0, 4) := by decide +kernel
theorem mX6_orderAll {d : Nat} {a0 : Nat} : ab_M rom (d + 1) 63 [.ref a0] hp = ab_X rom (ab_M rom d) cX6_orderAll 4 0 0 [.ref a0, .null, .null, .null] [] hp := ab_M_eq tX6_orderAll (Nat.le_of_ble_eq_true rfl)
theorem dX6_orderAll_0 : decode cX6_orderAll 0 = .ok (.aload_n 0, 1) := by decide +kernel
theorem sX6_orderAll_0 : ab_X rom K cX6_orderAll 4 0 0 (.ref a :: ls) st hp = ab_X rom K cX6_orderAll 4 0 1 (.ref a :: ls) (.ref a :: st) hp := ax_aload_n dX6_orderAll_0 rfl rfl
theorem dX6_orderAll_1 : decode cX6_orderAll 1 = .ok (.getfield 60, 3) := by decide +kernel
theorem sX6_orderAll_1 : ab_X rom K cX6_orderAll 4 0 1 ls (.ref a :: st) hp = (ab_fld hp a 4 5).bind (fun v => ab_X rom K cX6_orderAll 4 0 4 ls (v :: st) hp) := ax_getfield dX6_orderAll_1 kf_4_60 rfl
theorem dX6_orderAll_4 : decode cX6_orderAll 4 = .ok (.invokevirtual 110, 3) := by decide +kernel
theorem sX6_orderAll_4_0 : ab_X rom K cX6_orderAll 4 0 4 ls [.ref a] hp = if ab_iso hp a 1 = true then (K 25 (.ref a :: []) hp).bind (fun o => ab_X rom K cX6_orderAll 4 0 7 ls (o.1.toList ++ []) o.2) else none := ay_virtual (as := []) (st := []) dX6_orderAll_4 kc_4_110 rfl rfl (Nat.le_of_ble_eq_true rfl)
theorem sX6_orderAll_4_1 : ab_X rom K cX6_orderAll 4 0 4 ls [.ref a, v0] hp = if ab_iso hp a 1 = true then (K 25 (.ref a :: []) hp).bind (fun o => ab_X rom K cX6_orderAll 4 0 7 ls (o.1.toList ++ [v0]) o.2) else none := ay_virtual (as := []) (st := [v0]) dX6_orderAll_4 kc_4_110 rfl rfl (Nat.le_of_ble_eq_true rfl)
theorem sX6_orderAll_4_2 : ab_X rom K cX6_orderAll 4 0 4 ls [.ref a, v0, v1] hp = if ab_iso hp a 1 = true then (K 25 (.ref a :: []) hp).bind (fun o => ab_X rom K cX6_orderAll 4 0 7 ls (o.1.toList ++ [v0, v1]) o.2) else none := ay_virtual (as := []) (st := [v0, v1]) dX6_orderAll_4 kc_4_110 rfl rfl (Nat.le_of_ble_eq_true rfl)
theorem sX6_orderAll_4_3 : ab_X rom K cX6_orderAll 4 0 4 ls [.ref a, v0, v1, v2] hp = if ab_iso hp a 1 = true then (K 25 (.ref a :: []) hp).bind (fun o => ab_X rom K cX6_orderAll 4 0 7 ls (o.1.toList ++ [v0, v1, v2]) o.2) else none := ay_virtual (as := []) (st := [v0, v1, v2]) dX6_orderAll_4 kc_4_110 rfl rfl (Nat.le_of_ble_eq_true rfl)
theorem dX6_orderAll_7 : decode cX6_orderAll 7 = .ok (.istore_n 1, 1) := by decide +kernel
theorem sX6_orderAll_7i : ab_X rom K cX6_orderAll 4 0 7 (.int y :: v1 :: ls) (.int x :: st) hp = ab_X rom K cX6_orderAll 4 0 8 (.int y :: .int x :: ls) st hp := ax_istore_n dX6_orderAll_7 (ax_lt (v := v1) rfl) (ab_nl_c1 (j := 0) (v := .int y) rfl (ab_c1_int _)) rfl rfl
theorem sX6_orderAll_7r : ab_X rom K cX6_orderAll 4 0 7 (.ref a2 :: v1 :: ls) (.int x :: st) hp = ab_X rom K cX6_orderAll 4 0 8 (.ref a2 :: .int x :: ls) st hp := ax_istore_n dX6_orderAll_7 (ax_lt (v := v1) rfl) (ab_nl_c1 (j := 0) (v := .ref a2) rfl (ab_c1_ref _)) rfl rfl
theorem sX6_orderAll_7n : ab_X rom K cX6_orderAll 4 0 7 (.null :: v1 :: ls) (.int x :: st) hp = ab_X rom K cX6_orderAll 4 0 8 (.null :: .int x :: ls) st hp := ax_istore_n dX6_orderAll_7 (ax_lt (v := v1) rfl) (ab_nl_c1 (j := 0) (v := .null) rfl ab_c1_null) rfl rfl
theorem dX6_orderAll_8 : decode cX6_orderAll 8 = .ok (.aload_n 0, 1) := by decide +kernel
theorem sX6_orderAll_8 : ab_X rom K cX6_orderAll 4 0 8 (.ref a :: ls) st hp = ab_X rom K cX6_orderAll 4 0 9 (.ref a :: ls) (.ref a :: st) hp := ax_aload_n dX6_orderAll_8 rfl rfl
theorem dX6_orderAll_9 : decode cX6_orderAll 9 = .ok (.iconst 0, 1) := by decide +kernel
theorem sX6_orderAll_9 : ab_X rom K cX6_orderAll 4 0 9 ls st hp = ab_X rom K cX6_orderAll 4 0 10 ls (.int 0 :: st) hp := ax_iconst dX6_orderAll_9 (by decide) rfl
theorem dX6_orderAll_10 : decode cX6_orderAll 10 = .ok (.putfield 47, 3) := by decide +kernel
theorem sX6_orderAll_10 : ab_X rom K cX6_orderAll 4 0 10 ls (.int x :: .ref a :: st) hp = (ab_fpt hp a 4 11 (.int x)).bind (fun hp' => ab_X rom K cX6_orderAll 4 0 13 ls st hp') := ax_putfield dX6_orderAll_10 kf_4_47 rfl (Or.inl rfl) rfl
theorem dX6_orderAll_13 : decode cX6_orderAll 13 = .ok (.iload_n 1, 1) := by decide +kernel
theorem sX6_orderAll_13 : ab_X rom K cX6_orderAll 4 0 13 (v0 :: .int x :: ls) st hp = ab_X rom K cX6_orderAll 4 0 14 (v0 :: .int x :: ls) (.int x :: st) hp := ax_iload_n dX6_orderAll_13 rfl rfl
theorem dX6_orderAll_14 : decode cX6_orderAll 14 = .ok (.invokestatic 134, 3) := by decide +kernel
theorem sX6_orderAll_14_0 : ab_X rom K cX6_orderAll 4 0 14 ls [w1] hp = (K 264 [w1] hp).bind (fun o => ab_X rom K cX6_orderAll 4 0 17 ls (o.1.toList ++ []) o.2) := ax_static (as := [w1]) (st := []) dX6_orderAll_14 kc_4_134 rfl rfl (Nat.le_of_ble_eq_true rfl)
theorem sX6_orderAll_14_1 : ab_X rom K cX6_orderAll 4 0 14 ls [w1, v0] hp = (K 264 [w1] hp).bind (fun o => ab_X rom K cX6_orderAll 4 0 17 ls (o.1.toList ++ [v0]) o.2) := ax_static (as := [w1]) (st := [v0]) dX6_orderAll_14 kc_4_134 rfl rfl (Nat.le_of_ble_eq_true rfl)
theorem sX6_orderAll_14_2 : ab_X rom K cX6_orderAll 4 0 14 ls [w1, v0, v1] hp = (K 264 [w1] hp).bind (fun o => ab_X rom K cX6_orderAll 4 0 17 ls (o.1.toList ++ [v0, v1]) o.2) := ax_static (as := [w1]) (st := [v0, v1]) dX6_orderAll_14 kc_4_134 rfl rfl (Nat.le_of_ble_eq_true rfl)
theorem sX6_orderAll_14_3 : ab_X rom K cX6_orderAll 4 0 14 ls [w1, v0, v1, v2] hp = (K 264 [w1] hp).bind (fun o => ab_X rom K cX6_orderAll 4 0 17 ls (o.1.toList ++ [v0, v1, v2]) o.2) := ax_static (as := [w1]) (st := [v0, v1, v2]) dX6_orderAll_14 kc_4_134 rfl rfl (Nat.le_of_ble_eq_true rfl)
theorem dX6_orderAll_17 : decode cX6_orderAll 17 = .ok (.istore_n 2, 1) := by decide +kernel
theorem sX6_orderAll_17i : ab_X rom K cX6_orderAll 4 0 17 (v0 :: .int y :: v2 :: ls) (.int x :: st) hp = ab_X rom K cX6_orderAll 4 0 18 (v0 :: .int y :: .int x :: ls) st hp := ax_istore_n dX6_orderAll_17 (ax_lt (v := v2) rfl) (ab_nl_c1 (j := 1) (v := .int y) rfl (ab_c1_int _)) rfl rfl
theorem sX6_orderAll_17r : ab_X rom K cX6_orderAll 4 0 17 (v0 :: .ref a2 :: v2 :: ls) (.int x :: st) hp = ab_X rom K cX6_orderAll 4 0 18 (v0 :: .ref a2 :: .int x :: ls) st hp := ax_istore_n dX6_orderAll_17 (ax_lt (v := v2) rfl) (ab_nl_c1 (j := 1) (v := .ref a2) rfl (ab_c1_ref _)) rfl rfl
theorem sX6_orderAll_17n : ab_X rom K cX6_orderAll 4 0 17 (v0 :: .null :: v2 :: ls) (.int x :: st) hp = ab_X rom K cX6_orderAll 4 0 18 (v0 :: .null :: .int x :: ls) st hp := ax_istore_n dX6_orderAll_17 (ax_lt (v := v2) rfl) (ab_nl_c1 (j := 1) (v := .null) rfl ab_c1_null) rfl rfl
theorem dX6_orderAll_18 : decode cX6_orderAll 18 = .ok (.iload_n 2, 1) := by decide +kernel
theorem sX6_orderAll_18 : ab_X rom K cX6_orderAll 4 0 18 (v0 :: v1 :: .int x :: ls) st hp = ab_X rom K cX6_orderAll 4 0 19 (v0 :: v1 :: .int x :: ls) (.int x :: st) hp := ax_iload_n dX6_orderAll_18 rfl rfl
theorem dX6_orderAll_19 : decode cX6_orderAll 19 = .ok (.aload_n 0, 1) := by decide +kernel
theorem sX6_orderAll_19 : ab_X rom K cX6_orderAll 4 0 19 (.ref a :: ls) st hp = ab_X rom K cX6_orderAll 4 0 20 (.ref a :: ls) (.ref a :: st) hp := ax_aload_n dX6_orderAll_19 rfl rfl
theorem dX6_orderAll_20 : decode cX6_orderAll 20 = .ok (.getfield 60, 3) := by decide +kernel
theorem sX6_orderAll_20 : ab_X rom K cX6_orderAll 4 0 20 ls (.ref a :: st) hp = (ab_fld hp a 4 5).bind (fun v => ab_X rom K cX6_orderAll 4 0 23 ls (v :: st) hp) := ax_getfield dX6_orderAll_20 kf_4_60 rfl
theorem dX6_orderAll_23 : decode cX6_orderAll 23 = .ok (.getfield 120, 3) := by decide +kernel
theorem sX6_orderAll_23 : ab_X rom K cX6_orderAll 4 0 23 ls (.ref a :: st) hp = (ab_fld hp a 1 0).bind (fun v => ab_X rom K cX6_orderAll 4 0 26 ls (v :: st) hp) := ax_getfield dX6_orderAll_23 kf_4_120 rfl
theorem dX6_orderAll_26 : decode cX6_orderAll 26 = .ok (.if_icmp .ge 41, 3) := by decide +kernel
theorem sX6_orderAll_26 : ab_X rom K cX6_orderAll 4 0 26 ls (.int y :: .int x :: st) hp = if x < y then ab_X rom K cX6_orderAll 4 0 29 ls st hp else ab_X rom K cX6_orderAll 4 0 67 ls st hp := ax_icmp_ge dX6_orderAll_26 (by decide) rfl
theorem dX6_orderAll_29 : decode cX6_orderAll 29 = .ok (.aload_n 0, 1) := by decide +kernel
theorem sX6_orderAll_29 : ab_X rom K cX6_orderAll 4 0 29 (.ref a :: ls) st hp = ab_X rom K cX6_orderAll 4 0 30 (.ref a :: ls) (.ref a :: st) hp := ax_aload_n dX6_orderAll_29 rfl rfl
theorem dX6_orderAll_30 : decode cX6_orderAll 30 = .ok (.iload_n 1, 1) := by decide +kernel
theorem sX6_orderAll_30 : ab_X rom K cX6_orderAll 4 0 30 (v0 :: .int x :: ls) st hp = ab_X rom K cX6_orderAll 4 0 31 (v0 :: .int x :: ls) (.int x :: st) hp := ax_iload_n dX6_orderAll_30 rfl rfl
theorem dX6_orderAll_31 : decode cX6_orderAll 31 = .ok (.invokevirtual 140, 3) := by decide +kernel
theorem sX6_orderAll_31_0 : ab_X rom K cX6_orderAll 4 0 31 ls [w1, .ref a] hp = if ab_iso hp a 4 = true then (K 59 (.ref a :: [w1]) hp).bind (fun o => ab_X rom K cX6_orderAll 4 0 34 ls (o.1.toList ++ []) o.2) else none := ay_virtual (as := [w1]) (st := []) dX6_orderAll_31 kc_4_140 rfl rfl (Nat.le_of_ble_eq_true rfl)
theorem sX6_orderAll_31_1 : ab_X rom K cX6_orderAll 4 0 31 ls [w1, .ref a, v0] hp = if ab_iso hp a 4 = true then (K 59 (.ref a :: [w1]) hp).bind (fun o => ab_X rom K cX6_orderAll 4 0 34 ls (o.1.toList ++ [v0]) o.2) else none := ay_virtual (as := [w1]) (st := [v0]) dX6_orderAll_31 kc_4_140 rfl rfl (Nat.le_of_ble_eq_true rfl)
theorem sX6_orderAll_31_2 : ab_X rom K cX6_orderAll 4 0 31 ls [w1, .ref a, v0, v1] hp = if ab_iso hp a 4 = true then (K 59 (.ref a :: [w1]) hp).bind (fun o => ab_X rom K cX6_orderAll 4 0 34 ls (o.1.toList ++ [v0, v1]) o.2) else none := ay_virtual (as := [w1]) (st := [v0, v1]) dX6_orderAll_31 kc_4_140 rfl rfl (Nat.le_of_ble_eq_true rfl)
theorem sX6_orderAll_31_3 : ab_X rom K cX6_orderAll 4 0 31 ls [w1, .ref a, v0, v1, v2] hp = if ab_iso hp a 4 = true then (K 59 (.ref a :: [w1]) hp).bind (fun o => ab_X rom K cX6_orderAll 4 0 34 ls (o.1.toList ++ [v0, v1, v2]) o.2) else none := ay_virtual (as := [w1]) (st := [v0, v1, v2]) dX6_orderAll_31 kc_4_140 rfl rfl (Nat.le_of_ble_eq_true rfl)
theorem dX6_orderAll_34 : decode cX6_orderAll 34 = .ok (.istore_n 3, 1) := by decide +kernel
theorem sX6_orderAll_34i : ab_X rom K cX6_orderAll 4 0 34 (v0 :: v1 :: .int y :: v3 :: ls) (.int x :: st) hp = ab_X rom K cX6_orderAll 4 0 35 (v0 :: v1 :: .int y :: .int x :: ls) st hp := ax_istore_n dX6_orderAll_34 (ax_lt (v := v3) rfl) (ab_nl_c1 (j := 2) (v := .int y) rfl (ab_c1_int _)) rfl rfl
theorem sX6_orderAll_34r : ab_X rom K cX6_orderAll 4 0 34 (v0 :: v1 :: .ref a2 :: v3 :: ls) (.int x :: st) hp = ab_X rom K cX6_orderAll 4 0 35 (v0 :: v1 :: .ref a2 :: .int x :: ls) st hp := ax_istore_n dX6_orderAll_34 (ax_lt (v := v3) rfl) (ab_nl_c1 (j := 2) (v := .ref a2) rfl (ab_c1_ref _)) rfl rfl
theorem sX6_orderAll_34n : ab_X rom K cX6_orderAll 4 0 34 (v0 :: v1 :: .null :: v3 :: ls) (.int x :: st) hp = ab_X rom K cX6_orderAll 4 0 35 (v0 :: v1 :: .null :: .int x :: ls) st hp := ax_istore_n dX6_orderAll_34 (ax_lt (v := v3) rfl) (ab_nl_c1 (j := 2) (v := .null) rfl ab_c1_null) rfl rfl
theorem dX6_orderAll_35 : decode cX6_orderAll 35 = .ok (.aload_n 0, 1) := by decide +kernel
theorem sX6_orderAll_35 : ab_X rom K cX6_orderAll 4 0 35 (.ref a :: ls) st hp = ab_X rom K cX6_orderAll 4 0 36 (.ref a :: ls) (.ref a :: st) hp := ax_aload_n dX6_orderAll_35 rfl rfl
theorem dX6_orderAll_36 : decode cX6_orderAll 36 = .ok (.getfield 25, 3) := by decide +kernel
theorem sX6_orderAll_36 : ab_X rom K cX6_orderAll 4 0 36 ls (.ref a :: st) hp = (ab_fld hp a 4 3).bind (fun v => ab_X rom K cX6_orderAll 4 0 39 ls (v :: st) hp) := ax_getfield dX6_orderAll_36 kf_4_25 rfl
theorem dX6_orderAll_39 : decode cX6_orderAll 39 = .ok (.aload_n 0, 1) := by decide +kernel
theorem sX6_orderAll_39 : ab_X rom K cX6_orderAll 4 0 39 (.ref a :: ls) st hp = ab_X rom K cX6_orderAll 4 0 40 (.ref a :: ls) (.ref a :: st) hp := ax_aload_n dX6_orderAll_39 rfl rfl
theorem dX6_orderAll_40 : decode cX6_orderAll 40 = .ok (.getfield 47, 3) := by decide +kernel
theorem sX6_orderAll_40 : ab_X rom K cX6_orderAll 4 0 40 ls (.ref a :: st) hp = (ab_fld hp a 4 11).bind (fun v => ab_X rom K cX6_orderAll 4 0 43 ls (v :: st) hp) := ax_getfield dX6_orderAll_40 kf_4_47 rfl
theorem dX6_orderAll_43 : decode cX6_orderAll 43 = .ok (.iload_n 3, 1) := by decide +kernel
theorem sX6_orderAll_43 : ab_X rom K cX6_orderAll 4 0 43 (v0 :: v1 :: v2 :: .int x :: ls) st hp = ab_X rom K cX6_orderAll 4 0 44 (v0 :: v1 :: v2 :: .int x :: ls) (.int x :: st) hp := ax_iload_n dX6_orderAll_43 rfl rfl
theorem dX6_orderAll_44 : decode cX6_orderAll 44 = .ok (.iastore, 1) := by decide +kernel
theorem sX6_orderAll_44 : ab_X rom K cX6_orderAll 4 0 44 ls (.int y :: .int x :: .ref a :: st) hp = (ab_awr 0 hp a x y).bind (fun hp' => ab_X rom K cX6_orderAll 4 0 45 ls st hp') := ax_iastore dX6_orderAll_44 rfl
theorem dX6_orderAll_45 : decode cX6_orderAll 45 = .ok (.aload_n 0, 1) := by decide +kernel
theorem sX6_orderAll_45 : ab_X rom K cX6_orderAll 4 0 45 (.ref a :: ls) st hp = ab_X rom K cX6_orderAll 4 0 46 (.ref a :: ls) (.ref a :: st) hp := ax_aload_n dX6_orderAll_45 rfl rfl
theorem dX6_orderAll_46 : decode cX6_orderAll 46 = .ok (.dup, 1) := by decide +kernel
theorem sX6_orderAll_46i : ab_X rom K cX6_orderAll 4 0 46 ls (.int x :: st) hp = ab_X rom K cX6_orderAll 4 0 47 ls (.int x :: .int x :: st) hp := ax_dup dX6_orderAll_46 rfl (ab_c1_int _)
theorem sX6_orderAll_46r : ab_X rom K cX6_orderAll 4 0 46 ls (.ref a :: st) hp = ab_X rom K cX6_orderAll 4 0 47 ls (.ref a :: .ref a :: st) hp := ax_dup dX6_orderAll_46 rfl (ab_c1_ref _)
theorem dX6_orderAll_47 : decode cX6_orderAll 47 = .ok (.getfield 47, 3) := by decide +kernel
theorem sX6_orderAll_47 : ab_X rom K cX6_orderAll 4 0 47 ls (.ref a :: st) hp = (ab_fld hp a 4 11).bind (fun v => ab_X rom K cX6_orderAll 4 0 50 ls (v :: st) hp) := ax_getfield dX6_orderAll_47 kf_4_47 rfl
theorem dX6_orderAll_50 : decode cX6_orderAll 50 = .ok (.iconst 1, 1) := by decide +kernel
theorem sX6_orderAll_50 : ab_X rom K cX6_orderAll 4 0 50 ls st hp = ab_X rom K cX6_orderAll 4 0 51 ls (.int 1 :: st) hp := ax_iconst dX6_orderAll_50 (by decide) rfl
theorem dX6_orderAll_51 : decode cX6_orderAll 51 = .ok (.iadd, 1) := by decide +kernel
theorem sX6_orderAll_51 : ab_X rom K cX6_orderAll 4 0 51 ls (.int y :: .int x :: st) hp = ab_X rom K cX6_orderAll 4 0 52 ls (.int (x + y) :: st) hp := ax_iadd dX6_orderAll_51 rfl
theorem dX6_orderAll_52 : decode cX6_orderAll 52 = .ok (.putfield 47, 3) := by decide +kernel
theorem sX6_orderAll_52 : ab_X rom K cX6_orderAll 4 0 52 ls (.int x :: .ref a :: st) hp = (ab_fpt hp a 4 11 (.int x)).bind (fun hp' => ab_X rom K cX6_orderAll 4 0 55 ls st hp') := ax_putfield dX6_orderAll_52 kf_4_47 rfl (Or.inl rfl) rfl
theorem dX6_orderAll_55 : decode cX6_orderAll 55 = .ok (.iload_n 1, 1) := by decide +kernel
theorem sX6_orderAll_55 : ab_X rom K cX6_orderAll 4 0 55 (v0 :: .int x :: ls) st hp = ab_X rom K cX6_orderAll 4 0 56 (v0 :: .int x :: ls) (.int x :: st) hp := ax_iload_n dX6_orderAll_55 rfl rfl
theorem dX6_orderAll_56 : decode cX6_orderAll 56 = .ok (.iconst 1, 1) := by decide +kernel
theorem sX6_orderAll_56 : ab_X rom K cX6_orderAll 4 0 56 ls st hp = ab_X rom K cX6_orderAll 4 0 57 ls (.int 1 :: st) hp := ax_iconst dX6_orderAll_56 (by decide) rfl
theorem dX6_orderAll_57 : decode cX6_orderAll 57 = .ok (.iload_n 3, 1) := by decide +kernel
theorem sX6_orderAll_57 : ab_X rom K cX6_orderAll 4 0 57 (v0 :: v1 :: v2 :: .int x :: ls) st hp = ab_X rom K cX6_orderAll 4 0 58 (v0 :: v1 :: v2 :: .int x :: ls) (.int x :: st) hp := ax_iload_n dX6_orderAll_57 rfl rfl
theorem dX6_orderAll_58 : decode cX6_orderAll 58 = .ok (.ishl, 1) := by decide +kernel
theorem sX6_orderAll_58 : ab_X rom K cX6_orderAll 4 0 58 ls (.int y :: .int x :: st) hp = ab_X rom K cX6_orderAll 4 0 59 ls (.int (x <<< (y &&& 31)) :: st) hp := ax_ishl dX6_orderAll_58 rfl
theorem dX6_orderAll_59 : decode cX6_orderAll 59 = .ok (.ior, 1) := by decide +kernel
theorem sX6_orderAll_59 : ab_X rom K cX6_orderAll 4 0 59 ls (.int y :: .int x :: st) hp = ab_X rom K cX6_orderAll 4 0 60 ls (.int (x ||| y) :: st) hp := ax_ior dX6_orderAll_59 rfl
theorem dX6_orderAll_60 : decode cX6_orderAll 60 = .ok (.istore_n 1, 1) := by decide +kernel
theorem sX6_orderAll_60i : ab_X rom K cX6_orderAll 4 0 60 (.int y :: v1 :: ls) (.int x :: st) hp = ab_X rom K cX6_orderAll 4 0 61 (.int y :: .int x :: ls) st hp := ax_istore_n dX6_orderAll_60 (ax_lt (v := v1) rfl) (ab_nl_c1 (j := 0) (v := .int y) rfl (ab_c1_int _)) rfl rfl
theorem sX6_orderAll_60r : ab_X rom K cX6_orderAll 4 0 60 (.ref a2 :: v1 :: ls) (.int x :: st) hp = ab_X rom K cX6_orderAll 4 0 61 (.ref a2 :: .int x :: ls) st hp := ax_istore_n dX6_orderAll_60 (ax_lt (v := v1) rfl) (ab_nl_c1 (j := 0) (v := .ref a2) rfl (ab_c1_ref _)) rfl rfl
theorem sX6_orderAll_60n : ab_X rom K cX6_orderAll 4 0 60 (.null :: v1 :: ls) (.int x :: st) hp = ab_X rom K cX6_orderAll 4 0 61 (.null :: .int x :: ls) st hp := ax_istore_n dX6_orderAll_60 (ax_lt (v := v1) rfl) (ab_nl_c1 (j := 0) (v := .null) rfl ab_c1_null) rfl rfl
theorem dX6_orderAll_61 : decode cX6_orderAll 61 = .ok (.iinc 2 1, 3) := by decide +kernel
theorem sX6_orderAll_61i : ab_X rom K cX6_orderAll 4 0 61 (v0 :: .int y :: .int x :: ls) st hp = ab_X rom K cX6_orderAll 4 0 64 (v0 :: .int y :: .int (x + 1) :: ls) st hp := ax_iinc dX6_orderAll_61 rfl (ab_nl_c1 (j := 1) (v := .int y) rfl (ab_c1_int _)) (by decide) rfl rfl
theorem sX6_orderAll_61r : ab_X rom K cX6_orderAll 4 0 61 (v0 :: .ref a2 :: .int x :: ls) st hp = ab_X rom K cX6_orderAll 4 0 64 (v0 :: .ref a2 :: .int (x + 1) :: ls) st hp := ax_iinc dX6_orderAll_61 rfl (ab_nl_c1 (j := 1) (v := .ref a2) rfl (ab_c1_ref _)) (by decide) rfl rfl
theorem sX6_orderAll_61n : ab_X rom K cX6_orderAll 4 0 61 (v0 :: .null :: .int x :: ls) st hp = ab_X rom K cX6_orderAll 4 0 64 (v0 :: .null :: .int (x + 1) :: ls) st hp := ax_iinc dX6_orderAll_61 rfl (ab_nl_c1 (j := 1) (v := .null) rfl ab_c1_null) (by decide) rfl rfl
theorem dX6_orderAll_64 : decode cX6_orderAll 64 = .ok (.goto (-46), 3) := by decide +kernel
theorem sX6_orderAll_64 : ab_X rom K cX6_orderAll 4 0 64 ls st hp = ab_X rom K cX6_orderAll 4 0 18 ls st hp := ax_goto dX6_orderAll_64 (by decide)
theorem dX6_orderAll_67 : decode cX6_orderAll 67 = .ok (.return_, 1) := by decide +kernel
theorem sX6_orderAll_67 : ab_X rom K cX6_orderAll 4 0 67 ls [] hp = some (none, hp) := ax_vret dX6_orderAll_67 (by decide)
theorem tX6_orderLonely : ab_mT[64]? = some (yX6_orderLonely, cX6_orderLonely, 2, 0, 4) := by decide +kernel
theorem mX6_orderLonely {d : Nat} {a0 : Nat} : ab_M rom (d + 1) 64 [.ref a0] hp = ab_X rom (ab_M rom d) cX6_orderLonely 4 0 0 [.ref a0, .null] [] hp := ab_M_eq tX6_orderLonely (Nat.le_of_ble_eq_true rfl)
theorem dX6_orderLonely_0 : decode cX6_orderLonely 0 = .ok (.aload_n 0, 1) := by decide +kernel
theorem sX6_orderLonely_0 : ab_X rom K cX6_orderLonely 4 0 0 (.ref a :: ls) st hp = ab_X rom K cX6_orderLonely 4 0 1 (.ref a :: ls) (.ref a :: st) hp := ax_aload_n dX6_orderLonely_0 rfl rfl
theorem dX6_orderLonely_1 : decode cX6_orderLonely 1 = .ok (.iconst 0, 1) := by decide +kernel
theorem sX6_orderLonely_1 : ab_X rom K cX6_orderLonely 4 0 1 ls st hp = ab_X rom K cX6_orderLonely 4 0 2 ls (.int 0 :: st) hp := ax_iconst dX6_orderLonely_1 (by decide) rfl
theorem dX6_orderLonely_2 : decode cX6_orderLonely 2 = .ok (.putfield 47, 3) := by decide +kernel
theorem sX6_orderLonely_2 : ab_X rom K cX6_orderLonely 4 0 2 ls (.int x :: .ref a :: st) hp = (ab_fpt hp a 4 11 (.int x)).bind (fun hp' => ab_X rom K cX6_orderLonely 4 0 5 ls st hp') := ax_putfield dX6_orderLonely_2 kf_4_47 rfl (Or.inl rfl) rfl
theorem dX6_orderLonely_5 : decode cX6_orderLonely 5 = .ok (.iconst 0, 1) := by decide +kernel
theorem sX6_orderLonely_5 : ab_X rom K cX6_orderLonely 4 0 5 ls st hp = ab_X rom K cX6_orderLonely 4 0 6 ls (.int 0 :: st) hp := ax_iconst dX6_orderLonely_5 (by decide) rfl
theorem dX6_orderLonely_6 : decode cX6_orderLonely 6 = .ok (.istore_n 1, 1) := by decide +kernel
theorem sX6_orderLonely_6i : ab_X rom K cX6_orderLonely 4 0 6 (.int y :: v1 :: ls) (.int x :: st) hp = ab_X rom K cX6_orderLonely 4 0 7 (.int y :: .int x :: ls) st hp := ax_istore_n dX6_orderLonely_6 (ax_lt (v := v1) rfl) (ab_nl_c1 (j := 0) (v := .int y) rfl (ab_c1_int _)) rfl rfl
theorem sX6_orderLonely_6r : ab_X rom K cX6_orderLonely 4 0 6 (.ref a2 :: v1 :: ls) (.int x :: st) hp = ab_X rom K cX6_orderLonely 4 0 7 (.ref a2 :: .int x :: ls) st hp := ax_istore_n dX6_orderLonely_6 (ax_lt (v := v1) rfl) (ab_nl_c1 (j := 0) (v := .ref a2) rfl (ab_c1_ref _)) rfl rfl
theorem sX6_orderLonely_6n : ab_X rom K cX6_orderLonely 4 0 6 (.null :: v1 :: ls) (.int x :: st) hp = ab_X rom K cX6_orderLonely 4 0 7 (.null :: .int x :: ls) st hp := ax_istore_n dX6_orderLonely_6 (ax_lt (v := v1) rfl) (ab_nl_c1 (j := 0) (v := .null) rfl ab_c1_null) rfl rfl
theorem dX6_orderLonely_7 : decode cX6_orderLonely 7 = .ok (.iload_n 1, 1) := by decide +kernel
theorem sX6_orderLonely_7 : ab_X rom K cX6_orderLonely 4 0 7 (v0 :: .int x :: ls) st hp = ab_X rom K cX6_orderLonely 4 0 8 (v0 :: .int x :: ls) (.int x :: st) hp := ax_iload_n dX6_orderLonely_7 rfl rfl
theorem dX6_orderLonely_8 : decode cX6_orderLonely 8 = .ok (.aload_n 0, 1) := by decide +kernel
theorem sX6_orderLonely_8 : ab_X rom K cX6_orderLonely 4 0 8 (.ref a :: ls) st hp = ab_X rom K cX6_orderLonely 4 0 9 (.ref a :: ls) (.ref a :: st) hp := ax_aload_n dX6_orderLonely_8 rfl rfl
theorem dX6_orderLonely_9 : decode cX6_orderLonely 9 = .ok (.getfield 60, 3) := by decide +kernel
theorem sX6_orderLonely_9 : ab_X rom K cX6_orderLonely 4 0 9 ls (.ref a :: st) hp = (ab_fld hp a 4 5).bind (fun v => ab_X rom K cX6_orderLonely 4 0 12 ls (v :: st) hp) := ax_getfield dX6_orderLonely_9 kf_4_60 rfl
theorem dX6_orderLonely_12 : decode cX6_orderLonely 12 = .ok (.getfield 120, 3) := by decide +kernel
theorem sX6_orderLonely_12 : ab_X rom K cX6_orderLonely 4 0 12 ls (.ref a :: st) hp = (ab_fld hp a 1 0).bind (fun v => ab_X rom K cX6_orderLonely 4 0 15 ls (v :: st) hp) := ax_getfield dX6_orderLonely_12 kf_4_120 rfl
theorem dX6_orderLonely_15 : decode cX6_orderLonely 15 = .ok (.if_icmp .ge 51, 3) := by decide +kernel
theorem sX6_orderLonely_15 : ab_X rom K cX6_orderLonely 4 0 15 ls (.int y :: .int x :: st) hp = if x < y then ab_X rom K cX6_orderLonely 4 0 18 ls st hp else ab_X rom K cX6_orderLonely 4 0 66 ls st hp := ax_icmp_ge dX6_orderLonely_15 (by decide) rfl
theorem dX6_orderLonely_18 : decode cX6_orderLonely 18 = .ok (.aload_n 0, 1) := by decide +kernel
theorem sX6_orderLonely_18 : ab_X rom K cX6_orderLonely 4 0 18 (.ref a :: ls) st hp = ab_X rom K cX6_orderLonely 4 0 19 (.ref a :: ls) (.ref a :: st) hp := ax_aload_n dX6_orderLonely_18 rfl rfl
theorem dX6_orderLonely_19 : decode cX6_orderLonely 19 = .ok (.getfield 18, 3) := by decide +kernel
theorem sX6_orderLonely_19 : ab_X rom K cX6_orderLonely 4 0 19 ls (.ref a :: st) hp = (ab_fld hp a 4 1).bind (fun v => ab_X rom K cX6_orderLonely 4 0 22 ls (v :: st) hp) := ax_getfield dX6_orderLonely_19 kf_4_18 rfl
theorem dX6_orderLonely_22 : decode cX6_orderLonely 22 = .ok (.iload_n 1, 1) := by decide +kernel
theorem sX6_orderLonely_22 : ab_X rom K cX6_orderLonely 4 0 22 (v0 :: .int x :: ls) st hp = ab_X rom K cX6_orderLonely 4 0 23 (v0 :: .int x :: ls) (.int x :: st) hp := ax_iload_n dX6_orderLonely_22 rfl rfl
theorem dX6_orderLonely_23 : decode cX6_orderLonely 23 = .ok (.iaload, 1) := by decide +kernel
theorem sX6_orderLonely_23 : ab_X rom K cX6_orderLonely 4 0 23 ls (.int x :: .ref a :: st) hp = (ab_ard rom 0 hp a x).bind (fun v => ab_X rom K cX6_orderLonely 4 0 24 ls (.int v :: st) hp) := ax_iaload dX6_orderLonely_23 rfl
theorem dX6_orderLonely_24 : decode cX6_orderLonely 24 = .ok (.iconst (-1), 1) := by decide +kernel
theorem sX6_orderLonely_24 : ab_X rom K cX6_orderLonely 4 0 24 ls st hp = ab_X rom K cX6_orderLonely 4 0 25 ls (.int (-1) :: st) hp := ax_iconst dX6_orderLonely_24 (by decide) rfl
theorem dX6_orderLonely_25 : decode cX6_orderLonely 25 = .ok (.if_icmp .ne 35, 3) := by decide +kernel
theorem sX6_orderLonely_25 : ab_X rom K cX6_orderLonely 4 0 25 ls (.int y :: .int x :: st) hp = if x = y then ab_X rom K cX6_orderLonely 4 0 28 ls st hp else ab_X rom K cX6_orderLonely 4 0 60 ls st hp := ax_icmp_ne dX6_orderLonely_25 (by decide) rfl
theorem dX6_orderLonely_28 : decode cX6_orderLonely 28 = .ok (.aload_n 0, 1) := by decide +kernel
theorem sX6_orderLonely_28 : ab_X rom K cX6_orderLonely 4 0 28 (.ref a :: ls) st hp = ab_X rom K cX6_orderLonely 4 0 29 (.ref a :: ls) (.ref a :: st) hp := ax_aload_n dX6_orderLonely_28 rfl rfl
theorem dX6_orderLonely_29 : decode cX6_orderLonely 29 = .ok (.getfield 60, 3) := by decide +kernel
theorem sX6_orderLonely_29 : ab_X rom K cX6_orderLonely 4 0 29 ls (.ref a :: st) hp = (ab_fld hp a 4 5).bind (fun v => ab_X rom K cX6_orderLonely 4 0 32 ls (v :: st) hp) := ax_getfield dX6_orderLonely_29 kf_4_60 rfl
theorem dX6_orderLonely_32 : decode cX6_orderLonely 32 = .ok (.getfield 131, 3) := by decide +kernel
theorem sX6_orderLonely_32 : ab_X rom K cX6_orderLonely 4 0 32 ls (.ref a :: st) hp = (ab_fld hp a 1 5).bind (fun v => ab_X rom K cX6_orderLonely 4 0 35 ls (v :: st) hp) := ax_getfield dX6_orderLonely_32 kf_4_131 rfl
theorem dX6_orderLonely_35 : decode cX6_orderLonely 35 = .ok (.iload_n 1, 1) := by decide +kernel
theorem sX6_orderLonely_35 : ab_X rom K cX6_orderLonely 4 0 35 (v0 :: .int x :: ls) st hp = ab_X rom K cX6_orderLonely 4 0 36 (v0 :: .int x :: ls) (.int x :: st) hp := ax_iload_n dX6_orderLonely_35 rfl rfl
theorem dX6_orderLonely_36 : decode cX6_orderLonely 36 = .ok (.iaload, 1) := by decide +kernel
theorem sX6_orderLonely_36 : ab_X rom K cX6_orderLonely 4 0 36 ls (.int x :: .ref a :: st) hp = (ab_ard rom 0 hp a x).bind (fun v => ab_X rom K cX6_orderLonely 4 0 37 ls (.int v :: st) hp) := ax_iaload dX6_orderLonely_36 rfl
theorem dX6_orderLonely_37 : decode cX6_orderLonely 37 = .ok (.ifCond .ne 23, 3) := by decide +kernel
theorem sX6_orderLonely_37 : ab_X rom K cX6_orderLonely 4 0 37 ls (.int x :: st) hp = if x = 0 then ab_X rom K cX6_orderLonely 4 0 40 ls st hp else ab_X rom K cX6_orderLonely 4 0 60 ls st hp := ax_if_ne dX6_orderLonely_37 (by decide) rfl
theorem dX6_orderLonely_40 : decode cX6_orderLonely 40 = .ok (.aload_n 0, 1) := by decide +kernel
theorem sX6_orderLonely_40 : ab_X rom K cX6_orderLonely 4 0 40 (.ref a :: ls) st hp = ab_X rom K cX6_orderLonely 4 0 41 (.ref a :: ls) (.ref a :: st) hp := ax_aload_n dX6_orderLonely_40 rfl rfl
theorem dX6_orderLonely_41 : decode cX6_orderLonely 41 = .ok (.getfield 25, 3) := by decide +kernel
theorem sX6_orderLonely_41 : ab_X rom K cX6_orderLonely 4 0 41 ls (.ref a :: st) hp = (ab_fld hp a 4 3).bind (fun v => ab_X rom K cX6_orderLonely 4 0 44 ls (v :: st) hp) := ax_getfield dX6_orderLonely_41 kf_4_25 rfl
theorem dX6_orderLonely_44 : decode cX6_orderLonely 44 = .ok (.aload_n 0, 1) := by decide +kernel
theorem sX6_orderLonely_44 : ab_X rom K cX6_orderLonely 4 0 44 (.ref a :: ls) st hp = ab_X rom K cX6_orderLonely 4 0 45 (.ref a :: ls) (.ref a :: st) hp := ax_aload_n dX6_orderLonely_44 rfl rfl
theorem dX6_orderLonely_45 : decode cX6_orderLonely 45 = .ok (.getfield 47, 3) := by decide +kernel
theorem sX6_orderLonely_45 : ab_X rom K cX6_orderLonely 4 0 45 ls (.ref a :: st) hp = (ab_fld hp a 4 11).bind (fun v => ab_X rom K cX6_orderLonely 4 0 48 ls (v :: st) hp) := ax_getfield dX6_orderLonely_45 kf_4_47 rfl
theorem dX6_orderLonely_48 : decode cX6_orderLonely 48 = .ok (.iload_n 1, 1) := by decide +kernel
theorem sX6_orderLonely_48 : ab_X rom K cX6_orderLonely 4 0 48 (v0 :: .int x :: ls) st hp = ab_X rom K cX6_orderLonely 4 0 49 (v0 :: .int x :: ls) (.int x :: st) hp := ax_iload_n dX6_orderLonely_48 rfl rfl
theorem dX6_orderLonely_49 : decode cX6_orderLonely 49 = .ok (.iastore, 1) := by decide +kernel
theorem sX6_orderLonely_49 : ab_X rom K cX6_orderLonely 4 0 49 ls (.int y :: .int x :: .ref a :: st) hp = (ab_awr 0 hp a x y).bind (fun hp' => ab_X rom K cX6_orderLonely 4 0 50 ls st hp') := ax_iastore dX6_orderLonely_49 rfl
theorem dX6_orderLonely_50 : decode cX6_orderLonely 50 = .ok (.aload_n 0, 1) := by decide +kernel
theorem sX6_orderLonely_50 : ab_X rom K cX6_orderLonely 4 0 50 (.ref a :: ls) st hp = ab_X rom K cX6_orderLonely 4 0 51 (.ref a :: ls) (.ref a :: st) hp := ax_aload_n dX6_orderLonely_50 rfl rfl
theorem dX6_orderLonely_51 : decode cX6_orderLonely 51 = .ok (.dup, 1) := by decide +kernel
theorem sX6_orderLonely_51i : ab_X rom K cX6_orderLonely 4 0 51 ls (.int x :: st) hp = ab_X rom K cX6_orderLonely 4 0 52 ls (.int x :: .int x :: st) hp := ax_dup dX6_orderLonely_51 rfl (ab_c1_int _)
theorem sX6_orderLonely_51r : ab_X rom K cX6_orderLonely 4 0 51 ls (.ref a :: st) hp = ab_X rom K cX6_orderLonely 4 0 52 ls (.ref a :: .ref a :: st) hp := ax_dup dX6_orderLonely_51 rfl (ab_c1_ref _)
theorem dX6_orderLonely_52 : decode cX6_orderLonely 52 = .ok (.getfield 47, 3) := by decide +kernel
theorem sX6_orderLonely_52 : ab_X rom K cX6_orderLonely 4 0 52 ls (.ref a :: st) hp = (ab_fld hp a 4 11).bind (fun v => ab_X rom K cX6_orderLonely 4 0 55 ls (v :: st) hp) := ax_getfield dX6_orderLonely_52 kf_4_47 rfl
theorem dX6_orderLonely_55 : decode cX6_orderLonely 55 = .ok (.iconst 1, 1) := by decide +kernel
theorem sX6_orderLonely_55 : ab_X rom K cX6_orderLonely 4 0 55 ls st hp = ab_X rom K cX6_orderLonely 4 0 56 ls (.int 1 :: st) hp := ax_iconst dX6_orderLonely_55 (by decide) rfl
theorem dX6_orderLonely_56 : decode cX6_orderLonely 56 = .ok (.iadd, 1) := by decide +kernel
theorem sX6_orderLonely_56 : ab_X rom K cX6_orderLonely 4 0 56 ls (.int y :: .int x :: st) hp = ab_X rom K cX6_orderLonely 4 0 57 ls (.int (x + y) :: st) hp := ax_iadd dX6_orderLonely_56 rfl
theorem dX6_orderLonely_57 : decode cX6_orderLonely 57 = .ok (.putfield 47, 3) := by decide +kernel
theorem sX6_orderLonely_57 : ab_X rom K cX6_orderLonely 4 0 57 ls (.int x :: .ref a :: st) hp = (ab_fpt hp a 4 11 (.int x)).bind (fun hp' => ab_X rom K cX6_orderLonely 4 0 60 ls st hp') := ax_putfield dX6_orderLonely_57 kf_4_47 rfl (Or.inl rfl) rfl
theorem dX6_orderLonely_60 : decode cX6_orderLonely 60 = .ok (.iinc 1 1, 3) := by decide +kernel
theorem sX6_orderLonely_60i : ab_X rom K cX6_orderLonely 4 0 60 (.int y :: .int x :: ls) st hp = ab_X rom K cX6_orderLonely 4 0 63 (.int y :: .int (x + 1) :: ls) st hp := ax_iinc dX6_orderLonely_60 rfl (ab_nl_c1 (j := 0) (v := .int y) rfl (ab_c1_int _)) (by decide) rfl rfl
theorem sX6_orderLonely_60r : ab_X rom K cX6_orderLonely 4 0 60 (.ref a2 :: .int x :: ls) st hp = ab_X rom K cX6_orderLonely 4 0 63 (.ref a2 :: .int (x + 1) :: ls) st hp := ax_iinc dX6_orderLonely_60 rfl (ab_nl_c1 (j := 0) (v := .ref a2) rfl (ab_c1_ref _)) (by decide) rfl rfl
theorem sX6_orderLonely_60n : ab_X rom K cX6_orderLonely 4 0 60 (.null :: .int x :: ls) st hp = ab_X rom K cX6_orderLonely 4 0 63 (.null :: .int (x + 1) :: ls) st hp := ax_iinc dX6_orderLonely_60 rfl (ab_nl_c1 (j := 0) (v := .null) rfl ab_c1_null) (by decide) rfl rfl
theorem dX6_orderLonely_63 : decode cX6_orderLonely 63 = .ok (.goto (-56), 3) := by decide +kernel
theorem sX6_orderLonely_63 : ab_X rom K cX6_orderLonely 4 0 63 ls st hp = ab_X rom K cX6_orderLonely 4 0 7 ls st hp := ax_goto dX6_orderLonely_63 (by decide)
theorem dX6_orderLonely_66 : decode cX6_orderLonely 66 = .ok (.return_, 1) := by decide +kernel
theorem sX6_orderLonely_66 : ab_X rom K cX6_orderLonely 4 0 66 ls [] hp = some (none, hp) := ax_vret dX6_orderLonely_66 (by decide)
theorem tX6_placeDifference : ab_mT[65]? = some (yX6_placeDifference, cX6_placeDifference, 6, 0, 4) := by decide +kernel
theorem mX6_placeDifference {d : Nat} {r0 : Nat} {x1 : Int32} {x2 : Int32} {x3 : Int32} : ab_M rom (d + 1) 65 [.ref r0, .int x1, .int x2, .int x3] hp = ab_X rom (ab_M rom d) cX6_placeDifference 4 0 0 [.ref r0, .int x1, .int x2, .int x3, .null, .null] [] hp := ab_M_eq tX6_placeDifference (Nat.le_of_ble_eq_true rfl)
theorem dX6_placeDifference_0 : decode cX6_placeDifference 0 = .ok (.aload_n 0, 1) := by decide +kernel
theorem sX6_placeDifference_0 : ab_X rom K cX6_placeDifference 4 0 0 (.ref a :: ls) st hp = ab_X rom K cX6_placeDifference 4 0 1 (.ref a :: ls) (.ref a :: st) hp := ax_aload_n dX6_placeDifference_0 rfl rfl
theorem dX6_placeDifference_1 : decode cX6_placeDifference 1 = .ok (.iload_n 1, 1) := by decide +kernel
theorem sX6_placeDifference_1 : ab_X rom K cX6_placeDifference 4 0 1 (v0 :: .int x :: ls) st hp = ab_X rom K cX6_placeDifference 4 0 2 (v0 :: .int x :: ls) (.int x :: st) hp := ax_iload_n dX6_placeDifference_1 rfl rfl
theorem dX6_placeDifference_2 : decode cX6_placeDifference 2 = .ok (.invokevirtual 158, 3) := by decide +kernel
theorem sX6_placeDifference_2_0 : ab_X rom K cX6_placeDifference 4 0 2 ls [w1, .ref a] hp = if ab_iso hp a 4 = true then (K 62 (.ref a :: [w1]) hp).bind (fun o => ab_X rom K cX6_placeDifference 4 0 5 ls (o.1.toList ++ []) o.2) else none := ay_virtual (as := [w1]) (st := []) dX6_placeDifference_2 kc_4_158 rfl rfl (Nat.le_of_ble_eq_true rfl)
theorem sX6_placeDifference_2_1 : ab_X rom K cX6_placeDifference 4 0 2 ls [w1, .ref a, v0] hp = if ab_iso hp a 4 = true then (K 62 (.ref a :: [w1]) hp).bind (fun o => ab_X rom K cX6_placeDifference 4 0 5 ls (o.1.toList ++ [v0]) o.2) else none := ay_virtual (as := [w1]) (st := [v0]) dX6_placeDifference_2 kc_4_158 rfl rfl (Nat.le_of_ble_eq_true rfl)
theorem sX6_placeDifference_2_2 : ab_X rom K cX6_placeDifference 4 0 2 ls [w1, .ref a, v0, v1] hp = if ab_iso hp a 4 = true then (K 62 (.ref a :: [w1]) hp).bind (fun o => ab_X rom K cX6_placeDifference 4 0 5 ls (o.1.toList ++ [v0, v1]) o.2) else none := ay_virtual (as := [w1]) (st := [v0, v1]) dX6_placeDifference_2 kc_4_158 rfl rfl (Nat.le_of_ble_eq_true rfl)
theorem sX6_placeDifference_2_3 : ab_X rom K cX6_placeDifference 4 0 2 ls [w1, .ref a, v0, v1, v2] hp = if ab_iso hp a 4 = true then (K 62 (.ref a :: [w1]) hp).bind (fun o => ab_X rom K cX6_placeDifference 4 0 5 ls (o.1.toList ++ [v0, v1, v2]) o.2) else none := ay_virtual (as := [w1]) (st := [v0, v1, v2]) dX6_placeDifference_2 kc_4_158 rfl rfl (Nat.le_of_ble_eq_true rfl)
theorem dX6_placeDifference_5 : decode cX6_placeDifference 5 = .ok (.istore 4, 2) := by decide +kernel
theorem sX6_placeDifference_5i : ab_X rom K cX6_placeDifference 4 0 5 (v0 :: v1 :: v2 :: .int y :: v4 :: ls) (.int x :: st) hp = ab_X rom K cX6_placeDifference 4 0 7 (v0 :: v1 :: v2 :: .int y :: .int x :: ls) st hp := ax_istore dX6_placeDifference_5 (ax_lt (v := v4) rfl) (ab_nl_c1 (j := 3) (v := .int y) rfl (ab_c1_int _)) rfl rfl
theorem sX6_placeDifference_5r : ab_X rom K cX6_placeDifference 4 0 5 (v0 :: v1 :: v2 :: .ref a2 :: v4 :: ls) (.int x :: st) hp = ab_X rom K cX6_placeDifference 4 0 7 (v0 :: v1 :: v2 :: .ref a2 :: .int x :: ls) st hp := ax_istore dX6_placeDifference_5 (ax_lt (v := v4) rfl) (ab_nl_c1 (j := 3) (v := .ref a2) rfl (ab_c1_ref _)) rfl rfl
theorem sX6_placeDifference_5n : ab_X rom K cX6_placeDifference 4 0 5 (v0 :: v1 :: v2 :: .null :: v4 :: ls) (.int x :: st) hp = ab_X rom K cX6_placeDifference 4 0 7 (v0 :: v1 :: v2 :: .null :: .int x :: ls) st hp := ax_istore dX6_placeDifference_5 (ax_lt (v := v4) rfl) (ab_nl_c1 (j := 3) (v := .null) rfl ab_c1_null) rfl rfl
theorem dX6_placeDifference_7 : decode cX6_placeDifference 7 = .ok (.iload 4, 2) := by decide +kernel
theorem sX6_placeDifference_7 : ab_X rom K cX6_placeDifference 4 0 7 (v0 :: v1 :: v2 :: v3 :: .int x :: ls) st hp = ab_X rom K cX6_placeDifference 4 0 9 (v0 :: v1 :: v2 :: v3 :: .int x :: ls) (.int x :: st) hp := ax_iload dX6_placeDifference_7 rfl rfl
theorem dX6_placeDifference_9 : decode cX6_placeDifference 9 = .ok (.ifCond .ne 9, 3) := by decide +kernel
theorem sX6_placeDifference_9 : ab_X rom K cX6_placeDifference 4 0 9 ls (.int x :: st) hp = if x = 0 then ab_X rom K cX6_placeDifference 4 0 12 ls st hp else ab_X rom K cX6_placeDifference 4 0 18 ls st hp := ax_if_ne dX6_placeDifference_9 (by decide) rfl
theorem dX6_placeDifference_12 : decode cX6_placeDifference 12 = .ok (.aload_n 0, 1) := by decide +kernel
theorem sX6_placeDifference_12 : ab_X rom K cX6_placeDifference 4 0 12 (.ref a :: ls) st hp = ab_X rom K cX6_placeDifference 4 0 13 (.ref a :: ls) (.ref a :: st) hp := ax_aload_n dX6_placeDifference_12 rfl rfl
theorem dX6_placeDifference_13 : decode cX6_placeDifference 13 = .ok (.iconst 0, 1) := by decide +kernel
theorem sX6_placeDifference_13 : ab_X rom K cX6_placeDifference 4 0 13 ls st hp = ab_X rom K cX6_placeDifference 4 0 14 ls (.int 0 :: st) hp := ax_iconst dX6_placeDifference_13 (by decide) rfl
theorem dX6_placeDifference_14 : decode cX6_placeDifference 14 = .ok (.invokestatic 98, 3) := by decide +kernel
theorem sX6_placeDifference_14_0 : ab_X rom K cX6_placeDifference 4 0 14 ls [w2, w1] hp = (K 67 [w1, w2] hp).bind (fun o => ab_X rom K cX6_placeDifference 4 0 17 ls (o.1.toList ++ []) o.2) := ax_static (as := [w1, w2]) (st := []) dX6_placeDifference_14 kc_4_98 rfl rfl (Nat.le_of_ble_eq_true rfl)
theorem sX6_placeDifference_14_1 : ab_X rom K cX6_placeDifference 4 0 14 ls [w2, w1, v0] hp = (K 67 [w1, w2] hp).bind (fun o => ab_X rom K cX6_placeDifference 4 0 17 ls (o.1.toList ++ [v0]) o.2) := ax_static (as := [w1, w2]) (st := [v0]) dX6_placeDifference_14 kc_4_98 rfl rfl (Nat.le_of_ble_eq_true rfl)
theorem sX6_placeDifference_14_2 : ab_X rom K cX6_placeDifference 4 0 14 ls [w2, w1, v0, v1] hp = (K 67 [w1, w2] hp).bind (fun o => ab_X rom K cX6_placeDifference 4 0 17 ls (o.1.toList ++ [v0, v1]) o.2) := ax_static (as := [w1, w2]) (st := [v0, v1]) dX6_placeDifference_14 kc_4_98 rfl rfl (Nat.le_of_ble_eq_true rfl)
theorem sX6_placeDifference_14_3 : ab_X rom K cX6_placeDifference 4 0 14 ls [w2, w1, v0, v1, v2] hp = (K 67 [w1, w2] hp).bind (fun o => ab_X rom K cX6_placeDifference 4 0 17 ls (o.1.toList ++ [v0, v1, v2]) o.2) := ax_static (as := [w1, w2]) (st := [v0, v1, v2]) dX6_placeDifference_14 kc_4_98 rfl rfl (Nat.le_of_ble_eq_true rfl)
theorem dX6_placeDifference_17 : decode cX6_placeDifference 17 = .ok (.return_, 1) := by decide +kernel
theorem sX6_placeDifference_17 : ab_X rom K cX6_placeDifference 4 0 17 ls [] hp = some (none, hp) := ax_vret dX6_placeDifference_17 (by decide)
theorem dX6_placeDifference_18 : decode cX6_placeDifference 18 = .ok (.iload_n 3, 1) := by decide +kernel
theorem sX6_placeDifference_18 : ab_X rom K cX6_placeDifference 4 0 18 (v0 :: v1 :: v2 :: .int x :: ls) st hp = ab_X rom K cX6_placeDifference 4 0 19 (v0 :: v1 :: v2 :: .int x :: ls) (.int x :: st) hp := ax_iload_n dX6_placeDifference_18 rfl rfl
theorem dX6_placeDifference_19 : decode cX6_placeDifference 19 = .ok (.bipush 40, 2) := by decide +kernel
theorem sX6_placeDifference_19 : ab_X rom K cX6_placeDifference 4 0 19 ls st hp = ab_X rom K cX6_placeDifference 4 0 21 ls (.int 40 :: st) hp := ax_bipush dX6_placeDifference_19 (by decide) rfl
theorem dX6_placeDifference_21 : decode cX6_placeDifference 21 = .ok (.if_icmp .le 4, 3) := by decide +kernel
theorem sX6_placeDifference_21 : ab_X rom K cX6_placeDifference 4 0 21 ls (.int y :: .int x :: st) hp = if y < x then ab_X rom K cX6_placeDifference 4 0 24 ls st hp else ab_X rom K cX6_placeDifference 4 0 25 ls st hp := ax_icmp_le dX6_placeDifference_21 (by decide) rfl
theorem dX6_placeDifference_24 : decode cX6_placeDifference 24 = .ok (.return_, 1) := by decide +kernel
theorem sX6_placeDifference_24 : ab_X rom K cX6_placeDifference 4 0 24 ls [] hp = some (none, hp) := ax_vret dX6_placeDifference_24 (by decide)
theorem dX6_placeDifference_25 : decode cX6_placeDifference 25 = .ok (.iconst 0, 1) := by decide +kernel
theorem sX6_placeDifference_25 : ab_X rom K cX6_placeDifference 4 0 25 ls st hp = ab_X rom K cX6_placeDifference 4 0 26 ls (.int 0 :: st) hp := ax_iconst dX6_placeDifference_25 (by decide) rfl
theorem dX6_placeDifference_26 : decode cX6_placeDifference 26 = .ok (.istore 5, 2) := by decide +kernel
theorem sX6_placeDifference_26i : ab_X rom K cX6_placeDifference 4 0 26 (v0 :: v1 :: v2 :: v3 :: .int y :: v5 :: ls) (.int x :: st) hp = ab_X rom K cX6_placeDifference 4 0 28 (v0 :: v1 :: v2 :: v3 :: .int y :: .int x :: ls) st hp := ax_istore dX6_placeDifference_26 (ax_lt (v := v5) rfl) (ab_nl_c1 (j := 4) (v := .int y) rfl (ab_c1_int _)) rfl rfl
theorem sX6_placeDifference_26r : ab_X rom K cX6_placeDifference 4 0 26 (v0 :: v1 :: v2 :: v3 :: .ref a2 :: v5 :: ls) (.int x :: st) hp = ab_X rom K cX6_placeDifference 4 0 28 (v0 :: v1 :: v2 :: v3 :: .ref a2 :: .int x :: ls) st hp := ax_istore dX6_placeDifference_26 (ax_lt (v := v5) rfl) (ab_nl_c1 (j := 4) (v := .ref a2) rfl (ab_c1_ref _)) rfl rfl
theorem sX6_placeDifference_26n : ab_X rom K cX6_placeDifference 4 0 26 (v0 :: v1 :: v2 :: v3 :: .null :: v5 :: ls) (.int x :: st) hp = ab_X rom K cX6_placeDifference 4 0 28 (v0 :: v1 :: v2 :: v3 :: .null :: .int x :: ls) st hp := ax_istore dX6_placeDifference_26 (ax_lt (v := v5) rfl) (ab_nl_c1 (j := 4) (v := .null) rfl ab_c1_null) rfl rfl
theorem dX6_placeDifference_28 : decode cX6_placeDifference 28 = .ok (.iload 5, 2) := by decide +kernel
theorem sX6_placeDifference_28 : ab_X rom K cX6_placeDifference 4 0 28 (v0 :: v1 :: v2 :: v3 :: v4 :: .int x :: ls) st hp = ab_X rom K cX6_placeDifference 4 0 30 (v0 :: v1 :: v2 :: v3 :: v4 :: .int x :: ls) (.int x :: st) hp := ax_iload dX6_placeDifference_28 rfl rfl
theorem dX6_placeDifference_30 : decode cX6_placeDifference 30 = .ok (.aload_n 0, 1) := by decide +kernel
theorem sX6_placeDifference_30 : ab_X rom K cX6_placeDifference 4 0 30 (.ref a :: ls) st hp = ab_X rom K cX6_placeDifference 4 0 31 (.ref a :: ls) (.ref a :: st) hp := ax_aload_n dX6_placeDifference_30 rfl rfl
theorem dX6_placeDifference_31 : decode cX6_placeDifference 31 = .ok (.getfield 60, 3) := by decide +kernel
theorem sX6_placeDifference_31 : ab_X rom K cX6_placeDifference 4 0 31 ls (.ref a :: st) hp = (ab_fld hp a 4 5).bind (fun v => ab_X rom K cX6_placeDifference 4 0 34 ls (v :: st) hp) := ax_getfield dX6_placeDifference_31 kf_4_60 rfl
theorem dX6_placeDifference_34 : decode cX6_placeDifference 34 = .ok (.getfield 64, 3) := by decide +kernel
theorem sX6_placeDifference_34 : ab_X rom K cX6_placeDifference 4 0 34 ls (.ref a :: st) hp = (ab_fld hp a 1 1).bind (fun v => ab_X rom K cX6_placeDifference 4 0 37 ls (v :: st) hp) := ax_getfield dX6_placeDifference_34 kf_4_64 rfl
theorem dX6_placeDifference_37 : decode cX6_placeDifference 37 = .ok (.if_icmp .ge 64, 3) := by decide +kernel
theorem sX6_placeDifference_37 : ab_X rom K cX6_placeDifference 4 0 37 ls (.int y :: .int x :: st) hp = if x < y then ab_X rom K cX6_placeDifference 4 0 40 ls st hp else ab_X rom K cX6_placeDifference 4 0 101 ls st hp := ax_icmp_ge dX6_placeDifference_37 (by decide) rfl
theorem dX6_placeDifference_40 : decode cX6_placeDifference 40 = .ok (.aload_n 0, 1) := by decide +kernel
theorem sX6_placeDifference_40 : ab_X rom K cX6_placeDifference 4 0 40 (.ref a :: ls) st hp = ab_X rom K cX6_placeDifference 4 0 41 (.ref a :: ls) (.ref a :: st) hp := ax_aload_n dX6_placeDifference_40 rfl rfl
theorem dX6_placeDifference_41 : decode cX6_placeDifference 41 = .ok (.getfield 57, 3) := by decide +kernel
theorem sX6_placeDifference_41 : ab_X rom K cX6_placeDifference 4 0 41 ls (.ref a :: st) hp = (ab_fld hp a 4 14).bind (fun v => ab_X rom K cX6_placeDifference 4 0 44 ls (v :: st) hp) := ax_getfield dX6_placeDifference_41 kf_4_57 rfl
theorem dX6_placeDifference_44 : decode cX6_placeDifference 44 = .ok (.ifCond .ne 57, 3) := by decide +kernel
theorem sX6_placeDifference_44 : ab_X rom K cX6_placeDifference 4 0 44 ls (.int x :: st) hp = if x = 0 then ab_X rom K cX6_placeDifference 4 0 47 ls st hp else ab_X rom K cX6_placeDifference 4 0 101 ls st hp := ax_if_ne dX6_placeDifference_44 (by decide) rfl
theorem dX6_placeDifference_47 : decode cX6_placeDifference 47 = .ok (.aload_n 0, 1) := by decide +kernel
theorem sX6_placeDifference_47 : ab_X rom K cX6_placeDifference 4 0 47 (.ref a :: ls) st hp = ab_X rom K cX6_placeDifference 4 0 48 (.ref a :: ls) (.ref a :: st) hp := ax_aload_n dX6_placeDifference_47 rfl rfl
theorem dX6_placeDifference_48 : decode cX6_placeDifference 48 = .ok (.getfield 18, 3) := by decide +kernel
theorem sX6_placeDifference_48 : ab_X rom K cX6_placeDifference 4 0 48 ls (.ref a :: st) hp = (ab_fld hp a 4 1).bind (fun v => ab_X rom K cX6_placeDifference 4 0 51 ls (v :: st) hp) := ax_getfield dX6_placeDifference_48 kf_4_18 rfl
theorem dX6_placeDifference_51 : decode cX6_placeDifference 51 = .ok (.aload_n 0, 1) := by decide +kernel
theorem sX6_placeDifference_51 : ab_X rom K cX6_placeDifference 4 0 51 (.ref a :: ls) st hp = ab_X rom K cX6_placeDifference 4 0 52 (.ref a :: ls) (.ref a :: st) hp := ax_aload_n dX6_placeDifference_51 rfl rfl
theorem dX6_placeDifference_52 : decode cX6_placeDifference 52 = .ok (.getfield 60, 3) := by decide +kernel
theorem sX6_placeDifference_52 : ab_X rom K cX6_placeDifference 4 0 52 ls (.ref a :: st) hp = (ab_fld hp a 4 5).bind (fun v => ab_X rom K cX6_placeDifference 4 0 55 ls (v :: st) hp) := ax_getfield dX6_placeDifference_52 kf_4_60 rfl
theorem dX6_placeDifference_55 : decode cX6_placeDifference 55 = .ok (.getfield 161, 3) := by decide +kernel
theorem sX6_placeDifference_55 : ab_X rom K cX6_placeDifference 4 0 55 ls (.ref a :: st) hp = (ab_fld hp a 1 2).bind (fun v => ab_X rom K cX6_placeDifference 4 0 58 ls (v :: st) hp) := ax_getfield dX6_placeDifference_55 kf_4_161 rfl
theorem dX6_placeDifference_58 : decode cX6_placeDifference 58 = .ok (.iload 5, 2) := by decide +kernel
theorem sX6_placeDifference_58 : ab_X rom K cX6_placeDifference 4 0 58 (v0 :: v1 :: v2 :: v3 :: v4 :: .int x :: ls) st hp = ab_X rom K cX6_placeDifference 4 0 60 (v0 :: v1 :: v2 :: v3 :: v4 :: .int x :: ls) (.int x :: st) hp := ax_iload dX6_placeDifference_58 rfl rfl
theorem dX6_placeDifference_60 : decode cX6_placeDifference 60 = .ok (.iaload, 1) := by decide +kernel
theorem sX6_placeDifference_60 : ab_X rom K cX6_placeDifference 4 0 60 ls (.int x :: .ref a :: st) hp = (ab_ard rom 0 hp a x).bind (fun v => ab_X rom K cX6_placeDifference 4 0 61 ls (.int v :: st) hp) := ax_iaload dX6_placeDifference_60 rfl
theorem dX6_placeDifference_61 : decode cX6_placeDifference 61 = .ok (.iaload, 1) := by decide +kernel
theorem sX6_placeDifference_61 : ab_X rom K cX6_placeDifference 4 0 61 ls (.int x :: .ref a :: st) hp = (ab_ard rom 0 hp a x).bind (fun v => ab_X rom K cX6_placeDifference 4 0 62 ls (.int v :: st) hp) := ax_iaload dX6_placeDifference_61 rfl
theorem dX6_placeDifference_62 : decode cX6_placeDifference 62 = .ok (.iconst (-1), 1) := by decide +kernel
theorem sX6_placeDifference_62 : ab_X rom K cX6_placeDifference 4 0 62 ls st hp = ab_X rom K cX6_placeDifference 4 0 63 ls (.int (-1) :: st) hp := ax_iconst dX6_placeDifference_62 (by decide) rfl
theorem dX6_placeDifference_63 : decode cX6_placeDifference 63 = .ok (.if_icmp .eq 22, 3) := by decide +kernel
theorem sX6_placeDifference_63 : ab_X rom K cX6_placeDifference 4 0 63 ls (.int y :: .int x :: st) hp = if x = y then ab_X rom K cX6_placeDifference 4 0 85 ls st hp else ab_X rom K cX6_placeDifference 4 0 66 ls st hp := ax_icmp_eq dX6_placeDifference_63 (by decide) rfl
theorem dX6_placeDifference_66 : decode cX6_placeDifference 66 = .ok (.aload_n 0, 1) := by decide +kernel
theorem sX6_placeDifference_66 : ab_X rom K cX6_placeDifference 4 0 66 (.ref a :: ls) st hp = ab_X rom K cX6_placeDifference 4 0 67 (.ref a :: ls) (.ref a :: st) hp := ax_aload_n dX6_placeDifference_66 rfl rfl
theorem dX6_placeDifference_67 : decode cX6_placeDifference 67 = .ok (.getfield 18, 3) := by decide +kernel
theorem sX6_placeDifference_67 : ab_X rom K cX6_placeDifference 4 0 67 ls (.ref a :: st) hp = (ab_fld hp a 4 1).bind (fun v => ab_X rom K cX6_placeDifference 4 0 70 ls (v :: st) hp) := ax_getfield dX6_placeDifference_67 kf_4_18 rfl
theorem dX6_placeDifference_70 : decode cX6_placeDifference 70 = .ok (.aload_n 0, 1) := by decide +kernel
theorem sX6_placeDifference_70 : ab_X rom K cX6_placeDifference 4 0 70 (.ref a :: ls) st hp = ab_X rom K cX6_placeDifference 4 0 71 (.ref a :: ls) (.ref a :: st) hp := ax_aload_n dX6_placeDifference_70 rfl rfl
theorem dX6_placeDifference_71 : decode cX6_placeDifference 71 = .ok (.getfield 60, 3) := by decide +kernel
theorem sX6_placeDifference_71 : ab_X rom K cX6_placeDifference 4 0 71 ls (.ref a :: st) hp = (ab_fld hp a 4 5).bind (fun v => ab_X rom K cX6_placeDifference 4 0 74 ls (v :: st) hp) := ax_getfield dX6_placeDifference_71 kf_4_60 rfl
theorem dX6_placeDifference_74 : decode cX6_placeDifference 74 = .ok (.getfield 164, 3) := by decide +kernel
theorem sX6_placeDifference_74 : ab_X rom K cX6_placeDifference 4 0 74 ls (.ref a :: st) hp = (ab_fld hp a 1 3).bind (fun v => ab_X rom K cX6_placeDifference 4 0 77 ls (v :: st) hp) := ax_getfield dX6_placeDifference_74 kf_4_164 rfl
theorem dX6_placeDifference_77 : decode cX6_placeDifference 77 = .ok (.iload 5, 2) := by decide +kernel
theorem sX6_placeDifference_77 : ab_X rom K cX6_placeDifference 4 0 77 (v0 :: v1 :: v2 :: v3 :: v4 :: .int x :: ls) st hp = ab_X rom K cX6_placeDifference 4 0 79 (v0 :: v1 :: v2 :: v3 :: v4 :: .int x :: ls) (.int x :: st) hp := ax_iload dX6_placeDifference_77 rfl rfl
theorem dX6_placeDifference_79 : decode cX6_placeDifference 79 = .ok (.iaload, 1) := by decide +kernel
theorem sX6_placeDifference_79 : ab_X rom K cX6_placeDifference 4 0 79 ls (.int x :: .ref a :: st) hp = (ab_ard rom 0 hp a x).bind (fun v => ab_X rom K cX6_placeDifference 4 0 80 ls (.int v :: st) hp) := ax_iaload dX6_placeDifference_79 rfl
theorem dX6_placeDifference_80 : decode cX6_placeDifference 80 = .ok (.iaload, 1) := by decide +kernel
theorem sX6_placeDifference_80 : ab_X rom K cX6_placeDifference 4 0 80 ls (.int x :: .ref a :: st) hp = (ab_ard rom 0 hp a x).bind (fun v => ab_X rom K cX6_placeDifference 4 0 81 ls (.int v :: st) hp) := ax_iaload dX6_placeDifference_80 rfl
theorem dX6_placeDifference_81 : decode cX6_placeDifference 81 = .ok (.iconst (-1), 1) := by decide +kernel
theorem sX6_placeDifference_81 : ab_X rom K cX6_placeDifference 4 0 81 ls st hp = ab_X rom K cX6_placeDifference 4 0 82 ls (.int (-1) :: st) hp := ax_iconst dX6_placeDifference_81 (by decide) rfl
theorem dX6_placeDifference_82 : decode cX6_placeDifference 82 = .ok (.if_icmp .ne 13, 3) := by decide +kernel
theorem sX6_placeDifference_82 : ab_X rom K cX6_placeDifference 4 0 82 ls (.int y :: .int x :: st) hp = if x = y then ab_X rom K cX6_placeDifference 4 0 85 ls st hp else ab_X rom K cX6_placeDifference 4 0 95 ls st hp := ax_icmp_ne dX6_placeDifference_82 (by decide) rfl
theorem dX6_placeDifference_85 : decode cX6_placeDifference 85 = .ok (.aload_n 0, 1) := by decide +kernel
theorem sX6_placeDifference_85 : ab_X rom K cX6_placeDifference 4 0 85 (.ref a :: ls) st hp = ab_X rom K cX6_placeDifference 4 0 86 (.ref a :: ls) (.ref a :: st) hp := ax_aload_n dX6_placeDifference_85 rfl rfl
theorem dX6_placeDifference_86 : decode cX6_placeDifference 86 = .ok (.iload 5, 2) := by decide +kernel
theorem sX6_placeDifference_86 : ab_X rom K cX6_placeDifference 4 0 86 (v0 :: v1 :: v2 :: v3 :: v4 :: .int x :: ls) st hp = ab_X rom K cX6_placeDifference 4 0 88 (v0 :: v1 :: v2 :: v3 :: v4 :: .int x :: ls) (.int x :: st) hp := ax_iload dX6_placeDifference_86 rfl rfl
theorem dX6_placeDifference_88 : decode cX6_placeDifference 88 = .ok (.iload 4, 2) := by decide +kernel
theorem sX6_placeDifference_88 : ab_X rom K cX6_placeDifference 4 0 88 (v0 :: v1 :: v2 :: v3 :: .int x :: ls) st hp = ab_X rom K cX6_placeDifference 4 0 90 (v0 :: v1 :: v2 :: v3 :: .int x :: ls) (.int x :: st) hp := ax_iload dX6_placeDifference_88 rfl rfl
theorem dX6_placeDifference_90 : decode cX6_placeDifference 90 = .ok (.iload_n 2, 1) := by decide +kernel
theorem sX6_placeDifference_90 : ab_X rom K cX6_placeDifference 4 0 90 (v0 :: v1 :: .int x :: ls) st hp = ab_X rom K cX6_placeDifference 4 0 91 (v0 :: v1 :: .int x :: ls) (.int x :: st) hp := ax_iload_n dX6_placeDifference_90 rfl rfl
theorem dX6_placeDifference_91 : decode cX6_placeDifference 91 = .ok (.iload_n 3, 1) := by decide +kernel
theorem sX6_placeDifference_91 : ab_X rom K cX6_placeDifference 4 0 91 (v0 :: v1 :: v2 :: .int x :: ls) st hp = ab_X rom K cX6_placeDifference 4 0 92 (v0 :: v1 :: v2 :: .int x :: ls) (.int x :: st) hp := ax_iload_n dX6_placeDifference_91 rfl rfl
theorem dX6_placeDifference_92 : decode cX6_placeDifference 92 = .ok (.invokestatic 167, 3) := by decide +kernel
theorem sX6_placeDifference_92_0 : ab_X rom K cX6_placeDifference 4 0 92 ls [w5, w4, w3, w2, w1] hp = (K 66 [w1, w2, w3, w4, w5] hp).bind (fun o => ab_X rom K cX6_placeDifference 4 0 95 ls (o.1.toList ++ []) o.2) := ax_static (as := [w1, w2, w3, w4, w5]) (st := []) dX6_placeDifference_92 kc_4_167 rfl rfl (Nat.le_of_ble_eq_true rfl)
theorem sX6_placeDifference_92_1 : ab_X rom K cX6_placeDifference 4 0 92 ls [w5, w4, w3, w2, w1, v0] hp = (K 66 [w1, w2, w3, w4, w5] hp).bind (fun o => ab_X rom K cX6_placeDifference 4 0 95 ls (o.1.toList ++ [v0]) o.2) := ax_static (as := [w1, w2, w3, w4, w5]) (st := [v0]) dX6_placeDifference_92 kc_4_167 rfl rfl (Nat.le_of_ble_eq_true rfl)
theorem sX6_placeDifference_92_2 : ab_X rom K cX6_placeDifference 4 0 92 ls [w5, w4, w3, w2, w1, v0, v1] hp = (K 66 [w1, w2, w3, w4, w5] hp).bind (fun o => ab_X rom K cX6_placeDifference 4 0 95 ls (o.1.toList ++ [v0, v1]) o.2) := ax_static (as := [w1, w2, w3, w4, w5]) (st := [v0, v1]) dX6_placeDifference_92 kc_4_167 rfl rfl (Nat.le_of_ble_eq_true rfl)
theorem sX6_placeDifference_92_3 : ab_X rom K cX6_placeDifference 4 0 92 ls [w5, w4, w3, w2, w1, v0, v1, v2] hp = (K 66 [w1, w2, w3, w4, w5] hp).bind (fun o => ab_X rom K cX6_placeDifference 4 0 95 ls (o.1.toList ++ [v0, v1, v2]) o.2) := ax_static (as := [w1, w2, w3, w4, w5]) (st := [v0, v1, v2]) dX6_placeDifference_92 kc_4_167 rfl rfl (Nat.le_of_ble_eq_true rfl)
theorem dX6_placeDifference_95 : decode cX6_placeDifference 95 = .ok (.iinc 5 1, 3) := by decide +kernel
theorem sX6_placeDifference_95i : ab_X rom K cX6_placeDifference 4 0 95 (v0 :: v1 :: v2 :: v3 :: .int y :: .int x :: ls) st hp = ab_X rom K cX6_placeDifference 4 0 98 (v0 :: v1 :: v2 :: v3 :: .int y :: .int (x + 1) :: ls) st hp := ax_iinc dX6_placeDifference_95 rfl (ab_nl_c1 (j := 4) (v := .int y) rfl (ab_c1_int _)) (by decide) rfl rfl
theorem sX6_placeDifference_95r : ab_X rom K cX6_placeDifference 4 0 95 (v0 :: v1 :: v2 :: v3 :: .ref a2 :: .int x :: ls) st hp = ab_X rom K cX6_placeDifference 4 0 98 (v0 :: v1 :: v2 :: v3 :: .ref a2 :: .int (x + 1) :: ls) st hp := ax_iinc dX6_placeDifference_95 rfl (ab_nl_c1 (j := 4) (v := .ref a2) rfl (ab_c1_ref _)) (by decide) rfl rfl
theorem sX6_placeDifference_95n : ab_X rom K cX6_placeDifference 4 0 95 (v0 :: v1 :: v2 :: v3 :: .null :: .int x :: ls) st hp = ab_X rom K cX6_placeDifference 4 0 98 (v0 :: v1 :: v2 :: v3 :: .null :: .int (x + 1) :: ls) st hp := ax_iinc dX6_placeDifference_95 rfl (ab_nl_c1 (j := 4) (v := .null) rfl ab_c1_null) (by decide) rfl rfl
theorem dX6_placeDifference_98 : decode cX6_placeDifference 98 = .ok (.goto (-70), 3) := by decide +kernel
theorem sX6_placeDifference_98 : ab_X rom K cX6_placeDifference 4 0 98 ls st hp = ab_X rom K cX6_placeDifference 4 0 28 ls st hp := ax_goto dX6_placeDifference_98 (by decide)
theorem dX6_placeDifference_101 : decode cX6_placeDifference 101 = .ok (.iload_n 2, 1) := by decide +kernel
theorem sX6_placeDifference_101 : ab_X rom K cX6_placeDifference 4 0 101 (v0 :: v1 :: .int x :: ls) st hp = ab_X rom K cX6_placeDifference 4 0 102 (v0 :: v1 :: .int x :: ls) (.int x :: st) hp := ax_iload_n dX6_placeDifference_101 rfl rfl
theorem dX6_placeDifference_102 : decode cX6_placeDifference 102 = .ok (.ifCond .le 49, 3) := by decide +kernel
theorem sX6_placeDifference_102 : ab_X rom K cX6_placeDifference 4 0 102 ls (.int x :: st) hp = if 0 < x then ab_X rom K cX6_placeDifference 4 0 105 ls st hp else ab_X rom K cX6_placeDifference 4 0 151 ls st hp := ax_if_le dX6_placeDifference_102 (by decide) rfl
theorem dX6_placeDifference_105 : decode cX6_placeDifference 105 = .ok (.aload_n 0, 1) := by decide +kernel
theorem sX6_placeDifference_105 : ab_X rom K cX6_placeDifference 4 0 105 (.ref a :: ls) st hp = ab_X rom K cX6_placeDifference 4 0 106 (.ref a :: ls) (.ref a :: st) hp := ax_aload_n dX6_placeDifference_105 rfl rfl
theorem dX6_placeDifference_106 : decode cX6_placeDifference 106 = .ok (.getfield 57, 3) := by decide +kernel
theorem sX6_placeDifference_106 : ab_X rom K cX6_placeDifference 4 0 106 ls (.ref a :: st) hp = (ab_fld hp a 4 14).bind (fun v => ab_X rom K cX6_placeDifference 4 0 109 ls (v :: st) hp) := ax_getfield dX6_placeDifference_106 kf_4_57 rfl
theorem dX6_placeDifference_109 : decode cX6_placeDifference 109 = .ok (.ifCond .ne 42, 3) := by decide +kernel
theorem sX6_placeDifference_109 : ab_X rom K cX6_placeDifference 4 0 109 ls (.int x :: st) hp = if x = 0 then ab_X rom K cX6_placeDifference 4 0 112 ls st hp else ab_X rom K cX6_placeDifference 4 0 151 ls st hp := ax_if_ne dX6_placeDifference_109 (by decide) rfl
theorem dX6_placeDifference_112 : decode cX6_placeDifference 112 = .ok (.aload_n 0, 1) := by decide +kernel
theorem sX6_placeDifference_112 : ab_X rom K cX6_placeDifference 4 0 112 (.ref a :: ls) st hp = ab_X rom K cX6_placeDifference 4 0 113 (.ref a :: ls) (.ref a :: st) hp := ax_aload_n dX6_placeDifference_112 rfl rfl
theorem dX6_placeDifference_113 : decode cX6_placeDifference 113 = .ok (.getfield 44, 3) := by decide +kernel
theorem sX6_placeDifference_113 : ab_X rom K cX6_placeDifference 4 0 113 ls (.ref a :: st) hp = (ab_fld hp a 4 10).bind (fun v => ab_X rom K cX6_placeDifference 4 0 116 ls (v :: st) hp) := ax_getfield dX6_placeDifference_113 kf_4_44 rfl
theorem dX6_placeDifference_116 : decode cX6_placeDifference 116 = .ok (.istore 5, 2) := by decide +kernel
theorem sX6_placeDifference_116i : ab_X rom K cX6_placeDifference 4 0 116 (v0 :: v1 :: v2 :: v3 :: .int y :: v5 :: ls) (.int x :: st) hp = ab_X rom K cX6_placeDifference 4 0 118 (v0 :: v1 :: v2 :: v3 :: .int y :: .int x :: ls) st hp := ax_istore dX6_placeDifference_116 (ax_lt (v := v5) rfl) (ab_nl_c1 (j := 4) (v := .int y) rfl (ab_c1_int _)) rfl rfl
theorem sX6_placeDifference_116r : ab_X rom K cX6_placeDifference 4 0 116 (v0 :: v1 :: v2 :: v3 :: .ref a2 :: v5 :: ls) (.int x :: st) hp = ab_X rom K cX6_placeDifference 4 0 118 (v0 :: v1 :: v2 :: v3 :: .ref a2 :: .int x :: ls) st hp := ax_istore dX6_placeDifference_116 (ax_lt (v := v5) rfl) (ab_nl_c1 (j := 4) (v := .ref a2) rfl (ab_c1_ref _)) rfl rfl
theorem sX6_placeDifference_116n : ab_X rom K cX6_placeDifference 4 0 116 (v0 :: v1 :: v2 :: v3 :: .null :: v5 :: ls) (.int x :: st) hp = ab_X rom K cX6_placeDifference 4 0 118 (v0 :: v1 :: v2 :: v3 :: .null :: .int x :: ls) st hp := ax_istore dX6_placeDifference_116 (ax_lt (v := v5) rfl) (ab_nl_c1 (j := 4) (v := .null) rfl ab_c1_null) rfl rfl
theorem dX6_placeDifference_118 : decode cX6_placeDifference 118 = .ok (.aload_n 0, 1) := by decide +kernel
theorem sX6_placeDifference_118 : ab_X rom K cX6_placeDifference 4 0 118 (.ref a :: ls) st hp = ab_X rom K cX6_placeDifference 4 0 119 (.ref a :: ls) (.ref a :: st) hp := ax_aload_n dX6_placeDifference_118 rfl rfl
theorem dX6_placeDifference_119 : decode cX6_placeDifference 119 = .ok (.dup, 1) := by decide +kernel
theorem sX6_placeDifference_119i : ab_X rom K cX6_placeDifference 4 0 119 ls (.int x :: st) hp = ab_X rom K cX6_placeDifference 4 0 120 ls (.int x :: .int x :: st) hp := ax_dup dX6_placeDifference_119 rfl (ab_c1_int _)
theorem sX6_placeDifference_119r : ab_X rom K cX6_placeDifference 4 0 119 ls (.ref a :: st) hp = ab_X rom K cX6_placeDifference 4 0 120 ls (.ref a :: .ref a :: st) hp := ax_dup dX6_placeDifference_119 rfl (ab_c1_ref _)
theorem dX6_placeDifference_120 : decode cX6_placeDifference 120 = .ok (.getfield 44, 3) := by decide +kernel
theorem sX6_placeDifference_120 : ab_X rom K cX6_placeDifference 4 0 120 ls (.ref a :: st) hp = (ab_fld hp a 4 10).bind (fun v => ab_X rom K cX6_placeDifference 4 0 123 ls (v :: st) hp) := ax_getfield dX6_placeDifference_120 kf_4_44 rfl
theorem dX6_placeDifference_123 : decode cX6_placeDifference 123 = .ok (.iconst 1, 1) := by decide +kernel
theorem sX6_placeDifference_123 : ab_X rom K cX6_placeDifference 4 0 123 ls st hp = ab_X rom K cX6_placeDifference 4 0 124 ls (.int 1 :: st) hp := ax_iconst dX6_placeDifference_123 (by decide) rfl
theorem dX6_placeDifference_124 : decode cX6_placeDifference 124 = .ok (.iload 4, 2) := by decide +kernel
theorem sX6_placeDifference_124 : ab_X rom K cX6_placeDifference 4 0 124 (v0 :: v1 :: v2 :: v3 :: .int x :: ls) st hp = ab_X rom K cX6_placeDifference 4 0 126 (v0 :: v1 :: v2 :: v3 :: .int x :: ls) (.int x :: st) hp := ax_iload dX6_placeDifference_124 rfl rfl
theorem dX6_placeDifference_126 : decode cX6_placeDifference 126 = .ok (.ishl, 1) := by decide +kernel
theorem sX6_placeDifference_126 : ab_X rom K cX6_placeDifference 4 0 126 ls (.int y :: .int x :: st) hp = ab_X rom K cX6_placeDifference 4 0 127 ls (.int (x <<< (y &&& 31)) :: st) hp := ax_ishl dX6_placeDifference_126 rfl
theorem dX6_placeDifference_127 : decode cX6_placeDifference 127 = .ok (.ior, 1) := by decide +kernel
theorem sX6_placeDifference_127 : ab_X rom K cX6_placeDifference 4 0 127 ls (.int y :: .int x :: st) hp = ab_X rom K cX6_placeDifference 4 0 128 ls (.int (x ||| y) :: st) hp := ax_ior dX6_placeDifference_127 rfl
theorem dX6_placeDifference_128 : decode cX6_placeDifference 128 = .ok (.putfield 44, 3) := by decide +kernel
theorem sX6_placeDifference_128 : ab_X rom K cX6_placeDifference 4 0 128 ls (.int x :: .ref a :: st) hp = (ab_fpt hp a 4 10 (.int x)).bind (fun hp' => ab_X rom K cX6_placeDifference 4 0 131 ls st hp') := ax_putfield dX6_placeDifference_128 kf_4_44 rfl (Or.inl rfl) rfl
theorem dX6_placeDifference_131 : decode cX6_placeDifference 131 = .ok (.aload_n 0, 1) := by decide +kernel
theorem sX6_placeDifference_131 : ab_X rom K cX6_placeDifference 4 0 131 (.ref a :: ls) st hp = ab_X rom K cX6_placeDifference 4 0 132 (.ref a :: ls) (.ref a :: st) hp := ax_aload_n dX6_placeDifference_131 rfl rfl
theorem dX6_placeDifference_132 : decode cX6_placeDifference 132 = .ok (.iload 4, 2) := by decide +kernel
theorem sX6_placeDifference_132 : ab_X rom K cX6_placeDifference 4 0 132 (v0 :: v1 :: v2 :: v3 :: .int x :: ls) st hp = ab_X rom K cX6_placeDifference 4 0 134 (v0 :: v1 :: v2 :: v3 :: .int x :: ls) (.int x :: st) hp := ax_iload dX6_placeDifference_132 rfl rfl
theorem dX6_placeDifference_134 : decode cX6_placeDifference 134 = .ok (.iconst 1, 1) := by decide +kernel
theorem sX6_placeDifference_134 : ab_X rom K cX6_placeDifference 4 0 134 ls st hp = ab_X rom K cX6_placeDifference 4 0 135 ls (.int 1 :: st) hp := ax_iconst dX6_placeDifference_134 (by decide) rfl
theorem dX6_placeDifference_135 : decode cX6_placeDifference 135 = .ok (.isub, 1) := by decide +kernel
theorem sX6_placeDifference_135 : ab_X rom K cX6_placeDifference 4 0 135 ls (.int y :: .int x :: st) hp = ab_X rom K cX6_placeDifference 4 0 136 ls (.int (x - y) :: st) hp := ax_isub dX6_placeDifference_135 rfl
theorem dX6_placeDifference_136 : decode cX6_placeDifference 136 = .ok (.iload_n 2, 1) := by decide +kernel
theorem sX6_placeDifference_136 : ab_X rom K cX6_placeDifference 4 0 136 (v0 :: v1 :: .int x :: ls) st hp = ab_X rom K cX6_placeDifference 4 0 137 (v0 :: v1 :: .int x :: ls) (.int x :: st) hp := ax_iload_n dX6_placeDifference_136 rfl rfl
theorem dX6_placeDifference_137 : decode cX6_placeDifference 137 = .ok (.iconst 1, 1) := by decide +kernel
theorem sX6_placeDifference_137 : ab_X rom K cX6_placeDifference 4 0 137 ls st hp = ab_X rom K cX6_placeDifference 4 0 138 ls (.int 1 :: st) hp := ax_iconst dX6_placeDifference_137 (by decide) rfl
theorem dX6_placeDifference_138 : decode cX6_placeDifference 138 = .ok (.isub, 1) := by decide +kernel
theorem sX6_placeDifference_138 : ab_X rom K cX6_placeDifference 4 0 138 ls (.int y :: .int x :: st) hp = ab_X rom K cX6_placeDifference 4 0 139 ls (.int (x - y) :: st) hp := ax_isub dX6_placeDifference_138 rfl
theorem dX6_placeDifference_139 : decode cX6_placeDifference 139 = .ok (.iload_n 3, 1) := by decide +kernel
theorem sX6_placeDifference_139 : ab_X rom K cX6_placeDifference 4 0 139 (v0 :: v1 :: v2 :: .int x :: ls) st hp = ab_X rom K cX6_placeDifference 4 0 140 (v0 :: v1 :: v2 :: .int x :: ls) (.int x :: st) hp := ax_iload_n dX6_placeDifference_139 rfl rfl
theorem dX6_placeDifference_140 : decode cX6_placeDifference 140 = .ok (.iconst 1, 1) := by decide +kernel
theorem sX6_placeDifference_140 : ab_X rom K cX6_placeDifference 4 0 140 ls st hp = ab_X rom K cX6_placeDifference 4 0 141 ls (.int 1 :: st) hp := ax_iconst dX6_placeDifference_140 (by decide) rfl
theorem dX6_placeDifference_141 : decode cX6_placeDifference 141 = .ok (.iadd, 1) := by decide +kernel
theorem sX6_placeDifference_141 : ab_X rom K cX6_placeDifference 4 0 141 ls (.int y :: .int x :: st) hp = ab_X rom K cX6_placeDifference 4 0 142 ls (.int (x + y) :: st) hp := ax_iadd dX6_placeDifference_141 rfl
theorem dX6_placeDifference_142 : decode cX6_placeDifference 142 = .ok (.invokestatic 84, 3) := by decide +kernel
theorem sX6_placeDifference_142_0 : ab_X rom K cX6_placeDifference 4 0 142 ls [w4, w3, w2, w1] hp = (K 65 [w1, w2, w3, w4] hp).bind (fun o => ab_X rom K cX6_placeDifference 4 0 145 ls (o.1.toList ++ []) o.2) := ax_static (as := [w1, w2, w3, w4]) (st := []) dX6_placeDifference_142 kc_4_84 rfl rfl (Nat.le_of_ble_eq_true rfl)
theorem sX6_placeDifference_142_1 : ab_X rom K cX6_placeDifference 4 0 142 ls [w4, w3, w2, w1, v0] hp = (K 65 [w1, w2, w3, w4] hp).bind (fun o => ab_X rom K cX6_placeDifference 4 0 145 ls (o.1.toList ++ [v0]) o.2) := ax_static (as := [w1, w2, w3, w4]) (st := [v0]) dX6_placeDifference_142 kc_4_84 rfl rfl (Nat.le_of_ble_eq_true rfl)
theorem sX6_placeDifference_142_2 : ab_X rom K cX6_placeDifference 4 0 142 ls [w4, w3, w2, w1, v0, v1] hp = (K 65 [w1, w2, w3, w4] hp).bind (fun o => ab_X rom K cX6_placeDifference 4 0 145 ls (o.1.toList ++ [v0, v1]) o.2) := ax_static (as := [w1, w2, w3, w4]) (st := [v0, v1]) dX6_placeDifference_142 kc_4_84 rfl rfl (Nat.le_of_ble_eq_true rfl)
theorem sX6_placeDifference_142_3 : ab_X rom K cX6_placeDifference 4 0 142 ls [w4, w3, w2, w1, v0, v1, v2] hp = (K 65 [w1, w2, w3, w4] hp).bind (fun o => ab_X rom K cX6_placeDifference 4 0 145 ls (o.1.toList ++ [v0, v1, v2]) o.2) := ax_static (as := [w1, w2, w3, w4]) (st := [v0, v1, v2]) dX6_placeDifference_142 kc_4_84 rfl rfl (Nat.le_of_ble_eq_true rfl)
theorem dX6_placeDifference_145 : decode cX6_placeDifference 145 = .ok (.aload_n 0, 1) := by decide +kernel
theorem sX6_placeDifference_145 : ab_X rom K cX6_placeDifference 4 0 145 (.ref a :: ls) st hp = ab_X rom K cX6_placeDifference 4 0 146 (.ref a :: ls) (.ref a :: st) hp := ax_aload_n dX6_placeDifference_145 rfl rfl
theorem dX6_placeDifference_146 : decode cX6_placeDifference 146 = .ok (.iload 5, 2) := by decide +kernel
theorem sX6_placeDifference_146 : ab_X rom K cX6_placeDifference 4 0 146 (v0 :: v1 :: v2 :: v3 :: v4 :: .int x :: ls) st hp = ab_X rom K cX6_placeDifference 4 0 148 (v0 :: v1 :: v2 :: v3 :: v4 :: .int x :: ls) (.int x :: st) hp := ax_iload dX6_placeDifference_146 rfl rfl
theorem dX6_placeDifference_148 : decode cX6_placeDifference 148 = .ok (.putfield 44, 3) := by decide +kernel
theorem sX6_placeDifference_148 : ab_X rom K cX6_placeDifference 4 0 148 ls (.int x :: .ref a :: st) hp = (ab_fpt hp a 4 10 (.int x)).bind (fun hp' => ab_X rom K cX6_placeDifference 4 0 151 ls st hp') := ax_putfield dX6_placeDifference_148 kf_4_44 rfl (Or.inl rfl) rfl
theorem dX6_placeDifference_151 : decode cX6_placeDifference 151 = .ok (.return_, 1) := by decide +kernel
theorem sX6_placeDifference_151 : ab_X rom K cX6_placeDifference 4 0 151 ls [] hp = some (none, hp) := ax_vret dX6_placeDifference_151 (by decide)
theorem tX6_placeOnLine : ab_mT[66]? = some (yX6_placeOnLine, cX6_placeOnLine, 14, 0, 4) := by decide +kernel
theorem mX6_placeOnLine {d : Nat} {r0 : Nat} {x1 : Int32} {x2 : Int32} {x3 : Int32} {x4 : Int32} : ab_M rom (d + 1) 66 [.ref r0, .int x1, .int x2, .int x3, .int x4] hp = ab_X rom (ab_M rom d) cX6_placeOnLine 4 0 0 [.ref r0, .int x1, .int x2, .int x3, .int x4, .null, .null, .null, .null, .null, .null, .null, .null, .null] [] hp := ab_M_eq tX6_placeOnLine (Nat.le_of_ble_eq_true rfl)
theorem dX6_placeOnLine_0 : decode cX6_placeOnLine 0 = .ok (.aload_n 0, 1) := by decide +kernel
theorem sX6_placeOnLine_0 : ab_X rom K cX6_placeOnLine 4 0 0 (.ref a :: ls) st hp = ab_X rom K cX6_placeOnLine 4 0 1 (.ref a :: ls) (.ref a :: st) hp := ax_aload_n dX6_placeOnLine_0 rfl rfl
theorem dX6_placeOnLine_1 : decode cX6_placeOnLine 1 = .ok (.getfield 18, 3) := by decide +kernel
theorem sX6_placeOnLine_1 : ab_X rom K cX6_placeOnLine 4 0 1 ls (.ref a :: st) hp = (ab_fld hp a 4 1).bind (fun v => ab_X rom K cX6_placeOnLine 4 0 4 ls (v :: st) hp) := ax_getfield dX6_placeOnLine_1 kf_4_18 rfl
theorem dX6_placeOnLine_4 : decode cX6_placeOnLine 4 = .ok (.aload_n 0, 1) := by decide +kernel
theorem sX6_placeOnLine_4 : ab_X rom K cX6_placeOnLine 4 0 4 (.ref a :: ls) st hp = ab_X rom K cX6_placeOnLine 4 0 5 (.ref a :: ls) (.ref a :: st) hp := ax_aload_n dX6_placeOnLine_4 rfl rfl
theorem dX6_placeOnLine_5 : decode cX6_placeOnLine 5 = .ok (.getfield 60, 3) := by decide +kernel
theorem sX6_placeOnLine_5 : ab_X rom K cX6_placeOnLine 4 0 5 ls (.ref a :: st) hp = (ab_fld hp a 4 5).bind (fun v => ab_X rom K cX6_placeOnLine 4 0 8 ls (v :: st) hp) := ax_getfield dX6_placeOnLine_5 kf_4_60 rfl
theorem dX6_placeOnLine_8 : decode cX6_placeOnLine 8 = .ok (.getfield 164, 3) := by decide +kernel
theorem sX6_placeOnLine_8 : ab_X rom K cX6_placeOnLine 4 0 8 ls (.ref a :: st) hp = (ab_fld hp a 1 3).bind (fun v => ab_X rom K cX6_placeOnLine 4 0 11 ls (v :: st) hp) := ax_getfield dX6_placeOnLine_8 kf_4_164 rfl
theorem dX6_placeOnLine_11 : decode cX6_placeOnLine 11 = .ok (.iload_n 1, 1) := by decide +kernel
theorem sX6_placeOnLine_11 : ab_X rom K cX6_placeOnLine 4 0 11 (v0 :: .int x :: ls) st hp = ab_X rom K cX6_placeOnLine 4 0 12 (v0 :: .int x :: ls) (.int x :: st) hp := ax_iload_n dX6_placeOnLine_11 rfl rfl
theorem dX6_placeOnLine_12 : decode cX6_placeOnLine 12 = .ok (.iaload, 1) := by decide +kernel
theorem sX6_placeOnLine_12 : ab_X rom K cX6_placeOnLine 4 0 12 ls (.int x :: .ref a :: st) hp = (ab_ard rom 0 hp a x).bind (fun v => ab_X rom K cX6_placeOnLine 4 0 13 ls (.int v :: st) hp) := ax_iaload dX6_placeOnLine_12 rfl
theorem dX6_placeOnLine_13 : decode cX6_placeOnLine 13 = .ok (.iaload, 1) := by decide +kernel
theorem sX6_placeOnLine_13 : ab_X rom K cX6_placeOnLine 4 0 13 ls (.int x :: .ref a :: st) hp = (ab_ard rom 0 hp a x).bind (fun v => ab_X rom K cX6_placeOnLine 4 0 14 ls (.int v :: st) hp) := ax_iaload dX6_placeOnLine_13 rfl
theorem dX6_placeOnLine_14 : decode cX6_placeOnLine 14 = .ok (.iconst (-1), 1) := by decide +kernel
theorem sX6_placeOnLine_14 : ab_X rom K cX6_placeOnLine 4 0 14 ls st hp = ab_X rom K cX6_placeOnLine 4 0 15 ls (.int (-1) :: st) hp := ax_iconst dX6_placeOnLine_14 (by decide) rfl
theorem dX6_placeOnLine_15 : decode cX6_placeOnLine 15 = .ok (.if_icmp .ne 7, 3) := by decide +kernel
theorem sX6_placeOnLine_15 : ab_X rom K cX6_placeOnLine 4 0 15 ls (.int y :: .int x :: st) hp = if x = y then ab_X rom K cX6_placeOnLine 4 0 18 ls st hp else ab_X rom K cX6_placeOnLine 4 0 22 ls st hp := ax_icmp_ne dX6_placeOnLine_15 (by decide) rfl
theorem dX6_placeOnLine_18 : decode cX6_placeOnLine 18 = .ok (.iconst 1, 1) := by decide +kernel
theorem sX6_placeOnLine_18 : ab_X rom K cX6_placeOnLine 4 0 18 ls st hp = ab_X rom K cX6_placeOnLine 4 0 19 ls (.int 1 :: st) hp := ax_iconst dX6_placeOnLine_18 (by decide) rfl
theorem dX6_placeOnLine_19 : decode cX6_placeOnLine 19 = .ok (.goto 4, 3) := by decide +kernel
theorem sX6_placeOnLine_19 : ab_X rom K cX6_placeOnLine 4 0 19 ls st hp = ab_X rom K cX6_placeOnLine 4 0 23 ls st hp := ax_goto dX6_placeOnLine_19 (by decide)
theorem dX6_placeOnLine_22 : decode cX6_placeOnLine 22 = .ok (.iconst 0, 1) := by decide +kernel
theorem sX6_placeOnLine_22 : ab_X rom K cX6_placeOnLine 4 0 22 ls st hp = ab_X rom K cX6_placeOnLine 4 0 23 ls (.int 0 :: st) hp := ax_iconst dX6_placeOnLine_22 (by decide) rfl
theorem dX6_placeOnLine_23 : decode cX6_placeOnLine 23 = .ok (.istore 5, 2) := by decide +kernel
theorem sX6_placeOnLine_23i : ab_X rom K cX6_placeOnLine 4 0 23 (v0 :: v1 :: v2 :: v3 :: .int y :: v5 :: ls) (.int x :: st) hp = ab_X rom K cX6_placeOnLine 4 0 25 (v0 :: v1 :: v2 :: v3 :: .int y :: .int x :: ls) st hp := ax_istore dX6_placeOnLine_23 (ax_lt (v := v5) rfl) (ab_nl_c1 (j := 4) (v := .int y) rfl (ab_c1_int _)) rfl rfl
theorem sX6_placeOnLine_23r : ab_X rom K cX6_placeOnLine 4 0 23 (v0 :: v1 :: v2 :: v3 :: .ref a2 :: v5 :: ls) (.int x :: st) hp = ab_X rom K cX6_placeOnLine 4 0 25 (v0 :: v1 :: v2 :: v3 :: .ref a2 :: .int x :: ls) st hp := ax_istore dX6_placeOnLine_23 (ax_lt (v := v5) rfl) (ab_nl_c1 (j := 4) (v := .ref a2) rfl (ab_c1_ref _)) rfl rfl
theorem sX6_placeOnLine_23n : ab_X rom K cX6_placeOnLine 4 0 23 (v0 :: v1 :: v2 :: v3 :: .null :: v5 :: ls) (.int x :: st) hp = ab_X rom K cX6_placeOnLine 4 0 25 (v0 :: v1 :: v2 :: v3 :: .null :: .int x :: ls) st hp := ax_istore dX6_placeOnLine_23 (ax_lt (v := v5) rfl) (ab_nl_c1 (j := 4) (v := .null) rfl ab_c1_null) rfl rfl
theorem dX6_placeOnLine_25 : decode cX6_placeOnLine 25 = .ok (.iload 5, 2) := by decide +kernel
theorem sX6_placeOnLine_25 : ab_X rom K cX6_placeOnLine 4 0 25 (v0 :: v1 :: v2 :: v3 :: v4 :: .int x :: ls) st hp = ab_X rom K cX6_placeOnLine 4 0 27 (v0 :: v1 :: v2 :: v3 :: v4 :: .int x :: ls) (.int x :: st) hp := ax_iload dX6_placeOnLine_25 rfl rfl
theorem dX6_placeOnLine_27 : decode cX6_placeOnLine 27 = .ok (.ifCond .eq 15, 3) := by decide +kernel
theorem sX6_placeOnLine_27 : ab_X rom K cX6_placeOnLine 4 0 27 ls (.int x :: st) hp = if x = 0 then ab_X rom K cX6_placeOnLine 4 0 42 ls st hp else ab_X rom K cX6_placeOnLine 4 0 30 ls st hp := ax_if_eq dX6_placeOnLine_27 (by decide) rfl
theorem dX6_placeOnLine_30 : decode cX6_placeOnLine 30 = .ok (.aload_n 0, 1) := by decide +kernel
theorem sX6_placeOnLine_30 : ab_X rom K cX6_placeOnLine 4 0 30 (.ref a :: ls) st hp = ab_X rom K cX6_placeOnLine 4 0 31 (.ref a :: ls) (.ref a :: st) hp := ax_aload_n dX6_placeOnLine_30 rfl rfl
theorem dX6_placeOnLine_31 : decode cX6_placeOnLine 31 = .ok (.getfield 60, 3) := by decide +kernel
theorem sX6_placeOnLine_31 : ab_X rom K cX6_placeOnLine 4 0 31 ls (.ref a :: st) hp = (ab_fld hp a 4 5).bind (fun v => ab_X rom K cX6_placeOnLine 4 0 34 ls (v :: st) hp) := ax_getfield dX6_placeOnLine_31 kf_4_60 rfl
theorem dX6_placeOnLine_34 : decode cX6_placeOnLine 34 = .ok (.getfield 161, 3) := by decide +kernel
theorem sX6_placeOnLine_34 : ab_X rom K cX6_placeOnLine 4 0 34 ls (.ref a :: st) hp = (ab_fld hp a 1 2).bind (fun v => ab_X rom K cX6_placeOnLine 4 0 37 ls (v :: st) hp) := ax_getfield dX6_placeOnLine_34 kf_4_161 rfl
theorem dX6_placeOnLine_37 : decode cX6_placeOnLine 37 = .ok (.iload_n 1, 1) := by decide +kernel
theorem sX6_placeOnLine_37 : ab_X rom K cX6_placeOnLine 4 0 37 (v0 :: .int x :: ls) st hp = ab_X rom K cX6_placeOnLine 4 0 38 (v0 :: .int x :: ls) (.int x :: st) hp := ax_iload_n dX6_placeOnLine_37 rfl rfl
theorem dX6_placeOnLine_38 : decode cX6_placeOnLine 38 = .ok (.iaload, 1) := by decide +kernel
theorem sX6_placeOnLine_38 : ab_X rom K cX6_placeOnLine 4 0 38 ls (.int x :: .ref a :: st) hp = (ab_ard rom 0 hp a x).bind (fun v => ab_X rom K cX6_placeOnLine 4 0 39 ls (.int v :: st) hp) := ax_iaload dX6_placeOnLine_38 rfl
theorem dX6_placeOnLine_39 : decode cX6_placeOnLine 39 = .ok (.goto 12, 3) := by decide +kernel
theorem sX6_placeOnLine_39 : ab_X rom K cX6_placeOnLine 4 0 39 ls st hp = ab_X rom K cX6_placeOnLine 4 0 51 ls st hp := ax_goto dX6_placeOnLine_39 (by decide)
theorem dX6_placeOnLine_42 : decode cX6_placeOnLine 42 = .ok (.aload_n 0, 1) := by decide +kernel
theorem sX6_placeOnLine_42 : ab_X rom K cX6_placeOnLine 4 0 42 (.ref a :: ls) st hp = ab_X rom K cX6_placeOnLine 4 0 43 (.ref a :: ls) (.ref a :: st) hp := ax_aload_n dX6_placeOnLine_42 rfl rfl
theorem dX6_placeOnLine_43 : decode cX6_placeOnLine 43 = .ok (.getfield 60, 3) := by decide +kernel
theorem sX6_placeOnLine_43 : ab_X rom K cX6_placeOnLine 4 0 43 ls (.ref a :: st) hp = (ab_fld hp a 4 5).bind (fun v => ab_X rom K cX6_placeOnLine 4 0 46 ls (v :: st) hp) := ax_getfield dX6_placeOnLine_43 kf_4_60 rfl
theorem dX6_placeOnLine_46 : decode cX6_placeOnLine 46 = .ok (.getfield 164, 3) := by decide +kernel
theorem sX6_placeOnLine_46 : ab_X rom K cX6_placeOnLine 4 0 46 ls (.ref a :: st) hp = (ab_fld hp a 1 3).bind (fun v => ab_X rom K cX6_placeOnLine 4 0 49 ls (v :: st) hp) := ax_getfield dX6_placeOnLine_46 kf_4_164 rfl
theorem dX6_placeOnLine_49 : decode cX6_placeOnLine 49 = .ok (.iload_n 1, 1) := by decide +kernel
theorem sX6_placeOnLine_49 : ab_X rom K cX6_placeOnLine 4 0 49 (v0 :: .int x :: ls) st hp = ab_X rom K cX6_placeOnLine 4 0 50 (v0 :: .int x :: ls) (.int x :: st) hp := ax_iload_n dX6_placeOnLine_49 rfl rfl
theorem dX6_placeOnLine_50 : decode cX6_placeOnLine 50 = .ok (.iaload, 1) := by decide +kernel
theorem sX6_placeOnLine_50 : ab_X rom K cX6_placeOnLine 4 0 50 ls (.int x :: .ref a :: st) hp = (ab_ard rom 0 hp a x).bind (fun v => ab_X rom K cX6_placeOnLine 4 0 51 ls (.int v :: st) hp) := ax_iaload dX6_placeOnLine_50 rfl
theorem dX6_placeOnLine_51 : decode cX6_placeOnLine 51 = .ok (.istore 6, 2) := by decide +kernel
theorem sX6_placeOnLine_51i : ab_X rom K cX6_placeOnLine 4 0 51 (v0 :: v1 :: v2 :: v3 :: v4 :: .int y :: v6 :: ls) (.int x :: st) hp = ab_X rom K cX6_placeOnLine 4 0 53 (v0 :: v1 :: v2 :: v3 :: v4 :: .int y :: .int x :: ls) st hp := ax_istore dX6_placeOnLine_51 (ax_lt (v := v6) rfl) (ab_nl_c1 (j := 5) (v := .int y) rfl (ab_c1_int _)) rfl rfl
theorem sX6_placeOnLine_51r : ab_X rom K cX6_placeOnLine 4 0 51 (v0 :: v1 :: v2 :: v3 :: v4 :: .ref a2 :: v6 :: ls) (.int x :: st) hp = ab_X rom K cX6_placeOnLine 4 0 53 (v0 :: v1 :: v2 :: v3 :: v4 :: .ref a2 :: .int x :: ls) st hp := ax_istore dX6_placeOnLine_51 (ax_lt (v := v6) rfl) (ab_nl_c1 (j := 5) (v := .ref a2) rfl (ab_c1_ref _)) rfl rfl
theorem sX6_placeOnLine_51n : ab_X rom K cX6_placeOnLine 4 0 51 (v0 :: v1 :: v2 :: v3 :: v4 :: .null :: v6 :: ls) (.int x :: st) hp = ab_X rom K cX6_placeOnLine 4 0 53 (v0 :: v1 :: v2 :: v3 :: v4 :: .null :: .int x :: ls) st hp := ax_istore dX6_placeOnLine_51 (ax_lt (v := v6) rfl) (ab_nl_c1 (j := 5) (v := .null) rfl ab_c1_null) rfl rfl
theorem dX6_placeOnLine_53 : decode cX6_placeOnLine 53 = .ok (.iload 5, 2) := by decide +kernel
theorem sX6_placeOnLine_53 : ab_X rom K cX6_placeOnLine 4 0 53 (v0 :: v1 :: v2 :: v3 :: v4 :: .int x :: ls) st hp = ab_X rom K cX6_placeOnLine 4 0 55 (v0 :: v1 :: v2 :: v3 :: v4 :: .int x :: ls) (.int x :: st) hp := ax_iload dX6_placeOnLine_53 rfl rfl
theorem dX6_placeOnLine_55 : decode cX6_placeOnLine 55 = .ok (.ifCond .eq 15, 3) := by decide +kernel
theorem sX6_placeOnLine_55 : ab_X rom K cX6_placeOnLine 4 0 55 ls (.int x :: st) hp = if x = 0 then ab_X rom K cX6_placeOnLine 4 0 70 ls st hp else ab_X rom K cX6_placeOnLine 4 0 58 ls st hp := ax_if_eq dX6_placeOnLine_55 (by decide) rfl
theorem dX6_placeOnLine_58 : decode cX6_placeOnLine 58 = .ok (.aload_n 0, 1) := by decide +kernel
theorem sX6_placeOnLine_58 : ab_X rom K cX6_placeOnLine 4 0 58 (.ref a :: ls) st hp = ab_X rom K cX6_placeOnLine 4 0 59 (.ref a :: ls) (.ref a :: st) hp := ax_aload_n dX6_placeOnLine_58 rfl rfl
theorem dX6_placeOnLine_59 : decode cX6_placeOnLine 59 = .ok (.getfield 60, 3) := by decide +kernel
theorem sX6_placeOnLine_59 : ab_X rom K cX6_placeOnLine 4 0 59 ls (.ref a :: st) hp = (ab_fld hp a 4 5).bind (fun v => ab_X rom K cX6_placeOnLine 4 0 62 ls (v :: st) hp) := ax_getfield dX6_placeOnLine_59 kf_4_60 rfl
theorem dX6_placeOnLine_62 : decode cX6_placeOnLine 62 = .ok (.getfield 164, 3) := by decide +kernel
theorem sX6_placeOnLine_62 : ab_X rom K cX6_placeOnLine 4 0 62 ls (.ref a :: st) hp = (ab_fld hp a 1 3).bind (fun v => ab_X rom K cX6_placeOnLine 4 0 65 ls (v :: st) hp) := ax_getfield dX6_placeOnLine_62 kf_4_164 rfl
theorem dX6_placeOnLine_65 : decode cX6_placeOnLine 65 = .ok (.iload_n 1, 1) := by decide +kernel
theorem sX6_placeOnLine_65 : ab_X rom K cX6_placeOnLine 4 0 65 (v0 :: .int x :: ls) st hp = ab_X rom K cX6_placeOnLine 4 0 66 (v0 :: .int x :: ls) (.int x :: st) hp := ax_iload_n dX6_placeOnLine_65 rfl rfl
theorem dX6_placeOnLine_66 : decode cX6_placeOnLine 66 = .ok (.iaload, 1) := by decide +kernel
theorem sX6_placeOnLine_66 : ab_X rom K cX6_placeOnLine 4 0 66 ls (.int x :: .ref a :: st) hp = (ab_ard rom 0 hp a x).bind (fun v => ab_X rom K cX6_placeOnLine 4 0 67 ls (.int v :: st) hp) := ax_iaload dX6_placeOnLine_66 rfl
theorem dX6_placeOnLine_67 : decode cX6_placeOnLine 67 = .ok (.goto 12, 3) := by decide +kernel
theorem sX6_placeOnLine_67 : ab_X rom K cX6_placeOnLine 4 0 67 ls st hp = ab_X rom K cX6_placeOnLine 4 0 79 ls st hp := ax_goto dX6_placeOnLine_67 (by decide)
theorem dX6_placeOnLine_70 : decode cX6_placeOnLine 70 = .ok (.aload_n 0, 1) := by decide +kernel
theorem sX6_placeOnLine_70 : ab_X rom K cX6_placeOnLine 4 0 70 (.ref a :: ls) st hp = ab_X rom K cX6_placeOnLine 4 0 71 (.ref a :: ls) (.ref a :: st) hp := ax_aload_n dX6_placeOnLine_70 rfl rfl
theorem dX6_placeOnLine_71 : decode cX6_placeOnLine 71 = .ok (.getfield 60, 3) := by decide +kernel
theorem sX6_placeOnLine_71 : ab_X rom K cX6_placeOnLine 4 0 71 ls (.ref a :: st) hp = (ab_fld hp a 4 5).bind (fun v => ab_X rom K cX6_placeOnLine 4 0 74 ls (v :: st) hp) := ax_getfield dX6_placeOnLine_71 kf_4_60 rfl
theorem dX6_placeOnLine_74 : decode cX6_placeOnLine 74 = .ok (.getfield 161, 3) := by decide +kernel
theorem sX6_placeOnLine_74 : ab_X rom K cX6_placeOnLine 4 0 74 ls (.ref a :: st) hp = (ab_fld hp a 1 2).bind (fun v => ab_X rom K cX6_placeOnLine 4 0 77 ls (v :: st) hp) := ax_getfield dX6_placeOnLine_74 kf_4_161 rfl
theorem dX6_placeOnLine_77 : decode cX6_placeOnLine 77 = .ok (.iload_n 1, 1) := by decide +kernel
theorem sX6_placeOnLine_77 : ab_X rom K cX6_placeOnLine 4 0 77 (v0 :: .int x :: ls) st hp = ab_X rom K cX6_placeOnLine 4 0 78 (v0 :: .int x :: ls) (.int x :: st) hp := ax_iload_n dX6_placeOnLine_77 rfl rfl
theorem dX6_placeOnLine_78 : decode cX6_placeOnLine 78 = .ok (.iaload, 1) := by decide +kernel
theorem sX6_placeOnLine_78 : ab_X rom K cX6_placeOnLine 4 0 78 ls (.int x :: .ref a :: st) hp = (ab_ard rom 0 hp a x).bind (fun v => ab_X rom K cX6_placeOnLine 4 0 79 ls (.int v :: st) hp) := ax_iaload dX6_placeOnLine_78 rfl
theorem dX6_placeOnLine_79 : decode cX6_placeOnLine 79 = .ok (.istore 7, 2) := by decide +kernel
theorem sX6_placeOnLine_79i : ab_X rom K cX6_placeOnLine 4 0 79 (v0 :: v1 :: v2 :: v3 :: v4 :: v5 :: .int y :: v7 :: ls) (.int x :: st) hp = ab_X rom K cX6_placeOnLine 4 0 81 (v0 :: v1 :: v2 :: v3 :: v4 :: v5 :: .int y :: .int x :: ls) st hp := ax_istore dX6_placeOnLine_79 (ax_lt (v := v7) rfl) (ab_nl_c1 (j := 6) (v := .int y) rfl (ab_c1_int _)) rfl rfl
theorem sX6_placeOnLine_79r : ab_X rom K cX6_placeOnLine 4 0 79 (v0 :: v1 :: v2 :: v3 :: v4 :: v5 :: .ref a2 :: v7 :: ls) (.int x :: st) hp = ab_X rom K cX6_placeOnLine 4 0 81 (v0 :: v1 :: v2 :: v3 :: v4 :: v5 :: .ref a2 :: .int x :: ls) st hp := ax_istore dX6_placeOnLine_79 (ax_lt (v := v7) rfl) (ab_nl_c1 (j := 6) (v := .ref a2) rfl (ab_c1_ref _)) rfl rfl
theorem sX6_placeOnLine_79n : ab_X rom K cX6_placeOnLine 4 0 79 (v0 :: v1 :: v2 :: v3 :: v4 :: v5 :: .null :: v7 :: ls) (.int x :: st) hp = ab_X rom K cX6_placeOnLine 4 0 81 (v0 :: v1 :: v2 :: v3 :: v4 :: v5 :: .null :: .int x :: ls) st hp := ax_istore dX6_placeOnLine_79 (ax_lt (v := v7) rfl) (ab_nl_c1 (j := 6) (v := .null) rfl ab_c1_null) rfl rfl
theorem dX6_placeOnLine_81 : decode cX6_placeOnLine 81 = .ok (.aload_n 0, 1) := by decide +kernel
theorem sX6_placeOnLine_81 : ab_X rom K cX6_placeOnLine 4 0 81 (.ref a :: ls) st hp = ab_X rom K cX6_placeOnLine 4 0 82 (.ref a :: ls) (.ref a :: st) hp := ax_aload_n dX6_placeOnLine_81 rfl rfl
theorem dX6_placeOnLine_82 : decode cX6_placeOnLine 82 = .ok (.getfield 18, 3) := by decide +kernel
theorem sX6_placeOnLine_82 : ab_X rom K cX6_placeOnLine 4 0 82 ls (.ref a :: st) hp = (ab_fld hp a 4 1).bind (fun v => ab_X rom K cX6_placeOnLine 4 0 85 ls (v :: st) hp) := ax_getfield dX6_placeOnLine_82 kf_4_18 rfl
theorem dX6_placeOnLine_85 : decode cX6_placeOnLine 85 = .ok (.iload 6, 2) := by decide +kernel
theorem sX6_placeOnLine_85 : ab_X rom K cX6_placeOnLine 4 0 85 (v0 :: v1 :: v2 :: v3 :: v4 :: v5 :: .int x :: ls) st hp = ab_X rom K cX6_placeOnLine 4 0 87 (v0 :: v1 :: v2 :: v3 :: v4 :: v5 :: .int x :: ls) (.int x :: st) hp := ax_iload dX6_placeOnLine_85 rfl rfl
theorem dX6_placeOnLine_87 : decode cX6_placeOnLine 87 = .ok (.iaload, 1) := by decide +kernel
theorem sX6_placeOnLine_87 : ab_X rom K cX6_placeOnLine 4 0 87 ls (.int x :: .ref a :: st) hp = (ab_ard rom 0 hp a x).bind (fun v => ab_X rom K cX6_placeOnLine 4 0 88 ls (.int v :: st) hp) := ax_iaload dX6_placeOnLine_87 rfl
theorem dX6_placeOnLine_88 : decode cX6_placeOnLine 88 = .ok (.iconst (-1), 1) := by decide +kernel
theorem sX6_placeOnLine_88 : ab_X rom K cX6_placeOnLine 4 0 88 ls st hp = ab_X rom K cX6_placeOnLine 4 0 89 ls (.int (-1) :: st) hp := ax_iconst dX6_placeOnLine_88 (by decide) rfl
theorem dX6_placeOnLine_89 : decode cX6_placeOnLine 89 = .ok (.if_icmp .eq 7, 3) := by decide +kernel
theorem sX6_placeOnLine_89 : ab_X rom K cX6_placeOnLine 4 0 89 ls (.int y :: .int x :: st) hp = if x = y then ab_X rom K cX6_placeOnLine 4 0 96 ls st hp else ab_X rom K cX6_placeOnLine 4 0 92 ls st hp := ax_icmp_eq dX6_placeOnLine_89 (by decide) rfl
theorem dX6_placeOnLine_92 : decode cX6_placeOnLine 92 = .ok (.iconst 1, 1) := by decide +kernel
theorem sX6_placeOnLine_92 : ab_X rom K cX6_placeOnLine 4 0 92 ls st hp = ab_X rom K cX6_placeOnLine 4 0 93 ls (.int 1 :: st) hp := ax_iconst dX6_placeOnLine_92 (by decide) rfl
theorem dX6_placeOnLine_93 : decode cX6_placeOnLine 93 = .ok (.goto 4, 3) := by decide +kernel
theorem sX6_placeOnLine_93 : ab_X rom K cX6_placeOnLine 4 0 93 ls st hp = ab_X rom K cX6_placeOnLine 4 0 97 ls st hp := ax_goto dX6_placeOnLine_93 (by decide)
theorem dX6_placeOnLine_96 : decode cX6_placeOnLine 96 = .ok (.iconst 0, 1) := by decide +kernel
theorem sX6_placeOnLine_96 : ab_X rom K cX6_placeOnLine 4 0 96 ls st hp = ab_X rom K cX6_placeOnLine 4 0 97 ls (.int 0 :: st) hp := ax_iconst dX6_placeOnLine_96 (by decide) rfl
theorem dX6_placeOnLine_97 : decode cX6_placeOnLine 97 = .ok (.istore 8, 2) := by decide +kernel
theorem sX6_placeOnLine_97i : ab_X rom K cX6_placeOnLine 4 0 97 (v0 :: v1 :: v2 :: v3 :: v4 :: v5 :: v6 :: .int y :: v8 :: ls) (.int x :: st) hp = ab_X rom K cX6_placeOnLine 4 0 99 (v0 :: v1 :: v2 :: v3 :: v4 :: v5 :: v6 :: .int y :: .int x :: ls) st hp := ax_istore dX6_placeOnLine_97 (ax_lt (v := v8) rfl) (ab_nl_c1 (j := 7) (v := .int y) rfl (ab_c1_int _)) rfl rfl
theorem sX6_placeOnLine_97r : ab_X rom K cX6_placeOnLine 4 0 97 (v0 :: v1 :: v2 :: v3 :: v4 :: v5 :: v6 :: .ref a2 :: v8 :: ls) (.int x :: st) hp = ab_X rom K cX6_placeOnLine 4 0 99 (v0 :: v1 :: v2 :: v3 :: v4 :: v5 :: v6 :: .ref a2 :: .int x :: ls) st hp := ax_istore dX6_placeOnLine_97 (ax_lt (v := v8) rfl) (ab_nl_c1 (j := 7) (v := .ref a2) rfl (ab_c1_ref _)) rfl rfl
theorem sX6_placeOnLine_97n : ab_X rom K cX6_placeOnLine 4 0 97 (v0 :: v1 :: v2 :: v3 :: v4 :: v5 :: v6 :: .null :: v8 :: ls) (.int x :: st) hp = ab_X rom K cX6_placeOnLine 4 0 99 (v0 :: v1 :: v2 :: v3 :: v4 :: v5 :: v6 :: .null :: .int x :: ls) st hp := ax_istore dX6_placeOnLine_97 (ax_lt (v := v8) rfl) (ab_nl_c1 (j := 7) (v := .null) rfl ab_c1_null) rfl rfl
theorem dX6_placeOnLine_99 : decode cX6_placeOnLine 99 = .ok (.iload 8, 2) := by decide +kernel
theorem sX6_placeOnLine_99 : ab_X rom K cX6_placeOnLine 4 0 99 (v0 :: v1 :: v2 :: v3 :: v4 :: v5 :: v6 :: v7 :: .int x :: ls) st hp = ab_X rom K cX6_placeOnLine 4 0 101 (v0 :: v1 :: v2 :: v3 :: v4 :: v5 :: v6 :: v7 :: .int x :: ls) (.int x :: st) hp := ax_iload dX6_placeOnLine_99 rfl rfl
theorem dX6_placeOnLine_101 : decode cX6_placeOnLine 101 = .ok (.ifCond .eq 13, 3) := by decide +kernel
theorem sX6_placeOnLine_101 : ab_X rom K cX6_placeOnLine 4 0 101 ls (.int x :: st) hp = if x = 0 then ab_X rom K cX6_placeOnLine 4 0 114 ls st hp else ab_X rom K cX6_placeOnLine 4 0 104 ls st hp := ax_if_eq dX6_placeOnLine_101 (by decide) rfl
theorem dX6_placeOnLine_104 : decode cX6_placeOnLine 104 = .ok (.aload_n 0, 1) := by decide +kernel
theorem sX6_placeOnLine_104 : ab_X rom K cX6_placeOnLine 4 0 104 (.ref a :: ls) st hp = ab_X rom K cX6_placeOnLine 4 0 105 (.ref a :: ls) (.ref a :: st) hp := ax_aload_n dX6_placeOnLine_104 rfl rfl
theorem dX6_placeOnLine_105 : decode cX6_placeOnLine 105 = .ok (.getfield 18, 3) := by decide +kernel
theorem sX6_placeOnLine_105 : ab_X rom K cX6_placeOnLine 4 0 105 ls (.ref a :: st) hp = (ab_fld hp a 4 1).bind (fun v => ab_X rom K cX6_placeOnLine 4 0 108 ls (v :: st) hp) := ax_getfield dX6_placeOnLine_105 kf_4_18 rfl
theorem dX6_placeOnLine_108 : decode cX6_placeOnLine 108 = .ok (.iload 6, 2) := by decide +kernel
theorem sX6_placeOnLine_108 : ab_X rom K cX6_placeOnLine 4 0 108 (v0 :: v1 :: v2 :: v3 :: v4 :: v5 :: .int x :: ls) st hp = ab_X rom K cX6_placeOnLine 4 0 110 (v0 :: v1 :: v2 :: v3 :: v4 :: v5 :: .int x :: ls) (.int x :: st) hp := ax_iload dX6_placeOnLine_108 rfl rfl
theorem dX6_placeOnLine_110 : decode cX6_placeOnLine 110 = .ok (.iaload, 1) := by decide +kernel
theorem sX6_placeOnLine_110 : ab_X rom K cX6_placeOnLine 4 0 110 ls (.int x :: .ref a :: st) hp = (ab_ard rom 0 hp a x).bind (fun v => ab_X rom K cX6_placeOnLine 4 0 111 ls (.int v :: st) hp) := ax_iaload dX6_placeOnLine_110 rfl
theorem dX6_placeOnLine_111 : decode cX6_placeOnLine 111 = .ok (.goto 4, 3) := by decide +kernel
theorem sX6_placeOnLine_111 : ab_X rom K cX6_placeOnLine 4 0 111 ls st hp = ab_X rom K cX6_placeOnLine 4 0 115 ls st hp := ax_goto dX6_placeOnLine_111 (by decide)
theorem dX6_placeOnLine_114 : decode cX6_placeOnLine 114 = .ok (.iconst 0, 1) := by decide +kernel
theorem sX6_placeOnLine_114 : ab_X rom K cX6_placeOnLine 4 0 114 ls st hp = ab_X rom K cX6_placeOnLine 4 0 115 ls (.int 0 :: st) hp := ax_iconst dX6_placeOnLine_114 (by decide) rfl
theorem dX6_placeOnLine_115 : decode cX6_placeOnLine 115 = .ok (.istore 9, 2) := by decide +kernel
theorem sX6_placeOnLine_115i : ab_X rom K cX6_placeOnLine 4 0 115 (v0 :: v1 :: v2 :: v3 :: v4 :: v5 :: v6 :: v7 :: .int y :: v9 :: ls) (.int x :: st) hp = ab_X rom K cX6_placeOnLine 4 0 117 (v0 :: v1 :: v2 :: v3 :: v4 :: v5 :: v6 :: v7 :: .int y :: .int x :: ls) st hp := ax_istore dX6_placeOnLine_115 (ax_lt (v := v9) rfl) (ab_nl_c1 (j := 8) (v := .int y) rfl (ab_c1_int _)) rfl rfl
theorem sX6_placeOnLine_115r : ab_X rom K cX6_placeOnLine 4 0 115 (v0 :: v1 :: v2 :: v3 :: v4 :: v5 :: v6 :: v7 :: .ref a2 :: v9 :: ls) (.int x :: st) hp = ab_X rom K cX6_placeOnLine 4 0 117 (v0 :: v1 :: v2 :: v3 :: v4 :: v5 :: v6 :: v7 :: .ref a2 :: .int x :: ls) st hp := ax_istore dX6_placeOnLine_115 (ax_lt (v := v9) rfl) (ab_nl_c1 (j := 8) (v := .ref a2) rfl (ab_c1_ref _)) rfl rfl
theorem sX6_placeOnLine_115n : ab_X rom K cX6_placeOnLine 4 0 115 (v0 :: v1 :: v2 :: v3 :: v4 :: v5 :: v6 :: v7 :: .null :: v9 :: ls) (.int x :: st) hp = ab_X rom K cX6_placeOnLine 4 0 117 (v0 :: v1 :: v2 :: v3 :: v4 :: v5 :: v6 :: v7 :: .null :: .int x :: ls) st hp := ax_istore dX6_placeOnLine_115 (ax_lt (v := v9) rfl) (ab_nl_c1 (j := 8) (v := .null) rfl ab_c1_null) rfl rfl
theorem dX6_placeOnLine_117 : decode cX6_placeOnLine 117 = .ok (.iload 8, 2) := by decide +kernel
theorem sX6_placeOnLine_117 : ab_X rom K cX6_placeOnLine 4 0 117 (v0 :: v1 :: v2 :: v3 :: v4 :: v5 :: v6 :: v7 :: .int x :: ls) st hp = ab_X rom K cX6_placeOnLine 4 0 119 (v0 :: v1 :: v2 :: v3 :: v4 :: v5 :: v6 :: v7 :: .int x :: ls) (.int x :: st) hp := ax_iload dX6_placeOnLine_117 rfl rfl
theorem dX6_placeOnLine_119 : decode cX6_placeOnLine 119 = .ok (.ifCond .eq 13, 3) := by decide +kernel
theorem sX6_placeOnLine_119 : ab_X rom K cX6_placeOnLine 4 0 119 ls (.int x :: st) hp = if x = 0 then ab_X rom K cX6_placeOnLine 4 0 132 ls st hp else ab_X rom K cX6_placeOnLine 4 0 122 ls st hp := ax_if_eq dX6_placeOnLine_119 (by decide) rfl
theorem dX6_placeOnLine_122 : decode cX6_placeOnLine 122 = .ok (.aload_n 0, 1) := by decide +kernel
theorem sX6_placeOnLine_122 : ab_X rom K cX6_placeOnLine 4 0 122 (.ref a :: ls) st hp = ab_X rom K cX6_placeOnLine 4 0 123 (.ref a :: ls) (.ref a :: st) hp := ax_aload_n dX6_placeOnLine_122 rfl rfl
theorem dX6_placeOnLine_123 : decode cX6_placeOnLine 123 = .ok (.getfield 18, 3) := by decide +kernel
theorem sX6_placeOnLine_123 : ab_X rom K cX6_placeOnLine 4 0 123 ls (.ref a :: st) hp = (ab_fld hp a 4 1).bind (fun v => ab_X rom K cX6_placeOnLine 4 0 126 ls (v :: st) hp) := ax_getfield dX6_placeOnLine_123 kf_4_18 rfl
theorem dX6_placeOnLine_126 : decode cX6_placeOnLine 126 = .ok (.iload 6, 2) := by decide +kernel
theorem sX6_placeOnLine_126 : ab_X rom K cX6_placeOnLine 4 0 126 (v0 :: v1 :: v2 :: v3 :: v4 :: v5 :: .int x :: ls) st hp = ab_X rom K cX6_placeOnLine 4 0 128 (v0 :: v1 :: v2 :: v3 :: v4 :: v5 :: .int x :: ls) (.int x :: st) hp := ax_iload dX6_placeOnLine_126 rfl rfl
theorem dX6_placeOnLine_128 : decode cX6_placeOnLine 128 = .ok (.iaload, 1) := by decide +kernel
theorem sX6_placeOnLine_128 : ab_X rom K cX6_placeOnLine 4 0 128 ls (.int x :: .ref a :: st) hp = (ab_ard rom 0 hp a x).bind (fun v => ab_X rom K cX6_placeOnLine 4 0 129 ls (.int v :: st) hp) := ax_iaload dX6_placeOnLine_128 rfl
theorem dX6_placeOnLine_129 : decode cX6_placeOnLine 129 = .ok (.goto 7, 3) := by decide +kernel
theorem sX6_placeOnLine_129 : ab_X rom K cX6_placeOnLine 4 0 129 ls st hp = ab_X rom K cX6_placeOnLine 4 0 136 ls st hp := ax_goto dX6_placeOnLine_129 (by decide)
theorem dX6_placeOnLine_132 : decode cX6_placeOnLine 132 = .ok (.aload_n 0, 1) := by decide +kernel
theorem sX6_placeOnLine_132 : ab_X rom K cX6_placeOnLine 4 0 132 (.ref a :: ls) st hp = ab_X rom K cX6_placeOnLine 4 0 133 (.ref a :: ls) (.ref a :: st) hp := ax_aload_n dX6_placeOnLine_132 rfl rfl
theorem dX6_placeOnLine_133 : decode cX6_placeOnLine 133 = .ok (.getfield 35, 3) := by decide +kernel
theorem sX6_placeOnLine_133 : ab_X rom K cX6_placeOnLine 4 0 133 ls (.ref a :: st) hp = (ab_fld hp a 4 7).bind (fun v => ab_X rom K cX6_placeOnLine 4 0 136 ls (v :: st) hp) := ax_getfield dX6_placeOnLine_133 kf_4_35 rfl
theorem dX6_placeOnLine_136 : decode cX6_placeOnLine 136 = .ok (.istore 10, 2) := by decide +kernel
theorem sX6_placeOnLine_136i : ab_X rom K cX6_placeOnLine 4 0 136 (v0 :: v1 :: v2 :: v3 :: v4 :: v5 :: v6 :: v7 :: v8 :: .int y :: v10 :: ls) (.int x :: st) hp = ab_X rom K cX6_placeOnLine 4 0 138 (v0 :: v1 :: v2 :: v3 :: v4 :: v5 :: v6 :: v7 :: v8 :: .int y :: .int x :: ls) st hp := ax_istore dX6_placeOnLine_136 (ax_lt (v := v10) rfl) (ab_nl_c1 (j := 9) (v := .int y) rfl (ab_c1_int _)) rfl rfl
theorem sX6_placeOnLine_136r : ab_X rom K cX6_placeOnLine 4 0 136 (v0 :: v1 :: v2 :: v3 :: v4 :: v5 :: v6 :: v7 :: v8 :: .ref a2 :: v10 :: ls) (.int x :: st) hp = ab_X rom K cX6_placeOnLine 4 0 138 (v0 :: v1 :: v2 :: v3 :: v4 :: v5 :: v6 :: v7 :: v8 :: .ref a2 :: .int x :: ls) st hp := ax_istore dX6_placeOnLine_136 (ax_lt (v := v10) rfl) (ab_nl_c1 (j := 9) (v := .ref a2) rfl (ab_c1_ref _)) rfl rfl
theorem sX6_placeOnLine_136n : ab_X rom K cX6_placeOnLine 4 0 136 (v0 :: v1 :: v2 :: v3 :: v4 :: v5 :: v6 :: v7 :: v8 :: .null :: v10 :: ls) (.int x :: st) hp = ab_X rom K cX6_placeOnLine 4 0 138 (v0 :: v1 :: v2 :: v3 :: v4 :: v5 :: v6 :: v7 :: v8 :: .null :: .int x :: ls) st hp := ax_istore dX6_placeOnLine_136 (ax_lt (v := v10) rfl) (ab_nl_c1 (j := 9) (v := .null) rfl ab_c1_null) rfl rfl
theorem dX6_placeOnLine_138 : decode cX6_placeOnLine 138 = .ok (.aload_n 0, 1) := by decide +kernel
theorem sX6_placeOnLine_138 : ab_X rom K cX6_placeOnLine 4 0 138 (.ref a :: ls) st hp = ab_X rom K cX6_placeOnLine 4 0 139 (.ref a :: ls) (.ref a :: st) hp := ax_aload_n dX6_placeOnLine_138 rfl rfl
theorem dX6_placeOnLine_139 : decode cX6_placeOnLine 139 = .ok (.getfield 44, 3) := by decide +kernel
theorem sX6_placeOnLine_139 : ab_X rom K cX6_placeOnLine 4 0 139 ls (.ref a :: st) hp = (ab_fld hp a 4 10).bind (fun v => ab_X rom K cX6_placeOnLine 4 0 142 ls (v :: st) hp) := ax_getfield dX6_placeOnLine_139 kf_4_44 rfl
theorem dX6_placeOnLine_142 : decode cX6_placeOnLine 142 = .ok (.istore 11, 2) := by decide +kernel
theorem sX6_placeOnLine_142i : ab_X rom K cX6_placeOnLine 4 0 142 (v0 :: v1 :: v2 :: v3 :: v4 :: v5 :: v6 :: v7 :: v8 :: v9 :: .int y :: v11 :: ls) (.int x :: st) hp = ab_X rom K cX6_placeOnLine 4 0 144 (v0 :: v1 :: v2 :: v3 :: v4 :: v5 :: v6 :: v7 :: v8 :: v9 :: .int y :: .int x :: ls) st hp := ax_istore dX6_placeOnLine_142 (ax_lt (v := v11) rfl) (ab_nl_c1 (j := 10) (v := .int y) rfl (ab_c1_int _)) rfl rfl
theorem sX6_placeOnLine_142r : ab_X rom K cX6_placeOnLine 4 0 142 (v0 :: v1 :: v2 :: v3 :: v4 :: v5 :: v6 :: v7 :: v8 :: v9 :: .ref a2 :: v11 :: ls) (.int x :: st) hp = ab_X rom K cX6_placeOnLine 4 0 144 (v0 :: v1 :: v2 :: v3 :: v4 :: v5 :: v6 :: v7 :: v8 :: v9 :: .ref a2 :: .int x :: ls) st hp := ax_istore dX6_placeOnLine_142 (ax_lt (v := v11) rfl) (ab_nl_c1 (j := 10) (v := .ref a2) rfl (ab_c1_ref _)) rfl rfl
theorem sX6_placeOnLine_142n : ab_X rom K cX6_placeOnLine 4 0 142 (v0 :: v1 :: v2 :: v3 :: v4 :: v5 :: v6 :: v7 :: v8 :: v9 :: .null :: v11 :: ls) (.int x :: st) hp = ab_X rom K cX6_placeOnLine 4 0 144 (v0 :: v1 :: v2 :: v3 :: v4 :: v5 :: v6 :: v7 :: v8 :: v9 :: .null :: .int x :: ls) st hp := ax_istore dX6_placeOnLine_142 (ax_lt (v := v11) rfl) (ab_nl_c1 (j := 10) (v := .null) rfl ab_c1_null) rfl rfl
theorem dX6_placeOnLine_144 : decode cX6_placeOnLine 144 = .ok (.iload 9, 2) := by decide +kernel
theorem sX6_placeOnLine_144 : ab_X rom K cX6_placeOnLine 4 0 144 (v0 :: v1 :: v2 :: v3 :: v4 :: v5 :: v6 :: v7 :: v8 :: .int x :: ls) st hp = ab_X rom K cX6_placeOnLine 4 0 146 (v0 :: v1 :: v2 :: v3 :: v4 :: v5 :: v6 :: v7 :: v8 :: .int x :: ls) (.int x :: st) hp := ax_iload dX6_placeOnLine_144 rfl rfl
theorem dX6_placeOnLine_146 : decode cX6_placeOnLine 146 = .ok (.istore 12, 2) := by decide +kernel
theorem sX6_placeOnLine_146i : ab_X rom K cX6_placeOnLine 4 0 146 (v0 :: v1 :: v2 :: v3 :: v4 :: v5 :: v6 :: v7 :: v8 :: v9 :: v10 :: .int y :: v12 :: ls) (.int x :: st) hp = ab_X rom K cX6_placeOnLine 4 0 148 (v0 :: v1 :: v2 :: v3 :: v4 :: v5 :: v6 :: v7 :: v8 :: v9 :: v10 :: .int y :: .int x :: ls) st hp := ax_istore dX6_placeOnLine_146 (ax_lt (v := v12) rfl) (ab_nl_c1 (j := 11) (v := .int y) rfl (ab_c1_int _)) rfl rfl
theorem sX6_placeOnLine_146r : ab_X rom K cX6_placeOnLine 4 0 146 (v0 :: v1 :: v2 :: v3 :: v4 :: v5 :: v6 :: v7 :: v8 :: v9 :: v10 :: .ref a2 :: v12 :: ls) (.int x :: st) hp = ab_X rom K cX6_placeOnLine 4 0 148 (v0 :: v1 :: v2 :: v3 :: v4 :: v5 :: v6 :: v7 :: v8 :: v9 :: v10 :: .ref a2 :: .int x :: ls) st hp := ax_istore dX6_placeOnLine_146 (ax_lt (v := v12) rfl) (ab_nl_c1 (j := 11) (v := .ref a2) rfl (ab_c1_ref _)) rfl rfl
theorem sX6_placeOnLine_146n : ab_X rom K cX6_placeOnLine 4 0 146 (v0 :: v1 :: v2 :: v3 :: v4 :: v5 :: v6 :: v7 :: v8 :: v9 :: v10 :: .null :: v12 :: ls) (.int x :: st) hp = ab_X rom K cX6_placeOnLine 4 0 148 (v0 :: v1 :: v2 :: v3 :: v4 :: v5 :: v6 :: v7 :: v8 :: v9 :: v10 :: .null :: .int x :: ls) st hp := ax_istore dX6_placeOnLine_146 (ax_lt (v := v12) rfl) (ab_nl_c1 (j := 11) (v := .null) rfl ab_c1_null) rfl rfl
theorem dX6_placeOnLine_148 : decode cX6_placeOnLine 148 = .ok (.iload 12, 2) := by decide +kernel
theorem sX6_placeOnLine_148 : ab_X rom K cX6_placeOnLine 4 0 148 (v0 :: v1 :: v2 :: v3 :: v4 :: v5 :: v6 :: v7 :: v8 :: v9 :: v10 :: v11 :: .int x :: ls) st hp = ab_X rom K cX6_placeOnLine 4 0 150 (v0 :: v1 :: v2 :: v3 :: v4 :: v5 :: v6 :: v7 :: v8 :: v9 :: v10 :: v11 :: .int x :: ls) (.int x :: st) hp := ax_iload dX6_placeOnLine_148 rfl rfl
theorem dX6_placeOnLine_150 : decode cX6_placeOnLine 150 = .ok (.iload 10, 2) := by decide +kernel
theorem sX6_placeOnLine_150 : ab_X rom K cX6_placeOnLine 4 0 150 (v0 :: v1 :: v2 :: v3 :: v4 :: v5 :: v6 :: v7 :: v8 :: v9 :: .int x :: ls) st hp = ab_X rom K cX6_placeOnLine 4 0 152 (v0 :: v1 :: v2 :: v3 :: v4 :: v5 :: v6 :: v7 :: v8 :: v9 :: .int x :: ls) (.int x :: st) hp := ax_iload dX6_placeOnLine_150 rfl rfl
theorem dX6_placeOnLine_152 : decode cX6_placeOnLine 152 = .ok (.if_icmp .gt 93, 3) := by decide +kernel
theorem sX6_placeOnLine_152 : ab_X rom K cX6_placeOnLine 4 0 152 ls (.int y :: .int x :: st) hp = if y < x then ab_X rom K cX6_placeOnLine 4 0 245 ls st hp else ab_X rom K cX6_placeOnLine 4 0 155 ls st hp := ax_icmp_gt dX6_placeOnLine_152 (by decide) rfl
theorem dX6_placeOnLine_155 : decode cX6_placeOnLine 155 = .ok (.iconst 0, 1) := by decide +kernel
theorem sX6_placeOnLine_155 : ab_X rom K cX6_placeOnLine 4 0 155 ls st hp = ab_X rom K cX6_placeOnLine 4 0 156 ls (.int 0 :: st) hp := ax_iconst dX6_placeOnLine_155 (by decide) rfl
theorem dX6_placeOnLine_156 : decode cX6_placeOnLine 156 = .ok (.istore 13, 2) := by decide +kernel
theorem sX6_placeOnLine_156i : ab_X rom K cX6_placeOnLine 4 0 156 (v0 :: v1 :: v2 :: v3 :: v4 :: v5 :: v6 :: v7 :: v8 :: v9 :: v10 :: v11 :: .int y :: v13 :: ls) (.int x :: st) hp = ab_X rom K cX6_placeOnLine 4 0 158 (v0 :: v1 :: v2 :: v3 :: v4 :: v5 :: v6 :: v7 :: v8 :: v9 :: v10 :: v11 :: .int y :: .int x :: ls) st hp := ax_istore dX6_placeOnLine_156 (ax_lt (v := v13) rfl) (ab_nl_c1 (j := 12) (v := .int y) rfl (ab_c1_int _)) rfl rfl
theorem sX6_placeOnLine_156r : ab_X rom K cX6_placeOnLine 4 0 156 (v0 :: v1 :: v2 :: v3 :: v4 :: v5 :: v6 :: v7 :: v8 :: v9 :: v10 :: v11 :: .ref a2 :: v13 :: ls) (.int x :: st) hp = ab_X rom K cX6_placeOnLine 4 0 158 (v0 :: v1 :: v2 :: v3 :: v4 :: v5 :: v6 :: v7 :: v8 :: v9 :: v10 :: v11 :: .ref a2 :: .int x :: ls) st hp := ax_istore dX6_placeOnLine_156 (ax_lt (v := v13) rfl) (ab_nl_c1 (j := 12) (v := .ref a2) rfl (ab_c1_ref _)) rfl rfl
theorem sX6_placeOnLine_156n : ab_X rom K cX6_placeOnLine 4 0 156 (v0 :: v1 :: v2 :: v3 :: v4 :: v5 :: v6 :: v7 :: v8 :: v9 :: v10 :: v11 :: .null :: v13 :: ls) (.int x :: st) hp = ab_X rom K cX6_placeOnLine 4 0 158 (v0 :: v1 :: v2 :: v3 :: v4 :: v5 :: v6 :: v7 :: v8 :: v9 :: v10 :: v11 :: .null :: .int x :: ls) st hp := ax_istore dX6_placeOnLine_156 (ax_lt (v := v13) rfl) (ab_nl_c1 (j := 12) (v := .null) rfl ab_c1_null) rfl rfl
theorem dX6_placeOnLine_158 : decode cX6_placeOnLine 158 = .ok (.iload 13, 2) := by decide +kernel
theorem sX6_placeOnLine_158 : ab_X rom K cX6_placeOnLine 4 0 158 (v0 :: v1 :: v2 :: v3 :: v4 :: v5 :: v6 :: v7 :: v8 :: v9 :: v10 :: v11 :: v12 :: .int x :: ls) st hp = ab_X rom K cX6_placeOnLine 4 0 160 (v0 :: v1 :: v2 :: v3 :: v4 :: v5 :: v6 :: v7 :: v8 :: v9 :: v10 :: v11 :: v12 :: .int x :: ls) (.int x :: st) hp := ax_iload dX6_placeOnLine_158 rfl rfl
theorem dX6_placeOnLine_160 : decode cX6_placeOnLine 160 = .ok (.iconst 2, 1) := by decide +kernel
theorem sX6_placeOnLine_160 : ab_X rom K cX6_placeOnLine 4 0 160 ls st hp = ab_X rom K cX6_placeOnLine 4 0 161 ls (.int 2 :: st) hp := ax_iconst dX6_placeOnLine_160 (by decide) rfl
theorem dX6_placeOnLine_161 : decode cX6_placeOnLine 161 = .ok (.if_icmp .ge 78, 3) := by decide +kernel
theorem sX6_placeOnLine_161 : ab_X rom K cX6_placeOnLine 4 0 161 ls (.int y :: .int x :: st) hp = if x < y then ab_X rom K cX6_placeOnLine 4 0 164 ls st hp else ab_X rom K cX6_placeOnLine 4 0 239 ls st hp := ax_icmp_ge dX6_placeOnLine_161 (by decide) rfl
theorem dX6_placeOnLine_164 : decode cX6_placeOnLine 164 = .ok (.aload_n 0, 1) := by decide +kernel
theorem sX6_placeOnLine_164 : ab_X rom K cX6_placeOnLine 4 0 164 (.ref a :: ls) st hp = ab_X rom K cX6_placeOnLine 4 0 165 (.ref a :: ls) (.ref a :: st) hp := ax_aload_n dX6_placeOnLine_164 rfl rfl
theorem dX6_placeOnLine_165 : decode cX6_placeOnLine 165 = .ok (.getfield 57, 3) := by decide +kernel
theorem sX6_placeOnLine_165 : ab_X rom K cX6_placeOnLine 4 0 165 ls (.ref a :: st) hp = (ab_fld hp a 4 14).bind (fun v => ab_X rom K cX6_placeOnLine 4 0 168 ls (v :: st) hp) := ax_getfield dX6_placeOnLine_165 kf_4_57 rfl
theorem dX6_placeOnLine_168 : decode cX6_placeOnLine 168 = .ok (.ifCond .ne 71, 3) := by decide +kernel
theorem sX6_placeOnLine_168 : ab_X rom K cX6_placeOnLine 4 0 168 ls (.int x :: st) hp = if x = 0 then ab_X rom K cX6_placeOnLine 4 0 171 ls st hp else ab_X rom K cX6_placeOnLine 4 0 239 ls st hp := ax_if_ne dX6_placeOnLine_168 (by decide) rfl
theorem dX6_placeOnLine_171 : decode cX6_placeOnLine 171 = .ok (.aload_n 0, 1) := by decide +kernel
theorem sX6_placeOnLine_171 : ab_X rom K cX6_placeOnLine 4 0 171 (.ref a :: ls) st hp = ab_X rom K cX6_placeOnLine 4 0 172 (.ref a :: ls) (.ref a :: st) hp := ax_aload_n dX6_placeOnLine_171 rfl rfl
theorem dX6_placeOnLine_172 : decode cX6_placeOnLine 172 = .ok (.iload 6, 2) := by decide +kernel
theorem sX6_placeOnLine_172 : ab_X rom K cX6_placeOnLine 4 0 172 (v0 :: v1 :: v2 :: v3 :: v4 :: v5 :: .int x :: ls) st hp = ab_X rom K cX6_placeOnLine 4 0 174 (v0 :: v1 :: v2 :: v3 :: v4 :: v5 :: .int x :: ls) (.int x :: st) hp := ax_iload dX6_placeOnLine_172 rfl rfl
theorem dX6_placeOnLine_174 : decode cX6_placeOnLine 174 = .ok (.iload 12, 2) := by decide +kernel
theorem sX6_placeOnLine_174 : ab_X rom K cX6_placeOnLine 4 0 174 (v0 :: v1 :: v2 :: v3 :: v4 :: v5 :: v6 :: v7 :: v8 :: v9 :: v10 :: v11 :: .int x :: ls) st hp = ab_X rom K cX6_placeOnLine 4 0 176 (v0 :: v1 :: v2 :: v3 :: v4 :: v5 :: v6 :: v7 :: v8 :: v9 :: v10 :: v11 :: .int x :: ls) (.int x :: st) hp := ax_iload dX6_placeOnLine_174 rfl rfl
theorem dX6_placeOnLine_176 : decode cX6_placeOnLine 176 = .ok (.iload 7, 2) := by decide +kernel
theorem sX6_placeOnLine_176 : ab_X rom K cX6_placeOnLine 4 0 176 (v0 :: v1 :: v2 :: v3 :: v4 :: v5 :: v6 :: .int x :: ls) st hp = ab_X rom K cX6_placeOnLine 4 0 178 (v0 :: v1 :: v2 :: v3 :: v4 :: v5 :: v6 :: .int x :: ls) (.int x :: st) hp := ax_iload dX6_placeOnLine_176 rfl rfl
theorem dX6_placeOnLine_178 : decode cX6_placeOnLine 178 = .ok (.iload 13, 2) := by decide +kernel
theorem sX6_placeOnLine_178 : ab_X rom K cX6_placeOnLine 4 0 178 (v0 :: v1 :: v2 :: v3 :: v4 :: v5 :: v6 :: v7 :: v8 :: v9 :: v10 :: v11 :: v12 :: .int x :: ls) st hp = ab_X rom K cX6_placeOnLine 4 0 180 (v0 :: v1 :: v2 :: v3 :: v4 :: v5 :: v6 :: v7 :: v8 :: v9 :: v10 :: v11 :: v12 :: .int x :: ls) (.int x :: st) hp := ax_iload dX6_placeOnLine_178 rfl rfl
theorem dX6_placeOnLine_180 : decode cX6_placeOnLine 180 = .ok (.ifCond .ne 10, 3) := by decide +kernel
theorem sX6_placeOnLine_180 : ab_X rom K cX6_placeOnLine 4 0 180 ls (.int x :: st) hp = if x = 0 then ab_X rom K cX6_placeOnLine 4 0 183 ls st hp else ab_X rom K cX6_placeOnLine 4 0 190 ls st hp := ax_if_ne dX6_placeOnLine_180 (by decide) rfl
theorem dX6_placeOnLine_183 : decode cX6_placeOnLine 183 = .ok (.iload 12, 2) := by decide +kernel
theorem sX6_placeOnLine_183 : ab_X rom K cX6_placeOnLine 4 0 183 (v0 :: v1 :: v2 :: v3 :: v4 :: v5 :: v6 :: v7 :: v8 :: v9 :: v10 :: v11 :: .int x :: ls) st hp = ab_X rom K cX6_placeOnLine 4 0 185 (v0 :: v1 :: v2 :: v3 :: v4 :: v5 :: v6 :: v7 :: v8 :: v9 :: v10 :: v11 :: .int x :: ls) (.int x :: st) hp := ax_iload dX6_placeOnLine_183 rfl rfl
theorem dX6_placeOnLine_185 : decode cX6_placeOnLine 185 = .ok (.iload_n 2, 1) := by decide +kernel
theorem sX6_placeOnLine_185 : ab_X rom K cX6_placeOnLine 4 0 185 (v0 :: v1 :: .int x :: ls) st hp = ab_X rom K cX6_placeOnLine 4 0 186 (v0 :: v1 :: .int x :: ls) (.int x :: st) hp := ax_iload_n dX6_placeOnLine_185 rfl rfl
theorem dX6_placeOnLine_186 : decode cX6_placeOnLine 186 = .ok (.isub, 1) := by decide +kernel
theorem sX6_placeOnLine_186 : ab_X rom K cX6_placeOnLine 4 0 186 ls (.int y :: .int x :: st) hp = ab_X rom K cX6_placeOnLine 4 0 187 ls (.int (x - y) :: st) hp := ax_isub dX6_placeOnLine_186 rfl
theorem dX6_placeOnLine_187 : decode cX6_placeOnLine 187 = .ok (.goto 7, 3) := by decide +kernel
theorem sX6_placeOnLine_187 : ab_X rom K cX6_placeOnLine 4 0 187 ls st hp = ab_X rom K cX6_placeOnLine 4 0 194 ls st hp := ax_goto dX6_placeOnLine_187 (by decide)
theorem dX6_placeOnLine_190 : decode cX6_placeOnLine 190 = .ok (.iload 12, 2) := by decide +kernel
theorem sX6_placeOnLine_190 : ab_X rom K cX6_placeOnLine 4 0 190 (v0 :: v1 :: v2 :: v3 :: v4 :: v5 :: v6 :: v7 :: v8 :: v9 :: v10 :: v11 :: .int x :: ls) st hp = ab_X rom K cX6_placeOnLine 4 0 192 (v0 :: v1 :: v2 :: v3 :: v4 :: v5 :: v6 :: v7 :: v8 :: v9 :: v10 :: v11 :: .int x :: ls) (.int x :: st) hp := ax_iload dX6_placeOnLine_190 rfl rfl
theorem dX6_placeOnLine_192 : decode cX6_placeOnLine 192 = .ok (.iload_n 2, 1) := by decide +kernel
theorem sX6_placeOnLine_192 : ab_X rom K cX6_placeOnLine 4 0 192 (v0 :: v1 :: .int x :: ls) st hp = ab_X rom K cX6_placeOnLine 4 0 193 (v0 :: v1 :: .int x :: ls) (.int x :: st) hp := ax_iload_n dX6_placeOnLine_192 rfl rfl
theorem dX6_placeOnLine_193 : decode cX6_placeOnLine 193 = .ok (.iadd, 1) := by decide +kernel
theorem sX6_placeOnLine_193 : ab_X rom K cX6_placeOnLine 4 0 193 ls (.int y :: .int x :: st) hp = ab_X rom K cX6_placeOnLine 4 0 194 ls (.int (x + y) :: st) hp := ax_iadd dX6_placeOnLine_193 rfl
theorem dX6_placeOnLine_194 : decode cX6_placeOnLine 194 = .ok (.invokevirtual 171, 3) := by decide +kernel
theorem sX6_placeOnLine_194_0 : ab_X rom K cX6_placeOnLine 4 0 194 ls [w4, w3, w2, w1, .ref a] hp = if ab_iso hp a 4 = true then (K 69 (.ref a :: [w1, w2, w3, w4]) hp).bind (fun o => ab_X rom K cX6_placeOnLine 4 0 197 ls (o.1.toList ++ []) o.2) else none := ay_virtual (as := [w1, w2, w3, w4]) (st := []) dX6_placeOnLine_194 kc_4_171 rfl rfl (Nat.le_of_ble_eq_true rfl)
theorem sX6_placeOnLine_194_1 : ab_X rom K cX6_placeOnLine 4 0 194 ls [w4, w3, w2, w1, .ref a, v0] hp = if ab_iso hp a 4 = true then (K 69 (.ref a :: [w1, w2, w3, w4]) hp).bind (fun o => ab_X rom K cX6_placeOnLine 4 0 197 ls (o.1.toList ++ [v0]) o.2) else none := ay_virtual (as := [w1, w2, w3, w4]) (st := [v0]) dX6_placeOnLine_194 kc_4_171 rfl rfl (Nat.le_of_ble_eq_true rfl)
theorem sX6_placeOnLine_194_2 : ab_X rom K cX6_placeOnLine 4 0 194 ls [w4, w3, w2, w1, .ref a, v0, v1] hp = if ab_iso hp a 4 = true then (K 69 (.ref a :: [w1, w2, w3, w4]) hp).bind (fun o => ab_X rom K cX6_placeOnLine 4 0 197 ls (o.1.toList ++ [v0, v1]) o.2) else none := ay_virtual (as := [w1, w2, w3, w4]) (st := [v0, v1]) dX6_placeOnLine_194 kc_4_171 rfl rfl (Nat.le_of_ble_eq_true rfl)
theorem sX6_placeOnLine_194_3 : ab_X rom K cX6_placeOnLine 4 0 194 ls [w4, w3, w2, w1, .ref a, v0, v1, v2] hp = if ab_iso hp a 4 = true then (K 69 (.ref a :: [w1, w2, w3, w4]) hp).bind (fun o => ab_X rom K cX6_placeOnLine 4 0 197 ls (o.1.toList ++ [v0, v1, v2]) o.2) else none := ay_virtual (as := [w1, w2, w3, w4]) (st := [v0, v1, v2]) dX6_placeOnLine_194 kc_4_171 rfl rfl (Nat.le_of_ble_eq_true rfl)
theorem dX6_placeOnLine_197 : decode cX6_placeOnLine 197 = .ok (.ifCond .eq 36, 3) := by decide +kernel
theorem sX6_placeOnLine_197 : ab_X rom K cX6_placeOnLine 4 0 197 ls (.int x :: st) hp = if x = 0 then ab_X rom K cX6_placeOnLine 4 0 233 ls st hp else ab_X rom K cX6_placeOnLine 4 0 200 ls st hp := ax_if_eq dX6_placeOnLine_197 (by decide) rfl
theorem dX6_placeOnLine_200 : decode cX6_placeOnLine 200 = .ok (.aload_n 0, 1) := by decide +kernel
theorem sX6_placeOnLine_200 : ab_X rom K cX6_placeOnLine 4 0 200 (.ref a :: ls) st hp = ab_X rom K cX6_placeOnLine 4 0 201 (.ref a :: ls) (.ref a :: st) hp := ax_aload_n dX6_placeOnLine_200 rfl rfl
theorem dX6_placeOnLine_201 : decode cX6_placeOnLine 201 = .ok (.iload_n 2, 1) := by decide +kernel
theorem sX6_placeOnLine_201 : ab_X rom K cX6_placeOnLine 4 0 201 (v0 :: v1 :: .int x :: ls) st hp = ab_X rom K cX6_placeOnLine 4 0 202 (v0 :: v1 :: .int x :: ls) (.int x :: st) hp := ax_iload_n dX6_placeOnLine_201 rfl rfl
theorem dX6_placeOnLine_202 : decode cX6_placeOnLine 202 = .ok (.iconst 1, 1) := by decide +kernel
theorem sX6_placeOnLine_202 : ab_X rom K cX6_placeOnLine 4 0 202 ls st hp = ab_X rom K cX6_placeOnLine 4 0 203 ls (.int 1 :: st) hp := ax_iconst dX6_placeOnLine_202 (by decide) rfl
theorem dX6_placeOnLine_203 : decode cX6_placeOnLine 203 = .ok (.isub, 1) := by decide +kernel
theorem sX6_placeOnLine_203 : ab_X rom K cX6_placeOnLine 4 0 203 ls (.int y :: .int x :: st) hp = ab_X rom K cX6_placeOnLine 4 0 204 ls (.int (x - y) :: st) hp := ax_isub dX6_placeOnLine_203 rfl
theorem dX6_placeOnLine_204 : decode cX6_placeOnLine 204 = .ok (.iload_n 3, 1) := by decide +kernel
theorem sX6_placeOnLine_204 : ab_X rom K cX6_placeOnLine 4 0 204 (v0 :: v1 :: v2 :: .int x :: ls) st hp = ab_X rom K cX6_placeOnLine 4 0 205 (v0 :: v1 :: v2 :: .int x :: ls) (.int x :: st) hp := ax_iload_n dX6_placeOnLine_204 rfl rfl
theorem dX6_placeOnLine_205 : decode cX6_placeOnLine 205 = .ok (.iload 4, 2) := by decide +kernel
theorem sX6_placeOnLine_205 : ab_X rom K cX6_placeOnLine 4 0 205 (v0 :: v1 :: v2 :: v3 :: .int x :: ls) st hp = ab_X rom K cX6_placeOnLine 4 0 207 (v0 :: v1 :: v2 :: v3 :: .int x :: ls) (.int x :: st) hp := ax_iload dX6_placeOnLine_205 rfl rfl
theorem dX6_placeOnLine_207 : decode cX6_placeOnLine 207 = .ok (.iconst 1, 1) := by decide +kernel
theorem sX6_placeOnLine_207 : ab_X rom K cX6_placeOnLine 4 0 207 ls st hp = ab_X rom K cX6_placeOnLine 4 0 208 ls (.int 1 :: st) hp := ax_iconst dX6_placeOnLine_207 (by decide) rfl
theorem dX6_placeOnLine_208 : decode cX6_placeOnLine 208 = .ok (.iadd, 1) := by decide +kernel
theorem sX6_placeOnLine_208 : ab_X rom K cX6_placeOnLine 4 0 208 ls (.int y :: .int x :: st) hp = ab_X rom K cX6_placeOnLine 4 0 209 ls (.int (x + y) :: st) hp := ax_iadd dX6_placeOnLine_208 rfl
theorem dX6_placeOnLine_209 : decode cX6_placeOnLine 209 = .ok (.invokestatic 84, 3) := by decide +kernel
theorem sX6_placeOnLine_209_0 : ab_X rom K cX6_placeOnLine 4 0 209 ls [w4, w3, w2, w1] hp = (K 65 [w1, w2, w3, w4] hp).bind (fun o => ab_X rom K cX6_placeOnLine 4 0 212 ls (o.1.toList ++ []) o.2) := ax_static (as := [w1, w2, w3, w4]) (st := []) dX6_placeOnLine_209 kc_4_84 rfl rfl (Nat.le_of_ble_eq_true rfl)
theorem sX6_placeOnLine_209_1 : ab_X rom K cX6_placeOnLine 4 0 209 ls [w4, w3, w2, w1, v0] hp = (K 65 [w1, w2, w3, w4] hp).bind (fun o => ab_X rom K cX6_placeOnLine 4 0 212 ls (o.1.toList ++ [v0]) o.2) := ax_static (as := [w1, w2, w3, w4]) (st := [v0]) dX6_placeOnLine_209 kc_4_84 rfl rfl (Nat.le_of_ble_eq_true rfl)
theorem sX6_placeOnLine_209_2 : ab_X rom K cX6_placeOnLine 4 0 209 ls [w4, w3, w2, w1, v0, v1] hp = (K 65 [w1, w2, w3, w4] hp).bind (fun o => ab_X rom K cX6_placeOnLine 4 0 212 ls (o.1.toList ++ [v0, v1]) o.2) := ax_static (as := [w1, w2, w3, w4]) (st := [v0, v1]) dX6_placeOnLine_209 kc_4_84 rfl rfl (Nat.le_of_ble_eq_true rfl)
theorem sX6_placeOnLine_209_3 : ab_X rom K cX6_placeOnLine 4 0 209 ls [w4, w3, w2, w1, v0, v1, v2] hp = (K 65 [w1, w2, w3, w4] hp).bind (fun o => ab_X rom K cX6_placeOnLine 4 0 212 ls (o.1.toList ++ [v0, v1, v2]) o.2) := ax_static (as := [w1, w2, w3, w4]) (st := [v0, v1, v2]) dX6_placeOnLine_209 kc_4_84 rfl rfl (Nat.le_of_ble_eq_true rfl)
theorem dX6_placeOnLine_212 : decode cX6_placeOnLine 212 = .ok (.aload_n 0, 1) := by decide +kernel
theorem sX6_placeOnLine_212 : ab_X rom K cX6_placeOnLine 4 0 212 (.ref a :: ls) st hp = ab_X rom K cX6_placeOnLine 4 0 213 (.ref a :: ls) (.ref a :: st) hp := ax_aload_n dX6_placeOnLine_212 rfl rfl
theorem dX6_placeOnLine_213 : decode cX6_placeOnLine 213 = .ok (.iload 7, 2) := by decide +kernel
theorem sX6_placeOnLine_213 : ab_X rom K cX6_placeOnLine 4 0 213 (v0 :: v1 :: v2 :: v3 :: v4 :: v5 :: v6 :: .int x :: ls) st hp = ab_X rom K cX6_placeOnLine 4 0 215 (v0 :: v1 :: v2 :: v3 :: v4 :: v5 :: v6 :: .int x :: ls) (.int x :: st) hp := ax_iload dX6_placeOnLine_213 rfl rfl
theorem dX6_placeOnLine_215 : decode cX6_placeOnLine 215 = .ok (.iload 11, 2) := by decide +kernel
theorem sX6_placeOnLine_215 : ab_X rom K cX6_placeOnLine 4 0 215 (v0 :: v1 :: v2 :: v3 :: v4 :: v5 :: v6 :: v7 :: v8 :: v9 :: v10 :: .int x :: ls) st hp = ab_X rom K cX6_placeOnLine 4 0 217 (v0 :: v1 :: v2 :: v3 :: v4 :: v5 :: v6 :: v7 :: v8 :: v9 :: v10 :: .int x :: ls) (.int x :: st) hp := ax_iload dX6_placeOnLine_215 rfl rfl
theorem dX6_placeOnLine_217 : decode cX6_placeOnLine 217 = .ok (.invokevirtual 154, 3) := by decide +kernel
theorem sX6_placeOnLine_217_0 : ab_X rom K cX6_placeOnLine 4 0 217 ls [w2, w1, .ref a] hp = if ab_iso hp a 4 = true then (K 72 (.ref a :: [w1, w2]) hp).bind (fun o => ab_X rom K cX6_placeOnLine 4 0 220 ls (o.1.toList ++ []) o.2) else none := ay_virtual (as := [w1, w2]) (st := []) dX6_placeOnLine_217 kc_4_154 rfl rfl (Nat.le_of_ble_eq_true rfl)
theorem sX6_placeOnLine_217_1 : ab_X rom K cX6_placeOnLine 4 0 217 ls [w2, w1, .ref a, v0] hp = if ab_iso hp a 4 = true then (K 72 (.ref a :: [w1, w2]) hp).bind (fun o => ab_X rom K cX6_placeOnLine 4 0 220 ls (o.1.toList ++ [v0]) o.2) else none := ay_virtual (as := [w1, w2]) (st := [v0]) dX6_placeOnLine_217 kc_4_154 rfl rfl (Nat.le_of_ble_eq_true rfl)
theorem sX6_placeOnLine_217_2 : ab_X rom K cX6_placeOnLine 4 0 217 ls [w2, w1, .ref a, v0, v1] hp = if ab_iso hp a 4 = true then (K 72 (.ref a :: [w1, w2]) hp).bind (fun o => ab_X rom K cX6_placeOnLine 4 0 220 ls (o.1.toList ++ [v0, v1]) o.2) else none := ay_virtual (as := [w1, w2]) (st := [v0, v1]) dX6_placeOnLine_217 kc_4_154 rfl rfl (Nat.le_of_ble_eq_true rfl)
theorem sX6_placeOnLine_217_3 : ab_X rom K cX6_placeOnLine 4 0 217 ls [w2, w1, .ref a, v0, v1, v2] hp = if ab_iso hp a 4 = true then (K 72 (.ref a :: [w1, w2]) hp).bind (fun o => ab_X rom K cX6_placeOnLine 4 0 220 ls (o.1.toList ++ [v0, v1, v2]) o.2) else none := ay_virtual (as := [w1, w2]) (st := [v0, v1, v2]) dX6_placeOnLine_217 kc_4_154 rfl rfl (Nat.le_of_ble_eq_true rfl)
theorem dX6_placeOnLine_220 : decode cX6_placeOnLine 220 = .ok (.iload 8, 2) := by decide +kernel
theorem sX6_placeOnLine_220 : ab_X rom K cX6_placeOnLine 4 0 220 (v0 :: v1 :: v2 :: v3 :: v4 :: v5 :: v6 :: v7 :: .int x :: ls) st hp = ab_X rom K cX6_placeOnLine 4 0 222 (v0 :: v1 :: v2 :: v3 :: v4 :: v5 :: v6 :: v7 :: .int x :: ls) (.int x :: st) hp := ax_iload dX6_placeOnLine_220 rfl rfl
theorem dX6_placeOnLine_222 : decode cX6_placeOnLine 222 = .ok (.ifCond .ne 11, 3) := by decide +kernel
theorem sX6_placeOnLine_222 : ab_X rom K cX6_placeOnLine 4 0 222 ls (.int x :: st) hp = if x = 0 then ab_X rom K cX6_placeOnLine 4 0 225 ls st hp else ab_X rom K cX6_placeOnLine 4 0 233 ls st hp := ax_if_ne dX6_placeOnLine_222 (by decide) rfl
theorem dX6_placeOnLine_225 : decode cX6_placeOnLine 225 = .ok (.aload_n 0, 1) := by decide +kernel
theorem sX6_placeOnLine_225 : ab_X rom K cX6_placeOnLine 4 0 225 (.ref a :: ls) st hp = ab_X rom K cX6_placeOnLine 4 0 226 (.ref a :: ls) (.ref a :: st) hp := ax_aload_n dX6_placeOnLine_225 rfl rfl
theorem dX6_placeOnLine_226 : decode cX6_placeOnLine 226 = .ok (.iload 6, 2) := by decide +kernel
theorem sX6_placeOnLine_226 : ab_X rom K cX6_placeOnLine 4 0 226 (v0 :: v1 :: v2 :: v3 :: v4 :: v5 :: .int x :: ls) st hp = ab_X rom K cX6_placeOnLine 4 0 228 (v0 :: v1 :: v2 :: v3 :: v4 :: v5 :: .int x :: ls) (.int x :: st) hp := ax_iload dX6_placeOnLine_226 rfl rfl
theorem dX6_placeOnLine_228 : decode cX6_placeOnLine 228 = .ok (.iload 11, 2) := by decide +kernel
theorem sX6_placeOnLine_228 : ab_X rom K cX6_placeOnLine 4 0 228 (v0 :: v1 :: v2 :: v3 :: v4 :: v5 :: v6 :: v7 :: v8 :: v9 :: v10 :: .int x :: ls) st hp = ab_X rom K cX6_placeOnLine 4 0 230 (v0 :: v1 :: v2 :: v3 :: v4 :: v5 :: v6 :: v7 :: v8 :: v9 :: v10 :: .int x :: ls) (.int x :: st) hp := ax_iload dX6_placeOnLine_228 rfl rfl
theorem dX6_placeOnLine_230 : decode cX6_placeOnLine 230 = .ok (.invokevirtual 154, 3) := by decide +kernel
theorem sX6_placeOnLine_230_0 : ab_X rom K cX6_placeOnLine 4 0 230 ls [w2, w1, .ref a] hp = if ab_iso hp a 4 = true then (K 72 (.ref a :: [w1, w2]) hp).bind (fun o => ab_X rom K cX6_placeOnLine 4 0 233 ls (o.1.toList ++ []) o.2) else none := ay_virtual (as := [w1, w2]) (st := []) dX6_placeOnLine_230 kc_4_154 rfl rfl (Nat.le_of_ble_eq_true rfl)
theorem sX6_placeOnLine_230_1 : ab_X rom K cX6_placeOnLine 4 0 230 ls [w2, w1, .ref a, v0] hp = if ab_iso hp a 4 = true then (K 72 (.ref a :: [w1, w2]) hp).bind (fun o => ab_X rom K cX6_placeOnLine 4 0 233 ls (o.1.toList ++ [v0]) o.2) else none := ay_virtual (as := [w1, w2]) (st := [v0]) dX6_placeOnLine_230 kc_4_154 rfl rfl (Nat.le_of_ble_eq_true rfl)
theorem sX6_placeOnLine_230_2 : ab_X rom K cX6_placeOnLine 4 0 230 ls [w2, w1, .ref a, v0, v1] hp = if ab_iso hp a 4 = true then (K 72 (.ref a :: [w1, w2]) hp).bind (fun o => ab_X rom K cX6_placeOnLine 4 0 233 ls (o.1.toList ++ [v0, v1]) o.2) else none := ay_virtual (as := [w1, w2]) (st := [v0, v1]) dX6_placeOnLine_230 kc_4_154 rfl rfl (Nat.le_of_ble_eq_true rfl)
theorem sX6_placeOnLine_230_3 : ab_X rom K cX6_placeOnLine 4 0 230 ls [w2, w1, .ref a, v0, v1, v2] hp = if ab_iso hp a 4 = true then (K 72 (.ref a :: [w1, w2]) hp).bind (fun o => ab_X rom K cX6_placeOnLine 4 0 233 ls (o.1.toList ++ [v0, v1, v2]) o.2) else none := ay_virtual (as := [w1, w2]) (st := [v0, v1, v2]) dX6_placeOnLine_230 kc_4_154 rfl rfl (Nat.le_of_ble_eq_true rfl)
theorem dX6_placeOnLine_233 : decode cX6_placeOnLine 233 = .ok (.iinc 13 1, 3) := by decide +kernel
theorem sX6_placeOnLine_233i : ab_X rom K cX6_placeOnLine 4 0 233 (v0 :: v1 :: v2 :: v3 :: v4 :: v5 :: v6 :: v7 :: v8 :: v9 :: v10 :: v11 :: .int y :: .int x :: ls) st hp = ab_X rom K cX6_placeOnLine 4 0 236 (v0 :: v1 :: v2 :: v3 :: v4 :: v5 :: v6 :: v7 :: v8 :: v9 :: v10 :: v11 :: .int y :: .int (x + 1) :: ls) st hp := ax_iinc dX6_placeOnLine_233 rfl (ab_nl_c1 (j := 12) (v := .int y) rfl (ab_c1_int _)) (by decide) rfl rfl
theorem sX6_placeOnLine_233r : ab_X rom K cX6_placeOnLine 4 0 233 (v0 :: v1 :: v2 :: v3 :: v4 :: v5 :: v6 :: v7 :: v8 :: v9 :: v10 :: v11 :: .ref a2 :: .int x :: ls) st hp = ab_X rom K cX6_placeOnLine 4 0 236 (v0 :: v1 :: v2 :: v3 :: v4 :: v5 :: v6 :: v7 :: v8 :: v9 :: v10 :: v11 :: .ref a2 :: .int (x + 1) :: ls) st hp := ax_iinc dX6_placeOnLine_233 rfl (ab_nl_c1 (j := 12) (v := .ref a2) rfl (ab_c1_ref _)) (by decide) rfl rfl
theorem sX6_placeOnLine_233n : ab_X rom K cX6_placeOnLine 4 0 233 (v0 :: v1 :: v2 :: v3 :: v4 :: v5 :: v6 :: v7 :: v8 :: v9 :: v10 :: v11 :: .null :: .int x :: ls) st hp = ab_X rom K cX6_placeOnLine 4 0 236 (v0 :: v1 :: v2 :: v3 :: v4 :: v5 :: v6 :: v7 :: v8 :: v9 :: v10 :: v11 :: .null :: .int (x + 1) :: ls) st hp := ax_iinc dX6_placeOnLine_233 rfl (ab_nl_c1 (j := 12) (v := .null) rfl ab_c1_null) (by decide) rfl rfl
theorem dX6_placeOnLine_236 : decode cX6_placeOnLine 236 = .ok (.goto (-78), 3) := by decide +kernel
theorem sX6_placeOnLine_236 : ab_X rom K cX6_placeOnLine 4 0 236 ls st hp = ab_X rom K cX6_placeOnLine 4 0 158 ls st hp := ax_goto dX6_placeOnLine_236 (by decide)
theorem dX6_placeOnLine_239 : decode cX6_placeOnLine 239 = .ok (.iinc 12 1, 3) := by decide +kernel
theorem sX6_placeOnLine_239i : ab_X rom K cX6_placeOnLine 4 0 239 (v0 :: v1 :: v2 :: v3 :: v4 :: v5 :: v6 :: v7 :: v8 :: v9 :: v10 :: .int y :: .int x :: ls) st hp = ab_X rom K cX6_placeOnLine 4 0 242 (v0 :: v1 :: v2 :: v3 :: v4 :: v5 :: v6 :: v7 :: v8 :: v9 :: v10 :: .int y :: .int (x + 1) :: ls) st hp := ax_iinc dX6_placeOnLine_239 rfl (ab_nl_c1 (j := 11) (v := .int y) rfl (ab_c1_int _)) (by decide) rfl rfl
theorem sX6_placeOnLine_239r : ab_X rom K cX6_placeOnLine 4 0 239 (v0 :: v1 :: v2 :: v3 :: v4 :: v5 :: v6 :: v7 :: v8 :: v9 :: v10 :: .ref a2 :: .int x :: ls) st hp = ab_X rom K cX6_placeOnLine 4 0 242 (v0 :: v1 :: v2 :: v3 :: v4 :: v5 :: v6 :: v7 :: v8 :: v9 :: v10 :: .ref a2 :: .int (x + 1) :: ls) st hp := ax_iinc dX6_placeOnLine_239 rfl (ab_nl_c1 (j := 11) (v := .ref a2) rfl (ab_c1_ref _)) (by decide) rfl rfl
theorem sX6_placeOnLine_239n : ab_X rom K cX6_placeOnLine 4 0 239 (v0 :: v1 :: v2 :: v3 :: v4 :: v5 :: v6 :: v7 :: v8 :: v9 :: v10 :: .null :: .int x :: ls) st hp = ab_X rom K cX6_placeOnLine 4 0 242 (v0 :: v1 :: v2 :: v3 :: v4 :: v5 :: v6 :: v7 :: v8 :: v9 :: v10 :: .null :: .int (x + 1) :: ls) st hp := ax_iinc dX6_placeOnLine_239 rfl (ab_nl_c1 (j := 11) (v := .null) rfl ab_c1_null) (by decide) rfl rfl
theorem dX6_placeOnLine_242 : decode cX6_placeOnLine 242 = .ok (.goto (-94), 3) := by decide +kernel
theorem sX6_placeOnLine_242 : ab_X rom K cX6_placeOnLine 4 0 242 ls st hp = ab_X rom K cX6_placeOnLine 4 0 148 ls st hp := ax_goto dX6_placeOnLine_242 (by decide)
theorem dX6_placeOnLine_245 : decode cX6_placeOnLine 245 = .ok (.return_, 1) := by decide +kernel
theorem sX6_placeOnLine_245 : ab_X rom K cX6_placeOnLine 4 0 245 ls [] hp = some (none, hp) := ax_vret dX6_placeOnLine_245 (by decide)
theorem tX6_placePoint : ab_mT[67]? = some (yX6_placePoint, cX6_placePoint, 7, 0, 4) := by decide +kernel
theorem mX6_placePoint {d : Nat} {r0 : Nat} {x1 : Int32} : ab_M rom (d + 1) 67 [.ref r0, .int x1] hp = ab_X rom (ab_M rom d) cX6_placePoint 4 0 0 [.ref r0, .int x1, .null, .null, .null, .null, .null] [] hp := ab_M_eq tX6_placePoint (Nat.le_of_ble_eq_true rfl)
theorem dX6_placePoint_0 : decode cX6_placePoint 0 = .ok (.iload_n 1, 1) := by decide +kernel
theorem sX6_placePoint_0 : ab_X rom K cX6_placePoint 4 0 0 (v0 :: .int x :: ls) st hp = ab_X rom K cX6_placePoint 4 0 1 (v0 :: .int x :: ls) (.int x :: st) hp := ax_iload_n dX6_placePoint_0 rfl rfl
theorem dX6_placePoint_1 : decode cX6_placePoint 1 = .ok (.aload_n 0, 1) := by decide +kernel
theorem sX6_placePoint_1 : ab_X rom K cX6_placePoint 4 0 1 (.ref a :: ls) st hp = ab_X rom K cX6_placePoint 4 0 2 (.ref a :: ls) (.ref a :: st) hp := ax_aload_n dX6_placePoint_1 rfl rfl
theorem dX6_placePoint_2 : decode cX6_placePoint 2 = .ok (.getfield 47, 3) := by decide +kernel
theorem sX6_placePoint_2 : ab_X rom K cX6_placePoint 4 0 2 ls (.ref a :: st) hp = (ab_fld hp a 4 11).bind (fun v => ab_X rom K cX6_placePoint 4 0 5 ls (v :: st) hp) := ax_getfield dX6_placePoint_2 kf_4_47 rfl
theorem dX6_placePoint_5 : decode cX6_placePoint 5 = .ok (.if_icmp .ge 9, 3) := by decide +kernel
theorem sX6_placePoint_5 : ab_X rom K cX6_placePoint 4 0 5 ls (.int y :: .int x :: st) hp = if x < y then ab_X rom K cX6_placePoint 4 0 8 ls st hp else ab_X rom K cX6_placePoint 4 0 14 ls st hp := ax_icmp_ge dX6_placePoint_5 (by decide) rfl
theorem dX6_placePoint_8 : decode cX6_placePoint 8 = .ok (.iload_n 1, 1) := by decide +kernel
theorem sX6_placePoint_8 : ab_X rom K cX6_placePoint 4 0 8 (v0 :: .int x :: ls) st hp = ab_X rom K cX6_placePoint 4 0 9 (v0 :: .int x :: ls) (.int x :: st) hp := ax_iload_n dX6_placePoint_8 rfl rfl
theorem dX6_placePoint_9 : decode cX6_placePoint 9 = .ok (.bipush 7, 2) := by decide +kernel
theorem sX6_placePoint_9 : ab_X rom K cX6_placePoint 4 0 9 ls st hp = ab_X rom K cX6_placePoint 4 0 11 ls (.int 7 :: st) hp := ax_bipush dX6_placePoint_9 (by decide) rfl
theorem dX6_placePoint_11 : decode cX6_placePoint 11 = .ok (.if_icmp .lt 8, 3) := by decide +kernel
theorem sX6_placePoint_11 : ab_X rom K cX6_placePoint 4 0 11 ls (.int y :: .int x :: st) hp = if x < y then ab_X rom K cX6_placePoint 4 0 19 ls st hp else ab_X rom K cX6_placePoint 4 0 14 ls st hp := ax_icmp_lt dX6_placePoint_11 (by decide) rfl
theorem dX6_placePoint_14 : decode cX6_placePoint 14 = .ok (.aload_n 0, 1) := by decide +kernel
theorem sX6_placePoint_14 : ab_X rom K cX6_placePoint 4 0 14 (.ref a :: ls) st hp = ab_X rom K cX6_placePoint 4 0 15 (.ref a :: ls) (.ref a :: st) hp := ax_aload_n dX6_placePoint_14 rfl rfl
theorem dX6_placePoint_15 : decode cX6_placePoint 15 = .ok (.invokevirtual 175, 3) := by decide +kernel
theorem sX6_placePoint_15_0 : ab_X rom K cX6_placePoint 4 0 15 ls [.ref a] hp = if ab_iso hp a 4 = true then (K 61 (.ref a :: []) hp).bind (fun o => ab_X rom K cX6_placePoint 4 0 18 ls (o.1.toList ++ []) o.2) else none := ay_virtual (as := []) (st := []) dX6_placePoint_15 kc_4_175 rfl rfl (Nat.le_of_ble_eq_true rfl)
theorem sX6_placePoint_15_1 : ab_X rom K cX6_placePoint 4 0 15 ls [.ref a, v0] hp = if ab_iso hp a 4 = true then (K 61 (.ref a :: []) hp).bind (fun o => ab_X rom K cX6_placePoint 4 0 18 ls (o.1.toList ++ [v0]) o.2) else none := ay_virtual (as := []) (st := [v0]) dX6_placePoint_15 kc_4_175 rfl rfl (Nat.le_of_ble_eq_true rfl)
theorem sX6_placePoint_15_2 : ab_X rom K cX6_placePoint 4 0 15 ls [.ref a, v0, v1] hp = if ab_iso hp a 4 = true then (K 61 (.ref a :: []) hp).bind (fun o => ab_X rom K cX6_placePoint 4 0 18 ls (o.1.toList ++ [v0, v1]) o.2) else none := ay_virtual (as := []) (st := [v0, v1]) dX6_placePoint_15 kc_4_175 rfl rfl (Nat.le_of_ble_eq_true rfl)
theorem sX6_placePoint_15_3 : ab_X rom K cX6_placePoint 4 0 15 ls [.ref a, v0, v1, v2] hp = if ab_iso hp a 4 = true then (K 61 (.ref a :: []) hp).bind (fun o => ab_X rom K cX6_placePoint 4 0 18 ls (o.1.toList ++ [v0, v1, v2]) o.2) else none := ay_virtual (as := []) (st := [v0, v1, v2]) dX6_placePoint_15 kc_4_175 rfl rfl (Nat.le_of_ble_eq_true rfl)
theorem dX6_placePoint_18 : decode cX6_placePoint 18 = .ok (.return_, 1) := by decide +kernel
theorem sX6_placePoint_18 : ab_X rom K cX6_placePoint 4 0 18 ls [] hp = some (none, hp) := ax_vret dX6_placePoint_18 (by decide)
theorem dX6_placePoint_19 : decode cX6_placePoint 19 = .ok (.aload_n 0, 1) := by decide +kernel
theorem sX6_placePoint_19 : ab_X rom K cX6_placePoint 4 0 19 (.ref a :: ls) st hp = ab_X rom K cX6_placePoint 4 0 20 (.ref a :: ls) (.ref a :: st) hp := ax_aload_n dX6_placePoint_19 rfl rfl
theorem dX6_placePoint_20 : decode cX6_placePoint 20 = .ok (.getfield 25, 3) := by decide +kernel
theorem sX6_placePoint_20 : ab_X rom K cX6_placePoint 4 0 20 ls (.ref a :: st) hp = (ab_fld hp a 4 3).bind (fun v => ab_X rom K cX6_placePoint 4 0 23 ls (v :: st) hp) := ax_getfield dX6_placePoint_20 kf_4_25 rfl
theorem dX6_placePoint_23 : decode cX6_placePoint 23 = .ok (.iload_n 1, 1) := by decide +kernel
theorem sX6_placePoint_23 : ab_X rom K cX6_placePoint 4 0 23 (v0 :: .int x :: ls) st hp = ab_X rom K cX6_placePoint 4 0 24 (v0 :: .int x :: ls) (.int x :: st) hp := ax_iload_n dX6_placePoint_23 rfl rfl
theorem dX6_placePoint_24 : decode cX6_placePoint 24 = .ok (.iaload, 1) := by decide +kernel
theorem sX6_placePoint_24 : ab_X rom K cX6_placePoint 4 0 24 ls (.int x :: .ref a :: st) hp = (ab_ard rom 0 hp a x).bind (fun v => ab_X rom K cX6_placePoint 4 0 25 ls (.int v :: st) hp) := ax_iaload dX6_placePoint_24 rfl
theorem dX6_placePoint_25 : decode cX6_placePoint 25 = .ok (.istore_n 2, 1) := by decide +kernel
theorem sX6_placePoint_25i : ab_X rom K cX6_placePoint 4 0 25 (v0 :: .int y :: v2 :: ls) (.int x :: st) hp = ab_X rom K cX6_placePoint 4 0 26 (v0 :: .int y :: .int x :: ls) st hp := ax_istore_n dX6_placePoint_25 (ax_lt (v := v2) rfl) (ab_nl_c1 (j := 1) (v := .int y) rfl (ab_c1_int _)) rfl rfl
theorem sX6_placePoint_25r : ab_X rom K cX6_placePoint 4 0 25 (v0 :: .ref a2 :: v2 :: ls) (.int x :: st) hp = ab_X rom K cX6_placePoint 4 0 26 (v0 :: .ref a2 :: .int x :: ls) st hp := ax_istore_n dX6_placePoint_25 (ax_lt (v := v2) rfl) (ab_nl_c1 (j := 1) (v := .ref a2) rfl (ab_c1_ref _)) rfl rfl
theorem sX6_placePoint_25n : ab_X rom K cX6_placePoint 4 0 25 (v0 :: .null :: v2 :: ls) (.int x :: st) hp = ab_X rom K cX6_placePoint 4 0 26 (v0 :: .null :: .int x :: ls) st hp := ax_istore_n dX6_placePoint_25 (ax_lt (v := v2) rfl) (ab_nl_c1 (j := 1) (v := .null) rfl ab_c1_null) rfl rfl
theorem dX6_placePoint_26 : decode cX6_placePoint 26 = .ok (.aload_n 0, 1) := by decide +kernel
theorem sX6_placePoint_26 : ab_X rom K cX6_placePoint 4 0 26 (.ref a :: ls) st hp = ab_X rom K cX6_placePoint 4 0 27 (.ref a :: ls) (.ref a :: st) hp := ax_aload_n dX6_placePoint_26 rfl rfl
theorem dX6_placePoint_27 : decode cX6_placePoint 27 = .ok (.getfield 50, 3) := by decide +kernel
theorem sX6_placePoint_27 : ab_X rom K cX6_placePoint 4 0 27 ls (.ref a :: st) hp = (ab_fld hp a 4 12).bind (fun v => ab_X rom K cX6_placePoint 4 0 30 ls (v :: st) hp) := ax_getfield dX6_placePoint_27 kf_4_50 rfl
theorem dX6_placePoint_30 : decode cX6_placePoint 30 = .ok (.ifCond .eq 11, 3) := by decide +kernel
theorem sX6_placePoint_30 : ab_X rom K cX6_placePoint 4 0 30 ls (.int x :: st) hp = if x = 0 then ab_X rom K cX6_placePoint 4 0 41 ls st hp else ab_X rom K cX6_placePoint 4 0 33 ls st hp := ax_if_eq dX6_placePoint_30 (by decide) rfl
theorem dX6_placePoint_33 : decode cX6_placePoint 33 = .ok (.iload_n 1, 1) := by decide +kernel
theorem sX6_placePoint_33 : ab_X rom K cX6_placePoint 4 0 33 (v0 :: .int x :: ls) st hp = ab_X rom K cX6_placePoint 4 0 34 (v0 :: .int x :: ls) (.int x :: st) hp := ax_iload_n dX6_placePoint_33 rfl rfl
theorem dX6_placePoint_34 : decode cX6_placePoint 34 = .ok (.ifCond .ne 7, 3) := by decide +kernel
theorem sX6_placePoint_34 : ab_X rom K cX6_placePoint 4 0 34 ls (.int x :: st) hp = if x = 0 then ab_X rom K cX6_placePoint 4 0 37 ls st hp else ab_X rom K cX6_placePoint 4 0 41 ls st hp := ax_if_ne dX6_placePoint_34 (by decide) rfl
theorem dX6_placePoint_37 : decode cX6_placePoint 37 = .ok (.iconst 0, 1) := by decide +kernel
theorem sX6_placePoint_37 : ab_X rom K cX6_placePoint 4 0 37 ls st hp = ab_X rom K cX6_placePoint 4 0 38 ls (.int 0 :: st) hp := ax_iconst dX6_placePoint_37 (by decide) rfl
theorem dX6_placePoint_38 : decode cX6_placePoint 38 = .ok (.goto 7, 3) := by decide +kernel
theorem sX6_placePoint_38 : ab_X rom K cX6_placePoint 4 0 38 ls st hp = ab_X rom K cX6_placePoint 4 0 45 ls st hp := ax_goto dX6_placePoint_38 (by decide)
theorem dX6_placePoint_41 : decode cX6_placePoint 41 = .ok (.aload_n 0, 1) := by decide +kernel
theorem sX6_placePoint_41 : ab_X rom K cX6_placePoint 4 0 41 (.ref a :: ls) st hp = ab_X rom K cX6_placePoint 4 0 42 (.ref a :: ls) (.ref a :: st) hp := ax_aload_n dX6_placePoint_41 rfl rfl
theorem dX6_placePoint_42 : decode cX6_placePoint 42 = .ok (.getfield 35, 3) := by decide +kernel
theorem sX6_placePoint_42 : ab_X rom K cX6_placePoint 4 0 42 ls (.ref a :: st) hp = (ab_fld hp a 4 7).bind (fun v => ab_X rom K cX6_placePoint 4 0 45 ls (v :: st) hp) := ax_getfield dX6_placePoint_42 kf_4_35 rfl
theorem dX6_placePoint_45 : decode cX6_placePoint 45 = .ok (.istore_n 3, 1) := by decide +kernel
theorem sX6_placePoint_45i : ab_X rom K cX6_placePoint 4 0 45 (v0 :: v1 :: .int y :: v3 :: ls) (.int x :: st) hp = ab_X rom K cX6_placePoint 4 0 46 (v0 :: v1 :: .int y :: .int x :: ls) st hp := ax_istore_n dX6_placePoint_45 (ax_lt (v := v3) rfl) (ab_nl_c1 (j := 2) (v := .int y) rfl (ab_c1_int _)) rfl rfl
theorem sX6_placePoint_45r : ab_X rom K cX6_placePoint 4 0 45 (v0 :: v1 :: .ref a2 :: v3 :: ls) (.int x :: st) hp = ab_X rom K cX6_placePoint 4 0 46 (v0 :: v1 :: .ref a2 :: .int x :: ls) st hp := ax_istore_n dX6_placePoint_45 (ax_lt (v := v3) rfl) (ab_nl_c1 (j := 2) (v := .ref a2) rfl (ab_c1_ref _)) rfl rfl
theorem sX6_placePoint_45n : ab_X rom K cX6_placePoint 4 0 45 (v0 :: v1 :: .null :: v3 :: ls) (.int x :: st) hp = ab_X rom K cX6_placePoint 4 0 46 (v0 :: v1 :: .null :: .int x :: ls) st hp := ax_istore_n dX6_placePoint_45 (ax_lt (v := v3) rfl) (ab_nl_c1 (j := 2) (v := .null) rfl ab_c1_null) rfl rfl
theorem dX6_placePoint_46 : decode cX6_placePoint 46 = .ok (.iconst 0, 1) := by decide +kernel
theorem sX6_placePoint_46 : ab_X rom K cX6_placePoint 4 0 46 ls st hp = ab_X rom K cX6_placePoint 4 0 47 ls (.int 0 :: st) hp := ax_iconst dX6_placePoint_46 (by decide) rfl
theorem dX6_placePoint_47 : decode cX6_placePoint 47 = .ok (.istore 4, 2) := by decide +kernel
theorem sX6_placePoint_47i : ab_X rom K cX6_placePoint 4 0 47 (v0 :: v1 :: v2 :: .int y :: v4 :: ls) (.int x :: st) hp = ab_X rom K cX6_placePoint 4 0 49 (v0 :: v1 :: v2 :: .int y :: .int x :: ls) st hp := ax_istore dX6_placePoint_47 (ax_lt (v := v4) rfl) (ab_nl_c1 (j := 3) (v := .int y) rfl (ab_c1_int _)) rfl rfl
theorem sX6_placePoint_47r : ab_X rom K cX6_placePoint 4 0 47 (v0 :: v1 :: v2 :: .ref a2 :: v4 :: ls) (.int x :: st) hp = ab_X rom K cX6_placePoint 4 0 49 (v0 :: v1 :: v2 :: .ref a2 :: .int x :: ls) st hp := ax_istore dX6_placePoint_47 (ax_lt (v := v4) rfl) (ab_nl_c1 (j := 3) (v := .ref a2) rfl (ab_c1_ref _)) rfl rfl
theorem sX6_placePoint_47n : ab_X rom K cX6_placePoint 4 0 47 (v0 :: v1 :: v2 :: .null :: v4 :: ls) (.int x :: st) hp = ab_X rom K cX6_placePoint 4 0 49 (v0 :: v1 :: v2 :: .null :: .int x :: ls) st hp := ax_istore dX6_placePoint_47 (ax_lt (v := v4) rfl) (ab_nl_c1 (j := 3) (v := .null) rfl ab_c1_null) rfl rfl
theorem dX6_placePoint_49 : decode cX6_placePoint 49 = .ok (.iload 4, 2) := by decide +kernel
theorem sX6_placePoint_49 : ab_X rom K cX6_placePoint 4 0 49 (v0 :: v1 :: v2 :: v3 :: .int x :: ls) st hp = ab_X rom K cX6_placePoint 4 0 51 (v0 :: v1 :: v2 :: v3 :: .int x :: ls) (.int x :: st) hp := ax_iload dX6_placePoint_49 rfl rfl
theorem dX6_placePoint_51 : decode cX6_placePoint 51 = .ok (.iload_n 3, 1) := by decide +kernel
theorem sX6_placePoint_51 : ab_X rom K cX6_placePoint 4 0 51 (v0 :: v1 :: v2 :: .int x :: ls) st hp = ab_X rom K cX6_placePoint 4 0 52 (v0 :: v1 :: v2 :: .int x :: ls) (.int x :: st) hp := ax_iload_n dX6_placePoint_51 rfl rfl
theorem dX6_placePoint_52 : decode cX6_placePoint 52 = .ok (.if_icmp .gt 60, 3) := by decide +kernel
theorem sX6_placePoint_52 : ab_X rom K cX6_placePoint 4 0 52 ls (.int y :: .int x :: st) hp = if y < x then ab_X rom K cX6_placePoint 4 0 112 ls st hp else ab_X rom K cX6_placePoint 4 0 55 ls st hp := ax_icmp_gt dX6_placePoint_52 (by decide) rfl
theorem dX6_placePoint_55 : decode cX6_placePoint 55 = .ok (.aload_n 0, 1) := by decide +kernel
theorem sX6_placePoint_55 : ab_X rom K cX6_placePoint 4 0 55 (.ref a :: ls) st hp = ab_X rom K cX6_placePoint 4 0 56 (.ref a :: ls) (.ref a :: st) hp := ax_aload_n dX6_placePoint_55 rfl rfl
theorem dX6_placePoint_56 : decode cX6_placePoint 56 = .ok (.getfield 57, 3) := by decide +kernel
theorem sX6_placePoint_56 : ab_X rom K cX6_placePoint 4 0 56 ls (.ref a :: st) hp = (ab_fld hp a 4 14).bind (fun v => ab_X rom K cX6_placePoint 4 0 59 ls (v :: st) hp) := ax_getfield dX6_placePoint_56 kf_4_57 rfl
theorem dX6_placePoint_59 : decode cX6_placePoint 59 = .ok (.ifCond .ne 53, 3) := by decide +kernel
theorem sX6_placePoint_59 : ab_X rom K cX6_placePoint 4 0 59 ls (.int x :: st) hp = if x = 0 then ab_X rom K cX6_placePoint 4 0 62 ls st hp else ab_X rom K cX6_placePoint 4 0 112 ls st hp := ax_if_ne dX6_placePoint_59 (by decide) rfl
theorem dX6_placePoint_62 : decode cX6_placePoint 62 = .ok (.aload_n 0, 1) := by decide +kernel
theorem sX6_placePoint_62 : ab_X rom K cX6_placePoint 4 0 62 (.ref a :: ls) st hp = ab_X rom K cX6_placePoint 4 0 63 (.ref a :: ls) (.ref a :: st) hp := ax_aload_n dX6_placePoint_62 rfl rfl
theorem dX6_placePoint_63 : decode cX6_placePoint 63 = .ok (.iload_n 2, 1) := by decide +kernel
theorem sX6_placePoint_63 : ab_X rom K cX6_placePoint 4 0 63 (v0 :: v1 :: .int x :: ls) st hp = ab_X rom K cX6_placePoint 4 0 64 (v0 :: v1 :: .int x :: ls) (.int x :: st) hp := ax_iload_n dX6_placePoint_63 rfl rfl
theorem dX6_placePoint_64 : decode cX6_placePoint 64 = .ok (.iload 4, 2) := by decide +kernel
theorem sX6_placePoint_64 : ab_X rom K cX6_placePoint 4 0 64 (v0 :: v1 :: v2 :: v3 :: .int x :: ls) st hp = ab_X rom K cX6_placePoint 4 0 66 (v0 :: v1 :: v2 :: v3 :: .int x :: ls) (.int x :: st) hp := ax_iload dX6_placePoint_64 rfl rfl
theorem dX6_placePoint_66 : decode cX6_placePoint 66 = .ok (.invokevirtual 124, 3) := by decide +kernel
theorem sX6_placePoint_66_0 : ab_X rom K cX6_placePoint 4 0 66 ls [w2, w1, .ref a] hp = if ab_iso hp a 4 = true then (K 74 (.ref a :: [w1, w2]) hp).bind (fun o => ab_X rom K cX6_placePoint 4 0 69 ls (o.1.toList ++ []) o.2) else none := ay_virtual (as := [w1, w2]) (st := []) dX6_placePoint_66 kc_4_124 rfl rfl (Nat.le_of_ble_eq_true rfl)
theorem sX6_placePoint_66_1 : ab_X rom K cX6_placePoint 4 0 66 ls [w2, w1, .ref a, v0] hp = if ab_iso hp a 4 = true then (K 74 (.ref a :: [w1, w2]) hp).bind (fun o => ab_X rom K cX6_placePoint 4 0 69 ls (o.1.toList ++ [v0]) o.2) else none := ay_virtual (as := [w1, w2]) (st := [v0]) dX6_placePoint_66 kc_4_124 rfl rfl (Nat.le_of_ble_eq_true rfl)
theorem sX6_placePoint_66_2 : ab_X rom K cX6_placePoint 4 0 66 ls [w2, w1, .ref a, v0, v1] hp = if ab_iso hp a 4 = true then (K 74 (.ref a :: [w1, w2]) hp).bind (fun o => ab_X rom K cX6_placePoint 4 0 69 ls (o.1.toList ++ [v0, v1]) o.2) else none := ay_virtual (as := [w1, w2]) (st := [v0, v1]) dX6_placePoint_66 kc_4_124 rfl rfl (Nat.le_of_ble_eq_true rfl)
theorem sX6_placePoint_66_3 : ab_X rom K cX6_placePoint 4 0 66 ls [w2, w1, .ref a, v0, v1, v2] hp = if ab_iso hp a 4 = true then (K 74 (.ref a :: [w1, w2]) hp).bind (fun o => ab_X rom K cX6_placePoint 4 0 69 ls (o.1.toList ++ [v0, v1, v2]) o.2) else none := ay_virtual (as := [w1, w2]) (st := [v0, v1, v2]) dX6_placePoint_66 kc_4_124 rfl rfl (Nat.le_of_ble_eq_true rfl)
theorem dX6_placePoint_69 : decode cX6_placePoint 69 = .ok (.istore 5, 2) := by decide +kernel
theorem sX6_placePoint_69i : ab_X rom K cX6_placePoint 4 0 69 (v0 :: v1 :: v2 :: v3 :: .int y :: v5 :: ls) (.int x :: st) hp = ab_X rom K cX6_placePoint 4 0 71 (v0 :: v1 :: v2 :: v3 :: .int y :: .int x :: ls) st hp := ax_istore dX6_placePoint_69 (ax_lt (v := v5) rfl) (ab_nl_c1 (j := 4) (v := .int y) rfl (ab_c1_int _)) rfl rfl
theorem sX6_placePoint_69r : ab_X rom K cX6_placePoint 4 0 69 (v0 :: v1 :: v2 :: v3 :: .ref a2 :: v5 :: ls) (.int x :: st) hp = ab_X rom K cX6_placePoint 4 0 71 (v0 :: v1 :: v2 :: v3 :: .ref a2 :: .int x :: ls) st hp := ax_istore dX6_placePoint_69 (ax_lt (v := v5) rfl) (ab_nl_c1 (j := 4) (v := .ref a2) rfl (ab_c1_ref _)) rfl rfl
theorem sX6_placePoint_69n : ab_X rom K cX6_placePoint 4 0 69 (v0 :: v1 :: v2 :: v3 :: .null :: v5 :: ls) (.int x :: st) hp = ab_X rom K cX6_placePoint 4 0 71 (v0 :: v1 :: v2 :: v3 :: .null :: .int x :: ls) st hp := ax_istore dX6_placePoint_69 (ax_lt (v := v5) rfl) (ab_nl_c1 (j := 4) (v := .null) rfl ab_c1_null) rfl rfl
theorem dX6_placePoint_71 : decode cX6_placePoint 71 = .ok (.iload 5, 2) := by decide +kernel
theorem sX6_placePoint_71 : ab_X rom K cX6_placePoint 4 0 71 (v0 :: v1 :: v2 :: v3 :: v4 :: .int x :: ls) st hp = ab_X rom K cX6_placePoint 4 0 73 (v0 :: v1 :: v2 :: v3 :: v4 :: .int x :: ls) (.int x :: st) hp := ax_iload dX6_placePoint_71 rfl rfl
theorem dX6_placePoint_73 : decode cX6_placePoint 73 = .ok (.iconst (-1), 1) := by decide +kernel
theorem sX6_placePoint_73 : ab_X rom K cX6_placePoint 4 0 73 ls st hp = ab_X rom K cX6_placePoint 4 0 74 ls (.int (-1) :: st) hp := ax_iconst dX6_placePoint_73 (by decide) rfl
theorem dX6_placePoint_74 : decode cX6_placePoint 74 = .ok (.if_icmp .eq 32, 3) := by decide +kernel
theorem sX6_placePoint_74 : ab_X rom K cX6_placePoint 4 0 74 ls (.int y :: .int x :: st) hp = if x = y then ab_X rom K cX6_placePoint 4 0 106 ls st hp else ab_X rom K cX6_placePoint 4 0 77 ls st hp := ax_icmp_eq dX6_placePoint_74 (by decide) rfl
theorem dX6_placePoint_77 : decode cX6_placePoint 77 = .ok (.aload_n 0, 1) := by decide +kernel
theorem sX6_placePoint_77 : ab_X rom K cX6_placePoint 4 0 77 (.ref a :: ls) st hp = ab_X rom K cX6_placePoint 4 0 78 (.ref a :: ls) (.ref a :: st) hp := ax_aload_n dX6_placePoint_77 rfl rfl
theorem dX6_placePoint_78 : decode cX6_placePoint 78 = .ok (.getfield 44, 3) := by decide +kernel
theorem sX6_placePoint_78 : ab_X rom K cX6_placePoint 4 0 78 ls (.ref a :: st) hp = (ab_fld hp a 4 10).bind (fun v => ab_X rom K cX6_placePoint 4 0 81 ls (v :: st) hp) := ax_getfield dX6_placePoint_78 kf_4_44 rfl
theorem dX6_placePoint_81 : decode cX6_placePoint 81 = .ok (.istore 6, 2) := by decide +kernel
theorem sX6_placePoint_81i : ab_X rom K cX6_placePoint 4 0 81 (v0 :: v1 :: v2 :: v3 :: v4 :: .int y :: v6 :: ls) (.int x :: st) hp = ab_X rom K cX6_placePoint 4 0 83 (v0 :: v1 :: v2 :: v3 :: v4 :: .int y :: .int x :: ls) st hp := ax_istore dX6_placePoint_81 (ax_lt (v := v6) rfl) (ab_nl_c1 (j := 5) (v := .int y) rfl (ab_c1_int _)) rfl rfl
theorem sX6_placePoint_81r : ab_X rom K cX6_placePoint 4 0 81 (v0 :: v1 :: v2 :: v3 :: v4 :: .ref a2 :: v6 :: ls) (.int x :: st) hp = ab_X rom K cX6_placePoint 4 0 83 (v0 :: v1 :: v2 :: v3 :: v4 :: .ref a2 :: .int x :: ls) st hp := ax_istore dX6_placePoint_81 (ax_lt (v := v6) rfl) (ab_nl_c1 (j := 5) (v := .ref a2) rfl (ab_c1_ref _)) rfl rfl
theorem sX6_placePoint_81n : ab_X rom K cX6_placePoint 4 0 81 (v0 :: v1 :: v2 :: v3 :: v4 :: .null :: v6 :: ls) (.int x :: st) hp = ab_X rom K cX6_placePoint 4 0 83 (v0 :: v1 :: v2 :: v3 :: v4 :: .null :: .int x :: ls) st hp := ax_istore dX6_placePoint_81 (ax_lt (v := v6) rfl) (ab_nl_c1 (j := 5) (v := .null) rfl ab_c1_null) rfl rfl
theorem dX6_placePoint_83 : decode cX6_placePoint 83 = .ok (.aload_n 0, 1) := by decide +kernel
theorem sX6_placePoint_83 : ab_X rom K cX6_placePoint 4 0 83 (.ref a :: ls) st hp = ab_X rom K cX6_placePoint 4 0 84 (.ref a :: ls) (.ref a :: st) hp := ax_aload_n dX6_placePoint_83 rfl rfl
theorem dX6_placePoint_84 : decode cX6_placePoint 84 = .ok (.iload_n 2, 1) := by decide +kernel
theorem sX6_placePoint_84 : ab_X rom K cX6_placePoint 4 0 84 (v0 :: v1 :: .int x :: ls) st hp = ab_X rom K cX6_placePoint 4 0 85 (v0 :: v1 :: .int x :: ls) (.int x :: st) hp := ax_iload_n dX6_placePoint_84 rfl rfl
theorem dX6_placePoint_85 : decode cX6_placePoint 85 = .ok (.iload 4, 2) := by decide +kernel
theorem sX6_placePoint_85 : ab_X rom K cX6_placePoint 4 0 85 (v0 :: v1 :: v2 :: v3 :: .int x :: ls) st hp = ab_X rom K cX6_placePoint 4 0 87 (v0 :: v1 :: v2 :: v3 :: .int x :: ls) (.int x :: st) hp := ax_iload dX6_placePoint_85 rfl rfl
theorem dX6_placePoint_87 : decode cX6_placePoint 87 = .ok (.iload 5, 2) := by decide +kernel
theorem sX6_placePoint_87 : ab_X rom K cX6_placePoint 4 0 87 (v0 :: v1 :: v2 :: v3 :: v4 :: .int x :: ls) st hp = ab_X rom K cX6_placePoint 4 0 89 (v0 :: v1 :: v2 :: v3 :: v4 :: .int x :: ls) (.int x :: st) hp := ax_iload dX6_placePoint_87 rfl rfl
theorem dX6_placePoint_89 : decode cX6_placePoint 89 = .ok (.invokevirtual 127, 3) := by decide +kernel
theorem sX6_placePoint_89_0 : ab_X rom K cX6_placePoint 4 0 89 ls [w3, w2, w1, .ref a] hp = if ab_iso hp a 4 = true then (K 68 (.ref a :: [w1, w2, w3]) hp).bind (fun o => ab_X rom K cX6_placePoint 4 0 92 ls (o.1.toList ++ []) o.2) else none := ay_virtual (as := [w1, w2, w3]) (st := []) dX6_placePoint_89 kc_4_127 rfl rfl (Nat.le_of_ble_eq_true rfl)
theorem sX6_placePoint_89_1 : ab_X rom K cX6_placePoint 4 0 89 ls [w3, w2, w1, .ref a, v0] hp = if ab_iso hp a 4 = true then (K 68 (.ref a :: [w1, w2, w3]) hp).bind (fun o => ab_X rom K cX6_placePoint 4 0 92 ls (o.1.toList ++ [v0]) o.2) else none := ay_virtual (as := [w1, w2, w3]) (st := [v0]) dX6_placePoint_89 kc_4_127 rfl rfl (Nat.le_of_ble_eq_true rfl)
theorem sX6_placePoint_89_2 : ab_X rom K cX6_placePoint 4 0 89 ls [w3, w2, w1, .ref a, v0, v1] hp = if ab_iso hp a 4 = true then (K 68 (.ref a :: [w1, w2, w3]) hp).bind (fun o => ab_X rom K cX6_placePoint 4 0 92 ls (o.1.toList ++ [v0, v1]) o.2) else none := ay_virtual (as := [w1, w2, w3]) (st := [v0, v1]) dX6_placePoint_89 kc_4_127 rfl rfl (Nat.le_of_ble_eq_true rfl)
theorem sX6_placePoint_89_3 : ab_X rom K cX6_placePoint 4 0 89 ls [w3, w2, w1, .ref a, v0, v1, v2] hp = if ab_iso hp a 4 = true then (K 68 (.ref a :: [w1, w2, w3]) hp).bind (fun o => ab_X rom K cX6_placePoint 4 0 92 ls (o.1.toList ++ [v0, v1, v2]) o.2) else none := ay_virtual (as := [w1, w2, w3]) (st := [v0, v1, v2]) dX6_placePoint_89 kc_4_127 rfl rfl (Nat.le_of_ble_eq_true rfl)
theorem dX6_placePoint_92 : decode cX6_placePoint 92 = .ok (.aload_n 0, 1) := by decide +kernel
theorem sX6_placePoint_92 : ab_X rom K cX6_placePoint 4 0 92 (.ref a :: ls) st hp = ab_X rom K cX6_placePoint 4 0 93 (.ref a :: ls) (.ref a :: st) hp := ax_aload_n dX6_placePoint_92 rfl rfl
theorem dX6_placePoint_93 : decode cX6_placePoint 93 = .ok (.iload_n 1, 1) := by decide +kernel
theorem sX6_placePoint_93 : ab_X rom K cX6_placePoint 4 0 93 (v0 :: .int x :: ls) st hp = ab_X rom K cX6_placePoint 4 0 94 (v0 :: .int x :: ls) (.int x :: st) hp := ax_iload_n dX6_placePoint_93 rfl rfl
theorem dX6_placePoint_94 : decode cX6_placePoint 94 = .ok (.iconst 1, 1) := by decide +kernel
theorem sX6_placePoint_94 : ab_X rom K cX6_placePoint 4 0 94 ls st hp = ab_X rom K cX6_placePoint 4 0 95 ls (.int 1 :: st) hp := ax_iconst dX6_placePoint_94 (by decide) rfl
theorem dX6_placePoint_95 : decode cX6_placePoint 95 = .ok (.iadd, 1) := by decide +kernel
theorem sX6_placePoint_95 : ab_X rom K cX6_placePoint 4 0 95 ls (.int y :: .int x :: st) hp = ab_X rom K cX6_placePoint 4 0 96 ls (.int (x + y) :: st) hp := ax_iadd dX6_placePoint_95 rfl
theorem dX6_placePoint_96 : decode cX6_placePoint 96 = .ok (.invokestatic 98, 3) := by decide +kernel
theorem sX6_placePoint_96_0 : ab_X rom K cX6_placePoint 4 0 96 ls [w2, w1] hp = (K 67 [w1, w2] hp).bind (fun o => ab_X rom K cX6_placePoint 4 0 99 ls (o.1.toList ++ []) o.2) := ax_static (as := [w1, w2]) (st := []) dX6_placePoint_96 kc_4_98 rfl rfl (Nat.le_of_ble_eq_true rfl)
theorem sX6_placePoint_96_1 : ab_X rom K cX6_placePoint 4 0 96 ls [w2, w1, v0] hp = (K 67 [w1, w2] hp).bind (fun o => ab_X rom K cX6_placePoint 4 0 99 ls (o.1.toList ++ [v0]) o.2) := ax_static (as := [w1, w2]) (st := [v0]) dX6_placePoint_96 kc_4_98 rfl rfl (Nat.le_of_ble_eq_true rfl)
theorem sX6_placePoint_96_2 : ab_X rom K cX6_placePoint 4 0 96 ls [w2, w1, v0, v1] hp = (K 67 [w1, w2] hp).bind (fun o => ab_X rom K cX6_placePoint 4 0 99 ls (o.1.toList ++ [v0, v1]) o.2) := ax_static (as := [w1, w2]) (st := [v0, v1]) dX6_placePoint_96 kc_4_98 rfl rfl (Nat.le_of_ble_eq_true rfl)
theorem sX6_placePoint_96_3 : ab_X rom K cX6_placePoint 4 0 96 ls [w2, w1, v0, v1, v2] hp = (K 67 [w1, w2] hp).bind (fun o => ab_X rom K cX6_placePoint 4 0 99 ls (o.1.toList ++ [v0, v1, v2]) o.2) := ax_static (as := [w1, w2]) (st := [v0, v1, v2]) dX6_placePoint_96 kc_4_98 rfl rfl (Nat.le_of_ble_eq_true rfl)
theorem dX6_placePoint_99 : decode cX6_placePoint 99 = .ok (.aload_n 0, 1) := by decide +kernel
theorem sX6_placePoint_99 : ab_X rom K cX6_placePoint 4 0 99 (.ref a :: ls) st hp = ab_X rom K cX6_placePoint 4 0 100 (.ref a :: ls) (.ref a :: st) hp := ax_aload_n dX6_placePoint_99 rfl rfl
theorem dX6_placePoint_100 : decode cX6_placePoint 100 = .ok (.iload_n 2, 1) := by decide +kernel
theorem sX6_placePoint_100 : ab_X rom K cX6_placePoint 4 0 100 (v0 :: v1 :: .int x :: ls) st hp = ab_X rom K cX6_placePoint 4 0 101 (v0 :: v1 :: .int x :: ls) (.int x :: st) hp := ax_iload_n dX6_placePoint_100 rfl rfl
theorem dX6_placePoint_101 : decode cX6_placePoint 101 = .ok (.iload 6, 2) := by decide +kernel
theorem sX6_placePoint_101 : ab_X rom K cX6_placePoint 4 0 101 (v0 :: v1 :: v2 :: v3 :: v4 :: v5 :: .int x :: ls) st hp = ab_X rom K cX6_placePoint 4 0 103 (v0 :: v1 :: v2 :: v3 :: v4 :: v5 :: .int x :: ls) (.int x :: st) hp := ax_iload dX6_placePoint_101 rfl rfl
theorem dX6_placePoint_103 : decode cX6_placePoint 103 = .ok (.invokevirtual 154, 3) := by decide +kernel
theorem sX6_placePoint_103_0 : ab_X rom K cX6_placePoint 4 0 103 ls [w2, w1, .ref a] hp = if ab_iso hp a 4 = true then (K 72 (.ref a :: [w1, w2]) hp).bind (fun o => ab_X rom K cX6_placePoint 4 0 106 ls (o.1.toList ++ []) o.2) else none := ay_virtual (as := [w1, w2]) (st := []) dX6_placePoint_103 kc_4_154 rfl rfl (Nat.le_of_ble_eq_true rfl)
theorem sX6_placePoint_103_1 : ab_X rom K cX6_placePoint 4 0 103 ls [w2, w1, .ref a, v0] hp = if ab_iso hp a 4 = true then (K 72 (.ref a :: [w1, w2]) hp).bind (fun o => ab_X rom K cX6_placePoint 4 0 106 ls (o.1.toList ++ [v0]) o.2) else none := ay_virtual (as := [w1, w2]) (st := [v0]) dX6_placePoint_103 kc_4_154 rfl rfl (Nat.le_of_ble_eq_true rfl)
theorem sX6_placePoint_103_2 : ab_X rom K cX6_placePoint 4 0 103 ls [w2, w1, .ref a, v0, v1] hp = if ab_iso hp a 4 = true then (K 72 (.ref a :: [w1, w2]) hp).bind (fun o => ab_X rom K cX6_placePoint 4 0 106 ls (o.1.toList ++ [v0, v1]) o.2) else none := ay_virtual (as := [w1, w2]) (st := [v0, v1]) dX6_placePoint_103 kc_4_154 rfl rfl (Nat.le_of_ble_eq_true rfl)
theorem sX6_placePoint_103_3 : ab_X rom K cX6_placePoint 4 0 103 ls [w2, w1, .ref a, v0, v1, v2] hp = if ab_iso hp a 4 = true then (K 72 (.ref a :: [w1, w2]) hp).bind (fun o => ab_X rom K cX6_placePoint 4 0 106 ls (o.1.toList ++ [v0, v1, v2]) o.2) else none := ay_virtual (as := [w1, w2]) (st := [v0, v1, v2]) dX6_placePoint_103 kc_4_154 rfl rfl (Nat.le_of_ble_eq_true rfl)
theorem dX6_placePoint_106 : decode cX6_placePoint 106 = .ok (.iinc 4 1, 3) := by decide +kernel
theorem sX6_placePoint_106i : ab_X rom K cX6_placePoint 4 0 106 (v0 :: v1 :: v2 :: .int y :: .int x :: ls) st hp = ab_X rom K cX6_placePoint 4 0 109 (v0 :: v1 :: v2 :: .int y :: .int (x + 1) :: ls) st hp := ax_iinc dX6_placePoint_106 rfl (ab_nl_c1 (j := 3) (v := .int y) rfl (ab_c1_int _)) (by decide) rfl rfl
theorem sX6_placePoint_106r : ab_X rom K cX6_placePoint 4 0 106 (v0 :: v1 :: v2 :: .ref a2 :: .int x :: ls) st hp = ab_X rom K cX6_placePoint 4 0 109 (v0 :: v1 :: v2 :: .ref a2 :: .int (x + 1) :: ls) st hp := ax_iinc dX6_placePoint_106 rfl (ab_nl_c1 (j := 3) (v := .ref a2) rfl (ab_c1_ref _)) (by decide) rfl rfl
theorem sX6_placePoint_106n : ab_X rom K cX6_placePoint 4 0 106 (v0 :: v1 :: v2 :: .null :: .int x :: ls) st hp = ab_X rom K cX6_placePoint 4 0 109 (v0 :: v1 :: v2 :: .null :: .int (x + 1) :: ls) st hp := ax_iinc dX6_placePoint_106 rfl (ab_nl_c1 (j := 3) (v := .null) rfl ab_c1_null) (by decide) rfl rfl
theorem dX6_placePoint_109 : decode cX6_placePoint 109 = .ok (.goto (-60), 3) := by decide +kernel
theorem sX6_placePoint_109 : ab_X rom K cX6_placePoint 4 0 109 ls st hp = ab_X rom K cX6_placePoint 4 0 49 ls st hp := ax_goto dX6_placePoint_109 (by decide)
theorem dX6_placePoint_112 : decode cX6_placePoint 112 = .ok (.return_, 1) := by decide +kernel
theorem sX6_placePoint_112 : ab_X rom K cX6_placePoint 4 0 112 ls [] hp = some (none, hp) := ax_vret dX6_placePoint_112 (by decide)
theorem tX6_put : ab_mT[68]? = some (yX6_put, cX6_put, 4, 0, 4) := by decide +kernel
theorem mX6_put {d : Nat} {a0 : Nat} {x0 : Int32} {x1 : Int32} {x2 : Int32} : ab_M rom (d + 1) 68 [.ref a0, .int x0, .int x1, .int x2] hp = ab_X rom (ab_M rom d) cX6_put 4 0 0 [.ref a0, .int x0, .int x1, .int x2] [] hp := ab_M_eq tX6_put (Nat.le_of_ble_eq_true rfl)
theorem dX6_put_0 : decode cX6_put 0 = .ok (.aload_n 0, 1) := by decide +kernel
theorem sX6_put_0 : ab_X rom K cX6_put 4 0 0 (.ref a :: ls) st hp = ab_X rom K cX6_put 4 0 1 (.ref a :: ls) (.ref a :: st) hp := ax_aload_n dX6_put_0 rfl rfl
theorem dX6_put_1 : decode cX6_put 1 = .ok (.getfield 22, 3) := by decide +kernel
theorem sX6_put_1 : ab_X rom K cX6_put 4 0 1 ls (.ref a :: st) hp = (ab_fld hp a 4 2).bind (fun v => ab_X rom K cX6_put 4 0 4 ls (v :: st) hp) := ax_getfield dX6_put_1 kf_4_22 rfl
theorem dX6_put_4 : decode cX6_put 4 = .ok (.iload_n 2, 1) := by decide +kernel
theorem sX6_put_4 : ab_X rom K cX6_put 4 0 4 (v0 :: v1 :: .int x :: ls) st hp = ab_X rom K cX6_put 4 0 5 (v0 :: v1 :: .int x :: ls) (.int x :: st) hp := ax_iload_n dX6_put_4 rfl rfl
theorem dX6_put_5 : decode cX6_put 5 = .ok (.iaload, 1) := by decide +kernel
theorem sX6_put_5 : ab_X rom K cX6_put 4 0 5 ls (.int x :: .ref a :: st) hp = (ab_ard rom 0 hp a x).bind (fun v => ab_X rom K cX6_put 4 0 6 ls (.int v :: st) hp) := ax_iaload dX6_put_5 rfl
theorem dX6_put_6 : decode cX6_put 6 = .ok (.ifCond .le 13, 3) := by decide +kernel
theorem sX6_put_6 : ab_X rom K cX6_put 4 0 6 ls (.int x :: st) hp = if 0 < x then ab_X rom K cX6_put 4 0 9 ls st hp else ab_X rom K cX6_put 4 0 19 ls st hp := ax_if_le dX6_put_6 (by decide) rfl
theorem dX6_put_9 : decode cX6_put 9 = .ok (.aload_n 0, 1) := by decide +kernel
theorem sX6_put_9 : ab_X rom K cX6_put 4 0 9 (.ref a :: ls) st hp = ab_X rom K cX6_put 4 0 10 (.ref a :: ls) (.ref a :: st) hp := ax_aload_n dX6_put_9 rfl rfl
theorem dX6_put_10 : decode cX6_put 10 = .ok (.dup, 1) := by decide +kernel
theorem sX6_put_10i : ab_X rom K cX6_put 4 0 10 ls (.int x :: st) hp = ab_X rom K cX6_put 4 0 11 ls (.int x :: .int x :: st) hp := ax_dup dX6_put_10 rfl (ab_c1_int _)
theorem sX6_put_10r : ab_X rom K cX6_put 4 0 10 ls (.ref a :: st) hp = ab_X rom K cX6_put 4 0 11 ls (.ref a :: .ref a :: st) hp := ax_dup dX6_put_10 rfl (ab_c1_ref _)
theorem dX6_put_11 : decode cX6_put 11 = .ok (.getfield 38, 3) := by decide +kernel
theorem sX6_put_11 : ab_X rom K cX6_put 4 0 11 ls (.ref a :: st) hp = (ab_fld hp a 4 8).bind (fun v => ab_X rom K cX6_put 4 0 14 ls (v :: st) hp) := ax_getfield dX6_put_11 kf_4_38 rfl
theorem dX6_put_14 : decode cX6_put 14 = .ok (.iconst 1, 1) := by decide +kernel
theorem sX6_put_14 : ab_X rom K cX6_put 4 0 14 ls st hp = ab_X rom K cX6_put 4 0 15 ls (.int 1 :: st) hp := ax_iconst dX6_put_14 (by decide) rfl
theorem dX6_put_15 : decode cX6_put 15 = .ok (.iadd, 1) := by decide +kernel
theorem sX6_put_15 : ab_X rom K cX6_put 4 0 15 ls (.int y :: .int x :: st) hp = ab_X rom K cX6_put 4 0 16 ls (.int (x + y) :: st) hp := ax_iadd dX6_put_15 rfl
theorem dX6_put_16 : decode cX6_put 16 = .ok (.putfield 38, 3) := by decide +kernel
theorem sX6_put_16 : ab_X rom K cX6_put 4 0 16 ls (.int x :: .ref a :: st) hp = (ab_fpt hp a 4 8 (.int x)).bind (fun hp' => ab_X rom K cX6_put 4 0 19 ls st hp') := ax_putfield dX6_put_16 kf_4_38 rfl (Or.inl rfl) rfl
theorem dX6_put_19 : decode cX6_put 19 = .ok (.aload_n 0, 1) := by decide +kernel
theorem sX6_put_19 : ab_X rom K cX6_put 4 0 19 (.ref a :: ls) st hp = ab_X rom K cX6_put 4 0 20 (.ref a :: ls) (.ref a :: st) hp := ax_aload_n dX6_put_19 rfl rfl
theorem dX6_put_20 : decode cX6_put 20 = .ok (.getfield 22, 3) := by decide +kernel
theorem sX6_put_20 : ab_X rom K cX6_put 4 0 20 ls (.ref a :: st) hp = (ab_fld hp a 4 2).bind (fun v => ab_X rom K cX6_put 4 0 23 ls (v :: st) hp) := ax_getfield dX6_put_20 kf_4_22 rfl
theorem dX6_put_23 : decode cX6_put 23 = .ok (.iload_n 2, 1) := by decide +kernel
theorem sX6_put_23 : ab_X rom K cX6_put 4 0 23 (v0 :: v1 :: .int x :: ls) st hp = ab_X rom K cX6_put 4 0 24 (v0 :: v1 :: .int x :: ls) (.int x :: st) hp := ax_iload_n dX6_put_23 rfl rfl
theorem dX6_put_24 : decode cX6_put 24 = .ok (.dup2, 1) := by decide +kernel
theorem sX6_put_24 : ab_X rom K cX6_put 4 0 24 ls (.int x :: .ref a :: st) hp = ab_X rom K cX6_put 4 0 25 ls (.int x :: .ref a :: .int x :: .ref a :: st) hp := ax_dup2 dX6_put_24 rfl (ab_c1_int _) (ab_c1_ref _)
theorem dX6_put_25 : decode cX6_put 25 = .ok (.iaload, 1) := by decide +kernel
theorem sX6_put_25 : ab_X rom K cX6_put 4 0 25 ls (.int x :: .ref a :: st) hp = (ab_ard rom 0 hp a x).bind (fun v => ab_X rom K cX6_put 4 0 26 ls (.int v :: st) hp) := ax_iaload dX6_put_25 rfl
theorem dX6_put_26 : decode cX6_put 26 = .ok (.iconst 1, 1) := by decide +kernel
theorem sX6_put_26 : ab_X rom K cX6_put 4 0 26 ls st hp = ab_X rom K cX6_put 4 0 27 ls (.int 1 :: st) hp := ax_iconst dX6_put_26 (by decide) rfl
theorem dX6_put_27 : decode cX6_put 27 = .ok (.iadd, 1) := by decide +kernel
theorem sX6_put_27 : ab_X rom K cX6_put 4 0 27 ls (.int y :: .int x :: st) hp = ab_X rom K cX6_put 4 0 28 ls (.int (x + y) :: st) hp := ax_iadd dX6_put_27 rfl
theorem dX6_put_28 : decode cX6_put 28 = .ok (.iastore, 1) := by decide +kernel
theorem sX6_put_28 : ab_X rom K cX6_put 4 0 28 ls (.int y :: .int x :: .ref a :: st) hp = (ab_awr 0 hp a x y).bind (fun hp' => ab_X rom K cX6_put 4 0 29 ls st hp') := ax_iastore dX6_put_28 rfl
theorem dX6_put_29 : decode cX6_put 29 = .ok (.aload_n 0, 1) := by decide +kernel
theorem sX6_put_29 : ab_X rom K cX6_put 4 0 29 (.ref a :: ls) st hp = ab_X rom K cX6_put 4 0 30 (.ref a :: ls) (.ref a :: st) hp := ax_aload_n dX6_put_29 rfl rfl
theorem dX6_put_30 : decode cX6_put 30 = .ok (.getfield 18, 3) := by decide +kernel
theorem sX6_put_30 : ab_X rom K cX6_put 4 0 30 ls (.ref a :: st) hp = (ab_fld hp a 4 1).bind (fun v => ab_X rom K cX6_put 4 0 33 ls (v :: st) hp) := ax_getfield dX6_put_30 kf_4_18 rfl
theorem dX6_put_33 : decode cX6_put 33 = .ok (.iload_n 1, 1) := by decide +kernel
theorem sX6_put_33 : ab_X rom K cX6_put 4 0 33 (v0 :: .int x :: ls) st hp = ab_X rom K cX6_put 4 0 34 (v0 :: .int x :: ls) (.int x :: st) hp := ax_iload_n dX6_put_33 rfl rfl
theorem dX6_put_34 : decode cX6_put 34 = .ok (.iload_n 2, 1) := by decide +kernel
theorem sX6_put_34 : ab_X rom K cX6_put 4 0 34 (v0 :: v1 :: .int x :: ls) st hp = ab_X rom K cX6_put 4 0 35 (v0 :: v1 :: .int x :: ls) (.int x :: st) hp := ax_iload_n dX6_put_34 rfl rfl
theorem dX6_put_35 : decode cX6_put 35 = .ok (.iastore, 1) := by decide +kernel
theorem sX6_put_35 : ab_X rom K cX6_put 4 0 35 ls (.int y :: .int x :: .ref a :: st) hp = (ab_awr 0 hp a x y).bind (fun hp' => ab_X rom K cX6_put 4 0 36 ls st hp') := ax_iastore dX6_put_35 rfl
theorem dX6_put_36 : decode cX6_put 36 = .ok (.aload_n 0, 1) := by decide +kernel
theorem sX6_put_36 : ab_X rom K cX6_put 4 0 36 (.ref a :: ls) st hp = ab_X rom K cX6_put 4 0 37 (.ref a :: ls) (.ref a :: st) hp := ax_aload_n dX6_put_36 rfl rfl
theorem dX6_put_37 : decode cX6_put 37 = .ok (.iload_n 3, 1) := by decide +kernel
theorem sX6_put_37 : ab_X rom K cX6_put 4 0 37 (v0 :: v1 :: v2 :: .int x :: ls) st hp = ab_X rom K cX6_put 4 0 38 (v0 :: v1 :: v2 :: .int x :: ls) (.int x :: st) hp := ax_iload_n dX6_put_37 rfl rfl
theorem dX6_put_38 : decode cX6_put 38 = .ok (.putfield 44, 3) := by decide +kernel
theorem sX6_put_38 : ab_X rom K cX6_put 4 0 38 ls (.int x :: .ref a :: st) hp = (ab_fpt hp a 4 10 (.int x)).bind (fun hp' => ab_X rom K cX6_put 4 0 41 ls st hp') := ax_putfield dX6_put_38 kf_4_44 rfl (Or.inl rfl) rfl
theorem dX6_put_41 : decode cX6_put 41 = .ok (.return_, 1) := by decide +kernel
theorem sX6_put_41 : ab_X rom K cX6_put 4 0 41 ls [] hp = some (none, hp) := ax_vret dX6_put_41 (by decide)
end
